/-! the model's reader: its state in the heap -/
def yF (F : Nat → Int32) (nt fr : Nat) (tk vl en : Int32) (N o w : Nat) : Nat → Int32 := fun k => if k = 8 then nI nt else if k = 9 then nI fr else if k = 10 then tk else if k = 11 then vl else if k = 12 then en else if k = 17 then nI N else if k = 18 then nI o else if k = 20 then nI w else F k
def yA (A : Nat → Nat → Int32) (cd wt ts : Nat → Int32) : Nat → Nat → Int32 := fun a => if a = 131 then cd else if a = 132 then wt else if a = 133 then ts else A a
/-- next, from, token, value, ended, codes, atoms, held; code, waits, tested -/
def YH (h : AH) (M : MS) (K : (Nat → Int32) × (Nat → Int32)) (g : Nat → Int32) (nt fr : Nat) (tk vl en : Int32) (N o w : Nat) (cd wt ts : Nat → Int32) : AH := MG h (yF M.1 nt fr tk vl en N o w, yA M.2 cd wt ts) K g
section YY
variable {d : Nat} {h : AH} {nx : AN} {M : MS} {K : (Nat → Int32) × (Nat → Int32)} {g cd wt ts B : Nat → Int32} {nt fr N o w n a p k : Nat} {tk vl en x y q : Int32} {l1 l2 l3 l4 : Value}
theorem kY : ck (YH h M K g nt fr tk vl en N o w cd wt ts) 123 9 = true := rfl
theorem gY0 : gF (YH h M K g nt fr tk vl en N o w cd wt ts) 123 9 0 = some (.ref 124) := rfl
theorem gY6 : gF (YH h M K g nt fr tk vl en N o w cd wt ts) 123 9 6 = some (.ref 128) := rfl
theorem gY7 : gF (YH h M K g nt fr tk vl en N o w cd wt ts) 123 9 7 = some (.int (M.1 7)) := rfl
theorem gY8 : gF (YH h M K g nt fr tk vl en N o w cd wt ts) 123 9 8 = some (.int (nI nt)) := rfl
theorem gY9 : gF (YH h M K g nt fr tk vl en N o w cd wt ts) 123 9 9 = some (.int (nI fr)) := rfl
theorem gY10 : gF (YH h M K g nt fr tk vl en N o w cd wt ts) 123 9 10 = some (.int tk) := rfl
theorem gY11 : gF (YH h M K g nt fr tk vl en N o w cd wt ts) 123 9 11 = some (.int vl) := rfl
theorem gY12 : gF (YH h M K g nt fr tk vl en N o w cd wt ts) 123 9 12 = some (.int en) := rfl
theorem gY13 : gF (YH h M K g nt fr tk vl en N o w cd wt ts) 123 9 13 = some (.int (M.1 13)) := rfl
theorem gY14 : gF (YH h M K g nt fr tk vl en N o w cd wt ts) 123 9 14 = some (.ref 129) := rfl
theorem gY15 : gF (YH h M K g nt fr tk vl en N o w cd wt ts) 123 9 15 = some (.ref 130) := rfl
theorem gY16 : gF (YH h M K g nt fr tk vl en N o w cd wt ts) 123 9 16 = some (.ref 131) := rfl
theorem gY17 : gF (YH h M K g nt fr tk vl en N o w cd wt ts) 123 9 17 = some (.int (nI N)) := rfl
theorem gY18 : gF (YH h M K g nt fr tk vl en N o w cd wt ts) 123 9 18 = some (.int (nI o)) := rfl
theorem gY19 : gF (YH h M K g nt fr tk vl en N o w cd wt ts) 123 9 19 = some (.ref 132) := rfl
theorem gY20 : gF (YH h M K g nt fr tk vl en N o w cd wt ts) 123 9 20 = some (.int (nI w)) := rfl
theorem gY21 : gF (YH h M K g nt fr tk vl en N o w cd wt ts) 123 9 21 = some (.ref 133) := rfl
theorem qY8 : pF (YH h M K g nt fr tk vl en N o w cd wt ts) 123 9 8 (.int (nI k)) = some (YH h M K g k fr tk vl en N o w cd wt ts) := by
  have e : pF (YH h M K g nt fr tk vl en N o w cd wt ts) 123 9 8 (.int (nI k)) = some (put (YH h M K g nt fr tk vl en N o w cd wt ts) 123 (mOb (upd (yF M.1 nt fr tk vl en N o w) 8 (nI k)))) := rfl
  have e2 : upd (yF M.1 nt fr tk vl en N o w) 8 (nI k) = yF M.1 k fr tk vl en N o w := by
    funext j
    unfold upd yF
    by_cases c : j = 8
    · subst c; rfl
    · simp only [if_neg c]
  rw [e]
  unfold YH MG
  rw [put_MO, e2]
theorem qY9 : pF (YH h M K g nt fr tk vl en N o w cd wt ts) 123 9 9 (.int (nI k)) = some (YH h M K g nt k tk vl en N o w cd wt ts) := by
  have e : pF (YH h M K g nt fr tk vl en N o w cd wt ts) 123 9 9 (.int (nI k)) = some (put (YH h M K g nt fr tk vl en N o w cd wt ts) 123 (mOb (upd (yF M.1 nt fr tk vl en N o w) 9 (nI k)))) := rfl
  have e2 : upd (yF M.1 nt fr tk vl en N o w) 9 (nI k) = yF M.1 nt k tk vl en N o w := by
    funext j
    unfold upd yF
    by_cases c : j = 9
    · subst c; rfl
    · simp only [if_neg c]
  rw [e]
  unfold YH MG
  rw [put_MO, e2]
theorem qY10 : pF (YH h M K g nt fr tk vl en N o w cd wt ts) 123 9 10 (.int (x)) = some (YH h M K g nt fr x vl en N o w cd wt ts) := by
  have e : pF (YH h M K g nt fr tk vl en N o w cd wt ts) 123 9 10 (.int (x)) = some (put (YH h M K g nt fr tk vl en N o w cd wt ts) 123 (mOb (upd (yF M.1 nt fr tk vl en N o w) 10 (x)))) := rfl
  have e2 : upd (yF M.1 nt fr tk vl en N o w) 10 (x) = yF M.1 nt fr x vl en N o w := by
    funext j
    unfold upd yF
    by_cases c : j = 10
    · subst c; rfl
    · simp only [if_neg c]
  rw [e]
  unfold YH MG
  rw [put_MO, e2]
theorem qY11 : pF (YH h M K g nt fr tk vl en N o w cd wt ts) 123 9 11 (.int (x)) = some (YH h M K g nt fr tk x en N o w cd wt ts) := by
  have e : pF (YH h M K g nt fr tk vl en N o w cd wt ts) 123 9 11 (.int (x)) = some (put (YH h M K g nt fr tk vl en N o w cd wt ts) 123 (mOb (upd (yF M.1 nt fr tk vl en N o w) 11 (x)))) := rfl
  have e2 : upd (yF M.1 nt fr tk vl en N o w) 11 (x) = yF M.1 nt fr tk x en N o w := by
    funext j
    unfold upd yF
    by_cases c : j = 11
    · subst c; rfl
    · simp only [if_neg c]
  rw [e]
  unfold YH MG
  rw [put_MO, e2]
theorem qY12 : pF (YH h M K g nt fr tk vl en N o w cd wt ts) 123 9 12 (.int (x)) = some (YH h M K g nt fr tk vl x N o w cd wt ts) := by
  have e : pF (YH h M K g nt fr tk vl en N o w cd wt ts) 123 9 12 (.int (x)) = some (put (YH h M K g nt fr tk vl en N o w cd wt ts) 123 (mOb (upd (yF M.1 nt fr tk vl en N o w) 12 (x)))) := rfl
  have e2 : upd (yF M.1 nt fr tk vl en N o w) 12 (x) = yF M.1 nt fr tk vl x N o w := by
    funext j
    unfold upd yF
    by_cases c : j = 12
    · subst c; rfl
    · simp only [if_neg c]
  rw [e]
  unfold YH MG
  rw [put_MO, e2]
theorem qY17 : pF (YH h M K g nt fr tk vl en N o w cd wt ts) 123 9 17 (.int (nI k)) = some (YH h M K g nt fr tk vl en k o w cd wt ts) := by
  have e : pF (YH h M K g nt fr tk vl en N o w cd wt ts) 123 9 17 (.int (nI k)) = some (put (YH h M K g nt fr tk vl en N o w cd wt ts) 123 (mOb (upd (yF M.1 nt fr tk vl en N o w) 17 (nI k)))) := rfl
  have e2 : upd (yF M.1 nt fr tk vl en N o w) 17 (nI k) = yF M.1 nt fr tk vl en k o w := by
    funext j
    unfold upd yF
    by_cases c : j = 17
    · subst c; rfl
    · simp only [if_neg c]
  rw [e]
  unfold YH MG
  rw [put_MO, e2]
theorem qY18 : pF (YH h M K g nt fr tk vl en N o w cd wt ts) 123 9 18 (.int (nI k)) = some (YH h M K g nt fr tk vl en N k w cd wt ts) := by
  have e : pF (YH h M K g nt fr tk vl en N o w cd wt ts) 123 9 18 (.int (nI k)) = some (put (YH h M K g nt fr tk vl en N o w cd wt ts) 123 (mOb (upd (yF M.1 nt fr tk vl en N o w) 18 (nI k)))) := rfl
  have e2 : upd (yF M.1 nt fr tk vl en N o w) 18 (nI k) = yF M.1 nt fr tk vl en N k w := by
    funext j
    unfold upd yF
    by_cases c : j = 18
    · subst c; rfl
    · simp only [if_neg c]
  rw [e]
  unfold YH MG
  rw [put_MO, e2]
theorem qY20 : pF (YH h M K g nt fr tk vl en N o w cd wt ts) 123 9 20 (.int (nI k)) = some (YH h M K g nt fr tk vl en N o k cd wt ts) := by
  have e : pF (YH h M K g nt fr tk vl en N o w cd wt ts) 123 9 20 (.int (nI k)) = some (put (YH h M K g nt fr tk vl en N o w cd wt ts) 123 (mOb (upd (yF M.1 nt fr tk vl en N o w) 20 (nI k)))) := rfl
  have e2 : upd (yF M.1 nt fr tk vl en N o w) 20 (nI k) = yF M.1 nt fr tk vl en N o k := by
    funext j
    unfold upd yF
    by_cases c : j = 20
    · subst c; rfl
    · simp only [if_neg c]
  rw [e]
  unfold YH MG
  rw [put_MO, e2]
theorem rY128 (hk : k < 96) : rX (YH h M K g nt fr tk vl en N o w cd wt ts) 128 (nI k) = some (M.2 128 k) := rG (a := 128) (by omega) (by omega) rfl (show k < 96 from hk) (by decide)
theorem rY130 (hk : k < 4) : rX (YH h M K g nt fr tk vl en N o w cd wt ts) 130 (nI k) = some (M.2 130 k) := rG (a := 130) (by omega) (by omega) rfl (show k < 4 from hk) (by decide)
theorem rY131 (hk : k < 96) : rX (YH h M K g nt fr tk vl en N o w cd wt ts) 131 (nI k) = some (cd k) := rG (a := 131) (by omega) (by omega) rfl (show k < 96 from hk) (by decide)
theorem rY132 (hk : k < 96) : rX (YH h M K g nt fr tk vl en N o w cd wt ts) 132 (nI k) = some (wt k) := rG (a := 132) (by omega) (by omega) rfl (show k < 96 from hk) (by decide)
theorem wY131 (hk : k < 96) : wI (YH h M K g nt fr tk vl en N o w cd wt ts) 131 (nI k) 0 x = some (YH h M K g nt fr tk vl en N o w (upd cd k x) wt ts) := by
  have e := wG (h := h) (M := (yF M.1 nt fr tk vl en N o w, yA M.2 cd wt ts)) (K := K) (gg := g) (a := 131) (k := k) (x := x) (by omega) (by omega) rfl (show k < 96 from hk) (by decide)
  unfold YH
  rw [e]
  refine congrArg (fun q => some (MG h (_, q) K g)) ?_
  funext b
  unfold updW yA
  by_cases c : b = 131
  · subst c; rfl
  · simp only [if_neg c]
theorem wY132 (hk : k < 96) : wI (YH h M K g nt fr tk vl en N o w cd wt ts) 132 (nI k) 0 x = some (YH h M K g nt fr tk vl en N o w cd (upd wt k x) ts) := by
  have e := wG (h := h) (M := (yF M.1 nt fr tk vl en N o w, yA M.2 cd wt ts)) (K := K) (gg := g) (a := 132) (k := k) (x := x) (by omega) (by omega) rfl (show k < 96 from hk) (by decide)
  unfold YH
  rw [e]
  refine congrArg (fun q => some (MG h (_, q) K g)) ?_
  funext b
  unfold updW yA
  by_cases c : b = 132
  · subst c; rfl
  · simp only [if_neg c]
theorem Y_133 : YH h M K g nt fr tk vl en N o w cd wt ts 133 = .inl (1, 10, .inl ts) := rfl
theorem Y_129 : YH h M K g nt fr tk vl en N o w cd wt ts 129 = .inl (2, 13, .inl (M.2 129)) := rfl
theorem rY129 (hk : k < 13) : rI (YH h M K g nt fr tk vl en N o w cd wt ts) 129 (nI k) 2 = some (M.2 129 k) := by
  unfold rI
  rw [Y_129]
  simp [ib_nI hk (by omega), cl_nI (show k < 2147483648 by omega)]
theorem rY133 (hk : k < 10) : rI (YH h M K g nt fr tk vl en N o w cd wt ts) 133 (nI k) 1 = some (ts k) := by
  unfold rI
  rw [Y_133]
  simp [ib_nI hk (by omega), cl_nI (show k < 2147483648 by omega)]
theorem wY133 (hk : k < 10) : wI (YH h M K g nt fr tk vl en N o w cd wt ts) 133 (nI k) 1 x = some (YH h M K g nt fr tk vl en N o w cd wt (upd ts k x)) := by
  unfold wI
  rw [Y_133]
  simp only [ib_nI hk (show (10 : Nat) < 2147483648 by omega), cl_nI (show k < 2147483648 by omega), and_self, if_true]
  have e := put_M (h := h) (M := (yF M.1 nt fr tk vl en N o w, fun a => if a = 124 then g else if a = 134 then K.1 else if a = 135 then K.2 else yA M.2 cd wt ts a)) (a := 133) (f := upd ts k x) (by omega)
  refine congrArg some (Eq.trans e ?_)
  unfold YH MG sA
  dsimp only
  congr 2
  funext b
  unfold updW yA
  by_cases c : b = 133
  · subst c; rfl
  · simp only [if_neg c]

theorem c_isLetter (hB : ∀ k, k < n → M.2 128 k = B k) (h7 : M.1 7 = nI n) (hn : n ≤ 96) (hk : k ≤ 96) : Dn (d + 1) 183 [.ref 123, .int (nI k)] (YH h M K g nt fr tk vl en N o w cd wt ts) nx = some (some (.int (pi (inb B n k 97 122))), YH h M K g nt fr tk vl en N o w cd wt ts, nx) := by
  by_cases h1 : k < n
  · have hk96 : k < 96 := by omega
    simp only [n_183, e_183_0, e_183_1, e_183_2, e_183_5, e_183_8, e_183_9, e_183_12, e_183_13, e_183_14, e_183_16, e_183_19, e_183_20, e_183_23, e_183_24, e_183_25, e_183_27, e_183_30, e_183_31, e_183_34, e_183_35, gY7, gY6, h7, rY128 hk96, hB k h1, Option.bind_some, nR_b0, nR_b1, if_true]
    rw [if_neg (nI_ge h1 (by omega))]
    by_cases h2 : B k < 97
    · have h3 : ¬ 97 ≤ B k := by rw [i_nle]; exact h2
      simp [h2, h3, pi, inb]
    · have h3 : 97 ≤ B k := by rw [← i_nlt]; exact h2
      by_cases h4 : 122 < B k
      · have h5 : ¬ B k ≤ 122 := by rw [i_nle]; exact h4
        simp [h2, h3, h4, h5, pi, inb]
      · have h5 : B k ≤ 122 := by rw [← i_nlt]; exact h4
        simp [h1, h2, h3, h4, h5, pi, inb]
  · simp only [n_183, e_183_0, e_183_1, e_183_2, e_183_5, e_183_34, e_183_35, gY7, h7, Option.bind_some, nR_b0, if_true]
    rw [if_pos (nI_le (by omega) (by omega))]
    simp [h1, pi, inb]
theorem c_isFigure (hB : ∀ k, k < n → M.2 128 k = B k) (h7 : M.1 7 = nI n) (hn : n ≤ 96) (hk : k ≤ 96) : Dn (d + 1) 184 [.ref 123, .int (nI k)] (YH h M K g nt fr tk vl en N o w cd wt ts) nx = some (some (.int (pi (inb B n k 48 57))), YH h M K g nt fr tk vl en N o w cd wt ts, nx) := by
  by_cases h1 : k < n
  · have hk96 : k < 96 := by omega
    simp only [n_184, e_184_0, e_184_1, e_184_2, e_184_5, e_184_8, e_184_9, e_184_12, e_184_13, e_184_14, e_184_16, e_184_19, e_184_20, e_184_23, e_184_24, e_184_25, e_184_27, e_184_30, e_184_31, e_184_34, e_184_35, gY7, gY6, h7, rY128 hk96, hB k h1, Option.bind_some, nR_b0, nR_b1, if_true]
    rw [if_neg (nI_ge h1 (by omega))]
    by_cases h2 : B k < 48
    · have h3 : ¬ 48 ≤ B k := by rw [i_nle]; exact h2
      simp [h2, h3, pi, inb]
    · have h3 : 48 ≤ B k := by rw [← i_nlt]; exact h2
      by_cases h4 : 57 < B k
      · have h5 : ¬ B k ≤ 57 := by rw [i_nle]; exact h4
        simp [h2, h3, h4, h5, pi, inb]
      · have h5 : B k ≤ 57 := by rw [← i_nlt]; exact h4
        simp [h1, h2, h3, h4, h5, pi, inb]
  · simp only [n_184, e_184_0, e_184_1, e_184_2, e_184_5, e_184_34, e_184_35, gY7, h7, Option.bind_some, nR_b0, if_true]
    rw [if_pos (nI_le (by omega) (by omega))]
    simp [h1, pi, inb]
theorem blank_loop (hB : ∀ k, k < n → M.2 128 k = B k) (h7 : M.1 7 = nI n) (hn : n ≤ 96) (f : Nat) : ∀ (k : Nat), n ≤ k + f → k ≤ 96 → Df d 182 0 [.ref 123, l1] [] (YH h M K g k fr tk vl en N o w cd wt ts) nx = Df d 182 38 [.ref 123, l1] [] (YH h M K g (skp B n 32 32 f k) fr tk vl en N o w cd wt ts) nx := by
  induction f with
  | zero =>
    intro k hk hk2
    rw [e_182_0]
    simp only [e_182_1, e_182_4, e_182_5, e_182_8, gY7, gY8, h7, Option.bind_some]
    rw [if_pos (nI_le (by omega) (by omega))]
    rfl
  | succ f ih =>
    intro k hk hk2
    unfold skp
    rw [e_182_0]
    simp only [e_182_1, e_182_4, e_182_5, e_182_8, gY7, gY8, h7, Option.bind_some]
    by_cases h1 : k < n
    · have hk96 : k < 96 := by omega
      rw [if_neg (nI_ge h1 (by omega))]
      simp only [e_182_11, e_182_12, e_182_15, e_182_16, e_182_19, e_182_20, e_182_22, gY6, gY8, rY128 hk96, hB k h1, Option.bind_some]
      by_cases h2 : B k = 32
      · rw [if_pos h2, if_pos (show inb B n k 32 32 from ⟨h1, by rw [h2]; decide, by rw [h2]; decide⟩)]
        simp only [e_182_25, e_182_26i, e_182_26r, e_182_27, e_182_30, e_182_31, e_182_32, e_182_35, gY8, nI_1, qY8, Option.bind_some]
        exact ih (k + 1) (by omega) (by omega)
      · rw [if_neg h2, if_neg (show ¬ inb B n k 32 32 from fun q => h2 (Int32.le_antisymm q.2.2 q.2.1))]
    · rw [if_pos (nI_le (by omega) (by omega)), if_neg (fun q => h1 q.1)]
theorem letter_loop (hB : ∀ k, k < n → M.2 128 k = B k) (h7 : M.1 7 = nI n) (hn : n ≤ 96) (f : Nat) : ∀ (k : Nat), n ≤ k + f → k ≤ 96 → Df (d + 1) 182 93 [.ref 123, l1] [] (YH h M K g k fr tk vl en N o w cd wt ts) nx = Df (d + 1) 182 117 [.ref 123, l1] [] (YH h M K g (skp B n 97 122 f k) fr tk vl en N o w cd wt ts) nx := by
  induction f with
  | zero =>
    intro k hk hk2
    rw [e_182_93]
    simp only [e_182_94, e_182_95, e_182_98, e_182_101, gY8, kY, if_true, c_isLetter hB h7 hn hk2, cn_s, pi_if, Option.bind_some]
    rw [if_neg (show ¬ inb B n k 97 122 from fun q => by have := q.1; omega)]
    rfl
  | succ f ih =>
    intro k hk hk2
    unfold skp
    rw [e_182_93]
    simp only [e_182_94, e_182_95, e_182_98, e_182_101, e_182_104, e_182_105i, e_182_105r, e_182_106, e_182_109, e_182_110, e_182_111, e_182_114, gY8, kY, if_true, c_isLetter hB h7 hn hk2, cn_s, pi_if, nI_1, qY8, Option.bind_some]
    by_cases h1 : inb B n k 97 122
    · rw [if_pos h1, if_pos h1]
      have := h1.1
      exact ih (k + 1) (by omega) (by omega)
    · rw [if_neg h1, if_neg h1]
theorem numF_last : ∀ (f k : Nat) (x : Int32), numF B (f + 1) k x = numF B f k x * 10 + B (k + f) - 48
  | 0, k, x => rfl
  | f + 1, k, x => by
    have e := numF_last f (k + 1) (x * 10 + B k - 48)
    rw [show k + 1 + f = k + (f + 1) by omega] at e
    exact e
theorem figure_loop (hB : ∀ k, k < n → M.2 128 k = B k) (h7 : M.1 7 = nI n) (hn : n ≤ 96) (hp : fr ≤ n) (f : Nat) : ∀ (j : Nat), n ≤ fr + j + f → fr + j ≤ n → Df (d + 1) 182 170 [.ref 123, l1] [] (YH h M K g (fr + j) fr tk (numF B (min j 4) fr 0) en N o w cd wt ts) nx = Df (d + 1) 182 238 [.ref 123, l1] [] (YH h M K g (skp B n 48 57 f (fr + j)) fr tk (numF B (min (skp B n 48 57 f (fr + j) - fr) 4) fr 0) en N o w cd wt ts) nx := by
  induction f with
  | zero =>
    intro j hk hk2
    rw [e_182_170]
    simp only [e_182_171, e_182_172, e_182_175, e_182_178, gY8, kY, if_true, c_isFigure hB h7 hn (show fr + j ≤ 96 by omega), cn_s, pi_if, Option.bind_some]
    rw [if_neg (show ¬ inb B n (fr + j) 48 57 from fun q => by have := q.1; omega)]
    unfold skp
    rw [show fr + j - fr = j by omega]
  | succ f ih =>
    intro j hk hk2
    unfold skp
    rw [e_182_170]
    simp only [e_182_171, e_182_172, e_182_175, e_182_178, gY8, kY, if_true, c_isFigure hB h7 hn (show fr + j ≤ 96 by omega), cn_s, pi_if, Option.bind_some]
    by_cases h1 : inb B n (fr + j) 48 57
    · have hj := h1.1
      rw [if_pos h1, if_pos h1]
      simp only [e_182_181, e_182_182, e_182_183, e_182_186, e_182_187, e_182_190, e_182_191, e_182_192, gY8, gY9, nI_sub (show fr ≤ fr + j by omega), Option.bind_some]
      have e1 : fr + j - fr = j := by omega
      have ih := ih (j + 1) (by omega) (by omega)
      rw [show fr + (j + 1) = fr + j + 1 by omega] at ih
      rw [e1]
      by_cases h4 : j < 4
      · rw [if_neg (show ¬ (4 : Int32) ≤ nI j from nI_ge (b := 4) h4 (by omega))]
        simp only [e_182_195, e_182_197, e_182_198, e_182_201, e_182_202, e_182_203, e_182_206, e_182_207, e_182_210, e_182_211, e_182_212, e_182_214, e_182_215, e_182_222, e_182_225, e_182_226i, e_182_226r, e_182_227, e_182_230, e_182_231, e_182_232, e_182_235, gY6, gY8, gY11, rY128 (show fr + j < 96 by omega), hB _ hj, qY11, nI_1, qY8, Option.bind_some]
        rw [show (10 : Int32) * numF B (min j 4) fr 0 + B (fr + j) - 48 = numF B (min (j + 1) 4) fr 0 by
          rw [Nat.min_eq_left (by omega), Nat.min_eq_left (by omega), numF_last, Int32.mul_comm]]
        exact ih
      · rw [if_pos (show (4 : Int32) ≤ nI j from nI_le (a := 4) (by omega) (by omega))]
        simp only [e_182_218, e_182_219, e_182_222, e_182_225, e_182_226i, e_182_226r, e_182_227, e_182_230, e_182_231, e_182_232, e_182_235, gY8, gY11, qY11, nI_1, qY8, Option.bind_some]
        rw [show min j 4 = min (j + 1) 4 by omega]
        exact ih
    · rw [if_neg h1, if_neg h1, show fr + j - fr = j by omega]
end YY
