/-! the reader: its state in the heap; words -/
def rnE (n p a : Nat) (q : Int32) : Nat → Int32 := fun k => if k = 1 then nI n else if k = 2 then nI p else if k = 4 then nI a else if k = 5 then q else 0
def lnE (N : Nat) (ky : Int32) (o : Nat) : Nat → Int32 := fun k => if k = 1 then nI N else if k = 2 then ky else if k = 3 then nI o else 0
/-- tape B of n bytes; place p, after a, seen q; N steps st, key ky, o operands -/
def RP (h : AH) (S : CS) (n : Nat) (B : Nat → Int32) (p a : Nat) (q : Int32) (N : Nat) (ky : Int32) (o : Nat) (st : Nat → Int32) : AH := CH h (sR S (rnE n p a q, lnE N ky o, st, B))
abbrev inb (B : Nat → Int32) (n k : Nat) (lo hi : Int32) : Prop := k < n ∧ lo ≤ B k ∧ B k ≤ hi
/-- the first place from k on whose byte is not within bounds -/
def skp (B : Nat → Int32) (n : Nat) (lo hi : Int32) : Nat → Nat → Nat
  | 0, k => k
  | f + 1, k => if inb B n k lo hi then skp B n lo hi f (k + 1) else k
abbrev isW (q : Int32) : Prop := q = 256 ∨ q = 257
def stP (B : Nat → Int32) (n a : Nat) : Nat := skp B n 32 32 96 a
def stT (B : Nat → Int32) (n p : Nat) : Nat × Int32 := if n ≤ p then (n, 258) else if inb B n p 97 122 then (skp B n 97 122 96 p, 256) else if inb B n p 48 57 then (skp B n 48 57 96 p, 257) else (p + 1, B p)
def stQ (B : Nat → Int32) (n a : Nat) (q : Int32) : Int32 := if isW q ∧ isW (stT B n (stP B n a)).2 ∧ stP B n a = a then 259 else (stT B n (stP B n a)).2
def stA (B : Nat → Int32) (n a : Nat) : Nat := (stT B n (stP B n a)).1
section RD
variable {d : Nat} {h : AH} {nx : AN} {n p a N o k j : Nat} {S : CS} {q ky x y z u : Int32} {st B : Nat → Int32} {l1 l2 l3 l4 l5 : Value}
theorem q88_2 : pF (CH h S) 88 4 2 (.int x) = some (CH h (sR S (upd (zR S).1 2 x, (zR S).2))) := by
  have e : pF (CH h S) 88 4 2 (.int x) = some (put (CH h S) 88 (rO (upd (zR S).1 2 x))) := rfl
  rw [e, CH_r]
theorem q88_4 : pF (CH h S) 88 4 4 (.int x) = some (CH h (sR S (upd (zR S).1 4 x, (zR S).2))) := by
  have e : pF (CH h S) 88 4 4 (.int x) = some (put (CH h S) 88 (rO (upd (zR S).1 4 x))) := rfl
  rw [e, CH_r]
theorem q88_5 : pF (CH h S) 88 4 5 (.int x) = some (CH h (sR S (upd (zR S).1 5 x, (zR S).2))) := by
  have e : pF (CH h S) 88 4 5 (.int x) = some (put (CH h S) 88 (rO (upd (zR S).1 5 x))) := rfl
  rw [e, CH_r]
theorem q89_1 : pF (CH h S) 89 2 1 (.int x) = some (CH h (sR S ((zR S).1, upd (zR S).2.1 1 x, (zR S).2.2))) := by
  have e : pF (CH h S) 89 2 1 (.int x) = some (put (CH h S) 89 (qO (upd (zR S).2.1 1 x))) := rfl
  rw [e, CH_q]
theorem q89_2 : pF (CH h S) 89 2 2 (.int x) = some (CH h (sR S ((zR S).1, upd (zR S).2.1 2 x, (zR S).2.2))) := by
  have e : pF (CH h S) 89 2 2 (.int x) = some (put (CH h S) 89 (qO (upd (zR S).2.1 2 x))) := rfl
  rw [e, CH_q]
theorem q89_3 : pF (CH h S) 89 2 3 (.int x) = some (CH h (sR S ((zR S).1, upd (zR S).2.1 3 x, (zR S).2.2))) := by
  have e : pF (CH h S) 89 2 3 (.int x) = some (put (CH h S) 89 (qO (upd (zR S).2.1 3 x))) := rfl
  rw [e, CH_q]
theorem kR : ck (RP h S n B p a q N ky o st) 88 4 = true := rfl
theorem kRl : ck (RP h S n B p a q N ky o st) 89 2 = true := rfl
theorem gR0 : gF (RP h S n B p a q N ky o st) 88 4 0 = some (.ref 89) := rfl
theorem gR1 : gF (RP h S n B p a q N ky o st) 88 4 1 = some (.int (nI n)) := rfl
theorem gR2 : gF (RP h S n B p a q N ky o st) 88 4 2 = some (.int (nI p)) := rfl
theorem gR3 : gF (RP h S n B p a q N ky o st) 88 4 3 = some (.ref 91) := rfl
theorem gR4 : gF (RP h S n B p a q N ky o st) 88 4 4 = some (.int (nI a)) := rfl
theorem gR5 : gF (RP h S n B p a q N ky o st) 88 4 5 = some (.int q) := rfl
theorem gRl0 : gF (RP h S n B p a q N ky o st) 89 2 0 = some (.ref 90) := rfl
theorem gRl1 : gF (RP h S n B p a q N ky o st) 89 2 1 = some (.int (nI N)) := rfl
theorem gRl2 : gF (RP h S n B p a q N ky o st) 89 2 2 = some (.int ky) := rfl
theorem gRl3 : gF (RP h S n B p a q N ky o st) 89 2 3 = some (.int (nI o)) := rfl
theorem rRb (hk : k < 96) : rX (RP h S n B p a q N ky o st) 91 (nI k) = some (B k) := rA (h := RP h S n B p a q N ky o st) (a := 91) (n := 96) rfl hk (by omega)
theorem up4 {f g : Nat → Int32} (e : ∀ k, f k = g k) : f = g := funext e
theorem qR2 : pF (RP h S n B p a q N ky o st) 88 4 2 (.int (nI k)) = some (RP h S n B k a q N ky o st) := by
  unfold RP
  rw [q88_2]
  have e : upd (rnE n p a q) 2 (nI k) = rnE n k a q := by
    funext j; unfold upd rnE
    by_cases e : j = 2
    · subst e; rfl
    · rw [if_neg e, if_neg e, if_neg e]
  dsimp only [zR, sR]
  rw [e]
theorem qR4 : pF (RP h S n B p a q N ky o st) 88 4 4 (.int (nI k)) = some (RP h S n B p k q N ky o st) := by
  unfold RP
  rw [q88_4]
  have e : upd (rnE n p a q) 4 (nI k) = rnE n p k q := by
    funext j; unfold upd rnE
    by_cases e : j = 4
    · subst e; rfl
    · rw [if_neg e, if_neg e, if_neg e]
  dsimp only [zR, sR]
  rw [e]
theorem qR5 : pF (RP h S n B p a q N ky o st) 88 4 5 (.int x) = some (RP h S n B p a x N ky o st) := by
  unfold RP
  rw [q88_5]
  have e : upd (rnE n p a q) 5 x = rnE n p a x := by
    funext j; unfold upd rnE
    by_cases e : j = 5
    · subst e; rfl
    · rw [if_neg e, if_neg e, if_neg e]
  dsimp only [zR, sR]
  rw [e]
theorem qRl1 : pF (RP h S n B p a q N ky o st) 89 2 1 (.int (nI k)) = some (RP h S n B p a q k ky o st) := by
  unfold RP
  rw [q89_1]
  have e : upd (lnE N ky o) 1 (nI k) = lnE k ky o := by
    funext j; unfold upd lnE
    by_cases e : j = 1
    · subst e; rfl
    · rw [if_neg e, if_neg e, if_neg e]
  dsimp only [zR, sR]
  rw [e]
theorem qRl2 : pF (RP h S n B p a q N ky o st) 89 2 2 (.int x) = some (RP h S n B p a q N x o st) := by
  unfold RP
  rw [q89_2]
  have e : upd (lnE N ky o) 2 x = lnE N x o := by
    funext j; unfold upd lnE
    by_cases e : j = 2
    · subst e; rfl
    · rw [if_neg e, if_neg e, if_neg e]
  dsimp only [zR, sR]
  rw [e]
theorem qRl3 : pF (RP h S n B p a q N ky o st) 89 2 3 (.int (nI k)) = some (RP h S n B p a q N ky k st) := by
  unfold RP
  rw [q89_3]
  have e : upd (lnE N ky o) 3 (nI k) = lnE N ky k := by
    funext j; unfold upd lnE
    by_cases e : j = 3
    · subst e; rfl
    · rw [if_neg e, if_neg e, if_neg e]
  dsimp only [zR, sR]
  rw [e]
theorem wRs (hk : k < 96) : wI (RP h S n B p a q N ky o st) 90 (nI k) 0 x = some (RP h S n B p a q N ky o (upd st k x)) := by
  unfold RP
  rw [wA CH_90 hk (by omega), CH_p]
  rfl
theorem c_isIn (hn : n ≤ 96) (hk : k < 1000) : Dn (d + 1) 43 [.ref 88, .int (nI k), .int x, .int y] (RP h S n B p a q N ky o st) nx = some (some (.int (pi (inb B n k x y))), RP h S n B p a q N ky o st, nx) := by
  by_cases h1 : k < n
  · have hk96 : k < 96 := by omega
    simp only [n_43, e_43_0, e_43_1, e_43_4, e_43_5, e_43_6, e_43_9, e_43_12, e_43_13, e_43_15, e_43_18, e_43_19, e_43_22, e_43_23, e_43_24, e_43_25, e_43_28, e_43_29, e_43_32, e_43_33, e_43_34, e_43_35, e_43_38, e_43_39, e_43_42, e_43_43, gR1, gR3, rRb hk96, Option.bind_some, nR_b0, nR_b1, if_true]
    rw [if_neg (nI_pos (by omega)), if_neg (nI_ge h1 (by omega)), if_neg (show ¬ (96 : Int32) ≤ nI k from nI_ge (b := 96) hk96 (by omega))]
    by_cases h2 : B k < x
    · have h3 : ¬ x ≤ B k := by rw [i_nle]; exact h2
      simp [h2, h3, pi, inb]
    · have h3 : x ≤ B k := by rw [← i_nlt]; exact h2
      by_cases h4 : y < B k
      · have h5 : ¬ B k ≤ y := by rw [i_nle]; exact h4
        simp [h2, h3, h4, h5, pi, inb]
      · have h5 : B k ≤ y := by rw [← i_nlt]; exact h4
        simp [h1, h2, h3, h4, h5, pi, inb]
  · simp only [n_43, e_43_0, e_43_1, e_43_4, e_43_5, e_43_6, e_43_9, e_43_42, e_43_43, gR1, Option.bind_some, nR_b0, if_true]
    rw [if_neg (nI_pos (by omega)), if_pos (nI_le (by omega) (by omega))]
    simp [h1, pi, inb]
theorem skip_loop (hn : n ≤ 96) (f : Nat) : ∀ (k : Nat), n ≤ k + f → k ≤ 96 → Df (d + 1) 42 3 [.ref 88, l1, .int x, .int y, .int (nI k)] [] (RP h S n B p a q N ky o st) nx = some (some (.int (nI (skp B n x y f k))), RP h S n B p a q N ky o st, nx) := by
  induction f with
  | zero =>
    intro k hk hk2
    rw [e_42_3]
    simp only [e_42_5, e_42_6, e_42_9, e_42_12, e_42_13, e_42_15, e_42_16, e_42_17, e_42_20, e_42_23, e_42_26, e_42_29, e_42_31, gR1, Option.bind_some]
    rw [if_pos (nI_le (by omega) (by omega))]
    rfl
  | succ f ih =>
    intro k hk hk2
    rw [e_42_3]
    simp only [e_42_5, e_42_6, e_42_9, e_42_12, e_42_13, e_42_15, e_42_16, e_42_17, e_42_20, e_42_23, e_42_26, e_42_29, e_42_31, gR1, kR, if_true, c_isIn hn (show k < 1000 by omega), cn_s, pi_if, Option.bind_some, nI_1]
    unfold skp
    by_cases h1 : k < n
    · rw [if_neg (nI_ge h1 (by omega))]
      by_cases h2 : inb B n k x y
      · rw [if_pos h2, if_pos h2]
        exact ih (k + 1) (by omega) (by omega)
      · rw [if_neg h2, if_neg h2]
    · rw [if_pos (nI_le (by omega) (by omega)), if_neg (fun q => h1 q.1)]
theorem c_skipped (hn : n ≤ 96) (hk : k ≤ 96) : Dn (d + 2) 42 [.ref 88, .int (nI k), .int x, .int y] (RP h S n B p a q N ky o st) nx = some (some (.int (nI (skp B n x y 96 k))), RP h S n B p a q N ky o st, nx) := by
  simp only [n_42, e_42_0, e_42_1n, e_42_1i, e_42_1r]
  exact skip_loop hn 96 k (by omega) hk
theorem c_isWord : Dn (d + 1) 41 [.ref 88] (RP h S n B p a q N ky o st) nx = some (some (.int (pi (isW q))), RP h S n B p a q N ky o st, nx) := by
  simp only [n_41, e_41_0, e_41_1, e_41_4, e_41_7, e_41_10, e_41_11, e_41_14, e_41_17, e_41_20, e_41_21, e_41_24, e_41_25, gR5, Option.bind_some, nR_b0, nR_b1, if_true]
  by_cases h1 : q = 256
  · simp [h1, pi]
  · by_cases h2 : q = 257
    · simp [h1, h2, pi]
    · simp [h1, h2, pi]
theorem skp_le {lo hi : Int32} : ∀ (f k : Nat), k ≤ skp B n lo hi f k ∧ (k ≤ n → skp B n lo hi f k ≤ n)
  | 0, k => ⟨Nat.le_refl _, fun h => h⟩
  | f + 1, k => by
    unfold skp
    by_cases h1 : inb B n k lo hi
    · rw [if_pos h1]
      have := skp_le (lo := lo) (hi := hi) f (k + 1)
      exact ⟨by omega, fun _ => this.2 h1.1⟩
    · rw [if_neg h1]
      exact ⟨Nat.le_refl _, fun h => h⟩
theorem step_tail (hp : p < 1000) (ha : k < 1000) {q0 : Int32} : Df (d + 2) 40 157 [.ref 88, .int (pi (isW q0)), .int (nI k)] [] (RP h S n B p a q N ky o st) nx = some (none, RP h S n B p a (if isW q0 ∧ isW q ∧ p = k then 259 else q) N ky o st, nx) := by
  simp only [e_40_157, e_40_158, e_40_161, e_40_162, e_40_165, e_40_168, e_40_169, e_40_172, e_40_173, e_40_176, e_40_177, e_40_180, e_40_183, kR, if_true, c_isWord, cn_s, pi_if, gR2, qR5, Option.bind_some]
  by_cases h1 : isW q0
  · rw [if_pos h1]
    by_cases h2 : isW q
    · rw [if_pos h2]
      by_cases h3 : p = k
      · rw [if_pos (by rw [h3]), if_pos ⟨h1, h2, h3⟩]
      · rw [if_neg (fun e => h3 ((nI_eq (by omega) (by omega)).mp e)), if_neg (fun e => h3 e.2.2)]
    · rw [if_neg h2, if_neg (fun e => h2 e.2.1)]
  · rw [if_neg h1, if_neg (fun e => h1 e.1)]
theorem c_step (hn : n ≤ 96) (ha : a ≤ n) : Dn (d + 3) 40 [.ref 88] (RP h S n B p a q N ky o st) nx = some (none, RP h S n B (stP B n a) (stA B n a) (stQ B n a q) N ky o st, nx) := by
  have hp : stP B n a ≤ n := (skp_le 96 a).2 ha
  have hp96 : stP B n a ≤ 96 := by omega
  have e0 : skp B n 32 32 96 a = stP B n a := rfl
  simp only [n_40, e_40_0, e_40_1, e_40_4n, e_40_4i, e_40_4r, e_40_5, e_40_6, e_40_9n, e_40_9i, e_40_9r, e_40_10, e_40_11, e_40_12, e_40_13, e_40_15, e_40_17, e_40_20, e_40_23, e_40_24, e_40_25, e_40_28, e_40_29, e_40_30, e_40_33, e_40_34, e_40_37, e_40_38, e_40_41, e_40_44, e_40_45, e_40_48, e_40_51, e_40_52, e_40_53, e_40_56, e_40_59, e_40_62, e_40_63, e_40_64, e_40_67, e_40_69, e_40_71, e_40_74, e_40_77, e_40_78, e_40_81, e_40_84, e_40_85, e_40_86, e_40_87, e_40_90, e_40_92, e_40_94, e_40_97, e_40_100, e_40_103, e_40_104, e_40_105, e_40_108, e_40_110, e_40_112, e_40_115, e_40_118, e_40_119, e_40_122, e_40_125, e_40_126, e_40_127, e_40_128, e_40_131, e_40_133, e_40_135, e_40_138, e_40_141, e_40_144, e_40_145, e_40_146, e_40_149, e_40_150, e_40_153, e_40_154, kR, if_true, c_isWord, cn_s, pi_if, gR1, gR2, gR3, gR4, c_skipped hn (show a ≤ 96 by omega), e0, qR2, qR4, qR5, nI_1, c_isIn hn (show stP B n a < 1000 by omega), c_skipped hn hp96, Option.bind_some]
  unfold stA stQ
  by_cases h1 : stP B n a < n
  · rw [if_pos (nI_lt h1 (by omega))]
    by_cases h2 : inb B n (stP B n a) 97 122
    · have eT : stT B n (stP B n a) = (skp B n 97 122 96 (stP B n a), 256) := by unfold stT; rw [if_neg (by omega), if_pos h2]
      rw [if_pos h2, step_tail (by omega) (by omega), eT]
    · rw [if_neg h2]
      by_cases h3 : inb B n (stP B n a) 48 57
      · have eT : stT B n (stP B n a) = (skp B n 48 57 96 (stP B n a), 257) := by unfold stT; rw [if_neg (by omega), if_neg h2, if_pos h3]
        rw [if_pos h3, step_tail (by omega) (by omega), eT]
      · have eT : stT B n (stP B n a) = (stP B n a + 1, B (stP B n a)) := by unfold stT; rw [if_neg (by omega), if_neg h2, if_neg h3]
        rw [if_neg h3, rRb (by omega)]
        simp only [e_40_154, qR5, Option.bind_some]
        rw [step_tail (by omega) (by omega), eT]
  · have eT : stT B n (stP B n a) = (n, 258) := by unfold stT; rw [if_pos (by omega)]
    rw [if_neg (show ¬ nI (stP B n a) < nI n by rw [i_nlt]; exact nI_le (by omega) (by omega)), step_tail (by omega) (by omega), eT]
end RD
