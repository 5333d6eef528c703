/-! the class's constructor -/
def Sh0 : ShT := fun _ => (fun _ => 0, s0)
def Sl0 : SlT := fun _ => (w0, fun _ => 0, s0)
def tsk (h : AH) (k : Nat) : AH := fun a => if a = 92 then .inl (5, 4, .inr (.inr (.inr (.inr fun i => if i < k then some (95 + 2 * i) else none)))) else if 95 ≤ a ∧ a < 95 + 2 * k then hc Sh0 a else h a
def tpk (h : AH) (k : Nat) : AH := fun a => if a = 93 then .inl (6, 5, .inr (.inr (.inr (.inr fun i => if i < k then some (103 + 4 * i) else none)))) else if 103 ≤ a ∧ a < 103 + 4 * k then sc Sl0 a else h a
section IT
variable {d : Nat} {h : AH} {nx : AN} {a b c j k n q m : Nat} {v : Value} {e e1 e2 : va_E} {fs : List Value} {x : Int32} {D : DT} {L : LT} {K : Nat → Int32}
theorem wR_s (hk : k < 4) : wR (put (put (tsk h k) (95 + 2 * k) (shO (96 + 2 * k) s0)) (96 + 2 * k) (r0 24)) 92 (nI k) (95 + 2 * k) = some (tsk h (k + 1)) := by
  unfold wR
  have e1 : put (put (tsk h k) (95 + 2 * k) (shO (96 + 2 * k) s0)) (96 + 2 * k) (r0 24) 92 = .inl (5, 4, .inr (.inr (.inr (.inr fun i => if i < k then some (95 + 2 * i) else none)))) := by
    rw [put_ne _ _ (by omega), put_ne _ _ (by omega)]
    unfold tsk
    rw [if_pos rfl]
  have e2 : ck (put (put (tsk h k) (95 + 2 * k) (shO (96 + 2 * k) s0)) (96 + 2 * k) (r0 24)) (95 + 2 * k) (aC 5) = true := by
    unfold ck
    rw [put_ne _ _ (by omega), put_same]; rfl
  rw [e1]
  dsimp only
  rw [if_pos ⟨⟨(show (3 : Nat) ≤ 5 ∧ (5 : Nat) < 7 by decide), ib_nI hk (by omega)⟩, e2⟩, cl_nI (by omega)]
  congr 1
  funext p
  by_cases c1 : p = 92
  · subst c1
    rw [put_same]
    unfold tsk
    rw [if_pos rfl]
    congr 7
    funext i
    unfold va_up
    by_cases c2 : i = k
    · rw [if_pos c2, if_pos (by omega), c2]
    · rw [if_neg c2]
      dsimp only
      by_cases c3 : i < k
      · rw [if_pos c3, if_pos (by omega)]
      · rw [if_neg c3, if_neg (by omega)]
  · rw [put_ne _ _ c1]
    by_cases c2 : p = 96 + 2 * k
    · subst c2
      rw [put_same]
      unfold tsk hc
      rw [if_neg (by omega), if_pos (by omega), if_neg (by omega)]
      rfl
    · rw [put_ne _ _ c2]
      by_cases c3 : p = 95 + 2 * k
      · subst c3
        rw [put_same]
        unfold tsk hc
        rw [if_neg (by omega), if_pos (by omega), if_pos (by omega), show 95 + 2 * k + 1 = 96 + 2 * k by omega]
        rfl
      · rw [put_ne _ _ c3]
        unfold tsk
        rw [if_neg c1, if_neg c1]
        by_cases c6 : 95 ≤ p ∧ p < 95 + 2 * k
        · rw [if_pos c6, if_pos (show 95 ≤ p ∧ p < 95 + 2 * (k + 1) by omega)]
        · rw [if_neg c6, if_neg (by omega)]
theorem wR_p (hk : k < 5) : wR (put (put (put (put (tpk h k) (103 + 4 * k) (slO (103 + 4 * k) fun _ => 0)) (103 + 4 * k + 1) (wkC w0)) (103 + 4 * k + 2) (shO (103 + 4 * k + 3) s0)) (103 + 4 * k + 3) (r0 24)) 93 (nI k) (103 + 4 * k) = some (tpk h (k + 1)) := by
  unfold wR
  have e1 : put (put (put (put (tpk h k) (103 + 4 * k) (slO (103 + 4 * k) fun _ => 0)) (103 + 4 * k + 1) (wkC w0)) (103 + 4 * k + 2) (shO (103 + 4 * k + 3) s0)) (103 + 4 * k + 3) (r0 24) 93 = .inl (6, 5, .inr (.inr (.inr (.inr fun i => if i < k then some (103 + 4 * i) else none)))) := by
    rw [put_ne _ _ (by omega), put_ne _ _ (by omega), put_ne _ _ (by omega), put_ne _ _ (by omega)]
    unfold tpk
    rw [if_pos rfl]
  have e2 : ck (put (put (put (put (tpk h k) (103 + 4 * k) (slO (103 + 4 * k) fun _ => 0)) (103 + 4 * k + 1) (wkC w0)) (103 + 4 * k + 2) (shO (103 + 4 * k + 3) s0)) (103 + 4 * k + 3) (r0 24)) (103 + 4 * k) (aC 6) = true := by
    unfold ck
    rw [put_ne _ _ (by omega), put_ne _ _ (by omega), put_ne _ _ (by omega), put_same]; rfl
  rw [e1]
  dsimp only
  rw [if_pos ⟨⟨(show (3 : Nat) ≤ 6 ∧ (6 : Nat) < 7 by decide), ib_nI hk (by omega)⟩, e2⟩, cl_nI (by omega)]
  congr 1
  funext p
  by_cases c1 : p = 93
  · subst c1
    rw [put_same]
    unfold tpk
    rw [if_pos rfl]
    congr 7
    funext i
    unfold va_up
    by_cases c2 : i = k
    · rw [if_pos c2, if_pos (by omega), c2]
    · rw [if_neg c2]
      dsimp only
      by_cases c3 : i < k
      · rw [if_pos c3, if_pos (by omega)]
      · rw [if_neg c3, if_neg (by omega)]
  · rw [put_ne _ _ c1]
    by_cases c2 : p = 103 + 4 * k + 3
    · subst c2
      rw [put_same]
      unfold tpk sc
      rw [if_neg (by omega), if_pos (by omega), if_neg (by omega), if_neg (by omega), if_neg (by omega)]
      rfl
    · rw [put_ne _ _ c2]
      by_cases c3 : p = 103 + 4 * k + 2
      · subst c3
        rw [put_same]
        unfold tpk sc
        rw [if_neg (by omega), if_pos (by omega), if_neg (by omega), if_neg (by omega), if_pos (by omega)]
        rfl
      · rw [put_ne _ _ c3]
        by_cases c4 : p = 103 + 4 * k + 1
        · subst c4
          rw [put_same]
          unfold tpk sc
          rw [if_neg (by omega), if_pos (by omega), if_neg (by omega), if_pos (by omega)]
          rfl
        · rw [put_ne _ _ c4]
          by_cases c5 : p = 103 + 4 * k
          · subst c5
            rw [put_same]
            unfold tpk sc
            rw [if_neg (by omega), if_pos (by omega), if_pos (by omega)]
            rfl
          · rw [put_ne _ _ c5]
            unfold tpk
            rw [if_neg c1, if_neg c1]
            by_cases c6 : 103 ≤ p ∧ p < 103 + 4 * k
            · rw [if_pos c6, if_pos (show 103 ≤ p ∧ p < 103 + 4 * (k + 1) by omega)]
            · rw [if_neg c6, if_neg (by omega)]
theorem i_sloop (hg : h 16 = .inr (8, fs)) (hf : fs[6]? = some (.ref 92)) (r : Nat) : ∀ (k n q : Nat), k + r = 4 → 16 + n = 95 + 2 * k → Df (d + 2) 71 106 [.ref 16, .int (nI k)] [] (tsk h k) (n, q) = Df (d + 2) 71 130 [.ref 16, .int (nI 4)] [] (tsk h 4) (n + 2 * r, q + 27 * r) := by
  have g : ∀ k, gF (tsk h k) 16 8 6 = some (.ref 92) := by
    intro k
    unfold gF tsk
    rw [if_neg (by omega), if_neg (by omega), hg]
    dsimp only
    rw [if_pos rfl]
    exact hf
  induction r with
  | zero =>
    intro k n q hk hn
    obtain rfl : k = 4 := by omega
    rw [e_71_106]
    simp only [e_71_107, e_71_108]
    rw [if_pos (by decide)]
    rfl
  | succ r ih =>
    intro k n q hk hn
    have i2 := i_sheet (d := d + 1) (h := tsk h k) (a := 95 + 2 * k) (n := n + 1) (q := q + 3) (by omega)
    rw [show 16 + (n + 1) = 96 + 2 * k by omega] at i2
    rw [e_71_106]
    simp only [e_71_107, e_71_108, e_71_111, e_71_112, e_71_115, e_71_116, e_71_119i, e_71_119r, e_71_120, e_71_123, e_71_124, e_71_127, g, hn, i2, cn_v, wR_s (show k < 4 by omega), nI_1, Option.bind_some]
    rw [if_neg (show ¬ (4 : Int32) ≤ nI k from nI_ge (b := 4) (by omega) (by omega)), ih (k + 1) (n + 1 + 1) (q + 3 + 24) (by omega) (by omega)]
    rw [show n + 1 + 1 + 2 * r = n + 2 * (r + 1) by omega, show q + 3 + 24 + 27 * r = q + 27 * (r + 1) by omega]
theorem i_ploop (hg : h 16 = .inr (8, fs)) (hf : fs[7]? = some (.ref 93)) (r : Nat) : ∀ (k n q : Nat), k + r = 5 → 16 + n = 103 + 4 * k → Df (d + 2) 71 132 [.ref 16, .int (nI k)] [] (tpk h k) (n, q) = some (none, tpk h 5, (n + 4 * r, q + 37 * r)) := by
  have g : ∀ k, gF (tpk h k) 16 8 7 = some (.ref 93) := by
    intro k
    unfold gF tpk
    rw [if_neg (by omega), if_neg (by omega), hg]
    dsimp only
    rw [if_pos rfl]
    exact hf
  induction r with
  | zero =>
    intro k n q hk hn
    obtain rfl : k = 5 := by omega
    rw [e_71_132]
    simp only [e_71_133, e_71_134, e_71_156]
    rw [if_pos (by decide)]
    rfl
  | succ r ih =>
    intro k n q hk hn
    have i2 := i_slot (d := d) (h := tpk h k) (a := 103 + 4 * k) (n := n + 1) (q := q + 4) (by omega)
    rw [e_71_132]
    simp only [e_71_133, e_71_134, e_71_137, e_71_138, e_71_141, e_71_142, e_71_145i, e_71_145r, e_71_146, e_71_149, e_71_150, e_71_153, g, hn, i2, cn_v, wR_p (show k < 5 by omega), nI_1, Option.bind_some]
    rw [if_neg (show ¬ (5 : Int32) ≤ nI k from nI_ge (b := 5) (by omega) (by omega)), ih (k + 1) (n + 1 + 3) (q + 4 + 33) (by omega) (by omega)]
    rw [show n + 1 + 3 + 4 * r = n + 4 * (r + 1) by omega, show q + 4 + 33 + 37 * r = q + 37 * (r + 1) by omega]
theorem pF_D (h1 : a < b ∨ b + 13 ≤ a) : pF (putD h b D) a c j v = (pF h a c j v).map (fun h' => putD h' b D) := by
  unfold pF
  rw [pD_o h1]
  cases h a with
  | inl z => rfl
  | inr z =>
    dsimp only
    split
    · simp only [Option.map_some]
      congr 1
      funext p
      by_cases q1 : p = a
      · subst q1
        rw [put_same, pD_o h1, put_same]
      · rw [put_ne _ _ q1]
        unfold putD
        rw [put_ne _ _ q1]
    · rfl
theorem pF_L (h1 : a < b ∨ b + 31 ≤ a) : pF (putL h b L K) a c j v = (pF h a c j v).map (fun h' => putL h' b L K) := by
  unfold pF
  rw [pL_o h1]
  cases h a with
  | inl z => rfl
  | inr z =>
    dsimp only
    split
    · simp only [Option.map_some]
      congr 1
      funext p
      by_cases q1 : p = a
      · subst q1
        rw [put_same, pL_o h1, put_same]
      · rw [put_ne _ _ q1]
        unfold putL
        rw [put_ne _ _ q1]
    · rfl
end IT
