/-! the law: its loop -/
section LL
variable {d : Nat} {h0 hp : AH} {nx : AN} {xs : Nat → Int32} {i j k L : Nat} {x : Int32}
theorem op_all (hx : xR h0) (h0s : h0 0 = .inl (20, L, .inl xs)) (hL : L < 2147483648) (hi : i + 6 ≤ L) (hp0 : JR h0 hp) (hj : j < 64) : ∃ hp', JR h0 hp' ∧ Df (d + 203) 226 (opT.getD j 1388) [.ref 0, .ref 16, .ref 123, .int (nI i)] [] hp nx = Df (d + 203) 226 1388 [.ref 0, .ref 16, .ref 123, .int (nI i)] [] hp' nx := by
  by_cases c : 40 ≤ j
  · refine ⟨hp, hp0, ?_⟩
    rw [List.getD_eq_getElem?_getD, List.getElem?_eq_none (show opT.length ≤ j by show 40 ≤ j; omega)]
    rfl
  obtain ⟨S, M, K, s, t, H, a0, n, m, hR, rfl⟩ := hp0
  by_cases e : j = 0
  · subst e; exact op_0 hx h0s hL hi hR
  by_cases e : j = 1
  · subst e; exact op_1 hx h0s hL hi hR
  by_cases e : j = 2
  · subst e; exact op_2 hx h0s hL hi hR
  by_cases e : j = 3
  · subst e; exact op_3 hx h0s hL hi hR
  by_cases e : j = 4
  · subst e; exact op_4 hx h0s hL hi hR
  by_cases e : j = 5
  · subst e; exact op_5 hx h0s hL hi hR
  by_cases e : j = 6
  · subst e; exact op_6 hx h0s hL hi hR
  by_cases e : j = 7
  · subst e; exact op_7 hx h0s hL hi hR
  by_cases e : j = 8
  · subst e; exact op_8 hx h0s hL hi hR
  by_cases e : j = 9
  · subst e; exact op_9 hx h0s hL hi hR
  by_cases e : j = 10
  · subst e; exact op_10 hx h0s hL hi hR
  by_cases e : j = 11
  · subst e; exact op_11 hx h0s hL hi hR
  by_cases e : j = 12
  · subst e; exact op_12 hx h0s hL hi hR
  by_cases e : j = 13
  · subst e; exact op_13 hx h0s hL hi hR
  by_cases e : j = 14
  · subst e; exact op_14 hx h0s hL hi hR
  by_cases e : j = 15
  · subst e; exact op_15 hx h0s hL hi hR
  by_cases e : j = 16
  · subst e; exact op_16 hx h0s hL hi hR
  by_cases e : j = 17
  · subst e; exact op_17 hx h0s hL hi hR
  by_cases e : j = 18
  · subst e; exact op_18 hx h0s hL hi hR
  by_cases e : j = 19
  · subst e; exact op_19 hx h0s hL hi hR
  by_cases e : j = 20
  · subst e; exact op_20 hx h0s hL hi hR
  by_cases e : j = 21
  · subst e; exact op_21 hx h0s hL hi hR
  by_cases e : j = 22
  · subst e; exact op_22 hx h0s hL hi hR
  by_cases e : j = 23
  · subst e; exact op_23 hx h0s hL hi hR
  by_cases e : j = 24
  · subst e; exact op_24 hx h0s hL hi hR
  by_cases e : j = 25
  · subst e; exact op_25 hx h0s hL hi hR
  by_cases e : j = 26
  · subst e; exact op_26 hx h0s hL hi hR
  by_cases e : j = 27
  · subst e; exact op_27 hx h0s hL hi hR
  by_cases e : j = 28
  · subst e; exact op_28 hx h0s hL hi hR
  by_cases e : j = 29
  · subst e; exact op_29 hx h0s hL hi hR
  by_cases e : j = 30
  · subst e; exact op_30 hx h0s hL hi hR
  by_cases e : j = 31
  · subst e; exact op_31 hx h0s hL hi hR
  by_cases e : j = 32
  · subst e; exact op_32 hx h0s hL hi hR
  by_cases e : j = 33
  · subst e; exact op_33 hx h0s hL hi hR
  by_cases e : j = 34
  · subst e; exact op_34 hx h0s hL hi hR
  by_cases e : j = 35
  · subst e; exact op_35 hx h0s hL hi hR
  by_cases e : j = 36
  · subst e; exact op_36 hx h0s hL hi hR
  by_cases e : j = 37
  · subst e; exact op_37 hx h0s hL hi hR
  by_cases e : j = 38
  · subst e; exact op_38 hx h0s hL hi hR
  by_cases e : j = 39
  · subst e; exact op_39 hx h0s hL hi hR
  omega
theorem and63 (x : Int32) : ∃ j, j < 64 ∧ x &&& 63 = nI j := by
  refine ⟨(x &&& 63).toBitVec.toNat, ?_, ?_⟩
  · have e : (x &&& 63).toBitVec = x.toBitVec &&& 63#32 := rfl
    rw [e, BitVec.toNat_and]
    have : x.toBitVec.toNat &&& (63#32).toNat ≤ (63#32).toNat := Nat.and_le_right
    exact Nat.lt_of_le_of_lt this (by decide)
  · apply Int32.toBitVec_inj.mp
    simp [nI]
theorem at_end (hL : L ≤ 3072) (hi : i ≤ 4000) : (nI L - 6 < nI i) = (L < i + 6) := by
  apply propext
  have e1 : (nI L).toInt = L := nI_toInt (by omega)
  have e2 : (nI i).toInt = i := nI_toInt (by omega)
  have e3 : (nI L - 6).toInt = (L : Int) - 6 := by
    rw [Int32.toInt_sub, e1]
    exact Int.bmod_eq_of_le (by show -(4294967296 / 2) ≤ (L : Int) - 6; omega) (by show (L : Int) - 6 < (4294967296 + 1) / 2; omega)
  rw [Int32.lt_iff_toInt_lt, e2, e3]
  omega
theorem JR_0 (h0s : h0 0 = .inl (20, L, .inl xs)) (hp0 : JR h0 hp) : hp 0 = .inl (20, L, .inl xs) := by
  obtain ⟨S, M, K, s, t, H, a0, n, m, hR, rfl⟩ := hp0
  exact h0s
theorem rX_0 (h : hp 0 = .inl (20, L, .inl xs)) (hL : L < 2147483648) (hk : k < L) : rX hp 0 (nI k) = some (xs k) := by
  unfold rX rI
  rw [h]
  simp [ib_nI hk hL, cl_nI (show k < 2147483648 by omega)]
theorem aL_0 (h : hp 0 = .inl (20, L, .inl xs)) : aL hp 0 = some (nI L) := by
  unfold aL
  rw [h]
  rfl
theorem law_loop (hx : xR h0) (h0s : h0 0 = .inl (20, L, .inl xs)) (hL : L ≤ 3072) (r : Nat) : ∀ (i : Nat) (hp : AH), JR h0 hp → L < i + 6 * r + 6 → i ≤ L → ∃ hp', Df (d + 203) 226 18 [.ref 0, .ref 16, .ref 123, .int (nI i)] [] hp nx = some (some (.int 1), hp', nx) := by
  induction r with
  | zero =>
    intro i hp hJ h1 h2
    refine ⟨hp, ?_⟩
    have e0 := JR_0 h0s hJ
    rw [e_226_18]
    simp only [e_226_19, e_226_20, e_226_21, e_226_23, e_226_24, e_226_1394, e_226_1395, aL_0 e0, at_end hL (show i ≤ 4000 by omega), Option.bind_some, nR_b1, if_true]
    rw [if_pos (by omega)]
  | succ r ih =>
    intro i hp hJ h1 h2
    have e0 := JR_0 h0s hJ
    by_cases c : L < i + 6
    · refine ⟨hp, ?_⟩
      rw [e_226_18]
      simp only [e_226_19, e_226_20, e_226_21, e_226_23, e_226_24, e_226_1394, e_226_1395, aL_0 e0, at_end hL (show i ≤ 4000 by omega), Option.bind_some, nR_b1, if_true]
      rw [if_pos c]
    · obtain ⟨j, hj, ej⟩ := and63 (xs i)
      obtain ⟨hp1, hJ1, e1⟩ := op_all (d := d) (nx := nx) hx h0s (by omega) (show i + 6 ≤ L by omega) hJ hj
      obtain ⟨hp2, e2⟩ := ih (i + 6) hp1 hJ1 (by omega) (by omega)
      refine ⟨hp2, ?_⟩
      rw [e_226_18]
      simp only [e_226_19, e_226_20, e_226_21, e_226_23, e_226_24, e_226_27, e_226_28, e_226_29, e_226_30, e_226_32, aL_0 e0, at_end hL (show i ≤ 4000 by omega), rX_0 e0 (show L < 2147483648 by omega) (show i < L by omega), ej, Option.bind_some]
      rw [if_neg c, law_sw hj, e1]
      simp only [e_226_1388, e_226_1391]
      rw [show nI i + 6 = nI (i + 6) from nI_add i 6]
      exact e2
end LL
