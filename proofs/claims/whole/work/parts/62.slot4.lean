/-! slots: ask -/
section S6
variable {d : Nat} {h : AH} {nx : AN} {i j s n c t g p m : Nat} {S : CS} {x y z u : Int32}
theorem kPw (hi : i < 5) : ck (CH h S) (104 + 4 * i) 7 = true := by unfold ck; rw [CH_sw hi]; rfl
theorem P_ask : Dn (d + 3) 112 [.ref 16, .int x, .int y] (CH h S) nx = an (if (0 ≤ x ∧ x ≤ 4) ∧ (0 ≤ y ∧ y ≤ 5) then (if (zP S x.toNatClampNeg).2.2 3 = 0 then -1000000011 else if (zP S x.toNatClampNeg).2.2 3 = 1 then (if isu ((zP S x.toNatClampNeg).1 0) y then wth ((zP S x.toNatClampNeg).1 0) ((zP S x.toNatClampNeg).1 2) else -1000000012) else -1000000012) else -1000000001) h S nx := by
  by_cases h1 : 0 ≤ x ∧ x ≤ 4
  · by_cases h0 : 0 ≤ y ∧ y ≤ 5
    · rw [if_pos ⟨h1, h0⟩]
      obtain ⟨i, hi, rfl⟩ := idxle (m := 4) h1 (by omega)
      have hi5 : i < 5 := by omega
      rw [cl_nI (by omega)]
      simp only [n_112, e_112_0, e_112_1, e_112_4, e_112_7, e_112_8, e_112_11, e_112_14, e_112_16, e_112_17, e_112_18, e_112_21, e_112_22, e_112_23n, e_112_23i, e_112_23r, e_112_24, e_112_25, e_112_28, e_112_31, e_112_33, e_112_34, e_112_35, e_112_38, e_112_39, e_112_42, e_112_43, e_112_46, e_112_47, e_112_50, e_112_53, e_112_54, e_112_57, e_112_60, e_112_63, e_112_65, c_isSlot, c_isKind, cn_s, pi_if, gO7, rPr hi5, gP0 hi5, gP2 hi5, kPw hi5, if_true, V_isOf hi5, V_worth hi5, Option.bind_some]
      rw [if_pos h1, if_pos h0]
      by_cases h2 : (zP S i).2.2 3 = 0
      · rw [if_pos h2, if_pos h2]; rfl
      rw [if_neg h2, if_neg h2]
      by_cases h3 : (zP S i).2.2 3 = 1
      · rw [if_pos h3, if_pos h3]
        by_cases h4 : isu ((zP S i).1 0) y
        · rw [if_pos h4, if_pos h4]; rfl
        · rw [if_neg h4, if_neg h4]; rfl
      · rw [if_neg h3, if_neg h3]; rfl
    · rw [if_neg (fun q => h0 q.2)]
      simp only [n_112, e_112_0, e_112_1, e_112_4, e_112_7, e_112_8, e_112_11, e_112_14, e_112_16, c_isSlot, c_isKind, cn_s, pi_if]
      rw [if_pos h1, if_neg h0]; rfl
  · rw [if_neg (fun q => h1 q.1)]
    simp only [n_112, e_112_0, e_112_1, e_112_4, e_112_7, e_112_8, e_112_11, e_112_14, e_112_16, c_isSlot, c_isKind, cn_s, pi_if]
    rw [if_neg h1]; rfl
end S6
