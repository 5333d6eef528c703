/-! slots: rest -/
section S4
variable {d : Nat} {h : AH} {nx : AN} {i j s n c t g p m : Nat} {S : CS} {x y z u : Int32}
theorem P_rest : Dn (d + 3) 114 [.ref 16, .int x, .int y] (CH h S) nx = an (if 0 ≤ x ∧ x ≤ 4 then (if (zP S x.toNatClampNeg).2.2 3 = 0 then -1000000011 else if (zP S x.toNatClampNeg).2.2 3 = 3 then (if y = 0 then -1000000002 else (zP S x.toNatClampNeg).2.2 4 - (zP S x.toNatClampNeg).2.2 4 / y * y) else -1000000012) else -1000000001) h S nx := by
  by_cases h1 : 0 ≤ x ∧ x ≤ 4
  · rw [if_pos h1]
    obtain ⟨i, hi, rfl⟩ := idxle (m := 4) h1 (by omega)
    have hi5 : i < 5 := by omega
    rw [cl_nI (by omega)]
    simp only [n_114, e_114_0, e_114_1, e_114_4, e_114_7, e_114_9, e_114_10, e_114_11, e_114_14, e_114_15, e_114_16n, e_114_16i, e_114_16r, e_114_17, e_114_18, e_114_21, e_114_24, e_114_26, e_114_27, e_114_28, e_114_31, e_114_32, e_114_35, e_114_37, e_114_38, e_114_39, e_114_42, e_114_45, e_114_48, e_114_49, e_114_52, e_114_53, e_114_54, c_isSlot, cn_s, pi_if, gO7, rPr hi5, gP2 hi5, gP3 hi5, Option.bind_some]
    rw [if_pos h1]
    by_cases h2 : (zP S i).2.2 3 = 0
    · rw [if_pos h2, if_pos h2]; rfl
    rw [if_neg h2, if_neg h2]
    by_cases h3 : (zP S i).2.2 3 = 3
    · rw [if_pos h3, if_pos h3]
      by_cases h4 : y = 0
      · rw [if_pos h4, if_pos h4]; rfl
      · rw [if_neg h4, if_neg h4]
        first | rfl | (rw [if_neg h4]; rfl)
    · rw [if_neg h3, if_neg h3]; rfl
  · rw [if_neg h1]
    simp only [n_114, e_114_0, e_114_1, e_114_4, e_114_7, e_114_9, c_isSlot, cn_s, pi_if]
    rw [if_neg h1]; rfl
end S4
