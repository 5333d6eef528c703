/-! sheets in the whole heap: has, hasNumber -/
section S2
variable {d : Nat} {h : AH} {nx : AN} {i j s n c t g p m : Nat} {S : CS} {x y z u : Int32}
theorem H_has (hi : i < 4) (hz : (zH S i).2 2 = nI m) (hm : m ≤ 24) : Dn (d + 1) 57 [.ref (95 + 2 * i), .int x] (CH h S) nx = some (some (.int (pi (0 ≤ x ∧ x < nI m))), CH h S, nx) := by
  simp only [n_57, e_57_0, e_57_1, e_57_4, e_57_5, e_57_6, e_57_9, e_57_12, e_57_13, e_57_15, e_57_18, e_57_19, e_57_22, e_57_23, gH2 hi, hz, Option.bind_some, nR_b0, nR_b1, if_true]
  by_cases h1 : x < 0
  · have h2 : ¬ 0 ≤ x := by rw [i_nle]; exact h1
    simp [h1, h2, pi]
  · have h2 : 0 ≤ x := by rw [← i_nlt]; exact h1
    by_cases h3 : nI m ≤ x
    · have h4 : ¬ x < nI m := by rw [i_nlt]; exact h3
      simp [h1, h2, h3, h4, pi]
    · have h4 : x < nI m := by rw [← i_nle]; exact h3
      have h5 : x < 24 := by
        have h6 : nI m ≤ 24 := by show nI m ≤ nI 24; exact nI_le hm (by omega)
        exact Int32.lt_of_lt_of_le h4 h6
      have h7 : ¬ 24 ≤ x := by rw [i_nle]; exact h5
      simp [h1, h2, h3, h4, h7, pi]
theorem H_hasNumber (hi : i < 4) (hz : (zH S i).2 2 = nI m) (hm : m ≤ 24) : Dn (d + 2) 56 [.ref (95 + 2 * i), .int x] (CH h S) nx = some (some (.int (pi ((0 ≤ x ∧ x < nI m) ∧ ¬ (zH S i).1 x.toNatClampNeg = -1000000005))), CH h S, nx) := by
  by_cases h1 : 0 ≤ x ∧ x < nI m
  · obtain ⟨j, hj, rfl⟩ := idx h1 (by omega)
    rw [cl_nI (by omega)]
    simp only [n_56, e_56_0, e_56_1, e_56_2, e_56_5, e_56_8, e_56_9, e_56_12, e_56_13, e_56_14, e_56_16, e_56_19, e_56_20, e_56_23, e_56_24, gH0 hi, kH hi, if_true, H_has hi hz hm, cn_s, pi_if, rHx hi (show j < 24 by omega), Option.bind_some, nR_b0, nR_b1]
    rw [if_pos h1]
    by_cases h2 : (zH S i).1 j = -1000000005
    · rw [if_pos h2]; simp [pi, h2]
    · rw [if_neg h2]; simp [pi, h2, h1]
  · simp only [n_56, e_56_0, e_56_1, e_56_2, e_56_5, e_56_23, e_56_24, kH hi, if_true, H_has hi hz hm, cn_s, pi_if, nR_b0]
    rw [if_neg h1]
    have h3 : ¬ ((0 ≤ x ∧ x < nI m) ∧ ¬ (zH S i).1 x.toNatClampNeg = -1000000005) := fun q => h1 q.1
    unfold pi
    rw [if_neg h3]
end S2
