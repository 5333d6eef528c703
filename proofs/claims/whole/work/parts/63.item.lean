/-! the sheet in a slot: item -/
section S7
variable {d : Nat} {h H : AH} {nx : AN} {i j s n c t g p m a : Nat} {S : CS} {x y z u : Int32} {f : Nat → Int32}
theorem c_shas (g2 : gF H a 5 2 = some (.int (nI m))) (hm : m ≤ 24) : Dn (d + 1) 57 [.ref a, .int x] H nx = some (some (.int (pi (0 ≤ x ∧ x < nI m))), H, nx) := by
  simp only [n_57, e_57_0, e_57_1, e_57_4, e_57_5, e_57_6, e_57_9, e_57_12, e_57_13, e_57_15, e_57_18, e_57_19, e_57_22, e_57_23, g2, Option.bind_some, nR_b0, nR_b1, if_true]
  by_cases h1 : x < 0
  · have h2 : ¬ 0 ≤ x := by rw [i_nle]; exact h1
    simp [h1, h2, pi]
  · have h2 : 0 ≤ x := by rw [← i_nlt]; exact h1
    by_cases h3 : nI m ≤ x
    · have h4 : ¬ x < nI m := by rw [i_nlt]; exact h3
      simp [h1, h2, h3, h4, pi]
    · have h4 : x < nI m := by rw [← i_nle]; exact h3
      have h5 : x < 24 := by
        have h6 : nI m ≤ 24 := by show nI m ≤ nI 24; exact nI_le hm (by omega)
        exact Int32.lt_of_lt_of_le h4 h6
      have h7 : ¬ 24 ≤ x := by rw [i_nle]; exact h5
      simp [h1, h2, h3, h4, h7, pi]
theorem c_shasNumber (g2 : gF H a 5 2 = some (.int (nI m))) (hm : m ≤ 24) (g0 : gF H a 5 0 = some (.ref p)) (kk : ck H a 5 = true) (rx : ∀ j, j < 24 → rX H p (nI j) = some (f j)) : Dn (d + 2) 56 [.ref a, .int x] H nx = some (some (.int (pi ((0 ≤ x ∧ x < nI m) ∧ ¬ f x.toNatClampNeg = -1000000005))), H, nx) := by
  by_cases h1 : 0 ≤ x ∧ x < nI m
  · obtain ⟨j, hj, rfl⟩ := idx h1 (by omega)
    rw [cl_nI (by omega)]
    simp only [n_56, e_56_0, e_56_1, e_56_2, e_56_5, e_56_8, e_56_9, e_56_12, e_56_13, e_56_14, e_56_16, e_56_19, e_56_20, e_56_23, e_56_24, g0, kk, if_true, c_shas g2 hm, cn_s, pi_if, rx j (by omega), Option.bind_some, nR_b0, nR_b1]
    rw [if_pos h1]
    by_cases h2 : f j = -1000000005
    · rw [if_pos h2]; simp [pi, h2]
    · rw [if_neg h2]; simp [pi, h2, h1]
  · simp only [n_56, e_56_0, e_56_1, e_56_2, e_56_5, e_56_23, e_56_24, kk, if_true, c_shas g2 hm, cn_s, pi_if, nR_b0]
    rw [if_neg h1]
    have h3 : ¬ ((0 ≤ x ∧ x < nI m) ∧ ¬ f x.toNatClampNeg = -1000000005) := fun q => h1 q.1
    unfold pi
    rw [if_neg h3]
theorem gV0 (hi : i < 5) : gF (CH h S) (105 + 4 * i) 5 0 = some (.ref (106 + 4 * i)) := by unfold gF; rw [CH_ss hi]; rfl
theorem gV1 (hi : i < 5) : gF (CH h S) (105 + 4 * i) 5 1 = some (.int ((zP S i).2.2 1)) := by unfold gF; rw [CH_ss hi]; rfl
theorem gV2 (hi : i < 5) : gF (CH h S) (105 + 4 * i) 5 2 = some (.int ((zP S i).2.2 2)) := by unfold gF; rw [CH_ss hi]; rfl
theorem kV (hi : i < 5) : ck (CH h S) (105 + 4 * i) 5 = true := by unfold ck; rw [CH_ss hi]; rfl
theorem rVx (hi : i < 5) (hj : j < 24) : rX (CH h S) (106 + 4 * i) (nI j) = some ((zP S i).2.1 j) := by
  have e : rI (CH h S) (106 + 4 * i) (nI j) 0 = some ((zP S i).2.1 (nI j).toNatClampNeg) := by
    unfold rI
    rw [CH_sq hi]
    dsimp only
    rw [if_pos ⟨rfl, ib_nI hj (by omega)⟩]
  unfold rX
  rw [e, cl_nI (by omega)]
end S7
