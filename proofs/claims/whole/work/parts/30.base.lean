/-! plain things -/
def pi (p : Prop) [Decidable p] : Int32 := if p then 1 else 0
theorem pi_if {α : Type} (p : Prop) [Decidable p] (A B : α) : (if pi p = 0 then A else B) = if p then B else A := by
  by_cases h : p
  · simp [pi, h]
  · simp [pi, h]
theorem nR_pi (p : Prop) [Decidable p] : nR .boolean (pi p) = true := by
  by_cases h : p
  · simp only [pi, h, if_true]; exact nR_b1
  · simp only [pi, h, if_false]; exact nR_b0
theorem pi_01 (p : Prop) [Decidable p] : (pi p = 0 ∨ pi p = 1) = True := by
  by_cases h : p <;> simp [pi, h]
theorem i_nlt (a b : Int32) : (¬ a < b) = (b ≤ a) := propext Int32.not_lt
theorem i_nle (a b : Int32) : (¬ a ≤ b) = (b < a) := propext Int32.not_le
section B1
variable {d : Nat} {h : AH} {nx : AN} {x y z : Int32}
theorem c_min : Dn (d + 1) 211 [.int x, .int y] h nx = some (some (.int (if y < x then y else x)), h, nx) := by
  simp only [n_211, e_211_0, e_211_1, e_211_2, e_211_5, e_211_6, e_211_9, e_211_10]
  split <;> rfl
theorem c_max : Dn (d + 1) 212 [.int x, .int y] h nx = some (some (.int (if x < y then y else x)), h, nx) := by
  simp only [n_212, e_212_0, e_212_1, e_212_2, e_212_5, e_212_6, e_212_9, e_212_10]
  split <;> rfl
theorem c_abs : Dn (d + 1) 214 [.int x] h nx = some (some (.int (if 0 ≤ x then x else -x)), h, nx) := by
  simp only [n_214, e_214_0, e_214_1, e_214_4, e_214_5, e_214_6, e_214_9, e_214_10]
  split <;> rfl
theorem c_within : Dn (d + 1) 74 [.int x, .int y, .int z] h nx = some (some (.int (pi (y ≤ x ∧ x ≤ z))), h, nx) := by
  simp only [n_74, e_74_0, e_74_1, e_74_2, e_74_5, e_74_6, e_74_7, e_74_10, e_74_11, e_74_14, e_74_15, nR_b0, nR_b1, if_true]
  by_cases h1 : x < y
  · have h2 : ¬ y ≤ x := by rw [i_nle]; exact h1
    simp [h1, h2, pi]
  · have h2 : y ≤ x := by rw [← i_nlt]; exact h1
    by_cases h3 : z < x
    · have h4 : ¬ x ≤ z := by rw [i_nle]; exact h3
      simp [h1, h2, h3, h4, pi]
    · have h4 : x ≤ z := by rw [← i_nlt]; exact h3
      simp [h1, h2, h3, h4, pi]
theorem c_min_in : Dn (d + 1) 123 [.int x, .int y, .int z] h nx = some (some (.int (pi (y ≤ x ∧ x ≤ z))), h, nx) := by
  simp only [n_123, e_123_0, e_123_1, e_123_2, e_123_5, e_123_6, e_123_7, e_123_10, e_123_11, e_123_14, e_123_15, nR_b0, nR_b1, if_true]
  by_cases h1 : x < y
  · have h2 : ¬ y ≤ x := by rw [i_nle]; exact h1
    simp [h1, h2, pi]
  · have h2 : y ≤ x := by rw [← i_nlt]; exact h1
    by_cases h3 : z < x
    · have h4 : ¬ x ≤ z := by rw [i_nle]; exact h3
      simp [h1, h2, h3, h4, pi]
    · have h4 : x ≤ z := by rw [← i_nlt]; exact h3
      simp [h1, h2, h3, h4, pi]
theorem c_isKind : Dn (d + 2) 73 [.int x] h nx = some (some (.int (pi (0 ≤ x ∧ x ≤ 5))), h, nx) := by
  simp only [n_73, e_73_0, e_73_1, e_73_2, e_73_3, e_73_6, c_within, cn_s, nR_pi, if_true]
theorem c_isSheet : Dn (d + 2) 96 [.int x] h nx = some (some (.int (pi (0 ≤ x ∧ x ≤ 3))), h, nx) := by
  simp only [n_96, e_96_0, e_96_1, e_96_2, e_96_3, e_96_6, c_within, cn_s, nR_pi, if_true]
theorem c_isSlot : Dn (d + 2) 111 [.int x] h nx = some (some (.int (pi (0 ≤ x ∧ x ≤ 4))), h, nx) := by
  simp only [n_111, e_111_0, e_111_1, e_111_2, e_111_3, e_111_6, c_within, cn_s, nR_pi, if_true]
theorem c_misSheet : Dn (d + 2) 175 [.int x] h nx = some (some (.int (pi (0 ≤ x ∧ x ≤ 3))), h, nx) := by
  simp only [n_175, e_175_0, e_175_1, e_175_2, e_175_3, e_175_6, c_min_in, cn_s, nR_pi, if_true]
theorem c_misSlot : Dn (d + 2) 201 [.int x] h nx = some (some (.int (pi (0 ≤ x ∧ x ≤ 4))), h, nx) := by
  simp only [n_201, e_201_0, e_201_1, e_201_2, e_201_3, e_201_6, c_min_in, cn_s, nR_pi, if_true]
theorem c_misCell : Dn (d + 2) 145 [.int x] h nx = some (some (.int (pi (0 ≤ x ∧ x ≤ 23))), h, nx) := by
  simp only [n_145, e_145_0, e_145_1, e_145_2, e_145_4, e_145_7, c_min_in, cn_s, nR_pi, if_true]
/-- held within bounds -/
def hld (x y z : Int32) : Int32 := if x < y then y else if z < x then z else x
theorem c_mwithin : Dn (d + 1) 133 [.int x, .int y, .int z] h nx = some (some (.int (hld x y z)), h, nx) := by
  simp only [n_133, e_133_0, e_133_1, e_133_2, e_133_5, e_133_6, e_133_9, e_133_10, e_133_11, e_133_14, e_133_15, e_133_18, e_133_19, hld]
  by_cases h1 : x < y
  · have h2 : ¬ y ≤ x := by rw [i_nle]; exact h1
    simp [h1, h2]
  · have h2 : y ≤ x := by rw [← i_nlt]; exact h1
    by_cases h3 : z < x
    · have h4 : ¬ x ≤ z := by rw [i_nle]; exact h3
      simp [h1, h2, h3, h4]
    · have h4 : x ≤ z := by rw [← i_nlt]; exact h3
      simp [h1, h2, h3, h4]
theorem c_told0 : Dn (d + 1) 161 [.int x] h nx = some (some (.int (if x < 0 then -1000000005 else x)), h, nx) := by
  simp only [n_161, e_161_0, e_161_1, e_161_4, e_161_6, e_161_9, e_161_10]
  by_cases h1 : x < 0
  · have h2 : ¬ 0 ≤ x := by rw [i_nle]; exact h1
    simp [h1, h2]
  · have h2 : 0 ≤ x := by rw [← i_nlt]; exact h1
    simp [h1, h2]
theorem c_held (hyz : y ≤ z) : Dn (d + 2) 76 [.int x, .int y, .int z] h nx = some (some (.int (hld x y z)), h, nx) := by
  simp only [n_76, e_76_0, e_76_1, e_76_2, e_76_3, e_76_6, e_76_9, c_min, c_max, cn_s]
  congr 4
  unfold hld
  by_cases h1 : x < z
  · rw [if_pos h1]
    have h3 : ¬ z < x := by rw [i_nlt]; exact Int32.le_of_lt h1
    rw [if_neg h3]
    by_cases h2 : y < x
    · rw [if_pos h2, if_neg (by rw [i_nlt]; exact Int32.le_of_lt h2)]
    · rw [if_neg h2]
      by_cases h4 : x < y
      · rw [if_pos h4]
      · rw [if_neg h4]
        rw [i_nlt] at h2 h4
        exact Int32.le_antisymm h4 h2
  · rw [if_neg h1]
    rw [i_nlt] at h1
    have h5 : ¬ x < y := by rw [i_nlt]; exact Int32.le_trans hyz h1
    rw [if_neg h5]
    by_cases h2 : y < z
    · rw [if_pos h2]
      by_cases h3 : z < x
      · rw [if_pos h3]
      · rw [if_neg h3]
        rw [i_nlt] at h3
        exact Int32.le_antisymm h1 h3
    · rw [if_neg h2]
      rw [i_nlt] at h2
      have e : y = z := Int32.le_antisymm hyz h2
      subst e
      by_cases h3 : y < x
      · rw [if_pos h3]
      · rw [if_neg h3]
        rw [i_nlt] at h3
        exact Int32.le_antisymm h1 h3
end B1
