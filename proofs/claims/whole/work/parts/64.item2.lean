/-! item -/
section S8
variable {d : Nat} {h H : AH} {nx : AN} {i j s n c t g p m a : Nat} {S : CS} {x y z u : Int32} {f : Nat → Int32}
/-- sizes of the sheets and of the slots' sheets -/
def zOK (S : CS) : Prop := (∀ i, i < 4 → ∃ m, m ≤ 24 ∧ (zH S i).2 2 = nI m) ∧ ∀ i, i < 5 → ∃ m, m ≤ 24 ∧ (zP S i).2.2 2 = nI m
def itF (q : (Nat → Int32) × (Nat → Int32) × (Nat → Int32)) (y : Int32) : Int32 := if q.2.2 3 = 0 then -1000000011 else if q.2.2 3 = 2 then (if 0 ≤ y ∧ y < q.2.2 2 then (if q.2.1 y.toNatClampNeg = -1000000005 then -1000000012 else q.2.1 y.toNatClampNeg) else -1000000013) else -1000000012
theorem P_item (hZ : zOK S) : Dn (d + 3) 113 [.ref 16, .int x, .int y] (CH h S) nx = an (if 0 ≤ x ∧ x ≤ 4 then itF (zP S x.toNatClampNeg) y else -1000000001) h S nx := by
  by_cases h1 : 0 ≤ x ∧ x ≤ 4
  · rw [if_pos h1]
    obtain ⟨i, hi, rfl⟩ := idxle (m := 4) h1 (by omega)
    have hi5 : i < 5 := by omega
    rw [cl_nI (by omega)]
    obtain ⟨m, hm, hz⟩ := hZ.2 i hi5
    have g2 : gF (CH h S) (105 + 4 * i) 5 2 = some (.int (nI m)) := by rw [gV2 hi5, hz]
    unfold itF
    rw [hz]
    by_cases h2 : (zP S i).2.2 3 = 0
    · rw [if_pos h2]
      simp only [n_113, e_113_0, e_113_1, e_113_4, e_113_7, e_113_9, e_113_10, e_113_11, e_113_14, e_113_15, e_113_16n, e_113_16i, e_113_16r, e_113_17, e_113_18, e_113_21, e_113_24, e_113_26, c_isSlot, cn_s, pi_if, gO7, rPr hi5, gP2 hi5, Option.bind_some]
      rw [if_pos h1, if_pos h2]; rfl
    rw [if_neg h2]
    by_cases h3 : (zP S i).2.2 3 = 2
    · rw [if_pos h3]
      by_cases h4 : 0 ≤ y ∧ y < nI m
      · rw [if_pos h4]
        obtain ⟨j, hj, rfl⟩ := idx h4 (by omega)
        rw [cl_nI (by omega)]
        have e := c_shasNumber (d := d) (nx := nx) (x := nI j) g2 hm (gV0 hi5) (kV hi5) (fun j hj => rVx hi5 hj)
        rw [cl_nI (by omega)] at e
        simp only [n_113, e_113_0, e_113_1, e_113_4, e_113_7, e_113_9, e_113_10, e_113_11, e_113_14, e_113_15, e_113_16n, e_113_16i, e_113_16r, e_113_17, e_113_18, e_113_21, e_113_24, e_113_26, e_113_27, e_113_28, e_113_31, e_113_32, e_113_35, e_113_37, e_113_38, e_113_39, e_113_42, e_113_43, e_113_46, e_113_49, e_113_52, e_113_53, e_113_54, e_113_57, e_113_58, e_113_61, e_113_64, e_113_65, e_113_68, e_113_71, e_113_72, e_113_73, e_113_76, e_113_78, c_isSlot, cn_s, pi_if, gO7, rPr hi5, gP1 hi5, gP2 hi5, gV0 hi5, kV hi5, if_true, c_shas g2 hm, e, rVx hi5 (show j < 24 by omega), Option.bind_some]
        rw [if_pos h1, if_neg h2, if_pos h3, if_pos h4]
        by_cases h5 : (zP S i).2.1 j = -1000000005
        · rw [if_pos h5, if_neg (fun q => q.2 h5)]; rfl
        · rw [if_neg h5, if_pos ⟨h4, h5⟩]; rfl
      · rw [if_neg h4]
        simp only [n_113, e_113_0, e_113_1, e_113_4, e_113_7, e_113_9, e_113_10, e_113_11, e_113_14, e_113_15, e_113_16n, e_113_16i, e_113_16r, e_113_17, e_113_18, e_113_21, e_113_24, e_113_26, e_113_27, e_113_28, e_113_31, e_113_32, e_113_35, e_113_37, e_113_38, e_113_39, e_113_42, e_113_43, e_113_46, e_113_49, e_113_52, c_isSlot, cn_s, pi_if, gO7, rPr hi5, gP1 hi5, gP2 hi5, kV hi5, if_true, c_shas g2 hm, Option.bind_some]
        rw [if_pos h1, if_neg h2, if_pos h3, if_neg h4]; rfl
    · rw [if_neg h3]
      simp only [n_113, e_113_0, e_113_1, e_113_4, e_113_7, e_113_9, e_113_10, e_113_11, e_113_14, e_113_15, e_113_16n, e_113_16i, e_113_16r, e_113_17, e_113_18, e_113_21, e_113_24, e_113_26, e_113_27, e_113_28, e_113_31, e_113_32, e_113_35, e_113_37, c_isSlot, cn_s, pi_if, gO7, rPr hi5, gP2 hi5, Option.bind_some]
      rw [if_pos h1, if_neg h2, if_neg h3]; rfl
  · rw [if_neg h1]
    simp only [n_113, e_113_0, e_113_1, e_113_4, e_113_7, e_113_9, c_isSlot, cn_s, pi_if]
    rw [if_neg h1]; rfl
end S8
