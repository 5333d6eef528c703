/-! mark -/
section S10
variable {d : Nat} {h H : AH} {nx : AN} {i j s n c t g p m a : Nat} {S : CS} {x y z u : Int32} {f q : Nat → Int32}
/-- MARK: what it answers, and the sheet behind it -/
def mkF (q : (Nat → Int32) × (Nat → Int32)) (y z : Int32) : Int32 × ((Nat → Int32) × (Nat → Int32)) :=
  if q.2 1 = -1 then (-1000000011, q)
  else if 0 ≤ y ∧ y < q.2 2 then
    (if q.2 1 = 0 then (if z = -1000000005 then (-1000000012, q) else (1, (upd q.1 y.toNatClampNeg z.toInt16.toInt32, q.2)))
    else if z = -1000000005 ∨ (-99999 ≤ z ∧ z ≤ 99999) then (1, (upd q.1 y.toNatClampNeg z, q.2)) else (-1000000001, q))
  else (-1000000013, q)
theorem upH_id : upH (zH S) i (zH S i) = zH S := by
  funext k
  unfold upH
  by_cases e : k = i
  · rw [if_pos e, e]
  · rw [if_neg e]
theorem sH_id : sH S (upH (zH S) i (zH S i)) = S := by rw [upH_id]; rfl
theorem P_mark (hZ : zOK S) : Dn (d + 3) 106 [.ref 16, .int x, .int y, .int z] (CH h S) nx = if 0 ≤ x ∧ x ≤ 3 then an (mkF (zH S x.toNatClampNeg) y z).1 h (sH S (upH (zH S) x.toNatClampNeg (mkF (zH S x.toNatClampNeg) y z).2)) nx else an (-1000000001) h S nx := by
  by_cases h1 : 0 ≤ x ∧ x ≤ 3
  · rw [if_pos h1]
    obtain ⟨i, hi, rfl⟩ := idxle (m := 3) h1 (by omega)
    have hi4 : i < 4 := by omega
    rw [cl_nI (by omega)]
    obtain ⟨m, hm, hz⟩ := hZ.1 i hi4
    unfold mkF
    rw [hz]
    by_cases h2 : (zH S i).2 1 = -1
    · rw [if_pos h2, sH_id]
      simp only [n_106, e_106_0, e_106_1, e_106_4, e_106_7, e_106_9, e_106_10, e_106_11, e_106_14, e_106_15, e_106_16n, e_106_16i, e_106_16r, e_106_18, e_106_20, e_106_23, e_106_24, e_106_27, e_106_29, c_isSheet, cn_s, pi_if, gO6, rHr hi4, gH1 hi4, Option.bind_some]
      rw [if_pos h1, if_pos h2]; rfl
    rw [if_neg h2]
    by_cases h4 : 0 ≤ y ∧ y < nI m
    · rw [if_pos h4]
      obtain ⟨j, hj, rfl⟩ := idx h4 (by omega)
      have hj24 : j < 24 := by omega
      rw [cl_nI (by omega)]
      simp only [n_106, e_106_0, e_106_1, e_106_4, e_106_7, e_106_9, e_106_10, e_106_11, e_106_14, e_106_15, e_106_16n, e_106_16i, e_106_16r, e_106_18, e_106_20, e_106_23, e_106_24, e_106_27, e_106_29, e_106_30, e_106_32, e_106_33, e_106_36, e_106_39, e_106_42, e_106_43, e_106_45, e_106_48, e_106_51, e_106_52, e_106_54, e_106_57, e_106_59, e_106_60, e_106_62, e_106_65, e_106_66, e_106_67, e_106_68, e_106_69, e_106_70, e_106_71, e_106_72, e_106_74, e_106_77, e_106_78, e_106_81, e_106_84, e_106_87, e_106_90, e_106_92, e_106_93, e_106_95, e_106_98, e_106_99, e_106_100, e_106_101, e_106_102, c_isSheet, c_within, cn_s, pi_if, gO6, rHr hi4, gH0 hi4, gH1 hi4, kH hi4, if_true, H_has hi4 hz hm, wHx hi4 hj24, Option.bind_some]
      rw [if_pos h1, if_neg h2, if_pos h4]
      by_cases h5 : (zH S i).2 1 = 0
      · rw [if_pos h5, if_pos h5]
        by_cases h6 : z = -1000000005
        · rw [if_pos h6, if_pos h6, sH_id]; rfl
        · rw [if_neg h6, if_neg h6]; rfl
      · rw [if_neg h5, if_neg h5]
        by_cases h6 : z = -1000000005
        · rw [if_pos h6, if_pos (Or.inl h6)]; rfl
        · rw [if_neg h6]
          by_cases h7 : -99999 ≤ z ∧ z ≤ 99999
          · rw [if_pos h7, if_pos (Or.inr h7)]; rfl
          · rw [if_neg h7, if_neg (fun q => q.elim h6 h7), sH_id]; rfl
    · rw [if_neg h4, sH_id]
      simp only [n_106, e_106_0, e_106_1, e_106_4, e_106_7, e_106_9, e_106_10, e_106_11, e_106_14, e_106_15, e_106_16n, e_106_16i, e_106_16r, e_106_18, e_106_20, e_106_23, e_106_24, e_106_27, e_106_29, e_106_30, e_106_32, e_106_33, e_106_36, e_106_39, e_106_42, c_isSheet, cn_s, pi_if, gO6, rHr hi4, gH1 hi4, kH hi4, if_true, H_has hi4 hz hm, Option.bind_some]
      rw [if_pos h1, if_neg h2, if_neg h4]; rfl
  · rw [if_neg h1]
    simp only [n_106, e_106_0, e_106_1, e_106_4, e_106_7, e_106_9, c_isSheet, cn_s, pi_if]
    rw [if_neg h1]; rfl
end S10
