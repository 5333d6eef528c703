/-! the model's public methods: mark, pour, reads, copy -/
section MS2
variable {d : Nat} {h : AH} {nx : AN} {M M' : MS} {D N : DT} {s H i j c a k n g t m b : Nat} {x y z u v : Int32} {a0 f w : Nat → Int32} {K : (Nat → Int32) × (Nat → Int32)} {l1 l2 l3 l4 l5 : Value} {L : LT} {Sh : ShT} {as : List Nat}
theorem upH_i {Sh : ShT} : upH Sh i (Sh i) = Sh := by
  funext k
  unfold upH
  by_cases e : k = i
  · rw [if_pos e, e]
  · rw [if_neg e]
theorem in_size (hm : m ≤ 24) : (0 ≤ y ∧ y ≤ nI m - 1) = (0 ≤ y ∧ y < nI m) := by
  apply propext
  constructor
  · intro q
    obtain ⟨i, hi, rfl⟩ := idxp q (by omega)
    exact ⟨q.1, nI_lt hi (by omega)⟩
  · intro q
    obtain ⟨i, hi, rfl⟩ := idx q (by omega)
    refine ⟨q.1, ?_⟩
    obtain ⟨m', rfl⟩ : ∃ m', m = m' + 1 := ⟨m - 1, by omega⟩
    rw [nI_pred]
    exact nI_le (by omega) (by omega)
theorem short_V (z : Int32) : shV z.toInt16.toInt32 := by
  right
  have h1 := Int16.le_toInt z.toInt16
  have h2 := Int16.toInt_lt z.toInt16
  have e1 : (-99999 : Int32).toInt = -99999 := by decide
  have e2 : (99999 : Int32).toInt = 99999 := by decide
  rw [Int32.le_iff_toInt_le, Int32.le_iff_toInt_le, Int16.toInt_toInt32, e1, e2]
  omega
theorem rSh_mark (hS : rSh Sh M) (hi : i < 4) (hj : j < 24) (hv : shV v) : rSh (upH Sh i (upd (Sh i).1 j v, (Sh i).2)) (sA M 138 (upd (M.2 138) (24 * i + j) v)) := by
  intro q hq
  obtain ⟨b1, b2, b3, b4, b5⟩ := hS q hq
  unfold rS1
  rw [sA_o (by omega), sA_o (by omega), sA_s]
  by_cases e : q = i
  · subst e
    rw [upH_s]
    refine ⟨b1, b2, b3, b4, fun k hk => ?_⟩
    by_cases e2 : k = j
    · subst e2
      simp only [upd, if_true]
      exact ⟨trivial, hv⟩
    · show upd (M.2 138) (24 * q + j) v (24 * q + k) = upd (Sh q).1 j v k ∧ shV (upd (Sh q).1 j v k)
      rw [show upd (M.2 138) (24 * q + j) v (24 * q + k) = M.2 138 (24 * q + k) from if_neg (by omega), show upd (Sh q).1 j v k = (Sh q).1 k from if_neg e2]
      exact b5 k hk
  · rw [show upH Sh i (upd (Sh i).1 j v, (Sh i).2) q = Sh q from if_neg e]
    refine ⟨b1, b2, b3, b4, fun k hk => ?_⟩
    rw [show upd (M.2 138) (24 * i + j) v (24 * q + k) = M.2 138 (24 * q + k) from if_neg (by omega)]
    exact b5 k hk
theorem sort_ge (hs : x = -1 ∨ x = 0 ∨ x = 1) : (0 ≤ x ↔ ¬ x = -1) ∧ (x < 0 ↔ x = -1) := by
  rcases hs with rfl | rfl | rfl <;> decide
theorem Q_mark (hS : rSh Sh M) : ∃ M', frM [138] M M' ∧ (Dn (d + 3) 196 [.ref 123, .int x, .int y, .int z] (MX h M K D s a0) nx = if 0 ≤ x ∧ x ≤ 3 then am (mkF (Sh x.toNatClampNeg) y z).1 h M' K D s a0 nx else am (-1000000001) h M K D s a0 nx) ∧ ((0 ≤ x ∧ x ≤ 3) → rSh (upH Sh x.toNatClampNeg (mkF (Sh x.toNatClampNeg) y z).2) M') := by
  by_cases h1 : 0 ≤ x ∧ x ≤ 3
  · obtain ⟨i, hi, rfl⟩ := idxle (m := 3) h1 (by omega)
    have hi4 : i < 4 := by omega
    rw [cl_nI (by omega)]
    obtain ⟨b1, b2, b3, ⟨m, b4, hm⟩, b5⟩ := hS i hi4
    obtain ⟨g1, g2⟩ := sort_ge b2
    suffices hsuf : ∃ M', frM [138] M M' ∧ (Dn (d + 3) 196 [.ref 123, .int (nI i), .int y, .int z] (MX h M K D s a0) nx = am (mkF (Sh i) y z).1 h M' K D s a0 nx) ∧ ((0 ≤ nI i ∧ nI i ≤ 3) → rSh (upH Sh i (mkF (Sh i) y z).2) M') by
      obtain ⟨M', f1, f2, f3⟩ := hsuf
      exact ⟨M', f1, by rw [if_pos h1]; exact f2, f3⟩
    unfold mkF
    by_cases c1 : (Sh i).2 1 = -1
    · rw [if_pos c1]
      refine ⟨M, frM.refl, ?_, fun _ => by rw [upH_i]; exact hS⟩
      simp only [n_196, e_196_0, e_196_1, e_196_4, e_196_7, e_196_9, e_196_10, e_196_11, e_196_14, e_196_15, e_196_16, e_196_19, e_196_21, c_misSheet, cn_s, pi_if, gX24, rx136 hi4, b1, Option.bind_some]
      rw [if_pos h1, if_neg (fun q => g1.mp q c1)]; rfl
    rw [if_neg c1, b4]
    by_cases c2 : 0 ≤ y ∧ y < nI m
    · rw [if_pos c2]
      obtain ⟨j, hj, rfl⟩ := idx c2 (by omega)
      have hj24 : j < 24 := by omega
      rw [cl_nI (by omega)]
      have pre : Dn (d + 3) 196 [.ref 123, .int (nI i), .int (nI j), .int z] (MX h M K D s a0) nx = Df (d + 2) 196 42 [.ref 123, .int (nI i), .int (nI j), .int z] [] (MX h M K D s a0) nx := by
        simp only [n_196, e_196_0, e_196_1, e_196_4, e_196_7, e_196_9, e_196_10, e_196_11, e_196_14, e_196_15, e_196_16, e_196_19, e_196_21, e_196_22, e_196_23, e_196_24, e_196_25, e_196_28, e_196_29, e_196_30, e_196_31, e_196_32, e_196_35, c_misSheet, c_min_in, cn_s, pi_if, gX24, gX25, rx136 hi4, rx137 hi4, b1, b3, b4, in_size hm, Option.bind_some]
        rw [if_pos h1, if_pos (g1.mpr c1), if_pos c2]
      have w : ∀ v : Int32, Df (d + 2) 196 117 [.ref 123, .int (nI i), .int (nI j), .int z] [.int v, .int (nI (24 * i + j)), .ref 138] (MX h M K D s a0) nx = am 1 h (sA M 138 (upd (M.2 138) (24 * i + j) v)) K D s a0 nx := fun v => by
        simp only [e_196_117, e_196_118, e_196_119, wx138 (show 24 * i + j < 96 by omega), Option.bind_some]
        rfl
      by_cases c3 : (Sh i).2 1 = 0
      · rw [if_pos c3]
        by_cases c4 : z = -1000000005
        · rw [if_pos c4]
          refine ⟨M, frM.refl, ?_, fun _ => by rw [upH_i]; exact hS⟩
          rw [pre]
          simp only [e_196_42, e_196_43, e_196_46, e_196_47, e_196_48, e_196_51, e_196_52, e_196_54, e_196_57, e_196_59, gX24, rx136 hi4, b1, c3, c4, if_true, Option.bind_some]
          rfl
        · rw [if_neg c4]
          refine ⟨sA M 138 (upd (M.2 138) (24 * i + j) z.toInt16.toInt32), frM.refl.sA (by simp), ?_, fun _ => rSh_mark hS hi4 hj24 (short_V z)⟩
          rw [pre]
          simp only [e_196_42, e_196_43, e_196_46, e_196_47, e_196_48, e_196_51, e_196_52, e_196_54, e_196_57, e_196_59, e_196_60, e_196_61, e_196_64, e_196_65, e_196_66, e_196_67, e_196_92, e_196_93, e_196_96, e_196_98, e_196_99, e_196_100, e_196_101, e_196_102, e_196_103, e_196_106, e_196_107, e_196_108, e_196_111, e_196_112, e_196_113, gX24, gX26, rx136 hi4, b1, c3, c4, if_true, if_false, ix24, show ¬ (0 : Int32) = 1 by decide, w, Option.bind_some]
      · rw [if_neg c3]
        have c1' : (Sh i).2 1 = 1 := (b2.resolve_left c1).resolve_left c3
        by_cases c4 : z = -1000000005 ∨ (-99999 ≤ z ∧ z ≤ 99999)
        · rw [if_pos c4]
          refine ⟨sA M 138 (upd (M.2 138) (24 * i + j) z), frM.refl.sA (by simp), ?_, fun _ => rSh_mark hS hi4 hj24 c4⟩
          rw [pre]
          have e92 : Df (d + 2) 196 92 [.ref 123, .int (nI i), .int (nI j), .int z] [] (MX h M K D s a0) nx = am 1 h (sA M 138 (upd (M.2 138) (24 * i + j) z)) K D s a0 nx := by
            simp only [e_196_92, e_196_93, e_196_96, e_196_98, e_196_99, e_196_100, e_196_101, e_196_102, e_196_103, e_196_106, e_196_107, e_196_108, e_196_116, gX24, gX26, rx136 hi4, b1, c1', ix24, show ¬ (1 : Int32) = 0 by decide, if_false, w, Option.bind_some]
          simp only [e_196_42, e_196_43, e_196_46, e_196_47, e_196_48, e_196_60, e_196_61, e_196_64, e_196_65, e_196_66, e_196_67, e_196_70, e_196_71, e_196_73, e_196_76, e_196_77, e_196_80, e_196_83, e_196_86, gX24, rx136 hi4, b1, c1', show ¬ (1 : Int32) = 0 by decide, if_false, if_true, c_min_in, cn_s, pi_if, e92, Option.bind_some]
          rcases c4 with c5 | c5
          · rw [if_pos c5]
          · rw [if_pos c5, ite_self]
        · rw [if_neg c4]
          refine ⟨M, frM.refl, ?_, fun _ => by rw [upH_i]; exact hS⟩
          rw [pre]
          simp only [e_196_42, e_196_43, e_196_46, e_196_47, e_196_48, e_196_60, e_196_61, e_196_64, e_196_65, e_196_66, e_196_67, e_196_70, e_196_71, e_196_73, e_196_76, e_196_77, e_196_80, e_196_83, e_196_86, e_196_89, e_196_91, gX24, rx136 hi4, b1, c1', show ¬ (1 : Int32) = 0 by decide, if_false, if_true, c_min_in, cn_s, pi_if, Option.bind_some]
          rw [if_neg (fun q => c4 (Or.inl q)), if_neg (fun q => c4 (Or.inr q))]; rfl
    · rw [if_neg c2]
      refine ⟨M, frM.refl, ?_, fun _ => by rw [upH_i]; exact hS⟩
      simp only [n_196, e_196_0, e_196_1, e_196_4, e_196_7, e_196_9, e_196_10, e_196_11, e_196_14, e_196_15, e_196_16, e_196_19, e_196_21, e_196_22, e_196_23, e_196_24, e_196_25, e_196_28, e_196_29, e_196_30, e_196_31, e_196_32, e_196_35, e_196_38, e_196_41, c_misSheet, c_min_in, cn_s, pi_if, gX24, gX25, rx136 hi4, rx137 hi4, b1, b3, b4, in_size hm, Option.bind_some]
      rw [if_pos h1, if_pos (g1.mpr c1), if_neg c2]; rfl
  · refine ⟨M, frM.refl, ?_, fun q => absurd q h1⟩
    rw [if_neg h1]
    simp only [n_196, e_196_0, e_196_1, e_196_4, e_196_7, e_196_9, c_misSheet, cn_s, pi_if]
    rw [if_neg h1]; rfl
theorem poF_end : ∀ (n k : Nat) (p : DT × Int32), m ≤ k → poF f m n k p = p
  | 0, _, _, _ => rfl
  | n + 1, k, (D, x), hk => by
    unfold poF
    rw [if_neg (fun q => by omega)]
    exact poF_end n (k + 1) _ (by omega)
theorem mpour_loop (hi : i < 4) (h137 : M.2 137 i = nI m) (hm : m ≤ 24) (hc : ∀ k, k < 24 → M.2 138 (24 * i + k) = f k) (r : Nat) : ∀ (k : Nat) (D : DT) (x : Int32) (l4 l5 : Value), nr l4 = true → nr l5 = true → k + r = m → Df (d + 1) 197 26 [.ref 123, .int (nI i), .int x, .int (nI k), l4, l5] [] (MX h M K D s a0) nx = am (poF f m (24 - k) k (D, x)).2 h M K (poF f m (24 - k) k (D, x)).1 s a0 nx := by
  induction r with
  | zero =>
    intro k D x l4 l5 h4 h5 hk
    obtain rfl : k = m := by omega
    rw [e_197_26]
    simp only [e_197_27, e_197_28, e_197_31, e_197_32, e_197_33, e_197_107, e_197_108, gX25, rx137 hi, h137, Option.bind_some]
    rw [if_pos (nI_le (Nat.le_refl _) (by omega)), poF_end _ _ _ (Nat.le_refl _)]
    rfl
  | succ r ih =>
    intro k D x l4 l5 h4 h5 hk
    have hk24 : k < 24 := by omega
    rw [e_197_26]
    simp only [e_197_27, e_197_28, e_197_31, e_197_32, e_197_33, e_197_36, e_197_37, e_197_40, e_197_42, e_197_43, e_197_44, e_197_45, e_197_46, gX25, gX26, rx137 hi, h137, ix24, rx138 (show 24 * i + k < 96 by omega), hc k hk24, Option.bind_some]
    rw [if_neg (nI_ge (by omega) (by omega)), e_197_47 h4, show 24 - k = (24 - (k + 1)) + 1 by omega]
    have ix : (11 : Int32) + nI k = nI (11 + k) := nI_add 11 k
    have tail : ∀ to : Int32, Df (d + 1) 197 76 [.ref 123, .int (nI i), .int x, .int (nI k), .int (f k), l5] [.int to] (MX h M K D s a0) nx = Df (d + 1) 197 26 [.ref 123, .int (nI i), .int (if D.1 k = to then x else x + 1), .int (nI (k + 1)), .int (f k), .int to] [] (MX h M K (dwt D k to) s a0) nx := by
      intro to
      have e := c_mbecomes (d := d) (h := h) (nx := nx) (M := M) (K := K) (D := D) (s := s) (a0 := a0) (x := to) (k := 11 + k) (by omega) (up_c hk24)
      rw [en_c hk24] at e
      rw [e_197_76 h5]
      simp only [e_197_78, e_197_79, e_197_80, e_197_82, e_197_83, e_197_84, e_197_86, e_197_89, e_197_91, e_197_94, e_197_95, e_197_98, e_197_99, e_197_100n, e_197_100i, e_197_100r, e_197_101, e_197_104, ix, kX, if_true, e, cn_s, nI_1]
      by_cases c : D.1 k = to
      · rw [if_pos c, if_pos c, Int32.add_zero]
      · rw [if_neg c, if_neg c]
    unfold poF
    by_cases c : f k = -1000000005
    · rw [if_neg (show ¬ (k < m ∧ ¬ f k = -1000000005) from fun q => q.2 c)]
      simp only [e_197_49, e_197_51, e_197_53, e_197_56, e_197_57, e_197_60, e_197_62, e_197_63, e_197_64, e_197_65, gX0, ix, rxc hk24, Option.bind_some, c, if_true]
      rw [c] at tail
      rw [tail, if_pos rfl, dwt_id]
      exact ih (k + 1) D x _ _ (nr_i _) (nr_i _) (by omega)
    · rw [if_pos (show k < m ∧ ¬ f k = -1000000005 from ⟨by omega, c⟩)]
      simp only [e_197_49, e_197_51, e_197_53, e_197_68, e_197_70, e_197_71, e_197_73, c_mwithin, cn_s, c, if_false]
      rw [tail]
      exact ih (k + 1) _ _ _ _ (nr_i _) (nr_i _) (by omega)
theorem Q_pour (hS : rSh Sh M) : Dn (d + 3) 197 [.ref 123, .int x] (MX h M K D s a0) nx = if 0 ≤ x ∧ x ≤ 3 then (if (Sh x.toNatClampNeg).2 1 = -1 then am (-1000000011) h M K D s a0 nx else am (poF (Sh x.toNatClampNeg).1 ((Sh x.toNatClampNeg).2 2).toNatClampNeg 24 0 (D, 0)).2 h M K (poF (Sh x.toNatClampNeg).1 ((Sh x.toNatClampNeg).2 2).toNatClampNeg 24 0 (D, 0)).1 s a0 nx) else am (-1000000001) h M K D s a0 nx := by
  by_cases h1 : 0 ≤ x ∧ x ≤ 3
  · rw [if_pos h1]
    obtain ⟨i, hi, rfl⟩ := idxle (m := 3) h1 (by omega)
    have hi4 : i < 4 := by omega
    rw [cl_nI (by omega)]
    obtain ⟨b1, b2, b3, ⟨m, b4, hm⟩, b5⟩ := hS i hi4
    obtain ⟨g1, g2⟩ := sort_ge b2
    simp only [n_197, e_197_0, e_197_1, e_197_4, e_197_7, e_197_9, e_197_10, e_197_11, e_197_14, e_197_15, e_197_16, e_197_19, e_197_21, e_197_22, e_197_23n, e_197_23i, e_197_23r, e_197_24, e_197_25n, e_197_25i, e_197_25r, c_misSheet, cn_s, pi_if, gX24, rx136 hi4, b1, Option.bind_some]
    rw [if_pos h1]
    by_cases c1 : (Sh i).2 1 = -1
    · rw [if_neg (fun q => g1.mp q c1), if_pos c1]; rfl
    · rw [if_pos (g1.mpr c1), if_neg c1, b4, cl_nI (by omega)]
      exact mpour_loop (f := (Sh i).1) hi4 (b3.trans b4) hm (fun k hk => (b5 k hk).1) m 0 D 0 .null .null nr_n nr_n (by omega)
  · rw [if_neg h1]
    simp only [n_197, e_197_0, e_197_1, e_197_4, e_197_7, e_197_9, c_misSheet, cn_s, pi_if]
    rw [if_neg h1]; rfl
theorem reF_end {W : Nat → Nat → Int32} : ∀ (n k : Nat), m ≤ k → reF f m s W n k = -1000000005
  | 0, _, _ => rfl
  | n + 1, k, hk => by
    unfold reF
    rw [if_neg (fun q => by omega)]
    exact reF_end n (k + 1) (by omega)
theorem mreads_loop (hD : dI D s) (hi : i < 4) (h137 : M.2 137 i = nI m) (hm : m ≤ 24) (hc : ∀ k, k < 24 → M.2 138 (24 * i + k) = f k) (r : Nat) : ∀ (k : Nat) (l3 : Value), nr l3 = true → k + r = m → Df (d + 2) 198 24 [.ref 123, .int (nI i), .int (nI k), l3] [] (MX h M K D s a0) nx = am (reF f m s D.2.1 (24 - k) k) h M K D s a0 nx := by
  have hs := hD.2.1
  induction r with
  | zero =>
    intro k l3 h3 hk
    obtain rfl : k = m := by omega
    rw [e_198_24]
    simp only [e_198_25, e_198_26, e_198_29, e_198_30, e_198_31, e_198_78, e_198_80, gX25, rx137 hi, h137, Option.bind_some]
    rw [if_pos (nI_le (Nat.le_refl _) (by omega)), reF_end _ _ (Nat.le_refl _)]
    rfl
  | succ r ih =>
    intro k l3 h3 hk
    have hk24 : k < 24 := by omega
    rw [e_198_24]
    simp only [e_198_25, e_198_26, e_198_29, e_198_30, e_198_31, e_198_34, e_198_35, e_198_38, e_198_40, e_198_41, e_198_42, e_198_43, e_198_44, gX25, gX26, rx137 hi, h137, ix24, rx138 (show 24 * i + k < 96 by omega), hc k hk24, Option.bind_some]
    rw [if_neg (nI_ge (by omega) (by omega)), e_198_45 h3, show 24 - k = (24 - (k + 1)) + 1 by omega]
    have ih := ih (k + 1) (.int (f k)) (nr_i _) (by omega)
    have e72 : Df (d + 2) 198 72 [.ref 123, .int (nI i), .int (nI k), .int (f k)] [] (MX h M K D s a0) nx = am (reF f m s D.2.1 (24 - (k + 1)) (k + 1)) h M K D s a0 nx := by
      simp only [e_198_72, e_198_75, nI_1]; exact ih
    have e70 : Df (d + 2) 198 70 [.ref 123, .int (nI i), .int (nI k), .int (f k)] [] (MX h M K D s a0) nx = am (nI k) h M K D s a0 nx := by
      simp only [e_198_70, e_198_71]; rfl
    unfold reF
    simp only [e_198_46, e_198_47, e_198_49, e_198_52, e_198_53, e_198_54, e_198_57, kX, if_true, c_isWalker hD.1 hs, cn_s, pi_if, e72]
    by_cases c1 : f k = -1000000005
    · rw [if_pos c1, if_neg (show ¬ ((k < m ∧ ¬ f k = -1000000005) ∧ ¬ (k < s ∧ f k = D.2.1 k 1)) from fun q => q.1.2 c1)]
    · rw [if_neg c1]
      by_cases c2 : k < s
      · rw [if_pos ⟨nI_pos' (by omega), nI_lt c2 (by omega)⟩]
        simp only [e_198_60, e_198_61, e_198_62, e_198_63, e_198_64, e_198_67, kX, if_true, c_of1 c2 hs, cn_s, e72, e70]
        by_cases c3 : f k = D.2.1 k 1
        · rw [if_pos c3, if_neg (show ¬ ((k < m ∧ ¬ f k = -1000000005) ∧ ¬ (k < s ∧ f k = D.2.1 k 1)) from fun q => q.2 ⟨c2, c3⟩)]
        · rw [if_neg c3, if_pos (show (k < m ∧ ¬ f k = -1000000005) ∧ ¬ (k < s ∧ f k = D.2.1 k 1) from ⟨⟨by omega, c1⟩, fun q => c3 q.2⟩)]
      · rw [if_neg (show ¬ (0 ≤ nI k ∧ nI k < nI s) from fun q => c2 ((nI_ltI (by omega) (by omega)).mp q.2)), e70, if_pos (show (k < m ∧ ¬ f k = -1000000005) ∧ ¬ (k < s ∧ f k = D.2.1 k 1) from ⟨⟨by omega, c1⟩, fun q => c2 q.1⟩)]
theorem Q_reads (hD : dI D s) (hS : rSh Sh M) : Dn (d + 3) 198 [.ref 123, .int x] (MX h M K D s a0) nx = am (if 0 ≤ x ∧ x ≤ 3 then (if (Sh x.toNatClampNeg).2 1 = -1 then -1000000011 else reF (Sh x.toNatClampNeg).1 ((Sh x.toNatClampNeg).2 2).toNatClampNeg s D.2.1 24 0) else -1000000001) h M K D s a0 nx := by
  by_cases h1 : 0 ≤ x ∧ x ≤ 3
  · rw [if_pos h1]
    obtain ⟨i, hi, rfl⟩ := idxle (m := 3) h1 (by omega)
    have hi4 : i < 4 := by omega
    rw [cl_nI (by omega)]
    obtain ⟨b1, b2, b3, ⟨m, b4, hm⟩, b5⟩ := hS i hi4
    obtain ⟨g1, g2⟩ := sort_ge b2
    simp only [n_198, e_198_0, e_198_1, e_198_4, e_198_7, e_198_9, e_198_10, e_198_11, e_198_14, e_198_15, e_198_16, e_198_19, e_198_21, e_198_22, e_198_23n, e_198_23i, e_198_23r, c_misSheet, cn_s, pi_if, gX24, rx136 hi4, b1, Option.bind_some]
    rw [if_pos h1]
    by_cases c1 : (Sh i).2 1 = -1
    · rw [if_neg (fun q => g1.mp q c1), if_pos c1]; rfl
    · rw [if_pos (g1.mpr c1), if_neg c1, b4, cl_nI (by omega)]
      exact mreads_loop (f := (Sh i).1) hD hi4 (b3.trans b4) hm (fun k hk => (b5 k hk).1) m 0 .null nr_n (by omega)
  · rw [if_neg h1]
    simp only [n_198, e_198_0, e_198_1, e_198_4, e_198_7, e_198_9, c_misSheet, cn_s, pi_if]
    rw [if_neg h1]; rfl
end MS2
