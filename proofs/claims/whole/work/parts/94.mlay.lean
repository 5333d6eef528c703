/-! the model's public methods: lay, tell, trim, feed, keep, back -/
section MS4
variable {d : Nat} {h : AH} {nx : AN} {M M' : MS} {D N : DT} {s H i j c a k n g t m b : Nat} {x y z u v A B : Int32} {a0 f w : Nat → Int32} {K : (Nat → Int32) × (Nat → Int32)} {l1 l2 l3 l4 l5 l6 : Value} {L : LT} {Sh : ShT} {Sl : SlT} {as : List Nat}
theorem rSl_up {q' : (Nat → Int32) × (Nat → Int32) × (Nat → Int32)} (hP : rSl Sl M) (h9 : M'.2 139 = upd (M.2 139) i y) (h0 : M'.2 140 = upd (M.2 140) i A) (h1 : M'.2 141 = upd (M.2 141) i B) (h2 : ∀ k, ¬ (24 * i ≤ k ∧ k < 24 * i + 24) → M'.2 142 k = M.2 142 k) (hi : rP1 q' M' i) : rSl (upP Sl i q') M' := by
  intro j hj
  by_cases e : j = i
  · subst e
    rw [upP_s]; exact hi
  · rw [show upP Sl i q' j = Sl j from if_neg e]
    obtain ⟨b1, b2, b3, b4, b5, b6⟩ := hP j hj
    refine ⟨?_, b2, fun q => ?_, fun q => ⟨?_, fun k hk => ?_⟩, fun q => ?_, b6⟩
    · rw [h9, show upd (M.2 139) i y j = M.2 139 j from if_neg e]; exact b1
    · rw [h0, h1, show upd (M.2 140) i A j = M.2 140 j from if_neg e, show upd (M.2 141) i B j = M.2 141 j from if_neg e]; exact b3 q
    · rw [h0, show upd (M.2 140) i A j = M.2 140 j from if_neg e]; exact (b4 q).1
    · rw [h2 _ (by omega)]; exact (b4 q).2 k hk
    · rw [h0, show upd (M.2 140) i A j = M.2 140 j from if_neg e]; exact b5 q
def layM (M : MS) (i : Nat) (y A B : Int32) : MS := sA (sA (sA M 139 (upd (M.2 139) i y)) 140 (upd (M.2 140) i A)) 141 (upd (M.2 141) i B)
theorem layM_9 : (layM M i y A B).2 139 = upd (M.2 139) i y := by unfold layM; rw [sA_o (by omega), sA_o (by omega), sA_s]
theorem layM_0 : (layM M i y A B).2 140 = upd (M.2 140) i A := by unfold layM; rw [sA_o (by omega), sA_s]
theorem layM_1 : (layM M i y A B).2 141 = upd (M.2 141) i B := by unfold layM; rw [sA_s]
theorem layM_o (ha : a ≠ 139 ∧ a ≠ 140 ∧ a ≠ 141) : (layM M i y A B).2 a = M.2 a := by unfold layM; rw [sA_o (by omega), sA_o (by omega), sA_o (by omega)]
theorem layM_fr : frM [139, 140, 141, 142] M (layM M i y A B) := ((frM.refl.sA (by simp)).sA (by simp)).sA (by simp)
theorem upd_s (f : Nat → Int32) (i : Nat) (x : Int32) : upd f i x i = x := if_pos rfl
/-- behind the checks; not a sheet -/
theorem mlay_tail (hi : i < 5) (hy : ¬ y = 2) (hA : (if y = 1 then ∃ j, z = nI j ∧ j < s ∧ A = D.2.1 j 0 ∧ B = wth (D.2.1 j 0) (D.2.1 j 2) ∧ wJ (D.2.1 j) else A = z ∧ B = 0)) (hs : s ≤ 10) : Df (d + 2) 200 61 [.ref 123, .int (nI i), .int y, .int z, .null, .null] [] (MX h M K D s a0) nx = am (M.2 139 i) h (layM M i y A B) K D s a0 nx := by
  have w140 : ∀ x : Int32, wI (MX h (sA M 139 (upd (M.2 139) i y)) K D s a0) 140 (nI i) 0 x = some (MX h (sA (sA M 139 (upd (M.2 139) i y)) 140 (upd (M.2 140) i x)) K D s a0) := fun x => by
    rw [wx140 hi, sA_o (by omega)]
  have w141 : ∀ x A : Int32, wI (MX h (sA (sA M 139 (upd (M.2 139) i y)) 140 (upd (M.2 140) i A)) K D s a0) 141 (nI i) 0 x = some (MX h (layM M i y A x) K D s a0) := fun x A => by
    rw [wx141 hi, sA_o (by omega), sA_o (by omega)]; rfl
  have fin : ∀ (l5 : Value), nr l5 = true → Df (d + 2) 200 131 [.ref 123, .int (nI i), .int y, .int z, .int (M.2 139 i), l5] [] (MX h (layM M i y A B) K D s a0) nx = am (M.2 139 i) h (layM M i y A B) K D s a0 nx := fun l5 h5 => by
    simp only [e_200_131]
    rw [e_200_132 h5]
    simp only [e_200_134, e_200_136, e_200_138, e_200_141, e_200_142, e_200_143, e_200_176, e_200_178, hy, if_false]
    rw [if_neg (by decide)]
    rfl
  by_cases h1 : y = 1
  · rw [if_pos h1] at hA
    obtain ⟨j, rfl, hj, rfl, rfl, hw⟩ := hA
    subst h1
    simp only [e_200_61, e_200_62, e_200_65, e_200_66, e_200_67n, e_200_67i, e_200_67r, e_200_69, e_200_70, e_200_73, e_200_74, e_200_75, e_200_76, e_200_77, e_200_80, e_200_81, e_200_82, e_200_83, e_200_86, e_200_87, e_200_88, e_200_89, e_200_92, e_200_95, e_200_96, e_200_97, e_200_100, e_200_101, e_200_104, e_200_105, e_200_106, e_200_109, e_200_110, e_200_111, e_200_112, e_200_115, e_200_116, e_200_117, e_200_118, e_200_121, e_200_122, e_200_123, e_200_126, e_200_129, e_200_130, gX27, gX28, gX29, rx139 hi, wx139 hi, if_true, kX, c_of0 hj hs, c_mworth hj hs hw, cn_s, w140, w141, Option.bind_some]
    exact fin .null nr_n
  · rw [if_neg h1] at hA
    obtain ⟨rfl, rfl⟩ := hA
    simp only [e_200_61, e_200_62, e_200_65, e_200_66, e_200_67n, e_200_67i, e_200_67r, e_200_69, e_200_70, e_200_73, e_200_74, e_200_75, e_200_76, e_200_77, e_200_80, e_200_81, e_200_82, e_200_83, e_200_86, e_200_87, e_200_88, e_200_89, e_200_92, e_200_95, e_200_96, e_200_97, e_200_100, e_200_101, e_200_104, e_200_105, e_200_106, e_200_109, e_200_110, e_200_111, e_200_112, e_200_115, e_200_116, e_200_117, e_200_118, e_200_121, e_200_122, e_200_123, e_200_126, e_200_129, e_200_130, gX27, gX28, gX29, rx139 hi, wx139 hi, h1, hy, if_false, w140, w141, Option.bind_some]
    exact fin .null nr_n
theorem held_loop (hi : i < 5) (hj : j < 4) (n : Nat) : ∀ (k : Nat), k + n = 24 → Df d 200 134 [.ref 123, .int (nI i), .int 2, .int (nI j), .int x, .int (nI k)] [] (MX h (sA M 142 (cpo (24 * i) k (fun q => M.2 138 (24 * j + q)) f)) K D s a0) nx = am x h (sA M 142 (cpo (24 * i) 24 (fun q => M.2 138 (24 * j + q)) f)) K D s a0 nx := by
  induction n with
  | zero =>
    intro k hk
    obtain rfl : k = 24 := by omega
    rw [e_200_134]
    simp only [e_200_136, e_200_138, e_200_176, e_200_178]
    rw [if_pos (by decide)]
    rfl
  | succ n ih =>
    intro k hk
    have e138 : (sA M 142 (cpo (24 * i) k (fun q => M.2 138 (24 * j + q)) f)).2 138 = M.2 138 := sA_o (by omega)
    have wr := wx142 (h := h) (M := sA M 142 (cpo (24 * i) k (fun q => M.2 138 (24 * j + q)) f)) (K := K) (D := D) (s := s) (a0 := a0) (i := 24 * i + k) (x := M.2 138 (24 * j + k)) (by omega)
    rw [sA_2, sA_s, cpo_s (f := fun q => M.2 138 (24 * j + q))] at wr
    rw [e_200_134]
    simp only [e_200_136, e_200_138, e_200_141, e_200_142, e_200_143, e_200_146, e_200_147, e_200_150, e_200_152, e_200_153, e_200_154, e_200_156, e_200_157, e_200_158, e_200_161, e_200_163, e_200_164, e_200_165, e_200_167, e_200_168, e_200_169, e_200_170, e_200_173, gX26, gX30, ix24, rx138 (show 24 * j + k < 96 by omega), e138, wr, if_true, Option.bind_some, nI_1]
    rw [if_neg (show ¬ (24 : Int32) ≤ nI k from nI_ge (b := 24) (by omega) (by omega))]
    exact ih (k + 1) (by omega)
theorem mlay_sheet (hi : i < 5) (hj : j < 4) : Df (d + 2) 200 61 [.ref 123, .int (nI i), .int 2, .int (nI j), .null, .null] [] (MX h M K D s a0) nx = am (M.2 139 i) h (sA (layM M i 2 (M.2 137 j) 0) 142 (cpo (24 * i) 24 (fun q => M.2 138 (24 * j + q)) (M.2 142))) K D s a0 nx := by
  have w140 : ∀ x : Int32, wI (MX h (sA M 139 (upd (M.2 139) i 2)) K D s a0) 140 (nI i) 0 x = some (MX h (sA (sA M 139 (upd (M.2 139) i 2)) 140 (upd (M.2 140) i x)) K D s a0) := fun x => by
    rw [wx140 hi, sA_o (by omega)]
  have w141 : ∀ x A : Int32, wI (MX h (sA (sA M 139 (upd (M.2 139) i 2)) 140 (upd (M.2 140) i A)) K D s a0) 141 (nI i) 0 x = some (MX h (layM M i 2 A x) K D s a0) := fun x A => by
    rw [wx141 hi, sA_o (by omega), sA_o (by omega)]; rfl
  have e137 : (sA M 139 (upd (M.2 139) i 2)).2 137 = M.2 137 := sA_o (by omega)
  have lp := held_loop (d := d + 2) (h := h) (nx := nx) (M := layM M i 2 (M.2 137 j) 0) (K := K) (D := D) (s := s) (a0 := a0) (x := M.2 139 i) (f := M.2 142) hi hj 24 0 rfl
  have e0 : sA (layM M i 2 (M.2 137 j) 0) 142 (M.2 142) = layM M i 2 (M.2 137 j) 0 := by
    have := sA_id (M := layM M i 2 (M.2 137 j) 0) (a := 142)
    rw [layM_o (by omega)] at this
    exact this
  rw [cpo_0, e0, layM_o (a := 138) (by omega), show nI 0 = 0 from rfl] at lp
  simp only [e_200_61, e_200_62, e_200_65, e_200_66, e_200_67n, e_200_67i, e_200_67r, e_200_69, e_200_70, e_200_73, e_200_74, e_200_75, e_200_76, e_200_77, e_200_80, e_200_81, e_200_82, e_200_83, e_200_86, e_200_87, e_200_88, e_200_89, e_200_92, e_200_95, e_200_96, e_200_97, e_200_100, e_200_101, e_200_104, e_200_105, e_200_106, e_200_109, e_200_110, e_200_111, e_200_112, e_200_115, e_200_116, e_200_117, e_200_118, e_200_121, e_200_122, e_200_123, e_200_126, e_200_129, e_200_130, e_200_131, e_200_132n, e_200_132i, e_200_132r, gX25, gX27, gX28, gX29, rx139 hi, wx139 hi, rx137 hj, e137, show ¬ (2 : Int32) = 1 by decide, if_true, if_false, w140, w141, Option.bind_some]
  exact lp
theorem Q_lay (hD : dJ D s H) (hS : rSh Sh M) (hP : rSl Sl M) : ∃ M', frM [139, 140, 141, 142] M M' ∧ (Dn (d + 3) 200 [.ref 123, .int x, .int y, .int z] (MX h M K D s a0) nx = if ((0 ≤ x ∧ x ≤ 4) ∧ (0 ≤ y ∧ y ≤ 3)) ∧ (y = 1 → 0 ≤ z ∧ z < nI s) ∧ (y = 2 → 0 ≤ z ∧ z ≤ 3) then (if y = 2 ∧ (Sh z.toNatClampNeg).2 1 = -1 then am (-1000000011) h M K D s a0 nx else am ((Sl x.toNatClampNeg).2.2 3) h M' K D s a0 nx) else am (-1000000001) h M K D s a0 nx) ∧ (((0 ≤ x ∧ x ≤ 4) ∧ (0 ≤ y ∧ y ≤ 3)) ∧ (y = 1 → 0 ≤ z ∧ z < nI s) ∧ (y = 2 → 0 ≤ z ∧ z ≤ 3) → ¬ (y = 2 ∧ (Sh z.toNatClampNeg).2 1 = -1) → rSl (upP Sl x.toNatClampNeg (lyF (Sl x.toNatClampNeg) y z (D.2.1 z.toNatClampNeg) (Sh z.toNatClampNeg))) M') := by
  have hs := hD.1.2.1
  by_cases h1 : 0 ≤ x ∧ x ≤ 4
  · obtain ⟨i, hi, rfl⟩ := idxle (m := 4) h1 (by omega)
    have hi5 : i < 5 := by omega
    rw [cl_nI (by omega)]
    obtain ⟨b1, b2, b3, b4, b5, b6⟩ := hP i hi5
    by_cases h2 : 0 ≤ y ∧ y ≤ 3
    · by_cases c1 : y = 1
      · subst c1
        have hb : ¬ (1 : Int32) = 2 := by decide
        by_cases h4 : 0 ≤ z ∧ z < nI s
        · obtain ⟨j, hj, rfl⟩ := idx h4 (by omega)
          rw [cl_nI (show j < 2147483648 by omega)]
          have tl := mlay_tail (d := d) (h := h) (nx := nx) (M := M) (K := K) (D := D) (a0 := a0) (y := 1) (z := nI j) (A := D.2.1 j 0) (B := wth (D.2.1 j 0) (D.2.1 j 2)) hi5 hb (by rw [if_pos rfl]; exact ⟨j, rfl, hj, rfl, rfl, hD.2.1 j hj⟩) hs
          rw [b1] at tl
          refine ⟨layM M i 1 (D.2.1 j 0) (wth (D.2.1 j 0) (D.2.1 j 2)), layM_fr, ?_, fun _ _ => ?_⟩
          · have cc : ((0 ≤ nI i ∧ nI i ≤ 4) ∧ (0 ≤ (1 : Int32) ∧ (1 : Int32) ≤ 3)) ∧ ((1 : Int32) = 1 → 0 ≤ nI j ∧ nI j < nI s) ∧ ((1 : Int32) = 2 → 0 ≤ nI j ∧ nI j ≤ 3) := ⟨⟨h1, h2⟩, fun _ => h4, fun q => absurd q hb⟩
            rw [if_pos cc, if_neg (fun q => hb q.1), ← tl]
            simp only [n_200, e_200_0, e_200_1, e_200_4, e_200_7, e_200_8, e_200_9, e_200_10, e_200_13, e_200_16, e_200_17, e_200_18, e_200_21, e_200_22, e_200_23, e_200_26, e_200_29, e_200_30, e_200_31, e_200_34, e_200_35, e_200_38, e_200_41, e_200_43, e_200_44, e_200_45, e_200_46, e_200_49, e_200_50, e_200_53, e_200_54, e_200_55, e_200_58, e_200_60, c_misSlot, c_min_in, cn_s, pi_if, kX, if_true, c_isWalker hD.1.1 hs, hb, if_false]
            rw [if_pos h1, if_pos h2, if_pos h4]
          · refine rSl_up hP layM_9 layM_0 layM_1 (fun k _ => by rw [layM_o (by omega)]) ?_
            unfold lyF
            rw [if_pos rfl]
            refine ⟨by rw [layM_9]; simp [upd], Or.inr (Or.inl rfl), fun _ => ⟨by rw [layM_0, upd_s], by rw [layM_1, upd_s]⟩, fun q => absurd (show (1 : Int32) = 2 from q) hb, fun q => absurd (show (1 : Int32) = 3 from q) (by decide), b6⟩
        · refine ⟨M, frM.refl, ?_, fun q => absurd (q.2.1 rfl) h4⟩
          rw [if_neg (fun q => h4 (q.2.1 rfl))]
          simp only [n_200, e_200_0, e_200_1, e_200_4, e_200_7, e_200_8, e_200_9, e_200_10, e_200_13, e_200_16, e_200_17, e_200_18, e_200_21, e_200_22, e_200_23, e_200_26, e_200_29, e_200_30, e_200_31, e_200_34, e_200_35, e_200_38, e_200_41, e_200_43, c_misSlot, c_min_in, cn_s, pi_if, kX, if_true, c_isWalker hD.1.1 hs, hb, if_false]
          rw [if_pos h1, if_pos h2, if_neg h4]; rfl
      by_cases c2 : y = 2
      · subst c2
        by_cases h4 : 0 ≤ z ∧ z ≤ 3
        · obtain ⟨j, hj, rfl⟩ := idxle (m := 3) h4 (by omega)
          have hj4 : j < 4 := by omega
          rw [cl_nI (show j < 2147483648 by omega)]
          obtain ⟨p1, p2, p3, ⟨m2, p4, hm2⟩, p5⟩ := hS j hj4
          obtain ⟨q1, q2⟩ := sort_ge p2
          have tl := mlay_sheet (d := d) (h := h) (nx := nx) (M := M) (K := K) (D := D) (s := s) (a0 := a0) hi5 hj4
          rw [b1] at tl
          have cc : ((0 ≤ nI i ∧ nI i ≤ 4) ∧ (0 ≤ (2 : Int32) ∧ (2 : Int32) ≤ 3)) ∧ ((2 : Int32) = 1 → 0 ≤ nI j ∧ nI j < nI s) ∧ ((2 : Int32) = 2 → 0 ≤ nI j ∧ nI j ≤ 3) := ⟨⟨h1, h2⟩, fun q => absurd q c1, fun _ => h4⟩
          refine ⟨sA (layM M i 2 (M.2 137 j) 0) 142 (cpo (24 * i) 24 (fun q => M.2 138 (24 * j + q)) (M.2 142)), layM_fr.sA (by simp), ?_, fun _ hn => ?_⟩
          · rw [if_pos cc]
            by_cases c3 : (Sh j).2 1 = -1
            · rw [if_pos (show (2 : Int32) = 2 ∧ (Sh j).2 1 = -1 from ⟨rfl, c3⟩)]
              simp only [n_200, e_200_0, e_200_1, e_200_4, e_200_7, e_200_8, e_200_9, e_200_10, e_200_13, e_200_16, e_200_17, e_200_18, e_200_21, e_200_22, e_200_23, e_200_26, e_200_29, e_200_30, e_200_31, e_200_34, e_200_35, e_200_38, e_200_41, e_200_43, e_200_44, e_200_45, e_200_46, e_200_49, e_200_50, e_200_53, e_200_54, e_200_55, e_200_58, e_200_60, c_misSlot, c_misSheet, c_min_in, cn_s, pi_if, gX24, rx136 hj4, p1, c1, if_true, if_false, Option.bind_some]
              rw [if_pos h1, if_pos h2, if_pos h4, if_neg (fun q => q1.mp q c3)]; rfl
            · rw [if_neg (show ¬ ((2 : Int32) = 2 ∧ (Sh j).2 1 = -1) from fun q => c3 q.2), ← tl]
              simp only [n_200, e_200_0, e_200_1, e_200_4, e_200_7, e_200_8, e_200_9, e_200_10, e_200_13, e_200_16, e_200_17, e_200_18, e_200_21, e_200_22, e_200_23, e_200_26, e_200_29, e_200_30, e_200_31, e_200_34, e_200_35, e_200_38, e_200_41, e_200_43, e_200_44, e_200_45, e_200_46, e_200_49, e_200_50, e_200_53, e_200_54, e_200_55, e_200_58, e_200_60, c_misSlot, c_misSheet, c_min_in, cn_s, pi_if, gX24, rx136 hj4, p1, c1, if_true, if_false, Option.bind_some]
              rw [if_pos h1, if_pos h2, if_pos h4, if_pos (q1.mpr c3)]
          · refine rSl_up hP (by rw [sA_o (by omega), layM_9]) (by rw [sA_o (by omega), layM_0]) (by rw [sA_o (by omega), layM_1]) (fun k hk => by rw [sA_s]; exact if_neg hk) ?_
            unfold lyF
            rw [if_neg (by decide), if_pos rfl]
            refine ⟨by rw [sA_o (by omega), layM_9]; simp [upd], Or.inr (Or.inr (Or.inl rfl)), fun q => absurd (show (2 : Int32) = 1 from q) (by decide), fun _ => ⟨by rw [sA_o (by omega), layM_0, upd_s, p3]; rfl, fun k hk => ?_⟩, fun q => absurd (show (2 : Int32) = 3 from q) (by decide), ⟨m2, p4, hm2⟩⟩
            rw [sA_s]
            show cpo (24 * i) 24 (fun q => M.2 138 (24 * j + q)) (M.2 142) (24 * i + k) = va_cpy (Sh j).1 (Sl i).2.1 0 0 24 k
            unfold cpo va_cpy
            rw [if_pos (by omega), if_pos (by omega)]
            dsimp only
            rw [show 24 * i + k - 24 * i = k by omega, (p5 k hk).1, show 0 + (k - 0) = k by omega]
        · refine ⟨M, frM.refl, ?_, fun q => absurd (q.2.2 rfl) h4⟩
          rw [if_neg (fun q => h4 (q.2.2 rfl))]
          simp only [n_200, e_200_0, e_200_1, e_200_4, e_200_7, e_200_8, e_200_9, e_200_10, e_200_13, e_200_16, e_200_17, e_200_18, e_200_21, e_200_22, e_200_23, e_200_26, e_200_29, e_200_30, e_200_31, e_200_34, e_200_35, e_200_38, e_200_41, e_200_43, c_misSlot, c_misSheet, c_min_in, cn_s, pi_if, c1, if_true, if_false]
          rw [if_pos h1, if_pos h2, if_neg h4]; rfl
      · have tl := mlay_tail (d := d) (h := h) (nx := nx) (M := M) (K := K) (D := D) (a0 := a0) (y := y) (z := z) (A := z) (B := 0) hi5 c2 (by rw [if_neg c1]; exact ⟨rfl, rfl⟩) hs
        rw [b1] at tl
        have cc : ((0 ≤ nI i ∧ nI i ≤ 4) ∧ (0 ≤ y ∧ y ≤ 3)) ∧ (y = 1 → 0 ≤ z ∧ z < nI s) ∧ (y = 2 → 0 ≤ z ∧ z ≤ 3) := ⟨⟨h1, h2⟩, fun q => absurd q c1, fun q => absurd q c2⟩
        refine ⟨layM M i y z 0, layM_fr, ?_, fun _ _ => ?_⟩
        · rw [if_pos cc, if_neg (fun q => c2 q.1), ← tl]
          simp only [n_200, e_200_0, e_200_1, e_200_4, e_200_7, e_200_8, e_200_9, e_200_10, e_200_13, e_200_16, e_200_17, e_200_18, e_200_21, e_200_22, e_200_23, e_200_26, e_200_29, e_200_30, e_200_31, e_200_34, e_200_35, e_200_38, e_200_41, e_200_43, e_200_44, e_200_45, e_200_46, e_200_49, e_200_50, e_200_53, e_200_54, e_200_55, e_200_58, e_200_60, c_misSlot, c_min_in, cn_s, pi_if, c1, c2, if_false]
          rw [if_pos h1, if_pos h2]
        · refine rSl_up hP layM_9 layM_0 layM_1 (fun k _ => by rw [layM_o (by omega)]) ?_
          obtain ⟨q, hq, rfl⟩ := idxle (m := 3) h2 (by omega)
          rcases (show q = 0 ∨ q = 1 ∨ q = 2 ∨ q = 3 by omega) with rfl | rfl | rfl | rfl
          · unfold lyF
            rw [if_neg c1, if_neg c2, if_neg (by decide)]
            exact ⟨by rw [layM_9]; simp [upd], Or.inl rfl, fun q => absurd (show (0 : Int32) = 1 from q) (by decide), fun q => absurd (show (0 : Int32) = 2 from q) (by decide), fun q => absurd (show (0 : Int32) = 3 from q) (by decide), b6⟩
          · exact absurd rfl c1
          · exact absurd rfl c2
          · unfold lyF
            rw [if_neg c1, if_neg c2, if_pos (show nI 3 = 3 from rfl)]
            exact ⟨by rw [layM_9]; simp [upd], Or.inr (Or.inr (Or.inr rfl)), fun q => absurd (show (3 : Int32) = 1 from q) (by decide), fun q => absurd (show (3 : Int32) = 2 from q) (by decide), fun _ => by rw [layM_0, upd_s]; rfl, b6⟩
    · refine ⟨M, frM.refl, ?_, fun q => absurd q.1.2 h2⟩
      rw [if_neg (fun q => h2 q.1.2)]
      simp only [n_200, e_200_0, e_200_1, e_200_4, e_200_7, e_200_8, e_200_9, e_200_10, e_200_13, e_200_41, e_200_43, c_misSlot, c_min_in, cn_s, pi_if]
      rw [if_pos h1, if_neg h2]; rfl
  · refine ⟨M, frM.refl, ?_, fun q => absurd q.1.1 h1⟩
    rw [if_neg (fun q => h1 q.1.1)]
    simp only [n_200, e_200_0, e_200_1, e_200_4, e_200_41, e_200_43, c_misSlot, cn_s, pi_if]
    rw [if_neg h1]; rfl
end MS4
