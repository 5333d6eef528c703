/-! thirsted, of the model -/
section LG
variable {v : Int32} {p q T : Nat}
theorem lg_lt (x y : Int64) : (0 ≤ lg_cmp x y) = ¬ (x.toInt < y.toInt) := by
  apply propext
  unfold lg_cmp
  by_cases h1 : x > y
  · have h1' := Int64.lt_iff_toInt_lt.mp h1
    rw [if_pos h1]
    exact ⟨fun _ => by omega, fun _ => by decide⟩
  · have h1' : ¬ y.toInt < x.toInt := fun e => h1 (Int64.lt_iff_toInt_lt.mpr e)
    rw [if_neg h1]
    by_cases h2 : x = y
    · rw [if_pos h2, h2]
      exact ⟨fun _ => by omega, fun _ => by decide⟩
    · have h2' : ¬ x.toInt = y.toInt := fun e => h2 (Int64.toInt_inj.mp e)
      rw [if_neg h2]
      exact ⟨fun e => absurd e (by decide), fun e => by omega⟩
theorem lg_add (hT : T < 100000000) (hq : q < 100000000) : (nI T).toInt64 + (nI q).toInt64 = (nI (T + q)).toInt64 := by
  apply Int64.toInt_inj.mp
  have e1 : (nI T).toInt = T := nI_toInt (by omega)
  have e2 : (nI q).toInt = q := nI_toInt (by omega)
  have e3 : (nI (T + q)).toInt = ((T + q : Nat) : Int) := nI_toInt (by omega)
  rw [Int64.toInt_add, Int32.toInt_toInt64, Int32.toInt_toInt64, Int32.toInt_toInt64, e1, e2, e3]
  rw [Int.bmod_eq_of_le (by omega) (by omega)]
  omega
/-- how far off, as the class and as the model count it -/
theorem off_eq (hv : -99999 ≤ v ∧ v ≤ 99999) (hp : p ≤ 99) : ∃ q, q ≤ 100098 ∧ (if 0 ≤ nI p - v then nI p - v else -(nI p - v)) = nI q ∧ (if 0 ≤ lg_cmp (v.toInt64 - (nI p).toInt64) 0 then v.toInt64 - (nI p).toInt64 else -(v.toInt64 - (nI p).toInt64)) = (nI q).toInt64 := by
  have b1 : -99999 ≤ v.toInt := by
    have := Int32.le_iff_toInt_le.mp hv.1
    simpa using this
  have b2 : v.toInt ≤ 99999 := by
    have := Int32.le_iff_toInt_le.mp hv.2
    simpa using this
  have e1 : (nI p).toInt = p := nI_toInt (by omega)
  have e2 : (nI p - v).toInt = p - v.toInt := by
    rw [Int32.toInt_sub, e1]
    exact Int.bmod_eq_of_le (by omega) (by omega)
  have e3 : (v.toInt64 - (nI p).toInt64).toInt = v.toInt - p := by
    rw [Int64.toInt_sub, Int32.toInt_toInt64, Int32.toInt_toInt64, e1]
    exact Int.bmod_eq_of_le (by omega) (by omega)
  have e0 : (0 ≤ nI p - v) = (0 ≤ (p : Int) - v.toInt) := by
    apply propext
    rw [Int32.le_iff_toInt_le, e2]
    rfl
  refine ⟨(v.toInt - p).natAbs, by omega, ?_, ?_⟩
  · apply Int32.toInt_inj.mp
    rw [nI_toInt (by omega)]
    by_cases c : 0 ≤ (p : Int) - v.toInt
    · rw [if_pos (e0 ▸ c), e2]; omega
    · rw [if_neg (e0 ▸ c), Int32.toInt_neg, e2, Int.bmod_eq_of_le (by omega) (by omega)]; omega
  · apply Int64.toInt_inj.mp
    have el := lg_lt (v.toInt64 - (nI p).toInt64) 0
    rw [e3, Int64.toInt_zero] at el
    rw [Int32.toInt_toInt64, nI_toInt (by omega)]
    by_cases c : v.toInt - p < 0
    · rw [if_neg (by rw [el]; exact fun e => e c), Int64.toInt_neg, e3, Int.bmod_eq_of_le (by omega) (by omega)]; omega
    · rw [if_pos (by rw [el]; exact c), e3]; omega
end LG
section MT
variable {d : Nat} {h : AH} {nx : AN} {M : MS} {D N T D' D2 : DT} {s H i j c a k n g t m : Nat} {x y z u v bst lst : Int32} {a0 f w F K1 b B : Nat → Int32} {K : (Nat → Int32) × (Nat → Int32)} {l1 l2 l3 l4 l5 l6 l7 l8 l9 : Value} {L : LT} {A : (Nat → Int32) × (Nat → Int32)}
theorem off_loop (hO : mOK M L N s t H a0) (hb : ∀ k, k < 95 → M.2 127 k = enc N s a0 k) (hA : rS1 A M i) (hi : i < 4) (hm : A.2 2 = nI m) (hm24 : m ≤ 24) (hj : j < s) (r : Nat) : ∀ (k H q : Nat) (D Dc : DT) (K : (Nat → Int32) × (Nat → Int32)) (l7 l8 l9 : Value), nr l7 = true → nr l8 = true → nl l9 = true → dJ D s H → H + r < 2147483648 → D.2.2 12 = nI t → (if k = 0 then Dc else hrF L t s True Dc) = D → k + r = m → q ≤ k * 100098 → ∃ K' q', q' ≤ m * 100098 ∧ (dfF L t s A.1 j r k (nI q) Dc).1 = nI q' ∧ Df (d + 5) 176 13 [.ref 123, .int (nI i), .int (nI j), l3, .long (nI q).toInt64, .retAddr 0, .int (nI k), l7, l8, l9] [] (MX h M K D s a0) nx = some (some (.long (nI q').toInt64), MX h M K' N s a0, nx) := by
  obtain ⟨hM, hT, hL, hN, h12⟩ := hO
  have hs := hN.1.2.1
  have h137 := hA.2.2.1
  rw [hm] at h137
  induction r with
  | zero =>
    intro k H q D Dc K l7 l8 l9 _ _ _ hD _ _ _ hk hq
    obtain rfl : k = m := by omega
    refine ⟨K, q, hq, rfl, ?_⟩
    rw [e_176_13]
    simp only [e_176_15, e_176_16, e_176_19, e_176_20, e_176_21, gX25, rx137 hi, h137, Option.bind_some]
    rw [if_pos (Int32.le_refl _)]
    simp only [e_176_92, e_176_93, e_176_96, e_176_98, kX, if_true, c_putsBack hs hb, sF_id hM, cn_v]
  | succ r ih =>
    intro k H q D Dc K l7 l8 l9 h7 h8 h9 hD hH h12' hDc hk hq
    have hk24 : k < 24 := by omega
    obtain ⟨e138, hV⟩ := hA.2.2.2.2 k hk24
    obtain ⟨p, hp, hp99⟩ := (hD.2.1 j hj).1
    have hg := hrF_k (L := L) (t := t) True hD.1
    obtain ⟨K1, eh⟩ := c_mhour (d := d) (h := h) (nx := nx) (K := K) True (by rw [if_pos trivial]; exact hM) hD (by omega) h12' hT hL
    have hq1 : ∃ q1, q1 ≤ (k + 1) * 100098 ∧ (if A.1 k = -1000000005 then nI q else nI q + (if 0 ≤ D.2.1 j 1 - A.1 k then D.2.1 j 1 - A.1 k else -(D.2.1 j 1 - A.1 k))) = nI q1 ∧ (if A.1 k = -1000000005 then (nI q).toInt64 + 0 else (nI q).toInt64 + (if 0 ≤ lg_cmp ((A.1 k).toInt64 - (D.2.1 j 1).toInt64) 0 then (A.1 k).toInt64 - (D.2.1 j 1).toInt64 else -((A.1 k).toInt64 - (D.2.1 j 1).toInt64))) = (nI q1).toInt64 := by
      by_cases c : A.1 k = -1000000005
      · refine ⟨q, Nat.le_trans hq (Nat.mul_le_mul_right _ (Nat.le_succ k)), if_pos c, ?_⟩
        rw [if_pos c, Int64.add_zero]
      · obtain ⟨q2, b, e1, e2⟩ := off_eq (v := A.1 k) (p := p) (hV.resolve_left c) hp99
        refine ⟨q + q2, by omega, ?_, ?_⟩
        · rw [if_neg c, hp, e1, nI_add]
        · rw [if_neg c, hp, e2, lg_add (by omega) (by omega)]
    obtain ⟨q1, b1, e1, e2⟩ := hq1
    obtain ⟨K', q', b', e3, e4⟩ := ih (k + 1) (H + 1) q1 (hrF L t s True D) D K1 (.int (A.1 k)) (.long ((A.1 k).toInt64 - (D.2.1 j 1).toInt64)) (.retAddr 0) (nr_i _) (nr_l _) rfl (hrF_J True (by omega) hD) (by omega) (hg.2.trans h12') (if_neg (by omega)) (by omega) b1
    refine ⟨K', q', b', ?_, ?_⟩
    · unfold dfF
      rw [hDc, e1]
      exact e3
    · rw [← e4, ← e2, e_176_13]
      simp only [e_176_15, e_176_16, e_176_19, e_176_20, e_176_21, e_176_24, e_176_25, e_176_28, e_176_30, e_176_31, e_176_32, e_176_34, e_176_35, gX25, gX26, rx137 hi, h137, ix24, rx138 (show 24 * i + k < 96 by omega), e138, Option.bind_some]
      rw [if_neg (nI_ge (by omega) (by omega)), e_176_36 h7]
      simp only [e_176_38, e_176_40, e_176_41, e_176_42, e_176_43, e_176_44, e_176_47, e_176_48, kX, if_true, c_of1 hj hs, cn_s]
      rw [e_176_49 h8 h9]
      have tail : ∀ xl : Int64, Df (d + 5) 176 79 [.ref 123, .int (nI i), .int (nI j), l3, .long (nI q).toInt64, .retAddr 0, .int (nI k), .int (A.1 k), .long ((A.1 k).toInt64 - (D.2.1 j 1).toInt64), .retAddr 0] [.long xl, .long (nI q).toInt64] (MX h M K D s a0) nx = Df (d + 5) 176 13 [.ref 123, .int (nI i), .int (nI j), l3, .long ((nI q).toInt64 + xl), .retAddr 0, .int (nI (k + 1)), .int (A.1 k), .long ((A.1 k).toInt64 - (D.2.1 j 1).toInt64), .retAddr 0] [] (MX h M K1 (hrF L t s True D) s a0) nx := by
        intro xl
        simp only [e_176_79]
        rw [e_176_80 rfl rfl]
        simp only [e_176_82, e_176_83, e_176_86, e_176_89, kX, if_true, eh, cn_v, nI_1]
      simp only [e_176_51, e_176_53, e_176_55, e_176_57]
      by_cases c : A.1 k = -1000000005
      · rw [if_pos c, if_pos c]
        simp only [e_176_60, e_176_61]
        rw [tail]
      · rw [if_neg c, if_neg c]
        simp only [e_176_64, e_176_66, e_176_67, e_176_68]
        by_cases c2 : 0 ≤ lg_cmp ((A.1 k).toInt64 - (D.2.1 j 1).toInt64) 0
        · rw [if_pos c2, if_pos c2]
          simp only [e_176_77]
          rw [tail]
        · rw [if_neg c2, if_neg c2]
          simp only [e_176_71, e_176_73, e_176_74]
          rw [tail]
theorem c_offBy (hO : mOK M L N s t H a0) (hb : ∀ k, k < 95 → M.2 127 k = enc N s a0 k) (hA : rS1 A M i) (hi : i < 4) (hm : A.2 2 = nI m) (hm24 : m ≤ 24) (hj : j < s) (hk : k ≤ 99) (hH : H ≤ 9999) (Dc : DT) : ∃ K' q', q' ≤ m * 100098 ∧ (dfF L t s A.1 j m 0 0 (tdS N s j (nI k) Dc)).1 = nI q' ∧ Dn (d + 6) 176 [.ref 123, .int (nI i), .int (nI j), .int (nI k)] (MX h M K N s a0) nx = some (some (.long (nI q').toInt64), MX h M K' N s a0, nx) := by
  have hN := hO.2.2.2.1
  have hs := hN.1.2.1
  have hD : dJ (tdS N s j (nI k) Dc) s H := (bec_J hN).th j hk
  have h12 : (tdS N s j (nI k) Dc).2.2 12 = nI t := by
    show (bec Dc N s).2.2 12 = nI t
    exact bec_t hO.2.2.2.2
  obtain ⟨K', q', b', e1, e2⟩ := off_loop (d := d) (h := h) (nx := nx) (l3 := .int (nI k)) hO hb hA hi hm hm24 hj m 0 H 0 (tdS N s j (nI k) Dc) (tdS N s j (nI k) Dc) K .null .null .null nr_n nr_n nl_n hD (by omega) h12 (if_pos rfl) (by omega) (by omega)
  refine ⟨K', q', b', e1, ?_⟩
  refine Eq.trans ?_ e2
  rw [MX_bec (T := Dc)]
  simp only [n_176, e_176_0, e_176_1, e_176_2, e_176_3, e_176_4, e_176_7, kX, if_true, c_put1 hj hs, cn_v]
  rw [e_176_8 rfl rfl]
  simp only [e_176_10, e_176_11n, e_176_11i, e_176_11r]
  rfl
theorem of_less {q q1 : Nat} (hq : q < 100000000) (hq1 : q1 < 100000000) : (0 ≤ lg_cmp (nI q1).toInt64 (nI q).toInt64) = ¬ (nI q1 < nI q) := by
  rw [lg_lt, Int32.toInt_toInt64, Int32.toInt_toInt64]
  apply propext
  rw [Int32.lt_iff_toInt_lt]
theorem mthirsted_loop (hO : mOK M L N s t H a0) (hb : ∀ k, k < 95 → M.2 127 k = enc N s a0 k) (hA : rS1 A M i) (hi : i < 4) (hm : A.2 2 = nI m) (hm24 : m ≤ 24) (hj : j < s) (hH : H ≤ 9999) (r : Nat) : ∀ (k b q : Nat) (D : DT) (B : Nat → Int32) (K : (Nat → Int32) × (Nat → Int32)) (l8 l9 : Value), nr l8 = true → nl l9 = true → k + 5 * r = 100 → b < 100 → q ≤ m * 100098 → B 0 = nI b → B 1 = nI q → ∃ K', Df (d + 6) 174 58 [.ref 123, .int (nI i), .int (nI j), .int z, .int (nI b), .long (nI q).toInt64, .retAddr 0, .int (nI k), l8, l9] [] (MX h M K N s a0) nx = am (if z = 0 then (tdF L t s A.1 j m N r k (D, B)).2 0 else (tdF L t s A.1 j m N r k (D, B)).2 1) h M K' N s a0 nx := by
  induction r with
  | zero =>
    intro k b q D B K l8 l9 _ _ hk _ _ h0 h1
    obtain rfl : k = 100 := by omega
    refine ⟨K, ?_⟩
    rw [e_174_58]
    simp only [e_174_60, e_174_62, e_174_115, e_174_116, e_174_119, e_174_121, e_174_124, e_174_126, e_174_127]
    rw [if_pos (by decide)]
    unfold tdF
    dsimp only
    rw [h0, h1, Int32.toInt32_toInt64]
    by_cases c : z = 0
    · rw [if_pos c, if_pos c]; rfl
    · rw [if_neg c, if_neg c]; rfl
  | succ r ih =>
    intro k b q D B K l8 l9 h8 h9 hk hb1 hq h0 h1
    obtain ⟨K1, q1, bq, e1, e2⟩ := c_offBy (d := d) (h := h) (nx := nx) (K := K) hO hb hA hi hm hm24 hj (show k ≤ 99 by omega) hH D
    have ol := of_less (q := q) (q1 := q1) (by omega) (by omega)
    have hne : ¬ B 0 = -1000000005 := by rw [h0]; exact nI_none hb1
    rw [e_174_58]
    simp only [e_174_60, e_174_62, e_174_65, e_174_66, e_174_67, e_174_68, e_174_70, kX, if_true, e2, cn_s]
    rw [if_neg (show ¬ (96 : Int32) ≤ nI k from nI_ge (b := 96) (by omega) (by omega)), e_174_73 h8 h9]
    unfold tdF
    rw [e1]
    by_cases c : nI q1 < nI q
    · have c' : ¬ 0 ≤ lg_cmp (nI q1).toInt64 (nI q).toInt64 := by rw [ol]; exact fun e => e c
      have eB : ofF B (nI k) (nI q1) = upd (upd B 0 (nI k)) 1 (nI q1) := by
        unfold ofF
        rw [if_pos (Or.inr (by rw [h1]; exact c))]
      obtain ⟨K', e⟩ := ih (k + 5) k q1 (dfF L t s A.1 j m 0 0 (tdS N s j (nI k) D)).2 (ofF B (nI k) (nI q1)) K1 (.long (nI q1).toInt64) (.retAddr 0) (nr_l _) rfl (by omega) (by omega) bq (by rw [eB]; rfl) (by rw [eB]; rfl)
      refine ⟨K', ?_⟩
      rw [← e]
      simp only [e_174_75, e_174_77, e_174_79, e_174_80, e_174_83, e_174_85, e_174_90n, e_174_90i, e_174_90r, e_174_92, e_174_94, e_174_96, e_174_97, e_174_100, e_174_102, c', if_false]
      rw [e_174_107 rfl rfl]
      simp only [e_174_109, e_174_112]
      rw [show nI k + 5 = nI (k + 5) from nI_add k 5]
    · have c' : 0 ≤ lg_cmp (nI q1).toInt64 (nI q).toInt64 := by rw [ol]; exact c
      have eB : ofF B (nI k) (nI q1) = B := by
        unfold ofF
        rw [if_neg (fun e => e.elim hne (by rw [h1]; exact c))]
      obtain ⟨K', e⟩ := ih (k + 5) b q (dfF L t s A.1 j m 0 0 (tdS N s j (nI k) D)).2 (ofF B (nI k) (nI q1)) K1 (.long (nI q1).toInt64) (.retAddr 0) (nr_l _) rfl (by omega) hb1 hq (by rw [eB]; exact h0) (by rw [eB]; exact h1)
      refine ⟨K', ?_⟩
      rw [← e]
      simp only [e_174_75, e_174_77, e_174_79, e_174_80, e_174_88, e_174_90n, e_174_90i, e_174_90r, e_174_92, e_174_94, e_174_96, e_174_97, e_174_105, c', if_true]
      rw [e_174_107 rfl rfl]
      simp only [e_174_109, e_174_112]
      rw [show nI k + 5 = nI (k + 5) from nI_add k 5]
theorem Q_thirsted {Sh : ShT} (hO : mOK M L N s t H a0) (hH : H ≤ 9999) (hS : rSh Sh M) : ∃ K', Dn (d + 7) 174 [.ref 123, .int x, .int y, .int z] (MX h M K N s a0) nx = if (0 ≤ x ∧ x ≤ 3) ∧ (0 ≤ y ∧ y < nI s) ∧ (0 ≤ z ∧ z ≤ 1) then (if (Sh x.toNatClampNeg).2 1 = -1 then am (-1000000011) h M K N s a0 nx else am (if z = 0 then (tdF L t s (Sh x.toNatClampNeg).1 y.toNatClampNeg ((Sh x.toNatClampNeg).2 2).toNatClampNeg N 20 0 (T, upd (upd B 0 (-1000000005)) 1 (-1000000005))).2 0 else (tdF L t s (Sh x.toNatClampNeg).1 y.toNatClampNeg ((Sh x.toNatClampNeg).2 2).toNatClampNeg N 20 0 (T, upd (upd B 0 (-1000000005)) 1 (-1000000005))).2 1) h (mBf M N s a0) K' N s a0 nx) else am (-1000000001) h M K N s a0 nx := by
  have hN := hO.2.2.2.1
  have hs1 := hN.1.1
  have hs := hN.1.2.1
  by_cases h1 : 0 ≤ x ∧ x ≤ 3
  · obtain ⟨i, hi, rfl⟩ := idxle (m := 3) h1 (by omega)
    have hi4 : i < 4 := by omega
    have hA := hS i hi4
    have h136 := hA.1
    by_cases h2 : 0 ≤ y ∧ y < nI s
    · obtain ⟨j, hj, rfl⟩ := idx h2 (by omega)
      rw [cl_nI (by omega), cl_nI (by omega)]
      by_cases h3 : 0 ≤ z ∧ z ≤ 1
      · by_cases h4 : (Sh i).2 1 = -1
        · refine ⟨K, ?_⟩
          rw [if_pos ⟨h1, h2, h3⟩, if_pos h4]
          simp only [n_174, e_174_0, e_174_1, e_174_4, e_174_7, e_174_8, e_174_9, e_174_12, e_174_15, e_174_16, e_174_17, e_174_18, e_174_21, e_174_24, e_174_26, e_174_27, e_174_28, e_174_31, e_174_32, e_174_33, e_174_36, e_174_38, c_misSheet, c_min_in, c_isWalker hs1 hs, cn_s, pi_if, kX, if_true, gX24, rx136 hi4, h136, h4, Option.bind_some]
          rw [if_pos h1, if_pos h2, if_pos h3, if_neg (by decide)]; rfl
        · obtain ⟨m, hm, hm24⟩ := hA.2.2.2.1
          rw [hm, cl_nI (by omega)]
          have hA' : rS1 (Sh i) (mBf M N s a0) i := by
            have e1 : (mBf M N s a0).2 136 = M.2 136 := sA_o (by omega)
            have e2 : (mBf M N s a0).2 137 = M.2 137 := sA_o (by omega)
            have e3 : (mBf M N s a0).2 138 = M.2 138 := sA_o (by omega)
            unfold rS1
            rw [e1, e2, e3]
            exact hA
          have hO' : mOK (mBf M N s a0) L N s t H a0 := hO
          obtain ⟨K1, q, bq, e1, e2⟩ := c_offBy (d := d) (h := h) (nx := nx) (K := K) hO' mBf_b hA' hi4 hm hm24 hj (show 0 ≤ 99 by omega) hH T
          obtain ⟨K', e⟩ := mthirsted_loop (d := d) (h := h) (nx := nx) (z := z) hO' mBf_b hA' hi4 hm hm24 hj hH 19 5 0 q (dfF L t s (Sh i).1 j m 0 0 (tdS N s j (nI 0) T)).2 (ofF (upd (upd B 0 (-1000000005)) 1 (-1000000005)) (nI 0) (nI q)) K1 .null .null nr_n nl_n (by omega) (by omega) bq (by
            unfold ofF
            rw [if_pos (Or.inl (show upd (upd B 0 (-1000000005)) 1 (-1000000005) 0 = -1000000005 from rfl))]
            rfl) (by
            unfold ofF
            rw [if_pos (Or.inl (show upd (upd B 0 (-1000000005)) 1 (-1000000005) 0 = -1000000005 from rfl))]
            rfl)
          refine ⟨K', ?_⟩
          rw [if_pos ⟨h1, h2, h3⟩, if_neg h4]
          have eT : tdF L t s (Sh i).1 j m N 20 0 (T, upd (upd B 0 (-1000000005)) 1 (-1000000005)) = tdF L t s (Sh i).1 j m N 19 5 ((dfF L t s (Sh i).1 j m 0 0 (tdS N s j (nI 0) T)).2, ofF (upd (upd B 0 (-1000000005)) 1 (-1000000005)) (nI 0) (nI q)) := by
            rw [← e1]
            rfl
          rw [eT]
          refine Eq.trans ?_ e
          have e2 : Dn (d + 6) 176 [.ref 123, .int (nI i), .int (nI j), .int 0] (MX h (mBf M N s a0) K N s a0) nx = _ := e2
          simp only [n_174, e_174_0, e_174_1, e_174_4, e_174_7, e_174_8, e_174_9, e_174_12, e_174_15, e_174_16, e_174_17, e_174_18, e_174_21, e_174_24, e_174_26, e_174_27, e_174_28, e_174_31, e_174_32, e_174_33, e_174_36, e_174_38, e_174_39, e_174_40, e_174_43, e_174_44n, e_174_44i, e_174_44r, e_174_46, e_174_47, e_174_48, e_174_49, e_174_50, c_misSheet, c_min_in, c_isWalker hs1 hs, c_thinks, cn_s, cn_v, pi_if, kX, if_true, gX24, rx136 hi4, h136, e2, Option.bind_some]
          rw [if_pos h1, if_pos h2, if_pos h3, if_pos (show 0 ≤ (Sh i).2 1 by rcases hA.2.1 with q | q | q; exact absurd q h4; rw [q]; decide; rw [q]; decide), e_174_53 rfl rfl]
          simp only [e_174_55, e_174_56n, e_174_56i, e_174_56r]
          rfl
      · refine ⟨K, ?_⟩
        rw [if_neg (fun q => h3 q.2.2)]
        simp only [n_174, e_174_0, e_174_1, e_174_4, e_174_7, e_174_8, e_174_9, e_174_12, e_174_15, e_174_16, e_174_17, e_174_18, e_174_21, e_174_24, e_174_26, c_misSheet, c_min_in, c_isWalker hs1 hs, cn_s, pi_if, kX, if_true]
        rw [if_pos h1, if_pos h2, if_neg h3]; rfl
    · refine ⟨K, ?_⟩
      rw [if_neg (fun q => h2 q.2.1)]
      simp only [n_174, e_174_0, e_174_1, e_174_4, e_174_7, e_174_8, e_174_9, e_174_12, e_174_24, e_174_26, c_misSheet, c_isWalker hs1 hs, cn_s, pi_if, kX, if_true]
      rw [if_pos h1, if_neg h2]; rfl
  · refine ⟨K, ?_⟩
    rw [if_neg (fun q => h1 q.1)]
    simp only [n_174, e_174_0, e_174_1, e_174_4, e_174_24, e_174_26, c_misSheet, cn_s, pi_if]
    rw [if_neg h1]; rfl
end MT
