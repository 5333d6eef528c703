/-! the model's public methods: behind, lasts, custom, shown, salted, tells, enough -/
section MF
variable {d : Nat} {h : AH} {nx : AN} {M : MS} {D N T D' D2 : DT} {s H i j c a k n g t m : Nat} {x y z u v : Int32} {a0 f w F K1 b : Nat → Int32} {K : (Nat → Int32) × (Nat → Int32)} {l1 l2 l3 l4 l5 : Value} {L : LT}
/-- what the model is given between calls: not held; its texts are the class's; now is as it must be -/
def mOK (M : MS) (L : LT) (N : DT) (s t H : Nat) (a0 : Nat → Int32) : Prop := M.1 4 = 0 ∧ TR L t a0 ∧ okL L t ∧ dJ N s H ∧ N.2.2 12 = nI t
theorem i_sub3 (h0 : 0 ≤ y) (h1 : ¬ y ≤ 2 + nI s) (hs : s ≤ 10) : ¬ (0 ≤ y - 3 ∧ y - 3 < nI s) := by
  rintro ⟨_, h2⟩
  rw [show (2 : Int32) + nI s = nI (2 + s) from nI_add 2 s, Int32.le_iff_toInt_le, nI_toInt (by omega)] at h1
  rw [Int32.lt_iff_toInt_lt, nI_toInt (by omega), Int32.toInt_sub] at h2
  have e3 : (3 : Int32).toInt = 3 := by decide
  have e0 : (0 : Int32).toInt = 0 := by decide
  rw [Int32.le_iff_toInt_le, e0] at h0
  have := Int32.toInt_lt y
  rw [e3, Int.bmod_eq_of_le (by omega) (by omega)] at h2
  omega
theorem Q_behind (hO : mOK M L N s t H a0) (hH : H ≤ 9999) : ∃ K', Dn (d + 7) 164 [.ref 123, .int x, .int y] (MX h M K N s a0) nx = if (0 ≤ x ∧ x ≤ 100) ∧ (0 ≤ y ∧ y ≤ 2 + nI s) then am (if y = 0 then (hrs L t s x.toNatClampNeg (bec T N s)).2.2 3 else if y = 1 then (hrs L t s x.toNatClampNeg (bec T N s)).2.2 8 else if y = 2 then lvg (hrs L t s x.toNatClampNeg (bec T N s)).2.1 s else (hrs L t s x.toNatClampNeg (bec T N s)).2.1 (y - 3).toNatClampNeg 1) h (mBf M N s a0) K' N s a0 nx else am (-1000000001) h M K N s a0 nx := by
  obtain ⟨hM, hT, hL, hN, h12⟩ := hO
  have hs := hN.1.2.1
  by_cases h1 : 0 ≤ x ∧ x ≤ 100
  · by_cases h2 : 0 ≤ y ∧ y ≤ 2 + nI s
    · obtain ⟨m, hm, rfl⟩ := idxle (m := 100) h1 (by omega)
      rw [cl_nI (by omega)]
      have hB := bec_J (T := T) hN
      obtain ⟨K', e⟩ := c_goesOn (d := d) (h := h) (nx := nx) (M := mBf M N s a0) (K := K) (D := bec T N s) hM hT hL (m := m) (by omega) hB (by omega) (bec_t h12)
      rw [← MX_bec] at e
      have hR := hrs_J (L := L) (t := t) m (bec T N s) H (by omega) hB
      generalize hrs L t s m (bec T N s) = R at e hR
      refine ⟨K', ?_⟩
      rw [if_pos ⟨h1, h2⟩]
      have hp : 0 ≤ y ∧ y ≤ nI (2 + s) := ⟨h2.1, by rw [← nI_add]; exact h2.2⟩
      obtain ⟨q, hq, rfl⟩ := idxle hp (by omega)
      have pb : ∀ {K : (Nat → Int32) × (Nat → Int32)}, Dn (d + 6) 166 [.ref 123] (MX h (mBf M N s a0) K R s a0) nx = some (none, MX h (mBf M N s a0) K N s a0, nx) := fun {K} => by
        have := c_putsBack (d := d + 5) (h := h) (nx := nx) (M := mBf M N s a0) (K := K) (D := R) hs mBf_b
        rw [sF_id (M := mBf M N s a0) hM] at this
        exact this
      have tl : ∀ v, Df (d + 6) 164 90 [.ref 123, .int (nI m), .int (nI q), .null] [.int v] (MX h (mBf M N s a0) K' R s a0) nx = am v h (mBf M N s a0) K' N s a0 nx := fun v => by
        simp only [e_164_90n, e_164_90i, e_164_90r, e_164_91, e_164_92, e_164_95, e_164_96, kX, if_true, pb, cn_v]
        rfl
      have go : Df (d + 6) 164 32 [.ref 123, .int (nI m), .int (nI q), .null] [] (MX h M K N s a0) nx = am (if nI q = 0 then R.2.2 3 else if nI q = 1 then R.2.2 8 else if nI q = 2 then lvg R.2.1 s else R.2.1 (nI q - 3).toNatClampNeg 1) h (mBf M N s a0) K' N s a0 nx := by
        simp only [e_164_32, e_164_33, e_164_36, e_164_37, e_164_38, e_164_41, e_164_42, e_164_45, e_164_46, e_164_49, e_164_51, e_164_52, e_164_55, e_164_56, e_164_57, e_164_60, e_164_61, e_164_64, e_164_66, e_164_67, e_164_70, e_164_71, e_164_72, e_164_75, e_164_76, e_164_79, e_164_82, e_164_83, e_164_84, e_164_85, kX, if_true, c_thinks, e, cn_v, cn_s, gX0, rx7, rx8, c_mliving hR.1, Option.bind_some, tl]
        by_cases c0 : nI q = 0
        · rw [if_pos c0, if_pos c0]
        rw [if_neg c0, if_neg c0]
        by_cases c1 : nI q = 1
        · rw [if_pos c1, if_pos c1]
        rw [if_neg c1, if_neg c1]
        by_cases c2 : nI q = 2
        · rw [if_pos c2, if_pos c2]
        rw [if_neg c2, if_neg c2]
        have hq3 : 3 ≤ q := by
          rcases (show q = 0 ∨ q = 1 ∨ q = 2 ∨ 3 ≤ q by omega) with r | r | r | r
          · exact absurd (by rw [r]; rfl) c0
          · exact absurd (by rw [r]; rfl) c1
          · exact absurd (by rw [r]; rfl) c2
          · exact r
        have e3 : nI q - 3 = nI (q - 3) := nI_sub (b := 3) hq3
        rw [e3, cl_nI (by omega)]
        simp only [e_164_86, e_164_87, kX, if_true, c_of1 (show q - 3 < s by omega) hs, cn_s, tl]
      rw [← go]
      simp only [n_164, e_164_0, e_164_1, e_164_2, e_164_4, e_164_7, e_164_10, e_164_11, e_164_14, e_164_15, e_164_16, e_164_19, e_164_20, e_164_21, e_164_22, e_164_23, c_min_in, cn_s, pi_if, kX, if_true, c_isWalker hN.1.1 hs]
      rw [if_pos h1, if_neg (nI_pos (by omega))]
      by_cases c3 : nI q ≤ 2
      · rw [if_pos c3]
      · rw [if_neg c3]
        simp only [e_164_26]
        have hq3 : 3 ≤ q := by
          rcases Nat.lt_or_ge q 3 with r | r
          · exact absurd (nI_le (a := q) (b := 2) (by omega) (by omega)) c3
          · exact r
        have e3 : nI q - 3 = nI (q - 3) := nI_sub (b := 3) hq3
        rw [e3]
        have : pi (0 ≤ nI (q - 3) ∧ nI (q - 3) < nI s) = 1 := by
          unfold pi
          rw [if_pos ⟨nI_pos' (by omega), nI_lt (by omega) (by omega)⟩]
        rw [this, if_neg (by decide)]
    · refine ⟨K, ?_⟩
      rw [if_neg (fun q => h2 q.2)]
      simp only [n_164, e_164_0, e_164_1, e_164_2, e_164_4, e_164_7, e_164_10, e_164_11, e_164_14, e_164_15, e_164_16, e_164_19, e_164_20, e_164_21, e_164_22, e_164_23, e_164_26, e_164_29, e_164_31, c_min_in, cn_s, pi_if, kX, if_true, c_isWalker hN.1.1 hs]
      rw [if_pos h1]
      by_cases c0 : y < 0
      · rw [if_pos c0]; rfl
      · rw [if_neg c0]
        have c0' : 0 ≤ y := by rw [← i_nlt]; exact c0
        have hn : ¬ y ≤ 2 + nI s := fun q => h2 ⟨c0', q⟩
        have c2 : ¬ y ≤ 2 := fun q => hn (Int32.le_trans q (by
          rw [show (2 : Int32) + nI s = nI (2 + s) from nI_add 2 s]
          exact nI_le (a := 2) (by omega) (by omega)))
        rw [if_neg c2, if_neg (i_sub3 c0' hn hs)]; rfl
  · refine ⟨K, ?_⟩
    rw [if_neg (fun q => h1 q.1)]
    simp only [n_164, e_164_0, e_164_1, e_164_2, e_164_4, e_164_7, e_164_29, e_164_31, c_min_in, cn_s, pi_if]
    rw [if_neg h1]; rfl
theorem lasts_tail (hM : M.1 4 = 0) (hb : ∀ k, k < 95 → M.2 127 k = enc N s a0 k) (hs : s ≤ 10) : Df (d + 5) 167 42 [.ref 123, .int x, .int y, .null] [] (MX h M K D s a0) nx = am (if x < D.2.2 8 then y else -1000000005) h M K N s a0 nx := by
  have pb := c_putsBack (d := d + 4) (h := h) (nx := nx) (M := M) (K := K) (D := D) hs hb
  rw [sF_id hM] at pb
  simp only [e_167_42, e_167_43, e_167_46, e_167_48, e_167_49, e_167_50, e_167_53, e_167_54, e_167_57, e_167_59n, e_167_59i, e_167_59r, e_167_60, e_167_61, e_167_64, e_167_65, gX0, rx8, kX, if_true, pb, cn_v, Option.bind_some]
  by_cases h1 : x < D.2.2 8
  · rw [if_neg (show ¬ D.2.2 8 ≤ x by rw [i_nle]; exact h1), if_pos h1]; rfl
  · rw [if_pos (show D.2.2 8 ≤ x by rw [← i_nlt]; exact h1), if_neg h1]; rfl
theorem lasts_loop (hM : M.1 4 = 0) (hb : ∀ k, k < 95 → M.2 127 k = enc N s a0 k) (hT : TR L t a0) (hL : okL L t) (r : Nat) : ∀ (k H : Nat) (D : DT) (K : (Nat → Int32) × (Nat → Int32)), dJ D s H → H + r < 2147483648 → D.2.2 12 = nI t → D.2.2 8 = x → k + r = 200 → ∃ K', Df (d + 5) 167 14 [.ref 123, .int x, .int (nI k), .null] [] (MX h M K D s a0) nx = am (fdF L t s x r (k + 1) D).1 h M K' N s a0 nx := by
  induction r with
  | zero =>
    intro k H D K hD hH h12 h8 hk
    obtain rfl : k = 200 := by omega
    refine ⟨K, ?_⟩
    rw [e_167_14]
    simp only [e_167_15, e_167_18]
    rw [if_pos (by decide), lasts_tail hM hb hD.1.2.1, h8, if_neg Int32.lt_irrefl]
    rfl
  | succ r ih =>
    intro k H D K hD hH h12 h8 hk
    obtain ⟨K1, e1⟩ := c_mhour (d := d) (h := h) (nx := nx) (M := M) (K := K) True (by rw [if_pos trivial]; exact hM) hD (by omega) h12 hT hL
    have g1 := hrF_J (L := L) (t := t) True (by omega) hD
    have g2 : (hrF L t s True D).2.2 12 = nI t := (hrF_k True hD.1).2.trans h12
    have g3 := hr_deaths (L := L) (t := t) True (by omega) hD
    rw [h8] at g3
    have st : Df (d + 5) 167 14 [.ref 123, .int x, .int (nI k), .null] [] (MX h M K D s a0) nx = Df (d + 5) 167 14 [.ref 123, .int x, .int (nI (k + 1)), .null] [] (MX h M K1 (hrF L t s True D) s a0) nx := by
      rw [e_167_14]
      simp only [e_167_15, e_167_18, e_167_21, e_167_22, e_167_25, e_167_27, e_167_28, e_167_29, e_167_32, e_167_33, e_167_36, e_167_39, gX0, rx8, h8, kX, if_true, e1, cn_v, Option.bind_some, nI_1]
      rw [if_neg (show ¬ (200 : Int32) ≤ nI k from nI_ge (b := 200) (by omega) (by omega))]
    rw [st]
    unfold fdF
    by_cases c : x < (hrF L t s True D).2.2 8
    · refine ⟨K1, ?_⟩
      rw [if_pos c, e_167_14]
      simp only [e_167_15, e_167_18, e_167_21, e_167_22, e_167_25, e_167_27, e_167_28, e_167_29, gX0, rx8, Option.bind_some]
      have hne : ¬ (hrF L t s True D).2.2 8 = x := fun q => by rw [q] at c; exact Int32.lt_irrefl c
      rw [if_neg hne, ite_self, lasts_tail hM hb hD.1.2.1, if_pos c]
    · rw [if_neg c]
      have heq : (hrF L t s True D).2.2 8 = x := by
        rw [i_nlt] at c g3
        exact Int32.le_antisymm c g3
      exact ih (k + 1) (H + 1) _ K1 g1 (by omega) g2 heq (by omega)
theorem Q_lasts (hO : mOK M L N s t H a0) (hH : H ≤ 9999) : ∃ K', Dn (d + 6) 167 [.ref 123] (MX h M K N s a0) nx = am (fdF L t s (N.2.2 8) 200 1 (bec T N s)).1 h (mBf M N s a0) K' N s a0 nx := by
  obtain ⟨hM, hT, hL, hN, h12⟩ := hO
  have hB := bec_J (T := T) hN
  obtain ⟨K', e⟩ := lasts_loop (d := d) (h := h) (nx := nx) (M := mBf M N s a0) (x := N.2.2 8) hM mBf_b hT hL 200 0 H (bec T N s) K hB (by omega) (bec_t h12) (by rw [bec_q (by omega) (by omega)]) rfl
  rw [← MX_bec] at e
  refine ⟨K', ?_⟩
  refine Eq.trans ?_ e
  simp only [n_167, e_167_0, e_167_1, e_167_4, e_167_5, e_167_8, e_167_10, e_167_11n, e_167_11i, e_167_11r, e_167_12, e_167_13n, e_167_13i, e_167_13r, kX, if_true, c_thinks, cn_v, gX0, rx8, Option.bind_some]
  rfl
theorem qX4 : pF (MX h M K D s a0) 123 9 4 (.int x) = some (MX h (sF M 4 x) K D s a0) := qG4
theorem Q_custom (hO : mOK M L N s t H a0) (hH : H ≤ 9999) (T1 T2 : DT) : ∃ K', Dn (d + 8) 171 [.ref 123, .int x] (MX h M K N s a0) nx = if 1 ≤ x ∧ x ≤ 60 then am ((hrs L t s x.toNatClampNeg (bec T1 N s)).2.2 8 - (hrn L t s x.toNatClampNeg (bec T2 N s)).2.2 8) h (mBf M N s a0) K' N s a0 nx else am (-1000000001) h M K N s a0 nx := by
  obtain ⟨hM, hT, hL, hN, h12⟩ := hO
  by_cases h1 : 1 ≤ x ∧ x ≤ 60
  · obtain ⟨m, hm1, hm, rfl⟩ := idx1 (m := 60) h1 (by omega)
    rw [cl_nI (by omega)]
    obtain ⟨K1, e1⟩ := c_deathsBehind (d := d) (h := h) (nx := nx) (M := mBf M N s a0) (K := K) (D := bec T1 N s) (N := N) hM mBf_b hT hL (m := m) (by omega) (bec_J hN) (by omega) (bec_t h12)
    obtain ⟨K2, e2⟩ := c_deathsHeld (d := d) (h := h) (nx := nx) (M := sF (mBf M N s a0) 4 1) (K := K1) (D := bec T2 N s) (N := N) rfl mBf_b hT hL (m := m) (by omega) (bec_J hN) (by omega) (bec_t h12)
    rw [← MX_bec] at e1 e2
    have e3 : sF (sF (mBf M N s a0) 4 1) 4 0 = mBf M N s a0 := by
      have : sF (sF (mBf M N s a0) 4 1) 4 0 = sF (mBf M N s a0) 4 0 := by
        unfold sF
        dsimp only
        rw [upd_2]
      rw [this]
      exact sF_id hM
    rw [e3] at e2
    refine ⟨K2, ?_⟩
    rw [if_pos h1]
    simp only [n_171, e_171_0, e_171_1, e_171_2, e_171_4, e_171_7, e_171_10, e_171_12, e_171_13, e_171_14, e_171_17, e_171_18, e_171_19, e_171_22n, e_171_22i, e_171_22r, e_171_23, e_171_24, e_171_25, e_171_28, e_171_29, e_171_30, e_171_31, e_171_34, e_171_35, c_min_in, cn_s, cn_v, pi_if, kX, if_true, c_thinks, e1, qX4, or_true, e2, Option.bind_some]
    rw [if_pos h1]; rfl
  · refine ⟨K, ?_⟩
    rw [if_neg h1]
    simp only [n_171, e_171_0, e_171_1, e_171_2, e_171_4, e_171_7, e_171_10, e_171_12, c_min_in, cn_s, pi_if]
    rw [if_neg h1]; rfl
theorem mshown_loop (hM : M.1 4 = 0) (hb : ∀ k, k < 95 → M.2 127 k = enc N s a0 k) (hT : TR L t a0) (hL : okL L t) {m : Nat} (hm : m < 1000) (r : Nat) : ∀ (k H : Nat) (x : Int32) (D : DT) (K : (Nat → Int32) × (Nat → Int32)), dJ D s H → H + r < 2147483648 → D.2.2 12 = nI t → k + r = m → ∃ K', Df (d + 5) 173 21 [.ref 123, .int (nI m), .int x, .int (nI k)] [] (MX h M K D s a0) nx = am (shwF L t s r x D).1 h M K' N s a0 nx := by
  induction r with
  | zero =>
    intro k H x D K hD hH h12 hk
    obtain rfl : k = m := by omega
    have pb := c_putsBack (d := d + 4) (h := h) (nx := nx) (M := M) (K := K) (D := D) hD.1.2.1 hb
    rw [sF_id hM] at pb
    refine ⟨K, ?_⟩
    rw [e_173_21]
    simp only [e_173_22, e_173_23, e_173_48, e_173_49, e_173_52, e_173_53, kX, if_true, pb, cn_v]
    rw [if_pos (nI_le (Nat.le_refl _) (by omega))]
    rfl
  | succ r ih =>
    intro k H x D K hD hH h12 hk
    obtain ⟨K1, e1⟩ := c_mhour (d := d) (h := h) (nx := nx) (M := M) (K := K) True (by rw [if_pos trivial]; exact hM) hD (by omega) h12 hT hL
    obtain ⟨K', e⟩ := ih (k + 1) (H + 1) (x ||| ((1 : Int32) <<< ((hrF L t s True D).2.2 3 &&& 31))) (hrF L t s True D) K1 (hrF_J True (by omega) hD) (by omega) ((hrF_k True hD.1).2.trans h12) (by omega)
    refine ⟨K', ?_⟩
    unfold shwF
    rw [← e, e_173_21]
    simp only [e_173_22, e_173_23, e_173_26, e_173_27, e_173_30, e_173_31, e_173_32, e_173_33, e_173_36, e_173_38, e_173_39, e_173_40, e_173_41n, e_173_41i, e_173_41r, e_173_42, e_173_45, kX, if_true, e1, cn_v, gX0, rx7, Option.bind_some, nI_1]
    rw [if_neg (nI_ge (by omega) (by omega))]
theorem Q_shown (hO : mOK M L N s t H a0) (hH : H ≤ 9999) : ∃ K', Dn (d + 6) 173 [.ref 123, .int x] (MX h M K N s a0) nx = if 1 ≤ x ∧ x ≤ 100 then am (shwF L t s x.toNatClampNeg 0 (bec T N s)).1 h (mBf M N s a0) K' N s a0 nx else am (-1000000001) h M K N s a0 nx := by
  obtain ⟨hM, hT, hL, hN, h12⟩ := hO
  by_cases h1 : 1 ≤ x ∧ x ≤ 100
  · obtain ⟨m, hm1, hm, rfl⟩ := idx1 (m := 100) h1 (by omega)
    rw [cl_nI (by omega)]
    obtain ⟨K', e⟩ := mshown_loop (d := d) (h := h) (nx := nx) (M := mBf M N s a0) hM mBf_b hT hL (m := m) (by omega) m 0 H 0 (bec T N s) K (bec_J hN) (by omega) (bec_t h12) (by omega)
    rw [← MX_bec] at e
    refine ⟨K', ?_⟩
    rw [if_pos h1, ← e]
    simp only [n_173, e_173_0, e_173_1, e_173_2, e_173_4, e_173_7, e_173_10, e_173_12, e_173_13, e_173_14, e_173_17, e_173_18n, e_173_18i, e_173_18r, e_173_19, e_173_20n, e_173_20i, e_173_20r, c_min_in, cn_s, cn_v, pi_if, kX, if_true, c_thinks]
    rw [if_pos h1]; rfl
  · refine ⟨K, ?_⟩
    rw [if_neg h1]
    simp only [n_173, e_173_0, e_173_1, e_173_2, e_173_4, e_173_7, e_173_10, e_173_12, c_min_in, cn_s, pi_if]
    rw [if_neg h1]; rfl
end MF
