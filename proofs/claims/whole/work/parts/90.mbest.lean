/-! the model's public methods: salted, tells, enough -/
section MI
variable {d : Nat} {h : AH} {nx : AN} {M : MS} {D N T D' D2 : DT} {s H i j c a k n g t m : Nat} {x y z u v bst lst : Int32} {a0 f w F K1 b B : Nat → Int32} {K : (Nat → Int32) × (Nat → Int32)} {l1 l2 l3 l4 l5 l6 l7 : Value} {L : LT}
/-- the class's best, and the model's best and least -/
def bNo (b0 : Int32) (B : Nat → Int32) (bst lst : Int32) : Prop := B 0 = -1000000005 ∧ B 1 = -1000000005 ∧ bst = b0 ∧ lst = 99
def bIs (B : Nat → Int32) (bst lst : Int32) : Prop := ∃ i, i < 100 ∧ B 0 = nI i ∧ bst = nI i ∧ B 1 = lst
theorem nI_none (hi : i < 100) : ¬ nI i = -1000000005 := fun e => by
  have h0 : ¬ nI i < 0 := nI_pos (by omega)
  rw [e] at h0
  exact h0 (by decide)
theorem b_step {p : Nat} (hi : i < 100) (hp : p ≤ 50) (hb : bNo u B bst lst ∨ bIs B bst lst) : bIs (ofF B (nI i) (nI p)) (if nI p < lst then nI i else bst) (if nI p < lst then nI p else lst) := by
  rcases hb with ⟨h0, h1, h2, h3⟩ | ⟨j, hj, h0, h1, h2⟩
  · subst h3
    rw [if_pos (show nI p < 99 from nI_lt (b := 99) (by omega) (by omega)), if_pos (show nI p < 99 from nI_lt (b := 99) (by omega) (by omega))]
    unfold ofF
    rw [if_pos (Or.inl h0)]
    exact ⟨i, hi, rfl, rfl, rfl⟩
  · unfold ofF
    rw [h2]
    by_cases c : nI p < lst
    · rw [if_pos c, if_pos c, if_pos (Or.inr c)]
      exact ⟨i, hi, rfl, rfl, rfl⟩
    · have hc : ¬ (B 0 = -1000000005 ∨ nI p < lst) := by
        rintro (q | q)
        · rw [h0] at q; exact nI_none hj q
        · exact c q
      rw [if_neg c, if_neg c, if_neg hc]
      exact ⟨j, hj, h0, h1, h2⟩
theorem dJ.th (hD : dJ D s H) (k : Nat) (hm : m ≤ 99) : dJ (dW D k (upd (D.2.1 k) 1 (nI m))) s H := hD.wk k (fun q => ⟨⟨m, rfl, hm⟩, (hD.2.1 k q).2⟩) rfl rfl
theorem dJ.kn (hD : dJ D s H) (k : Nat) (hg : g < 25) : dJ (dW D k (upd (D.2.1 k) 3 (nI g))) s H := by
  obtain ⟨a1, a2, a3, a4, a5, a6, a7⟩ := hD
  refine ⟨a1.kn hg k, fun i hi => ?_, a3, a4, a5, a6, ?_⟩
  · show wJ (updW D.2.1 k (upd (D.2.1 k) 3 (nI g)) i)
    by_cases e : i = k
    · subst e
      rw [updW_s]; exact a2 i hi
    · rw [show updW D.2.1 k (upd (D.2.1 k) 3 (nI g)) i = D.2.1 i from if_neg e]; exact a2 i hi
  · show D.2.2 8 = nI (ndd (updW D.2.1 k (upd (D.2.1 k) 3 (nI g))) s)
    rw [ndd_w (w := upd (D.2.1 k) 3 (nI g)) rfl]; exact a7
theorem dead_le (hD : dJ D s H) : ∃ p, D.2.2 8 = nI p ∧ p ≤ 50 := ⟨_, hD.2.2.2.2.2.2, by have := ndd_le (W := D.2.1) s; have := hD.1.2.1; omega⟩
theorem salt_eq (hN : dJ N s H) (hk : k < s) : ∃ p, p ≤ 99 ∧ (if N.2.1 k 1 + 30 < 99 then N.2.1 k 1 + 30 else (99 : Int32)) = nI p ∧ hld (N.2.1 k 1 + 30) 0 99 = nI p := by
  obtain ⟨m, h1, hm⟩ := (hN.2.1 k hk).1
  refine ⟨min (m + 30) 99, by omega, ?_, ?_⟩
  · rw [h1, show nI m + 30 = nI (m + 30) from nI_add m 30]; exact mn_nI (b := 99) (by omega) (by omega)
  · rw [h1, show nI m + 30 = nI (m + 30) from nI_add m 30]; exact hld_nI (b := 99) (by omega) (by omega)
theorem msalted_loop (hO : mOK M L N s t H a0) (hb : ∀ k, k < 95 → M.2 127 k = enc N s a0 k) (hm : m ≤ 100) (hH : H ≤ 9999) (r : Nat) : ∀ (k : Nat) (D : DT) (B : Nat → Int32) (bst lst : Int32) (K : (Nat → Int32) × (Nat → Int32)) (l6 : Value), nr l6 = true → bNo (-1) B bst lst ∨ bIs B bst lst → k + r = s → ∃ K', Df (d + 7) 168 35 [.ref 123, .int (nI m), .int x, .int bst, .int lst, .int (nI k), l6] [] (MX h M K N s a0) nx = am (if x = 0 then (saF L t s m N r k (D, B)).2 0 else (saF L t s m N r k (D, B)).2 1) h M K' N s a0 nx := by
  obtain ⟨hM, hT, hL, hN, h12⟩ := hO
  have hs := hN.1.2.1
  induction r with
  | zero =>
    intro k D B bst lst K l6 h6 hB hk
    obtain rfl : k = s := by omega
    refine ⟨K, ?_⟩
    rw [e_168_35]
    simp only [e_168_37, e_168_38, e_168_41, e_168_42, e_168_43, e_168_121, e_168_122, e_168_125, e_168_127, e_168_130, e_168_131, e_168_134, e_168_135, e_168_138, e_168_140, gX0, rx1, hN.1.1, Option.bind_some]
    rw [if_pos (nI_le (Nat.le_refl _) (by omega))]
    unfold saF
    rcases hB with ⟨h0, h1, h2, h3⟩ | ⟨j, hj, h0, h1, h2⟩
    · rw [h2, if_neg (by decide)]
      dsimp only
      rw [h0, h1, ite_self]
      rfl
    · rw [h1, if_pos (nI_pos' (by omega))]
      dsimp only
      rw [h0, h2]
      by_cases hx : x = 0
      · rw [if_pos hx, if_pos hx]; rfl
      · rw [if_neg hx, if_neg hx]; rfl
  | succ r ih =>
    intro k D B bst lst K l6 h6 hB hk
    have hks : k < s := by omega
    unfold saF
    by_cases h1 : N.2.1 k 5 = 0
    · obtain ⟨K', e⟩ := ih (k + 1) D B bst lst K l6 h6 hB (by omega)
      refine ⟨K', ?_⟩
      rw [if_pos h1, ← e, e_168_35]
      simp only [e_168_37, e_168_38, e_168_41, e_168_42, e_168_43, e_168_46, e_168_47, e_168_49, e_168_52, e_168_115, e_168_118, gX0, rx1, hN.1.1, kX, if_true, c_lives hks hs (hN.1.2.2.2.2 k hks), cn_s, pi_if, Option.bind_some, nI_1]
      rw [if_neg (nI_ge (by omega) (by omega)), if_neg (fun q => q h1)]
    · rw [if_neg h1]
      obtain ⟨p, hp, ep1, ep2⟩ := salt_eq hN hks
      have hB' := (bec_J (T := D) hN).th k hp
      have eS : saD L t s m N k D = hrs L t s m (dW (bec D N s) k (upd ((bec D N s).2.1 k) 1 (nI p))) := by
        unfold saD; rw [ep1]
      have q12 : (dW (bec D N s) k (upd ((bec D N s).2.1 k) 1 (nI p))).2.2 12 = nI t := by rw [dW_q]; exact bec_t h12
      obtain ⟨K1, e1⟩ := c_deathsBehind (d := d) (h := h) (nx := nx) (M := M) (K := K) (D := dW (bec D N s) k (upd ((bec D N s).2.1 k) 1 (nI p))) (N := N) hM hb hT hL (m := m) (by omega) hB' (by omega) q12
      have hR := hrs_J (L := L) (t := t) m _ H (by omega) hB'
      rw [← eS] at e1 hR
      obtain ⟨q, eq1, hq⟩ := dead_le hR
      rw [eq1] at e1
      have bs := b_step (i := k) (p := q) (by omega) hq hB
      obtain ⟨K', e⟩ := ih (k + 1) (saD L t s m N k D) (ofF B (nI k) (nI q)) _ _ K1 (.int (nI q)) (nr_i _) (Or.inr bs) (by omega)
      refine ⟨K', ?_⟩
      dsimp only
      rw [eq1, ← e]
      have lv := c_lives (d := d + 5) (h := h) (nx := nx) (M := M) (K := K) (D := N) (a0 := a0) hks hs (hN.1.2.2.2.2 k hks)
      have o1 := c_of1 (d := d + 6) (h := h) (nx := nx) (M := M) (K := K) (D := N) (a0 := a0) hks hs
      have pt : Dn (d + 7) 125 [.ref 123, .int (nI k), .int 1, .int (nI p)] (MX h M K N s a0) nx = some (none, MX h M K (dW (bec D N s) k (upd ((bec D N s).2.1 k) 1 (nI p))) s a0, nx) := by
        rw [MX_bec (T := D)]
        exact c_put1 hks hs
      rw [e_168_35]
      simp only [e_168_37, e_168_38, e_168_41, e_168_42, e_168_43, e_168_46, e_168_47, e_168_49, e_168_52, e_168_55, e_168_56, e_168_58, e_168_59, e_168_60, e_168_62, e_168_63, e_168_66, e_168_68, e_168_69, e_168_70, e_168_72, e_168_75, e_168_78, e_168_79, e_168_80, gX0, rx1, hN.1.1, kX, if_true, lv, o1, ep2, c_mwithin, pt, e1, cn_s, cn_v, pi_if, Option.bind_some]
      rw [if_neg (nI_ge (by omega) (by omega)), if_pos h1, e_168_83 h6]
      simp only [e_168_85, e_168_87, e_168_89, e_168_92, e_168_94, e_168_97, e_168_98n, e_168_98i, e_168_98r, e_168_99, e_168_101, e_168_103, e_168_106, e_168_108, e_168_111, e_168_113n, e_168_113i, e_168_113r, e_168_115, e_168_118, nI_1]
      by_cases c1 : nI q < lst
      · have c2 : ¬ lst ≤ nI q := by rw [i_nle]; exact c1
        simp only [c1, c2, if_true, if_false]
      · have c2 : lst ≤ nI q := by rw [← i_nlt]; exact c1
        simp only [c1, c2, if_true, if_false]
theorem Q_salted (hO : mOK M L N s t H a0) (hH : H ≤ 9999) : ∃ K', Dn (d + 8) 168 [.ref 123, .int x, .int y] (MX h M K N s a0) nx = if (1 ≤ x ∧ x ≤ 60) ∧ (0 ≤ y ∧ y ≤ 1) then am (if y = 0 then (saF L t s x.toNatClampNeg N s 0 (T, upd (upd B 0 (-1000000005)) 1 (-1000000005))).2 0 else (saF L t s x.toNatClampNeg N s 0 (T, upd (upd B 0 (-1000000005)) 1 (-1000000005))).2 1) h (mBf M N s a0) K' N s a0 nx else am (-1000000001) h M K N s a0 nx := by
  by_cases h1 : 1 ≤ x ∧ x ≤ 60
  · by_cases h2 : 0 ≤ y ∧ y ≤ 1
    · obtain ⟨m, hm1, hm, rfl⟩ := idx1 (m := 60) h1 (by omega)
      rw [cl_nI (by omega)]
      obtain ⟨K', e⟩ := msalted_loop (d := d) (h := h) (nx := nx) (M := mBf M N s a0) (x := y) (m := m) hO mBf_b (by omega) hH s 0 T (upd (upd B 0 (-1000000005)) 1 (-1000000005)) (-1) 99 K .null nr_n (Or.inl ⟨rfl, rfl, rfl, rfl⟩) (Nat.zero_add _)
      refine ⟨K', ?_⟩
      rw [if_pos ⟨h1, h2⟩]
      refine Eq.trans ?_ e
      simp only [n_168, e_168_0, e_168_1, e_168_2, e_168_4, e_168_7, e_168_10, e_168_11, e_168_12, e_168_13, e_168_16, e_168_19, e_168_21, e_168_22, e_168_23, e_168_26, e_168_27n, e_168_27i, e_168_27r, e_168_28, e_168_30n, e_168_30i, e_168_30r, e_168_32, e_168_33n, e_168_33i, e_168_33r, c_min_in, cn_s, cn_v, pi_if, kX, if_true, c_thinks]
      rw [if_pos h1, if_pos h2]; rfl
    · refine ⟨K, ?_⟩
      rw [if_neg (fun q => h2 q.2)]
      simp only [n_168, e_168_0, e_168_1, e_168_2, e_168_4, e_168_7, e_168_10, e_168_11, e_168_12, e_168_13, e_168_16, e_168_19, e_168_21, c_min_in, cn_s, pi_if]
      rw [if_pos h1, if_neg h2]; rfl
  · refine ⟨K, ?_⟩
    rw [if_neg (fun q => h1 q.1)]
    simp only [n_168, e_168_0, e_168_1, e_168_2, e_168_4, e_168_7, e_168_10, e_168_11, e_168_12, e_168_13, e_168_16, e_168_19, e_168_21, c_min_in, cn_s, pi_if]
    rw [if_neg h1]; rfl
theorem mtells_loop (hO : mOK M L N s t H a0) (hb : ∀ k, k < 95 → M.2 127 k = enc N s a0 k) (hm : m ≤ 100) (hH : H ≤ 9999) (hi : i < s) (r : Nat) : ∀ (k : Nat) (D : DT) (B : Nat → Int32) (bst lst : Int32) (K : (Nat → Int32) × (Nat → Int32)) (l7 : Value), nr l7 = true → (k = 0 ∧ bNo 0 B bst lst) ∨ bIs B bst lst → k + r = 24 → ∃ K', Df (d + 7) 170 44 [.ref 123, .int (nI i), .int (nI m), .int x, .int bst, .int lst, .int (nI k), l7] [] (MX h M K N s a0) nx = am (if x = 0 then (teF L t s m i N r k (D, B)).2 0 else (teF L t s m i N r k (D, B)).2 1) h M K' N s a0 nx := by
  obtain ⟨hM, hT, hL, hN, h12⟩ := hO
  have hs := hN.1.2.1
  induction r with
  | zero =>
    intro k D B bst lst K l7 h7 hB hk
    obtain rfl : k = 24 := by omega
    refine ⟨K, ?_⟩
    rw [e_170_44]
    simp only [e_170_46, e_170_48, e_170_104, e_170_105, e_170_108, e_170_110, e_170_113, e_170_115]
    rw [if_pos (by decide)]
    unfold teF
    rcases hB with ⟨q, _⟩ | ⟨j, hj, h0, h1, h2⟩
    · omega
    · dsimp only
      rw [h0, h1, h2]
      by_cases hx : x = 0
      · rw [if_pos hx, if_pos hx]; rfl
      · rw [if_neg hx, if_neg hx]; rfl
  | succ r ih =>
    intro k D B bst lst K l7 h7 hB hk
    have hB' := (bec_J (T := D) hN).kn i (show k < 25 by omega)
    have eS : teD L t s m i N k D = hrs L t s m (dW (bec D N s) i (upd ((bec D N s).2.1 i) 3 (nI k))) := rfl
    have q12 : (dW (bec D N s) i (upd ((bec D N s).2.1 i) 3 (nI k))).2.2 12 = nI t := by rw [dW_q]; exact bec_t h12
    obtain ⟨K1, e1⟩ := c_deathsBehind (d := d) (h := h) (nx := nx) (M := M) (K := K) (D := dW (bec D N s) i (upd ((bec D N s).2.1 i) 3 (nI k))) (N := N) hM hb hT hL (m := m) (by omega) hB' (by omega) q12
    have hR := hrs_J (L := L) (t := t) m _ H (by omega) hB'
    rw [← eS] at e1 hR
    obtain ⟨q, eq1, hq⟩ := dead_le hR
    rw [eq1] at e1
    have bs := b_step (u := 0) (i := k) (p := q) (by omega) hq (hB.imp And.right id)
    obtain ⟨K', e⟩ := ih (k + 1) (teD L t s m i N k D) (ofF B (nI k) (nI q)) _ _ K1 (.int (nI q)) (nr_i _) (Or.inr bs) (by omega)
    refine ⟨K', ?_⟩
    unfold teF
    dsimp only
    rw [eq1, ← e]
    have pt : Dn (d + 7) 125 [.ref 123, .int (nI i), .int 3, .int (nI k)] (MX h M K N s a0) nx = some (none, MX h M K (dW (bec D N s) i (upd ((bec D N s).2.1 i) 3 (nI k))) s a0, nx) := by
      rw [MX_bec (T := D)]
      exact c_put3 hi hs
    rw [e_170_44]
    simp only [e_170_46, e_170_48, e_170_51, e_170_52, e_170_53, e_170_54, e_170_56, e_170_59, e_170_60, e_170_61, kX, if_true, pt, e1, cn_s, cn_v]
    rw [if_neg (show ¬ (24 : Int32) ≤ nI k from nI_ge (b := 24) (by omega) (by omega)), e_170_64 h7]
    simp only [e_170_66, e_170_68, e_170_70, e_170_73, e_170_75, e_170_78, e_170_80n, e_170_80i, e_170_80r, e_170_82, e_170_84, e_170_86, e_170_89, e_170_91, e_170_94, e_170_96n, e_170_96i, e_170_96r, e_170_98, e_170_101, nI_1]
    by_cases c1 : nI q < lst
    · have c2 : ¬ lst ≤ nI q := by rw [i_nle]; exact c1
      simp only [c1, c2, if_true, if_false]
    · have c2 : lst ≤ nI q := by rw [← i_nlt]; exact c1
      simp only [c1, c2, if_true, if_false]
theorem Q_tells (hO : mOK M L N s t H a0) (hH : H ≤ 9999) : ∃ K', Dn (d + 8) 170 [.ref 123, .int x, .int y, .int z] (MX h M K N s a0) nx = if (0 ≤ x ∧ x < nI s) ∧ (1 ≤ y ∧ y ≤ 40) ∧ (0 ≤ z ∧ z ≤ 1) then am (if z = 0 then (teF L t s y.toNatClampNeg x.toNatClampNeg N 24 0 (T, upd (upd B 0 (-1000000005)) 1 (-1000000005))).2 0 else (teF L t s y.toNatClampNeg x.toNatClampNeg N 24 0 (T, upd (upd B 0 (-1000000005)) 1 (-1000000005))).2 1) h (mBf M N s a0) K' N s a0 nx else am (-1000000001) h M K N s a0 nx := by
  have hN := hO.2.2.2.1
  have hs := hN.1.2.1
  by_cases h0 : 0 ≤ x ∧ x < nI s
  · obtain ⟨i, hi, rfl⟩ := idx h0 (by omega)
    by_cases h1 : 1 ≤ y ∧ y ≤ 40
    · by_cases h2 : 0 ≤ z ∧ z ≤ 1
      · obtain ⟨m, hm1, hm, rfl⟩ := idx1 (m := 40) h1 (by omega)
        rw [cl_nI (by omega), cl_nI (by omega)]
        obtain ⟨K', e⟩ := mtells_loop (d := d) (h := h) (nx := nx) (M := mBf M N s a0) (x := z) (m := m) hO mBf_b (by omega) hH hi 24 0 T (upd (upd B 0 (-1000000005)) 1 (-1000000005)) 0 99 K .null nr_n (Or.inl ⟨rfl, rfl, rfl, rfl, rfl⟩) rfl
        refine ⟨K', ?_⟩
        rw [if_pos ⟨h0, h1, h2⟩]
        refine Eq.trans ?_ e
        simp only [n_170, e_170_0, e_170_1, e_170_2, e_170_5, e_170_8, e_170_9, e_170_10, e_170_12, e_170_15, e_170_18, e_170_19, e_170_20, e_170_21, e_170_24, e_170_27, e_170_29, e_170_30, e_170_31, e_170_34, e_170_35n, e_170_35i, e_170_35r, e_170_37, e_170_39n, e_170_39i, e_170_39r, e_170_41, e_170_42n, e_170_42i, e_170_42r, c_isWalker hN.1.1 hs, c_min_in, cn_s, cn_v, pi_if, kX, if_true, c_thinks]
        rw [if_pos h0, if_pos h1, if_pos h2]; rfl
      · refine ⟨K, ?_⟩
        rw [if_neg (fun q => h2 q.2.2)]
        simp only [n_170, e_170_0, e_170_1, e_170_2, e_170_5, e_170_8, e_170_9, e_170_10, e_170_12, e_170_15, e_170_18, e_170_19, e_170_20, e_170_21, e_170_24, e_170_27, e_170_29, c_isWalker hN.1.1 hs, kX, if_true, c_min_in, cn_s, pi_if]
        rw [if_pos h0, if_pos h1, if_neg h2]; rfl
    · refine ⟨K, ?_⟩
      rw [if_neg (fun q => h1 q.2.1)]
      simp only [n_170, e_170_0, e_170_1, e_170_2, e_170_5, e_170_8, e_170_9, e_170_10, e_170_12, e_170_15, e_170_18, e_170_19, e_170_20, e_170_21, e_170_24, e_170_27, e_170_29, c_isWalker hN.1.1 hs, kX, if_true, c_min_in, cn_s, pi_if]
      rw [if_pos h0, if_neg h1]; rfl
  · refine ⟨K, ?_⟩
    rw [if_neg (fun q => h0 q.1)]
    simp only [n_170, e_170_0, e_170_1, e_170_2, e_170_5, e_170_8, e_170_9, e_170_10, e_170_12, e_170_15, e_170_18, e_170_19, e_170_20, e_170_21, e_170_24, e_170_27, e_170_29, c_isWalker hN.1.1 hs, kX, if_true, c_min_in, cn_s, pi_if]
    rw [if_neg h0]; rfl
theorem shF_J {p : Nat} (hp : p ≤ 30) : ∀ (n k : Nat) (D : DT), dJ D s H → dJ (shF (nI p) n k D) s H
  | 0, _, D, hD => hD
  | n + 1, k, D, hD => by
    unfold shF
    split
    · exact shF_J hp n (k + 1) D hD
    · exact shF_J hp n (k + 1) _ (hD.wk k (fun q => ⟨(hD.2.1 k q).1, ⟨p, rfl, hp⟩⟩) rfl rfl)
theorem shF_q : ∀ (n k : Nat) (D : DT), (shF x n k D).2.2 = D.2.2
  | 0, _, D => rfl
  | n + 1, k, D => by
    unfold shF
    split
    · exact shF_q n (k + 1) D
    · exact shF_q n (k + 1) _
theorem share_loop {p : Nat} (hp : p ≤ 30) (r : Nat) : ∀ (k : Nat) (D : DT), dJ D s H → k + r = s → Df (d + 7) 172 34 [.ref 123, l1, l2, .int (nI p), .int (nI k)] [] (MX h M K D s a0) nx = Df (d + 7) 172 78 [.ref 123, l1, l2, .int (nI p), .int (nI s)] [] (MX h M K (shF (nI p) r k D) s a0) nx := by
  induction r with
  | zero =>
    intro k D hD hk
    have hs := hD.1.2.1
    obtain rfl : k = s := by omega
    rw [e_172_34]
    simp only [e_172_36, e_172_37, e_172_40, e_172_41, e_172_42, gX0, rx1, hD.1.1, Option.bind_some]
    rw [if_pos (nI_le (Nat.le_refl _) (by omega))]
    rfl
  | succ r ih =>
    intro k D hD hk
    have hs := hD.1.2.1
    have hks : k < s := by omega
    rw [e_172_34]
    simp only [e_172_36, e_172_37, e_172_40, e_172_41, e_172_42, e_172_45, e_172_46, e_172_48, e_172_49, e_172_50, e_172_52, e_172_55, e_172_58, e_172_59, e_172_62, e_172_63, e_172_65, e_172_66, e_172_69, e_172_72, e_172_75, gX0, rx1, hD.1.1, kX, if_true, c_lives hks hs (hD.1.2.2.2.2 k hks), c_of2 hks hs, c_put2 hks hs, cn_s, cn_v, pi_if, Option.bind_some, nI_1]
    rw [if_neg (nI_ge (by omega) (by omega))]
    unfold shF
    by_cases h1 : D.2.1 k 5 = 0
    · rw [if_neg (fun q => q h1), if_pos h1]
      have e : dW D k (upd (D.2.1 k) 2 (D.2.1 k 2)) = D := by
        rw [show upd (D.2.1 k) 2 (D.2.1 k 2) = D.2.1 k from by funext q; unfold upd; by_cases e : q = 2 <;> simp [e], dW_id]
      rw [e]
      exact ih (k + 1) D hD (by omega)
    · rw [if_pos h1, if_neg h1]
      exact ih (k + 1) _ (hD.wk k (fun q => ⟨(hD.2.1 k q).1, ⟨p, rfl, hp⟩⟩) rfl rfl) (by omega)
theorem hrs_deaths : ∀ (n : Nat) (D : DT) (H : Nat), H + n < 2147483648 → dJ D s H → ¬ (hrs L t s n D).2.2 8 < D.2.2 8
  | 0, D, H, _, _ => Int32.lt_irrefl
  | n + 1, D, H, hH, hD => by
    unfold hrs
    have h1 := hr_deaths (L := L) (t := t) True (by omega) hD
    have h2 := hrs_deaths n _ (H + 1) (by omega) (hrF_J (L := L) (t := t) True (by omega) hD)
    rw [i_nlt] at h1 h2 ⊢
    exact Int32.le_trans h1 h2
theorem fdF_none : ∀ (n k : Nat) (D : DT) (H : Nat), H + n < 2147483648 → k + n < 1000 → dJ D s H → D.2.2 8 = x → ((fdF L t s x n k D).1 = -1000000005 ↔ (hrs L t s n D).2.2 8 = x)
  | 0, k, D, H, _, _, _, h8 => ⟨fun _ => h8, fun _ => rfl⟩
  | n + 1, k, D, H, hH, hk, hD, h8 => by
    unfold fdF hrs
    have g := hrF_J (L := L) (t := t) True (by omega) hD
    have h1 := hr_deaths (L := L) (t := t) True (by omega) hD
    rw [h8] at h1
    by_cases c : x < (hrF L t s True D).2.2 8
    · rw [if_pos c]
      have h2 := hrs_deaths (L := L) (t := t) n _ (H + 1) (by omega) g
      constructor
      · intro e
        dsimp only at e
        have h0 : ¬ nI k < 0 := nI_pos (by omega)
        rw [e] at h0
        exact absurd (by decide) h0
      · intro e
        rw [e] at h2
        exact absurd c h2
    · rw [if_neg c]
      have heq : (hrF L t s True D).2.2 8 = x := by
        rw [i_nlt] at c h1
        exact Int32.le_antisymm c h1
      exact fdF_none n (k + 1) _ (H + 1) (by omega) (by omega) g heq
theorem menough_loop (hO : mOK M L N s t H a0) (hb : ∀ k, k < 95 → M.2 127 k = enc N s a0 k) (hm : m ≤ 100) (hH : H ≤ 9999) (r : Nat) : ∀ (k : Nat) (D : DT) (K : (Nat → Int32) × (Nat → Int32)) (l4 : Value), nr l4 = true → k + r = 31 → ∃ K', Df (d + 7) 172 21 [.ref 123, .int (nI m), .int (-1), .int (nI k), l4] [] (MX h M K N s a0) nx = am (enF L t s m N r k D).1 h M K' N s a0 nx := by
  obtain ⟨hM, hT, hL, hN, h12⟩ := hO
  have hs := hN.1.2.1
  induction r with
  | zero =>
    intro k D K l4 h4 hk
    obtain rfl : k = 31 := by omega
    refine ⟨K, ?_⟩
    rw [e_172_21]
    simp only [e_172_22, e_172_24, e_172_105, e_172_106, e_172_109, c_told0, cn_s]
    rw [if_pos (by decide)]
    rfl
  | succ r ih =>
    intro k D K l4 h4 hk
    have hB := bec_J (T := D) hN
    have hS := shF_J (p := k) (by omega) s 0 (bec D N s) hB
    have q12 : (shF (nI k) s 0 (bec D N s)).2.2 12 = nI t := by rw [shF_q]; exact bec_t h12
    have q8 : (shF (nI k) s 0 (bec D N s)).2.2 8 = N.2.2 8 := by rw [shF_q, bec_q (by omega) (by omega)]
    obtain ⟨K1, e1⟩ := c_deathsBehind (d := d) (h := h) (nx := nx) (M := M) (K := K) (N := N) hM hb hT hL (m := m) (by omega) hS (by omega) q12
    have fn := fdF_none (L := L) (t := t) (x := N.2.2 8) m 1 _ H (by omega) (by omega) hS q8
    have sl := share_loop (d := d) (h := h) (nx := nx) (M := M) (K := K) (a0 := a0) (l1 := .int (nI m)) (l2 := .int (-1)) (p := k) (by omega) s 0 (bec D N s) hB (Nat.zero_add _)
    rw [← MX_bec, show nI 0 = 0 from rfl] at sl
    have st : Df (d + 7) 172 21 [.ref 123, .int (nI m), .int (-1), .int (nI k), l4] [] (MX h M K N s a0) nx = if (hrs L t s m (shF (nI k) s 0 (bec D N s))).2.2 8 = N.2.2 8 then Df (d + 7) 172 21 [.ref 123, .int (nI m), .int (nI k), .int (nI (k + 1)), .int (nI s)] [] (MX h M K1 N s a0) nx else Df (d + 7) 172 21 [.ref 123, .int (nI m), .int (-1), .int (nI (k + 1)), .int (nI s)] [] (MX h M K1 N s a0) nx := by
      rw [e_172_21]
      simp only [e_172_22, e_172_24, e_172_27, e_172_28, e_172_31]
      rw [if_neg (show ¬ (30 : Int32) < nI k by rw [i_nlt]; exact nI_le (b := 30) (by omega) (by omega)), if_neg (show ¬ (0 : Int32) ≤ -1 by decide), e_172_32 h4, sl]
      simp only [e_172_78, e_172_79, e_172_80, e_172_83, e_172_84, e_172_87, e_172_89, e_172_90, e_172_93, e_172_94, e_172_97, e_172_98n, e_172_98i, e_172_98r, e_172_99, e_172_102, kX, if_true, e1, cn_s, gX0, rx8, Option.bind_some, nI_1]
    rw [st]
    unfold enF
    by_cases c : (hrs L t s m (shF (nI k) s 0 (bec D N s))).2.2 8 = N.2.2 8
    · rw [if_pos c, if_pos (fn.mpr c)]
      refine ⟨K1, ?_⟩
      rw [e_172_21]
      simp only [e_172_22, e_172_24, e_172_27, e_172_28, e_172_105, e_172_106, e_172_109, c_told0, cn_s]
      rw [if_pos (nI_pos' (show k < 2 ^ 31 by omega)), ite_self, if_neg (nI_pos (show k < 2 ^ 31 by omega))]
      rfl
    · rw [if_neg c, if_neg (fun q => c (fn.mp q))]
      exact ih (k + 1) _ K1 _ (nr_i _) (by omega)
theorem Q_enough (hO : mOK M L N s t H a0) (hH : H ≤ 9999) : ∃ K', Dn (d + 8) 172 [.ref 123, .int x] (MX h M K N s a0) nx = if 1 ≤ x ∧ x ≤ 40 then am (enF L t s x.toNatClampNeg N 31 0 T).1 h (mBf M N s a0) K' N s a0 nx else am (-1000000001) h M K N s a0 nx := by
  by_cases h1 : 1 ≤ x ∧ x ≤ 40
  · obtain ⟨m, hm1, hm, rfl⟩ := idx1 (m := 40) h1 (by omega)
    rw [cl_nI (by omega)]
    obtain ⟨K', e⟩ := menough_loop (d := d) (h := h) (nx := nx) (M := mBf M N s a0) (m := m) hO mBf_b (by omega) hH 31 0 T K .null nr_n rfl
    refine ⟨K', ?_⟩
    rw [if_pos h1]
    refine Eq.trans ?_ e
    simp only [n_172, e_172_0, e_172_1, e_172_2, e_172_4, e_172_7, e_172_10, e_172_12, e_172_13, e_172_14, e_172_17, e_172_18n, e_172_18i, e_172_18r, e_172_19, e_172_20n, e_172_20i, e_172_20r, c_min_in, cn_s, cn_v, pi_if, kX, if_true, c_thinks]
    rw [if_pos h1]; rfl
  · refine ⟨K, ?_⟩
    rw [if_neg h1]
    simp only [n_172, e_172_0, e_172_1, e_172_2, e_172_4, e_172_7, e_172_10, e_172_12, c_min_in, cn_s, pi_if]
    rw [if_neg h1]; rfl
end MI
