/-! the model: an hour -/
section MQ
variable {d : Nat} {h : AH} {nx : AN} {M : MS} {D : DT} {s H i j c a k n g t m : Nat} {x y z u : Int32} {a0 f w F K1 : Nat → Int32} {K : (Nat → Int32) × (Nat → Int32)} {l1 l2 l3 l4 l5 : Value} {L : LT}
theorem cupN_2 : ∀ (n : Nat) (w : Nat → Int32) (x : Int32), cupN n (upd w 2 x) = upd (cupN n w) 2 x
  | 0, w, x => rfl
  | n + 1, w, x => by
    unfold cupN
    have e : cup (upd w 2 x) = upd (cup w) 2 x := by
      unfold cup
      show upd (upd w 2 x) 1 (if 0 < w 1 - slk (w 0) then w 1 - slk (w 0) else 0) = _
      funext k
      unfold upd
      by_cases e1 : k = 1
      · subst e1; rfl
      · rw [if_neg e1, if_neg e1]
    rw [e, cupN_2 n]
theorem msip_loop (hi : i < s) (hs : s ≤ 10) {cn : Nat} (hcn : cn < 1000) (n : Nat) : ∀ (k : Nat) (D : DT), wJ (D.2.1 i) → k + n = cn → Df (d + 3) 158 68 [.ref 123, .int (nI i), .int (nI cn), .int (nI k)] [] (MX h M K D s a0) nx = some (none, MX h M K (dW D i (cupN n (D.2.1 i))) s a0, nx) := by
  induction n with
  | zero =>
    intro k D hw hk
    obtain rfl : k = cn := by omega
    rw [e_158_68]
    simp only [e_158_69, e_158_70, e_158_73, e_158_74, e_158_75, e_158_78, e_158_81, e_158_84]
    rw [if_pos (nI_le (Nat.le_refl _) (by omega))]
    unfold cupN
    rw [dW_id]
  | succ n ih =>
    intro k D hw hk
    rw [e_158_68]
    simp only [e_158_69, e_158_70, e_158_73, e_158_74, e_158_75, e_158_78, e_158_81, kX, if_true, c_slaked hi hs hw, cn_v, nI_1]
    rw [if_neg (nI_ge (by omega) (by omega)), ih (k + 1) _ (by rw [dWs]; exact cup_J hw) (by omega), dWs, dW_2]
    rfl
theorem c_mthirst (hi : i < s) (hD : dJ D s H) (hH : H < 2147483648) (h12 : D.2.2 12 = nI t) (hT : TR L t a0) (hL : okL L t) : ∃ K', Dn (d + 4) 158 [.ref 123, .int (nI i)] (MX h M K D s a0) nx = some (none, MX h M K' (dW D i (thB (D.2.1 i) (thrF L t D.2.2 (D.2.1 i)) (D.2.2 5))) s a0, nx) := by
  have hs := hD.1.2.1
  obtain ⟨K', e1⟩ := c_mthirsts (d := d) (h := h) (nx := nx) (M := M) (K := K) hi hD hH h12 hT hL
  obtain ⟨m4, h4, hm4⟩ := hD.2.2.2.1
  obtain ⟨y, h5, hy⟩ := hD.2.2.2.2.1
  obtain ⟨p, ep, hp⟩ := thr_nI (L := L) (n := t) (w := D.2.1 i) h4 hm4 hD.2.2.2.2.2.1 hH
  obtain ⟨⟨m, h1, hm⟩, ⟨k, h2, hk⟩⟩ := hD.2.1 i hi
  refine ⟨K', ?_⟩
  rw [ep] at e1 ⊢
  have a1 : hld (D.2.1 i 1 + nI p) 0 99 = nI (min (m + p) 99) := by
    rw [h1, nI_add]; exact hld_nI (b := 99) (by omega) (by omega)
  have a2 : (if D.2.1 i 1 + nI p < 99 then D.2.1 i 1 + nI p else (99 : Int32)) = nI (min (m + p) 99) := by
    rw [h1, nI_add]; exact mn_nI (b := 99) (by omega) (by omega)
  unfold thB
  rw [a2]
  dsimp only
  have hw1 : wJ (upd (D.2.1 i) 1 (nI (min (m + p) 99))) := ⟨⟨_, rfl, by omega⟩, ⟨k, h2, hk⟩⟩
  have h22 : upd (D.2.1 i) 1 (nI (min (m + p) 99)) 2 = nI k := h2
  simp only [n_158, e_158_0, e_158_1, e_158_2, e_158_3, e_158_4, e_158_5, e_158_6, e_158_9, e_158_10, e_158_11, e_158_14, e_158_15, e_158_16, e_158_18, e_158_21, e_158_24, e_158_25, e_158_26, e_158_27, e_158_30, e_158_32, kX, if_true, c_of1 hi hs, cn_s, cn_v, e1, c_mwithin, a1, c_put1 hi hs]
  rw [dWs]
  generalize upd (D.2.1 i) 1 (nI (min (m + p) 99)) = w1 at hw1 h22
  by_cases c1 : w1 1 < 20
  · rw [if_pos c1, if_pos c1]
    simp only [e_158_84]
  · rw [if_neg c1, if_neg c1]
    have e5 : (dW D i w1).2.2 5 = nI y := h5
    have a3 : hld (nI y) 0 (nI k) = nI (min y k) := hld_nI (by omega) (by omega)
    have e6 : (dW D i w1).2.1 i = w1 := dWs _ _ _
    simp only [e_158_35, e_158_36, e_158_39, e_158_40, e_158_41, e_158_42, e_158_43, e_158_44, e_158_45, e_158_48, e_158_51n, e_158_51i, e_158_51r, e_158_52, e_158_53, e_158_54, e_158_55, e_158_56, e_158_57, e_158_58, e_158_61, e_158_62, e_158_63, e_158_66, e_158_67n, e_158_67i, e_158_67r, gX0, rx4, e5, kX, if_true, c_of2 hi hs, e6, h22, c_mwithin, a3, cn_s, cn_v, c_put2 hi hs, Option.bind_some]
    have e7 : (dW (dW D i w1) i (upd w1 2 (nI k - nI (min y k)))).2.1 i = upd w1 2 (nI k - nI (min y k)) := dWs _ _ _
    have l := msip_loop (d := d) (h := h) (nx := nx) (M := M) (K := K') (a0 := a0) hi hs (cn := min y k) (by omega) (min y k) 0 (dW (dW D i w1) i (upd w1 2 (nI k - nI (min y k)))) (by
      rw [e7, nI_sub (by omega)]
      exact ⟨hw1.1, ⟨_, rfl, by omega⟩⟩) (by omega)
    rw [show nI 0 = 0 from rfl] at l
    rw [l, e7, dW_2, dW_2, h5, mn_nI (by omega) (by omega), cl_nI (by omega), cupN_2, (cupN_J (min k y) w1 hw1).2, h22, Nat.min_comm]
theorem mdie_tail (hD : dJ D s H) (hm : m ≤ 1000) (hl : nr l2 = true) : Df (d + 3) 159 78 [.ref 123, .int (nI m), l2] [] (MX h M K D s a0) nx = some (none, MX h M K (heir D s (nI m)) s a0, nx) := by
  have hs := hD.1.2.1
  unfold heir
  simp only [e_159_78, e_159_79, kX, if_true, c_mleader hD.1, cn_s]
  rw [e_159_82 hl]
  cases e : ldr D.2.1 s with
  | none =>
    simp only [e_159_83, e_159_84, e_159_87, e_159_88, e_159_89, e_159_90, e_159_91, e_159_92, e_159_93, e_159_96, e_159_97, e_159_98, e_159_99, e_159_101, e_159_104, e_159_107, show oi none = -1 from rfl]
    rw [if_pos (by decide)]
  | some j =>
    have hj := ldr_lt e
    obtain ⟨_, ⟨p, h2, hp⟩⟩ := hD.2.1 j hj
    have e1 : hld (D.2.1 j 2 + nI m) 0 30 = (if D.2.1 j 2 + nI m < 30 then D.2.1 j 2 + nI m else (30 : Int32)) := by
      rw [h2, nI_add]
      exact (hld_nI (b := 30) (by omega) (by omega)).trans (mn_nI (b := 30) (by omega) (by omega)).symm
    simp only [e_159_83, e_159_84, e_159_87, e_159_88, e_159_89, e_159_90, e_159_91, e_159_92, e_159_93, e_159_96, e_159_97, e_159_98, e_159_99, e_159_101, e_159_104, e_159_107, oi_s, kX, if_true, c_of2 hj hs, cn_s, cn_v, c_mwithin, c_put2 hj hs, e1]
    rw [if_neg (nI_pos (by omega))]
theorem mdie_loop (hs : s ≤ 10) (n : Nat) : ∀ (k m : Nat) (D : DT), dJ D s H → m ≤ 30 * k → k + n = s → Df (d + 3) 159 4 [.ref 123, .int (nI m), .int (nI k)] [] (MX h M K D s a0) nx = some (none, MX h M K (heir (lsF n k (D, nI m)).1 s (lsF n k (D, nI m)).2) s a0, nx) := by
  induction n with
  | zero =>
    intro k m D hD hm hk
    obtain rfl : k = s := by omega
    rw [e_159_4]
    simp only [e_159_5, e_159_6, e_159_9, e_159_10, e_159_11, gX0, rx1, hD.1.1, Option.bind_some]
    rw [if_pos (nI_le (Nat.le_refl _) (by omega))]
    exact mdie_tail hD (by omega) (nr_i _)
  | succ n ih =>
    intro k m D hD hm hk
    have hks : k < s := by omega
    rw [e_159_4]
    simp only [e_159_5, e_159_6, e_159_9, e_159_10, e_159_11, e_159_14, e_159_15, e_159_16, e_159_19, e_159_22, e_159_23, e_159_24, e_159_25, e_159_28, e_159_29, e_159_32, e_159_34, e_159_35, gX0, rx1, rx6, hD.1.1, kX, if_true, c_lives hks hs (hD.1.2.2.2.2 k hks), c_of1 hks hs, cn_s, pi_if, Option.bind_some]
    rw [if_neg (nI_ge (by omega) (by omega))]
    have e72 : Df (d + 3) 159 72 [.ref 123, .int (nI m), .int (nI k)] [] (MX h M K D s a0) nx = Df (d + 3) 159 4 [.ref 123, .int (nI m), .int (nI (k + 1))] [] (MX h M K D s a0) nx := by
      simp only [e_159_72, e_159_75, nI_1]
    unfold lsF
    by_cases h1 : D.2.1 k 5 = 0
    · rw [if_neg (fun q => q h1), if_pos h1, e72]
      exact ih (k + 1) m D hD (by omega) (by omega)
    rw [if_pos h1, if_neg h1]
    by_cases h2 : D.2.1 k 1 < D.2.2 7
    · rw [if_pos h2, if_pos h2, e72]
      exact ih (k + 1) m D hD (by omega) (by omega)
    · rw [if_neg h2, if_neg h2]
      obtain ⟨_, ⟨p, hp, hp30⟩⟩ := hD.2.1 k hks
      have q1 : (dW D k (upd (D.2.1 k) 5 0)).2.2 8 = D.2.2 8 := rfl
      have q2 : (dq (dW D k (upd (D.2.1 k) 5 0)) 8 (D.2.2 8 + 1)).2.1 k = upd (D.2.1 k) 5 0 := dWq _ _ _ _ _
      have q3 : upd (D.2.1 k) 5 0 2 = nI p := hp
      simp only [e_159_38, e_159_39, e_159_40, e_159_41, e_159_42, e_159_45, e_159_46, e_159_49, e_159_51i, e_159_52, e_159_53, e_159_54, e_159_55, e_159_56, e_159_57, e_159_58, e_159_59, e_159_60, e_159_63, e_159_64n, e_159_64i, e_159_64r, e_159_65, e_159_66, e_159_67, e_159_68, e_159_69, e_159_72, e_159_75, gX0, rx8, wx8, kX, if_true, c_put5 hks hs, c_of2 hks hs, c_put2 hks hs, q1, q2, q3, cn_s, cn_v, Option.bind_some, nI_p, nI_1]
      rw [hp, nI_p]
      exact ih (k + 1) (m + p) _ (lose_J hD hks h1) (by omega) (by omega)
theorem c_dies (hD : dJ D s H) : Dn (d + 4) 159 [.ref 123] (MX h M K D s a0) nx = some (none, MX h M K (heir (lsF s 0 (D, 0)).1 s (lsF s 0 (D, 0)).2) s a0, nx) := by
  simp only [n_159, e_159_0, e_159_1n, e_159_1i, e_159_1r, e_159_2, e_159_3n, e_159_3i, e_159_3r]
  exact mdie_loop hD.1.2.1 s 0 0 D hD (by omega) (Nat.zero_add _)
theorem ld_tab : ∀ c, c < 24 → (nI c + 0 + 24 - (nI c + 0 + 24) / 24 * 24 = fmC (nI c + 0) 24) ∧ (nI c + 1 + 24 - (nI c + 1 + 24) / 24 * 24 = fmC (nI c + 1) 24) ∧ (nI c + -1 + 24 - (nI c + -1 + 24) / 24 * 24 = fmC (nI c + -1) 24) := by decide +kernel
theorem ld_cell (hc : c < 24) (hx : x = 0 ∨ x = 1 ∨ x = -1) : nI c + x + 24 - (nI c + x + 24) / 24 * 24 = fmC (nI c + x) 24 := by
  have t := ld_tab c hc
  rcases hx with rfl | rfl | rfl
  · exact t.1
  · exact t.2.1
  · exact t.2.2
theorem leads_tail (hc : D.2.2 3 = nI c) (hc24 : c < 24) (hx : x = 0 ∨ x = 1 ∨ x = -1) : Df d 155 50 [.ref 123, l1, .int x] [] (MX h M K D s a0) nx = some (none, MX h M K (dq D 3 (fmC (nI c + x) 24)) s a0, nx) := by
  simp only [e_155_50, e_155_51, e_155_54, e_155_56, e_155_57, e_155_60, e_155_62, e_155_63, e_155_64, e_155_65, e_155_67, e_155_68, e_155_70, e_155_71, e_155_72, gX0, rx7, wx7, hc, show ¬ (24 : Int32) = 0 by decide, if_false, Option.bind_some]
  rw [ld_cell hc24 hx]
theorem folF_pos (hz : nxz (D.2.2 11) = z) (hy : dr8 z - dr8 z / 100 * 100 = y) (h1 : y < D.2.2 6) : folF D j = dq (dq (dq (dW D j (upd (D.2.1 j) 4 (D.2.1 j 4 + 1))) 11 z) 9 (D.2.2 9 + 1)) 3 (fmC (D.2.2 3 + -goF D.1 (D.2.1 j 0) (D.2.2 3).toNatClampNeg (D.2.1 j 3).toNatClampNeg) 24) := by
  subst hz
  subst hy
  exact if_pos h1
theorem folF_neg (hz : nxz (D.2.2 11) = z) (hy : dr8 z - dr8 z / 100 * 100 = y) (h1 : ¬ y < D.2.2 6) : folF D j = dq (dq (dW D j (upd (D.2.1 j) 4 (D.2.1 j 4 + 1))) 11 z) 3 (fmC (D.2.2 3 + goF D.1 (D.2.1 j 0) (D.2.2 3).toNatClampNeg (D.2.1 j 3).toNatClampNeg) 24) := by
  subst hz
  subst hy
  exact if_neg h1
theorem c_mdraw' (hz : nxz (D.2.2 11) = z) : Dn (d + 1) 148 [.ref 123] (MX h M K D s a0) nx = some (some (.int (dr8 z)), MX h M K (dq D 11 z) s a0, nx) := by
  subst hz
  exact c_mdraw
theorem neg_way (hx : x = 0 ∨ x = 1 ∨ x = -1) : -x = 0 ∨ -x = 1 ∨ -x = -1 := by
  rcases hx with rfl | rfl | rfl <;> decide
theorem c_leads (hj : j < s) (hD : dJ D s H) : Dn (d + 4) 155 [.ref 123, .int (nI j)] (MX h M K D s a0) nx = some (none, MX h M K (folF D j) s a0, nx) := by
  have hs := hD.1.2.1
  obtain ⟨c, hc, hc24⟩ := hD.1.2.2.1
  obtain ⟨g, hg1, hg2⟩ := hD.1.2.2.2.1 j hj
  have e3 : (D.2.2 3).toNatClampNeg = c := by rw [hc, cl_nI (by omega)]
  have e4 : (D.2.1 j 3).toNatClampNeg = g := by rw [hg1, cl_nI (by omega)]
  have go : Dn (d + 3) 135 [.ref 123, .int (nI j)] (MX h M K (dW D j (upd (D.2.1 j) 4 (D.2.1 j 4 + 1))) s a0) nx = some (some (.int (goF D.1 (D.2.1 j 0) c g)), MX h M K (dW D j (upd (D.2.1 j) 4 (D.2.1 j 4 + 1))) s a0, nx) := by
    have k1 : (dW D j (upd (D.2.1 j) 4 (D.2.1 j 4 + 1))).2.1 j 3 = nI g := by rw [dWs]; exact hg1
    have k0 : (dW D j (upd (D.2.1 j) 4 (D.2.1 j 4 + 1))).2.1 j 0 = D.2.1 j 0 := by rw [dWs]; rfl
    have go := c_mgoes (d := d) (h := h) (nx := nx) (M := M) (K := K) (a0 := a0) (D := dW D j (upd (D.2.1 j) 4 (D.2.1 j 4 + 1))) hj hs hc hc24 k1 hg2
    rw [k0] at go
    exact go
  have hgc := goF_cases D.1 (D.2.1 j 0) c g
  obtain ⟨z, hz⟩ : ∃ z, nxz (D.2.2 11) = z := ⟨_, rfl⟩
  obtain ⟨y, hy⟩ : ∃ y, dr8 z - dr8 z / 100 * 100 = y := ⟨_, rfl⟩
  have hz' : nxz ((dW D j (upd (D.2.1 j) 4 (D.2.1 j 4 + 1))).2.2 11) = z := hz
  have step : Dn (d + 4) 155 [.ref 123, .int (nI j)] (MX h M K D s a0) nx = if D.2.2 6 ≤ y then Df (d + 3) 155 50 [.ref 123, .int (nI j), .int (goF D.1 (D.2.1 j 0) c g)] [] (MX h M K (dq (dW D j (upd (D.2.1 j) 4 (D.2.1 j 4 + 1))) 11 z) s a0) nx else Df (d + 3) 155 36 [.ref 123, .int (nI j), .int (goF D.1 (D.2.1 j 0) c g)] [] (MX h M K (dq (dW D j (upd (D.2.1 j) 4 (D.2.1 j 4 + 1))) 11 z) s a0) nx := by
    have q6 : (dq (dW D j (upd (D.2.1 j) 4 (D.2.1 j 4 + 1))) 11 z).2.2 6 = D.2.2 6 := rfl
    generalize goF D.1 (D.2.1 j 0) c g = v at go
    simp only [n_155, e_155_0, e_155_1, e_155_2, e_155_3, e_155_4, e_155_5, e_155_6, e_155_9, e_155_10, e_155_11, e_155_14, e_155_15, e_155_16, e_155_19n, e_155_19i, e_155_19r, e_155_20, e_155_21, e_155_24, e_155_26, e_155_27, e_155_28, e_155_31, e_155_32, e_155_33, kX, if_true, c_of4 hj hs, cn_s, cn_v, c_put4 hj hs, go, c_mdraw' hz', show ¬ (100 : Int32) = 0 by decide, if_false, gX0, rx5, q6, hy, Option.bind_some]
  rw [step]
  clear step go hz'
  by_cases h1 : y < D.2.2 6
  · have h2 : ¬ D.2.2 6 ≤ y := by rw [i_nle]; exact h1
    rw [if_neg h2, folF_pos hz hy h1, e3, e4]
    have q9 : (dq (dW D j (upd (D.2.1 j) 4 (D.2.1 j 4 + 1))) 11 z).2.2 9 = D.2.2 9 := rfl
    simp only [e_155_36, e_155_37, e_155_38n, e_155_38i, e_155_38r, e_155_39, e_155_40, e_155_43, e_155_45i, e_155_46, e_155_47, e_155_48, e_155_49, gX0, rx9, wx9, q9, Option.bind_some]
    have q3 : (dq (dq (dW D j (upd (D.2.1 j) 4 (D.2.1 j 4 + 1))) 11 z) 9 (D.2.2 9 + 1)).2.2 3 = nI c := hc
    rw [leads_tail q3 hc24 (neg_way hgc), hc]
  · have h2 : D.2.2 6 ≤ y := by rw [← i_nlt]; exact h1
    have q3 : (dq (dW D j (upd (D.2.1 j) 4 (D.2.1 j 4 + 1))) 11 z).2.2 3 = nI c := hc
    rw [if_pos h2, folF_neg hz hy h1, e3, e4, leads_tail q3 hc24 hgc, hc]
theorem mhdrink_loop (n : Nat) : ∀ (k : Nat) (D : DT), dJ D s H → k + n = s → Df (d + 4) 152 36 [.ref 123, l1, .int (nI k)] [] (MX h M K D s a0) nx = Df (d + 4) 152 65 [.ref 123, l1, .int (nI s)] [] (MX h M K (daF n k D) s a0) nx := by
  induction n with
  | zero =>
    intro k D hD hk
    have hs := hD.1.2.1
    obtain rfl : k = s := by omega
    rw [e_152_36]
    simp only [e_152_37, e_152_38, e_152_41, e_152_42, e_152_43, gX0, rx1, hD.1.1, Option.bind_some]
    rw [if_pos (nI_le (Nat.le_refl _) (by omega))]
    rfl
  | succ n ih =>
    intro k D hD hk
    have hs := hD.1.2.1
    have hks : k < s := by omega
    obtain ⟨c, hc, hc24⟩ := hD.1.2.2.1
    have dd := daF_J (s := s) 1 k D (by omega) hD
    rw [e_152_36]
    simp only [e_152_37, e_152_38, e_152_41, e_152_42, e_152_43, e_152_46, e_152_47, e_152_48, e_152_51, e_152_54, e_152_55, e_152_56, e_152_59, e_152_62, gX0, rx1, hD.1.1, kX, if_true, c_lives hks hs (hD.1.2.2.2.2 k hks), c_drinksAt hks hD hc hc24, cn_s, cn_v, pi_if, Option.bind_some, nI_1]
    rw [if_neg (nI_ge (by omega) (by omega))]
    unfold daF
    unfold daF at dd
    rw [hc, cl_nI (by omega)] at dd ⊢
    by_cases h1 : D.2.1 k 5 = 0
    · rw [if_neg (fun q => q h1), if_pos h1]
      exact ih (k + 1) D hD (by omega)
    · rw [if_pos h1, if_neg h1]
      rw [if_neg h1] at dd
      exact ih (k + 1) _ dd (by omega)
theorem mhthirst_loop (hH : H < 2147483648) (hT : TR L t a0) (hL : okL L t) (n : Nat) : ∀ (k : Nat) (D : DT) (K : (Nat → Int32) × (Nat → Int32)), dJ D s H → D.2.2 12 = nI t → k + n = s → ∃ K', Df (d + 4) 152 67 [.ref 123, l1, .int (nI k)] [] (MX h M K D s a0) nx = Df (d + 4) 152 96 [.ref 123, l1, .int (nI s)] [] (MX h M K' (tsF L t n k D) s a0) nx := by
  induction n with
  | zero =>
    intro k D K hD h12 hk
    have hs := hD.1.2.1
    obtain rfl : k = s := by omega
    refine ⟨K, ?_⟩
    rw [e_152_67]
    simp only [e_152_68, e_152_69, e_152_72, e_152_73, e_152_74, gX0, rx1, hD.1.1, Option.bind_some]
    rw [if_pos (nI_le (Nat.le_refl _) (by omega))]
    rfl
  | succ n ih =>
    intro k D K hD h12 hk
    have hs := hD.1.2.1
    have hks : k < s := by omega
    have dd := tsF_J (L := L) (t := t) hH 1 k D (by omega) hD
    unfold tsF
    unfold tsF at dd
    by_cases h1 : D.2.1 k 5 = 0
    · obtain ⟨K', e⟩ := ih (k + 1) D K hD h12 (by omega)
      refine ⟨K', ?_⟩
      rw [if_pos h1, ← e, e_152_67]
      simp only [e_152_68, e_152_69, e_152_72, e_152_73, e_152_74, e_152_77, e_152_78, e_152_79, e_152_82, e_152_85, e_152_86, e_152_87, e_152_90, e_152_93, gX0, rx1, hD.1.1, kX, if_true, c_lives hks hs (hD.1.2.2.2.2 k hks), cn_s, pi_if, Option.bind_some, nI_1]
      rw [if_neg (nI_ge (by omega) (by omega)), if_neg (fun q => q h1)]
    · rw [if_neg h1] at dd
      have dd : dJ (dW D k (thB (D.2.1 k) (thrF L t D.2.2 (D.2.1 k)) (D.2.2 5))) s H := dd
      obtain ⟨K1, e1⟩ := c_mthirst (d := d) (h := h) (nx := nx) (M := M) (K := K) hks hD hH h12 hT hL
      obtain ⟨K', e⟩ := ih (k + 1) _ K1 dd h12 (by omega)
      refine ⟨K', ?_⟩
      rw [if_neg h1, ← e, e_152_67]
      simp only [e_152_68, e_152_69, e_152_72, e_152_73, e_152_74, e_152_77, e_152_78, e_152_79, e_152_82, e_152_85, e_152_86, e_152_87, e_152_90, e_152_93, gX0, rx1, hD.1.1, kX, if_true, c_lives hks hs (hD.1.2.2.2.2 k hks), e1, cn_s, cn_v, pi_if, Option.bind_some, nI_1]
      rw [if_neg (nI_ge (by omega) (by omega)), if_pos h1]
theorem ldr_none {W : Nat → Nat → Int32} : ∀ {n : Nat}, ldr W n = none → ∀ i, i < n → W i 5 = 0
  | 0, _, i, hi => by omega
  | n + 1, h, i, hi => by
    unfold ldr at h
    by_cases h1 : W n 5 = 0
    · rw [if_pos h1] at h
      by_cases e : i = n
      · rw [e]; exact h1
      · exact ldr_none h i (by omega)
    · rw [if_neg h1] at h
      cases e : ldr W n with
      | none => rw [e] at h; cases h
      | some j => rw [e] at h; dsimp only at h; split at h <;> cases h
theorem daF_none : ∀ (n k : Nat), k + n ≤ s → (∀ i, i < s → D.2.1 i 5 = 0) → daF n k D = D
  | 0, _, _, _ => rfl
  | n + 1, k, hk, hv => by
    unfold daF
    rw [if_pos (hv k (by omega))]
    exact daF_none n (k + 1) (by omega) hv
theorem tsF_none : ∀ (n k : Nat), k + n ≤ s → (∀ i, i < s → D.2.1 i 5 = 0) → tsF L t n k D = D
  | 0, _, _, _ => rfl
  | n + 1, k, hk, hv => by
    unfold tsF
    rw [if_pos (hv k (by omega))]
    exact tsF_none n (k + 1) (by omega) hv
theorem lsF_none : ∀ (n k : Nat), k + n ≤ s → (∀ i, i < s → D.2.1 i 5 = 0) → lsF n k (D, x) = (D, x)
  | 0, _, _, _ => rfl
  | n + 1, k, hk, hv => by
    unfold lsF
    rw [if_pos (hv k (by omega))]
    exact lsF_none n (k + 1) (by omega) hv
theorem hrB_none (e : ldr D.2.1 s = none) : hrB L t s D = D := by
  have hv := ldr_none e
  unfold hrB
  rw [daF_none s 0 (by omega) hv, tsF_none s 0 (by omega) hv, lsF_none s 0 (by omega) hv]
  unfold heir
  rw [e]
theorem c_mhour (led : Prop) [Decidable led] (hM : M.1 4 = if led then 0 else 1) (hD : dJ D s H) (hH : H < 2147483648) (h12 : D.2.2 12 = nI t) (hT : TR L t a0) (hL : okL L t) : ∃ K', Dn (d + 5) 152 [.ref 123] (MX h M K D s a0) nx = some (none, MX h M K' (hrF L t s led D) s a0, nx) := by
  have h1 := hrA_J hD
  have h1t : (hrA D).2.2 12 = nI t := h12
  have hs := hD.1.2.1
  have eA : dq (dq D 11 (nxz (D.2.2 11))) 4 (dr8 (nxz (D.2.2 11)) - dr8 (nxz (D.2.2 11)) / 10 * 10) = hrA D := rfl
  have tail : ∀ (D2 : DT) (l1 : Value), dJ D2 s H → D2.2.2 12 = nI t → ∃ K', Df (d + 4) 152 34 [.ref 123, l1, .null] [] (MX h M K D2 s a0) nx = some (none, MX h M K' (dq (hrB L t s D2) 10 ((hrB L t s D2).2.2 10 + 1)) s a0, nx) := by
    intro D2 l1 hD2 ht2
    have g1 := daF_J s 0 D2 (by omega) hD2
    have g1t : (daF s 0 D2).2.2 12 = nI t := ((daF_k L t s 0 D2 (by omega) hD2.1).2).trans ht2
    have g2 := tsF_J (L := L) (t := t) hH s 0 _ (by omega) g1
    obtain ⟨K', e⟩ := mhthirst_loop (d := d) (h := h) (nx := nx) (M := M) (l1 := l1) hH hT hL s 0 _ K g1 g1t (Nat.zero_add _)
    refine ⟨K', ?_⟩
    have a := mhdrink_loop (d := d) (h := h) (nx := nx) (M := M) (K := K) (a0 := a0) (l1 := l1) s 0 D2 hD2 (Nat.zero_add _)
    rw [show nI 0 = 0 from rfl] at a e
    simp only [e_152_34, e_152_35n, e_152_35i, e_152_35r]
    rw [a]
    simp only [e_152_65, e_152_66n, e_152_66i, e_152_66r]
    rw [e]
    simp only [e_152_96, e_152_97, e_152_100, e_152_101, e_152_104, e_152_105i, e_152_106, e_152_107, e_152_108, e_152_109, e_152_110, kX, if_true, c_dies g2, cn_v, gX0, rx2, wx2, Option.bind_some]
    rfl
  cases e : ldr (hrA D).2.1 s with
  | none =>
    obtain ⟨K', e2⟩ := tail (hrA D) (.int (-1)) h1 h1t
    refine ⟨K', ?_⟩
    unfold hrF
    simp only [e]
    rw [hrB_none e] at e2
    rw [← e2]
    simp only [n_152, e_152_0, e_152_1, e_152_4, e_152_5, e_152_6, e_152_9, e_152_11, e_152_12, e_152_13, e_152_14, e_152_17n, e_152_17i, e_152_17r, e_152_18, e_152_19, kX, if_true, c_mdraw, cn_s, show ¬ (10 : Int32) = 0 by decide, if_false, gX0, wx3, eA, c_mleader h1.1, e, show oi none = -1 from rfl, Option.bind_some]
    rw [if_pos (by decide)]
  | some j =>
    have hj := ldr_lt e
    by_cases hl : led
    · obtain ⟨K', e2⟩ := tail (folF (hrA D) j) (.int (nI j)) (folF_J h1 hj) (folF_12.trans h1t)
      refine ⟨K', ?_⟩
      unfold hrF
      simp only [e, hl, if_true]
      rw [← e2]
      rw [if_pos hl] at hM
      simp only [n_152, e_152_0, e_152_1, e_152_4, e_152_5, e_152_6, e_152_9, e_152_11, e_152_12, e_152_13, e_152_14, e_152_17n, e_152_17i, e_152_17r, e_152_18, e_152_19, e_152_22, e_152_23, e_152_26, e_152_29, e_152_30, e_152_31, kX, if_true, c_mdraw, cn_s, cn_v, show ¬ (10 : Int32) = 0 by decide, if_false, gX0, gX4, hM, wx3, eA, c_mleader h1.1, e, oi_s, c_leads hj h1, Option.bind_some]
      rw [if_neg (nI_pos (by omega))]
    · obtain ⟨K', e2⟩ := tail (hrA D) (.int (nI j)) h1 h1t
      refine ⟨K', ?_⟩
      unfold hrF
      simp only [e, hl, if_false]
      rw [← e2]
      rw [if_neg hl] at hM
      simp only [n_152, e_152_0, e_152_1, e_152_4, e_152_5, e_152_6, e_152_9, e_152_11, e_152_12, e_152_13, e_152_14, e_152_17n, e_152_17i, e_152_17r, e_152_18, e_152_19, e_152_22, e_152_23, e_152_26, kX, if_true, c_mdraw, cn_s, cn_v, show ¬ (10 : Int32) = 0 by decide, show ¬ (1 : Int32) = 0 by decide, if_false, gX0, gX4, hM, wx3, eA, c_mleader h1.1, e, oi_s, Option.bind_some]
      rw [if_neg (nI_pos (by omega))]
theorem mgoes_loop (hM : M.1 4 = 0) (hT : TR L t a0) (hL : okL L t) {m : Nat} (hm : m < 2147483648) (n : Nat) : ∀ (k H : Nat) (D : DT) (K : (Nat → Int32) × (Nat → Int32)), dJ D s H → H + n < 2147483648 → D.2.2 12 = nI t → k + n = m → ∃ K', Df (d + 5) 151 2 [.ref 123, .int (nI m), .int (nI k)] [] (MX h M K D s a0) nx = some (none, MX h M K' (hrs L t s n D) s a0, nx) := by
  induction n with
  | zero =>
    intro k H D K hD hH h12 hk
    obtain rfl : k = m := by omega
    refine ⟨K, ?_⟩
    rw [e_151_2]
    simp only [e_151_3, e_151_4, e_151_7, e_151_8, e_151_11, e_151_14, e_151_17]
    rw [if_pos (nI_le (Nat.le_refl _) (by omega))]
    rfl
  | succ n ih =>
    intro k H D K hD hH h12 hk
    obtain ⟨K1, e1⟩ := c_mhour (d := d) (h := h) (nx := nx) (M := M) (K := K) True (by rw [if_pos trivial]; exact hM) hD (by omega) h12 hT hL
    obtain ⟨K', e⟩ := ih (k + 1) (H + 1) _ K1 (hrF_J True (by omega) hD) (by omega) ((hrF_k True hD.1).2.trans h12) (by omega)
    refine ⟨K', ?_⟩
    unfold hrs
    rw [← e, e_151_2]
    simp only [e_151_3, e_151_4, e_151_7, e_151_8, e_151_11, e_151_14, kX, if_true, e1, cn_v, nI_1]
    rw [if_neg (nI_ge (by omega) (by omega))]
theorem c_goesOn (hM : M.1 4 = 0) (hT : TR L t a0) (hL : okL L t) {m : Nat} (hm : m < 2147483648) (hD : dJ D s H) (hH : H + m < 2147483648) (h12 : D.2.2 12 = nI t) : ∃ K', Dn (d + 6) 151 [.ref 123, .int (nI m)] (MX h M K D s a0) nx = some (none, MX h M K' (hrs L t s m D) s a0, nx) := by
  obtain ⟨K', e⟩ := mgoes_loop (d := d) (h := h) (nx := nx) hM hT hL hm m 0 H D K hD hH h12 (Nat.zero_add _)
  refine ⟨K', ?_⟩
  rw [← e]
  simp only [n_151, e_151_0, e_151_1n, e_151_1i, e_151_1r]
  rfl
theorem mheld_loop (hM : M.1 4 = 1) (hT : TR L t a0) (hL : okL L t) {m : Nat} (hm : m < 2147483648) (n : Nat) : ∀ (k H : Nat) (D : DT) (K : (Nat → Int32) × (Nat → Int32)), dJ D s H → H + n < 2147483648 → D.2.2 12 = nI t → k + n = m → ∃ K', Df (d + 5) 151 2 [.ref 123, .int (nI m), .int (nI k)] [] (MX h M K D s a0) nx = some (none, MX h M K' (hrn L t s n D) s a0, nx) := by
  induction n with
  | zero =>
    intro k H D K hD hH h12 hk
    obtain rfl : k = m := by omega
    refine ⟨K, ?_⟩
    rw [e_151_2]
    simp only [e_151_3, e_151_4, e_151_7, e_151_8, e_151_11, e_151_14, e_151_17]
    rw [if_pos (nI_le (Nat.le_refl _) (by omega))]
    rfl
  | succ n ih =>
    intro k H D K hD hH h12 hk
    obtain ⟨K1, e1⟩ := c_mhour (d := d) (h := h) (nx := nx) (M := M) (K := K) False (by rw [if_neg not_false]; exact hM) hD (by omega) h12 hT hL
    obtain ⟨K', e⟩ := ih (k + 1) (H + 1) _ K1 (hrF_J False (by omega) hD) (by omega) ((hrF_k False hD.1).2.trans h12) (by omega)
    refine ⟨K', ?_⟩
    unfold hrn
    rw [← e, e_151_2]
    simp only [e_151_3, e_151_4, e_151_7, e_151_8, e_151_11, e_151_14, kX, if_true, e1, cn_v, nI_1]
    rw [if_neg (nI_ge (by omega) (by omega))]
theorem c_held1 (hM : M.1 4 = 1) (hT : TR L t a0) (hL : okL L t) {m : Nat} (hm : m < 2147483648) (hD : dJ D s H) (hH : H + m < 2147483648) (h12 : D.2.2 12 = nI t) : ∃ K', Dn (d + 6) 151 [.ref 123, .int (nI m)] (MX h M K D s a0) nx = some (none, MX h M K' (hrn L t s m D) s a0, nx) := by
  obtain ⟨K', e⟩ := mheld_loop (d := d) (h := h) (nx := nx) hM hT hL hm m 0 H D K hD hH h12 (Nat.zero_add _)
  refine ⟨K', ?_⟩
  rw [← e]
  simp only [n_151, e_151_0, e_151_1n, e_151_1i, e_151_1r]
  rfl
end MQ
