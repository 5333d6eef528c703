/-! the model: walkers, ways, drinking -/
section MW
variable {d : Nat} {h : AH} {nx : AN} {M : MS} {D : DT} {s H i j c a k n g : Nat} {x y z : Int32} {a0 f w : Nat → Int32} {K : (Nat → Int32) × (Nat → Int32)} {l1 l2 l3 l4 : Value}
theorem c_mslakes (hi : i < s) (hs : s ≤ 10) : Dn (d + 2) 134 [.ref 123, .int (nI i)] (MX h M K D s a0) nx = some (some (.int (slk (D.2.1 i 0))), MX h M K D s a0, nx) := by
  simp only [n_134, e_134_0, e_134_1, e_134_2, e_134_3, e_134_6, e_134_40, e_134_41, e_134_42, e_134_44, e_134_45, e_134_47, e_134_48, e_134_50, e_134_51, e_134_52, kX, if_true, c_of0 hi hs, cn_s, slk]
  generalize D.2.1 i 0 = q
  by_cases h1 : q = 1
  · simp [h1]
  by_cases h2 : q = 2
  · simp [h2]
  by_cases h3 : q = 3
  · simp [h3]
  by_cases h4 : q = 4
  · simp [h4]
  by_cases h5 : q = 5
  · simp [h5]
  simp [h1, h2, h3, h4, h5]
theorem c_mworth (hi : i < s) (hs : s ≤ 10) (hw : wJ (D.2.1 i)) : Dn (d + 2) 138 [.ref 123, .int (nI i)] (MX h M K D s a0) nx = some (some (.int (wth (D.2.1 i 0) (D.2.1 i 2))), MX h M K D s a0, nx) := by
  simp only [n_138, e_138_0, e_138_1, e_138_2, e_138_3, e_138_6n, e_138_6i, e_138_6r, e_138_7, e_138_8, e_138_9, e_138_10, e_138_13, e_138_48, e_138_49, e_138_51, e_138_52, e_138_53, e_138_55, e_138_56, e_138_57, e_138_58, e_138_59, e_138_60, e_138_62, e_138_63, e_138_64, e_138_65, e_138_67, e_138_68, e_138_69, e_138_70, e_138_71, e_138_72, e_138_73, kX, if_true, c_of0 hi hs, c_of2 hi hs, cn_s, wth]
  obtain ⟨_, p, hp, hp30⟩ := hw
  have e96 : (96 : Int32) - D.2.1 i 2 = 99 - D.2.1 i 2 - 3 := by
    rw [hp, show (96 : Int32) - nI p = nI (96 - p) from nI_sub (a := 96) (by omega), show (99 : Int32) - nI p = nI (99 - p) from nI_sub (a := 99) (by omega), show nI (99 - p) - 3 = nI (99 - p - 3) from nI_sub (b := 3) (by omega)]
    congr 1
    omega
  generalize D.2.1 i 0 = q
  by_cases h1 : q = 1
  · simp [h1]
  by_cases h2 : q = 2
  · simp [h2]
  by_cases h3 : q = 3
  · simp [h3]
  by_cases h4 : q = 4
  · simp [h4, e96]
  by_cases h5 : q = 5
  · simp [h5]
  simp [h1, h2, h3, h4, h5]
theorem mw_tab : ∀ c, c < 24 → ∀ f, f < 13 → (11 : Int32) + (nI c + nI f - (nI c + nI f) / 24 * 24) = nI (11 + (c + f) % 24) ∧ (11 : Int32) + (nI c + 24 - nI f - (nI c + 24 - nI f) / 24 * 24) = nI (11 + (c + 24 - f) % 24) := by decide +kernel
theorem toWell_loop (hc : c < 24) (n : Nat) : ∀ (f : Nat), f + n = 13 → Df d 136 10 [.ref 123, .int (nI c), .int (nI f)] [] (MX h M K D s a0) nx = some (some (.int (wellF D.1 c n f)), MX h M K D s a0, nx) := by
  induction n with
  | zero =>
    intro f hf
    obtain rfl : f = 13 := by omega
    rw [e_136_10]
    simp only [e_136_11, e_136_13, e_136_71, e_136_72]
    rw [if_pos (by decide)]
    rfl
  | succ n ih =>
    intro f hf
    have m1 : (c + f) % 24 < 24 := Nat.mod_lt _ (by omega)
    have m2 : (c + 24 - f) % 24 < 24 := Nat.mod_lt _ (by omega)
    have t := mw_tab c hc f (by omega)
    rw [e_136_10]
    simp only [e_136_11, e_136_13, e_136_16, e_136_17, e_136_20, e_136_22, e_136_23, e_136_24, e_136_25, e_136_27, e_136_28, e_136_29, e_136_30, e_136_33, e_136_34, e_136_37, e_136_38, e_136_41, e_136_42, e_136_43, e_136_44, e_136_47, e_136_49, e_136_50, e_136_52, e_136_53, e_136_54, e_136_55, e_136_57, e_136_58, e_136_59, e_136_60, e_136_63, e_136_64, e_136_65, e_136_68, gX0, show ¬ (24 : Int32) = 0 by decide, if_false, t.1, t.2, rxc m1, rxc m2, Option.bind_some, nI_1]
    rw [if_neg (show ¬ (12 : Int32) < nI f by rw [i_nlt]; exact nI_le (b := 12) (by omega) (by omega))]
    unfold wellF
    by_cases h1 : D.1 ((c + f) % 24) ≤ 0
    · rw [if_pos h1, if_pos h1]
      by_cases h2 : D.1 ((c + 24 - f) % 24) ≤ 0
      · rw [if_pos h2, if_pos h2]
        exact ih (f + 1) (by omega)
      · rw [if_neg h2, if_neg h2]
    · rw [if_neg h1, if_neg h1]
      by_cases h3 : f = 0
      · subst h3
        rw [if_pos (by rfl), if_pos rfl]
      · rw [if_neg (nI_ne0 (by omega) (by omega)), if_neg h3]
theorem c_toWell (hc : D.2.2 3 = nI c) (hc24 : c < 24) : Dn (d + 1) 136 [.ref 123] (MX h M K D s a0) nx = some (some (.int (wellF D.1 c 13 0)), MX h M K D s a0, nx) := by
  simp only [n_136, e_136_0, e_136_1, e_136_4, e_136_6, e_136_7n, e_136_7i, e_136_7r, e_136_8, e_136_9n, e_136_9i, e_136_9r, gX0, rx7, hc, Option.bind_some]
  exact toWell_loop hc24 13 0 rfl
theorem pl_tab : ∀ g, g < 25 → ∀ c, c < 24 → nI g - nI c + 24 - (nI g - nI c + 24) / 24 * 24 = nI ((g + 24 - c) % 24) := by decide +kernel
theorem c_plainly (hi : i < s) (hs : s ≤ 10) (hc : D.2.2 3 = nI c) (hc24 : c < 24) (hk : D.2.1 i 3 = nI g) (hg : g < 25) : Dn (d + 2) 137 [.ref 123, .int (nI i)] (MX h M K D s a0) nx = some (some (.int (wayN c g)), MX h M K D s a0, nx) := by
  simp only [n_137, e_137_0, e_137_1, e_137_2, e_137_3, e_137_6, e_137_8, e_137_11, e_137_12, e_137_13, e_137_14, e_137_15, e_137_16, e_137_19, e_137_20, e_137_23, e_137_25, e_137_26, e_137_27, e_137_29, e_137_30, e_137_32, e_137_33n, e_137_33i, e_137_33r, e_137_34, e_137_35, e_137_38, e_137_39, e_137_42, e_137_43, e_137_45, e_137_48, e_137_49, e_137_52, e_137_53, kX, if_true, c_of3 hi hs, cn_s, hk, gX0, rx7, hc, show ¬ (24 : Int32) = 0 by decide, if_false, pl_tab g hg c hc24, Option.bind_some, wayN]
  by_cases h1 : g = 24
  · subst h1
    rw [if_pos (by rfl), if_pos rfl]
  · have e1 : ¬ nI g = 24 := fun q => h1 ((nI_eq (b := 24) (by omega) (by omega)).mp q)
    rw [if_neg e1, if_neg h1]
    have hm24 : (g + 24 - c) % 24 < 24 := Nat.mod_lt _ (by omega)
    generalize (g + 24 - c) % 24 = m at hm24
    by_cases h2 : m = 0
    · subst h2
      rw [if_pos (by rfl), if_pos rfl]
    · rw [if_neg (nI_ne0 (by omega) (by omega)), if_neg h2]
      by_cases h3 : m ≤ 12
      · rw [if_neg (show ¬ (12 : Int32) < nI m by rw [i_nlt]; exact nI_le (b := 12) h3 (by omega)), if_pos h3]
      · rw [if_pos (show (12 : Int32) < nI m from nI_lt (a := 12) (by omega) (by omega)), if_neg h3]
theorem c_mgoes (hi : i < s) (hs : s ≤ 10) (hc : D.2.2 3 = nI c) (hc24 : c < 24) (hk : D.2.1 i 3 = nI g) (hg : g < 25) : Dn (d + 3) 135 [.ref 123, .int (nI i)] (MX h M K D s a0) nx = some (some (.int (goF D.1 (D.2.1 i 0) c g)), MX h M K D s a0, nx) := by
  simp only [n_135, e_135_0, e_135_1, e_135_2, e_135_3, e_135_6, e_135_32, e_135_33, e_135_34, e_135_35, e_135_38, e_135_40, e_135_43, e_135_44, e_135_47, e_135_50, e_135_51, e_135_52, e_135_55, e_135_56, e_135_57, e_135_58, e_135_61, e_135_62, e_135_63, e_135_64, e_135_65, e_135_66, e_135_67, e_135_70, kX, if_true, c_of0 hi hs, c_of3 hi hs, cn_s, hk, c_toWell hc hc24, c_plainly hi hs hc hc24 hk hg, goF]
  generalize D.2.1 i 0 = q
  by_cases h3 : q = 3
  · by_cases h1 : g = 24
    · subst h1
      simp [h3, show nI 24 = 24 from rfl]
    · have e1 : ¬ nI g = 24 := fun q => h1 ((nI_eq (b := 24) (by omega) (by omega)).mp q)
      simp [h3, h1, e1]
  by_cases h4 : q = 4
  · simp [h4]
  by_cases h5 : q = 5
  · simp [h5]
  simp [h3, h4, h5]
theorem c_mdraw : Dn (d + 1) 148 [.ref 123] (MX h M K D s a0) nx = some (some (.int (dr8 (nxz (D.2.2 11)))), MX h M K (dq D 11 (nxz (D.2.2 11))) s a0, nx) := by
  have e : (dq D 11 (nxz (D.2.2 11))).2.2 11 = nxz (D.2.2 11) := by simp [dq, upd]
  simp only [n_148, e_148_0, e_148_1, e_148_4, e_148_5, e_148_6, e_148_9, e_148_10, e_148_11, e_148_13, e_148_14, e_148_17, e_148_18, e_148_19, e_148_20, e_148_23, e_148_24, e_148_25, e_148_27, e_148_28, gX0, rx0, wx0, Option.bind_some]
  rw [show D.2.2 11 * 1103515245 + 12345 = nxz (D.2.2 11) from rfl, e]
  rfl
theorem mleader_loop (hn : D.2.2 2 = nI s) (hs : s ≤ 10) (hv : ∀ i, i < s → D.2.1 i 5 = 0 ∨ D.2.1 i 5 = 1) (n : Nat) : ∀ (k : Nat), k + n = s → Df (d + 2) 153 4 [.ref 123, .int (oi (ldr D.2.1 k)), .int (nI k)] [] (MX h M K D s a0) nx = some (some (.int (oi (ldr D.2.1 s))), MX h M K D s a0, nx) := by
  induction n with
  | zero =>
    intro k hk
    obtain rfl : k = s := by omega
    rw [e_153_4]
    simp only [e_153_5, e_153_6, e_153_9, e_153_10, e_153_11, e_153_49, e_153_50, gX0, rx1, hn, Option.bind_some]
    rw [if_pos (nI_le (Nat.le_refl _) (by omega))]
  | succ n ih =>
    intro k hk
    have hks : k < s := by omega
    have ih := ih (k + 1) (by omega)
    rw [e_153_4]
    simp only [e_153_5, e_153_6, e_153_9, e_153_10, e_153_11, e_153_14, e_153_15, e_153_16, e_153_19, e_153_22, e_153_23, gX0, rx1, hn, kX, if_true, c_lives hks hs (hv k hks), cn_s, pi_if, Option.bind_some]
    rw [if_neg (nI_ge (by omega) (by omega))]
    by_cases h1 : D.2.1 k 5 = 0
    · have e : ldr D.2.1 (k + 1) = ldr D.2.1 k := by simp [ldr, h1]
      rw [e] at ih
      rw [if_neg (fun q => q h1)]
      simp only [e_153_43, e_153_46, nI_1]
      exact ih
    · rw [if_pos h1]
      cases e : ldr D.2.1 k with
      | none =>
        have e1 : ldr D.2.1 (k + 1) = some k := by simp [ldr, h1, e]
        rw [e1] at ih
        rw [if_pos (show oi none < 0 by decide)]
        simp only [e_153_41, e_153_42n, e_153_42i, e_153_42r, e_153_43, e_153_46, nI_1]
        exact ih
      | some j =>
        have hj := ldr_lt e
        rw [if_neg (show ¬ oi (some j) < 0 from nI_pos (by omega))]
        simp only [oi_s, e_153_26, e_153_27, e_153_28, e_153_29, e_153_32, e_153_33, e_153_34, e_153_35, e_153_38, e_153_41, e_153_42n, e_153_42i, e_153_42r, e_153_43, e_153_46, kX, if_true, c_of1 hks hs, c_of1 (show j < s by omega) hs, cn_s, nI_1]
        by_cases h2 : D.2.1 k 1 ≤ D.2.1 j 1
        · rw [if_pos h2]
          have e1 : ldr D.2.1 (k + 1) = some j := by
            have : ¬ D.2.1 j 1 < D.2.1 k 1 := by rw [i_nlt]; exact h2
            simp [ldr, h1, e, this]
          rw [e1] at ih
          exact ih
        · rw [if_neg h2]
          have e1 : ldr D.2.1 (k + 1) = some k := by
            have : D.2.1 j 1 < D.2.1 k 1 := by rw [← i_nle]; exact h2
            simp [ldr, h1, e, this]
          rw [e1] at ih
          exact ih
theorem c_mleader (hD : dI D s) : Dn (d + 3) 153 [.ref 123] (MX h M K D s a0) nx = some (some (.int (oi (ldr D.2.1 s))), MX h M K D s a0, nx) := by
  simp only [n_153, e_153_0, e_153_1n, e_153_1i, e_153_1r, e_153_2, e_153_3n, e_153_3i, e_153_3r]
  exact mleader_loop hD.1 hD.2.1 hD.2.2.2.2 s 0 (Nat.zero_add _)
theorem c_slaked (hi : i < s) (hs : s ≤ 10) (hw : wJ (D.2.1 i)) : Dn (d + 3) 157 [.ref 123, .int (nI i)] (MX h M K D s a0) nx = some (none, MX h M K (dW D i (cup (D.2.1 i))) s a0, nx) := by
  simp only [n_157, e_157_0, e_157_1, e_157_2, e_157_3, e_157_4, e_157_5, e_157_6, e_157_9, e_157_10, e_157_11, e_157_14, e_157_15, e_157_16, e_157_18, e_157_21, e_157_24, kX, if_true, c_of1 hi hs, c_mslakes hi hs, c_mwithin, cn_s, cn_v, c_put1 hi hs, cup_eq hw]
theorem dW_2 (D : DT) (i : Nat) (v w : Nat → Int32) : dW (dW D i v) i w = dW D i w := by
  unfold dW
  dsimp only
  rw [updW_2]
theorem dwt_2 (D : DT) (c : Nat) (x y : Int32) : dwt (dwt D c x) c y = dwt D c y := by
  unfold dwt
  dsimp only
  rw [upd_2]
theorem dW_id (D : DT) (i : Nat) : dW D i (D.2.1 i) = D := by
  obtain ⟨a, W, q⟩ := D
  unfold dW
  dsimp only
  rw [show updW W i (W i) = W from by funext k; unfold updW; by_cases e : k = i <;> simp [e]]
theorem dwt_id (D : DT) (c : Nat) : dwt D c (D.1 c) = D := by
  obtain ⟨a, W, q⟩ := D
  unfold dwt
  dsimp only
  rw [show upd a c (a c) = a from by funext k; unfold upd; by_cases e : k = c <;> simp [e]]
def drX (D : DT) (i c n : Nat) : DT := dwt (dW D i (drL n (D.2.1 i) (D.1 c)).1) c (drL n (D.2.1 i) (D.1 c)).2
theorem mdrink_tail (hi : i < s) (hs : s ≤ 10) (hc : c < 24) (hw : wJ (D.2.1 i)) {l : Nat} (hl : D.1 c = nI l) (hl99 : l ≤ 99) (h3 : nr l3 = true) : Df (d + 3) 156 47 [.ref 123, .int (nI i), .int (nI (11 + c)), l3] [] (MX h M K D s a0) nx = some (none, MX h M K (dwt (dW D i (drk (D.2.1 i) (D.1 c)).1) c (drk (D.2.1 i) (D.1 c)).2) s a0, nx) := by
  obtain ⟨_, p, hp, hp30⟩ := hw
  have f := fil_nI (w := D.2.1 i) (p := p) (l := l) hp hp30 (by omega)
  simp only [e_156_47, e_156_48, e_156_51, e_156_52, e_156_53, e_156_54, e_156_56, e_156_57, e_156_58, e_156_59, e_156_62, e_156_63, gX0, rxc hc, kX, if_true, c_of2 hi hs, cn_s, c_mwithin, Option.bind_some]
  rw [hl, f.2, ← f.1, e_156_66 h3]
  have e2 : ∀ x, (dwt D c x).2.1 i = D.2.1 i := fun x => rfl
  simp only [e_156_67, e_156_68, e_156_71, e_156_72i, e_156_73, e_156_74, e_156_75, e_156_76, e_156_77, e_156_78, e_156_79, e_156_80, e_156_81, e_156_82, e_156_83, e_156_86, e_156_87, e_156_88, e_156_91, gX0, rxc hc, wxc hc, kX, if_true, c_of2 hi hs, c_put2 hi hs, cn_s, cn_v, Option.bind_some, e2]
  rw [hl]
  rfl
theorem mdrink_loop (hs : s ≤ 10) (hi : i < s) (hc : c < 24) (n : Nat) : ∀ (D : DT) (m l : Nat), D.2.1 i 1 = nI m → m ≤ n → n ≤ 99 → wJ (D.2.1 i) → D.1 c = nI l → l ≤ 99 → Df (d + 3) 156 11 [.ref 123, .int (nI i), .int (nI (11 + c)), .null] [] (MX h M K D s a0) nx = some (none, MX h M K (dwt (dW D i (drk (drL n (D.2.1 i) (D.1 c)).1 (drL n (D.2.1 i) (D.1 c)).2).1) c (drk (drL n (D.2.1 i) (D.1 c)).1 (drL n (D.2.1 i) (D.1 c)).2).2) s a0, nx) := by
  induction n with
  | zero =>
    intro D m l h1 hm hn hw hl hl99
    obtain rfl : m = 0 := by omega
    rw [e_156_11]
    simp only [e_156_12, e_156_15, e_156_16, e_156_17, e_156_20, e_156_21, e_156_22, e_156_23, e_156_26, gX0, rxc hc, kX, if_true, c_of1 hi hs, cn_s, Option.bind_some]
    rw [h1, if_pos (show nI 0 ≤ 0 by decide), ite_self, mdrink_tail hi hs hc hw hl hl99 nr_n]
    rfl
  | succ n ih =>
    intro D m l h1 hm hn hw hl hl99
    rw [e_156_11]
    simp only [e_156_12, e_156_15, e_156_16, e_156_17, e_156_20, e_156_21, e_156_22, e_156_23, e_156_26, gX0, rxc hc, kX, if_true, c_of1 hi hs, cn_s, Option.bind_some]
    unfold drL
    by_cases c1 : D.1 c ≤ 0
    · rw [if_pos c1, if_pos c1, mdrink_tail hi hs hc hw hl hl99 nr_n]
    rw [if_neg c1, if_neg c1]
    by_cases c2 : D.2.1 i 1 ≤ 0
    · rw [if_pos c2, if_pos c2, mdrink_tail hi hs hc hw hl hl99 nr_n]
    rw [if_neg c2, if_neg c2]
    have hl0 : 0 < l := by
      rcases Nat.eq_zero_or_pos l with q | q
      · subst q; rw [hl] at c1; exact absurd (by decide) c1
      · exact q
    have hm0 : 0 < m := by
      rcases Nat.eq_zero_or_pos m with q | q
      · subst q; rw [h1] at c2; exact absurd (by decide) c2
      · exact q
    have e2 : ∀ x, (dwt D c x).2.1 i = D.2.1 i := fun x => rfl
    have hw' : ∀ x, wJ ((dwt D c x).2.1 i) := fun x => hw
    simp only [e_156_29, e_156_30, e_156_33, e_156_34i, e_156_35, e_156_36, e_156_37, e_156_38, e_156_39, e_156_40, e_156_41, e_156_44, gX0, rxc hc, wxc hc, kX, if_true, c_slaked hi hs (hw' _), cn_v, Option.bind_some, e2]
    obtain ⟨q, hq, e3, _⟩ := cup_nI h1 (by omega)
    obtain ⟨l', rfl⟩ : ∃ l', l = l' + 1 := ⟨l - 1, by omega⟩
    have e4 : D.1 c - 1 = nI l' := by rw [hl]; exact nI_pred l'
    have e5 : D.1 c + -1 = nI l' := by rw [hl]; exact pk_m1 l'
    have s1 : (dW (dwt D c (D.1 c - 1)) i (cup (D.2.1 i))).2.1 i = cup (D.2.1 i) := dWs _ _ _
    have s2 : (dW (dwt D c (D.1 c - 1)) i (cup (D.2.1 i))).1 c = nI l' := by
      show upd D.1 c (D.1 c - 1) c = nI l'
      rw [show upd D.1 c (D.1 c - 1) c = D.1 c - 1 from if_pos rfl, e4]
    have ih := ih (dW (dwt D c (D.1 c - 1)) i (cup (D.2.1 i))) (m - q) l' (by rw [s1, e3]; rfl) (by omega) (by omega) (by rw [s1]; exact cup_J hw) s2 (by omega)
    rw [s1, s2] at ih
    rw [ih, e5]
    have e6 : ∀ v y, dwt (dW (dW (dwt D c (D.1 c - 1)) i (cup (D.2.1 i))) i v) c y = dwt (dW D i v) c y := fun v y => by
      rw [dW_2]
      show dwt (dwt (dW D i v) c (D.1 c - 1)) c y = _
      rw [dwt_2]
    rw [e6]
theorem c_drinksAt (hi : i < s) (hD : dJ D s H) (hc : D.2.2 3 = nI c) (hc24 : c < 24) : Dn (d + 4) 156 [.ref 123, .int (nI i)] (MX h M K D s a0) nx = some (none, MX h M K (dwt (dW D i (drF (D.2.1 i) (D.1 c)).1) c (drF (D.2.1 i) (D.1 c)).2) s a0, nx) := by
  obtain ⟨l, hl, hl99⟩ := hD.2.2.1 c hc24
  obtain ⟨m, h1, hm⟩ := (hD.2.1 i hi).1
  simp only [n_156, e_156_0, e_156_2, e_156_3, e_156_6, e_156_8, e_156_9, e_156_10n, e_156_10i, e_156_10r, gX0, rx7, hc, Option.bind_some]
  rw [show (11 : Int32) + nI c = nI (11 + c) from nI_add 11 c]
  exact mdrink_loop hD.1.2.1 hi hc24 99 D m l h1 hm (by omega) (hD.2.1 i hi) hl hl99
end MW
