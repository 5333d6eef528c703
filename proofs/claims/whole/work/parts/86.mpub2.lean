/-! the model's public methods: who comes, what is told, hours, texts -/
section MC
variable {d : Nat} {h : AH} {nx : AN} {M : MS} {D : DT} {s H i j c a k n g t m : Nat} {x y z u v : Int32} {a0 f w F K1 : Nat → Int32} {K : (Nat → Int32) × (Nat → Int32)} {l1 l2 l3 l4 l5 : Value} {L : LT}
theorem up_a (hk : 35 + 6 * s ≤ k) (hs : s < 10) : upd (enc D s a0) k x = enc D s (upd a0 k x) := by
  funext b
  by_cases e : b = k
  · subst e
    rw [en_hi (by omega), if_neg (by omega)]
    simp [upd]
  · rw [show upd (enc D s a0) k x b = enc D s a0 b from if_neg e]
    by_cases hb : b < 11
    · rw [en_q hb, en_q hb]
    · rw [en_11 (by omega), en_11 (by omega), show upd a0 k x b = a0 b from if_neg e]
theorem X_setA (hk : k < 1467) {D' : DT} {s' : Nat} {a0' : Nat → Int32} (e : upd (enc D s a0) k x = enc D' s' a0') : wI (MX h M K D s a0) 124 (nI k) 0 x = some (MX h M K D' s' a0') := by
  unfold MX
  rw [wM (a := 124) (by omega) rfl (show k < 1467 from hk) (by decide)]
  refine congrArg (fun q => some (MH h q)) ?_
  unfold sA
  dsimp only
  rw [if_pos rfl, e]
  congr 1
  funext b
  unfold updW
  by_cases e3 : b = 124
  · rw [if_pos e3, if_pos e3]
  · rw [if_neg e3, if_neg e3]
    dsimp only
    rw [if_neg e3]
theorem c_putA (hs : s < 10) (hj : j < 6) : Dn (d + 1) 125 [.ref 123, .int (nI s), .int (nI j), .int x] (MX h M K D s a0) nx = some (none, MX h M K D s (upd a0 (35 + 6 * s + j) x), nx) := by
  simp only [n_125, e_125_0, e_125_1, e_125_4, e_125_6, e_125_8, e_125_9, e_125_10, e_125_11, e_125_12, e_125_13, e_125_14, e_125_15, gX0, ix_w, X_setA (show 35 + 6 * s + j < 1467 by omega) (up_a (D := D) (a0 := a0) (x := x) (show 35 + 6 * s ≤ 35 + 6 * s + j by omega) hs), Option.bind_some]
theorem comes_loop (hs : s < 10) (n : Nat) : ∀ (k : Nat) (a0 : Nat → Int32), k + n = 6 → Df (d + 1) 124 21 [.ref 123, l1, l2, l3, .int (nI s), .int (nI k)] [] (MX h M K D s a0) nx = Df (d + 1) 124 43 [.ref 123, l1, l2, l3, .int (nI s), .int 6] [] (MX h M K D s (zer s n k a0)) nx := by
  induction n with
  | zero =>
    intro k a0 hk
    obtain rfl : k = 6 := by omega
    rw [e_124_21]
    simp only [e_124_23, e_124_25]
    rw [if_pos (by decide)]
    rfl
  | succ n ih =>
    intro k a0 hk
    rw [e_124_21]
    simp only [e_124_23, e_124_25, e_124_28, e_124_29, e_124_31, e_124_33, e_124_34, e_124_37, e_124_40, kX, if_true, c_putA hs (show k < 6 by omega), cn_v, nI_1]
    rw [if_neg (show ¬ (6 : Int32) ≤ nI k from nI_ge (b := 6) (by omega) (by omega))]
    exact ih (k + 1) _ (by omega)
theorem zer_v (b : Nat) : zer s 6 0 a0 b = if 35 + 6 * s ≤ b ∧ b < 35 + 6 * s + 6 then 0 else a0 b := by
  show upd (upd (upd (upd (upd (upd a0 (35 + 6 * s + 0) 0) (35 + 6 * s + 1) 0) (35 + 6 * s + 2) 0) (35 + 6 * s + 3) 0) (35 + 6 * s + 4) 0) (35 + 6 * s + 5) 0 b = _
  unfold upd
  by_cases h1 : 35 + 6 * s ≤ b ∧ b < 35 + 6 * s + 6
  · rw [if_pos h1]
    repeat' split
    all_goals first | rfl | omega
  · rw [if_neg h1, if_neg (by omega), if_neg (by omega), if_neg (by omega), if_neg (by omega), if_neg (by omega), if_neg (by omega)]
theorem enc_jn (hs : s < 10) : enc (dq D 2 (nI (s + 1))) s (upd (upd (upd (zer s 6 0 a0) (35 + 6 * s + 0) x) (35 + 6 * s + 2) y) (35 + 6 * s + 3) z) = enc (jn D s x y z) (s + 1) a0 := by
  funext b
  by_cases hb : b < 11
  · rw [en_q hb, en_q hb]; rfl
  rw [en_11 (by omega), en_11 (by omega)]
  by_cases hb2 : b < 35
  · rw [if_pos hb2, if_pos hb2]; rfl
  rw [if_neg hb2, if_neg hb2]
  have eW : ∀ i, (jn D s x y z).2.1 i = if i = s then upd (upd (upd (upd (upd (upd (D.2.1 s) 0 x) 1 0) 2 y) 3 z) 4 0) 5 1 else D.2.1 i := fun i => rfl
  by_cases h1 : b < 35 + 6 * s
  · have hne : ¬ (b - 35) / 6 = s := by omega
    rw [if_pos h1, if_pos (show b < 35 + 6 * (s + 1) by omega), eW, if_neg hne]
    rfl
  · rw [if_neg h1]
    by_cases h2 : b < 35 + 6 * (s + 1)
    · have heq : (b - 35) / 6 = s := by omega
      rw [if_pos h2, eW, if_pos heq]
      have hr : ∃ r, r < 6 ∧ b = 35 + 6 * s + r := ⟨b - (35 + 6 * s), by omega, by omega⟩
      obtain ⟨r, hr6, rfl⟩ := hr
      rw [show (35 + 6 * s + r - 35) % 6 = r by omega]
      have hz : zer s 6 0 a0 (35 + 6 * s + r) = 0 := by rw [zer_v, if_pos (by omega)]
      unfold upd
      rw [hz]
      rcases (show r = 0 ∨ r = 1 ∨ r = 2 ∨ r = 3 ∨ r = 4 ∨ r = 5 by omega) with rfl | rfl | rfl | rfl | rfl | rfl
      all_goals simp
    · rw [if_neg h2]
      have hz : zer s 6 0 a0 b = a0 b := by rw [zer_v, if_neg (by omega)]
      unfold upd
      rw [if_neg (by omega), if_neg (by omega), if_neg (by omega), hz]
theorem c_comes (hn : D.2.2 2 = nI s) (hs : s < 10) : Dn (d + 2) 124 [.ref 123, .int x, .int y, .int z] (MX h M K D s a0) nx = some (some (.int (nI s)), MX h M K (jn D s x y z) (s + 1) a0, nx) := by
  have p0 : ∀ {a0 : Nat → Int32} {x : Int32}, Dn (d + 1) 125 [.ref 123, .int (nI s), .int 0, .int x] (MX h M K (dq D 2 (nI (s + 1))) s a0) nx = some (none, MX h M K (dq D 2 (nI (s + 1))) s (upd a0 (35 + 6 * s + 0) x), nx) := fun {a0 x} => c_putA (j := 0) hs (by omega)
  have p2 : ∀ {a0 : Nat → Int32} {x : Int32}, Dn (d + 1) 125 [.ref 123, .int (nI s), .int 2, .int x] (MX h M K (dq D 2 (nI (s + 1))) s a0) nx = some (none, MX h M K (dq D 2 (nI (s + 1))) s (upd a0 (35 + 6 * s + 2) x), nx) := fun {a0 x} => c_putA (j := 2) hs (by omega)
  have p3 : ∀ {a0 : Nat → Int32} {x : Int32}, Dn (d + 1) 125 [.ref 123, .int (nI s), .int 3, .int x] (MX h M K (dq D 2 (nI (s + 1))) s a0) nx = some (none, MX h M K (dq D 2 (nI (s + 1))) s (upd a0 (35 + 6 * s + 3) x), nx) := fun {a0 x} => c_putA (j := 3) hs (by omega)
  have l := comes_loop (d := d) (h := h) (nx := nx) (M := M) (K := K) (D := dq D 2 (nI (s + 1))) (l1 := .int x) (l2 := .int y) (l3 := .int z) hs 6 0 a0 rfl
  rw [show nI 0 = 0 from rfl] at l
  simp only [n_124, e_124_0, e_124_1, e_124_4, e_124_5, e_124_6n, e_124_6i, e_124_6r, e_124_8, e_124_9, e_124_12, e_124_13i, e_124_14, e_124_15, e_124_16, e_124_17, e_124_18, e_124_19n, e_124_19i, e_124_19r, gX0, rx1, wx1, hn, Option.bind_some, nI_1]
  rw [l]
  simp only [e_124_43, e_124_44, e_124_46, e_124_47, e_124_48, e_124_51, e_124_52, e_124_54, e_124_55, e_124_56, e_124_59, e_124_60, e_124_62, e_124_63, e_124_64, e_124_67, e_124_69, kX, if_true, p0, p2, p3, cn_v]
  have e9 : MX h M K (dq D 2 (nI (s + 1))) s (upd (upd (upd (zer s 6 0 a0) (35 + 6 * s + 0) x) (35 + 6 * s + 2) y) (35 + 6 * s + 3) z) = MX h M K (jn D s x y z) (s + 1) a0 := by
    rw [MX_MG, MX_MG, enc_jn hs]
  rw [e9]
theorem Q_walker (hD : dI D s) : Dn (d + 3) 122 [.ref 123, .int x, .int y, .int z] (MX h M K D s a0) nx = if (0 ≤ x ∧ x ≤ 5) ∧ (0 ≤ y ∧ y ≤ 30) ∧ (0 ≤ z ∧ z ≤ 24) then (if s = 10 then am (-1000000003) h M K D s a0 nx else am (nI s) h M K (jn D s x y z) (s + 1) a0 nx) else am (-1000000001) h M K D s a0 nx := by
  have hs := hD.2.1
  by_cases h1 : 0 ≤ x ∧ x ≤ 5
  · by_cases h2 : 0 ≤ y ∧ y ≤ 30
    · by_cases h3 : 0 ≤ z ∧ z ≤ 24
      · rw [if_pos ⟨h1, h2, h3⟩]
        by_cases h4 : s = 10
        · subst h4
          simp only [n_122, e_122_0, e_122_1, e_122_2, e_122_3, e_122_6, e_122_9, e_122_10, e_122_11, e_122_13, e_122_16, e_122_19, e_122_20, e_122_21, e_122_23, e_122_26, e_122_29, e_122_31, e_122_32, e_122_33, e_122_36, e_122_37, e_122_38, e_122_40, e_122_43, e_122_45, e_122_55, c_min_in, cn_s, pi_if, gX0, rx1, hD.1, Option.bind_some]
          rw [if_pos h1, if_pos h2, if_pos h3, if_pos (show nI 10 = 10 from rfl), if_pos trivial]; rfl
        · simp only [n_122, e_122_0, e_122_1, e_122_2, e_122_3, e_122_6, e_122_9, e_122_10, e_122_11, e_122_13, e_122_16, e_122_19, e_122_20, e_122_21, e_122_23, e_122_26, e_122_29, e_122_31, e_122_32, e_122_33, e_122_36, e_122_37, e_122_38, e_122_40, e_122_43, e_122_45, e_122_48, e_122_49, e_122_50, e_122_51, e_122_52, e_122_55, c_min_in, cn_s, pi_if, gX0, rx1, hD.1, kX, if_true, c_comes hD.1 (show s < 10 by omega), Option.bind_some]
          rw [if_pos h1, if_pos h2, if_pos h3, if_neg (show ¬ nI s = 10 from fun e => h4 ((nI_eq (b := 10) (by omega) (by omega)).mp e)), if_neg h4]; rfl
      · rw [if_neg (fun q => h3 q.2.2)]
        simp only [n_122, e_122_0, e_122_1, e_122_2, e_122_3, e_122_6, e_122_9, e_122_10, e_122_11, e_122_13, e_122_16, e_122_19, e_122_20, e_122_21, e_122_23, e_122_26, e_122_29, e_122_31, c_min_in, cn_s, pi_if]
        rw [if_pos h1, if_pos h2, if_neg h3]; rfl
    · rw [if_neg (fun q => h2 q.2.1)]
      simp only [n_122, e_122_0, e_122_1, e_122_2, e_122_3, e_122_6, e_122_9, e_122_10, e_122_11, e_122_13, e_122_16, e_122_19, e_122_20, e_122_21, e_122_23, e_122_26, e_122_29, e_122_31, c_min_in, cn_s, pi_if]
      rw [if_pos h1, if_neg h2]; rfl
  · rw [if_neg (fun q => h1 q.1)]
    simp only [n_122, e_122_0, e_122_1, e_122_2, e_122_3, e_122_6, e_122_9, e_122_10, e_122_11, e_122_13, e_122_16, e_122_19, e_122_20, e_122_21, e_122_23, e_122_26, e_122_29, e_122_31, c_min_in, cn_s, pi_if]
    rw [if_neg h1]; rfl
theorem jl_eq {z1 z2 z3 k6 k31 k25 : Int32} (h1 : nxz (D.2.2 11) = z1) (h2 : nxz z1 = z2) (h3 : nxz z2 = z3) (e6 : dr8 z1 - dr8 z1 / 6 * 6 = k6) (e31 : dr8 z2 - dr8 z2 / 31 * 31 = k31) (e25 : dr8 z3 - dr8 z3 / 25 * 25 = k25) : jl D s = jn (dq (dq (dq D 11 z1) 11 z2) 11 z3) s k6 k31 k25 := by
  subst h1; subst h2; subst h3; subst e6; subst e31; subst e25
  rfl
theorem jn_2 : (jn D s x y z).2.2 2 = nI (s + 1) := rfl
theorem mdeal_step (hn : D.2.2 2 = nI s) (hs : s < 10) (hk : k < m) (hm : m ≤ 10) (h3 : nr l3 = true) (h4 : nr l4 = true) (h5 : nr l5 = true) : ∃ l3' l4' l5', nr l3' = true ∧ nr l4' = true ∧ nr l5' = true ∧ (jl D s).2.2 2 = nI (s + 1) ∧ Df (d + 2) 147 15 [.ref 123, .int (nI m), .int (nI k), l3, l4, l5] [] (MX h M K D s a0) nx = Df (d + 2) 147 15 [.ref 123, .int (nI m), .int (nI (k + 1)), l3', l4', l5'] [] (MX h M K (jl D s) (s + 1) a0) nx := by
  obtain ⟨z1, h1⟩ : ∃ z, nxz (D.2.2 11) = z := ⟨_, rfl⟩
  obtain ⟨z2, h2⟩ : ∃ z, nxz z1 = z := ⟨_, rfl⟩
  obtain ⟨z3, h3'⟩ : ∃ z, nxz z2 = z := ⟨_, rfl⟩
  obtain ⟨k6, e6⟩ : ∃ z, dr8 z1 - dr8 z1 / 6 * 6 = z := ⟨_, rfl⟩
  obtain ⟨k31, e31⟩ : ∃ z, dr8 z2 - dr8 z2 / 31 * 31 = z := ⟨_, rfl⟩
  obtain ⟨k25, e25⟩ : ∃ z, dr8 z3 - dr8 z3 / 25 * 25 = z := ⟨_, rfl⟩
  have q1 : (dq D 11 z1).2.2 11 = z1 := by simp [dq, upd]
  have q2 : (dq (dq D 11 z1) 11 z2).2.2 11 = z2 := by simp [dq, upd]
  have h2' : nxz ((dq D 11 z1).2.2 11) = z2 := by rw [q1]; exact h2
  have h3'' : nxz ((dq (dq D 11 z1) 11 z2).2.2 11) = z3 := by rw [q2]; exact h3'
  have hn' : (dq (dq (dq D 11 z1) 11 z2) 11 z3).2.2 2 = nI s := hn
  rw [jl_eq h1 h2 h3' e6 e31 e25]
  refine ⟨.int k6, .int k31, .int (nI s), nr_i _, nr_i _, nr_i _, jn_2, ?_⟩
  rw [e_147_15]
  simp only [e_147_16, e_147_17, e_147_20, e_147_21, e_147_24, e_147_25, e_147_26, e_147_28, e_147_31, e_147_32, e_147_35, e_147_37, gX0, rx1, hn, kX, if_true, c_mdraw' h1, cn_s, show ¬ (6 : Int32) = 0 by decide, if_false, e6, Option.bind_some]
  rw [if_neg (nI_ge hk (by omega)), if_neg (show ¬ (10 : Int32) ≤ nI s from nI_ge (b := 10) hs (by omega)), e_147_38 h3]
  simp only [e_147_39, e_147_40, e_147_43, e_147_45, kX, if_true, c_mdraw' h2', cn_s, show ¬ (31 : Int32) = 0 by decide, if_false, e31]
  rw [e_147_46 h4]
  simp only [e_147_48, e_147_49, e_147_50, e_147_52, e_147_53, e_147_56, e_147_58, e_147_59, kX, if_true, c_mdraw' h3'', cn_s, show ¬ (25 : Int32) = 0 by decide, if_false, e25, c_comes hn' hs]
  rw [e_147_62 h5]
  simp only [e_147_64, e_147_67, nI_1]
theorem mdeal_loop (hm : m ≤ 10) (n : Nat) : ∀ (k s : Nat) (D : DT) (l3 l4 l5 : Value), nr l3 = true → nr l4 = true → nr l5 = true → D.2.2 2 = nI s → s ≤ 10 → k ≤ m → n = min (m - k) (10 - s) → Df (d + 2) 147 15 [.ref 123, .int (nI m), .int (nI k), l3, l4, l5] [] (MX h M K D s a0) nx = am (nI (k + n)) h M K (dlF n s D) (s + n) a0 nx := by
  induction n with
  | zero =>
    intro k s D l3 l4 l5 h3 h4 h5 hn hs hk hmin
    by_cases hkm : k = m
    · subst hkm
      rw [e_147_15]
      simp only [e_147_16, e_147_17, e_147_70, e_147_71]
      rw [if_pos (nI_le (Nat.le_refl _) (by omega))]
      rfl
    · obtain rfl : s = 10 := by omega
      rw [e_147_15]
      simp only [e_147_16, e_147_17, e_147_20, e_147_21, e_147_24, e_147_25, e_147_26, e_147_28, e_147_70, e_147_71, gX0, rx1, hn, Option.bind_some]
      rw [if_neg (nI_ge (by omega) (by omega)), if_pos (by decide)]
      rfl
  | succ n ih =>
    intro k s D l3 l4 l5 h3 h4 h5 hn hs hk hmin
    obtain ⟨l3', l4', l5', g3, g4, g5, g2, e⟩ := mdeal_step (d := d) (h := h) (nx := nx) (M := M) (K := K) (a0 := a0) hn (show s < 10 by omega) (show k < m by omega) hm h3 h4 h5
    rw [e, ih (k + 1) (s + 1) (jl D s) l3' l4' l5' g3 g4 g5 g2 (by omega) (by omega) (by omega)]
    rw [show k + 1 + n = k + (n + 1) by omega, show s + 1 + n = s + (n + 1) by omega]
    rfl
theorem Q_deal (hD : dI D s) : Dn (d + 3) 147 [.ref 123, .int x] (MX h M K D s a0) nx = if 1 ≤ x ∧ x ≤ 10 then am (nI (min x.toNatClampNeg (10 - s))) h M K (dlF (min x.toNatClampNeg (10 - s)) s D) (s + min x.toNatClampNeg (10 - s)) a0 nx else am (-1000000001) h M K D s a0 nx := by
  by_cases h1 : 1 ≤ x ∧ x ≤ 10
  · rw [if_pos h1]
    obtain ⟨m, hm1, hm, rfl⟩ := idx1 (m := 10) h1 (by omega)
    rw [cl_nI (by omega)]
    have l := mdeal_loop (d := d) (h := h) (nx := nx) (M := M) (K := K) (a0 := a0) hm (min m (10 - s)) 0 s D .null .null .null nr_n nr_n nr_n hD.1 hD.2.1 (by omega) (by omega)
    rw [Nat.zero_add] at l
    rw [← l]
    simp only [n_147, e_147_0, e_147_1, e_147_2, e_147_4, e_147_7, e_147_10, e_147_12, e_147_13, e_147_14n, e_147_14i, e_147_14r, c_min_in, cn_s, pi_if]
    rw [if_pos h1]; rfl
  · rw [if_neg h1]
    simp only [n_147, e_147_0, e_147_1, e_147_2, e_147_4, e_147_7, e_147_10, e_147_12, c_min_in, cn_s, pi_if]
    rw [if_neg h1]; rfl
theorem mliving_loop (hD : dI D s) (n : Nat) : ∀ (k : Nat), k + n = s → Df (d + 2) 162 4 [.ref 123, .int (lvg D.2.1 k), .int (nI k)] [] (MX h M K D s a0) nx = some (some (.int (lvg D.2.1 s)), MX h M K D s a0, nx) := by
  have hs := hD.2.1
  induction n with
  | zero =>
    intro k hk
    obtain rfl : k = s := by omega
    rw [e_162_4]
    simp only [e_162_5, e_162_6, e_162_9, e_162_10, e_162_11, e_162_38, e_162_39, gX0, rx1, hD.1, Option.bind_some]
    rw [if_pos (nI_le (Nat.le_refl _) (by omega))]
  | succ n ih =>
    intro k hk
    have hks : k < s := by omega
    have ih := ih (k + 1) (by omega)
    rw [e_162_4]
    simp only [e_162_5, e_162_6, e_162_9, e_162_10, e_162_11, e_162_14, e_162_15, e_162_16, e_162_17, e_162_20, e_162_23, e_162_24, e_162_25, e_162_26, e_162_29, e_162_30, e_162_31n, e_162_31i, e_162_31r, e_162_32, e_162_35, gX0, rx1, hD.1, kX, if_true, c_lives hks hs (hD.2.2.2.2 k hks), cn_s, pi_if, Option.bind_some, nI_1]
    rw [if_neg (nI_ge (by omega) (by omega))]
    by_cases h1 : D.2.1 k 5 = 0
    · rw [if_neg (fun q => q h1)]
      simp only [lvg, h1, if_true] at ih
      exact ih
    · rw [if_pos h1]
      simp only [lvg, h1, if_false] at ih
      exact ih
theorem c_mliving (hD : dI D s) : Dn (d + 3) 162 [.ref 123] (MX h M K D s a0) nx = some (some (.int (lvg D.2.1 s)), MX h M K D s a0, nx) := by
  simp only [n_162, e_162_0, e_162_1n, e_162_1i, e_162_1r, e_162_2, e_162_3n, e_162_3i, e_162_3r]
  exact mliving_loop hD s 0 (Nat.zero_add _)
theorem mtht_loop (hD : dI D s) (n : Nat) : ∀ (k : Nat), k + n = s → Df (d + 2) 163 4 [.ref 123, .int (tht D.2.1 k), .int (nI k)] [] (MX h M K D s a0) nx = some (some (.int (tht D.2.1 s)), MX h M K D s a0, nx) := by
  have hs := hD.2.1
  induction n with
  | zero =>
    intro k hk
    obtain rfl : k = s := by omega
    rw [e_163_4]
    simp only [e_163_5, e_163_6, e_163_9, e_163_10, e_163_11, e_163_41, e_163_42, gX0, rx1, hD.1, Option.bind_some]
    rw [if_pos (nI_le (Nat.le_refl _) (by omega))]
  | succ n ih =>
    intro k hk
    have hks : k < s := by omega
    have ih := ih (k + 1) (by omega)
    rw [e_163_4]
    simp only [e_163_5, e_163_6, e_163_9, e_163_10, e_163_11, e_163_14, e_163_15, e_163_16, e_163_17, e_163_20, e_163_23, e_163_24, e_163_25, e_163_26, e_163_29, e_163_32, e_163_33, e_163_34n, e_163_34i, e_163_34r, e_163_35, e_163_38, gX0, rx1, hD.1, kX, if_true, c_lives hks hs (hD.2.2.2.2 k hks), c_of1 hks hs, cn_s, pi_if, Option.bind_some, nI_1]
    rw [if_neg (nI_ge (by omega) (by omega))]
    by_cases h1 : D.2.1 k 5 = 0
    · rw [if_neg (fun q => q h1)]
      simp only [tht, h1, if_true] at ih
      exact ih
    · rw [if_pos h1]
      simp only [tht, h1, if_false] at ih
      exact ih
theorem c_mtht (hD : dI D s) : Dn (d + 3) 163 [.ref 123] (MX h M K D s a0) nx = some (some (.int (tht D.2.1 s)), MX h M K D s a0, nx) := by
  simp only [n_163, e_163_0, e_163_1n, e_163_1i, e_163_1r, e_163_2, e_163_3n, e_163_3i, e_163_3r]
  exact mtht_loop hD s 0 (Nat.zero_add _)
theorem mwells_loop (n : Nat) : ∀ (k : Nat), k + n = 24 → Df d 160 90 [.ref 123, l1, .int (wls D.1 k), .int (nI k)] [] (MX h M K D s a0) nx = am (wls D.1 24) h M K D s a0 nx := by
  induction n with
  | zero =>
    intro k hk
    obtain rfl : k = 24 := by omega
    rw [e_160_90]
    simp only [e_160_91, e_160_93, e_160_124, e_160_125]
    rw [if_pos (by decide)]
    rfl
  | succ n ih =>
    intro k hk
    have hk24 : k < 24 := by omega
    have ih := ih (k + 1) (by omega)
    rw [e_160_90]
    simp only [e_160_91, e_160_93, e_160_96, e_160_97, e_160_98, e_160_101, e_160_103, e_160_104, e_160_105, e_160_106, e_160_109, e_160_110, e_160_111, e_160_112, e_160_115, e_160_116, e_160_117n, e_160_117i, e_160_117r, e_160_118, e_160_121, gX0, show (11 : Int32) + nI k = nI (11 + k) from nI_add 11 k, rxc hk24, Option.bind_some, nI_1]
    rw [if_neg (show ¬ (24 : Int32) ≤ nI k from nI_ge (b := 24) hk24 (by omega))]
    by_cases h1 : D.1 k ≤ 0
    · rw [if_pos h1]
      simp only [wls, h1, if_true] at ih
      exact ih
    · rw [if_neg h1]
      simp only [wls, h1, if_false] at ih
      exact ih
theorem Q_band (hD : dI D s) : Dn (d + 4) 160 [.ref 123, .int x] (MX h M K D s a0) nx = am (if x = 0 then D.2.2 3 else if x = 1 then (if oi (ldr D.2.1 s) = -1 then -1000000005 else oi (ldr D.2.1 s)) else if x = 2 then D.2.2 8 else if x = 3 then D.2.2 9 else if x = 4 then lvg D.2.1 s else if x = 5 then tht D.2.1 s else if x = 6 then wls D.1 24 else -1000000001) h M K D s a0 nx := by
  have e1 : (if oi (ldr D.2.1 s) = -1 then (-1000000005 : Int32) else oi (ldr D.2.1 s)) = if oi (ldr D.2.1 s) < 0 then -1000000005 else oi (ldr D.2.1 s) := by
    cases e : ldr D.2.1 s with
    | none => rfl
    | some j =>
      have hj := ldr_lt e
      have hs := hD.2.1
      have h1 : ¬ oi (some j) < 0 := nI_pos (by omega)
      rw [if_neg h1, if_neg (fun q => h1 (by rw [q]; decide))]
  have w := mwells_loop (d := d + 3) (h := h) (nx := nx) (M := M) (K := K) (D := D) (s := s) (a0 := a0) (l1 := .int x) 24 0 rfl
  rw [show nI 0 = 0 from rfl, show wls D.1 0 = 0 from rfl] at w
  rw [e1]
  simp only [n_160, e_160_0, e_160_1, e_160_44, e_160_45, e_160_48, e_160_50, e_160_51, e_160_52, e_160_53, e_160_56, e_160_59, e_160_60, e_160_61, e_160_64, e_160_66, e_160_67, e_160_68, e_160_69, e_160_72, e_160_74, e_160_75, e_160_76, e_160_77, e_160_80, e_160_81, e_160_82, e_160_85, e_160_86, e_160_87n, e_160_87i, e_160_87r, e_160_88, e_160_89n, e_160_89i, e_160_89r, e_160_126, e_160_128, kX, if_true, gX0, rx7, rx8, rx9, c_mleader hD, c_told0, c_mliving hD, c_mtht hD, cn_s, Option.bind_some]
  by_cases h0 : x = 0
  · simp [h0, am]
  by_cases h1 : x = 1
  · simp [h1, am]
  by_cases h2 : x = 2
  · simp [h2, am]
  by_cases h3 : x = 3
  · simp [h3, am]
  by_cases h4 : x = 4
  · simp [h4, am]
  by_cases h5 : x = 5
  · simp [h5, am]
  by_cases h6 : x = 6
  · subst h6
    simp only [show ¬ (6 : Int32) = 0 by decide, show ¬ (6 : Int32) = 1 by decide, show ¬ (6 : Int32) = 2 by decide, show ¬ (6 : Int32) = 3 by decide, show ¬ (6 : Int32) = 4 by decide, show ¬ (6 : Int32) = 5 by decide, if_false, if_true]
    exact w
  simp [h0, h1, h2, h3, h4, h5, h6, am]
theorem Q_hours {x : Int32} (hM : M.1 4 = 0) (hT : TR L t a0) (hL : okL L t) (hD : dJ D s H) (hH : H ≤ 9999) (h12 : D.2.2 12 = nI t) : ∃ K', Dn (d + 7) 150 [.ref 123, .int x] (MX h M K D s a0) nx = if 1 ≤ x ∧ x ≤ 100 then am ((hrs L t s (min x.toNatClampNeg (9999 - H)) D).2.2 8 - D.2.2 8) h M K' (hrs L t s (min x.toNatClampNeg (9999 - H)) D) s a0 nx else am (-1000000001) h M K D s a0 nx := by
  by_cases h1 : 1 ≤ x ∧ x ≤ 100
  · obtain ⟨m, hm1, hm, rfl⟩ := idx1 (m := 100) h1 (by omega)
    rw [cl_nI (by omega)]
    obtain ⟨K', e⟩ := c_goesOn (d := d) (h := h) (nx := nx) (K := K) hM hT hL (m := min m (9999 - H)) (by omega) hD (by omega) h12
    refine ⟨K', ?_⟩
    rw [if_pos h1]
    have e9 : (9999 : Int32) - nI H = nI (9999 - H) := nI_sub (a := 9999) hH
    have e10 : hld (nI (9999 - H)) 0 (nI m) = nI (min m (9999 - H)) := by rw [hld_nI (by omega) (by omega), Nat.min_comm]
    simp only [n_150, e_150_0, e_150_1, e_150_2, e_150_4, e_150_7, e_150_10, e_150_12, e_150_13, e_150_14, e_150_17, e_150_19, e_150_20n, e_150_20i, e_150_20r, e_150_21, e_150_22, e_150_25, e_150_26, e_150_29, e_150_30, e_150_31, e_150_32, e_150_33, e_150_34, e_150_37, e_150_40, e_150_41, e_150_44, e_150_46, e_150_47, e_150_48, e_150_49, c_min_in, cn_s, cn_v, pi_if, gX0, rx8, rx2, hD.2.2.2.2.2.1, e9, c_mwithin, e10, kX, if_true, e, Option.bind_some]
    rw [if_pos h1]; rfl
  · refine ⟨K, ?_⟩
    rw [if_neg h1]
    simp only [n_150, e_150_0, e_150_1, e_150_2, e_150_4, e_150_7, e_150_10, e_150_12, c_min_in, cn_s, pi_if]
    rw [if_neg h1]; rfl
end MC
