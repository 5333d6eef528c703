/-! the model's public methods: told, count, what texts give -/
section MD
variable {d : Nat} {h : AH} {nx : AN} {M : MS} {D : DT} {s H i j c a k n g t m : Nat} {x y z u v : Int32} {a0 f w F K1 : Nat → Int32} {K : (Nat → Int32) × (Nat → Int32)} {l1 l2 l3 l4 l5 : Value} {L : LT}
theorem Q_told (hT : TR L t a0) (hL : okL L t) (hD : dJ D s H) (hH : H < 2147483648) (h12 : D.2.2 12 = nI t) : ∃ K', Dn (d + 4) 126 [.ref 123, .int x, .int y] (MX h M K D s a0) nx = if 0 ≤ x ∧ x < nI s then am (toldF L t D x.toNatClampNeg y) h M K' D s a0 nx else am (-1000000001) h M K D s a0 nx := by
  have hs := hD.1.2.1
  by_cases h1 : 0 ≤ x ∧ x < nI s
  · obtain ⟨i, hi, rfl⟩ := idx h1 (by omega)
    rw [cl_nI (by omega)]
    obtain ⟨c, hc, hc24⟩ := hD.1.2.2.1
    obtain ⟨g, hg1, hg2⟩ := hD.1.2.2.2.1 i hi
    have e3 : (D.2.2 3).toNatClampNeg = c := by rw [hc, cl_nI (by omega)]
    have e4 : (D.2.1 i 3).toNatClampNeg = g := by rw [hg1, cl_nI (by omega)]
    by_cases h6 : y = 6
    · subst h6
      obtain ⟨K', e⟩ := c_mthirsts (d := d) (h := h) (nx := nx) (M := M) (K := K) hi hD hH h12 hT hL
      refine ⟨K', ?_⟩
      rw [if_pos h1]
      simp only [n_126, e_126_0, e_126_1, e_126_2, e_126_5, e_126_11, e_126_12, e_126_84, e_126_85, e_126_86, e_126_89, kX, if_true, c_isWalker hD.1.1 hs, cn_s, pi_if, e, show ¬ (6 : Int32) = 0 by decide, show ¬ (6 : Int32) = 1 by decide, show ¬ (6 : Int32) = 2 by decide, show ¬ (6 : Int32) = 3 by decide, show ¬ (6 : Int32) = 4 by decide, show ¬ (6 : Int32) = 5 by decide, if_false]
      rw [if_pos h1]; rfl
    refine ⟨K, ?_⟩
    rw [if_pos h1]
    have e5 : (1 : Int32) - (1 - D.2.1 i 5) = D.2.1 i 5 := by
      rcases hD.1.2.2.2.2 i hi with e | e <;> rw [e] <;> decide
    unfold toldF
    rw [e3, e4]
    simp only [n_126, e_126_0, e_126_1, e_126_2, e_126_5, e_126_11, e_126_12, e_126_75, e_126_76, e_126_77, e_126_78, e_126_79, e_126_82, e_126_83, e_126_90, e_126_91, e_126_92, e_126_95, e_126_96, e_126_97, e_126_98, e_126_101, e_126_102, e_126_103, e_126_104, e_126_107, e_126_108, e_126_110, kX, if_true, c_isWalker hD.1.1 hs, cn_s, pi_if, c_of5 hi hs, c_mslakes hi hs, c_mgoes hi hs hc hc24 hg1 hg2, c_mworth hi hs (hD.2.1 i hi), e5]
    rw [if_pos h1]
    by_cases h0 : y = 0
    · subst h0
      simp only [e_126_68, e_126_69, e_126_70, e_126_71, e_126_74, kX, if_true, c_of0 hi hs, cn_s]
      rfl
    by_cases c1 : y = 1
    · subst c1
      simp only [e_126_68, e_126_69, e_126_70, e_126_71, e_126_74, kX, if_true, c_of1 hi hs, cn_s]
      simp [am]
    by_cases c2 : y = 2
    · subst c2
      simp only [e_126_68, e_126_69, e_126_70, e_126_71, e_126_74, kX, if_true, c_of2 hi hs, cn_s]
      simp [am]
    by_cases c3 : y = 3
    · subst c3
      simp only [e_126_68, e_126_69, e_126_70, e_126_71, e_126_74, kX, if_true, c_of3 hi hs, cn_s]
      simp [am]
    by_cases c4 : y = 4
    · subst c4
      simp only [e_126_68, e_126_69, e_126_70, e_126_71, e_126_74, kX, if_true, c_of4 hi hs, cn_s]
      simp [am]
    by_cases c5 : y = 5
    · subst c5; simp [am]
    by_cases c7 : y = 7
    · subst c7; simp [am]
    by_cases c8 : y = 8
    · subst c8; simp [am]
    by_cases c9 : y = 9
    · subst c9; simp [am]
    simp [h0, c1, c2, c3, c4, c5, h6, c7, c8, c9, am]
  · refine ⟨K, ?_⟩
    rw [if_neg h1]
    simp only [n_126, e_126_0, e_126_1, e_126_2, e_126_5, e_126_8, e_126_10, kX, if_true, c_isWalker hD.1.1 hs, cn_s, pi_if]
    rw [if_neg h1]; rfl
theorem gX33 : gF (MX h M K D s a0) 123 9 33 = some (.int (M.1 33)) := rfl
theorem gX7 : gF (MX h M K D s a0) 123 9 7 = some (.int (M.1 7)) := rfl
theorem Q_count : Dn (d + 1) 210 [.ref 123, .int x] (MX h M K D s a0) nx = am (if x = 0 then D.2.2 2 else if x = 1 then D.2.2 10 else if x = 2 then D.2.2 4 else if x = 3 then D.2.2 5 else if x = 4 then D.2.2 6 else if x = 5 then D.2.2 7 else if x = 6 then D.2.2 12 else if x = 7 then M.1 33 else if x = 8 then M.1 7 else if x = 9 then D.2.2 11 else -1000000001) h M K D s a0 nx := by
  simp only [n_210, e_210_0, e_210_1, e_210_56, e_210_57, e_210_60, e_210_61, e_210_62, e_210_74, e_210_75, e_210_78, e_210_80, e_210_81, e_210_82, e_210_83, e_210_86, e_210_87, e_210_88, e_210_91, e_210_92, e_210_93, e_210_96, e_210_97, e_210_98, e_210_99, e_210_101, gX0, gX7, gX33, rx0, rx1, rx10, Option.bind_some]
  by_cases h0 : x = 0
  · simp [h0, am]
  by_cases c1 : x = 1
  · subst c1
    simp only [e_210_63, e_210_64, e_210_67, e_210_68, e_210_69, e_210_70, e_210_71, e_210_72, e_210_73, gX0, show (2 : Int32) + 1 - 1 = 2 by decide, rx2, Option.bind_some]
    simp [am]
  by_cases c2 : x = 2
  · subst c2
    simp only [e_210_63, e_210_64, e_210_67, e_210_68, e_210_69, e_210_70, e_210_71, e_210_72, e_210_73, gX0, show (2 : Int32) + 2 - 1 = 3 by decide, rx3, Option.bind_some]
    simp [am]
  by_cases c3 : x = 3
  · subst c3
    simp only [e_210_63, e_210_64, e_210_67, e_210_68, e_210_69, e_210_70, e_210_71, e_210_72, e_210_73, gX0, show (2 : Int32) + 3 - 1 = 4 by decide, rx4, Option.bind_some]
    simp [am]
  by_cases c4 : x = 4
  · subst c4
    simp only [e_210_63, e_210_64, e_210_67, e_210_68, e_210_69, e_210_70, e_210_71, e_210_72, e_210_73, gX0, show (2 : Int32) + 4 - 1 = 5 by decide, rx5, Option.bind_some]
    simp [am]
  by_cases c5 : x = 5
  · subst c5
    simp only [e_210_63, e_210_64, e_210_67, e_210_68, e_210_69, e_210_70, e_210_71, e_210_72, e_210_73, gX0, show (2 : Int32) + 5 - 1 = 6 by decide, rx6, Option.bind_some]
    simp [am]
  by_cases c6 : x = 6
  · subst c6; simp [am]
  by_cases c7 : x = 7
  · subst c7; simp [am]
  by_cases c8 : x = 8
  · subst c8; simp [am]
  by_cases c9 : x = 9
  · subst c9; simp [am]
  simp [h0, c1, c2, c3, c4, c5, c6, c7, c8, c9, am]
theorem Q_why (hs : s ≤ 10) (hT : TR L t a0) (h14 : t ≤ 14) (h12 : D.2.2 12 = nI t) : Dn (d + 2) 194 [.ref 123, .int x] (MX h M K D s a0) nx = am (if 0 ≤ x ∧ x ≤ 2 then on (lat L.2 x t) else -1000000001) h M K D s a0 nx := by
  simp only [n_194, e_194_0, e_194_1, e_194_2, e_194_3, e_194_6, e_194_9, e_194_11, e_194_12, e_194_13, e_194_14, e_194_17n, e_194_17i, e_194_17r, e_194_18, e_194_19, e_194_22, e_194_24, e_194_27, e_194_28, c_min_in, cn_s, pi_if, kX, if_true, c_counts hs h14 h12 hT]
  by_cases h1 : 0 ≤ x ∧ x ≤ 2
  · rw [if_pos h1, if_pos h1]
    cases e : lat L.2 x t with
    | none => rfl
    | some j =>
      have hj := lat_lt e
      rw [show oi (some j) = nI j from rfl, if_pos (nI_pos' (by omega))]
      rfl
  · rw [if_neg h1, if_neg h1]; rfl
theorem lat_key {Mm : Nat → Nat → Int32} : ∀ {n j : Nat}, lat Mm x n = some j → Mm j 2 = x
  | 0, j, h => by cases h
  | n + 1, j, h => by
    unfold lat at h
    by_cases e : Mm n 2 = x
    · rw [if_pos e] at h; cases h; exact e
    · rw [if_neg e] at h; exact lat_key h
theorem ev_z {z' : Int32} : ∀ (P st : List Int32), (∀ c, c ∈ P → okc 2 c) → ev x y z P st = ev x y z' P st
  | [], st, _ => rfl
  | c :: P, st, hP => by
    have hc := hP c (by simp)
    have hP2 : ∀ c, c ∈ P → okc 2 c := fun c h => hP c (by simp [h])
    unfold ev
    by_cases h0 : c < 0
    · rw [if_pos h0, if_pos h0]
      by_cases h33 : c = -33
      · rw [if_pos h33, if_pos h33]
        cases st with
        | nil => rfl
        | cons u r => exact ev_z P _ hP2
      · rw [if_neg h33, if_neg h33]
        match st with
        | [] => rfl
        | [v] => rfl
        | v :: u :: r => exact ev_z P _ hP2
    · rw [if_neg h0, if_neg h0]
      have e : vlu x y z c = vlu x y z' c := by
        rcases hc with rfl | h2 | ⟨m, rfl, hm⟩
        · exact absurd (by decide) h0
        · exact absurd (sg2_neg h2).1 h0
        · unfold vlu
          by_cases h4 : 10000 ≤ m
          · have e5 : nI m - 10000 = nI (m - 10000) := nI_sub (b := 10000) h4
            rw [e5]
            have h3 : m - 10000 < 2 := by omega
            generalize m - 10000 = q at h3
            match q, h3 with
            | 0, _ => rfl
            | 1, _ => rfl
          · have h4' : ¬ (10000 : Int32) ≤ nI m := nI_ge (b := 10000) (by omega) (by omega)
            rw [if_neg h4', if_neg h4']
      rw [e]
      exact ev_z P _ hP2
theorem lw_two (hT : TR L t a0) (hj : j < t) (hk : L.2 j 2 = 1 ∨ L.2 j 2 = 2) : ∀ c, c ∈ lwP L j → okc 2 c := by
  obtain ⟨ky, N, h1, h2, h3, h4, h5, h6, h7⟩ := hT j hj
  intro c hc
  unfold lwP at hc
  rw [h4, cl_nI (by omega)] at hc
  simp only [List.mem_map, List.mem_range] at hc
  obtain ⟨k, hk2, rfl⟩ := hc
  have := (h7 k hk2).2
  have hky : ky ≠ 0 := by
    rintro rfl
    rw [h3] at hk
    rcases hk with e | e
    · exact absurd e (by decide)
    · exact absurd e (by decide)
  rwa [show nms ky = 2 from if_neg hky] at this
theorem Q_fee (hs : s ≤ 10) (hT : TR L t a0) (hL : okL L t) (h12 : D.2.2 12 = nI t) : ∃ K', Dn (d + 3) 177 [.ref 123] (MX h M K D s a0) nx = am (match lat L.2 1 t with | none => D.2.2 8 | some j => (ev (D.2.2 8) (D.2.2 9) 0 (lwP L j) []).getD 0 0) h M K' D s a0 nx := by
  have w0 : ∀ {K : (Nat → Int32) × (Nat → Int32)} {x : Int32}, wI (MX h M K D s a0) 135 0 0 x = some (MX h M (K.1, upd K.2 0 x) D s a0) := fun {K x} => wx135 (k := 0) (by omega)
  have w1 : ∀ {K : (Nat → Int32) × (Nat → Int32)} {x : Int32}, wI (MX h M K D s a0) 135 1 0 x = some (MX h M (K.1, upd K.2 1 x) D s a0) := fun {K x} => wx135 (k := 1) (by omega)
  cases e : lat L.2 1 t with
  | none =>
    refine ⟨(K.1, upd (upd K.2 0 (D.2.2 8)) 1 (D.2.2 9)), ?_⟩
    simp only [n_177, e_177_0, e_177_1, e_177_2, e_177_5n, e_177_5i, e_177_5r, e_177_6, e_177_7, e_177_10, e_177_11, e_177_12, e_177_15, e_177_17, e_177_18, e_177_19, e_177_20, e_177_23, e_177_24, e_177_25, e_177_28, e_177_30, e_177_31, e_177_32, e_177_33, e_177_36, e_177_37, e_177_40, e_177_42, e_177_43, e_177_51, kX, if_true, c_counts hs hL.1 h12 hT, e, cn_s, show oi none = -1 from rfl, gX0, gX23, rx8, rx9, w0, w1, Option.bind_some]
    rw [if_neg (by decide)]; rfl
  | some j =>
    have hj := lat_lt e
    have h14 := hL.1
    obtain ⟨K1, e2⟩ := c_worksOut (d := d) (h := h) (nx := nx) (M := M) (D := D) (K := (K.1, upd (upd K.2 0 (D.2.2 8)) 1 (D.2.2 9))) hs hT hL hj
    have e3 : upd (upd K.2 0 (D.2.2 8)) 1 (D.2.2 9) 0 = D.2.2 8 := rfl
    have e4 : upd (upd K.2 0 (D.2.2 8)) 1 (D.2.2 9) 1 = D.2.2 9 := rfl
    dsimp only at e2
    rw [e3, e4, ev_z (z' := 0) _ _ (lw_two hT hj (Or.inl (lat_key e)))] at e2
    refine ⟨(K1, upd (upd K.2 0 (D.2.2 8)) 1 (D.2.2 9)), ?_⟩
    simp only [n_177, e_177_0, e_177_1, e_177_2, e_177_5n, e_177_5i, e_177_5r, e_177_6, e_177_7, e_177_10, e_177_11, e_177_12, e_177_15, e_177_17, e_177_18, e_177_19, e_177_20, e_177_23, e_177_24, e_177_25, e_177_28, e_177_30, e_177_31, e_177_32, e_177_33, e_177_46, e_177_47, e_177_48, e_177_51, kX, if_true, c_counts hs hL.1 h12 hT, e, cn_s, show oi (some j) = nI j from rfl, gX0, gX23, rx8, rx9, w0, w1, e2, Option.bind_some]
    rw [if_pos (nI_pos' (by omega))]; rfl
theorem Q_fine (hD : dI D s) (hT : TR L t a0) (hL : okL L t) (h12 : D.2.2 12 = nI t) : ∃ K', Dn (d + 3) 178 [.ref 123, .int x] (MX h M K D s a0) nx = if 0 ≤ x ∧ x < nI s then am (match lat L.2 2 t with | none => D.2.1 x.toNatClampNeg 4 | some j => (ev (D.2.1 x.toNatClampNeg 2) (D.2.1 x.toNatClampNeg 4) 0 (lwP L j) []).getD 0 0) h M K' D s a0 nx else am (-1000000001) h M K D s a0 nx := by
  have hs := hD.2.1
  have w0 : ∀ {K : (Nat → Int32) × (Nat → Int32)} {x : Int32}, wI (MX h M K D s a0) 135 0 0 x = some (MX h M (K.1, upd K.2 0 x) D s a0) := fun {K x} => wx135 (k := 0) (by omega)
  have w1 : ∀ {K : (Nat → Int32) × (Nat → Int32)} {x : Int32}, wI (MX h M K D s a0) 135 1 0 x = some (MX h M (K.1, upd K.2 1 x) D s a0) := fun {K x} => wx135 (k := 1) (by omega)
  by_cases h1 : 0 ≤ x ∧ x < nI s
  · obtain ⟨i, hi, rfl⟩ := idx h1 (by omega)
    rw [cl_nI (by omega)]
    cases e : lat L.2 2 t with
    | none =>
      refine ⟨(K.1, upd (upd K.2 0 (D.2.1 i 2)) 1 (D.2.1 i 4)), ?_⟩
      rw [if_pos h1]
      simp only [n_178, e_178_0, e_178_1, e_178_2, e_178_5, e_178_8, e_178_10, e_178_11, e_178_12, e_178_13, e_178_16n, e_178_16i, e_178_16r, e_178_17, e_178_18, e_178_21, e_178_22, e_178_23, e_178_24, e_178_25, e_178_28, e_178_29, e_178_30, e_178_33, e_178_34, e_178_35, e_178_36, e_178_37, e_178_40, e_178_41, e_178_42, e_178_45, e_178_46, e_178_47, e_178_48, e_178_51, e_178_59, kX, if_true, c_isWalker hD.1 hs, pi_if, c_counts hs hL.1 h12 hT, e, cn_s, show oi none = -1 from rfl, gX23, c_of2 hi hs, c_of4 hi hs, w0, w1, Option.bind_some]
      rw [if_pos h1, if_neg (by decide)]; rfl
    | some j =>
      have hj := lat_lt e
      have h14 := hL.1
      obtain ⟨K1, e2⟩ := c_worksOut (d := d) (h := h) (nx := nx) (M := M) (D := D) (K := (K.1, upd (upd K.2 0 (D.2.1 i 2)) 1 (D.2.1 i 4))) hs hT hL hj
      have e3 : upd (upd K.2 0 (D.2.1 i 2)) 1 (D.2.1 i 4) 0 = D.2.1 i 2 := rfl
      have e4 : upd (upd K.2 0 (D.2.1 i 2)) 1 (D.2.1 i 4) 1 = D.2.1 i 4 := rfl
      dsimp only at e2
      rw [e3, e4, ev_z (z' := 0) _ _ (lw_two hT hj (Or.inr (lat_key e)))] at e2
      refine ⟨(K1, upd (upd K.2 0 (D.2.1 i 2)) 1 (D.2.1 i 4)), ?_⟩
      rw [if_pos h1]
      simp only [n_178, e_178_0, e_178_1, e_178_2, e_178_5, e_178_8, e_178_10, e_178_11, e_178_12, e_178_13, e_178_16n, e_178_16i, e_178_16r, e_178_17, e_178_18, e_178_21, e_178_22, e_178_23, e_178_24, e_178_25, e_178_28, e_178_29, e_178_30, e_178_33, e_178_34, e_178_35, e_178_36, e_178_37, e_178_40, e_178_41, e_178_42, e_178_54, e_178_55, e_178_56, e_178_59, kX, if_true, c_isWalker hD.1 hs, pi_if, c_counts hs hL.1 h12 hT, e, cn_s, show oi (some j) = nI j from rfl, gX23, c_of2 hi hs, c_of4 hi hs, w0, w1, e2, Option.bind_some]
      rw [if_pos h1, if_pos (nI_pos' (by omega))]; rfl
  · refine ⟨K, ?_⟩
    rw [if_neg h1]
    simp only [n_178, e_178_0, e_178_1, e_178_2, e_178_5, e_178_8, e_178_10, kX, if_true, c_isWalker hD.1 hs, cn_s, pi_if]
    rw [if_neg h1]; rfl
theorem Q_textTold (hs : s ≤ 10) (hT : TR L t a0) (h14 : t ≤ 14) (h12 : D.2.2 12 = nI t) : Dn (d + 2) 193 [.ref 123, .int x, .int y] (MX h M K D s a0) nx = am (if (0 ≤ x ∧ x ≤ nI t - 1) ∧ (0 ≤ y ∧ y ≤ 1) then (if y = 0 then L.2 x.toNatClampNeg 2 else L.2 x.toNatClampNeg 3) else -1000000001) h M K D s a0 nx := by
  by_cases h1 : 0 ≤ x ∧ x ≤ nI t - 1
  · obtain ⟨j, hj, rfl⟩ := idxp h1 (by omega)
    rw [cl_nI (by omega)]
    obtain ⟨ky, N, g1, g2, g3, g4, g5, g6, _⟩ := hT j hj
    have e2 : nI (1000 * ky + N) / 1000 = nI ky := by
      have := nI_div (a := 1000 * ky + N) (b := 1000) (by omega) (by omega) (by omega)
      rw [show (1000 * ky + N) / 1000 = ky by omega] at this
      exact this
    have e1 : (95 : Int32) + 2 * nI j = nI (95 + 2 * j) := by
      rw [nI_2]; exact nI_add 95 (2 * j)
    have e7 : nI (95 + 2 * j) + 1 = nI (96 + 2 * j) := by rw [nI_1, show 95 + 2 * j + 1 = 96 + 2 * j by omega]
    simp only [n_193, e_193_0, e_193_1, e_193_2, e_193_3, e_193_6, e_193_8, e_193_9, e_193_10, e_193_11, e_193_14, e_193_17, e_193_18, e_193_19, e_193_20, e_193_23, e_193_26, e_193_28, e_193_29, e_193_30, e_193_33, e_193_34, e_193_37, e_193_39, e_193_40, e_193_41, e_193_42, e_193_43, e_193_44, e_193_47, e_193_48, e_193_51, e_193_52, e_193_55, e_193_57, e_193_58, e_193_59, e_193_60, e_193_61, e_193_62, e_193_63, e_193_64, c_min_in, cn_s, pi_if, gX0, rx10, h12, e1, e7, rX_n (show 95 + 2 * j < 1467 by omega), rX_n (show 96 + 2 * j < 1467 by omega), en_o (show 95 ≤ 95 + 2 * j by omega) hs, en_o (show 95 ≤ 96 + 2 * j by omega) hs, g5, g6, show ¬ (1000 : Int32) = 0 by decide, if_false, e2, Option.bind_some]
    rw [g3]
    by_cases h2 : 0 ≤ y ∧ y ≤ 1
    · by_cases h3 : y = 0
      · subst h3; simp [h1, am]
      · simp [h1, h2, h3, am]
    · simp [h1, h2, am]
  · rw [if_neg (fun q => h1 q.1)]
    simp only [n_193, e_193_0, e_193_1, e_193_2, e_193_3, e_193_6, e_193_8, e_193_9, e_193_10, e_193_11, e_193_14, e_193_17, e_193_18, e_193_19, e_193_20, e_193_23, e_193_26, e_193_28, c_min_in, cn_s, pi_if, gX0, rx10, h12, Option.bind_some]
    rw [if_neg h1]; rfl
end MD
