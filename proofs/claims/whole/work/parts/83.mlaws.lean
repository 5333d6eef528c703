/-! the model: texts worked out, thirst -/
/-- the class's steps as the model has them -/
def trc (c : Int32) : Int32 := if c = -33 then -10 else if c = -124 then -1 else if c = -38 then -2 else if c = -60 then -3 else if c = -61 then -4 else if c = -62 then -5 else if c = -43 then -6 else if c = -45 then -7 else if c = -42 then -8 else if c = -47 then -9 else c
abbrev sg2 (c : Int32) : Prop := c = -124 ∨ c = -38 ∨ c = -60 ∨ c = -61 ∨ c = -62 ∨ c = -43 ∨ c = -45 ∨ c = -42 ∨ c = -47
def okc (nn : Nat) (c : Int32) : Prop := c = -33 ∨ sg2 c ∨ ∃ m, c = nI m ∧ m < 10000 + nn
def nms (ky : Nat) : Nat := if ky = 0 then 3 else 2
def TR (L : LT) (t : Nat) (a0 : Nat → Int32) : Prop := ∀ j, j < t → ∃ ky N, ky < 3 ∧ N ≤ 96 ∧ L.2 j 2 = nI ky ∧ L.2 j 1 = nI N ∧ a0 (95 + 2 * j) = nI (1000 * ky + N) ∧ a0 (96 + 2 * j) = L.2 j 3 ∧ ∀ k, k < N → a0 (123 + 96 * j + k) = trc (L.1 j k) ∧ okc (nms ky) (L.1 j k)
section ML
variable {d : Nat} {h : AH} {nx : AN} {M : MS} {D : DT} {s H i j c a k n g t : Nat} {x y z u : Int32} {a0 f w F K1 : Nat → Int32} {K : (Nat → Int32) × (Nat → Int32)} {l1 l2 l3 l4 l5 : Value} {L : LT}
theorem sg2_neg (hc : sg2 u) : u < 0 ∧ ¬ u = -33 ∧ trc u < 0 ∧ ¬ trc u = -10 := by
  rcases hc with rfl | rfl | rfl | rfl | rfl | rfl | rfl | rfl | rfl <;> decide
theorem trc_nI {m : Nat} (hm : m < 10003) : trc (nI m) = nI m ∧ ¬ nI m < 0 := by
  have h0 : ¬ nI m < 0 := nI_pos (by omega)
  refine ⟨?_, h0⟩
  unfold trc
  have hne : ∀ v : Int32, v < 0 → ¬ nI m = v := fun v hv e => h0 (e ▸ hv)
  rw [if_neg (hne _ (by decide)), if_neg (hne _ (by decide)), if_neg (hne _ (by decide)), if_neg (hne _ (by decide)), if_neg (hne _ (by decide)), if_neg (hne _ (by decide)), if_neg (hne _ (by decide)), if_neg (hne _ (by decide)), if_neg (hne _ (by decide)), if_neg (hne _ (by decide))]
theorem c_two (hc : sg2 u) : Dn (d + 1) 132 [.int (trc u), .int x, .int y] h nx = some (some (.int (jnd (-u) x y)), h, nx) := by
  simp only [n_132, e_132_0, e_132_1, e_132_48, e_132_49, e_132_52, e_132_53, e_132_56, e_132_57, e_132_60, e_132_61, e_132_62, e_132_63, e_132_66, e_132_67, e_132_70, e_132_71, e_132_74, e_132_75, e_132_76, e_132_77, e_132_78, e_132_81, e_132_82, e_132_85, e_132_86, e_132_87, e_132_88, e_132_89, e_132_92, e_132_93, e_132_96, e_132_97, e_132_98, e_132_99, e_132_100, e_132_103, e_132_104, e_132_107, e_132_108, e_132_109, e_132_110, e_132_111, e_132_112, e_132_113, e_132_114, e_132_115, e_132_116, e_132_117, e_132_118, e_132_119, e_132_120, e_132_121, e_132_122, e_132_125, e_132_126, e_132_129, e_132_130, e_132_131, e_132_132]
  rcases hc with rfl | rfl | rfl | rfl | rfl | rfl | rfl | rfl | rfl
  · simp only [show trc (-124) = -1 by decide, show -(-124 : Int32) = 124 by decide, jnd]
    by_cases hx : x = 0 <;> by_cases hy : y = 0 <;> simp [pi, hx, hy]
  · simp only [show trc (-38) = -2 by decide, show -(-38 : Int32) = 38 by decide, jnd]
    by_cases hx : x = 0 <;> by_cases hy : y = 0 <;> simp [pi, hx, hy]
  · simp only [show trc (-60) = -3 by decide, show -(-60 : Int32) = 60 by decide, jnd]
    by_cases q : x < y
    · have q2 : ¬ y ≤ x := by rw [i_nle]; exact q
      simp [pi, q, q2]
    · have q2 : y ≤ x := by rw [← i_nlt]; exact q
      simp [pi, q, q2]
  · simp only [show trc (-61) = -4 by decide, show -(-61 : Int32) = 61 by decide, jnd]
    by_cases q : x = y <;> simp [pi, q]
  · simp only [show trc (-62) = -5 by decide, show -(-62 : Int32) = 62 by decide, jnd]
    by_cases q : y < x
    · have q2 : ¬ x ≤ y := by rw [i_nle]; exact q
      simp [pi, q, q2]
    · have q2 : x ≤ y := by rw [← i_nlt]; exact q
      simp [pi, q, q2]
  · simp only [show trc (-43) = -6 by decide, show -(-43 : Int32) = 43 by decide, jnd]
    simp
  · simp only [show trc (-45) = -7 by decide, show -(-45 : Int32) = 45 by decide, jnd]
    simp
  · simp only [show trc (-42) = -8 by decide, show -(-42 : Int32) = 42 by decide, jnd]
    simp
  · simp only [show trc (-47) = -9 by decide, show -(-47 : Int32) = 47 by decide, jnd]
    by_cases hy : y = 0 <;> simp [hy]
theorem rx134 (hk : k < 96) : rX (MX h M K D s a0) 134 (nI k) = some (K.1 k) := rM (h := h) (a := 134) (by omega) rfl (by show k < 96; exact hk) (by decide)
theorem rx135 (hk : k < 4) : rX (MX h M K D s a0) 135 (nI k) = some (K.2 k) := rM (h := h) (a := 135) (by omega) rfl (by show k < 4; exact hk) (by decide)
theorem wx134 (hk : k < 96) : wI (MX h M K D s a0) 134 (nI k) 0 x = some (MX h M (upd K.1 k x, K.2) D s a0) := by
  unfold MX
  rw [wM (a := 134) (by omega) rfl (show k < 96 from hk) (by decide)]
  refine congrArg (fun q => some (MH h q)) ?_
  unfold sA
  congr 1
  funext b
  unfold updW
  by_cases e3 : b = 134
  · subst e3; rfl
  · rw [if_neg e3]
    dsimp only
    rw [if_neg e3, if_neg e3]
theorem wx135 (hk : k < 4) : wI (MX h M K D s a0) 135 (nI k) 0 x = some (MX h M (K.1, upd K.2 k x) D s a0) := by
  unfold MX
  rw [wM (a := 135) (by omega) rfl (show k < 4 from hk) (by decide)]
  refine congrArg (fun q => some (MH h q)) ?_
  unfold sA
  congr 1
  funext b
  unfold updW
  by_cases e3 : b = 135
  · subst e3; rfl
  · rw [if_neg e3]
    dsimp only
    rw [if_neg e3, if_neg e3]
theorem counts_loop (hs : s ≤ 10) (ht : t ≤ 14) (hT : TR L t a0) : ∀ (n : Nat), n ≤ t → Df d 130 10 [.ref 123, .int x, .int (nI n - 1)] [] (MX h M K D s a0) nx = some (some (.int (oi (lat L.2 x n))), MX h M K D s a0, nx) := by
  intro n
  induction n with
  | zero =>
    intro _
    rw [e_130_10]
    simp only [e_130_11, e_130_14, e_130_15, e_130_18, e_130_20, e_130_21, e_130_22, e_130_23, e_130_24, e_130_25, e_130_28, e_130_29, e_130_30, e_130_33, e_130_34, e_130_35, e_130_38, e_130_41, e_130_42]
    rw [if_pos (by decide)]
    rfl
  | succ n ih =>
    intro hn
    obtain ⟨ky, N, h1, h2, h3, h4, h5, _⟩ := hT n (by omega)
    have e1 : (95 : Int32) + 2 * nI n = nI (95 + 2 * n) := by
      rw [nI_2]; exact nI_add 95 (2 * n)
    have e2 : nI (1000 * ky + N) / 1000 = nI ky := by
      have := nI_div (a := 1000 * ky + N) (b := 1000) (by omega) (by omega) (by omega)
      rw [show (1000 * ky + N) / 1000 = ky by omega] at this
      exact this
    rw [nI_pred, e_130_10]
    simp only [e_130_11, e_130_14, e_130_15, e_130_18, e_130_20, e_130_21, e_130_22, e_130_23, e_130_24, e_130_25, e_130_28, e_130_29, e_130_30, e_130_33, e_130_34, e_130_35, e_130_38, gX0, e1, rX_n (show 95 + 2 * n < 1467 by omega), en_o (show 95 ≤ 95 + 2 * n by omega) hs, h5, show ¬ (1000 : Int32) = 0 by decide, if_false, e2, Option.bind_some]
    rw [if_neg (nI_pos (by omega))]
    unfold lat
    rw [h3]
    by_cases hx : nI ky = x
    · rw [if_pos hx, if_pos hx]; rfl
    · rw [if_neg hx, if_neg hx]
      have e : nI n + -1 = nI n - 1 := by rw [Int32.sub_eq_add_neg]
      rw [e]
      exact ih (by omega)
theorem c_counts (hs : s ≤ 10) (ht : t ≤ 14) (h12 : D.2.2 12 = nI t) (hT : TR L t a0) : Dn (d + 1) 130 [.ref 123, .int x] (MX h M K D s a0) nx = some (some (.int (oi (lat L.2 x t))), MX h M K D s a0, nx) := by
  simp only [n_130, e_130_0, e_130_1, e_130_4, e_130_6, e_130_7, e_130_8, e_130_9n, e_130_9i, e_130_9r, gX0, rx10, h12, Option.bind_some]
  exact counts_loop hs ht hT t (Nat.le_refl _)
theorem works_loop {N nn : Nat} (hs : s ≤ 10) (hj : j < 14) (hN : N ≤ 96) (hnn : nn ≤ 3) (hA : ∀ k, k < N → a0 (123 + 96 * j + k) = trc (L.1 j k) ∧ okc nn (L.1 j k)) (cs : List Int32) : ∀ (k : Nat) (st : List Int32) (K1 : Nat → Int32) (l5 : Value), nr l5 = true → k + cs.length = N → (∀ m, m < cs.length → L.1 j (k + m) = cs.getD m 0) → st.length ≤ k → wfC cs st.length → SR K1 st → ∃ K', Df (d + 1) 131 21 [.ref 123, .int (nI j), .int (nI st.length), .int (nI N), .int (nI k), l5] [] (MX h M (K1, F) D s a0) nx = some (some (.int ((ev (F 0) (F 1) (F 2) cs st).getD 0 0)), MX h M (K', F) D s a0, nx) := by
  induction cs with
  | nil =>
    intro k st K1 l5 h5 hk hP hst hw hS
    have hk : k = N := by simpa using hk
    subst hk
    have hw : st.length = 1 := hw
    refine ⟨K1, ?_⟩
    rw [e_131_21]
    simp only [e_131_23, e_131_24, e_131_155, e_131_156, e_131_159, e_131_160, e_131_161, gX22]
    rw [if_pos (nI_le (Nat.le_refl _) (by omega))]
    have e : rX (MX h M (K1, F) D s a0) 134 0 = some (K1 0) := rx134 (k := 0) (by omega)
    simp only [e_131_155, e_131_156, e_131_159, e_131_160, e_131_161, gX22, e, Option.bind_some, ev]
    have h0 := hS 0 (by omega)
    rw [hw] at h0
    rw [h0]
  | cons c cs ih =>
    intro k st K1 l5 h5 hk hP hst hw hS
    have hk : k + (cs.length + 1) = N := hk
    have hc : L.1 j k = c := by have := hP 0 (by simp); simpa using this
    have hP2 : ∀ m, m < cs.length → L.1 j (k + 1 + m) = cs.getD m 0 := by
      intro m hm
      have := hP (m + 1) (by simp; omega)
      rw [show k + 1 + m = k + (m + 1) by omega, this]
      simp
    have hs96 : st.length < 96 := by omega
    obtain ⟨hA1, hA2⟩ := hA k (by omega)
    rw [hc] at hA1 hA2
    have e1 : (123 : Int32) + 96 * nI j + nI k = nI (123 + 96 * j + k) := by
      rw [show (96 : Int32) * nI j = nI (96 * j) from (Int32.ofNat_mul 96 j).symm, show (123 : Int32) + nI (96 * j) = nI (123 + 96 * j) from nI_add 123 _, nI_add]
    rw [e_131_21]
    simp only [e_131_23, e_131_24, e_131_27, e_131_28, e_131_31, e_131_33, e_131_35, e_131_36, e_131_37, e_131_38, e_131_40, e_131_41, gX0, e1, rX_n (show 123 + 96 * j + k < 1467 by omega), en_o (show 95 ≤ 123 + 96 * j + k by omega) hs, hA1, Option.bind_some]
    rw [if_neg (nI_ge (by omega) (by omega)), e_131_42 h5]
    rcases hA2 with rfl | h2 | ⟨m, rfl, hm⟩
    · simp only [wfC, show (-33 : Int32) < 0 by decide, if_true] at hw
      cases st with
      | nil => simp at hw
      | cons u r =>
        have e1 : nI (u :: r).length - 1 = nI r.length := nI_pred r.length
        have hr96 : r.length < 96 := by simp at hs96; omega
        simp only [show trc (-33) = -10 by decide, e_131_44, e_131_46, e_131_85, e_131_87, e_131_89, e_131_92, e_131_93, e_131_96, e_131_97, e_131_98, e_131_99, e_131_100, e_131_103, e_131_104, e_131_105, e_131_106, e_131_107, e_131_110, e_131_111, e_131_114, e_131_115, e_131_116, e_131_149, e_131_152, gX22, e1, rx134 hr96, wx134 hr96, SR_top hS, Option.bind_some, nI_1]
        rw [if_pos (show (-10 : Int32) < 0 by decide), if_pos trivial]
        have key : ∀ v : Int32, SR (upd K1 r.length v) (v :: r) := fun v => SR_push (SR_pop hS)
        simp only [ev, show (-33 : Int32) < 0 by decide, if_true]
        by_cases hu : u = 0
        · rw [if_pos hu, if_pos hu]
          exact ih (k + 1) (1 :: r) _ _ (nr_i _) (by omega) hP2 (by simp at hst ⊢; omega) hw.2 (key 1)
        · rw [if_neg hu, if_neg hu]
          exact ih (k + 1) (0 :: r) _ _ (nr_i _) (by omega) hP2 (by simp at hst ⊢; omega) hw.2 (key 0)
    · have g := sg2_neg h2
      simp only [wfC, g.1, g.2.1, if_true, if_false] at hw
      match st, hw, hst, hS, hs96 with
      | [], hw, _, _, _ => simp at hw
      | [v], hw, _, _, _ => simp at hw
      | v :: u :: r, hw, hst, hS, hs96 =>
        have hr96 : r.length + 1 < 96 := by simp at hs96; omega
        have e1 : nI (v :: u :: r).length + -1 = nI (r.length + 1) := pk_m1 (r.length + 1)
        have e2 : nI (r.length + 1) - 1 = nI r.length := nI_pred r.length
        have t1 : K1 (r.length + 1) = v := SR_top hS
        have t2 : K1 r.length = u := SR_top (SR_pop hS)
        simp only [e_131_44, e_131_46, e_131_85, e_131_87, e_131_89, e_131_119, e_131_122, e_131_123, e_131_126, e_131_127, e_131_128, e_131_129, e_131_131, e_131_132, e_131_135, e_131_136, e_131_137, e_131_138, e_131_139, e_131_140, e_131_143, e_131_144, e_131_145, e_131_148, e_131_149, e_131_152, gX22, e1, e2, rx134 hr96, rx134 (show r.length < 96 by omega), wx134 (show r.length < 96 by omega), t1, t2, c_two h2, cn_s, Option.bind_some, nI_1]
        rw [if_pos g.2.2.1, if_neg g.2.2.2]
        simp only [ev, g.1, g.2.1, if_true, if_false]
        exact ih (k + 1) (jnd (-c) u v :: r) _ _ (nr_i _) (by omega) hP2 (by simp at hst ⊢; omega) (by simpa using hw.2) (SR_push (SR_pop (SR_pop hS)))
    · have g := trc_nI (m := m) (by omega)
      simp only [wfC, g.2, if_false] at hw
      rw [g.1]
      simp only [e_131_44, e_131_46, e_131_49, e_131_50, e_131_53, e_131_54, e_131_56, gX22, Option.bind_some]
      rw [if_neg g.2]
      simp only [ev, g.2, if_false]
      have e3 := ih (k + 1) (vlu (F 0) (F 1) (F 2) (nI m) :: st) (upd K1 st.length (vlu (F 0) (F 1) (F 2) (nI m))) (.int (nI m)) (nr_i _) (by omega) hP2 (by simp; omega) hw (SR_push hS)
      simp only [e_131_59]
      by_cases h4 : 10000 ≤ m
      · have h4' : (10000 : Int32) ≤ nI m := nI_le (a := 10000) h4 (by omega)
        have e5 : nI m - 10000 = nI (m - 10000) := nI_sub (b := 10000) h4
        have e6 : K1 = K1 := rfl
        have e7 : vlu (F 0) (F 1) (F 2) (nI m) = F (m - 10000) := by
          unfold vlu
          rw [if_pos h4', e5]
          have h3 : m - 10000 < 3 := by omega
          generalize m - 10000 = q at h3
          match q, h3 with
          | 0, _ => rfl
          | 1, _ => rfl
          | 2, _ => rfl
        rw [e7] at e3
        rw [if_pos h4']
        simp only [e_131_67, e_131_68, e_131_71, e_131_73, e_131_76, e_131_77, e_131_78, e_131_79, e_131_82, e_131_149, e_131_152, gX23, e5, rx135 (show m - 10000 < 4 by omega), wx134 hs96, Option.bind_some, nI_1, e7]
        exact e3
      · have h4' : ¬ (10000 : Int32) ≤ nI m := nI_ge (b := 10000) (by omega) (by omega)
        have e7 : vlu (F 0) (F 1) (F 2) (nI m) = nI m := by
          unfold vlu
          rw [if_neg h4']
        rw [e7] at e3
        rw [if_neg h4']
        simp only [e_131_62, e_131_64, e_131_78, e_131_79, e_131_82, e_131_149, e_131_152, wx134 hs96, Option.bind_some, nI_1, e7]
        exact e3
theorem c_worksOut (hs : s ≤ 10) (hT : TR L t a0) (hL : okL L t) (hj : j < t) : ∃ K', Dn (d + 2) 131 [.ref 123, .int (nI j)] (MX h M K D s a0) nx = some (some (.int ((ev (K.2 0) (K.2 1) (K.2 2) (lwP L j) []).getD 0 0)), MX h M (K', K.2) D s a0, nx) := by
  obtain ⟨ky, N, h1, h2, h3, h4, h5, h6, h7⟩ := hT j hj
  obtain ⟨N', g1, g2, g3⟩ := hL.2 j hj
  have h14 := hL.1
  have hNe : (L.2 j 1).toNatClampNeg = N := by rw [h4, cl_nI (by omega)]
  have hlen : (lwP L j).length = N := by unfold lwP; simp [hNe]
  have e2 : nI (1000 * ky + N) - nI (1000 * ky + N) / 1000 * 1000 = nI N := by
    have := nI_rem (a := 1000 * ky + N) (b := 1000) (by omega) (by omega) (by omega)
    rw [show (1000 * ky + N) % 1000 = N by omega] at this
    exact this
  have e1 : (95 : Int32) + 2 * nI j = nI (95 + 2 * j) := by
    rw [nI_2]; exact nI_add 95 (2 * j)
  obtain ⟨K', e⟩ := works_loop (d := d) (h := h) (nx := nx) (M := M) (D := D) (F := K.2) hs (show j < 14 by omega) h2 (show nms ky ≤ 3 by unfold nms; split <;> omega) h7 (lwP L j) 0 [] K.1 .null nr_n (by omega) (fun m hm => by rw [Nat.zero_add]; unfold lwP; rw [hNe]; rw [hlen] at hm; simp [hm]) (Nat.zero_le _) g3 (fun m hm => by simp at hm)
  refine ⟨K', ?_⟩
  simp only [n_131, e_131_0, e_131_1n, e_131_1i, e_131_1r, e_131_2, e_131_3, e_131_6, e_131_8, e_131_9, e_131_10, e_131_11, e_131_12, e_131_13, e_131_16, e_131_17n, e_131_17i, e_131_17r, e_131_18, e_131_19n, e_131_19i, e_131_19r, gX0, e1, rX_n (show 95 + 2 * j < 1467 by omega), en_o (show 95 ≤ 95 + 2 * j by omega) hs, h5, show ¬ (1000 : Int32) = 0 by decide, if_false, e2, Option.bind_some]
  exact e
theorem oi_neg (hn : t ≤ 14) : (oi (lat L.2 x t) < 0) ↔ lat L.2 x t = none := by
  cases e : lat L.2 x t with
  | none => exact ⟨fun _ => rfl, fun _ => by decide⟩
  | some j =>
    have hj := lat_lt e
    exact ⟨fun q => absurd q (nI_pos (by omega)), fun q => by cases q⟩
theorem c_mthirsts (hi : i < s) (hD : dJ D s H) (hH : H < 2147483648) (h12 : D.2.2 12 = nI t) (hT : TR L t a0) (hL : okL L t) : ∃ K', Dn (d + 3) 129 [.ref 123, .int (nI i)] (MX h M K D s a0) nx = some (some (.int (thrF L t D.2.2 (D.2.1 i))), MX h M K' D s a0, nx) := by
  have hs := hD.1.2.1
  have w0 : ∀ {K : (Nat → Int32) × (Nat → Int32)} {x : Int32}, wI (MX h M K D s a0) 135 0 0 x = some (MX h M (K.1, upd K.2 0 x) D s a0) := fun {K x} => wx135 (k := 0) (by omega)
  have w1 : ∀ {K : (Nat → Int32) × (Nat → Int32)} {x : Int32}, wI (MX h M K D s a0) 135 1 0 x = some (MX h M (K.1, upd K.2 1 x) D s a0) := fun {K x} => wx135 (k := 1) (by omega)
  have w2 : ∀ {K : (Nat → Int32) × (Nat → Int32)} {x : Int32}, wI (MX h M K D s a0) 135 2 0 x = some (MX h M (K.1, upd K.2 2 x) D s a0) := fun {K x} => wx135 (k := 2) (by omega)
  have c1 := @c_counts
  obtain ⟨m, h4, hm⟩ := hD.2.2.2.1
  obtain ⟨p, ep, hp⟩ := pln_nI (L := L) (n := t) (w := D.2.1 i) h4 hm
  have eg : pln L t D.2.2 (D.2.1 i) + 2 - 1 = pln L t D.2.2 (D.2.1 i) + 1 := by
    rw [ep, show nI p + 2 = nI (p + 2) from nI_add p 2, show nI (p + 2) - 1 = nI (p + 2 - 1) from nI_sub (b := 1) (by omega), show p + 2 - 1 = p + 1 by omega, nI_1]
  have tail : ∀ (K : (Nat → Int32) × (Nat → Int32)) (l2 : Value), Df (d + 2) 129 69 [.ref 123, .int (nI i), l2, .int (pln L t D.2.2 (D.2.1 i))] [] (MX h M K D s a0) nx = some (some (.int (thrF L t D.2.2 (D.2.1 i))), MX h M K D s a0, nx) := by
    intro K l2
    simp only [e_129_69, e_129_70, e_129_71, e_129_72, e_129_75, e_129_108, e_129_109, e_129_110, e_129_111, e_129_112, e_129_113, e_129_114, e_129_115, e_129_116, e_129_117, e_129_118, e_129_119, e_129_120, e_129_121, e_129_122, e_129_123, e_129_124, e_129_127, e_129_128, e_129_129, e_129_130, e_129_131, e_129_132, e_129_133, e_129_134, e_129_135, e_129_136, kX, if_true, c_of0 hi hs, cn_s, gX0, rx2, show ¬ (2 : Int32) = 0 by decide, if_false, Option.bind_some, thrF]
    rw [eg]
    generalize D.2.1 i 0 = q
    by_cases h1 : q = 1
    · simp [h1]
    by_cases h2 : q = 2
    · simp [h2]
    by_cases h3 : q = 3
    · simp [h3]
    by_cases h4 : q = 4
    · simp [h4]
    by_cases h5 : q = 5
    · simp [h5]
    simp [h1, h2, h3, h4, h5]
  cases e : lat L.2 0 t with
  | none =>
    have e1 : pln L t D.2.2 (D.2.1 i) = D.2.2 4 + 1 := by unfold pln; rw [e]
    refine ⟨(K.1, upd (upd (upd K.2 0 (D.2.2 4)) 1 (D.2.1 i 2)) 2 (D.2.1 i 1)), ?_⟩
    rw [← tail _ (.int (-1)), e1]
    simp only [n_129, e_129_0, e_129_1, e_129_2, e_129_5n, e_129_5i, e_129_5r, e_129_6, e_129_7, e_129_10, e_129_11, e_129_12, e_129_15, e_129_16, e_129_17, e_129_18, e_129_19, e_129_22, e_129_23, e_129_24, e_129_25, e_129_26, e_129_29, e_129_30, e_129_31, e_129_34, e_129_35, e_129_36, e_129_37, e_129_38, e_129_41, e_129_42, e_129_43, e_129_46, e_129_47, e_129_50, e_129_51, e_129_52, e_129_53, e_129_54, e_129_68n, e_129_68i, e_129_68r, kX, if_true, c_counts hs hL.1 h12 hT, e, cn_s, show oi none = -1 from rfl, gX0, gX23, rx3, w0, w1, w2, c_of2 hi hs, c_of1 hi hs, Option.bind_some]
    rw [if_neg (by decide)]
  | some j =>
    have hj := lat_lt e
    have h14 := hL.1
    obtain ⟨K1, e2⟩ := c_worksOut (d := d) (h := h) (nx := nx) (M := M) (D := D) (K := (K.1, upd (upd (upd K.2 0 (D.2.2 4)) 1 (D.2.1 i 2)) 2 (D.2.1 i 1))) hs hT hL hj
    have e1 : pln L t D.2.2 (D.2.1 i) = hld ((ev (D.2.2 4) (D.2.1 i 2) (D.2.1 i 1) (lwP L j) []).getD 0 0) 0 40 := by unfold pln; rw [e]
    have e3 : upd (upd (upd K.2 0 (D.2.2 4)) 1 (D.2.1 i 2)) 2 (D.2.1 i 1) 0 = D.2.2 4 := rfl
    have e4 : upd (upd (upd K.2 0 (D.2.2 4)) 1 (D.2.1 i 2)) 2 (D.2.1 i 1) 1 = D.2.1 i 2 := rfl
    have e5 : upd (upd (upd K.2 0 (D.2.2 4)) 1 (D.2.1 i 2)) 2 (D.2.1 i 1) 2 = D.2.1 i 1 := rfl
    dsimp only at e2
    rw [e3, e4, e5] at e2
    refine ⟨(K1, upd (upd (upd K.2 0 (D.2.2 4)) 1 (D.2.1 i 2)) 2 (D.2.1 i 1)), ?_⟩
    rw [← tail _ (.int (nI j)), e1]
    simp only [n_129, e_129_0, e_129_1, e_129_2, e_129_5n, e_129_5i, e_129_5r, e_129_6, e_129_7, e_129_10, e_129_11, e_129_12, e_129_15, e_129_16, e_129_17, e_129_18, e_129_19, e_129_22, e_129_23, e_129_24, e_129_25, e_129_26, e_129_29, e_129_30, e_129_31, e_129_34, e_129_35, e_129_36, e_129_37, e_129_38, e_129_41, e_129_42, e_129_43, e_129_57, e_129_58, e_129_59, e_129_62, e_129_63, e_129_65, e_129_68n, e_129_68i, e_129_68r, kX, if_true, c_counts hs hL.1 h12 hT, e, cn_s, show oi (some j) = nI j from rfl, gX0, gX23, rx3, w0, w1, w2, c_of2 hi hs, c_of1 hi hs, e2, c_mwithin, Option.bind_some]
    rw [if_pos (nI_pos' (by omega))]
end ML
