/-! text, of the model -/
/-- what stands behind the walkers, with one text more -/
def txA (cd : Nat → Int32) (t N k o : Nat) (a0 : Nat → Int32) : Nat → Int32 := cpT cd t N 0 (upd (upd a0 (95 + 2 * t) (nI (1000 * k + N))) (96 + 2 * t) (nI o))
/-- all but the reader is as it was -/
def frT (M M' : MS) : Prop := M'.1 3 = M.1 3 ∧ M'.1 4 = M.1 4 ∧ M'.1 33 = M.1 33 ∧ ∀ a, a ≠ 131 → a ≠ 132 → a ≠ 133 → M'.2 a = M.2 a
section YX
variable {d : Nat} {h : AH} {nx : AN} {M : MS} {K : (Nat → Int32) × (Nat → Int32)} {g cd wt ts B a0 : Nat → Int32} {nt fr N o w n a p k lv f kn s t j : Nat} {tk vl en x y q r ky : Int32} {l1 l2 l3 l4 : Value} {D : DT}
theorem Y_in : ∃ nt fr N o w, MG h M K g = YH h M K g nt fr (M.1 10) (M.1 11) (M.1 12) N o w (M.2 131) (M.2 132) (M.2 133) := by
  obtain ⟨nt, h8⟩ := ex_nI (M.1 8)
  obtain ⟨fr, h9⟩ := ex_nI (M.1 9)
  obtain ⟨N, h17⟩ := ex_nI (M.1 17)
  obtain ⟨o, h18⟩ := ex_nI (M.1 18)
  obtain ⟨w, h20⟩ := ex_nI (M.1 20)
  refine ⟨nt, fr, N, o, w, ?_⟩
  have e1 : yF M.1 nt fr (M.1 10) (M.1 11) (M.1 12) N o w = M.1 := by
    funext k
    unfold yF
    by_cases c : k = 8
    · rw [if_pos c, c, h8]
    rw [if_neg c]
    by_cases c : k = 9
    · rw [if_pos c, c, h9]
    rw [if_neg c]
    by_cases c : k = 10
    · rw [if_pos c, c]
    rw [if_neg c]
    by_cases c : k = 11
    · rw [if_pos c, c]
    rw [if_neg c]
    by_cases c : k = 12
    · rw [if_pos c, c]
    rw [if_neg c]
    by_cases c : k = 17
    · rw [if_pos c, c, h17]
    rw [if_neg c]
    by_cases c : k = 18
    · rw [if_pos c, c, h18]
    rw [if_neg c]
    by_cases c : k = 20
    · rw [if_pos c, c, h20]
    · rw [if_neg c]
  have e2 : yA M.2 (M.2 131) (M.2 132) (M.2 133) = M.2 := by
    funext a
    unfold yA
    by_cases c : a = 131
    · rw [if_pos c, c]
    rw [if_neg c]
    by_cases c : a = 132
    · rw [if_pos c, c]
    rw [if_neg c]
    by_cases c : a = 133
    · rw [if_pos c, c]
    · rw [if_neg c]
  unfold YH
  rw [e1, e2]
theorem up_o (hk : 95 ≤ k) (hs : s ≤ 10) : upd (enc D s a0) k x = enc D s (upd a0 k x) := by
  funext b
  by_cases e : b = k
  · subst e
    rw [en_o hk hs]
    simp [upd]
  · rw [show upd (enc D s a0) k x b = enc D s a0 b from if_neg e]
    by_cases hb : b < 11
    · rw [en_q hb, en_q hb]
    · rw [en_11 (by omega), en_11 (by omega), show upd a0 k x b = a0 b from if_neg e]
theorem cpT_enc (hs : s ≤ 10) : ∀ (f k : Nat) (a0 : Nat → Int32), cpT cd t f k (enc D s a0) = enc D s (cpT cd t f k a0)
  | 0, _, _ => rfl
  | f + 1, k, a0 => by
    show cpT cd t f (k + 1) (upd (enc D s a0) (123 + 96 * t + k) (cd k)) = _
    rw [up_o (by omega) hs, cpT_enc hs f (k + 1)]
    rfl
theorem text_loop (ht : t < 14) (hN : N ≤ 96) (f : Nat) : ∀ (k : Nat) (g : Nat → Int32), k + f = N → Df d 181 117 [.ref 123, .int 1, .int (nI t), .int (nI k)] [] (YH h M K g nt fr tk vl en N o w cd wt ts) nx = Df d 181 151 [.ref 123, .int 1, .int (nI t), .int (nI N)] [] (YH h M K (cpT cd t f k g) nt fr tk vl en N o w cd wt ts) nx := by
  induction f with
  | zero =>
    intro k g hk
    have hk : k = N := by omega
    subst hk
    rw [e_181_117]
    simp only [e_181_118, e_181_119, e_181_122, gY17, Option.bind_some]
    rw [if_pos (Int32.le_refl _)]
    rfl
  | succ f ih =>
    intro k g hk
    rw [e_181_117]
    have e1 : (123 : Int32) + 96 * nI t + nI k = nI (123 + 96 * t + k) := by
      rw [show (96 : Int32) * nI t = nI (96 * t) from (Int32.ofNat_mul 96 t).symm, show (123 : Int32) + nI (96 * t) = nI (123 + 96 * t) from nI_add 123 (96 * t), nI_add]
    simp only [e_181_118, e_181_119, e_181_122, e_181_125, e_181_126, e_181_129, e_181_131, e_181_133, e_181_134, e_181_135, e_181_136, e_181_137, e_181_138, e_181_139, e_181_142, e_181_143, e_181_144, e_181_145, e_181_148, gY0, gY16, gY17, e1, rY131 (show k < 96 by omega), wYn (show 123 + 96 * t + k < 1467 by omega), nI_1, Option.bind_some]
    rw [if_neg (nI_ge (by omega) (by omega)), ih (k + 1) _ (by omega)]
    rfl
theorem Q_text (hK : kyOK M) (hT : tpR M B n) (hs : s ≤ 10) (h12 : D.2.2 12 = nI t) (ht : t ≤ 14) : ∃ M' cd, frT M M' ∧ M'.1 7 = 0 ∧ (∀ k, (txF B n).1 = some k → SR cd ((txF B n).2.2.2.2.1.map trc)) ∧ Dn (d + 5) 181 [.ref 123] (MX h M K D s a0) nx = match (txF B n).1 with
    | none => am (-100 - nI (txF B n).2.1) h M' K D s a0 nx
    | some k => if t = 14 then am (-1000000003) h M' K D s a0 nx else am (nI t) h M' K (dq D 12 (nI (t + 1))) s (txA cd t (txF B n).2.2.2.2.1.length k (txF B n).2.2.2.2.2 a0) nx := by
  obtain ⟨nt0, fr0, N0, o0, w0, eY⟩ := Y_in (h := h) (M := M) (K := K) (g := enc D s a0)
  have eX : MX h M K D s a0 = MG h M K (enc D s a0) := rfl
  rw [eX, eY]
  have hn := hT.1
  obtain ⟨tk, vl, en, t1, t2, e1⟩ := c_go (d := d + 2) (h := h) (nx := nx) (K := K) (g := enc D s a0) (fr := fr0) (tk := M.1 10) (vl := M.1 11) (en := -1) (N := N0) (o := o0) (w := w0) (cd := M.2 131) (wt := M.2 132) (ts := M.2 133) (a := 0) (q := 260) hT (by omega) ⟨fun q => absurd q (by decide), fun _ k _ hk q => by
    have : ¬ nI k < 0 := nI_pos (by omega)
    rw [q] at this
    exact this (by decide)⟩
  have w0' := wf_260 (B := B) (n := n)
  have tk1 := c_takesKey (d := d + 1) (h := h) (nx := nx) (K := K) (g := enc D s a0) (N := N0) (o := o0) (w := w0) (cd := M.2 131) (wt := M.2 132) (ts := M.2 133) (P := tx0 B n) hK hT w0' t1 t2
  have pre : ∀ R, Dn (d + 4) 185 [.ref 123] (YH h M K (enc D s a0) (tx0 B n).2.1 (tx0 B n).1 tk vl en N0 o0 w0 (M.2 131) (M.2 132) (M.2 133)) nx = R → Dn (d + 5) 181 [.ref 123] (YH h M K (enc D s a0) nt0 fr0 (M.1 10) (M.1 11) (M.1 12) N0 o0 w0 (M.2 131) (M.2 132) (M.2 133)) nx = cn (d + 4) 181 18 [.ref 123, .null, .null, .null] [] R := by
    intro R hR
    have z8 := qY8 (h := h) (M := M) (K := K) (g := enc D s a0) (nt := nt0) (fr := fr0) (tk := M.1 10) (vl := M.1 11) (en := M.1 12) (N := N0) (o := o0) (w := w0) (cd := M.2 131) (wt := M.2 132) (ts := M.2 133) (k := 0)
    rw [show nI 0 = 0 from rfl] at z8
    rw [← hR]
    simp only [n_181, e_181_0, e_181_1, e_181_2, e_181_5, e_181_6, e_181_7, e_181_10, e_181_11, e_181_14, e_181_15, z8, qY12, kY, if_true, e1, cn_v, Option.bind_some]
    rfl
  have bad : ∀ (M1 : MS) (nt : Nat) (tk vl en : Int32) (N o w : Nat) (cd wt ts : Nat → Int32) (p : Nat), frT M M1 → ∃ M', frT M M' ∧ M'.1 7 = 0 ∧ Df (d + 4) 181 32 [.ref 123, .null, .null, .null] [] (YH h M1 K (enc D s a0) nt p tk vl en N o w cd wt ts) nx = am (-100 - nI p) h M' K D s a0 nx := by
    intro M1 nt tk vl en N o w cd wt ts p hf
    refine ⟨(yF (sF M1 7 0).1 nt p tk vl en N o w, yA (sF M1 7 0).2 cd wt ts), ⟨hf.1, hf.2.1, hf.2.2.1, fun a h1 h2 h3 => ?_⟩, rfl, ?_⟩
    · show yA M1.2 cd wt ts a = _
      unfold yA
      rw [if_neg h1, if_neg h2, if_neg h3]
      exact hf.2.2.2 a h1 h2 h3
    · simp only [e_181_32, e_181_33n, e_181_33i, e_181_33r, e_181_34, e_181_35, e_181_36, e_181_39, e_181_40, e_181_43, e_181_45, e_181_46, e_181_49, e_181_50, qY7, gY9, if_true, Option.bind_some]
      rfl
  have frM : frT M M := ⟨rfl, rfl, rfl, fun _ _ _ _ => rfl⟩
  unfold txF
  by_cases h1 : (tx0 B n).2.2.1 = 256
  · rw [if_pos h1] at tk1 ⊢
    cases hk : rky B (tx0 B n).1 (tx0 B n).2.1 with
    | none =>
      rw [hk] at tk1
      obtain ⟨M', f1, f2, e⟩ := bad M (tx0 B n).2.1 tk vl en N0 o0 w0 (M.2 131) (M.2 132) (M.2 133) (tx0 B n).1 frM
      refine ⟨M', M.2 131, f1, f2, (fun k q => by cases q), ?_⟩
      rw [pre _ tk1]
      simp only [e_181_18, cn_s, if_true]
      exact e
    | some k =>
      rw [hk] at tk1
      obtain ⟨tk', vl', en', t3, t4, e2⟩ := tk1
      have hk3 := rky_lt hk
      have w1 := stS_wf (B := B) w0'
      have te := c_takesE (d := d) (h := h) (nx := nx) (M := sF M 13 (nI k)) (K := K) (g := enc D s a0) (N := N0) (o := o0) (w := w0) (cd := M.2 131) (wt := M.2 132) (ts := M.2 133) (kn := k) (P := stS B n (tx0 B n)) (tp_13 hT) rfl hk3 w1.1 (stS_dg hT.2.2.2) rfl t3 t4
      have m1 := pL_mo (B := B) (ky := nI k) 62 0 0 0 _ w1.1
      dsimp only
      generalize hrr : pL B n (nI k) 62 0 0 0 (stS B n (tx0 B n)) = rr at *
      have fr13 : frT M (sF M 13 (nI k)) := ⟨rfl, rfl, rfl, fun _ _ _ _ => rfl⟩
      by_cases c : rr.1 = true ∧ rr.2.2.2.1 = 258
      · rw [if_pos c] at te ⊢
        obtain ⟨tk2, vl2, en2, w2, cd2, wt2, ts2, s2, e3⟩ := te
        have hN : rr.2.2.2.2.1.length ≤ 96 := by
          have := m1.2.2
          have h4 : (stS B n (tx0 B n)).2.2.2.1.length = 0 := rfl
          have h6 := m1.1.1
          omega
        let M2 : MS := sF (sF M 13 (nI k)) 7 0
        refine ⟨(yF M2.1 rr.2.2.1 rr.2.1 tk2 vl2 en2 rr.2.2.2.2.1.length rr.2.2.2.2.2 w2, yA M2.2 cd2 wt2 ts2), cd2, ⟨rfl, rfl, rfl, fun a h1 h2 h3 => ?_⟩, rfl, fun _ _ => s2, ?_⟩
        · show yA M.2 cd2 wt2 ts2 a = _
          unfold yA
          rw [if_neg h1, if_neg h2, if_neg h3]
        rw [pre _ e2]
        have r10 : ∀ {M : MS} {nt fr N o w : Nat} {tk vl en : Int32} {cd wt ts : Nat → Int32}, rX (YH h M K (enc D s a0) nt fr tk vl en N o w cd wt ts) 124 10 = some (nI t) := fun {M nt fr N o w tk vl en cd wt ts} => by
          have := rYn (h := h) (M := M) (K := K) (g := enc D s a0) (nt := nt) (fr := fr) (tk := tk) (vl := vl) (en := en) (N := N) (o := o) (w := w) (cd := cd) (wt := wt) (ts := ts) (k := 10) (by omega)
          rw [show nI 10 = 10 from rfl] at this
          rw [this, ← h12]
          rfl
        simp only [e_181_18, e_181_21, e_181_22, e_181_25, e_181_28, e_181_29, e_181_33n, e_181_33i, e_181_33r, e_181_34, e_181_35, e_181_36, e_181_39, e_181_40, e_181_43, e_181_45, e_181_46, e_181_49, e_181_50, e_181_51, e_181_52, e_181_55, e_181_57, e_181_58, e_181_60, cn_s, show ¬ (1 : Int32) = 0 by decide, if_false, kY, if_true, e3, qY7, gY0, r10, Option.bind_some]
        by_cases h14 : t = 14
        · subst h14
          rw [if_pos rfl, if_pos (by decide)]
          simp only [e_181_63, e_181_65]
          rfl
        · rw [if_neg h14, if_neg (show ¬ nI t = 14 from fun q => h14 ((nI_eq (b := 14) (by omega) (by omega)).mp q))]
          have i1 : (95 : Int32) + 2 * nI t = nI (95 + 2 * t) := by
            rw [show (2 : Int32) * nI t = nI (2 * t) from (Int32.ofNat_mul 2 t).symm, show (95 : Int32) + nI (2 * t) = nI (95 + 2 * t) from nI_add 95 (2 * t)]
          have i2 : (1000 : Int32) * nI k + nI rr.2.2.2.2.1.length = nI (1000 * k + rr.2.2.2.2.1.length) := by
            rw [show (1000 : Int32) * nI k = nI (1000 * k) from (Int32.ofNat_mul 1000 k).symm, nI_add]
          have k13 : ∀ x : Int32, (sF (sF M 13 (nI k)) 7 x).1 13 = nI k := fun _ => rfl
          have tl := text_loop (d := d + 4) (h := h) (nx := nx) (M := M2) (K := K) (nt := rr.2.2.1) (fr := rr.2.1) (tk := tk2) (vl := vl2) (en := en2) (N := rr.2.2.2.2.1.length) (o := rr.2.2.2.2.2) (w := w2) (cd := cd2) (wt := wt2) (ts := ts2) (t := t) (by omega) hN rr.2.2.2.2.1.length 0 (upd (upd (enc D s a0) (95 + 2 * t) (nI (1000 * k + rr.2.2.2.2.1.length))) (96 + 2 * t) (nI rr.2.2.2.2.2)) (by omega)
          rw [up_o (by omega) hs, up_o (by omega) hs, cpT_enc hs, show nI 0 = 0 from rfl] at tl
          simp only [e_181_66, e_181_67, e_181_70, e_181_72, e_181_73n, e_181_73i, e_181_73r, e_181_74, e_181_75, e_181_78, e_181_80, e_181_81, e_181_82, e_181_83, e_181_84, e_181_87, e_181_88, e_181_91, e_181_92, e_181_93, e_181_96, e_181_97, e_181_98, e_181_99, e_181_102, e_181_104, e_181_105, e_181_106, e_181_107, e_181_108, e_181_109, e_181_110, e_181_111, e_181_114, e_181_115, e_181_116n, e_181_116i, e_181_116r, gY0, gY13, gY17, gY18, r10, i1, i2, k13, nI_1, wYn (show 95 + 2 * t < 1467 by omega), wYn (show 95 + 2 * t + 1 < 1467 by omega), Option.bind_some]
          rw [show 95 + 2 * t + 1 = 96 + 2 * t by omega, up_o (by omega) hs, up_o (by omega) hs, tl]
          have r10' : ∀ {a1 : Nat → Int32}, rX (YH h M2 K (enc D s a1) rr.2.2.1 rr.2.1 tk2 vl2 en2 rr.2.2.2.2.1.length rr.2.2.2.2.2 w2 cd2 wt2 ts2) 124 10 = some (nI t) := fun {a1} => by
            have := rYn (h := h) (M := M2) (K := K) (g := enc D s a1) (nt := rr.2.2.1) (fr := rr.2.1) (tk := tk2) (vl := vl2) (en := en2) (N := rr.2.2.2.2.1.length) (o := rr.2.2.2.2.2) (w := w2) (cd := cd2) (wt := wt2) (ts := ts2) (k := 10) (by omega)
            rw [show nI 10 = 10 from rfl] at this
            rw [this, ← h12]
            rfl
          have w10 : ∀ {a1 : Nat → Int32}, wI (YH h M2 K (enc D s a1) rr.2.2.1 rr.2.1 tk2 vl2 en2 rr.2.2.2.2.1.length rr.2.2.2.2.2 w2 cd2 wt2 ts2) 124 10 0 (nI (t + 1)) = some (YH h M2 K (enc (dq D 12 (nI (t + 1))) s a1) rr.2.2.1 rr.2.1 tk2 vl2 en2 rr.2.2.2.2.1.length rr.2.2.2.2.2 w2 cd2 wt2 ts2) := fun {a1} => by
            have := wYn (h := h) (M := M2) (K := K) (g := enc D s a1) (nt := rr.2.2.1) (fr := rr.2.1) (tk := tk2) (vl := vl2) (en := en2) (N := rr.2.2.2.2.1.length) (o := rr.2.2.2.2.2) (w := w2) (cd := cd2) (wt := wt2) (ts := ts2) (k := 10) (x := nI (t + 1)) (by omega)
            rw [up_q (by omega)] at this
            exact this
          simp only [e_181_151, e_181_152, e_181_155, e_181_157i, e_181_158, e_181_159, e_181_160, e_181_161, e_181_162, e_181_163, gY0, r10', nI_1, w10, Option.bind_some]
          rfl
      · rw [if_neg c] at te ⊢
        obtain ⟨nt, tk2, vl2, en2, N, o, w, cd2, wt2, ts2, e3⟩ := te
        obtain ⟨M', f1, f2, e⟩ := bad (sF M 13 (nI k)) nt tk2 vl2 en2 N o w cd2 wt2 ts2 rr.2.1 fr13
        refine ⟨M', M.2 131, f1, f2, (fun k q => by cases q), ?_⟩
        rw [pre _ e2]
        simp only [e_181_18, e_181_21, e_181_22, e_181_25, cn_s, show ¬ (1 : Int32) = 0 by decide, if_false, kY, if_true, e3]
        exact e
  · rw [if_neg h1] at tk1 ⊢
    obtain ⟨M', f1, f2, e⟩ := bad M (tx0 B n).2.1 tk vl en N0 o0 w0 (M.2 131) (M.2 132) (M.2 133) (tx0 B n).1 frM
    refine ⟨M', M.2 131, f1, f2, (fun k q => by cases q), ?_⟩
    rw [pre _ tk1]
    simp only [e_181_18, cn_s, if_true]
    exact e
end YX
