/-! the model's reader: its steps, on -/
section YT
variable {d : Nat} {h : AH} {nx : AN} {M : MS} {K : (Nat → Int32) × (Nat → Int32)} {g cd wt ts B : Nat → Int32} {nt fr N o w n a p k lv : Nat} {tk vl en x y q r ky : Int32} {l1 l2 l3 l4 : Value} {C W W0 Cm pend : List Int32} {P P' : PS} {Res : Option AR → Prop}
theorem nb0 : vp_nar .boolean 0 = 0 := rfl
theorem nb1 : vp_nar .boolean 1 = 1 := rfl
theorem R_open (hT : tpR M B n) (hP : wfP n P) (h40 : P.2.2.1 = 40) (ho : o < 8) (hl : Cm.length + W.length ≤ P.1) (hR : Run d h M K g nx B Res (stS B n P) Cm (-11 :: W) (o + 1) (upd ts (o + 1) 0) 1) : Run d h M K g nx B Res P Cm W o ts 1 := by
  intro tk vl en cd wt l4 ht he hc hw h4
  have hn := hT.1
  have hp := hP.1
  obtain ⟨rfl, rfl⟩ := tk_sign ht (by rw [h40]; decide) (by rw [h40]; decide) (by rw [h40]; decide) (by rw [h40]; decide)
  have hlt : P.1 < P.2.1 := hP.2.2.2 (by rw [h40]; decide)
  have ha := hP.2.1
  obtain ⟨tk', vl', en', t1, t2, e2⟩ := c_go (d := d + 1) (h := h) (nx := nx) (K := K) (g := g) (fr := P.1) (tk := 3) (vl := P.2.2.1) (en := en) (N := Cm.length) (o := P.2.2.2.2) (w := W.length + 1) (cd := cd) (wt := upd wt W.length (-11)) (ts := upd ts (o + 1) 0) hT hP.2.1 (he (by rw [h40]; decide) (by rw [h40]; decide))
  have no := Y_nots (d := d + 2) (h := h) (nx := nx) (M := M) (K := K) (g := g) (nt := (stS B n P).2.1) (fr := (stS B n P).1) (tk := tk') (vl := vl') (en := en') (N := Cm.length) (o := P.2.2.2.2) (cd := cd) (ts := upd ts (o + 1) 0) (W := -11 :: W) (SR_push hw) (by simp; omega)
  have := hR tk' vl' en' cd (upd wt W.length (-11)) l4 t1 t2 hc (SR_push hw) h4
  suffices key : ∀ Q, Df (d + 3) 186 28 [.ref 123, .int (nI (o + 1)), .int (nI (cnt (-11 :: W))), .int 1, l4] [] (YH h M K g (stS B n P).2.1 (stS B n P).1 tk' vl' en' Cm.length (stS B n P).2.2.2.2 (-11 :: W).length cd (upd wt W.length (-11)) (upd ts (o + 1) 0)) nx = Q → Df (d + 3) 186 28 [.ref 123, .int (nI o), .int (nI (cnt W)), .int 1, l4] [] (YH h M K g P.2.1 P.1 3 P.2.2.1 en Cm.length P.2.2.2.2 W.length cd wt ts) nx = Q by
    rw [key _ rfl]; exact this
  intro Q hQ
  rw [h40] at e2
  simp only [e_186_28, e_186_29, e_186_32, e_186_33, e_186_36, e_186_39, e_186_40, e_186_43, e_186_44, e_186_47, e_186_48, e_186_51, e_186_52, e_186_55, e_186_57, e_186_97, e_186_98, e_186_101, e_186_102, e_186_105, e_186_106, e_186_109, e_186_111, e_186_114, e_186_115, e_186_117, e_186_120, e_186_121, e_186_124, e_186_125, e_186_128, e_186_130, e_186_131, e_186_132i, e_186_132r, e_186_133, e_186_136, e_186_137, e_186_138, e_186_141, e_186_144, e_186_145, e_186_148, e_186_149, e_186_150, e_186_151, e_186_152, e_186_155, h40, gY10, gY11, gY19, gY20, gY21, kY, if_true, show ¬ (1 : Int32) = 0 by decide, show ¬ (40 : Int32) = 33 by decide, if_false, wY132 (show W.length < 96 by omega), qY20, nI_1, nb0, wY133 (show o + 1 < 10 by omega), Option.bind_some]
  rw [if_neg (show ¬ (8 : Int32) ≤ nI o from nI_ge (b := 8) ho (by omega)), e2]
  simp only [e_186_155, e_186_172, e_186_173, cn_v, kY, if_true]
  rw [show W.length + 1 = (-11 :: W).length from rfl]
  have no' : Dn (d + 3) 191 [.ref 123] (YH h M K g (stA B n P.2.1) (stP B n P.2.1) tk' vl' en' Cm.length P.2.2.2.2 (-11 :: W).length cd (upd wt W.length (-11)) (upd ts (o + 1) 0)) nx = _ := no
  rw [no']
  simp only [e_186_176n, e_186_176i, e_186_176r, e_186_177, cn_s]
  exact hQ
/-- neither ! nor ( that may be taken -/
def noNP (P : PS) (W : List Int32) (o : Nat) : Prop := ¬ (P.2.2.1 = 33 ∧ cnt W < 8) ∧ ¬ (P.2.2.1 = 40 ∧ o < 8)
theorem R_158 (ht : tkR B P.1 P.2.1 P.2.2.1 tk vl) (hN : noNP P W o) (hd : cnt W ≤ 8) (ho : o ≤ 8) : Df (d + 3) 186 28 [.ref 123, .int (nI o), .int (nI (cnt W)), .int 1, l4] [] (YH h M K g P.2.1 P.1 tk vl en N k w cd wt ts) nx = Df (d + 3) 186 158 [.ref 123, .int (nI o), .int (nI (cnt W)), .int 1, l4] [] (YH h M K g P.2.1 P.1 tk vl en N k w cd wt ts) nx := by
  suffices key : ∀ Q, Df (d + 3) 186 158 [.ref 123, .int (nI o), .int (nI (cnt W)), .int 1, l4] [] (YH h M K g P.2.1 P.1 tk vl en N k w cd wt ts) nx = Q → Df (d + 3) 186 28 [.ref 123, .int (nI o), .int (nI (cnt W)), .int 1, l4] [] (YH h M K g P.2.1 P.1 tk vl en N k w cd wt ts) nx = Q from key _ rfl
  intro Q hQ
  have e97 : Df (d + 3) 186 97 [.ref 123, .int (nI o), .int (nI (cnt W)), .int 1, l4] [] (YH h M K g P.2.1 P.1 tk vl en N k w cd wt ts) nx = Q := by
    simp only [e_186_97, e_186_98, e_186_101, e_186_102, e_186_105, e_186_106, e_186_109, e_186_111, e_186_114, e_186_115, e_186_117, gY10, gY11, Option.bind_some]
    by_cases c1 : tk = 3
    · rw [if_pos c1]
      by_cases c2 : vl = 40
      · rw [if_pos c2]
        have hq : P.2.2.1 = 40 := by
          have : ¬ (P.2.2.1 = 256 ∨ P.2.2.1 = 257 ∨ P.2.2.1 = 258 ∨ P.2.2.1 = 259) := fun e => tk_no ht e c1
          have := tk_sign ht (fun e => this (Or.inl e)) (fun e => this (Or.inr (Or.inl e))) (fun e => this (Or.inr (Or.inr (Or.inl e)))) (fun e => this (Or.inr (Or.inr (Or.inr e))))
          rw [← this.2]; exact c2
        have ho8 : o = 8 := by
          rcases Nat.lt_or_ge o 8 with r | r
          · exact absurd ⟨hq, r⟩ hN.2
          · omega
        subst ho8
        rw [if_pos (by decide)]; exact hQ
      · rw [if_neg c2]; exact hQ
    · rw [if_neg c1]; exact hQ
  simp only [e_186_28, e_186_29, e_186_32, e_186_33, e_186_36, e_186_39, e_186_40, e_186_43, e_186_44, e_186_47, e_186_48, e_186_51, e_186_52, e_186_55, e_186_57, e_186_60, e_186_61, e_186_63, gY10, gY11, show ¬ (1 : Int32) = 0 by decide, if_false, Option.bind_some, e97]
  by_cases c1 : tk = 3
  · rw [if_pos c1]
    by_cases c2 : vl = 33
    · rw [if_pos c2]
      have hq : P.2.2.1 = 33 := by
        have : ¬ (P.2.2.1 = 256 ∨ P.2.2.1 = 257 ∨ P.2.2.1 = 258 ∨ P.2.2.1 = 259) := fun e => tk_no ht e c1
        have := tk_sign ht (fun e => this (Or.inl e)) (fun e => this (Or.inr (Or.inl e))) (fun e => this (Or.inr (Or.inr (Or.inl e)))) (fun e => this (Or.inr (Or.inr (Or.inr e))))
        rw [← this.2]; exact c2
      have hd8 : cnt W = 8 := by
        rcases Nat.lt_or_ge (cnt W) 8 with r | r
        · exact absurd ⟨hq, r⟩ hN.1
        · omega
      rw [if_pos (by rw [hd8]; decide)]
    · rw [if_neg c2]
  · rw [if_neg c1]
theorem R_part (hT : tpR M B n) (hP : wfP n P) (hky : M.1 13 = ky) (hN : noNP P W o) (hd : cnt W ≤ 8) (ho : o ≤ 8) (hl : Cm.length + W.length ≤ P.1) (hA : pcA B n ky P = some P') (hR : ∀ x, P' = stS B n (adO P x) → Run d h M K g nx B Res P' (stl 6 W (x :: Cm)).2 (stl 6 W (x :: Cm)).1 o ts 0) : Run d h M K g nx B Res P Cm W o ts 1 := by
  intro tk vl en cd wt l4 ht he hc hw h4
  have hn := hT.1
  have hp := hP.1
  have hpn : P.1 < n := by
    have ha := hP.2.1
    have : P.2.2.1 ≠ 258 := by
      intro e
      unfold pcA at hA
      rw [e, if_neg (by decide), if_neg (by decide)] at hA
      cases hA
    have := hP.2.2.2 this
    omega
  have tp := c_takesPart (d := d) (h := h) (nx := nx) (K := K) (g := g) (ts := ts) (Cm := Cm) (W := W) hT hP hky ht he (by omega) hc hw
  rw [hA] at tp
  obtain ⟨x, tk', vl', en', cd', hP', t1, t2, s1, s2, e⟩ := tp
  have := hR x hP' tk' vl' en' cd' wt l4 t1 t2 s1 s2 h4
  have hsl : (stl 6 W (x :: Cm)).1.length ≤ 96 := by
    have : ∀ (W C : List Int32), (stl 6 W C).1.length ≤ W.length := by
      intro W
      induction W with
      | nil => intro C; exact Nat.le_refl _
      | cons a W ih =>
        intro C
        unfold stl
        split
        · exact Nat.le_refl _
        · exact Nat.le_trans (ih _) (by simp)
    have := this W (x :: Cm)
    omega
  have no := Y_nots (d := d + 2) (h := h) (nx := nx) (M := M) (K := K) (g := g) (nt := P'.2.1) (fr := P'.1) (tk := tk') (vl := vl') (en := en') (N := (stl 6 W (x :: Cm)).2.length) (o := P'.2.2.2.2) (cd := cd') (ts := ts) s2 hsl
  suffices key : ∀ Q, Df (d + 3) 186 28 [.ref 123, .int (nI o), .int (nI (cnt (stl 6 W (x :: Cm)).1)), .int 0, l4] [] (YH h M K g P'.2.1 P'.1 tk' vl' en' (stl 6 W (x :: Cm)).2.length P'.2.2.2.2 (stl 6 W (x :: Cm)).1.length cd' wt ts) nx = Q → Df (d + 3) 186 28 [.ref 123, .int (nI o), .int (nI (cnt W)), .int 1, l4] [] (YH h M K g P.2.1 P.1 tk vl en Cm.length P.2.2.2.2 W.length cd wt ts) nx = Q by
    rw [key _ rfl]; exact this
  intro Q hQ
  rw [R_158 ht hN hd ho]
  simp only [e_186_158, e_186_159, e_186_162, e_186_165, e_186_166n, e_186_166i, e_186_166r, e_186_167, e_186_170, e_186_171, e_186_172, e_186_173, e_186_176n, e_186_176i, e_186_176r, e_186_177, kY, if_true, e, cn_s, no, show ¬ (1 : Int32) = 0 by decide, if_false]
  exact hQ
theorem R_fail1 (hT : tpR M B n) (hP : wfP n P) (hky : M.1 13 = ky) (hN : noNP P W o) (hd : cnt W ≤ 8) (ho : o ≤ 8) (hl : Cm.length + W.length ≤ P.1) (hA : pcA B n ky P = none) (hR : ∀ R, Bad h M K g nx P.1 R → Res R) : Run d h M K g nx B Res P Cm W o ts 1 := by
  intro tk vl en cd wt l4 ht he hc hw h4
  have hn := hT.1
  have hp := hP.1
  rw [R_158 ht hN hd ho]
  refine hR _ ⟨P.2.1, tk, vl, en, Cm.length, P.2.2.2.2, W.length, cd, wt, ts, ?_⟩
  by_cases hl1 : Cm.length + W.length + 1 ≤ 96
  · have tp := c_takesPart (d := d) (h := h) (nx := nx) (K := K) (g := g) (ts := ts) (Cm := Cm) (W := W) hT hP hky ht he hl1 hc hw
    rw [hA] at tp
    simp only [e_186_158, e_186_159, e_186_162, e_186_165, e_186_166n, e_186_166i, e_186_166r, e_186_167, e_186_170, e_186_171, kY, if_true, tp, cn_s, nR_b0]
  · have hq : P.2.2.1 = 258 := by
      by_cases c : P.2.2.1 = 258
      · exact c
      · have := hP.2.2.2 c
        have := hP.2.1
        omega
    have h0 : tk = 0 := by rw [hq] at ht; exact tk_258 ht
    subst h0
    have tp : Dn (d + 3) 187 [.ref 123] (YH h M K g P.2.1 P.1 0 vl en Cm.length P.2.2.2.2 W.length cd wt ts) nx = some (some (.int 0), YH h M K g P.2.1 P.1 0 vl en Cm.length P.2.2.2.2 W.length cd wt ts, nx) := by
      simp only [n_187, e_187_0, e_187_1, e_187_4, e_187_5, e_187_36, e_187_37n, e_187_37i, e_187_37r, e_187_38, e_187_39, e_187_42, e_187_43, e_187_46, e_187_47, e_187_50, e_187_51, gY10, show ¬ (0 : Int32) = 1 by decide, show ¬ (0 : Int32) = 2 by decide, if_false, if_true, nR_b0, Option.bind_some]
    simp only [e_186_158, e_186_159, e_186_162, e_186_165, e_186_166n, e_186_166i, e_186_166r, e_186_167, e_186_170, e_186_171, kY, if_true, tp, cn_s, nR_b0]
theorem R_close {C1 C2 W1 : List Int32} (hT : tpR M B n) (hP : wfP n P) (h41 : P.2.2.1 = 41) (ho : o < 8) (hl : Cm.length + W.length ≤ P.1) (hs0 : stl 0 W Cm = (-11 :: W0, C1)) (hs6 : stl 6 W0 C1 = (W1, C2)) (hl1 : C1.length + W0.length ≤ P.1) (hl2 : W1.length ≤ 96) (hR : Run d h M K g nx B Res (stS B n P) C2 W1 o ts 0) : Run d h M K g nx B Res P Cm W (o + 1) ts 0 := by
  intro tk vl en cd wt l4 ht he hc hw h4
  have hn := hT.1
  have hp := hP.1
  obtain ⟨rfl, rfl⟩ := tk_sign ht (by rw [h41]; decide) (by rw [h41]; decide) (by rw [h41]; decide) (by rw [h41]; decide)
  obtain ⟨cd1, s1, s2, e1⟩ := Y_settle (d := d + 1) (h := h) (nx := nx) (M := M) (K := K) (g := g) (nt := P.2.1) (fr := P.1) (tk := 3) (vl := 41) (en := en) (o := P.2.2.2.2) (ts := ts) (r := 0) (C := Cm) (W := W) (wt := wt) (cd := cd) (by omega) hw hc
  rw [hs0] at s1 s2 e1
  dsimp only at s1 s2 e1
  obtain ⟨cd2, s3, s4, e2⟩ := Y_settle (d := d + 1) (h := h) (nx := nx) (M := M) (K := K) (g := g) (nt := P.2.1) (fr := P.1) (tk := 3) (vl := 41) (en := en) (o := P.2.2.2.2) (ts := ts) (r := 6) (C := C1) (W := W0) (wt := wt) (cd := cd1) (by omega) (SR_pop s2) s1
  rw [hs6] at s3 s4 e2
  dsimp only at s3 s4 e2
  have no := Y_nots (d := d + 2) (h := h) (nx := nx) (M := M) (K := K) (g := g) (nt := P.2.1) (fr := P.1) (tk := 3) (vl := 41) (en := en) (N := C2.length) (o := P.2.2.2.2) (cd := cd2) (ts := ts) s4 hl2
  obtain ⟨tk', vl', en', t1, t2, e3⟩ := c_go (d := d + 1) (h := h) (nx := nx) (K := K) (g := g) (fr := P.1) (tk := 3) (vl := 41) (en := en) (N := C2.length) (o := P.2.2.2.2) (w := W1.length) (cd := cd2) (wt := wt) (ts := ts) hT hP.2.1 (he (by rw [h41]; decide) (by rw [h41]; decide))
  have := hR tk' vl' en' cd2 wt l4 t1 t2 s3 s4 h4
  suffices key : ∀ Q, Df (d + 3) 186 28 [.ref 123, .int (nI o), .int (nI (cnt W1)), .int 0, l4] [] (YH h M K g (stS B n P).2.1 (stS B n P).1 tk' vl' en' C2.length (stS B n P).2.2.2.2 W1.length cd2 wt ts) nx = Q → Df (d + 3) 186 28 [.ref 123, .int (nI (o + 1)), .int (nI (cnt W)), .int 0, l4] [] (YH h M K g P.2.1 P.1 3 P.2.2.1 en Cm.length P.2.2.2.2 W.length cd wt ts) nx = Q by
    rw [key _ rfl]; exact this
  intro Q hQ
  have ew : nI (-11 :: W0).length - 1 = nI W0.length := nI_pred W0.length
  have eo : nI (o + 1) + -1 = nI o := pk_m1 o
  simp only [e_186_28, e_186_29, e_186_32, e_186_33, e_186_36, e_186_39, e_186_40, e_186_180, e_186_181, e_186_184, e_186_185, e_186_188, e_186_189, e_186_192, e_186_194, e_186_197, e_186_198, h41, gY10, gY11, kY, if_true, show ¬ (3 : Int32) = 0 by decide, if_false, Option.bind_some]
  rw [if_neg (show ¬ nI (o + 1) ≤ 0 by rw [i_nle]; exact nI_lt (a := 0) (by omega) (by omega))]
  simp only [e_186_201, e_186_202, e_186_203, e_186_206, e_186_207i, e_186_207r, e_186_208, e_186_211, e_186_212, e_186_213, e_186_216, e_186_219, e_186_220, e_186_222, e_186_225, e_186_226, e_186_229n, e_186_229i, e_186_229r, e_186_230, e_186_231, e_186_234, kY, if_true, e1, cn_v, gY20, ew, qY20, eo, e2, no, cn_s, e3, Option.bind_some]
  exact hQ
theorem R_op {C1 W1 : List Int32} (hT : tpR M B n) (hP : wfP n P) (hq : ¬ sgn P.2.2.1 = 0) (h41 : ¬ P.2.2.1 = 41) (hW : ¬ isW P.2.2.1 ∧ ¬ P.2.2.1 = 258 ∧ ¬ P.2.2.1 = 259) (ho : o ≤ 8) (hl : Cm.length + W.length ≤ P.1) (ht3 : rnk (sgn P.2.2.1) = 3 → ts o = 0) (ht1 : ts o = 0 ∨ ts o = 1) (hs : stl (rnk (sgn P.2.2.1)) W Cm = (W1, C1)) (hl1 : C1.length + W1.length ≤ P.1) (hcn : cnt (sgn P.2.2.1 :: W1) = cnt W) (hR : Run d h M K g nx B Res (stS B n P) C1 (sgn P.2.2.1 :: W1) o (upd ts o (if rnk (sgn P.2.2.1) = 3 then 1 else if 3 < rnk (sgn P.2.2.1) then ts o else 0)) 1) : Run d h M K g nx B Res P Cm W o ts 0 := by
  intro tk vl en cd wt l4 ht he hc hw h4
  have hn := hT.1
  have hp := hP.1
  have ha := hP.2.1
  obtain ⟨rfl, rfl⟩ := tk_sign ht (fun e => hW.1 (Or.inl e)) (fun e => hW.1 (Or.inr e)) hW.2.1 hW.2.2
  have hlt : P.1 < P.2.1 := hP.2.2.2 hW.2.1
  obtain ⟨cd1, s1, s2, e1⟩ := Y_settle (d := d + 1) (h := h) (nx := nx) (M := M) (K := K) (g := g) (nt := P.2.1) (fr := P.1) (tk := 3) (vl := P.2.2.1) (en := en) (o := P.2.2.2.2) (ts := upd ts o (if rnk (sgn P.2.2.1) = 3 then 1 else if 3 < rnk (sgn P.2.2.1) then ts o else 0)) (r := rnk (sgn P.2.2.1)) (C := Cm) (W := W) (wt := wt) (cd := cd) (by omega) hw hc
  rw [hs] at s1 s2 e1
  dsimp only at s1 s2 e1
  obtain ⟨tk', vl', en', t1, t2, e3⟩ := c_go (d := d + 1) (h := h) (nx := nx) (K := K) (g := g) (fr := P.1) (tk := 3) (vl := P.2.2.1) (en := en) (N := C1.length) (o := P.2.2.2.2) (w := W1.length + 1) (cd := cd1) (wt := upd wt W1.length (sgn P.2.2.1)) (ts := upd ts o (if rnk (sgn P.2.2.1) = 3 then 1 else if 3 < rnk (sgn P.2.2.1) then ts o else 0)) hT hP.2.1 (he hW.2.1 hW.2.2)
  have := hR tk' vl' en' cd1 (upd wt W1.length (sgn P.2.2.1)) (.int (sgn P.2.2.1)) t1 t2 s1 (SR_push s2) (nr_i _)
  rw [hcn] at this
  suffices key : ∀ Q, Df (d + 3) 186 28 [.ref 123, .int (nI o), .int (nI (cnt W)), .int 1, .int (sgn P.2.2.1)] [] (YH h M K g (stS B n P).2.1 (stS B n P).1 tk' vl' en' C1.length (stS B n P).2.2.2.2 (sgn P.2.2.1 :: W1).length cd1 (upd wt W1.length (sgn P.2.2.1)) (upd ts o (if rnk (sgn P.2.2.1) = 3 then 1 else if 3 < rnk (sgn P.2.2.1) then ts o else 0))) nx = Q → Df (d + 3) 186 28 [.ref 123, .int (nI o), .int (nI (cnt W)), .int 0, l4] [] (YH h M K g P.2.1 P.1 3 P.2.2.1 en Cm.length P.2.2.2.2 W.length cd wt ts) nx = Q by
    rw [key _ rfl]; exact this
  intro Q hQ
  have tl : Df (d + 3) 186 306 [.ref 123, .int (nI o), .int (nI (cnt W)), .int 0, .int (sgn P.2.2.1)] [] (YH h M K g P.2.1 P.1 3 P.2.2.1 en Cm.length P.2.2.2.2 W.length cd wt (upd ts o (if rnk (sgn P.2.2.1) = 3 then 1 else if 3 < rnk (sgn P.2.2.1) then ts o else 0))) nx = Q := by
    simp only [e_186_306, e_186_307, e_186_309, e_186_312, e_186_315, e_186_316, e_186_319, e_186_320, e_186_323, e_186_325, e_186_326, e_186_327i, e_186_327r, e_186_328, e_186_331, e_186_332, e_186_333, e_186_336, e_186_337n, e_186_337i, e_186_337r, e_186_338, e_186_339, e_186_342, kY, if_true, c_rank, cn_s, cn_v, e1, gY19, gY20, wY132 (show W1.length < 96 by omega), qY20, nI_1, e3, Option.bind_some]
    exact hQ
  have sgh := c_signHere (d := d + 2) (h := h) (nx := nx) (M := M) (K := K) (g := g) (nt := P.2.1) (fr := P.1) (tk := 3) (vl := P.2.2.1) (en := en) (N := Cm.length) (o := P.2.2.2.2) (w := W.length) (cd := cd) (wt := wt) (ts := ts)
  rw [if_pos rfl] at sgh
  simp only [e_186_28, e_186_29, e_186_32, e_186_33, e_186_36, e_186_39, e_186_40, e_186_180, e_186_181, e_186_184, e_186_185, e_186_188, e_186_189, e_186_192, e_186_194, e_186_237, e_186_238, h41, gY10, gY11, kY, if_true, show ¬ (3 : Int32) = 0 by decide, if_false, sgh, cn_s, Option.bind_some]
  rw [e_186_241 h4]
  simp only [e_186_243, e_186_245, e_186_248, e_186_250, e_186_253, e_186_254, hq, if_false, c_rank, cn_s]
  have e268 : Df (d + 3) 186 268 [.ref 123, .int (nI o), .int (nI (cnt W)), .int 0, .int (sgn P.2.2.1)] [] (YH h M K g P.2.1 P.1 3 P.2.2.1 en Cm.length P.2.2.2.2 W.length cd wt ts) nx = Q := by
    generalize hr : rnk (sgn P.2.2.1) = rr at *
    simp only [e_186_268, e_186_269, e_186_272, e_186_273, e_186_275, e_186_278, e_186_279, e_186_282, e_186_284, e_186_287, e_186_288, e_186_291, e_186_292, e_186_295, e_186_296, e_186_297, gY21, c_rank, hr, cn_s, rY133 (show o < 10 by omega), Option.bind_some]
    by_cases c1 : rr = 3
    · rw [if_pos c1]
      rw [if_pos c1] at tl
      simp only [e_186_300, e_186_301, e_186_304, e_186_305, nb1, wY133 (show o < 10 by omega), Option.bind_some]
      exact tl
    rw [if_neg c1]
    rw [if_neg c1] at tl
    by_cases c2 : rr ≤ 3
    · rw [if_neg (show ¬ 3 < rr by rw [i_nlt]; exact c2)] at tl
      rw [if_pos c2]
      simp only [e_186_304, e_186_305, nb0, wY133 (show o < 10 by omega), Option.bind_some]
      exact tl
    · rw [if_pos (show 3 < rr by rw [← i_nle]; exact c2)] at tl
      rw [if_neg c2]
      rcases ht1 with z | z
      · rw [z] at tl
        rw [if_pos z]
        simp only [e_186_304, e_186_305, nb0, wY133 (show o < 10 by omega), Option.bind_some]
        exact tl
      · rw [z] at tl
        rw [if_neg (show ¬ ts o = 0 by rw [z]; decide)]
        simp only [e_186_300, e_186_301, e_186_304, e_186_305, nb1, wY133 (show o < 10 by omega), Option.bind_some]
        exact tl
  rw [e268]
  by_cases c1 : rnk (sgn P.2.2.1) = 3
  · rw [if_pos c1]
    simp only [e_186_257, e_186_258, e_186_261, e_186_262, e_186_263, gY21, rY133 (show o < 10 by omega), ht3 c1, if_true, e268, Option.bind_some]
  · rw [if_neg c1]
theorem R_fail0 (hT : tpR M B n) (hP : wfP n P) (h258 : ¬ P.2.2.1 = 258) (h41 : ¬ (P.2.2.1 = 41 ∧ 0 < o)) (ho : o ≤ 8) (hS : (isW P.2.2.1 ∨ P.2.2.1 = 259 ∨ sgn P.2.2.1 = 0) ∨ (rnk (sgn P.2.2.1) = 3 ∧ ¬ ts o = 0)) (hR : ∀ R, Bad h M K g nx P.1 R → Res R) : Run d h M K g nx B Res P Cm W o ts 0 := by
  intro tk vl en cd wt l4 ht he hc hw h4
  have h0 := tk_0 ht h258
  refine hR _ ⟨P.2.1, tk, vl, en, Cm.length, P.2.2.2.2, W.length, cd, wt, ts, ?_⟩
  have sgh := c_signHere (d := d + 2) (h := h) (nx := nx) (M := M) (K := K) (g := g) (nt := P.2.1) (fr := P.1) (tk := tk) (vl := vl) (en := en) (N := Cm.length) (o := P.2.2.2.2) (w := W.length) (cd := cd) (wt := wt) (ts := ts)
  have e237 : Df (d + 3) 186 237 [.ref 123, .int (nI o), .int (nI (cnt W)), .int 0, l4] [] (YH h M K g P.2.1 P.1 tk vl en Cm.length P.2.2.2.2 W.length cd wt ts) nx = some (some (.int 0), YH h M K g P.2.1 P.1 tk vl en Cm.length P.2.2.2.2 W.length cd wt ts, nx) := by
    simp only [e_186_237, e_186_238, kY, if_true, sgh, cn_s]
    rw [e_186_241 h4]
    by_cases c : tk = 3
    · rw [if_pos c]
      have hno : ¬ (P.2.2.1 = 256 ∨ P.2.2.1 = 257 ∨ P.2.2.1 = 258 ∨ P.2.2.1 = 259) := fun e => tk_no ht e c
      have hv := (tk_sign ht (fun e => hno (Or.inl e)) (fun e => hno (Or.inr (Or.inl e))) (fun e => hno (Or.inr (Or.inr (Or.inl e)))) (fun e => hno (Or.inr (Or.inr (Or.inr e))))).2
      rw [hv]
      rcases hS with (e | e | e) | ⟨e1, e2⟩
      · exact absurd (e.elim Or.inl (fun q => Or.inr (Or.inl q))) hno
      · exact absurd (Or.inr (Or.inr (Or.inr e))) hno
      · simp only [e_186_243, e_186_245, e_186_266, e_186_267, e, if_true, nR_b0]
      · simp only [e_186_243, e_186_245, e_186_248, e_186_250, e_186_253, e_186_254, e_186_257, e_186_258, e_186_261, e_186_262, e_186_263, e_186_266, e_186_267, c_rank, cn_s, e1, if_true, gY21, rY133 (show o < 10 by omega), e2, if_false, nR_b0, Option.bind_some]
        exact ite_self _
    · rw [if_neg c]
      simp only [e_186_243, e_186_245, e_186_266, e_186_267, if_true, nR_b0]
  simp only [e_186_28, e_186_29, e_186_32, e_186_33, e_186_36, e_186_39, e_186_40, e_186_180, e_186_181, e_186_184, e_186_185, e_186_188, e_186_189, e_186_192, e_186_194, e_186_197, e_186_198, gY10, gY11, h0, if_true, if_false, Option.bind_some, e237]
  by_cases c : tk = 3
  · rw [if_pos c]
    by_cases c2 : vl = 41
    · rw [if_pos c2]
      have hno : ¬ (P.2.2.1 = 256 ∨ P.2.2.1 = 257 ∨ P.2.2.1 = 258 ∨ P.2.2.1 = 259) := fun e => tk_no ht e c
      have hv := (tk_sign ht (fun e => hno (Or.inl e)) (fun e => hno (Or.inr (Or.inl e))) (fun e => hno (Or.inr (Or.inr (Or.inl e)))) (fun e => hno (Or.inr (Or.inr (Or.inr e))))).2
      have : o = 0 := by
        rcases Nat.eq_zero_or_pos o with r | r
        · exact r
        · exact absurd ⟨by rw [← hv]; exact c2, r⟩ h41
      subst this
      rw [if_pos (show nI 0 ≤ 0 by decide)]
    · rw [if_neg c2]
  · rw [if_neg c]
theorem R_end (hT : tpR M B n) (hP : wfP n P) (h258 : P.2.2.1 = 258) (hl : Cm.length + W.length ≤ P.1) (ho : o ≤ 8) (hR : ∀ tk vl en cd' wt, SR cd' (stl 0 W Cm).2 → Res (some (some (.int (if o = 0 then 1 else 0)), YH h M K g P.2.1 P.1 tk vl en (stl 0 W Cm).2.length P.2.2.2.2 (stl 0 W Cm).1.length cd' wt ts, nx))) : Run d h M K g nx B Res P Cm W o ts 0 := by
  intro tk vl en cd wt l4 ht he hc hw h4
  have hn := hT.1
  have hp := hP.1
  rw [h258] at ht
  have h0 := tk_258 ht
  subst h0
  obtain ⟨cd1, s1, s2, e1⟩ := Y_settle (d := d + 1) (h := h) (nx := nx) (M := M) (K := K) (g := g) (nt := P.2.1) (fr := P.1) (tk := 0) (vl := vl) (en := en) (o := P.2.2.2.2) (ts := ts) (r := 0) (C := Cm) (W := W) (wt := wt) (cd := cd) (by omega) hw hc
  have := hR 0 vl en cd1 wt s1
  refine Eq.mp (congrArg Res (Eq.symm ?_)) this
  simp only [e_186_28, e_186_29, e_186_32, e_186_33, e_186_36, e_186_345, e_186_346, e_186_347, e_186_350, e_186_351, e_186_354, e_186_355, e_186_358, e_186_359, gY10, kY, if_true, e1, cn_v, nR_b0, nR_b1, Option.bind_some]
  by_cases c : o = 0
  · subst c
    rw [if_pos rfl, if_pos (show nI 0 = 0 from rfl)]
  · rw [if_neg c, if_neg (nI_ne0 (by omega) (by omega))]
end YT
