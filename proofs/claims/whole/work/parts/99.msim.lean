/-! the model's reader: its steps -/
section YS
variable {d : Nat} {h : AH} {nx : AN} {M : MS} {K : (Nat → Int32) × (Nat → Int32)} {g cd wt ts B : Nat → Int32} {nt fr N o w n a p k lv : Nat} {tk vl en x y q r ky : Int32} {l1 l2 l3 l4 : Value} {C W Cm pend : List Int32} {P P' : PS} {Res : Option AR → Prop}
/-- from here on, whatever stands where it doesn't matter, the machine comes to Res -/
def Run (d : Nat) (h : AH) (M : MS) (K : (Nat → Int32) × (Nat → Int32)) (g : Nat → Int32) (nx : AN) (B : Nat → Int32) (Res : Option AR → Prop) (P : PS) (Cm W : List Int32) (o : Nat) (ts : Nat → Int32) (wants : Int32) : Prop := ∀ (tk vl en : Int32) (cd wt : Nat → Int32) (l4 : Value), tkR B P.1 P.2.1 P.2.2.1 tk vl → (¬ P.2.2.1 = 258 → ¬ P.2.2.1 = 259 → eR P.2.2.1 P.2.1 en) → SR cd Cm → SR wt W → nr l4 = true → Res (Df (d + 3) 186 28 [.ref 123, .int (nI o), .int (nI (cnt W)), .int wants, l4] [] (YH h M K g P.2.1 P.1 tk vl en Cm.length P.2.2.2.2 W.length cd wt ts) nx)
def Bad (h : AH) (M : MS) (K : (Nat → Int32) × (Nat → Int32)) (g : Nat → Int32) (nx : AN) (p : Nat) : Option AR → Prop := fun R => ∃ nt tk vl en N o w cd wt ts, R = some (some (.int 0), YH h M K g nt p tk vl en N o w cd wt ts, nx)
theorem tk_258 (ht : tkR B p a 258 tk vl) : tk = 0 := by
  unfold tkR at ht; rw [if_pos rfl] at ht; exact ht
theorem tk_sign (ht : tkR B p a q tk vl) (h1 : ¬ q = 256) (h2 : ¬ q = 257) (h3 : ¬ q = 258) (h4 : ¬ q = 259) : tk = 3 ∧ vl = q := by
  unfold tkR at ht; rw [if_neg h3, if_neg h1, if_neg h2, if_neg h4] at ht; exact ht
theorem tk_no (ht : tkR B p a q tk vl) (h : q = 256 ∨ q = 257 ∨ q = 258 ∨ q = 259) : ¬ tk = 3 := by
  unfold tkR at ht
  rcases h with rfl | rfl | rfl | rfl
  · rw [if_neg (by decide), if_pos rfl] at ht; rw [ht.1]; decide
  · rw [if_neg (by decide), if_neg (by decide), if_pos rfl] at ht
    split at ht
    · rw [ht.1]; decide
    · rw [ht]; decide
  · rw [if_pos rfl] at ht; rw [ht]; decide
  · rw [if_neg (by decide), if_neg (by decide), if_neg (by decide), if_pos rfl] at ht; rw [ht]; decide
theorem tk_0 (ht : tkR B p a q tk vl) (h : ¬ q = 258) : ¬ tk = 0 := by
  unfold tkR at ht
  rw [if_neg h] at ht
  split at ht
  · rw [ht.1]; decide
  split at ht
  · split at ht
    · rw [ht.1]; decide
    · rw [ht]; decide
  split at ht
  · rw [ht]; decide
  · rw [ht.1]; decide
theorem wa_2 (hP : wfP n P) : P.2.1 ≤ n := hP.2.1
/-- a NUMBER or a NAME, as the model takes it -/
theorem c_takesPart (hT : tpR M B n) (hP : wfP n P) (hky : M.1 13 = ky) (ht : tkR B P.1 P.2.1 P.2.2.1 tk vl) (he : ¬ P.2.2.1 = 258 → ¬ P.2.2.1 = 259 → eR P.2.2.1 P.2.1 en) (hl : Cm.length + W.length + 1 ≤ 96) (hc : SR cd Cm) (hw : SR wt W) : match pcA B n ky P with
    | none => Dn (d + 3) 187 [.ref 123] (YH h M K g P.2.1 P.1 tk vl en Cm.length P.2.2.2.2 W.length cd wt ts) nx = some (some (.int 0), YH h M K g P.2.1 P.1 tk vl en Cm.length P.2.2.2.2 W.length cd wt ts, nx)
    | some P' => ∃ x tk' vl' en' cd', P' = stS B n (adO P x) ∧ tkR B P'.1 P'.2.1 P'.2.2.1 tk' vl' ∧ (¬ P'.2.2.1 = 258 → ¬ P'.2.2.1 = 259 → eR P'.2.2.1 P'.2.1 en') ∧ SR cd' (stl 6 W (x :: Cm)).2 ∧ SR wt (stl 6 W (x :: Cm)).1 ∧ Dn (d + 3) 187 [.ref 123] (YH h M K g P.2.1 P.1 tk vl en Cm.length P.2.2.2.2 W.length cd wt ts) nx = some (some (.int 1), YH h M K g P'.2.1 P'.1 tk' vl' en' (stl 6 W (x :: Cm)).2.length P'.2.2.2.2 (stl 6 W (x :: Cm)).1.length cd' wt ts, nx) := by
  have hpa := hP.2.2.1
  have hC : Cm.length < 96 := by omega
  have hn := hT.1
  have ha := hP.2.1
  have tail : ∀ x : Int32, isW P.2.2.1 → (∀ l1, Df (d + 2) 187 52 [.ref 123, .int l1] [] (YH h M K g P.2.1 P.1 tk vl en Cm.length P.2.2.2.2 W.length cd wt ts) nx = Df (d + 2) 187 87 [.ref 123, .int l1] [.int x, .int (nI Cm.length), .ref 131] (YH h M K g P.2.1 P.1 tk vl en Cm.length P.2.2.2.2 W.length cd wt ts) nx) → ∃ tk' vl' en' cd', tkR B (stS B n (adO P x)).1 (stS B n (adO P x)).2.1 (stS B n (adO P x)).2.2.1 tk' vl' ∧ (¬ (stS B n (adO P x)).2.2.1 = 258 → ¬ (stS B n (adO P x)).2.2.1 = 259 → eR (stS B n (adO P x)).2.2.1 (stS B n (adO P x)).2.1 en') ∧ SR cd' (stl 6 W (x :: Cm)).2 ∧ SR wt (stl 6 W (x :: Cm)).1 ∧ ∀ l1, Df (d + 2) 187 52 [.ref 123, .int l1] [] (YH h M K g P.2.1 P.1 tk vl en Cm.length P.2.2.2.2 W.length cd wt ts) nx = some (some (.int 1), YH h M K g (stS B n (adO P x)).2.1 (stS B n (adO P x)).1 tk' vl' en' (stl 6 W (x :: Cm)).2.length (stS B n (adO P x)).2.2.2.2 (stl 6 W (x :: Cm)).1.length cd' wt ts, nx) := by
    intro x hx h52
    have h258 : ¬ P.2.2.1 = 258 := by rcases hx with e | e <;> rw [e] <;> decide
    have h259 : ¬ P.2.2.1 = 259 := by rcases hx with e | e <;> rw [e] <;> decide
    obtain ⟨cd', s1, s2, e1⟩ := Y_settle (d := d) (h := h) (nx := nx) (M := M) (K := K) (g := g) (nt := P.2.1) (fr := P.1) (tk := tk) (vl := vl) (en := en) (o := P.2.2.2.2 + 1) (ts := ts) (r := 6) (C := x :: Cm) (W := W) (wt := wt) (cd := upd cd Cm.length x) (by simp; omega) hw (SR_push hc)
    obtain ⟨tk', vl', en', t1, t2, e2⟩ := c_go (d := d) (h := h) (nx := nx) (K := K) (g := g) (fr := P.1) (tk := tk) (vl := vl) (en := en) (N := (stl 6 W (x :: Cm)).2.length) (o := P.2.2.2.2 + 1) (w := (stl 6 W (x :: Cm)).1.length) (cd := cd') (wt := wt) (ts := ts) hT ha (he h258 h259)
    refine ⟨tk', vl', en', cd', t1, t2, s1, s2, fun l1 => ?_⟩
    rw [h52 l1]
    simp only [e_187_87, e_187_88, e_187_89i, e_187_89r, e_187_90, e_187_93, e_187_94, e_187_95, e_187_98, e_187_99i, e_187_99r, e_187_100, e_187_103, e_187_104, e_187_105, e_187_108, e_187_109, e_187_111, e_187_114, e_187_115, e_187_118, e_187_119, gY17, gY18, kY, if_true, wY131 hC, qY17, qY18, nI_1, cn_v, nR_b1, Option.bind_some]
    rw [show Cm.length + 1 = (x :: Cm).length from rfl, e1]
    simp only [e_187_114, e_187_115, e_187_118, e_187_119, cn_v, kY, if_true, e2, nR_b1]
    rfl
  unfold pcA
  by_cases h257 : P.2.2.1 = 257
  · rw [if_pos h257]
    have ht' := ht
    unfold tkR at ht'
    rw [h257, if_neg (by decide), if_neg (by decide), if_pos rfl] at ht'
    by_cases h4 : P.2.1 - P.1 ≤ 4
    · rw [if_pos h4]
      rw [if_pos h4] at ht'
      obtain ⟨rfl, rfl⟩ := ht'
      obtain ⟨tk', vl', en', cd', t1, t2, s1, s2, e⟩ := tail (numF B (P.2.1 - P.1) P.1 0) (Or.inr h257) (fun l1 => by
        simp only [e_187_52, e_187_53, e_187_56, e_187_57, e_187_60, e_187_61, e_187_64, e_187_65, e_187_68, e_187_69, e_187_72, gY10, gY11, gY16, gY17, if_true, Option.bind_some])
      refine ⟨_, tk', vl', en', cd', rfl, t1, t2, s1, s2, ?_⟩
      simp only [n_187, e_187_0, e_187_1, e_187_4, e_187_5, e_187_36, e_187_37n, e_187_37i, e_187_37r, e_187_38, e_187_39, e_187_42, e_187_43, gY10, show ¬ (2 : Int32) = 1 by decide, if_false, if_true, Option.bind_some]
      exact e 0
    · rw [if_neg h4]
      rw [if_neg h4] at ht'
      subst ht'
      simp only [n_187, e_187_0, e_187_1, e_187_4, e_187_5, e_187_36, e_187_37n, e_187_37i, e_187_37r, e_187_38, e_187_39, e_187_42, e_187_43, e_187_46, e_187_47, e_187_50, e_187_51, gY10, show ¬ (4 : Int32) = 1 by decide, show ¬ (4 : Int32) = 2 by decide, if_false, if_true, nR_b0, Option.bind_some]
  rw [if_neg h257]
  by_cases h256 : P.2.2.1 = 256
  · rw [if_pos h256]
    have ht' := ht
    unfold tkR at ht'
    rw [h256, if_neg (by decide), if_pos rfl] at ht'
    obtain ⟨rfl, rfl⟩ := ht'
    by_cases h1 : P.2.1 = P.1 + 1
    · rw [if_pos h1]
      have nm := c_nameOf (d := d + 1) (h := h) (nx := nx) (M := M) (K := K) (g := g) (nt := P.2.1) (fr := P.1) (tk := 1) (vl := B P.1) (en := en) (N := Cm.length) (o := P.2.2.2.2) (w := W.length) (cd := cd) (wt := wt) (ts := ts) (B := B) (p := P.1)
      rw [hky] at nm
      have e1 : nI (P.2.1 - P.1) = 1 := by rw [h1, show P.1 + 1 - P.1 = 1 by omega]; rfl
      cases hr : nmF B P.1 (strT (nmS ky)) 0 with
      | none =>
        rw [hr] at nm
        simp only [n_187, e_187_0, e_187_1, e_187_4, e_187_5, e_187_8, e_187_9, e_187_12, e_187_13, e_187_16, e_187_17, e_187_18, e_187_21, e_187_22, e_187_23, e_187_26, e_187_29, e_187_32, e_187_33, e_187_36, e_187_37n, e_187_37i, e_187_37r, e_187_38, e_187_39, e_187_42, e_187_43, e_187_46, e_187_47, e_187_50, e_187_51, gY8, gY9, gY10, gY11, kY, nI_sub hpa, e1, nm, cn_s, show oi none = -1 from rfl, show (-1 : Int32) < 0 by decide, show ¬ (1 : Int32) = 2 by decide, if_false, if_true, nR_b0, Option.bind_some]
      | some j =>
        rw [hr] at nm
        have hj : j < 1000 := by
          have : ∀ (l : List Nat) (i : Nat), nmF B P.1 l i = some j → j < i + l.length := by
            intro l
            induction l with
            | nil => intro i e; cases e
            | cons c l ih =>
              intro i e
              unfold nmF at e
              by_cases q : B P.1 = nI c
              · rw [if_pos q] at e; cases e; simp
              · rw [if_neg q] at e
                have := ih (i + 1) e
                simp; omega
          have hh := this _ _ hr
          have hl6 : (strT (nmS ky)).length < 100 := by unfold nmS; split <;> (try split) <;> decide
          omega
        obtain ⟨tk', vl', en', cd', t1, t2, s1, s2, e⟩ := tail (10000 + nI j) (Or.inl h256) (fun l1 => by
          simp only [e_187_52, e_187_53, e_187_56, e_187_57, e_187_60, e_187_61, e_187_64, e_187_65, e_187_68, e_187_69, e_187_72, e_187_75, e_187_78, e_187_79, e_187_80, e_187_83, e_187_86, gY10, gY11, gY16, gY17, kY, nm, cn_s, oi_s, show ¬ (1 : Int32) = 2 by decide, if_false, if_true, Option.bind_some])
        refine ⟨_, tk', vl', en', cd', rfl, t1, t2, s1, s2, ?_⟩
        simp only [n_187, e_187_0, e_187_1, e_187_4, e_187_5, e_187_8, e_187_9, e_187_12, e_187_13, e_187_16, e_187_17, e_187_18, e_187_21, e_187_22, e_187_23, e_187_26, e_187_29, e_187_32, e_187_33, e_187_36, e_187_37n, e_187_37i, e_187_37r, e_187_38, e_187_39, e_187_42, e_187_43, e_187_46, e_187_47, gY8, gY9, gY10, gY11, kY, nI_sub hpa, e1, nm, cn_s, oi_s, show ¬ (1 : Int32) = 2 by decide, if_false, if_true, Option.bind_some]
        rw [if_neg (nI_pos (by omega)), if_neg (show ¬ (1 : Int32) = 0 by decide)]
        exact e 1
    · rw [if_neg h1]
      have e1 : ¬ nI (P.2.1 - P.1) = 1 := fun e => h1 (by have := (nI_eq (a := P.2.1 - P.1) (b := 1) (by omega) (by omega)).mp e; omega)
      simp only [n_187, e_187_0, e_187_1, e_187_4, e_187_5, e_187_8, e_187_9, e_187_12, e_187_13, e_187_16, e_187_17, e_187_18, e_187_36, e_187_37n, e_187_37i, e_187_37r, e_187_38, e_187_39, e_187_42, e_187_43, e_187_46, e_187_47, e_187_50, e_187_51, gY8, gY9, gY10, nI_sub hpa, e1, show ¬ (1 : Int32) = 2 by decide, if_false, if_true, nR_b0, Option.bind_some]
  · rw [if_neg h256]
    have n1 : ¬ tk = 1 ∧ ¬ tk = 2 := by
      unfold tkR at ht
      rw [if_neg h256, if_neg h257] at ht
      split at ht
      · rw [ht]; decide
      split at ht
      · rw [ht]; decide
      · rw [ht.1]; decide
    simp only [n_187, e_187_0, e_187_1, e_187_4, e_187_5, e_187_36, e_187_37n, e_187_37i, e_187_37r, e_187_38, e_187_39, e_187_42, e_187_43, e_187_46, e_187_47, e_187_50, e_187_51, gY10, n1.1, n1.2, if_false, if_true, nR_b0, Option.bind_some]
theorem R_not (hT : tpR M B n) (hP : wfP n P) (h33 : P.2.2.1 = 33) (hd : cnt W < 8) (hl : Cm.length + W.length ≤ P.1) (hR : Run d h M K g nx B Res (stS B n P) Cm (-10 :: W) o ts 1) : Run d h M K g nx B Res P Cm W o ts 1 := by
  intro tk vl en cd wt l4 ht he hc hw h4
  have hn := hT.1
  have hp := hP.1
  obtain ⟨rfl, rfl⟩ := tk_sign ht (by rw [h33]; decide) (by rw [h33]; decide) (by rw [h33]; decide) (by rw [h33]; decide)
  have hlt : P.1 < P.2.1 := hP.2.2.2 (by rw [h33]; decide)
  have ha := hP.2.1
  obtain ⟨tk', vl', en', t1, t2, e2⟩ := c_go (d := d + 1) (h := h) (nx := nx) (K := K) (g := g) (fr := P.1) (tk := 3) (vl := P.2.2.1) (en := en) (N := Cm.length) (o := P.2.2.2.2) (w := W.length + 1) (cd := cd) (wt := upd wt W.length (-10)) (ts := ts) hT hP.2.1 (he (by rw [h33]; decide) (by rw [h33]; decide))
  have no := Y_nots (d := d + 2) (h := h) (nx := nx) (M := M) (K := K) (g := g) (nt := (stS B n P).2.1) (fr := (stS B n P).1) (tk := tk') (vl := vl') (en := en') (N := Cm.length) (o := P.2.2.2.2) (cd := cd) (ts := ts) (W := -10 :: W) (SR_push hw) (by simp; omega)
  have := hR tk' vl' en' cd (upd wt W.length (-10)) l4 t1 t2 hc (SR_push hw) h4
  suffices key : ∀ Q, Df (d + 3) 186 28 [.ref 123, .int (nI o), .int (nI (cnt (-10 :: W))), .int 1, l4] [] (YH h M K g (stS B n P).2.1 (stS B n P).1 tk' vl' en' Cm.length (stS B n P).2.2.2.2 (-10 :: W).length cd (upd wt W.length (-10)) ts) nx = Q → Df (d + 3) 186 28 [.ref 123, .int (nI o), .int (nI (cnt W)), .int 1, l4] [] (YH h M K g P.2.1 P.1 3 P.2.2.1 en Cm.length P.2.2.2.2 W.length cd wt ts) nx = Q by
    rw [key _ rfl]; exact this
  intro Q hQ
  rw [h33] at e2
  simp only [e_186_28, e_186_29, e_186_32, e_186_33, e_186_36, e_186_39, e_186_40, e_186_43, e_186_44, e_186_47, e_186_48, e_186_51, e_186_52, e_186_55, e_186_57, e_186_60, e_186_61, e_186_63, e_186_66, e_186_67, e_186_70, e_186_71, e_186_74, e_186_76, e_186_77, e_186_78i, e_186_78r, e_186_79, e_186_82, e_186_83, e_186_84, e_186_87, e_186_90, e_186_91, e_186_94, h33, gY10, gY11, gY19, gY20, kY, if_true, show ¬ (1 : Int32) = 0 by decide, if_false, wY132 (show W.length < 96 by omega), qY20, nI_1, Option.bind_some]
  rw [if_neg (show ¬ (8 : Int32) ≤ nI (cnt W) from nI_ge (b := 8) hd (by omega)), e2]
  simp only [e_186_94, e_186_172, e_186_173, cn_v, kY, if_true]
  rw [show W.length + 1 = (-10 :: W).length from rfl]
  have no' : Dn (d + 3) 191 [.ref 123] (YH h M K g (stA B n P.2.1) (stP B n P.2.1) tk' vl' en' Cm.length P.2.2.2.2 (-10 :: W).length cd (upd wt W.length (-10)) ts) nx = _ := no
  rw [no']
  simp only [e_186_176n, e_186_176i, e_186_176r, e_186_177, cn_s]
  exact hQ
end YS
