/-! class and model read a text alike: pieces and levels -/
section YV
variable {d : Nat} {h : AH} {nx : AN} {M : MS} {K : (Nat → Int32) × (Nat → Int32)} {g cd wt ts B : Nat → Int32} {nt fr N o w n a p k lv f kn : Nat} {tk vl en x y q r ky : Int32} {l1 l2 l3 l4 : Value} {C W W0 Cm pend : List Int32} {P P' : PS} {Res : Option AR → Prop}
theorem map_adO (m : Nat) (hm : m < 10003) : (stS B n (adO P (nI m))).2.2.2.1.map trc = nI m :: P.2.2.2.1.map trc := by
  show (nI m :: P.2.2.2.1).map trc = _
  rw [List.map_cons, (trc_nI hm).1]
/-- the model has no way on, where the class has none -/
theorem sim_stuck (hT : tpR M B n) (hP : wfP n P) (ho : o ≤ 8) (hl : Cm.length + (pend ++ W).length ≤ P.1) (h41 : ¬ (P.2.2.1 = 41 ∧ 0 < o)) (h258 : P.2.2.1 = 258 → ¬ o = 0) (hj : ∀ l', l' < 5 → jns l' P.2.2.1 = true → l' = 2 ∧ ¬ ts o = 0) (hR : ∀ R, Bad h M K g nx P.1 R → Res R) : Run d h M K g nx B Res P Cm (pend ++ W) o ts 0 := by
  by_cases c : P.2.2.1 = 258
  · refine R_end hT hP c hl ho (fun tk vl en cd' wt hs => hR _ ?_)
    rw [if_neg (h258 c)]
    exact ⟨_, _, _, _, _, _, _, _, _, _, rfl⟩
  · refine R_fail0 hT hP c h41 ho ?_ hR
    by_cases c2 : sgn P.2.2.1 = 0
    · exact Or.inl (Or.inr (Or.inr c2))
    · obtain ⟨l', h1, h2⟩ := sg_jn c2
      have h3 := hj l' h1 h2
      have h4 := jn_facts h1 h2
      refine Or.inr ⟨?_, h3.2⟩
      rw [h4.2.1, h3.1]; rfl
theorem sim_piece (hT : tpR M B n) (hky : M.1 13 = nI kn) (hkn : kn < 3) (hp : SimP d h M K g nx B Res n (nI kn) f) (h0 : SimL d h M K g nx B Res n (nI kn) f 0) : SimP d h M K g nx B Res n (nI kn) (f + 1) := by
  intro P W k o ts hP hdg hl ho hd ht hf
  have hn := hT.1
  have hb := hT.2.2.2
  have hml : (P.2.2.2.1.map trc).length = P.2.2.2.1.length := List.length_map _
  have hnl : (nts k ++ W).length = k + W.length := by simp [nts]
  have hcn := cnt_nts (W := W) k
  have w1 := stS_wf (B := B) hP
  by_cases h33 : P.2.2.1 = 33
  · have w2 := stS_lt (B := B) hP (by rw [h33]; decide)
    by_cases hd8 : cnt W + k < 8
    · have ih := hp (stS B n P) W (k + 1) o ts w1.1 (stS_dg hb) (by show P.2.2.2.1.length + (k + 1) + W.length ≤ _; omega) ho (by omega) ht (by omega)
      have eq : pL B n (nI kn) (f + 1) 5 o (cnt W + k) P = if (pL B n (nI kn) f 5 o (cnt W + (k + 1)) (stS B n P)).1 = true then (true, adS (pL B n (nI kn) f 5 o (cnt W + (k + 1)) (stS B n P)).2 33) else (false, (pL B n (nI kn) f 5 o (cnt W + (k + 1)) (stS B n P)).2) := by
        show (if (5 : Nat) = 5 then _ else _) = _
        rw [if_pos rfl, if_pos h33, if_pos hd8]
        rfl
      rw [eq]
      generalize pL B n (nI kn) f 5 o (cnt W + (k + 1)) (stS B n P) = rr at ih
      have step : Run d h M K g nx B Res (stS B n P) (P.2.2.2.1.map trc) (nts (k + 1) ++ W) o ts 1 → Run d h M K g nx B Res P (P.2.2.2.1.map trc) (nts k ++ W) o ts 1 := fun hR => R_not hT hP h33 (by omega) (by omega) hR
      by_cases c : rr.1 = true
      · rw [if_pos c]
        refine ⟨fun e => (by cases e), fun _ hR => step (ih.2 c (fun ts' hj => ?_))⟩
        have := hR ts' hj
        have e2 : nts k ++ (adS rr.2 33).2.2.2.1.map trc = nts (k + 1) ++ rr.2.2.2.2.1.map trc := by
          rw [nts_s]; rfl
        dsimp only at this
        rw [e2] at this
        exact this
      · rw [if_neg c]
        refine ⟨fun _ hR => step (ih.1 (by simpa using c) hR), fun e => (by cases e)⟩
    · have eq : pL B n (nI kn) (f + 1) 5 o (cnt W + k) P = (false, P) := by
        show (if (5 : Nat) = 5 then _ else _) = _
        rw [if_pos rfl, if_pos h33, if_neg hd8]
      rw [eq]
      refine ⟨fun _ hR => R_fail1 hT hP hky ⟨fun e => by omega, fun e => by rw [h33] at e; exact absurd e.1 (by decide)⟩ (by omega) ho (by omega) ?_ hR, fun e => (by cases e)⟩
      unfold pcA
      rw [h33, if_neg (by decide), if_neg (by decide)]
  by_cases h40 : P.2.2.1 = 40
  · have w2 := stS_lt (B := B) hP (by rw [h40]; decide)
    by_cases ho8 : o < 8
    · have ec : cnt (-11 :: (nts k ++ W)) = cnt W + k := by
        show cnt (nts k ++ W) + (if (-11 : Int32) = -10 then 1 else 0) = _
        rw [hcn, if_neg (by decide)]; rfl
      have ih := h0 (stS B n P) (-11 :: (nts k ++ W)) (o + 1) (upd ts (o + 1) 0) w1.1 (stS_dg hb) (by show P.2.2.2.1.length + ((nts k ++ W).length + 1) ≤ _; omega) (by omega) (by omega) (Or.inl rfl) (fun _ => upd_s _ _ _) (Or.inl (upd_s _ _ _)) (by omega)
      rw [ec] at ih
      have m1 := pL_mo (B := B) (ky := nI kn) f 0 (o + 1) (cnt W + k) _ w1.1
      have eq : pL B n (nI kn) (f + 1) 5 o (cnt W + k) P = if (pL B n (nI kn) f 0 (o + 1) (cnt W + k) (stS B n P)).1 = true then (if (pL B n (nI kn) f 0 (o + 1) (cnt W + k) (stS B n P)).2.2.2.1 = 41 then (true, stS B n (pL B n (nI kn) f 0 (o + 1) (cnt W + k) (stS B n P)).2) else (false, (pL B n (nI kn) f 0 (o + 1) (cnt W + k) (stS B n P)).2)) else (false, (pL B n (nI kn) f 0 (o + 1) (cnt W + k) (stS B n P)).2) := by
        show (if (5 : Nat) = 5 then _ else _) = _
        rw [if_pos rfl, if_neg h33, if_pos h40, if_pos ho8]
      rw [eq]
      generalize pL B n (nI kn) f 0 (o + 1) (cnt W + k) (stS B n P) = rr at ih m1
      have hC1 : rr.2.2.2.2.1.length + k + W.length + 1 ≤ rr.2.1 := by
        have := m1.2.2
        have e5 : (stS B n P).2.2.2.1.length = P.2.2.2.1.length := rfl
        omega
      have step : Run d h M K g nx B Res (stS B n P) (P.2.2.2.1.map trc) (-11 :: (nts k ++ W)) (o + 1) (upd ts (o + 1) 0) 1 → Run d h M K g nx B Res P (P.2.2.2.1.map trc) (nts k ++ W) o ts 1 := fun hR => R_open hT hP h40 ho8 (by omega) hR
      by_cases c : rr.1 = true
      · rw [if_pos c]
        by_cases c2 : rr.2.2.2.1 = 41
        · rw [if_pos c2]
          refine ⟨fun e => (by cases e), fun _ hR => step (ih.2 c (fun pend Cm' ts' hPo => ?_))⟩
          obtain ⟨p1, p2, p3, p4, p5, p6⟩ := hPo
          have hlen : Cm'.length + pend.length = rr.2.2.2.2.1.length := by
            have := congrArg List.length p2
            simp at this
            omega
          have hs0 : stl 0 (pend ++ (-11 :: (nts k ++ W))) Cm' = (-11 :: (nts k ++ W), rr.2.2.2.2.1.map trc) := by
            rw [stl_pend (W := -11 :: (nts k ++ W)) (r := 0) (Or.inl rfl) pend Cm' (fun w hw => ⟨(p1 w hw).1, rnk_pos w⟩), p2]
          have hs6 : stl 6 (nts k ++ W) (rr.2.2.2.2.1.map trc) = (W, nts k ++ rr.2.2.2.2.1.map trc) := stl_6 ht k
          refine R_close hT m1.1 c2 ho8 ?_ hs0 hs6 ?_ (by have := m1.1.1; omega) ?_
          · simp [nts]; omega
          · simp [nts]; omega
          · refine hR ts' (fun j hj => ?_)
            rw [p3 j (by omega)]
            exact if_neg (by omega)
        · rw [if_neg c2]
          refine ⟨fun _ hR => step (ih.2 c (fun pend Cm' ts' hPo => ?_)), fun e => (by cases e)⟩
          obtain ⟨p1, p2, p3, p4, p5, p6⟩ := hPo
          have hlen : Cm'.length + pend.length = rr.2.2.2.2.1.length := by
            have := congrArg List.length p2
            simp at this
            omega
          exact sim_stuck hT m1.1 (by omega) (by simp [nts]; omega) (fun e => c2 e.1) (fun _ => by omega) (fun l' h1 h2 => p6 l' (by omega) h1 h2) hR
      · rw [if_neg c]
        refine ⟨fun _ hR => step (ih.1 (by simpa using c) hR), fun e => (by cases e)⟩
    · have eq : pL B n (nI kn) (f + 1) 5 o (cnt W + k) P = (false, P) := by
        show (if (5 : Nat) = 5 then _ else _) = _
        rw [if_pos rfl, if_neg h33, if_pos h40, if_neg ho8]
      rw [eq]
      refine ⟨fun _ hR => R_fail1 hT hP hky ⟨fun e => h33 e.1, fun e => ho8 e.2⟩ (by omega) ho (by omega) ?_ hR, fun e => (by cases e)⟩
      unfold pcA
      rw [h40, if_neg (by decide), if_neg (by decide)]
  · have eq : pL B n (nI kn) (f + 1) 5 o (cnt W + k) P = match pcA B n (nI kn) P with | some P' => (true, P') | none => (false, P) := by
      show (if (5 : Nat) = 5 then _ else _) = _
      rw [if_pos rfl, if_neg h33, if_neg h40]
      cases pcA B n (nI kn) P <;> rfl
    rw [eq]
    have hN : noNP P (nts k ++ W) o := ⟨fun e => h33 e.1, fun e => h40 e.1⟩
    cases hA : pcA B n (nI kn) P with
    | none => exact ⟨fun _ hR => R_fail1 hT hP hky hN (by omega) ho (by omega) hA hR, fun e => (by cases e)⟩
    | some P' =>
      obtain ⟨m, hm, e1⟩ := pcA_ok hkn hP hdg hA
      have hm3 : m < 10003 := by
        have : nms kn ≤ 3 := by unfold nms; split <;> omega
        omega
      refine ⟨fun e => (by cases e), fun _ hR => R_part hT hP hky hN (by omega) ho (by omega) hA (fun x hx => ?_)⟩
      have hxm : x = nI m := by
        have : (stS B n (adO P x)).2.2.2.1 = (stS B n (adO P (nI m))).2.2.2.1 := by rw [← hx, ← e1]
        have : x :: P.2.2.2.1 = nI m :: P.2.2.2.1 := this
        exact (List.cons.inj this).1
      have := hR ts (fun _ _ => rfl)
      dsimp only at this
      rw [stl_6 ht k, hxm]
      dsimp only
      rw [e1, map_adO m hm3] at this
      rw [e1]
      exact this
theorem sim_loop (hT : tpR M B n) (hlv : lv < 5) (hsub : SimL d h M K g nx B Res n ky f (lv + 1)) (ht : topOK (nI (lv + 1)) W) (ho : o ≤ 8) (hd : cnt W ≤ 8) (hf : (6 - (lv + 1)) + 6 * (8 - o) + (8 - cnt W) ≤ f) (i : Nat) : ∀ (P : PS) (Cm pend : List Int32) (ts : Nat → Int32), wfP n P → P.2.2.2.1.length + W.length ≤ P.1 → P.2.2.2.1.map trc = pend.reverse ++ Cm → (∀ w, w ∈ pend → w ≠ -11 ∧ w ≠ -10 ∧ ¬ rnk w < nI (lv + 1)) → (ts o = 0 ∨ ts o = 1) → (lv = 2 → (i = 1 ∧ ts o = 0) ∨ (i = 0 ∧ ts o = 1)) → (¬ lv = 2 → 96 ≤ i + P.1) → (∀ l', lv + 1 ≤ l' → l' < 5 → jns l' P.2.2.1 = true → l' = 2 ∧ ¬ ts o = 0) → ((lpL (pL B n ky f (lv + 1) o (cnt W)) B n lv i P).1 = false → (∀ R, Bad h M K g nx (lpL (pL B n ky f (lv + 1) o (cnt W)) B n lv i P).2.1 R → Res R) → Run d h M K g nx B Res P Cm (pend ++ W) o ts 0) ∧ ((lpL (pL B n ky f (lv + 1) o (cnt W)) B n lv i P).1 = true → (∀ pend' Cm' ts', PostL lv (lpL (pL B n ky f (lv + 1) o (cnt W)) B n lv i P).2 ts ts' o pend' Cm' → Run d h M K g nx B Res (lpL (pL B n ky f (lv + 1) o (cnt W)) B n lv i P).2 Cm' (pend' ++ W) o ts' 0) → Run d h M K g nx B Res P Cm (pend ++ W) o ts 0) := by
  have hn := hT.1
  have hb := hT.2.2.2
  induction i with
  | zero =>
    intro P Cm pend ts hP hl hC hpd hts h2 h96 hj
    unfold lpL
    refine ⟨fun e => (by cases e), fun _ hR => hR pend Cm ts ⟨hpd, hC, fun _ _ => rfl, hts, fun _ => rfl, fun l' h1 h3 h4 => ?_⟩⟩
    by_cases e : l' = lv
    · subst e
      by_cases c2 : l' = 2
      · subst c2
        rcases h2 rfl with ⟨q, _⟩ | ⟨_, q⟩
        · omega
        · exact ⟨rfl, by rw [q]; decide⟩
      · have := h96 c2
        have hp := hP.1
        have : P.2.2.1 = 258 := by
          by_cases c : P.2.2.1 = 258
          · exact c
          · have h5 := hP.2.2.2 c
            have h6 := hP.2.1
            omega
        exact absurd this (jns_258 h4)
    · exact hj l' (by omega) h3 h4
  | succ i ih =>
    intro P Cm pend ts hP hl hC hpd hts h2 h96 hj
    unfold lpL
    by_cases h1 : jns lv P.2.2.1 = true
    · rw [if_pos h1]
      obtain ⟨j1, j2, j3, j4, j5, j6, j7⟩ := jn_facts hlv h1
      have w1 := stS_wf (B := B) hP
      have w2 := stS_lt (B := B) hP (jns_258 h1)
      have hlen : Cm.length + pend.length = P.2.2.2.1.length := by
        have := congrArg List.length hC
        simp at this
        omega
      have hcp : cnt (pend ++ W) = cnt W := cnt_pend pend (fun w hw => (hpd w hw).2.1)
      have hcs : cnt (sgn P.2.2.1 :: W) = cnt W := by
        show cnt W + (if sgn P.2.2.1 = -10 then 1 else 0) = _
        rw [if_neg j4]; rfl
      let ts1 := upd ts o (if rnk (sgn P.2.2.1) = 3 then 1 else if 3 < rnk (sgn P.2.2.1) then ts o else 0)
      have hts1 : ts1 = upd ts o (if rnk (sgn P.2.2.1) = 3 then 1 else if 3 < rnk (sgn P.2.2.1) then ts o else 0) := rfl
      have v1 : ts1 o = if rnk (sgn P.2.2.1) = 3 then 1 else if 3 < rnk (sgn P.2.2.1) then ts o else 0 := by rw [hts1]; exact upd_s _ _ _
      rw [j2] at v1
      have v2 : lv = 2 → ts1 o = 1 := fun e => by rw [v1, e]; rfl
      have v3 : 3 ≤ lv → ts1 o = ts o := fun e => by
        rw [v1, if_neg (show ¬ nI (lv + 1) = 3 from fun q => by have := (nI_eq (b := 3) (by omega) (by omega)).mp q; omega), if_pos (show 3 < nI (lv + 1) from nI_lt (a := 3) (by omega) (by omega))]
      have v0 : lv ≤ 1 → ts1 o = 0 := fun e => by
        rw [v1, if_neg (show ¬ nI (lv + 1) = 3 from fun q => by have := (nI_eq (b := 3) (by omega) (by omega)).mp q; omega), if_neg (show ¬ 3 < nI (lv + 1) by rw [i_nlt]; exact nI_le (b := 3) (by omega) (by omega))]
      have v01 : ts1 o = 0 ∨ ts1 o = 1 := by
        rcases (show lv ≤ 1 ∨ lv = 2 ∨ 3 ≤ lv by omega) with e | e | e
        · exact Or.inl (v0 e)
        · exact Or.inr (v2 e)
        · rw [v3 e]; exact hts
      have vj : ∀ j, j < o → ts1 j = ts j := fun j hj2 => by rw [hts1]; exact if_neg (by omega)
      have sub := hsub (stS B n P) (sgn P.2.2.1 :: W) o ts1 w1.1 (stS_dg hb) (by show P.2.2.2.1.length + (W.length + 1) ≤ _; omega) ho (by omega) (by
        right
        rw [j2]
        exact nI_lt (by omega) (by omega)) (fun e => v0 (by omega)) v01 (by omega)
      rw [hcs] at sub
      have m1 := pL_mo (B := B) (ky := ky) f (lv + 1) o (cnt W) _ w1.1
      have step : Run d h M K g nx B Res (stS B n P) (P.2.2.2.1.map trc) (sgn P.2.2.1 :: W) o ts1 1 → Run d h M K g nx B Res P Cm (pend ++ W) o ts 0 := fun hR => by
        refine R_op (C1 := P.2.2.2.1.map trc) (W1 := W) hT hP j1 j6 j7 ho (by simp; omega) (fun e => ?_) hts ?_ (by simp; omega) (by rw [hcs, hcp]) hR
        · have : lv = 2 := by
            rw [j2] at e
            have := (nI_eq (b := 3) (by omega) (by omega)).mp e
            omega
          rcases h2 this with ⟨_, q⟩ | ⟨q, _⟩
          · exact q
          · omega
        · rw [j2, stl_pend ht pend Cm (fun w hw => ⟨(hpd w hw).1, (hpd w hw).2.2⟩), hC]
      generalize hg : pL B n ky f (lv + 1) o (cnt W) (stS B n P) = rr at sub m1
      by_cases c : rr.1 = true
      · rw [if_pos c]
        have hC1 : rr.2.2.2.2.1.length + 1 + W.length ≤ rr.2.1 := by
          have := m1.2.2
          have e5 : (stS B n P).2.2.2.1.length = P.2.2.2.1.length := rfl
          omega
        have next : ∀ pend2 Cm2 ts2, PostL (lv + 1) rr.2 ts1 ts2 o pend2 Cm2 → ((lpL (pL B n ky f (lv + 1) o (cnt W)) B n lv i (adS rr.2 P.2.2.1)).1 = false → (∀ R, Bad h M K g nx (lpL (pL B n ky f (lv + 1) o (cnt W)) B n lv i (adS rr.2 P.2.2.1)).2.1 R → Res R) → Run d h M K g nx B Res rr.2 Cm2 (pend2 ++ (sgn P.2.2.1 :: W)) o ts2 0) ∧ ((lpL (pL B n ky f (lv + 1) o (cnt W)) B n lv i (adS rr.2 P.2.2.1)).1 = true → (∀ pend' Cm' ts', PostL lv (lpL (pL B n ky f (lv + 1) o (cnt W)) B n lv i (adS rr.2 P.2.2.1)).2 ts ts' o pend' Cm' → Run d h M K g nx B Res (lpL (pL B n ky f (lv + 1) o (cnt W)) B n lv i (adS rr.2 P.2.2.1)).2 Cm' (pend' ++ W) o ts' 0) → Run d h M K g nx B Res rr.2 Cm2 (pend2 ++ (sgn P.2.2.1 :: W)) o ts2 0) := by
          intro pend2 Cm2 ts2 hPo
          obtain ⟨p1, p2, p3, p4, p5, p6⟩ := hPo
          have ih := ih (adS rr.2 P.2.2.1) Cm2 (pend2 ++ [sgn P.2.2.1]) ts2 m1.1 (by show rr.2.2.2.2.1.length + 1 + W.length ≤ rr.2.1; omega) (by
            show (-P.2.2.1 :: rr.2.2.2.2.1).map trc = _
            rw [List.map_cons, j3, p2]
            simp) (fun w hw => by
            simp at hw
            rcases hw with hw | rfl
            · refine ⟨(p1 w hw).1, (p1 w hw).2.1, fun q => (p1 w hw).2.2 (Int32.lt_trans q (nI_lt (by omega) (by omega)))⟩
            · exact ⟨j5, j4, by rw [j2]; exact Int32.lt_irrefl⟩) p4 (fun e => by
            right
            refine ⟨?_, ?_⟩
            · rcases h2 e with ⟨q, _⟩ | ⟨q, _⟩ <;> omega
            · rw [p5 (by omega)]; exact v2 e) (fun e => by
            have := h96 e
            have hh : P.1 < rr.2.1 := by have := m1.2.1; omega
            show 96 ≤ i + rr.2.1
            omega) p6
          rw [List.append_assoc] at ih
          refine ⟨fun e hR => ih.1 e hR, fun e hR => ih.2 e (fun pend' Cm' ts' hPo2 => hR pend' Cm' ts' ?_)⟩
          obtain ⟨q1, q2, q3, q4, q5, q6⟩ := hPo2
          exact ⟨q1, q2, fun j hj2 => by rw [q3 j hj2, p3 j hj2, vj j hj2], q4, fun e => by rw [q5 e, p5 (by omega), v3 e], q6⟩
        exact ⟨fun e hR => step (sub.2 c (fun pend2 Cm2 ts2 hPo => (next pend2 Cm2 ts2 hPo).1 e hR)), fun e hR => step (sub.2 c (fun pend2 Cm2 ts2 hPo => (next pend2 Cm2 ts2 hPo).2 e hR))⟩
      · rw [if_neg c]
        exact ⟨fun _ hR => step (sub.1 (by simpa using c) hR), fun e => (by cases e)⟩
    · rw [if_neg h1]
      refine ⟨fun e => (by cases e), fun _ hR => hR pend Cm ts ⟨hpd, hC, fun _ _ => rfl, hts, fun _ => rfl, fun l' h3 h4 h5 => ?_⟩⟩
      by_cases e : l' = lv
      · subst e; exact absurd h5 h1
      · exact hj l' (by omega) h4 h5
theorem sim_level (hT : tpR M B n) (hlv : lv < 5) (hsub : SimL d h M K g nx B Res n ky f (lv + 1)) : SimL d h M K g nx B Res n ky (f + 1) lv := by
  intro P W o ts hP hdg hl ho hd ht h2 hts hf
  have ht1 : topOK (nI (lv + 1 + 1)) W := by
    cases W with
    | nil => trivial
    | cons a W =>
      rcases ht with e | e
      · exact Or.inl e
      · exact Or.inr (Int32.lt_trans e (nI_lt (by omega) (by omega)))
  have sub := hsub P W o ts hP hdg hl ho hd ht1 (fun e => h2 (by omega)) hts (by omega)
  have m1 := pL_mo (B := B) (ky := ky) f (lv + 1) o (cnt W) P hP
  have eq : pL B n ky (f + 1) lv o (cnt W) P = if (pL B n ky f (lv + 1) o (cnt W) P).1 = true then lpL (pL B n ky f (lv + 1) o (cnt W)) B n lv (if lv = 2 then 1 else 96) (pL B n ky f (lv + 1) o (cnt W) P).2 else (false, (pL B n ky f (lv + 1) o (cnt W) P).2) := by
    show (if lv = 5 then _ else _) = _
    rw [if_neg (show ¬ lv = 5 by omega)]
  rw [eq]
  have lp := sim_loop (d := d) (h := h) (nx := nx) (K := K) (g := g) hT hlv hsub ht ho hd (by omega) (if lv = 2 then 1 else 96) (pL B n ky f (lv + 1) o (cnt W) P).2
  generalize pL B n ky f (lv + 1) o (cnt W) P = rr at sub m1 lp
  have hC1 : rr.2.2.2.2.1.length + W.length ≤ rr.2.1 := by have := m1.2.2; omega
  by_cases c : rr.1 = true
  · rw [if_pos c]
    have next : ∀ pend Cm' ts', PostL (lv + 1) rr.2 ts ts' o pend Cm' → _ := fun pend Cm' ts' hPo => lp Cm' pend ts' m1.1 hC1 hPo.2.1 (fun w hw => ⟨(hPo.1 w hw).1, (hPo.1 w hw).2.1, fun q => (hPo.1 w hw).2.2 (Int32.lt_trans q (nI_lt (by omega) (by omega)))⟩) hPo.2.2.2.1 (fun e => Or.inl ⟨if_pos e, by rw [hPo.2.2.2.2.1 (by omega)]; exact h2 (by omega)⟩) (fun e => by rw [if_neg e]; omega) hPo.2.2.2.2.2
    refine ⟨fun e hR => sub.2 c (fun pend Cm' ts' hPo => (next pend Cm' ts' hPo).1 e hR), fun e hR => sub.2 c (fun pend Cm' ts' hPo => (next pend Cm' ts' hPo).2 e (fun pend' Cm2 ts2 hPo2 => hR pend' Cm2 ts2 ?_))⟩
    obtain ⟨q1, q2, q3, q4, q5, q6⟩ := hPo2
    exact ⟨q1, q2, fun j hj => by rw [q3 j hj, hPo.2.2.1 j hj], q4, fun e => by rw [q5 e, hPo.2.2.2.2.1 (by omega)], q6⟩
  · rw [if_neg c]
    exact ⟨fun _ hR => sub.1 (by simpa using c) hR, fun e => (by cases e)⟩
theorem sim_all (hT : tpR M B n) (hky : M.1 13 = nI kn) (hkn : kn < 3) : ∀ (f : Nat), (∀ lv, lv ≤ 5 → SimL d h M K g nx B Res n (nI kn) f lv) ∧ SimP d h M K g nx B Res n (nI kn) f := by
  intro f
  induction f with
  | zero =>
    refine ⟨fun lv hlv P W o ts _ _ _ _ _ _ _ _ hf => ?_, fun P W k o ts _ _ _ _ _ _ hf => ?_⟩
    · omega
    · omega
  | succ f ih =>
    have hp := sim_piece hT hky hkn ih.2 (ih.1 0 (by omega))
    refine ⟨fun lv hlv => ?_, hp⟩
    by_cases e : lv = 5
    · subst e; exact sim_five hp
    · exact sim_level hT (by omega) (ih.1 (lv + 1) (by omega))
end YV
