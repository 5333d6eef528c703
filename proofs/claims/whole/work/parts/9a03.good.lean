/-! what is read as a TEXT can be worked out -/
def gdX (kn : Nat) (X : List Int32) : Prop := (∀ (rest : List Int32) (t : Nat), wfC rest (t + 1) → wfC (X ++ rest) t) ∧ ∀ c, c ∈ X → okc (nms kn) c
def gdR (kn : Nat) (C : List Int32) (r : PS) : Prop := ∃ X, r.2.2.2.1 = X.reverse ++ C ∧ gdX kn X
section GD
variable {B : Nat → Int32} {n kn m lv i k : Nat} {q : Int32} {X Y C : List Int32} {P P' : PS}
theorem gd_one (hm : m < 10000 + nms kn) : gdX kn [nI m] := by
  have h3 : nms kn ≤ 3 := by unfold nms; split <;> omega
  have h0 : ¬ nI m < 0 := (trc_nI (m := m) (by omega)).2
  refine ⟨fun rest t hr => ?_, fun c hc => ?_⟩
  · show wfC (nI m :: rest) t
    unfold wfC
    rw [if_neg h0]
    exact hr
  · simp at hc
    exact Or.inr (Or.inr ⟨m, hc, hm⟩)
theorem gd_not (hX : gdX kn X) : gdX kn (X ++ [-33]) := by
  refine ⟨fun rest t hr => ?_, fun c hc => ?_⟩
  · rw [List.append_assoc]
    refine hX.1 _ t ?_
    show wfC (-33 :: rest) (t + 1)
    unfold wfC
    rw [if_pos (by decide), if_pos rfl]
    exact ⟨by omega, hr⟩
  · simp at hc
    rcases hc with hc | hc
    · exact hX.2 c hc
    · exact Or.inl hc
theorem gd_two (hX : gdX kn X) (hY : gdX kn Y) (hq : sg2 (-q)) : gdX kn (X ++ (Y ++ [-q])) := by
  have e := sg2_neg hq
  refine ⟨fun rest t hr => ?_, fun c hc => ?_⟩
  · rw [List.append_assoc, List.append_assoc]
    refine hX.1 _ t (hY.1 _ (t + 1) ?_)
    show wfC (-q :: rest) (t + 1 + 1)
    unfold wfC
    rw [if_pos e.1, if_neg e.2.1]
    exact ⟨by omega, hr⟩
  · simp at hc
    rcases hc with hc | hc | hc
    · exact hX.2 c hc
    · exact hY.2 c hc
    · rw [hc]; exact Or.inr (Or.inl hq)
theorem jn_sg2 (hl : lv < 5) (hj : jns lv q = true) : sg2 (-q) := by
  match lv, hl with
  | 0, _ =>
    have : q = 124 := by simpa [jns] using hj
    subst this; decide
  | 1, _ =>
    have : q = 38 := by simpa [jns] using hj
    subst this; decide
  | 2, _ =>
    have : q = 60 ∨ q = 61 ∨ q = 62 := by simpa [jns] using hj
    rcases this with rfl | rfl | rfl <;> decide
  | 3, _ =>
    have : q = 43 ∨ q = 45 := by simpa [jns] using hj
    rcases this with rfl | rfl <;> decide
  | 4, _ =>
    have : q = 42 ∨ q = 47 := by simpa [jns] using hj
    rcases this with rfl | rfl <;> decide
theorem lpL_good {g : PS → Bool × PS} (hb : ∀ k, k < n → 0 ≤ B k ∧ B k ≤ 255) (hlv : lv < 5) (hg : ∀ P, wfP n P → dgP B P → wfP n (g P).2 ∧ ((g P).1 = true → gdR kn P.2.2.2.1 (g P).2)) : ∀ (i : Nat) (P : PS), wfP n P → gdR kn C P → (lpL g B n lv i P).1 = true → gdR kn C (lpL g B n lv i P).2
  | 0, P, hP, hC, _ => hC
  | i + 1, P, hP, hC, he => by
    unfold lpL at he ⊢
    by_cases h1 : jns lv P.2.2.1 = true
    · rw [if_pos h1] at he ⊢
      have w1 := hg (stS B n P) (stS_wf hP).1 (stS_dg hb)
      by_cases h2 : (g (stS B n P)).1 = true
      · rw [if_pos h2] at he ⊢
        obtain ⟨X, eX, gX⟩ := hC
        obtain ⟨Y, eY, gY⟩ := w1.2 h2
        refine lpL_good hb hlv hg i _ w1.1 ⟨X ++ (Y ++ [-P.2.2.1]), ?_, gd_two gX gY (jn_sg2 hlv h1)⟩ he
        show -P.2.2.1 :: (g (stS B n P)).2.2.2.2.1 = _
        rw [eY, show (stS B n P).2.2.2.1 = P.2.2.2.1 from rfl, eX]
        simp
      · rw [if_neg h2] at he; cases he
    · rw [if_neg h1] at he ⊢
      exact hC
theorem pL_good (hb : ∀ k, k < n → 0 ≤ B k ∧ B k ≤ 255) (hkn : kn < 3) : ∀ (f lv o dn : Nat) (P : PS), lv ≤ 5 → wfP n P → dgP B P → (pL B n (nI kn) f lv o dn P).1 = true → gdR kn P.2.2.2.1 (pL B n (nI kn) f lv o dn P).2
  | 0, lv, o, dn, P, _, _, _, he => by unfold pL at he; cases he
  | f + 1, lv, o, dn, P, hlv, hP, hdg, he => by
    unfold pL at he ⊢
    by_cases h5 : lv = 5
    · rw [if_pos h5] at he ⊢
      by_cases h33 : P.2.2.1 = 33
      · rw [if_pos h33] at he ⊢
        by_cases h8 : dn < 8
        · rw [if_pos h8] at he ⊢
          by_cases h2 : (pL B n (nI kn) f 5 o (dn + 1) (stS B n P)).1 = true
          · rw [if_pos h2] at he ⊢
            obtain ⟨Y, eY, gY⟩ := pL_good hb hkn f 5 o (dn + 1) (stS B n P) (by omega) (stS_wf hP).1 (stS_dg hb) h2
            refine ⟨Y ++ [-33], ?_, gd_not gY⟩
            show -33 :: (pL B n (nI kn) f 5 o (dn + 1) (stS B n P)).2.2.2.2.1 = _
            rw [eY]
            simp
            rfl
          · rw [if_neg h2] at he; cases he
        · rw [if_neg h8] at he; cases he
      · rw [if_neg h33] at he ⊢
        by_cases h40 : P.2.2.1 = 40
        · rw [if_pos h40] at he ⊢
          by_cases h8 : o < 8
          · rw [if_pos h8] at he ⊢
            by_cases h2 : (pL B n (nI kn) f 0 (o + 1) dn (stS B n P)).1 = true
            · rw [if_pos h2] at he ⊢
              by_cases h3 : (pL B n (nI kn) f 0 (o + 1) dn (stS B n P)).2.2.2.1 = 41
              · rw [if_pos h3] at he ⊢
                exact pL_good hb hkn f 0 (o + 1) dn (stS B n P) (by omega) (stS_wf hP).1 (stS_dg hb) h2
              · rw [if_neg h3] at he; cases he
            · rw [if_neg h2] at he; cases he
          · rw [if_neg h8] at he; cases he
        · rw [if_neg h40] at he ⊢
          cases hA : pcA B n (nI kn) P with
          | none => rw [hA] at he; cases he
          | some P' =>
            obtain ⟨m, hm, e1⟩ := pcA_ok hkn hP hdg hA
            refine ⟨[nI m], ?_, gd_one hm⟩
            dsimp only
            rw [e1]
            rfl
    · rw [if_neg h5] at he ⊢
      by_cases h2 : (pL B n (nI kn) f (lv + 1) o dn P).1 = true
      · rw [if_pos h2] at he ⊢
        have m1 := pL_mo (B := B) (ky := nI kn) f (lv + 1) o dn P hP
        exact lpL_good hb (by omega) (fun P hP hdg => ⟨(pL_mo (B := B) (ky := nI kn) f (lv + 1) o dn P hP).1, pL_good hb hkn f (lv + 1) o dn P (by omega) hP hdg⟩) _ _ m1.1 (pL_good hb hkn f (lv + 1) o dn P (by omega) hP hdg h2) he
      · rw [if_neg h2] at he; cases he
theorem rky_lt {p a : Nat} (e : rky B p a = some k) : k < 3 := by
  unfold rky at e
  split at e
  · cases e; omega
  split at e
  · cases e; omega
  split at e
  · cases e; omega
  · cases e
/-- a TEXT: its key, its codes -/
theorem txF_good (hn : n ≤ 96) (hb : ∀ k, k < n → 0 ≤ B k ∧ B k ≤ 255) (e : (txF B n).1 = some k) : k < 3 ∧ gdX k (txF B n).2.2.2.2.1.reverse ∧ (txF B n).2.2.2.2.1.length ≤ 96 := by
  unfold txF at e ⊢
  by_cases h1 : (tx0 B n).2.2.1 = 256
  · rw [if_pos h1] at e ⊢
    cases hk : rky B (tx0 B n).1 (tx0 B n).2.1 with
    | none => rw [hk] at e; cases e
    | some k' =>
      rw [hk] at e
      dsimp only at e ⊢
      by_cases c : (pL B n (nI k') 62 0 0 0 (stS B n (tx0 B n))).1 = true ∧ (pL B n (nI k') 62 0 0 0 (stS B n (tx0 B n))).2.2.2.1 = 258
      · rw [if_pos c] at e ⊢
        cases e
        have hk3 := rky_lt hk
        have w := wf_260 (B := B) (n := n)
        obtain ⟨X, eX, gX⟩ := pL_good hb hk3 62 0 0 0 (stS B n (tx0 B n)) (by omega) (stS_wf w).1 (stS_dg hb) c.1
        have m1 := pL_mo (B := B) (ky := nI k) 62 0 0 0 _ (stS_wf (B := B) w).1
        refine ⟨hk3, ?_, ?_⟩
        · dsimp only
          rw [eX]
          have : X.reverse ++ (stS B n (tx0 B n)).2.2.2.1 = X.reverse := by
            show X.reverse ++ [] = _
            simp
          rw [this, List.reverse_reverse]
          exact gX
        · have := m1.2.2
          have h4 : (stS B n (tx0 B n)).2.2.2.1.length = 0 := rfl
          have h6 := m1.1.1
          dsimp only
          omega
      · rw [if_neg c] at e; cases e
  · rw [if_neg h1] at e; cases e
theorem SR_list {st : Nat → Int32} {C : List Int32} (h : SR st C) : (List.range C.length).map st = C.reverse := by
  apply List.ext_getElem
  · simp
  · intro j h1 h2
    simp at h1
    simp
    rw [h j h1, List.getD_eq_getElem?_getD, List.getElem?_eq_getElem (show C.length - 1 - j < C.length by omega)]
    rfl
end GD
