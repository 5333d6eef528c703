/-! the reader: levels -/
/-- place, after, seen, the steps (the last first), how many operands -/
abbrev PS : Type := Nat × Nat × Int32 × List Int32 × Nat
def stS (B : Nat → Int32) (n : Nat) (P : PS) : PS := (stP B n P.2.1, stA B n P.2.1, stQ B n P.2.1 P.2.2.1, P.2.2.2)
def adO (P : PS) (x : Int32) : PS := (P.1, P.2.1, P.2.2.1, x :: P.2.2.2.1, P.2.2.2.2 + 1)
def adS (P : PS) (x : Int32) : PS := (P.1, P.2.1, P.2.2.1, -x :: P.2.2.2.1, P.2.2.2.2)
def jns (lv : Nat) (q : Int32) : Bool := if lv = 0 then decide (q = 124) else if lv = 1 then decide (q = 38) else if lv = 2 then decide (q = 60 ∨ q = 61 ∨ q = 62) else if lv = 3 then decide (q = 43 ∨ q = 45) else decide (q = 42 ∨ q = 47)
/-- a NUMBER or a NAME -/
def pcA (B : Nat → Int32) (n : Nat) (ky : Int32) (P : PS) : Option PS := if P.2.2.1 = 257 then (if P.2.1 - P.1 ≤ 4 then some (stS B n (adO P (numF B (P.2.1 - P.1) P.1 0))) else none) else if P.2.2.1 = 256 then (match (if P.2.1 = P.1 + 1 then nmF B P.1 (strT (nmS ky)) 0 else none) with | some k => some (stS B n (adO P (10000 + nI k))) | none => none) else none
def lpL (g : PS → Bool × PS) (B : Nat → Int32) (n lv : Nat) : Nat → PS → Bool × PS
  | 0, P => (true, P)
  | i + 1, P => if jns lv P.2.2.1 = true then (if (g (stS B n P)).1 = true then lpL g B n lv i (adS (g (stS B n P)).2 P.2.2.1) else (false, (g (stS B n P)).2)) else (true, P)
def pL (B : Nat → Int32) (n : Nat) (ky : Int32) : Nat → Nat → Nat → Nat → PS → Bool × PS
  | 0, _, _, _, P => (false, P)
  | f + 1, lv, o, dn, P => if lv = 5 then
      (if P.2.2.1 = 33 then (if dn < 8 then (if (pL B n ky f 5 o (dn + 1) (stS B n P)).1 = true then (true, adS (pL B n ky f 5 o (dn + 1) (stS B n P)).2 33) else (false, (pL B n ky f 5 o (dn + 1) (stS B n P)).2)) else (false, P))
      else if P.2.2.1 = 40 then (if o < 8 then (if (pL B n ky f 0 (o + 1) dn (stS B n P)).1 = true then (if (pL B n ky f 0 (o + 1) dn (stS B n P)).2.2.2.1 = 41 then (true, stS B n (pL B n ky f 0 (o + 1) dn (stS B n P)).2) else (false, (pL B n ky f 0 (o + 1) dn (stS B n P)).2)) else (false, (pL B n ky f 0 (o + 1) dn (stS B n P)).2)) else (false, P))
      else match pcA B n ky P with | some P' => (true, P') | none => (false, P))
    else (if (pL B n ky f (lv + 1) o dn P).1 = true then lpL (pL B n ky f (lv + 1) o dn) B n lv (if lv = 2 then 1 else 96) (pL B n ky f (lv + 1) o dn P).2 else (false, (pL B n ky f (lv + 1) o dn P).2))
/-- a state that can be -/
def wfP (n : Nat) (P : PS) : Prop := P.1 ≤ n ∧ P.2.1 ≤ n ∧ P.1 ≤ P.2.1 ∧ (P.2.2.1 ≠ 258 → P.1 < P.2.1)
def moP (n : Nat) (P P' : PS) : Prop := wfP n P' ∧ P.1 ≤ P'.1 ∧ P'.2.2.2.1.length + P.1 ≤ P.2.2.2.1.length + P'.1
section RF
variable {d : Nat} {h : AH} {nx : AN} {n p a N o k j s : Nat} {S : CS} {q ky x y z u : Int32} {st B : Nat → Int32} {P P' P2 : PS} {l1 l2 l3 l4 l5 l6 : Value}
theorem moP.refl (hP : wfP n P) : moP n P P := ⟨hP, Nat.le_refl _, Nat.le_refl _⟩
theorem moP.trans (h1 : moP n P P') (h2 : moP n P' P2) : moP n P P2 := ⟨h2.1, Nat.le_trans h1.2.1 h2.2.1, by have a1 := h1.2.2; have a2 := h2.2.2; omega⟩
theorem stT_le (hp : p ≤ n) : (stT B n p).1 ≤ n ∧ p ≤ (stT B n p).1 ∧ ((stT B n p).2 ≠ 258 → p < (stT B n p).1) := by
  unfold stT
  by_cases h1 : n ≤ p
  · rw [if_pos h1]; exact ⟨Nat.le_refl _, hp, fun e => absurd rfl e⟩
  rw [if_neg h1]
  have big : ∀ lo hi : Int32, inb B n p lo hi → p < skp B n lo hi 96 p ∧ skp B n lo hi 96 p ≤ n := by
    intro lo hi hb
    have e : skp B n lo hi 96 p = skp B n lo hi 95 (p + 1) := by
      show (if inb B n p lo hi then skp B n lo hi 95 (p + 1) else p) = _
      rw [if_pos hb]
    rw [e]
    have := skp_le (B := B) (n := n) (lo := lo) (hi := hi) 95 (p + 1)
    exact ⟨by omega, this.2 hb.1⟩
  by_cases h2 : inb B n p 97 122
  · rw [if_pos h2]
    have := big _ _ h2
    exact ⟨this.2, by dsimp only; omega, fun _ => this.1⟩
  rw [if_neg h2]
  by_cases h3 : inb B n p 48 57
  · rw [if_pos h3]
    have := big _ _ h3
    exact ⟨this.2, by dsimp only; omega, fun _ => this.1⟩
  · rw [if_neg h3]
    exact ⟨by dsimp only; omega, by dsimp only; omega, fun _ => by dsimp only; omega⟩
theorem stP_le (ha : a ≤ n) : a ≤ stP B n a ∧ stP B n a ≤ n := ⟨(skp_le 96 a).1, (skp_le 96 a).2 ha⟩
theorem stQ_258 (h : stQ B n a q ≠ 258) (ha : a ≤ n) : stP B n a < stA B n a := by
  refine (stT_le (B := B) (stP_le ha).2).2.2 (fun e => h ?_)
  unfold stQ
  rw [e]
  by_cases c : isW q ∧ isW 258 ∧ stP B n a = a
  · exact absurd c.2.1 (by decide)
  · rw [if_neg c]
theorem stS_wf (hP : wfP n P) : wfP n (stS B n P) ∧ P.2.1 ≤ (stS B n P).1 := by
  obtain ⟨h1, h2, h3, h4⟩ := hP
  have e1 := stP_le (B := B) h2
  have e2 := stT_le (B := B) e1.2
  exact ⟨⟨e1.2, e2.1, e2.2.1, fun e => stQ_258 e h2⟩, e1.1⟩
theorem stS_mo (hP : wfP n P) : moP n P (stS B n P) := by
  have e := stS_wf (B := B) hP
  have h3 := hP.2.2.1
  refine ⟨e.1, by omega, ?_⟩
  show P.2.2.2.1.length + P.1 ≤ P.2.2.2.1.length + (stS B n P).1
  omega
theorem stS_lt (hP : wfP n P) (hq : P.2.2.1 ≠ 258) : P.1 < (stS B n P).1 := Nat.lt_of_lt_of_le (hP.2.2.2 hq) (stS_wf hP).2
theorem adO_mo (hP : wfP n P) (hq : P.2.2.1 ≠ 258) : moP n P (stS B n (adO P x)) := by
  have hP' : wfP n (adO P x) := hP
  have e := stS_wf (B := B) hP'
  have e2 := stS_lt (B := B) hP' hq
  refine ⟨e.1, Nat.le_of_lt e2, ?_⟩
  show (P.2.2.2.1.length + 1) + P.1 ≤ P.2.2.2.1.length + (stS B n (adO P x)).1
  have : (adO P x).1 = P.1 := rfl
  omega
theorem pcA_mo (hP : wfP n P) (e : pcA B n ky P = some P') : moP n P P' := by
  unfold pcA at e
  by_cases h1 : P.2.2.1 = 257
  · rw [if_pos h1] at e
    by_cases h2 : P.2.1 - P.1 ≤ 4
    · rw [if_pos h2] at e
      cases e
      exact adO_mo hP (by rw [h1]; decide)
    · rw [if_neg h2] at e; cases e
  rw [if_neg h1] at e
  by_cases h2 : P.2.2.1 = 256
  · rw [if_pos h2] at e
    generalize (if P.2.1 = P.1 + 1 then nmF B P.1 (strT (nmS ky)) 0 else none) = r at e
    cases r with
    | none => cases e
    | some k =>
      cases e
      exact adO_mo hP (by rw [h2]; decide)
  · rw [if_neg h2] at e; cases e
theorem jns_258 {lv : Nat} (hj : jns lv q = true) : q ≠ 258 := by
  rintro rfl
  revert hj
  unfold jns
  repeat' split
  all_goals decide
theorem lpL_mo {g : PS → Bool × PS} {lv : Nat} (hg : ∀ P, wfP n P → moP n P (g P).2) : ∀ (i : Nat) (P : PS), wfP n P → moP n P (lpL g B n lv i P).2
  | 0, P, hP => moP.refl hP
  | i + 1, P, hP => by
    unfold lpL
    by_cases h1 : jns lv P.2.2.1 = true
    · rw [if_pos h1]
      have e1 := stS_wf (B := B) hP
      have e2 := stS_lt (B := B) hP (jns_258 h1)
      have e3 := hg _ e1.1
      by_cases h2 : (g (stS B n P)).1 = true
      · rw [if_pos h2]
        refine moP.trans (P' := adS (g (stS B n P)).2 P.2.2.1) ⟨e3.1, ?_, ?_⟩ (lpL_mo hg i _ e3.1)
        · show P.1 ≤ (g (stS B n P)).2.1
          have := e3.2.1
          omega
        · show ((g (stS B n P)).2.2.2.2.1.length + 1) + P.1 ≤ P.2.2.2.1.length + (g (stS B n P)).2.1
          have e4 := e3.2.2
          have e5 : (stS B n P).2.2.2.1.length = P.2.2.2.1.length := rfl
          omega
      · rw [if_neg h2]
        exact (stS_mo hP).trans e3
    · rw [if_neg h1]
      exact moP.refl hP
theorem pL_mo : ∀ (f lv o dn : Nat) (P : PS), wfP n P → moP n P (pL B n ky f lv o dn P).2
  | 0, _, _, _, P, hP => moP.refl hP
  | f + 1, lv, o, dn, P, hP => by
    unfold pL
    by_cases h5 : lv = 5
    · rw [if_pos h5]
      by_cases h1 : P.2.2.1 = 33
      · rw [if_pos h1]
        have hq : P.2.2.1 ≠ 258 := by rw [h1]; decide
        by_cases h2 : dn < 8
        · rw [if_pos h2]
          have e1 := stS_wf (B := B) hP
          have e2 := stS_lt (B := B) hP hq
          have e3 := pL_mo f 5 o (dn + 1) _ e1.1
          by_cases h3 : (pL B n ky f 5 o (dn + 1) (stS B n P)).1 = true
          · rw [if_pos h3]
            refine ⟨e3.1, ?_, ?_⟩
            · show P.1 ≤ (pL B n ky f 5 o (dn + 1) (stS B n P)).2.1
              have := e3.2.1
              omega
            · show ((pL B n ky f 5 o (dn + 1) (stS B n P)).2.2.2.2.1.length + 1) + P.1 ≤ P.2.2.2.1.length + (pL B n ky f 5 o (dn + 1) (stS B n P)).2.1
              have e4 := e3.2.2
              have e5 : (stS B n P).2.2.2.1.length = P.2.2.2.1.length := rfl
              omega
          · rw [if_neg h3]
            exact (stS_mo hP).trans e3
        · rw [if_neg h2]; exact moP.refl hP
      rw [if_neg h1]
      by_cases h2 : P.2.2.1 = 40
      · rw [if_pos h2]
        by_cases h3 : o < 8
        · rw [if_pos h3]
          have e3 := pL_mo f 0 (o + 1) dn _ (stS_wf (B := B) hP).1
          have e4 := (stS_mo hP).trans e3
          by_cases h4 : (pL B n ky f 0 (o + 1) dn (stS B n P)).1 = true
          · rw [if_pos h4]
            by_cases h6 : (pL B n ky f 0 (o + 1) dn (stS B n P)).2.2.2.1 = 41
            · rw [if_pos h6]
              exact e4.trans (stS_mo e3.1)
            · rw [if_neg h6]; exact e4
          · rw [if_neg h4]; exact e4
        · rw [if_neg h3]; exact moP.refl hP
      rw [if_neg h2]
      cases e : pcA B n ky P with
      | none => exact moP.refl hP
      | some P' => exact pcA_mo hP e
    · rw [if_neg h5]
      have e1 := pL_mo f (lv + 1) o dn P hP
      by_cases h1 : (pL B n ky f (lv + 1) o dn P).1 = true
      · rw [if_pos h1]
        exact e1.trans (lpL_mo (fun P hP => pL_mo f (lv + 1) o dn P hP) _ _ e1.1)
      · rw [if_neg h1]; exact e1
def RQ (h : AH) (S : CS) (n : Nat) (B : Nat → Int32) (ky : Int32) (P : PS) (st : Nat → Int32) : AH := RP h S n B P.1 P.2.1 P.2.2.1 P.2.2.2.1.length ky P.2.2.2.2 st
theorem kQ : ck (RQ h S n B ky P st) 88 4 = true := rfl
theorem kQl : ck (RQ h S n B ky P st) 89 2 = true := rfl
theorem gQ0 : gF (RQ h S n B ky P st) 88 4 0 = some (.ref 89) := rfl
theorem gQ5 : gF (RQ h S n B ky P st) 88 4 5 = some (.int P.2.2.1) := rfl
theorem Q_step (hn : n ≤ 96) (ha : P.2.1 ≤ n) : Dn (d + 3) 40 [.ref 88] (RQ h S n B ky P st) nx = some (none, RQ h S n B ky (stS B n P) st, nx) := c_step hn ha
theorem Q_sign (hN : P.2.2.2.1.length < 96) : Dn (d + 2) 30 [.ref 89, .int x] (RQ h S n B ky P st) nx = some (none, RQ h S n B ky (adS P x) (upd st P.2.2.2.1.length (-x)), nx) := c_addSign hN
theorem c_joins {lv : Nat} (hl : lv < 5) : Dn (d + 1) 54 [.int (nI lv), .int q] h nx = some (some (.int (pi (jns lv q = true))), h, nx) := by
  match lv, hl with
  | 0, _ =>
    simp only [n_54, e_54_0, e_54_1, e_54_32, e_54_33, e_54_35, e_54_38, e_54_39, e_54_42, e_54_43, e_54_44, e_54_45, e_54_47, e_54_50, e_54_51, e_54_54, e_54_55, e_54_56, e_54_57, e_54_59, e_54_62, e_54_63, e_54_65, e_54_68, e_54_69, e_54_71, e_54_74, e_54_75, e_54_78, e_54_79, e_54_80, e_54_81, e_54_83, e_54_86, e_54_87, e_54_89, e_54_92, e_54_93, e_54_96, e_54_97, e_54_98, e_54_99, e_54_101, e_54_104, e_54_105, e_54_107, e_54_110, e_54_111, e_54_114, e_54_115, nR_b0, nR_b1, if_true]
    by_cases h1 : q = 124 <;> simp [h1, pi, jns, show nI 0 = 0 from rfl]
  | 1, _ =>
    simp only [n_54, e_54_0, e_54_1, e_54_32, e_54_33, e_54_35, e_54_38, e_54_39, e_54_42, e_54_43, e_54_44, e_54_45, e_54_47, e_54_50, e_54_51, e_54_54, e_54_55, e_54_56, e_54_57, e_54_59, e_54_62, e_54_63, e_54_65, e_54_68, e_54_69, e_54_71, e_54_74, e_54_75, e_54_78, e_54_79, e_54_80, e_54_81, e_54_83, e_54_86, e_54_87, e_54_89, e_54_92, e_54_93, e_54_96, e_54_97, e_54_98, e_54_99, e_54_101, e_54_104, e_54_105, e_54_107, e_54_110, e_54_111, e_54_114, e_54_115, nR_b0, nR_b1, if_true]
    by_cases h1 : q = 38 <;> simp [h1, pi, jns, show nI 1 = 1 from rfl]
  | 2, _ =>
    simp only [n_54, e_54_0, e_54_1, e_54_32, e_54_33, e_54_35, e_54_38, e_54_39, e_54_42, e_54_43, e_54_44, e_54_45, e_54_47, e_54_50, e_54_51, e_54_54, e_54_55, e_54_56, e_54_57, e_54_59, e_54_62, e_54_63, e_54_65, e_54_68, e_54_69, e_54_71, e_54_74, e_54_75, e_54_78, e_54_79, e_54_80, e_54_81, e_54_83, e_54_86, e_54_87, e_54_89, e_54_92, e_54_93, e_54_96, e_54_97, e_54_98, e_54_99, e_54_101, e_54_104, e_54_105, e_54_107, e_54_110, e_54_111, e_54_114, e_54_115, nR_b0, nR_b1, if_true]
    by_cases h1 : q = 60
    · simp [h1, pi, jns, show nI 2 = 2 from rfl]
    · by_cases h2 : q = 61
      · simp [h1, h2, pi, jns, show nI 2 = 2 from rfl]
      · by_cases h3 : q = 62 <;> simp [h1, h2, h3, pi, jns, show nI 2 = 2 from rfl]
  | 3, _ =>
    simp only [n_54, e_54_0, e_54_1, e_54_32, e_54_33, e_54_35, e_54_38, e_54_39, e_54_42, e_54_43, e_54_44, e_54_45, e_54_47, e_54_50, e_54_51, e_54_54, e_54_55, e_54_56, e_54_57, e_54_59, e_54_62, e_54_63, e_54_65, e_54_68, e_54_69, e_54_71, e_54_74, e_54_75, e_54_78, e_54_79, e_54_80, e_54_81, e_54_83, e_54_86, e_54_87, e_54_89, e_54_92, e_54_93, e_54_96, e_54_97, e_54_98, e_54_99, e_54_101, e_54_104, e_54_105, e_54_107, e_54_110, e_54_111, e_54_114, e_54_115, nR_b0, nR_b1, if_true]
    by_cases h1 : q = 43
    · simp [h1, pi, jns, show nI 3 = 3 from rfl]
    · by_cases h2 : q = 45 <;> simp [h1, h2, pi, jns, show nI 3 = 3 from rfl]
  | 4, _ =>
    simp only [n_54, e_54_0, e_54_1, e_54_32, e_54_33, e_54_35, e_54_38, e_54_39, e_54_42, e_54_43, e_54_44, e_54_45, e_54_47, e_54_50, e_54_51, e_54_54, e_54_55, e_54_56, e_54_57, e_54_59, e_54_62, e_54_63, e_54_65, e_54_68, e_54_69, e_54_71, e_54_74, e_54_75, e_54_78, e_54_79, e_54_80, e_54_81, e_54_83, e_54_86, e_54_87, e_54_89, e_54_92, e_54_93, e_54_96, e_54_97, e_54_98, e_54_99, e_54_101, e_54_104, e_54_105, e_54_107, e_54_110, e_54_111, e_54_114, e_54_115, nR_b0, nR_b1, if_true]
    by_cases h1 : q = 42
    · simp [h1, pi, jns, show nI 4 = 4 from rfl]
    · by_cases h2 : q = 47 <;> simp [h1, h2, pi, jns, show nI 4 = 4 from rfl]
end RF
