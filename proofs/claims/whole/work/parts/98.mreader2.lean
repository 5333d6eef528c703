/-! the model's reader: words, signs, names -/
def tkR (B : Nat → Int32) (p a : Nat) (q tk vl : Int32) : Prop := if q = 258 then tk = 0 else if q = 256 then tk = 1 ∧ vl = B p else if q = 257 then (if a - p ≤ 4 then tk = 2 ∧ vl = numF B (a - p) p 0 else tk = 4) else if q = 259 then tk = 4 else tk = 3 ∧ vl = q
def eR (q : Int32) (nt : Nat) (en : Int32) : Prop := (isW q → en = nI nt) ∧ (¬ isW q → ∀ k, nt ≤ k → k ≤ 96 → ¬ nI k = en)
/-- the tape: n bytes -/
def tpR (M : MS) (B : Nat → Int32) (n : Nat) : Prop := n ≤ 96 ∧ M.1 7 = nI n ∧ (∀ k, k < n → M.2 128 k = B k) ∧ ∀ k, k < n → 0 ≤ B k ∧ B k ≤ 255
def rnk (w : Int32) : Int32 := if w = -1 then 1 else if w = -2 then 2 else if -5 ≤ w then 3 else if -7 ≤ w then 4 else if -9 ≤ w then 5 else 6
def stl (r : Int32) : List Int32 → List Int32 → List Int32 × List Int32
  | [], C => ([], C)
  | w :: W, C => if w = -11 ∨ rnk w < r then (w :: W, C) else stl r W (w :: C)
def cnt : List Int32 → Nat
  | [] => 0
  | w :: W => cnt W + (if w = -10 then 1 else 0)
def cnF (f : Nat → Int32) : Nat → Nat
  | 0 => 0
  | k + 1 => cnF f k + (if f k = -10 then 1 else 0)
def sgn (q : Int32) : Int32 := if q = 38 then -2 else if q = 42 then -8 else if q = 43 then -6 else if q = 45 then -7 else if q = 47 then -9 else if q = 60 then -3 else if q = 61 then -4 else if q = 62 then -5 else if q = 124 then -1 else 0
section YZ
variable {d : Nat} {h : AH} {nx : AN} {M : MS} {K : (Nat → Int32) × (Nat → Int32)} {g cd wt ts B : Nat → Int32} {nt fr N o w n a p k : Nat} {tk vl en x y q r : Int32} {l1 l2 l3 l4 : Value} {C W : List Int32}
theorem byte_ne (hb : 0 ≤ x ∧ x ≤ 255) : ¬ x = 256 ∧ ¬ x = 257 ∧ ¬ x = 258 ∧ ¬ x = 259 := by
  refine ⟨?_, ?_, ?_, ?_⟩ <;> (rintro rfl; exact absurd hb.2 (by decide))
theorem close_eq (he : eR q a en) (ha : a ≤ stP B n a) (hp : stP B n a ≤ 96) : (nI (stP B n a) = en) = (isW q ∧ stP B n a = a) := by
  apply propext
  by_cases h1 : isW q
  · rw [he.1 h1]
    exact ⟨fun e => ⟨h1, (nI_eq (by omega) (by omega)).mp e⟩, fun e => by rw [e.2]⟩
  · exact ⟨fun e => absurd e (he.2 h1 _ ha hp), fun e => absurd e.1 h1⟩
theorem c_go (hT : tpR M B n) (ha : a ≤ n) (he : eR q a en) : ∃ tk' vl' en', tkR B (stP B n a) (stA B n a) (stQ B n a q) tk' vl' ∧ (¬ stQ B n a q = 258 → ¬ stQ B n a q = 259 → eR (stQ B n a q) (stA B n a) en') ∧ Dn (d + 2) 182 [.ref 123] (YH h M K g a fr tk vl en N o w cd wt ts) nx = some (none, YH h M K g (stA B n a) (stP B n a) tk' vl' en' N o w cd wt ts, nx) := by
  obtain ⟨hn, h7, hB, hb⟩ := hT
  have hp := stP_le (B := B) ha
  have hp96 : stP B n a ≤ 96 := by omega
  have ec := close_eq (B := B) (n := n) he hp.1 hp96
  have pre : Dn (d + 2) 182 [.ref 123] (YH h M K g a fr tk vl en N o w cd wt ts) nx = Df (d + 1) 182 63 [.ref 123, .int (pi (isW q ∧ stP B n a = a))] [] (YH h M K g (stP B n a) (stP B n a) tk vl en N o w cd wt ts) nx := by
    have bl := blank_loop (d := d + 1) (h := h) (nx := nx) (K := K) (g := g) (fr := fr) (tk := tk) (vl := vl) (en := en) (N := N) (o := o) (w := w) (cd := cd) (wt := wt) (ts := ts) (l1 := .null) hB h7 hn 96 a (by omega) (by omega)
    rw [show skp B n 32 32 96 a = stP B n a from rfl] at bl
    simp only [n_182]
    rw [bl]
    simp only [e_182_38, e_182_39, e_182_40, e_182_43, e_182_46, e_182_47, e_182_50, e_182_51, e_182_54, e_182_57, e_182_58, e_182_61, e_182_62n, e_182_62i, e_182_62r, gY8, qY9, gY9, gY12, Option.bind_some]
    by_cases c : nI (stP B n a) = en
    · have c' : isW q ∧ stP B n a = a := ec ▸ c
      rw [if_pos c, show pi (isW q ∧ stP B n a = a) = 1 from if_pos c']
    · have c' : ¬ (isW q ∧ stP B n a = a) := fun e => c (ec ▸ e)
      rw [if_neg c, show pi (isW q ∧ stP B n a = a) = 0 from if_neg c']
  by_cases h1 : stP B n a < n
  · have hne : ¬ nI (stP B n a) = nI n := fun e => by have := (nI_eq (by omega) (by omega)).mp e; omega
    by_cases h2 : inb B n (stP B n a) 97 122
    · have eT : stT B n (stP B n a) = (skp B n 97 122 96 (stP B n a), 256) := by unfold stT; rw [if_neg (by omega), if_pos h2]
      have eA : stA B n a = skp B n 97 122 96 (stP B n a) := by unfold stA; rw [eT]
      have eQ : stQ B n a q = if isW q ∧ stP B n a = a then 259 else 256 := by
        unfold stQ
        rw [eT]
        by_cases c : isW q ∧ stP B n a = a
        · rw [if_pos ⟨c.1, Or.inl rfl, c.2⟩, if_pos c]
        · rw [if_neg (fun e => c ⟨e.1, e.2.2⟩), if_neg c]
      refine ⟨if isW q ∧ stP B n a = a then 4 else 1, B (stP B n a), nI (stA B n a), ?_, fun _ h259 => ?_, ?_⟩
      · rw [eQ]
        unfold tkR
        by_cases c : isW q ∧ stP B n a = a
        · rw [if_pos c, if_pos c, if_neg (by decide), if_neg (by decide), if_neg (by decide), if_pos rfl]
        · rw [if_neg c, if_neg c, if_neg (by decide), if_pos rfl]
          exact ⟨rfl, rfl⟩
      · rw [eQ] at h259 ⊢
        have c : ¬ (isW q ∧ stP B n a = a) := fun c => h259 (if_pos c)
        rw [if_neg c]
        exact ⟨fun _ => rfl, fun q => absurd (Or.inl rfl) q⟩
      · have ll := letter_loop (d := d) (h := h) (nx := nx) (K := K) (g := g) (fr := stP B n a) (tk := tk) (vl := vl) (en := en) (N := N) (o := o) (w := w) (cd := cd) (wt := wt) (ts := ts) (l1 := .int (pi (isW q ∧ stP B n a = a))) hB h7 hn 96 (stP B n a) (by omega) (by omega)
        rw [pre]
        simp only [e_182_63, e_182_64, e_182_67, e_182_68, e_182_71, e_182_74, e_182_75, e_182_76, e_182_79, e_182_82, e_182_83, e_182_84, e_182_87, e_182_90, gY7, gY9, h7, kY, if_true, c_isLetter hB h7 hn hp96, cn_s, pi_if, Option.bind_some]
        rw [if_neg hne, if_pos h2, ll, ← eA]
        simp only [e_182_117, e_182_118, e_182_119, e_182_122, e_182_123, e_182_126, e_182_127, e_182_130, e_182_131, e_182_132, e_182_135, e_182_136, e_182_139, e_182_140, e_182_143, e_182_144, e_182_145, e_182_148, e_182_151, e_182_303, gY6, gY8, gY9, rY128 (show stP B n a < 96 by omega), hB _ h1, qY10, qY11, qY12, pi_if, Option.bind_some]
        by_cases c : isW q ∧ stP B n a = a
        · rw [if_pos c, if_pos c]
        · rw [if_neg c, if_neg c]
    · by_cases h3 : inb B n (stP B n a) 48 57
      · have eT : stT B n (stP B n a) = (skp B n 48 57 96 (stP B n a), 257) := by unfold stT; rw [if_neg (by omega), if_neg h2, if_pos h3]
        have eA : stA B n a = skp B n 48 57 96 (stP B n a) := by unfold stA; rw [eT]
        have eQ : stQ B n a q = if isW q ∧ stP B n a = a then 259 else 257 := by
          unfold stQ
          rw [eT]
          by_cases c : isW q ∧ stP B n a = a
          · rw [if_pos ⟨c.1, Or.inr rfl, c.2⟩, if_pos c]
          · rw [if_neg (fun e => c ⟨e.1, e.2.2⟩), if_neg c]
        have hpa : stP B n a ≤ stA B n a := by rw [eA]; exact (skp_le 96 _).1
        have han : stA B n a ≤ n := by rw [eA]; exact (skp_le 96 _).2 hp.2
        refine ⟨if (isW q ∧ stP B n a = a) ∨ 4 < stA B n a - stP B n a then 4 else 2, numF B (min (stA B n a - stP B n a) 4) (stP B n a) 0, nI (stA B n a), ?_, fun _ h259 => ?_, ?_⟩
        · rw [eQ]
          unfold tkR
          by_cases c : isW q ∧ stP B n a = a
          · rw [if_pos c, if_pos (Or.inl c), if_neg (by decide), if_neg (by decide), if_neg (by decide), if_pos rfl]
          · rw [if_neg c, if_neg (by decide), if_neg (by decide), if_pos rfl]
            by_cases c4 : stA B n a - stP B n a ≤ 4
            · rw [if_pos c4, if_neg (fun e => e.elim c (by omega)), Nat.min_eq_left c4]
              exact ⟨rfl, rfl⟩
            · rw [if_neg c4, if_pos (Or.inr (by omega))]
        · rw [eQ] at h259 ⊢
          have c : ¬ (isW q ∧ stP B n a = a) := fun c => h259 (if_pos c)
          rw [if_neg c]
          exact ⟨fun _ => rfl, fun q => absurd (Or.inr rfl) q⟩
        · have ll := figure_loop (d := d) (h := h) (nx := nx) (K := K) (g := g) (fr := stP B n a) (tk := tk) (en := en) (N := N) (o := o) (w := w) (cd := cd) (wt := wt) (ts := ts) (l1 := .int (pi (isW q ∧ stP B n a = a))) hB h7 hn hp.2 96 0 (by omega) (by omega)
          simp only [Nat.add_zero] at ll
          rw [← eA, show numF B (min 0 4) (stP B n a) 0 = 0 from rfl] at ll
          rw [pre]
          simp only [e_182_63, e_182_64, e_182_67, e_182_68, e_182_71, e_182_74, e_182_75, e_182_76, e_182_79, e_182_82, e_182_83, e_182_84, e_182_87, e_182_90, e_182_154, e_182_155, e_182_156, e_182_159, e_182_162, e_182_165, e_182_166, e_182_167, gY7, gY9, h7, kY, if_true, c_isLetter hB h7 hn hp96, c_isFigure hB h7 hn hp96, cn_s, pi_if, qY11, Option.bind_some]
          rw [if_neg hne, if_neg h2, if_pos h3, ll]
          simp only [e_182_238, e_182_239, e_182_240, e_182_243, e_182_244, e_182_247, e_182_248, e_182_251, e_182_252, e_182_253, e_182_256, e_182_257, e_182_260, e_182_261, e_182_264, e_182_265, e_182_266, e_182_269, e_182_272, e_182_303, gY8, gY9, nI_sub hpa, qY10, qY12, pi_if, Option.bind_some]
          by_cases c : isW q ∧ stP B n a = a
          · rw [if_pos c, if_pos (Or.inl c)]
          · rw [if_neg c]
            by_cases c4 : stA B n a - stP B n a ≤ 4
            · rw [if_pos (show nI (stA B n a - stP B n a) ≤ 4 from nI_le (b := 4) c4 (by omega)), if_neg (fun e => e.elim c (by omega))]
            · rw [if_neg (show ¬ nI (stA B n a - stP B n a) ≤ 4 from nI_ge (a := 4) (by omega) (by omega)), if_pos (Or.inr (by omega))]
      · have eT : stT B n (stP B n a) = (stP B n a + 1, B (stP B n a)) := by unfold stT; rw [if_neg (by omega), if_neg h2, if_neg h3]
        have eA : stA B n a = stP B n a + 1 := by unfold stA; rw [eT]
        have bn := byte_ne (hb _ h1)
        have nW : ¬ isW (B (stP B n a)) := fun e => e.elim bn.1 bn.2.1
        have eQ : stQ B n a q = B (stP B n a) := by
          unfold stQ
          rw [eT, if_neg (fun e => nW e.2.1)]
        refine ⟨3, B (stP B n a), en, ?_, fun _ _ => ?_, ?_⟩
        · rw [eQ]
          unfold tkR
          rw [if_neg bn.2.2.1, if_neg bn.1, if_neg bn.2.1, if_neg bn.2.2.2]
          exact ⟨rfl, rfl⟩
        · rw [eQ, eA]
          refine ⟨fun e => absurd e nW, fun _ k hk hk2 => ?_⟩
          by_cases c : isW q
          · rw [he.1 c]
            exact fun e => by have := (nI_eq (by omega) (by omega)).mp e; omega
          · exact he.2 c k (by omega) hk2
        · rw [pre, eA]
          simp only [e_182_63, e_182_64, e_182_67, e_182_68, e_182_71, e_182_74, e_182_75, e_182_76, e_182_79, e_182_82, e_182_83, e_182_84, e_182_87, e_182_90, e_182_154, e_182_155, e_182_156, e_182_159, e_182_162, e_182_275, e_182_276, e_182_277, e_182_280, e_182_281, e_182_282, e_182_285, e_182_286, e_182_289, e_182_290, e_182_293, e_182_294i, e_182_294r, e_182_295, e_182_298, e_182_299, e_182_300, e_182_303, gY6, gY7, gY8, gY9, h7, kY, if_true, c_isLetter hB h7 hn hp96, c_isFigure hB h7 hn hp96, rY128 (show stP B n a < 96 by omega), hB _ h1, cn_s, pi_if, qY8, qY10, qY11, nI_1, Option.bind_some]
          rw [if_neg hne, if_neg h2, if_neg h3]
  · have hpn : stP B n a = n := by omega
    have eT : stT B n (stP B n a) = (n, 258) := by unfold stT; rw [if_pos (by omega)]
    have eA : stA B n a = n := by unfold stA; rw [eT]
    have eQ : stQ B n a q = 258 := by
      unfold stQ
      have nw : ¬ isW 258 := by decide
      rw [eT, if_neg (fun e => nw e.2.1)]
    refine ⟨0, vl, en, ?_, fun e => absurd eQ e, ?_⟩
    · rw [eQ]
      unfold tkR
      rw [if_pos rfl]
    · rw [pre, eA, hpn]
      simp only [e_182_63, e_182_64, e_182_67, e_182_68, e_182_71, e_182_74, e_182_75, e_182_76, e_182_79, e_182_303, gY7, gY9, h7, qY10, if_true, Option.bind_some]
theorem c_rank : Dn (d + 1) 190 [.int x] h nx = some (some (.int (rnk x)), h, nx) := by
  simp only [n_190, e_190_0, e_190_1, e_190_2, e_190_5, e_190_6, e_190_9, e_190_10, e_190_12, e_190_15, e_190_16, e_190_19, e_190_20, e_190_22, e_190_25, e_190_26, e_190_29, e_190_30, e_190_32, e_190_35, e_190_36, e_190_39, e_190_40, e_190_42, e_190_45, e_190_46, e_190_49, e_190_51, rnk]
  by_cases h1 : x = -1
  · simp [h1]
  by_cases h2 : x = -2
  · simp [h2]
  by_cases h3 : x < -5
  · have h3' : ¬ -5 ≤ x := by rw [i_nle]; exact h3
    by_cases h4 : x < -7
    · have h4' : ¬ -7 ≤ x := by rw [i_nle]; exact h4
      by_cases h5 : x < -9
      · have h5' : ¬ -9 ≤ x := by rw [i_nle]; exact h5
        simp only [h1, h2, h3, h3', h4, h4', h5, h5', if_true, if_false]
      · have h5' : -9 ≤ x := by rw [← i_nlt]; exact h5
        simp only [h1, h2, h3, h3', h4, h4', h5, h5', if_true, if_false]
    · have h4' : -7 ≤ x := by rw [← i_nlt]; exact h4
      simp only [h1, h2, h3, h3', h4, h4', if_true, if_false]
  · have h3' : -5 ≤ x := by rw [← i_nlt]; exact h3
    simp only [h1, h2, h3, h3', if_true, if_false]
theorem c_settle (r : Int32) : ∀ (W C : List Int32) (cd : Nat → Int32), C.length + W.length ≤ 96 → SR wt W → SR cd C → ∃ cd', SR cd' (stl r W C).2 ∧ SR wt (stl r W C).1 ∧ Df (d + 1) 189 0 [.ref 123, .int r] [] (YH h M K g nt fr tk vl en C.length o W.length cd wt ts) nx = some (none, YH h M K g nt fr tk vl en (stl r W C).2.length o (stl r W C).1.length cd' wt ts, nx)
  | [], C, cd, hl, hw, hc => by
    refine ⟨cd, hc, hw, ?_⟩
    rw [e_189_0]
    simp only [e_189_1, e_189_4, e_189_82, gY20, Option.bind_some]
    rw [if_pos (show nI (List.length ([] : List Int32)) ≤ 0 by decide)]
    rfl
  | x :: W, C, cd, hl, hw, hc => by
    have hl' : C.length + (W.length + 1) ≤ 96 := hl
    have e1 : nI (x :: W).length - 1 = nI W.length := nI_pred W.length
    have hpos : ¬ nI (x :: W).length ≤ 0 := by
      rw [i_nle]; exact nI_lt (a := 0) (by simp) (by simp; omega)
    have ht : wt W.length = x := SR_top hw
    unfold stl
    by_cases c : x = -11 ∨ rnk x < r
    · rw [if_pos c]
      refine ⟨cd, hc, hw, ?_⟩
      rw [e_189_0]
      simp only [e_189_1, e_189_4, e_189_7, e_189_8, e_189_11, e_189_12, e_189_15, e_189_16, e_189_17, e_189_18, e_189_20, e_189_23, e_189_24, e_189_27, e_189_28, e_189_31, e_189_32, e_189_33, e_189_34, e_189_37, e_189_38, e_189_82, gY19, gY20, e1, rY132 (show W.length < 96 by omega), ht, c_rank, cn_s, Option.bind_some]
      rw [if_neg hpos]
      rcases c with c | c
      · rw [if_pos c]
      · rw [if_pos c, ite_self]
    · rw [if_neg c]
      have c1 : ¬ x = -11 := fun e => c (Or.inl e)
      have c2 : ¬ rnk x < r := fun e => c (Or.inr e)
      obtain ⟨cd', s1, s2, e⟩ := c_settle r W (x :: C) (upd cd C.length x) (by simp; omega) (SR_pop hw) (SR_push hc)
      refine ⟨cd', s1, s2, ?_⟩
      rw [← e, e_189_0]
      simp only [e_189_1, e_189_4, e_189_7, e_189_8, e_189_11, e_189_12, e_189_15, e_189_16, e_189_17, e_189_18, e_189_20, e_189_23, e_189_24, e_189_27, e_189_28, e_189_31, e_189_32, e_189_33, e_189_34, e_189_37, e_189_38, e_189_41, e_189_42i, e_189_42r, e_189_43, e_189_46, e_189_47, e_189_48, e_189_51, e_189_52, e_189_55, e_189_56, e_189_59, e_189_60, e_189_63, e_189_64, e_189_67, e_189_68, e_189_69, e_189_70i, e_189_70r, e_189_71, e_189_74, e_189_75, e_189_76, e_189_79, gY16, gY17, gY19, gY20, e1, rY132 (show W.length < 96 by omega), ht, c_rank, cn_s, qY20, wY131 (show C.length < 96 by omega), qY17, nI_1, Option.bind_some]
      rw [if_neg hpos, if_neg c1, if_neg c2]
      rfl
theorem Y_settle (hl : C.length + W.length ≤ 96) (hw : SR wt W) (hc : SR cd C) : ∃ cd', SR cd' (stl r W C).2 ∧ SR wt (stl r W C).1 ∧ Dn (d + 2) 189 [.ref 123, .int r] (YH h M K g nt fr tk vl en C.length o W.length cd wt ts) nx = some (none, YH h M K g nt fr tk vl en (stl r W C).2.length o (stl r W C).1.length cd' wt ts, nx) := by
  obtain ⟨cd', s1, s2, e⟩ := c_settle (d := d) (h := h) (nx := nx) (M := M) (K := K) (g := g) (nt := nt) (fr := fr) (tk := tk) (vl := vl) (en := en) (o := o) (ts := ts) r W C cd hl hw hc
  exact ⟨cd', s1, s2, by simp only [n_189]; exact e⟩
theorem cn_SR : ∀ (W : List Int32), SR wt W → cnF wt W.length = cnt W
  | [], _ => rfl
  | x :: W, hw => by
    show cnF wt W.length + (if wt W.length = -10 then 1 else 0) = cnt W + (if x = -10 then 1 else 0)
    rw [cn_SR W (SR_pop hw), SR_top hw]
theorem nots_loop (hw : w ≤ 96) (f : Nat) : ∀ (k : Nat), k + f = w → Df d 191 4 [.ref 123, .int (nI (cnF wt k)), .int (nI k)] [] (YH h M K g nt fr tk vl en N o w cd wt ts) nx = some (some (.int (nI (cnF wt w))), YH h M K g nt fr tk vl en N o w cd wt ts, nx) := by
  induction f with
  | zero =>
    intro k hk
    obtain rfl : k = w := by omega
    rw [e_191_4]
    simp only [e_191_5, e_191_6, e_191_9, e_191_37, e_191_38, gY20, Option.bind_some]
    rw [if_pos (nI_le (Nat.le_refl _) (by omega))]
  | succ f ih =>
    intro k hk
    have ih := ih (k + 1) (by omega)
    rw [e_191_4]
    simp only [e_191_5, e_191_6, e_191_9, e_191_12, e_191_13, e_191_14, e_191_17, e_191_18, e_191_19, e_191_21, e_191_24, e_191_25, e_191_28, e_191_29, e_191_30n, e_191_30i, e_191_30r, e_191_31, e_191_34, gY19, gY20, rY132 (show k < 96 by omega), Option.bind_some, nI_1]
    rw [if_neg (nI_ge (by omega) (by omega))]
    rw [show cnF wt (k + 1) = cnF wt k + (if wt k = -10 then 1 else 0) from rfl] at ih
    by_cases c : wt k = -10
    · rw [if_pos c]
      rw [if_pos c] at ih
      exact ih
    · rw [if_neg c, Int32.add_zero]
      rw [if_neg c, Nat.add_zero] at ih
      exact ih
theorem Y_nots (hw : SR wt W) (hl : W.length ≤ 96) : Dn (d + 1) 191 [.ref 123] (YH h M K g nt fr tk vl en N o W.length cd wt ts) nx = some (some (.int (nI (cnt W))), YH h M K g nt fr tk vl en N o W.length cd wt ts, nx) := by
  simp only [n_191, e_191_0, e_191_1n, e_191_1i, e_191_1r, e_191_2, e_191_3n, e_191_3i, e_191_3r]
  rw [← cn_SR W hw]
  exact nots_loop hl W.length 0 (Nat.zero_add _)
theorem c_signHere : Dn (d + 1) 192 [.ref 123] (YH h M K g nt fr tk vl en N o w cd wt ts) nx = some (some (.int (if tk = 3 then sgn vl else 0)), YH h M K g nt fr tk vl en N o w cd wt ts, nx) := by
  simp only [n_192, e_192_0, e_192_1, e_192_4, e_192_5, e_192_8, e_192_9, e_192_10, e_192_11, e_192_14, e_192_96, e_192_97, e_192_98, e_192_100, e_192_101, e_192_103, e_192_104, e_192_106, e_192_107, e_192_109, e_192_110, e_192_112, e_192_113, e_192_115, e_192_116, e_192_118, e_192_119, e_192_121, e_192_122, e_192_123, gY10, gY11, Option.bind_some, sgn]
  by_cases h3 : tk = 3
  · simp only [h3, if_true]
    repeat' split
    all_goals rfl
  · simp only [h3, if_false]
theorem c_nameOf : Dn (d + 1) 188 [.ref 123, .int (B p)] (YH h M K g nt fr tk vl en N o w cd wt ts) nx = some (some (.int (oi (nmF B p (strT (nmS (M.1 13))) 0))), YH h M K g nt fr tk vl en N o w cd wt ts, nx) := by
  simp only [n_188, e_188_0, e_188_1, e_188_4, e_188_32, e_188_33, e_188_35, e_188_38, e_188_39, e_188_42, e_188_43, e_188_45, e_188_48, e_188_49, e_188_52, e_188_53, e_188_55, e_188_58, e_188_59, e_188_62, e_188_63, e_188_64, e_188_65, e_188_67, e_188_70, e_188_71, e_188_74, e_188_75, e_188_77, e_188_80, e_188_81, e_188_84, e_188_85, e_188_86, e_188_87, e_188_89, e_188_92, e_188_93, e_188_96, e_188_97, e_188_99, e_188_102, e_188_103, e_188_106, e_188_107, gY13, Option.bind_some]
  unfold nmS
  by_cases h0 : M.1 13 = 0
  · rw [if_pos h0, if_pos h0]
    show _ = some (some (Value.int (oi (if B p = 104 then some 0 else if B p = 115 then some 1 else if B p = 116 then some 2 else none))), _, _)
    by_cases c1 : B p = 104
    · rw [if_pos c1, if_pos c1]; rfl
    rw [if_neg c1, if_neg c1]
    by_cases c2 : B p = 115
    · rw [if_pos c2, if_pos c2]; rfl
    rw [if_neg c2, if_neg c2]
    by_cases c3 : B p = 116
    · rw [if_pos c3, if_pos c3]; rfl
    · rw [if_neg c3, if_neg c3]; rfl
  rw [if_neg h0, if_neg h0]
  by_cases h1 : M.1 13 = 1
  · rw [if_pos h1, if_pos h1]
    show _ = some (some (Value.int (oi (if B p = 100 then some 0 else if B p = 108 then some 1 else none))), _, _)
    by_cases c1 : B p = 100
    · rw [if_pos c1, if_pos c1]; rfl
    rw [if_neg c1, if_neg c1]
    by_cases c2 : B p = 108
    · rw [if_pos c2, if_pos c2]; rfl
    · rw [if_neg c2, if_neg c2]; rfl
  · rw [if_neg h1, if_neg h1]
    show _ = some (some (Value.int (oi (if B p = 115 then some 0 else if B p = 108 then some 1 else none))), _, _)
    by_cases c1 : B p = 115
    · rw [if_pos c1, if_pos c1]; rfl
    rw [if_neg c1, if_neg c1]
    by_cases c2 : B p = 108
    · rw [if_pos c2, if_pos c2]; rfl
    · rw [if_neg c2, if_neg c2]; rfl
end YZ
