/-! the model reads a text -/
def kyA (j : Nat) : Nat := if j = 0 then 0 else if j = 1 then 6 else if j = 2 then 9 else 13
def kyOK (M : MS) : Prop := (∀ j, j < 4 → M.2 130 j = nI (kyA j)) ∧ ∀ j, j < 3 → ∀ k, k < (strT (4 + j)).length → M.2 129 (kyA j + k) = nI ((strT (4 + j)).getD k 0)
/-- the codes of the t-th law, from k on -/
def cpT (cd : Nat → Int32) (t : Nat) : Nat → Nat → (Nat → Int32) → Nat → Int32
  | 0, _, g => g
  | f + 1, k, g => cpT cd t f (k + 1) (upd g (123 + 96 * t + k) (cd k))
section YW
variable {d : Nat} {h : AH} {nx : AN} {M : MS} {K : (Nat → Int32) × (Nat → Int32)} {g cd wt ts B a0 : Nat → Int32} {nt fr N o w n a p k lv f kn s t j : Nat} {tk vl en x y q r ky : Int32} {l1 l2 l3 l4 : Value} {C W W0 Cm pend : List Int32} {P P' : PS} {D : DT} {Res : Option AR → Prop}
theorem qY13 : pF (YH h M K g nt fr tk vl en N o w cd wt ts) 123 9 13 (.int x) = some (YH h (sF M 13 x) K g nt fr tk vl en N o w cd wt ts) := by
  have e : pF (YH h M K g nt fr tk vl en N o w cd wt ts) 123 9 13 (.int x) = some (put (YH h M K g nt fr tk vl en N o w cd wt ts) 123 (mOb (upd (yF M.1 nt fr tk vl en N o w) 13 x))) := rfl
  have e2 : upd (yF M.1 nt fr tk vl en N o w) 13 x = yF (sF M 13 x).1 nt fr tk vl en N o w := by
    funext j
    unfold sF upd yF
    by_cases c : j = 13
    · subst c; rfl
    · simp only [if_neg c]
  rw [e]
  unfold YH MG
  rw [put_MO, e2]
  rfl
theorem qY7 : pF (YH h M K g nt fr tk vl en N o w cd wt ts) 123 9 7 (.int x) = some (YH h (sF M 7 x) K g nt fr tk vl en N o w cd wt ts) := by
  have e : pF (YH h M K g nt fr tk vl en N o w cd wt ts) 123 9 7 (.int x) = some (put (YH h M K g nt fr tk vl en N o w cd wt ts) 123 (mOb (upd (yF M.1 nt fr tk vl en N o w) 7 x))) := rfl
  have e2 : upd (yF M.1 nt fr tk vl en N o w) 7 x = yF (sF M 7 x).1 nt fr tk vl en N o w := by
    funext j
    unfold sF upd yF
    by_cases c : j = 7
    · subst c; rfl
    · simp only [if_neg c]
  rw [e]
  unfold YH MG
  rw [put_MO, e2]
  rfl
theorem rYn (hk : k < 1467) : rX (YH h M K g nt fr tk vl en N o w cd wt ts) 124 (nI k) = some (g k) := rGn hk
theorem wYn (hk : k < 1467) : wI (YH h M K g nt fr tk vl en N o w cd wt ts) 124 (nI k) 0 x = some (YH h M K (upd g k x) nt fr tk vl en N o w cd wt ts) := wGn hk
theorem key_loop (hK : kyOK M) (hT : tpR M B n) (hj : j < 3) (ha : fr + a ≤ n) : ∀ (v : List Nat) (k : Nat), k + v.length = a → (∀ i, i < v.length → kyA j + k + i < 13 ∧ M.2 129 (kyA j + k + i) = nI (v.getD i 0)) → ∃ l4, nr l4 = true ∧ Df d 185 55 [.ref 123, .int (nI j), .int (nI a), .int 1, .int (nI k)] [] (YH h M K g nt fr tk vl en N o w cd wt ts) nx = Df d 185 106 [.ref 123, .int (nI j), .int (nI a), .int (pi (stM B v (fr + k) = true)), l4] [] (YH h M K g nt fr tk vl en N o w cd wt ts) nx := by
  have hn := hT.1
  intro v
  induction v with
  | nil =>
    intro k hk _
    refine ⟨.int (nI k), nr_i _, ?_⟩
    rw [e_185_55]
    simp only [e_185_57, e_185_58]
    simp at hk
    rw [if_pos (nI_le (by omega) (by omega))]
    rfl
  | cons c v ih =>
    intro k hk hv
    simp at hk
    have h0 := hv 0 (by simp)
    have e0 : M.2 129 (kyA j + k) = nI c := h0.2
    have hB := hT.2.2.1 (fr + k) (by omega)
    rw [e_185_55]
    simp only [e_185_57, e_185_58, e_185_61, e_185_62, e_185_65, e_185_66, e_185_69, e_185_70, e_185_73, e_185_75, e_185_76, e_185_77, e_185_78, e_185_81, e_185_82, e_185_85, e_185_86, e_185_87, e_185_89, e_185_90, e_185_91, gY6, gY9, gY14, gY15, rY128 (show fr + k < 96 by omega), rY130 (show j < 4 by omega), hK.1 j (by omega), nI_add, rY129 (show kyA j + k < 13 from h0.1), hB, e0, show ¬ (1 : Int32) = 0 by decide, if_false, Option.bind_some]
    rw [if_neg (nI_ge (by omega) (by omega))]
    by_cases c1 : B (fr + k) = nI c
    · rw [if_pos c1]
      simp only [e_185_94, e_185_95, e_185_98, e_185_99n, e_185_99i, e_185_99r, e_185_100, e_185_103, nI_1]
      obtain ⟨l4, h4, e⟩ := ih (k + 1) (by omega) (fun i hi => by
        have := hv (i + 1) (by simp; omega)
        rw [show kyA j + k + (i + 1) = kyA j + (k + 1) + i by omega] at this
        exact ⟨this.1, this.2⟩)
      refine ⟨l4, h4, ?_⟩
      rw [e]
      have : stM B (c :: v) (fr + k) = stM B v (fr + (k + 1)) := by
        show (decide (B (fr + k) = nI c) && stM B v (fr + k + 1)) = _
        rw [decide_eq_true c1, Bool.true_and]
        rfl
      rw [this]
    · rw [if_neg c1]
      refine ⟨.int (nI (k + 1)), nr_i _, ?_⟩
      simp only [e_185_98, e_185_99n, e_185_99i, e_185_99r, e_185_100, e_185_103, nI_1]
      rw [e_185_55]
      simp only [e_185_57, e_185_58, e_185_61, e_185_62, if_true]
      rw [show pi (stM B (c :: v) (fr + k) = true) = 0 from if_neg (by unfold stM; simp [c1]), ite_self]
theorem key_one (hK : kyOK M) (hT : tpR M B n) (hj : j < 3) (hpa : fr ≤ nt) (ha : nt ≤ n) (h2 : nr l2 = true) (h3 : nr l3 = true) (h4 : nr l4 = true) : ∃ l2' l3' l4', nr l2' = true ∧ nr l3' = true ∧ nr l4' = true ∧ Df d 185 12 [.ref 123, .int (nI j), l2, l3, l4] [] (YH h M K g nt fr tk vl en N o w cd wt ts) nx = if nt = fr + (strT (4 + j)).length ∧ stM B (strT (4 + j)) fr = true then Df d 185 110 [.ref 123, .int (nI j), l2', l3', l4'] [] (YH h M K g nt fr tk vl en N o w cd wt ts) nx else Df d 185 12 [.ref 123, .int (nI (j + 1)), l2', l3', l4'] [] (YH h M K g nt fr tk vl en N o w cd wt ts) nx := by
  have hn := hT.1
  have hlen : kyA (j + 1) = kyA j + (strT (4 + j)).length ∧ kyA (j + 1) ≤ 13 := by
    match j, hj with
    | 0, _ => exact ⟨rfl, by decide⟩
    | 1, _ => exact ⟨rfl, by decide⟩
    | 2, _ => exact ⟨rfl, by decide⟩
  generalize hw : strT (4 + j) = v at *
  have e32 : ∀ R, Df d 185 33 [.ref 123, .int (nI j), .int (nI v.length), l3, l4] [] (YH h M K g nt fr tk vl en N o w cd wt ts) nx = R → Df d 185 12 [.ref 123, .int (nI j), l2, l3, l4] [] (YH h M K g nt fr tk vl en N o w cd wt ts) nx = R := by
    intro R hR
    rw [e_185_12]
    simp only [e_185_13, e_185_14, e_185_17, e_185_18, e_185_21, e_185_22, e_185_23, e_185_24, e_185_25, e_185_26, e_185_29, e_185_30, e_185_31, gY15, nI_1, rY130 (show j < 4 by omega), rY130 (show j + 1 < 4 by omega), hK.1 j (by omega), hK.1 (j + 1) (by omega), Option.bind_some]
    rw [if_neg (show ¬ (3 : Int32) ≤ nI j from nI_ge (b := 3) hj (by omega)), nI_sub (by omega), hlen.1, show kyA j + v.length - kyA j = v.length by omega, e_185_32 h2]
    exact hR
  have e106 : ∀ (b : Prop) [Decidable b] (l4 : Value), Df d 185 106 [.ref 123, .int (nI j), .int (nI v.length), .int (pi b), l4] [] (YH h M K g nt fr tk vl en N o w cd wt ts) nx = if b then Df d 185 110 [.ref 123, .int (nI j), .int (nI v.length), .int (pi b), l4] [] (YH h M K g nt fr tk vl en N o w cd wt ts) nx else Df d 185 12 [.ref 123, .int (nI (j + 1)), .int (nI v.length), .int (pi b), l4] [] (YH h M K g nt fr tk vl en N o w cd wt ts) nx := by
    intro b _ l4
    simp only [e_185_106, e_185_107, e_185_121, e_185_124, pi_if, nI_1]
  by_cases c : nt = fr + v.length
  · obtain ⟨l4', h4', e⟩ := key_loop (d := d) (h := h) (nx := nx) (K := K) (g := g) (nt := nt) (tk := tk) (vl := vl) (en := en) (N := N) (o := o) (w := w) (cd := cd) (wt := wt) (ts := ts) hK hT hj (show fr + v.length ≤ n by omega) v 0 (by omega) (fun i hi => ⟨by omega, by
      have := hK.2 j hj i (by rw [hw]; exact hi)
      rw [hw] at this
      exact this⟩)
    refine ⟨.int (nI v.length), .int (pi (stM B v fr = true)), l4', nr_i _, nr_i _, h4', ?_⟩
    refine e32 _ ?_
    simp only [e_185_33, e_185_34, e_185_35, e_185_38, e_185_39, e_185_42, e_185_43, e_185_46, e_185_47, gY8, gY9, Option.bind_some]
    rw [nI_sub (by omega), if_pos (show nI v.length = nI (nt - fr) by rw [c, show fr + v.length - fr = v.length by omega]), e_185_51 h3]
    simp only [e_185_52]
    rw [e_185_53 h4]
    have e : Df d 185 55 [.ref 123, .int (nI j), .int (nI v.length), .int 1, .int 0] [] (YH h M K g nt fr tk vl en N o w cd wt ts) nx = _ := e
    rw [e, e106]
    simp only [Nat.add_zero]
    by_cases c2 : stM B v fr = true
    · rw [if_pos c2, if_pos ⟨c, c2⟩]
    · rw [if_neg c2, if_neg (fun q => c2 q.2)]
  · refine ⟨.int (nI v.length), .int (pi False), .int 0, nr_i _, nr_i _, nr_i _, ?_⟩
    refine e32 _ ?_
    have hne : ¬ nI v.length = nI (nt - fr) := fun q => by
      have := (nI_eq (by omega) (by omega)).mp q
      omega
    simp only [e_185_33, e_185_34, e_185_35, e_185_38, e_185_39, e_185_42, e_185_43, e_185_50, gY8, gY9, Option.bind_some]
    rw [nI_sub (by omega), if_neg hne, e_185_51 h3]
    simp only [e_185_52]
    rw [e_185_53 h4, e_185_55]
    simp only [e_185_57, e_185_58, e_185_61, e_185_62, if_true]
    rw [ite_self, if_neg (fun q => c q.1)]
    have := e106 False (.int 0)
    rw [if_neg (fun q => q)] at this
    exact this
theorem tp_13 (hT : tpR M B n) : tpR (sF M 13 x) B n := ⟨hT.1, hT.2.1, hT.2.2.1, hT.2.2.2⟩
theorem c_takesKey (hK : kyOK M) (hT : tpR M B n) (hP : wfP n P) (ht : tkR B P.1 P.2.1 P.2.2.1 tk vl) (he : ¬ P.2.2.1 = 258 → ¬ P.2.2.1 = 259 → eR P.2.2.1 P.2.1 en) : match (if P.2.2.1 = 256 then rky B P.1 P.2.1 else none) with
    | none => Dn (d + 3) 185 [.ref 123] (YH h M K g P.2.1 P.1 tk vl en N o w cd wt ts) nx = some (some (.int 0), YH h M K g P.2.1 P.1 tk vl en N o w cd wt ts, nx)
    | some k => ∃ tk' vl' en', tkR B (stS B n P).1 (stS B n P).2.1 (stS B n P).2.2.1 tk' vl' ∧ (¬ (stS B n P).2.2.1 = 258 → ¬ (stS B n P).2.2.1 = 259 → eR (stS B n P).2.2.1 (stS B n P).2.1 en') ∧ Dn (d + 3) 185 [.ref 123] (YH h M K g P.2.1 P.1 tk vl en N o w cd wt ts) nx = some (some (.int 1), YH h (sF M 13 (nI k)) K g (stS B n P).2.1 (stS B n P).1 tk' vl' en' N o w cd wt ts, nx) := by
  by_cases h1 : P.2.2.1 = 256
  · rw [if_pos h1]
    have ht1 : tk = 1 := by
      unfold tkR at ht
      rw [h1, if_neg (by decide), if_pos rfl] at ht
      exact ht.1
    subst ht1
    have one := fun (j : Nat) (hj : j < 3) (l2 l3 l4 : Value) (h2 : nr l2 = true) (h3 : nr l3 = true) (h4 : nr l4 = true) => key_one (d := d + 2) (h := h) (nx := nx) (K := K) (g := g) (tk := 1) (vl := vl) (en := en) (N := N) (o := o) (w := w) (cd := cd) (wt := wt) (ts := ts) hK hT hj hP.2.2.1 hP.2.1 h2 h3 h4
    obtain ⟨a2, a3, a4, n2, n3, n4, e1⟩ := one 0 (by omega) .null .null .null rfl rfl rfl
    obtain ⟨b2, b3, b4, m2, m3, m4, e2⟩ := one 1 (by omega) a2 a3 a4 n2 n3 n4
    obtain ⟨c2, c3, c4, k2, k3, k4, e3⟩ := one 2 (by omega) b2 b3 b4 m2 m3 m4
    have pre : Dn (d + 3) 185 [.ref 123] (YH h M K g P.2.1 P.1 1 vl en N o w cd wt ts) nx = Df (d + 2) 185 12 [.ref 123, .int (nI 0), .null, .null, .null] [] (YH h M K g P.2.1 P.1 1 vl en N o w cd wt ts) nx := by
      simp only [n_185, e_185_0, e_185_1, e_185_4, e_185_5, e_185_10, e_185_11n, e_185_11i, e_185_11r, gY10, if_true, Option.bind_some]
      rfl
    have fin : ∀ (j : Nat) (l2 l3 l4 : Value), ∃ tk' vl' en', tkR B (stS B n P).1 (stS B n P).2.1 (stS B n P).2.2.1 tk' vl' ∧ (¬ (stS B n P).2.2.1 = 258 → ¬ (stS B n P).2.2.1 = 259 → eR (stS B n P).2.2.1 (stS B n P).2.1 en') ∧ Df (d + 2) 185 110 [.ref 123, .int (nI j), l2, l3, l4] [] (YH h M K g P.2.1 P.1 1 vl en N o w cd wt ts) nx = some (some (.int 1), YH h (sF M 13 (nI j)) K g (stS B n P).2.1 (stS B n P).1 tk' vl' en' N o w cd wt ts, nx) := by
      intro j l2 l3 l4
      obtain ⟨tk', vl', en', t1, t2, e⟩ := c_go (d := d) (h := h) (nx := nx) (K := K) (g := g) (fr := P.1) (tk := 1) (vl := vl) (en := en) (N := N) (o := o) (w := w) (cd := cd) (wt := wt) (ts := ts) (tp_13 (x := nI j) hT) hP.2.1 (he (by rw [h1]; decide) (by rw [h1]; decide))
      refine ⟨tk', vl', en', t1, t2, ?_⟩
      simp only [e_185_110, e_185_111, e_185_112, e_185_115, e_185_116, e_185_119, e_185_120, qY13, kY, if_true, e, cn_v, nR_b1, Option.bind_some]
      rfl
    unfold rky
    have s0 : (P.2.1 = P.1 + (strT (4 + 0)).length ∧ stM B (strT (4 + 0)) P.1 = true) = (P.2.1 = P.1 + 6 ∧ stM B (strT 4) P.1 = true) := rfl
    have s1 : (P.2.1 = P.1 + (strT (4 + 1)).length ∧ stM B (strT (4 + 1)) P.1 = true) = (P.2.1 = P.1 + 3 ∧ stM B (strT 5) P.1 = true) := rfl
    have s2 : (P.2.1 = P.1 + (strT (4 + 2)).length ∧ stM B (strT (4 + 2)) P.1 = true) = (P.2.1 = P.1 + 4 ∧ stM B (strT 6) P.1 = true) := rfl
    by_cases q0 : P.2.1 = P.1 + 6 ∧ stM B (strT 4) P.1 = true
    · rw [if_pos q0]
      rw [if_pos (s0 ▸ q0)] at e1
      rw [pre, e1]
      exact fin 0 a2 a3 a4
    rw [if_neg q0]
    rw [if_neg (s0 ▸ q0)] at e1
    by_cases q1 : P.2.1 = P.1 + 3 ∧ stM B (strT 5) P.1 = true
    · rw [if_pos q1]
      rw [if_pos (s1 ▸ q1)] at e2
      rw [pre, e1, e2]
      exact fin 1 b2 b3 b4
    rw [if_neg q1]
    rw [if_neg (s1 ▸ q1)] at e2
    by_cases q2 : P.2.1 = P.1 + 4 ∧ stM B (strT 6) P.1 = true
    · rw [if_pos q2]
      rw [if_pos (s2 ▸ q2)] at e3
      rw [pre, e1, e2, e3]
      exact fin 2 c2 c3 c4
    rw [if_neg q2]
    rw [if_neg (s2 ▸ q2)] at e3
    dsimp only
    rw [pre, e1, e2, e3, e_185_12]
    simp only [e_185_13, e_185_14, e_185_127, e_185_128, nR_b0, if_true]
    rw [if_pos (by decide)]
  · rw [if_neg h1]
    have ht1 : ¬ tk = 1 := by
      unfold tkR at ht
      rw [if_neg h1] at ht
      split at ht
      · rw [ht]; decide
      split at ht
      · split at ht
        · rw [ht.1]; decide
        · rw [ht]; decide
      split at ht
      · rw [ht]; decide
      · rw [ht.1]; decide
    simp only [n_185, e_185_0, e_185_1, e_185_4, e_185_5, e_185_8, e_185_9, gY10, ht1, if_false, nR_b0, if_true, Option.bind_some]
theorem c_takesE (hT : tpR M B n) (hky : M.1 13 = nI kn) (hkn : kn < 3) (hP : wfP n P) (hdg : dgP B P) (hC : P.2.2.2 = ([], 0)) (ht : tkR B P.1 P.2.1 P.2.2.1 tk vl) (he : ¬ P.2.2.1 = 258 → ¬ P.2.2.1 = 259 → eR P.2.2.1 P.2.1 en) : if (pL B n (nI kn) 62 0 0 0 P).1 = true ∧ (pL B n (nI kn) 62 0 0 0 P).2.2.2.1 = 258 then ∃ tk' vl' en' w' cd' wt' ts', SR cd' ((pL B n (nI kn) 62 0 0 0 P).2.2.2.2.1.map trc) ∧ Dn (d + 4) 186 [.ref 123] (YH h M K g P.2.1 P.1 tk vl en N o w cd wt ts) nx = some (some (.int 1), YH h M K g (pL B n (nI kn) 62 0 0 0 P).2.2.1 (pL B n (nI kn) 62 0 0 0 P).2.1 tk' vl' en' (pL B n (nI kn) 62 0 0 0 P).2.2.2.2.1.length (pL B n (nI kn) 62 0 0 0 P).2.2.2.2.2 w' cd' wt' ts', nx) else Bad h M K g nx (pL B n (nI kn) 62 0 0 0 P).2.1 (Dn (d + 4) 186 [.ref 123] (YH h M K g P.2.1 P.1 tk vl en N o w cd wt ts) nx) := by
  have hC1 : P.2.2.2.1 = [] := by rw [hC]
  have hC2 : P.2.2.2.2 = 0 := by rw [hC]
  have pre : Dn (d + 4) 186 [.ref 123] (YH h M K g P.2.1 P.1 tk vl en N o w cd wt ts) nx = Df (d + 3) 186 28 [.ref 123, .int (nI 0), .int (nI (cnt [])), .int 1, .null] [] (YH h M K g P.2.1 P.1 tk vl en (P.2.2.2.1.map trc).length P.2.2.2.2 ([] : List Int32).length cd wt (upd ts 0 0)) nx := by
    have z17 := fun (nt fr : Nat) (N o w : Nat) (cd wt ts : Nat → Int32) => qY17 (h := h) (M := M) (K := K) (g := g) (nt := nt) (fr := fr) (tk := tk) (vl := vl) (en := en) (N := N) (o := o) (w := w) (cd := cd) (wt := wt) (ts := ts) (k := 0)
    have z18 := fun (nt fr : Nat) (N o w : Nat) (cd wt ts : Nat → Int32) => qY18 (h := h) (M := M) (K := K) (g := g) (nt := nt) (fr := fr) (tk := tk) (vl := vl) (en := en) (N := N) (o := o) (w := w) (cd := cd) (wt := wt) (ts := ts) (k := 0)
    have z20 := fun (nt fr : Nat) (N o w : Nat) (cd wt ts : Nat → Int32) => qY20 (h := h) (M := M) (K := K) (g := g) (nt := nt) (fr := fr) (tk := tk) (vl := vl) (en := en) (N := N) (o := o) (w := w) (cd := cd) (wt := wt) (ts := ts) (k := 0)
    have z33 := fun (nt fr : Nat) (N o w : Nat) (cd wt ts : Nat → Int32) => wY133 (h := h) (M := M) (K := K) (g := g) (nt := nt) (fr := fr) (tk := tk) (vl := vl) (en := en) (N := N) (o := o) (w := w) (cd := cd) (wt := wt) (ts := ts) (k := 0) (x := 0) (by omega)
    rw [show nI 0 = 0 from rfl] at z17 z18 z20 z33
    rw [hC1, hC2]
    simp only [n_186, e_186_0, e_186_1n, e_186_1i, e_186_1r, e_186_2, e_186_3n, e_186_3i, e_186_3r, e_186_4, e_186_5n, e_186_5i, e_186_5r, e_186_6, e_186_7, e_186_8, e_186_11, e_186_12, e_186_13, e_186_16, e_186_17, e_186_18, e_186_21, e_186_22, e_186_25, e_186_26, e_186_27, gY21, nb0, z17, z18, z20, z33, Option.bind_some]
    rfl
  have main : ∀ Res, Run d h M K g nx B Res P (P.2.2.2.1.map trc) [] 0 (upd ts 0 0) 1 → Res (Dn (d + 4) 186 [.ref 123] (YH h M K g P.2.1 P.1 tk vl en N o w cd wt ts) nx) := by
    intro Res hR
    rw [pre]
    refine hR tk vl en cd wt .null ht he ?_ ?_ rfl
    · rw [hC1]; exact fun m hm => by simp at hm
    · exact fun m hm => by simp at hm
  have sim := fun Res => ((sim_all (d := d) (h := h) (nx := nx) (K := K) (g := g) (Res := Res) hT hky hkn 62).1 0 (by omega)) P [] 0 (upd ts 0 0) hP hdg (by rw [hC1]; simp) (by omega) (by decide) trivial (fun _ => rfl) (Or.inl rfl) (by decide)
  have m1 := pL_mo (B := B) (ky := nI kn) 62 0 0 0 P hP
  have sim : ∀ Res, ((pL B n (nI kn) 62 0 0 0 P).1 = false → (∀ R, Bad h M K g nx (pL B n (nI kn) 62 0 0 0 P).2.1 R → Res R) → Run d h M K g nx B Res P (P.2.2.2.1.map trc) [] 0 (upd ts 0 0) 1) ∧ ((pL B n (nI kn) 62 0 0 0 P).1 = true → (∀ pend Cm' ts', PostL 0 (pL B n (nI kn) 62 0 0 0 P).2 (upd ts 0 0) ts' 0 pend Cm' → Run d h M K g nx B Res (pL B n (nI kn) 62 0 0 0 P).2 Cm' (pend ++ []) 0 ts' 0) → Run d h M K g nx B Res P (P.2.2.2.1.map trc) [] 0 (upd ts 0 0) 1) := sim
  generalize pL B n (nI kn) 62 0 0 0 P = rr at *
  have hlen : rr.2.2.2.2.1.length ≤ rr.2.1 := by
    have := m1.2.2
    rw [hC1] at this
    simp at this
    omega
  by_cases c1 : rr.1 = true
  · by_cases c2 : rr.2.2.2.1 = 258
    · rw [if_pos ⟨c1, c2⟩]
      refine main (fun R => ∃ tk' vl' en' w' cd' wt' ts', SR cd' (rr.2.2.2.2.1.map trc) ∧ R = some (some (.int 1), YH h M K g rr.2.2.1 rr.2.1 tk' vl' en' rr.2.2.2.2.1.length rr.2.2.2.2.2 w' cd' wt' ts', nx)) ((sim _).2 c1 (fun pend Cm' ts' hPo => ?_))
      obtain ⟨p1, p2, p3, p4, p5, p6⟩ := hPo
      have hl2 : Cm'.length + pend.length = rr.2.2.2.2.1.length := by
        have := congrArg List.length p2
        simp at this
        omega
      have hs0 : stl 0 (pend ++ []) Cm' = ([], rr.2.2.2.2.1.map trc) := by
        rw [stl_pend (W := []) (r := 0) trivial pend Cm' (fun w hw => ⟨(p1 w hw).1, rnk_pos w⟩), p2]
      refine R_end hT m1.1 c2 (by simp; omega) (by omega) (fun tk vl en cd' wt hs => ?_)
      rw [hs0] at hs ⊢
      refine ⟨tk, vl, en, 0, cd', wt, ts', hs, ?_⟩
      simp
    · rw [if_neg (fun q => c2 q.2)]
      refine main _ ((sim _).2 c1 (fun pend Cm' ts' hPo => ?_))
      obtain ⟨p1, p2, p3, p4, p5, p6⟩ := hPo
      have hl2 : Cm'.length + pend.length = rr.2.2.2.2.1.length := by
        have := congrArg List.length p2
        simp at this
        omega
      exact sim_stuck hT m1.1 (by omega) (by simp; omega) (fun e => absurd e.2 (by omega)) (fun e => absurd e c2) (fun l' h1 h2 => p6 l' (by omega) h1 h2) (fun R hR => hR)
  · rw [if_neg (fun q => c1 q.1)]
    exact main _ ((sim _).1 (by simpa using c1) (fun R hR => hR))
end YW
