/-! the state at the law's entry, beside the abstract one -/
section ST
variable {s : State} {args : Array Value}
def st_in : List Nat := [186, 88, 207, 200, 240, 273, 291, 95, 80, 900]
theorem st_in_ok : (List.range 10).all (fun c => decide (lwa (st_in.getD c 0) = some (.instantiable (oN c) (cN c)))) = true := by decide +kernel
theorem st_lay {c : Nat} (hc : c < 10) : ∀ w ∈ u_ws (oN c) (cT c) (cN c), w ∈ lw_tbl := by
  intro w hw
  obtain ⟨f, hf, rfl⟩ := List.mem_map.mp hw
  have h1 := List.all_eq_true.mp (List.all_eq_true.mp cls_ok c (List.mem_range.mpr hc)) f hf
  simp only [Bool.and_eq_true, decide_eq_true_eq] at h1
  exact lwa_mem h1.1
theorem st_cls (hts : ∀ w ∈ lw_tbl, w.before args s = true) : ∃ D : va_G, ∀ c, c < 10 → u_Kn s (oN c) (cT c) (cN c) (D.1 c) (D.2 c) := by
  have h1 : ∀ c : Nat, ∃ x : ClassId × (Nat → Nat), c < 10 → u_Kn s (oN c) (cT c) (cN c) x.1 x.2 := by
    intro c
    by_cases hc : c < 10
    · have h2 := List.all_eq_true.mp st_in_ok c (List.mem_range.mpr hc)
      obtain ⟨cC, iS, h⟩ := u_known (C := oN c) (T := cT c) (N := cN c) (n := cN c) hts (st_lay hc) (hts _ (lwa_mem (of_decide_eq_true h2)))
      exact ⟨(cC, iS), fun _ => h⟩
    · exact ⟨(0, fun _ => 0), fun h => absurd h hc⟩
  obtain ⟨D, hD⟩ := Classical.axiomOfChoice h1
  exact ⟨(fun c => (D c).1, fun c => (D c).2), fun c hc => hD c hc⟩
theorem st_arr {ty : FieldType} (hp : (match ty with | .object _ => false | _ => true) = true) (h : (Cond.arrayClass ty).before args s = true) : ∃ c : ClassId, ArrOfT s c ty ∧ va_RA s c ty := by
  obtain ⟨cA, kA, comp, h1, h2, h3⟩ := Cond.arrayClass_spec h
  refine ⟨cA, fun n z => ⟨fun k h => (by cases h), kA, h2, comp, h3⟩, ?_⟩
  cases ty with
  | object C => cases hp
  | _ => exact h1
theorem st_ovr {C : String} (h : (Cond.arrayOver (.object C)).before args s = true) : ∃ c : ClassId, ArrOfT s c (.object C) ∧ va_RA s c (.object C) := by
  obtain ⟨comp, c, k, h1, h2, h3, h4, h5⟩ := Cond.arrayOver_spec h
  exact ⟨c, fun n z => ⟨fun k h => (by cases h), k, h3, comp, h4⟩, k, comp, h3, h4, h1, h5⟩
theorem st_K (hts : ∀ w ∈ lw_tbl, w.before args s = true) : ∃ (D : va_G) (dA : Nat → Nat), va_K D classes (am_tys dA) s := by
  obtain ⟨D, hD⟩ := st_cls hts
  obtain ⟨a0, h0⟩ := st_arr (ty := .int) rfl (hts _ (lwa_mem (j := 131) (by decide +kernel)))
  obtain ⟨a1, h1⟩ := st_arr (ty := .boolean) rfl (hts _ (lwa_mem (j := 1009) (by decide +kernel)))
  obtain ⟨a2, h2⟩ := st_arr (ty := .char) rfl (hts _ (lwa_mem (j := 1008) (by decide +kernel)))
  obtain ⟨a3, h3⟩ := st_ovr (C := oN 7) (hts _ (by decide +kernel))
  obtain ⟨a4, h4⟩ := st_ovr (C := oN 2) (hts _ (by decide +kernel))
  obtain ⟨a5, h5⟩ := st_ovr (C := oN 5) (hts _ (by decide +kernel))
  obtain ⟨a6, h6⟩ := st_ovr (C := oN 6) (hts _ (by decide +kernel))
  refine ⟨D, fun k => [a0, a1, a2, a3, a4, a5, a6].getD k 0, fun c q hq => ?_, fun k q hq => ?_⟩
  · by_cases hc : c < 10
    · rw [classes_at hc] at hq
      cases hq
      exact hD c hc
    · rw [List.getElem?_eq_none (by simp [classes]; omega)] at hq
      cases hq
  · match k, hq with
    | 0, hq => cases hq; exact h0
    | 1, hq => cases hq; exact h1
    | 2, hq => cases hq; exact h2
    | 3, hq => cases hq; exact h3
    | 4, hq => cases hq; exact h4
    | 5, hq => cases hq; exact h5
    | 6, hq => cases hq; exact h6
    | k + 7, hq =>
      rw [List.getElem?_eq_none (by simp [am_tys])] at hq
      cases hq
theorem st_nest (hts : ∀ w ∈ lw_tbl, w.before args s = true) : ∀ e ∈ am_nest, va_Nw (.methodLinkNest (oN e.1) e.2.1 (mY e.2.2) "ThirstLead") s := by
  intro e he
  obtain ⟨t, ht, rfl⟩ := List.mem_map.mp he
  obtain ⟨ht, hk⟩ := List.mem_filter.mp ht
  have h1 := List.all_eq_true.mp tM_ok t ht
  obtain ⟨o, i, k, y, j1, j2, j3⟩ := t
  simp only [Bool.or_eq_true, beq_iff_eq] at hk
  refine va_Nw.of rfl (hts _ (lwa_mem (j := j1) ?_))
  rcases hk with rfl | rfl
  · simp only [tM_ck, Bool.and_eq_true, decide_eq_true_eq] at h1
    exact h1.1.1
  · simp only [tM_ck, Bool.and_eq_true, decide_eq_true_eq] at h1
    exact h1.1.1.1.1
def st_tm (i : Nat) : Term := .string "ThirstLead$Reader" (70 + 2 * i)
theorem st_str (hf : ∀ w ∈ flatC (Jvm.Cond.and given_1 narrow_1), w.before args s = true) : ∃ adK adV : Nat → Nat, vk_S 6 sLen sByt adK adV (am_A s.heap.size) s s.heap ∧ ∀ i : Nat, i < 6 → (st_tm i).eval args s none [] s = some (.ref (adK i)) := by
  have k1 : ∀ i, i < 6 → Cond.exactly (st_tm i) "java/lang/String" ∈ flatC (Jvm.Cond.and given_1 narrow_1) := by decide +kernel
  have k2 : ∀ i, i < 6 → Cond.eq (.field (st_tm i) "java/lang/String" "coder" "B") (.int 0) ∈ flatC (Jvm.Cond.and given_1 narrow_1) := by decide +kernel
  have k3 : ∀ i, i < 6 → Cond.arrayOf (.field (st_tm i) "java/lang/String" "value" "[B") .byte ∈ flatC (Jvm.Cond.and given_1 narrow_1) := by decide +kernel
  have k4 : ∀ i, i < 6 → Cond.eq (.length (.field (st_tm i) "java/lang/String" "value" "[B")) (.int (Int32.ofNat (sLen.getD i 0))) ∈ flatC (Jvm.Cond.and given_1 narrow_1) := by decide +kernel
  have k5 : ∀ i, i < 6 → ∀ j, j < sLen.getD i 0 → Cond.eq (.elem (.field (st_tm i) "java/lang/String" "value" "[B") (.int (Int32.ofNat j))) (.int ((sByt.getD i []).getD j 0)) ∈ flatC (Jvm.Cond.and given_1 narrow_1) := by decide +kernel
  have k6 : ∀ i, i < 6 → ∀ j, j < 6 → i ≠ j → Cond.not (Cond.eq (st_tm i) (st_tm j)) ∈ flatC (Jvm.Cond.and given_1 narrow_1) ∨ Cond.not (Cond.eq (st_tm j) (st_tm i)) ∈ flatC (Jvm.Cond.and given_1 narrow_1) := by decide +kernel
  have k0 : ∀ i, i < 6 → sLen.getD i 0 < 2 ^ 31 := by decide +kernel
  refine vk_Sof (tm := st_tm) k0 (fun i hi => hf _ (k1 i hi)) (fun i hi => hf _ (k2 i hi)) (fun i hi => hf _ (k3 i hi)) (fun i hi => hf _ (k4 i hi)) (fun i hi j hj => hf _ (k5 i hi j hj)) (fun i j hi hj hn => (k6 i hi j hj hn).imp (hf _) (hf _)) (fun a ha => Nat.not_le.mpr ha)
def st_r1 : List Int32 := [99, 30, 24]
def st_r2 : List Int32 := [9, 9, 100, 99, 23]
def st_r3 : List Int32 := [0, 1, 0, 20, 0]
theorem st_row (hf : ∀ w ∈ flatC (Jvm.Cond.and given_1 narrow_1), w.before args s = true) (tm : Term) (r : List Int32) (hr : r.length < 100) (h1 : Cond.arrayOf tm .int ∈ flatC (Jvm.Cond.and given_1 narrow_1)) (h2 : Cond.eq (.length tm) (.int (Int32.ofNat r.length)) ∈ flatC (Jvm.Cond.and given_1 narrow_1)) (h3 : ∀ j, j < r.length → Cond.eq (.elem tm (.int (Int32.ofNat j))) (.int (r.getD j 0)) ∈ flatC (Jvm.Cond.and given_1 narrow_1)) :
    ∃ t : Nat, tm.eval args s none [] s = some (.ref t) ∧ va_T .int t r.length (fun j => .int (r.getD j 0)) (am_A s.heap.size) s s.heap :=
  va_Tof (by omega) (hf _ h1) (va_eqt (hf _ h2)) (fun j hj => va_eqt (hf _ (h3 j hj))) (fun a ha => Nat.not_le.mpr ha)
def st_ad (b t1 t2 t3 : Nat) (adK : Nat → Nat) (sz : Nat) : Nat → Nat := fun a => if a < 4 then (if a = 0 then b else if a = 1 then t1 else if a = 2 then t2 else t3) else if a < 16 then adK (a - 4) else sz + (a - 16)
def st_h (L : Nat) (xs : Nat → Int32) : AH := fun a => if a < 4 then (if a = 0 then .inl (20, L, .inl xs) else if a = 1 then .inl (20, 3, .inl fun j => st_r1.getD j 0) else if a = 2 then .inl (20, 5, .inl fun j => st_r2.getD j 0) else .inl (20, 5, .inl fun j => st_r3.getD j 0)) else am_J
theorem st_xR (L : Nat) (xs : Nat → Int32) : xR (st_h L xs) := ⟨rfl, rfl, rfl, rfl, rfl, ⟨rfl, rfl, rfl, rfl, rfl⟩, rfl, rfl, rfl, rfl, rfl⟩
theorem st_C {b t1 t2 t3 : Nat} (hts : ∀ w ∈ lw_tbl, w.before args s = true) (hf : ∀ w ∈ flatC (Jvm.Cond.and given_1 narrow_1), w.before args s = true) {adK adV : Nat → Nat} (hS : vk_S 6 sLen sByt adK adV (am_A s.heap.size) s s.heap) (hE : ∀ i : Nat, i < 6 → (st_tm i).eval args s none [] s = some (.ref (adK i)))
    (h1 : (Term.static "ThirstLead" "SET_MOST" "[I").eval args s none [] s = some (.ref t1)) (h2 : (Term.static "ThirstLead" "RULE_MOST" "[I").eval args s none [] s = some (.ref t2)) (h3 : (Term.static "ThirstLead" "RULE_LEAST" "[I").eval args s none [] s = some (.ref t3)) :
    ∃ (D : va_G) (dA : Nat → Nat), am_C D (st_ad b t1 t2 t3 adK s.heap.size) dA s.heap.size s := by
  obtain ⟨D, dA, hK⟩ := st_K hts
  have hA : ∀ a : Nat, a < s.heap.size → ¬ am_A s.heap.size a := fun a ha => Nat.not_le.mpr ha
  refine ⟨D, dA, fun i => ?_, Nat.le_refl _, hK, ⟨va_AO.of (hts _ (by decide +kernel)), va_AO.of (hts _ (by decide +kernel)), va_AO.of (hts _ (by decide +kernel)), va_AO.of (hts _ (by decide +kernel))⟩, st_nest hts, ⟨?_, ?_, ?_⟩, ⟨adV, ?_⟩, ?_, ?_, ?_⟩
  · unfold st_ad
    rw [if_neg (by omega), if_neg (by omega)]
    omega
  · exact va_Zof (hts _ (by decide +kernel)) (hts _ (by decide +kernel)) h1 hA
  · exact va_Zof (hts _ (by decide +kernel)) (hts _ (by decide +kernel)) h2 hA
  · exact va_Zof (hts _ (by decide +kernel)) (hts _ (by decide +kernel)) h3 hA
  · have e : ∀ i, i < 6 → st_ad b t1 t2 t3 adK s.heap.size (4 + i) = adK i := fun i hi => by
      unfold st_ad
      rw [if_neg (by omega), if_pos (by omega), Nat.add_sub_cancel_left]
    exact ⟨fun i hi => (by simp only [e i hi]; exact hS.1 i hi), fun i j hi hj q => (by simp only [e i hi, e j hj] at q; exact hS.2 i j hi hj q)⟩
  · intro i q hq
    have hi : i < 6 := (List.getElem?_eq_some_iff.mp hq).1
    have e : st_ad b t1 t2 t3 adK s.heap.size (4 + i) = adK i := by
      unfold st_ad
      rw [if_neg (by omega), if_pos (by omega), Nat.add_sub_cancel_left]
    rw [e]
    have k1 : ∀ i, i < 6 → ∀ q, sTx[i]? = some q → q.1 = 70 + 2 * i ∧ Cond.stringRef (oN 4) q.1 q.2 ∈ lw_tbl := by
      intro i hi q hq
      match i, hi with
      | 0, _ => cases hq; exact ⟨rfl, by decide +kernel⟩
      | 1, _ => cases hq; exact ⟨rfl, by decide +kernel⟩
      | 2, _ => cases hq; exact ⟨rfl, by decide +kernel⟩
      | 3, _ => cases hq; exact ⟨rfl, by decide +kernel⟩
      | 4, _ => cases hq; exact ⟨rfl, by decide +kernel⟩
      | 5, _ => cases hq; exact ⟨rfl, by decide +kernel⟩
    obtain ⟨e1, e2⟩ := k1 i hi q hq
    refine vk_R.of (A := args) (hts _ e2) ?_
    rw [e1]
    exact hE i hi
  · exact va_Zof (hts _ (by decide +kernel)) (hts _ (by decide +kernel)) (va_eqi (hf _ (by decide +kernel))) hA
  · exact va_Zqof (hts _ (by decide +kernel)) (hts _ (by decide +kernel)) (hf _ (by decide +kernel)) hA
theorem st_H {b t1 t2 t3 L : Nat} {xs : Nat → Int32} {adK : Nat → Nat} (hL : L ≤ 3072) (hX : va_X b L xs s s.heap) (h1 : va_T .int t1 3 (fun j => .int (st_r1.getD j 0)) (am_A s.heap.size) s s.heap) (h2 : va_T .int t2 5 (fun j => .int (st_r2.getD j 0)) (am_A s.heap.size) s s.heap) (h3 : va_T .int t3 5 (fun j => .int (st_r3.getD j 0)) (am_A s.heap.size) s s.heap) :
    am_H (st_ad b t1 t2 t3 adK s.heap.size) s.heap.size (st_h L xs) (0, 0) s := by
  refine ⟨fun a ha => if_neg (by omega), fun a ha => ?_, fun a n f ha => ?_⟩
  · unfold st_h
    by_cases h4 : a < 4
    · refine Or.inr ?_
      rw [if_pos h4]
      split
      · exact ⟨_, _, rfl⟩
      · split
        · exact ⟨_, _, rfl⟩
        · split
          · exact ⟨_, _, rfl⟩
          · exact ⟨_, _, rfl⟩
    · exact Or.inl (if_neg h4)
  · by_cases h4 : a < 4
    · refine ⟨by omega, ?_⟩
      match a, h4 with
      | 0, _ =>
        have ha : (Sum.inl (20, L, Sum.inl xs) : va_E) = .inl (20, n, .inl f) := ha
        cases ha
        obtain ⟨scr, q1, q2, q3, q4, q5⟩ := hX
        exact ⟨scr, q1, q2, q3, (by omega), (by rw [q4]), q5, Nat.not_le.mpr (Array.getElem?_eq_some_iff.mp q1).1⟩
      | 1, _ =>
        have ha : (Sum.inl (20, 3, Sum.inl fun j => st_r1.getD j 0) : va_E) = .inl (20, n, .inl f) := ha
        cases ha
        exact h1
      | 2, _ =>
        have ha : (Sum.inl (20, 5, Sum.inl fun j => st_r2.getD j 0) : va_E) = .inl (20, n, .inl f) := ha
        cases ha
        exact h2
      | 3, _ =>
        have ha : (Sum.inl (20, 5, Sum.inl fun j => st_r3.getD j 0) : va_E) = .inl (20, n, .inl f) := ha
        cases ha
        exact h3
    · unfold st_h at ha
      rw [if_neg h4] at ha
      cases ha
end ST
