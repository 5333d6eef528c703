/-! the abstract state beside the machine's own -/
def sv (ad : Nat → Nat) : Value → Value
  | .ref a => .ref (ad a)
  | v => v
def se (ad dA : Nat → Nat) : va_E → va_E
  | .inl (c, n, .inr (.inr (.inr (.inr g)))) => .inl (dA c, n, .inr (.inr (.inr (.inr fun i => (g i).map ad))))
  | .inl (c, x) => .inl (dA c, x)
  | .inr (ci, fs) => .inr (ci, fs.map (sv ad))
def am_ws (ad dA : Nat → Nat) (h : AH) (n : Nat) : va_W := (List.range n).map fun i => (ad (16 + i), se ad dA (h (16 + i)))
def am_tys (dA : Nat → Nat) : List (ClassId × FieldType) := [(dA 0, .int), (dA 1, .boolean), (dA 2, .char), (dA 3, .object (oN 7)), (dA 4, .object (oN 2)), (dA 5, .object (oN 5)), (dA 6, .object (oN 6))]
def vis : Value → Bool
  | .int _ => true
  | .ref _ => true
  | .long _ => true
  | _ => false
/-- the locals -/
def LR (ad : Nat → Nat) (cls : Array Slot) (nL : Nat) (ls : List Value) : Prop := cls.size = nL ∧ lv_wf cls ∧ ls.length = nL ∧ (∀ (j : Nat) (v : Value), ls[j]? = some v → vis v = true → cls[j]? = some (.val (sv ad v))) ∧ ∀ (j : Nat) (x : Int64), ls[j]? = some (.long x) → ∃ q, ls[j + 1]? = some (.retAddr q)
def am_A (sz : Nat) : Nat → Prop := fun q => sz ≤ q
/-- the abstract heap: nothing beyond the cells that are made; below 16 only rows that nobody writes, as the machine's start has them -/
def am_H (ad : Nat → Nat) (sz : Nat) (h : AH) (nx : AN) (s : State) : Prop := (∀ a, 16 + nx.1 ≤ a → h a = am_J) ∧ (∀ a, a < 16 → h a = am_J ∨ ∃ n f, h a = .inl (20, n, .inl f)) ∧ ∀ a n f, h a = .inl (20, n, .inl f) → a < 16 ∧ va_T .int (ad a) n (fun j => .int (f j)) (am_A sz) s s.heap
def am_nest : List (Nat × Nat × Nat) := (tM.filter fun e => e.2.2.1 == 2 || e.2.2.1 == 4).map fun e => (e.1, e.2.1, e.2.2.2.1)
def sLen : List Nat := [6, 3, 4, 3, 2, 2]
def sByt : List (List Int32) := [[116, 104, 105, 114, 115, 116], [102, 101, 101], [102, 105, 110, 101], [104, 115, 116], [100, 108], [115, 108]]
def sTx : List (Nat × String) := [(70, "thirst"), (72, "fee"), (74, "fine"), (76, "hst"), (78, "dl"), (80, "sl")]
/-- the String constants, and what their methods read -/
def am_T (ad : Nat → Nat) (sz : Nat) (s : State) : Prop := (∃ adV, vk_S 6 sLen sByt (fun i => ad (4 + i)) adV (am_A sz) s s.heap) ∧ (∀ i q, sTx[i]? = some q → vk_R (oN 4) q.1 q.2 (ad (4 + i)) s) ∧
  va_Z "java/lang/String" "COMPACT_STRINGS" "Z" (.int 1) (am_A sz) s s.heap ∧ va_Zq "jdk/internal/util/Preconditions" "SIOOBE_FORMATTER" "Ljava/util/function/BiFunction;" (am_A sz) s s.heap
/-- what stays as it is while a method runs -/
def am_C (D : va_G) (ad dA : Nat → Nat) (sz : Nat) (s : State) : Prop := (∀ i, ad (16 + i) = sz + i) ∧ sz ≤ s.heap.size ∧ va_K D classes (am_tys dA) s ∧
  (va_AO (oN 7) s ∧ va_AO (oN 2) s ∧ va_AO (oN 5) s ∧ va_AO (oN 6) s) ∧ (∀ e ∈ am_nest, va_Nw (.methodLinkNest (oN e.1) e.2.1 (mY e.2.2) "ThirstLead") s) ∧
  (va_Z "ThirstLead" "SET_MOST" "[I" (.ref (ad 1)) (am_A sz) s s.heap ∧ va_Z "ThirstLead" "RULE_MOST" "[I" (.ref (ad 2)) (am_A sz) s s.heap ∧ va_Z "ThirstLead" "RULE_LEAST" "[I" (.ref (ad 3)) (am_A sz) s s.heap) ∧ am_T ad sz s
theorem sv_cat (ad : Nat → Nat) (v : Value) : (sv ad v).category = v.category := by cases v <;> rfl
theorem am_ws_len (ad dA : Nat → Nat) (h : AH) (n : Nat) : (am_ws ad dA h n).length = n := by simp [am_ws]
theorem am_ws_at {ad dA : Nat → Nat} {h : AH} {n i : Nat} (hi : i < n) : (am_ws ad dA h n)[i]? = some (ad (16 + i), se ad dA (h (16 + i))) := by simp [am_ws, hi]
theorem am_ws_set {ad dA : Nat → Nat} {h : AH} {n i : Nat} (hi : i < n) (c : va_E) : (am_ws ad dA h n).set i (ad (16 + i), se ad dA c) = am_ws ad dA (put h (16 + i) c) n := by
  apply List.ext_getElem?
  intro j
  rw [List.getElem?_set]
  by_cases hj : i = j
  · subst hj
    rw [if_pos rfl, am_ws_len, if_pos hi, am_ws_at hi]
    simp [put]
  · rw [if_neg hj]
    by_cases hjn : j < n
    · rw [am_ws_at hjn, am_ws_at hjn]
      rw [show put h (16 + i) c (16 + j) = h (16 + j) from if_neg (by omega)]
    · rw [List.getElem?_eq_none (by rw [am_ws_len]; omega), List.getElem?_eq_none (by rw [am_ws_len]; omega)]
theorem am_ws_push {ad dA : Nat → Nat} {h : AH} {n : Nat} (c : va_E) : am_ws ad dA h n ++ [(ad (16 + n), se ad dA c)] = am_ws ad dA (put h (16 + n) c) (n + 1) := by
  apply List.ext_getElem?
  intro j
  by_cases hj : j < n
  · rw [List.getElem?_append_left (by rw [am_ws_len]; exact hj), am_ws_at hj, am_ws_at (by omega)]
    rw [show put h (16 + n) c (16 + j) = h (16 + j) from if_neg (by omega)]
  · rw [List.getElem?_append_right (by rw [am_ws_len]; omega), am_ws_len]
    by_cases hn : j = n
    · subst hn
      rw [am_ws_at (by omega)]
      simp [put]
    · rw [List.getElem?_eq_none (by simp; omega), List.getElem?_eq_none (by rw [am_ws_len]; omega)]
theorem am_D {ad dA : Nat → Nat} {sz : Nat} (had : ∀ i, ad (16 + i) = sz + i) (h : AH) (n : Nat) : va_D (am_A sz) (am_ws ad dA h n) := by
  have key : ∀ (i : Nat) (p : Nat × va_E), (am_ws ad dA h n)[i]? = some p → p.1 = sz + i := by
    intro i p hp
    by_cases hi : i < n
    · rw [am_ws_at hi] at hp
      cases hp
      exact had i
    · rw [List.getElem?_eq_none (by rw [am_ws_len]; omega)] at hp
      cases hp
  refine ⟨fun i j p q hp hq e => ?_, fun k q hq => ?_⟩
  · rw [key i p hp, key j q hq] at e
    omega
  · show sz ≤ q.1
    rw [key k q hq]
    omega
theorem put_same (h : AH) (a : Nat) (c : va_E) : put h a c a = c := by simp [put]
theorem put_ne (h : AH) {a b : Nat} (c : va_E) (n : b ≠ a) : put h a c b = h b := by simp [put, n]
theorem am_H.set {ad : Nat → Nat} {sz : Nat} {h : AH} {nx : AN} {s : State} (hH : am_H ad sz h nx s) {a : Nat} (h1 : 16 ≤ a) (h2 : a < 16 + nx.1) {c : va_E} (hc : ∀ n f, c ≠ .inl (20, n, .inl f)) : am_H ad sz (put h a c) nx s := by
  obtain ⟨q1, q2, q3⟩ := hH
  refine ⟨fun b hb => ?_, fun b hb => ?_, fun b n f hb => ?_⟩
  · rw [put_ne _ _ (by omega)]; exact q1 b hb
  · rw [put_ne _ _ (by omega)]; exact q2 b hb
  · by_cases e : b = a
    · subst e
      rw [put_same] at hb
      exact absurd hb (hc n f)
    · rw [put_ne _ _ e] at hb
      exact q3 b n f hb
theorem am_H.push {ad : Nat → Nat} {sz : Nat} {h : AH} {nx : AN} {s : State} (hH : am_H ad sz h nx s) {c : va_E} (hc : ∀ n f, c ≠ .inl (20, n, .inl f)) (m : Nat) : am_H ad sz (put h (16 + nx.1) c) (nx.1 + 1, m) s := by
  obtain ⟨q1, q2, q3⟩ := hH
  refine ⟨fun b hb => ?_, fun b hb => ?_, fun b n f hb => ?_⟩
  · have hb : 16 + (nx.1 + 1) ≤ b := hb
    rw [put_ne _ _ (by omega)]; exact q1 b (by omega)
  · rw [put_ne _ _ (by omega)]; exact q2 b hb
  · by_cases e : b = 16 + nx.1
    · subst e
      rw [put_same] at hb
      exact absurd hb (hc n f)
    · rw [put_ne _ _ e] at hb
      exact q3 b n f hb
/-- a cell that is an object of ours, or an array of ours, is one that was made -/
theorem am_H.made {ad : Nat → Nat} {sz : Nat} {h : AH} {nx : AN} {s : State} (hH : am_H ad sz h nx s) {a : Nat} (h1 : h a ≠ am_J) (h2 : ∀ n f, h a ≠ .inl (20, n, .inl f)) : ∃ i, i < nx.1 ∧ a = 16 + i := by
  obtain ⟨q1, q2, q3⟩ := hH
  by_cases hl : a < 16
  · rcases q2 a hl with e | ⟨n, f, e⟩
    · exact absurd e h1
    · exact absurd e (h2 n f)
  · by_cases hu : a < 16 + nx.1
    · exact ⟨a - 16, by omega, by omega⟩
    · exact absurd (q1 a (by omega)) h1
def am_lv (ad : Nat → Nat) (ls : List Value) : List (Nat × Value) := (List.range ls.length).filterMap fun j => match ls[j]? with
  | some v => if vis v = true then some (j, sv ad v) else none
  | none => none
theorem am_lv_mem {ad : Nat → Nat} {ls : List Value} {j : Nat} {w : Value} : (j, w) ∈ am_lv ad ls ↔ ∃ v, ls[j]? = some v ∧ vis v = true ∧ w = sv ad v := by
  unfold am_lv
  rw [List.mem_filterMap]
  constructor
  · rintro ⟨i, hi, e⟩
    cases hv : ls[i]? with
    | none => rw [hv] at e; cases e
    | some v =>
      rw [hv] at e
      by_cases hvv : vis v = true
      · simp only [hvv, if_true, Option.some.injEq, Prod.mk.injEq] at e
        obtain ⟨rfl, rfl⟩ := e
        exact ⟨v, hv, hvv, rfl⟩
      · simp [hvv] at e
  · rintro ⟨v, hv, hvv, rfl⟩
    refine ⟨j, ?_, by rw [hv]; simp [hvv]⟩
    rw [List.mem_range]
    exact (List.getElem?_eq_some_iff.mp hv).1
theorem LR.has {ad : Nat → Nat} {cls : Array Slot} {nL : Nat} {ls : List Value} (h : LR ad cls nL ls) : lv_has cls nL (am_lv ad ls) := by
  refine ⟨h.1, h.2.1, fun q hq => ?_⟩
  obtain ⟨v, h1, h2, h3⟩ := am_lv_mem.mp (show (q.1, q.2) ∈ am_lv ad ls from hq)
  rw [h3]
  exact h.2.2.2.1 q.1 v h1 h2
theorem LR.at {ad : Nat → Nat} {cls : Array Slot} {nL : Nat} {ls : List Value} (h : LR ad cls nL ls) {j : Nat} {v : Value} (hv : ls[j]? = some v) (hvv : vis v = true) : cls[j]? = some (.val (sv ad v)) := h.2.2.2.1 j v hv hvv
/-- a value of one slot is stored -/
theorem LR.put1 {ad : Nat → Nat} {cls cls' : Array Slot} {nL i : Nat} {ls : List Value} {v : Value} (h : LR ad cls nL ls) (hi : i < nL) (hv : v.category = 1) (hn : ∀ q, ls[i]? ≠ some (.retAddr q))
    (h' : lv_has cls' nL ((i, sv ad v) :: (am_lv ad ls).filter (fun q => !(q.1 == i) && !(q.1 + 1 == i && q.2.category == 2)))) : LR ad cls' nL (ls.set i v) := by
  have hlen : ls.length = nL := h.2.2.1
  refine ⟨h'.1, h'.2.1, by rw [List.length_set]; exact hlen, fun j w hw hvw => ?_, fun j x hx => ?_⟩
  · by_cases e : i = j
    · subst e
      rw [List.getElem?_set_self (by omega)] at hw
      cases hw
      exact h'.2.2 (i, sv ad v) List.mem_cons_self
    · rw [List.getElem?_set_ne e] at hw
      refine h'.2.2 (j, sv ad w) (List.mem_cons_of_mem _ (List.mem_filter.mpr ⟨am_lv_mem.mpr ⟨w, hw, hvw, rfl⟩, ?_⟩))
      simp only [Bool.and_eq_true, Bool.not_eq_true', beq_eq_false_iff_ne, ne_eq, Bool.and_eq_false_iff]
      refine ⟨fun q => e q.symm, ?_⟩
      by_cases e2 : j + 1 = i
      · refine Or.inr ?_
        rw [sv_cat]
        intro hc
        cases w with
        | long x =>
          obtain ⟨q, hq⟩ := h.2.2.2.2 j x hw
          rw [e2] at hq
          exact hn q hq
        | double x => cases hvw
        | _ => cases hc
      · exact Or.inl e2
  · by_cases e : i = j
    · subst e
      rw [List.getElem?_set_self (by omega)] at hx
      cases hx
      cases hv
    · rw [List.getElem?_set_ne e] at hx
      obtain ⟨q, hq⟩ := h.2.2.2.2 j x hx
      by_cases e2 : i = j + 1
      · subst e2
        exact absurd hq (hn q)
      · exact ⟨q, by rw [List.getElem?_set_ne e2]; exact hq⟩
theorem LR.put2 {ad : Nat → Nat} {cls cls' : Array Slot} {nL i : Nat} {ls : List Value} {x : Int64} (h : LR ad cls nL ls) (hi : i + 1 < nL) (hn : ∀ q, ls[i]? ≠ some (.retAddr q)) (hn2 : ∀ q, ls[i + 1]? ≠ some (.long q))
    (h' : lv_has cls' nL ((i, .long x) :: (am_lv ad ls).filter (fun q => !(q.1 == i) && (!(q.1 == i + 1) && !(q.1 + 1 == i && q.2.category == 2))))) : LR ad cls' nL ((ls.set i (.long x)).set (i + 1) (.retAddr 0)) := by
  have hlen : ls.length = nL := h.2.2.1
  refine ⟨h'.1, h'.2.1, by rw [List.length_set, List.length_set]; exact hlen, fun j w hw hvw => ?_, fun j y hy => ?_⟩
  · by_cases e1 : i + 1 = j
    · subst e1
      rw [List.getElem?_set_self (by rw [List.length_set]; omega)] at hw
      cases hw
      cases hvw
    · rw [List.getElem?_set_ne e1] at hw
      by_cases e : i = j
      · subst e
        rw [List.getElem?_set_self (by omega)] at hw
        cases hw
        exact h'.2.2 (i, .long x) List.mem_cons_self
      · rw [List.getElem?_set_ne e] at hw
        refine h'.2.2 (j, sv ad w) (List.mem_cons_of_mem _ (List.mem_filter.mpr ⟨am_lv_mem.mpr ⟨w, hw, hvw, rfl⟩, ?_⟩))
        simp only [Bool.and_eq_true, Bool.not_eq_true', beq_eq_false_iff_ne, ne_eq, Bool.and_eq_false_iff]
        refine ⟨fun q => e q.symm, fun q => e1 q.symm, ?_⟩
        by_cases e2 : j + 1 = i
        · refine Or.inr ?_
          rw [sv_cat]
          intro hc
          cases w with
          | long z =>
            obtain ⟨q, hq⟩ := h.2.2.2.2 j z hw
            rw [e2] at hq
            exact hn q hq
          | double z => cases hvw
          | _ => cases hc
        · exact Or.inl e2
  · by_cases e1 : i + 1 = j
    · subst e1
      rw [List.getElem?_set_self (by rw [List.length_set]; omega)] at hy
      cases hy
    · rw [List.getElem?_set_ne e1] at hy
      by_cases e : i = j
      · subst e
        exact ⟨0, by rw [List.getElem?_set_self (by rw [List.length_set]; omega)]⟩
      · rw [List.getElem?_set_ne e] at hy
        obtain ⟨q, hq⟩ := h.2.2.2.2 j y hy
        have n1 : i ≠ j + 1 := fun z => by subst z; exact hn q hq
        have n2 : i + 1 ≠ j + 1 := by omega
        exact ⟨q, by rw [List.getElem?_set_ne n2, List.getElem?_set_ne n1]; exact hq⟩
/-- all that a walk keeps -/
def am_St (D : va_G) (ad dA : Nat → Nat) (sz : Nat) (s : State) (nL : Nat) (n0 : AN) (ls : List Value) (h : AH) (nx : AN) (cls : Array Slot) (H : Heap) (locs : List Loc) (cells slots : Nat) : Prop :=
  LR ad cls nL ls ∧ va_P D classes (am_ws ad dA h nx.1) H ∧ va_S (am_A sz) s.heap H locs ∧ am_H ad sz h nx s ∧ n0.1 + cells = nx.1 ∧ n0.2 + slots = nx.2
