theorem lkF_spec {o i ci f : Nat} (h : lkF o i = some (ci, f)) : (∃ j : Nat, lwa (j) = some (.fieldLink (oN o) i (cT ci f).1 (cT ci f).2.1 (cT ci f).2.2.1)) ∧ ci < 10 ∧ f < cN ci := by
  unfold lkF at h
  cases hf : tF.find? fun e => e.1 == o && e.2.1 == i with
  | none => rw [hf] at h; cases h
  | some x =>
    obtain ⟨a, b, ci', f', j⟩ := x
    rw [hf] at h
    cases h
    have h1 := List.find?_some hf
    have h2 := List.all_eq_true.mp tF_ok _ (List.mem_of_find?_eq_some hf)
    simp only [Bool.and_eq_true, beq_iff_eq] at h1
    simp only [tF_ck, Bool.and_eq_true, decide_eq_true_eq] at h2
    obtain ⟨rfl, rfl⟩ := h1
    exact ⟨⟨j, h2.1.1⟩, h2.1.2, h2.2⟩
theorem lkC_spec {o i ci : Nat} (h : lkC o i = some ci) : (∃ j : Nat, lwa (j) = some (.classLink (oN o) i (oN ci))) ∧ (∃ j : Nat, lwa (j) = some (.instantiable (oN ci) (cN ci))) ∧ (∃ j : Nat, lwa (j) = some (.initialized (oN ci))) ∧ ci < 10 := by
  unfold lkC at h
  cases hf : tC.find? fun e => e.1 == o && e.2.1 == i with
  | none => rw [hf] at h; cases h
  | some x =>
    obtain ⟨a, b, ci', j1, j2, j3⟩ := x
    rw [hf] at h
    cases h
    have h1 := List.find?_some hf
    have h2 := List.all_eq_true.mp tC_ok _ (List.mem_of_find?_eq_some hf)
    simp only [Bool.and_eq_true, beq_iff_eq] at h1
    simp only [tC_ck, Bool.and_eq_true, decide_eq_true_eq] at h2
    obtain ⟨rfl, rfl⟩ := h1
    exact ⟨⟨j1, h2.1.1.1⟩, ⟨j2, h2.1.1.2⟩, ⟨j3, h2.1.2⟩, h2.2⟩
theorem lkK_spec {o i : Nat} {v : Int32} (h : lkK o i = some v) : ∃ j : Nat, lwa (j) = some (.constant (oN o) i v) := by
  unfold lkK at h
  cases hf : tK.find? fun e => e.1 == o && e.2.1 == i with
  | none => rw [hf] at h; cases h
  | some x =>
    obtain ⟨a, b, v', j⟩ := x
    rw [hf] at h
    cases h
    have h1 := List.find?_some hf
    have h2 := List.all_eq_true.mp tK_ok _ (List.mem_of_find?_eq_some hf)
    simp only [Bool.and_eq_true, beq_iff_eq] at h1
    simp only [tK_ck, decide_eq_true_eq] at h2
    obtain ⟨rfl, rfl⟩ := h1
    exact ⟨j, h2⟩
theorem cls_in {ci : Nat} (h : ci < 10) : ∀ w ∈ u_ws (oN ci) (cT ci) (cN ci), w ∈ gw := by
  intro w hw
  unfold u_ws at hw
  obtain ⟨f, hf, rfl⟩ := List.mem_map.mp hw
  have h1 := List.all_eq_true.mp (List.all_eq_true.mp cls_ok ci (List.mem_range.mpr h)) f hf
  simp only [Bool.and_eq_true, decide_eq_true_eq] at h1
  exact gw_at h1.1 h1.2
theorem cY_at {ci f : Nat} (h : ci < 10) (hf : f < cN ci) : parseFieldDescriptor (cT ci f).2.2.1 = some (cY ci f) := by
  have h1 := List.all_eq_true.mp (List.all_eq_true.mp cY_ok ci (List.mem_range.mpr h)) f (List.mem_range.mpr hf)
  simpa using h1
theorem nm_at {ci : Nat} (h : ci < 10) : ∀ a, a < cN ci → ∀ b, b < cN ci → a ≠ b → (cT ci a).2.1 ≠ (cT ci b).2.1 := by
  intro a ha b hb
  have h1 := List.all_eq_true.mp (List.all_eq_true.mp (List.all_eq_true.mp nm_ok ci (List.mem_range.mpr h)) a (List.mem_range.mpr ha)) b (List.mem_range.mpr hb)
  exact of_decide_eq_true h1
theorem own_at {ci f : Nat} (h : ci < 10) (hf : f < cN ci) : (cT ci f).1 = oN ci := by
  have h1 := List.all_eq_true.mp (List.all_eq_true.mp own_ok ci (List.mem_range.mpr h)) f (List.mem_range.mpr hf)
  simpa using h1
theorem gF_some {h : AH} {a ci f : Nat} {v : Value} (q : gF h a ci f = some v) : ∃ fs, h a = .inr (ci, fs) ∧ fs[f]? = some v := by
  unfold gF at q
  split at q
  · rename_i c fs hc
    replace q := if_so q
    obtain ⟨rfl, q⟩ := q
    exact ⟨fs, hc, q⟩
  · cases q
theorem pF_some {h h' : AH} {a ci f : Nat} {v : Value} (q : pF h a ci f v = some h') : ∃ fs, h a = .inr (ci, fs) ∧ f < fs.length ∧ h' = put h a (.inr (ci, fs.set f v)) := by
  unfold pF at q
  split at q
  · rename_i c fs hc
    replace q := if_so q
    obtain ⟨⟨rfl, hf⟩, q⟩ := q
    cases q
    exact ⟨fs, hc, hf, rfl⟩
  · cases q
theorem am_obj {ad : Nat → Nat} {sz : Nat} {h : AH} {nx : AN} {s : State} (hH : am_H ad sz h nx s) {a ci : Nat} {fs : List Value} (e : h a = .inr (ci, fs)) (hci : ci < 10) : ∃ i, i < nx.1 ∧ a = 16 + i := by
  refine hH.made (fun q => ?_) (fun n f q => ?_)
  · rw [e] at q
    cases q
    omega
  · rw [e] at q
    cases q
theorem aL_some {h : AH} {a : Nat} {x : Int32} (q : aL h a = some x) : (∃ (c n : Nat) (f : Nat → Int32), h a = .inl (c, n, .inl f) ∧ (c < 3 ∨ c = 20) ∧ x = Int32.ofNat n) ∨ ∃ (c n : Nat) (f : Nat → Option Nat), h a = .inl (c, n, .inr (.inr (.inr (.inr f)))) ∧ (3 ≤ c ∧ c < 7) ∧ x = Int32.ofNat n := by
  unfold aL at q
  split at q
  · rename_i c n f hc
    replace q := if_so q
    obtain ⟨h1, q⟩ := q
    cases q
    exact Or.inl ⟨c, n, f, hc, h1, rfl⟩
  · rename_i c n f hc
    replace q := if_so q
    obtain ⟨h1, q⟩ := q
    cases q
    exact Or.inr ⟨c, n, f, hc, h1, rfl⟩
  · cases q
theorem am_arr {ad : Nat → Nat} {sz : Nat} {h : AH} {nx : AN} {s : State} (hH : am_H ad sz h nx s) {a c : Nat} {x : vp_A} (e : h a = .inl (c, x)) (hc : c ≠ 20) : ∃ i, i < nx.1 ∧ a = 16 + i := by
  refine hH.made (fun q => ?_) (fun n f q => ?_)
  · rw [e] at q
    cases q
  · rw [e] at q
    cases q
    exact hc rfl
theorem ib_in {i : Int32} {n : Nat} (h : ib i n = true) : vp_in i n := by
  have h1 : ¬ (i < 0 ∨ n ≤ i.toNatClampNeg) := of_decide_eq_true h
  exact h1
theorem rI_some {h : AH} {a t : Nat} {i x : Int32} (q : rI h a i t = some x) : ∃ n f, h a = .inl (t, n, .inl f) ∧ vp_in i n ∧ x = f i.toNatClampNeg := by
  unfold rI at q
  split at q
  · rename_i c n f hc
    replace q := if_so q
    obtain ⟨⟨rfl, hi⟩, q⟩ := q
    cases q
    exact ⟨n, f, hc, ib_in hi, rfl⟩
  · cases q
theorem wI_some {h h' : AH} {a t : Nat} {i x : Int32} (q : wI h a i t x = some h') : ∃ n f, h a = .inl (t, n, .inl f) ∧ vp_in i n ∧ h' = put h a (.inl (t, n, .inl (upd f i.toNatClampNeg x))) := by
  unfold wI at q
  split at q
  · rename_i c n f hc
    replace q := if_so q
    obtain ⟨⟨rfl, hi⟩, q⟩ := q
    cases q
    exact ⟨n, f, hc, ib_in hi, rfl⟩
  · cases q
theorem rR_some {h : AH} {a x : Nat} {i : Int32} (q : rR h a i = some x) : ∃ (c n : Nat) (f : Nat → Option Nat), h a = .inl (c, n, .inr (.inr (.inr (.inr f)))) ∧ (3 ≤ c ∧ c < 7) ∧ vp_in i n ∧ f i.toNatClampNeg = some x := by
  unfold rR at q
  split at q
  · rename_i c n f hc
    replace q := if_so q
    obtain ⟨⟨h1, hi⟩, q⟩ := q
    exact ⟨c, n, f, hc, h1, ib_in hi, q⟩
  · cases q
theorem wR_some {h h' : AH} {a v : Nat} {i : Int32} (q : wR h a i v = some h') : ∃ (c n : Nat) (f : Nat → Option Nat), h a = .inl (c, n, .inr (.inr (.inr (.inr f)))) ∧ (3 ≤ c ∧ c < 7) ∧ vp_in i n ∧ ck h v (aC c) = true ∧ h' = put h a (.inl (c, n, .inr (.inr (.inr (.inr (va_up f i.toNatClampNeg (some v))))))) := by
  unfold wR at q
  split at q
  · rename_i c n f hc
    replace q := if_so q
    obtain ⟨⟨⟨h1, hi⟩, h2⟩, q⟩ := q
    cases q
    exact ⟨c, n, f, hc, h1, ib_in hi, h2, rfl⟩
  · cases q
theorem ck_some {h : AH} {a ci : Nat} (q : ck h a ci = true) : ∃ fs, h a = .inr (ci, fs) := by
  unfold ck at q
  split at q
  · rename_i c fs hc
    rw [beq_iff_eq] at q
    subst q
    exact ⟨fs, hc⟩
  · cases q
theorem tys_at {c : Nat} (dA : Nat → Nat) (h : 3 ≤ c ∧ c < 7) : (am_tys dA)[c]? = some (dA c, .object (oN (aC c))) := by
  obtain ⟨h1, h2⟩ := h
  rcases (show c = 3 ∨ c = 4 ∨ c = 5 ∨ c = 6 by omega) with rfl | rfl | rfl | rfl <;> rfl
theorem aC_lt {c : Nat} (h : 3 ≤ c ∧ c < 7) : aC c < 10 := by
  obtain ⟨h1, h2⟩ := h
  rcases (show c = 3 ∨ c = 4 ∨ c = 5 ∨ c = 6 by omega) with rfl | rfl | rfl | rfl <;> decide
theorem okv_n {ad : Nat → Nat} {ty : FieldType} {v : Value} (h : okv ty v = true) : narrow ty (sv ad v) = sv ad v ∧ fits ty (sv ad v) = true := by
  unfold okv at h
  split at h
  · exact ⟨rfl, rfl⟩
  · rename_i x
    simp only [Bool.or_eq_true, beq_iff_eq] at h
    rcases h with rfl | rfl <;> exact ⟨by simp only [sv]; decide, by simp only [sv]; decide⟩
  · exact ⟨rfl, rfl⟩
  · exact ⟨rfl, rfl⟩
  · cases h
/-- the size of the heap is known: no more cells than were counted -/
theorem W_size {p : Program} {l : Launch} {e : Env} {R : Room} {s : State} {m : MethodId} {args : Array Value} {below : List Frame} {meth : Method} {c : Code} {H : Heap} {locs : List Loc} {cells slots : Nat} {Q : State → Prop} {g : JFrame} (k : H.size ≤ s.heap.size + cells → W p l e R s m args below meth c H locs cells slots Q g) : W p l e R s m args below meth c H locs cells slots Q g := by
  intro T hT X
  refine k ?_ T hT X
  have h1 := X.same.2.2.1
  rw [← hT]
  exact h1
theorem am_size {D : va_G} {ad dA : Nat → Nat} {sz n : Nat} {h : AH} {H : Heap} (had : ∀ i, ad (16 + i) = sz + i) (hP : va_P D classes (am_ws ad dA h n) H) (hz : sz ≤ H.size) : sz + n ≤ H.size := by
  cases n with
  | zero => simpa using hz
  | succ n =>
    have h1 := (hP n _ (am_ws_at (by omega))).lt
    have h1 : ad (16 + n) < H.size := h1
    rw [had] at h1
    omega
section SM
variable {p : Program} {l : Launch} {e : Env} {R : Room} {s : State} {m : MethodId} {args : Array Value} {below : List Frame} {meth : Method} {c : Code} {Q : State → Prop} {D : va_G} {ad dA : Nat → Nat} {sz k d : Nat} {n0 : AN} {call : Nat → List Value → AH → AN → Option AR} {pc len : Nat} {ls st : List Value} {h : AH} {nx : AN} {f : AF}

theorem sm_getfield {ix : Nat} (B : am_B p R s m args meth c D ad dA sz k d n0) (hd : decode (mC k) pc = .ok (.getfield ix, len)) (hs : am_do call k (.getfield ix) len pc ls st h nx = some (.inl f)) (kk : am_W p l e R s m args below meth c Q D ad dA sz k n0 f) : am_W p l e R s m args below meth c Q D ad dA sz k n0 (pc, ls, st, h, nx) := by
  obtain ⟨hx, hb, hml, hown, hts, hC, hin, hfr, hlo, hs0⟩ := B
  intro cls H locs cells slots hS
  obtain ⟨hl, hP, hSS, hH, hc1, hc2⟩ := id hS
  replace hs := if_so hs
  obtain ⟨rfl, hs⟩ := hs
  split at hs
  · rename_i o ci fn a r hk
    split at hs
    · rename_i v hv
      obtain rfl := to_inj hs
      obtain ⟨fs, e1, e2⟩ := gF_some hv
      obtain ⟨⟨j, hj⟩, hci, hf⟩ := lkF_spec hk
      obtain ⟨i, hi, rfl⟩ := am_obj hH e1 hci
      have he := am_ws_at (ad := ad) (dA := dA) (h := h) hi
      rw [e1] at he
      exact va_get hx hb hts (cls_in hci) hown hC.2.2.1 hP i he (classes_at hci) fn hf (hts _ (gw_at hj rfl)) (fun _ z => z) (by rw [List.getElem?_map, e2]; rfl) hd (kk _ _ _ _ _ hS)
    · cases hs
  · cases hs
theorem sm_putfield {ix : Nat} (B : am_B p R s m args meth c D ad dA sz k d n0) (hd : decode (mC k) pc = .ok (.putfield ix, len)) (hs : am_do call k (.putfield ix) len pc ls st h nx = some (.inl f)) (kk : am_W p l e R s m args below meth c Q D ad dA sz k n0 f) : am_W p l e R s m args below meth c Q D ad dA sz k n0 (pc, ls, st, h, nx) := by
  obtain ⟨hx, hb, hml, hown, hts, hC, hin, hfr, hlo, hs0⟩ := B
  intro cls H locs cells slots hS
  obtain ⟨hl, hP, hSS, hH, hc1, hc2⟩ := id hS
  replace hs := if_so hs
  obtain ⟨rfl, hs⟩ := hs
  split at hs
  · rename_i o ci fn v a r hk
    replace hs := if_so hs
    obtain ⟨hv, hs⟩ := hs
    split at hs
    · rename_i h1 hp
      obtain rfl := to_inj hs
      obtain ⟨fs, e1, g1, rfl⟩ := pF_some hp
      obtain ⟨⟨j, hj⟩, hci, hf⟩ := lkF_spec hk
      obtain ⟨i, hi, rfl⟩ := am_obj hH e1 hci
      have he := am_ws_at (ad := ad) (dA := dA) (h := h) hi
      rw [e1] at he
      have fin : ∀ H1, va_P D classes ((am_ws ad dA h nx.1).set i (ad (16 + i), .inr (ci, (fs.map (sv ad)).set fn (sv ad v)))) H1 → va_P D classes (am_ws ad dA (put h (16 + i) (.inr (ci, fs.set fn v))) nx.1) H1 := by
        intro H1 q
        rw [← am_ws_set hi]
        show va_P D classes (List.set _ i (_, .inr (ci, (fs.set fn v).map (sv ad)))) H1
        rw [List.map_set]
        exact q
      rcases hv.2 with hn | ⟨hn, ho⟩
      · refine va_put hx hb hts (cls_in hci) (cY ci) (fun z hz => cY_at hci hz) (nm_at hci) hown hC.2.2.1 hP (am_D hC.1 _ _) hSS i he (classes_at hci) fn hf (hts _ (gw_at hj rfl)) (fun _ z => z) hn (cY_at hci hf) (okv_n hv.1).1 (okv_n hv.1).2 (by rw [List.length_map]; exact g1) hd (fun H1 locs1 hP1 hD1 hS1 => kk _ _ _ _ _ ⟨hl, ?_, hS1, hH.set (by omega) (by omega) (fun n f z => by cases z), hc1, hc2⟩)
        exact fin H1 hP1
      · by_cases hfi : (cT ci fn).2.2.2 = true
        · refine va_putF hx hb hts (cls_in hci) (cY ci) (fun z hz => cY_at hci hz) (nm_at hci) hown hC.2.2.1 hP (am_D hC.1 _ _) hSS i he (classes_at hci) fn hf (hts _ (gw_at hj rfl)) (fun _ z => z) hfi (hin.trans hn) ((own_at hci hf).trans (by rw [ho])) (cY_at hci hf) (okv_n hv.1).1 (okv_n hv.1).2 (by rw [List.length_map]; exact g1) hd (fun H1 locs1 hP1 hD1 hS1 => kk _ _ _ _ _ ⟨hl, ?_, hS1, hH.set (by omega) (by omega) (fun n f z => by cases z), hc1, hc2⟩)
          exact fin H1 hP1
        · refine va_put hx hb hts (cls_in hci) (cY ci) (fun z hz => cY_at hci hz) (nm_at hci) hown hC.2.2.1 hP (am_D hC.1 _ _) hSS i he (classes_at hci) fn hf (hts _ (gw_at hj rfl)) (fun _ z => z) (Bool.eq_false_iff.mpr hfi) (cY_at hci hf) (okv_n hv.1).1 (okv_n hv.1).2 (by rw [List.length_map]; exact g1) hd (fun H1 locs1 hP1 hD1 hS1 => kk _ _ _ _ _ ⟨hl, ?_, hS1, hH.set (by omega) (by omega) (fun n f z => by cases z), hc1, hc2⟩)
          exact fin H1 hP1
    · cases hs
  · cases hs
theorem sm_getstatic {ix : Nat} (B : am_B p R s m args meth c D ad dA sz k d n0) (hd : decode (mC k) pc = .ok (.getstatic ix, len)) (hs : am_do call k (.getstatic ix) len pc ls st h nx = some (.inl f)) (kk : am_W p l e R s m args below meth c Q D ad dA sz k n0 f) : am_W p l e R s m args below meth c Q D ad dA sz k n0 (pc, ls, st, h, nx) := by
  obtain ⟨hx, hb, hml, hown, hts, hC, hin, hfr, hlo, hs0⟩ := B
  intro cls H locs cells slots hS
  obtain ⟨hl, hP, hSS, hH, hc1, hc2⟩ := id hS
  replace hs := if_so hs
  obtain ⟨rfl, hs⟩ := hs
  split at hs
  · rename_i a hk
    obtain rfl := to_inj hs
    replace hk := if_so hk
    obtain ⟨ho, hk⟩ := hk
    rw [ho] at hown
    split at hk
    · rename_i hi
      subst hi
      cases hk
      exact va_gets hx hb (hC.2.2.2.2.2.1.1) hSS hown (hts (.fieldLink "ThirstLead" 128 "ThirstLead" "SET_MOST" "[I") (gw_at (j := 449) (by decide +kernel) rfl)) (fun _ z => z) hd (kk _ _ _ _ _ hS)
    split at hk
    · rename_i hi
      subst hi
      cases hk
      exact va_gets hx hb (hC.2.2.2.2.2.1.2.1) hSS hown (hts (.fieldLink "ThirstLead" 134 "ThirstLead" "RULE_MOST" "[I") (gw_at (j := 459) (by decide +kernel) rfl)) (fun _ z => z) hd (kk _ _ _ _ _ hS)
    split at hk
    · rename_i hi
      subst hi
      cases hk
      exact va_gets hx hb (hC.2.2.2.2.2.1.2.2) hSS hown (hts (.fieldLink "ThirstLead" 137 "ThirstLead" "RULE_LEAST" "[I") (gw_at (j := 461) (by decide +kernel) rfl)) (fun _ z => z) hd (kk _ _ _ _ _ hS)
    · cases hk
  · cases hs
theorem sm_ldc_w {ix : Nat} (B : am_B p R s m args meth c D ad dA sz k d n0) (hd : decode (mC k) pc = .ok (.ldc_w ix, len)) (hs : am_do call k (.ldc_w ix) len pc ls st h nx = some (.inl f)) (kk : am_W p l e R s m args below meth c Q D ad dA sz k n0 f) : am_W p l e R s m args below meth c Q D ad dA sz k n0 (pc, ls, st, h, nx) := by
  obtain ⟨hx, hb, hml, hown, hts, hC, hin, hfr, hlo, hs0⟩ := B
  intro cls H locs cells slots hS
  obtain ⟨hl, hP, hSS, hH, hc1, hc2⟩ := id hS
  replace hs := if_so hs
  obtain ⟨rfl, hs⟩ := hs
  split at hs
  · rename_i v hk
    obtain rfl := to_inj hs
    obtain ⟨j, hj⟩ := lkK_spec hk
    exact lv_ldcw hx hb hown (hts _ (gw_at hj rfl)) hd (kk _ _ _ _ _ hS)
  · cases hs
theorem sm_ldc {ix : Nat} (B : am_B p R s m args meth c D ad dA sz k d n0) (hd : decode (mC k) pc = .ok (.ldc ix, len)) (hs : am_do call k (.ldc ix) len pc ls st h nx = some (.inl f)) (kk : am_W p l e R s m args below meth c Q D ad dA sz k n0 f) : am_W p l e R s m args below meth c Q D ad dA sz k n0 (pc, ls, st, h, nx) := by
  obtain ⟨hx, hb, hml, hown, hts, hC, hin, hfr, hlo, hs0⟩ := B
  intro cls H locs cells slots hS
  obtain ⟨hl, hP, hSS, hH, hc1, hc2⟩ := id hS
  replace hs := if_so hs
  obtain ⟨rfl, hs⟩ := hs
  split at hs
  · rename_i v hk
    obtain rfl := to_inj hs
    obtain ⟨j, hj⟩ := lkK_spec hk
    exact lv_ldc hx hb hown (hts _ (gw_at hj rfl)) hd (kk _ _ _ _ _ hS)
  · split at hs
    · rename_i a hk2
      obtain rfl := to_inj hs
      replace hk2 := if_so hk2
      obtain ⟨ho, hk2⟩ := hk2
      rw [ho] at hown
      split at hk2
      · rename_i hi
        subst hi
        cases hk2
        exact va_ldcS hx hb hown (hC.2.2.2.2.2.2.2.1 0 _ rfl) hd (kk _ _ _ _ _ hS)
      split at hk2
      · rename_i hi
        subst hi
        cases hk2
        exact va_ldcS hx hb hown (hC.2.2.2.2.2.2.2.1 1 _ rfl) hd (kk _ _ _ _ _ hS)
      split at hk2
      · rename_i hi
        subst hi
        cases hk2
        exact va_ldcS hx hb hown (hC.2.2.2.2.2.2.2.1 2 _ rfl) hd (kk _ _ _ _ _ hS)
      split at hk2
      · rename_i hi
        subst hi
        cases hk2
        exact va_ldcS hx hb hown (hC.2.2.2.2.2.2.2.1 3 _ rfl) hd (kk _ _ _ _ _ hS)
      split at hk2
      · rename_i hi
        subst hi
        cases hk2
        exact va_ldcS hx hb hown (hC.2.2.2.2.2.2.2.1 4 _ rfl) hd (kk _ _ _ _ _ hS)
      split at hk2
      · rename_i hi
        subst hi
        cases hk2
        exact va_ldcS hx hb hown (hC.2.2.2.2.2.2.2.1 5 _ rfl) hd (kk _ _ _ _ _ hS)
      · cases hk2
    · cases hs
theorem sm_baload  (B : am_B p R s m args meth c D ad dA sz k d n0) (hd : decode (mC k) pc = .ok (.baload, len)) (hs : am_do call k (.baload) len pc ls st h nx = some (.inl f)) (kk : am_W p l e R s m args below meth c Q D ad dA sz k n0 f) : am_W p l e R s m args below meth c Q D ad dA sz k n0 (pc, ls, st, h, nx) := by
  obtain ⟨hx, hb, hml, hown, hts, hC, hin, hfr, hlo, hs0⟩ := B
  intro cls H locs cells slots hS
  obtain ⟨hl, hP, hSS, hH, hc1, hc2⟩ := id hS
  replace hs := if_so hs
  obtain ⟨rfl, hs⟩ := hs
  split at hs
  · rename_i i a r
    split at hs
    · rename_i x hv
      obtain rfl := to_inj hs
      obtain ⟨n, fa, e1, e2, rfl⟩ := rI_some hv
      obtain ⟨q, hq, rfl⟩ := am_arr hH e1 (by decide)
      have he := am_ws_at (ad := ad) (dA := dA) (h := h) hq
      rw [e1] at he
      exact va_zald hx hb hC.2.2.1 hP q 1 he rfl e2 hd (kk _ _ _ _ _ hS)
    · cases hs
  · cases hs
theorem sm_caload  (B : am_B p R s m args meth c D ad dA sz k d n0) (hd : decode (mC k) pc = .ok (.caload, len)) (hs : am_do call k (.caload) len pc ls st h nx = some (.inl f)) (kk : am_W p l e R s m args below meth c Q D ad dA sz k n0 f) : am_W p l e R s m args below meth c Q D ad dA sz k n0 (pc, ls, st, h, nx) := by
  obtain ⟨hx, hb, hml, hown, hts, hC, hin, hfr, hlo, hs0⟩ := B
  intro cls H locs cells slots hS
  obtain ⟨hl, hP, hSS, hH, hc1, hc2⟩ := id hS
  replace hs := if_so hs
  obtain ⟨rfl, hs⟩ := hs
  split at hs
  · rename_i i a r
    split at hs
    · rename_i x hv
      obtain rfl := to_inj hs
      obtain ⟨n, fa, e1, e2, rfl⟩ := rI_some hv
      obtain ⟨q, hq, rfl⟩ := am_arr hH e1 (by decide)
      have he := am_ws_at (ad := ad) (dA := dA) (h := h) hq
      rw [e1] at he
      exact va_cald hx hb hC.2.2.1 hP q 2 he rfl e2 hd (kk _ _ _ _ _ hS)
    · cases hs
  · cases hs
theorem sm_iaload  (B : am_B p R s m args meth c D ad dA sz k d n0) (hd : decode (mC k) pc = .ok (.iaload, len)) (hs : am_do call k (.iaload) len pc ls st h nx = some (.inl f)) (kk : am_W p l e R s m args below meth c Q D ad dA sz k n0 f) : am_W p l e R s m args below meth c Q D ad dA sz k n0 (pc, ls, st, h, nx) := by
  obtain ⟨hx, hb, hml, hown, hts, hC, hin, hfr, hlo, hs0⟩ := B
  intro cls H locs cells slots hS
  obtain ⟨hl, hP, hSS, hH, hc1, hc2⟩ := id hS
  replace hs := if_so hs
  obtain ⟨rfl, hs⟩ := hs
  split at hs
  · rename_i i a r
    split at hs
    · rename_i x hv
      obtain rfl := to_inj hs
      obtain ⟨n, fa, e1, e2, rfl⟩ := rI_some hv
      obtain ⟨q, hq, rfl⟩ := am_arr hH e1 (by decide)
      have he := am_ws_at (ad := ad) (dA := dA) (h := h) hq
      rw [e1] at he
      exact va_iald hx hb hC.2.2.1 hP q 0 he rfl e2 hd (kk _ _ _ _ _ hS)
    · split at hs
      · rename_i x hv
        obtain rfl := to_inj hs
        obtain ⟨n, fa, e1, e2, rfl⟩ := rI_some hv
        obtain ⟨-, hT⟩ := hH.2.2 a n fa e1
        exact va_ti hx hb hT hSS e2 rfl hd (kk _ _ _ _ _ hS)
      · cases hs
  · cases hs
theorem sm_aaload  (B : am_B p R s m args meth c D ad dA sz k d n0) (hd : decode (mC k) pc = .ok (.aaload, len)) (hs : am_do call k (.aaload) len pc ls st h nx = some (.inl f)) (kk : am_W p l e R s m args below meth c Q D ad dA sz k n0 f) : am_W p l e R s m args below meth c Q D ad dA sz k n0 (pc, ls, st, h, nx) := by
  obtain ⟨hx, hb, hml, hown, hts, hC, hin, hfr, hlo, hs0⟩ := B
  intro cls H locs cells slots hS
  obtain ⟨hl, hP, hSS, hH, hc1, hc2⟩ := id hS
  replace hs := if_so hs
  obtain ⟨rfl, hs⟩ := hs
  split at hs
  · rename_i i a r
    split at hs
    · rename_i x hv
      obtain rfl := to_inj hs
      obtain ⟨cc, n, fa, e1, hcc, e2, e3⟩ := rR_some hv
      obtain ⟨q, hq, rfl⟩ := am_arr hH e1 (by omega)
      have he := am_ws_at (ad := ad) (dA := dA) (h := h) hq
      rw [e1] at he
      refine va_aldq hx hb hC.2.2.1 hP q cc he (tys_at dA hcc) e2 hd ?_
      show W p l e R s m args below meth c H locs cells slots Q (F0 m (pc + 1) cls (va_rf ((fa i.toNatClampNeg).map ad) :: r.map (sv ad)))
      rw [e3]
      exact kk _ _ _ _ _ hS
    · cases hs
  · cases hs
theorem sm_iastore  (B : am_B p R s m args meth c D ad dA sz k d n0) (hd : decode (mC k) pc = .ok (.iastore, len)) (hs : am_do call k (.iastore) len pc ls st h nx = some (.inl f)) (kk : am_W p l e R s m args below meth c Q D ad dA sz k n0 f) : am_W p l e R s m args below meth c Q D ad dA sz k n0 (pc, ls, st, h, nx) := by
  obtain ⟨hx, hb, hml, hown, hts, hC, hin, hfr, hlo, hs0⟩ := B
  intro cls H locs cells slots hS
  obtain ⟨hl, hP, hSS, hH, hc1, hc2⟩ := id hS
  replace hs := if_so hs
  obtain ⟨rfl, hs⟩ := hs
  split at hs
  · rename_i x i a r
    split at hs
    · rename_i h1 hv
      obtain rfl := to_inj hs
      obtain ⟨n, fa, e1, e2, rfl⟩ := wI_some hv
      obtain ⟨q, hq, rfl⟩ := am_arr hH e1 (by decide)
      have he := am_ws_at (ad := ad) (dA := dA) (h := h) hq
      rw [e1] at he
      refine va_iast hx hb hC.2.2.1 hP (am_D hC.1 _ _) hSS q 0 he rfl e2 hd (fun H1 locs1 hP1 hD1 hS1 => kk _ _ _ _ _ ⟨hl, ?_, hS1, hH.set (by omega) (by omega) (fun n f z => by cases z), hc1, hc2⟩)
      rw [← am_ws_set hq]
      exact hP1
    · cases hs
  · cases hs
theorem sm_bastore  (B : am_B p R s m args meth c D ad dA sz k d n0) (hd : decode (mC k) pc = .ok (.bastore, len)) (hs : am_do call k (.bastore) len pc ls st h nx = some (.inl f)) (kk : am_W p l e R s m args below meth c Q D ad dA sz k n0 f) : am_W p l e R s m args below meth c Q D ad dA sz k n0 (pc, ls, st, h, nx) := by
  obtain ⟨hx, hb, hml, hown, hts, hC, hin, hfr, hlo, hs0⟩ := B
  intro cls H locs cells slots hS
  obtain ⟨hl, hP, hSS, hH, hc1, hc2⟩ := id hS
  replace hs := if_so hs
  obtain ⟨rfl, hs⟩ := hs
  split at hs
  · rename_i x i a r
    split at hs
    · rename_i h1 hv
      obtain rfl := to_inj hs
      obtain ⟨n, fa, e1, e2, rfl⟩ := wI_some hv
      obtain ⟨q, hq, rfl⟩ := am_arr hH e1 (by decide)
      have he := am_ws_at (ad := ad) (dA := dA) (h := h) hq
      rw [e1] at he
      refine va_zast hx hb hC.2.2.1 hP (am_D hC.1 _ _) hSS q 1 he rfl e2 hd (fun H1 locs1 hP1 hD1 hS1 => kk _ _ _ _ _ ⟨hl, ?_, hS1, hH.set (by omega) (by omega) (fun n f z => by cases z), hc1, hc2⟩)
      rw [← am_ws_set hq]
      exact hP1
    · cases hs
  · cases hs
theorem sm_castore  (B : am_B p R s m args meth c D ad dA sz k d n0) (hd : decode (mC k) pc = .ok (.castore, len)) (hs : am_do call k (.castore) len pc ls st h nx = some (.inl f)) (kk : am_W p l e R s m args below meth c Q D ad dA sz k n0 f) : am_W p l e R s m args below meth c Q D ad dA sz k n0 (pc, ls, st, h, nx) := by
  obtain ⟨hx, hb, hml, hown, hts, hC, hin, hfr, hlo, hs0⟩ := B
  intro cls H locs cells slots hS
  obtain ⟨hl, hP, hSS, hH, hc1, hc2⟩ := id hS
  replace hs := if_so hs
  obtain ⟨rfl, hs⟩ := hs
  split at hs
  · rename_i x i a r
    split at hs
    · rename_i h1 hv
      obtain rfl := to_inj hs
      obtain ⟨n, fa, e1, e2, rfl⟩ := wI_some hv
      obtain ⟨q, hq, rfl⟩ := am_arr hH e1 (by decide)
      have he := am_ws_at (ad := ad) (dA := dA) (h := h) hq
      rw [e1] at he
      refine va_cast hx hb hC.2.2.1 hP (am_D hC.1 _ _) hSS q 2 he rfl e2 hd (fun H1 locs1 hP1 hD1 hS1 => kk _ _ _ _ _ ⟨hl, ?_, hS1, hH.set (by omega) (by omega) (fun n f z => by cases z), hc1, hc2⟩)
      rw [← am_ws_set hq]
      exact hP1
    · cases hs
  · cases hs
theorem sm_aastore  (B : am_B p R s m args meth c D ad dA sz k d n0) (hd : decode (mC k) pc = .ok (.aastore, len)) (hs : am_do call k (.aastore) len pc ls st h nx = some (.inl f)) (kk : am_W p l e R s m args below meth c Q D ad dA sz k n0 f) : am_W p l e R s m args below meth c Q D ad dA sz k n0 (pc, ls, st, h, nx) := by
  obtain ⟨hx, hb, hml, hown, hts, hC, hin, hfr, hlo, hs0⟩ := B
  intro cls H locs cells slots hS
  obtain ⟨hl, hP, hSS, hH, hc1, hc2⟩ := id hS
  replace hs := if_so hs
  obtain ⟨rfl, hs⟩ := hs
  split at hs
  · rename_i x i a r
    split at hs
    · rename_i h1 hv
      obtain rfl := to_inj hs
      obtain ⟨cc, n, fa, e1, hcc, e2, e3, rfl⟩ := wR_some hv
      obtain ⟨fs, e4⟩ := ck_some e3
      obtain ⟨q, hq, rfl⟩ := am_arr hH e1 (by omega)
      obtain ⟨q2, hq2, rfl⟩ := am_obj hH e4 (aC_lt hcc)
      have he := am_ws_at (ad := ad) (dA := dA) (h := h) hq
      rw [e1] at he
      have he2 := am_ws_at (ad := ad) (dA := dA) (h := h) hq2
      rw [e4] at he2
      refine va_astq hx hb hC.2.2.1 hP (am_D hC.1 _ _) hSS q cc q2 (aC cc) (r := (oN (aC cc), cT (aC cc), cN (aC cc))) he (tys_at dA hcc) he2 (classes_at (aC_lt hcc)) e2 hd (fun H1 locs1 hP1 hD1 hS1 => kk _ _ _ _ _ ⟨hl, ?_, hS1, hH.set (by omega) (by omega) (fun n f z => by cases z), hc1, hc2⟩)
      rw [← am_ws_set hq]
      show va_P D classes (List.set _ q (_, .inl (dA cc, n, .inr (.inr (.inr (.inr fun z => (va_up fa i.toNatClampNeg (some (16 + q2)) z).map ad)))))) H1
      have ef : (fun z => (va_up fa i.toNatClampNeg (some (16 + q2)) z).map ad) = va_up (fun z => (fa z).map ad) i.toNatClampNeg (some (ad (16 + q2))) := by
        funext z
        unfold va_up
        by_cases hz : z = i.toNatClampNeg
        · simp [hz]
        · simp [hz]
      rw [ef]
      exact hP1
    · cases hs
  · cases hs
theorem sm_arraylength  (B : am_B p R s m args meth c D ad dA sz k d n0) (hd : decode (mC k) pc = .ok (.arraylength, len)) (hs : am_do call k (.arraylength) len pc ls st h nx = some (.inl f)) (kk : am_W p l e R s m args below meth c Q D ad dA sz k n0 f) : am_W p l e R s m args below meth c Q D ad dA sz k n0 (pc, ls, st, h, nx) := by
  obtain ⟨hx, hb, hml, hown, hts, hC, hin, hfr, hlo, hs0⟩ := B
  intro cls H locs cells slots hS
  obtain ⟨hl, hP, hSS, hH, hc1, hc2⟩ := id hS
  replace hs := if_so hs
  obtain ⟨rfl, hs⟩ := hs
  split at hs
  · rename_i a r
    split at hs
    · rename_i x hv
      obtain rfl := to_inj hs
      rcases aL_some hv with ⟨cc, n, fa, e1, hcc, rfl⟩ | ⟨cc, n, fa, e1, hcc, rfl⟩
      · by_cases h20 : cc = 20
        · subst h20
          obtain ⟨-, hT⟩ := hH.2.2 a n fa e1
          exact va_tlen hx hb hT hSS rfl hd (kk _ _ _ _ _ hS)
        · obtain ⟨q, hq, rfl⟩ := am_arr hH e1 h20
          have he := am_ws_at (ad := ad) (dA := dA) (h := h) hq
          rw [e1] at he
          rcases (show cc = 0 ∨ cc = 1 ∨ cc = 2 by omega) with rfl | rfl | rfl
          · exact va_alen hx hb hC.2.2.1 hP q 0 he rfl rfl hd (kk _ _ _ _ _ hS)
          · exact va_alen hx hb hC.2.2.1 hP q 1 he rfl rfl hd (kk _ _ _ _ _ hS)
          · exact va_alen hx hb hC.2.2.1 hP q 2 he rfl rfl hd (kk _ _ _ _ _ hS)
      · obtain ⟨q, hq, rfl⟩ := am_arr hH e1 (by omega)
        have he := am_ws_at (ad := ad) (dA := dA) (h := h) hq
        rw [e1] at he
        exact va_alen hx hb hC.2.2.1 hP q cc he (tys_at dA hcc) rfl hd (kk _ _ _ _ _ hS)
    · cases hs
  · cases hs
end SM
