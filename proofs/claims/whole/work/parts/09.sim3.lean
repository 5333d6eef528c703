theorem am_newaddr {D : va_G} {ad dA : Nat → Nat} {sz n q : Nat} {h : AH} {E : va_E} {H1 : Heap} (had : ∀ i, ad (16 + i) = sz + i) (hP1 : va_P D classes (am_ws ad dA h n ++ [(q, E)]) H1) (hD1 : va_D (am_A sz) (am_ws ad dA h n ++ [(q, E)])) (hz : H1.size ≤ sz + n + 1) : q = ad (16 + n) := by
  have hn : (am_ws ad dA h n ++ [(q, E)])[n]? = some (q, E) := by rw [List.getElem?_append_right (by rw [am_ws_len]; omega), am_ws_len]; simp
  have h1 : sz ≤ q := hD1.2 n _ hn
  have h2 : q < H1.size := (hP1 n _ hn).lt
  rw [had]
  by_cases hq : q < sz + n
  · have hi : (am_ws ad dA h n ++ [(q, E)])[q - sz]? = some (ad (16 + (q - sz)), se ad dA (h (16 + (q - sz)))) := by
      rw [List.getElem?_append_left (by rw [am_ws_len]; omega), am_ws_at (by omega)]
    have := hD1.1 _ _ _ _ hi hn (by show ad (16 + (q - sz)) = q; rw [had]; omega)
    omega
  · omega
theorem am_newcls {D : va_G} {dA : Nat → Nat} {s : State} {cA : ClassId} {ty : FieldType} {t : Nat} (hK : va_K D classes (am_tys dA) s) (hK1 : va_K D classes (am_tys dA ++ [(cA, ty)]) s) (ht : (am_tys dA)[t]? = some (dA t, ty)) : cA = dA t := by
  have h1 := (hK.2 t _ ht).2
  have h2 := (hK1.2 7 (cA, ty) rfl).2
  cases ty with
  | object C =>
    obtain ⟨_, _, -, -, -, g1⟩ := h1
    obtain ⟨_, _, -, -, -, g2⟩ := h2
    exact Option.some.inj (g2.symm.trans g1)
  | _ => exact Option.some.inj (h2.symm.trans h1)
theorem sv_dfl (ad : Nat → Nat) (ty : FieldType) : sv ad (defaultValue ty) = defaultValue ty := by cases ty <;> rfl
theorem dfl_at (ad : Nat → Nat) (ci j : Nat) (hj : j < cN ci) : defaultValue (cY ci j) = vp_V ((dfl ci).map (sv ad)) j := by
  unfold vp_V dfl
  rw [List.getD_eq_getElem?_getD, List.getElem?_map, List.getElem?_map, List.getElem?_range hj]
  exact (sv_dfl ad _).symm
theorem tcO_cases {ci : Nat} (h : tcO ci < 7) : ci = 7 ∨ ci = 2 ∨ ci = 5 ∨ ci = 6 := by
  unfold tcO at h
  split at h <;> first | omega | simp_all
theorem va_T_moved {ty : FieldType} {t N sz : Nat} {f : Nat → Value} {s U : State} (hvm : s.vm.Alike U.vm) (hq : ∀ q : Nat, q < s.heap.size → ¬ am_A sz q → U.heap[q]? = s.heap[q]?) (h : va_T ty t N f (am_A sz) s s.heap) : va_T ty t N f (am_A sz) U U.heap := va_T.moved hvm (h.kept hq)
theorem am_H.moved {ad : Nat → Nat} {sz : Nat} {h : AH} {nx : AN} {s U : State} (hH : am_H ad sz h nx s) (hvm : s.vm.Alike U.vm) (hq : ∀ q : Nat, q < s.heap.size → ¬ am_A sz q → U.heap[q]? = s.heap[q]?) : am_H ad sz h nx U :=
  ⟨hH.1, hH.2.1, fun a n f e => ⟨(hH.2.2 a n f e).1, va_T_moved hvm hq (hH.2.2 a n f e).2⟩⟩
theorem am_T.moved {ad : Nat → Nat} {sz : Nat} {s U : State} (h : am_T ad sz s) (hvm : s.vm.Alike U.vm) (hR : ∀ (own : String) (k : Nat) (tx : String) (a : Nat), vk_R own k tx a s → vk_R own k tx a U) (hq : ∀ q : Nat, q < s.heap.size → ¬ am_A sz q → U.heap[q]? = s.heap[q]?) : am_T ad sz U := by
  obtain ⟨⟨adV, h1⟩, h2, h3, h4⟩ := h
  exact ⟨⟨adV, vk_S.moved hvm (h1.kept hq)⟩, fun i q hi => hR _ _ _ _ (h2 i q hi), va_Z.moved hvm (h3.kept hq), va_Zq.moved hvm (h4.kept hq)⟩
theorem am_C.moved {D : va_G} {ad dA : Nat → Nat} {sz : Nat} {s U : State} (hC : am_C D ad dA sz s) (hvm : s.vm.Alike U.vm) (hN : ∀ (a : String) (i : Nat) (x : MethodName) (w : String), va_Nw (.methodLinkNest a i x w) s → va_Nw (.methodLinkNest a i x w) U) (hR : ∀ (own : String) (k : Nat) (tx : String) (a : Nat), vk_R own k tx a s → vk_R own k tx a U)
    (hq : ∀ q : Nat, q < s.heap.size → ¬ am_A sz q → U.heap[q]? = s.heap[q]?) (hz : sz ≤ U.heap.size) : am_C D ad dA sz U := by
  obtain ⟨h1, h2, h3, ⟨a1, a2, a3, a4⟩, h5, ⟨z1, z2, z3⟩, h7⟩ := hC
  exact ⟨h1, hz, va_K.moved hvm h3, ⟨va_AO.moved hvm a1, va_AO.moved hvm a2, va_AO.moved hvm a3, va_AO.moved hvm a4⟩, fun e he => hN _ _ _ _ (h5 e he), ⟨va_Z.moved hvm (z1.kept hq), va_Z.moved hvm (z2.kept hq), va_Z.moved hvm (z3.kept hq)⟩, h7.moved hvm hR hq⟩
/-- a method's start and its end, over the abstract heap -/
def am_Pc (D : va_G) (ad dA : Nat → Nat) (sz : Nat) (args : List Value) (h : AH) (nx : AN) : Array Value → State → Prop := fun a U => a = (args.map (sv ad)).toArray ∧ va_P D classes (am_ws ad dA h nx.1) U.heap ∧ U.heap.size = sz + nx.1 ∧ am_C D ad dA sz U ∧ am_H ad sz h nx U
def am_Qc (D : va_G) (ad dA : Nat → Nat) (sz : Nat) (r : AR) : Array Value → State → Outcome → State → Prop := fun _ st o t => o = .returned (r.1.map (sv ad)) ∧ va_P D classes (am_ws ad dA r.2.1 r.2.2.1) t.heap ∧ am_H ad sz r.2.1 r.2.2 t ∧ va_F (am_A sz) st t
def mW (k : Nat) : List Cond := Cond.code (mY k) (mC k) (mL k) (mR k) :: gw
def am_rm (d mc ms : Nat) : Room := { frames := d, cells := mc, slots := ms, locals := 64 * d }
def am_K (l : Launch) (D : va_G) (ad dA : Nat → Nat) (sz d k : Nat) (args : List Value) (h : AH) (nx : AN) (r : AR) : Prop := Met l (mY k) (mW k) (am_rm d (r.2.2.1 - nx.1) (r.2.2.2 - nx.2)) (am_Pc D ad dA sz args h nx) (am_Qc D ad dA sz r) (r.2.2.1 - nx.1) (r.2.2.2 - nx.2) (am_A sz)
theorem am_blind (D : va_G) (ad dA : Nat → Nat) (sz : Nat) (args : List Value) (h : AH) (nx : AN) : FrameBlind (am_Pc D ad dA sz args h nx) := by
  intro a U g mk q
  obtain ⟨q1, q2, q3, q4, q5⟩ := q
  have hvm : U.vm.Alike (U.calling g mk a).vm := Vm.Alike.refl U.vm
  exact ⟨q1, q2, q3, q4.moved hvm (fun _ _ _ _ z => va_Nw.same rfl rfl z) (fun _ _ _ _ z => vk_R.same rfl z) (fun _ _ _ => rfl) q4.2.1, q5.moved hvm (fun _ _ _ => rfl)⟩
theorem gw_good : ∀ w ∈ gw, w ∈ gw ∧ ((w.onTables && w.keeps) = true ∨ ∃ ty, w = .arrayClass ty) := fun w h => ⟨h, good_of_word (List.mem_filter.mp h).2⟩
theorem mT_at {k : Nat} (h : k < kLaw) : ∃ t, t ∈ mTs ∧ mT[k]? = some t := by
  have hl : k < mTs.length := by rw [mTs_len]; exact h
  refine ⟨mTs[k], List.getElem_mem hl, ?_⟩
  show (mTs ++ _)[k]? = _
  rw [List.getElem?_append_left hl, List.getElem?_eq_getElem hl]
theorem mW_code {k : Nat} (h : k < kLaw) : Cond.code (mY k) (mC k) (mL k) (mR k) ∈ gw := by
  obtain ⟨t, h1, h2⟩ := mT_at h
  have := mw t h1
  simp only [mY, mC, mL, mR, h2]
  exact gw_at this rfl
theorem m_facts {k : Nat} (h : k < kLaw) : (∃ j : Nat, lwa j = some (.initialized (mY k).cls)) ∧ (mY k).cls = oN (mO k) ∧ ((mY k).cls ≠ "java/lang/invoke/MethodHandle" ∧ (mY k).cls ≠ "java/lang/invoke/VarHandle") ∧ mL k ≤ 40 ∧ (parseMethodDescriptor (mY k).desc).map (fun d => d.parameters.length) = some (mA k) ∧ plainFor (mY k) = true := by
  obtain ⟨t, h1, h2⟩ := mT_at h
  have a := List.all_eq_true.mp mT_ok t h1
  have b := List.all_eq_true.mp mT_de t h1
  have c := List.all_eq_true.mp mT_pl t h1
  simp only [mT_ck, Bool.and_eq_true, decide_eq_true_eq] at a
  simp only [mT_dk, decide_eq_true_eq] at b
  simp only [mY, mO, mL, mA, h2]
  exact ⟨⟨_, a.1.1.1⟩, a.1.1.2, a.1.2, a.2, b, c⟩
theorem mW_good {k : Nat} (h : k < kLaw) : GoodIn gw (mW k) := by
  intro w hw
  rcases List.mem_cons.mp hw with rfl | hw
  · exact gw_good _ (mW_code h)
  · exact gw_good w hw
theorem lkM_spec {o i kd k : Nat} (h : lkM o i = some (kd, k)) : ∃ jl jt js, (o, i, kd, k, jl, jt, js) ∈ tM ∧ tM_ck (o, i, kd, k, jl, jt, js) = true := by
  unfold lkM at h
  cases hf : tM.find? fun e => e.1 == o && e.2.1 == i with
  | none => rw [hf] at h; cases h
  | some x =>
    obtain ⟨a, b, kd', k', jl, jt, js⟩ := x
    rw [hf] at h
    cases h
    have h1 := List.find?_some hf
    have hm := List.mem_of_find?_eq_some hf
    have h2 := List.all_eq_true.mp tM_ok _ hm
    simp only [Bool.and_eq_true, beq_iff_eq] at h1
    obtain ⟨rfl, rfl⟩ := h1
    exact ⟨jl, jt, js, hm, h2⟩
theorem nest_mem {o i kd k a b c : Nat} (h : (o, i, kd, k, a, b, c) ∈ tM) (hk : (kd == 2 || kd == 4) = true) : (o, i, k) ∈ am_nest := by
  unfold am_nest
  exact List.mem_map.mpr ⟨(o, i, kd, k, a, b, c), List.mem_filter.mpr ⟨h, hk⟩, rfl⟩
theorem cat_sum (ad : Nat → Nat) : ∀ (r : List Value), r.length ≤ 4 → ((r.map (sv ad)).map fun v => v.category).sum ≤ 8 := by
  have key : ∀ r : List Value, ((r.map (sv ad)).map fun v => v.category).sum ≤ 2 * r.length := by
    intro r
    induction r with
    | nil => simp
    | cons a r ih =>
      have : (sv ad a).category ≤ 2 := by rcases lv_cat (sv ad a) with q | q <;> omega
      simp only [List.map_cons, List.sum_cons, List.length_cons]
      omega
  intro r hr
  have := key r
  omega
theorem cpA_some {h h' : AH} {a0 a : Nat} {sp dp n : Int32} (q : cpA h a0 a sp dp n = some h') : ∃ (n0 n1 : Nat) (f g : Nat → Int32), h a0 = .inl (0, n0, .inl f) ∧ h a = .inl (0, n1, .inl g) ∧ ((¬ sp < 0 ∧ ¬ dp < 0 ∧ ¬ n < 0) ∧ sp.toNatClampNeg + n.toNatClampNeg ≤ n0 ∧ dp.toNatClampNeg + n.toNatClampNeg ≤ n1) ∧ h' = put h a (.inl (0, n1, .inl (va_cpy f g sp.toNatClampNeg dp.toNatClampNeg n.toNatClampNeg))) := by
  unfold cpA at q
  split at q
  · rename_i c0 n0 f c1 n1 g h0 h1
    replace q := if_so q
    obtain ⟨⟨⟨rfl, rfl⟩, hc⟩, q⟩ := q
    cases q
    exact ⟨n0, n1, f, g, h0, h1, hc, rfl⟩
  · cases q
theorem aft_some {pc : Nat} {ls rest : List Value} {o : Option AR} {f : AF} (q : aft pc ls rest o = some (.inl f)) : ∃ r : AR, o = some r ∧ f = (pc, ls, r.1.toList ++ rest, r.2.1, r.2.2) := by
  cases o with
  | none => cases q
  | some r => obtain ⟨v, h, nx⟩ := r; exact ⟨_, rfl, to_inj q⟩
section SM
variable {p : Program} {l : Launch} {e : Env} {R : Room} {s : State} {m : MethodId} {args : Array Value} {below : List Frame} {meth : Method} {c : Code} {Q : State → Prop} {D : va_G} {ad dA : Nat → Nat} {sz k d : Nat} {n0 : AN} {call : Nat → List Value → AH → AN → Option AR} {pc len : Nat} {ls st : List Value} {h : AH} {nx : AN} {f : AF}

theorem am_run {pc : Nat} {cls : Array Slot} {st0 rest : List Value} {ls rst : List Value} {r : AR} {H : Heap} {locs : List Loc} {cells slots : Nat} {a : Array Value} (B : am_B p R s m args meth c D ad dA sz k d n0) (hS : am_St D ad dA sz s (mL k) n0 ls h nx cls H locs cells slots) (hm : nx.1 ≤ r.2.2.1 ∧ nx.2 ≤ r.2.2.2)
    (hr : va_Run p l e R s m args below meth c H locs cells slots (r.2.2.1 - nx.1) (r.2.2.2 - nx.2) (F0 m pc cls st0) rest (am_Qc D ad dA sz r a) (am_A sz)) (he : rest = rst.map (sv ad)) (kk : am_W p l e R s m args below meth c Q D ad dA sz k n0 (pc + 3, ls, r.1.toList ++ rst, r.2.1, r.2.2)) : W p l e R s m args below meth c H locs cells slots Q (F0 m pc cls st0) := by
  obtain ⟨hl, hP, hSS, hH, hc1, hc2⟩ := hS
  intro T hT X
  obtain ⟨v, st₀, t, T', L, h0, X', hL, e1, e2, ⟨g1, g2, g3, g4⟩, st⟩ := hr T hT X
  obtain ⟨f1, f2⟩ := g4
  rw [h0] at f1 f2
  have hv : v = r.1.map (sv ad) := Outcome.returned.inj g1
  have hS1 : va_S (am_A sz) s.heap T'.heap (locs ++ L) := by
    refine ⟨Nat.le_trans hSS.1 (by rw [e1]; exact f1), fun q h1 h2 => ?_, fun q hq => ?_⟩
    · rw [e1, f2 q (Nat.lt_of_lt_of_le h1 hSS.1) h2]
      exact hSS.2.1 q h1 h2
    · rcases List.mem_append.mp hq with z | z
      · exact hSS.2.2 q z
      · exact hL q z
  have hC := B.2.2.2.2.2.1
  have hH1 : am_H ad sz r.2.1 r.2.2 s := g3.moved (by rw [← e2]; exact X'.warmed.alike.symm) (fun q h1 h2 => by
    have h3 : q < s.heap.size := by
      have h4 : sz ≤ s.heap.size := hC.2.1
      have h5 : ¬ sz ≤ q := h2
      omega
    rw [← e1]
    exact (hS1.2.1 q h3 h2).symm)
  obtain ⟨t2, a1, b1⟩ := kk cls T'.heap (locs ++ L) (cells + (r.2.2.1 - nx.1)) (slots + (r.2.2.2 - nx.2)) ⟨hl, by rw [e1]; exact g2, hS1, hH1, by show _ = r.2.2.1; omega, by show _ = r.2.2.2; omega⟩ T' rfl X'
  refine ⟨t2, st t2 ?_, b1⟩
  subst he
  subst hv
  have ee : (List.map (sv ad) (r.1.toList ++ rst)) = (r.1.map (sv ad)).toList ++ rst.map (sv ad) := by
    cases r.1 <;> simp
  rw [← ee]
  exact a1
theorem am_pre {U : State} {H : Heap} {locs : List Loc} {as : List Value} (hC : am_C D ad dA sz s) (hP : va_P D classes (am_ws ad dA h nx.1) H) (hSS : va_S (am_A sz) s.heap H locs) (hH : am_H ad sz h nx s) (hz : H.size = sz + nx.1) (hU : U.heap = H) (hW : s.WarmedH U.vm) : am_Pc D ad dA sz as h nx (as.map (sv ad)).toArray U := by
  subst hU
  have hq : ∀ q : Nat, q < s.heap.size → ¬ am_A sz q → U.heap[q]? = s.heap[q]? := hSS.2.1
  exact ⟨rfl, hP, hz, hC.moved hW.alike (fun _ _ _ _ z => va_Nw.warmM hW z) (fun _ _ _ _ z => vk_R.warm hW z) hq (by omega), hH.moved hW.alike hq⟩
theorem sm_new {ix : Nat} (B : am_B p R s m args meth c D ad dA sz k d n0) (hd : decode (mC k) pc = .ok (.new ix, len)) (hs : am_do call k (.new ix) len pc ls st h nx = some (.inl f)) (hr : f.2.2.2.2.1 ≤ n0.1 + R.cells ∧ f.2.2.2.2.2 ≤ n0.2 + R.slots) (kk : am_W p l e R s m args below meth c Q D ad dA sz k n0 f) : am_W p l e R s m args below meth c Q D ad dA sz k n0 (pc, ls, st, h, nx) := by
  obtain ⟨hx, hb, hml, hown, hts, hC, hin, hfr, hlo, hs0⟩ := B
  intro cls H locs cells slots hS
  obtain ⟨hl, hP, hSS, hH, hc1, hc2⟩ := id hS
  replace hs := if_so hs
  obtain ⟨rfl, hs⟩ := hs
  split at hs
  · rename_i ci hk
    obtain rfl := to_inj hs
    obtain ⟨⟨j1, g1⟩, ⟨j2, g2⟩, ⟨j3, g3⟩, hci⟩ := lkC_spec hk
    have e9 : n0.1 + cells = nx.1 := hc1
    have e8 : n0.2 + slots = nx.2 := hc2
    have r1 : nx.1 + 1 ≤ n0.1 + R.cells := hr.1
    have r2 : nx.2 + cN ci ≤ n0.2 + R.slots := hr.2
    refine va_new (fs := (dfl ci).map (sv ad)) hx hb hts (cls_in hci) (cY ci) (fun z hz => cY_at hci hz) hown (hts _ (gw_at g1 rfl)) (hts _ (gw_at g2 rfl)) (hts _ (gw_at g3 rfl)) hC.2.2.1 hP (am_D hC.1 _ _) hSS (fun q hq => Nat.le_trans hC.2.1 hq) (classes_at hci) (fun z hz => dfl_at ad ci z hz) (by omega) (by omega) hd (fun q H1 hP1 hD1 hS1 => ?_)
    refine W_size (fun hz => ?_)
    have e9 : n0.1 + cells = nx.1 := hc1
    have hz1 : H1.size ≤ sz + nx.1 + 1 := by rw [hs0] at hz; omega
    have hq := am_newaddr hC.1 hP1 hD1 hz1
    subst hq
    refine kk _ _ _ _ _ ⟨hl, ?_, hS1, hH.push (fun n f z => by cases z) _, by show _ = nx.1 + 1; omega, by show _ = nx.2 + cN ci; omega⟩
    show va_P D classes (am_ws ad dA (put h (16 + nx.1) (.inr (ci, dfl ci))) (nx.1 + 1)) H1
    rw [← am_ws_push]
    exact hP1
  · cases hs
theorem sm_newarray {t : ArrayType} (B : am_B p R s m args meth c D ad dA sz k d n0) (hd : decode (mC k) pc = .ok (.newarray t, len)) (hs : am_do call k (.newarray t) len pc ls st h nx = some (.inl f)) (hr : f.2.2.2.2.1 ≤ n0.1 + R.cells ∧ f.2.2.2.2.2 ≤ n0.2 + R.slots) (kk : am_W p l e R s m args below meth c Q D ad dA sz k n0 f) : am_W p l e R s m args below meth c Q D ad dA sz k n0 (pc, ls, st, h, nx) := by
  obtain ⟨hx, hb, hml, hown, hts, hC, hin, hfr, hlo, hs0⟩ := B
  intro cls H locs cells slots hS
  obtain ⟨hl, hP, hSS, hH, hc1, hc2⟩ := id hS
  replace hs := if_so hs
  obtain ⟨rfl, hs⟩ := hs
  replace hs := i1_some hs
  obtain ⟨a, r, rfl, hs⟩ := hs
  split at hs
  · cases hs
  · rename_i hn
    have hn2 : a.toNatClampNeg ≤ 10000 := by rcases Nat.lt_or_ge 10000 a.toNatClampNeg with z | z; exact absurd (Or.inr z) hn; exact z
    have e9 : n0.1 + cells = nx.1 := hc1
    have e8 : n0.2 + slots = nx.2 := hc2
    cases t with
    | int =>
      obtain rfl := to_inj hs
      have r1 : nx.1 + 1 ≤ n0.1 + R.cells := hr.1
      have r2 : nx.2 + a.toNatClampNeg ≤ n0.2 + R.slots := hr.2
      refine va_newa (atype := .int) hx hb (hts _ ac_int) rfl hC.2.2.1 hP (am_D hC.1 _ _) hSS (fun q hq => Nat.le_trans hC.2.1 hq) (a0 := (a.toNatClampNeg, .inl fun _ => 0)) (fun cA => rfl) (fun z => hn (Or.inl z)) rfl (by show _ * 4 ≤ _; omega) (by omega) (by omega) hd (fun q cA H1 hK1 hP1 hD1 hS1 => ?_)
      refine W_size (fun hz => ?_)
      have e9 : n0.1 + cells = nx.1 := hc1
      have hz1 : H1.size ≤ sz + nx.1 + 1 := by rw [hs0] at hz; omega
      have hq := am_newaddr hC.1 hP1 hD1 hz1
      subst hq
      have hcA := am_newcls (t := 0) hC.2.2.1 hK1 rfl
      subst hcA
      refine kk _ _ _ _ _ ⟨hl, ?_, hS1, hH.push (fun n f z => by cases z) _, by show _ = nx.1 + 1; omega, by show _ = nx.2 + a.toNatClampNeg; omega⟩
      show va_P D classes (am_ws ad dA (put h (16 + nx.1) (.inl (0, a.toNatClampNeg, .inl fun _ => 0))) (nx.1 + 1)) H1
      rw [← am_ws_push]
      exact hP1
    | boolean =>
      obtain rfl := to_inj hs
      have r1 : nx.1 + 1 ≤ n0.1 + R.cells := hr.1
      have r2 : nx.2 + a.toNatClampNeg ≤ n0.2 + R.slots := hr.2
      refine va_newa (atype := .boolean) hx hb (hts _ ac_bool) rfl hC.2.2.1 hP (am_D hC.1 _ _) hSS (fun q hq => Nat.le_trans hC.2.1 hq) (a0 := (a.toNatClampNeg, .inl fun _ => 0)) (fun cA => rfl) (fun z => hn (Or.inl z)) rfl (by show _ * 1 ≤ _; omega) (by omega) (by omega) hd (fun q cA H1 hK1 hP1 hD1 hS1 => ?_)
      refine W_size (fun hz => ?_)
      have e9 : n0.1 + cells = nx.1 := hc1
      have hz1 : H1.size ≤ sz + nx.1 + 1 := by rw [hs0] at hz; omega
      have hq := am_newaddr hC.1 hP1 hD1 hz1
      subst hq
      have hcA := am_newcls (t := 1) hC.2.2.1 hK1 rfl
      subst hcA
      refine kk _ _ _ _ _ ⟨hl, ?_, hS1, hH.push (fun n f z => by cases z) _, by show _ = nx.1 + 1; omega, by show _ = nx.2 + a.toNatClampNeg; omega⟩
      show va_P D classes (am_ws ad dA (put h (16 + nx.1) (.inl (1, a.toNatClampNeg, .inl fun _ => 0))) (nx.1 + 1)) H1
      rw [← am_ws_push]
      exact hP1
    | char =>
      obtain rfl := to_inj hs
      have r1 : nx.1 + 1 ≤ n0.1 + R.cells := hr.1
      have r2 : nx.2 + a.toNatClampNeg ≤ n0.2 + R.slots := hr.2
      refine va_newa (atype := .char) hx hb (hts _ ac_char) rfl hC.2.2.1 hP (am_D hC.1 _ _) hSS (fun q hq => Nat.le_trans hC.2.1 hq) (a0 := (a.toNatClampNeg, .inl fun _ => 0)) (fun cA => rfl) (fun z => hn (Or.inl z)) rfl (by show _ * 2 ≤ _; omega) (by omega) (by omega) hd (fun q cA H1 hK1 hP1 hD1 hS1 => ?_)
      refine W_size (fun hz => ?_)
      have e9 : n0.1 + cells = nx.1 := hc1
      have hz1 : H1.size ≤ sz + nx.1 + 1 := by rw [hs0] at hz; omega
      have hq := am_newaddr hC.1 hP1 hD1 hz1
      subst hq
      have hcA := am_newcls (t := 2) hC.2.2.1 hK1 rfl
      subst hcA
      refine kk _ _ _ _ _ ⟨hl, ?_, hS1, hH.push (fun n f z => by cases z) _, by show _ = nx.1 + 1; omega, by show _ = nx.2 + a.toNatClampNeg; omega⟩
      show va_P D classes (am_ws ad dA (put h (16 + nx.1) (.inl (2, a.toNatClampNeg, .inl fun _ => 0))) (nx.1 + 1)) H1
      rw [← am_ws_push]
      exact hP1
    | _ => cases hs
theorem sm_anewarray {ix : Nat} (B : am_B p R s m args meth c D ad dA sz k d n0) (hd : decode (mC k) pc = .ok (.anewarray ix, len)) (hs : am_do call k (.anewarray ix) len pc ls st h nx = some (.inl f)) (hr : f.2.2.2.2.1 ≤ n0.1 + R.cells ∧ f.2.2.2.2.2 ≤ n0.2 + R.slots) (kk : am_W p l e R s m args below meth c Q D ad dA sz k n0 f) : am_W p l e R s m args below meth c Q D ad dA sz k n0 (pc, ls, st, h, nx) := by
  obtain ⟨hx, hb, hml, hown, hts, hC, hin, hfr, hlo, hs0⟩ := B
  intro cls H locs cells slots hS
  obtain ⟨hl, hP, hSS, hH, hc1, hc2⟩ := id hS
  replace hs := if_so hs
  obtain ⟨rfl, hs⟩ := hs
  replace hs := i1_some hs
  obtain ⟨a, r, rfl, hs⟩ := hs
  split at hs
  · rename_i ci hk
    split at hs
    · cases hs
    · rename_i hn
      obtain rfl := to_inj hs
      have hn2 : a.toNatClampNeg ≤ 10000 := by rcases Nat.lt_or_ge 10000 a.toNatClampNeg with z | z; exact absurd (Or.inr (Or.inl z)) hn; exact z
      have hn3 : tcO ci < 7 := by rcases Nat.lt_or_ge (tcO ci) 7 with z | z; exact z; exact absurd (Or.inr (Or.inr z)) hn
      have e9 : n0.1 + cells = nx.1 := hc1
      have e8 : n0.2 + slots = nx.2 := hc2
      have r1 : nx.1 + 1 ≤ n0.1 + R.cells := hr.1
      obtain ⟨⟨j1, g1⟩, -, -, -⟩ := lkC_spec hk
      rcases tcO_cases hn3 with rfl | rfl | rfl | rfl
      · have r2 : nx.2 + a.toNatClampNeg ≤ n0.2 + R.slots := hr.2
        refine va_newq hx hb hown (hts _ (gw_at g1 rfl)) hC.2.2.2.1.1 hC.2.2.1 hP (am_D hC.1 _ _) hSS (fun q hq => Nat.le_trans hC.2.1 hq) (fun z => hn (Or.inl z)) rfl (by omega) (by omega) (by omega) hd (fun q cA H1 hK1 hP1 hD1 hS1 => ?_)
        refine W_size (fun hz => ?_)
        have e9 : n0.1 + cells = nx.1 := hc1
        have hz1 : H1.size ≤ sz + nx.1 + 1 := by rw [hs0] at hz; omega
        have hq := am_newaddr hC.1 hP1 hD1 hz1
        subst hq
        have hcA := am_newcls (t := 3) hC.2.2.1 hK1 rfl
        subst hcA
        refine kk _ _ _ _ _ ⟨hl, ?_, hS1, hH.push (fun n f z => by cases z) _, by show _ = nx.1 + 1; omega, by show _ = nx.2 + a.toNatClampNeg; omega⟩
        show va_P D classes (am_ws ad dA (put h (16 + nx.1) (.inl (3, a.toNatClampNeg, .inr (.inr (.inr (.inr fun _ => none)))))) (nx.1 + 1)) H1
        rw [← am_ws_push]
        exact hP1
      · have r2 : nx.2 + a.toNatClampNeg ≤ n0.2 + R.slots := hr.2
        refine va_newq hx hb hown (hts _ (gw_at g1 rfl)) hC.2.2.2.1.2.1 hC.2.2.1 hP (am_D hC.1 _ _) hSS (fun q hq => Nat.le_trans hC.2.1 hq) (fun z => hn (Or.inl z)) rfl (by omega) (by omega) (by omega) hd (fun q cA H1 hK1 hP1 hD1 hS1 => ?_)
        refine W_size (fun hz => ?_)
        have e9 : n0.1 + cells = nx.1 := hc1
        have hz1 : H1.size ≤ sz + nx.1 + 1 := by rw [hs0] at hz; omega
        have hq := am_newaddr hC.1 hP1 hD1 hz1
        subst hq
        have hcA := am_newcls (t := 4) hC.2.2.1 hK1 rfl
        subst hcA
        refine kk _ _ _ _ _ ⟨hl, ?_, hS1, hH.push (fun n f z => by cases z) _, by show _ = nx.1 + 1; omega, by show _ = nx.2 + a.toNatClampNeg; omega⟩
        show va_P D classes (am_ws ad dA (put h (16 + nx.1) (.inl (4, a.toNatClampNeg, .inr (.inr (.inr (.inr fun _ => none)))))) (nx.1 + 1)) H1
        rw [← am_ws_push]
        exact hP1
      · have r2 : nx.2 + a.toNatClampNeg ≤ n0.2 + R.slots := hr.2
        refine va_newq hx hb hown (hts _ (gw_at g1 rfl)) hC.2.2.2.1.2.2.1 hC.2.2.1 hP (am_D hC.1 _ _) hSS (fun q hq => Nat.le_trans hC.2.1 hq) (fun z => hn (Or.inl z)) rfl (by omega) (by omega) (by omega) hd (fun q cA H1 hK1 hP1 hD1 hS1 => ?_)
        refine W_size (fun hz => ?_)
        have e9 : n0.1 + cells = nx.1 := hc1
        have hz1 : H1.size ≤ sz + nx.1 + 1 := by rw [hs0] at hz; omega
        have hq := am_newaddr hC.1 hP1 hD1 hz1
        subst hq
        have hcA := am_newcls (t := 5) hC.2.2.1 hK1 rfl
        subst hcA
        refine kk _ _ _ _ _ ⟨hl, ?_, hS1, hH.push (fun n f z => by cases z) _, by show _ = nx.1 + 1; omega, by show _ = nx.2 + a.toNatClampNeg; omega⟩
        show va_P D classes (am_ws ad dA (put h (16 + nx.1) (.inl (5, a.toNatClampNeg, .inr (.inr (.inr (.inr fun _ => none)))))) (nx.1 + 1)) H1
        rw [← am_ws_push]
        exact hP1
      · have r2 : nx.2 + a.toNatClampNeg ≤ n0.2 + R.slots := hr.2
        refine va_newq hx hb hown (hts _ (gw_at g1 rfl)) hC.2.2.2.1.2.2.2 hC.2.2.1 hP (am_D hC.1 _ _) hSS (fun q hq => Nat.le_trans hC.2.1 hq) (fun z => hn (Or.inl z)) rfl (by omega) (by omega) (by omega) hd (fun q cA H1 hK1 hP1 hD1 hS1 => ?_)
        refine W_size (fun hz => ?_)
        have e9 : n0.1 + cells = nx.1 := hc1
        have hz1 : H1.size ≤ sz + nx.1 + 1 := by rw [hs0] at hz; omega
        have hq := am_newaddr hC.1 hP1 hD1 hz1
        subst hq
        have hcA := am_newcls (t := 6) hC.2.2.1 hK1 rfl
        subst hcA
        refine kk _ _ _ _ _ ⟨hl, ?_, hS1, hH.push (fun n f z => by cases z) _, by show _ = nx.1 + 1; omega, by show _ = nx.2 + a.toNatClampNeg; omega⟩
        show va_P D classes (am_ws ad dA (put h (16 + nx.1) (.inl (6, a.toNatClampNeg, .inr (.inr (.inr (.inr fun _ => none)))))) (nx.1 + 1)) H1
        rw [← am_ws_push]
        exact hP1
  · cases hs
theorem sm_invokevirtual {ix : Nat} (B : am_B p R s m args meth c D ad dA sz k d n0) (hd : decode (mC k) pc = .ok (.invokevirtual ix, len)) (hs : am_do call k (.invokevirtual ix) len pc ls st h nx = some (.inl f)) (hr : f.2.2.2.2.1 ≤ n0.1 + R.cells ∧ f.2.2.2.2.2 ≤ n0.2 + R.slots) (hc : ∀ (k' : Nat) (as : List Value) (r : AR), k' < kLaw → call k' as h nx = some r → (nx.1 ≤ r.2.2.1 ∧ nx.2 ≤ r.2.2.2) ∧ am_K l D ad dA sz d k' as h nx r) (kk : am_W p l e R s m args below meth c Q D ad dA sz k n0 f) : am_W p l e R s m args below meth c Q D ad dA sz k n0 (pc, ls, st, h, nx) := by
  obtain ⟨hx, hb, hml, hown, hts, hC, hin, hfr, hlo, hs0⟩ := B
  intro cls H locs cells slots hS
  obtain ⟨hl, hP, hSS, hH, hc1, hc2⟩ := id hS
  replace hs := if_so hs
  obtain ⟨rfl, hs⟩ := hs
  split at hs
  · rename_i k1 hk
    obtain ⟨jl, jt, js, -, hck0⟩ := lkM_spec hk
    simp only [tM_ck, Bool.and_eq_true, decide_eq_true_eq] at hck0
    obtain ⟨⟨⟨c1, c2⟩, c3⟩, hkl⟩ := hck0
    split at hs
    · rename_i hstr
      split at hs
      · rename_i a r hdr
        replace hs := if_so hs
        obtain ⟨⟨hck, hrl⟩, hs⟩ := hs
        obtain ⟨r0, e0, rfl⟩ := aft_some hs
        obtain ⟨hmono, hK0⟩ := hc k1 _ r0 hkl e0
        have e9 : n0.1 + cells = nx.1 := hc1
        have e8 : n0.2 + slots = nx.2 := hc2
        refine W_size (fun hz => ?_)
        have hz0 : H.size = sz + nx.1 := by have z1 := am_size hC.1 hP (Nat.le_trans hC.2.1 hSS.1); have z1 : sz + nx.1 ≤ H.size := z1; rw [hs0] at hz; omega
        have r1 : r0.2.2.1 ≤ n0.1 + R.cells := hr.1
        have r2 : r0.2.2.2 ≤ n0.2 + R.slots := hr.2
        have hst : st.map (sv ad) = (((st.take (mA k1)).reverse).map (sv ad)).reverse ++ .ref (ad a) :: r.map (sv ad) := by
          rw [← List.map_reverse, List.reverse_reverse]
          conv => lhs; rw [← List.take_append_drop (mA k1) st, List.map_append, hdr]
          rfl
        have hlen : ((((st.take (mA k1)).reverse).map (sv ad))).length = mA k1 := by
          rw [List.length_map, List.length_reverse, List.length_take]
          have z := congrArg List.length hdr
          rw [List.length_drop, List.length_cons] at z
          omega
        obtain ⟨mf1, mf2, mf3, mf4, mf5, mf6⟩ := m_facts hkl
        obtain ⟨jq, mf1⟩ := mf1
        have hcls : (mY k1).cls = "java/lang/String" := by rcases hstr with rfl | rfl <;> decide +kernel
        have hrecv : ∃ cellB : Cell, H[ad a]? = some cellB ∧ cellB.vm.isStatics = false ∧ s.vm.findClass (mY k1).cls = some cellB.cls := by
          rw [hcls]
          obtain ⟨⟨adV, hv1⟩, -⟩ := hC.2.2.2.2.2.2
          simp only [isS, Bool.and_eq_true, decide_eq_true_eq] at hck
          have h9 := vk_recv (i := a - 4) hv1 (by omega) hSS
          rw [show 4 + (a - 4) = a from Nat.add_sub_cancel' hck.1] at h9
          exact h9
        refine am_run ⟨hx, hb, hml, hown, hts, hC, hin, hfr, hlo, hs0⟩ hS hmono (va_runV (rm := am_rm d (r0.2.2.1 - nx.1) (r0.2.2.2 - nx.2)) ⟨hx, hb, hml, hown, hts⟩ hK0 (cwV (ws := mW k1) (mA k1) hts ?_ rfl rfl rfl ⟨rfl, mf3.1, mf3.2, mf5⟩ ⟨hfr, by show 8 + (mL k1 + 11) + 64 * d ≤ R.locals; omega⟩) ⟨am_blind _ _ _ _ _ _ _, hrecv, fun U hU hW => am_pre hC hP hSS hH hz0 hU hW⟩ rfl hlen hl.1 hst (lv_room (cat_sum ad r hrl)) hd ⟨by omega, by omega⟩) rfl kk
        intro w hw
        unfold wsV at hw
        rcases List.mem_append.mp hw with hw | hw
        · simp only [List.mem_cons, List.not_mem_nil, or_false] at hw
          rcases hw with rfl | rfl | rfl | rfl
          · exact gw_good _ (gw_at c1 rfl)
          · exact gw_good _ (gw_at c2 rfl)
          · exact gw_good _ (gw_at c3 rfl)
          · exact gw_good _ (gw_at mf1 rfl)
        · exact mW_good hkl w hw
      · cases hs
    · split at hs
      · rename_i a r hdr
        replace hs := if_so hs
        obtain ⟨⟨hck, hrl⟩, hs⟩ := hs
        obtain ⟨r0, e0, rfl⟩ := aft_some hs
        obtain ⟨hmono, hK0⟩ := hc k1 _ r0 hkl e0
        have e9 : n0.1 + cells = nx.1 := hc1
        have e8 : n0.2 + slots = nx.2 := hc2
        refine W_size (fun hz => ?_)
        have hz0 : H.size = sz + nx.1 := by have z1 := am_size hC.1 hP (Nat.le_trans hC.2.1 hSS.1); have z1 : sz + nx.1 ≤ H.size := z1; rw [hs0] at hz; omega
        have r1 : r0.2.2.1 ≤ n0.1 + R.cells := hr.1
        have r2 : r0.2.2.2 ≤ n0.2 + R.slots := hr.2
        have hst : st.map (sv ad) = (((st.take (mA k1)).reverse).map (sv ad)).reverse ++ .ref (ad a) :: r.map (sv ad) := by
          rw [← List.map_reverse, List.reverse_reverse]
          conv => lhs; rw [← List.take_append_drop (mA k1) st, List.map_append, hdr]
          rfl
        have hlen : ((((st.take (mA k1)).reverse).map (sv ad))).length = mA k1 := by
          rw [List.length_map, List.length_reverse, List.length_take]
          have z := congrArg List.length hdr
          rw [List.length_drop, List.length_cons] at z
          omega
        obtain ⟨mf1, mf2, mf3, mf4, mf5, mf6⟩ := m_facts hkl
        obtain ⟨jq, mf1⟩ := mf1
        obtain ⟨hck, hci⟩ := hck
        obtain ⟨fs, e4⟩ := ck_some hck
        obtain ⟨i, hi, rfl⟩ := am_obj hH e4 hci
        have he := am_ws_at (ad := ad) (dA := dA) (h := h) hi
        rw [e4] at he
        have hrecv := va_recv hC.2.2.1 hP (classes_at hci) he
        rw [show (oN (mO k1), cT (mO k1), cN (mO k1)).1 = (mY k1).cls from mf2.symm] at hrecv
        refine am_run ⟨hx, hb, hml, hown, hts, hC, hin, hfr, hlo, hs0⟩ hS hmono (va_runV (rm := am_rm d (r0.2.2.1 - nx.1) (r0.2.2.2 - nx.2)) ⟨hx, hb, hml, hown, hts⟩ hK0 (cwV (ws := mW k1) (mA k1) hts ?_ rfl rfl rfl ⟨rfl, mf3.1, mf3.2, mf5⟩ ⟨hfr, by show 8 + (mL k1 + 11) + 64 * d ≤ R.locals; omega⟩) ⟨am_blind _ _ _ _ _ _ _, hrecv, fun U hU hW => am_pre hC hP hSS hH hz0 hU hW⟩ rfl hlen hl.1 hst (lv_room (cat_sum ad r hrl)) hd ⟨by omega, by omega⟩) rfl kk
        intro w hw
        unfold wsV at hw
        rcases List.mem_append.mp hw with hw | hw
        · simp only [List.mem_cons, List.not_mem_nil, or_false] at hw
          rcases hw with rfl | rfl | rfl | rfl
          · exact gw_good _ (gw_at c1 rfl)
          · exact gw_good _ (gw_at c2 rfl)
          · exact gw_good _ (gw_at c3 rfl)
          · exact gw_good _ (gw_at mf1 rfl)
        · exact mW_good hkl w hw
      · cases hs
  · cases hs
theorem sm_invokestatic {ix : Nat} (B : am_B p R s m args meth c D ad dA sz k d n0) (hd : decode (mC k) pc = .ok (.invokestatic ix, len)) (hs : am_do call k (.invokestatic ix) len pc ls st h nx = some (.inl f)) (hr : f.2.2.2.2.1 ≤ n0.1 + R.cells ∧ f.2.2.2.2.2 ≤ n0.2 + R.slots) (hc : ∀ (k' : Nat) (as : List Value) (r : AR), k' < kLaw → call k' as h nx = some r → (nx.1 ≤ r.2.2.1 ∧ nx.2 ≤ r.2.2.2) ∧ am_K l D ad dA sz d k' as h nx r) (kk : am_W p l e R s m args below meth c Q D ad dA sz k n0 f) : am_W p l e R s m args below meth c Q D ad dA sz k n0 (pc, ls, st, h, nx) := by
  obtain ⟨hx, hb, hml, hown, hts, hC, hin, hfr, hlo, hs0⟩ := B
  intro cls H locs cells slots hS
  obtain ⟨hl, hP, hSS, hH, hc1, hc2⟩ := id hS
  replace hs := if_so hs
  obtain ⟨rfl, hs⟩ := hs
  split at hs
  · rename_i k1 hk
    obtain ⟨jl, jt, js, hmem, hck0⟩ := lkM_spec hk
    simp only [tM_ck, Bool.and_eq_true, decide_eq_true_eq] at hck0
    obtain ⟨⟨c1, c2⟩, hkl⟩ := hck0
    replace hs := if_so hs
    obtain ⟨⟨hle, hrl⟩, hs⟩ := hs
    obtain ⟨r0, e0, rfl⟩ := aft_some hs
    obtain ⟨hmono, hK0⟩ := hc k1 _ r0 hkl e0
    have e9 : n0.1 + cells = nx.1 := hc1
    have e8 : n0.2 + slots = nx.2 := hc2
    refine W_size (fun hz => ?_)
    have hz0 : H.size = sz + nx.1 := by have z1 := am_size hC.1 hP (Nat.le_trans hC.2.1 hSS.1); have z1 : sz + nx.1 ≤ H.size := z1; rw [hs0] at hz; omega
    have r1 : r0.2.2.1 ≤ n0.1 + R.cells := hr.1
    have r2 : r0.2.2.2 ≤ n0.2 + R.slots := hr.2
    obtain ⟨mf1, mf2, mf3, mf4, mf5, mf6⟩ := m_facts hkl
    obtain ⟨jq, mf1⟩ := mf1
    have hst : st.map (sv ad) = (((st.take (mA k1)).reverse).map (sv ad)).reverse ++ (st.drop (mA k1)).map (sv ad) := by
      rw [← List.map_reverse, List.reverse_reverse, ← List.map_append, List.take_append_drop]
    have hlen : ((((st.take (mA k1)).reverse).map (sv ad))).length = mA k1 := by
      rw [List.length_map, List.length_reverse, List.length_take]
      omega
    refine am_run ⟨hx, hb, hml, hown, hts, hC, hin, hfr, hlo, hs0⟩ hS hmono (va_runS (rm := am_rm d (r0.2.2.1 - nx.1) (r0.2.2.2 - nx.2)) ⟨hx, hb, hml, hown, hts⟩ hK0 (va_cwS (ws := mW k1) (mA k1) hts ?_ rfl rfl rfl ⟨mf3.1, mf3.2, mf5⟩ ⟨hfr, by show 8 + (mL k1 + 11) + 64 * d ≤ R.locals; omega⟩) ⟨am_blind _ _ _ _ _ _ _, fun U hU hW => am_pre hC hP hSS hH hz0 hU hW⟩ rfl hlen hl.1 hst (lv_room (cat_sum ad (st.drop (mA k1)) hrl)) hd ⟨by omega, by omega⟩) rfl kk
    intro w hw
    unfold va_wsS at hw
    rcases List.mem_append.mp hw with hw | hw
    · simp only [List.mem_cons, List.not_mem_nil, or_false] at hw
      rcases hw with rfl | rfl | rfl
      · exact gw_good _ (gw_at c1 rfl)
      · exact gw_good _ (gw_at c2 rfl)
      · exact gw_good _ (gw_at mf1 rfl)
    · exact mW_good hkl w hw
  · rename_i k1 hk
    obtain ⟨jl, jt, js, hmem, hck0⟩ := lkM_spec hk
    simp only [tM_ck, Bool.and_eq_true, decide_eq_true_eq] at hck0
    obtain ⟨⟨c1, c2⟩, hkl⟩ := hck0
    have hnw : va_Nw (.methodLinkNest (oN (mO k)) ix (mY k1) "ThirstLead") s := hC.2.2.2.2.1 (mO k, ix, k1) (nest_mem hmem (by decide))
    replace hs := if_so hs
    obtain ⟨⟨hle, hrl⟩, hs⟩ := hs
    obtain ⟨r0, e0, rfl⟩ := aft_some hs
    obtain ⟨hmono, hK0⟩ := hc k1 _ r0 hkl e0
    have e9 : n0.1 + cells = nx.1 := hc1
    have e8 : n0.2 + slots = nx.2 := hc2
    refine W_size (fun hz => ?_)
    have hz0 : H.size = sz + nx.1 := by have z1 := am_size hC.1 hP (Nat.le_trans hC.2.1 hSS.1); have z1 : sz + nx.1 ≤ H.size := z1; rw [hs0] at hz; omega
    have r1 : r0.2.2.1 ≤ n0.1 + R.cells := hr.1
    have r2 : r0.2.2.2 ≤ n0.2 + R.slots := hr.2
    obtain ⟨mf1, mf2, mf3, mf4, mf5, mf6⟩ := m_facts hkl
    obtain ⟨jq, mf1⟩ := mf1
    have hst : st.map (sv ad) = (((st.take (mA k1)).reverse).map (sv ad)).reverse ++ (st.drop (mA k1)).map (sv ad) := by
      rw [← List.map_reverse, List.reverse_reverse, ← List.map_append, List.take_append_drop]
    have hlen : ((((st.take (mA k1)).reverse).map (sv ad))).length = mA k1 := by
      rw [List.length_map, List.length_reverse, List.length_take]
      omega
    exact am_run ⟨hx, hb, hml, hown, hts, hC, hin, hfr, hlo, hs0⟩ hS hmono (va_runSN (rm := am_rm d (r0.2.2.1 - nx.1) (r0.2.2.2 - nx.2)) ⟨hx, hb, hml, hown, hts⟩ hK0 ⟨va_cnB (ws := mW k1) (mA k1) hts (mW_good hkl) rfl rfl rfl hnw (hts _ (gw_at mf1 rfl)) ⟨mf3.1, mf3.2, mf5⟩ ⟨hfr, by show 8 + (mL k1 + 11) + 64 * d ≤ R.locals; omega⟩, hts _ (gw_at c2 rfl), trivial⟩ ⟨am_blind _ _ _ _ _ _ _, fun U hU hW => am_pre hC hP hSS hH hz0 hU hW⟩ rfl hlen hl.1 hst (lv_room (cat_sum ad (st.drop (mA k1)) hrl)) hd ⟨by omega, by omega⟩) rfl kk
  · rename_i k1 hk
    obtain ⟨jl, jt, js, hmem, hck0⟩ := lkM_spec hk
    simp only [tM_ck, Bool.and_eq_true, decide_eq_true_eq] at hck0
    obtain ⟨⟨c1, c2⟩, c3⟩ := hck0
    split at hs
    · rename_i n dp a sp a0 r
      replace hs := if_so hs
      obtain ⟨hrl, hs⟩ := hs
      split at hs
      · rename_i h1 hp
        obtain rfl := to_inj hs
        obtain ⟨n0a, n1a, fa, ga, e1, e2, hcond, rfl⟩ := cpA_some hp
        obtain ⟨⟨b1, b2, b3⟩, b4, b5⟩ := hcond
        obtain ⟨q, hq, rfl⟩ := am_arr hH e1 (by decide)
        obtain ⟨q2, hq2, rfl⟩ := am_arr hH e2 (by decide)
        have he := am_ws_at (ad := ad) (dA := dA) (h := h) hq
        rw [e1] at he
        have he2 := am_ws_at (ad := ad) (dA := dA) (h := h) hq2
        rw [e2] at he2
        have hcs := cat_sum ad r hrl
        refine va_copyi hx hb (by rw [hml]; exact hl.1.symm) hown (hts _ (gw_at c1 rfl)) (hts _ (gw_at c3 rfl)) (hts _ (gw_at c2 rfl)) (hts _ sys_ini) hC.2.2.1 hP (am_D hC.1 _ _) hSS q q2 0 0 he he2 rfl rfl rfl b1 b2 b3 b4 b5 (fun _ _ => rfl) (by omega) (by show _ + (5 + 2 + 11) ≤ _; omega) hd (fun H1 locs1 hP1 hD1 hS1 => kk _ _ _ _ _ ⟨hl, ?_, hS1, hH.set (by omega) (by omega) (fun n f z => by cases z), hc1, hc2⟩)
        rw [← am_ws_set hq2]
        exact hP1
      · cases hs
    · cases hs
  · cases hs
theorem sm_invokespecial {ix : Nat} (B : am_B p R s m args meth c D ad dA sz k d n0) (hd : decode (mC k) pc = .ok (.invokespecial ix, len)) (hs : am_do call k (.invokespecial ix) len pc ls st h nx = some (.inl f)) (hr : f.2.2.2.2.1 ≤ n0.1 + R.cells ∧ f.2.2.2.2.2 ≤ n0.2 + R.slots) (hc : ∀ (k' : Nat) (as : List Value) (r : AR), k' < kLaw → call k' as h nx = some r → (nx.1 ≤ r.2.2.1 ∧ nx.2 ≤ r.2.2.2) ∧ am_K l D ad dA sz d k' as h nx r) (kk : am_W p l e R s m args below meth c Q D ad dA sz k n0 f) : am_W p l e R s m args below meth c Q D ad dA sz k n0 (pc, ls, st, h, nx) := by
  obtain ⟨hx, hb, hml, hown, hts, hC, hin, hfr, hlo, hs0⟩ := B
  intro cls H locs cells slots hS
  obtain ⟨hl, hP, hSS, hH, hc1, hc2⟩ := id hS
  replace hs := if_so hs
  obtain ⟨rfl, hs⟩ := hs
  split at hs
  · rename_i k1 hk
    obtain ⟨jl, jt, js, hmem, hck0⟩ := lkM_spec hk
    simp only [tM_ck, Bool.and_eq_true, decide_eq_true_eq] at hck0
    obtain ⟨c1, c2⟩ := hck0
    split at hs
    · rename_i a r
      replace hs := if_so hs
      obtain ⟨hrl, hs⟩ := hs
      obtain rfl := to_inj hs
      have hcs := cat_sum ad r hrl
      refine W.objInit hx hb hown (hts _ (gw_at c1 rfl)) (hts _ (gw_at c2 rfl)) (hts _ oi_code) rfl (by rw [hml]; exact hl.1) rfl hd (by omega) (by show 2 * 0 + _ + 12 ≤ _; omega) ?_
      exact kk _ _ _ _ _ hS
    · cases hs
  · rename_i k1 hk
    obtain ⟨jl, jt, js, hmem, hck0⟩ := lkM_spec hk
    simp only [tM_ck, Bool.and_eq_true, decide_eq_true_eq] at hck0
    obtain ⟨⟨⟨⟨c1, c2⟩, hkl⟩, hnm⟩, hret⟩ := hck0
    split at hs
    · rename_i a r hdr
      replace hs := if_so hs
      obtain ⟨hrl, hs⟩ := hs
      obtain ⟨r0, e0, rfl⟩ := aft_some hs
      obtain ⟨hmono, hK0⟩ := hc k1 _ r0 hkl e0
      have e9 : n0.1 + cells = nx.1 := hc1
      have e8 : n0.2 + slots = nx.2 := hc2
      refine W_size (fun hz => ?_)
      have hz0 : H.size = sz + nx.1 := by have z1 := am_size hC.1 hP (Nat.le_trans hC.2.1 hSS.1); have z1 : sz + nx.1 ≤ H.size := z1; rw [hs0] at hz; omega
      have r1 : r0.2.2.1 ≤ n0.1 + R.cells := hr.1
      have r2 : r0.2.2.2 ≤ n0.2 + R.slots := hr.2
      obtain ⟨mf1, mf2, mf3, mf4, mf5, mf6⟩ := m_facts hkl
      obtain ⟨jq, mf1⟩ := mf1
      have hst : st.map (sv ad) = (((st.take (mA k1)).reverse).map (sv ad)).reverse ++ .ref (ad a) :: r.map (sv ad) := by
        rw [← List.map_reverse, List.reverse_reverse]
        conv => lhs; rw [← List.take_append_drop (mA k1) st, List.map_append, hdr]
        rfl
      have hlen : ((((st.take (mA k1)).reverse).map (sv ad))).length = mA k1 := by
        rw [List.length_map, List.length_reverse, List.length_take]
        have z := congrArg List.length hdr
        rw [List.length_drop, List.length_cons] at z
        omega
      have hW2 : mW k1 = Cond.code (mY k1) (mC k1) (mL k1) none :: gw := by unfold mW; rw [hret]
      exact am_run ⟨hx, hb, hml, hown, hts, hC, hin, hfr, hlo, hs0⟩ hS hmono (va_runI (rm := am_rm d (r0.2.2.1 - nx.1) (r0.2.2.2 - nx.2)) ⟨hx, hb, hml, hown, hts⟩ hK0 (cwI (ws := mW k1) (mA k1) hts (mW_good hkl) hW2 rfl rfl (hts _ (gw_at mf1 rfl)) (hts _ (gw_at c1 rfl)) (hts _ (gw_at c2 rfl)) hnm ⟨mf3.1, mf3.2, mf5⟩ ⟨hfr, by show 8 + (mL k1 + 11) + 64 * d ≤ R.locals; omega⟩) ⟨am_blind _ _ _ _ _ _ _, fun U hU hW => am_pre hC hP hSS hH hz0 hU hW⟩ rfl hlen hl.1 hst (lv_room (cat_sum ad r hrl)) hd ⟨by omega, by omega⟩) rfl kk
    · cases hs
  · rename_i k1 hk
    obtain ⟨jl, jt, js, hmem, hck0⟩ := lkM_spec hk
    simp only [tM_ck, Bool.and_eq_true, decide_eq_true_eq] at hck0
    obtain ⟨⟨⟨⟨c1, c2⟩, hkl⟩, hnm⟩, hret⟩ := hck0
    have hnw : va_Nw (.methodLinkNest (oN (mO k)) ix (mY k1) "ThirstLead") s := hC.2.2.2.2.1 (mO k, ix, k1) (nest_mem hmem (by decide))
    split at hs
    · rename_i a r hdr
      replace hs := if_so hs
      obtain ⟨hrl, hs⟩ := hs
      obtain ⟨r0, e0, rfl⟩ := aft_some hs
      obtain ⟨hmono, hK0⟩ := hc k1 _ r0 hkl e0
      have e9 : n0.1 + cells = nx.1 := hc1
      have e8 : n0.2 + slots = nx.2 := hc2
      refine W_size (fun hz => ?_)
      have hz0 : H.size = sz + nx.1 := by have z1 := am_size hC.1 hP (Nat.le_trans hC.2.1 hSS.1); have z1 : sz + nx.1 ≤ H.size := z1; rw [hs0] at hz; omega
      have r1 : r0.2.2.1 ≤ n0.1 + R.cells := hr.1
      have r2 : r0.2.2.2 ≤ n0.2 + R.slots := hr.2
      obtain ⟨mf1, mf2, mf3, mf4, mf5, mf6⟩ := m_facts hkl
      obtain ⟨jq, mf1⟩ := mf1
      have hst : st.map (sv ad) = (((st.take (mA k1)).reverse).map (sv ad)).reverse ++ .ref (ad a) :: r.map (sv ad) := by
        rw [← List.map_reverse, List.reverse_reverse]
        conv => lhs; rw [← List.take_append_drop (mA k1) st, List.map_append, hdr]
        rfl
      have hlen : ((((st.take (mA k1)).reverse).map (sv ad))).length = mA k1 := by
        rw [List.length_map, List.length_reverse, List.length_take]
        have z := congrArg List.length hdr
        rw [List.length_drop, List.length_cons] at z
        omega
      have hW2 : mW k1 = Cond.code (mY k1) (mC k1) (mL k1) none :: gw := by unfold mW; rw [hret]
      exact am_run ⟨hx, hb, hml, hown, hts, hC, hin, hfr, hlo, hs0⟩ hS hmono (va_runIN (rm := am_rm d (r0.2.2.1 - nx.1) (r0.2.2.2 - nx.2)) ⟨hx, hb, hml, hown, hts⟩ hK0 ⟨va_cnB (ws := mW k1) (mA k1) hts (mW_good hkl) hW2 rfl rfl hnw (hts _ (gw_at mf1 rfl)) ⟨mf3.1, mf3.2, mf5⟩ ⟨hfr, by show 8 + (mL k1 + 11) + 64 * d ≤ R.locals; omega⟩, hnm, hts _ (gw_at c2 rfl)⟩ ⟨am_blind _ _ _ _ _ _ _, fun U hU hW => am_pre hC hP hSS hH hz0 hU hW⟩ rfl hlen hl.1 hst (lv_room (cat_sum ad r hrl)) hd ⟨by omega, by omega⟩) rfl kk
    · cases hs
  · cases hs
end SM
