/-! contracts whose locals are known as they are -/
set_option maxHeartbeats 4000000 in
theorem am_mec {l : Launch} {D : va_G} {ad dA : Nat → Nat} {sz d k : Nat} {vs ls0 : List Value} {h : AH} {nx : AN} {r : AR} {X : State → Prop} (hk : k < kLaw) (hLR : LR ad ((lg_sl vs ++ List.replicate (mL k - (lg_sl vs).length) Slot.unset).toArray) (mL k) ls0) (hle : nx.1 ≤ r.2.2.1 ∧ nx.2 ≤ r.2.2.2) (walk : ∀ (p : Program) (e : Env) (R : Room) (s : State) (m : MethodId) (A : Array Value) (below : List Frame) (meth : Method) (c : Code) (Q : State → Prop), am_B p R s m A meth c D ad dA sz k d nx → X s → (∀ (pc len : Nat) (i : Instr) (ls st : List Value) (h : AH) (nx' : AN), decode (mC k) pc = .ok (i, len) → am_End k i len st h nx' r → am_W p l e R s m A below meth c Q D ad dA sz k nx (pc, ls, st, h, nx')) → am_St D ad dA sz s (mL k) nx ls0 h nx ((lg_sl vs ++ List.replicate (mL k - (lg_sl vs).length) Slot.unset).toArray) s.heap [] 0 0 → W p l e R s m A below meth c s.heap [] 0 0 Q (F0 m 0 ((lg_sl vs ++ List.replicate (mL k - (lg_sl vs).length) Slot.unset).toArray) [])) : am_Kx l D ad dA sz (d + 1) k vs h nx r X := by
  unfold am_Kx
  obtain ⟨mf1, mf2, mf3, mf4, mf5, mf6⟩ := m_facts hk
  refine va_MetF (cc := mC k) (maxL := mL k) (ret := mR k) mf6 rfl ?_
  intro p e s m args' below meth c s₁ Bd hml hv
  obtain ⟨⟨rfl, hP, hz, hC, hH⟩, hX⟩ := hv
  have hx := Bd.exec
  have hb := Bd.bytes
  have hr := Bd.returns
  have hts0 := atoms_spec (ws := mW k) Bd.pre
  have hts : ∀ w ∈ gw, w.before vs.toArray s = true := fun w hw => hts0 w (List.mem_cons_of_mem _ hw)
  have hown : s.vm.findClass (mY k).cls = some m.cls := findClass_of_methodNamed Bd.named
  rw [mf2] at hown
  have hin : meth.name = (mY k).name := (name_of_methodNamed Bd.named Bd.method).1
  have hlocks := Bd.notSynchronized
  have B : am_B p (am_rm (d + 1) (r.2.2.1 - nx.1) (r.2.2.2 - nx.2)) s m vs.toArray meth c D ad dA sz k d nx := ⟨hx, hb, hml, hown, hts, hC, hin, Nat.le_refl _, Nat.le_refl _, hz⟩
  have hl := hLR
  rw [lg_entry_eq]
  refine walk _ _ _ _ _ _ _ _ _ _ B hX ?_ ⟨hl, hP, va_S.rf, hH, rfl, rfl⟩
  intro pc len i ls st h2 nx2 hd hend cls2 H locs cells slots hS
  obtain ⟨hl2, hP2, hSS, hH2, hc1, hc2⟩ := hS
  obtain ⟨rfl, hr1, hr2, hcase⟩ := hend
  have hc1 : nx.1 + cells = nx2.1 := hc1
  have hc2 : nx.2 + slots = nx2.2 := hc2
  have e1 : r.2.2.1 - nx.1 = cells := by rw [hr2]; omega
  have e2 : r.2.2.2 - nx.2 = slots := by rw [hr2]; omega
  rw [e1, e2]
  have hq : ∀ (o : Outcome), o = .returned (r.1.map (sv ad)) → ∀ t : State, t.heap = H → s.WarmedH t.vm → am_Qc D ad dA sz r vs.toArray s o t := by
    intro o ho t ht hW
    refine ⟨ho, ?_, ?_, hSS.F ht⟩
    · rw [ht, hr1, hr2]
      exact hP2
    · rw [hr1, hr2]
      exact hH2.moved hW.alike (fun q h1 h2 => by rw [ht]; exact hSS.2.1 q h1 h2)
  rcases hcase with ⟨rfl, v, ty, rfl, hR, hn, hv⟩ | ⟨rfl, v, rfl, hR, hv⟩ | ⟨rfl, v, ty, rfl, hR, hn, hv⟩ | ⟨rfl, rfl, hR, hv⟩
  · exact W.zret hx hb (hr.trans hR) (of_decide_eq_true hn) (hq _ (by rw [hv]; rfl)) hSS.2.2 hd
  · exact W.lret hx hb (hr.trans hR) (hq _ (by rw [hv]; rfl)) hSS.2.2 hd
  · refine W.aret (v := .ref (ad v)) hx hb (hr.trans hR) ?_ (Or.inr ⟨_, rfl⟩) (hq _ (by rw [hv]; rfl)) hSS.2.2 hd
    cases ty with
    | object nm => exact Or.inl ⟨nm, rfl⟩
    | array t => exact Or.inr ⟨t, rfl⟩
    | _ => cases hn
  · exact W.vret hx hb (hr.trans hR) (hq _ (by rw [hv]; rfl)) hSS.2.2 hd
