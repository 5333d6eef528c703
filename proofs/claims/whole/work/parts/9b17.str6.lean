/-! the same, with one thing more that is known of the start -/
def am_Kx (l : Launch) (D : va_G) (ad dA : Nat → Nat) (sz d k : Nat) (vs : List Value) (h : AH) (nx : AN) (r : AR) (X : State → Prop) : Prop := Met l (mY k) (mW k) (am_rm d (r.2.2.1 - nx.1) (r.2.2.2 - nx.2)) (fun a U => am_Pv D ad dA sz vs h nx a U ∧ X U) (am_Qc D ad dA sz r) (r.2.2.1 - nx.1) (r.2.2.2 - nx.2) (am_A sz)
set_option maxHeartbeats 4000000 in
theorem am_mex {l : Launch} {D : va_G} {ad dA : Nat → Nat} {sz d k : Nat} {vs ls0 : List Value} {h : AH} {nx : AN} {r : AR} {X : State → Prop} (hk : k < kLaw) (hLR : LR ad ((lg_sl vs ++ List.replicate (mL k - (lg_sl vs).length) Slot.unset).toArray) (mL k) ls0) (hle : nx.1 ≤ r.2.2.1 ∧ nx.2 ≤ r.2.2.2) (walk : ∀ (p : Program) (e : Env) (R : Room) (s : State) (m : MethodId) (A : Array Value) (below : List Frame) (meth : Method) (c : Code) (Q : State → Prop), am_B p R s m A meth c D ad dA sz k d nx → X s → (∀ (pc len : Nat) (i : Instr) (ls st : List Value) (h : AH) (nx' : AN), decode (mC k) pc = .ok (i, len) → am_End k i len st h nx' r → am_W p l e R s m A below meth c Q D ad dA sz k nx (pc, ls, st, h, nx')) → am_W p l e R s m A below meth c Q D ad dA sz k nx (0, ls0, [], h, nx)) : am_Kx l D ad dA sz (d + 1) k vs h nx r X := by
  unfold am_Kx
  obtain ⟨mf1, mf2, mf3, mf4, mf5, mf6⟩ := m_facts hk
  refine va_MetF (cc := mC k) (maxL := mL k) (ret := mR k) mf6 rfl ?_
  intro p e s m args' below meth c s₁ Bd hml hv
  obtain ⟨⟨rfl, hP, hz, hC, hH⟩, hX⟩ := hv
  have hx := Bd.exec
  have hb := Bd.bytes
  have hr := Bd.returns
  have hts0 := atoms_spec (ws := mW k) Bd.pre
  have hts : ∀ w ∈ gw, w.before vs.toArray s = true := fun w hw => hts0 w (List.mem_cons_of_mem _ hw)
  have hown : s.vm.findClass (mY k).cls = some m.cls := findClass_of_methodNamed Bd.named
  rw [mf2] at hown
  have hin : meth.name = (mY k).name := (name_of_methodNamed Bd.named Bd.method).1
  have hlocks := Bd.notSynchronized
  have B : am_B p (am_rm (d + 1) (r.2.2.1 - nx.1) (r.2.2.2 - nx.2)) s m vs.toArray meth c D ad dA sz k d nx := ⟨hx, hb, hml, hown, hts, hC, hin, Nat.le_refl _, Nat.le_refl _, hz⟩
  have hl := hLR
  rw [lg_entry_eq]
  generalize (lg_sl vs ++ List.replicate (mL k - (lg_sl vs).length) Slot.unset).toArray = cls at hl ⊢
  refine walk _ _ _ _ _ _ _ _ _ _ B hX ?_ cls s.heap [] 0 0 ⟨hl, hP, va_S.rf, hH, rfl, rfl⟩
  intro pc len i ls st h2 nx2 hd hend cls2 H locs cells slots hS
  obtain ⟨hl2, hP2, hSS, hH2, hc1, hc2⟩ := hS
  obtain ⟨rfl, hr1, hr2, hcase⟩ := hend
  have hc1 : nx.1 + cells = nx2.1 := hc1
  have hc2 : nx.2 + slots = nx2.2 := hc2
  have e1 : r.2.2.1 - nx.1 = cells := by rw [hr2]; omega
  have e2 : r.2.2.2 - nx.2 = slots := by rw [hr2]; omega
  rw [e1, e2]
  have hq : ∀ (o : Outcome), o = .returned (r.1.map (sv ad)) → ∀ t : State, t.heap = H → s.WarmedH t.vm → am_Qc D ad dA sz r vs.toArray s o t := by
    intro o ho t ht hW
    refine ⟨ho, ?_, ?_, hSS.F ht⟩
    · rw [ht, hr1, hr2]
      exact hP2
    · rw [hr1, hr2]
      exact hH2.moved hW.alike (fun q h1 h2 => by rw [ht]; exact hSS.2.1 q h1 h2)
  rcases hcase with ⟨rfl, v, ty, rfl, hR, hn, hv⟩ | ⟨rfl, v, rfl, hR, hv⟩ | ⟨rfl, v, ty, rfl, hR, hn, hv⟩ | ⟨rfl, rfl, hR, hv⟩
  · exact W.zret hx hb (hr.trans hR) (of_decide_eq_true hn) (hq _ (by rw [hv]; rfl)) hSS.2.2 hd
  · exact W.lret hx hb (hr.trans hR) (hq _ (by rw [hv]; rfl)) hSS.2.2 hd
  · refine W.aret (v := .ref (ad v)) hx hb (hr.trans hR) ?_ (Or.inr ⟨_, rfl⟩) (hq _ (by rw [hv]; rfl)) hSS.2.2 hd
    cases ty with
    | object nm => exact Or.inl ⟨nm, rfl⟩
    | array t => exact Or.inr ⟨t, rfl⟩
    | _ => cases hn
  · exact W.vret hx hb (hr.trans hR) (hq _ (by rw [hv]; rfl)) hSS.2.2 hd
section SX
variable {p : Program} {l : Launch} {e : Env} {R : Room} {s : State} {m : MethodId} {args : Array Value} {below : List Frame} {meth : Method} {c : Code} {Q : State → Prop} {D : va_G} {ad dA : Nat → Nat} {sz k d a i n : Nat} {h : AH} {nx n0 : AN}
theorem sw_statx {ix k1 pc j1 j2 : Nat} {ls r vs : List Value} {v : Option Value} {cls : Array Slot} {H : Heap} {locs : List Loc} {cells slots : Nat} {X : State → Prop} (hXb : FrameBlind (fun a U => am_Pv D ad dA sz vs h nx a U ∧ X U)) (hX : ∀ U : State, U.heap = H → s.WarmedH U.vm → X U) (B : am_B p R s m args meth c D ad dA sz k d n0) (hS : am_St D ad dA sz s (mL k) n0 ls h nx cls H locs cells slots) (hd : decode (mC k) pc = .ok (.invokestatic ix, 3)) (c1 : lwa j1 = some (.methodLink (oN (mO k)) ix (mY k1))) (c2 : lwa j2 = some (.static (mY k1))) (hkl : k1 < kLaw) (hA : vs.length = mA k1) (hrl : r.length ≤ 4) (hr : nx.1 ≤ n0.1 + R.cells ∧ nx.2 ≤ n0.2 + R.slots) (hK0 : am_Kx l D ad dA sz d k1 vs h nx (v, h, nx) X) (kk : am_W p l e R s m args below meth c Q D ad dA sz k n0 (pc + 3, ls, v.toList ++ r, h, nx)) : W p l e R s m args below meth c H locs cells slots Q (F0 m pc cls (vs.reverse ++ r.map (sv ad))) := by
  obtain ⟨hx, hb, hml, hown, hts, hC, hin, hfr, hlo, hs0⟩ := id B
  obtain ⟨hl, hP, hSS, hH, hc1, hc2⟩ := id hS
  have e9 : n0.1 + cells = nx.1 := hc1
  have e8 : n0.2 + slots = nx.2 := hc2
  refine W_size (fun hz => ?_)
  have hz0 : H.size = sz + nx.1 := by have z1 := am_size hC.1 hP (Nat.le_trans hC.2.1 hSS.1); have z1 : sz + nx.1 ≤ H.size := z1; rw [hs0] at hz; omega
  obtain ⟨mf1, mf2, mf3, mf4, mf5, mf6⟩ := m_facts hkl
  obtain ⟨jq, mf1⟩ := mf1
  refine am_run (r := (v, h, nx)) B hS ⟨Nat.le_refl _, Nat.le_refl _⟩ (va_runS (rm := am_rm d (nx.1 - nx.1) (nx.2 - nx.2)) ⟨hx, hb, hml, hown, hts⟩ hK0 (va_cwS (ws := mW k1) (mA k1) hts ?_ rfl rfl rfl ⟨mf3.1, mf3.2, mf5⟩ ⟨hfr, by show 8 + (mL k1 + 11) + 64 * d ≤ R.locals; omega⟩) ⟨hXb, fun U hU hW => ⟨av_pre hC hP hSS hH hz0 hU hW, hX U hU hW⟩⟩ rfl hA hl.1 rfl (lv_room (cat_sum ad r hrl)) hd ⟨by show cells + (nx.1 - nx.1) ≤ R.cells; omega, by show slots + (nx.2 - nx.2) ≤ R.slots; omega⟩) rfl kk
  intro w hw
  unfold va_wsS at hw
  rcases List.mem_append.mp hw with hw | hw
  · simp only [List.mem_cons, List.not_mem_nil, or_false] at hw
    rcases hw with rfl | rfl | rfl
    · exact gw_good _ (gw_at c1 rfl)
    · exact gw_good _ (gw_at c2 rfl)
    · exact gw_good _ (gw_at mf1 rfl)
  · exact mW_good hkl w hw
end SX
