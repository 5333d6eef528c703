/-! String.length and String.charAt of the constants -/
set_option maxHeartbeats 4000000 in
theorem am_met {l : Launch} {D : va_G} {ad dA : Nat → Nat} {sz d k : Nat} {args : List Value} {h : AH} {nx : AN} {r : AR} (hk : k < kLaw) (hok : aok k args = true) (hle : nx.1 ≤ r.2.2.1 ∧ nx.2 ≤ r.2.2.2) (walk : ∀ (p : Program) (e : Env) (R : Room) (s : State) (m : MethodId) (A : Array Value) (below : List Frame) (meth : Method) (c : Code) (Q : State → Prop), am_B p R s m A meth c D ad dA sz k d nx → (∀ (pc len : Nat) (i : Instr) (ls st : List Value) (h : AH) (nx' : AN), decode (mC k) pc = .ok (i, len) → am_End k i len st h nx' r → am_W p l e R s m A below meth c Q D ad dA sz k nx (pc, ls, st, h, nx')) → am_W p l e R s m A below meth c Q D ad dA sz k nx (0, am_entry k args, [], h, nx)) : am_K l D ad dA sz (d + 1) k args h nx r := by
  obtain ⟨mf1, mf2, mf3, mf4, mf5, mf6⟩ := m_facts hk
  unfold am_K
  refine va_MetF (cc := mC k) (maxL := mL k) (ret := mR k) mf6 rfl ?_
  intro p e s m args' below meth c s₁ Bd hml hv
  obtain ⟨rfl, hP, hz, hC, hH⟩ := hv
  have hx := Bd.exec
  have hb := Bd.bytes
  have hr := Bd.returns
  have hts0 := atoms_spec (ws := mW k) Bd.pre
  have hts : ∀ w ∈ gw, w.before (args.map (sv ad)).toArray s = true := fun w hw => hts0 w (List.mem_cons_of_mem _ hw)
  have hown : s.vm.findClass (mY k).cls = some m.cls := findClass_of_methodNamed Bd.named
  rw [mf2] at hown
  have hin : meth.name = (mY k).name := (name_of_methodNamed Bd.named Bd.method).1
  have hlocks := Bd.notSynchronized
  have B : am_B p (am_rm (d + 1) (r.2.2.1 - nx.1) (r.2.2.2 - nx.2)) s m (args.map (sv ad)).toArray meth c D ad dA sz k d nx := ⟨hx, hb, hml, hown, hts, hC, hin, Nat.le_refl _, Nat.le_refl _, hz⟩
  have hl := am_LR0 ad hok
  rw [lg_entry_eq]
  generalize (lg_sl (args.map (sv ad)) ++ List.replicate (mL k - (lg_sl (args.map (sv ad))).length) Slot.unset).toArray = cls at hl ⊢
  refine walk _ _ _ _ _ _ _ _ _ _ B ?_ cls s.heap [] 0 0 ⟨hl, hP, va_S.rf, hH, rfl, rfl⟩
  intro pc len i ls st h2 nx2 hd hend cls2 H locs cells slots hS
  obtain ⟨hl2, hP2, hSS, hH2, hc1, hc2⟩ := hS
  obtain ⟨rfl, hr1, hr2, hcase⟩ := hend
  have hc1 : nx.1 + cells = nx2.1 := hc1
  have hc2 : nx.2 + slots = nx2.2 := hc2
  have e1 : r.2.2.1 - nx.1 = cells := by rw [hr2]; omega
  have e2 : r.2.2.2 - nx.2 = slots := by rw [hr2]; omega
  rw [e1, e2]
  have hq : ∀ (o : Outcome), o = .returned (r.1.map (sv ad)) → ∀ t : State, t.heap = H → s.WarmedH t.vm → am_Qc D ad dA sz r (args.map (sv ad)).toArray s o t := by
    intro o ho t ht hW
    refine ⟨ho, ?_, ?_, hSS.F ht⟩
    · rw [ht, hr1, hr2]
      exact hP2
    · rw [hr1, hr2]
      exact hH2.moved hW.alike (fun q h1 h2 => by rw [ht]; exact hSS.2.1 q h1 h2)
  rcases hcase with ⟨rfl, v, ty, rfl, hR, hn, hv⟩ | ⟨rfl, v, rfl, hR, hv⟩ | ⟨rfl, v, ty, rfl, hR, hn, hv⟩ | ⟨rfl, rfl, hR, hv⟩
  · exact W.zret hx hb (hr.trans hR) (of_decide_eq_true hn) (hq _ (by rw [hv]; rfl)) hSS.2.2 hd
  · exact W.lret hx hb (hr.trans hR) (hq _ (by rw [hv]; rfl)) hSS.2.2 hd
  · refine W.aret (v := .ref (ad v)) hx hb (hr.trans hR) ?_ (Or.inr ⟨_, rfl⟩) (hq _ (by rw [hv]; rfl)) hSS.2.2 hd
    cases ty with
    | object nm => exact Or.inl ⟨nm, rfl⟩
    | array t => exact Or.inr ⟨t, rfl⟩
    | _ => cases hn
  · exact W.vret hx hb (hr.trans hR) (hq _ (by rw [hv]; rfl)) hSS.2.2 hd
section ST
variable {l : Launch} {D : va_G} {ad dA : Nat → Nat} {sz d a : Nat} {h : AH} {nx : AN}
theorem str_of {s : State} (ha : isS a = true) (hC : am_C D ad dA sz s) : ∃ adV : Nat → Nat, va_OF "java/lang/String" "coder" "B" (.int 0) (ad a) (am_A sz) s s.heap ∧ va_OF "java/lang/String" "value" "[B" (.ref (adV (a - 4))) (ad a) (am_A sz) s s.heap ∧ va_T .byte (adV (a - 4)) (sLen.getD (a - 4) 0) (fun j => .int ((sByt.getD (a - 4) []).getD j 0)) (am_A sz) s s.heap := by
  obtain ⟨⟨adV, hv1⟩, -⟩ := hC.2.2.2.2.2.2
  simp only [isS, Bool.and_eq_true, decide_eq_true_eq] at ha
  have h9 := hv1.1 (a - 4) (by omega)
  dsimp only at h9
  rw [show 4 + (a - 4) = a from Nat.add_sub_cancel' ha.1] at h9
  exact ⟨adV, h9.2.1, h9.2.2.1, h9.2.2.2⟩
theorem s_coder (ha : isS a = true) : am_K l D ad dA sz (d + 1) 216 [.ref a] h nx (some (.int 0), h, nx) := by
  refine am_met (by decide) rfl ⟨Nat.le_refl _, Nat.le_refl _⟩ ?_
  intro p e R s m A below meth c Q B ret
  obtain ⟨hx, hb, hml, hown, hts, hC, hin, hfr, hlo, hs0⟩ := id B
  have hown : s.vm.findClass "java/lang/String" = some m.cls := hown
  obtain ⟨adV, o1, o2, o3⟩ := str_of ha hC
  have w14 : am_W p l e R s m A below meth c Q D ad dA sz 216 nx (14, [.ref a], [.int 0], h, nx) := ret 14 1 .ireturn [.ref a] [.int 0] h nx (by decide +kernel) ⟨rfl, rfl, rfl, Or.inl ⟨rfl, 0, .byte, rfl, rfl, rfl, rfl⟩⟩
  have w10 : am_W p l e R s m A below meth c Q D ad dA sz 216 nx (10, [.ref a], [.int 0], h, nx) := sm_goto (call := fun _ _ _ _ => none) (len := 3) (off := 4) B (by decide +kernel) rfl w14
  have w7 : am_W p l e R s m A below meth c Q D ad dA sz 216 nx (7, [.ref a], [.ref a], h, nx) := by
    intro cls H locs cells slots hS
    exact vk_getf hx hb o1 hS.2.2.1 hown (hts (.fieldLink "java/lang/String" 15 "java/lang/String" "coder" "B") (gw_at (j := 1368) (by decide +kernel) rfl)) (fun _ z => z) (show decode (mC 216) 7 = .ok (.getfield 15, 3) by decide +kernel) (w10 cls H locs cells slots hS)
  have w6 : am_W p l e R s m A below meth c Q D ad dA sz 216 nx (6, [.ref a], [], h, nx) := sm_aload_n (call := fun _ _ _ _ => none) (len := 1) (q := 0) B (by decide +kernel) rfl w7
  have w3 : am_W p l e R s m A below meth c Q D ad dA sz 216 nx (3, [.ref a], [.int 1], h, nx) := sm_ifCond (call := fun _ _ _ _ => none) (len := 3) (cd := .eq) (off := 10) B (by decide +kernel) rfl w6
  intro cls H locs cells slots hS
  exact va_gets hx hb hC.2.2.2.2.2.2.2.2.1 hS.2.2.1 hown (hts (.fieldLink "java/lang/String" 38 "java/lang/String" "COMPACT_STRINGS" "Z") (gw_at (j := 715) (by decide +kernel) rfl)) (fun _ z => z) (show decode (mC 216) 0 = .ok (.getstatic 38, 3) by decide +kernel) (w3 cls H locs cells slots hS)
end ST
