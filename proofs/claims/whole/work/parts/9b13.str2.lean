/-! String.isLatin1, a call of one of String's own, String.length -/
section SU
variable {p : Program} {l : Launch} {e : Env} {R : Room} {s : State} {m : MethodId} {args : Array Value} {below : List Frame} {meth : Method} {c : Code} {Q : State → Prop} {D : va_G} {ad dA : Nat → Nat} {sz k d a : Nat} {h : AH} {nx n0 : AN}
theorem s_latin (ha : isS a = true) : am_K l D ad dA sz (d + 1) 218 [.ref a] h nx (some (.int 1), h, nx) := by
  refine am_met (by decide) rfl ⟨Nat.le_refl _, Nat.le_refl _⟩ ?_
  intro p e R s m A below meth c Q B ret
  obtain ⟨hx, hb, hml, hown, hts, hC, hin, hfr, hlo, hs0⟩ := id B
  have hown : s.vm.findClass "java/lang/String" = some m.cls := hown
  obtain ⟨adV, o1, o2, o3⟩ := str_of ha hC
  have w18 : am_W p l e R s m A below meth c Q D ad dA sz 218 nx (18, [.ref a], [.int 1], h, nx) := ret 18 1 .ireturn [.ref a] [.int 1] h nx (by decide +kernel) ⟨rfl, rfl, rfl, Or.inl ⟨rfl, 1, .boolean, rfl, rfl, rfl, rfl⟩⟩
  have w14 : am_W p l e R s m A below meth c Q D ad dA sz 218 nx (14, [.ref a], [.int 1], h, nx) := sm_goto (call := fun _ _ _ _ => none) (len := 3) (off := 4) B (by decide +kernel) rfl w18
  have w13 : am_W p l e R s m A below meth c Q D ad dA sz 218 nx (13, [.ref a], [], h, nx) := sm_iconst (call := fun _ _ _ _ => none) (len := 1) (n := 1) B (by decide +kernel) rfl w14
  have w10 : am_W p l e R s m A below meth c Q D ad dA sz 218 nx (10, [.ref a], [.int 0], h, nx) := sm_ifCond (call := fun _ _ _ _ => none) (len := 3) (cd := .ne) (off := 7) B (by decide +kernel) rfl w13
  have w7 : am_W p l e R s m A below meth c Q D ad dA sz 218 nx (7, [.ref a], [.ref a], h, nx) := by
    intro cls H locs cells slots hS
    exact vk_getf hx hb o1 hS.2.2.1 hown (hts (.fieldLink "java/lang/String" 15 "java/lang/String" "coder" "B") (gw_at (j := 1368) (by decide +kernel) rfl)) (fun _ z => z) (show decode (mC 218) 7 = .ok (.getfield 15, 3) by decide +kernel) (w10 cls H locs cells slots hS)
  have w6 : am_W p l e R s m A below meth c Q D ad dA sz 218 nx (6, [.ref a], [], h, nx) := sm_aload_n (call := fun _ _ _ _ => none) (len := 1) (q := 0) B (by decide +kernel) rfl w7
  have w3 : am_W p l e R s m A below meth c Q D ad dA sz 218 nx (3, [.ref a], [.int 1], h, nx) := sm_ifCond (call := fun _ _ _ _ => none) (len := 3) (cd := .eq) (off := 14) B (by decide +kernel) rfl w6
  intro cls H locs cells slots hS
  exact va_gets hx hb hC.2.2.2.2.2.2.2.2.1 hS.2.2.1 hown (hts (.fieldLink "java/lang/String" 38 "java/lang/String" "COMPACT_STRINGS" "Z") (gw_at (j := 715) (by decide +kernel) rfl)) (fun _ z => z) (show decode (mC 218) 0 = .ok (.getstatic 38, 3) by decide +kernel) (w3 cls H locs cells slots hS)
/-- a call of one of String's own methods that has no argument -/
theorem sm_own {ix k1 pc j1 j2 j3 : Nat} {ls r : List Value} {v : Value} (B : am_B p R s m args meth c D ad dA sz k d n0) (hd : decode (mC k) pc = .ok (.invokevirtual ix, 3)) (c1 : lwa j1 = some (.methodLink (oN (mO k)) ix (mY k1))) (c2 : lwa j2 = some (.instanceMethod (mY k1))) (c3 : lwa j3 = some (.selects (mY k1).cls (mY k1) (mY k1))) (hkl : k1 < kLaw) (hcls : (mY k1).cls = "java/lang/String") (hA : mA k1 = 0) (hck : isS a = true) (hrl : r.length ≤ 4) (hr : nx.1 ≤ n0.1 + R.cells ∧ nx.2 ≤ n0.2 + R.slots) (hK0 : am_K l D ad dA sz d k1 [.ref a] h nx (some v, h, nx)) (kk : am_W p l e R s m args below meth c Q D ad dA sz k n0 (pc + 3, ls, v :: r, h, nx)) : am_W p l e R s m args below meth c Q D ad dA sz k n0 (pc, ls, .ref a :: r, h, nx) := by
  obtain ⟨hx, hb, hml, hown, hts, hC, hin, hfr, hlo, hs0⟩ := id B
  intro cls H locs cells slots hS
  obtain ⟨hl, hP, hSS, hH, hc1, hc2⟩ := id hS
  have e9 : n0.1 + cells = nx.1 := hc1
  have e8 : n0.2 + slots = nx.2 := hc2
  refine W_size (fun hz => ?_)
  have hz0 : H.size = sz + nx.1 := by have z1 := am_size hC.1 hP (Nat.le_trans hC.2.1 hSS.1); have z1 : sz + nx.1 ≤ H.size := z1; rw [hs0] at hz; omega
  obtain ⟨mf1, mf2, mf3, mf4, mf5, mf6⟩ := m_facts hkl
  obtain ⟨jq, mf1⟩ := mf1
  have hrecv : ∃ cellB : Cell, H[ad a]? = some cellB ∧ cellB.vm.isStatics = false ∧ s.vm.findClass (mY k1).cls = some cellB.cls := by
    rw [hcls]
    obtain ⟨⟨adV, hv1⟩, -⟩ := hC.2.2.2.2.2.2
    simp only [isS, Bool.and_eq_true, decide_eq_true_eq] at hck
    have h9 := vk_recv (i := a - 4) hv1 (by omega) hSS
    rw [show 4 + (a - 4) = a from Nat.add_sub_cancel' hck.1] at h9
    exact h9
  have hst : (.ref a :: r).map (sv ad) = (([] : List Value).map (sv ad)).reverse ++ .ref (ad a) :: r.map (sv ad) := rfl
  have hlen : (([] : List Value).map (sv ad)).length = mA k1 := hA.symm
  refine am_run (r := (some v, h, nx)) B hS ⟨Nat.le_refl _, Nat.le_refl _⟩ (va_runV (rm := am_rm d (nx.1 - nx.1) (nx.2 - nx.2)) ⟨hx, hb, hml, hown, hts⟩ hK0 (cwV (ws := mW k1) (mA k1) hts ?_ rfl rfl rfl ⟨rfl, mf3.1, mf3.2, mf5⟩ ⟨hfr, by show 8 + (mL k1 + 11) + 64 * d ≤ R.locals; omega⟩) ⟨am_blind _ _ _ _ _ _ _, hrecv, fun U hU hW => am_pre hC hP hSS hH hz0 hU hW⟩ rfl hlen hl.1 hst (lv_room (cat_sum ad r hrl)) hd ⟨by show cells + (nx.1 - nx.1) ≤ R.cells; omega, by show slots + (nx.2 - nx.2) ≤ R.slots; omega⟩) rfl kk
  intro w hw
  unfold wsV at hw
  rcases List.mem_append.mp hw with hw | hw
  · simp only [List.mem_cons, List.not_mem_nil, or_false] at hw
    rcases hw with rfl | rfl | rfl | rfl
    · exact gw_good _ (gw_at c1 rfl)
    · exact gw_good _ (gw_at c2 rfl)
    · exact gw_good _ (gw_at c3 rfl)
    · exact gw_good _ (gw_at mf1 rfl)
  · exact mW_good hkl w hw
theorem s_len_t (ha : isS a = true) : sLen.getD (a - 4) 0 = (strT a).length ∧ (strT a).length < 100 := by
  simp only [isS, Bool.and_eq_true, decide_eq_true_eq] at ha
  rcases (show a = 4 ∨ a = 5 ∨ a = 6 ∨ a = 7 ∨ a = 8 ∨ a = 9 by omega) with rfl | rfl | rfl | rfl | rfl | rfl <;> decide
theorem s_length (ha : isS a = true) : am_K l D ad dA sz (d + 1 + 1) 215 [.ref a] h nx (some (.int (Int32.ofNat (strT a).length)), h, nx) := by
  refine am_met (by decide) rfl ⟨Nat.le_refl _, Nat.le_refl _⟩ ?_
  intro p e R s m A below meth c Q B ret
  obtain ⟨hx, hb, hml, hown, hts, hC, hin, hfr, hlo, hs0⟩ := id B
  have hown : s.vm.findClass "java/lang/String" = some m.cls := hown
  obtain ⟨adV, o1, o2, o3⟩ := str_of ha hC
  obtain ⟨t1, t2⟩ := s_len_t ha
  rw [t1] at o3
  have w10 : am_W p l e R s m A below meth c Q D ad dA sz 215 nx (10, [.ref a], [.int (Int32.ofNat (strT a).length)], h, nx) := ret 10 1 .ireturn [.ref a] [.int (Int32.ofNat (strT a).length)] h nx (by decide +kernel) ⟨rfl, rfl, rfl, Or.inl ⟨rfl, _, .int, rfl, rfl, by simp [nR, narrow], rfl⟩⟩
  have e0 : Int32.ofNat (strT a).length >>> ((0 : Int32) &&& 31) = Int32.ofNat (strT a).length := by
    generalize (strT a).length = n at t2
    revert n
    decide +kernel
  have w9 : am_W p l e R s m A below meth c Q D ad dA sz 215 nx (9, [.ref a], [.int 0, .int (Int32.ofNat (strT a).length)], h, nx) := sm_ishr (call := fun _ _ _ _ => none) (len := 1) (f := (10, [.ref a], [.int (Int32.ofNat (strT a).length >>> ((0 : Int32) &&& 31))], h, nx)) B (by decide +kernel) rfl (by rw [e0]; exact w10)
  have w6 : am_W p l e R s m A below meth c Q D ad dA sz 215 nx (6, [.ref a], [.ref a, .int (Int32.ofNat (strT a).length)], h, nx) := sm_own (j1 := 711) (j2 := 712) (j3 := 713) (k1 := 216) (ix := 335) B (by decide +kernel) (by decide +kernel) (by decide +kernel) (by decide +kernel) (by decide) (by decide +kernel) (by decide +kernel) ha (show 1 ≤ 4 by decide) ⟨Nat.le_add_right _ _, Nat.le_add_right _ _⟩ (s_coder ha) w9
  have w5 : am_W p l e R s m A below meth c Q D ad dA sz 215 nx (5, [.ref a], [.int (Int32.ofNat (strT a).length)], h, nx) := sm_aload_n (call := fun _ _ _ _ => none) (len := 1) (q := 0) B (by decide +kernel) rfl w6
  have w1 : am_W p l e R s m A below meth c Q D ad dA sz 215 nx (1, [.ref a], [.ref a], h, nx) := by
    intro cls H locs cells slots hS
    exact vk_getf hx hb o2 hS.2.2.1 hown (hts (.fieldLink "java/lang/String" 9 "java/lang/String" "value" "[B") (gw_at (j := 1367) (by decide +kernel) rfl)) (fun _ z => z) (show decode (mC 215) 1 = .ok (.getfield 9, 3) by decide +kernel) (va_tlen hx hb o3 hS.2.2.1 rfl (show decode (mC 215) 4 = .ok (.arraylength, 1) by decide +kernel) (w5 cls H locs cells slots hS))
  exact sm_aload_n (call := fun _ _ _ _ => none) (len := 1) (q := 0) B (by decide +kernel) rfl w1
end SU
