/-! a static call with concrete arguments; String.checkIndex -/
section SW
variable {p : Program} {l : Launch} {e : Env} {R : Room} {s : State} {m : MethodId} {args : Array Value} {below : List Frame} {meth : Method} {c : Code} {Q : State → Prop} {D : va_G} {ad dA : Nat → Nat} {sz k d a i n : Nat} {h : AH} {nx n0 : AN}
theorem av_blind (D : va_G) (ad dA : Nat → Nat) (sz : Nat) (vs : List Value) (h : AH) (nx : AN) : FrameBlind (am_Pv D ad dA sz vs h nx) := by
  intro a U g mk q
  obtain ⟨q1, q2, q3, q4, q5⟩ := q
  have hvm : U.vm.Alike (U.calling g mk a).vm := Vm.Alike.refl U.vm
  exact ⟨q1, q2, q3, q4.moved hvm (fun _ _ _ _ z => va_Nw.same rfl rfl z) (fun _ _ _ _ z => vk_R.same rfl z) (fun _ _ _ => rfl) q4.2.1, q5.moved hvm (fun _ _ _ => rfl)⟩
theorem av_pre {U : State} {H : Heap} {locs : List Loc} {vs : List Value} (hC : am_C D ad dA sz s) (hP : va_P D classes (am_ws ad dA h nx.1) H) (hSS : va_S (am_A sz) s.heap H locs) (hH : am_H ad sz h nx s) (hz : H.size = sz + nx.1) (hU : U.heap = H) (hW : s.WarmedH U.vm) : am_Pv D ad dA sz vs h nx vs.toArray U := by
  subst hU
  have hq : ∀ q : Nat, q < s.heap.size → ¬ am_A sz q → U.heap[q]? = s.heap[q]? := hSS.2.1
  exact ⟨rfl, hP, hz, hC.moved hW.alike (fun _ _ _ _ z => va_Nw.warmM hW z) (fun _ _ _ _ z => vk_R.warm hW z) hq (by omega), hH.moved hW.alike hq⟩
theorem sw_stat {ix k1 pc j1 j2 : Nat} {ls r vs : List Value} {v : Option Value} {cls : Array Slot} {H : Heap} {locs : List Loc} {cells slots : Nat} (B : am_B p R s m args meth c D ad dA sz k d n0) (hS : am_St D ad dA sz s (mL k) n0 ls h nx cls H locs cells slots) (hd : decode (mC k) pc = .ok (.invokestatic ix, 3)) (c1 : lwa j1 = some (.methodLink (oN (mO k)) ix (mY k1))) (c2 : lwa j2 = some (.static (mY k1))) (hkl : k1 < kLaw) (hA : vs.length = mA k1) (hrl : r.length ≤ 4) (hr : nx.1 ≤ n0.1 + R.cells ∧ nx.2 ≤ n0.2 + R.slots) (hK0 : am_Kv l D ad dA sz d k1 vs h nx (v, h, nx)) (kk : am_W p l e R s m args below meth c Q D ad dA sz k n0 (pc + 3, ls, v.toList ++ r, h, nx)) : W p l e R s m args below meth c H locs cells slots Q (F0 m pc cls (vs.reverse ++ r.map (sv ad))) := by
  obtain ⟨hx, hb, hml, hown, hts, hC, hin, hfr, hlo, hs0⟩ := id B
  obtain ⟨hl, hP, hSS, hH, hc1, hc2⟩ := id hS
  have e9 : n0.1 + cells = nx.1 := hc1
  have e8 : n0.2 + slots = nx.2 := hc2
  refine W_size (fun hz => ?_)
  have hz0 : H.size = sz + nx.1 := by have z1 := am_size hC.1 hP (Nat.le_trans hC.2.1 hSS.1); have z1 : sz + nx.1 ≤ H.size := z1; rw [hs0] at hz; omega
  obtain ⟨mf1, mf2, mf3, mf4, mf5, mf6⟩ := m_facts hkl
  obtain ⟨jq, mf1⟩ := mf1
  refine am_run (r := (v, h, nx)) B hS ⟨Nat.le_refl _, Nat.le_refl _⟩ (va_runS (rm := am_rm d (nx.1 - nx.1) (nx.2 - nx.2)) ⟨hx, hb, hml, hown, hts⟩ hK0 (va_cwS (ws := mW k1) (mA k1) hts ?_ rfl rfl rfl ⟨mf3.1, mf3.2, mf5⟩ ⟨hfr, by show 8 + (mL k1 + 11) + 64 * d ≤ R.locals; omega⟩) ⟨av_blind _ _ _ _ _ _ _, fun U hU hW => av_pre hC hP hSS hH hz0 hU hW⟩ rfl hA hl.1 rfl (lv_room (cat_sum ad r hrl)) hd ⟨by show cells + (nx.1 - nx.1) ≤ R.cells; omega, by show slots + (nx.2 - nx.2) ≤ R.slots; omega⟩) rfl kk
  intro w hw
  unfold va_wsS at hw
  rcases List.mem_append.mp hw with hw | hw
  · simp only [List.mem_cons, List.not_mem_nil, or_false] at hw
    rcases hw with rfl | rfl | rfl
    · exact gw_good _ (gw_at c1 rfl)
    · exact gw_good _ (gw_at c2 rfl)
    · exact gw_good _ (gw_at mf1 rfl)
  · exact mW_good hkl w hw
theorem s_check (hi : i < n) (hn : n < 100) : am_K l D ad dA sz (d + 1 + 1) 219 [.int (nI i), .int (nI n)] h nx (none, h, nx) := by
  refine am_met (by decide) rfl ⟨Nat.le_refl _, Nat.le_refl _⟩ ?_
  intro p e R s m A below meth c Q B ret
  obtain ⟨hx, hb, hml, hown, hts, hC, hin, hfr, hlo, hs0⟩ := id B
  have hown : s.vm.findClass "java/lang/String" = some m.cls := hown
  have w9 : am_W p l e R s m A below meth c Q D ad dA sz 219 nx (9, [.int (nI i), .int (nI n)], [], h, nx) := ret 9 1 .return_ _ [] h nx (by decide +kernel) ⟨rfl, rfl, rfl, Or.inr (Or.inr (Or.inr ⟨rfl, rfl, rfl, rfl⟩))⟩
  have w8 : am_W p l e R s m A below meth c Q D ad dA sz 219 nx (8, [.int (nI i), .int (nI n)], [.int (nI i)], h, nx) := sm_pop (call := fun _ _ _ _ => none) (len := 1) B (by decide +kernel) rfl w9
  have w2 : am_W p l e R s m A below meth c Q D ad dA sz 219 nx (2, [.int (nI i), .int (nI n)], [.int (nI n), .int (nI i)], h, nx) := by
    intro cls H locs cells slots hS
    have go : ∀ v : Value, (v = .null ∨ ∃ q, v = .ref q) → va_Z "jdk/internal/util/Preconditions" "SIOOBE_FORMATTER" "Ljava/util/function/BiFunction;" v (am_A sz) s s.heap → W p l e R s m A below meth c H locs cells slots Q (F0 m 2 cls [.int (nI n), .int (nI i)]) := fun v hv hz =>
      va_gets hx hb hz hS.2.2.1 hown (hts (.fieldLink "java/lang/String" 1053 "jdk/internal/util/Preconditions" "SIOOBE_FORMATTER" "Ljava/util/function/BiFunction;") (gw_at (j := 731) (by decide +kernel) rfl)) (fun _ z => z) (show decode (mC 219) 2 = .ok (.getstatic 1053, 3) by decide +kernel) (sw_stat (r := []) (vs := [.int (nI i), .int (nI n), v]) (j1 := 733) (j2 := 734) (k1 := 225) (ix := 1059) B hS (show decode (mC 219) 5 = .ok (.invokestatic 1059, 3) by decide +kernel) (by decide +kernel) (by decide +kernel) (by decide) rfl (show 0 ≤ 4 by decide) ⟨Nat.le_add_right _ _, Nat.le_add_right _ _⟩ (s_prec hv hi hn) w8)
    rcases hC.2.2.2.2.2.2.2.2.2 with hz | ⟨q, hz⟩
    · exact go .null (Or.inl rfl) hz
    · exact go (.ref q) (Or.inr ⟨q, rfl⟩) hz
  have w1 : am_W p l e R s m A below meth c Q D ad dA sz 219 nx (1, [.int (nI i), .int (nI n)], [.int (nI i)], h, nx) := sm_iload_n (call := fun _ _ _ _ => none) (len := 1) (q := 1) B (by decide +kernel) rfl w2
  exact sm_iload_n (call := fun _ _ _ _ => none) (len := 1) (q := 0) B (by decide +kernel) rfl w1
end SW
