/-! calls that keep the locals as they are -/
section SY
variable {p : Program} {l : Launch} {e : Env} {R : Room} {s : State} {m : MethodId} {args : Array Value} {below : List Frame} {meth : Method} {c : Code} {Q : State → Prop} {D : va_G} {ad dA : Nat → Nat} {sz k d a i n : Nat} {h : AH} {nx n0 : AN}
theorem am_runc {pc : Nat} {cls : Array Slot} {st0 rest : List Value} {ls rst : List Value} {r : AR} {H : Heap} {locs : List Loc} {cells slots : Nat} {a : Array Value} (B : am_B p R s m args meth c D ad dA sz k d n0) (hS : am_St D ad dA sz s (mL k) n0 ls h nx cls H locs cells slots) (hm : nx.1 ≤ r.2.2.1 ∧ nx.2 ≤ r.2.2.2)
    (hr : va_Run p l e R s m args below meth c H locs cells slots (r.2.2.1 - nx.1) (r.2.2.2 - nx.2) (F0 m pc cls st0) rest (am_Qc D ad dA sz r a) (am_A sz)) (he : rest = rst.map (sv ad)) (kk : ∀ (H : Heap) (locs : List Loc) (cells slots : Nat), am_St D ad dA sz s (mL k) n0 ls r.2.1 r.2.2 cls H locs cells slots → W p l e R s m args below meth c H locs cells slots Q (F0 m (pc + 3) cls ((r.1.toList ++ rst).map (sv ad)))) : W p l e R s m args below meth c H locs cells slots Q (F0 m pc cls st0) := by
  obtain ⟨hl, hP, hSS, hH, hc1, hc2⟩ := hS
  intro T hT X
  obtain ⟨v, st₀, t, T', L, h0, X', hL, e1, e2, ⟨g1, g2, g3, g4⟩, st⟩ := hr T hT X
  obtain ⟨f1, f2⟩ := g4
  rw [h0] at f1 f2
  have hv : v = r.1.map (sv ad) := Outcome.returned.inj g1
  have hS1 : va_S (am_A sz) s.heap T'.heap (locs ++ L) := by
    refine ⟨Nat.le_trans hSS.1 (by rw [e1]; exact f1), fun q h1 h2 => ?_, fun q hq => ?_⟩
    · rw [e1, f2 q (Nat.lt_of_lt_of_le h1 hSS.1) h2]
      exact hSS.2.1 q h1 h2
    · rcases List.mem_append.mp hq with z | z
      · exact hSS.2.2 q z
      · exact hL q z
  have hC := B.2.2.2.2.2.1
  have hH1 : am_H ad sz r.2.1 r.2.2 s := g3.moved (by rw [← e2]; exact X'.warmed.alike.symm) (fun q h1 h2 => by
    have h3 : q < s.heap.size := by
      have h4 : sz ≤ s.heap.size := hC.2.1
      have h5 : ¬ sz ≤ q := h2
      omega
    rw [← e1]
    exact (hS1.2.1 q h3 h2).symm)
  obtain ⟨t2, a1, b1⟩ := kk T'.heap (locs ++ L) (cells + (r.2.2.1 - nx.1)) (slots + (r.2.2.2 - nx.2)) ⟨hl, by rw [e1]; exact g2, hS1, hH1, by show _ = r.2.2.1; omega, by show _ = r.2.2.2; omega⟩ T' rfl X'
  refine ⟨t2, st t2 ?_, b1⟩
  subst he
  subst hv
  have ee : (List.map (sv ad) (r.1.toList ++ rst)) = (r.1.map (sv ad)).toList ++ rst.map (sv ad) := by
    cases r.1 <;> simp
  rw [← ee]
  exact a1
theorem sw_statc {ix k1 pc j1 j2 : Nat} {ls r vs : List Value} {v : Option Value} {cls : Array Slot} {H : Heap} {locs : List Loc} {cells slots : Nat} (B : am_B p R s m args meth c D ad dA sz k d n0) (hS : am_St D ad dA sz s (mL k) n0 ls h nx cls H locs cells slots) (hd : decode (mC k) pc = .ok (.invokestatic ix, 3)) (c1 : lwa j1 = some (.methodLink (oN (mO k)) ix (mY k1))) (c2 : lwa j2 = some (.static (mY k1))) (hkl : k1 < kLaw) (hA : vs.length = mA k1) (hrl : r.length ≤ 4) (hr : nx.1 ≤ n0.1 + R.cells ∧ nx.2 ≤ n0.2 + R.slots) (hK0 : am_Kv l D ad dA sz d k1 vs h nx (v, h, nx)) (kk : ∀ (H : Heap) (locs : List Loc) (cells slots : Nat), am_St D ad dA sz s (mL k) n0 ls h nx cls H locs cells slots → W p l e R s m args below meth c H locs cells slots Q (F0 m (pc + 3) cls ((v.toList ++ r).map (sv ad)))) : W p l e R s m args below meth c H locs cells slots Q (F0 m pc cls (vs.reverse ++ r.map (sv ad))) := by
  obtain ⟨hx, hb, hml, hown, hts, hC, hin, hfr, hlo, hs0⟩ := id B
  obtain ⟨hl, hP, hSS, hH, hc1, hc2⟩ := id hS
  have e9 : n0.1 + cells = nx.1 := hc1
  have e8 : n0.2 + slots = nx.2 := hc2
  refine W_size (fun hz => ?_)
  have hz0 : H.size = sz + nx.1 := by have z1 := am_size hC.1 hP (Nat.le_trans hC.2.1 hSS.1); have z1 : sz + nx.1 ≤ H.size := z1; rw [hs0] at hz; omega
  obtain ⟨mf1, mf2, mf3, mf4, mf5, mf6⟩ := m_facts hkl
  obtain ⟨jq, mf1⟩ := mf1
  refine am_runc (r := (v, h, nx)) B hS ⟨Nat.le_refl _, Nat.le_refl _⟩ (va_runS (rm := am_rm d (nx.1 - nx.1) (nx.2 - nx.2)) ⟨hx, hb, hml, hown, hts⟩ hK0 (va_cwS (ws := mW k1) (mA k1) hts ?_ rfl rfl rfl ⟨mf3.1, mf3.2, mf5⟩ ⟨hfr, by show 8 + (mL k1 + 11) + 64 * d ≤ R.locals; omega⟩) ⟨av_blind _ _ _ _ _ _ _, fun U hU hW => av_pre hC hP hSS hH hz0 hU hW⟩ rfl hA hl.1 rfl (lv_room (cat_sum ad r hrl)) hd ⟨by show cells + (nx.1 - nx.1) ≤ R.cells; omega, by show slots + (nx.2 - nx.2) ≤ R.slots; omega⟩) rfl kk
  intro w hw
  unfold va_wsS at hw
  rcases List.mem_append.mp hw with hw | hw
  · simp only [List.mem_cons, List.not_mem_nil, or_false] at hw
    rcases hw with rfl | rfl | rfl
    · exact gw_good _ (gw_at c1 rfl)
    · exact gw_good _ (gw_at c2 rfl)
    · exact gw_good _ (gw_at mf1 rfl)
  · exact mW_good hkl w hw
theorem s_checkv (hi : i < n) (hn : n < 100) : am_Kv l D ad dA sz (d + 1 + 1) 219 [.int (nI i), .int (nI n)] h nx (none, h, nx) := s_check hi hn
end SY
