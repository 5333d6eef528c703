/-! String.charAt, and both for the abstract machine -/
section TA
variable {l : Launch} {D : va_G} {ad dA : Nat → Nat} {sz d a i : Nat} {h : AH} {nx : AN}
theorem s_tab' : ∀ b, b < 6 → ∀ i, i < 6 → (((sByt.getD b []).getD i 0 &&& 255).toUInt32 % 65536).toInt32 = Int32.ofNat ((strT (4 + b)).getD i 0) ∧ nR .char (Int32.ofNat ((strT (4 + b)).getD i 0)) = true := by decide +kernel
theorem s_len6 : ∀ b, b < 6 → (strT (4 + b)).length ≤ 6 := by decide
theorem s_tab (ha : isS a = true) (hi : i < (strT a).length) : (((sByt.getD (a - 4) []).getD i 0 &&& 255).toUInt32 % 65536).toInt32 = Int32.ofNat ((strT a).getD i 0) ∧ nR .char (Int32.ofNat ((strT a).getD i 0)) = true := by
  simp only [isS, Bool.and_eq_true, decide_eq_true_eq] at ha
  have e : 4 + (a - 4) = a := by omega
  have h6 := s_len6 (a - 4) (by omega)
  rw [e] at h6
  have := s_tab' (a - 4) (by omega) i (by omega)
  rwa [e] at this
theorem s_charAt (ha : isS a = true) (hi : i < (strT a).length) : am_K l D ad dA sz (d + 1 + 1 + 1 + 1) 217 [.ref a, .int (nI i)] h nx (some (.int (Int32.ofNat ((strT a).getD i 0))), h, nx) := by
  refine am_met (by decide) rfl ⟨Nat.le_refl _, Nat.le_refl _⟩ ?_
  intro p e R s m A below meth c Q B ret
  obtain ⟨hx, hb, hml, hown, hts, hC, hin, hfr, hlo, hs0⟩ := id B
  have hown : s.vm.findClass "java/lang/String" = some m.cls := hown
  obtain ⟨adV, o1, o2, o3⟩ := str_of ha hC
  obtain ⟨t1, t2⟩ := s_len_t ha
  obtain ⟨y1, y2⟩ := s_tab ha hi
  rw [t1] at o3
  have w15 : am_W p l e R s m A below meth c Q D ad dA sz 217 nx (15, [.ref a, .int (nI i)], [.int (Int32.ofNat ((strT a).getD i 0))], h, nx) := ret 15 1 .ireturn _ [.int (Int32.ofNat ((strT a).getD i 0))] h nx (by decide +kernel) ⟨rfl, rfl, rfl, Or.inl ⟨rfl, _, .char, rfl, rfl, y2, rfl⟩⟩
  have w8 : am_W p l e R s m A below meth c Q D ad dA sz 217 nx (8, [.ref a, .int (nI i)], [.ref a], h, nx) := by
    intro cls H locs cells slots hS
    refine vk_getf hx hb o2 hS.2.2.1 hown (hts (.fieldLink "java/lang/String" 9 "java/lang/String" "value" "[B") (gw_at (j := 1367) (by decide +kernel) rfl)) (fun _ z => z) (show decode (mC 217) 8 = .ok (.getfield 9, 3) by decide +kernel) ?_
    refine lv_iload_n hx hb (show decode (mC 217) 11 = .ok (.iload_n 1, 1) by decide +kernel) rfl (x := nI i) (hS.1.2.2.2.1 1 (.int (nI i)) rfl rfl) ?_
    refine sw_statx (r := []) (vs := [.ref (adV (a - 4)), .int (nI i)]) (j1 := 725) (j2 := 726) (k1 := 220) (ix := 495) (ls := [.ref a, .int (nI i)]) (X := fun U => va_T .byte (adV (a - 4)) (strT a).length (fun j => .int ((sByt.getD (a - 4) []).getD j 0)) (am_A sz) U U.heap) ?_ ?_ B hS (show decode (mC 217) 12 = .ok (.invokestatic 495, 3) by decide +kernel) (by decide +kernel) (by decide +kernel) (by decide) rfl (show 0 ≤ 4 by decide) ⟨Nat.le_add_right _ _, Nat.le_add_right _ _⟩ (s_lchar hi t2 y1 y2) w15
    · intro a' U g mk q
      exact ⟨av_blind _ _ _ _ _ _ _ a' U g mk q.1, va_T_moved (Vm.Alike.refl U.vm) (fun _ _ _ => rfl) q.2⟩
    · intro U hU hW
      exact va_T_moved hW.alike (fun q h1 h2 => by rw [hU]; exact hS.2.2.1.2.1 q h1 h2) o3
  have w7 : am_W p l e R s m A below meth c Q D ad dA sz 217 nx (7, [.ref a, .int (nI i)], [], h, nx) := sm_aload_n (call := fun _ _ _ _ => none) (len := 1) (q := 0) B (by decide +kernel) rfl w8
  have w4 : am_W p l e R s m A below meth c Q D ad dA sz 217 nx (4, [.ref a, .int (nI i)], [.int 1], h, nx) := sm_ifCond (call := fun _ _ _ _ => none) (len := 3) (cd := .eq) (off := 12) B (by decide +kernel) rfl w7
  have w1 : am_W p l e R s m A below meth c Q D ad dA sz 217 nx (1, [.ref a, .int (nI i)], [.ref a], h, nx) := sm_own (j1 := 721) (j2 := 722) (j3 := 723) (k1 := 218) (ix := 492) B (by decide +kernel) (by decide +kernel) (by decide +kernel) (by decide +kernel) (by decide) (by decide +kernel) (by decide +kernel) ha (show 0 ≤ 4 by decide) ⟨Nat.le_add_right _ _, Nat.le_add_right _ _⟩ (s_latin ha) w4
  exact sm_aload_n (call := fun _ _ _ _ => none) (len := 1) (q := 0) B (by decide +kernel) rfl w1
end TA
theorem am_StrOK_holds : am_StrOK := by
  intro l D ad dA sz d k args h nx r h8 hk q
  unfold am_str at q
  split at q
  · rename_i a
    replace q := if_so q
    obtain ⟨⟨rfl, ha⟩, q⟩ := q
    cases q
    obtain ⟨d', rfl⟩ : ∃ d', d = d' + 1 := ⟨d - 1, by omega⟩
    exact s_length ha
  · rename_i a i
    replace q := if_so q
    obtain ⟨⟨rfl, ha, hi⟩, q⟩ := q
    cases q
    obtain ⟨d', rfl⟩ : ∃ d', d = d' + 1 + 1 + 1 := ⟨d - 3, by omega⟩
    simp only [ib, decide_eq_true_eq] at hi
    have h0 : ¬ i < 0 := fun e => hi (Or.inl e)
    have h1 : i.toNatClampNeg < (strT a).length := by
      rcases Nat.lt_or_ge i.toNatClampNeg (strT a).length with z | z
      · exact z
      · exact absurd (Or.inr z) hi
    have e : nI i.toNatClampNeg = i := by
      have t2 := (s_len_t ha).2
      obtain ⟨j, hj⟩ := ex_nI i
      apply Int32.toInt_inj.mp
      rw [nI_toInt (by omega)]
      have : 0 ≤ i.toInt := by
        have := Int32.not_lt.mp h0
        simpa using Int32.le_iff_toInt_le.mp this
      show ((i.toInt.toNat : Nat) : Int) = i.toInt
      omega
    have := s_charAt (l := l) (D := D) (ad := ad) (dA := dA) (sz := sz) (d := d') (h := h) (nx := nx) ha h1
    rw [e] at this
    exact this
  · cases q
