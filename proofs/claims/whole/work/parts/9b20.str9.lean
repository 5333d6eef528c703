/-! StringLatin1.charAt, within bounds -/
section SZ
variable {l : Launch} {D : va_G} {ad dA : Nat → Nat} {sz d a b i n : Nat} {h : AH} {nx : AN} {g : Nat → Int32}
theorem LR_2 {x : Int32} : LR ad ((lg_sl [.ref b, .int x] ++ List.replicate (mL 220 - (lg_sl [.ref b, .int x]).length) Slot.unset).toArray) (mL 220) [.null, .int x] := by
  have hw := lv_entry [.ref b, .int x] (n := mL 220) (show 2 ≤ mL 220 by decide)
  refine ⟨hw.1, hw.2.1, rfl, fun j w hw2 hvv => ?_, fun j w hw2 => ?_⟩
  · match j with
    | 0 => cases hw2; cases hvv
    | 1 => cases hw2; rfl
    | j + 2 => cases hw2
  · match j with
    | 0 => cases hw2
    | 1 => cases hw2
    | j + 2 => cases hw2
theorem s_lchar {y : Int32} (hi : i < n) (hn : n < 100) (hy : ((g i &&& 255).toUInt32 % 65536).toInt32 = y) (hc : nR .char y = true) : am_Kx l D ad dA sz (d + 1 + 1 + 1) 220 [.ref b, .int (nI i)] h nx (some (.int y), h, nx) (fun U => va_T .byte b n (fun j => .int (g j)) (am_A sz) U U.heap) := by
  refine am_mec (by decide) LR_2 ⟨Nat.le_refl _, Nat.le_refl _⟩ ?_
  intro p e R s m A below meth c Q B hX ret hS
  obtain ⟨hx, hb, hml, hown, hts, hC, hin, hfr, hlo, hs0⟩ := id B
  have w14 : am_W p l e R s m A below meth c Q D ad dA sz 220 nx (14, [.null, .int (nI i)], [.int y], h, nx) := ret 14 1 .ireturn _ [.int y] h nx (by decide +kernel) ⟨rfl, rfl, rfl, Or.inl ⟨rfl, _, .char, rfl, rfl, hc, rfl⟩⟩
  refine lv_iload_n hx hb (show decode (mC 220) 0 = .ok (.iload_n 1, 1) by decide +kernel) rfl (x := nI i) rfl ?_
  refine lv_aload_n hx hb (show decode (mC 220) 1 = .ok (.aload_n 0, 1) by decide +kernel) rfl (x := b) rfl ?_
  refine va_tlen hx hb hX hS.2.2.1 (v := nI n) rfl (show decode (mC 220) 2 = .ok (.arraylength, 1) by decide +kernel) ?_
  refine sw_statc (r := []) (vs := [.int (nI i), .int (nI n)]) (j1 := 728) (j2 := 729) (k1 := 219) (ix := 9) (ls := [.null, .int (nI i)]) B hS (show decode (mC 220) 3 = .ok (.invokestatic 9, 3) by decide +kernel) (by decide +kernel) (by decide +kernel) (by decide) rfl (show 0 ≤ 4 by decide) ⟨Nat.le_add_right _ _, Nat.le_add_right _ _⟩ (s_checkv hi hn) ?_
  intro H locs cells slots hS
  refine lv_aload_n hx hb (show decode (mC 220) 6 = .ok (.aload_n 0, 1) by decide +kernel) rfl (x := b) rfl ?_
  refine lv_iload_n hx hb (show decode (mC 220) 7 = .ok (.iload_n 1, 1) by decide +kernel) rfl (x := nI i) rfl ?_
  refine va_tb hx hb hX hS.2.2.1 (i := nI i) (vp_in_nI hi (by omega)) (v := .int (g i)) (by rw [cl_nI (by omega)]) (show decode (mC 220) 8 = .ok (.baload, 1) by decide +kernel) ?_
  refine lv_sipush hx hb (show decode (mC 220) 9 = .ok (.sipush 255, 3) by decide +kernel) rfl ?_
  refine lv_iand hx hb (show decode (mC 220) 12 = .ok (.iand, 1) by decide +kernel) ?_
  refine lv_i2c (v := y) hx hb (show decode (mC 220) 13 = .ok (.i2c, 1) by decide +kernel) hy ?_
  exact w14 _ H locs cells slots hS
end SZ
