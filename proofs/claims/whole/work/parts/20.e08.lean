section EE
variable {d : Nat} {l0 l1 l2 l3 l4 l5 l6 l7 l8 l9 l10 l11 : Value} {st : List Value} {h : AH} {nx : AN} {x y z : Int32} {xl yl : Int64} {a b : Nat} {s0 s1 s2 s3 s4 s5 v0 v1 v2 v3 v4 v5 : Value}
theorem mc_226 : mC 226 = code := rfl
theorem mo_226 : mO 226 = 10 := rfl
theorem ml_226 : mL 226 = 4 := rfl
theorem mr_226 : mR 226 = (some .boolean) := rfl
theorem ma_226 : mA 226 = 1 := rfl
theorem e_226_0 : Df d 226 0 [l0, l1, l2, l3] st h nx = Df d 226 3 [l0, l1, l2, l3] (.ref (16 + nx.1) :: st) (put h (16 + nx.1) (.inr (8, dfl 8))) (nx.1 + 1, nx.2 + 11) := D_new (ins_of mc_226 (pc := 0) (x := (.new 7, 3)) (by decide +kernel)) mo_226 (by decide +kernel)
theorem e_226_3 (hv : v0.category = 1) : Df d 226 3 [l0, l1, l2, l3] (v0 :: st) h nx = Df d 226 4 [l0, l1, l2, l3] (v0 :: v0 :: st) h nx := D_dup (ins_of mc_226 (pc := 3) (x := (.dup, 1)) (by decide +kernel)) hv
theorem e_226_4 : Df d 226 4 [l0, l1, l2, l3] [.ref a, s0] h nx = cn d 226 7 [l0, l1, l2, l3] [s0] (Dn d 71 [.ref a] h nx) := D_special (k1 := 71) (kd := 3) (ins_of mc_226 (pc := 4) (x := (.invokespecial 9, 3)) (by decide +kernel)) mo_226 (by decide +kernel) (by decide) rfl rfl (Nat.le_of_ble_eq_true rfl) rfl
theorem e_226_7 (hn : nr l1 = true) : Df d 226 7 [l0, l1, l2, l3] (.ref a :: st) h nx = Df d 226 8 [l0, .ref a, l2, l3] st h nx := D_astore_n (ins_of mc_226 (pc := 7) (x := (.astore_n 1, 1)) (by decide +kernel)) rfl hn rfl
theorem e_226_8 : Df d 226 8 [l0, l1, l2, l3] st h nx = Df d 226 11 [l0, l1, l2, l3] (.ref (16 + nx.1) :: st) (put h (16 + nx.1) (.inr (9, dfl 9))) (nx.1 + 1, nx.2 + 34) := D_new (ins_of mc_226 (pc := 8) (x := (.new 10, 3)) (by decide +kernel)) mo_226 (by decide +kernel)
theorem e_226_11 (hv : v0.category = 1) : Df d 226 11 [l0, l1, l2, l3] (v0 :: st) h nx = Df d 226 12 [l0, l1, l2, l3] (v0 :: v0 :: st) h nx := D_dup (ins_of mc_226 (pc := 11) (x := (.dup, 1)) (by decide +kernel)) hv
theorem e_226_12 : Df d 226 12 [l0, l1, l2, l3] [.ref a, s0] h nx = cn d 226 15 [l0, l1, l2, l3] [s0] (Dn d 121 [.ref a] h nx) := D_special (k1 := 121) (kd := 3) (ins_of mc_226 (pc := 12) (x := (.invokespecial 12, 3)) (by decide +kernel)) mo_226 (by decide +kernel) (by decide) rfl rfl (Nat.le_of_ble_eq_true rfl) rfl
theorem e_226_15 (hn : nr l2 = true) : Df d 226 15 [l0, l1, l2, l3] (.ref a :: st) h nx = Df d 226 16 [l0, l1, .ref a, l3] st h nx := D_astore_n (ins_of mc_226 (pc := 15) (x := (.astore_n 2, 1)) (by decide +kernel)) rfl hn rfl
theorem e_226_16 : Df d 226 16 [l0, l1, l2, l3] st h nx = Df d 226 17 [l0, l1, l2, l3] (.int 0 :: st) h nx := D_iconst (ins_of mc_226 (pc := 16) (x := (.iconst 0, 1)) (by decide +kernel)) (by decide)
theorem e_226_17 (hn : nr l3 = true) : Df d 226 17 [l0, l1, l2, l3] (.int x :: st) h nx = Df d 226 18 [l0, l1, l2, .int x] st h nx := D_istore_n (ins_of mc_226 (pc := 17) (x := (.istore_n 3, 1)) (by decide +kernel)) rfl hn rfl
theorem e_226_18 : Df d 226 18 [l0, l1, l2, .int x] st h nx = Df d 226 19 [l0, l1, l2, .int x] (.int x :: st) h nx := D_iload_n (ins_of mc_226 (pc := 18) (x := (.iload_n 3, 1)) (by decide +kernel)) rfl
theorem e_226_19 : Df d 226 19 [.ref a, l1, l2, l3] st h nx = Df d 226 20 [.ref a, l1, l2, l3] (.ref a :: st) h nx := D_aload_n (ins_of mc_226 (pc := 19) (x := (.aload_n 0, 1)) (by decide +kernel)) rfl
theorem e_226_20 : Df d 226 20 [l0, l1, l2, l3] (.ref a :: st) h nx = (aL h a).bind fun v => Df d 226 21 [l0, l1, l2, l3] (.int v :: st) h nx := D_arraylength (ins_of mc_226 (pc := 20) (x := (.arraylength, 1)) (by decide +kernel))
theorem e_226_21 : Df d 226 21 [l0, l1, l2, l3] st h nx = Df d 226 23 [l0, l1, l2, l3] (.int 6 :: st) h nx := D_bipush (ins_of mc_226 (pc := 21) (x := (.bipush 6, 2)) (by decide +kernel)) (by decide)
theorem e_226_23 : Df d 226 23 [l0, l1, l2, l3] (.int y :: .int x :: st) h nx = Df d 226 24 [l0, l1, l2, l3] (.int (x - y) :: st) h nx := D_isub (ins_of mc_226 (pc := 23) (x := (.isub, 1)) (by decide +kernel))
theorem e_226_24 : Df d 226 24 [l0, l1, l2, l3] (.int y :: .int x :: st) h nx = if y < x then Df d 226 1394 [l0, l1, l2, l3] st h nx else Df d 226 27 [l0, l1, l2, l3] st h nx := D_icmp_gt (ins_of mc_226 (pc := 24) (x := (.if_icmp .gt 1370, 3)) (by decide +kernel)) (by decide)
theorem e_226_27 : Df d 226 27 [.ref a, l1, l2, l3] st h nx = Df d 226 28 [.ref a, l1, l2, l3] (.ref a :: st) h nx := D_aload_n (ins_of mc_226 (pc := 27) (x := (.aload_n 0, 1)) (by decide +kernel)) rfl
theorem e_226_28 : Df d 226 28 [l0, l1, l2, .int x] st h nx = Df d 226 29 [l0, l1, l2, .int x] (.int x :: st) h nx := D_iload_n (ins_of mc_226 (pc := 28) (x := (.iload_n 3, 1)) (by decide +kernel)) rfl
theorem e_226_29 : Df d 226 29 [l0, l1, l2, l3] (.int x :: .ref a :: st) h nx = (rX h a x).bind fun v => Df d 226 30 [l0, l1, l2, l3] (.int v :: st) h nx := D_iaload (ins_of mc_226 (pc := 29) (x := (.iaload, 1)) (by decide +kernel))
theorem e_226_30 : Df d 226 30 [l0, l1, l2, l3] st h nx = Df d 226 32 [l0, l1, l2, l3] (.int 63 :: st) h nx := D_bipush (ins_of mc_226 (pc := 30) (x := (.bipush 63, 2)) (by decide +kernel)) (by decide)
theorem e_226_32 : Df d 226 32 [l0, l1, l2, l3] (.int y :: .int x :: st) h nx = Df d 226 33 [l0, l1, l2, l3] (.int (x &&& y) :: st) h nx := D_iand (ins_of mc_226 (pc := 32) (x := (.iand, 1)) (by decide +kernel))
theorem e_226_33 : Df d 226 33 [l0, l1, l2, l3] (.int x :: st) h nx = if x = 0 then Df d 226 208 [l0, l1, l2, l3] st h nx else if x = 1 then Df d 226 251 [l0, l1, l2, l3] st h nx else if x = 2 then Df d 226 284 [l0, l1, l2, l3] st h nx else if x = 3 then Df d 226 317 [l0, l1, l2, l3] st h nx else if x = 4 then Df d 226 350 [l0, l1, l2, l3] st h nx else if x = 5 then Df d 226 393 [l0, l1, l2, l3] st h nx else if x = 6 then Df d 226 426 [l0, l1, l2, l3] st h nx else if x = 7 then Df d 226 459 [l0, l1, l2, l3] st h nx else if x = 8 then Df d 226 482 [l0, l1, l2, l3] st h nx else if x = 9 then Df d 226 505 [l0, l1, l2, l3] st h nx else if x = 10 then Df d 226 528 [l0, l1, l2, l3] st h nx else if x = 11 then Df d 226 551 [l0, l1, l2, l3] st h nx else if x = 12 then Df d 226 584 [l0, l1, l2, l3] st h nx else if x = 13 then Df d 226 597 [l0, l1, l2, l3] st h nx else if x = 14 then Df d 226 630 [l0, l1, l2, l3] st h nx else if x = 15 then Df d 226 673 [l0, l1, l2, l3] st h nx else if x = 16 then Df d 226 696 [l0, l1, l2, l3] st h nx else if x = 17 then Df d 226 719 [l0, l1, l2, l3] st h nx else if x = 18 then Df d 226 742 [l0, l1, l2, l3] st h nx else if x = 19 then Df d 226 785 [l0, l1, l2, l3] st h nx else if x = 20 then Df d 226 798 [l0, l1, l2, l3] st h nx else if x = 21 then Df d 226 821 [l0, l1, l2, l3] st h nx else if x = 22 then Df d 226 864 [l0, l1, l2, l3] st h nx else if x = 23 then Df d 226 887 [l0, l1, l2, l3] st h nx else if x = 24 then Df d 226 900 [l0, l1, l2, l3] st h nx else if x = 25 then Df d 226 933 [l0, l1, l2, l3] st h nx else if x = 26 then Df d 226 956 [l0, l1, l2, l3] st h nx else if x = 27 then Df d 226 999 [l0, l1, l2, l3] st h nx else if x = 28 then Df d 226 1042 [l0, l1, l2, l3] st h nx else if x = 29 then Df d 226 1065 [l0, l1, l2, l3] st h nx else if x = 30 then Df d 226 1088 [l0, l1, l2, l3] st h nx else if x = 31 then Df d 226 1151 [l0, l1, l2, l3] st h nx else if x = 32 then Df d 226 1194 [l0, l1, l2, l3] st h nx else if x = 33 then Df d 226 1227 [l0, l1, l2, l3] st h nx else if x = 34 then Df d 226 1260 [l0, l1, l2, l3] st h nx else if x = 35 then Df d 226 1293 [l0, l1, l2, l3] st h nx else if x = 36 then Df d 226 1316 [l0, l1, l2, l3] st h nx else if x = 37 then Df d 226 1339 [l0, l1, l2, l3] st h nx else if x = 38 then Df d 226 1352 [l0, l1, l2, l3] st h nx else if x = 39 then Df d 226 1365 [l0, l1, l2, l3] st h nx else Df d 226 1388 [l0, l1, l2, l3] st h nx := by
  have hi := (ins_of mc_226 (pc := 33) (x := (.tableswitch 1355 0 39 #[175, 218, 251, 284, 317, 360, 393, 426, 449, 472, 495, 518, 551, 564, 597, 640, 663, 686, 709, 752, 765, 788, 831, 854, 867, 900, 923, 966, 1009, 1032, 1055, 1118, 1161, 1194, 1227, 1260, 1283, 1306, 1319, 1332], 175)) (by decide +kernel))
  by_cases q0 : x = 0
  · subst q0
    rw [if_pos rfl]
    exact D_tswI (off := 175) hi (by decide) (by decide) (by decide)
  rw [if_neg q0]
  by_cases q1 : x = 1
  · subst q1
    rw [if_pos rfl]
    exact D_tswI (off := 218) hi (by decide) (by decide) (by decide)
  rw [if_neg q1]
  by_cases q2 : x = 2
  · subst q2
    rw [if_pos rfl]
    exact D_tswI (off := 251) hi (by decide) (by decide) (by decide)
  rw [if_neg q2]
  by_cases q3 : x = 3
  · subst q3
    rw [if_pos rfl]
    exact D_tswI (off := 284) hi (by decide) (by decide) (by decide)
  rw [if_neg q3]
  by_cases q4 : x = 4
  · subst q4
    rw [if_pos rfl]
    exact D_tswI (off := 317) hi (by decide) (by decide) (by decide)
  rw [if_neg q4]
  by_cases q5 : x = 5
  · subst q5
    rw [if_pos rfl]
    exact D_tswI (off := 360) hi (by decide) (by decide) (by decide)
  rw [if_neg q5]
  by_cases q6 : x = 6
  · subst q6
    rw [if_pos rfl]
    exact D_tswI (off := 393) hi (by decide) (by decide) (by decide)
  rw [if_neg q6]
  by_cases q7 : x = 7
  · subst q7
    rw [if_pos rfl]
    exact D_tswI (off := 426) hi (by decide) (by decide) (by decide)
  rw [if_neg q7]
  by_cases q8 : x = 8
  · subst q8
    rw [if_pos rfl]
    exact D_tswI (off := 449) hi (by decide) (by decide) (by decide)
  rw [if_neg q8]
  by_cases q9 : x = 9
  · subst q9
    rw [if_pos rfl]
    exact D_tswI (off := 472) hi (by decide) (by decide) (by decide)
  rw [if_neg q9]
  by_cases q10 : x = 10
  · subst q10
    rw [if_pos rfl]
    exact D_tswI (off := 495) hi (by decide) (by decide) (by decide)
  rw [if_neg q10]
  by_cases q11 : x = 11
  · subst q11
    rw [if_pos rfl]
    exact D_tswI (off := 518) hi (by decide) (by decide) (by decide)
  rw [if_neg q11]
  by_cases q12 : x = 12
  · subst q12
    rw [if_pos rfl]
    exact D_tswI (off := 551) hi (by decide) (by decide) (by decide)
  rw [if_neg q12]
  by_cases q13 : x = 13
  · subst q13
    rw [if_pos rfl]
    exact D_tswI (off := 564) hi (by decide) (by decide) (by decide)
  rw [if_neg q13]
  by_cases q14 : x = 14
  · subst q14
    rw [if_pos rfl]
    exact D_tswI (off := 597) hi (by decide) (by decide) (by decide)
  rw [if_neg q14]
  by_cases q15 : x = 15
  · subst q15
    rw [if_pos rfl]
    exact D_tswI (off := 640) hi (by decide) (by decide) (by decide)
  rw [if_neg q15]
  by_cases q16 : x = 16
  · subst q16
    rw [if_pos rfl]
    exact D_tswI (off := 663) hi (by decide) (by decide) (by decide)
  rw [if_neg q16]
  by_cases q17 : x = 17
  · subst q17
    rw [if_pos rfl]
    exact D_tswI (off := 686) hi (by decide) (by decide) (by decide)
  rw [if_neg q17]
  by_cases q18 : x = 18
  · subst q18
    rw [if_pos rfl]
    exact D_tswI (off := 709) hi (by decide) (by decide) (by decide)
  rw [if_neg q18]
  by_cases q19 : x = 19
  · subst q19
    rw [if_pos rfl]
    exact D_tswI (off := 752) hi (by decide) (by decide) (by decide)
  rw [if_neg q19]
  by_cases q20 : x = 20
  · subst q20
    rw [if_pos rfl]
    exact D_tswI (off := 765) hi (by decide) (by decide) (by decide)
  rw [if_neg q20]
  by_cases q21 : x = 21
  · subst q21
    rw [if_pos rfl]
    exact D_tswI (off := 788) hi (by decide) (by decide) (by decide)
  rw [if_neg q21]
  by_cases q22 : x = 22
  · subst q22
    rw [if_pos rfl]
    exact D_tswI (off := 831) hi (by decide) (by decide) (by decide)
  rw [if_neg q22]
  by_cases q23 : x = 23
  · subst q23
    rw [if_pos rfl]
    exact D_tswI (off := 854) hi (by decide) (by decide) (by decide)
  rw [if_neg q23]
  by_cases q24 : x = 24
  · subst q24
    rw [if_pos rfl]
    exact D_tswI (off := 867) hi (by decide) (by decide) (by decide)
  rw [if_neg q24]
  by_cases q25 : x = 25
  · subst q25
    rw [if_pos rfl]
    exact D_tswI (off := 900) hi (by decide) (by decide) (by decide)
  rw [if_neg q25]
  by_cases q26 : x = 26
  · subst q26
    rw [if_pos rfl]
    exact D_tswI (off := 923) hi (by decide) (by decide) (by decide)
  rw [if_neg q26]
  by_cases q27 : x = 27
  · subst q27
    rw [if_pos rfl]
    exact D_tswI (off := 966) hi (by decide) (by decide) (by decide)
  rw [if_neg q27]
  by_cases q28 : x = 28
  · subst q28
    rw [if_pos rfl]
    exact D_tswI (off := 1009) hi (by decide) (by decide) (by decide)
  rw [if_neg q28]
  by_cases q29 : x = 29
  · subst q29
    rw [if_pos rfl]
    exact D_tswI (off := 1032) hi (by decide) (by decide) (by decide)
  rw [if_neg q29]
  by_cases q30 : x = 30
  · subst q30
    rw [if_pos rfl]
    exact D_tswI (off := 1055) hi (by decide) (by decide) (by decide)
  rw [if_neg q30]
  by_cases q31 : x = 31
  · subst q31
    rw [if_pos rfl]
    exact D_tswI (off := 1118) hi (by decide) (by decide) (by decide)
  rw [if_neg q31]
  by_cases q32 : x = 32
  · subst q32
    rw [if_pos rfl]
    exact D_tswI (off := 1161) hi (by decide) (by decide) (by decide)
  rw [if_neg q32]
  by_cases q33 : x = 33
  · subst q33
    rw [if_pos rfl]
    exact D_tswI (off := 1194) hi (by decide) (by decide) (by decide)
  rw [if_neg q33]
  by_cases q34 : x = 34
  · subst q34
    rw [if_pos rfl]
    exact D_tswI (off := 1227) hi (by decide) (by decide) (by decide)
  rw [if_neg q34]
  by_cases q35 : x = 35
  · subst q35
    rw [if_pos rfl]
    exact D_tswI (off := 1260) hi (by decide) (by decide) (by decide)
  rw [if_neg q35]
  by_cases q36 : x = 36
  · subst q36
    rw [if_pos rfl]
    exact D_tswI (off := 1283) hi (by decide) (by decide) (by decide)
  rw [if_neg q36]
  by_cases q37 : x = 37
  · subst q37
    rw [if_pos rfl]
    exact D_tswI (off := 1306) hi (by decide) (by decide) (by decide)
  rw [if_neg q37]
  by_cases q38 : x = 38
  · subst q38
    rw [if_pos rfl]
    exact D_tswI (off := 1319) hi (by decide) (by decide) (by decide)
  rw [if_neg q38]
  by_cases q39 : x = 39
  · subst q39
    rw [if_pos rfl]
    exact D_tswI (off := 1332) hi (by decide) (by decide) (by decide)
  rw [if_neg q39]
  have r0 : x.toInt ≠ 0 := fun z => q0 (Int32.toInt_inj.mp (z.trans (by decide)))
  have r1 : x.toInt ≠ 1 := fun z => q1 (Int32.toInt_inj.mp (z.trans (by decide)))
  have r2 : x.toInt ≠ 2 := fun z => q2 (Int32.toInt_inj.mp (z.trans (by decide)))
  have r3 : x.toInt ≠ 3 := fun z => q3 (Int32.toInt_inj.mp (z.trans (by decide)))
  have r4 : x.toInt ≠ 4 := fun z => q4 (Int32.toInt_inj.mp (z.trans (by decide)))
  have r5 : x.toInt ≠ 5 := fun z => q5 (Int32.toInt_inj.mp (z.trans (by decide)))
  have r6 : x.toInt ≠ 6 := fun z => q6 (Int32.toInt_inj.mp (z.trans (by decide)))
  have r7 : x.toInt ≠ 7 := fun z => q7 (Int32.toInt_inj.mp (z.trans (by decide)))
  have r8 : x.toInt ≠ 8 := fun z => q8 (Int32.toInt_inj.mp (z.trans (by decide)))
  have r9 : x.toInt ≠ 9 := fun z => q9 (Int32.toInt_inj.mp (z.trans (by decide)))
  have r10 : x.toInt ≠ 10 := fun z => q10 (Int32.toInt_inj.mp (z.trans (by decide)))
  have r11 : x.toInt ≠ 11 := fun z => q11 (Int32.toInt_inj.mp (z.trans (by decide)))
  have r12 : x.toInt ≠ 12 := fun z => q12 (Int32.toInt_inj.mp (z.trans (by decide)))
  have r13 : x.toInt ≠ 13 := fun z => q13 (Int32.toInt_inj.mp (z.trans (by decide)))
  have r14 : x.toInt ≠ 14 := fun z => q14 (Int32.toInt_inj.mp (z.trans (by decide)))
  have r15 : x.toInt ≠ 15 := fun z => q15 (Int32.toInt_inj.mp (z.trans (by decide)))
  have r16 : x.toInt ≠ 16 := fun z => q16 (Int32.toInt_inj.mp (z.trans (by decide)))
  have r17 : x.toInt ≠ 17 := fun z => q17 (Int32.toInt_inj.mp (z.trans (by decide)))
  have r18 : x.toInt ≠ 18 := fun z => q18 (Int32.toInt_inj.mp (z.trans (by decide)))
  have r19 : x.toInt ≠ 19 := fun z => q19 (Int32.toInt_inj.mp (z.trans (by decide)))
  have r20 : x.toInt ≠ 20 := fun z => q20 (Int32.toInt_inj.mp (z.trans (by decide)))
  have r21 : x.toInt ≠ 21 := fun z => q21 (Int32.toInt_inj.mp (z.trans (by decide)))
  have r22 : x.toInt ≠ 22 := fun z => q22 (Int32.toInt_inj.mp (z.trans (by decide)))
  have r23 : x.toInt ≠ 23 := fun z => q23 (Int32.toInt_inj.mp (z.trans (by decide)))
  have r24 : x.toInt ≠ 24 := fun z => q24 (Int32.toInt_inj.mp (z.trans (by decide)))
  have r25 : x.toInt ≠ 25 := fun z => q25 (Int32.toInt_inj.mp (z.trans (by decide)))
  have r26 : x.toInt ≠ 26 := fun z => q26 (Int32.toInt_inj.mp (z.trans (by decide)))
  have r27 : x.toInt ≠ 27 := fun z => q27 (Int32.toInt_inj.mp (z.trans (by decide)))
  have r28 : x.toInt ≠ 28 := fun z => q28 (Int32.toInt_inj.mp (z.trans (by decide)))
  have r29 : x.toInt ≠ 29 := fun z => q29 (Int32.toInt_inj.mp (z.trans (by decide)))
  have r30 : x.toInt ≠ 30 := fun z => q30 (Int32.toInt_inj.mp (z.trans (by decide)))
  have r31 : x.toInt ≠ 31 := fun z => q31 (Int32.toInt_inj.mp (z.trans (by decide)))
  have r32 : x.toInt ≠ 32 := fun z => q32 (Int32.toInt_inj.mp (z.trans (by decide)))
  have r33 : x.toInt ≠ 33 := fun z => q33 (Int32.toInt_inj.mp (z.trans (by decide)))
  have r34 : x.toInt ≠ 34 := fun z => q34 (Int32.toInt_inj.mp (z.trans (by decide)))
  have r35 : x.toInt ≠ 35 := fun z => q35 (Int32.toInt_inj.mp (z.trans (by decide)))
  have r36 : x.toInt ≠ 36 := fun z => q36 (Int32.toInt_inj.mp (z.trans (by decide)))
  have r37 : x.toInt ≠ 37 := fun z => q37 (Int32.toInt_inj.mp (z.trans (by decide)))
  have r38 : x.toInt ≠ 38 := fun z => q38 (Int32.toInt_inj.mp (z.trans (by decide)))
  have r39 : x.toInt ≠ 39 := fun z => q39 (Int32.toInt_inj.mp (z.trans (by decide)))
  exact D_tswO hi (by omega) (by decide)
theorem e_226_208 : Df d 226 208 [l0, .ref a, l2, l3] st h nx = Df d 226 209 [l0, .ref a, l2, l3] (.ref a :: st) h nx := D_aload_n (ins_of mc_226 (pc := 208) (x := (.aload_n 1, 1)) (by decide +kernel)) rfl
theorem e_226_209 : Df d 226 209 [.ref a, l1, l2, l3] st h nx = Df d 226 210 [.ref a, l1, l2, l3] (.ref a :: st) h nx := D_aload_n (ins_of mc_226 (pc := 209) (x := (.aload_n 0, 1)) (by decide +kernel)) rfl
theorem e_226_210 : Df d 226 210 [l0, l1, l2, .int x] st h nx = Df d 226 211 [l0, l1, l2, .int x] (.int x :: st) h nx := D_iload_n (ins_of mc_226 (pc := 210) (x := (.iload_n 3, 1)) (by decide +kernel)) rfl
theorem e_226_211 : Df d 226 211 [l0, l1, l2, l3] st h nx = Df d 226 212 [l0, l1, l2, l3] (.int 1 :: st) h nx := D_iconst (ins_of mc_226 (pc := 211) (x := (.iconst 1, 1)) (by decide +kernel)) (by decide)
theorem e_226_212 : Df d 226 212 [l0, l1, l2, l3] (.int y :: .int x :: st) h nx = Df d 226 213 [l0, l1, l2, l3] (.int (x + y) :: st) h nx := D_iadd (ins_of mc_226 (pc := 212) (x := (.iadd, 1)) (by decide +kernel))
theorem e_226_213 : Df d 226 213 [l0, l1, l2, l3] (.int x :: .ref a :: st) h nx = (rX h a x).bind fun v => Df d 226 214 [l0, l1, l2, l3] (.int v :: st) h nx := D_iaload (ins_of mc_226 (pc := 213) (x := (.iaload, 1)) (by decide +kernel))
theorem e_226_214 : Df d 226 214 [.ref a, l1, l2, l3] st h nx = Df d 226 215 [.ref a, l1, l2, l3] (.ref a :: st) h nx := D_aload_n (ins_of mc_226 (pc := 214) (x := (.aload_n 0, 1)) (by decide +kernel)) rfl
theorem e_226_215 : Df d 226 215 [l0, l1, l2, .int x] st h nx = Df d 226 216 [l0, l1, l2, .int x] (.int x :: st) h nx := D_iload_n (ins_of mc_226 (pc := 215) (x := (.iload_n 3, 1)) (by decide +kernel)) rfl
theorem e_226_216 : Df d 226 216 [l0, l1, l2, l3] st h nx = Df d 226 217 [l0, l1, l2, l3] (.int 2 :: st) h nx := D_iconst (ins_of mc_226 (pc := 216) (x := (.iconst 2, 1)) (by decide +kernel)) (by decide)
theorem e_226_217 : Df d 226 217 [l0, l1, l2, l3] (.int y :: .int x :: st) h nx = Df d 226 218 [l0, l1, l2, l3] (.int (x + y) :: st) h nx := D_iadd (ins_of mc_226 (pc := 217) (x := (.iadd, 1)) (by decide +kernel))
theorem e_226_218 : Df d 226 218 [l0, l1, l2, l3] (.int x :: .ref a :: st) h nx = (rX h a x).bind fun v => Df d 226 219 [l0, l1, l2, l3] (.int v :: st) h nx := D_iaload (ins_of mc_226 (pc := 218) (x := (.iaload, 1)) (by decide +kernel))
theorem e_226_219 : Df d 226 219 [.ref a, l1, l2, l3] st h nx = Df d 226 220 [.ref a, l1, l2, l3] (.ref a :: st) h nx := D_aload_n (ins_of mc_226 (pc := 219) (x := (.aload_n 0, 1)) (by decide +kernel)) rfl
theorem e_226_220 : Df d 226 220 [l0, l1, l2, .int x] st h nx = Df d 226 221 [l0, l1, l2, .int x] (.int x :: st) h nx := D_iload_n (ins_of mc_226 (pc := 220) (x := (.iload_n 3, 1)) (by decide +kernel)) rfl
theorem e_226_221 : Df d 226 221 [l0, l1, l2, l3] st h nx = Df d 226 222 [l0, l1, l2, l3] (.int 3 :: st) h nx := D_iconst (ins_of mc_226 (pc := 221) (x := (.iconst 3, 1)) (by decide +kernel)) (by decide)
theorem e_226_222 : Df d 226 222 [l0, l1, l2, l3] (.int y :: .int x :: st) h nx = Df d 226 223 [l0, l1, l2, l3] (.int (x + y) :: st) h nx := D_iadd (ins_of mc_226 (pc := 222) (x := (.iadd, 1)) (by decide +kernel))
theorem e_226_223 : Df d 226 223 [l0, l1, l2, l3] (.int x :: .ref a :: st) h nx = (rX h a x).bind fun v => Df d 226 224 [l0, l1, l2, l3] (.int v :: st) h nx := D_iaload (ins_of mc_226 (pc := 223) (x := (.iaload, 1)) (by decide +kernel))
theorem e_226_224 : Df d 226 224 [l0, l1, l2, l3] [v2, v1, v0, .ref a] h nx = if ck h a 8 = true then cn d 226 227 [l0, l1, l2, l3] [] (Dn d 72 [.ref a, v0, v1, v2] h nx) else none := D_virtual (k1 := 72) (ins_of mc_226 (pc := 224) (x := (.invokevirtual 13, 3)) (by decide +kernel)) mo_226 (by decide +kernel) (by decide) rfl rfl (by decide) rfl (Nat.le_of_ble_eq_true rfl) rfl
theorem e_226_227 : Df d 226 227 [l0, l1, .ref a, l3] st h nx = Df d 226 228 [l0, l1, .ref a, l3] (.ref a :: st) h nx := D_aload_n (ins_of mc_226 (pc := 227) (x := (.aload_n 2, 1)) (by decide +kernel)) rfl
theorem e_226_228 : Df d 226 228 [.ref a, l1, l2, l3] st h nx = Df d 226 229 [.ref a, l1, l2, l3] (.ref a :: st) h nx := D_aload_n (ins_of mc_226 (pc := 228) (x := (.aload_n 0, 1)) (by decide +kernel)) rfl
theorem e_226_229 : Df d 226 229 [l0, l1, l2, .int x] st h nx = Df d 226 230 [l0, l1, l2, .int x] (.int x :: st) h nx := D_iload_n (ins_of mc_226 (pc := 229) (x := (.iload_n 3, 1)) (by decide +kernel)) rfl
theorem e_226_230 : Df d 226 230 [l0, l1, l2, l3] st h nx = Df d 226 231 [l0, l1, l2, l3] (.int 1 :: st) h nx := D_iconst (ins_of mc_226 (pc := 230) (x := (.iconst 1, 1)) (by decide +kernel)) (by decide)
theorem e_226_231 : Df d 226 231 [l0, l1, l2, l3] (.int y :: .int x :: st) h nx = Df d 226 232 [l0, l1, l2, l3] (.int (x + y) :: st) h nx := D_iadd (ins_of mc_226 (pc := 231) (x := (.iadd, 1)) (by decide +kernel))
theorem e_226_232 : Df d 226 232 [l0, l1, l2, l3] (.int x :: .ref a :: st) h nx = (rX h a x).bind fun v => Df d 226 233 [l0, l1, l2, l3] (.int v :: st) h nx := D_iaload (ins_of mc_226 (pc := 232) (x := (.iaload, 1)) (by decide +kernel))
theorem e_226_233 : Df d 226 233 [.ref a, l1, l2, l3] st h nx = Df d 226 234 [.ref a, l1, l2, l3] (.ref a :: st) h nx := D_aload_n (ins_of mc_226 (pc := 233) (x := (.aload_n 0, 1)) (by decide +kernel)) rfl
theorem e_226_234 : Df d 226 234 [l0, l1, l2, .int x] st h nx = Df d 226 235 [l0, l1, l2, .int x] (.int x :: st) h nx := D_iload_n (ins_of mc_226 (pc := 234) (x := (.iload_n 3, 1)) (by decide +kernel)) rfl
theorem e_226_235 : Df d 226 235 [l0, l1, l2, l3] st h nx = Df d 226 236 [l0, l1, l2, l3] (.int 2 :: st) h nx := D_iconst (ins_of mc_226 (pc := 235) (x := (.iconst 2, 1)) (by decide +kernel)) (by decide)
theorem e_226_236 : Df d 226 236 [l0, l1, l2, l3] (.int y :: .int x :: st) h nx = Df d 226 237 [l0, l1, l2, l3] (.int (x + y) :: st) h nx := D_iadd (ins_of mc_226 (pc := 236) (x := (.iadd, 1)) (by decide +kernel))
theorem e_226_237 : Df d 226 237 [l0, l1, l2, l3] (.int x :: .ref a :: st) h nx = (rX h a x).bind fun v => Df d 226 238 [l0, l1, l2, l3] (.int v :: st) h nx := D_iaload (ins_of mc_226 (pc := 237) (x := (.iaload, 1)) (by decide +kernel))
theorem e_226_238 : Df d 226 238 [.ref a, l1, l2, l3] st h nx = Df d 226 239 [.ref a, l1, l2, l3] (.ref a :: st) h nx := D_aload_n (ins_of mc_226 (pc := 238) (x := (.aload_n 0, 1)) (by decide +kernel)) rfl
theorem e_226_239 : Df d 226 239 [l0, l1, l2, .int x] st h nx = Df d 226 240 [l0, l1, l2, .int x] (.int x :: st) h nx := D_iload_n (ins_of mc_226 (pc := 239) (x := (.iload_n 3, 1)) (by decide +kernel)) rfl
theorem e_226_240 : Df d 226 240 [l0, l1, l2, l3] st h nx = Df d 226 241 [l0, l1, l2, l3] (.int 3 :: st) h nx := D_iconst (ins_of mc_226 (pc := 240) (x := (.iconst 3, 1)) (by decide +kernel)) (by decide)
theorem e_226_241 : Df d 226 241 [l0, l1, l2, l3] (.int y :: .int x :: st) h nx = Df d 226 242 [l0, l1, l2, l3] (.int (x + y) :: st) h nx := D_iadd (ins_of mc_226 (pc := 241) (x := (.iadd, 1)) (by decide +kernel))
theorem e_226_242 : Df d 226 242 [l0, l1, l2, l3] (.int x :: .ref a :: st) h nx = (rX h a x).bind fun v => Df d 226 243 [l0, l1, l2, l3] (.int v :: st) h nx := D_iaload (ins_of mc_226 (pc := 242) (x := (.iaload, 1)) (by decide +kernel))
theorem e_226_243 : Df d 226 243 [l0, l1, l2, l3] [v2, v1, v0, .ref a, s0] h nx = if ck h a 9 = true then cn d 226 246 [l0, l1, l2, l3] [s0] (Dn d 122 [.ref a, v0, v1, v2] h nx) else none := D_virtual (k1 := 122) (ins_of mc_226 (pc := 243) (x := (.invokevirtual 17, 3)) (by decide +kernel)) mo_226 (by decide +kernel) (by decide) rfl rfl (by decide) rfl (Nat.le_of_ble_eq_true rfl) rfl
theorem e_226_246 : Df d 226 246 [l0, l1, l2, l3] (.int y :: .int x :: st) h nx = if x = y then Df d 226 1388 [l0, l1, l2, l3] st h nx else Df d 226 249 [l0, l1, l2, l3] st h nx := D_icmp_eq (ins_of mc_226 (pc := 246) (x := (.if_icmp .eq 1142, 3)) (by decide +kernel)) (by decide)
theorem e_226_249 : Df d 226 249 [l0, l1, l2, l3] st h nx = Df d 226 250 [l0, l1, l2, l3] (.int 0 :: st) h nx := D_iconst (ins_of mc_226 (pc := 249) (x := (.iconst 0, 1)) (by decide +kernel)) (by decide)
theorem e_226_250 : Df d 226 250 [l0, l1, l2, l3] [.int x] h nx = if nR .boolean x = true then some (some (.int x), h, nx) else none := D_zreturn (ins_of mc_226 (pc := 250) (x := (.ireturn, 1)) (by decide +kernel)) mr_226
theorem e_226_251 : Df d 226 251 [l0, .ref a, l2, l3] st h nx = Df d 226 252 [l0, .ref a, l2, l3] (.ref a :: st) h nx := D_aload_n (ins_of mc_226 (pc := 251) (x := (.aload_n 1, 1)) (by decide +kernel)) rfl
theorem e_226_252 : Df d 226 252 [.ref a, l1, l2, l3] st h nx = Df d 226 253 [.ref a, l1, l2, l3] (.ref a :: st) h nx := D_aload_n (ins_of mc_226 (pc := 252) (x := (.aload_n 0, 1)) (by decide +kernel)) rfl
theorem e_226_253 : Df d 226 253 [l0, l1, l2, .int x] st h nx = Df d 226 254 [l0, l1, l2, .int x] (.int x :: st) h nx := D_iload_n (ins_of mc_226 (pc := 253) (x := (.iload_n 3, 1)) (by decide +kernel)) rfl
theorem e_226_254 : Df d 226 254 [l0, l1, l2, l3] st h nx = Df d 226 255 [l0, l1, l2, l3] (.int 1 :: st) h nx := D_iconst (ins_of mc_226 (pc := 254) (x := (.iconst 1, 1)) (by decide +kernel)) (by decide)
theorem e_226_255 : Df d 226 255 [l0, l1, l2, l3] (.int y :: .int x :: st) h nx = Df d 226 256 [l0, l1, l2, l3] (.int (x + y) :: st) h nx := D_iadd (ins_of mc_226 (pc := 255) (x := (.iadd, 1)) (by decide +kernel))
theorem e_226_256 : Df d 226 256 [l0, l1, l2, l3] (.int x :: .ref a :: st) h nx = (rX h a x).bind fun v => Df d 226 257 [l0, l1, l2, l3] (.int v :: st) h nx := D_iaload (ins_of mc_226 (pc := 256) (x := (.iaload, 1)) (by decide +kernel))
theorem e_226_257 : Df d 226 257 [.ref a, l1, l2, l3] st h nx = Df d 226 258 [.ref a, l1, l2, l3] (.ref a :: st) h nx := D_aload_n (ins_of mc_226 (pc := 257) (x := (.aload_n 0, 1)) (by decide +kernel)) rfl
theorem e_226_258 : Df d 226 258 [l0, l1, l2, .int x] st h nx = Df d 226 259 [l0, l1, l2, .int x] (.int x :: st) h nx := D_iload_n (ins_of mc_226 (pc := 258) (x := (.iload_n 3, 1)) (by decide +kernel)) rfl
theorem e_226_259 : Df d 226 259 [l0, l1, l2, l3] st h nx = Df d 226 260 [l0, l1, l2, l3] (.int 2 :: st) h nx := D_iconst (ins_of mc_226 (pc := 259) (x := (.iconst 2, 1)) (by decide +kernel)) (by decide)
theorem e_226_260 : Df d 226 260 [l0, l1, l2, l3] (.int y :: .int x :: st) h nx = Df d 226 261 [l0, l1, l2, l3] (.int (x + y) :: st) h nx := D_iadd (ins_of mc_226 (pc := 260) (x := (.iadd, 1)) (by decide +kernel))
theorem e_226_261 : Df d 226 261 [l0, l1, l2, l3] (.int x :: .ref a :: st) h nx = (rX h a x).bind fun v => Df d 226 262 [l0, l1, l2, l3] (.int v :: st) h nx := D_iaload (ins_of mc_226 (pc := 261) (x := (.iaload, 1)) (by decide +kernel))
theorem e_226_262 : Df d 226 262 [l0, l1, l2, l3] [v1, v0, .ref a] h nx = if ck h a 8 = true then cn d 226 265 [l0, l1, l2, l3] [] (Dn d 75 [.ref a, v0, v1] h nx) else none := D_virtual (k1 := 75) (ins_of mc_226 (pc := 262) (x := (.invokevirtual 18, 3)) (by decide +kernel)) mo_226 (by decide +kernel) (by decide) rfl rfl (by decide) rfl (Nat.le_of_ble_eq_true rfl) rfl
theorem e_226_265 : Df d 226 265 [l0, l1, .ref a, l3] st h nx = Df d 226 266 [l0, l1, .ref a, l3] (.ref a :: st) h nx := D_aload_n (ins_of mc_226 (pc := 265) (x := (.aload_n 2, 1)) (by decide +kernel)) rfl
theorem e_226_266 : Df d 226 266 [.ref a, l1, l2, l3] st h nx = Df d 226 267 [.ref a, l1, l2, l3] (.ref a :: st) h nx := D_aload_n (ins_of mc_226 (pc := 266) (x := (.aload_n 0, 1)) (by decide +kernel)) rfl
theorem e_226_267 : Df d 226 267 [l0, l1, l2, .int x] st h nx = Df d 226 268 [l0, l1, l2, .int x] (.int x :: st) h nx := D_iload_n (ins_of mc_226 (pc := 267) (x := (.iload_n 3, 1)) (by decide +kernel)) rfl
theorem e_226_268 : Df d 226 268 [l0, l1, l2, l3] st h nx = Df d 226 269 [l0, l1, l2, l3] (.int 1 :: st) h nx := D_iconst (ins_of mc_226 (pc := 268) (x := (.iconst 1, 1)) (by decide +kernel)) (by decide)
theorem e_226_269 : Df d 226 269 [l0, l1, l2, l3] (.int y :: .int x :: st) h nx = Df d 226 270 [l0, l1, l2, l3] (.int (x + y) :: st) h nx := D_iadd (ins_of mc_226 (pc := 269) (x := (.iadd, 1)) (by decide +kernel))
theorem e_226_270 : Df d 226 270 [l0, l1, l2, l3] (.int x :: .ref a :: st) h nx = (rX h a x).bind fun v => Df d 226 271 [l0, l1, l2, l3] (.int v :: st) h nx := D_iaload (ins_of mc_226 (pc := 270) (x := (.iaload, 1)) (by decide +kernel))
theorem e_226_271 : Df d 226 271 [.ref a, l1, l2, l3] st h nx = Df d 226 272 [.ref a, l1, l2, l3] (.ref a :: st) h nx := D_aload_n (ins_of mc_226 (pc := 271) (x := (.aload_n 0, 1)) (by decide +kernel)) rfl
theorem e_226_272 : Df d 226 272 [l0, l1, l2, .int x] st h nx = Df d 226 273 [l0, l1, l2, .int x] (.int x :: st) h nx := D_iload_n (ins_of mc_226 (pc := 272) (x := (.iload_n 3, 1)) (by decide +kernel)) rfl
theorem e_226_273 : Df d 226 273 [l0, l1, l2, l3] st h nx = Df d 226 274 [l0, l1, l2, l3] (.int 2 :: st) h nx := D_iconst (ins_of mc_226 (pc := 273) (x := (.iconst 2, 1)) (by decide +kernel)) (by decide)
theorem e_226_274 : Df d 226 274 [l0, l1, l2, l3] (.int y :: .int x :: st) h nx = Df d 226 275 [l0, l1, l2, l3] (.int (x + y) :: st) h nx := D_iadd (ins_of mc_226 (pc := 274) (x := (.iadd, 1)) (by decide +kernel))
theorem e_226_275 : Df d 226 275 [l0, l1, l2, l3] (.int x :: .ref a :: st) h nx = (rX h a x).bind fun v => Df d 226 276 [l0, l1, l2, l3] (.int v :: st) h nx := D_iaload (ins_of mc_226 (pc := 275) (x := (.iaload, 1)) (by decide +kernel))
theorem e_226_276 : Df d 226 276 [l0, l1, l2, l3] [v1, v0, .ref a, s0] h nx = if ck h a 9 = true then cn d 226 279 [l0, l1, l2, l3] [s0] (Dn d 126 [.ref a, v0, v1] h nx) else none := D_virtual (k1 := 126) (ins_of mc_226 (pc := 276) (x := (.invokevirtual 22, 3)) (by decide +kernel)) mo_226 (by decide +kernel) (by decide) rfl rfl (by decide) rfl (Nat.le_of_ble_eq_true rfl) rfl
theorem e_226_279 : Df d 226 279 [l0, l1, l2, l3] (.int y :: .int x :: st) h nx = if x = y then Df d 226 1388 [l0, l1, l2, l3] st h nx else Df d 226 282 [l0, l1, l2, l3] st h nx := D_icmp_eq (ins_of mc_226 (pc := 279) (x := (.if_icmp .eq 1109, 3)) (by decide +kernel)) (by decide)
theorem e_226_282 : Df d 226 282 [l0, l1, l2, l3] st h nx = Df d 226 283 [l0, l1, l2, l3] (.int 0 :: st) h nx := D_iconst (ins_of mc_226 (pc := 282) (x := (.iconst 0, 1)) (by decide +kernel)) (by decide)
theorem e_226_283 : Df d 226 283 [l0, l1, l2, l3] [.int x] h nx = if nR .boolean x = true then some (some (.int x), h, nx) else none := D_zreturn (ins_of mc_226 (pc := 283) (x := (.ireturn, 1)) (by decide +kernel)) mr_226
theorem e_226_284 : Df d 226 284 [l0, .ref a, l2, l3] st h nx = Df d 226 285 [l0, .ref a, l2, l3] (.ref a :: st) h nx := D_aload_n (ins_of mc_226 (pc := 284) (x := (.aload_n 1, 1)) (by decide +kernel)) rfl
theorem e_226_285 : Df d 226 285 [.ref a, l1, l2, l3] st h nx = Df d 226 286 [.ref a, l1, l2, l3] (.ref a :: st) h nx := D_aload_n (ins_of mc_226 (pc := 285) (x := (.aload_n 0, 1)) (by decide +kernel)) rfl
theorem e_226_286 : Df d 226 286 [l0, l1, l2, .int x] st h nx = Df d 226 287 [l0, l1, l2, .int x] (.int x :: st) h nx := D_iload_n (ins_of mc_226 (pc := 286) (x := (.iload_n 3, 1)) (by decide +kernel)) rfl
theorem e_226_287 : Df d 226 287 [l0, l1, l2, l3] st h nx = Df d 226 288 [l0, l1, l2, l3] (.int 1 :: st) h nx := D_iconst (ins_of mc_226 (pc := 287) (x := (.iconst 1, 1)) (by decide +kernel)) (by decide)
theorem e_226_288 : Df d 226 288 [l0, l1, l2, l3] (.int y :: .int x :: st) h nx = Df d 226 289 [l0, l1, l2, l3] (.int (x + y) :: st) h nx := D_iadd (ins_of mc_226 (pc := 288) (x := (.iadd, 1)) (by decide +kernel))
theorem e_226_289 : Df d 226 289 [l0, l1, l2, l3] (.int x :: .ref a :: st) h nx = (rX h a x).bind fun v => Df d 226 290 [l0, l1, l2, l3] (.int v :: st) h nx := D_iaload (ins_of mc_226 (pc := 289) (x := (.iaload, 1)) (by decide +kernel))
theorem e_226_290 : Df d 226 290 [.ref a, l1, l2, l3] st h nx = Df d 226 291 [.ref a, l1, l2, l3] (.ref a :: st) h nx := D_aload_n (ins_of mc_226 (pc := 290) (x := (.aload_n 0, 1)) (by decide +kernel)) rfl
theorem e_226_291 : Df d 226 291 [l0, l1, l2, .int x] st h nx = Df d 226 292 [l0, l1, l2, .int x] (.int x :: st) h nx := D_iload_n (ins_of mc_226 (pc := 291) (x := (.iload_n 3, 1)) (by decide +kernel)) rfl
theorem e_226_292 : Df d 226 292 [l0, l1, l2, l3] st h nx = Df d 226 293 [l0, l1, l2, l3] (.int 2 :: st) h nx := D_iconst (ins_of mc_226 (pc := 292) (x := (.iconst 2, 1)) (by decide +kernel)) (by decide)
theorem e_226_293 : Df d 226 293 [l0, l1, l2, l3] (.int y :: .int x :: st) h nx = Df d 226 294 [l0, l1, l2, l3] (.int (x + y) :: st) h nx := D_iadd (ins_of mc_226 (pc := 293) (x := (.iadd, 1)) (by decide +kernel))
theorem e_226_294 : Df d 226 294 [l0, l1, l2, l3] (.int x :: .ref a :: st) h nx = (rX h a x).bind fun v => Df d 226 295 [l0, l1, l2, l3] (.int v :: st) h nx := D_iaload (ins_of mc_226 (pc := 294) (x := (.iaload, 1)) (by decide +kernel))
theorem e_226_295 : Df d 226 295 [l0, l1, l2, l3] [v1, v0, .ref a] h nx = if ck h a 8 = true then cn d 226 298 [l0, l1, l2, l3] [] (Dn d 77 [.ref a, v0, v1] h nx) else none := D_virtual (k1 := 77) (ins_of mc_226 (pc := 295) (x := (.invokevirtual 23, 3)) (by decide +kernel)) mo_226 (by decide +kernel) (by decide) rfl rfl (by decide) rfl (Nat.le_of_ble_eq_true rfl) rfl
theorem e_226_298 : Df d 226 298 [l0, l1, .ref a, l3] st h nx = Df d 226 299 [l0, l1, .ref a, l3] (.ref a :: st) h nx := D_aload_n (ins_of mc_226 (pc := 298) (x := (.aload_n 2, 1)) (by decide +kernel)) rfl
theorem e_226_299 : Df d 226 299 [.ref a, l1, l2, l3] st h nx = Df d 226 300 [.ref a, l1, l2, l3] (.ref a :: st) h nx := D_aload_n (ins_of mc_226 (pc := 299) (x := (.aload_n 0, 1)) (by decide +kernel)) rfl
theorem e_226_300 : Df d 226 300 [l0, l1, l2, .int x] st h nx = Df d 226 301 [l0, l1, l2, .int x] (.int x :: st) h nx := D_iload_n (ins_of mc_226 (pc := 300) (x := (.iload_n 3, 1)) (by decide +kernel)) rfl
theorem e_226_301 : Df d 226 301 [l0, l1, l2, l3] st h nx = Df d 226 302 [l0, l1, l2, l3] (.int 1 :: st) h nx := D_iconst (ins_of mc_226 (pc := 301) (x := (.iconst 1, 1)) (by decide +kernel)) (by decide)
theorem e_226_302 : Df d 226 302 [l0, l1, l2, l3] (.int y :: .int x :: st) h nx = Df d 226 303 [l0, l1, l2, l3] (.int (x + y) :: st) h nx := D_iadd (ins_of mc_226 (pc := 302) (x := (.iadd, 1)) (by decide +kernel))
theorem e_226_303 : Df d 226 303 [l0, l1, l2, l3] (.int x :: .ref a :: st) h nx = (rX h a x).bind fun v => Df d 226 304 [l0, l1, l2, l3] (.int v :: st) h nx := D_iaload (ins_of mc_226 (pc := 303) (x := (.iaload, 1)) (by decide +kernel))
theorem e_226_304 : Df d 226 304 [.ref a, l1, l2, l3] st h nx = Df d 226 305 [.ref a, l1, l2, l3] (.ref a :: st) h nx := D_aload_n (ins_of mc_226 (pc := 304) (x := (.aload_n 0, 1)) (by decide +kernel)) rfl
theorem e_226_305 : Df d 226 305 [l0, l1, l2, .int x] st h nx = Df d 226 306 [l0, l1, l2, .int x] (.int x :: st) h nx := D_iload_n (ins_of mc_226 (pc := 305) (x := (.iload_n 3, 1)) (by decide +kernel)) rfl
theorem e_226_306 : Df d 226 306 [l0, l1, l2, l3] st h nx = Df d 226 307 [l0, l1, l2, l3] (.int 2 :: st) h nx := D_iconst (ins_of mc_226 (pc := 306) (x := (.iconst 2, 1)) (by decide +kernel)) (by decide)
theorem e_226_307 : Df d 226 307 [l0, l1, l2, l3] (.int y :: .int x :: st) h nx = Df d 226 308 [l0, l1, l2, l3] (.int (x + y) :: st) h nx := D_iadd (ins_of mc_226 (pc := 307) (x := (.iadd, 1)) (by decide +kernel))
theorem e_226_308 : Df d 226 308 [l0, l1, l2, l3] (.int x :: .ref a :: st) h nx = (rX h a x).bind fun v => Df d 226 309 [l0, l1, l2, l3] (.int v :: st) h nx := D_iaload (ins_of mc_226 (pc := 308) (x := (.iaload, 1)) (by decide +kernel))
theorem e_226_309 : Df d 226 309 [l0, l1, l2, l3] [v1, v0, .ref a, s0] h nx = if ck h a 9 = true then cn d 226 312 [l0, l1, l2, l3] [s0] (Dn d 139 [.ref a, v0, v1] h nx) else none := D_virtual (k1 := 139) (ins_of mc_226 (pc := 309) (x := (.invokevirtual 26, 3)) (by decide +kernel)) mo_226 (by decide +kernel) (by decide) rfl rfl (by decide) rfl (Nat.le_of_ble_eq_true rfl) rfl
theorem e_226_312 : Df d 226 312 [l0, l1, l2, l3] (.int y :: .int x :: st) h nx = if x = y then Df d 226 1388 [l0, l1, l2, l3] st h nx else Df d 226 315 [l0, l1, l2, l3] st h nx := D_icmp_eq (ins_of mc_226 (pc := 312) (x := (.if_icmp .eq 1076, 3)) (by decide +kernel)) (by decide)
theorem e_226_315 : Df d 226 315 [l0, l1, l2, l3] st h nx = Df d 226 316 [l0, l1, l2, l3] (.int 0 :: st) h nx := D_iconst (ins_of mc_226 (pc := 315) (x := (.iconst 0, 1)) (by decide +kernel)) (by decide)
theorem e_226_316 : Df d 226 316 [l0, l1, l2, l3] [.int x] h nx = if nR .boolean x = true then some (some (.int x), h, nx) else none := D_zreturn (ins_of mc_226 (pc := 316) (x := (.ireturn, 1)) (by decide +kernel)) mr_226
theorem e_226_317 : Df d 226 317 [l0, .ref a, l2, l3] st h nx = Df d 226 318 [l0, .ref a, l2, l3] (.ref a :: st) h nx := D_aload_n (ins_of mc_226 (pc := 317) (x := (.aload_n 1, 1)) (by decide +kernel)) rfl
theorem e_226_318 : Df d 226 318 [.ref a, l1, l2, l3] st h nx = Df d 226 319 [.ref a, l1, l2, l3] (.ref a :: st) h nx := D_aload_n (ins_of mc_226 (pc := 318) (x := (.aload_n 0, 1)) (by decide +kernel)) rfl
theorem e_226_319 : Df d 226 319 [l0, l1, l2, .int x] st h nx = Df d 226 320 [l0, l1, l2, .int x] (.int x :: st) h nx := D_iload_n (ins_of mc_226 (pc := 319) (x := (.iload_n 3, 1)) (by decide +kernel)) rfl
theorem e_226_320 : Df d 226 320 [l0, l1, l2, l3] st h nx = Df d 226 321 [l0, l1, l2, l3] (.int 1 :: st) h nx := D_iconst (ins_of mc_226 (pc := 320) (x := (.iconst 1, 1)) (by decide +kernel)) (by decide)
theorem e_226_321 : Df d 226 321 [l0, l1, l2, l3] (.int y :: .int x :: st) h nx = Df d 226 322 [l0, l1, l2, l3] (.int (x + y) :: st) h nx := D_iadd (ins_of mc_226 (pc := 321) (x := (.iadd, 1)) (by decide +kernel))
theorem e_226_322 : Df d 226 322 [l0, l1, l2, l3] (.int x :: .ref a :: st) h nx = (rX h a x).bind fun v => Df d 226 323 [l0, l1, l2, l3] (.int v :: st) h nx := D_iaload (ins_of mc_226 (pc := 322) (x := (.iaload, 1)) (by decide +kernel))
theorem e_226_323 : Df d 226 323 [.ref a, l1, l2, l3] st h nx = Df d 226 324 [.ref a, l1, l2, l3] (.ref a :: st) h nx := D_aload_n (ins_of mc_226 (pc := 323) (x := (.aload_n 0, 1)) (by decide +kernel)) rfl
theorem e_226_324 : Df d 226 324 [l0, l1, l2, .int x] st h nx = Df d 226 325 [l0, l1, l2, .int x] (.int x :: st) h nx := D_iload_n (ins_of mc_226 (pc := 324) (x := (.iload_n 3, 1)) (by decide +kernel)) rfl
theorem e_226_325 : Df d 226 325 [l0, l1, l2, l3] st h nx = Df d 226 326 [l0, l1, l2, l3] (.int 2 :: st) h nx := D_iconst (ins_of mc_226 (pc := 325) (x := (.iconst 2, 1)) (by decide +kernel)) (by decide)
theorem e_226_326 : Df d 226 326 [l0, l1, l2, l3] (.int y :: .int x :: st) h nx = Df d 226 327 [l0, l1, l2, l3] (.int (x + y) :: st) h nx := D_iadd (ins_of mc_226 (pc := 326) (x := (.iadd, 1)) (by decide +kernel))
theorem e_226_327 : Df d 226 327 [l0, l1, l2, l3] (.int x :: .ref a :: st) h nx = (rX h a x).bind fun v => Df d 226 328 [l0, l1, l2, l3] (.int v :: st) h nx := D_iaload (ins_of mc_226 (pc := 327) (x := (.iaload, 1)) (by decide +kernel))
theorem e_226_328 : Df d 226 328 [l0, l1, l2, l3] [v1, v0, .ref a] h nx = if ck h a 8 = true then cn d 226 331 [l0, l1, l2, l3] [] (Dn d 78 [.ref a, v0, v1] h nx) else none := D_virtual (k1 := 78) (ins_of mc_226 (pc := 328) (x := (.invokevirtual 27, 3)) (by decide +kernel)) mo_226 (by decide +kernel) (by decide) rfl rfl (by decide) rfl (Nat.le_of_ble_eq_true rfl) rfl
theorem e_226_331 : Df d 226 331 [l0, l1, .ref a, l3] st h nx = Df d 226 332 [l0, l1, .ref a, l3] (.ref a :: st) h nx := D_aload_n (ins_of mc_226 (pc := 331) (x := (.aload_n 2, 1)) (by decide +kernel)) rfl
theorem e_226_332 : Df d 226 332 [.ref a, l1, l2, l3] st h nx = Df d 226 333 [.ref a, l1, l2, l3] (.ref a :: st) h nx := D_aload_n (ins_of mc_226 (pc := 332) (x := (.aload_n 0, 1)) (by decide +kernel)) rfl
theorem e_226_333 : Df d 226 333 [l0, l1, l2, .int x] st h nx = Df d 226 334 [l0, l1, l2, .int x] (.int x :: st) h nx := D_iload_n (ins_of mc_226 (pc := 333) (x := (.iload_n 3, 1)) (by decide +kernel)) rfl
theorem e_226_334 : Df d 226 334 [l0, l1, l2, l3] st h nx = Df d 226 335 [l0, l1, l2, l3] (.int 1 :: st) h nx := D_iconst (ins_of mc_226 (pc := 334) (x := (.iconst 1, 1)) (by decide +kernel)) (by decide)
theorem e_226_335 : Df d 226 335 [l0, l1, l2, l3] (.int y :: .int x :: st) h nx = Df d 226 336 [l0, l1, l2, l3] (.int (x + y) :: st) h nx := D_iadd (ins_of mc_226 (pc := 335) (x := (.iadd, 1)) (by decide +kernel))
theorem e_226_336 : Df d 226 336 [l0, l1, l2, l3] (.int x :: .ref a :: st) h nx = (rX h a x).bind fun v => Df d 226 337 [l0, l1, l2, l3] (.int v :: st) h nx := D_iaload (ins_of mc_226 (pc := 336) (x := (.iaload, 1)) (by decide +kernel))
theorem e_226_337 : Df d 226 337 [.ref a, l1, l2, l3] st h nx = Df d 226 338 [.ref a, l1, l2, l3] (.ref a :: st) h nx := D_aload_n (ins_of mc_226 (pc := 337) (x := (.aload_n 0, 1)) (by decide +kernel)) rfl
theorem e_226_338 : Df d 226 338 [l0, l1, l2, .int x] st h nx = Df d 226 339 [l0, l1, l2, .int x] (.int x :: st) h nx := D_iload_n (ins_of mc_226 (pc := 338) (x := (.iload_n 3, 1)) (by decide +kernel)) rfl
theorem e_226_339 : Df d 226 339 [l0, l1, l2, l3] st h nx = Df d 226 340 [l0, l1, l2, l3] (.int 2 :: st) h nx := D_iconst (ins_of mc_226 (pc := 339) (x := (.iconst 2, 1)) (by decide +kernel)) (by decide)
theorem e_226_340 : Df d 226 340 [l0, l1, l2, l3] (.int y :: .int x :: st) h nx = Df d 226 341 [l0, l1, l2, l3] (.int (x + y) :: st) h nx := D_iadd (ins_of mc_226 (pc := 340) (x := (.iadd, 1)) (by decide +kernel))
theorem e_226_341 : Df d 226 341 [l0, l1, l2, l3] (.int x :: .ref a :: st) h nx = (rX h a x).bind fun v => Df d 226 342 [l0, l1, l2, l3] (.int v :: st) h nx := D_iaload (ins_of mc_226 (pc := 341) (x := (.iaload, 1)) (by decide +kernel))
theorem e_226_342 : Df d 226 342 [l0, l1, l2, l3] [v1, v0, .ref a, s0] h nx = if ck h a 9 = true then cn d 226 345 [l0, l1, l2, l3] [s0] (Dn d 141 [.ref a, v0, v1] h nx) else none := D_virtual (k1 := 141) (ins_of mc_226 (pc := 342) (x := (.invokevirtual 30, 3)) (by decide +kernel)) mo_226 (by decide +kernel) (by decide) rfl rfl (by decide) rfl (Nat.le_of_ble_eq_true rfl) rfl
theorem e_226_345 : Df d 226 345 [l0, l1, l2, l3] (.int y :: .int x :: st) h nx = if x = y then Df d 226 1388 [l0, l1, l2, l3] st h nx else Df d 226 348 [l0, l1, l2, l3] st h nx := D_icmp_eq (ins_of mc_226 (pc := 345) (x := (.if_icmp .eq 1043, 3)) (by decide +kernel)) (by decide)
theorem e_226_348 : Df d 226 348 [l0, l1, l2, l3] st h nx = Df d 226 349 [l0, l1, l2, l3] (.int 0 :: st) h nx := D_iconst (ins_of mc_226 (pc := 348) (x := (.iconst 0, 1)) (by decide +kernel)) (by decide)
theorem e_226_349 : Df d 226 349 [l0, l1, l2, l3] [.int x] h nx = if nR .boolean x = true then some (some (.int x), h, nx) else none := D_zreturn (ins_of mc_226 (pc := 349) (x := (.ireturn, 1)) (by decide +kernel)) mr_226
theorem e_226_350 : Df d 226 350 [l0, .ref a, l2, l3] st h nx = Df d 226 351 [l0, .ref a, l2, l3] (.ref a :: st) h nx := D_aload_n (ins_of mc_226 (pc := 350) (x := (.aload_n 1, 1)) (by decide +kernel)) rfl
theorem e_226_351 : Df d 226 351 [.ref a, l1, l2, l3] st h nx = Df d 226 352 [.ref a, l1, l2, l3] (.ref a :: st) h nx := D_aload_n (ins_of mc_226 (pc := 351) (x := (.aload_n 0, 1)) (by decide +kernel)) rfl
theorem e_226_352 : Df d 226 352 [l0, l1, l2, .int x] st h nx = Df d 226 353 [l0, l1, l2, .int x] (.int x :: st) h nx := D_iload_n (ins_of mc_226 (pc := 352) (x := (.iload_n 3, 1)) (by decide +kernel)) rfl
theorem e_226_353 : Df d 226 353 [l0, l1, l2, l3] st h nx = Df d 226 354 [l0, l1, l2, l3] (.int 1 :: st) h nx := D_iconst (ins_of mc_226 (pc := 353) (x := (.iconst 1, 1)) (by decide +kernel)) (by decide)
theorem e_226_354 : Df d 226 354 [l0, l1, l2, l3] (.int y :: .int x :: st) h nx = Df d 226 355 [l0, l1, l2, l3] (.int (x + y) :: st) h nx := D_iadd (ins_of mc_226 (pc := 354) (x := (.iadd, 1)) (by decide +kernel))
theorem e_226_355 : Df d 226 355 [l0, l1, l2, l3] (.int x :: .ref a :: st) h nx = (rX h a x).bind fun v => Df d 226 356 [l0, l1, l2, l3] (.int v :: st) h nx := D_iaload (ins_of mc_226 (pc := 355) (x := (.iaload, 1)) (by decide +kernel))
theorem e_226_356 : Df d 226 356 [.ref a, l1, l2, l3] st h nx = Df d 226 357 [.ref a, l1, l2, l3] (.ref a :: st) h nx := D_aload_n (ins_of mc_226 (pc := 356) (x := (.aload_n 0, 1)) (by decide +kernel)) rfl
theorem e_226_357 : Df d 226 357 [l0, l1, l2, .int x] st h nx = Df d 226 358 [l0, l1, l2, .int x] (.int x :: st) h nx := D_iload_n (ins_of mc_226 (pc := 357) (x := (.iload_n 3, 1)) (by decide +kernel)) rfl
theorem e_226_358 : Df d 226 358 [l0, l1, l2, l3] st h nx = Df d 226 359 [l0, l1, l2, l3] (.int 2 :: st) h nx := D_iconst (ins_of mc_226 (pc := 358) (x := (.iconst 2, 1)) (by decide +kernel)) (by decide)
theorem e_226_359 : Df d 226 359 [l0, l1, l2, l3] (.int y :: .int x :: st) h nx = Df d 226 360 [l0, l1, l2, l3] (.int (x + y) :: st) h nx := D_iadd (ins_of mc_226 (pc := 359) (x := (.iadd, 1)) (by decide +kernel))
theorem e_226_360 : Df d 226 360 [l0, l1, l2, l3] (.int x :: .ref a :: st) h nx = (rX h a x).bind fun v => Df d 226 361 [l0, l1, l2, l3] (.int v :: st) h nx := D_iaload (ins_of mc_226 (pc := 360) (x := (.iaload, 1)) (by decide +kernel))
theorem e_226_361 : Df d 226 361 [.ref a, l1, l2, l3] st h nx = Df d 226 362 [.ref a, l1, l2, l3] (.ref a :: st) h nx := D_aload_n (ins_of mc_226 (pc := 361) (x := (.aload_n 0, 1)) (by decide +kernel)) rfl
theorem e_226_362 : Df d 226 362 [l0, l1, l2, .int x] st h nx = Df d 226 363 [l0, l1, l2, .int x] (.int x :: st) h nx := D_iload_n (ins_of mc_226 (pc := 362) (x := (.iload_n 3, 1)) (by decide +kernel)) rfl
theorem e_226_363 : Df d 226 363 [l0, l1, l2, l3] st h nx = Df d 226 364 [l0, l1, l2, l3] (.int 3 :: st) h nx := D_iconst (ins_of mc_226 (pc := 363) (x := (.iconst 3, 1)) (by decide +kernel)) (by decide)
theorem e_226_364 : Df d 226 364 [l0, l1, l2, l3] (.int y :: .int x :: st) h nx = Df d 226 365 [l0, l1, l2, l3] (.int (x + y) :: st) h nx := D_iadd (ins_of mc_226 (pc := 364) (x := (.iadd, 1)) (by decide +kernel))
theorem e_226_365 : Df d 226 365 [l0, l1, l2, l3] (.int x :: .ref a :: st) h nx = (rX h a x).bind fun v => Df d 226 366 [l0, l1, l2, l3] (.int v :: st) h nx := D_iaload (ins_of mc_226 (pc := 365) (x := (.iaload, 1)) (by decide +kernel))
theorem e_226_366 : Df d 226 366 [l0, l1, l2, l3] [v2, v1, v0, .ref a] h nx = if ck h a 8 = true then cn d 226 369 [l0, l1, l2, l3] [] (Dn d 79 [.ref a, v0, v1, v2] h nx) else none := D_virtual (k1 := 79) (ins_of mc_226 (pc := 366) (x := (.invokevirtual 31, 3)) (by decide +kernel)) mo_226 (by decide +kernel) (by decide) rfl rfl (by decide) rfl (Nat.le_of_ble_eq_true rfl) rfl
theorem e_226_369 : Df d 226 369 [l0, l1, .ref a, l3] st h nx = Df d 226 370 [l0, l1, .ref a, l3] (.ref a :: st) h nx := D_aload_n (ins_of mc_226 (pc := 369) (x := (.aload_n 2, 1)) (by decide +kernel)) rfl
theorem e_226_370 : Df d 226 370 [.ref a, l1, l2, l3] st h nx = Df d 226 371 [.ref a, l1, l2, l3] (.ref a :: st) h nx := D_aload_n (ins_of mc_226 (pc := 370) (x := (.aload_n 0, 1)) (by decide +kernel)) rfl
theorem e_226_371 : Df d 226 371 [l0, l1, l2, .int x] st h nx = Df d 226 372 [l0, l1, l2, .int x] (.int x :: st) h nx := D_iload_n (ins_of mc_226 (pc := 371) (x := (.iload_n 3, 1)) (by decide +kernel)) rfl
theorem e_226_372 : Df d 226 372 [l0, l1, l2, l3] st h nx = Df d 226 373 [l0, l1, l2, l3] (.int 1 :: st) h nx := D_iconst (ins_of mc_226 (pc := 372) (x := (.iconst 1, 1)) (by decide +kernel)) (by decide)
theorem e_226_373 : Df d 226 373 [l0, l1, l2, l3] (.int y :: .int x :: st) h nx = Df d 226 374 [l0, l1, l2, l3] (.int (x + y) :: st) h nx := D_iadd (ins_of mc_226 (pc := 373) (x := (.iadd, 1)) (by decide +kernel))
theorem e_226_374 : Df d 226 374 [l0, l1, l2, l3] (.int x :: .ref a :: st) h nx = (rX h a x).bind fun v => Df d 226 375 [l0, l1, l2, l3] (.int v :: st) h nx := D_iaload (ins_of mc_226 (pc := 374) (x := (.iaload, 1)) (by decide +kernel))
theorem e_226_375 : Df d 226 375 [.ref a, l1, l2, l3] st h nx = Df d 226 376 [.ref a, l1, l2, l3] (.ref a :: st) h nx := D_aload_n (ins_of mc_226 (pc := 375) (x := (.aload_n 0, 1)) (by decide +kernel)) rfl
theorem e_226_376 : Df d 226 376 [l0, l1, l2, .int x] st h nx = Df d 226 377 [l0, l1, l2, .int x] (.int x :: st) h nx := D_iload_n (ins_of mc_226 (pc := 376) (x := (.iload_n 3, 1)) (by decide +kernel)) rfl
theorem e_226_377 : Df d 226 377 [l0, l1, l2, l3] st h nx = Df d 226 378 [l0, l1, l2, l3] (.int 2 :: st) h nx := D_iconst (ins_of mc_226 (pc := 377) (x := (.iconst 2, 1)) (by decide +kernel)) (by decide)
theorem e_226_378 : Df d 226 378 [l0, l1, l2, l3] (.int y :: .int x :: st) h nx = Df d 226 379 [l0, l1, l2, l3] (.int (x + y) :: st) h nx := D_iadd (ins_of mc_226 (pc := 378) (x := (.iadd, 1)) (by decide +kernel))
theorem e_226_379 : Df d 226 379 [l0, l1, l2, l3] (.int x :: .ref a :: st) h nx = (rX h a x).bind fun v => Df d 226 380 [l0, l1, l2, l3] (.int v :: st) h nx := D_iaload (ins_of mc_226 (pc := 379) (x := (.iaload, 1)) (by decide +kernel))
theorem e_226_380 : Df d 226 380 [.ref a, l1, l2, l3] st h nx = Df d 226 381 [.ref a, l1, l2, l3] (.ref a :: st) h nx := D_aload_n (ins_of mc_226 (pc := 380) (x := (.aload_n 0, 1)) (by decide +kernel)) rfl
theorem e_226_381 : Df d 226 381 [l0, l1, l2, .int x] st h nx = Df d 226 382 [l0, l1, l2, .int x] (.int x :: st) h nx := D_iload_n (ins_of mc_226 (pc := 381) (x := (.iload_n 3, 1)) (by decide +kernel)) rfl
theorem e_226_382 : Df d 226 382 [l0, l1, l2, l3] st h nx = Df d 226 383 [l0, l1, l2, l3] (.int 3 :: st) h nx := D_iconst (ins_of mc_226 (pc := 382) (x := (.iconst 3, 1)) (by decide +kernel)) (by decide)
theorem e_226_383 : Df d 226 383 [l0, l1, l2, l3] (.int y :: .int x :: st) h nx = Df d 226 384 [l0, l1, l2, l3] (.int (x + y) :: st) h nx := D_iadd (ins_of mc_226 (pc := 383) (x := (.iadd, 1)) (by decide +kernel))
theorem e_226_384 : Df d 226 384 [l0, l1, l2, l3] (.int x :: .ref a :: st) h nx = (rX h a x).bind fun v => Df d 226 385 [l0, l1, l2, l3] (.int v :: st) h nx := D_iaload (ins_of mc_226 (pc := 384) (x := (.iaload, 1)) (by decide +kernel))
theorem e_226_385 : Df d 226 385 [l0, l1, l2, l3] [v2, v1, v0, .ref a, s0] h nx = if ck h a 9 = true then cn d 226 388 [l0, l1, l2, l3] [s0] (Dn d 143 [.ref a, v0, v1, v2] h nx) else none := D_virtual (k1 := 143) (ins_of mc_226 (pc := 385) (x := (.invokevirtual 34, 3)) (by decide +kernel)) mo_226 (by decide +kernel) (by decide) rfl rfl (by decide) rfl (Nat.le_of_ble_eq_true rfl) rfl
theorem e_226_388 : Df d 226 388 [l0, l1, l2, l3] (.int y :: .int x :: st) h nx = if x = y then Df d 226 1388 [l0, l1, l2, l3] st h nx else Df d 226 391 [l0, l1, l2, l3] st h nx := D_icmp_eq (ins_of mc_226 (pc := 388) (x := (.if_icmp .eq 1000, 3)) (by decide +kernel)) (by decide)
theorem e_226_391 : Df d 226 391 [l0, l1, l2, l3] st h nx = Df d 226 392 [l0, l1, l2, l3] (.int 0 :: st) h nx := D_iconst (ins_of mc_226 (pc := 391) (x := (.iconst 0, 1)) (by decide +kernel)) (by decide)
theorem e_226_392 : Df d 226 392 [l0, l1, l2, l3] [.int x] h nx = if nR .boolean x = true then some (some (.int x), h, nx) else none := D_zreturn (ins_of mc_226 (pc := 392) (x := (.ireturn, 1)) (by decide +kernel)) mr_226
theorem e_226_393 : Df d 226 393 [l0, .ref a, l2, l3] st h nx = Df d 226 394 [l0, .ref a, l2, l3] (.ref a :: st) h nx := D_aload_n (ins_of mc_226 (pc := 393) (x := (.aload_n 1, 1)) (by decide +kernel)) rfl
theorem e_226_394 : Df d 226 394 [.ref a, l1, l2, l3] st h nx = Df d 226 395 [.ref a, l1, l2, l3] (.ref a :: st) h nx := D_aload_n (ins_of mc_226 (pc := 394) (x := (.aload_n 0, 1)) (by decide +kernel)) rfl
theorem e_226_395 : Df d 226 395 [l0, l1, l2, .int x] st h nx = Df d 226 396 [l0, l1, l2, .int x] (.int x :: st) h nx := D_iload_n (ins_of mc_226 (pc := 395) (x := (.iload_n 3, 1)) (by decide +kernel)) rfl
theorem e_226_396 : Df d 226 396 [l0, l1, l2, l3] st h nx = Df d 226 397 [l0, l1, l2, l3] (.int 1 :: st) h nx := D_iconst (ins_of mc_226 (pc := 396) (x := (.iconst 1, 1)) (by decide +kernel)) (by decide)
theorem e_226_397 : Df d 226 397 [l0, l1, l2, l3] (.int y :: .int x :: st) h nx = Df d 226 398 [l0, l1, l2, l3] (.int (x + y) :: st) h nx := D_iadd (ins_of mc_226 (pc := 397) (x := (.iadd, 1)) (by decide +kernel))
theorem e_226_398 : Df d 226 398 [l0, l1, l2, l3] (.int x :: .ref a :: st) h nx = (rX h a x).bind fun v => Df d 226 399 [l0, l1, l2, l3] (.int v :: st) h nx := D_iaload (ins_of mc_226 (pc := 398) (x := (.iaload, 1)) (by decide +kernel))
theorem e_226_399 : Df d 226 399 [.ref a, l1, l2, l3] st h nx = Df d 226 400 [.ref a, l1, l2, l3] (.ref a :: st) h nx := D_aload_n (ins_of mc_226 (pc := 399) (x := (.aload_n 0, 1)) (by decide +kernel)) rfl
theorem e_226_400 : Df d 226 400 [l0, l1, l2, .int x] st h nx = Df d 226 401 [l0, l1, l2, .int x] (.int x :: st) h nx := D_iload_n (ins_of mc_226 (pc := 400) (x := (.iload_n 3, 1)) (by decide +kernel)) rfl
theorem e_226_401 : Df d 226 401 [l0, l1, l2, l3] st h nx = Df d 226 402 [l0, l1, l2, l3] (.int 2 :: st) h nx := D_iconst (ins_of mc_226 (pc := 401) (x := (.iconst 2, 1)) (by decide +kernel)) (by decide)
theorem e_226_402 : Df d 226 402 [l0, l1, l2, l3] (.int y :: .int x :: st) h nx = Df d 226 403 [l0, l1, l2, l3] (.int (x + y) :: st) h nx := D_iadd (ins_of mc_226 (pc := 402) (x := (.iadd, 1)) (by decide +kernel))
theorem e_226_403 : Df d 226 403 [l0, l1, l2, l3] (.int x :: .ref a :: st) h nx = (rX h a x).bind fun v => Df d 226 404 [l0, l1, l2, l3] (.int v :: st) h nx := D_iaload (ins_of mc_226 (pc := 403) (x := (.iaload, 1)) (by decide +kernel))
theorem e_226_404 : Df d 226 404 [l0, l1, l2, l3] [v1, v0, .ref a] h nx = if ck h a 8 = true then cn d 226 407 [l0, l1, l2, l3] [] (Dn d 80 [.ref a, v0, v1] h nx) else none := D_virtual (k1 := 80) (ins_of mc_226 (pc := 404) (x := (.invokevirtual 35, 3)) (by decide +kernel)) mo_226 (by decide +kernel) (by decide) rfl rfl (by decide) rfl (Nat.le_of_ble_eq_true rfl) rfl
theorem e_226_407 : Df d 226 407 [l0, l1, .ref a, l3] st h nx = Df d 226 408 [l0, l1, .ref a, l3] (.ref a :: st) h nx := D_aload_n (ins_of mc_226 (pc := 407) (x := (.aload_n 2, 1)) (by decide +kernel)) rfl
theorem e_226_408 : Df d 226 408 [.ref a, l1, l2, l3] st h nx = Df d 226 409 [.ref a, l1, l2, l3] (.ref a :: st) h nx := D_aload_n (ins_of mc_226 (pc := 408) (x := (.aload_n 0, 1)) (by decide +kernel)) rfl
theorem e_226_409 : Df d 226 409 [l0, l1, l2, .int x] st h nx = Df d 226 410 [l0, l1, l2, .int x] (.int x :: st) h nx := D_iload_n (ins_of mc_226 (pc := 409) (x := (.iload_n 3, 1)) (by decide +kernel)) rfl
theorem e_226_410 : Df d 226 410 [l0, l1, l2, l3] st h nx = Df d 226 411 [l0, l1, l2, l3] (.int 1 :: st) h nx := D_iconst (ins_of mc_226 (pc := 410) (x := (.iconst 1, 1)) (by decide +kernel)) (by decide)
theorem e_226_411 : Df d 226 411 [l0, l1, l2, l3] (.int y :: .int x :: st) h nx = Df d 226 412 [l0, l1, l2, l3] (.int (x + y) :: st) h nx := D_iadd (ins_of mc_226 (pc := 411) (x := (.iadd, 1)) (by decide +kernel))
theorem e_226_412 : Df d 226 412 [l0, l1, l2, l3] (.int x :: .ref a :: st) h nx = (rX h a x).bind fun v => Df d 226 413 [l0, l1, l2, l3] (.int v :: st) h nx := D_iaload (ins_of mc_226 (pc := 412) (x := (.iaload, 1)) (by decide +kernel))
theorem e_226_413 : Df d 226 413 [.ref a, l1, l2, l3] st h nx = Df d 226 414 [.ref a, l1, l2, l3] (.ref a :: st) h nx := D_aload_n (ins_of mc_226 (pc := 413) (x := (.aload_n 0, 1)) (by decide +kernel)) rfl
theorem e_226_414 : Df d 226 414 [l0, l1, l2, .int x] st h nx = Df d 226 415 [l0, l1, l2, .int x] (.int x :: st) h nx := D_iload_n (ins_of mc_226 (pc := 414) (x := (.iload_n 3, 1)) (by decide +kernel)) rfl
theorem e_226_415 : Df d 226 415 [l0, l1, l2, l3] st h nx = Df d 226 416 [l0, l1, l2, l3] (.int 2 :: st) h nx := D_iconst (ins_of mc_226 (pc := 415) (x := (.iconst 2, 1)) (by decide +kernel)) (by decide)
theorem e_226_416 : Df d 226 416 [l0, l1, l2, l3] (.int y :: .int x :: st) h nx = Df d 226 417 [l0, l1, l2, l3] (.int (x + y) :: st) h nx := D_iadd (ins_of mc_226 (pc := 416) (x := (.iadd, 1)) (by decide +kernel))
theorem e_226_417 : Df d 226 417 [l0, l1, l2, l3] (.int x :: .ref a :: st) h nx = (rX h a x).bind fun v => Df d 226 418 [l0, l1, l2, l3] (.int v :: st) h nx := D_iaload (ins_of mc_226 (pc := 417) (x := (.iaload, 1)) (by decide +kernel))
theorem e_226_418 : Df d 226 418 [l0, l1, l2, l3] [v1, v0, .ref a, s0] h nx = if ck h a 9 = true then cn d 226 421 [l0, l1, l2, l3] [s0] (Dn d 144 [.ref a, v0, v1] h nx) else none := D_virtual (k1 := 144) (ins_of mc_226 (pc := 418) (x := (.invokevirtual 38, 3)) (by decide +kernel)) mo_226 (by decide +kernel) (by decide) rfl rfl (by decide) rfl (Nat.le_of_ble_eq_true rfl) rfl
theorem e_226_421 : Df d 226 421 [l0, l1, l2, l3] (.int y :: .int x :: st) h nx = if x = y then Df d 226 1388 [l0, l1, l2, l3] st h nx else Df d 226 424 [l0, l1, l2, l3] st h nx := D_icmp_eq (ins_of mc_226 (pc := 421) (x := (.if_icmp .eq 967, 3)) (by decide +kernel)) (by decide)
theorem e_226_424 : Df d 226 424 [l0, l1, l2, l3] st h nx = Df d 226 425 [l0, l1, l2, l3] (.int 0 :: st) h nx := D_iconst (ins_of mc_226 (pc := 424) (x := (.iconst 0, 1)) (by decide +kernel)) (by decide)
theorem e_226_425 : Df d 226 425 [l0, l1, l2, l3] [.int x] h nx = if nR .boolean x = true then some (some (.int x), h, nx) else none := D_zreturn (ins_of mc_226 (pc := 425) (x := (.ireturn, 1)) (by decide +kernel)) mr_226
theorem e_226_426 : Df d 226 426 [l0, .ref a, l2, l3] st h nx = Df d 226 427 [l0, .ref a, l2, l3] (.ref a :: st) h nx := D_aload_n (ins_of mc_226 (pc := 426) (x := (.aload_n 1, 1)) (by decide +kernel)) rfl
theorem e_226_427 : Df d 226 427 [.ref a, l1, l2, l3] st h nx = Df d 226 428 [.ref a, l1, l2, l3] (.ref a :: st) h nx := D_aload_n (ins_of mc_226 (pc := 427) (x := (.aload_n 0, 1)) (by decide +kernel)) rfl
theorem e_226_428 : Df d 226 428 [l0, l1, l2, .int x] st h nx = Df d 226 429 [l0, l1, l2, .int x] (.int x :: st) h nx := D_iload_n (ins_of mc_226 (pc := 428) (x := (.iload_n 3, 1)) (by decide +kernel)) rfl
theorem e_226_429 : Df d 226 429 [l0, l1, l2, l3] st h nx = Df d 226 430 [l0, l1, l2, l3] (.int 1 :: st) h nx := D_iconst (ins_of mc_226 (pc := 429) (x := (.iconst 1, 1)) (by decide +kernel)) (by decide)
theorem e_226_430 : Df d 226 430 [l0, l1, l2, l3] (.int y :: .int x :: st) h nx = Df d 226 431 [l0, l1, l2, l3] (.int (x + y) :: st) h nx := D_iadd (ins_of mc_226 (pc := 430) (x := (.iadd, 1)) (by decide +kernel))
theorem e_226_431 : Df d 226 431 [l0, l1, l2, l3] (.int x :: .ref a :: st) h nx = (rX h a x).bind fun v => Df d 226 432 [l0, l1, l2, l3] (.int v :: st) h nx := D_iaload (ins_of mc_226 (pc := 431) (x := (.iaload, 1)) (by decide +kernel))
theorem e_226_432 : Df d 226 432 [.ref a, l1, l2, l3] st h nx = Df d 226 433 [.ref a, l1, l2, l3] (.ref a :: st) h nx := D_aload_n (ins_of mc_226 (pc := 432) (x := (.aload_n 0, 1)) (by decide +kernel)) rfl
theorem e_226_433 : Df d 226 433 [l0, l1, l2, .int x] st h nx = Df d 226 434 [l0, l1, l2, .int x] (.int x :: st) h nx := D_iload_n (ins_of mc_226 (pc := 433) (x := (.iload_n 3, 1)) (by decide +kernel)) rfl
theorem e_226_434 : Df d 226 434 [l0, l1, l2, l3] st h nx = Df d 226 435 [l0, l1, l2, l3] (.int 2 :: st) h nx := D_iconst (ins_of mc_226 (pc := 434) (x := (.iconst 2, 1)) (by decide +kernel)) (by decide)
theorem e_226_435 : Df d 226 435 [l0, l1, l2, l3] (.int y :: .int x :: st) h nx = Df d 226 436 [l0, l1, l2, l3] (.int (x + y) :: st) h nx := D_iadd (ins_of mc_226 (pc := 435) (x := (.iadd, 1)) (by decide +kernel))
theorem e_226_436 : Df d 226 436 [l0, l1, l2, l3] (.int x :: .ref a :: st) h nx = (rX h a x).bind fun v => Df d 226 437 [l0, l1, l2, l3] (.int v :: st) h nx := D_iaload (ins_of mc_226 (pc := 436) (x := (.iaload, 1)) (by decide +kernel))
theorem e_226_437 : Df d 226 437 [l0, l1, l2, l3] [v1, v0, .ref a] h nx = if ck h a 8 = true then cn d 226 440 [l0, l1, l2, l3] [] (Dn d 81 [.ref a, v0, v1] h nx) else none := D_virtual (k1 := 81) (ins_of mc_226 (pc := 437) (x := (.invokevirtual 39, 3)) (by decide +kernel)) mo_226 (by decide +kernel) (by decide) rfl rfl (by decide) rfl (Nat.le_of_ble_eq_true rfl) rfl
theorem e_226_440 : Df d 226 440 [l0, l1, .ref a, l3] st h nx = Df d 226 441 [l0, l1, .ref a, l3] (.ref a :: st) h nx := D_aload_n (ins_of mc_226 (pc := 440) (x := (.aload_n 2, 1)) (by decide +kernel)) rfl
theorem e_226_441 : Df d 226 441 [.ref a, l1, l2, l3] st h nx = Df d 226 442 [.ref a, l1, l2, l3] (.ref a :: st) h nx := D_aload_n (ins_of mc_226 (pc := 441) (x := (.aload_n 0, 1)) (by decide +kernel)) rfl
theorem e_226_442 : Df d 226 442 [l0, l1, l2, .int x] st h nx = Df d 226 443 [l0, l1, l2, .int x] (.int x :: st) h nx := D_iload_n (ins_of mc_226 (pc := 442) (x := (.iload_n 3, 1)) (by decide +kernel)) rfl
theorem e_226_443 : Df d 226 443 [l0, l1, l2, l3] st h nx = Df d 226 444 [l0, l1, l2, l3] (.int 1 :: st) h nx := D_iconst (ins_of mc_226 (pc := 443) (x := (.iconst 1, 1)) (by decide +kernel)) (by decide)
theorem e_226_444 : Df d 226 444 [l0, l1, l2, l3] (.int y :: .int x :: st) h nx = Df d 226 445 [l0, l1, l2, l3] (.int (x + y) :: st) h nx := D_iadd (ins_of mc_226 (pc := 444) (x := (.iadd, 1)) (by decide +kernel))
theorem e_226_445 : Df d 226 445 [l0, l1, l2, l3] (.int x :: .ref a :: st) h nx = (rX h a x).bind fun v => Df d 226 446 [l0, l1, l2, l3] (.int v :: st) h nx := D_iaload (ins_of mc_226 (pc := 445) (x := (.iaload, 1)) (by decide +kernel))
theorem e_226_446 : Df d 226 446 [.ref a, l1, l2, l3] st h nx = Df d 226 447 [.ref a, l1, l2, l3] (.ref a :: st) h nx := D_aload_n (ins_of mc_226 (pc := 446) (x := (.aload_n 0, 1)) (by decide +kernel)) rfl
theorem e_226_447 : Df d 226 447 [l0, l1, l2, .int x] st h nx = Df d 226 448 [l0, l1, l2, .int x] (.int x :: st) h nx := D_iload_n (ins_of mc_226 (pc := 447) (x := (.iload_n 3, 1)) (by decide +kernel)) rfl
theorem e_226_448 : Df d 226 448 [l0, l1, l2, l3] st h nx = Df d 226 449 [l0, l1, l2, l3] (.int 2 :: st) h nx := D_iconst (ins_of mc_226 (pc := 448) (x := (.iconst 2, 1)) (by decide +kernel)) (by decide)
theorem e_226_449 : Df d 226 449 [l0, l1, l2, l3] (.int y :: .int x :: st) h nx = Df d 226 450 [l0, l1, l2, l3] (.int (x + y) :: st) h nx := D_iadd (ins_of mc_226 (pc := 449) (x := (.iadd, 1)) (by decide +kernel))
theorem e_226_450 : Df d 226 450 [l0, l1, l2, l3] (.int x :: .ref a :: st) h nx = (rX h a x).bind fun v => Df d 226 451 [l0, l1, l2, l3] (.int v :: st) h nx := D_iaload (ins_of mc_226 (pc := 450) (x := (.iaload, 1)) (by decide +kernel))
theorem e_226_451 : Df d 226 451 [l0, l1, l2, l3] [v1, v0, .ref a, s0] h nx = if ck h a 9 = true then cn d 226 454 [l0, l1, l2, l3] [s0] (Dn d 146 [.ref a, v0, v1] h nx) else none := D_virtual (k1 := 146) (ins_of mc_226 (pc := 451) (x := (.invokevirtual 42, 3)) (by decide +kernel)) mo_226 (by decide +kernel) (by decide) rfl rfl (by decide) rfl (Nat.le_of_ble_eq_true rfl) rfl
theorem e_226_454 : Df d 226 454 [l0, l1, l2, l3] (.int y :: .int x :: st) h nx = if x = y then Df d 226 1388 [l0, l1, l2, l3] st h nx else Df d 226 457 [l0, l1, l2, l3] st h nx := D_icmp_eq (ins_of mc_226 (pc := 454) (x := (.if_icmp .eq 934, 3)) (by decide +kernel)) (by decide)
theorem e_226_457 : Df d 226 457 [l0, l1, l2, l3] st h nx = Df d 226 458 [l0, l1, l2, l3] (.int 0 :: st) h nx := D_iconst (ins_of mc_226 (pc := 457) (x := (.iconst 0, 1)) (by decide +kernel)) (by decide)
theorem e_226_458 : Df d 226 458 [l0, l1, l2, l3] [.int x] h nx = if nR .boolean x = true then some (some (.int x), h, nx) else none := D_zreturn (ins_of mc_226 (pc := 458) (x := (.ireturn, 1)) (by decide +kernel)) mr_226
theorem e_226_459 : Df d 226 459 [l0, .ref a, l2, l3] st h nx = Df d 226 460 [l0, .ref a, l2, l3] (.ref a :: st) h nx := D_aload_n (ins_of mc_226 (pc := 459) (x := (.aload_n 1, 1)) (by decide +kernel)) rfl
theorem e_226_460 : Df d 226 460 [.ref a, l1, l2, l3] st h nx = Df d 226 461 [.ref a, l1, l2, l3] (.ref a :: st) h nx := D_aload_n (ins_of mc_226 (pc := 460) (x := (.aload_n 0, 1)) (by decide +kernel)) rfl
theorem e_226_461 : Df d 226 461 [l0, l1, l2, .int x] st h nx = Df d 226 462 [l0, l1, l2, .int x] (.int x :: st) h nx := D_iload_n (ins_of mc_226 (pc := 461) (x := (.iload_n 3, 1)) (by decide +kernel)) rfl
theorem e_226_462 : Df d 226 462 [l0, l1, l2, l3] st h nx = Df d 226 463 [l0, l1, l2, l3] (.int 1 :: st) h nx := D_iconst (ins_of mc_226 (pc := 462) (x := (.iconst 1, 1)) (by decide +kernel)) (by decide)
theorem e_226_463 : Df d 226 463 [l0, l1, l2, l3] (.int y :: .int x :: st) h nx = Df d 226 464 [l0, l1, l2, l3] (.int (x + y) :: st) h nx := D_iadd (ins_of mc_226 (pc := 463) (x := (.iadd, 1)) (by decide +kernel))
theorem e_226_464 : Df d 226 464 [l0, l1, l2, l3] (.int x :: .ref a :: st) h nx = (rX h a x).bind fun v => Df d 226 465 [l0, l1, l2, l3] (.int v :: st) h nx := D_iaload (ins_of mc_226 (pc := 464) (x := (.iaload, 1)) (by decide +kernel))
theorem e_226_465 : Df d 226 465 [l0, l1, l2, l3] [v0, .ref a] h nx = if ck h a 8 = true then cn d 226 468 [l0, l1, l2, l3] [] (Dn d 82 [.ref a, v0] h nx) else none := D_virtual (k1 := 82) (ins_of mc_226 (pc := 465) (x := (.invokevirtual 43, 3)) (by decide +kernel)) mo_226 (by decide +kernel) (by decide) rfl rfl (by decide) rfl (Nat.le_of_ble_eq_true rfl) rfl
theorem e_226_468 : Df d 226 468 [l0, l1, .ref a, l3] st h nx = Df d 226 469 [l0, l1, .ref a, l3] (.ref a :: st) h nx := D_aload_n (ins_of mc_226 (pc := 468) (x := (.aload_n 2, 1)) (by decide +kernel)) rfl
theorem e_226_469 : Df d 226 469 [.ref a, l1, l2, l3] st h nx = Df d 226 470 [.ref a, l1, l2, l3] (.ref a :: st) h nx := D_aload_n (ins_of mc_226 (pc := 469) (x := (.aload_n 0, 1)) (by decide +kernel)) rfl
theorem e_226_470 : Df d 226 470 [l0, l1, l2, .int x] st h nx = Df d 226 471 [l0, l1, l2, .int x] (.int x :: st) h nx := D_iload_n (ins_of mc_226 (pc := 470) (x := (.iload_n 3, 1)) (by decide +kernel)) rfl
theorem e_226_471 : Df d 226 471 [l0, l1, l2, l3] st h nx = Df d 226 472 [l0, l1, l2, l3] (.int 1 :: st) h nx := D_iconst (ins_of mc_226 (pc := 471) (x := (.iconst 1, 1)) (by decide +kernel)) (by decide)
theorem e_226_472 : Df d 226 472 [l0, l1, l2, l3] (.int y :: .int x :: st) h nx = Df d 226 473 [l0, l1, l2, l3] (.int (x + y) :: st) h nx := D_iadd (ins_of mc_226 (pc := 472) (x := (.iadd, 1)) (by decide +kernel))
theorem e_226_473 : Df d 226 473 [l0, l1, l2, l3] (.int x :: .ref a :: st) h nx = (rX h a x).bind fun v => Df d 226 474 [l0, l1, l2, l3] (.int v :: st) h nx := D_iaload (ins_of mc_226 (pc := 473) (x := (.iaload, 1)) (by decide +kernel))
theorem e_226_474 : Df d 226 474 [l0, l1, l2, l3] [v0, .ref a, s0] h nx = if ck h a 9 = true then cn d 226 477 [l0, l1, l2, l3] [s0] (Dn d 147 [.ref a, v0] h nx) else none := D_virtual (k1 := 147) (ins_of mc_226 (pc := 474) (x := (.invokevirtual 47, 3)) (by decide +kernel)) mo_226 (by decide +kernel) (by decide) rfl rfl (by decide) rfl (Nat.le_of_ble_eq_true rfl) rfl
theorem e_226_477 : Df d 226 477 [l0, l1, l2, l3] (.int y :: .int x :: st) h nx = if x = y then Df d 226 1388 [l0, l1, l2, l3] st h nx else Df d 226 480 [l0, l1, l2, l3] st h nx := D_icmp_eq (ins_of mc_226 (pc := 477) (x := (.if_icmp .eq 911, 3)) (by decide +kernel)) (by decide)
theorem e_226_480 : Df d 226 480 [l0, l1, l2, l3] st h nx = Df d 226 481 [l0, l1, l2, l3] (.int 0 :: st) h nx := D_iconst (ins_of mc_226 (pc := 480) (x := (.iconst 0, 1)) (by decide +kernel)) (by decide)
theorem e_226_481 : Df d 226 481 [l0, l1, l2, l3] [.int x] h nx = if nR .boolean x = true then some (some (.int x), h, nx) else none := D_zreturn (ins_of mc_226 (pc := 481) (x := (.ireturn, 1)) (by decide +kernel)) mr_226
theorem e_226_482 : Df d 226 482 [l0, .ref a, l2, l3] st h nx = Df d 226 483 [l0, .ref a, l2, l3] (.ref a :: st) h nx := D_aload_n (ins_of mc_226 (pc := 482) (x := (.aload_n 1, 1)) (by decide +kernel)) rfl
theorem e_226_483 : Df d 226 483 [.ref a, l1, l2, l3] st h nx = Df d 226 484 [.ref a, l1, l2, l3] (.ref a :: st) h nx := D_aload_n (ins_of mc_226 (pc := 483) (x := (.aload_n 0, 1)) (by decide +kernel)) rfl
theorem e_226_484 : Df d 226 484 [l0, l1, l2, .int x] st h nx = Df d 226 485 [l0, l1, l2, .int x] (.int x :: st) h nx := D_iload_n (ins_of mc_226 (pc := 484) (x := (.iload_n 3, 1)) (by decide +kernel)) rfl
theorem e_226_485 : Df d 226 485 [l0, l1, l2, l3] st h nx = Df d 226 486 [l0, l1, l2, l3] (.int 1 :: st) h nx := D_iconst (ins_of mc_226 (pc := 485) (x := (.iconst 1, 1)) (by decide +kernel)) (by decide)
theorem e_226_486 : Df d 226 486 [l0, l1, l2, l3] (.int y :: .int x :: st) h nx = Df d 226 487 [l0, l1, l2, l3] (.int (x + y) :: st) h nx := D_iadd (ins_of mc_226 (pc := 486) (x := (.iadd, 1)) (by decide +kernel))
theorem e_226_487 : Df d 226 487 [l0, l1, l2, l3] (.int x :: .ref a :: st) h nx = (rX h a x).bind fun v => Df d 226 488 [l0, l1, l2, l3] (.int v :: st) h nx := D_iaload (ins_of mc_226 (pc := 487) (x := (.iaload, 1)) (by decide +kernel))
theorem e_226_488 : Df d 226 488 [l0, l1, l2, l3] [v0, .ref a] h nx = if ck h a 8 = true then cn d 226 491 [l0, l1, l2, l3] [] (Dn d 83 [.ref a, v0] h nx) else none := D_virtual (k1 := 83) (ins_of mc_226 (pc := 488) (x := (.invokevirtual 48, 3)) (by decide +kernel)) mo_226 (by decide +kernel) (by decide) rfl rfl (by decide) rfl (Nat.le_of_ble_eq_true rfl) rfl
theorem e_226_491 : Df d 226 491 [l0, l1, .ref a, l3] st h nx = Df d 226 492 [l0, l1, .ref a, l3] (.ref a :: st) h nx := D_aload_n (ins_of mc_226 (pc := 491) (x := (.aload_n 2, 1)) (by decide +kernel)) rfl
theorem e_226_492 : Df d 226 492 [.ref a, l1, l2, l3] st h nx = Df d 226 493 [.ref a, l1, l2, l3] (.ref a :: st) h nx := D_aload_n (ins_of mc_226 (pc := 492) (x := (.aload_n 0, 1)) (by decide +kernel)) rfl
theorem e_226_493 : Df d 226 493 [l0, l1, l2, .int x] st h nx = Df d 226 494 [l0, l1, l2, .int x] (.int x :: st) h nx := D_iload_n (ins_of mc_226 (pc := 493) (x := (.iload_n 3, 1)) (by decide +kernel)) rfl
theorem e_226_494 : Df d 226 494 [l0, l1, l2, l3] st h nx = Df d 226 495 [l0, l1, l2, l3] (.int 1 :: st) h nx := D_iconst (ins_of mc_226 (pc := 494) (x := (.iconst 1, 1)) (by decide +kernel)) (by decide)
theorem e_226_495 : Df d 226 495 [l0, l1, l2, l3] (.int y :: .int x :: st) h nx = Df d 226 496 [l0, l1, l2, l3] (.int (x + y) :: st) h nx := D_iadd (ins_of mc_226 (pc := 495) (x := (.iadd, 1)) (by decide +kernel))
theorem e_226_496 : Df d 226 496 [l0, l1, l2, l3] (.int x :: .ref a :: st) h nx = (rX h a x).bind fun v => Df d 226 497 [l0, l1, l2, l3] (.int v :: st) h nx := D_iaload (ins_of mc_226 (pc := 496) (x := (.iaload, 1)) (by decide +kernel))
theorem e_226_497 : Df d 226 497 [l0, l1, l2, l3] [v0, .ref a, s0] h nx = if ck h a 9 = true then cn d 226 500 [l0, l1, l2, l3] [s0] (Dn d 149 [.ref a, v0] h nx) else none := D_virtual (k1 := 149) (ins_of mc_226 (pc := 497) (x := (.invokevirtual 51, 3)) (by decide +kernel)) mo_226 (by decide +kernel) (by decide) rfl rfl (by decide) rfl (Nat.le_of_ble_eq_true rfl) rfl
theorem e_226_500 : Df d 226 500 [l0, l1, l2, l3] (.int y :: .int x :: st) h nx = if x = y then Df d 226 1388 [l0, l1, l2, l3] st h nx else Df d 226 503 [l0, l1, l2, l3] st h nx := D_icmp_eq (ins_of mc_226 (pc := 500) (x := (.if_icmp .eq 888, 3)) (by decide +kernel)) (by decide)
theorem e_226_503 : Df d 226 503 [l0, l1, l2, l3] st h nx = Df d 226 504 [l0, l1, l2, l3] (.int 0 :: st) h nx := D_iconst (ins_of mc_226 (pc := 503) (x := (.iconst 0, 1)) (by decide +kernel)) (by decide)
theorem e_226_504 : Df d 226 504 [l0, l1, l2, l3] [.int x] h nx = if nR .boolean x = true then some (some (.int x), h, nx) else none := D_zreturn (ins_of mc_226 (pc := 504) (x := (.ireturn, 1)) (by decide +kernel)) mr_226
theorem e_226_505 : Df d 226 505 [l0, .ref a, l2, l3] st h nx = Df d 226 506 [l0, .ref a, l2, l3] (.ref a :: st) h nx := D_aload_n (ins_of mc_226 (pc := 505) (x := (.aload_n 1, 1)) (by decide +kernel)) rfl
theorem e_226_506 : Df d 226 506 [.ref a, l1, l2, l3] st h nx = Df d 226 507 [.ref a, l1, l2, l3] (.ref a :: st) h nx := D_aload_n (ins_of mc_226 (pc := 506) (x := (.aload_n 0, 1)) (by decide +kernel)) rfl
theorem e_226_507 : Df d 226 507 [l0, l1, l2, .int x] st h nx = Df d 226 508 [l0, l1, l2, .int x] (.int x :: st) h nx := D_iload_n (ins_of mc_226 (pc := 507) (x := (.iload_n 3, 1)) (by decide +kernel)) rfl
theorem e_226_508 : Df d 226 508 [l0, l1, l2, l3] st h nx = Df d 226 509 [l0, l1, l2, l3] (.int 1 :: st) h nx := D_iconst (ins_of mc_226 (pc := 508) (x := (.iconst 1, 1)) (by decide +kernel)) (by decide)
theorem e_226_509 : Df d 226 509 [l0, l1, l2, l3] (.int y :: .int x :: st) h nx = Df d 226 510 [l0, l1, l2, l3] (.int (x + y) :: st) h nx := D_iadd (ins_of mc_226 (pc := 509) (x := (.iadd, 1)) (by decide +kernel))
theorem e_226_510 : Df d 226 510 [l0, l1, l2, l3] (.int x :: .ref a :: st) h nx = (rX h a x).bind fun v => Df d 226 511 [l0, l1, l2, l3] (.int v :: st) h nx := D_iaload (ins_of mc_226 (pc := 510) (x := (.iaload, 1)) (by decide +kernel))
theorem e_226_511 : Df d 226 511 [l0, l1, l2, l3] [v0, .ref a] h nx = if ck h a 8 = true then cn d 226 514 [l0, l1, l2, l3] [] (Dn d 84 [.ref a, v0] h nx) else none := D_virtual (k1 := 84) (ins_of mc_226 (pc := 511) (x := (.invokevirtual 52, 3)) (by decide +kernel)) mo_226 (by decide +kernel) (by decide) rfl rfl (by decide) rfl (Nat.le_of_ble_eq_true rfl) rfl
theorem e_226_514 : Df d 226 514 [l0, l1, .ref a, l3] st h nx = Df d 226 515 [l0, l1, .ref a, l3] (.ref a :: st) h nx := D_aload_n (ins_of mc_226 (pc := 514) (x := (.aload_n 2, 1)) (by decide +kernel)) rfl
theorem e_226_515 : Df d 226 515 [.ref a, l1, l2, l3] st h nx = Df d 226 516 [.ref a, l1, l2, l3] (.ref a :: st) h nx := D_aload_n (ins_of mc_226 (pc := 515) (x := (.aload_n 0, 1)) (by decide +kernel)) rfl
theorem e_226_516 : Df d 226 516 [l0, l1, l2, .int x] st h nx = Df d 226 517 [l0, l1, l2, .int x] (.int x :: st) h nx := D_iload_n (ins_of mc_226 (pc := 516) (x := (.iload_n 3, 1)) (by decide +kernel)) rfl
theorem e_226_517 : Df d 226 517 [l0, l1, l2, l3] st h nx = Df d 226 518 [l0, l1, l2, l3] (.int 1 :: st) h nx := D_iconst (ins_of mc_226 (pc := 517) (x := (.iconst 1, 1)) (by decide +kernel)) (by decide)
theorem e_226_518 : Df d 226 518 [l0, l1, l2, l3] (.int y :: .int x :: st) h nx = Df d 226 519 [l0, l1, l2, l3] (.int (x + y) :: st) h nx := D_iadd (ins_of mc_226 (pc := 518) (x := (.iadd, 1)) (by decide +kernel))
theorem e_226_519 : Df d 226 519 [l0, l1, l2, l3] (.int x :: .ref a :: st) h nx = (rX h a x).bind fun v => Df d 226 520 [l0, l1, l2, l3] (.int v :: st) h nx := D_iaload (ins_of mc_226 (pc := 519) (x := (.iaload, 1)) (by decide +kernel))
theorem e_226_520 : Df d 226 520 [l0, l1, l2, l3] [v0, .ref a, s0] h nx = if ck h a 9 = true then cn d 226 523 [l0, l1, l2, l3] [s0] (Dn d 150 [.ref a, v0] h nx) else none := D_virtual (k1 := 150) (ins_of mc_226 (pc := 520) (x := (.invokevirtual 55, 3)) (by decide +kernel)) mo_226 (by decide +kernel) (by decide) rfl rfl (by decide) rfl (Nat.le_of_ble_eq_true rfl) rfl
theorem e_226_523 : Df d 226 523 [l0, l1, l2, l3] (.int y :: .int x :: st) h nx = if x = y then Df d 226 1388 [l0, l1, l2, l3] st h nx else Df d 226 526 [l0, l1, l2, l3] st h nx := D_icmp_eq (ins_of mc_226 (pc := 523) (x := (.if_icmp .eq 865, 3)) (by decide +kernel)) (by decide)
theorem e_226_526 : Df d 226 526 [l0, l1, l2, l3] st h nx = Df d 226 527 [l0, l1, l2, l3] (.int 0 :: st) h nx := D_iconst (ins_of mc_226 (pc := 526) (x := (.iconst 0, 1)) (by decide +kernel)) (by decide)
theorem e_226_527 : Df d 226 527 [l0, l1, l2, l3] [.int x] h nx = if nR .boolean x = true then some (some (.int x), h, nx) else none := D_zreturn (ins_of mc_226 (pc := 527) (x := (.ireturn, 1)) (by decide +kernel)) mr_226
theorem e_226_528 : Df d 226 528 [l0, .ref a, l2, l3] st h nx = Df d 226 529 [l0, .ref a, l2, l3] (.ref a :: st) h nx := D_aload_n (ins_of mc_226 (pc := 528) (x := (.aload_n 1, 1)) (by decide +kernel)) rfl
theorem e_226_529 : Df d 226 529 [.ref a, l1, l2, l3] st h nx = Df d 226 530 [.ref a, l1, l2, l3] (.ref a :: st) h nx := D_aload_n (ins_of mc_226 (pc := 529) (x := (.aload_n 0, 1)) (by decide +kernel)) rfl
theorem e_226_530 : Df d 226 530 [l0, l1, l2, .int x] st h nx = Df d 226 531 [l0, l1, l2, .int x] (.int x :: st) h nx := D_iload_n (ins_of mc_226 (pc := 530) (x := (.iload_n 3, 1)) (by decide +kernel)) rfl
theorem e_226_531 : Df d 226 531 [l0, l1, l2, l3] st h nx = Df d 226 532 [l0, l1, l2, l3] (.int 1 :: st) h nx := D_iconst (ins_of mc_226 (pc := 531) (x := (.iconst 1, 1)) (by decide +kernel)) (by decide)
theorem e_226_532 : Df d 226 532 [l0, l1, l2, l3] (.int y :: .int x :: st) h nx = Df d 226 533 [l0, l1, l2, l3] (.int (x + y) :: st) h nx := D_iadd (ins_of mc_226 (pc := 532) (x := (.iadd, 1)) (by decide +kernel))
theorem e_226_533 : Df d 226 533 [l0, l1, l2, l3] (.int x :: .ref a :: st) h nx = (rX h a x).bind fun v => Df d 226 534 [l0, l1, l2, l3] (.int v :: st) h nx := D_iaload (ins_of mc_226 (pc := 533) (x := (.iaload, 1)) (by decide +kernel))
theorem e_226_534 : Df d 226 534 [l0, l1, l2, l3] [v0, .ref a] h nx = if ck h a 8 = true then cn d 226 537 [l0, l1, l2, l3] [] (Dn d 86 [.ref a, v0] h nx) else none := D_virtual (k1 := 86) (ins_of mc_226 (pc := 534) (x := (.invokevirtual 56, 3)) (by decide +kernel)) mo_226 (by decide +kernel) (by decide) rfl rfl (by decide) rfl (Nat.le_of_ble_eq_true rfl) rfl
theorem e_226_537 : Df d 226 537 [l0, l1, .ref a, l3] st h nx = Df d 226 538 [l0, l1, .ref a, l3] (.ref a :: st) h nx := D_aload_n (ins_of mc_226 (pc := 537) (x := (.aload_n 2, 1)) (by decide +kernel)) rfl
theorem e_226_538 : Df d 226 538 [.ref a, l1, l2, l3] st h nx = Df d 226 539 [.ref a, l1, l2, l3] (.ref a :: st) h nx := D_aload_n (ins_of mc_226 (pc := 538) (x := (.aload_n 0, 1)) (by decide +kernel)) rfl
theorem e_226_539 : Df d 226 539 [l0, l1, l2, .int x] st h nx = Df d 226 540 [l0, l1, l2, .int x] (.int x :: st) h nx := D_iload_n (ins_of mc_226 (pc := 539) (x := (.iload_n 3, 1)) (by decide +kernel)) rfl
theorem e_226_540 : Df d 226 540 [l0, l1, l2, l3] st h nx = Df d 226 541 [l0, l1, l2, l3] (.int 1 :: st) h nx := D_iconst (ins_of mc_226 (pc := 540) (x := (.iconst 1, 1)) (by decide +kernel)) (by decide)
theorem e_226_541 : Df d 226 541 [l0, l1, l2, l3] (.int y :: .int x :: st) h nx = Df d 226 542 [l0, l1, l2, l3] (.int (x + y) :: st) h nx := D_iadd (ins_of mc_226 (pc := 541) (x := (.iadd, 1)) (by decide +kernel))
theorem e_226_542 : Df d 226 542 [l0, l1, l2, l3] (.int x :: .ref a :: st) h nx = (rX h a x).bind fun v => Df d 226 543 [l0, l1, l2, l3] (.int v :: st) h nx := D_iaload (ins_of mc_226 (pc := 542) (x := (.iaload, 1)) (by decide +kernel))
theorem e_226_543 : Df d 226 543 [l0, l1, l2, l3] [v0, .ref a, s0] h nx = if ck h a 9 = true then cn d 226 546 [l0, l1, l2, l3] [s0] (Dn d 160 [.ref a, v0] h nx) else none := D_virtual (k1 := 160) (ins_of mc_226 (pc := 543) (x := (.invokevirtual 59, 3)) (by decide +kernel)) mo_226 (by decide +kernel) (by decide) rfl rfl (by decide) rfl (Nat.le_of_ble_eq_true rfl) rfl
theorem e_226_546 : Df d 226 546 [l0, l1, l2, l3] (.int y :: .int x :: st) h nx = if x = y then Df d 226 1388 [l0, l1, l2, l3] st h nx else Df d 226 549 [l0, l1, l2, l3] st h nx := D_icmp_eq (ins_of mc_226 (pc := 546) (x := (.if_icmp .eq 842, 3)) (by decide +kernel)) (by decide)
theorem e_226_549 : Df d 226 549 [l0, l1, l2, l3] st h nx = Df d 226 550 [l0, l1, l2, l3] (.int 0 :: st) h nx := D_iconst (ins_of mc_226 (pc := 549) (x := (.iconst 0, 1)) (by decide +kernel)) (by decide)
theorem e_226_550 : Df d 226 550 [l0, l1, l2, l3] [.int x] h nx = if nR .boolean x = true then some (some (.int x), h, nx) else none := D_zreturn (ins_of mc_226 (pc := 550) (x := (.ireturn, 1)) (by decide +kernel)) mr_226
theorem e_226_551 : Df d 226 551 [l0, .ref a, l2, l3] st h nx = Df d 226 552 [l0, .ref a, l2, l3] (.ref a :: st) h nx := D_aload_n (ins_of mc_226 (pc := 551) (x := (.aload_n 1, 1)) (by decide +kernel)) rfl
theorem e_226_552 : Df d 226 552 [.ref a, l1, l2, l3] st h nx = Df d 226 553 [.ref a, l1, l2, l3] (.ref a :: st) h nx := D_aload_n (ins_of mc_226 (pc := 552) (x := (.aload_n 0, 1)) (by decide +kernel)) rfl
theorem e_226_553 : Df d 226 553 [l0, l1, l2, .int x] st h nx = Df d 226 554 [l0, l1, l2, .int x] (.int x :: st) h nx := D_iload_n (ins_of mc_226 (pc := 553) (x := (.iload_n 3, 1)) (by decide +kernel)) rfl
theorem e_226_554 : Df d 226 554 [l0, l1, l2, l3] st h nx = Df d 226 555 [l0, l1, l2, l3] (.int 1 :: st) h nx := D_iconst (ins_of mc_226 (pc := 554) (x := (.iconst 1, 1)) (by decide +kernel)) (by decide)
theorem e_226_555 : Df d 226 555 [l0, l1, l2, l3] (.int y :: .int x :: st) h nx = Df d 226 556 [l0, l1, l2, l3] (.int (x + y) :: st) h nx := D_iadd (ins_of mc_226 (pc := 555) (x := (.iadd, 1)) (by decide +kernel))
theorem e_226_556 : Df d 226 556 [l0, l1, l2, l3] (.int x :: .ref a :: st) h nx = (rX h a x).bind fun v => Df d 226 557 [l0, l1, l2, l3] (.int v :: st) h nx := D_iaload (ins_of mc_226 (pc := 556) (x := (.iaload, 1)) (by decide +kernel))
theorem e_226_557 : Df d 226 557 [.ref a, l1, l2, l3] st h nx = Df d 226 558 [.ref a, l1, l2, l3] (.ref a :: st) h nx := D_aload_n (ins_of mc_226 (pc := 557) (x := (.aload_n 0, 1)) (by decide +kernel)) rfl
theorem e_226_558 : Df d 226 558 [l0, l1, l2, .int x] st h nx = Df d 226 559 [l0, l1, l2, .int x] (.int x :: st) h nx := D_iload_n (ins_of mc_226 (pc := 558) (x := (.iload_n 3, 1)) (by decide +kernel)) rfl
theorem e_226_559 : Df d 226 559 [l0, l1, l2, l3] st h nx = Df d 226 560 [l0, l1, l2, l3] (.int 2 :: st) h nx := D_iconst (ins_of mc_226 (pc := 559) (x := (.iconst 2, 1)) (by decide +kernel)) (by decide)
theorem e_226_560 : Df d 226 560 [l0, l1, l2, l3] (.int y :: .int x :: st) h nx = Df d 226 561 [l0, l1, l2, l3] (.int (x + y) :: st) h nx := D_iadd (ins_of mc_226 (pc := 560) (x := (.iadd, 1)) (by decide +kernel))
theorem e_226_561 : Df d 226 561 [l0, l1, l2, l3] (.int x :: .ref a :: st) h nx = (rX h a x).bind fun v => Df d 226 562 [l0, l1, l2, l3] (.int v :: st) h nx := D_iaload (ins_of mc_226 (pc := 561) (x := (.iaload, 1)) (by decide +kernel))
theorem e_226_562 : Df d 226 562 [l0, l1, l2, l3] [v1, v0, .ref a] h nx = if ck h a 8 = true then cn d 226 565 [l0, l1, l2, l3] [] (Dn d 87 [.ref a, v0, v1] h nx) else none := D_virtual (k1 := 87) (ins_of mc_226 (pc := 562) (x := (.invokevirtual 60, 3)) (by decide +kernel)) mo_226 (by decide +kernel) (by decide) rfl rfl (by decide) rfl (Nat.le_of_ble_eq_true rfl) rfl
theorem e_226_565 : Df d 226 565 [l0, l1, .ref a, l3] st h nx = Df d 226 566 [l0, l1, .ref a, l3] (.ref a :: st) h nx := D_aload_n (ins_of mc_226 (pc := 565) (x := (.aload_n 2, 1)) (by decide +kernel)) rfl
theorem e_226_566 : Df d 226 566 [.ref a, l1, l2, l3] st h nx = Df d 226 567 [.ref a, l1, l2, l3] (.ref a :: st) h nx := D_aload_n (ins_of mc_226 (pc := 566) (x := (.aload_n 0, 1)) (by decide +kernel)) rfl
theorem e_226_567 : Df d 226 567 [l0, l1, l2, .int x] st h nx = Df d 226 568 [l0, l1, l2, .int x] (.int x :: st) h nx := D_iload_n (ins_of mc_226 (pc := 567) (x := (.iload_n 3, 1)) (by decide +kernel)) rfl
theorem e_226_568 : Df d 226 568 [l0, l1, l2, l3] st h nx = Df d 226 569 [l0, l1, l2, l3] (.int 1 :: st) h nx := D_iconst (ins_of mc_226 (pc := 568) (x := (.iconst 1, 1)) (by decide +kernel)) (by decide)
theorem e_226_569 : Df d 226 569 [l0, l1, l2, l3] (.int y :: .int x :: st) h nx = Df d 226 570 [l0, l1, l2, l3] (.int (x + y) :: st) h nx := D_iadd (ins_of mc_226 (pc := 569) (x := (.iadd, 1)) (by decide +kernel))
theorem e_226_570 : Df d 226 570 [l0, l1, l2, l3] (.int x :: .ref a :: st) h nx = (rX h a x).bind fun v => Df d 226 571 [l0, l1, l2, l3] (.int v :: st) h nx := D_iaload (ins_of mc_226 (pc := 570) (x := (.iaload, 1)) (by decide +kernel))
theorem e_226_571 : Df d 226 571 [.ref a, l1, l2, l3] st h nx = Df d 226 572 [.ref a, l1, l2, l3] (.ref a :: st) h nx := D_aload_n (ins_of mc_226 (pc := 571) (x := (.aload_n 0, 1)) (by decide +kernel)) rfl
theorem e_226_572 : Df d 226 572 [l0, l1, l2, .int x] st h nx = Df d 226 573 [l0, l1, l2, .int x] (.int x :: st) h nx := D_iload_n (ins_of mc_226 (pc := 572) (x := (.iload_n 3, 1)) (by decide +kernel)) rfl
theorem e_226_573 : Df d 226 573 [l0, l1, l2, l3] st h nx = Df d 226 574 [l0, l1, l2, l3] (.int 2 :: st) h nx := D_iconst (ins_of mc_226 (pc := 573) (x := (.iconst 2, 1)) (by decide +kernel)) (by decide)
theorem e_226_574 : Df d 226 574 [l0, l1, l2, l3] (.int y :: .int x :: st) h nx = Df d 226 575 [l0, l1, l2, l3] (.int (x + y) :: st) h nx := D_iadd (ins_of mc_226 (pc := 574) (x := (.iadd, 1)) (by decide +kernel))
theorem e_226_575 : Df d 226 575 [l0, l1, l2, l3] (.int x :: .ref a :: st) h nx = (rX h a x).bind fun v => Df d 226 576 [l0, l1, l2, l3] (.int v :: st) h nx := D_iaload (ins_of mc_226 (pc := 575) (x := (.iaload, 1)) (by decide +kernel))
theorem e_226_576 : Df d 226 576 [l0, l1, l2, l3] [v1, v0, .ref a, s0] h nx = if ck h a 9 = true then cn d 226 579 [l0, l1, l2, l3] [s0] (Dn d 164 [.ref a, v0, v1] h nx) else none := D_virtual (k1 := 164) (ins_of mc_226 (pc := 576) (x := (.invokevirtual 63, 3)) (by decide +kernel)) mo_226 (by decide +kernel) (by decide) rfl rfl (by decide) rfl (Nat.le_of_ble_eq_true rfl) rfl
theorem e_226_579 : Df d 226 579 [l0, l1, l2, l3] (.int y :: .int x :: st) h nx = if x = y then Df d 226 1388 [l0, l1, l2, l3] st h nx else Df d 226 582 [l0, l1, l2, l3] st h nx := D_icmp_eq (ins_of mc_226 (pc := 579) (x := (.if_icmp .eq 809, 3)) (by decide +kernel)) (by decide)
theorem e_226_582 : Df d 226 582 [l0, l1, l2, l3] st h nx = Df d 226 583 [l0, l1, l2, l3] (.int 0 :: st) h nx := D_iconst (ins_of mc_226 (pc := 582) (x := (.iconst 0, 1)) (by decide +kernel)) (by decide)
theorem e_226_583 : Df d 226 583 [l0, l1, l2, l3] [.int x] h nx = if nR .boolean x = true then some (some (.int x), h, nx) else none := D_zreturn (ins_of mc_226 (pc := 583) (x := (.ireturn, 1)) (by decide +kernel)) mr_226
theorem e_226_584 : Df d 226 584 [l0, .ref a, l2, l3] st h nx = Df d 226 585 [l0, .ref a, l2, l3] (.ref a :: st) h nx := D_aload_n (ins_of mc_226 (pc := 584) (x := (.aload_n 1, 1)) (by decide +kernel)) rfl
theorem e_226_585 : Df d 226 585 [l0, l1, l2, l3] [.ref a] h nx = if ck h a 8 = true then cn d 226 588 [l0, l1, l2, l3] [] (Dn d 88 [.ref a] h nx) else none := D_virtual (k1 := 88) (ins_of mc_226 (pc := 585) (x := (.invokevirtual 64, 3)) (by decide +kernel)) mo_226 (by decide +kernel) (by decide) rfl rfl (by decide) rfl (Nat.le_of_ble_eq_true rfl) rfl
theorem e_226_588 : Df d 226 588 [l0, l1, .ref a, l3] st h nx = Df d 226 589 [l0, l1, .ref a, l3] (.ref a :: st) h nx := D_aload_n (ins_of mc_226 (pc := 588) (x := (.aload_n 2, 1)) (by decide +kernel)) rfl
theorem e_226_589 : Df d 226 589 [l0, l1, l2, l3] [.ref a, s0] h nx = if ck h a 9 = true then cn d 226 592 [l0, l1, l2, l3] [s0] (Dn d 167 [.ref a] h nx) else none := D_virtual (k1 := 167) (ins_of mc_226 (pc := 589) (x := (.invokevirtual 68, 3)) (by decide +kernel)) mo_226 (by decide +kernel) (by decide) rfl rfl (by decide) rfl (Nat.le_of_ble_eq_true rfl) rfl
theorem e_226_592 : Df d 226 592 [l0, l1, l2, l3] (.int y :: .int x :: st) h nx = if x = y then Df d 226 1388 [l0, l1, l2, l3] st h nx else Df d 226 595 [l0, l1, l2, l3] st h nx := D_icmp_eq (ins_of mc_226 (pc := 592) (x := (.if_icmp .eq 796, 3)) (by decide +kernel)) (by decide)
theorem e_226_595 : Df d 226 595 [l0, l1, l2, l3] st h nx = Df d 226 596 [l0, l1, l2, l3] (.int 0 :: st) h nx := D_iconst (ins_of mc_226 (pc := 595) (x := (.iconst 0, 1)) (by decide +kernel)) (by decide)
theorem e_226_596 : Df d 226 596 [l0, l1, l2, l3] [.int x] h nx = if nR .boolean x = true then some (some (.int x), h, nx) else none := D_zreturn (ins_of mc_226 (pc := 596) (x := (.ireturn, 1)) (by decide +kernel)) mr_226
theorem e_226_597 : Df d 226 597 [l0, .ref a, l2, l3] st h nx = Df d 226 598 [l0, .ref a, l2, l3] (.ref a :: st) h nx := D_aload_n (ins_of mc_226 (pc := 597) (x := (.aload_n 1, 1)) (by decide +kernel)) rfl
theorem e_226_598 : Df d 226 598 [.ref a, l1, l2, l3] st h nx = Df d 226 599 [.ref a, l1, l2, l3] (.ref a :: st) h nx := D_aload_n (ins_of mc_226 (pc := 598) (x := (.aload_n 0, 1)) (by decide +kernel)) rfl
theorem e_226_599 : Df d 226 599 [l0, l1, l2, .int x] st h nx = Df d 226 600 [l0, l1, l2, .int x] (.int x :: st) h nx := D_iload_n (ins_of mc_226 (pc := 599) (x := (.iload_n 3, 1)) (by decide +kernel)) rfl
theorem e_226_600 : Df d 226 600 [l0, l1, l2, l3] st h nx = Df d 226 601 [l0, l1, l2, l3] (.int 1 :: st) h nx := D_iconst (ins_of mc_226 (pc := 600) (x := (.iconst 1, 1)) (by decide +kernel)) (by decide)
theorem e_226_601 : Df d 226 601 [l0, l1, l2, l3] (.int y :: .int x :: st) h nx = Df d 226 602 [l0, l1, l2, l3] (.int (x + y) :: st) h nx := D_iadd (ins_of mc_226 (pc := 601) (x := (.iadd, 1)) (by decide +kernel))
theorem e_226_602 : Df d 226 602 [l0, l1, l2, l3] (.int x :: .ref a :: st) h nx = (rX h a x).bind fun v => Df d 226 603 [l0, l1, l2, l3] (.int v :: st) h nx := D_iaload (ins_of mc_226 (pc := 602) (x := (.iaload, 1)) (by decide +kernel))
theorem e_226_603 : Df d 226 603 [.ref a, l1, l2, l3] st h nx = Df d 226 604 [.ref a, l1, l2, l3] (.ref a :: st) h nx := D_aload_n (ins_of mc_226 (pc := 603) (x := (.aload_n 0, 1)) (by decide +kernel)) rfl
theorem e_226_604 : Df d 226 604 [l0, l1, l2, .int x] st h nx = Df d 226 605 [l0, l1, l2, .int x] (.int x :: st) h nx := D_iload_n (ins_of mc_226 (pc := 604) (x := (.iload_n 3, 1)) (by decide +kernel)) rfl
theorem e_226_605 : Df d 226 605 [l0, l1, l2, l3] st h nx = Df d 226 606 [l0, l1, l2, l3] (.int 2 :: st) h nx := D_iconst (ins_of mc_226 (pc := 605) (x := (.iconst 2, 1)) (by decide +kernel)) (by decide)
theorem e_226_606 : Df d 226 606 [l0, l1, l2, l3] (.int y :: .int x :: st) h nx = Df d 226 607 [l0, l1, l2, l3] (.int (x + y) :: st) h nx := D_iadd (ins_of mc_226 (pc := 606) (x := (.iadd, 1)) (by decide +kernel))
theorem e_226_607 : Df d 226 607 [l0, l1, l2, l3] (.int x :: .ref a :: st) h nx = (rX h a x).bind fun v => Df d 226 608 [l0, l1, l2, l3] (.int v :: st) h nx := D_iaload (ins_of mc_226 (pc := 607) (x := (.iaload, 1)) (by decide +kernel))
theorem e_226_608 : Df d 226 608 [l0, l1, l2, l3] [v1, v0, .ref a] h nx = if ck h a 8 = true then cn d 226 611 [l0, l1, l2, l3] [] (Dn d 90 [.ref a, v0, v1] h nx) else none := D_virtual (k1 := 90) (ins_of mc_226 (pc := 608) (x := (.invokevirtual 69, 3)) (by decide +kernel)) mo_226 (by decide +kernel) (by decide) rfl rfl (by decide) rfl (Nat.le_of_ble_eq_true rfl) rfl
theorem e_226_611 : Df d 226 611 [l0, l1, .ref a, l3] st h nx = Df d 226 612 [l0, l1, .ref a, l3] (.ref a :: st) h nx := D_aload_n (ins_of mc_226 (pc := 611) (x := (.aload_n 2, 1)) (by decide +kernel)) rfl
theorem e_226_612 : Df d 226 612 [.ref a, l1, l2, l3] st h nx = Df d 226 613 [.ref a, l1, l2, l3] (.ref a :: st) h nx := D_aload_n (ins_of mc_226 (pc := 612) (x := (.aload_n 0, 1)) (by decide +kernel)) rfl
theorem e_226_613 : Df d 226 613 [l0, l1, l2, .int x] st h nx = Df d 226 614 [l0, l1, l2, .int x] (.int x :: st) h nx := D_iload_n (ins_of mc_226 (pc := 613) (x := (.iload_n 3, 1)) (by decide +kernel)) rfl
theorem e_226_614 : Df d 226 614 [l0, l1, l2, l3] st h nx = Df d 226 615 [l0, l1, l2, l3] (.int 1 :: st) h nx := D_iconst (ins_of mc_226 (pc := 614) (x := (.iconst 1, 1)) (by decide +kernel)) (by decide)
theorem e_226_615 : Df d 226 615 [l0, l1, l2, l3] (.int y :: .int x :: st) h nx = Df d 226 616 [l0, l1, l2, l3] (.int (x + y) :: st) h nx := D_iadd (ins_of mc_226 (pc := 615) (x := (.iadd, 1)) (by decide +kernel))
theorem e_226_616 : Df d 226 616 [l0, l1, l2, l3] (.int x :: .ref a :: st) h nx = (rX h a x).bind fun v => Df d 226 617 [l0, l1, l2, l3] (.int v :: st) h nx := D_iaload (ins_of mc_226 (pc := 616) (x := (.iaload, 1)) (by decide +kernel))
theorem e_226_617 : Df d 226 617 [.ref a, l1, l2, l3] st h nx = Df d 226 618 [.ref a, l1, l2, l3] (.ref a :: st) h nx := D_aload_n (ins_of mc_226 (pc := 617) (x := (.aload_n 0, 1)) (by decide +kernel)) rfl
theorem e_226_618 : Df d 226 618 [l0, l1, l2, .int x] st h nx = Df d 226 619 [l0, l1, l2, .int x] (.int x :: st) h nx := D_iload_n (ins_of mc_226 (pc := 618) (x := (.iload_n 3, 1)) (by decide +kernel)) rfl
theorem e_226_619 : Df d 226 619 [l0, l1, l2, l3] st h nx = Df d 226 620 [l0, l1, l2, l3] (.int 2 :: st) h nx := D_iconst (ins_of mc_226 (pc := 619) (x := (.iconst 2, 1)) (by decide +kernel)) (by decide)
theorem e_226_620 : Df d 226 620 [l0, l1, l2, l3] (.int y :: .int x :: st) h nx = Df d 226 621 [l0, l1, l2, l3] (.int (x + y) :: st) h nx := D_iadd (ins_of mc_226 (pc := 620) (x := (.iadd, 1)) (by decide +kernel))
theorem e_226_621 : Df d 226 621 [l0, l1, l2, l3] (.int x :: .ref a :: st) h nx = (rX h a x).bind fun v => Df d 226 622 [l0, l1, l2, l3] (.int v :: st) h nx := D_iaload (ins_of mc_226 (pc := 621) (x := (.iaload, 1)) (by decide +kernel))
theorem e_226_622 : Df d 226 622 [l0, l1, l2, l3] [v1, v0, .ref a, s0] h nx = if ck h a 9 = true then cn d 226 625 [l0, l1, l2, l3] [s0] (Dn d 168 [.ref a, v0, v1] h nx) else none := D_virtual (k1 := 168) (ins_of mc_226 (pc := 622) (x := (.invokevirtual 72, 3)) (by decide +kernel)) mo_226 (by decide +kernel) (by decide) rfl rfl (by decide) rfl (Nat.le_of_ble_eq_true rfl) rfl
theorem e_226_625 : Df d 226 625 [l0, l1, l2, l3] (.int y :: .int x :: st) h nx = if x = y then Df d 226 1388 [l0, l1, l2, l3] st h nx else Df d 226 628 [l0, l1, l2, l3] st h nx := D_icmp_eq (ins_of mc_226 (pc := 625) (x := (.if_icmp .eq 763, 3)) (by decide +kernel)) (by decide)
theorem e_226_628 : Df d 226 628 [l0, l1, l2, l3] st h nx = Df d 226 629 [l0, l1, l2, l3] (.int 0 :: st) h nx := D_iconst (ins_of mc_226 (pc := 628) (x := (.iconst 0, 1)) (by decide +kernel)) (by decide)
theorem e_226_629 : Df d 226 629 [l0, l1, l2, l3] [.int x] h nx = if nR .boolean x = true then some (some (.int x), h, nx) else none := D_zreturn (ins_of mc_226 (pc := 629) (x := (.ireturn, 1)) (by decide +kernel)) mr_226
theorem e_226_630 : Df d 226 630 [l0, .ref a, l2, l3] st h nx = Df d 226 631 [l0, .ref a, l2, l3] (.ref a :: st) h nx := D_aload_n (ins_of mc_226 (pc := 630) (x := (.aload_n 1, 1)) (by decide +kernel)) rfl
theorem e_226_631 : Df d 226 631 [.ref a, l1, l2, l3] st h nx = Df d 226 632 [.ref a, l1, l2, l3] (.ref a :: st) h nx := D_aload_n (ins_of mc_226 (pc := 631) (x := (.aload_n 0, 1)) (by decide +kernel)) rfl
theorem e_226_632 : Df d 226 632 [l0, l1, l2, .int x] st h nx = Df d 226 633 [l0, l1, l2, .int x] (.int x :: st) h nx := D_iload_n (ins_of mc_226 (pc := 632) (x := (.iload_n 3, 1)) (by decide +kernel)) rfl
theorem e_226_633 : Df d 226 633 [l0, l1, l2, l3] st h nx = Df d 226 634 [l0, l1, l2, l3] (.int 1 :: st) h nx := D_iconst (ins_of mc_226 (pc := 633) (x := (.iconst 1, 1)) (by decide +kernel)) (by decide)
theorem e_226_634 : Df d 226 634 [l0, l1, l2, l3] (.int y :: .int x :: st) h nx = Df d 226 635 [l0, l1, l2, l3] (.int (x + y) :: st) h nx := D_iadd (ins_of mc_226 (pc := 634) (x := (.iadd, 1)) (by decide +kernel))
theorem e_226_635 : Df d 226 635 [l0, l1, l2, l3] (.int x :: .ref a :: st) h nx = (rX h a x).bind fun v => Df d 226 636 [l0, l1, l2, l3] (.int v :: st) h nx := D_iaload (ins_of mc_226 (pc := 635) (x := (.iaload, 1)) (by decide +kernel))
theorem e_226_636 : Df d 226 636 [.ref a, l1, l2, l3] st h nx = Df d 226 637 [.ref a, l1, l2, l3] (.ref a :: st) h nx := D_aload_n (ins_of mc_226 (pc := 636) (x := (.aload_n 0, 1)) (by decide +kernel)) rfl
theorem e_226_637 : Df d 226 637 [l0, l1, l2, .int x] st h nx = Df d 226 638 [l0, l1, l2, .int x] (.int x :: st) h nx := D_iload_n (ins_of mc_226 (pc := 637) (x := (.iload_n 3, 1)) (by decide +kernel)) rfl
theorem e_226_638 : Df d 226 638 [l0, l1, l2, l3] st h nx = Df d 226 639 [l0, l1, l2, l3] (.int 2 :: st) h nx := D_iconst (ins_of mc_226 (pc := 638) (x := (.iconst 2, 1)) (by decide +kernel)) (by decide)
theorem e_226_639 : Df d 226 639 [l0, l1, l2, l3] (.int y :: .int x :: st) h nx = Df d 226 640 [l0, l1, l2, l3] (.int (x + y) :: st) h nx := D_iadd (ins_of mc_226 (pc := 639) (x := (.iadd, 1)) (by decide +kernel))
theorem e_226_640 : Df d 226 640 [l0, l1, l2, l3] (.int x :: .ref a :: st) h nx = (rX h a x).bind fun v => Df d 226 641 [l0, l1, l2, l3] (.int v :: st) h nx := D_iaload (ins_of mc_226 (pc := 640) (x := (.iaload, 1)) (by decide +kernel))
theorem e_226_641 : Df d 226 641 [.ref a, l1, l2, l3] st h nx = Df d 226 642 [.ref a, l1, l2, l3] (.ref a :: st) h nx := D_aload_n (ins_of mc_226 (pc := 641) (x := (.aload_n 0, 1)) (by decide +kernel)) rfl
theorem e_226_642 : Df d 226 642 [l0, l1, l2, .int x] st h nx = Df d 226 643 [l0, l1, l2, .int x] (.int x :: st) h nx := D_iload_n (ins_of mc_226 (pc := 642) (x := (.iload_n 3, 1)) (by decide +kernel)) rfl
theorem e_226_643 : Df d 226 643 [l0, l1, l2, l3] st h nx = Df d 226 644 [l0, l1, l2, l3] (.int 3 :: st) h nx := D_iconst (ins_of mc_226 (pc := 643) (x := (.iconst 3, 1)) (by decide +kernel)) (by decide)
theorem e_226_644 : Df d 226 644 [l0, l1, l2, l3] (.int y :: .int x :: st) h nx = Df d 226 645 [l0, l1, l2, l3] (.int (x + y) :: st) h nx := D_iadd (ins_of mc_226 (pc := 644) (x := (.iadd, 1)) (by decide +kernel))
theorem e_226_645 : Df d 226 645 [l0, l1, l2, l3] (.int x :: .ref a :: st) h nx = (rX h a x).bind fun v => Df d 226 646 [l0, l1, l2, l3] (.int v :: st) h nx := D_iaload (ins_of mc_226 (pc := 645) (x := (.iaload, 1)) (by decide +kernel))
theorem e_226_646 : Df d 226 646 [l0, l1, l2, l3] [v2, v1, v0, .ref a] h nx = if ck h a 8 = true then cn d 226 649 [l0, l1, l2, l3] [] (Dn d 91 [.ref a, v0, v1, v2] h nx) else none := D_virtual (k1 := 91) (ins_of mc_226 (pc := 646) (x := (.invokevirtual 73, 3)) (by decide +kernel)) mo_226 (by decide +kernel) (by decide) rfl rfl (by decide) rfl (Nat.le_of_ble_eq_true rfl) rfl
theorem e_226_649 : Df d 226 649 [l0, l1, .ref a, l3] st h nx = Df d 226 650 [l0, l1, .ref a, l3] (.ref a :: st) h nx := D_aload_n (ins_of mc_226 (pc := 649) (x := (.aload_n 2, 1)) (by decide +kernel)) rfl
theorem e_226_650 : Df d 226 650 [.ref a, l1, l2, l3] st h nx = Df d 226 651 [.ref a, l1, l2, l3] (.ref a :: st) h nx := D_aload_n (ins_of mc_226 (pc := 650) (x := (.aload_n 0, 1)) (by decide +kernel)) rfl
theorem e_226_651 : Df d 226 651 [l0, l1, l2, .int x] st h nx = Df d 226 652 [l0, l1, l2, .int x] (.int x :: st) h nx := D_iload_n (ins_of mc_226 (pc := 651) (x := (.iload_n 3, 1)) (by decide +kernel)) rfl
theorem e_226_652 : Df d 226 652 [l0, l1, l2, l3] st h nx = Df d 226 653 [l0, l1, l2, l3] (.int 1 :: st) h nx := D_iconst (ins_of mc_226 (pc := 652) (x := (.iconst 1, 1)) (by decide +kernel)) (by decide)
theorem e_226_653 : Df d 226 653 [l0, l1, l2, l3] (.int y :: .int x :: st) h nx = Df d 226 654 [l0, l1, l2, l3] (.int (x + y) :: st) h nx := D_iadd (ins_of mc_226 (pc := 653) (x := (.iadd, 1)) (by decide +kernel))
theorem e_226_654 : Df d 226 654 [l0, l1, l2, l3] (.int x :: .ref a :: st) h nx = (rX h a x).bind fun v => Df d 226 655 [l0, l1, l2, l3] (.int v :: st) h nx := D_iaload (ins_of mc_226 (pc := 654) (x := (.iaload, 1)) (by decide +kernel))
theorem e_226_655 : Df d 226 655 [.ref a, l1, l2, l3] st h nx = Df d 226 656 [.ref a, l1, l2, l3] (.ref a :: st) h nx := D_aload_n (ins_of mc_226 (pc := 655) (x := (.aload_n 0, 1)) (by decide +kernel)) rfl
theorem e_226_656 : Df d 226 656 [l0, l1, l2, .int x] st h nx = Df d 226 657 [l0, l1, l2, .int x] (.int x :: st) h nx := D_iload_n (ins_of mc_226 (pc := 656) (x := (.iload_n 3, 1)) (by decide +kernel)) rfl
theorem e_226_657 : Df d 226 657 [l0, l1, l2, l3] st h nx = Df d 226 658 [l0, l1, l2, l3] (.int 2 :: st) h nx := D_iconst (ins_of mc_226 (pc := 657) (x := (.iconst 2, 1)) (by decide +kernel)) (by decide)
theorem e_226_658 : Df d 226 658 [l0, l1, l2, l3] (.int y :: .int x :: st) h nx = Df d 226 659 [l0, l1, l2, l3] (.int (x + y) :: st) h nx := D_iadd (ins_of mc_226 (pc := 658) (x := (.iadd, 1)) (by decide +kernel))
theorem e_226_659 : Df d 226 659 [l0, l1, l2, l3] (.int x :: .ref a :: st) h nx = (rX h a x).bind fun v => Df d 226 660 [l0, l1, l2, l3] (.int v :: st) h nx := D_iaload (ins_of mc_226 (pc := 659) (x := (.iaload, 1)) (by decide +kernel))
theorem e_226_660 : Df d 226 660 [.ref a, l1, l2, l3] st h nx = Df d 226 661 [.ref a, l1, l2, l3] (.ref a :: st) h nx := D_aload_n (ins_of mc_226 (pc := 660) (x := (.aload_n 0, 1)) (by decide +kernel)) rfl
theorem e_226_661 : Df d 226 661 [l0, l1, l2, .int x] st h nx = Df d 226 662 [l0, l1, l2, .int x] (.int x :: st) h nx := D_iload_n (ins_of mc_226 (pc := 661) (x := (.iload_n 3, 1)) (by decide +kernel)) rfl
theorem e_226_662 : Df d 226 662 [l0, l1, l2, l3] st h nx = Df d 226 663 [l0, l1, l2, l3] (.int 3 :: st) h nx := D_iconst (ins_of mc_226 (pc := 662) (x := (.iconst 3, 1)) (by decide +kernel)) (by decide)
theorem e_226_663 : Df d 226 663 [l0, l1, l2, l3] (.int y :: .int x :: st) h nx = Df d 226 664 [l0, l1, l2, l3] (.int (x + y) :: st) h nx := D_iadd (ins_of mc_226 (pc := 663) (x := (.iadd, 1)) (by decide +kernel))
theorem e_226_664 : Df d 226 664 [l0, l1, l2, l3] (.int x :: .ref a :: st) h nx = (rX h a x).bind fun v => Df d 226 665 [l0, l1, l2, l3] (.int v :: st) h nx := D_iaload (ins_of mc_226 (pc := 664) (x := (.iaload, 1)) (by decide +kernel))
theorem e_226_665 : Df d 226 665 [l0, l1, l2, l3] [v2, v1, v0, .ref a, s0] h nx = if ck h a 9 = true then cn d 226 668 [l0, l1, l2, l3] [s0] (Dn d 170 [.ref a, v0, v1, v2] h nx) else none := D_virtual (k1 := 170) (ins_of mc_226 (pc := 665) (x := (.invokevirtual 76, 3)) (by decide +kernel)) mo_226 (by decide +kernel) (by decide) rfl rfl (by decide) rfl (Nat.le_of_ble_eq_true rfl) rfl
theorem e_226_668 : Df d 226 668 [l0, l1, l2, l3] (.int y :: .int x :: st) h nx = if x = y then Df d 226 1388 [l0, l1, l2, l3] st h nx else Df d 226 671 [l0, l1, l2, l3] st h nx := D_icmp_eq (ins_of mc_226 (pc := 668) (x := (.if_icmp .eq 720, 3)) (by decide +kernel)) (by decide)
theorem e_226_671 : Df d 226 671 [l0, l1, l2, l3] st h nx = Df d 226 672 [l0, l1, l2, l3] (.int 0 :: st) h nx := D_iconst (ins_of mc_226 (pc := 671) (x := (.iconst 0, 1)) (by decide +kernel)) (by decide)
theorem e_226_672 : Df d 226 672 [l0, l1, l2, l3] [.int x] h nx = if nR .boolean x = true then some (some (.int x), h, nx) else none := D_zreturn (ins_of mc_226 (pc := 672) (x := (.ireturn, 1)) (by decide +kernel)) mr_226
theorem e_226_673 : Df d 226 673 [l0, .ref a, l2, l3] st h nx = Df d 226 674 [l0, .ref a, l2, l3] (.ref a :: st) h nx := D_aload_n (ins_of mc_226 (pc := 673) (x := (.aload_n 1, 1)) (by decide +kernel)) rfl
theorem e_226_674 : Df d 226 674 [.ref a, l1, l2, l3] st h nx = Df d 226 675 [.ref a, l1, l2, l3] (.ref a :: st) h nx := D_aload_n (ins_of mc_226 (pc := 674) (x := (.aload_n 0, 1)) (by decide +kernel)) rfl
theorem e_226_675 : Df d 226 675 [l0, l1, l2, .int x] st h nx = Df d 226 676 [l0, l1, l2, .int x] (.int x :: st) h nx := D_iload_n (ins_of mc_226 (pc := 675) (x := (.iload_n 3, 1)) (by decide +kernel)) rfl
theorem e_226_676 : Df d 226 676 [l0, l1, l2, l3] st h nx = Df d 226 677 [l0, l1, l2, l3] (.int 1 :: st) h nx := D_iconst (ins_of mc_226 (pc := 676) (x := (.iconst 1, 1)) (by decide +kernel)) (by decide)
theorem e_226_677 : Df d 226 677 [l0, l1, l2, l3] (.int y :: .int x :: st) h nx = Df d 226 678 [l0, l1, l2, l3] (.int (x + y) :: st) h nx := D_iadd (ins_of mc_226 (pc := 677) (x := (.iadd, 1)) (by decide +kernel))
theorem e_226_678 : Df d 226 678 [l0, l1, l2, l3] (.int x :: .ref a :: st) h nx = (rX h a x).bind fun v => Df d 226 679 [l0, l1, l2, l3] (.int v :: st) h nx := D_iaload (ins_of mc_226 (pc := 678) (x := (.iaload, 1)) (by decide +kernel))
theorem e_226_679 : Df d 226 679 [l0, l1, l2, l3] [v0, .ref a] h nx = if ck h a 8 = true then cn d 226 682 [l0, l1, l2, l3] [] (Dn d 92 [.ref a, v0] h nx) else none := D_virtual (k1 := 92) (ins_of mc_226 (pc := 679) (x := (.invokevirtual 77, 3)) (by decide +kernel)) mo_226 (by decide +kernel) (by decide) rfl rfl (by decide) rfl (Nat.le_of_ble_eq_true rfl) rfl
theorem e_226_682 : Df d 226 682 [l0, l1, .ref a, l3] st h nx = Df d 226 683 [l0, l1, .ref a, l3] (.ref a :: st) h nx := D_aload_n (ins_of mc_226 (pc := 682) (x := (.aload_n 2, 1)) (by decide +kernel)) rfl
theorem e_226_683 : Df d 226 683 [.ref a, l1, l2, l3] st h nx = Df d 226 684 [.ref a, l1, l2, l3] (.ref a :: st) h nx := D_aload_n (ins_of mc_226 (pc := 683) (x := (.aload_n 0, 1)) (by decide +kernel)) rfl
theorem e_226_684 : Df d 226 684 [l0, l1, l2, .int x] st h nx = Df d 226 685 [l0, l1, l2, .int x] (.int x :: st) h nx := D_iload_n (ins_of mc_226 (pc := 684) (x := (.iload_n 3, 1)) (by decide +kernel)) rfl
theorem e_226_685 : Df d 226 685 [l0, l1, l2, l3] st h nx = Df d 226 686 [l0, l1, l2, l3] (.int 1 :: st) h nx := D_iconst (ins_of mc_226 (pc := 685) (x := (.iconst 1, 1)) (by decide +kernel)) (by decide)
theorem e_226_686 : Df d 226 686 [l0, l1, l2, l3] (.int y :: .int x :: st) h nx = Df d 226 687 [l0, l1, l2, l3] (.int (x + y) :: st) h nx := D_iadd (ins_of mc_226 (pc := 686) (x := (.iadd, 1)) (by decide +kernel))
theorem e_226_687 : Df d 226 687 [l0, l1, l2, l3] (.int x :: .ref a :: st) h nx = (rX h a x).bind fun v => Df d 226 688 [l0, l1, l2, l3] (.int v :: st) h nx := D_iaload (ins_of mc_226 (pc := 687) (x := (.iaload, 1)) (by decide +kernel))
theorem e_226_688 : Df d 226 688 [l0, l1, l2, l3] [v0, .ref a, s0] h nx = if ck h a 9 = true then cn d 226 691 [l0, l1, l2, l3] [s0] (Dn d 171 [.ref a, v0] h nx) else none := D_virtual (k1 := 171) (ins_of mc_226 (pc := 688) (x := (.invokevirtual 80, 3)) (by decide +kernel)) mo_226 (by decide +kernel) (by decide) rfl rfl (by decide) rfl (Nat.le_of_ble_eq_true rfl) rfl
theorem e_226_691 : Df d 226 691 [l0, l1, l2, l3] (.int y :: .int x :: st) h nx = if x = y then Df d 226 1388 [l0, l1, l2, l3] st h nx else Df d 226 694 [l0, l1, l2, l3] st h nx := D_icmp_eq (ins_of mc_226 (pc := 691) (x := (.if_icmp .eq 697, 3)) (by decide +kernel)) (by decide)
theorem e_226_694 : Df d 226 694 [l0, l1, l2, l3] st h nx = Df d 226 695 [l0, l1, l2, l3] (.int 0 :: st) h nx := D_iconst (ins_of mc_226 (pc := 694) (x := (.iconst 0, 1)) (by decide +kernel)) (by decide)
theorem e_226_695 : Df d 226 695 [l0, l1, l2, l3] [.int x] h nx = if nR .boolean x = true then some (some (.int x), h, nx) else none := D_zreturn (ins_of mc_226 (pc := 695) (x := (.ireturn, 1)) (by decide +kernel)) mr_226
theorem e_226_696 : Df d 226 696 [l0, .ref a, l2, l3] st h nx = Df d 226 697 [l0, .ref a, l2, l3] (.ref a :: st) h nx := D_aload_n (ins_of mc_226 (pc := 696) (x := (.aload_n 1, 1)) (by decide +kernel)) rfl
theorem e_226_697 : Df d 226 697 [.ref a, l1, l2, l3] st h nx = Df d 226 698 [.ref a, l1, l2, l3] (.ref a :: st) h nx := D_aload_n (ins_of mc_226 (pc := 697) (x := (.aload_n 0, 1)) (by decide +kernel)) rfl
theorem e_226_698 : Df d 226 698 [l0, l1, l2, .int x] st h nx = Df d 226 699 [l0, l1, l2, .int x] (.int x :: st) h nx := D_iload_n (ins_of mc_226 (pc := 698) (x := (.iload_n 3, 1)) (by decide +kernel)) rfl
theorem e_226_699 : Df d 226 699 [l0, l1, l2, l3] st h nx = Df d 226 700 [l0, l1, l2, l3] (.int 1 :: st) h nx := D_iconst (ins_of mc_226 (pc := 699) (x := (.iconst 1, 1)) (by decide +kernel)) (by decide)
theorem e_226_700 : Df d 226 700 [l0, l1, l2, l3] (.int y :: .int x :: st) h nx = Df d 226 701 [l0, l1, l2, l3] (.int (x + y) :: st) h nx := D_iadd (ins_of mc_226 (pc := 700) (x := (.iadd, 1)) (by decide +kernel))
theorem e_226_701 : Df d 226 701 [l0, l1, l2, l3] (.int x :: .ref a :: st) h nx = (rX h a x).bind fun v => Df d 226 702 [l0, l1, l2, l3] (.int v :: st) h nx := D_iaload (ins_of mc_226 (pc := 701) (x := (.iaload, 1)) (by decide +kernel))
theorem e_226_702 : Df d 226 702 [l0, l1, l2, l3] [v0, .ref a] h nx = if ck h a 8 = true then cn d 226 705 [l0, l1, l2, l3] [] (Dn d 93 [.ref a, v0] h nx) else none := D_virtual (k1 := 93) (ins_of mc_226 (pc := 702) (x := (.invokevirtual 81, 3)) (by decide +kernel)) mo_226 (by decide +kernel) (by decide) rfl rfl (by decide) rfl (Nat.le_of_ble_eq_true rfl) rfl
theorem e_226_705 : Df d 226 705 [l0, l1, .ref a, l3] st h nx = Df d 226 706 [l0, l1, .ref a, l3] (.ref a :: st) h nx := D_aload_n (ins_of mc_226 (pc := 705) (x := (.aload_n 2, 1)) (by decide +kernel)) rfl
theorem e_226_706 : Df d 226 706 [.ref a, l1, l2, l3] st h nx = Df d 226 707 [.ref a, l1, l2, l3] (.ref a :: st) h nx := D_aload_n (ins_of mc_226 (pc := 706) (x := (.aload_n 0, 1)) (by decide +kernel)) rfl
theorem e_226_707 : Df d 226 707 [l0, l1, l2, .int x] st h nx = Df d 226 708 [l0, l1, l2, .int x] (.int x :: st) h nx := D_iload_n (ins_of mc_226 (pc := 707) (x := (.iload_n 3, 1)) (by decide +kernel)) rfl
theorem e_226_708 : Df d 226 708 [l0, l1, l2, l3] st h nx = Df d 226 709 [l0, l1, l2, l3] (.int 1 :: st) h nx := D_iconst (ins_of mc_226 (pc := 708) (x := (.iconst 1, 1)) (by decide +kernel)) (by decide)
theorem e_226_709 : Df d 226 709 [l0, l1, l2, l3] (.int y :: .int x :: st) h nx = Df d 226 710 [l0, l1, l2, l3] (.int (x + y) :: st) h nx := D_iadd (ins_of mc_226 (pc := 709) (x := (.iadd, 1)) (by decide +kernel))
theorem e_226_710 : Df d 226 710 [l0, l1, l2, l3] (.int x :: .ref a :: st) h nx = (rX h a x).bind fun v => Df d 226 711 [l0, l1, l2, l3] (.int v :: st) h nx := D_iaload (ins_of mc_226 (pc := 710) (x := (.iaload, 1)) (by decide +kernel))
theorem e_226_711 : Df d 226 711 [l0, l1, l2, l3] [v0, .ref a, s0] h nx = if ck h a 9 = true then cn d 226 714 [l0, l1, l2, l3] [s0] (Dn d 172 [.ref a, v0] h nx) else none := D_virtual (k1 := 172) (ins_of mc_226 (pc := 711) (x := (.invokevirtual 84, 3)) (by decide +kernel)) mo_226 (by decide +kernel) (by decide) rfl rfl (by decide) rfl (Nat.le_of_ble_eq_true rfl) rfl
theorem e_226_714 : Df d 226 714 [l0, l1, l2, l3] (.int y :: .int x :: st) h nx = if x = y then Df d 226 1388 [l0, l1, l2, l3] st h nx else Df d 226 717 [l0, l1, l2, l3] st h nx := D_icmp_eq (ins_of mc_226 (pc := 714) (x := (.if_icmp .eq 674, 3)) (by decide +kernel)) (by decide)
theorem e_226_717 : Df d 226 717 [l0, l1, l2, l3] st h nx = Df d 226 718 [l0, l1, l2, l3] (.int 0 :: st) h nx := D_iconst (ins_of mc_226 (pc := 717) (x := (.iconst 0, 1)) (by decide +kernel)) (by decide)
theorem e_226_718 : Df d 226 718 [l0, l1, l2, l3] [.int x] h nx = if nR .boolean x = true then some (some (.int x), h, nx) else none := D_zreturn (ins_of mc_226 (pc := 718) (x := (.ireturn, 1)) (by decide +kernel)) mr_226
theorem e_226_719 : Df d 226 719 [l0, .ref a, l2, l3] st h nx = Df d 226 720 [l0, .ref a, l2, l3] (.ref a :: st) h nx := D_aload_n (ins_of mc_226 (pc := 719) (x := (.aload_n 1, 1)) (by decide +kernel)) rfl
theorem e_226_720 : Df d 226 720 [.ref a, l1, l2, l3] st h nx = Df d 226 721 [.ref a, l1, l2, l3] (.ref a :: st) h nx := D_aload_n (ins_of mc_226 (pc := 720) (x := (.aload_n 0, 1)) (by decide +kernel)) rfl
theorem e_226_721 : Df d 226 721 [l0, l1, l2, .int x] st h nx = Df d 226 722 [l0, l1, l2, .int x] (.int x :: st) h nx := D_iload_n (ins_of mc_226 (pc := 721) (x := (.iload_n 3, 1)) (by decide +kernel)) rfl
theorem e_226_722 : Df d 226 722 [l0, l1, l2, l3] st h nx = Df d 226 723 [l0, l1, l2, l3] (.int 1 :: st) h nx := D_iconst (ins_of mc_226 (pc := 722) (x := (.iconst 1, 1)) (by decide +kernel)) (by decide)
theorem e_226_723 : Df d 226 723 [l0, l1, l2, l3] (.int y :: .int x :: st) h nx = Df d 226 724 [l0, l1, l2, l3] (.int (x + y) :: st) h nx := D_iadd (ins_of mc_226 (pc := 723) (x := (.iadd, 1)) (by decide +kernel))
theorem e_226_724 : Df d 226 724 [l0, l1, l2, l3] (.int x :: .ref a :: st) h nx = (rX h a x).bind fun v => Df d 226 725 [l0, l1, l2, l3] (.int v :: st) h nx := D_iaload (ins_of mc_226 (pc := 724) (x := (.iaload, 1)) (by decide +kernel))
theorem e_226_725 : Df d 226 725 [l0, l1, l2, l3] [v0, .ref a] h nx = if ck h a 8 = true then cn d 226 728 [l0, l1, l2, l3] [] (Dn d 94 [.ref a, v0] h nx) else none := D_virtual (k1 := 94) (ins_of mc_226 (pc := 725) (x := (.invokevirtual 85, 3)) (by decide +kernel)) mo_226 (by decide +kernel) (by decide) rfl rfl (by decide) rfl (Nat.le_of_ble_eq_true rfl) rfl
theorem e_226_728 : Df d 226 728 [l0, l1, .ref a, l3] st h nx = Df d 226 729 [l0, l1, .ref a, l3] (.ref a :: st) h nx := D_aload_n (ins_of mc_226 (pc := 728) (x := (.aload_n 2, 1)) (by decide +kernel)) rfl
theorem e_226_729 : Df d 226 729 [.ref a, l1, l2, l3] st h nx = Df d 226 730 [.ref a, l1, l2, l3] (.ref a :: st) h nx := D_aload_n (ins_of mc_226 (pc := 729) (x := (.aload_n 0, 1)) (by decide +kernel)) rfl
theorem e_226_730 : Df d 226 730 [l0, l1, l2, .int x] st h nx = Df d 226 731 [l0, l1, l2, .int x] (.int x :: st) h nx := D_iload_n (ins_of mc_226 (pc := 730) (x := (.iload_n 3, 1)) (by decide +kernel)) rfl
theorem e_226_731 : Df d 226 731 [l0, l1, l2, l3] st h nx = Df d 226 732 [l0, l1, l2, l3] (.int 1 :: st) h nx := D_iconst (ins_of mc_226 (pc := 731) (x := (.iconst 1, 1)) (by decide +kernel)) (by decide)
theorem e_226_732 : Df d 226 732 [l0, l1, l2, l3] (.int y :: .int x :: st) h nx = Df d 226 733 [l0, l1, l2, l3] (.int (x + y) :: st) h nx := D_iadd (ins_of mc_226 (pc := 732) (x := (.iadd, 1)) (by decide +kernel))
theorem e_226_733 : Df d 226 733 [l0, l1, l2, l3] (.int x :: .ref a :: st) h nx = (rX h a x).bind fun v => Df d 226 734 [l0, l1, l2, l3] (.int v :: st) h nx := D_iaload (ins_of mc_226 (pc := 733) (x := (.iaload, 1)) (by decide +kernel))
theorem e_226_734 : Df d 226 734 [l0, l1, l2, l3] [v0, .ref a, s0] h nx = if ck h a 9 = true then cn d 226 737 [l0, l1, l2, l3] [s0] (Dn d 173 [.ref a, v0] h nx) else none := D_virtual (k1 := 173) (ins_of mc_226 (pc := 734) (x := (.invokevirtual 88, 3)) (by decide +kernel)) mo_226 (by decide +kernel) (by decide) rfl rfl (by decide) rfl (Nat.le_of_ble_eq_true rfl) rfl
theorem e_226_737 : Df d 226 737 [l0, l1, l2, l3] (.int y :: .int x :: st) h nx = if x = y then Df d 226 1388 [l0, l1, l2, l3] st h nx else Df d 226 740 [l0, l1, l2, l3] st h nx := D_icmp_eq (ins_of mc_226 (pc := 737) (x := (.if_icmp .eq 651, 3)) (by decide +kernel)) (by decide)
theorem e_226_740 : Df d 226 740 [l0, l1, l2, l3] st h nx = Df d 226 741 [l0, l1, l2, l3] (.int 0 :: st) h nx := D_iconst (ins_of mc_226 (pc := 740) (x := (.iconst 0, 1)) (by decide +kernel)) (by decide)
theorem e_226_741 : Df d 226 741 [l0, l1, l2, l3] [.int x] h nx = if nR .boolean x = true then some (some (.int x), h, nx) else none := D_zreturn (ins_of mc_226 (pc := 741) (x := (.ireturn, 1)) (by decide +kernel)) mr_226
theorem e_226_742 : Df d 226 742 [l0, .ref a, l2, l3] st h nx = Df d 226 743 [l0, .ref a, l2, l3] (.ref a :: st) h nx := D_aload_n (ins_of mc_226 (pc := 742) (x := (.aload_n 1, 1)) (by decide +kernel)) rfl
theorem e_226_743 : Df d 226 743 [.ref a, l1, l2, l3] st h nx = Df d 226 744 [.ref a, l1, l2, l3] (.ref a :: st) h nx := D_aload_n (ins_of mc_226 (pc := 743) (x := (.aload_n 0, 1)) (by decide +kernel)) rfl
theorem e_226_744 : Df d 226 744 [l0, l1, l2, .int x] st h nx = Df d 226 745 [l0, l1, l2, .int x] (.int x :: st) h nx := D_iload_n (ins_of mc_226 (pc := 744) (x := (.iload_n 3, 1)) (by decide +kernel)) rfl
theorem e_226_745 : Df d 226 745 [l0, l1, l2, l3] st h nx = Df d 226 746 [l0, l1, l2, l3] (.int 1 :: st) h nx := D_iconst (ins_of mc_226 (pc := 745) (x := (.iconst 1, 1)) (by decide +kernel)) (by decide)
theorem e_226_746 : Df d 226 746 [l0, l1, l2, l3] (.int y :: .int x :: st) h nx = Df d 226 747 [l0, l1, l2, l3] (.int (x + y) :: st) h nx := D_iadd (ins_of mc_226 (pc := 746) (x := (.iadd, 1)) (by decide +kernel))
theorem e_226_747 : Df d 226 747 [l0, l1, l2, l3] (.int x :: .ref a :: st) h nx = (rX h a x).bind fun v => Df d 226 748 [l0, l1, l2, l3] (.int v :: st) h nx := D_iaload (ins_of mc_226 (pc := 747) (x := (.iaload, 1)) (by decide +kernel))
theorem e_226_748 : Df d 226 748 [.ref a, l1, l2, l3] st h nx = Df d 226 749 [.ref a, l1, l2, l3] (.ref a :: st) h nx := D_aload_n (ins_of mc_226 (pc := 748) (x := (.aload_n 0, 1)) (by decide +kernel)) rfl
theorem e_226_749 : Df d 226 749 [l0, l1, l2, .int x] st h nx = Df d 226 750 [l0, l1, l2, .int x] (.int x :: st) h nx := D_iload_n (ins_of mc_226 (pc := 749) (x := (.iload_n 3, 1)) (by decide +kernel)) rfl
theorem e_226_750 : Df d 226 750 [l0, l1, l2, l3] st h nx = Df d 226 751 [l0, l1, l2, l3] (.int 2 :: st) h nx := D_iconst (ins_of mc_226 (pc := 750) (x := (.iconst 2, 1)) (by decide +kernel)) (by decide)
theorem e_226_751 : Df d 226 751 [l0, l1, l2, l3] (.int y :: .int x :: st) h nx = Df d 226 752 [l0, l1, l2, l3] (.int (x + y) :: st) h nx := D_iadd (ins_of mc_226 (pc := 751) (x := (.iadd, 1)) (by decide +kernel))
theorem e_226_752 : Df d 226 752 [l0, l1, l2, l3] (.int x :: .ref a :: st) h nx = (rX h a x).bind fun v => Df d 226 753 [l0, l1, l2, l3] (.int v :: st) h nx := D_iaload (ins_of mc_226 (pc := 752) (x := (.iaload, 1)) (by decide +kernel))
theorem e_226_753 : Df d 226 753 [.ref a, l1, l2, l3] st h nx = Df d 226 754 [.ref a, l1, l2, l3] (.ref a :: st) h nx := D_aload_n (ins_of mc_226 (pc := 753) (x := (.aload_n 0, 1)) (by decide +kernel)) rfl
theorem e_226_754 : Df d 226 754 [l0, l1, l2, .int x] st h nx = Df d 226 755 [l0, l1, l2, .int x] (.int x :: st) h nx := D_iload_n (ins_of mc_226 (pc := 754) (x := (.iload_n 3, 1)) (by decide +kernel)) rfl
theorem e_226_755 : Df d 226 755 [l0, l1, l2, l3] st h nx = Df d 226 756 [l0, l1, l2, l3] (.int 3 :: st) h nx := D_iconst (ins_of mc_226 (pc := 755) (x := (.iconst 3, 1)) (by decide +kernel)) (by decide)
theorem e_226_756 : Df d 226 756 [l0, l1, l2, l3] (.int y :: .int x :: st) h nx = Df d 226 757 [l0, l1, l2, l3] (.int (x + y) :: st) h nx := D_iadd (ins_of mc_226 (pc := 756) (x := (.iadd, 1)) (by decide +kernel))
theorem e_226_757 : Df d 226 757 [l0, l1, l2, l3] (.int x :: .ref a :: st) h nx = (rX h a x).bind fun v => Df d 226 758 [l0, l1, l2, l3] (.int v :: st) h nx := D_iaload (ins_of mc_226 (pc := 757) (x := (.iaload, 1)) (by decide +kernel))
theorem e_226_758 : Df d 226 758 [l0, l1, l2, l3] [v2, v1, v0, .ref a] h nx = if ck h a 8 = true then cn d 226 761 [l0, l1, l2, l3] [] (Dn d 95 [.ref a, v0, v1, v2] h nx) else none := D_virtual (k1 := 95) (ins_of mc_226 (pc := 758) (x := (.invokevirtual 89, 3)) (by decide +kernel)) mo_226 (by decide +kernel) (by decide) rfl rfl (by decide) rfl (Nat.le_of_ble_eq_true rfl) rfl
theorem e_226_761 : Df d 226 761 [l0, l1, .ref a, l3] st h nx = Df d 226 762 [l0, l1, .ref a, l3] (.ref a :: st) h nx := D_aload_n (ins_of mc_226 (pc := 761) (x := (.aload_n 2, 1)) (by decide +kernel)) rfl
theorem e_226_762 : Df d 226 762 [.ref a, l1, l2, l3] st h nx = Df d 226 763 [.ref a, l1, l2, l3] (.ref a :: st) h nx := D_aload_n (ins_of mc_226 (pc := 762) (x := (.aload_n 0, 1)) (by decide +kernel)) rfl
theorem e_226_763 : Df d 226 763 [l0, l1, l2, .int x] st h nx = Df d 226 764 [l0, l1, l2, .int x] (.int x :: st) h nx := D_iload_n (ins_of mc_226 (pc := 763) (x := (.iload_n 3, 1)) (by decide +kernel)) rfl
theorem e_226_764 : Df d 226 764 [l0, l1, l2, l3] st h nx = Df d 226 765 [l0, l1, l2, l3] (.int 1 :: st) h nx := D_iconst (ins_of mc_226 (pc := 764) (x := (.iconst 1, 1)) (by decide +kernel)) (by decide)
theorem e_226_765 : Df d 226 765 [l0, l1, l2, l3] (.int y :: .int x :: st) h nx = Df d 226 766 [l0, l1, l2, l3] (.int (x + y) :: st) h nx := D_iadd (ins_of mc_226 (pc := 765) (x := (.iadd, 1)) (by decide +kernel))
theorem e_226_766 : Df d 226 766 [l0, l1, l2, l3] (.int x :: .ref a :: st) h nx = (rX h a x).bind fun v => Df d 226 767 [l0, l1, l2, l3] (.int v :: st) h nx := D_iaload (ins_of mc_226 (pc := 766) (x := (.iaload, 1)) (by decide +kernel))
theorem e_226_767 : Df d 226 767 [.ref a, l1, l2, l3] st h nx = Df d 226 768 [.ref a, l1, l2, l3] (.ref a :: st) h nx := D_aload_n (ins_of mc_226 (pc := 767) (x := (.aload_n 0, 1)) (by decide +kernel)) rfl
theorem e_226_768 : Df d 226 768 [l0, l1, l2, .int x] st h nx = Df d 226 769 [l0, l1, l2, .int x] (.int x :: st) h nx := D_iload_n (ins_of mc_226 (pc := 768) (x := (.iload_n 3, 1)) (by decide +kernel)) rfl
theorem e_226_769 : Df d 226 769 [l0, l1, l2, l3] st h nx = Df d 226 770 [l0, l1, l2, l3] (.int 2 :: st) h nx := D_iconst (ins_of mc_226 (pc := 769) (x := (.iconst 2, 1)) (by decide +kernel)) (by decide)
theorem e_226_770 : Df d 226 770 [l0, l1, l2, l3] (.int y :: .int x :: st) h nx = Df d 226 771 [l0, l1, l2, l3] (.int (x + y) :: st) h nx := D_iadd (ins_of mc_226 (pc := 770) (x := (.iadd, 1)) (by decide +kernel))
theorem e_226_771 : Df d 226 771 [l0, l1, l2, l3] (.int x :: .ref a :: st) h nx = (rX h a x).bind fun v => Df d 226 772 [l0, l1, l2, l3] (.int v :: st) h nx := D_iaload (ins_of mc_226 (pc := 771) (x := (.iaload, 1)) (by decide +kernel))
theorem e_226_772 : Df d 226 772 [.ref a, l1, l2, l3] st h nx = Df d 226 773 [.ref a, l1, l2, l3] (.ref a :: st) h nx := D_aload_n (ins_of mc_226 (pc := 772) (x := (.aload_n 0, 1)) (by decide +kernel)) rfl
theorem e_226_773 : Df d 226 773 [l0, l1, l2, .int x] st h nx = Df d 226 774 [l0, l1, l2, .int x] (.int x :: st) h nx := D_iload_n (ins_of mc_226 (pc := 773) (x := (.iload_n 3, 1)) (by decide +kernel)) rfl
theorem e_226_774 : Df d 226 774 [l0, l1, l2, l3] st h nx = Df d 226 775 [l0, l1, l2, l3] (.int 3 :: st) h nx := D_iconst (ins_of mc_226 (pc := 774) (x := (.iconst 3, 1)) (by decide +kernel)) (by decide)
theorem e_226_775 : Df d 226 775 [l0, l1, l2, l3] (.int y :: .int x :: st) h nx = Df d 226 776 [l0, l1, l2, l3] (.int (x + y) :: st) h nx := D_iadd (ins_of mc_226 (pc := 775) (x := (.iadd, 1)) (by decide +kernel))
theorem e_226_776 : Df d 226 776 [l0, l1, l2, l3] (.int x :: .ref a :: st) h nx = (rX h a x).bind fun v => Df d 226 777 [l0, l1, l2, l3] (.int v :: st) h nx := D_iaload (ins_of mc_226 (pc := 776) (x := (.iaload, 1)) (by decide +kernel))
theorem e_226_777 : Df d 226 777 [l0, l1, l2, l3] [v2, v1, v0, .ref a, s0] h nx = if ck h a 9 = true then cn d 226 780 [l0, l1, l2, l3] [s0] (Dn d 174 [.ref a, v0, v1, v2] h nx) else none := D_virtual (k1 := 174) (ins_of mc_226 (pc := 777) (x := (.invokevirtual 92, 3)) (by decide +kernel)) mo_226 (by decide +kernel) (by decide) rfl rfl (by decide) rfl (Nat.le_of_ble_eq_true rfl) rfl
theorem e_226_780 : Df d 226 780 [l0, l1, l2, l3] (.int y :: .int x :: st) h nx = if x = y then Df d 226 1388 [l0, l1, l2, l3] st h nx else Df d 226 783 [l0, l1, l2, l3] st h nx := D_icmp_eq (ins_of mc_226 (pc := 780) (x := (.if_icmp .eq 608, 3)) (by decide +kernel)) (by decide)
theorem e_226_783 : Df d 226 783 [l0, l1, l2, l3] st h nx = Df d 226 784 [l0, l1, l2, l3] (.int 0 :: st) h nx := D_iconst (ins_of mc_226 (pc := 783) (x := (.iconst 0, 1)) (by decide +kernel)) (by decide)
theorem e_226_784 : Df d 226 784 [l0, l1, l2, l3] [.int x] h nx = if nR .boolean x = true then some (some (.int x), h, nx) else none := D_zreturn (ins_of mc_226 (pc := 784) (x := (.ireturn, 1)) (by decide +kernel)) mr_226
theorem e_226_785 : Df d 226 785 [l0, .ref a, l2, l3] st h nx = Df d 226 786 [l0, .ref a, l2, l3] (.ref a :: st) h nx := D_aload_n (ins_of mc_226 (pc := 785) (x := (.aload_n 1, 1)) (by decide +kernel)) rfl
theorem e_226_786 : Df d 226 786 [l0, l1, l2, l3] [.ref a] h nx = if ck h a 8 = true then cn d 226 789 [l0, l1, l2, l3] [] (Dn d 98 [.ref a] h nx) else none := D_virtual (k1 := 98) (ins_of mc_226 (pc := 786) (x := (.invokevirtual 93, 3)) (by decide +kernel)) mo_226 (by decide +kernel) (by decide) rfl rfl (by decide) rfl (Nat.le_of_ble_eq_true rfl) rfl
theorem e_226_789 : Df d 226 789 [l0, l1, .ref a, l3] st h nx = Df d 226 790 [l0, l1, .ref a, l3] (.ref a :: st) h nx := D_aload_n (ins_of mc_226 (pc := 789) (x := (.aload_n 2, 1)) (by decide +kernel)) rfl
theorem e_226_790 : Df d 226 790 [l0, l1, l2, l3] [.ref a, s0] h nx = if ck h a 9 = true then cn d 226 793 [l0, l1, l2, l3] [s0] (Dn d 177 [.ref a] h nx) else none := D_virtual (k1 := 177) (ins_of mc_226 (pc := 790) (x := (.invokevirtual 96, 3)) (by decide +kernel)) mo_226 (by decide +kernel) (by decide) rfl rfl (by decide) rfl (Nat.le_of_ble_eq_true rfl) rfl
theorem e_226_793 : Df d 226 793 [l0, l1, l2, l3] (.int y :: .int x :: st) h nx = if x = y then Df d 226 1388 [l0, l1, l2, l3] st h nx else Df d 226 796 [l0, l1, l2, l3] st h nx := D_icmp_eq (ins_of mc_226 (pc := 793) (x := (.if_icmp .eq 595, 3)) (by decide +kernel)) (by decide)
theorem e_226_796 : Df d 226 796 [l0, l1, l2, l3] st h nx = Df d 226 797 [l0, l1, l2, l3] (.int 0 :: st) h nx := D_iconst (ins_of mc_226 (pc := 796) (x := (.iconst 0, 1)) (by decide +kernel)) (by decide)
theorem e_226_797 : Df d 226 797 [l0, l1, l2, l3] [.int x] h nx = if nR .boolean x = true then some (some (.int x), h, nx) else none := D_zreturn (ins_of mc_226 (pc := 797) (x := (.ireturn, 1)) (by decide +kernel)) mr_226
theorem e_226_798 : Df d 226 798 [l0, .ref a, l2, l3] st h nx = Df d 226 799 [l0, .ref a, l2, l3] (.ref a :: st) h nx := D_aload_n (ins_of mc_226 (pc := 798) (x := (.aload_n 1, 1)) (by decide +kernel)) rfl
theorem e_226_799 : Df d 226 799 [.ref a, l1, l2, l3] st h nx = Df d 226 800 [.ref a, l1, l2, l3] (.ref a :: st) h nx := D_aload_n (ins_of mc_226 (pc := 799) (x := (.aload_n 0, 1)) (by decide +kernel)) rfl
theorem e_226_800 : Df d 226 800 [l0, l1, l2, .int x] st h nx = Df d 226 801 [l0, l1, l2, .int x] (.int x :: st) h nx := D_iload_n (ins_of mc_226 (pc := 800) (x := (.iload_n 3, 1)) (by decide +kernel)) rfl
theorem e_226_801 : Df d 226 801 [l0, l1, l2, l3] st h nx = Df d 226 802 [l0, l1, l2, l3] (.int 1 :: st) h nx := D_iconst (ins_of mc_226 (pc := 801) (x := (.iconst 1, 1)) (by decide +kernel)) (by decide)
theorem e_226_802 : Df d 226 802 [l0, l1, l2, l3] (.int y :: .int x :: st) h nx = Df d 226 803 [l0, l1, l2, l3] (.int (x + y) :: st) h nx := D_iadd (ins_of mc_226 (pc := 802) (x := (.iadd, 1)) (by decide +kernel))
theorem e_226_803 : Df d 226 803 [l0, l1, l2, l3] (.int x :: .ref a :: st) h nx = (rX h a x).bind fun v => Df d 226 804 [l0, l1, l2, l3] (.int v :: st) h nx := D_iaload (ins_of mc_226 (pc := 803) (x := (.iaload, 1)) (by decide +kernel))
theorem e_226_804 : Df d 226 804 [l0, l1, l2, l3] [v0, .ref a] h nx = if ck h a 8 = true then cn d 226 807 [l0, l1, l2, l3] [] (Dn d 99 [.ref a, v0] h nx) else none := D_virtual (k1 := 99) (ins_of mc_226 (pc := 804) (x := (.invokevirtual 97, 3)) (by decide +kernel)) mo_226 (by decide +kernel) (by decide) rfl rfl (by decide) rfl (Nat.le_of_ble_eq_true rfl) rfl
theorem e_226_807 : Df d 226 807 [l0, l1, .ref a, l3] st h nx = Df d 226 808 [l0, l1, .ref a, l3] (.ref a :: st) h nx := D_aload_n (ins_of mc_226 (pc := 807) (x := (.aload_n 2, 1)) (by decide +kernel)) rfl
theorem e_226_808 : Df d 226 808 [.ref a, l1, l2, l3] st h nx = Df d 226 809 [.ref a, l1, l2, l3] (.ref a :: st) h nx := D_aload_n (ins_of mc_226 (pc := 808) (x := (.aload_n 0, 1)) (by decide +kernel)) rfl
theorem e_226_809 : Df d 226 809 [l0, l1, l2, .int x] st h nx = Df d 226 810 [l0, l1, l2, .int x] (.int x :: st) h nx := D_iload_n (ins_of mc_226 (pc := 809) (x := (.iload_n 3, 1)) (by decide +kernel)) rfl
theorem e_226_810 : Df d 226 810 [l0, l1, l2, l3] st h nx = Df d 226 811 [l0, l1, l2, l3] (.int 1 :: st) h nx := D_iconst (ins_of mc_226 (pc := 810) (x := (.iconst 1, 1)) (by decide +kernel)) (by decide)
theorem e_226_811 : Df d 226 811 [l0, l1, l2, l3] (.int y :: .int x :: st) h nx = Df d 226 812 [l0, l1, l2, l3] (.int (x + y) :: st) h nx := D_iadd (ins_of mc_226 (pc := 811) (x := (.iadd, 1)) (by decide +kernel))
theorem e_226_812 : Df d 226 812 [l0, l1, l2, l3] (.int x :: .ref a :: st) h nx = (rX h a x).bind fun v => Df d 226 813 [l0, l1, l2, l3] (.int v :: st) h nx := D_iaload (ins_of mc_226 (pc := 812) (x := (.iaload, 1)) (by decide +kernel))
theorem e_226_813 : Df d 226 813 [l0, l1, l2, l3] [v0, .ref a, s0] h nx = if ck h a 9 = true then cn d 226 816 [l0, l1, l2, l3] [s0] (Dn d 178 [.ref a, v0] h nx) else none := D_virtual (k1 := 178) (ins_of mc_226 (pc := 813) (x := (.invokevirtual 100, 3)) (by decide +kernel)) mo_226 (by decide +kernel) (by decide) rfl rfl (by decide) rfl (Nat.le_of_ble_eq_true rfl) rfl
theorem e_226_816 : Df d 226 816 [l0, l1, l2, l3] (.int y :: .int x :: st) h nx = if x = y then Df d 226 1388 [l0, l1, l2, l3] st h nx else Df d 226 819 [l0, l1, l2, l3] st h nx := D_icmp_eq (ins_of mc_226 (pc := 816) (x := (.if_icmp .eq 572, 3)) (by decide +kernel)) (by decide)
theorem e_226_819 : Df d 226 819 [l0, l1, l2, l3] st h nx = Df d 226 820 [l0, l1, l2, l3] (.int 0 :: st) h nx := D_iconst (ins_of mc_226 (pc := 819) (x := (.iconst 0, 1)) (by decide +kernel)) (by decide)
theorem e_226_820 : Df d 226 820 [l0, l1, l2, l3] [.int x] h nx = if nR .boolean x = true then some (some (.int x), h, nx) else none := D_zreturn (ins_of mc_226 (pc := 820) (x := (.ireturn, 1)) (by decide +kernel)) mr_226
theorem e_226_821 : Df d 226 821 [l0, .ref a, l2, l3] st h nx = Df d 226 822 [l0, .ref a, l2, l3] (.ref a :: st) h nx := D_aload_n (ins_of mc_226 (pc := 821) (x := (.aload_n 1, 1)) (by decide +kernel)) rfl
theorem e_226_822 : Df d 226 822 [.ref a, l1, l2, l3] st h nx = Df d 226 823 [.ref a, l1, l2, l3] (.ref a :: st) h nx := D_aload_n (ins_of mc_226 (pc := 822) (x := (.aload_n 0, 1)) (by decide +kernel)) rfl
theorem e_226_823 : Df d 226 823 [l0, l1, l2, .int x] st h nx = Df d 226 824 [l0, l1, l2, .int x] (.int x :: st) h nx := D_iload_n (ins_of mc_226 (pc := 823) (x := (.iload_n 3, 1)) (by decide +kernel)) rfl
theorem e_226_824 : Df d 226 824 [l0, l1, l2, l3] st h nx = Df d 226 825 [l0, l1, l2, l3] (.int 1 :: st) h nx := D_iconst (ins_of mc_226 (pc := 824) (x := (.iconst 1, 1)) (by decide +kernel)) (by decide)
theorem e_226_825 : Df d 226 825 [l0, l1, l2, l3] (.int y :: .int x :: st) h nx = Df d 226 826 [l0, l1, l2, l3] (.int (x + y) :: st) h nx := D_iadd (ins_of mc_226 (pc := 825) (x := (.iadd, 1)) (by decide +kernel))
theorem e_226_826 : Df d 226 826 [l0, l1, l2, l3] (.int x :: .ref a :: st) h nx = (rX h a x).bind fun v => Df d 226 827 [l0, l1, l2, l3] (.int v :: st) h nx := D_iaload (ins_of mc_226 (pc := 826) (x := (.iaload, 1)) (by decide +kernel))
theorem e_226_827 : Df d 226 827 [.ref a, l1, l2, l3] st h nx = Df d 226 828 [.ref a, l1, l2, l3] (.ref a :: st) h nx := D_aload_n (ins_of mc_226 (pc := 827) (x := (.aload_n 0, 1)) (by decide +kernel)) rfl
theorem e_226_828 : Df d 226 828 [l0, l1, l2, .int x] st h nx = Df d 226 829 [l0, l1, l2, .int x] (.int x :: st) h nx := D_iload_n (ins_of mc_226 (pc := 828) (x := (.iload_n 3, 1)) (by decide +kernel)) rfl
theorem e_226_829 : Df d 226 829 [l0, l1, l2, l3] st h nx = Df d 226 830 [l0, l1, l2, l3] (.int 2 :: st) h nx := D_iconst (ins_of mc_226 (pc := 829) (x := (.iconst 2, 1)) (by decide +kernel)) (by decide)
theorem e_226_830 : Df d 226 830 [l0, l1, l2, l3] (.int y :: .int x :: st) h nx = Df d 226 831 [l0, l1, l2, l3] (.int (x + y) :: st) h nx := D_iadd (ins_of mc_226 (pc := 830) (x := (.iadd, 1)) (by decide +kernel))
theorem e_226_831 : Df d 226 831 [l0, l1, l2, l3] (.int x :: .ref a :: st) h nx = (rX h a x).bind fun v => Df d 226 832 [l0, l1, l2, l3] (.int v :: st) h nx := D_iaload (ins_of mc_226 (pc := 831) (x := (.iaload, 1)) (by decide +kernel))
theorem e_226_832 : Df d 226 832 [.ref a, l1, l2, l3] st h nx = Df d 226 833 [.ref a, l1, l2, l3] (.ref a :: st) h nx := D_aload_n (ins_of mc_226 (pc := 832) (x := (.aload_n 0, 1)) (by decide +kernel)) rfl
theorem e_226_833 : Df d 226 833 [l0, l1, l2, .int x] st h nx = Df d 226 834 [l0, l1, l2, .int x] (.int x :: st) h nx := D_iload_n (ins_of mc_226 (pc := 833) (x := (.iload_n 3, 1)) (by decide +kernel)) rfl
theorem e_226_834 : Df d 226 834 [l0, l1, l2, l3] st h nx = Df d 226 835 [l0, l1, l2, l3] (.int 3 :: st) h nx := D_iconst (ins_of mc_226 (pc := 834) (x := (.iconst 3, 1)) (by decide +kernel)) (by decide)
theorem e_226_835 : Df d 226 835 [l0, l1, l2, l3] (.int y :: .int x :: st) h nx = Df d 226 836 [l0, l1, l2, l3] (.int (x + y) :: st) h nx := D_iadd (ins_of mc_226 (pc := 835) (x := (.iadd, 1)) (by decide +kernel))
theorem e_226_836 : Df d 226 836 [l0, l1, l2, l3] (.int x :: .ref a :: st) h nx = (rX h a x).bind fun v => Df d 226 837 [l0, l1, l2, l3] (.int v :: st) h nx := D_iaload (ins_of mc_226 (pc := 836) (x := (.iaload, 1)) (by decide +kernel))
theorem e_226_837 : Df d 226 837 [l0, l1, l2, l3] [v2, v1, v0, .ref a] h nx = if ck h a 8 = true then cn d 226 840 [l0, l1, l2, l3] [] (Dn d 100 [.ref a, v0, v1, v2] h nx) else none := D_virtual (k1 := 100) (ins_of mc_226 (pc := 837) (x := (.invokevirtual 101, 3)) (by decide +kernel)) mo_226 (by decide +kernel) (by decide) rfl rfl (by decide) rfl (Nat.le_of_ble_eq_true rfl) rfl
theorem e_226_840 : Df d 226 840 [l0, l1, .ref a, l3] st h nx = Df d 226 841 [l0, l1, .ref a, l3] (.ref a :: st) h nx := D_aload_n (ins_of mc_226 (pc := 840) (x := (.aload_n 2, 1)) (by decide +kernel)) rfl
theorem e_226_841 : Df d 226 841 [.ref a, l1, l2, l3] st h nx = Df d 226 842 [.ref a, l1, l2, l3] (.ref a :: st) h nx := D_aload_n (ins_of mc_226 (pc := 841) (x := (.aload_n 0, 1)) (by decide +kernel)) rfl
theorem e_226_842 : Df d 226 842 [l0, l1, l2, .int x] st h nx = Df d 226 843 [l0, l1, l2, .int x] (.int x :: st) h nx := D_iload_n (ins_of mc_226 (pc := 842) (x := (.iload_n 3, 1)) (by decide +kernel)) rfl
theorem e_226_843 : Df d 226 843 [l0, l1, l2, l3] st h nx = Df d 226 844 [l0, l1, l2, l3] (.int 1 :: st) h nx := D_iconst (ins_of mc_226 (pc := 843) (x := (.iconst 1, 1)) (by decide +kernel)) (by decide)
theorem e_226_844 : Df d 226 844 [l0, l1, l2, l3] (.int y :: .int x :: st) h nx = Df d 226 845 [l0, l1, l2, l3] (.int (x + y) :: st) h nx := D_iadd (ins_of mc_226 (pc := 844) (x := (.iadd, 1)) (by decide +kernel))
theorem e_226_845 : Df d 226 845 [l0, l1, l2, l3] (.int x :: .ref a :: st) h nx = (rX h a x).bind fun v => Df d 226 846 [l0, l1, l2, l3] (.int v :: st) h nx := D_iaload (ins_of mc_226 (pc := 845) (x := (.iaload, 1)) (by decide +kernel))
theorem e_226_846 : Df d 226 846 [.ref a, l1, l2, l3] st h nx = Df d 226 847 [.ref a, l1, l2, l3] (.ref a :: st) h nx := D_aload_n (ins_of mc_226 (pc := 846) (x := (.aload_n 0, 1)) (by decide +kernel)) rfl
theorem e_226_847 : Df d 226 847 [l0, l1, l2, .int x] st h nx = Df d 226 848 [l0, l1, l2, .int x] (.int x :: st) h nx := D_iload_n (ins_of mc_226 (pc := 847) (x := (.iload_n 3, 1)) (by decide +kernel)) rfl
theorem e_226_848 : Df d 226 848 [l0, l1, l2, l3] st h nx = Df d 226 849 [l0, l1, l2, l3] (.int 2 :: st) h nx := D_iconst (ins_of mc_226 (pc := 848) (x := (.iconst 2, 1)) (by decide +kernel)) (by decide)
theorem e_226_849 : Df d 226 849 [l0, l1, l2, l3] (.int y :: .int x :: st) h nx = Df d 226 850 [l0, l1, l2, l3] (.int (x + y) :: st) h nx := D_iadd (ins_of mc_226 (pc := 849) (x := (.iadd, 1)) (by decide +kernel))
theorem e_226_850 : Df d 226 850 [l0, l1, l2, l3] (.int x :: .ref a :: st) h nx = (rX h a x).bind fun v => Df d 226 851 [l0, l1, l2, l3] (.int v :: st) h nx := D_iaload (ins_of mc_226 (pc := 850) (x := (.iaload, 1)) (by decide +kernel))
theorem e_226_851 : Df d 226 851 [.ref a, l1, l2, l3] st h nx = Df d 226 852 [.ref a, l1, l2, l3] (.ref a :: st) h nx := D_aload_n (ins_of mc_226 (pc := 851) (x := (.aload_n 0, 1)) (by decide +kernel)) rfl
theorem e_226_852 : Df d 226 852 [l0, l1, l2, .int x] st h nx = Df d 226 853 [l0, l1, l2, .int x] (.int x :: st) h nx := D_iload_n (ins_of mc_226 (pc := 852) (x := (.iload_n 3, 1)) (by decide +kernel)) rfl
theorem e_226_853 : Df d 226 853 [l0, l1, l2, l3] st h nx = Df d 226 854 [l0, l1, l2, l3] (.int 3 :: st) h nx := D_iconst (ins_of mc_226 (pc := 853) (x := (.iconst 3, 1)) (by decide +kernel)) (by decide)
theorem e_226_854 : Df d 226 854 [l0, l1, l2, l3] (.int y :: .int x :: st) h nx = Df d 226 855 [l0, l1, l2, l3] (.int (x + y) :: st) h nx := D_iadd (ins_of mc_226 (pc := 854) (x := (.iadd, 1)) (by decide +kernel))
theorem e_226_855 : Df d 226 855 [l0, l1, l2, l3] (.int x :: .ref a :: st) h nx = (rX h a x).bind fun v => Df d 226 856 [l0, l1, l2, l3] (.int v :: st) h nx := D_iaload (ins_of mc_226 (pc := 855) (x := (.iaload, 1)) (by decide +kernel))
theorem e_226_856 : Df d 226 856 [l0, l1, l2, l3] [v2, v1, v0, .ref a, s0] h nx = if ck h a 9 = true then cn d 226 859 [l0, l1, l2, l3] [s0] (Dn d 179 [.ref a, v0, v1, v2] h nx) else none := D_virtual (k1 := 179) (ins_of mc_226 (pc := 856) (x := (.invokevirtual 104, 3)) (by decide +kernel)) mo_226 (by decide +kernel) (by decide) rfl rfl (by decide) rfl (Nat.le_of_ble_eq_true rfl) rfl
theorem e_226_859 : Df d 226 859 [l0, l1, l2, l3] (.int y :: .int x :: st) h nx = if x = y then Df d 226 1388 [l0, l1, l2, l3] st h nx else Df d 226 862 [l0, l1, l2, l3] st h nx := D_icmp_eq (ins_of mc_226 (pc := 859) (x := (.if_icmp .eq 529, 3)) (by decide +kernel)) (by decide)
theorem e_226_862 : Df d 226 862 [l0, l1, l2, l3] st h nx = Df d 226 863 [l0, l1, l2, l3] (.int 0 :: st) h nx := D_iconst (ins_of mc_226 (pc := 862) (x := (.iconst 0, 1)) (by decide +kernel)) (by decide)
theorem e_226_863 : Df d 226 863 [l0, l1, l2, l3] [.int x] h nx = if nR .boolean x = true then some (some (.int x), h, nx) else none := D_zreturn (ins_of mc_226 (pc := 863) (x := (.ireturn, 1)) (by decide +kernel)) mr_226
theorem e_226_864 : Df d 226 864 [l0, .ref a, l2, l3] st h nx = Df d 226 865 [l0, .ref a, l2, l3] (.ref a :: st) h nx := D_aload_n (ins_of mc_226 (pc := 864) (x := (.aload_n 1, 1)) (by decide +kernel)) rfl
theorem e_226_865 : Df d 226 865 [.ref a, l1, l2, l3] st h nx = Df d 226 866 [.ref a, l1, l2, l3] (.ref a :: st) h nx := D_aload_n (ins_of mc_226 (pc := 865) (x := (.aload_n 0, 1)) (by decide +kernel)) rfl
theorem e_226_866 : Df d 226 866 [l0, l1, l2, .int x] st h nx = Df d 226 867 [l0, l1, l2, .int x] (.int x :: st) h nx := D_iload_n (ins_of mc_226 (pc := 866) (x := (.iload_n 3, 1)) (by decide +kernel)) rfl
theorem e_226_867 : Df d 226 867 [l0, l1, l2, l3] st h nx = Df d 226 868 [l0, l1, l2, l3] (.int 1 :: st) h nx := D_iconst (ins_of mc_226 (pc := 867) (x := (.iconst 1, 1)) (by decide +kernel)) (by decide)
theorem e_226_868 : Df d 226 868 [l0, l1, l2, l3] (.int y :: .int x :: st) h nx = Df d 226 869 [l0, l1, l2, l3] (.int (x + y) :: st) h nx := D_iadd (ins_of mc_226 (pc := 868) (x := (.iadd, 1)) (by decide +kernel))
theorem e_226_869 : Df d 226 869 [l0, l1, l2, l3] (.int x :: .ref a :: st) h nx = (rX h a x).bind fun v => Df d 226 870 [l0, l1, l2, l3] (.int v :: st) h nx := D_iaload (ins_of mc_226 (pc := 869) (x := (.iaload, 1)) (by decide +kernel))
theorem e_226_870 : Df d 226 870 [l0, l1, l2, l3] [v0, .ref a] h nx = if ck h a 8 = true then cn d 226 873 [l0, l1, l2, l3] [] (Dn d 101 [.ref a, v0] h nx) else none := D_virtual (k1 := 101) (ins_of mc_226 (pc := 870) (x := (.invokevirtual 105, 3)) (by decide +kernel)) mo_226 (by decide +kernel) (by decide) rfl rfl (by decide) rfl (Nat.le_of_ble_eq_true rfl) rfl
theorem e_226_873 : Df d 226 873 [l0, l1, .ref a, l3] st h nx = Df d 226 874 [l0, l1, .ref a, l3] (.ref a :: st) h nx := D_aload_n (ins_of mc_226 (pc := 873) (x := (.aload_n 2, 1)) (by decide +kernel)) rfl
theorem e_226_874 : Df d 226 874 [.ref a, l1, l2, l3] st h nx = Df d 226 875 [.ref a, l1, l2, l3] (.ref a :: st) h nx := D_aload_n (ins_of mc_226 (pc := 874) (x := (.aload_n 0, 1)) (by decide +kernel)) rfl
theorem e_226_875 : Df d 226 875 [l0, l1, l2, .int x] st h nx = Df d 226 876 [l0, l1, l2, .int x] (.int x :: st) h nx := D_iload_n (ins_of mc_226 (pc := 875) (x := (.iload_n 3, 1)) (by decide +kernel)) rfl
theorem e_226_876 : Df d 226 876 [l0, l1, l2, l3] st h nx = Df d 226 877 [l0, l1, l2, l3] (.int 1 :: st) h nx := D_iconst (ins_of mc_226 (pc := 876) (x := (.iconst 1, 1)) (by decide +kernel)) (by decide)
theorem e_226_877 : Df d 226 877 [l0, l1, l2, l3] (.int y :: .int x :: st) h nx = Df d 226 878 [l0, l1, l2, l3] (.int (x + y) :: st) h nx := D_iadd (ins_of mc_226 (pc := 877) (x := (.iadd, 1)) (by decide +kernel))
theorem e_226_878 : Df d 226 878 [l0, l1, l2, l3] (.int x :: .ref a :: st) h nx = (rX h a x).bind fun v => Df d 226 879 [l0, l1, l2, l3] (.int v :: st) h nx := D_iaload (ins_of mc_226 (pc := 878) (x := (.iaload, 1)) (by decide +kernel))
theorem e_226_879 : Df d 226 879 [l0, l1, l2, l3] [v0, .ref a, s0] h nx = if ck h a 9 = true then cn d 226 882 [l0, l1, l2, l3] [s0] (Dn d 180 [.ref a, v0] h nx) else none := D_virtual (k1 := 180) (ins_of mc_226 (pc := 879) (x := (.invokevirtual 108, 3)) (by decide +kernel)) mo_226 (by decide +kernel) (by decide) rfl rfl (by decide) rfl (Nat.le_of_ble_eq_true rfl) rfl
theorem e_226_882 : Df d 226 882 [l0, l1, l2, l3] (.int y :: .int x :: st) h nx = if x = y then Df d 226 1388 [l0, l1, l2, l3] st h nx else Df d 226 885 [l0, l1, l2, l3] st h nx := D_icmp_eq (ins_of mc_226 (pc := 882) (x := (.if_icmp .eq 506, 3)) (by decide +kernel)) (by decide)
theorem e_226_885 : Df d 226 885 [l0, l1, l2, l3] st h nx = Df d 226 886 [l0, l1, l2, l3] (.int 0 :: st) h nx := D_iconst (ins_of mc_226 (pc := 885) (x := (.iconst 0, 1)) (by decide +kernel)) (by decide)
theorem e_226_886 : Df d 226 886 [l0, l1, l2, l3] [.int x] h nx = if nR .boolean x = true then some (some (.int x), h, nx) else none := D_zreturn (ins_of mc_226 (pc := 886) (x := (.ireturn, 1)) (by decide +kernel)) mr_226
theorem e_226_887 : Df d 226 887 [l0, .ref a, l2, l3] st h nx = Df d 226 888 [l0, .ref a, l2, l3] (.ref a :: st) h nx := D_aload_n (ins_of mc_226 (pc := 887) (x := (.aload_n 1, 1)) (by decide +kernel)) rfl
theorem e_226_888 : Df d 226 888 [l0, l1, l2, l3] [.ref a] h nx = if ck h a 8 = true then cn d 226 891 [l0, l1, l2, l3] [] (Dn d 102 [.ref a] h nx) else none := D_virtual (k1 := 102) (ins_of mc_226 (pc := 888) (x := (.invokevirtual 109, 3)) (by decide +kernel)) mo_226 (by decide +kernel) (by decide) rfl rfl (by decide) rfl (Nat.le_of_ble_eq_true rfl) rfl
theorem e_226_891 : Df d 226 891 [l0, l1, .ref a, l3] st h nx = Df d 226 892 [l0, l1, .ref a, l3] (.ref a :: st) h nx := D_aload_n (ins_of mc_226 (pc := 891) (x := (.aload_n 2, 1)) (by decide +kernel)) rfl
theorem e_226_892 : Df d 226 892 [l0, l1, l2, l3] [.ref a, s0] h nx = if ck h a 9 = true then cn d 226 895 [l0, l1, l2, l3] [s0] (Dn d 181 [.ref a] h nx) else none := D_virtual (k1 := 181) (ins_of mc_226 (pc := 892) (x := (.invokevirtual 112, 3)) (by decide +kernel)) mo_226 (by decide +kernel) (by decide) rfl rfl (by decide) rfl (Nat.le_of_ble_eq_true rfl) rfl
theorem e_226_895 : Df d 226 895 [l0, l1, l2, l3] (.int y :: .int x :: st) h nx = if x = y then Df d 226 1388 [l0, l1, l2, l3] st h nx else Df d 226 898 [l0, l1, l2, l3] st h nx := D_icmp_eq (ins_of mc_226 (pc := 895) (x := (.if_icmp .eq 493, 3)) (by decide +kernel)) (by decide)
theorem e_226_898 : Df d 226 898 [l0, l1, l2, l3] st h nx = Df d 226 899 [l0, l1, l2, l3] (.int 0 :: st) h nx := D_iconst (ins_of mc_226 (pc := 898) (x := (.iconst 0, 1)) (by decide +kernel)) (by decide)
theorem e_226_899 : Df d 226 899 [l0, l1, l2, l3] [.int x] h nx = if nR .boolean x = true then some (some (.int x), h, nx) else none := D_zreturn (ins_of mc_226 (pc := 899) (x := (.ireturn, 1)) (by decide +kernel)) mr_226
theorem e_226_900 : Df d 226 900 [l0, .ref a, l2, l3] st h nx = Df d 226 901 [l0, .ref a, l2, l3] (.ref a :: st) h nx := D_aload_n (ins_of mc_226 (pc := 900) (x := (.aload_n 1, 1)) (by decide +kernel)) rfl
theorem e_226_901 : Df d 226 901 [.ref a, l1, l2, l3] st h nx = Df d 226 902 [.ref a, l1, l2, l3] (.ref a :: st) h nx := D_aload_n (ins_of mc_226 (pc := 901) (x := (.aload_n 0, 1)) (by decide +kernel)) rfl
theorem e_226_902 : Df d 226 902 [l0, l1, l2, .int x] st h nx = Df d 226 903 [l0, l1, l2, .int x] (.int x :: st) h nx := D_iload_n (ins_of mc_226 (pc := 902) (x := (.iload_n 3, 1)) (by decide +kernel)) rfl
theorem e_226_903 : Df d 226 903 [l0, l1, l2, l3] st h nx = Df d 226 904 [l0, l1, l2, l3] (.int 1 :: st) h nx := D_iconst (ins_of mc_226 (pc := 903) (x := (.iconst 1, 1)) (by decide +kernel)) (by decide)
theorem e_226_904 : Df d 226 904 [l0, l1, l2, l3] (.int y :: .int x :: st) h nx = Df d 226 905 [l0, l1, l2, l3] (.int (x + y) :: st) h nx := D_iadd (ins_of mc_226 (pc := 904) (x := (.iadd, 1)) (by decide +kernel))
theorem e_226_905 : Df d 226 905 [l0, l1, l2, l3] (.int x :: .ref a :: st) h nx = (rX h a x).bind fun v => Df d 226 906 [l0, l1, l2, l3] (.int v :: st) h nx := D_iaload (ins_of mc_226 (pc := 905) (x := (.iaload, 1)) (by decide +kernel))
theorem e_226_906 : Df d 226 906 [.ref a, l1, l2, l3] st h nx = Df d 226 907 [.ref a, l1, l2, l3] (.ref a :: st) h nx := D_aload_n (ins_of mc_226 (pc := 906) (x := (.aload_n 0, 1)) (by decide +kernel)) rfl
theorem e_226_907 : Df d 226 907 [l0, l1, l2, .int x] st h nx = Df d 226 908 [l0, l1, l2, .int x] (.int x :: st) h nx := D_iload_n (ins_of mc_226 (pc := 907) (x := (.iload_n 3, 1)) (by decide +kernel)) rfl
theorem e_226_908 : Df d 226 908 [l0, l1, l2, l3] st h nx = Df d 226 909 [l0, l1, l2, l3] (.int 2 :: st) h nx := D_iconst (ins_of mc_226 (pc := 908) (x := (.iconst 2, 1)) (by decide +kernel)) (by decide)
theorem e_226_909 : Df d 226 909 [l0, l1, l2, l3] (.int y :: .int x :: st) h nx = Df d 226 910 [l0, l1, l2, l3] (.int (x + y) :: st) h nx := D_iadd (ins_of mc_226 (pc := 909) (x := (.iadd, 1)) (by decide +kernel))
theorem e_226_910 : Df d 226 910 [l0, l1, l2, l3] (.int x :: .ref a :: st) h nx = (rX h a x).bind fun v => Df d 226 911 [l0, l1, l2, l3] (.int v :: st) h nx := D_iaload (ins_of mc_226 (pc := 910) (x := (.iaload, 1)) (by decide +kernel))
theorem e_226_911 : Df d 226 911 [l0, l1, l2, l3] [v1, v0, .ref a] h nx = if ck h a 8 = true then cn d 226 914 [l0, l1, l2, l3] [] (Dn d 103 [.ref a, v0, v1] h nx) else none := D_virtual (k1 := 103) (ins_of mc_226 (pc := 911) (x := (.invokevirtual 113, 3)) (by decide +kernel)) mo_226 (by decide +kernel) (by decide) rfl rfl (by decide) rfl (Nat.le_of_ble_eq_true rfl) rfl
theorem e_226_914 : Df d 226 914 [l0, l1, .ref a, l3] st h nx = Df d 226 915 [l0, l1, .ref a, l3] (.ref a :: st) h nx := D_aload_n (ins_of mc_226 (pc := 914) (x := (.aload_n 2, 1)) (by decide +kernel)) rfl
theorem e_226_915 : Df d 226 915 [.ref a, l1, l2, l3] st h nx = Df d 226 916 [.ref a, l1, l2, l3] (.ref a :: st) h nx := D_aload_n (ins_of mc_226 (pc := 915) (x := (.aload_n 0, 1)) (by decide +kernel)) rfl
theorem e_226_916 : Df d 226 916 [l0, l1, l2, .int x] st h nx = Df d 226 917 [l0, l1, l2, .int x] (.int x :: st) h nx := D_iload_n (ins_of mc_226 (pc := 916) (x := (.iload_n 3, 1)) (by decide +kernel)) rfl
theorem e_226_917 : Df d 226 917 [l0, l1, l2, l3] st h nx = Df d 226 918 [l0, l1, l2, l3] (.int 1 :: st) h nx := D_iconst (ins_of mc_226 (pc := 917) (x := (.iconst 1, 1)) (by decide +kernel)) (by decide)
theorem e_226_918 : Df d 226 918 [l0, l1, l2, l3] (.int y :: .int x :: st) h nx = Df d 226 919 [l0, l1, l2, l3] (.int (x + y) :: st) h nx := D_iadd (ins_of mc_226 (pc := 918) (x := (.iadd, 1)) (by decide +kernel))
theorem e_226_919 : Df d 226 919 [l0, l1, l2, l3] (.int x :: .ref a :: st) h nx = (rX h a x).bind fun v => Df d 226 920 [l0, l1, l2, l3] (.int v :: st) h nx := D_iaload (ins_of mc_226 (pc := 919) (x := (.iaload, 1)) (by decide +kernel))
theorem e_226_920 : Df d 226 920 [.ref a, l1, l2, l3] st h nx = Df d 226 921 [.ref a, l1, l2, l3] (.ref a :: st) h nx := D_aload_n (ins_of mc_226 (pc := 920) (x := (.aload_n 0, 1)) (by decide +kernel)) rfl
theorem e_226_921 : Df d 226 921 [l0, l1, l2, .int x] st h nx = Df d 226 922 [l0, l1, l2, .int x] (.int x :: st) h nx := D_iload_n (ins_of mc_226 (pc := 921) (x := (.iload_n 3, 1)) (by decide +kernel)) rfl
theorem e_226_922 : Df d 226 922 [l0, l1, l2, l3] st h nx = Df d 226 923 [l0, l1, l2, l3] (.int 2 :: st) h nx := D_iconst (ins_of mc_226 (pc := 922) (x := (.iconst 2, 1)) (by decide +kernel)) (by decide)
theorem e_226_923 : Df d 226 923 [l0, l1, l2, l3] (.int y :: .int x :: st) h nx = Df d 226 924 [l0, l1, l2, l3] (.int (x + y) :: st) h nx := D_iadd (ins_of mc_226 (pc := 923) (x := (.iadd, 1)) (by decide +kernel))
theorem e_226_924 : Df d 226 924 [l0, l1, l2, l3] (.int x :: .ref a :: st) h nx = (rX h a x).bind fun v => Df d 226 925 [l0, l1, l2, l3] (.int v :: st) h nx := D_iaload (ins_of mc_226 (pc := 924) (x := (.iaload, 1)) (by decide +kernel))
theorem e_226_925 : Df d 226 925 [l0, l1, l2, l3] [v1, v0, .ref a, s0] h nx = if ck h a 9 = true then cn d 226 928 [l0, l1, l2, l3] [s0] (Dn d 193 [.ref a, v0, v1] h nx) else none := D_virtual (k1 := 193) (ins_of mc_226 (pc := 925) (x := (.invokevirtual 116, 3)) (by decide +kernel)) mo_226 (by decide +kernel) (by decide) rfl rfl (by decide) rfl (Nat.le_of_ble_eq_true rfl) rfl
theorem e_226_928 : Df d 226 928 [l0, l1, l2, l3] (.int y :: .int x :: st) h nx = if x = y then Df d 226 1388 [l0, l1, l2, l3] st h nx else Df d 226 931 [l0, l1, l2, l3] st h nx := D_icmp_eq (ins_of mc_226 (pc := 928) (x := (.if_icmp .eq 460, 3)) (by decide +kernel)) (by decide)
theorem e_226_931 : Df d 226 931 [l0, l1, l2, l3] st h nx = Df d 226 932 [l0, l1, l2, l3] (.int 0 :: st) h nx := D_iconst (ins_of mc_226 (pc := 931) (x := (.iconst 0, 1)) (by decide +kernel)) (by decide)
theorem e_226_932 : Df d 226 932 [l0, l1, l2, l3] [.int x] h nx = if nR .boolean x = true then some (some (.int x), h, nx) else none := D_zreturn (ins_of mc_226 (pc := 932) (x := (.ireturn, 1)) (by decide +kernel)) mr_226
theorem e_226_933 : Df d 226 933 [l0, .ref a, l2, l3] st h nx = Df d 226 934 [l0, .ref a, l2, l3] (.ref a :: st) h nx := D_aload_n (ins_of mc_226 (pc := 933) (x := (.aload_n 1, 1)) (by decide +kernel)) rfl
theorem e_226_934 : Df d 226 934 [.ref a, l1, l2, l3] st h nx = Df d 226 935 [.ref a, l1, l2, l3] (.ref a :: st) h nx := D_aload_n (ins_of mc_226 (pc := 934) (x := (.aload_n 0, 1)) (by decide +kernel)) rfl
theorem e_226_935 : Df d 226 935 [l0, l1, l2, .int x] st h nx = Df d 226 936 [l0, l1, l2, .int x] (.int x :: st) h nx := D_iload_n (ins_of mc_226 (pc := 935) (x := (.iload_n 3, 1)) (by decide +kernel)) rfl
theorem e_226_936 : Df d 226 936 [l0, l1, l2, l3] st h nx = Df d 226 937 [l0, l1, l2, l3] (.int 1 :: st) h nx := D_iconst (ins_of mc_226 (pc := 936) (x := (.iconst 1, 1)) (by decide +kernel)) (by decide)
theorem e_226_937 : Df d 226 937 [l0, l1, l2, l3] (.int y :: .int x :: st) h nx = Df d 226 938 [l0, l1, l2, l3] (.int (x + y) :: st) h nx := D_iadd (ins_of mc_226 (pc := 937) (x := (.iadd, 1)) (by decide +kernel))
theorem e_226_938 : Df d 226 938 [l0, l1, l2, l3] (.int x :: .ref a :: st) h nx = (rX h a x).bind fun v => Df d 226 939 [l0, l1, l2, l3] (.int v :: st) h nx := D_iaload (ins_of mc_226 (pc := 938) (x := (.iaload, 1)) (by decide +kernel))
theorem e_226_939 : Df d 226 939 [l0, l1, l2, l3] [v0, .ref a] h nx = if ck h a 8 = true then cn d 226 942 [l0, l1, l2, l3] [] (Dn d 104 [.ref a, v0] h nx) else none := D_virtual (k1 := 104) (ins_of mc_226 (pc := 939) (x := (.invokevirtual 117, 3)) (by decide +kernel)) mo_226 (by decide +kernel) (by decide) rfl rfl (by decide) rfl (Nat.le_of_ble_eq_true rfl) rfl
theorem e_226_942 : Df d 226 942 [l0, l1, .ref a, l3] st h nx = Df d 226 943 [l0, l1, .ref a, l3] (.ref a :: st) h nx := D_aload_n (ins_of mc_226 (pc := 942) (x := (.aload_n 2, 1)) (by decide +kernel)) rfl
theorem e_226_943 : Df d 226 943 [.ref a, l1, l2, l3] st h nx = Df d 226 944 [.ref a, l1, l2, l3] (.ref a :: st) h nx := D_aload_n (ins_of mc_226 (pc := 943) (x := (.aload_n 0, 1)) (by decide +kernel)) rfl
theorem e_226_944 : Df d 226 944 [l0, l1, l2, .int x] st h nx = Df d 226 945 [l0, l1, l2, .int x] (.int x :: st) h nx := D_iload_n (ins_of mc_226 (pc := 944) (x := (.iload_n 3, 1)) (by decide +kernel)) rfl
theorem e_226_945 : Df d 226 945 [l0, l1, l2, l3] st h nx = Df d 226 946 [l0, l1, l2, l3] (.int 1 :: st) h nx := D_iconst (ins_of mc_226 (pc := 945) (x := (.iconst 1, 1)) (by decide +kernel)) (by decide)
theorem e_226_946 : Df d 226 946 [l0, l1, l2, l3] (.int y :: .int x :: st) h nx = Df d 226 947 [l0, l1, l2, l3] (.int (x + y) :: st) h nx := D_iadd (ins_of mc_226 (pc := 946) (x := (.iadd, 1)) (by decide +kernel))
theorem e_226_947 : Df d 226 947 [l0, l1, l2, l3] (.int x :: .ref a :: st) h nx = (rX h a x).bind fun v => Df d 226 948 [l0, l1, l2, l3] (.int v :: st) h nx := D_iaload (ins_of mc_226 (pc := 947) (x := (.iaload, 1)) (by decide +kernel))
theorem e_226_948 : Df d 226 948 [l0, l1, l2, l3] [v0, .ref a, s0] h nx = if ck h a 9 = true then cn d 226 951 [l0, l1, l2, l3] [s0] (Dn d 194 [.ref a, v0] h nx) else none := D_virtual (k1 := 194) (ins_of mc_226 (pc := 948) (x := (.invokevirtual 120, 3)) (by decide +kernel)) mo_226 (by decide +kernel) (by decide) rfl rfl (by decide) rfl (Nat.le_of_ble_eq_true rfl) rfl
theorem e_226_951 : Df d 226 951 [l0, l1, l2, l3] (.int y :: .int x :: st) h nx = if x = y then Df d 226 1388 [l0, l1, l2, l3] st h nx else Df d 226 954 [l0, l1, l2, l3] st h nx := D_icmp_eq (ins_of mc_226 (pc := 951) (x := (.if_icmp .eq 437, 3)) (by decide +kernel)) (by decide)
theorem e_226_954 : Df d 226 954 [l0, l1, l2, l3] st h nx = Df d 226 955 [l0, l1, l2, l3] (.int 0 :: st) h nx := D_iconst (ins_of mc_226 (pc := 954) (x := (.iconst 0, 1)) (by decide +kernel)) (by decide)
theorem e_226_955 : Df d 226 955 [l0, l1, l2, l3] [.int x] h nx = if nR .boolean x = true then some (some (.int x), h, nx) else none := D_zreturn (ins_of mc_226 (pc := 955) (x := (.ireturn, 1)) (by decide +kernel)) mr_226
theorem e_226_956 : Df d 226 956 [l0, .ref a, l2, l3] st h nx = Df d 226 957 [l0, .ref a, l2, l3] (.ref a :: st) h nx := D_aload_n (ins_of mc_226 (pc := 956) (x := (.aload_n 1, 1)) (by decide +kernel)) rfl
theorem e_226_957 : Df d 226 957 [.ref a, l1, l2, l3] st h nx = Df d 226 958 [.ref a, l1, l2, l3] (.ref a :: st) h nx := D_aload_n (ins_of mc_226 (pc := 957) (x := (.aload_n 0, 1)) (by decide +kernel)) rfl
theorem e_226_958 : Df d 226 958 [l0, l1, l2, .int x] st h nx = Df d 226 959 [l0, l1, l2, .int x] (.int x :: st) h nx := D_iload_n (ins_of mc_226 (pc := 958) (x := (.iload_n 3, 1)) (by decide +kernel)) rfl
theorem e_226_959 : Df d 226 959 [l0, l1, l2, l3] st h nx = Df d 226 960 [l0, l1, l2, l3] (.int 1 :: st) h nx := D_iconst (ins_of mc_226 (pc := 959) (x := (.iconst 1, 1)) (by decide +kernel)) (by decide)
theorem e_226_960 : Df d 226 960 [l0, l1, l2, l3] (.int y :: .int x :: st) h nx = Df d 226 961 [l0, l1, l2, l3] (.int (x + y) :: st) h nx := D_iadd (ins_of mc_226 (pc := 960) (x := (.iadd, 1)) (by decide +kernel))
theorem e_226_961 : Df d 226 961 [l0, l1, l2, l3] (.int x :: .ref a :: st) h nx = (rX h a x).bind fun v => Df d 226 962 [l0, l1, l2, l3] (.int v :: st) h nx := D_iaload (ins_of mc_226 (pc := 961) (x := (.iaload, 1)) (by decide +kernel))
theorem e_226_962 : Df d 226 962 [.ref a, l1, l2, l3] st h nx = Df d 226 963 [.ref a, l1, l2, l3] (.ref a :: st) h nx := D_aload_n (ins_of mc_226 (pc := 962) (x := (.aload_n 0, 1)) (by decide +kernel)) rfl
theorem e_226_963 : Df d 226 963 [l0, l1, l2, .int x] st h nx = Df d 226 964 [l0, l1, l2, .int x] (.int x :: st) h nx := D_iload_n (ins_of mc_226 (pc := 963) (x := (.iload_n 3, 1)) (by decide +kernel)) rfl
theorem e_226_964 : Df d 226 964 [l0, l1, l2, l3] st h nx = Df d 226 965 [l0, l1, l2, l3] (.int 2 :: st) h nx := D_iconst (ins_of mc_226 (pc := 964) (x := (.iconst 2, 1)) (by decide +kernel)) (by decide)
theorem e_226_965 : Df d 226 965 [l0, l1, l2, l3] (.int y :: .int x :: st) h nx = Df d 226 966 [l0, l1, l2, l3] (.int (x + y) :: st) h nx := D_iadd (ins_of mc_226 (pc := 965) (x := (.iadd, 1)) (by decide +kernel))
theorem e_226_966 : Df d 226 966 [l0, l1, l2, l3] (.int x :: .ref a :: st) h nx = (rX h a x).bind fun v => Df d 226 967 [l0, l1, l2, l3] (.int v :: st) h nx := D_iaload (ins_of mc_226 (pc := 966) (x := (.iaload, 1)) (by decide +kernel))
theorem e_226_967 : Df d 226 967 [.ref a, l1, l2, l3] st h nx = Df d 226 968 [.ref a, l1, l2, l3] (.ref a :: st) h nx := D_aload_n (ins_of mc_226 (pc := 967) (x := (.aload_n 0, 1)) (by decide +kernel)) rfl
theorem e_226_968 : Df d 226 968 [l0, l1, l2, .int x] st h nx = Df d 226 969 [l0, l1, l2, .int x] (.int x :: st) h nx := D_iload_n (ins_of mc_226 (pc := 968) (x := (.iload_n 3, 1)) (by decide +kernel)) rfl
theorem e_226_969 : Df d 226 969 [l0, l1, l2, l3] st h nx = Df d 226 970 [l0, l1, l2, l3] (.int 3 :: st) h nx := D_iconst (ins_of mc_226 (pc := 969) (x := (.iconst 3, 1)) (by decide +kernel)) (by decide)
theorem e_226_970 : Df d 226 970 [l0, l1, l2, l3] (.int y :: .int x :: st) h nx = Df d 226 971 [l0, l1, l2, l3] (.int (x + y) :: st) h nx := D_iadd (ins_of mc_226 (pc := 970) (x := (.iadd, 1)) (by decide +kernel))
theorem e_226_971 : Df d 226 971 [l0, l1, l2, l3] (.int x :: .ref a :: st) h nx = (rX h a x).bind fun v => Df d 226 972 [l0, l1, l2, l3] (.int v :: st) h nx := D_iaload (ins_of mc_226 (pc := 971) (x := (.iaload, 1)) (by decide +kernel))
theorem e_226_972 : Df d 226 972 [l0, l1, l2, l3] [v2, v1, v0, .ref a] h nx = if ck h a 8 = true then cn d 226 975 [l0, l1, l2, l3] [] (Dn d 105 [.ref a, v0, v1, v2] h nx) else none := D_virtual (k1 := 105) (ins_of mc_226 (pc := 972) (x := (.invokevirtual 121, 3)) (by decide +kernel)) mo_226 (by decide +kernel) (by decide) rfl rfl (by decide) rfl (Nat.le_of_ble_eq_true rfl) rfl
theorem e_226_975 : Df d 226 975 [l0, l1, .ref a, l3] st h nx = Df d 226 976 [l0, l1, .ref a, l3] (.ref a :: st) h nx := D_aload_n (ins_of mc_226 (pc := 975) (x := (.aload_n 2, 1)) (by decide +kernel)) rfl
theorem e_226_976 : Df d 226 976 [.ref a, l1, l2, l3] st h nx = Df d 226 977 [.ref a, l1, l2, l3] (.ref a :: st) h nx := D_aload_n (ins_of mc_226 (pc := 976) (x := (.aload_n 0, 1)) (by decide +kernel)) rfl
theorem e_226_977 : Df d 226 977 [l0, l1, l2, .int x] st h nx = Df d 226 978 [l0, l1, l2, .int x] (.int x :: st) h nx := D_iload_n (ins_of mc_226 (pc := 977) (x := (.iload_n 3, 1)) (by decide +kernel)) rfl
theorem e_226_978 : Df d 226 978 [l0, l1, l2, l3] st h nx = Df d 226 979 [l0, l1, l2, l3] (.int 1 :: st) h nx := D_iconst (ins_of mc_226 (pc := 978) (x := (.iconst 1, 1)) (by decide +kernel)) (by decide)
theorem e_226_979 : Df d 226 979 [l0, l1, l2, l3] (.int y :: .int x :: st) h nx = Df d 226 980 [l0, l1, l2, l3] (.int (x + y) :: st) h nx := D_iadd (ins_of mc_226 (pc := 979) (x := (.iadd, 1)) (by decide +kernel))
theorem e_226_980 : Df d 226 980 [l0, l1, l2, l3] (.int x :: .ref a :: st) h nx = (rX h a x).bind fun v => Df d 226 981 [l0, l1, l2, l3] (.int v :: st) h nx := D_iaload (ins_of mc_226 (pc := 980) (x := (.iaload, 1)) (by decide +kernel))
theorem e_226_981 : Df d 226 981 [.ref a, l1, l2, l3] st h nx = Df d 226 982 [.ref a, l1, l2, l3] (.ref a :: st) h nx := D_aload_n (ins_of mc_226 (pc := 981) (x := (.aload_n 0, 1)) (by decide +kernel)) rfl
theorem e_226_982 : Df d 226 982 [l0, l1, l2, .int x] st h nx = Df d 226 983 [l0, l1, l2, .int x] (.int x :: st) h nx := D_iload_n (ins_of mc_226 (pc := 982) (x := (.iload_n 3, 1)) (by decide +kernel)) rfl
theorem e_226_983 : Df d 226 983 [l0, l1, l2, l3] st h nx = Df d 226 984 [l0, l1, l2, l3] (.int 2 :: st) h nx := D_iconst (ins_of mc_226 (pc := 983) (x := (.iconst 2, 1)) (by decide +kernel)) (by decide)
theorem e_226_984 : Df d 226 984 [l0, l1, l2, l3] (.int y :: .int x :: st) h nx = Df d 226 985 [l0, l1, l2, l3] (.int (x + y) :: st) h nx := D_iadd (ins_of mc_226 (pc := 984) (x := (.iadd, 1)) (by decide +kernel))
theorem e_226_985 : Df d 226 985 [l0, l1, l2, l3] (.int x :: .ref a :: st) h nx = (rX h a x).bind fun v => Df d 226 986 [l0, l1, l2, l3] (.int v :: st) h nx := D_iaload (ins_of mc_226 (pc := 985) (x := (.iaload, 1)) (by decide +kernel))
theorem e_226_986 : Df d 226 986 [.ref a, l1, l2, l3] st h nx = Df d 226 987 [.ref a, l1, l2, l3] (.ref a :: st) h nx := D_aload_n (ins_of mc_226 (pc := 986) (x := (.aload_n 0, 1)) (by decide +kernel)) rfl
theorem e_226_987 : Df d 226 987 [l0, l1, l2, .int x] st h nx = Df d 226 988 [l0, l1, l2, .int x] (.int x :: st) h nx := D_iload_n (ins_of mc_226 (pc := 987) (x := (.iload_n 3, 1)) (by decide +kernel)) rfl
theorem e_226_988 : Df d 226 988 [l0, l1, l2, l3] st h nx = Df d 226 989 [l0, l1, l2, l3] (.int 3 :: st) h nx := D_iconst (ins_of mc_226 (pc := 988) (x := (.iconst 3, 1)) (by decide +kernel)) (by decide)
theorem e_226_989 : Df d 226 989 [l0, l1, l2, l3] (.int y :: .int x :: st) h nx = Df d 226 990 [l0, l1, l2, l3] (.int (x + y) :: st) h nx := D_iadd (ins_of mc_226 (pc := 989) (x := (.iadd, 1)) (by decide +kernel))
theorem e_226_990 : Df d 226 990 [l0, l1, l2, l3] (.int x :: .ref a :: st) h nx = (rX h a x).bind fun v => Df d 226 991 [l0, l1, l2, l3] (.int v :: st) h nx := D_iaload (ins_of mc_226 (pc := 990) (x := (.iaload, 1)) (by decide +kernel))
theorem e_226_991 : Df d 226 991 [l0, l1, l2, l3] [v2, v1, v0, .ref a, s0] h nx = if ck h a 9 = true then cn d 226 994 [l0, l1, l2, l3] [s0] (Dn d 195 [.ref a, v0, v1, v2] h nx) else none := D_virtual (k1 := 195) (ins_of mc_226 (pc := 991) (x := (.invokevirtual 124, 3)) (by decide +kernel)) mo_226 (by decide +kernel) (by decide) rfl rfl (by decide) rfl (Nat.le_of_ble_eq_true rfl) rfl
theorem e_226_994 : Df d 226 994 [l0, l1, l2, l3] (.int y :: .int x :: st) h nx = if x = y then Df d 226 1388 [l0, l1, l2, l3] st h nx else Df d 226 997 [l0, l1, l2, l3] st h nx := D_icmp_eq (ins_of mc_226 (pc := 994) (x := (.if_icmp .eq 394, 3)) (by decide +kernel)) (by decide)
theorem e_226_997 : Df d 226 997 [l0, l1, l2, l3] st h nx = Df d 226 998 [l0, l1, l2, l3] (.int 0 :: st) h nx := D_iconst (ins_of mc_226 (pc := 997) (x := (.iconst 0, 1)) (by decide +kernel)) (by decide)
theorem e_226_998 : Df d 226 998 [l0, l1, l2, l3] [.int x] h nx = if nR .boolean x = true then some (some (.int x), h, nx) else none := D_zreturn (ins_of mc_226 (pc := 998) (x := (.ireturn, 1)) (by decide +kernel)) mr_226
theorem e_226_999 : Df d 226 999 [l0, .ref a, l2, l3] st h nx = Df d 226 1000 [l0, .ref a, l2, l3] (.ref a :: st) h nx := D_aload_n (ins_of mc_226 (pc := 999) (x := (.aload_n 1, 1)) (by decide +kernel)) rfl
theorem e_226_1000 : Df d 226 1000 [.ref a, l1, l2, l3] st h nx = Df d 226 1001 [.ref a, l1, l2, l3] (.ref a :: st) h nx := D_aload_n (ins_of mc_226 (pc := 1000) (x := (.aload_n 0, 1)) (by decide +kernel)) rfl
theorem e_226_1001 : Df d 226 1001 [l0, l1, l2, .int x] st h nx = Df d 226 1002 [l0, l1, l2, .int x] (.int x :: st) h nx := D_iload_n (ins_of mc_226 (pc := 1001) (x := (.iload_n 3, 1)) (by decide +kernel)) rfl
theorem e_226_1002 : Df d 226 1002 [l0, l1, l2, l3] st h nx = Df d 226 1003 [l0, l1, l2, l3] (.int 1 :: st) h nx := D_iconst (ins_of mc_226 (pc := 1002) (x := (.iconst 1, 1)) (by decide +kernel)) (by decide)
theorem e_226_1003 : Df d 226 1003 [l0, l1, l2, l3] (.int y :: .int x :: st) h nx = Df d 226 1004 [l0, l1, l2, l3] (.int (x + y) :: st) h nx := D_iadd (ins_of mc_226 (pc := 1003) (x := (.iadd, 1)) (by decide +kernel))
theorem e_226_1004 : Df d 226 1004 [l0, l1, l2, l3] (.int x :: .ref a :: st) h nx = (rX h a x).bind fun v => Df d 226 1005 [l0, l1, l2, l3] (.int v :: st) h nx := D_iaload (ins_of mc_226 (pc := 1004) (x := (.iaload, 1)) (by decide +kernel))
theorem e_226_1005 : Df d 226 1005 [.ref a, l1, l2, l3] st h nx = Df d 226 1006 [.ref a, l1, l2, l3] (.ref a :: st) h nx := D_aload_n (ins_of mc_226 (pc := 1005) (x := (.aload_n 0, 1)) (by decide +kernel)) rfl
theorem e_226_1006 : Df d 226 1006 [l0, l1, l2, .int x] st h nx = Df d 226 1007 [l0, l1, l2, .int x] (.int x :: st) h nx := D_iload_n (ins_of mc_226 (pc := 1006) (x := (.iload_n 3, 1)) (by decide +kernel)) rfl
theorem e_226_1007 : Df d 226 1007 [l0, l1, l2, l3] st h nx = Df d 226 1008 [l0, l1, l2, l3] (.int 2 :: st) h nx := D_iconst (ins_of mc_226 (pc := 1007) (x := (.iconst 2, 1)) (by decide +kernel)) (by decide)
theorem e_226_1008 : Df d 226 1008 [l0, l1, l2, l3] (.int y :: .int x :: st) h nx = Df d 226 1009 [l0, l1, l2, l3] (.int (x + y) :: st) h nx := D_iadd (ins_of mc_226 (pc := 1008) (x := (.iadd, 1)) (by decide +kernel))
theorem e_226_1009 : Df d 226 1009 [l0, l1, l2, l3] (.int x :: .ref a :: st) h nx = (rX h a x).bind fun v => Df d 226 1010 [l0, l1, l2, l3] (.int v :: st) h nx := D_iaload (ins_of mc_226 (pc := 1009) (x := (.iaload, 1)) (by decide +kernel))
theorem e_226_1010 : Df d 226 1010 [.ref a, l1, l2, l3] st h nx = Df d 226 1011 [.ref a, l1, l2, l3] (.ref a :: st) h nx := D_aload_n (ins_of mc_226 (pc := 1010) (x := (.aload_n 0, 1)) (by decide +kernel)) rfl
theorem e_226_1011 : Df d 226 1011 [l0, l1, l2, .int x] st h nx = Df d 226 1012 [l0, l1, l2, .int x] (.int x :: st) h nx := D_iload_n (ins_of mc_226 (pc := 1011) (x := (.iload_n 3, 1)) (by decide +kernel)) rfl
theorem e_226_1012 : Df d 226 1012 [l0, l1, l2, l3] st h nx = Df d 226 1013 [l0, l1, l2, l3] (.int 3 :: st) h nx := D_iconst (ins_of mc_226 (pc := 1012) (x := (.iconst 3, 1)) (by decide +kernel)) (by decide)
theorem e_226_1013 : Df d 226 1013 [l0, l1, l2, l3] (.int y :: .int x :: st) h nx = Df d 226 1014 [l0, l1, l2, l3] (.int (x + y) :: st) h nx := D_iadd (ins_of mc_226 (pc := 1013) (x := (.iadd, 1)) (by decide +kernel))
theorem e_226_1014 : Df d 226 1014 [l0, l1, l2, l3] (.int x :: .ref a :: st) h nx = (rX h a x).bind fun v => Df d 226 1015 [l0, l1, l2, l3] (.int v :: st) h nx := D_iaload (ins_of mc_226 (pc := 1014) (x := (.iaload, 1)) (by decide +kernel))
theorem e_226_1015 : Df d 226 1015 [l0, l1, l2, l3] [v2, v1, v0, .ref a] h nx = if ck h a 8 = true then cn d 226 1018 [l0, l1, l2, l3] [] (Dn d 106 [.ref a, v0, v1, v2] h nx) else none := D_virtual (k1 := 106) (ins_of mc_226 (pc := 1015) (x := (.invokevirtual 125, 3)) (by decide +kernel)) mo_226 (by decide +kernel) (by decide) rfl rfl (by decide) rfl (Nat.le_of_ble_eq_true rfl) rfl
theorem e_226_1018 : Df d 226 1018 [l0, l1, .ref a, l3] st h nx = Df d 226 1019 [l0, l1, .ref a, l3] (.ref a :: st) h nx := D_aload_n (ins_of mc_226 (pc := 1018) (x := (.aload_n 2, 1)) (by decide +kernel)) rfl
theorem e_226_1019 : Df d 226 1019 [.ref a, l1, l2, l3] st h nx = Df d 226 1020 [.ref a, l1, l2, l3] (.ref a :: st) h nx := D_aload_n (ins_of mc_226 (pc := 1019) (x := (.aload_n 0, 1)) (by decide +kernel)) rfl
theorem e_226_1020 : Df d 226 1020 [l0, l1, l2, .int x] st h nx = Df d 226 1021 [l0, l1, l2, .int x] (.int x :: st) h nx := D_iload_n (ins_of mc_226 (pc := 1020) (x := (.iload_n 3, 1)) (by decide +kernel)) rfl
theorem e_226_1021 : Df d 226 1021 [l0, l1, l2, l3] st h nx = Df d 226 1022 [l0, l1, l2, l3] (.int 1 :: st) h nx := D_iconst (ins_of mc_226 (pc := 1021) (x := (.iconst 1, 1)) (by decide +kernel)) (by decide)
theorem e_226_1022 : Df d 226 1022 [l0, l1, l2, l3] (.int y :: .int x :: st) h nx = Df d 226 1023 [l0, l1, l2, l3] (.int (x + y) :: st) h nx := D_iadd (ins_of mc_226 (pc := 1022) (x := (.iadd, 1)) (by decide +kernel))
theorem e_226_1023 : Df d 226 1023 [l0, l1, l2, l3] (.int x :: .ref a :: st) h nx = (rX h a x).bind fun v => Df d 226 1024 [l0, l1, l2, l3] (.int v :: st) h nx := D_iaload (ins_of mc_226 (pc := 1023) (x := (.iaload, 1)) (by decide +kernel))
theorem e_226_1024 : Df d 226 1024 [.ref a, l1, l2, l3] st h nx = Df d 226 1025 [.ref a, l1, l2, l3] (.ref a :: st) h nx := D_aload_n (ins_of mc_226 (pc := 1024) (x := (.aload_n 0, 1)) (by decide +kernel)) rfl
theorem e_226_1025 : Df d 226 1025 [l0, l1, l2, .int x] st h nx = Df d 226 1026 [l0, l1, l2, .int x] (.int x :: st) h nx := D_iload_n (ins_of mc_226 (pc := 1025) (x := (.iload_n 3, 1)) (by decide +kernel)) rfl
theorem e_226_1026 : Df d 226 1026 [l0, l1, l2, l3] st h nx = Df d 226 1027 [l0, l1, l2, l3] (.int 2 :: st) h nx := D_iconst (ins_of mc_226 (pc := 1026) (x := (.iconst 2, 1)) (by decide +kernel)) (by decide)
theorem e_226_1027 : Df d 226 1027 [l0, l1, l2, l3] (.int y :: .int x :: st) h nx = Df d 226 1028 [l0, l1, l2, l3] (.int (x + y) :: st) h nx := D_iadd (ins_of mc_226 (pc := 1027) (x := (.iadd, 1)) (by decide +kernel))
theorem e_226_1028 : Df d 226 1028 [l0, l1, l2, l3] (.int x :: .ref a :: st) h nx = (rX h a x).bind fun v => Df d 226 1029 [l0, l1, l2, l3] (.int v :: st) h nx := D_iaload (ins_of mc_226 (pc := 1028) (x := (.iaload, 1)) (by decide +kernel))
theorem e_226_1029 : Df d 226 1029 [.ref a, l1, l2, l3] st h nx = Df d 226 1030 [.ref a, l1, l2, l3] (.ref a :: st) h nx := D_aload_n (ins_of mc_226 (pc := 1029) (x := (.aload_n 0, 1)) (by decide +kernel)) rfl
theorem e_226_1030 : Df d 226 1030 [l0, l1, l2, .int x] st h nx = Df d 226 1031 [l0, l1, l2, .int x] (.int x :: st) h nx := D_iload_n (ins_of mc_226 (pc := 1030) (x := (.iload_n 3, 1)) (by decide +kernel)) rfl
theorem e_226_1031 : Df d 226 1031 [l0, l1, l2, l3] st h nx = Df d 226 1032 [l0, l1, l2, l3] (.int 3 :: st) h nx := D_iconst (ins_of mc_226 (pc := 1031) (x := (.iconst 3, 1)) (by decide +kernel)) (by decide)
theorem e_226_1032 : Df d 226 1032 [l0, l1, l2, l3] (.int y :: .int x :: st) h nx = Df d 226 1033 [l0, l1, l2, l3] (.int (x + y) :: st) h nx := D_iadd (ins_of mc_226 (pc := 1032) (x := (.iadd, 1)) (by decide +kernel))
theorem e_226_1033 : Df d 226 1033 [l0, l1, l2, l3] (.int x :: .ref a :: st) h nx = (rX h a x).bind fun v => Df d 226 1034 [l0, l1, l2, l3] (.int v :: st) h nx := D_iaload (ins_of mc_226 (pc := 1033) (x := (.iaload, 1)) (by decide +kernel))
theorem e_226_1034 : Df d 226 1034 [l0, l1, l2, l3] [v2, v1, v0, .ref a, s0] h nx = if ck h a 9 = true then cn d 226 1037 [l0, l1, l2, l3] [s0] (Dn d 196 [.ref a, v0, v1, v2] h nx) else none := D_virtual (k1 := 196) (ins_of mc_226 (pc := 1034) (x := (.invokevirtual 128, 3)) (by decide +kernel)) mo_226 (by decide +kernel) (by decide) rfl rfl (by decide) rfl (Nat.le_of_ble_eq_true rfl) rfl
theorem e_226_1037 : Df d 226 1037 [l0, l1, l2, l3] (.int y :: .int x :: st) h nx = if x = y then Df d 226 1388 [l0, l1, l2, l3] st h nx else Df d 226 1040 [l0, l1, l2, l3] st h nx := D_icmp_eq (ins_of mc_226 (pc := 1037) (x := (.if_icmp .eq 351, 3)) (by decide +kernel)) (by decide)
theorem e_226_1040 : Df d 226 1040 [l0, l1, l2, l3] st h nx = Df d 226 1041 [l0, l1, l2, l3] (.int 0 :: st) h nx := D_iconst (ins_of mc_226 (pc := 1040) (x := (.iconst 0, 1)) (by decide +kernel)) (by decide)
theorem e_226_1041 : Df d 226 1041 [l0, l1, l2, l3] [.int x] h nx = if nR .boolean x = true then some (some (.int x), h, nx) else none := D_zreturn (ins_of mc_226 (pc := 1041) (x := (.ireturn, 1)) (by decide +kernel)) mr_226
theorem e_226_1042 : Df d 226 1042 [l0, .ref a, l2, l3] st h nx = Df d 226 1043 [l0, .ref a, l2, l3] (.ref a :: st) h nx := D_aload_n (ins_of mc_226 (pc := 1042) (x := (.aload_n 1, 1)) (by decide +kernel)) rfl
theorem e_226_1043 : Df d 226 1043 [.ref a, l1, l2, l3] st h nx = Df d 226 1044 [.ref a, l1, l2, l3] (.ref a :: st) h nx := D_aload_n (ins_of mc_226 (pc := 1043) (x := (.aload_n 0, 1)) (by decide +kernel)) rfl
theorem e_226_1044 : Df d 226 1044 [l0, l1, l2, .int x] st h nx = Df d 226 1045 [l0, l1, l2, .int x] (.int x :: st) h nx := D_iload_n (ins_of mc_226 (pc := 1044) (x := (.iload_n 3, 1)) (by decide +kernel)) rfl
theorem e_226_1045 : Df d 226 1045 [l0, l1, l2, l3] st h nx = Df d 226 1046 [l0, l1, l2, l3] (.int 1 :: st) h nx := D_iconst (ins_of mc_226 (pc := 1045) (x := (.iconst 1, 1)) (by decide +kernel)) (by decide)
theorem e_226_1046 : Df d 226 1046 [l0, l1, l2, l3] (.int y :: .int x :: st) h nx = Df d 226 1047 [l0, l1, l2, l3] (.int (x + y) :: st) h nx := D_iadd (ins_of mc_226 (pc := 1046) (x := (.iadd, 1)) (by decide +kernel))
theorem e_226_1047 : Df d 226 1047 [l0, l1, l2, l3] (.int x :: .ref a :: st) h nx = (rX h a x).bind fun v => Df d 226 1048 [l0, l1, l2, l3] (.int v :: st) h nx := D_iaload (ins_of mc_226 (pc := 1047) (x := (.iaload, 1)) (by decide +kernel))
theorem e_226_1048 : Df d 226 1048 [l0, l1, l2, l3] [v0, .ref a] h nx = if ck h a 8 = true then cn d 226 1051 [l0, l1, l2, l3] [] (Dn d 107 [.ref a, v0] h nx) else none := D_virtual (k1 := 107) (ins_of mc_226 (pc := 1048) (x := (.invokevirtual 129, 3)) (by decide +kernel)) mo_226 (by decide +kernel) (by decide) rfl rfl (by decide) rfl (Nat.le_of_ble_eq_true rfl) rfl
theorem e_226_1051 : Df d 226 1051 [l0, l1, .ref a, l3] st h nx = Df d 226 1052 [l0, l1, .ref a, l3] (.ref a :: st) h nx := D_aload_n (ins_of mc_226 (pc := 1051) (x := (.aload_n 2, 1)) (by decide +kernel)) rfl
theorem e_226_1052 : Df d 226 1052 [.ref a, l1, l2, l3] st h nx = Df d 226 1053 [.ref a, l1, l2, l3] (.ref a :: st) h nx := D_aload_n (ins_of mc_226 (pc := 1052) (x := (.aload_n 0, 1)) (by decide +kernel)) rfl
theorem e_226_1053 : Df d 226 1053 [l0, l1, l2, .int x] st h nx = Df d 226 1054 [l0, l1, l2, .int x] (.int x :: st) h nx := D_iload_n (ins_of mc_226 (pc := 1053) (x := (.iload_n 3, 1)) (by decide +kernel)) rfl
theorem e_226_1054 : Df d 226 1054 [l0, l1, l2, l3] st h nx = Df d 226 1055 [l0, l1, l2, l3] (.int 1 :: st) h nx := D_iconst (ins_of mc_226 (pc := 1054) (x := (.iconst 1, 1)) (by decide +kernel)) (by decide)
theorem e_226_1055 : Df d 226 1055 [l0, l1, l2, l3] (.int y :: .int x :: st) h nx = Df d 226 1056 [l0, l1, l2, l3] (.int (x + y) :: st) h nx := D_iadd (ins_of mc_226 (pc := 1055) (x := (.iadd, 1)) (by decide +kernel))
theorem e_226_1056 : Df d 226 1056 [l0, l1, l2, l3] (.int x :: .ref a :: st) h nx = (rX h a x).bind fun v => Df d 226 1057 [l0, l1, l2, l3] (.int v :: st) h nx := D_iaload (ins_of mc_226 (pc := 1056) (x := (.iaload, 1)) (by decide +kernel))
theorem e_226_1057 : Df d 226 1057 [l0, l1, l2, l3] [v0, .ref a, s0] h nx = if ck h a 9 = true then cn d 226 1060 [l0, l1, l2, l3] [s0] (Dn d 197 [.ref a, v0] h nx) else none := D_virtual (k1 := 197) (ins_of mc_226 (pc := 1057) (x := (.invokevirtual 132, 3)) (by decide +kernel)) mo_226 (by decide +kernel) (by decide) rfl rfl (by decide) rfl (Nat.le_of_ble_eq_true rfl) rfl
theorem e_226_1060 : Df d 226 1060 [l0, l1, l2, l3] (.int y :: .int x :: st) h nx = if x = y then Df d 226 1388 [l0, l1, l2, l3] st h nx else Df d 226 1063 [l0, l1, l2, l3] st h nx := D_icmp_eq (ins_of mc_226 (pc := 1060) (x := (.if_icmp .eq 328, 3)) (by decide +kernel)) (by decide)
theorem e_226_1063 : Df d 226 1063 [l0, l1, l2, l3] st h nx = Df d 226 1064 [l0, l1, l2, l3] (.int 0 :: st) h nx := D_iconst (ins_of mc_226 (pc := 1063) (x := (.iconst 0, 1)) (by decide +kernel)) (by decide)
theorem e_226_1064 : Df d 226 1064 [l0, l1, l2, l3] [.int x] h nx = if nR .boolean x = true then some (some (.int x), h, nx) else none := D_zreturn (ins_of mc_226 (pc := 1064) (x := (.ireturn, 1)) (by decide +kernel)) mr_226
theorem e_226_1065 : Df d 226 1065 [l0, .ref a, l2, l3] st h nx = Df d 226 1066 [l0, .ref a, l2, l3] (.ref a :: st) h nx := D_aload_n (ins_of mc_226 (pc := 1065) (x := (.aload_n 1, 1)) (by decide +kernel)) rfl
theorem e_226_1066 : Df d 226 1066 [.ref a, l1, l2, l3] st h nx = Df d 226 1067 [.ref a, l1, l2, l3] (.ref a :: st) h nx := D_aload_n (ins_of mc_226 (pc := 1066) (x := (.aload_n 0, 1)) (by decide +kernel)) rfl
theorem e_226_1067 : Df d 226 1067 [l0, l1, l2, .int x] st h nx = Df d 226 1068 [l0, l1, l2, .int x] (.int x :: st) h nx := D_iload_n (ins_of mc_226 (pc := 1067) (x := (.iload_n 3, 1)) (by decide +kernel)) rfl
theorem e_226_1068 : Df d 226 1068 [l0, l1, l2, l3] st h nx = Df d 226 1069 [l0, l1, l2, l3] (.int 1 :: st) h nx := D_iconst (ins_of mc_226 (pc := 1068) (x := (.iconst 1, 1)) (by decide +kernel)) (by decide)
theorem e_226_1069 : Df d 226 1069 [l0, l1, l2, l3] (.int y :: .int x :: st) h nx = Df d 226 1070 [l0, l1, l2, l3] (.int (x + y) :: st) h nx := D_iadd (ins_of mc_226 (pc := 1069) (x := (.iadd, 1)) (by decide +kernel))
theorem e_226_1070 : Df d 226 1070 [l0, l1, l2, l3] (.int x :: .ref a :: st) h nx = (rX h a x).bind fun v => Df d 226 1071 [l0, l1, l2, l3] (.int v :: st) h nx := D_iaload (ins_of mc_226 (pc := 1070) (x := (.iaload, 1)) (by decide +kernel))
theorem e_226_1071 : Df d 226 1071 [l0, l1, l2, l3] [v0, .ref a] h nx = if ck h a 8 = true then cn d 226 1074 [l0, l1, l2, l3] [] (Dn d 108 [.ref a, v0] h nx) else none := D_virtual (k1 := 108) (ins_of mc_226 (pc := 1071) (x := (.invokevirtual 133, 3)) (by decide +kernel)) mo_226 (by decide +kernel) (by decide) rfl rfl (by decide) rfl (Nat.le_of_ble_eq_true rfl) rfl
theorem e_226_1074 : Df d 226 1074 [l0, l1, .ref a, l3] st h nx = Df d 226 1075 [l0, l1, .ref a, l3] (.ref a :: st) h nx := D_aload_n (ins_of mc_226 (pc := 1074) (x := (.aload_n 2, 1)) (by decide +kernel)) rfl
theorem e_226_1075 : Df d 226 1075 [.ref a, l1, l2, l3] st h nx = Df d 226 1076 [.ref a, l1, l2, l3] (.ref a :: st) h nx := D_aload_n (ins_of mc_226 (pc := 1075) (x := (.aload_n 0, 1)) (by decide +kernel)) rfl
theorem e_226_1076 : Df d 226 1076 [l0, l1, l2, .int x] st h nx = Df d 226 1077 [l0, l1, l2, .int x] (.int x :: st) h nx := D_iload_n (ins_of mc_226 (pc := 1076) (x := (.iload_n 3, 1)) (by decide +kernel)) rfl
theorem e_226_1077 : Df d 226 1077 [l0, l1, l2, l3] st h nx = Df d 226 1078 [l0, l1, l2, l3] (.int 1 :: st) h nx := D_iconst (ins_of mc_226 (pc := 1077) (x := (.iconst 1, 1)) (by decide +kernel)) (by decide)
theorem e_226_1078 : Df d 226 1078 [l0, l1, l2, l3] (.int y :: .int x :: st) h nx = Df d 226 1079 [l0, l1, l2, l3] (.int (x + y) :: st) h nx := D_iadd (ins_of mc_226 (pc := 1078) (x := (.iadd, 1)) (by decide +kernel))
theorem e_226_1079 : Df d 226 1079 [l0, l1, l2, l3] (.int x :: .ref a :: st) h nx = (rX h a x).bind fun v => Df d 226 1080 [l0, l1, l2, l3] (.int v :: st) h nx := D_iaload (ins_of mc_226 (pc := 1079) (x := (.iaload, 1)) (by decide +kernel))
theorem e_226_1080 : Df d 226 1080 [l0, l1, l2, l3] [v0, .ref a, s0] h nx = if ck h a 9 = true then cn d 226 1083 [l0, l1, l2, l3] [s0] (Dn d 198 [.ref a, v0] h nx) else none := D_virtual (k1 := 198) (ins_of mc_226 (pc := 1080) (x := (.invokevirtual 136, 3)) (by decide +kernel)) mo_226 (by decide +kernel) (by decide) rfl rfl (by decide) rfl (Nat.le_of_ble_eq_true rfl) rfl
theorem e_226_1083 : Df d 226 1083 [l0, l1, l2, l3] (.int y :: .int x :: st) h nx = if x = y then Df d 226 1388 [l0, l1, l2, l3] st h nx else Df d 226 1086 [l0, l1, l2, l3] st h nx := D_icmp_eq (ins_of mc_226 (pc := 1083) (x := (.if_icmp .eq 305, 3)) (by decide +kernel)) (by decide)
theorem e_226_1086 : Df d 226 1086 [l0, l1, l2, l3] st h nx = Df d 226 1087 [l0, l1, l2, l3] (.int 0 :: st) h nx := D_iconst (ins_of mc_226 (pc := 1086) (x := (.iconst 0, 1)) (by decide +kernel)) (by decide)
theorem e_226_1087 : Df d 226 1087 [l0, l1, l2, l3] [.int x] h nx = if nR .boolean x = true then some (some (.int x), h, nx) else none := D_zreturn (ins_of mc_226 (pc := 1087) (x := (.ireturn, 1)) (by decide +kernel)) mr_226
theorem e_226_1088 : Df d 226 1088 [l0, .ref a, l2, l3] st h nx = Df d 226 1089 [l0, .ref a, l2, l3] (.ref a :: st) h nx := D_aload_n (ins_of mc_226 (pc := 1088) (x := (.aload_n 1, 1)) (by decide +kernel)) rfl
theorem e_226_1089 : Df d 226 1089 [.ref a, l1, l2, l3] st h nx = Df d 226 1090 [.ref a, l1, l2, l3] (.ref a :: st) h nx := D_aload_n (ins_of mc_226 (pc := 1089) (x := (.aload_n 0, 1)) (by decide +kernel)) rfl
theorem e_226_1090 : Df d 226 1090 [l0, l1, l2, .int x] st h nx = Df d 226 1091 [l0, l1, l2, .int x] (.int x :: st) h nx := D_iload_n (ins_of mc_226 (pc := 1090) (x := (.iload_n 3, 1)) (by decide +kernel)) rfl
theorem e_226_1091 : Df d 226 1091 [l0, l1, l2, l3] st h nx = Df d 226 1092 [l0, l1, l2, l3] (.int 1 :: st) h nx := D_iconst (ins_of mc_226 (pc := 1091) (x := (.iconst 1, 1)) (by decide +kernel)) (by decide)
theorem e_226_1092 : Df d 226 1092 [l0, l1, l2, l3] (.int y :: .int x :: st) h nx = Df d 226 1093 [l0, l1, l2, l3] (.int (x + y) :: st) h nx := D_iadd (ins_of mc_226 (pc := 1092) (x := (.iadd, 1)) (by decide +kernel))
theorem e_226_1093 : Df d 226 1093 [l0, l1, l2, l3] (.int x :: .ref a :: st) h nx = (rX h a x).bind fun v => Df d 226 1094 [l0, l1, l2, l3] (.int v :: st) h nx := D_iaload (ins_of mc_226 (pc := 1093) (x := (.iaload, 1)) (by decide +kernel))
theorem e_226_1094 : Df d 226 1094 [.ref a, l1, l2, l3] st h nx = Df d 226 1095 [.ref a, l1, l2, l3] (.ref a :: st) h nx := D_aload_n (ins_of mc_226 (pc := 1094) (x := (.aload_n 0, 1)) (by decide +kernel)) rfl
theorem e_226_1095 : Df d 226 1095 [l0, l1, l2, .int x] st h nx = Df d 226 1096 [l0, l1, l2, .int x] (.int x :: st) h nx := D_iload_n (ins_of mc_226 (pc := 1095) (x := (.iload_n 3, 1)) (by decide +kernel)) rfl
theorem e_226_1096 : Df d 226 1096 [l0, l1, l2, l3] st h nx = Df d 226 1097 [l0, l1, l2, l3] (.int 2 :: st) h nx := D_iconst (ins_of mc_226 (pc := 1096) (x := (.iconst 2, 1)) (by decide +kernel)) (by decide)
theorem e_226_1097 : Df d 226 1097 [l0, l1, l2, l3] (.int y :: .int x :: st) h nx = Df d 226 1098 [l0, l1, l2, l3] (.int (x + y) :: st) h nx := D_iadd (ins_of mc_226 (pc := 1097) (x := (.iadd, 1)) (by decide +kernel))
theorem e_226_1098 : Df d 226 1098 [l0, l1, l2, l3] (.int x :: .ref a :: st) h nx = (rX h a x).bind fun v => Df d 226 1099 [l0, l1, l2, l3] (.int v :: st) h nx := D_iaload (ins_of mc_226 (pc := 1098) (x := (.iaload, 1)) (by decide +kernel))
theorem e_226_1099 : Df d 226 1099 [.ref a, l1, l2, l3] st h nx = Df d 226 1100 [.ref a, l1, l2, l3] (.ref a :: st) h nx := D_aload_n (ins_of mc_226 (pc := 1099) (x := (.aload_n 0, 1)) (by decide +kernel)) rfl
theorem e_226_1100 : Df d 226 1100 [l0, l1, l2, .int x] st h nx = Df d 226 1101 [l0, l1, l2, .int x] (.int x :: st) h nx := D_iload_n (ins_of mc_226 (pc := 1100) (x := (.iload_n 3, 1)) (by decide +kernel)) rfl
theorem e_226_1101 : Df d 226 1101 [l0, l1, l2, l3] st h nx = Df d 226 1102 [l0, l1, l2, l3] (.int 3 :: st) h nx := D_iconst (ins_of mc_226 (pc := 1101) (x := (.iconst 3, 1)) (by decide +kernel)) (by decide)
theorem e_226_1102 : Df d 226 1102 [l0, l1, l2, l3] (.int y :: .int x :: st) h nx = Df d 226 1103 [l0, l1, l2, l3] (.int (x + y) :: st) h nx := D_iadd (ins_of mc_226 (pc := 1102) (x := (.iadd, 1)) (by decide +kernel))
theorem e_226_1103 : Df d 226 1103 [l0, l1, l2, l3] (.int x :: .ref a :: st) h nx = (rX h a x).bind fun v => Df d 226 1104 [l0, l1, l2, l3] (.int v :: st) h nx := D_iaload (ins_of mc_226 (pc := 1103) (x := (.iaload, 1)) (by decide +kernel))
theorem e_226_1104 : Df d 226 1104 [.ref a, l1, l2, l3] st h nx = Df d 226 1105 [.ref a, l1, l2, l3] (.ref a :: st) h nx := D_aload_n (ins_of mc_226 (pc := 1104) (x := (.aload_n 0, 1)) (by decide +kernel)) rfl
theorem e_226_1105 : Df d 226 1105 [l0, l1, l2, .int x] st h nx = Df d 226 1106 [l0, l1, l2, .int x] (.int x :: st) h nx := D_iload_n (ins_of mc_226 (pc := 1105) (x := (.iload_n 3, 1)) (by decide +kernel)) rfl
theorem e_226_1106 : Df d 226 1106 [l0, l1, l2, l3] st h nx = Df d 226 1107 [l0, l1, l2, l3] (.int 4 :: st) h nx := D_iconst (ins_of mc_226 (pc := 1106) (x := (.iconst 4, 1)) (by decide +kernel)) (by decide)
theorem e_226_1107 : Df d 226 1107 [l0, l1, l2, l3] (.int y :: .int x :: st) h nx = Df d 226 1108 [l0, l1, l2, l3] (.int (x + y) :: st) h nx := D_iadd (ins_of mc_226 (pc := 1107) (x := (.iadd, 1)) (by decide +kernel))
theorem e_226_1108 : Df d 226 1108 [l0, l1, l2, l3] (.int x :: .ref a :: st) h nx = (rX h a x).bind fun v => Df d 226 1109 [l0, l1, l2, l3] (.int v :: st) h nx := D_iaload (ins_of mc_226 (pc := 1108) (x := (.iaload, 1)) (by decide +kernel))
theorem e_226_1109 : Df d 226 1109 [.ref a, l1, l2, l3] st h nx = Df d 226 1110 [.ref a, l1, l2, l3] (.ref a :: st) h nx := D_aload_n (ins_of mc_226 (pc := 1109) (x := (.aload_n 0, 1)) (by decide +kernel)) rfl
theorem e_226_1110 : Df d 226 1110 [l0, l1, l2, .int x] st h nx = Df d 226 1111 [l0, l1, l2, .int x] (.int x :: st) h nx := D_iload_n (ins_of mc_226 (pc := 1110) (x := (.iload_n 3, 1)) (by decide +kernel)) rfl
theorem e_226_1111 : Df d 226 1111 [l0, l1, l2, l3] st h nx = Df d 226 1112 [l0, l1, l2, l3] (.int 5 :: st) h nx := D_iconst (ins_of mc_226 (pc := 1111) (x := (.iconst 5, 1)) (by decide +kernel)) (by decide)
theorem e_226_1112 : Df d 226 1112 [l0, l1, l2, l3] (.int y :: .int x :: st) h nx = Df d 226 1113 [l0, l1, l2, l3] (.int (x + y) :: st) h nx := D_iadd (ins_of mc_226 (pc := 1112) (x := (.iadd, 1)) (by decide +kernel))
theorem e_226_1113 : Df d 226 1113 [l0, l1, l2, l3] (.int x :: .ref a :: st) h nx = (rX h a x).bind fun v => Df d 226 1114 [l0, l1, l2, l3] (.int v :: st) h nx := D_iaload (ins_of mc_226 (pc := 1113) (x := (.iaload, 1)) (by decide +kernel))
theorem e_226_1114 : Df d 226 1114 [l0, l1, l2, l3] [v4, v3, v2, v1, v0, .ref a] h nx = if ck h a 8 = true then cn d 226 1117 [l0, l1, l2, l3] [] (Dn d 109 [.ref a, v0, v1, v2, v3, v4] h nx) else none := D_virtual (k1 := 109) (ins_of mc_226 (pc := 1114) (x := (.invokevirtual 137, 3)) (by decide +kernel)) mo_226 (by decide +kernel) (by decide) rfl rfl (by decide) rfl (Nat.le_of_ble_eq_true rfl) rfl
theorem e_226_1117 : Df d 226 1117 [l0, l1, .ref a, l3] st h nx = Df d 226 1118 [l0, l1, .ref a, l3] (.ref a :: st) h nx := D_aload_n (ins_of mc_226 (pc := 1117) (x := (.aload_n 2, 1)) (by decide +kernel)) rfl
theorem e_226_1118 : Df d 226 1118 [.ref a, l1, l2, l3] st h nx = Df d 226 1119 [.ref a, l1, l2, l3] (.ref a :: st) h nx := D_aload_n (ins_of mc_226 (pc := 1118) (x := (.aload_n 0, 1)) (by decide +kernel)) rfl
theorem e_226_1119 : Df d 226 1119 [l0, l1, l2, .int x] st h nx = Df d 226 1120 [l0, l1, l2, .int x] (.int x :: st) h nx := D_iload_n (ins_of mc_226 (pc := 1119) (x := (.iload_n 3, 1)) (by decide +kernel)) rfl
theorem e_226_1120 : Df d 226 1120 [l0, l1, l2, l3] st h nx = Df d 226 1121 [l0, l1, l2, l3] (.int 1 :: st) h nx := D_iconst (ins_of mc_226 (pc := 1120) (x := (.iconst 1, 1)) (by decide +kernel)) (by decide)
theorem e_226_1121 : Df d 226 1121 [l0, l1, l2, l3] (.int y :: .int x :: st) h nx = Df d 226 1122 [l0, l1, l2, l3] (.int (x + y) :: st) h nx := D_iadd (ins_of mc_226 (pc := 1121) (x := (.iadd, 1)) (by decide +kernel))
theorem e_226_1122 : Df d 226 1122 [l0, l1, l2, l3] (.int x :: .ref a :: st) h nx = (rX h a x).bind fun v => Df d 226 1123 [l0, l1, l2, l3] (.int v :: st) h nx := D_iaload (ins_of mc_226 (pc := 1122) (x := (.iaload, 1)) (by decide +kernel))
theorem e_226_1123 : Df d 226 1123 [.ref a, l1, l2, l3] st h nx = Df d 226 1124 [.ref a, l1, l2, l3] (.ref a :: st) h nx := D_aload_n (ins_of mc_226 (pc := 1123) (x := (.aload_n 0, 1)) (by decide +kernel)) rfl
theorem e_226_1124 : Df d 226 1124 [l0, l1, l2, .int x] st h nx = Df d 226 1125 [l0, l1, l2, .int x] (.int x :: st) h nx := D_iload_n (ins_of mc_226 (pc := 1124) (x := (.iload_n 3, 1)) (by decide +kernel)) rfl
theorem e_226_1125 : Df d 226 1125 [l0, l1, l2, l3] st h nx = Df d 226 1126 [l0, l1, l2, l3] (.int 2 :: st) h nx := D_iconst (ins_of mc_226 (pc := 1125) (x := (.iconst 2, 1)) (by decide +kernel)) (by decide)
theorem e_226_1126 : Df d 226 1126 [l0, l1, l2, l3] (.int y :: .int x :: st) h nx = Df d 226 1127 [l0, l1, l2, l3] (.int (x + y) :: st) h nx := D_iadd (ins_of mc_226 (pc := 1126) (x := (.iadd, 1)) (by decide +kernel))
theorem e_226_1127 : Df d 226 1127 [l0, l1, l2, l3] (.int x :: .ref a :: st) h nx = (rX h a x).bind fun v => Df d 226 1128 [l0, l1, l2, l3] (.int v :: st) h nx := D_iaload (ins_of mc_226 (pc := 1127) (x := (.iaload, 1)) (by decide +kernel))
theorem e_226_1128 : Df d 226 1128 [.ref a, l1, l2, l3] st h nx = Df d 226 1129 [.ref a, l1, l2, l3] (.ref a :: st) h nx := D_aload_n (ins_of mc_226 (pc := 1128) (x := (.aload_n 0, 1)) (by decide +kernel)) rfl
theorem e_226_1129 : Df d 226 1129 [l0, l1, l2, .int x] st h nx = Df d 226 1130 [l0, l1, l2, .int x] (.int x :: st) h nx := D_iload_n (ins_of mc_226 (pc := 1129) (x := (.iload_n 3, 1)) (by decide +kernel)) rfl
theorem e_226_1130 : Df d 226 1130 [l0, l1, l2, l3] st h nx = Df d 226 1131 [l0, l1, l2, l3] (.int 3 :: st) h nx := D_iconst (ins_of mc_226 (pc := 1130) (x := (.iconst 3, 1)) (by decide +kernel)) (by decide)
theorem e_226_1131 : Df d 226 1131 [l0, l1, l2, l3] (.int y :: .int x :: st) h nx = Df d 226 1132 [l0, l1, l2, l3] (.int (x + y) :: st) h nx := D_iadd (ins_of mc_226 (pc := 1131) (x := (.iadd, 1)) (by decide +kernel))
theorem e_226_1132 : Df d 226 1132 [l0, l1, l2, l3] (.int x :: .ref a :: st) h nx = (rX h a x).bind fun v => Df d 226 1133 [l0, l1, l2, l3] (.int v :: st) h nx := D_iaload (ins_of mc_226 (pc := 1132) (x := (.iaload, 1)) (by decide +kernel))
theorem e_226_1133 : Df d 226 1133 [.ref a, l1, l2, l3] st h nx = Df d 226 1134 [.ref a, l1, l2, l3] (.ref a :: st) h nx := D_aload_n (ins_of mc_226 (pc := 1133) (x := (.aload_n 0, 1)) (by decide +kernel)) rfl
theorem e_226_1134 : Df d 226 1134 [l0, l1, l2, .int x] st h nx = Df d 226 1135 [l0, l1, l2, .int x] (.int x :: st) h nx := D_iload_n (ins_of mc_226 (pc := 1134) (x := (.iload_n 3, 1)) (by decide +kernel)) rfl
theorem e_226_1135 : Df d 226 1135 [l0, l1, l2, l3] st h nx = Df d 226 1136 [l0, l1, l2, l3] (.int 4 :: st) h nx := D_iconst (ins_of mc_226 (pc := 1135) (x := (.iconst 4, 1)) (by decide +kernel)) (by decide)
theorem e_226_1136 : Df d 226 1136 [l0, l1, l2, l3] (.int y :: .int x :: st) h nx = Df d 226 1137 [l0, l1, l2, l3] (.int (x + y) :: st) h nx := D_iadd (ins_of mc_226 (pc := 1136) (x := (.iadd, 1)) (by decide +kernel))
theorem e_226_1137 : Df d 226 1137 [l0, l1, l2, l3] (.int x :: .ref a :: st) h nx = (rX h a x).bind fun v => Df d 226 1138 [l0, l1, l2, l3] (.int v :: st) h nx := D_iaload (ins_of mc_226 (pc := 1137) (x := (.iaload, 1)) (by decide +kernel))
theorem e_226_1138 : Df d 226 1138 [.ref a, l1, l2, l3] st h nx = Df d 226 1139 [.ref a, l1, l2, l3] (.ref a :: st) h nx := D_aload_n (ins_of mc_226 (pc := 1138) (x := (.aload_n 0, 1)) (by decide +kernel)) rfl
theorem e_226_1139 : Df d 226 1139 [l0, l1, l2, .int x] st h nx = Df d 226 1140 [l0, l1, l2, .int x] (.int x :: st) h nx := D_iload_n (ins_of mc_226 (pc := 1139) (x := (.iload_n 3, 1)) (by decide +kernel)) rfl
theorem e_226_1140 : Df d 226 1140 [l0, l1, l2, l3] st h nx = Df d 226 1141 [l0, l1, l2, l3] (.int 5 :: st) h nx := D_iconst (ins_of mc_226 (pc := 1140) (x := (.iconst 5, 1)) (by decide +kernel)) (by decide)
theorem e_226_1141 : Df d 226 1141 [l0, l1, l2, l3] (.int y :: .int x :: st) h nx = Df d 226 1142 [l0, l1, l2, l3] (.int (x + y) :: st) h nx := D_iadd (ins_of mc_226 (pc := 1141) (x := (.iadd, 1)) (by decide +kernel))
theorem e_226_1142 : Df d 226 1142 [l0, l1, l2, l3] (.int x :: .ref a :: st) h nx = (rX h a x).bind fun v => Df d 226 1143 [l0, l1, l2, l3] (.int v :: st) h nx := D_iaload (ins_of mc_226 (pc := 1142) (x := (.iaload, 1)) (by decide +kernel))
theorem e_226_1143 : Df d 226 1143 [l0, l1, l2, l3] [v4, v3, v2, v1, v0, .ref a, s0] h nx = if ck h a 9 = true then cn d 226 1146 [l0, l1, l2, l3] [s0] (Dn d 199 [.ref a, v0, v1, v2, v3, v4] h nx) else none := D_virtual (k1 := 199) (ins_of mc_226 (pc := 1143) (x := (.invokevirtual 141, 3)) (by decide +kernel)) mo_226 (by decide +kernel) (by decide) rfl rfl (by decide) rfl (Nat.le_of_ble_eq_true rfl) rfl
theorem e_226_1146 : Df d 226 1146 [l0, l1, l2, l3] (.int y :: .int x :: st) h nx = if x = y then Df d 226 1388 [l0, l1, l2, l3] st h nx else Df d 226 1149 [l0, l1, l2, l3] st h nx := D_icmp_eq (ins_of mc_226 (pc := 1146) (x := (.if_icmp .eq 242, 3)) (by decide +kernel)) (by decide)
theorem e_226_1149 : Df d 226 1149 [l0, l1, l2, l3] st h nx = Df d 226 1150 [l0, l1, l2, l3] (.int 0 :: st) h nx := D_iconst (ins_of mc_226 (pc := 1149) (x := (.iconst 0, 1)) (by decide +kernel)) (by decide)
theorem e_226_1150 : Df d 226 1150 [l0, l1, l2, l3] [.int x] h nx = if nR .boolean x = true then some (some (.int x), h, nx) else none := D_zreturn (ins_of mc_226 (pc := 1150) (x := (.ireturn, 1)) (by decide +kernel)) mr_226
theorem e_226_1151 : Df d 226 1151 [l0, .ref a, l2, l3] st h nx = Df d 226 1152 [l0, .ref a, l2, l3] (.ref a :: st) h nx := D_aload_n (ins_of mc_226 (pc := 1151) (x := (.aload_n 1, 1)) (by decide +kernel)) rfl
theorem e_226_1152 : Df d 226 1152 [.ref a, l1, l2, l3] st h nx = Df d 226 1153 [.ref a, l1, l2, l3] (.ref a :: st) h nx := D_aload_n (ins_of mc_226 (pc := 1152) (x := (.aload_n 0, 1)) (by decide +kernel)) rfl
theorem e_226_1153 : Df d 226 1153 [l0, l1, l2, .int x] st h nx = Df d 226 1154 [l0, l1, l2, .int x] (.int x :: st) h nx := D_iload_n (ins_of mc_226 (pc := 1153) (x := (.iload_n 3, 1)) (by decide +kernel)) rfl
theorem e_226_1154 : Df d 226 1154 [l0, l1, l2, l3] st h nx = Df d 226 1155 [l0, l1, l2, l3] (.int 1 :: st) h nx := D_iconst (ins_of mc_226 (pc := 1154) (x := (.iconst 1, 1)) (by decide +kernel)) (by decide)
theorem e_226_1155 : Df d 226 1155 [l0, l1, l2, l3] (.int y :: .int x :: st) h nx = Df d 226 1156 [l0, l1, l2, l3] (.int (x + y) :: st) h nx := D_iadd (ins_of mc_226 (pc := 1155) (x := (.iadd, 1)) (by decide +kernel))
theorem e_226_1156 : Df d 226 1156 [l0, l1, l2, l3] (.int x :: .ref a :: st) h nx = (rX h a x).bind fun v => Df d 226 1157 [l0, l1, l2, l3] (.int v :: st) h nx := D_iaload (ins_of mc_226 (pc := 1156) (x := (.iaload, 1)) (by decide +kernel))
theorem e_226_1157 : Df d 226 1157 [.ref a, l1, l2, l3] st h nx = Df d 226 1158 [.ref a, l1, l2, l3] (.ref a :: st) h nx := D_aload_n (ins_of mc_226 (pc := 1157) (x := (.aload_n 0, 1)) (by decide +kernel)) rfl
theorem e_226_1158 : Df d 226 1158 [l0, l1, l2, .int x] st h nx = Df d 226 1159 [l0, l1, l2, .int x] (.int x :: st) h nx := D_iload_n (ins_of mc_226 (pc := 1158) (x := (.iload_n 3, 1)) (by decide +kernel)) rfl
theorem e_226_1159 : Df d 226 1159 [l0, l1, l2, l3] st h nx = Df d 226 1160 [l0, l1, l2, l3] (.int 2 :: st) h nx := D_iconst (ins_of mc_226 (pc := 1159) (x := (.iconst 2, 1)) (by decide +kernel)) (by decide)
theorem e_226_1160 : Df d 226 1160 [l0, l1, l2, l3] (.int y :: .int x :: st) h nx = Df d 226 1161 [l0, l1, l2, l3] (.int (x + y) :: st) h nx := D_iadd (ins_of mc_226 (pc := 1160) (x := (.iadd, 1)) (by decide +kernel))
theorem e_226_1161 : Df d 226 1161 [l0, l1, l2, l3] (.int x :: .ref a :: st) h nx = (rX h a x).bind fun v => Df d 226 1162 [l0, l1, l2, l3] (.int v :: st) h nx := D_iaload (ins_of mc_226 (pc := 1161) (x := (.iaload, 1)) (by decide +kernel))
theorem e_226_1162 : Df d 226 1162 [.ref a, l1, l2, l3] st h nx = Df d 226 1163 [.ref a, l1, l2, l3] (.ref a :: st) h nx := D_aload_n (ins_of mc_226 (pc := 1162) (x := (.aload_n 0, 1)) (by decide +kernel)) rfl
theorem e_226_1163 : Df d 226 1163 [l0, l1, l2, .int x] st h nx = Df d 226 1164 [l0, l1, l2, .int x] (.int x :: st) h nx := D_iload_n (ins_of mc_226 (pc := 1163) (x := (.iload_n 3, 1)) (by decide +kernel)) rfl
theorem e_226_1164 : Df d 226 1164 [l0, l1, l2, l3] st h nx = Df d 226 1165 [l0, l1, l2, l3] (.int 3 :: st) h nx := D_iconst (ins_of mc_226 (pc := 1164) (x := (.iconst 3, 1)) (by decide +kernel)) (by decide)
theorem e_226_1165 : Df d 226 1165 [l0, l1, l2, l3] (.int y :: .int x :: st) h nx = Df d 226 1166 [l0, l1, l2, l3] (.int (x + y) :: st) h nx := D_iadd (ins_of mc_226 (pc := 1165) (x := (.iadd, 1)) (by decide +kernel))
theorem e_226_1166 : Df d 226 1166 [l0, l1, l2, l3] (.int x :: .ref a :: st) h nx = (rX h a x).bind fun v => Df d 226 1167 [l0, l1, l2, l3] (.int v :: st) h nx := D_iaload (ins_of mc_226 (pc := 1166) (x := (.iaload, 1)) (by decide +kernel))
theorem e_226_1167 : Df d 226 1167 [l0, l1, l2, l3] [v2, v1, v0, .ref a] h nx = if ck h a 8 = true then cn d 226 1170 [l0, l1, l2, l3] [] (Dn d 110 [.ref a, v0, v1, v2] h nx) else none := D_virtual (k1 := 110) (ins_of mc_226 (pc := 1167) (x := (.invokevirtual 142, 3)) (by decide +kernel)) mo_226 (by decide +kernel) (by decide) rfl rfl (by decide) rfl (Nat.le_of_ble_eq_true rfl) rfl
theorem e_226_1170 : Df d 226 1170 [l0, l1, .ref a, l3] st h nx = Df d 226 1171 [l0, l1, .ref a, l3] (.ref a :: st) h nx := D_aload_n (ins_of mc_226 (pc := 1170) (x := (.aload_n 2, 1)) (by decide +kernel)) rfl
theorem e_226_1171 : Df d 226 1171 [.ref a, l1, l2, l3] st h nx = Df d 226 1172 [.ref a, l1, l2, l3] (.ref a :: st) h nx := D_aload_n (ins_of mc_226 (pc := 1171) (x := (.aload_n 0, 1)) (by decide +kernel)) rfl
theorem e_226_1172 : Df d 226 1172 [l0, l1, l2, .int x] st h nx = Df d 226 1173 [l0, l1, l2, .int x] (.int x :: st) h nx := D_iload_n (ins_of mc_226 (pc := 1172) (x := (.iload_n 3, 1)) (by decide +kernel)) rfl
theorem e_226_1173 : Df d 226 1173 [l0, l1, l2, l3] st h nx = Df d 226 1174 [l0, l1, l2, l3] (.int 1 :: st) h nx := D_iconst (ins_of mc_226 (pc := 1173) (x := (.iconst 1, 1)) (by decide +kernel)) (by decide)
theorem e_226_1174 : Df d 226 1174 [l0, l1, l2, l3] (.int y :: .int x :: st) h nx = Df d 226 1175 [l0, l1, l2, l3] (.int (x + y) :: st) h nx := D_iadd (ins_of mc_226 (pc := 1174) (x := (.iadd, 1)) (by decide +kernel))
theorem e_226_1175 : Df d 226 1175 [l0, l1, l2, l3] (.int x :: .ref a :: st) h nx = (rX h a x).bind fun v => Df d 226 1176 [l0, l1, l2, l3] (.int v :: st) h nx := D_iaload (ins_of mc_226 (pc := 1175) (x := (.iaload, 1)) (by decide +kernel))
theorem e_226_1176 : Df d 226 1176 [.ref a, l1, l2, l3] st h nx = Df d 226 1177 [.ref a, l1, l2, l3] (.ref a :: st) h nx := D_aload_n (ins_of mc_226 (pc := 1176) (x := (.aload_n 0, 1)) (by decide +kernel)) rfl
theorem e_226_1177 : Df d 226 1177 [l0, l1, l2, .int x] st h nx = Df d 226 1178 [l0, l1, l2, .int x] (.int x :: st) h nx := D_iload_n (ins_of mc_226 (pc := 1177) (x := (.iload_n 3, 1)) (by decide +kernel)) rfl
theorem e_226_1178 : Df d 226 1178 [l0, l1, l2, l3] st h nx = Df d 226 1179 [l0, l1, l2, l3] (.int 2 :: st) h nx := D_iconst (ins_of mc_226 (pc := 1178) (x := (.iconst 2, 1)) (by decide +kernel)) (by decide)
theorem e_226_1179 : Df d 226 1179 [l0, l1, l2, l3] (.int y :: .int x :: st) h nx = Df d 226 1180 [l0, l1, l2, l3] (.int (x + y) :: st) h nx := D_iadd (ins_of mc_226 (pc := 1179) (x := (.iadd, 1)) (by decide +kernel))
theorem e_226_1180 : Df d 226 1180 [l0, l1, l2, l3] (.int x :: .ref a :: st) h nx = (rX h a x).bind fun v => Df d 226 1181 [l0, l1, l2, l3] (.int v :: st) h nx := D_iaload (ins_of mc_226 (pc := 1180) (x := (.iaload, 1)) (by decide +kernel))
theorem e_226_1181 : Df d 226 1181 [.ref a, l1, l2, l3] st h nx = Df d 226 1182 [.ref a, l1, l2, l3] (.ref a :: st) h nx := D_aload_n (ins_of mc_226 (pc := 1181) (x := (.aload_n 0, 1)) (by decide +kernel)) rfl
theorem e_226_1182 : Df d 226 1182 [l0, l1, l2, .int x] st h nx = Df d 226 1183 [l0, l1, l2, .int x] (.int x :: st) h nx := D_iload_n (ins_of mc_226 (pc := 1182) (x := (.iload_n 3, 1)) (by decide +kernel)) rfl
theorem e_226_1183 : Df d 226 1183 [l0, l1, l2, l3] st h nx = Df d 226 1184 [l0, l1, l2, l3] (.int 3 :: st) h nx := D_iconst (ins_of mc_226 (pc := 1183) (x := (.iconst 3, 1)) (by decide +kernel)) (by decide)
theorem e_226_1184 : Df d 226 1184 [l0, l1, l2, l3] (.int y :: .int x :: st) h nx = Df d 226 1185 [l0, l1, l2, l3] (.int (x + y) :: st) h nx := D_iadd (ins_of mc_226 (pc := 1184) (x := (.iadd, 1)) (by decide +kernel))
theorem e_226_1185 : Df d 226 1185 [l0, l1, l2, l3] (.int x :: .ref a :: st) h nx = (rX h a x).bind fun v => Df d 226 1186 [l0, l1, l2, l3] (.int v :: st) h nx := D_iaload (ins_of mc_226 (pc := 1185) (x := (.iaload, 1)) (by decide +kernel))
theorem e_226_1186 : Df d 226 1186 [l0, l1, l2, l3] [v2, v1, v0, .ref a, s0] h nx = if ck h a 9 = true then cn d 226 1189 [l0, l1, l2, l3] [s0] (Dn d 200 [.ref a, v0, v1, v2] h nx) else none := D_virtual (k1 := 200) (ins_of mc_226 (pc := 1186) (x := (.invokevirtual 145, 3)) (by decide +kernel)) mo_226 (by decide +kernel) (by decide) rfl rfl (by decide) rfl (Nat.le_of_ble_eq_true rfl) rfl
theorem e_226_1189 : Df d 226 1189 [l0, l1, l2, l3] (.int y :: .int x :: st) h nx = if x = y then Df d 226 1388 [l0, l1, l2, l3] st h nx else Df d 226 1192 [l0, l1, l2, l3] st h nx := D_icmp_eq (ins_of mc_226 (pc := 1189) (x := (.if_icmp .eq 199, 3)) (by decide +kernel)) (by decide)
theorem e_226_1192 : Df d 226 1192 [l0, l1, l2, l3] st h nx = Df d 226 1193 [l0, l1, l2, l3] (.int 0 :: st) h nx := D_iconst (ins_of mc_226 (pc := 1192) (x := (.iconst 0, 1)) (by decide +kernel)) (by decide)
theorem e_226_1193 : Df d 226 1193 [l0, l1, l2, l3] [.int x] h nx = if nR .boolean x = true then some (some (.int x), h, nx) else none := D_zreturn (ins_of mc_226 (pc := 1193) (x := (.ireturn, 1)) (by decide +kernel)) mr_226
theorem e_226_1194 : Df d 226 1194 [l0, .ref a, l2, l3] st h nx = Df d 226 1195 [l0, .ref a, l2, l3] (.ref a :: st) h nx := D_aload_n (ins_of mc_226 (pc := 1194) (x := (.aload_n 1, 1)) (by decide +kernel)) rfl
theorem e_226_1195 : Df d 226 1195 [.ref a, l1, l2, l3] st h nx = Df d 226 1196 [.ref a, l1, l2, l3] (.ref a :: st) h nx := D_aload_n (ins_of mc_226 (pc := 1195) (x := (.aload_n 0, 1)) (by decide +kernel)) rfl
theorem e_226_1196 : Df d 226 1196 [l0, l1, l2, .int x] st h nx = Df d 226 1197 [l0, l1, l2, .int x] (.int x :: st) h nx := D_iload_n (ins_of mc_226 (pc := 1196) (x := (.iload_n 3, 1)) (by decide +kernel)) rfl
theorem e_226_1197 : Df d 226 1197 [l0, l1, l2, l3] st h nx = Df d 226 1198 [l0, l1, l2, l3] (.int 1 :: st) h nx := D_iconst (ins_of mc_226 (pc := 1197) (x := (.iconst 1, 1)) (by decide +kernel)) (by decide)
theorem e_226_1198 : Df d 226 1198 [l0, l1, l2, l3] (.int y :: .int x :: st) h nx = Df d 226 1199 [l0, l1, l2, l3] (.int (x + y) :: st) h nx := D_iadd (ins_of mc_226 (pc := 1198) (x := (.iadd, 1)) (by decide +kernel))
theorem e_226_1199 : Df d 226 1199 [l0, l1, l2, l3] (.int x :: .ref a :: st) h nx = (rX h a x).bind fun v => Df d 226 1200 [l0, l1, l2, l3] (.int v :: st) h nx := D_iaload (ins_of mc_226 (pc := 1199) (x := (.iaload, 1)) (by decide +kernel))
theorem e_226_1200 : Df d 226 1200 [.ref a, l1, l2, l3] st h nx = Df d 226 1201 [.ref a, l1, l2, l3] (.ref a :: st) h nx := D_aload_n (ins_of mc_226 (pc := 1200) (x := (.aload_n 0, 1)) (by decide +kernel)) rfl
theorem e_226_1201 : Df d 226 1201 [l0, l1, l2, .int x] st h nx = Df d 226 1202 [l0, l1, l2, .int x] (.int x :: st) h nx := D_iload_n (ins_of mc_226 (pc := 1201) (x := (.iload_n 3, 1)) (by decide +kernel)) rfl
theorem e_226_1202 : Df d 226 1202 [l0, l1, l2, l3] st h nx = Df d 226 1203 [l0, l1, l2, l3] (.int 2 :: st) h nx := D_iconst (ins_of mc_226 (pc := 1202) (x := (.iconst 2, 1)) (by decide +kernel)) (by decide)
theorem e_226_1203 : Df d 226 1203 [l0, l1, l2, l3] (.int y :: .int x :: st) h nx = Df d 226 1204 [l0, l1, l2, l3] (.int (x + y) :: st) h nx := D_iadd (ins_of mc_226 (pc := 1203) (x := (.iadd, 1)) (by decide +kernel))
theorem e_226_1204 : Df d 226 1204 [l0, l1, l2, l3] (.int x :: .ref a :: st) h nx = (rX h a x).bind fun v => Df d 226 1205 [l0, l1, l2, l3] (.int v :: st) h nx := D_iaload (ins_of mc_226 (pc := 1204) (x := (.iaload, 1)) (by decide +kernel))
theorem e_226_1205 : Df d 226 1205 [l0, l1, l2, l3] [v1, v0, .ref a] h nx = if ck h a 8 = true then cn d 226 1208 [l0, l1, l2, l3] [] (Dn d 112 [.ref a, v0, v1] h nx) else none := D_virtual (k1 := 112) (ins_of mc_226 (pc := 1205) (x := (.invokevirtual 146, 3)) (by decide +kernel)) mo_226 (by decide +kernel) (by decide) rfl rfl (by decide) rfl (Nat.le_of_ble_eq_true rfl) rfl
theorem e_226_1208 : Df d 226 1208 [l0, l1, .ref a, l3] st h nx = Df d 226 1209 [l0, l1, .ref a, l3] (.ref a :: st) h nx := D_aload_n (ins_of mc_226 (pc := 1208) (x := (.aload_n 2, 1)) (by decide +kernel)) rfl
theorem e_226_1209 : Df d 226 1209 [.ref a, l1, l2, l3] st h nx = Df d 226 1210 [.ref a, l1, l2, l3] (.ref a :: st) h nx := D_aload_n (ins_of mc_226 (pc := 1209) (x := (.aload_n 0, 1)) (by decide +kernel)) rfl
theorem e_226_1210 : Df d 226 1210 [l0, l1, l2, .int x] st h nx = Df d 226 1211 [l0, l1, l2, .int x] (.int x :: st) h nx := D_iload_n (ins_of mc_226 (pc := 1210) (x := (.iload_n 3, 1)) (by decide +kernel)) rfl
theorem e_226_1211 : Df d 226 1211 [l0, l1, l2, l3] st h nx = Df d 226 1212 [l0, l1, l2, l3] (.int 1 :: st) h nx := D_iconst (ins_of mc_226 (pc := 1211) (x := (.iconst 1, 1)) (by decide +kernel)) (by decide)
theorem e_226_1212 : Df d 226 1212 [l0, l1, l2, l3] (.int y :: .int x :: st) h nx = Df d 226 1213 [l0, l1, l2, l3] (.int (x + y) :: st) h nx := D_iadd (ins_of mc_226 (pc := 1212) (x := (.iadd, 1)) (by decide +kernel))
theorem e_226_1213 : Df d 226 1213 [l0, l1, l2, l3] (.int x :: .ref a :: st) h nx = (rX h a x).bind fun v => Df d 226 1214 [l0, l1, l2, l3] (.int v :: st) h nx := D_iaload (ins_of mc_226 (pc := 1213) (x := (.iaload, 1)) (by decide +kernel))
theorem e_226_1214 : Df d 226 1214 [.ref a, l1, l2, l3] st h nx = Df d 226 1215 [.ref a, l1, l2, l3] (.ref a :: st) h nx := D_aload_n (ins_of mc_226 (pc := 1214) (x := (.aload_n 0, 1)) (by decide +kernel)) rfl
theorem e_226_1215 : Df d 226 1215 [l0, l1, l2, .int x] st h nx = Df d 226 1216 [l0, l1, l2, .int x] (.int x :: st) h nx := D_iload_n (ins_of mc_226 (pc := 1215) (x := (.iload_n 3, 1)) (by decide +kernel)) rfl
theorem e_226_1216 : Df d 226 1216 [l0, l1, l2, l3] st h nx = Df d 226 1217 [l0, l1, l2, l3] (.int 2 :: st) h nx := D_iconst (ins_of mc_226 (pc := 1216) (x := (.iconst 2, 1)) (by decide +kernel)) (by decide)
theorem e_226_1217 : Df d 226 1217 [l0, l1, l2, l3] (.int y :: .int x :: st) h nx = Df d 226 1218 [l0, l1, l2, l3] (.int (x + y) :: st) h nx := D_iadd (ins_of mc_226 (pc := 1217) (x := (.iadd, 1)) (by decide +kernel))
theorem e_226_1218 : Df d 226 1218 [l0, l1, l2, l3] (.int x :: .ref a :: st) h nx = (rX h a x).bind fun v => Df d 226 1219 [l0, l1, l2, l3] (.int v :: st) h nx := D_iaload (ins_of mc_226 (pc := 1218) (x := (.iaload, 1)) (by decide +kernel))
theorem e_226_1219 : Df d 226 1219 [l0, l1, l2, l3] [v1, v0, .ref a, s0] h nx = if ck h a 9 = true then cn d 226 1222 [l0, l1, l2, l3] [s0] (Dn d 202 [.ref a, v0, v1] h nx) else none := D_virtual (k1 := 202) (ins_of mc_226 (pc := 1219) (x := (.invokevirtual 149, 3)) (by decide +kernel)) mo_226 (by decide +kernel) (by decide) rfl rfl (by decide) rfl (Nat.le_of_ble_eq_true rfl) rfl
theorem e_226_1222 : Df d 226 1222 [l0, l1, l2, l3] (.int y :: .int x :: st) h nx = if x = y then Df d 226 1388 [l0, l1, l2, l3] st h nx else Df d 226 1225 [l0, l1, l2, l3] st h nx := D_icmp_eq (ins_of mc_226 (pc := 1222) (x := (.if_icmp .eq 166, 3)) (by decide +kernel)) (by decide)
theorem e_226_1225 : Df d 226 1225 [l0, l1, l2, l3] st h nx = Df d 226 1226 [l0, l1, l2, l3] (.int 0 :: st) h nx := D_iconst (ins_of mc_226 (pc := 1225) (x := (.iconst 0, 1)) (by decide +kernel)) (by decide)
theorem e_226_1226 : Df d 226 1226 [l0, l1, l2, l3] [.int x] h nx = if nR .boolean x = true then some (some (.int x), h, nx) else none := D_zreturn (ins_of mc_226 (pc := 1226) (x := (.ireturn, 1)) (by decide +kernel)) mr_226
theorem e_226_1227 : Df d 226 1227 [l0, .ref a, l2, l3] st h nx = Df d 226 1228 [l0, .ref a, l2, l3] (.ref a :: st) h nx := D_aload_n (ins_of mc_226 (pc := 1227) (x := (.aload_n 1, 1)) (by decide +kernel)) rfl
theorem e_226_1228 : Df d 226 1228 [.ref a, l1, l2, l3] st h nx = Df d 226 1229 [.ref a, l1, l2, l3] (.ref a :: st) h nx := D_aload_n (ins_of mc_226 (pc := 1228) (x := (.aload_n 0, 1)) (by decide +kernel)) rfl
theorem e_226_1229 : Df d 226 1229 [l0, l1, l2, .int x] st h nx = Df d 226 1230 [l0, l1, l2, .int x] (.int x :: st) h nx := D_iload_n (ins_of mc_226 (pc := 1229) (x := (.iload_n 3, 1)) (by decide +kernel)) rfl
theorem e_226_1230 : Df d 226 1230 [l0, l1, l2, l3] st h nx = Df d 226 1231 [l0, l1, l2, l3] (.int 1 :: st) h nx := D_iconst (ins_of mc_226 (pc := 1230) (x := (.iconst 1, 1)) (by decide +kernel)) (by decide)
theorem e_226_1231 : Df d 226 1231 [l0, l1, l2, l3] (.int y :: .int x :: st) h nx = Df d 226 1232 [l0, l1, l2, l3] (.int (x + y) :: st) h nx := D_iadd (ins_of mc_226 (pc := 1231) (x := (.iadd, 1)) (by decide +kernel))
theorem e_226_1232 : Df d 226 1232 [l0, l1, l2, l3] (.int x :: .ref a :: st) h nx = (rX h a x).bind fun v => Df d 226 1233 [l0, l1, l2, l3] (.int v :: st) h nx := D_iaload (ins_of mc_226 (pc := 1232) (x := (.iaload, 1)) (by decide +kernel))
theorem e_226_1233 : Df d 226 1233 [.ref a, l1, l2, l3] st h nx = Df d 226 1234 [.ref a, l1, l2, l3] (.ref a :: st) h nx := D_aload_n (ins_of mc_226 (pc := 1233) (x := (.aload_n 0, 1)) (by decide +kernel)) rfl
theorem e_226_1234 : Df d 226 1234 [l0, l1, l2, .int x] st h nx = Df d 226 1235 [l0, l1, l2, .int x] (.int x :: st) h nx := D_iload_n (ins_of mc_226 (pc := 1234) (x := (.iload_n 3, 1)) (by decide +kernel)) rfl
theorem e_226_1235 : Df d 226 1235 [l0, l1, l2, l3] st h nx = Df d 226 1236 [l0, l1, l2, l3] (.int 2 :: st) h nx := D_iconst (ins_of mc_226 (pc := 1235) (x := (.iconst 2, 1)) (by decide +kernel)) (by decide)
theorem e_226_1236 : Df d 226 1236 [l0, l1, l2, l3] (.int y :: .int x :: st) h nx = Df d 226 1237 [l0, l1, l2, l3] (.int (x + y) :: st) h nx := D_iadd (ins_of mc_226 (pc := 1236) (x := (.iadd, 1)) (by decide +kernel))
theorem e_226_1237 : Df d 226 1237 [l0, l1, l2, l3] (.int x :: .ref a :: st) h nx = (rX h a x).bind fun v => Df d 226 1238 [l0, l1, l2, l3] (.int v :: st) h nx := D_iaload (ins_of mc_226 (pc := 1237) (x := (.iaload, 1)) (by decide +kernel))
theorem e_226_1238 : Df d 226 1238 [l0, l1, l2, l3] [v1, v0, .ref a] h nx = if ck h a 8 = true then cn d 226 1241 [l0, l1, l2, l3] [] (Dn d 113 [.ref a, v0, v1] h nx) else none := D_virtual (k1 := 113) (ins_of mc_226 (pc := 1238) (x := (.invokevirtual 150, 3)) (by decide +kernel)) mo_226 (by decide +kernel) (by decide) rfl rfl (by decide) rfl (Nat.le_of_ble_eq_true rfl) rfl
theorem e_226_1241 : Df d 226 1241 [l0, l1, .ref a, l3] st h nx = Df d 226 1242 [l0, l1, .ref a, l3] (.ref a :: st) h nx := D_aload_n (ins_of mc_226 (pc := 1241) (x := (.aload_n 2, 1)) (by decide +kernel)) rfl
theorem e_226_1242 : Df d 226 1242 [.ref a, l1, l2, l3] st h nx = Df d 226 1243 [.ref a, l1, l2, l3] (.ref a :: st) h nx := D_aload_n (ins_of mc_226 (pc := 1242) (x := (.aload_n 0, 1)) (by decide +kernel)) rfl
theorem e_226_1243 : Df d 226 1243 [l0, l1, l2, .int x] st h nx = Df d 226 1244 [l0, l1, l2, .int x] (.int x :: st) h nx := D_iload_n (ins_of mc_226 (pc := 1243) (x := (.iload_n 3, 1)) (by decide +kernel)) rfl
theorem e_226_1244 : Df d 226 1244 [l0, l1, l2, l3] st h nx = Df d 226 1245 [l0, l1, l2, l3] (.int 1 :: st) h nx := D_iconst (ins_of mc_226 (pc := 1244) (x := (.iconst 1, 1)) (by decide +kernel)) (by decide)
theorem e_226_1245 : Df d 226 1245 [l0, l1, l2, l3] (.int y :: .int x :: st) h nx = Df d 226 1246 [l0, l1, l2, l3] (.int (x + y) :: st) h nx := D_iadd (ins_of mc_226 (pc := 1245) (x := (.iadd, 1)) (by decide +kernel))
theorem e_226_1246 : Df d 226 1246 [l0, l1, l2, l3] (.int x :: .ref a :: st) h nx = (rX h a x).bind fun v => Df d 226 1247 [l0, l1, l2, l3] (.int v :: st) h nx := D_iaload (ins_of mc_226 (pc := 1246) (x := (.iaload, 1)) (by decide +kernel))
theorem e_226_1247 : Df d 226 1247 [.ref a, l1, l2, l3] st h nx = Df d 226 1248 [.ref a, l1, l2, l3] (.ref a :: st) h nx := D_aload_n (ins_of mc_226 (pc := 1247) (x := (.aload_n 0, 1)) (by decide +kernel)) rfl
theorem e_226_1248 : Df d 226 1248 [l0, l1, l2, .int x] st h nx = Df d 226 1249 [l0, l1, l2, .int x] (.int x :: st) h nx := D_iload_n (ins_of mc_226 (pc := 1248) (x := (.iload_n 3, 1)) (by decide +kernel)) rfl
theorem e_226_1249 : Df d 226 1249 [l0, l1, l2, l3] st h nx = Df d 226 1250 [l0, l1, l2, l3] (.int 2 :: st) h nx := D_iconst (ins_of mc_226 (pc := 1249) (x := (.iconst 2, 1)) (by decide +kernel)) (by decide)
theorem e_226_1250 : Df d 226 1250 [l0, l1, l2, l3] (.int y :: .int x :: st) h nx = Df d 226 1251 [l0, l1, l2, l3] (.int (x + y) :: st) h nx := D_iadd (ins_of mc_226 (pc := 1250) (x := (.iadd, 1)) (by decide +kernel))
theorem e_226_1251 : Df d 226 1251 [l0, l1, l2, l3] (.int x :: .ref a :: st) h nx = (rX h a x).bind fun v => Df d 226 1252 [l0, l1, l2, l3] (.int v :: st) h nx := D_iaload (ins_of mc_226 (pc := 1251) (x := (.iaload, 1)) (by decide +kernel))
theorem e_226_1252 : Df d 226 1252 [l0, l1, l2, l3] [v1, v0, .ref a, s0] h nx = if ck h a 9 = true then cn d 226 1255 [l0, l1, l2, l3] [s0] (Dn d 203 [.ref a, v0, v1] h nx) else none := D_virtual (k1 := 203) (ins_of mc_226 (pc := 1252) (x := (.invokevirtual 153, 3)) (by decide +kernel)) mo_226 (by decide +kernel) (by decide) rfl rfl (by decide) rfl (Nat.le_of_ble_eq_true rfl) rfl
theorem e_226_1255 : Df d 226 1255 [l0, l1, l2, l3] (.int y :: .int x :: st) h nx = if x = y then Df d 226 1388 [l0, l1, l2, l3] st h nx else Df d 226 1258 [l0, l1, l2, l3] st h nx := D_icmp_eq (ins_of mc_226 (pc := 1255) (x := (.if_icmp .eq 133, 3)) (by decide +kernel)) (by decide)
theorem e_226_1258 : Df d 226 1258 [l0, l1, l2, l3] st h nx = Df d 226 1259 [l0, l1, l2, l3] (.int 0 :: st) h nx := D_iconst (ins_of mc_226 (pc := 1258) (x := (.iconst 0, 1)) (by decide +kernel)) (by decide)
theorem e_226_1259 : Df d 226 1259 [l0, l1, l2, l3] [.int x] h nx = if nR .boolean x = true then some (some (.int x), h, nx) else none := D_zreturn (ins_of mc_226 (pc := 1259) (x := (.ireturn, 1)) (by decide +kernel)) mr_226
theorem e_226_1260 : Df d 226 1260 [l0, .ref a, l2, l3] st h nx = Df d 226 1261 [l0, .ref a, l2, l3] (.ref a :: st) h nx := D_aload_n (ins_of mc_226 (pc := 1260) (x := (.aload_n 1, 1)) (by decide +kernel)) rfl
theorem e_226_1261 : Df d 226 1261 [.ref a, l1, l2, l3] st h nx = Df d 226 1262 [.ref a, l1, l2, l3] (.ref a :: st) h nx := D_aload_n (ins_of mc_226 (pc := 1261) (x := (.aload_n 0, 1)) (by decide +kernel)) rfl
theorem e_226_1262 : Df d 226 1262 [l0, l1, l2, .int x] st h nx = Df d 226 1263 [l0, l1, l2, .int x] (.int x :: st) h nx := D_iload_n (ins_of mc_226 (pc := 1262) (x := (.iload_n 3, 1)) (by decide +kernel)) rfl
theorem e_226_1263 : Df d 226 1263 [l0, l1, l2, l3] st h nx = Df d 226 1264 [l0, l1, l2, l3] (.int 1 :: st) h nx := D_iconst (ins_of mc_226 (pc := 1263) (x := (.iconst 1, 1)) (by decide +kernel)) (by decide)
theorem e_226_1264 : Df d 226 1264 [l0, l1, l2, l3] (.int y :: .int x :: st) h nx = Df d 226 1265 [l0, l1, l2, l3] (.int (x + y) :: st) h nx := D_iadd (ins_of mc_226 (pc := 1264) (x := (.iadd, 1)) (by decide +kernel))
theorem e_226_1265 : Df d 226 1265 [l0, l1, l2, l3] (.int x :: .ref a :: st) h nx = (rX h a x).bind fun v => Df d 226 1266 [l0, l1, l2, l3] (.int v :: st) h nx := D_iaload (ins_of mc_226 (pc := 1265) (x := (.iaload, 1)) (by decide +kernel))
theorem e_226_1266 : Df d 226 1266 [.ref a, l1, l2, l3] st h nx = Df d 226 1267 [.ref a, l1, l2, l3] (.ref a :: st) h nx := D_aload_n (ins_of mc_226 (pc := 1266) (x := (.aload_n 0, 1)) (by decide +kernel)) rfl
theorem e_226_1267 : Df d 226 1267 [l0, l1, l2, .int x] st h nx = Df d 226 1268 [l0, l1, l2, .int x] (.int x :: st) h nx := D_iload_n (ins_of mc_226 (pc := 1267) (x := (.iload_n 3, 1)) (by decide +kernel)) rfl
theorem e_226_1268 : Df d 226 1268 [l0, l1, l2, l3] st h nx = Df d 226 1269 [l0, l1, l2, l3] (.int 2 :: st) h nx := D_iconst (ins_of mc_226 (pc := 1268) (x := (.iconst 2, 1)) (by decide +kernel)) (by decide)
theorem e_226_1269 : Df d 226 1269 [l0, l1, l2, l3] (.int y :: .int x :: st) h nx = Df d 226 1270 [l0, l1, l2, l3] (.int (x + y) :: st) h nx := D_iadd (ins_of mc_226 (pc := 1269) (x := (.iadd, 1)) (by decide +kernel))
theorem e_226_1270 : Df d 226 1270 [l0, l1, l2, l3] (.int x :: .ref a :: st) h nx = (rX h a x).bind fun v => Df d 226 1271 [l0, l1, l2, l3] (.int v :: st) h nx := D_iaload (ins_of mc_226 (pc := 1270) (x := (.iaload, 1)) (by decide +kernel))
theorem e_226_1271 : Df d 226 1271 [l0, l1, l2, l3] [v1, v0, .ref a] h nx = if ck h a 8 = true then cn d 226 1274 [l0, l1, l2, l3] [] (Dn d 114 [.ref a, v0, v1] h nx) else none := D_virtual (k1 := 114) (ins_of mc_226 (pc := 1271) (x := (.invokevirtual 154, 3)) (by decide +kernel)) mo_226 (by decide +kernel) (by decide) rfl rfl (by decide) rfl (Nat.le_of_ble_eq_true rfl) rfl
theorem e_226_1274 : Df d 226 1274 [l0, l1, .ref a, l3] st h nx = Df d 226 1275 [l0, l1, .ref a, l3] (.ref a :: st) h nx := D_aload_n (ins_of mc_226 (pc := 1274) (x := (.aload_n 2, 1)) (by decide +kernel)) rfl
theorem e_226_1275 : Df d 226 1275 [.ref a, l1, l2, l3] st h nx = Df d 226 1276 [.ref a, l1, l2, l3] (.ref a :: st) h nx := D_aload_n (ins_of mc_226 (pc := 1275) (x := (.aload_n 0, 1)) (by decide +kernel)) rfl
theorem e_226_1276 : Df d 226 1276 [l0, l1, l2, .int x] st h nx = Df d 226 1277 [l0, l1, l2, .int x] (.int x :: st) h nx := D_iload_n (ins_of mc_226 (pc := 1276) (x := (.iload_n 3, 1)) (by decide +kernel)) rfl
theorem e_226_1277 : Df d 226 1277 [l0, l1, l2, l3] st h nx = Df d 226 1278 [l0, l1, l2, l3] (.int 1 :: st) h nx := D_iconst (ins_of mc_226 (pc := 1277) (x := (.iconst 1, 1)) (by decide +kernel)) (by decide)
theorem e_226_1278 : Df d 226 1278 [l0, l1, l2, l3] (.int y :: .int x :: st) h nx = Df d 226 1279 [l0, l1, l2, l3] (.int (x + y) :: st) h nx := D_iadd (ins_of mc_226 (pc := 1278) (x := (.iadd, 1)) (by decide +kernel))
theorem e_226_1279 : Df d 226 1279 [l0, l1, l2, l3] (.int x :: .ref a :: st) h nx = (rX h a x).bind fun v => Df d 226 1280 [l0, l1, l2, l3] (.int v :: st) h nx := D_iaload (ins_of mc_226 (pc := 1279) (x := (.iaload, 1)) (by decide +kernel))
theorem e_226_1280 : Df d 226 1280 [.ref a, l1, l2, l3] st h nx = Df d 226 1281 [.ref a, l1, l2, l3] (.ref a :: st) h nx := D_aload_n (ins_of mc_226 (pc := 1280) (x := (.aload_n 0, 1)) (by decide +kernel)) rfl
theorem e_226_1281 : Df d 226 1281 [l0, l1, l2, .int x] st h nx = Df d 226 1282 [l0, l1, l2, .int x] (.int x :: st) h nx := D_iload_n (ins_of mc_226 (pc := 1281) (x := (.iload_n 3, 1)) (by decide +kernel)) rfl
theorem e_226_1282 : Df d 226 1282 [l0, l1, l2, l3] st h nx = Df d 226 1283 [l0, l1, l2, l3] (.int 2 :: st) h nx := D_iconst (ins_of mc_226 (pc := 1282) (x := (.iconst 2, 1)) (by decide +kernel)) (by decide)
theorem e_226_1283 : Df d 226 1283 [l0, l1, l2, l3] (.int y :: .int x :: st) h nx = Df d 226 1284 [l0, l1, l2, l3] (.int (x + y) :: st) h nx := D_iadd (ins_of mc_226 (pc := 1283) (x := (.iadd, 1)) (by decide +kernel))
theorem e_226_1284 : Df d 226 1284 [l0, l1, l2, l3] (.int x :: .ref a :: st) h nx = (rX h a x).bind fun v => Df d 226 1285 [l0, l1, l2, l3] (.int v :: st) h nx := D_iaload (ins_of mc_226 (pc := 1284) (x := (.iaload, 1)) (by decide +kernel))
theorem e_226_1285 : Df d 226 1285 [l0, l1, l2, l3] [v1, v0, .ref a, s0] h nx = if ck h a 9 = true then cn d 226 1288 [l0, l1, l2, l3] [s0] (Dn d 204 [.ref a, v0, v1] h nx) else none := D_virtual (k1 := 204) (ins_of mc_226 (pc := 1285) (x := (.invokevirtual 157, 3)) (by decide +kernel)) mo_226 (by decide +kernel) (by decide) rfl rfl (by decide) rfl (Nat.le_of_ble_eq_true rfl) rfl
theorem e_226_1288 : Df d 226 1288 [l0, l1, l2, l3] (.int y :: .int x :: st) h nx = if x = y then Df d 226 1388 [l0, l1, l2, l3] st h nx else Df d 226 1291 [l0, l1, l2, l3] st h nx := D_icmp_eq (ins_of mc_226 (pc := 1288) (x := (.if_icmp .eq 100, 3)) (by decide +kernel)) (by decide)
theorem e_226_1291 : Df d 226 1291 [l0, l1, l2, l3] st h nx = Df d 226 1292 [l0, l1, l2, l3] (.int 0 :: st) h nx := D_iconst (ins_of mc_226 (pc := 1291) (x := (.iconst 0, 1)) (by decide +kernel)) (by decide)
theorem e_226_1292 : Df d 226 1292 [l0, l1, l2, l3] [.int x] h nx = if nR .boolean x = true then some (some (.int x), h, nx) else none := D_zreturn (ins_of mc_226 (pc := 1292) (x := (.ireturn, 1)) (by decide +kernel)) mr_226
theorem e_226_1293 : Df d 226 1293 [l0, .ref a, l2, l3] st h nx = Df d 226 1294 [l0, .ref a, l2, l3] (.ref a :: st) h nx := D_aload_n (ins_of mc_226 (pc := 1293) (x := (.aload_n 1, 1)) (by decide +kernel)) rfl
theorem e_226_1294 : Df d 226 1294 [.ref a, l1, l2, l3] st h nx = Df d 226 1295 [.ref a, l1, l2, l3] (.ref a :: st) h nx := D_aload_n (ins_of mc_226 (pc := 1294) (x := (.aload_n 0, 1)) (by decide +kernel)) rfl
theorem e_226_1295 : Df d 226 1295 [l0, l1, l2, .int x] st h nx = Df d 226 1296 [l0, l1, l2, .int x] (.int x :: st) h nx := D_iload_n (ins_of mc_226 (pc := 1295) (x := (.iload_n 3, 1)) (by decide +kernel)) rfl
theorem e_226_1296 : Df d 226 1296 [l0, l1, l2, l3] st h nx = Df d 226 1297 [l0, l1, l2, l3] (.int 1 :: st) h nx := D_iconst (ins_of mc_226 (pc := 1296) (x := (.iconst 1, 1)) (by decide +kernel)) (by decide)
theorem e_226_1297 : Df d 226 1297 [l0, l1, l2, l3] (.int y :: .int x :: st) h nx = Df d 226 1298 [l0, l1, l2, l3] (.int (x + y) :: st) h nx := D_iadd (ins_of mc_226 (pc := 1297) (x := (.iadd, 1)) (by decide +kernel))
theorem e_226_1298 : Df d 226 1298 [l0, l1, l2, l3] (.int x :: .ref a :: st) h nx = (rX h a x).bind fun v => Df d 226 1299 [l0, l1, l2, l3] (.int v :: st) h nx := D_iaload (ins_of mc_226 (pc := 1298) (x := (.iaload, 1)) (by decide +kernel))
theorem e_226_1299 : Df d 226 1299 [l0, l1, l2, l3] [v0, .ref a] h nx = if ck h a 8 = true then cn d 226 1302 [l0, l1, l2, l3] [] (Dn d 115 [.ref a, v0] h nx) else none := D_virtual (k1 := 115) (ins_of mc_226 (pc := 1299) (x := (.invokevirtual 158, 3)) (by decide +kernel)) mo_226 (by decide +kernel) (by decide) rfl rfl (by decide) rfl (Nat.le_of_ble_eq_true rfl) rfl
theorem e_226_1302 : Df d 226 1302 [l0, l1, .ref a, l3] st h nx = Df d 226 1303 [l0, l1, .ref a, l3] (.ref a :: st) h nx := D_aload_n (ins_of mc_226 (pc := 1302) (x := (.aload_n 2, 1)) (by decide +kernel)) rfl
theorem e_226_1303 : Df d 226 1303 [.ref a, l1, l2, l3] st h nx = Df d 226 1304 [.ref a, l1, l2, l3] (.ref a :: st) h nx := D_aload_n (ins_of mc_226 (pc := 1303) (x := (.aload_n 0, 1)) (by decide +kernel)) rfl
theorem e_226_1304 : Df d 226 1304 [l0, l1, l2, .int x] st h nx = Df d 226 1305 [l0, l1, l2, .int x] (.int x :: st) h nx := D_iload_n (ins_of mc_226 (pc := 1304) (x := (.iload_n 3, 1)) (by decide +kernel)) rfl
theorem e_226_1305 : Df d 226 1305 [l0, l1, l2, l3] st h nx = Df d 226 1306 [l0, l1, l2, l3] (.int 1 :: st) h nx := D_iconst (ins_of mc_226 (pc := 1305) (x := (.iconst 1, 1)) (by decide +kernel)) (by decide)
theorem e_226_1306 : Df d 226 1306 [l0, l1, l2, l3] (.int y :: .int x :: st) h nx = Df d 226 1307 [l0, l1, l2, l3] (.int (x + y) :: st) h nx := D_iadd (ins_of mc_226 (pc := 1306) (x := (.iadd, 1)) (by decide +kernel))
theorem e_226_1307 : Df d 226 1307 [l0, l1, l2, l3] (.int x :: .ref a :: st) h nx = (rX h a x).bind fun v => Df d 226 1308 [l0, l1, l2, l3] (.int v :: st) h nx := D_iaload (ins_of mc_226 (pc := 1307) (x := (.iaload, 1)) (by decide +kernel))
theorem e_226_1308 : Df d 226 1308 [l0, l1, l2, l3] [v0, .ref a, s0] h nx = if ck h a 9 = true then cn d 226 1311 [l0, l1, l2, l3] [s0] (Dn d 205 [.ref a, v0] h nx) else none := D_virtual (k1 := 205) (ins_of mc_226 (pc := 1308) (x := (.invokevirtual 161, 3)) (by decide +kernel)) mo_226 (by decide +kernel) (by decide) rfl rfl (by decide) rfl (Nat.le_of_ble_eq_true rfl) rfl
theorem e_226_1311 : Df d 226 1311 [l0, l1, l2, l3] (.int y :: .int x :: st) h nx = if x = y then Df d 226 1388 [l0, l1, l2, l3] st h nx else Df d 226 1314 [l0, l1, l2, l3] st h nx := D_icmp_eq (ins_of mc_226 (pc := 1311) (x := (.if_icmp .eq 77, 3)) (by decide +kernel)) (by decide)
theorem e_226_1314 : Df d 226 1314 [l0, l1, l2, l3] st h nx = Df d 226 1315 [l0, l1, l2, l3] (.int 0 :: st) h nx := D_iconst (ins_of mc_226 (pc := 1314) (x := (.iconst 0, 1)) (by decide +kernel)) (by decide)
theorem e_226_1315 : Df d 226 1315 [l0, l1, l2, l3] [.int x] h nx = if nR .boolean x = true then some (some (.int x), h, nx) else none := D_zreturn (ins_of mc_226 (pc := 1315) (x := (.ireturn, 1)) (by decide +kernel)) mr_226
theorem e_226_1316 : Df d 226 1316 [l0, .ref a, l2, l3] st h nx = Df d 226 1317 [l0, .ref a, l2, l3] (.ref a :: st) h nx := D_aload_n (ins_of mc_226 (pc := 1316) (x := (.aload_n 1, 1)) (by decide +kernel)) rfl
theorem e_226_1317 : Df d 226 1317 [.ref a, l1, l2, l3] st h nx = Df d 226 1318 [.ref a, l1, l2, l3] (.ref a :: st) h nx := D_aload_n (ins_of mc_226 (pc := 1317) (x := (.aload_n 0, 1)) (by decide +kernel)) rfl
theorem e_226_1318 : Df d 226 1318 [l0, l1, l2, .int x] st h nx = Df d 226 1319 [l0, l1, l2, .int x] (.int x :: st) h nx := D_iload_n (ins_of mc_226 (pc := 1318) (x := (.iload_n 3, 1)) (by decide +kernel)) rfl
theorem e_226_1319 : Df d 226 1319 [l0, l1, l2, l3] st h nx = Df d 226 1320 [l0, l1, l2, l3] (.int 1 :: st) h nx := D_iconst (ins_of mc_226 (pc := 1319) (x := (.iconst 1, 1)) (by decide +kernel)) (by decide)
theorem e_226_1320 : Df d 226 1320 [l0, l1, l2, l3] (.int y :: .int x :: st) h nx = Df d 226 1321 [l0, l1, l2, l3] (.int (x + y) :: st) h nx := D_iadd (ins_of mc_226 (pc := 1320) (x := (.iadd, 1)) (by decide +kernel))
theorem e_226_1321 : Df d 226 1321 [l0, l1, l2, l3] (.int x :: .ref a :: st) h nx = (rX h a x).bind fun v => Df d 226 1322 [l0, l1, l2, l3] (.int v :: st) h nx := D_iaload (ins_of mc_226 (pc := 1321) (x := (.iaload, 1)) (by decide +kernel))
theorem e_226_1322 : Df d 226 1322 [l0, l1, l2, l3] [v0, .ref a] h nx = if ck h a 8 = true then cn d 226 1325 [l0, l1, l2, l3] [] (Dn d 116 [.ref a, v0] h nx) else none := D_virtual (k1 := 116) (ins_of mc_226 (pc := 1322) (x := (.invokevirtual 162, 3)) (by decide +kernel)) mo_226 (by decide +kernel) (by decide) rfl rfl (by decide) rfl (Nat.le_of_ble_eq_true rfl) rfl
theorem e_226_1325 : Df d 226 1325 [l0, l1, .ref a, l3] st h nx = Df d 226 1326 [l0, l1, .ref a, l3] (.ref a :: st) h nx := D_aload_n (ins_of mc_226 (pc := 1325) (x := (.aload_n 2, 1)) (by decide +kernel)) rfl
theorem e_226_1326 : Df d 226 1326 [.ref a, l1, l2, l3] st h nx = Df d 226 1327 [.ref a, l1, l2, l3] (.ref a :: st) h nx := D_aload_n (ins_of mc_226 (pc := 1326) (x := (.aload_n 0, 1)) (by decide +kernel)) rfl
theorem e_226_1327 : Df d 226 1327 [l0, l1, l2, .int x] st h nx = Df d 226 1328 [l0, l1, l2, .int x] (.int x :: st) h nx := D_iload_n (ins_of mc_226 (pc := 1327) (x := (.iload_n 3, 1)) (by decide +kernel)) rfl
theorem e_226_1328 : Df d 226 1328 [l0, l1, l2, l3] st h nx = Df d 226 1329 [l0, l1, l2, l3] (.int 1 :: st) h nx := D_iconst (ins_of mc_226 (pc := 1328) (x := (.iconst 1, 1)) (by decide +kernel)) (by decide)
theorem e_226_1329 : Df d 226 1329 [l0, l1, l2, l3] (.int y :: .int x :: st) h nx = Df d 226 1330 [l0, l1, l2, l3] (.int (x + y) :: st) h nx := D_iadd (ins_of mc_226 (pc := 1329) (x := (.iadd, 1)) (by decide +kernel))
theorem e_226_1330 : Df d 226 1330 [l0, l1, l2, l3] (.int x :: .ref a :: st) h nx = (rX h a x).bind fun v => Df d 226 1331 [l0, l1, l2, l3] (.int v :: st) h nx := D_iaload (ins_of mc_226 (pc := 1330) (x := (.iaload, 1)) (by decide +kernel))
theorem e_226_1331 : Df d 226 1331 [l0, l1, l2, l3] [v0, .ref a, s0] h nx = if ck h a 9 = true then cn d 226 1334 [l0, l1, l2, l3] [s0] (Dn d 206 [.ref a, v0] h nx) else none := D_virtual (k1 := 206) (ins_of mc_226 (pc := 1331) (x := (.invokevirtual 165, 3)) (by decide +kernel)) mo_226 (by decide +kernel) (by decide) rfl rfl (by decide) rfl (Nat.le_of_ble_eq_true rfl) rfl
theorem e_226_1334 : Df d 226 1334 [l0, l1, l2, l3] (.int y :: .int x :: st) h nx = if x = y then Df d 226 1388 [l0, l1, l2, l3] st h nx else Df d 226 1337 [l0, l1, l2, l3] st h nx := D_icmp_eq (ins_of mc_226 (pc := 1334) (x := (.if_icmp .eq 54, 3)) (by decide +kernel)) (by decide)
theorem e_226_1337 : Df d 226 1337 [l0, l1, l2, l3] st h nx = Df d 226 1338 [l0, l1, l2, l3] (.int 0 :: st) h nx := D_iconst (ins_of mc_226 (pc := 1337) (x := (.iconst 0, 1)) (by decide +kernel)) (by decide)
theorem e_226_1338 : Df d 226 1338 [l0, l1, l2, l3] [.int x] h nx = if nR .boolean x = true then some (some (.int x), h, nx) else none := D_zreturn (ins_of mc_226 (pc := 1338) (x := (.ireturn, 1)) (by decide +kernel)) mr_226
theorem e_226_1339 : Df d 226 1339 [l0, .ref a, l2, l3] st h nx = Df d 226 1340 [l0, .ref a, l2, l3] (.ref a :: st) h nx := D_aload_n (ins_of mc_226 (pc := 1339) (x := (.aload_n 1, 1)) (by decide +kernel)) rfl
theorem e_226_1340 : Df d 226 1340 [l0, l1, l2, l3] [.ref a] h nx = if ck h a 8 = true then cn d 226 1343 [l0, l1, l2, l3] [] (Dn d 118 [.ref a] h nx) else none := D_virtual (k1 := 118) (ins_of mc_226 (pc := 1340) (x := (.invokevirtual 166, 3)) (by decide +kernel)) mo_226 (by decide +kernel) (by decide) rfl rfl (by decide) rfl (Nat.le_of_ble_eq_true rfl) rfl
theorem e_226_1343 : Df d 226 1343 [l0, l1, .ref a, l3] st h nx = Df d 226 1344 [l0, l1, .ref a, l3] (.ref a :: st) h nx := D_aload_n (ins_of mc_226 (pc := 1343) (x := (.aload_n 2, 1)) (by decide +kernel)) rfl
theorem e_226_1344 : Df d 226 1344 [l0, l1, l2, l3] [.ref a, s0] h nx = if ck h a 9 = true then cn d 226 1347 [l0, l1, l2, l3] [s0] (Dn d 208 [.ref a] h nx) else none := D_virtual (k1 := 208) (ins_of mc_226 (pc := 1344) (x := (.invokevirtual 169, 3)) (by decide +kernel)) mo_226 (by decide +kernel) (by decide) rfl rfl (by decide) rfl (Nat.le_of_ble_eq_true rfl) rfl
theorem e_226_1347 : Df d 226 1347 [l0, l1, l2, l3] (.int y :: .int x :: st) h nx = if x = y then Df d 226 1388 [l0, l1, l2, l3] st h nx else Df d 226 1350 [l0, l1, l2, l3] st h nx := D_icmp_eq (ins_of mc_226 (pc := 1347) (x := (.if_icmp .eq 41, 3)) (by decide +kernel)) (by decide)
theorem e_226_1350 : Df d 226 1350 [l0, l1, l2, l3] st h nx = Df d 226 1351 [l0, l1, l2, l3] (.int 0 :: st) h nx := D_iconst (ins_of mc_226 (pc := 1350) (x := (.iconst 0, 1)) (by decide +kernel)) (by decide)
theorem e_226_1351 : Df d 226 1351 [l0, l1, l2, l3] [.int x] h nx = if nR .boolean x = true then some (some (.int x), h, nx) else none := D_zreturn (ins_of mc_226 (pc := 1351) (x := (.ireturn, 1)) (by decide +kernel)) mr_226
theorem e_226_1352 : Df d 226 1352 [l0, .ref a, l2, l3] st h nx = Df d 226 1353 [l0, .ref a, l2, l3] (.ref a :: st) h nx := D_aload_n (ins_of mc_226 (pc := 1352) (x := (.aload_n 1, 1)) (by decide +kernel)) rfl
theorem e_226_1353 : Df d 226 1353 [l0, l1, l2, l3] [.ref a] h nx = if ck h a 8 = true then cn d 226 1356 [l0, l1, l2, l3] [] (Dn d 119 [.ref a] h nx) else none := D_virtual (k1 := 119) (ins_of mc_226 (pc := 1353) (x := (.invokevirtual 170, 3)) (by decide +kernel)) mo_226 (by decide +kernel) (by decide) rfl rfl (by decide) rfl (Nat.le_of_ble_eq_true rfl) rfl
theorem e_226_1356 : Df d 226 1356 [l0, l1, .ref a, l3] st h nx = Df d 226 1357 [l0, l1, .ref a, l3] (.ref a :: st) h nx := D_aload_n (ins_of mc_226 (pc := 1356) (x := (.aload_n 2, 1)) (by decide +kernel)) rfl
theorem e_226_1357 : Df d 226 1357 [l0, l1, l2, l3] [.ref a, s0] h nx = if ck h a 9 = true then cn d 226 1360 [l0, l1, l2, l3] [s0] (Dn d 209 [.ref a] h nx) else none := D_virtual (k1 := 209) (ins_of mc_226 (pc := 1357) (x := (.invokevirtual 173, 3)) (by decide +kernel)) mo_226 (by decide +kernel) (by decide) rfl rfl (by decide) rfl (Nat.le_of_ble_eq_true rfl) rfl
theorem e_226_1360 : Df d 226 1360 [l0, l1, l2, l3] (.int y :: .int x :: st) h nx = if x = y then Df d 226 1388 [l0, l1, l2, l3] st h nx else Df d 226 1363 [l0, l1, l2, l3] st h nx := D_icmp_eq (ins_of mc_226 (pc := 1360) (x := (.if_icmp .eq 28, 3)) (by decide +kernel)) (by decide)
theorem e_226_1363 : Df d 226 1363 [l0, l1, l2, l3] st h nx = Df d 226 1364 [l0, l1, l2, l3] (.int 0 :: st) h nx := D_iconst (ins_of mc_226 (pc := 1363) (x := (.iconst 0, 1)) (by decide +kernel)) (by decide)
theorem e_226_1364 : Df d 226 1364 [l0, l1, l2, l3] [.int x] h nx = if nR .boolean x = true then some (some (.int x), h, nx) else none := D_zreturn (ins_of mc_226 (pc := 1364) (x := (.ireturn, 1)) (by decide +kernel)) mr_226
theorem e_226_1365 : Df d 226 1365 [l0, .ref a, l2, l3] st h nx = Df d 226 1366 [l0, .ref a, l2, l3] (.ref a :: st) h nx := D_aload_n (ins_of mc_226 (pc := 1365) (x := (.aload_n 1, 1)) (by decide +kernel)) rfl
theorem e_226_1366 : Df d 226 1366 [.ref a, l1, l2, l3] st h nx = Df d 226 1367 [.ref a, l1, l2, l3] (.ref a :: st) h nx := D_aload_n (ins_of mc_226 (pc := 1366) (x := (.aload_n 0, 1)) (by decide +kernel)) rfl
theorem e_226_1367 : Df d 226 1367 [l0, l1, l2, .int x] st h nx = Df d 226 1368 [l0, l1, l2, .int x] (.int x :: st) h nx := D_iload_n (ins_of mc_226 (pc := 1367) (x := (.iload_n 3, 1)) (by decide +kernel)) rfl
theorem e_226_1368 : Df d 226 1368 [l0, l1, l2, l3] st h nx = Df d 226 1369 [l0, l1, l2, l3] (.int 1 :: st) h nx := D_iconst (ins_of mc_226 (pc := 1368) (x := (.iconst 1, 1)) (by decide +kernel)) (by decide)
theorem e_226_1369 : Df d 226 1369 [l0, l1, l2, l3] (.int y :: .int x :: st) h nx = Df d 226 1370 [l0, l1, l2, l3] (.int (x + y) :: st) h nx := D_iadd (ins_of mc_226 (pc := 1369) (x := (.iadd, 1)) (by decide +kernel))
theorem e_226_1370 : Df d 226 1370 [l0, l1, l2, l3] (.int x :: .ref a :: st) h nx = (rX h a x).bind fun v => Df d 226 1371 [l0, l1, l2, l3] (.int v :: st) h nx := D_iaload (ins_of mc_226 (pc := 1370) (x := (.iaload, 1)) (by decide +kernel))
theorem e_226_1371 : Df d 226 1371 [l0, l1, l2, l3] [v0, .ref a] h nx = if ck h a 8 = true then cn d 226 1374 [l0, l1, l2, l3] [] (Dn d 120 [.ref a, v0] h nx) else none := D_virtual (k1 := 120) (ins_of mc_226 (pc := 1371) (x := (.invokevirtual 174, 3)) (by decide +kernel)) mo_226 (by decide +kernel) (by decide) rfl rfl (by decide) rfl (Nat.le_of_ble_eq_true rfl) rfl
theorem e_226_1374 : Df d 226 1374 [l0, l1, .ref a, l3] st h nx = Df d 226 1375 [l0, l1, .ref a, l3] (.ref a :: st) h nx := D_aload_n (ins_of mc_226 (pc := 1374) (x := (.aload_n 2, 1)) (by decide +kernel)) rfl
theorem e_226_1375 : Df d 226 1375 [.ref a, l1, l2, l3] st h nx = Df d 226 1376 [.ref a, l1, l2, l3] (.ref a :: st) h nx := D_aload_n (ins_of mc_226 (pc := 1375) (x := (.aload_n 0, 1)) (by decide +kernel)) rfl
theorem e_226_1376 : Df d 226 1376 [l0, l1, l2, .int x] st h nx = Df d 226 1377 [l0, l1, l2, .int x] (.int x :: st) h nx := D_iload_n (ins_of mc_226 (pc := 1376) (x := (.iload_n 3, 1)) (by decide +kernel)) rfl
theorem e_226_1377 : Df d 226 1377 [l0, l1, l2, l3] st h nx = Df d 226 1378 [l0, l1, l2, l3] (.int 1 :: st) h nx := D_iconst (ins_of mc_226 (pc := 1377) (x := (.iconst 1, 1)) (by decide +kernel)) (by decide)
theorem e_226_1378 : Df d 226 1378 [l0, l1, l2, l3] (.int y :: .int x :: st) h nx = Df d 226 1379 [l0, l1, l2, l3] (.int (x + y) :: st) h nx := D_iadd (ins_of mc_226 (pc := 1378) (x := (.iadd, 1)) (by decide +kernel))
theorem e_226_1379 : Df d 226 1379 [l0, l1, l2, l3] (.int x :: .ref a :: st) h nx = (rX h a x).bind fun v => Df d 226 1380 [l0, l1, l2, l3] (.int v :: st) h nx := D_iaload (ins_of mc_226 (pc := 1379) (x := (.iaload, 1)) (by decide +kernel))
theorem e_226_1380 : Df d 226 1380 [l0, l1, l2, l3] [v0, .ref a, s0] h nx = if ck h a 9 = true then cn d 226 1383 [l0, l1, l2, l3] [s0] (Dn d 210 [.ref a, v0] h nx) else none := D_virtual (k1 := 210) (ins_of mc_226 (pc := 1380) (x := (.invokevirtual 177, 3)) (by decide +kernel)) mo_226 (by decide +kernel) (by decide) rfl rfl (by decide) rfl (Nat.le_of_ble_eq_true rfl) rfl
theorem e_226_1383 : Df d 226 1383 [l0, l1, l2, l3] (.int y :: .int x :: st) h nx = if x = y then Df d 226 1388 [l0, l1, l2, l3] st h nx else Df d 226 1386 [l0, l1, l2, l3] st h nx := D_icmp_eq (ins_of mc_226 (pc := 1383) (x := (.if_icmp .eq 5, 3)) (by decide +kernel)) (by decide)
theorem e_226_1386 : Df d 226 1386 [l0, l1, l2, l3] st h nx = Df d 226 1387 [l0, l1, l2, l3] (.int 0 :: st) h nx := D_iconst (ins_of mc_226 (pc := 1386) (x := (.iconst 0, 1)) (by decide +kernel)) (by decide)
theorem e_226_1387 : Df d 226 1387 [l0, l1, l2, l3] [.int x] h nx = if nR .boolean x = true then some (some (.int x), h, nx) else none := D_zreturn (ins_of mc_226 (pc := 1387) (x := (.ireturn, 1)) (by decide +kernel)) mr_226
theorem e_226_1388 : Df d 226 1388 [l0, l1, l2, .int x] st h nx = Df d 226 1391 [l0, l1, l2, .int (x + 6)] st h nx := D_iinc (ins_of mc_226 (pc := 1388) (x := (.iinc 3 6, 3)) (by decide +kernel)) rfl (by decide) rfl
theorem e_226_1391 : Df d 226 1391 [l0, l1, l2, l3] st h nx = Df d 226 18 [l0, l1, l2, l3] st h nx := D_goto (ins_of mc_226 (pc := 1391) (x := (.goto (-1373), 3)) (by decide +kernel)) (by decide)
theorem e_226_1394 : Df d 226 1394 [l0, l1, l2, l3] st h nx = Df d 226 1395 [l0, l1, l2, l3] (.int 1 :: st) h nx := D_iconst (ins_of mc_226 (pc := 1394) (x := (.iconst 1, 1)) (by decide +kernel)) (by decide)
theorem e_226_1395 : Df d 226 1395 [l0, l1, l2, l3] [.int x] h nx = if nR .boolean x = true then some (some (.int x), h, nx) else none := D_zreturn (ins_of mc_226 (pc := 1395) (x := (.ireturn, 1)) (by decide +kernel)) mr_226
end EE
