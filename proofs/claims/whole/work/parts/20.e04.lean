section EE
variable {d : Nat} {l0 l1 l2 l3 l4 l5 l6 l7 l8 l9 l10 l11 : Value} {st : List Value} {h : AH} {nx : AN} {x y z : Int32} {xl yl : Int64} {a b : Nat} {s0 s1 s2 s3 s4 s5 v0 v1 v2 v3 v4 v5 : Value}
theorem mc_124 : mC 124 = prog_11_method_12_code := rfl
theorem mo_124 : mO 124 = 9 := rfl
theorem ml_124 : mL 124 = 6 := rfl
theorem mr_124 : mR 124 = (some .int) := rfl
theorem ma_124 : mA 124 = 3 := rfl
theorem e_124_0 : Df d 124 0 [.ref a, l1, l2, l3, l4, l5] st h nx = Df d 124 1 [.ref a, l1, l2, l3, l4, l5] (.ref a :: st) h nx := D_aload_n (ins_of mc_124 (pc := 0) (x := (.aload_n 0, 1)) (by decide +kernel)) rfl
theorem e_124_1 : Df d 124 1 [l0, l1, l2, l3, l4, l5] (.ref a :: st) h nx = (gF h a 9 0).bind fun v => Df d 124 4 [l0, l1, l2, l3, l4, l5] (v :: st) h nx := D_getfield (ins_of mc_124 (pc := 1) (x := (.getfield 9, 3)) (by decide +kernel)) mo_124 (by decide +kernel)
theorem e_124_4 : Df d 124 4 [l0, l1, l2, l3, l4, l5] st h nx = Df d 124 5 [l0, l1, l2, l3, l4, l5] (.int 1 :: st) h nx := D_iconst (ins_of mc_124 (pc := 4) (x := (.iconst 1, 1)) (by decide +kernel)) (by decide)
theorem e_124_5 : Df d 124 5 [l0, l1, l2, l3, l4, l5] (.int x :: .ref a :: st) h nx = (rX h a x).bind fun v => Df d 124 6 [l0, l1, l2, l3, l4, l5] (.int v :: st) h nx := D_iaload (ins_of mc_124 (pc := 5) (x := (.iaload, 1)) (by decide +kernel))
theorem e_124_6 (hn : nr l4 = true) : Df d 124 6 [l0, l1, l2, l3, l4, l5] (.int x :: st) h nx = Df d 124 8 [l0, l1, l2, l3, .int x, l5] st h nx := D_istore (ins_of mc_124 (pc := 6) (x := (.istore 4, 2)) (by decide +kernel)) rfl hn rfl
theorem e_124_8 : Df d 124 8 [.ref a, l1, l2, l3, l4, l5] st h nx = Df d 124 9 [.ref a, l1, l2, l3, l4, l5] (.ref a :: st) h nx := D_aload_n (ins_of mc_124 (pc := 8) (x := (.aload_n 0, 1)) (by decide +kernel)) rfl
theorem e_124_9 : Df d 124 9 [l0, l1, l2, l3, l4, l5] (.ref a :: st) h nx = (gF h a 9 0).bind fun v => Df d 124 12 [l0, l1, l2, l3, l4, l5] (v :: st) h nx := D_getfield (ins_of mc_124 (pc := 9) (x := (.getfield 9, 3)) (by decide +kernel)) mo_124 (by decide +kernel)
theorem e_124_12 : Df d 124 12 [l0, l1, l2, l3, l4, l5] st h nx = Df d 124 13 [l0, l1, l2, l3, l4, l5] (.int 1 :: st) h nx := D_iconst (ins_of mc_124 (pc := 12) (x := (.iconst 1, 1)) (by decide +kernel)) (by decide)
theorem e_124_13 (hv : v0.category = 1) (hw : v1.category = 1) : Df d 124 13 [l0, l1, l2, l3, l4, l5] (v0 :: v1 :: st) h nx = Df d 124 14 [l0, l1, l2, l3, l4, l5] (v0 :: v1 :: v0 :: v1 :: st) h nx := D_dup2 (ins_of mc_124 (pc := 13) (x := (.dup2, 1)) (by decide +kernel)) hv hw
theorem e_124_14 : Df d 124 14 [l0, l1, l2, l3, l4, l5] (.int x :: .ref a :: st) h nx = (rX h a x).bind fun v => Df d 124 15 [l0, l1, l2, l3, l4, l5] (.int v :: st) h nx := D_iaload (ins_of mc_124 (pc := 14) (x := (.iaload, 1)) (by decide +kernel))
theorem e_124_15 : Df d 124 15 [l0, l1, l2, l3, l4, l5] st h nx = Df d 124 16 [l0, l1, l2, l3, l4, l5] (.int 1 :: st) h nx := D_iconst (ins_of mc_124 (pc := 15) (x := (.iconst 1, 1)) (by decide +kernel)) (by decide)
theorem e_124_16 : Df d 124 16 [l0, l1, l2, l3, l4, l5] (.int y :: .int x :: st) h nx = Df d 124 17 [l0, l1, l2, l3, l4, l5] (.int (x + y) :: st) h nx := D_iadd (ins_of mc_124 (pc := 16) (x := (.iadd, 1)) (by decide +kernel))
theorem e_124_17 : Df d 124 17 [l0, l1, l2, l3, l4, l5] (.int y :: .int x :: .ref a :: st) h nx = (wI h a x 0 y).bind fun h => Df d 124 18 [l0, l1, l2, l3, l4, l5] st h nx := D_iastore (ins_of mc_124 (pc := 17) (x := (.iastore, 1)) (by decide +kernel))
theorem e_124_18 : Df d 124 18 [l0, l1, l2, l3, l4, l5] st h nx = Df d 124 19 [l0, l1, l2, l3, l4, l5] (.int 0 :: st) h nx := D_iconst (ins_of mc_124 (pc := 18) (x := (.iconst 0, 1)) (by decide +kernel)) (by decide)
theorem e_124_19 (hn : nr l5 = true) : Df d 124 19 [l0, l1, l2, l3, l4, l5] (.int x :: st) h nx = Df d 124 21 [l0, l1, l2, l3, l4, .int x] st h nx := D_istore (ins_of mc_124 (pc := 19) (x := (.istore 5, 2)) (by decide +kernel)) rfl hn rfl
theorem e_124_21 : Df d 124 21 [l0, l1, l2, l3, l4, .int x] st h nx = Df d 124 23 [l0, l1, l2, l3, l4, .int x] (.int x :: st) h nx := D_iload (ins_of mc_124 (pc := 21) (x := (.iload 5, 2)) (by decide +kernel)) rfl
theorem e_124_23 : Df d 124 23 [l0, l1, l2, l3, l4, l5] st h nx = Df d 124 25 [l0, l1, l2, l3, l4, l5] (.int 6 :: st) h nx := D_bipush (ins_of mc_124 (pc := 23) (x := (.bipush 6, 2)) (by decide +kernel)) (by decide)
theorem e_124_25 : Df d 124 25 [l0, l1, l2, l3, l4, l5] (.int y :: .int x :: st) h nx = if y ≤ x then Df d 124 43 [l0, l1, l2, l3, l4, l5] st h nx else Df d 124 28 [l0, l1, l2, l3, l4, l5] st h nx := D_icmp_ge (ins_of mc_124 (pc := 25) (x := (.if_icmp .ge 18, 3)) (by decide +kernel)) (by decide)
theorem e_124_28 : Df d 124 28 [.ref a, l1, l2, l3, l4, l5] st h nx = Df d 124 29 [.ref a, l1, l2, l3, l4, l5] (.ref a :: st) h nx := D_aload_n (ins_of mc_124 (pc := 28) (x := (.aload_n 0, 1)) (by decide +kernel)) rfl
theorem e_124_29 : Df d 124 29 [l0, l1, l2, l3, .int x, l5] st h nx = Df d 124 31 [l0, l1, l2, l3, .int x, l5] (.int x :: st) h nx := D_iload (ins_of mc_124 (pc := 29) (x := (.iload 4, 2)) (by decide +kernel)) rfl
theorem e_124_31 : Df d 124 31 [l0, l1, l2, l3, l4, .int x] st h nx = Df d 124 33 [l0, l1, l2, l3, l4, .int x] (.int x :: st) h nx := D_iload (ins_of mc_124 (pc := 31) (x := (.iload 5, 2)) (by decide +kernel)) rfl
theorem e_124_33 : Df d 124 33 [l0, l1, l2, l3, l4, l5] st h nx = Df d 124 34 [l0, l1, l2, l3, l4, l5] (.int 0 :: st) h nx := D_iconst (ins_of mc_124 (pc := 33) (x := (.iconst 0, 1)) (by decide +kernel)) (by decide)
theorem e_124_34 : Df d 124 34 [l0, l1, l2, l3, l4, l5] [v2, v1, v0, .ref a] h nx = if ck h a 9 = true then cn d 124 37 [l0, l1, l2, l3, l4, l5] [] (Dn d 125 [.ref a, v0, v1, v2] h nx) else none := D_virtual (k1 := 125) (ins_of mc_124 (pc := 34) (x := (.invokevirtual 84, 3)) (by decide +kernel)) mo_124 (by decide +kernel) (by decide) rfl rfl (by decide) rfl (Nat.le_of_ble_eq_true rfl) rfl
theorem e_124_37 : Df d 124 37 [l0, l1, l2, l3, l4, .int x] st h nx = Df d 124 40 [l0, l1, l2, l3, l4, .int (x + 1)] st h nx := D_iinc (ins_of mc_124 (pc := 37) (x := (.iinc 5 1, 3)) (by decide +kernel)) rfl (by decide) rfl
theorem e_124_40 : Df d 124 40 [l0, l1, l2, l3, l4, l5] st h nx = Df d 124 21 [l0, l1, l2, l3, l4, l5] st h nx := D_goto (ins_of mc_124 (pc := 40) (x := (.goto (-19), 3)) (by decide +kernel)) (by decide)
theorem e_124_43 : Df d 124 43 [.ref a, l1, l2, l3, l4, l5] st h nx = Df d 124 44 [.ref a, l1, l2, l3, l4, l5] (.ref a :: st) h nx := D_aload_n (ins_of mc_124 (pc := 43) (x := (.aload_n 0, 1)) (by decide +kernel)) rfl
theorem e_124_44 : Df d 124 44 [l0, l1, l2, l3, .int x, l5] st h nx = Df d 124 46 [l0, l1, l2, l3, .int x, l5] (.int x :: st) h nx := D_iload (ins_of mc_124 (pc := 44) (x := (.iload 4, 2)) (by decide +kernel)) rfl
theorem e_124_46 : Df d 124 46 [l0, l1, l2, l3, l4, l5] st h nx = Df d 124 47 [l0, l1, l2, l3, l4, l5] (.int 0 :: st) h nx := D_iconst (ins_of mc_124 (pc := 46) (x := (.iconst 0, 1)) (by decide +kernel)) (by decide)
theorem e_124_47 : Df d 124 47 [l0, .int x, l2, l3, l4, l5] st h nx = Df d 124 48 [l0, .int x, l2, l3, l4, l5] (.int x :: st) h nx := D_iload_n (ins_of mc_124 (pc := 47) (x := (.iload_n 1, 1)) (by decide +kernel)) rfl
theorem e_124_48 : Df d 124 48 [l0, l1, l2, l3, l4, l5] [v2, v1, v0, .ref a] h nx = if ck h a 9 = true then cn d 124 51 [l0, l1, l2, l3, l4, l5] [] (Dn d 125 [.ref a, v0, v1, v2] h nx) else none := D_virtual (k1 := 125) (ins_of mc_124 (pc := 48) (x := (.invokevirtual 84, 3)) (by decide +kernel)) mo_124 (by decide +kernel) (by decide) rfl rfl (by decide) rfl (Nat.le_of_ble_eq_true rfl) rfl
theorem e_124_51 : Df d 124 51 [.ref a, l1, l2, l3, l4, l5] st h nx = Df d 124 52 [.ref a, l1, l2, l3, l4, l5] (.ref a :: st) h nx := D_aload_n (ins_of mc_124 (pc := 51) (x := (.aload_n 0, 1)) (by decide +kernel)) rfl
theorem e_124_52 : Df d 124 52 [l0, l1, l2, l3, .int x, l5] st h nx = Df d 124 54 [l0, l1, l2, l3, .int x, l5] (.int x :: st) h nx := D_iload (ins_of mc_124 (pc := 52) (x := (.iload 4, 2)) (by decide +kernel)) rfl
theorem e_124_54 : Df d 124 54 [l0, l1, l2, l3, l4, l5] st h nx = Df d 124 55 [l0, l1, l2, l3, l4, l5] (.int 2 :: st) h nx := D_iconst (ins_of mc_124 (pc := 54) (x := (.iconst 2, 1)) (by decide +kernel)) (by decide)
theorem e_124_55 : Df d 124 55 [l0, l1, .int x, l3, l4, l5] st h nx = Df d 124 56 [l0, l1, .int x, l3, l4, l5] (.int x :: st) h nx := D_iload_n (ins_of mc_124 (pc := 55) (x := (.iload_n 2, 1)) (by decide +kernel)) rfl
theorem e_124_56 : Df d 124 56 [l0, l1, l2, l3, l4, l5] [v2, v1, v0, .ref a] h nx = if ck h a 9 = true then cn d 124 59 [l0, l1, l2, l3, l4, l5] [] (Dn d 125 [.ref a, v0, v1, v2] h nx) else none := D_virtual (k1 := 125) (ins_of mc_124 (pc := 56) (x := (.invokevirtual 84, 3)) (by decide +kernel)) mo_124 (by decide +kernel) (by decide) rfl rfl (by decide) rfl (Nat.le_of_ble_eq_true rfl) rfl
theorem e_124_59 : Df d 124 59 [.ref a, l1, l2, l3, l4, l5] st h nx = Df d 124 60 [.ref a, l1, l2, l3, l4, l5] (.ref a :: st) h nx := D_aload_n (ins_of mc_124 (pc := 59) (x := (.aload_n 0, 1)) (by decide +kernel)) rfl
theorem e_124_60 : Df d 124 60 [l0, l1, l2, l3, .int x, l5] st h nx = Df d 124 62 [l0, l1, l2, l3, .int x, l5] (.int x :: st) h nx := D_iload (ins_of mc_124 (pc := 60) (x := (.iload 4, 2)) (by decide +kernel)) rfl
theorem e_124_62 : Df d 124 62 [l0, l1, l2, l3, l4, l5] st h nx = Df d 124 63 [l0, l1, l2, l3, l4, l5] (.int 3 :: st) h nx := D_iconst (ins_of mc_124 (pc := 62) (x := (.iconst 3, 1)) (by decide +kernel)) (by decide)
theorem e_124_63 : Df d 124 63 [l0, l1, l2, .int x, l4, l5] st h nx = Df d 124 64 [l0, l1, l2, .int x, l4, l5] (.int x :: st) h nx := D_iload_n (ins_of mc_124 (pc := 63) (x := (.iload_n 3, 1)) (by decide +kernel)) rfl
theorem e_124_64 : Df d 124 64 [l0, l1, l2, l3, l4, l5] [v2, v1, v0, .ref a] h nx = if ck h a 9 = true then cn d 124 67 [l0, l1, l2, l3, l4, l5] [] (Dn d 125 [.ref a, v0, v1, v2] h nx) else none := D_virtual (k1 := 125) (ins_of mc_124 (pc := 64) (x := (.invokevirtual 84, 3)) (by decide +kernel)) mo_124 (by decide +kernel) (by decide) rfl rfl (by decide) rfl (Nat.le_of_ble_eq_true rfl) rfl
theorem e_124_67 : Df d 124 67 [l0, l1, l2, l3, .int x, l5] st h nx = Df d 124 69 [l0, l1, l2, l3, .int x, l5] (.int x :: st) h nx := D_iload (ins_of mc_124 (pc := 67) (x := (.iload 4, 2)) (by decide +kernel)) rfl
theorem e_124_69 : Df d 124 69 [l0, l1, l2, l3, l4, l5] [.int x] h nx = some (some (.int x), h, nx) := D_ireturn (ins_of mc_124 (pc := 69) (x := (.ireturn, 1)) (by decide +kernel)) mr_124
theorem mc_125 : mC 125 = prog_11_method_9_code := rfl
theorem mo_125 : mO 125 = 9 := rfl
theorem ml_125 : mL 125 = 4 := rfl
theorem mr_125 : mR 125 = none := rfl
theorem ma_125 : mA 125 = 3 := rfl
theorem e_125_0 : Df d 125 0 [.ref a, l1, l2, l3] st h nx = Df d 125 1 [.ref a, l1, l2, l3] (.ref a :: st) h nx := D_aload_n (ins_of mc_125 (pc := 0) (x := (.aload_n 0, 1)) (by decide +kernel)) rfl
theorem e_125_1 : Df d 125 1 [l0, l1, l2, l3] (.ref a :: st) h nx = (gF h a 9 0).bind fun v => Df d 125 4 [l0, l1, l2, l3] (v :: st) h nx := D_getfield (ins_of mc_125 (pc := 1) (x := (.getfield 9, 3)) (by decide +kernel)) mo_125 (by decide +kernel)
theorem e_125_4 : Df d 125 4 [l0, l1, l2, l3] st h nx = Df d 125 6 [l0, l1, l2, l3] (.int 35 :: st) h nx := D_bipush (ins_of mc_125 (pc := 4) (x := (.bipush 35, 2)) (by decide +kernel)) (by decide)
theorem e_125_6 : Df d 125 6 [l0, l1, l2, l3] st h nx = Df d 125 8 [l0, l1, l2, l3] (.int 6 :: st) h nx := D_bipush (ins_of mc_125 (pc := 6) (x := (.bipush 6, 2)) (by decide +kernel)) (by decide)
theorem e_125_8 : Df d 125 8 [l0, .int x, l2, l3] st h nx = Df d 125 9 [l0, .int x, l2, l3] (.int x :: st) h nx := D_iload_n (ins_of mc_125 (pc := 8) (x := (.iload_n 1, 1)) (by decide +kernel)) rfl
theorem e_125_9 : Df d 125 9 [l0, l1, l2, l3] (.int y :: .int x :: st) h nx = Df d 125 10 [l0, l1, l2, l3] (.int (x * y) :: st) h nx := D_imul (ins_of mc_125 (pc := 9) (x := (.imul, 1)) (by decide +kernel))
theorem e_125_10 : Df d 125 10 [l0, l1, l2, l3] (.int y :: .int x :: st) h nx = Df d 125 11 [l0, l1, l2, l3] (.int (x + y) :: st) h nx := D_iadd (ins_of mc_125 (pc := 10) (x := (.iadd, 1)) (by decide +kernel))
theorem e_125_11 : Df d 125 11 [l0, l1, .int x, l3] st h nx = Df d 125 12 [l0, l1, .int x, l3] (.int x :: st) h nx := D_iload_n (ins_of mc_125 (pc := 11) (x := (.iload_n 2, 1)) (by decide +kernel)) rfl
theorem e_125_12 : Df d 125 12 [l0, l1, l2, l3] (.int y :: .int x :: st) h nx = Df d 125 13 [l0, l1, l2, l3] (.int (x + y) :: st) h nx := D_iadd (ins_of mc_125 (pc := 12) (x := (.iadd, 1)) (by decide +kernel))
theorem e_125_13 : Df d 125 13 [l0, l1, l2, .int x] st h nx = Df d 125 14 [l0, l1, l2, .int x] (.int x :: st) h nx := D_iload_n (ins_of mc_125 (pc := 13) (x := (.iload_n 3, 1)) (by decide +kernel)) rfl
theorem e_125_14 : Df d 125 14 [l0, l1, l2, l3] (.int y :: .int x :: .ref a :: st) h nx = (wI h a x 0 y).bind fun h => Df d 125 15 [l0, l1, l2, l3] st h nx := D_iastore (ins_of mc_125 (pc := 14) (x := (.iastore, 1)) (by decide +kernel))
theorem e_125_15 : Df d 125 15 [l0, l1, l2, l3] [] h nx = some (none, h, nx) := D_return (ins_of mc_125 (pc := 15) (x := (.return_, 1)) (by decide +kernel)) mr_125
theorem mc_126 : mC 126 = prog_11_method_20_code := rfl
theorem mo_126 : mO 126 = 9 := rfl
theorem ml_126 : mL 126 = 3 := rfl
theorem mr_126 : mR 126 = (some .int) := rfl
theorem ma_126 : mA 126 = 2 := rfl
theorem e_126_0 : Df d 126 0 [.ref a, l1, l2] st h nx = Df d 126 1 [.ref a, l1, l2] (.ref a :: st) h nx := D_aload_n (ins_of mc_126 (pc := 0) (x := (.aload_n 0, 1)) (by decide +kernel)) rfl
theorem e_126_1 : Df d 126 1 [l0, .int x, l2] st h nx = Df d 126 2 [l0, .int x, l2] (.int x :: st) h nx := D_iload_n (ins_of mc_126 (pc := 1) (x := (.iload_n 1, 1)) (by decide +kernel)) rfl
theorem e_126_2 : Df d 126 2 [l0, l1, l2] [v0, .ref a] h nx = if ck h a 9 = true then cn d 126 5 [l0, l1, l2] [] (Dn d 127 [.ref a, v0] h nx) else none := D_virtual (k1 := 127) (ins_of mc_126 (pc := 2) (x := (.invokevirtual 111, 3)) (by decide +kernel)) mo_126 (by decide +kernel) (by decide) rfl rfl (by decide) rfl (Nat.le_of_ble_eq_true rfl) rfl
theorem e_126_5 : Df d 126 5 [l0, l1, l2] (.int x :: st) h nx = if x = 0 then Df d 126 8 [l0, l1, l2] st h nx else Df d 126 11 [l0, l1, l2] st h nx := D_if_ne (ins_of mc_126 (pc := 5) (x := (.ifCond .ne 6, 3)) (by decide +kernel)) (by decide)
theorem e_126_8 : Df d 126 8 [l0, l1, l2] st h nx = Df d 126 10 [l0, l1, l2] (.int (-1000000001) :: st) h nx := D_ldc (ins_of mc_126 (pc := 8) (x := (.ldc 88, 2)) (by decide +kernel)) mo_126 (by decide +kernel)
theorem e_126_10 : Df d 126 10 [l0, l1, l2] [.int x] h nx = some (some (.int x), h, nx) := D_ireturn (ins_of mc_126 (pc := 10) (x := (.ireturn, 1)) (by decide +kernel)) mr_126
theorem e_126_11 : Df d 126 11 [l0, l1, .int x] st h nx = Df d 126 12 [l0, l1, .int x] (.int x :: st) h nx := D_iload_n (ins_of mc_126 (pc := 11) (x := (.iload_n 2, 1)) (by decide +kernel)) rfl
theorem e_126_12 : Df d 126 12 [l0, l1, l2] (.int x :: st) h nx = if x = 0 then Df d 126 68 [l0, l1, l2] st h nx else if x = 1 then Df d 126 68 [l0, l1, l2] st h nx else if x = 2 then Df d 126 68 [l0, l1, l2] st h nx else if x = 3 then Df d 126 68 [l0, l1, l2] st h nx else if x = 4 then Df d 126 68 [l0, l1, l2] st h nx else if x = 5 then Df d 126 75 [l0, l1, l2] st h nx else if x = 6 then Df d 126 84 [l0, l1, l2] st h nx else if x = 7 then Df d 126 90 [l0, l1, l2] st h nx else if x = 8 then Df d 126 96 [l0, l1, l2] st h nx else if x = 9 then Df d 126 102 [l0, l1, l2] st h nx else Df d 126 108 [l0, l1, l2] st h nx := by
  have hi := (ins_of mc_126 (pc := 12) (x := (.tableswitch 96 0 9 #[56, 56, 56, 56, 56, 63, 72, 78, 84, 90], 56)) (by decide +kernel))
  by_cases q0 : x = 0
  · subst q0
    rw [if_pos rfl]
    exact D_tswI (off := 56) hi (by decide) (by decide) (by decide)
  rw [if_neg q0]
  by_cases q1 : x = 1
  · subst q1
    rw [if_pos rfl]
    exact D_tswI (off := 56) hi (by decide) (by decide) (by decide)
  rw [if_neg q1]
  by_cases q2 : x = 2
  · subst q2
    rw [if_pos rfl]
    exact D_tswI (off := 56) hi (by decide) (by decide) (by decide)
  rw [if_neg q2]
  by_cases q3 : x = 3
  · subst q3
    rw [if_pos rfl]
    exact D_tswI (off := 56) hi (by decide) (by decide) (by decide)
  rw [if_neg q3]
  by_cases q4 : x = 4
  · subst q4
    rw [if_pos rfl]
    exact D_tswI (off := 56) hi (by decide) (by decide) (by decide)
  rw [if_neg q4]
  by_cases q5 : x = 5
  · subst q5
    rw [if_pos rfl]
    exact D_tswI (off := 63) hi (by decide) (by decide) (by decide)
  rw [if_neg q5]
  by_cases q6 : x = 6
  · subst q6
    rw [if_pos rfl]
    exact D_tswI (off := 72) hi (by decide) (by decide) (by decide)
  rw [if_neg q6]
  by_cases q7 : x = 7
  · subst q7
    rw [if_pos rfl]
    exact D_tswI (off := 78) hi (by decide) (by decide) (by decide)
  rw [if_neg q7]
  by_cases q8 : x = 8
  · subst q8
    rw [if_pos rfl]
    exact D_tswI (off := 84) hi (by decide) (by decide) (by decide)
  rw [if_neg q8]
  by_cases q9 : x = 9
  · subst q9
    rw [if_pos rfl]
    exact D_tswI (off := 90) hi (by decide) (by decide) (by decide)
  rw [if_neg q9]
  have r0 : x.toInt ≠ 0 := fun z => q0 (Int32.toInt_inj.mp (z.trans (by decide)))
  have r1 : x.toInt ≠ 1 := fun z => q1 (Int32.toInt_inj.mp (z.trans (by decide)))
  have r2 : x.toInt ≠ 2 := fun z => q2 (Int32.toInt_inj.mp (z.trans (by decide)))
  have r3 : x.toInt ≠ 3 := fun z => q3 (Int32.toInt_inj.mp (z.trans (by decide)))
  have r4 : x.toInt ≠ 4 := fun z => q4 (Int32.toInt_inj.mp (z.trans (by decide)))
  have r5 : x.toInt ≠ 5 := fun z => q5 (Int32.toInt_inj.mp (z.trans (by decide)))
  have r6 : x.toInt ≠ 6 := fun z => q6 (Int32.toInt_inj.mp (z.trans (by decide)))
  have r7 : x.toInt ≠ 7 := fun z => q7 (Int32.toInt_inj.mp (z.trans (by decide)))
  have r8 : x.toInt ≠ 8 := fun z => q8 (Int32.toInt_inj.mp (z.trans (by decide)))
  have r9 : x.toInt ≠ 9 := fun z => q9 (Int32.toInt_inj.mp (z.trans (by decide)))
  exact D_tswO hi (by omega) (by decide)
theorem e_126_68 : Df d 126 68 [.ref a, l1, l2] st h nx = Df d 126 69 [.ref a, l1, l2] (.ref a :: st) h nx := D_aload_n (ins_of mc_126 (pc := 68) (x := (.aload_n 0, 1)) (by decide +kernel)) rfl
theorem e_126_69 : Df d 126 69 [l0, .int x, l2] st h nx = Df d 126 70 [l0, .int x, l2] (.int x :: st) h nx := D_iload_n (ins_of mc_126 (pc := 69) (x := (.iload_n 1, 1)) (by decide +kernel)) rfl
theorem e_126_70 : Df d 126 70 [l0, l1, .int x] st h nx = Df d 126 71 [l0, l1, .int x] (.int x :: st) h nx := D_iload_n (ins_of mc_126 (pc := 70) (x := (.iload_n 2, 1)) (by decide +kernel)) rfl
theorem e_126_71 : Df d 126 71 [l0, l1, l2] [v1, v0, .ref a] h nx = if ck h a 9 = true then cn d 126 74 [l0, l1, l2] [] (Dn d 128 [.ref a, v0, v1] h nx) else none := D_virtual (k1 := 128) (ins_of mc_126 (pc := 71) (x := (.invokevirtual 80, 3)) (by decide +kernel)) mo_126 (by decide +kernel) (by decide) rfl rfl (by decide) rfl (Nat.le_of_ble_eq_true rfl) rfl
theorem e_126_74 : Df d 126 74 [l0, l1, l2] [.int x] h nx = some (some (.int x), h, nx) := D_ireturn (ins_of mc_126 (pc := 74) (x := (.ireturn, 1)) (by decide +kernel)) mr_126
theorem e_126_75 : Df d 126 75 [l0, l1, l2] st h nx = Df d 126 76 [l0, l1, l2] (.int 1 :: st) h nx := D_iconst (ins_of mc_126 (pc := 75) (x := (.iconst 1, 1)) (by decide +kernel)) (by decide)
theorem e_126_76 : Df d 126 76 [.ref a, l1, l2] st h nx = Df d 126 77 [.ref a, l1, l2] (.ref a :: st) h nx := D_aload_n (ins_of mc_126 (pc := 76) (x := (.aload_n 0, 1)) (by decide +kernel)) rfl
theorem e_126_77 : Df d 126 77 [l0, .int x, l2] st h nx = Df d 126 78 [l0, .int x, l2] (.int x :: st) h nx := D_iload_n (ins_of mc_126 (pc := 77) (x := (.iload_n 1, 1)) (by decide +kernel)) rfl
theorem e_126_78 : Df d 126 78 [l0, l1, l2] st h nx = Df d 126 79 [l0, l1, l2] (.int 5 :: st) h nx := D_iconst (ins_of mc_126 (pc := 78) (x := (.iconst 5, 1)) (by decide +kernel)) (by decide)
theorem e_126_79 : Df d 126 79 [l0, l1, l2] [v1, v0, .ref a, s0] h nx = if ck h a 9 = true then cn d 126 82 [l0, l1, l2] [s0] (Dn d 128 [.ref a, v0, v1] h nx) else none := D_virtual (k1 := 128) (ins_of mc_126 (pc := 79) (x := (.invokevirtual 80, 3)) (by decide +kernel)) mo_126 (by decide +kernel) (by decide) rfl rfl (by decide) rfl (Nat.le_of_ble_eq_true rfl) rfl
theorem e_126_82 : Df d 126 82 [l0, l1, l2] (.int y :: .int x :: st) h nx = Df d 126 83 [l0, l1, l2] (.int (x - y) :: st) h nx := D_isub (ins_of mc_126 (pc := 82) (x := (.isub, 1)) (by decide +kernel))
theorem e_126_83 : Df d 126 83 [l0, l1, l2] [.int x] h nx = some (some (.int x), h, nx) := D_ireturn (ins_of mc_126 (pc := 83) (x := (.ireturn, 1)) (by decide +kernel)) mr_126
theorem e_126_84 : Df d 126 84 [.ref a, l1, l2] st h nx = Df d 126 85 [.ref a, l1, l2] (.ref a :: st) h nx := D_aload_n (ins_of mc_126 (pc := 84) (x := (.aload_n 0, 1)) (by decide +kernel)) rfl
theorem e_126_85 : Df d 126 85 [l0, .int x, l2] st h nx = Df d 126 86 [l0, .int x, l2] (.int x :: st) h nx := D_iload_n (ins_of mc_126 (pc := 85) (x := (.iload_n 1, 1)) (by decide +kernel)) rfl
theorem e_126_86 : Df d 126 86 [l0, l1, l2] [v0, .ref a] h nx = if ck h a 9 = true then cn d 126 89 [l0, l1, l2] [] (Dn d 129 [.ref a, v0] h nx) else none := D_virtual (k1 := 129) (ins_of mc_126 (pc := 86) (x := (.invokevirtual 115, 3)) (by decide +kernel)) mo_126 (by decide +kernel) (by decide) rfl rfl (by decide) rfl (Nat.le_of_ble_eq_true rfl) rfl
theorem e_126_89 : Df d 126 89 [l0, l1, l2] [.int x] h nx = some (some (.int x), h, nx) := D_ireturn (ins_of mc_126 (pc := 89) (x := (.ireturn, 1)) (by decide +kernel)) mr_126
theorem e_126_90 : Df d 126 90 [.ref a, l1, l2] st h nx = Df d 126 91 [.ref a, l1, l2] (.ref a :: st) h nx := D_aload_n (ins_of mc_126 (pc := 90) (x := (.aload_n 0, 1)) (by decide +kernel)) rfl
theorem e_126_91 : Df d 126 91 [l0, .int x, l2] st h nx = Df d 126 92 [l0, .int x, l2] (.int x :: st) h nx := D_iload_n (ins_of mc_126 (pc := 91) (x := (.iload_n 1, 1)) (by decide +kernel)) rfl
theorem e_126_92 : Df d 126 92 [l0, l1, l2] [v0, .ref a] h nx = if ck h a 9 = true then cn d 126 95 [l0, l1, l2] [] (Dn d 134 [.ref a, v0] h nx) else none := D_virtual (k1 := 134) (ins_of mc_126 (pc := 92) (x := (.invokevirtual 118, 3)) (by decide +kernel)) mo_126 (by decide +kernel) (by decide) rfl rfl (by decide) rfl (Nat.le_of_ble_eq_true rfl) rfl
theorem e_126_95 : Df d 126 95 [l0, l1, l2] [.int x] h nx = some (some (.int x), h, nx) := D_ireturn (ins_of mc_126 (pc := 95) (x := (.ireturn, 1)) (by decide +kernel)) mr_126
theorem e_126_96 : Df d 126 96 [.ref a, l1, l2] st h nx = Df d 126 97 [.ref a, l1, l2] (.ref a :: st) h nx := D_aload_n (ins_of mc_126 (pc := 96) (x := (.aload_n 0, 1)) (by decide +kernel)) rfl
theorem e_126_97 : Df d 126 97 [l0, .int x, l2] st h nx = Df d 126 98 [l0, .int x, l2] (.int x :: st) h nx := D_iload_n (ins_of mc_126 (pc := 97) (x := (.iload_n 1, 1)) (by decide +kernel)) rfl
theorem e_126_98 : Df d 126 98 [l0, l1, l2] [v0, .ref a] h nx = if ck h a 9 = true then cn d 126 101 [l0, l1, l2] [] (Dn d 135 [.ref a, v0] h nx) else none := D_virtual (k1 := 135) (ins_of mc_126 (pc := 98) (x := (.invokevirtual 121, 3)) (by decide +kernel)) mo_126 (by decide +kernel) (by decide) rfl rfl (by decide) rfl (Nat.le_of_ble_eq_true rfl) rfl
theorem e_126_101 : Df d 126 101 [l0, l1, l2] [.int x] h nx = some (some (.int x), h, nx) := D_ireturn (ins_of mc_126 (pc := 101) (x := (.ireturn, 1)) (by decide +kernel)) mr_126
theorem e_126_102 : Df d 126 102 [.ref a, l1, l2] st h nx = Df d 126 103 [.ref a, l1, l2] (.ref a :: st) h nx := D_aload_n (ins_of mc_126 (pc := 102) (x := (.aload_n 0, 1)) (by decide +kernel)) rfl
theorem e_126_103 : Df d 126 103 [l0, .int x, l2] st h nx = Df d 126 104 [l0, .int x, l2] (.int x :: st) h nx := D_iload_n (ins_of mc_126 (pc := 103) (x := (.iload_n 1, 1)) (by decide +kernel)) rfl
theorem e_126_104 : Df d 126 104 [l0, l1, l2] [v0, .ref a] h nx = if ck h a 9 = true then cn d 126 107 [l0, l1, l2] [] (Dn d 138 [.ref a, v0] h nx) else none := D_virtual (k1 := 138) (ins_of mc_126 (pc := 104) (x := (.invokevirtual 124, 3)) (by decide +kernel)) mo_126 (by decide +kernel) (by decide) rfl rfl (by decide) rfl (Nat.le_of_ble_eq_true rfl) rfl
theorem e_126_107 : Df d 126 107 [l0, l1, l2] [.int x] h nx = some (some (.int x), h, nx) := D_ireturn (ins_of mc_126 (pc := 107) (x := (.ireturn, 1)) (by decide +kernel)) mr_126
theorem e_126_108 : Df d 126 108 [l0, l1, l2] st h nx = Df d 126 110 [l0, l1, l2] (.int (-1000000001) :: st) h nx := D_ldc (ins_of mc_126 (pc := 108) (x := (.ldc 88, 2)) (by decide +kernel)) mo_126 (by decide +kernel)
theorem e_126_110 : Df d 126 110 [l0, l1, l2] [.int x] h nx = some (some (.int x), h, nx) := D_ireturn (ins_of mc_126 (pc := 110) (x := (.ireturn, 1)) (by decide +kernel)) mr_126
theorem mc_127 : mC 127 = prog_11_method_6_code := rfl
theorem mo_127 : mO 127 = 9 := rfl
theorem ml_127 : mL 127 = 2 := rfl
theorem mr_127 : mR 127 = (some .boolean) := rfl
theorem ma_127 : mA 127 = 1 := rfl
theorem e_127_0 : Df d 127 0 [l0, .int x] st h nx = Df d 127 1 [l0, .int x] (.int x :: st) h nx := D_iload_n (ins_of mc_127 (pc := 0) (x := (.iload_n 1, 1)) (by decide +kernel)) rfl
theorem e_127_1 : Df d 127 1 [l0, l1] st h nx = Df d 127 2 [l0, l1] (.int 0 :: st) h nx := D_iconst (ins_of mc_127 (pc := 1) (x := (.iconst 0, 1)) (by decide +kernel)) (by decide)
theorem e_127_2 : Df d 127 2 [.ref a, l1] st h nx = Df d 127 3 [.ref a, l1] (.ref a :: st) h nx := D_aload_n (ins_of mc_127 (pc := 2) (x := (.aload_n 0, 1)) (by decide +kernel)) rfl
theorem e_127_3 : Df d 127 3 [l0, l1] (.ref a :: st) h nx = (gF h a 9 0).bind fun v => Df d 127 6 [l0, l1] (v :: st) h nx := D_getfield (ins_of mc_127 (pc := 3) (x := (.getfield 9, 3)) (by decide +kernel)) mo_127 (by decide +kernel)
theorem e_127_6 : Df d 127 6 [l0, l1] st h nx = Df d 127 7 [l0, l1] (.int 1 :: st) h nx := D_iconst (ins_of mc_127 (pc := 6) (x := (.iconst 1, 1)) (by decide +kernel)) (by decide)
theorem e_127_7 : Df d 127 7 [l0, l1] (.int x :: .ref a :: st) h nx = (rX h a x).bind fun v => Df d 127 8 [l0, l1] (.int v :: st) h nx := D_iaload (ins_of mc_127 (pc := 7) (x := (.iaload, 1)) (by decide +kernel))
theorem e_127_8 : Df d 127 8 [l0, l1] st h nx = Df d 127 9 [l0, l1] (.int 1 :: st) h nx := D_iconst (ins_of mc_127 (pc := 8) (x := (.iconst 1, 1)) (by decide +kernel)) (by decide)
theorem e_127_9 : Df d 127 9 [l0, l1] (.int y :: .int x :: st) h nx = Df d 127 10 [l0, l1] (.int (x - y) :: st) h nx := D_isub (ins_of mc_127 (pc := 9) (x := (.isub, 1)) (by decide +kernel))
theorem e_127_10 : Df d 127 10 [l0, l1] [v2, v1, v0] h nx = cn d 127 13 [l0, l1] [] (Dn d 123 [v0, v1, v2] h nx) := D_static (k1 := 123) (kd := 1) (ins_of mc_127 (pc := 10) (x := (.invokestatic 76, 3)) (by decide +kernel)) mo_127 (by decide +kernel) (by decide) rfl (Nat.le_of_ble_eq_true rfl) rfl (Nat.le_of_ble_eq_true rfl) rfl
theorem e_127_13 : Df d 127 13 [l0, l1] [.int x] h nx = if nR .boolean x = true then some (some (.int x), h, nx) else none := D_zreturn (ins_of mc_127 (pc := 13) (x := (.ireturn, 1)) (by decide +kernel)) mr_127
theorem mc_128 : mC 128 = prog_11_method_8_code := rfl
theorem mo_128 : mO 128 = 9 := rfl
theorem ml_128 : mL 128 = 3 := rfl
theorem mr_128 : mR 128 = (some .int) := rfl
theorem ma_128 : mA 128 = 2 := rfl
theorem e_128_0 : Df d 128 0 [.ref a, l1, l2] st h nx = Df d 128 1 [.ref a, l1, l2] (.ref a :: st) h nx := D_aload_n (ins_of mc_128 (pc := 0) (x := (.aload_n 0, 1)) (by decide +kernel)) rfl
theorem e_128_1 : Df d 128 1 [l0, l1, l2] (.ref a :: st) h nx = (gF h a 9 0).bind fun v => Df d 128 4 [l0, l1, l2] (v :: st) h nx := D_getfield (ins_of mc_128 (pc := 1) (x := (.getfield 9, 3)) (by decide +kernel)) mo_128 (by decide +kernel)
theorem e_128_4 : Df d 128 4 [l0, l1, l2] st h nx = Df d 128 6 [l0, l1, l2] (.int 35 :: st) h nx := D_bipush (ins_of mc_128 (pc := 4) (x := (.bipush 35, 2)) (by decide +kernel)) (by decide)
theorem e_128_6 : Df d 128 6 [l0, l1, l2] st h nx = Df d 128 8 [l0, l1, l2] (.int 6 :: st) h nx := D_bipush (ins_of mc_128 (pc := 6) (x := (.bipush 6, 2)) (by decide +kernel)) (by decide)
theorem e_128_8 : Df d 128 8 [l0, .int x, l2] st h nx = Df d 128 9 [l0, .int x, l2] (.int x :: st) h nx := D_iload_n (ins_of mc_128 (pc := 8) (x := (.iload_n 1, 1)) (by decide +kernel)) rfl
theorem e_128_9 : Df d 128 9 [l0, l1, l2] (.int y :: .int x :: st) h nx = Df d 128 10 [l0, l1, l2] (.int (x * y) :: st) h nx := D_imul (ins_of mc_128 (pc := 9) (x := (.imul, 1)) (by decide +kernel))
theorem e_128_10 : Df d 128 10 [l0, l1, l2] (.int y :: .int x :: st) h nx = Df d 128 11 [l0, l1, l2] (.int (x + y) :: st) h nx := D_iadd (ins_of mc_128 (pc := 10) (x := (.iadd, 1)) (by decide +kernel))
theorem e_128_11 : Df d 128 11 [l0, l1, .int x] st h nx = Df d 128 12 [l0, l1, .int x] (.int x :: st) h nx := D_iload_n (ins_of mc_128 (pc := 11) (x := (.iload_n 2, 1)) (by decide +kernel)) rfl
theorem e_128_12 : Df d 128 12 [l0, l1, l2] (.int y :: .int x :: st) h nx = Df d 128 13 [l0, l1, l2] (.int (x + y) :: st) h nx := D_iadd (ins_of mc_128 (pc := 12) (x := (.iadd, 1)) (by decide +kernel))
theorem e_128_13 : Df d 128 13 [l0, l1, l2] (.int x :: .ref a :: st) h nx = (rX h a x).bind fun v => Df d 128 14 [l0, l1, l2] (.int v :: st) h nx := D_iaload (ins_of mc_128 (pc := 13) (x := (.iaload, 1)) (by decide +kernel))
theorem e_128_14 : Df d 128 14 [l0, l1, l2] [.int x] h nx = some (some (.int x), h, nx) := D_ireturn (ins_of mc_128 (pc := 14) (x := (.ireturn, 1)) (by decide +kernel)) mr_128
theorem mc_129 : mC 129 = prog_11_method_14_code := rfl
theorem mo_129 : mO 129 = 9 := rfl
theorem ml_129 : mL 129 = 4 := rfl
theorem mr_129 : mR 129 = (some .int) := rfl
theorem ma_129 : mA 129 = 1 := rfl
theorem e_129_0 : Df d 129 0 [.ref a, l1, l2, l3] st h nx = Df d 129 1 [.ref a, l1, l2, l3] (.ref a :: st) h nx := D_aload_n (ins_of mc_129 (pc := 0) (x := (.aload_n 0, 1)) (by decide +kernel)) rfl
theorem e_129_1 : Df d 129 1 [l0, l1, l2, l3] st h nx = Df d 129 2 [l0, l1, l2, l3] (.int 0 :: st) h nx := D_iconst (ins_of mc_129 (pc := 1) (x := (.iconst 0, 1)) (by decide +kernel)) (by decide)
theorem e_129_2 : Df d 129 2 [l0, l1, l2, l3] [v0, .ref a] h nx = if ck h a 9 = true then cn d 129 5 [l0, l1, l2, l3] [] (Dn d 130 [.ref a, v0] h nx) else none := D_virtual (k1 := 130) (ins_of mc_129 (pc := 2) (x := (.invokevirtual 94, 3)) (by decide +kernel)) mo_129 (by decide +kernel) (by decide) rfl rfl (by decide) rfl (Nat.le_of_ble_eq_true rfl) rfl
theorem e_129_5 (hn : nr l2 = true) : Df d 129 5 [l0, l1, l2, l3] (.int x :: st) h nx = Df d 129 6 [l0, l1, .int x, l3] st h nx := D_istore_n (ins_of mc_129 (pc := 5) (x := (.istore_n 2, 1)) (by decide +kernel)) rfl hn rfl
theorem e_129_6 : Df d 129 6 [.ref a, l1, l2, l3] st h nx = Df d 129 7 [.ref a, l1, l2, l3] (.ref a :: st) h nx := D_aload_n (ins_of mc_129 (pc := 6) (x := (.aload_n 0, 1)) (by decide +kernel)) rfl
theorem e_129_7 : Df d 129 7 [l0, l1, l2, l3] (.ref a :: st) h nx = (gF h a 9 23).bind fun v => Df d 129 10 [l0, l1, l2, l3] (v :: st) h nx := D_getfield (ins_of mc_129 (pc := 7) (x := (.getfield 45, 3)) (by decide +kernel)) mo_129 (by decide +kernel)
theorem e_129_10 : Df d 129 10 [l0, l1, l2, l3] st h nx = Df d 129 11 [l0, l1, l2, l3] (.int 0 :: st) h nx := D_iconst (ins_of mc_129 (pc := 10) (x := (.iconst 0, 1)) (by decide +kernel)) (by decide)
theorem e_129_11 : Df d 129 11 [.ref a, l1, l2, l3] st h nx = Df d 129 12 [.ref a, l1, l2, l3] (.ref a :: st) h nx := D_aload_n (ins_of mc_129 (pc := 11) (x := (.aload_n 0, 1)) (by decide +kernel)) rfl
theorem e_129_12 : Df d 129 12 [l0, l1, l2, l3] (.ref a :: st) h nx = (gF h a 9 0).bind fun v => Df d 129 15 [l0, l1, l2, l3] (v :: st) h nx := D_getfield (ins_of mc_129 (pc := 12) (x := (.getfield 9, 3)) (by decide +kernel)) mo_129 (by decide +kernel)
theorem e_129_15 : Df d 129 15 [l0, l1, l2, l3] st h nx = Df d 129 16 [l0, l1, l2, l3] (.int 3 :: st) h nx := D_iconst (ins_of mc_129 (pc := 15) (x := (.iconst 3, 1)) (by decide +kernel)) (by decide)
theorem e_129_16 : Df d 129 16 [l0, l1, l2, l3] (.int x :: .ref a :: st) h nx = (rX h a x).bind fun v => Df d 129 17 [l0, l1, l2, l3] (.int v :: st) h nx := D_iaload (ins_of mc_129 (pc := 16) (x := (.iaload, 1)) (by decide +kernel))
theorem e_129_17 : Df d 129 17 [l0, l1, l2, l3] (.int y :: .int x :: .ref a :: st) h nx = (wI h a x 0 y).bind fun h => Df d 129 18 [l0, l1, l2, l3] st h nx := D_iastore (ins_of mc_129 (pc := 17) (x := (.iastore, 1)) (by decide +kernel))
theorem e_129_18 : Df d 129 18 [.ref a, l1, l2, l3] st h nx = Df d 129 19 [.ref a, l1, l2, l3] (.ref a :: st) h nx := D_aload_n (ins_of mc_129 (pc := 18) (x := (.aload_n 0, 1)) (by decide +kernel)) rfl
theorem e_129_19 : Df d 129 19 [l0, l1, l2, l3] (.ref a :: st) h nx = (gF h a 9 23).bind fun v => Df d 129 22 [l0, l1, l2, l3] (v :: st) h nx := D_getfield (ins_of mc_129 (pc := 19) (x := (.getfield 45, 3)) (by decide +kernel)) mo_129 (by decide +kernel)
theorem e_129_22 : Df d 129 22 [l0, l1, l2, l3] st h nx = Df d 129 23 [l0, l1, l2, l3] (.int 1 :: st) h nx := D_iconst (ins_of mc_129 (pc := 22) (x := (.iconst 1, 1)) (by decide +kernel)) (by decide)
theorem e_129_23 : Df d 129 23 [.ref a, l1, l2, l3] st h nx = Df d 129 24 [.ref a, l1, l2, l3] (.ref a :: st) h nx := D_aload_n (ins_of mc_129 (pc := 23) (x := (.aload_n 0, 1)) (by decide +kernel)) rfl
theorem e_129_24 : Df d 129 24 [l0, .int x, l2, l3] st h nx = Df d 129 25 [l0, .int x, l2, l3] (.int x :: st) h nx := D_iload_n (ins_of mc_129 (pc := 24) (x := (.iload_n 1, 1)) (by decide +kernel)) rfl
theorem e_129_25 : Df d 129 25 [l0, l1, l2, l3] st h nx = Df d 129 26 [l0, l1, l2, l3] (.int 2 :: st) h nx := D_iconst (ins_of mc_129 (pc := 25) (x := (.iconst 2, 1)) (by decide +kernel)) (by decide)
theorem e_129_26 : Df d 129 26 [l0, l1, l2, l3] [v1, v0, .ref a, s0, s1] h nx = if ck h a 9 = true then cn d 129 29 [l0, l1, l2, l3] [s0, s1] (Dn d 128 [.ref a, v0, v1] h nx) else none := D_virtual (k1 := 128) (ins_of mc_129 (pc := 26) (x := (.invokevirtual 80, 3)) (by decide +kernel)) mo_129 (by decide +kernel) (by decide) rfl rfl (by decide) rfl (Nat.le_of_ble_eq_true rfl) rfl
theorem e_129_29 : Df d 129 29 [l0, l1, l2, l3] (.int y :: .int x :: .ref a :: st) h nx = (wI h a x 0 y).bind fun h => Df d 129 30 [l0, l1, l2, l3] st h nx := D_iastore (ins_of mc_129 (pc := 29) (x := (.iastore, 1)) (by decide +kernel))
theorem e_129_30 : Df d 129 30 [.ref a, l1, l2, l3] st h nx = Df d 129 31 [.ref a, l1, l2, l3] (.ref a :: st) h nx := D_aload_n (ins_of mc_129 (pc := 30) (x := (.aload_n 0, 1)) (by decide +kernel)) rfl
theorem e_129_31 : Df d 129 31 [l0, l1, l2, l3] (.ref a :: st) h nx = (gF h a 9 23).bind fun v => Df d 129 34 [l0, l1, l2, l3] (v :: st) h nx := D_getfield (ins_of mc_129 (pc := 31) (x := (.getfield 45, 3)) (by decide +kernel)) mo_129 (by decide +kernel)
theorem e_129_34 : Df d 129 34 [l0, l1, l2, l3] st h nx = Df d 129 35 [l0, l1, l2, l3] (.int 2 :: st) h nx := D_iconst (ins_of mc_129 (pc := 34) (x := (.iconst 2, 1)) (by decide +kernel)) (by decide)
theorem e_129_35 : Df d 129 35 [.ref a, l1, l2, l3] st h nx = Df d 129 36 [.ref a, l1, l2, l3] (.ref a :: st) h nx := D_aload_n (ins_of mc_129 (pc := 35) (x := (.aload_n 0, 1)) (by decide +kernel)) rfl
theorem e_129_36 : Df d 129 36 [l0, .int x, l2, l3] st h nx = Df d 129 37 [l0, .int x, l2, l3] (.int x :: st) h nx := D_iload_n (ins_of mc_129 (pc := 36) (x := (.iload_n 1, 1)) (by decide +kernel)) rfl
theorem e_129_37 : Df d 129 37 [l0, l1, l2, l3] st h nx = Df d 129 38 [l0, l1, l2, l3] (.int 1 :: st) h nx := D_iconst (ins_of mc_129 (pc := 37) (x := (.iconst 1, 1)) (by decide +kernel)) (by decide)
theorem e_129_38 : Df d 129 38 [l0, l1, l2, l3] [v1, v0, .ref a, s0, s1] h nx = if ck h a 9 = true then cn d 129 41 [l0, l1, l2, l3] [s0, s1] (Dn d 128 [.ref a, v0, v1] h nx) else none := D_virtual (k1 := 128) (ins_of mc_129 (pc := 38) (x := (.invokevirtual 80, 3)) (by decide +kernel)) mo_129 (by decide +kernel) (by decide) rfl rfl (by decide) rfl (Nat.le_of_ble_eq_true rfl) rfl
theorem e_129_41 : Df d 129 41 [l0, l1, l2, l3] (.int y :: .int x :: .ref a :: st) h nx = (wI h a x 0 y).bind fun h => Df d 129 42 [l0, l1, l2, l3] st h nx := D_iastore (ins_of mc_129 (pc := 41) (x := (.iastore, 1)) (by decide +kernel))
theorem e_129_42 : Df d 129 42 [l0, l1, .int x, l3] st h nx = Df d 129 43 [l0, l1, .int x, l3] (.int x :: st) h nx := D_iload_n (ins_of mc_129 (pc := 42) (x := (.iload_n 2, 1)) (by decide +kernel)) rfl
theorem e_129_43 : Df d 129 43 [l0, l1, l2, l3] (.int x :: st) h nx = if 0 ≤ x then Df d 129 57 [l0, l1, l2, l3] st h nx else Df d 129 46 [l0, l1, l2, l3] st h nx := D_if_ge (ins_of mc_129 (pc := 43) (x := (.ifCond .ge 14, 3)) (by decide +kernel)) (by decide)
theorem e_129_46 : Df d 129 46 [.ref a, l1, l2, l3] st h nx = Df d 129 47 [.ref a, l1, l2, l3] (.ref a :: st) h nx := D_aload_n (ins_of mc_129 (pc := 46) (x := (.aload_n 0, 1)) (by decide +kernel)) rfl
theorem e_129_47 : Df d 129 47 [l0, l1, l2, l3] (.ref a :: st) h nx = (gF h a 9 0).bind fun v => Df d 129 50 [l0, l1, l2, l3] (v :: st) h nx := D_getfield (ins_of mc_129 (pc := 47) (x := (.getfield 9, 3)) (by decide +kernel)) mo_129 (by decide +kernel)
theorem e_129_50 : Df d 129 50 [l0, l1, l2, l3] st h nx = Df d 129 51 [l0, l1, l2, l3] (.int 3 :: st) h nx := D_iconst (ins_of mc_129 (pc := 50) (x := (.iconst 3, 1)) (by decide +kernel)) (by decide)
theorem e_129_51 : Df d 129 51 [l0, l1, l2, l3] (.int x :: .ref a :: st) h nx = (rX h a x).bind fun v => Df d 129 52 [l0, l1, l2, l3] (.int v :: st) h nx := D_iaload (ins_of mc_129 (pc := 51) (x := (.iaload, 1)) (by decide +kernel))
theorem e_129_52 : Df d 129 52 [l0, l1, l2, l3] st h nx = Df d 129 53 [l0, l1, l2, l3] (.int 1 :: st) h nx := D_iconst (ins_of mc_129 (pc := 52) (x := (.iconst 1, 1)) (by decide +kernel)) (by decide)
theorem e_129_53 : Df d 129 53 [l0, l1, l2, l3] (.int y :: .int x :: st) h nx = Df d 129 54 [l0, l1, l2, l3] (.int (x + y) :: st) h nx := D_iadd (ins_of mc_129 (pc := 53) (x := (.iadd, 1)) (by decide +kernel))
theorem e_129_54 : Df d 129 54 [l0, l1, l2, l3] st h nx = Df d 129 68 [l0, l1, l2, l3] st h nx := D_goto (ins_of mc_129 (pc := 54) (x := (.goto 14, 3)) (by decide +kernel)) (by decide)
theorem e_129_57 : Df d 129 57 [.ref a, l1, l2, l3] st h nx = Df d 129 58 [.ref a, l1, l2, l3] (.ref a :: st) h nx := D_aload_n (ins_of mc_129 (pc := 57) (x := (.aload_n 0, 1)) (by decide +kernel)) rfl
theorem e_129_58 : Df d 129 58 [l0, l1, .int x, l3] st h nx = Df d 129 59 [l0, l1, .int x, l3] (.int x :: st) h nx := D_iload_n (ins_of mc_129 (pc := 58) (x := (.iload_n 2, 1)) (by decide +kernel)) rfl
theorem e_129_59 : Df d 129 59 [l0, l1, l2, l3] [v0, .ref a] h nx = if ck h a 9 = true then cn d 129 62 [l0, l1, l2, l3] [] (Dn d 131 [.ref a, v0] h nx) else none := D_virtual (k1 := 131) (ins_of mc_129 (pc := 59) (x := (.invokevirtual 98, 3)) (by decide +kernel)) mo_129 (by decide +kernel) (by decide) rfl rfl (by decide) rfl (Nat.le_of_ble_eq_true rfl) rfl
theorem e_129_62 : Df d 129 62 [l0, l1, l2, l3] st h nx = Df d 129 63 [l0, l1, l2, l3] (.int 0 :: st) h nx := D_iconst (ins_of mc_129 (pc := 62) (x := (.iconst 0, 1)) (by decide +kernel)) (by decide)
theorem e_129_63 : Df d 129 63 [l0, l1, l2, l3] st h nx = Df d 129 65 [l0, l1, l2, l3] (.int 40 :: st) h nx := D_bipush (ins_of mc_129 (pc := 63) (x := (.bipush 40, 2)) (by decide +kernel)) (by decide)
theorem e_129_65 : Df d 129 65 [l0, l1, l2, l3] [v2, v1, v0] h nx = cn d 129 68 [l0, l1, l2, l3] [] (Dn d 133 [v0, v1, v2] h nx) := D_static (k1 := 133) (kd := 1) (ins_of mc_129 (pc := 65) (x := (.invokestatic 101, 3)) (by decide +kernel)) mo_129 (by decide +kernel) (by decide) rfl (Nat.le_of_ble_eq_true rfl) rfl (Nat.le_of_ble_eq_true rfl) rfl
theorem e_129_68 (hn : nr l3 = true) : Df d 129 68 [l0, l1, l2, l3] (.int x :: st) h nx = Df d 129 69 [l0, l1, l2, .int x] st h nx := D_istore_n (ins_of mc_129 (pc := 68) (x := (.istore_n 3, 1)) (by decide +kernel)) rfl hn rfl
theorem e_129_69 : Df d 129 69 [.ref a, l1, l2, l3] st h nx = Df d 129 70 [.ref a, l1, l2, l3] (.ref a :: st) h nx := D_aload_n (ins_of mc_129 (pc := 69) (x := (.aload_n 0, 1)) (by decide +kernel)) rfl
theorem e_129_70 : Df d 129 70 [l0, .int x, l2, l3] st h nx = Df d 129 71 [l0, .int x, l2, l3] (.int x :: st) h nx := D_iload_n (ins_of mc_129 (pc := 70) (x := (.iload_n 1, 1)) (by decide +kernel)) rfl
theorem e_129_71 : Df d 129 71 [l0, l1, l2, l3] st h nx = Df d 129 72 [l0, l1, l2, l3] (.int 0 :: st) h nx := D_iconst (ins_of mc_129 (pc := 71) (x := (.iconst 0, 1)) (by decide +kernel)) (by decide)
theorem e_129_72 : Df d 129 72 [l0, l1, l2, l3] [v1, v0, .ref a] h nx = if ck h a 9 = true then cn d 129 75 [l0, l1, l2, l3] [] (Dn d 128 [.ref a, v0, v1] h nx) else none := D_virtual (k1 := 128) (ins_of mc_129 (pc := 72) (x := (.invokevirtual 80, 3)) (by decide +kernel)) mo_129 (by decide +kernel) (by decide) rfl rfl (by decide) rfl (Nat.le_of_ble_eq_true rfl) rfl
theorem e_129_75 : Df d 129 75 [l0, l1, l2, l3] (.int x :: st) h nx = if x = 1 then Df d 129 108 [l0, l1, l2, l3] st h nx else if x = 2 then Df d 129 112 [l0, l1, l2, l3] st h nx else if x = 3 then Df d 129 116 [l0, l1, l2, l3] st h nx else if x = 4 then Df d 129 120 [l0, l1, l2, l3] st h nx else if x = 5 then Df d 129 133 [l0, l1, l2, l3] st h nx else Df d 129 135 [l0, l1, l2, l3] st h nx := by
  have hi := (ins_of mc_129 (pc := 75) (x := (.tableswitch 60 1 5 #[33, 37, 41, 45, 58], 33)) (by decide +kernel))
  by_cases q0 : x = 1
  · subst q0
    rw [if_pos rfl]
    exact D_tswI (off := 33) hi (by decide) (by decide) (by decide)
  rw [if_neg q0]
  by_cases q1 : x = 2
  · subst q1
    rw [if_pos rfl]
    exact D_tswI (off := 37) hi (by decide) (by decide) (by decide)
  rw [if_neg q1]
  by_cases q2 : x = 3
  · subst q2
    rw [if_pos rfl]
    exact D_tswI (off := 41) hi (by decide) (by decide) (by decide)
  rw [if_neg q2]
  by_cases q3 : x = 4
  · subst q3
    rw [if_pos rfl]
    exact D_tswI (off := 45) hi (by decide) (by decide) (by decide)
  rw [if_neg q3]
  by_cases q4 : x = 5
  · subst q4
    rw [if_pos rfl]
    exact D_tswI (off := 58) hi (by decide) (by decide) (by decide)
  rw [if_neg q4]
  have r0 : x.toInt ≠ 1 := fun z => q0 (Int32.toInt_inj.mp (z.trans (by decide)))
  have r1 : x.toInt ≠ 2 := fun z => q1 (Int32.toInt_inj.mp (z.trans (by decide)))
  have r2 : x.toInt ≠ 3 := fun z => q2 (Int32.toInt_inj.mp (z.trans (by decide)))
  have r3 : x.toInt ≠ 4 := fun z => q3 (Int32.toInt_inj.mp (z.trans (by decide)))
  have r4 : x.toInt ≠ 5 := fun z => q4 (Int32.toInt_inj.mp (z.trans (by decide)))
  exact D_tswO hi (by omega) (by decide)
theorem e_129_108 : Df d 129 108 [l0, l1, l2, .int x] st h nx = Df d 129 109 [l0, l1, l2, .int x] (.int x :: st) h nx := D_iload_n (ins_of mc_129 (pc := 108) (x := (.iload_n 3, 1)) (by decide +kernel)) rfl
theorem e_129_109 : Df d 129 109 [l0, l1, l2, l3] st h nx = Df d 129 110 [l0, l1, l2, l3] (.int 2 :: st) h nx := D_iconst (ins_of mc_129 (pc := 109) (x := (.iconst 2, 1)) (by decide +kernel)) (by decide)
theorem e_129_110 : Df d 129 110 [l0, l1, l2, l3] (.int y :: .int x :: st) h nx = Df d 129 111 [l0, l1, l2, l3] (.int (x + y) :: st) h nx := D_iadd (ins_of mc_129 (pc := 110) (x := (.iadd, 1)) (by decide +kernel))
theorem e_129_111 : Df d 129 111 [l0, l1, l2, l3] [.int x] h nx = some (some (.int x), h, nx) := D_ireturn (ins_of mc_129 (pc := 111) (x := (.ireturn, 1)) (by decide +kernel)) mr_129
theorem e_129_112 : Df d 129 112 [l0, l1, l2, .int x] st h nx = Df d 129 113 [l0, l1, l2, .int x] (.int x :: st) h nx := D_iload_n (ins_of mc_129 (pc := 112) (x := (.iload_n 3, 1)) (by decide +kernel)) rfl
theorem e_129_113 : Df d 129 113 [l0, l1, l2, l3] st h nx = Df d 129 114 [l0, l1, l2, l3] (.int 2 :: st) h nx := D_iconst (ins_of mc_129 (pc := 113) (x := (.iconst 2, 1)) (by decide +kernel)) (by decide)
theorem e_129_114 : Df d 129 114 [l0, l1, l2, l3] (.int y :: .int x :: st) h nx = if y = 0 then none else Df d 129 115 [l0, l1, l2, l3] (.int (x / y) :: st) h nx := D_idiv (ins_of mc_129 (pc := 114) (x := (.idiv, 1)) (by decide +kernel))
theorem e_129_115 : Df d 129 115 [l0, l1, l2, l3] [.int x] h nx = some (some (.int x), h, nx) := D_ireturn (ins_of mc_129 (pc := 115) (x := (.ireturn, 1)) (by decide +kernel)) mr_129
theorem e_129_116 : Df d 129 116 [l0, l1, l2, .int x] st h nx = Df d 129 117 [l0, l1, l2, .int x] (.int x :: st) h nx := D_iload_n (ins_of mc_129 (pc := 116) (x := (.iload_n 3, 1)) (by decide +kernel)) rfl
theorem e_129_117 : Df d 129 117 [l0, l1, l2, l3] st h nx = Df d 129 118 [l0, l1, l2, l3] (.int 1 :: st) h nx := D_iconst (ins_of mc_129 (pc := 117) (x := (.iconst 1, 1)) (by decide +kernel)) (by decide)
theorem e_129_118 : Df d 129 118 [l0, l1, l2, l3] (.int y :: .int x :: st) h nx = Df d 129 119 [l0, l1, l2, l3] (.int (x + y) :: st) h nx := D_iadd (ins_of mc_129 (pc := 118) (x := (.iadd, 1)) (by decide +kernel))
theorem e_129_119 : Df d 129 119 [l0, l1, l2, l3] [.int x] h nx = some (some (.int x), h, nx) := D_ireturn (ins_of mc_129 (pc := 119) (x := (.ireturn, 1)) (by decide +kernel)) mr_129
theorem e_129_120 : Df d 129 120 [l0, l1, l2, .int x] st h nx = Df d 129 121 [l0, l1, l2, .int x] (.int x :: st) h nx := D_iload_n (ins_of mc_129 (pc := 120) (x := (.iload_n 3, 1)) (by decide +kernel)) rfl
theorem e_129_121 : Df d 129 121 [l0, l1, l2, l3] st h nx = Df d 129 122 [l0, l1, l2, l3] (.int 2 :: st) h nx := D_iconst (ins_of mc_129 (pc := 121) (x := (.iconst 2, 1)) (by decide +kernel)) (by decide)
theorem e_129_122 : Df d 129 122 [l0, l1, l2, l3] (.int y :: .int x :: st) h nx = if y = 0 then none else Df d 129 123 [l0, l1, l2, l3] (.int (x / y) :: st) h nx := D_idiv (ins_of mc_129 (pc := 122) (x := (.idiv, 1)) (by decide +kernel))
theorem e_129_123 : Df d 129 123 [.ref a, l1, l2, l3] st h nx = Df d 129 124 [.ref a, l1, l2, l3] (.ref a :: st) h nx := D_aload_n (ins_of mc_129 (pc := 123) (x := (.aload_n 0, 1)) (by decide +kernel)) rfl
theorem e_129_124 : Df d 129 124 [l0, l1, l2, l3] (.ref a :: st) h nx = (gF h a 9 0).bind fun v => Df d 129 127 [l0, l1, l2, l3] (v :: st) h nx := D_getfield (ins_of mc_129 (pc := 124) (x := (.getfield 9, 3)) (by decide +kernel)) mo_129 (by decide +kernel)
theorem e_129_127 : Df d 129 127 [l0, l1, l2, l3] st h nx = Df d 129 128 [l0, l1, l2, l3] (.int 2 :: st) h nx := D_iconst (ins_of mc_129 (pc := 127) (x := (.iconst 2, 1)) (by decide +kernel)) (by decide)
theorem e_129_128 : Df d 129 128 [l0, l1, l2, l3] (.int x :: .ref a :: st) h nx = (rX h a x).bind fun v => Df d 129 129 [l0, l1, l2, l3] (.int v :: st) h nx := D_iaload (ins_of mc_129 (pc := 128) (x := (.iaload, 1)) (by decide +kernel))
theorem e_129_129 : Df d 129 129 [l0, l1, l2, l3] st h nx = Df d 129 130 [l0, l1, l2, l3] (.int 2 :: st) h nx := D_iconst (ins_of mc_129 (pc := 129) (x := (.iconst 2, 1)) (by decide +kernel)) (by decide)
theorem e_129_130 : Df d 129 130 [l0, l1, l2, l3] (.int y :: .int x :: st) h nx = if y = 0 then none else Df d 129 131 [l0, l1, l2, l3] (.int (x - x / y * y) :: st) h nx := D_irem (ins_of mc_129 (pc := 130) (x := (.irem, 1)) (by decide +kernel))
theorem e_129_131 : Df d 129 131 [l0, l1, l2, l3] (.int y :: .int x :: st) h nx = Df d 129 132 [l0, l1, l2, l3] (.int (x + y) :: st) h nx := D_iadd (ins_of mc_129 (pc := 131) (x := (.iadd, 1)) (by decide +kernel))
theorem e_129_132 : Df d 129 132 [l0, l1, l2, l3] [.int x] h nx = some (some (.int x), h, nx) := D_ireturn (ins_of mc_129 (pc := 132) (x := (.ireturn, 1)) (by decide +kernel)) mr_129
theorem e_129_133 : Df d 129 133 [l0, l1, l2, l3] st h nx = Df d 129 134 [l0, l1, l2, l3] (.int 1 :: st) h nx := D_iconst (ins_of mc_129 (pc := 133) (x := (.iconst 1, 1)) (by decide +kernel)) (by decide)
theorem e_129_134 : Df d 129 134 [l0, l1, l2, l3] [.int x] h nx = some (some (.int x), h, nx) := D_ireturn (ins_of mc_129 (pc := 134) (x := (.ireturn, 1)) (by decide +kernel)) mr_129
theorem e_129_135 : Df d 129 135 [l0, l1, l2, .int x] st h nx = Df d 129 136 [l0, l1, l2, .int x] (.int x :: st) h nx := D_iload_n (ins_of mc_129 (pc := 135) (x := (.iload_n 3, 1)) (by decide +kernel)) rfl
theorem e_129_136 : Df d 129 136 [l0, l1, l2, l3] [.int x] h nx = some (some (.int x), h, nx) := D_ireturn (ins_of mc_129 (pc := 136) (x := (.ireturn, 1)) (by decide +kernel)) mr_129
theorem mc_130 : mC 130 = prog_11_method_71_code := rfl
theorem mo_130 : mO 130 = 9 := rfl
theorem ml_130 : mL 130 = 3 := rfl
theorem mr_130 : mR 130 = (some .int) := rfl
theorem ma_130 : mA 130 = 1 := rfl
theorem e_130_0 : Df d 130 0 [.ref a, l1, l2] st h nx = Df d 130 1 [.ref a, l1, l2] (.ref a :: st) h nx := D_aload_n (ins_of mc_130 (pc := 0) (x := (.aload_n 0, 1)) (by decide +kernel)) rfl
theorem e_130_1 : Df d 130 1 [l0, l1, l2] (.ref a :: st) h nx = (gF h a 9 0).bind fun v => Df d 130 4 [l0, l1, l2] (v :: st) h nx := D_getfield (ins_of mc_130 (pc := 1) (x := (.getfield 9, 3)) (by decide +kernel)) mo_130 (by decide +kernel)
theorem e_130_4 : Df d 130 4 [l0, l1, l2] st h nx = Df d 130 6 [l0, l1, l2] (.int 10 :: st) h nx := D_bipush (ins_of mc_130 (pc := 4) (x := (.bipush 10, 2)) (by decide +kernel)) (by decide)
theorem e_130_6 : Df d 130 6 [l0, l1, l2] (.int x :: .ref a :: st) h nx = (rX h a x).bind fun v => Df d 130 7 [l0, l1, l2] (.int v :: st) h nx := D_iaload (ins_of mc_130 (pc := 6) (x := (.iaload, 1)) (by decide +kernel))
theorem e_130_7 : Df d 130 7 [l0, l1, l2] st h nx = Df d 130 8 [l0, l1, l2] (.int 1 :: st) h nx := D_iconst (ins_of mc_130 (pc := 7) (x := (.iconst 1, 1)) (by decide +kernel)) (by decide)
theorem e_130_8 : Df d 130 8 [l0, l1, l2] (.int y :: .int x :: st) h nx = Df d 130 9 [l0, l1, l2] (.int (x - y) :: st) h nx := D_isub (ins_of mc_130 (pc := 8) (x := (.isub, 1)) (by decide +kernel))
theorem e_130_9 (hn : nr l2 = true) : Df d 130 9 [l0, l1, l2] (.int x :: st) h nx = Df d 130 10 [l0, l1, .int x] st h nx := D_istore_n (ins_of mc_130 (pc := 9) (x := (.istore_n 2, 1)) (by decide +kernel)) rfl hn rfl
theorem e_130_10 : Df d 130 10 [l0, l1, .int x] st h nx = Df d 130 11 [l0, l1, .int x] (.int x :: st) h nx := D_iload_n (ins_of mc_130 (pc := 10) (x := (.iload_n 2, 1)) (by decide +kernel)) rfl
theorem e_130_11 : Df d 130 11 [l0, l1, l2] (.int x :: st) h nx = if x < 0 then Df d 130 41 [l0, l1, l2] st h nx else Df d 130 14 [l0, l1, l2] st h nx := D_if_lt (ins_of mc_130 (pc := 11) (x := (.ifCond .lt 30, 3)) (by decide +kernel)) (by decide)
theorem e_130_14 : Df d 130 14 [.ref a, l1, l2] st h nx = Df d 130 15 [.ref a, l1, l2] (.ref a :: st) h nx := D_aload_n (ins_of mc_130 (pc := 14) (x := (.aload_n 0, 1)) (by decide +kernel)) rfl
theorem e_130_15 : Df d 130 15 [l0, l1, l2] (.ref a :: st) h nx = (gF h a 9 0).bind fun v => Df d 130 18 [l0, l1, l2] (v :: st) h nx := D_getfield (ins_of mc_130 (pc := 15) (x := (.getfield 9, 3)) (by decide +kernel)) mo_130 (by decide +kernel)
theorem e_130_18 : Df d 130 18 [l0, l1, l2] st h nx = Df d 130 20 [l0, l1, l2] (.int 95 :: st) h nx := D_bipush (ins_of mc_130 (pc := 18) (x := (.bipush 95, 2)) (by decide +kernel)) (by decide)
theorem e_130_20 : Df d 130 20 [l0, l1, l2] st h nx = Df d 130 21 [l0, l1, l2] (.int 2 :: st) h nx := D_iconst (ins_of mc_130 (pc := 20) (x := (.iconst 2, 1)) (by decide +kernel)) (by decide)
theorem e_130_21 : Df d 130 21 [l0, l1, .int x] st h nx = Df d 130 22 [l0, l1, .int x] (.int x :: st) h nx := D_iload_n (ins_of mc_130 (pc := 21) (x := (.iload_n 2, 1)) (by decide +kernel)) rfl
theorem e_130_22 : Df d 130 22 [l0, l1, l2] (.int y :: .int x :: st) h nx = Df d 130 23 [l0, l1, l2] (.int (x * y) :: st) h nx := D_imul (ins_of mc_130 (pc := 22) (x := (.imul, 1)) (by decide +kernel))
theorem e_130_23 : Df d 130 23 [l0, l1, l2] (.int y :: .int x :: st) h nx = Df d 130 24 [l0, l1, l2] (.int (x + y) :: st) h nx := D_iadd (ins_of mc_130 (pc := 23) (x := (.iadd, 1)) (by decide +kernel))
theorem e_130_24 : Df d 130 24 [l0, l1, l2] (.int x :: .ref a :: st) h nx = (rX h a x).bind fun v => Df d 130 25 [l0, l1, l2] (.int v :: st) h nx := D_iaload (ins_of mc_130 (pc := 24) (x := (.iaload, 1)) (by decide +kernel))
theorem e_130_25 : Df d 130 25 [l0, l1, l2] st h nx = Df d 130 28 [l0, l1, l2] (.int 1000 :: st) h nx := D_sipush (ins_of mc_130 (pc := 25) (x := (.sipush 1000, 3)) (by decide +kernel)) (by decide)
theorem e_130_28 : Df d 130 28 [l0, l1, l2] (.int y :: .int x :: st) h nx = if y = 0 then none else Df d 130 29 [l0, l1, l2] (.int (x / y) :: st) h nx := D_idiv (ins_of mc_130 (pc := 28) (x := (.idiv, 1)) (by decide +kernel))
theorem e_130_29 : Df d 130 29 [l0, .int x, l2] st h nx = Df d 130 30 [l0, .int x, l2] (.int x :: st) h nx := D_iload_n (ins_of mc_130 (pc := 29) (x := (.iload_n 1, 1)) (by decide +kernel)) rfl
theorem e_130_30 : Df d 130 30 [l0, l1, l2] (.int y :: .int x :: st) h nx = if x = y then Df d 130 33 [l0, l1, l2] st h nx else Df d 130 35 [l0, l1, l2] st h nx := D_icmp_ne (ins_of mc_130 (pc := 30) (x := (.if_icmp .ne 5, 3)) (by decide +kernel)) (by decide)
theorem e_130_33 : Df d 130 33 [l0, l1, .int x] st h nx = Df d 130 34 [l0, l1, .int x] (.int x :: st) h nx := D_iload_n (ins_of mc_130 (pc := 33) (x := (.iload_n 2, 1)) (by decide +kernel)) rfl
theorem e_130_34 : Df d 130 34 [l0, l1, l2] [.int x] h nx = some (some (.int x), h, nx) := D_ireturn (ins_of mc_130 (pc := 34) (x := (.ireturn, 1)) (by decide +kernel)) mr_130
theorem e_130_35 : Df d 130 35 [l0, l1, .int x] st h nx = Df d 130 38 [l0, l1, .int (x + (-1))] st h nx := D_iinc (ins_of mc_130 (pc := 35) (x := (.iinc 2 (-1), 3)) (by decide +kernel)) rfl (by decide) rfl
theorem e_130_38 : Df d 130 38 [l0, l1, l2] st h nx = Df d 130 10 [l0, l1, l2] st h nx := D_goto (ins_of mc_130 (pc := 38) (x := (.goto (-28), 3)) (by decide +kernel)) (by decide)
theorem e_130_41 : Df d 130 41 [l0, l1, l2] st h nx = Df d 130 42 [l0, l1, l2] (.int (-1) :: st) h nx := D_iconst (ins_of mc_130 (pc := 41) (x := (.iconst (-1), 1)) (by decide +kernel)) (by decide)
theorem e_130_42 : Df d 130 42 [l0, l1, l2] [.int x] h nx = some (some (.int x), h, nx) := D_ireturn (ins_of mc_130 (pc := 42) (x := (.ireturn, 1)) (by decide +kernel)) mr_130
theorem mc_131 : mC 131 = prog_11_method_74_code := rfl
theorem mo_131 : mO 131 = 9 := rfl
theorem ml_131 : mL 131 = 6 := rfl
theorem mr_131 : mR 131 = (some .int) := rfl
theorem ma_131 : mA 131 = 1 := rfl
theorem e_131_0 : Df d 131 0 [l0, l1, l2, l3, l4, l5] st h nx = Df d 131 1 [l0, l1, l2, l3, l4, l5] (.int 0 :: st) h nx := D_iconst (ins_of mc_131 (pc := 0) (x := (.iconst 0, 1)) (by decide +kernel)) (by decide)
theorem e_131_1 (hn : nr l2 = true) : Df d 131 1 [l0, l1, l2, l3, l4, l5] (.int x :: st) h nx = Df d 131 2 [l0, l1, .int x, l3, l4, l5] st h nx := D_istore_n (ins_of mc_131 (pc := 1) (x := (.istore_n 2, 1)) (by decide +kernel)) rfl hn rfl
theorem e_131_2 : Df d 131 2 [.ref a, l1, l2, l3, l4, l5] st h nx = Df d 131 3 [.ref a, l1, l2, l3, l4, l5] (.ref a :: st) h nx := D_aload_n (ins_of mc_131 (pc := 2) (x := (.aload_n 0, 1)) (by decide +kernel)) rfl
theorem e_131_3 : Df d 131 3 [l0, l1, l2, l3, l4, l5] (.ref a :: st) h nx = (gF h a 9 0).bind fun v => Df d 131 6 [l0, l1, l2, l3, l4, l5] (v :: st) h nx := D_getfield (ins_of mc_131 (pc := 3) (x := (.getfield 9, 3)) (by decide +kernel)) mo_131 (by decide +kernel)
theorem e_131_6 : Df d 131 6 [l0, l1, l2, l3, l4, l5] st h nx = Df d 131 8 [l0, l1, l2, l3, l4, l5] (.int 95 :: st) h nx := D_bipush (ins_of mc_131 (pc := 6) (x := (.bipush 95, 2)) (by decide +kernel)) (by decide)
theorem e_131_8 : Df d 131 8 [l0, l1, l2, l3, l4, l5] st h nx = Df d 131 9 [l0, l1, l2, l3, l4, l5] (.int 2 :: st) h nx := D_iconst (ins_of mc_131 (pc := 8) (x := (.iconst 2, 1)) (by decide +kernel)) (by decide)
theorem e_131_9 : Df d 131 9 [l0, .int x, l2, l3, l4, l5] st h nx = Df d 131 10 [l0, .int x, l2, l3, l4, l5] (.int x :: st) h nx := D_iload_n (ins_of mc_131 (pc := 9) (x := (.iload_n 1, 1)) (by decide +kernel)) rfl
theorem e_131_10 : Df d 131 10 [l0, l1, l2, l3, l4, l5] (.int y :: .int x :: st) h nx = Df d 131 11 [l0, l1, l2, l3, l4, l5] (.int (x * y) :: st) h nx := D_imul (ins_of mc_131 (pc := 10) (x := (.imul, 1)) (by decide +kernel))
theorem e_131_11 : Df d 131 11 [l0, l1, l2, l3, l4, l5] (.int y :: .int x :: st) h nx = Df d 131 12 [l0, l1, l2, l3, l4, l5] (.int (x + y) :: st) h nx := D_iadd (ins_of mc_131 (pc := 11) (x := (.iadd, 1)) (by decide +kernel))
theorem e_131_12 : Df d 131 12 [l0, l1, l2, l3, l4, l5] (.int x :: .ref a :: st) h nx = (rX h a x).bind fun v => Df d 131 13 [l0, l1, l2, l3, l4, l5] (.int v :: st) h nx := D_iaload (ins_of mc_131 (pc := 12) (x := (.iaload, 1)) (by decide +kernel))
theorem e_131_13 : Df d 131 13 [l0, l1, l2, l3, l4, l5] st h nx = Df d 131 16 [l0, l1, l2, l3, l4, l5] (.int 1000 :: st) h nx := D_sipush (ins_of mc_131 (pc := 13) (x := (.sipush 1000, 3)) (by decide +kernel)) (by decide)
theorem e_131_16 : Df d 131 16 [l0, l1, l2, l3, l4, l5] (.int y :: .int x :: st) h nx = if y = 0 then none else Df d 131 17 [l0, l1, l2, l3, l4, l5] (.int (x - x / y * y) :: st) h nx := D_irem (ins_of mc_131 (pc := 16) (x := (.irem, 1)) (by decide +kernel))
theorem e_131_17 (hn : nr l3 = true) : Df d 131 17 [l0, l1, l2, l3, l4, l5] (.int x :: st) h nx = Df d 131 18 [l0, l1, l2, .int x, l4, l5] st h nx := D_istore_n (ins_of mc_131 (pc := 17) (x := (.istore_n 3, 1)) (by decide +kernel)) rfl hn rfl
theorem e_131_18 : Df d 131 18 [l0, l1, l2, l3, l4, l5] st h nx = Df d 131 19 [l0, l1, l2, l3, l4, l5] (.int 0 :: st) h nx := D_iconst (ins_of mc_131 (pc := 18) (x := (.iconst 0, 1)) (by decide +kernel)) (by decide)
theorem e_131_19 (hn : nr l4 = true) : Df d 131 19 [l0, l1, l2, l3, l4, l5] (.int x :: st) h nx = Df d 131 21 [l0, l1, l2, l3, .int x, l5] st h nx := D_istore (ins_of mc_131 (pc := 19) (x := (.istore 4, 2)) (by decide +kernel)) rfl hn rfl
theorem e_131_21 : Df d 131 21 [l0, l1, l2, l3, .int x, l5] st h nx = Df d 131 23 [l0, l1, l2, l3, .int x, l5] (.int x :: st) h nx := D_iload (ins_of mc_131 (pc := 21) (x := (.iload 4, 2)) (by decide +kernel)) rfl
theorem e_131_23 : Df d 131 23 [l0, l1, l2, .int x, l4, l5] st h nx = Df d 131 24 [l0, l1, l2, .int x, l4, l5] (.int x :: st) h nx := D_iload_n (ins_of mc_131 (pc := 23) (x := (.iload_n 3, 1)) (by decide +kernel)) rfl
theorem e_131_24 : Df d 131 24 [l0, l1, l2, l3, l4, l5] (.int y :: .int x :: st) h nx = if y ≤ x then Df d 131 155 [l0, l1, l2, l3, l4, l5] st h nx else Df d 131 27 [l0, l1, l2, l3, l4, l5] st h nx := D_icmp_ge (ins_of mc_131 (pc := 24) (x := (.if_icmp .ge 131, 3)) (by decide +kernel)) (by decide)
theorem e_131_27 : Df d 131 27 [.ref a, l1, l2, l3, l4, l5] st h nx = Df d 131 28 [.ref a, l1, l2, l3, l4, l5] (.ref a :: st) h nx := D_aload_n (ins_of mc_131 (pc := 27) (x := (.aload_n 0, 1)) (by decide +kernel)) rfl
theorem e_131_28 : Df d 131 28 [l0, l1, l2, l3, l4, l5] (.ref a :: st) h nx = (gF h a 9 0).bind fun v => Df d 131 31 [l0, l1, l2, l3, l4, l5] (v :: st) h nx := D_getfield (ins_of mc_131 (pc := 28) (x := (.getfield 9, 3)) (by decide +kernel)) mo_131 (by decide +kernel)
theorem e_131_31 : Df d 131 31 [l0, l1, l2, l3, l4, l5] st h nx = Df d 131 33 [l0, l1, l2, l3, l4, l5] (.int 123 :: st) h nx := D_bipush (ins_of mc_131 (pc := 31) (x := (.bipush 123, 2)) (by decide +kernel)) (by decide)
theorem e_131_33 : Df d 131 33 [l0, l1, l2, l3, l4, l5] st h nx = Df d 131 35 [l0, l1, l2, l3, l4, l5] (.int 96 :: st) h nx := D_bipush (ins_of mc_131 (pc := 33) (x := (.bipush 96, 2)) (by decide +kernel)) (by decide)
theorem e_131_35 : Df d 131 35 [l0, .int x, l2, l3, l4, l5] st h nx = Df d 131 36 [l0, .int x, l2, l3, l4, l5] (.int x :: st) h nx := D_iload_n (ins_of mc_131 (pc := 35) (x := (.iload_n 1, 1)) (by decide +kernel)) rfl
theorem e_131_36 : Df d 131 36 [l0, l1, l2, l3, l4, l5] (.int y :: .int x :: st) h nx = Df d 131 37 [l0, l1, l2, l3, l4, l5] (.int (x * y) :: st) h nx := D_imul (ins_of mc_131 (pc := 36) (x := (.imul, 1)) (by decide +kernel))
theorem e_131_37 : Df d 131 37 [l0, l1, l2, l3, l4, l5] (.int y :: .int x :: st) h nx = Df d 131 38 [l0, l1, l2, l3, l4, l5] (.int (x + y) :: st) h nx := D_iadd (ins_of mc_131 (pc := 37) (x := (.iadd, 1)) (by decide +kernel))
theorem e_131_38 : Df d 131 38 [l0, l1, l2, l3, .int x, l5] st h nx = Df d 131 40 [l0, l1, l2, l3, .int x, l5] (.int x :: st) h nx := D_iload (ins_of mc_131 (pc := 38) (x := (.iload 4, 2)) (by decide +kernel)) rfl
theorem e_131_40 : Df d 131 40 [l0, l1, l2, l3, l4, l5] (.int y :: .int x :: st) h nx = Df d 131 41 [l0, l1, l2, l3, l4, l5] (.int (x + y) :: st) h nx := D_iadd (ins_of mc_131 (pc := 40) (x := (.iadd, 1)) (by decide +kernel))
theorem e_131_41 : Df d 131 41 [l0, l1, l2, l3, l4, l5] (.int x :: .ref a :: st) h nx = (rX h a x).bind fun v => Df d 131 42 [l0, l1, l2, l3, l4, l5] (.int v :: st) h nx := D_iaload (ins_of mc_131 (pc := 41) (x := (.iaload, 1)) (by decide +kernel))
theorem e_131_42 (hn : nr l5 = true) : Df d 131 42 [l0, l1, l2, l3, l4, l5] (.int x :: st) h nx = Df d 131 44 [l0, l1, l2, l3, l4, .int x] st h nx := D_istore (ins_of mc_131 (pc := 42) (x := (.istore 5, 2)) (by decide +kernel)) rfl hn rfl
theorem e_131_44 : Df d 131 44 [l0, l1, l2, l3, l4, .int x] st h nx = Df d 131 46 [l0, l1, l2, l3, l4, .int x] (.int x :: st) h nx := D_iload (ins_of mc_131 (pc := 44) (x := (.iload 5, 2)) (by decide +kernel)) rfl
theorem e_131_46 : Df d 131 46 [l0, l1, l2, l3, l4, l5] (.int x :: st) h nx = if x < 0 then Df d 131 85 [l0, l1, l2, l3, l4, l5] st h nx else Df d 131 49 [l0, l1, l2, l3, l4, l5] st h nx := D_if_lt (ins_of mc_131 (pc := 46) (x := (.ifCond .lt 39, 3)) (by decide +kernel)) (by decide)
theorem e_131_49 : Df d 131 49 [.ref a, l1, l2, l3, l4, l5] st h nx = Df d 131 50 [.ref a, l1, l2, l3, l4, l5] (.ref a :: st) h nx := D_aload_n (ins_of mc_131 (pc := 49) (x := (.aload_n 0, 1)) (by decide +kernel)) rfl
theorem e_131_50 : Df d 131 50 [l0, l1, l2, l3, l4, l5] (.ref a :: st) h nx = (gF h a 9 22).bind fun v => Df d 131 53 [l0, l1, l2, l3, l4, l5] (v :: st) h nx := D_getfield (ins_of mc_131 (pc := 50) (x := (.getfield 42, 3)) (by decide +kernel)) mo_131 (by decide +kernel)
theorem e_131_53 : Df d 131 53 [l0, l1, .int x, l3, l4, l5] st h nx = Df d 131 54 [l0, l1, .int x, l3, l4, l5] (.int x :: st) h nx := D_iload_n (ins_of mc_131 (pc := 53) (x := (.iload_n 2, 1)) (by decide +kernel)) rfl
theorem e_131_54 : Df d 131 54 [l0, l1, l2, l3, l4, .int x] st h nx = Df d 131 56 [l0, l1, l2, l3, l4, .int x] (.int x :: st) h nx := D_iload (ins_of mc_131 (pc := 54) (x := (.iload 5, 2)) (by decide +kernel)) rfl
theorem e_131_56 : Df d 131 56 [l0, l1, l2, l3, l4, l5] st h nx = Df d 131 59 [l0, l1, l2, l3, l4, l5] (.int 10000 :: st) h nx := D_sipush (ins_of mc_131 (pc := 56) (x := (.sipush 10000, 3)) (by decide +kernel)) (by decide)
theorem e_131_59 : Df d 131 59 [l0, l1, l2, l3, l4, l5] (.int y :: .int x :: st) h nx = if y ≤ x then Df d 131 67 [l0, l1, l2, l3, l4, l5] st h nx else Df d 131 62 [l0, l1, l2, l3, l4, l5] st h nx := D_icmp_ge (ins_of mc_131 (pc := 59) (x := (.if_icmp .ge 8, 3)) (by decide +kernel)) (by decide)
theorem e_131_62 : Df d 131 62 [l0, l1, l2, l3, l4, .int x] st h nx = Df d 131 64 [l0, l1, l2, l3, l4, .int x] (.int x :: st) h nx := D_iload (ins_of mc_131 (pc := 62) (x := (.iload 5, 2)) (by decide +kernel)) rfl
theorem e_131_64 : Df d 131 64 [l0, l1, l2, l3, l4, l5] st h nx = Df d 131 78 [l0, l1, l2, l3, l4, l5] st h nx := D_goto (ins_of mc_131 (pc := 64) (x := (.goto 14, 3)) (by decide +kernel)) (by decide)
theorem e_131_67 : Df d 131 67 [.ref a, l1, l2, l3, l4, l5] st h nx = Df d 131 68 [.ref a, l1, l2, l3, l4, l5] (.ref a :: st) h nx := D_aload_n (ins_of mc_131 (pc := 67) (x := (.aload_n 0, 1)) (by decide +kernel)) rfl
theorem e_131_68 : Df d 131 68 [l0, l1, l2, l3, l4, l5] (.ref a :: st) h nx = (gF h a 9 23).bind fun v => Df d 131 71 [l0, l1, l2, l3, l4, l5] (v :: st) h nx := D_getfield (ins_of mc_131 (pc := 68) (x := (.getfield 45, 3)) (by decide +kernel)) mo_131 (by decide +kernel)
theorem e_131_71 : Df d 131 71 [l0, l1, l2, l3, l4, .int x] st h nx = Df d 131 73 [l0, l1, l2, l3, l4, .int x] (.int x :: st) h nx := D_iload (ins_of mc_131 (pc := 71) (x := (.iload 5, 2)) (by decide +kernel)) rfl
theorem e_131_73 : Df d 131 73 [l0, l1, l2, l3, l4, l5] st h nx = Df d 131 76 [l0, l1, l2, l3, l4, l5] (.int 10000 :: st) h nx := D_sipush (ins_of mc_131 (pc := 73) (x := (.sipush 10000, 3)) (by decide +kernel)) (by decide)
theorem e_131_76 : Df d 131 76 [l0, l1, l2, l3, l4, l5] (.int y :: .int x :: st) h nx = Df d 131 77 [l0, l1, l2, l3, l4, l5] (.int (x - y) :: st) h nx := D_isub (ins_of mc_131 (pc := 76) (x := (.isub, 1)) (by decide +kernel))
theorem e_131_77 : Df d 131 77 [l0, l1, l2, l3, l4, l5] (.int x :: .ref a :: st) h nx = (rX h a x).bind fun v => Df d 131 78 [l0, l1, l2, l3, l4, l5] (.int v :: st) h nx := D_iaload (ins_of mc_131 (pc := 77) (x := (.iaload, 1)) (by decide +kernel))
theorem e_131_78 : Df d 131 78 [l0, l1, l2, l3, l4, l5] (.int y :: .int x :: .ref a :: st) h nx = (wI h a x 0 y).bind fun h => Df d 131 79 [l0, l1, l2, l3, l4, l5] st h nx := D_iastore (ins_of mc_131 (pc := 78) (x := (.iastore, 1)) (by decide +kernel))
theorem e_131_79 : Df d 131 79 [l0, l1, .int x, l3, l4, l5] st h nx = Df d 131 82 [l0, l1, .int (x + 1), l3, l4, l5] st h nx := D_iinc (ins_of mc_131 (pc := 79) (x := (.iinc 2 1, 3)) (by decide +kernel)) rfl (by decide) rfl
theorem e_131_82 : Df d 131 82 [l0, l1, l2, l3, l4, l5] st h nx = Df d 131 149 [l0, l1, l2, l3, l4, l5] st h nx := D_goto (ins_of mc_131 (pc := 82) (x := (.goto 67, 3)) (by decide +kernel)) (by decide)
theorem e_131_85 : Df d 131 85 [l0, l1, l2, l3, l4, .int x] st h nx = Df d 131 87 [l0, l1, l2, l3, l4, .int x] (.int x :: st) h nx := D_iload (ins_of mc_131 (pc := 85) (x := (.iload 5, 2)) (by decide +kernel)) rfl
theorem e_131_87 : Df d 131 87 [l0, l1, l2, l3, l4, l5] st h nx = Df d 131 89 [l0, l1, l2, l3, l4, l5] (.int (-10) :: st) h nx := D_bipush (ins_of mc_131 (pc := 87) (x := (.bipush (-10), 2)) (by decide +kernel)) (by decide)
theorem e_131_89 : Df d 131 89 [l0, l1, l2, l3, l4, l5] (.int y :: .int x :: st) h nx = if x = y then Df d 131 92 [l0, l1, l2, l3, l4, l5] st h nx else Df d 131 119 [l0, l1, l2, l3, l4, l5] st h nx := D_icmp_ne (ins_of mc_131 (pc := 89) (x := (.if_icmp .ne 30, 3)) (by decide +kernel)) (by decide)
theorem e_131_92 : Df d 131 92 [.ref a, l1, l2, l3, l4, l5] st h nx = Df d 131 93 [.ref a, l1, l2, l3, l4, l5] (.ref a :: st) h nx := D_aload_n (ins_of mc_131 (pc := 92) (x := (.aload_n 0, 1)) (by decide +kernel)) rfl
theorem e_131_93 : Df d 131 93 [l0, l1, l2, l3, l4, l5] (.ref a :: st) h nx = (gF h a 9 22).bind fun v => Df d 131 96 [l0, l1, l2, l3, l4, l5] (v :: st) h nx := D_getfield (ins_of mc_131 (pc := 93) (x := (.getfield 42, 3)) (by decide +kernel)) mo_131 (by decide +kernel)
theorem e_131_96 : Df d 131 96 [l0, l1, .int x, l3, l4, l5] st h nx = Df d 131 97 [l0, l1, .int x, l3, l4, l5] (.int x :: st) h nx := D_iload_n (ins_of mc_131 (pc := 96) (x := (.iload_n 2, 1)) (by decide +kernel)) rfl
theorem e_131_97 : Df d 131 97 [l0, l1, l2, l3, l4, l5] st h nx = Df d 131 98 [l0, l1, l2, l3, l4, l5] (.int 1 :: st) h nx := D_iconst (ins_of mc_131 (pc := 97) (x := (.iconst 1, 1)) (by decide +kernel)) (by decide)
theorem e_131_98 : Df d 131 98 [l0, l1, l2, l3, l4, l5] (.int y :: .int x :: st) h nx = Df d 131 99 [l0, l1, l2, l3, l4, l5] (.int (x - y) :: st) h nx := D_isub (ins_of mc_131 (pc := 98) (x := (.isub, 1)) (by decide +kernel))
theorem e_131_99 : Df d 131 99 [.ref a, l1, l2, l3, l4, l5] st h nx = Df d 131 100 [.ref a, l1, l2, l3, l4, l5] (.ref a :: st) h nx := D_aload_n (ins_of mc_131 (pc := 99) (x := (.aload_n 0, 1)) (by decide +kernel)) rfl
theorem e_131_100 : Df d 131 100 [l0, l1, l2, l3, l4, l5] (.ref a :: st) h nx = (gF h a 9 22).bind fun v => Df d 131 103 [l0, l1, l2, l3, l4, l5] (v :: st) h nx := D_getfield (ins_of mc_131 (pc := 100) (x := (.getfield 42, 3)) (by decide +kernel)) mo_131 (by decide +kernel)
theorem e_131_103 : Df d 131 103 [l0, l1, .int x, l3, l4, l5] st h nx = Df d 131 104 [l0, l1, .int x, l3, l4, l5] (.int x :: st) h nx := D_iload_n (ins_of mc_131 (pc := 103) (x := (.iload_n 2, 1)) (by decide +kernel)) rfl
theorem e_131_104 : Df d 131 104 [l0, l1, l2, l3, l4, l5] st h nx = Df d 131 105 [l0, l1, l2, l3, l4, l5] (.int 1 :: st) h nx := D_iconst (ins_of mc_131 (pc := 104) (x := (.iconst 1, 1)) (by decide +kernel)) (by decide)
theorem e_131_105 : Df d 131 105 [l0, l1, l2, l3, l4, l5] (.int y :: .int x :: st) h nx = Df d 131 106 [l0, l1, l2, l3, l4, l5] (.int (x - y) :: st) h nx := D_isub (ins_of mc_131 (pc := 105) (x := (.isub, 1)) (by decide +kernel))
theorem e_131_106 : Df d 131 106 [l0, l1, l2, l3, l4, l5] (.int x :: .ref a :: st) h nx = (rX h a x).bind fun v => Df d 131 107 [l0, l1, l2, l3, l4, l5] (.int v :: st) h nx := D_iaload (ins_of mc_131 (pc := 106) (x := (.iaload, 1)) (by decide +kernel))
theorem e_131_107 : Df d 131 107 [l0, l1, l2, l3, l4, l5] (.int x :: st) h nx = if x = 0 then Df d 131 110 [l0, l1, l2, l3, l4, l5] st h nx else Df d 131 114 [l0, l1, l2, l3, l4, l5] st h nx := D_if_ne (ins_of mc_131 (pc := 107) (x := (.ifCond .ne 7, 3)) (by decide +kernel)) (by decide)
theorem e_131_110 : Df d 131 110 [l0, l1, l2, l3, l4, l5] st h nx = Df d 131 111 [l0, l1, l2, l3, l4, l5] (.int 1 :: st) h nx := D_iconst (ins_of mc_131 (pc := 110) (x := (.iconst 1, 1)) (by decide +kernel)) (by decide)
theorem e_131_111 : Df d 131 111 [l0, l1, l2, l3, l4, l5] st h nx = Df d 131 115 [l0, l1, l2, l3, l4, l5] st h nx := D_goto (ins_of mc_131 (pc := 111) (x := (.goto 4, 3)) (by decide +kernel)) (by decide)
theorem e_131_114 : Df d 131 114 [l0, l1, l2, l3, l4, l5] st h nx = Df d 131 115 [l0, l1, l2, l3, l4, l5] (.int 0 :: st) h nx := D_iconst (ins_of mc_131 (pc := 114) (x := (.iconst 0, 1)) (by decide +kernel)) (by decide)
theorem e_131_115 : Df d 131 115 [l0, l1, l2, l3, l4, l5] (.int y :: .int x :: .ref a :: st) h nx = (wI h a x 0 y).bind fun h => Df d 131 116 [l0, l1, l2, l3, l4, l5] st h nx := D_iastore (ins_of mc_131 (pc := 115) (x := (.iastore, 1)) (by decide +kernel))
theorem e_131_116 : Df d 131 116 [l0, l1, l2, l3, l4, l5] st h nx = Df d 131 149 [l0, l1, l2, l3, l4, l5] st h nx := D_goto (ins_of mc_131 (pc := 116) (x := (.goto 33, 3)) (by decide +kernel)) (by decide)
theorem e_131_119 : Df d 131 119 [l0, l1, .int x, l3, l4, l5] st h nx = Df d 131 122 [l0, l1, .int (x + (-1)), l3, l4, l5] st h nx := D_iinc (ins_of mc_131 (pc := 119) (x := (.iinc 2 (-1), 3)) (by decide +kernel)) rfl (by decide) rfl
theorem e_131_122 : Df d 131 122 [.ref a, l1, l2, l3, l4, l5] st h nx = Df d 131 123 [.ref a, l1, l2, l3, l4, l5] (.ref a :: st) h nx := D_aload_n (ins_of mc_131 (pc := 122) (x := (.aload_n 0, 1)) (by decide +kernel)) rfl
theorem e_131_123 : Df d 131 123 [l0, l1, l2, l3, l4, l5] (.ref a :: st) h nx = (gF h a 9 22).bind fun v => Df d 131 126 [l0, l1, l2, l3, l4, l5] (v :: st) h nx := D_getfield (ins_of mc_131 (pc := 123) (x := (.getfield 42, 3)) (by decide +kernel)) mo_131 (by decide +kernel)
theorem e_131_126 : Df d 131 126 [l0, l1, .int x, l3, l4, l5] st h nx = Df d 131 127 [l0, l1, .int x, l3, l4, l5] (.int x :: st) h nx := D_iload_n (ins_of mc_131 (pc := 126) (x := (.iload_n 2, 1)) (by decide +kernel)) rfl
theorem e_131_127 : Df d 131 127 [l0, l1, l2, l3, l4, l5] st h nx = Df d 131 128 [l0, l1, l2, l3, l4, l5] (.int 1 :: st) h nx := D_iconst (ins_of mc_131 (pc := 127) (x := (.iconst 1, 1)) (by decide +kernel)) (by decide)
theorem e_131_128 : Df d 131 128 [l0, l1, l2, l3, l4, l5] (.int y :: .int x :: st) h nx = Df d 131 129 [l0, l1, l2, l3, l4, l5] (.int (x - y) :: st) h nx := D_isub (ins_of mc_131 (pc := 128) (x := (.isub, 1)) (by decide +kernel))
theorem e_131_129 : Df d 131 129 [l0, l1, l2, l3, l4, .int x] st h nx = Df d 131 131 [l0, l1, l2, l3, l4, .int x] (.int x :: st) h nx := D_iload (ins_of mc_131 (pc := 129) (x := (.iload 5, 2)) (by decide +kernel)) rfl
theorem e_131_131 : Df d 131 131 [.ref a, l1, l2, l3, l4, l5] st h nx = Df d 131 132 [.ref a, l1, l2, l3, l4, l5] (.ref a :: st) h nx := D_aload_n (ins_of mc_131 (pc := 131) (x := (.aload_n 0, 1)) (by decide +kernel)) rfl
theorem e_131_132 : Df d 131 132 [l0, l1, l2, l3, l4, l5] (.ref a :: st) h nx = (gF h a 9 22).bind fun v => Df d 131 135 [l0, l1, l2, l3, l4, l5] (v :: st) h nx := D_getfield (ins_of mc_131 (pc := 132) (x := (.getfield 42, 3)) (by decide +kernel)) mo_131 (by decide +kernel)
theorem e_131_135 : Df d 131 135 [l0, l1, .int x, l3, l4, l5] st h nx = Df d 131 136 [l0, l1, .int x, l3, l4, l5] (.int x :: st) h nx := D_iload_n (ins_of mc_131 (pc := 135) (x := (.iload_n 2, 1)) (by decide +kernel)) rfl
theorem e_131_136 : Df d 131 136 [l0, l1, l2, l3, l4, l5] st h nx = Df d 131 137 [l0, l1, l2, l3, l4, l5] (.int 1 :: st) h nx := D_iconst (ins_of mc_131 (pc := 136) (x := (.iconst 1, 1)) (by decide +kernel)) (by decide)
theorem e_131_137 : Df d 131 137 [l0, l1, l2, l3, l4, l5] (.int y :: .int x :: st) h nx = Df d 131 138 [l0, l1, l2, l3, l4, l5] (.int (x - y) :: st) h nx := D_isub (ins_of mc_131 (pc := 137) (x := (.isub, 1)) (by decide +kernel))
theorem e_131_138 : Df d 131 138 [l0, l1, l2, l3, l4, l5] (.int x :: .ref a :: st) h nx = (rX h a x).bind fun v => Df d 131 139 [l0, l1, l2, l3, l4, l5] (.int v :: st) h nx := D_iaload (ins_of mc_131 (pc := 138) (x := (.iaload, 1)) (by decide +kernel))
theorem e_131_139 : Df d 131 139 [.ref a, l1, l2, l3, l4, l5] st h nx = Df d 131 140 [.ref a, l1, l2, l3, l4, l5] (.ref a :: st) h nx := D_aload_n (ins_of mc_131 (pc := 139) (x := (.aload_n 0, 1)) (by decide +kernel)) rfl
theorem e_131_140 : Df d 131 140 [l0, l1, l2, l3, l4, l5] (.ref a :: st) h nx = (gF h a 9 22).bind fun v => Df d 131 143 [l0, l1, l2, l3, l4, l5] (v :: st) h nx := D_getfield (ins_of mc_131 (pc := 140) (x := (.getfield 42, 3)) (by decide +kernel)) mo_131 (by decide +kernel)
theorem e_131_143 : Df d 131 143 [l0, l1, .int x, l3, l4, l5] st h nx = Df d 131 144 [l0, l1, .int x, l3, l4, l5] (.int x :: st) h nx := D_iload_n (ins_of mc_131 (pc := 143) (x := (.iload_n 2, 1)) (by decide +kernel)) rfl
theorem e_131_144 : Df d 131 144 [l0, l1, l2, l3, l4, l5] (.int x :: .ref a :: st) h nx = (rX h a x).bind fun v => Df d 131 145 [l0, l1, l2, l3, l4, l5] (.int v :: st) h nx := D_iaload (ins_of mc_131 (pc := 144) (x := (.iaload, 1)) (by decide +kernel))
theorem e_131_145 : Df d 131 145 [l0, l1, l2, l3, l4, l5] [v2, v1, v0, s0, s1] h nx = cn d 131 148 [l0, l1, l2, l3, l4, l5] [s0, s1] (Dn d 132 [v0, v1, v2] h nx) := D_static (k1 := 132) (kd := 1) (ins_of mc_131 (pc := 145) (x := (.invokestatic 265, 3)) (by decide +kernel)) mo_131 (by decide +kernel) (by decide) rfl (Nat.le_of_ble_eq_true rfl) rfl (Nat.le_of_ble_eq_true rfl) rfl
theorem e_131_148 : Df d 131 148 [l0, l1, l2, l3, l4, l5] (.int y :: .int x :: .ref a :: st) h nx = (wI h a x 0 y).bind fun h => Df d 131 149 [l0, l1, l2, l3, l4, l5] st h nx := D_iastore (ins_of mc_131 (pc := 148) (x := (.iastore, 1)) (by decide +kernel))
theorem e_131_149 : Df d 131 149 [l0, l1, l2, l3, .int x, l5] st h nx = Df d 131 152 [l0, l1, l2, l3, .int (x + 1), l5] st h nx := D_iinc (ins_of mc_131 (pc := 149) (x := (.iinc 4 1, 3)) (by decide +kernel)) rfl (by decide) rfl
theorem e_131_152 : Df d 131 152 [l0, l1, l2, l3, l4, l5] st h nx = Df d 131 21 [l0, l1, l2, l3, l4, l5] st h nx := D_goto (ins_of mc_131 (pc := 152) (x := (.goto (-131), 3)) (by decide +kernel)) (by decide)
theorem e_131_155 : Df d 131 155 [.ref a, l1, l2, l3, l4, l5] st h nx = Df d 131 156 [.ref a, l1, l2, l3, l4, l5] (.ref a :: st) h nx := D_aload_n (ins_of mc_131 (pc := 155) (x := (.aload_n 0, 1)) (by decide +kernel)) rfl
theorem e_131_156 : Df d 131 156 [l0, l1, l2, l3, l4, l5] (.ref a :: st) h nx = (gF h a 9 22).bind fun v => Df d 131 159 [l0, l1, l2, l3, l4, l5] (v :: st) h nx := D_getfield (ins_of mc_131 (pc := 156) (x := (.getfield 42, 3)) (by decide +kernel)) mo_131 (by decide +kernel)
theorem e_131_159 : Df d 131 159 [l0, l1, l2, l3, l4, l5] st h nx = Df d 131 160 [l0, l1, l2, l3, l4, l5] (.int 0 :: st) h nx := D_iconst (ins_of mc_131 (pc := 159) (x := (.iconst 0, 1)) (by decide +kernel)) (by decide)
theorem e_131_160 : Df d 131 160 [l0, l1, l2, l3, l4, l5] (.int x :: .ref a :: st) h nx = (rX h a x).bind fun v => Df d 131 161 [l0, l1, l2, l3, l4, l5] (.int v :: st) h nx := D_iaload (ins_of mc_131 (pc := 160) (x := (.iaload, 1)) (by decide +kernel))
theorem e_131_161 : Df d 131 161 [l0, l1, l2, l3, l4, l5] [.int x] h nx = some (some (.int x), h, nx) := D_ireturn (ins_of mc_131 (pc := 161) (x := (.ireturn, 1)) (by decide +kernel)) mr_131
theorem mc_132 : mC 132 = prog_11_method_73_code := rfl
theorem mo_132 : mO 132 = 9 := rfl
theorem ml_132 : mL 132 = 3 := rfl
theorem mr_132 : mR 132 = (some .int) := rfl
theorem ma_132 : mA 132 = 3 := rfl
theorem e_132_0 : Df d 132 0 [.int x, l1, l2] st h nx = Df d 132 1 [.int x, l1, l2] (.int x :: st) h nx := D_iload_n (ins_of mc_132 (pc := 0) (x := (.iload_n 0, 1)) (by decide +kernel)) rfl
theorem e_132_1 : Df d 132 1 [l0, l1, l2] (.int x :: st) h nx = if x = (-8) then Df d 132 117 [l0, l1, l2] st h nx else if x = (-7) then Df d 132 113 [l0, l1, l2] st h nx else if x = (-6) then Df d 132 109 [l0, l1, l2] st h nx else if x = (-5) then Df d 132 98 [l0, l1, l2] st h nx else if x = (-4) then Df d 132 87 [l0, l1, l2] st h nx else if x = (-3) then Df d 132 76 [l0, l1, l2] st h nx else if x = (-2) then Df d 132 62 [l0, l1, l2] st h nx else if x = (-1) then Df d 132 48 [l0, l1, l2] st h nx else Df d 132 121 [l0, l1, l2] st h nx := by
  have hi := (ins_of mc_132 (pc := 1) (x := (.tableswitch 120 (-8) (-1) #[116, 112, 108, 97, 86, 75, 61, 47], 47)) (by decide +kernel))
  by_cases q0 : x = (-8)
  · subst q0
    rw [if_pos rfl]
    exact D_tswI (off := 116) hi (by decide) (by decide) (by decide)
  rw [if_neg q0]
  by_cases q1 : x = (-7)
  · subst q1
    rw [if_pos rfl]
    exact D_tswI (off := 112) hi (by decide) (by decide) (by decide)
  rw [if_neg q1]
  by_cases q2 : x = (-6)
  · subst q2
    rw [if_pos rfl]
    exact D_tswI (off := 108) hi (by decide) (by decide) (by decide)
  rw [if_neg q2]
  by_cases q3 : x = (-5)
  · subst q3
    rw [if_pos rfl]
    exact D_tswI (off := 97) hi (by decide) (by decide) (by decide)
  rw [if_neg q3]
  by_cases q4 : x = (-4)
  · subst q4
    rw [if_pos rfl]
    exact D_tswI (off := 86) hi (by decide) (by decide) (by decide)
  rw [if_neg q4]
  by_cases q5 : x = (-3)
  · subst q5
    rw [if_pos rfl]
    exact D_tswI (off := 75) hi (by decide) (by decide) (by decide)
  rw [if_neg q5]
  by_cases q6 : x = (-2)
  · subst q6
    rw [if_pos rfl]
    exact D_tswI (off := 61) hi (by decide) (by decide) (by decide)
  rw [if_neg q6]
  by_cases q7 : x = (-1)
  · subst q7
    rw [if_pos rfl]
    exact D_tswI (off := 47) hi (by decide) (by decide) (by decide)
  rw [if_neg q7]
  have r0 : x.toInt ≠ (-8) := fun z => q0 (Int32.toInt_inj.mp (z.trans (by decide)))
  have r1 : x.toInt ≠ (-7) := fun z => q1 (Int32.toInt_inj.mp (z.trans (by decide)))
  have r2 : x.toInt ≠ (-6) := fun z => q2 (Int32.toInt_inj.mp (z.trans (by decide)))
  have r3 : x.toInt ≠ (-5) := fun z => q3 (Int32.toInt_inj.mp (z.trans (by decide)))
  have r4 : x.toInt ≠ (-4) := fun z => q4 (Int32.toInt_inj.mp (z.trans (by decide)))
  have r5 : x.toInt ≠ (-3) := fun z => q5 (Int32.toInt_inj.mp (z.trans (by decide)))
  have r6 : x.toInt ≠ (-2) := fun z => q6 (Int32.toInt_inj.mp (z.trans (by decide)))
  have r7 : x.toInt ≠ (-1) := fun z => q7 (Int32.toInt_inj.mp (z.trans (by decide)))
  exact D_tswO hi (by omega) (by decide)
theorem e_132_48 : Df d 132 48 [l0, .int x, l2] st h nx = Df d 132 49 [l0, .int x, l2] (.int x :: st) h nx := D_iload_n (ins_of mc_132 (pc := 48) (x := (.iload_n 1, 1)) (by decide +kernel)) rfl
theorem e_132_49 : Df d 132 49 [l0, l1, l2] (.int x :: st) h nx = if x = 0 then Df d 132 52 [l0, l1, l2] st h nx else Df d 132 56 [l0, l1, l2] st h nx := D_if_ne (ins_of mc_132 (pc := 49) (x := (.ifCond .ne 7, 3)) (by decide +kernel)) (by decide)
theorem e_132_52 : Df d 132 52 [l0, l1, .int x] st h nx = Df d 132 53 [l0, l1, .int x] (.int x :: st) h nx := D_iload_n (ins_of mc_132 (pc := 52) (x := (.iload_n 2, 1)) (by decide +kernel)) rfl
theorem e_132_53 : Df d 132 53 [l0, l1, l2] (.int x :: st) h nx = if x = 0 then Df d 132 60 [l0, l1, l2] st h nx else Df d 132 56 [l0, l1, l2] st h nx := D_if_eq (ins_of mc_132 (pc := 53) (x := (.ifCond .eq 7, 3)) (by decide +kernel)) (by decide)
theorem e_132_56 : Df d 132 56 [l0, l1, l2] st h nx = Df d 132 57 [l0, l1, l2] (.int 1 :: st) h nx := D_iconst (ins_of mc_132 (pc := 56) (x := (.iconst 1, 1)) (by decide +kernel)) (by decide)
theorem e_132_57 : Df d 132 57 [l0, l1, l2] st h nx = Df d 132 61 [l0, l1, l2] st h nx := D_goto (ins_of mc_132 (pc := 57) (x := (.goto 4, 3)) (by decide +kernel)) (by decide)
theorem e_132_60 : Df d 132 60 [l0, l1, l2] st h nx = Df d 132 61 [l0, l1, l2] (.int 0 :: st) h nx := D_iconst (ins_of mc_132 (pc := 60) (x := (.iconst 0, 1)) (by decide +kernel)) (by decide)
theorem e_132_61 : Df d 132 61 [l0, l1, l2] [.int x] h nx = some (some (.int x), h, nx) := D_ireturn (ins_of mc_132 (pc := 61) (x := (.ireturn, 1)) (by decide +kernel)) mr_132
theorem e_132_62 : Df d 132 62 [l0, .int x, l2] st h nx = Df d 132 63 [l0, .int x, l2] (.int x :: st) h nx := D_iload_n (ins_of mc_132 (pc := 62) (x := (.iload_n 1, 1)) (by decide +kernel)) rfl
theorem e_132_63 : Df d 132 63 [l0, l1, l2] (.int x :: st) h nx = if x = 0 then Df d 132 74 [l0, l1, l2] st h nx else Df d 132 66 [l0, l1, l2] st h nx := D_if_eq (ins_of mc_132 (pc := 63) (x := (.ifCond .eq 11, 3)) (by decide +kernel)) (by decide)
theorem e_132_66 : Df d 132 66 [l0, l1, .int x] st h nx = Df d 132 67 [l0, l1, .int x] (.int x :: st) h nx := D_iload_n (ins_of mc_132 (pc := 66) (x := (.iload_n 2, 1)) (by decide +kernel)) rfl
theorem e_132_67 : Df d 132 67 [l0, l1, l2] (.int x :: st) h nx = if x = 0 then Df d 132 74 [l0, l1, l2] st h nx else Df d 132 70 [l0, l1, l2] st h nx := D_if_eq (ins_of mc_132 (pc := 67) (x := (.ifCond .eq 7, 3)) (by decide +kernel)) (by decide)
theorem e_132_70 : Df d 132 70 [l0, l1, l2] st h nx = Df d 132 71 [l0, l1, l2] (.int 1 :: st) h nx := D_iconst (ins_of mc_132 (pc := 70) (x := (.iconst 1, 1)) (by decide +kernel)) (by decide)
theorem e_132_71 : Df d 132 71 [l0, l1, l2] st h nx = Df d 132 75 [l0, l1, l2] st h nx := D_goto (ins_of mc_132 (pc := 71) (x := (.goto 4, 3)) (by decide +kernel)) (by decide)
theorem e_132_74 : Df d 132 74 [l0, l1, l2] st h nx = Df d 132 75 [l0, l1, l2] (.int 0 :: st) h nx := D_iconst (ins_of mc_132 (pc := 74) (x := (.iconst 0, 1)) (by decide +kernel)) (by decide)
theorem e_132_75 : Df d 132 75 [l0, l1, l2] [.int x] h nx = some (some (.int x), h, nx) := D_ireturn (ins_of mc_132 (pc := 75) (x := (.ireturn, 1)) (by decide +kernel)) mr_132
theorem e_132_76 : Df d 132 76 [l0, .int x, l2] st h nx = Df d 132 77 [l0, .int x, l2] (.int x :: st) h nx := D_iload_n (ins_of mc_132 (pc := 76) (x := (.iload_n 1, 1)) (by decide +kernel)) rfl
theorem e_132_77 : Df d 132 77 [l0, l1, .int x] st h nx = Df d 132 78 [l0, l1, .int x] (.int x :: st) h nx := D_iload_n (ins_of mc_132 (pc := 77) (x := (.iload_n 2, 1)) (by decide +kernel)) rfl
theorem e_132_78 : Df d 132 78 [l0, l1, l2] (.int y :: .int x :: st) h nx = if y ≤ x then Df d 132 85 [l0, l1, l2] st h nx else Df d 132 81 [l0, l1, l2] st h nx := D_icmp_ge (ins_of mc_132 (pc := 78) (x := (.if_icmp .ge 7, 3)) (by decide +kernel)) (by decide)
theorem e_132_81 : Df d 132 81 [l0, l1, l2] st h nx = Df d 132 82 [l0, l1, l2] (.int 1 :: st) h nx := D_iconst (ins_of mc_132 (pc := 81) (x := (.iconst 1, 1)) (by decide +kernel)) (by decide)
theorem e_132_82 : Df d 132 82 [l0, l1, l2] st h nx = Df d 132 86 [l0, l1, l2] st h nx := D_goto (ins_of mc_132 (pc := 82) (x := (.goto 4, 3)) (by decide +kernel)) (by decide)
theorem e_132_85 : Df d 132 85 [l0, l1, l2] st h nx = Df d 132 86 [l0, l1, l2] (.int 0 :: st) h nx := D_iconst (ins_of mc_132 (pc := 85) (x := (.iconst 0, 1)) (by decide +kernel)) (by decide)
theorem e_132_86 : Df d 132 86 [l0, l1, l2] [.int x] h nx = some (some (.int x), h, nx) := D_ireturn (ins_of mc_132 (pc := 86) (x := (.ireturn, 1)) (by decide +kernel)) mr_132
theorem e_132_87 : Df d 132 87 [l0, .int x, l2] st h nx = Df d 132 88 [l0, .int x, l2] (.int x :: st) h nx := D_iload_n (ins_of mc_132 (pc := 87) (x := (.iload_n 1, 1)) (by decide +kernel)) rfl
theorem e_132_88 : Df d 132 88 [l0, l1, .int x] st h nx = Df d 132 89 [l0, l1, .int x] (.int x :: st) h nx := D_iload_n (ins_of mc_132 (pc := 88) (x := (.iload_n 2, 1)) (by decide +kernel)) rfl
theorem e_132_89 : Df d 132 89 [l0, l1, l2] (.int y :: .int x :: st) h nx = if x = y then Df d 132 92 [l0, l1, l2] st h nx else Df d 132 96 [l0, l1, l2] st h nx := D_icmp_ne (ins_of mc_132 (pc := 89) (x := (.if_icmp .ne 7, 3)) (by decide +kernel)) (by decide)
theorem e_132_92 : Df d 132 92 [l0, l1, l2] st h nx = Df d 132 93 [l0, l1, l2] (.int 1 :: st) h nx := D_iconst (ins_of mc_132 (pc := 92) (x := (.iconst 1, 1)) (by decide +kernel)) (by decide)
theorem e_132_93 : Df d 132 93 [l0, l1, l2] st h nx = Df d 132 97 [l0, l1, l2] st h nx := D_goto (ins_of mc_132 (pc := 93) (x := (.goto 4, 3)) (by decide +kernel)) (by decide)
theorem e_132_96 : Df d 132 96 [l0, l1, l2] st h nx = Df d 132 97 [l0, l1, l2] (.int 0 :: st) h nx := D_iconst (ins_of mc_132 (pc := 96) (x := (.iconst 0, 1)) (by decide +kernel)) (by decide)
theorem e_132_97 : Df d 132 97 [l0, l1, l2] [.int x] h nx = some (some (.int x), h, nx) := D_ireturn (ins_of mc_132 (pc := 97) (x := (.ireturn, 1)) (by decide +kernel)) mr_132
theorem e_132_98 : Df d 132 98 [l0, .int x, l2] st h nx = Df d 132 99 [l0, .int x, l2] (.int x :: st) h nx := D_iload_n (ins_of mc_132 (pc := 98) (x := (.iload_n 1, 1)) (by decide +kernel)) rfl
theorem e_132_99 : Df d 132 99 [l0, l1, .int x] st h nx = Df d 132 100 [l0, l1, .int x] (.int x :: st) h nx := D_iload_n (ins_of mc_132 (pc := 99) (x := (.iload_n 2, 1)) (by decide +kernel)) rfl
theorem e_132_100 : Df d 132 100 [l0, l1, l2] (.int y :: .int x :: st) h nx = if x ≤ y then Df d 132 107 [l0, l1, l2] st h nx else Df d 132 103 [l0, l1, l2] st h nx := D_icmp_le (ins_of mc_132 (pc := 100) (x := (.if_icmp .le 7, 3)) (by decide +kernel)) (by decide)
theorem e_132_103 : Df d 132 103 [l0, l1, l2] st h nx = Df d 132 104 [l0, l1, l2] (.int 1 :: st) h nx := D_iconst (ins_of mc_132 (pc := 103) (x := (.iconst 1, 1)) (by decide +kernel)) (by decide)
theorem e_132_104 : Df d 132 104 [l0, l1, l2] st h nx = Df d 132 108 [l0, l1, l2] st h nx := D_goto (ins_of mc_132 (pc := 104) (x := (.goto 4, 3)) (by decide +kernel)) (by decide)
theorem e_132_107 : Df d 132 107 [l0, l1, l2] st h nx = Df d 132 108 [l0, l1, l2] (.int 0 :: st) h nx := D_iconst (ins_of mc_132 (pc := 107) (x := (.iconst 0, 1)) (by decide +kernel)) (by decide)
theorem e_132_108 : Df d 132 108 [l0, l1, l2] [.int x] h nx = some (some (.int x), h, nx) := D_ireturn (ins_of mc_132 (pc := 108) (x := (.ireturn, 1)) (by decide +kernel)) mr_132
theorem e_132_109 : Df d 132 109 [l0, .int x, l2] st h nx = Df d 132 110 [l0, .int x, l2] (.int x :: st) h nx := D_iload_n (ins_of mc_132 (pc := 109) (x := (.iload_n 1, 1)) (by decide +kernel)) rfl
theorem e_132_110 : Df d 132 110 [l0, l1, .int x] st h nx = Df d 132 111 [l0, l1, .int x] (.int x :: st) h nx := D_iload_n (ins_of mc_132 (pc := 110) (x := (.iload_n 2, 1)) (by decide +kernel)) rfl
theorem e_132_111 : Df d 132 111 [l0, l1, l2] (.int y :: .int x :: st) h nx = Df d 132 112 [l0, l1, l2] (.int (x + y) :: st) h nx := D_iadd (ins_of mc_132 (pc := 111) (x := (.iadd, 1)) (by decide +kernel))
theorem e_132_112 : Df d 132 112 [l0, l1, l2] [.int x] h nx = some (some (.int x), h, nx) := D_ireturn (ins_of mc_132 (pc := 112) (x := (.ireturn, 1)) (by decide +kernel)) mr_132
theorem e_132_113 : Df d 132 113 [l0, .int x, l2] st h nx = Df d 132 114 [l0, .int x, l2] (.int x :: st) h nx := D_iload_n (ins_of mc_132 (pc := 113) (x := (.iload_n 1, 1)) (by decide +kernel)) rfl
theorem e_132_114 : Df d 132 114 [l0, l1, .int x] st h nx = Df d 132 115 [l0, l1, .int x] (.int x :: st) h nx := D_iload_n (ins_of mc_132 (pc := 114) (x := (.iload_n 2, 1)) (by decide +kernel)) rfl
theorem e_132_115 : Df d 132 115 [l0, l1, l2] (.int y :: .int x :: st) h nx = Df d 132 116 [l0, l1, l2] (.int (x - y) :: st) h nx := D_isub (ins_of mc_132 (pc := 115) (x := (.isub, 1)) (by decide +kernel))
theorem e_132_116 : Df d 132 116 [l0, l1, l2] [.int x] h nx = some (some (.int x), h, nx) := D_ireturn (ins_of mc_132 (pc := 116) (x := (.ireturn, 1)) (by decide +kernel)) mr_132
theorem e_132_117 : Df d 132 117 [l0, .int x, l2] st h nx = Df d 132 118 [l0, .int x, l2] (.int x :: st) h nx := D_iload_n (ins_of mc_132 (pc := 117) (x := (.iload_n 1, 1)) (by decide +kernel)) rfl
theorem e_132_118 : Df d 132 118 [l0, l1, .int x] st h nx = Df d 132 119 [l0, l1, .int x] (.int x :: st) h nx := D_iload_n (ins_of mc_132 (pc := 118) (x := (.iload_n 2, 1)) (by decide +kernel)) rfl
theorem e_132_119 : Df d 132 119 [l0, l1, l2] (.int y :: .int x :: st) h nx = Df d 132 120 [l0, l1, l2] (.int (x * y) :: st) h nx := D_imul (ins_of mc_132 (pc := 119) (x := (.imul, 1)) (by decide +kernel))
theorem e_132_120 : Df d 132 120 [l0, l1, l2] [.int x] h nx = some (some (.int x), h, nx) := D_ireturn (ins_of mc_132 (pc := 120) (x := (.ireturn, 1)) (by decide +kernel)) mr_132
theorem e_132_121 : Df d 132 121 [l0, l1, .int x] st h nx = Df d 132 122 [l0, l1, .int x] (.int x :: st) h nx := D_iload_n (ins_of mc_132 (pc := 121) (x := (.iload_n 2, 1)) (by decide +kernel)) rfl
theorem e_132_122 : Df d 132 122 [l0, l1, l2] (.int x :: st) h nx = if x = 0 then Df d 132 125 [l0, l1, l2] st h nx else Df d 132 129 [l0, l1, l2] st h nx := D_if_ne (ins_of mc_132 (pc := 122) (x := (.ifCond .ne 7, 3)) (by decide +kernel)) (by decide)
theorem e_132_125 : Df d 132 125 [l0, l1, l2] st h nx = Df d 132 126 [l0, l1, l2] (.int 0 :: st) h nx := D_iconst (ins_of mc_132 (pc := 125) (x := (.iconst 0, 1)) (by decide +kernel)) (by decide)
theorem e_132_126 : Df d 132 126 [l0, l1, l2] st h nx = Df d 132 132 [l0, l1, l2] st h nx := D_goto (ins_of mc_132 (pc := 126) (x := (.goto 6, 3)) (by decide +kernel)) (by decide)
theorem e_132_129 : Df d 132 129 [l0, .int x, l2] st h nx = Df d 132 130 [l0, .int x, l2] (.int x :: st) h nx := D_iload_n (ins_of mc_132 (pc := 129) (x := (.iload_n 1, 1)) (by decide +kernel)) rfl
theorem e_132_130 : Df d 132 130 [l0, l1, .int x] st h nx = Df d 132 131 [l0, l1, .int x] (.int x :: st) h nx := D_iload_n (ins_of mc_132 (pc := 130) (x := (.iload_n 2, 1)) (by decide +kernel)) rfl
theorem e_132_131 : Df d 132 131 [l0, l1, l2] (.int y :: .int x :: st) h nx = if y = 0 then none else Df d 132 132 [l0, l1, l2] (.int (x / y) :: st) h nx := D_idiv (ins_of mc_132 (pc := 131) (x := (.idiv, 1)) (by decide +kernel))
theorem e_132_132 : Df d 132 132 [l0, l1, l2] [.int x] h nx = some (some (.int x), h, nx) := D_ireturn (ins_of mc_132 (pc := 132) (x := (.ireturn, 1)) (by decide +kernel)) mr_132
theorem mc_133 : mC 133 = prog_11_method_3_code := rfl
theorem mo_133 : mO 133 = 9 := rfl
theorem ml_133 : mL 133 = 3 := rfl
theorem mr_133 : mR 133 = (some .int) := rfl
theorem ma_133 : mA 133 = 3 := rfl
theorem e_133_0 : Df d 133 0 [.int x, l1, l2] st h nx = Df d 133 1 [.int x, l1, l2] (.int x :: st) h nx := D_iload_n (ins_of mc_133 (pc := 0) (x := (.iload_n 0, 1)) (by decide +kernel)) rfl
theorem e_133_1 : Df d 133 1 [l0, .int x, l2] st h nx = Df d 133 2 [l0, .int x, l2] (.int x :: st) h nx := D_iload_n (ins_of mc_133 (pc := 1) (x := (.iload_n 1, 1)) (by decide +kernel)) rfl
theorem e_133_2 : Df d 133 2 [l0, l1, l2] (.int y :: .int x :: st) h nx = if y ≤ x then Df d 133 9 [l0, l1, l2] st h nx else Df d 133 5 [l0, l1, l2] st h nx := D_icmp_ge (ins_of mc_133 (pc := 2) (x := (.if_icmp .ge 7, 3)) (by decide +kernel)) (by decide)
theorem e_133_5 : Df d 133 5 [l0, .int x, l2] st h nx = Df d 133 6 [l0, .int x, l2] (.int x :: st) h nx := D_iload_n (ins_of mc_133 (pc := 5) (x := (.iload_n 1, 1)) (by decide +kernel)) rfl
theorem e_133_6 : Df d 133 6 [l0, l1, l2] st h nx = Df d 133 19 [l0, l1, l2] st h nx := D_goto (ins_of mc_133 (pc := 6) (x := (.goto 13, 3)) (by decide +kernel)) (by decide)
theorem e_133_9 : Df d 133 9 [.int x, l1, l2] st h nx = Df d 133 10 [.int x, l1, l2] (.int x :: st) h nx := D_iload_n (ins_of mc_133 (pc := 9) (x := (.iload_n 0, 1)) (by decide +kernel)) rfl
theorem e_133_10 : Df d 133 10 [l0, l1, .int x] st h nx = Df d 133 11 [l0, l1, .int x] (.int x :: st) h nx := D_iload_n (ins_of mc_133 (pc := 10) (x := (.iload_n 2, 1)) (by decide +kernel)) rfl
theorem e_133_11 : Df d 133 11 [l0, l1, l2] (.int y :: .int x :: st) h nx = if x ≤ y then Df d 133 18 [l0, l1, l2] st h nx else Df d 133 14 [l0, l1, l2] st h nx := D_icmp_le (ins_of mc_133 (pc := 11) (x := (.if_icmp .le 7, 3)) (by decide +kernel)) (by decide)
theorem e_133_14 : Df d 133 14 [l0, l1, .int x] st h nx = Df d 133 15 [l0, l1, .int x] (.int x :: st) h nx := D_iload_n (ins_of mc_133 (pc := 14) (x := (.iload_n 2, 1)) (by decide +kernel)) rfl
theorem e_133_15 : Df d 133 15 [l0, l1, l2] st h nx = Df d 133 19 [l0, l1, l2] st h nx := D_goto (ins_of mc_133 (pc := 15) (x := (.goto 4, 3)) (by decide +kernel)) (by decide)
theorem e_133_18 : Df d 133 18 [.int x, l1, l2] st h nx = Df d 133 19 [.int x, l1, l2] (.int x :: st) h nx := D_iload_n (ins_of mc_133 (pc := 18) (x := (.iload_n 0, 1)) (by decide +kernel)) rfl
theorem e_133_19 : Df d 133 19 [l0, l1, l2] [.int x] h nx = some (some (.int x), h, nx) := D_ireturn (ins_of mc_133 (pc := 19) (x := (.ireturn, 1)) (by decide +kernel)) mr_133
theorem mc_134 : mC 134 = prog_11_method_15_code := rfl
theorem mo_134 : mO 134 = 9 := rfl
theorem ml_134 : mL 134 = 2 := rfl
theorem mr_134 : mR 134 = (some .int) := rfl
theorem ma_134 : mA 134 = 1 := rfl
theorem e_134_0 : Df d 134 0 [.ref a, l1] st h nx = Df d 134 1 [.ref a, l1] (.ref a :: st) h nx := D_aload_n (ins_of mc_134 (pc := 0) (x := (.aload_n 0, 1)) (by decide +kernel)) rfl
theorem e_134_1 : Df d 134 1 [l0, .int x] st h nx = Df d 134 2 [l0, .int x] (.int x :: st) h nx := D_iload_n (ins_of mc_134 (pc := 1) (x := (.iload_n 1, 1)) (by decide +kernel)) rfl
theorem e_134_2 : Df d 134 2 [l0, l1] st h nx = Df d 134 3 [l0, l1] (.int 0 :: st) h nx := D_iconst (ins_of mc_134 (pc := 2) (x := (.iconst 0, 1)) (by decide +kernel)) (by decide)
theorem e_134_3 : Df d 134 3 [l0, l1] [v1, v0, .ref a] h nx = if ck h a 9 = true then cn d 134 6 [l0, l1] [] (Dn d 128 [.ref a, v0, v1] h nx) else none := D_virtual (k1 := 128) (ins_of mc_134 (pc := 3) (x := (.invokevirtual 80, 3)) (by decide +kernel)) mo_134 (by decide +kernel) (by decide) rfl rfl (by decide) rfl (Nat.le_of_ble_eq_true rfl) rfl
theorem e_134_6 : Df d 134 6 [l0, l1] (.int x :: st) h nx = if x = 1 then Df d 134 40 [l0, l1] st h nx else if x = 2 then Df d 134 42 [l0, l1] st h nx else if x = 3 then Df d 134 40 [l0, l1] st h nx else if x = 4 then Df d 134 45 [l0, l1] st h nx else if x = 5 then Df d 134 48 [l0, l1] st h nx else Df d 134 51 [l0, l1] st h nx := by
  have hi := (ins_of mc_134 (pc := 6) (x := (.tableswitch 45 1 5 #[34, 36, 34, 39, 42], 34)) (by decide +kernel))
  by_cases q0 : x = 1
  · subst q0
    rw [if_pos rfl]
    exact D_tswI (off := 34) hi (by decide) (by decide) (by decide)
  rw [if_neg q0]
  by_cases q1 : x = 2
  · subst q1
    rw [if_pos rfl]
    exact D_tswI (off := 36) hi (by decide) (by decide) (by decide)
  rw [if_neg q1]
  by_cases q2 : x = 3
  · subst q2
    rw [if_pos rfl]
    exact D_tswI (off := 34) hi (by decide) (by decide) (by decide)
  rw [if_neg q2]
  by_cases q3 : x = 4
  · subst q3
    rw [if_pos rfl]
    exact D_tswI (off := 39) hi (by decide) (by decide) (by decide)
  rw [if_neg q3]
  by_cases q4 : x = 5
  · subst q4
    rw [if_pos rfl]
    exact D_tswI (off := 42) hi (by decide) (by decide) (by decide)
  rw [if_neg q4]
  have r0 : x.toInt ≠ 1 := fun z => q0 (Int32.toInt_inj.mp (z.trans (by decide)))
  have r1 : x.toInt ≠ 2 := fun z => q1 (Int32.toInt_inj.mp (z.trans (by decide)))
  have r2 : x.toInt ≠ 3 := fun z => q2 (Int32.toInt_inj.mp (z.trans (by decide)))
  have r3 : x.toInt ≠ 4 := fun z => q3 (Int32.toInt_inj.mp (z.trans (by decide)))
  have r4 : x.toInt ≠ 5 := fun z => q4 (Int32.toInt_inj.mp (z.trans (by decide)))
  exact D_tswO hi (by omega) (by decide)
theorem e_134_40 : Df d 134 40 [l0, l1] st h nx = Df d 134 41 [l0, l1] (.int 4 :: st) h nx := D_iconst (ins_of mc_134 (pc := 40) (x := (.iconst 4, 1)) (by decide +kernel)) (by decide)
theorem e_134_41 : Df d 134 41 [l0, l1] [.int x] h nx = some (some (.int x), h, nx) := D_ireturn (ins_of mc_134 (pc := 41) (x := (.ireturn, 1)) (by decide +kernel)) mr_134
theorem e_134_42 : Df d 134 42 [l0, l1] st h nx = Df d 134 44 [l0, l1] (.int 6 :: st) h nx := D_bipush (ins_of mc_134 (pc := 42) (x := (.bipush 6, 2)) (by decide +kernel)) (by decide)
theorem e_134_44 : Df d 134 44 [l0, l1] [.int x] h nx = some (some (.int x), h, nx) := D_ireturn (ins_of mc_134 (pc := 44) (x := (.ireturn, 1)) (by decide +kernel)) mr_134
theorem e_134_45 : Df d 134 45 [l0, l1] st h nx = Df d 134 47 [l0, l1] (.int 7 :: st) h nx := D_bipush (ins_of mc_134 (pc := 45) (x := (.bipush 7, 2)) (by decide +kernel)) (by decide)
theorem e_134_47 : Df d 134 47 [l0, l1] [.int x] h nx = some (some (.int x), h, nx) := D_ireturn (ins_of mc_134 (pc := 47) (x := (.ireturn, 1)) (by decide +kernel)) mr_134
theorem e_134_48 : Df d 134 48 [l0, l1] st h nx = Df d 134 50 [l0, l1] (.int 9 :: st) h nx := D_bipush (ins_of mc_134 (pc := 48) (x := (.bipush 9, 2)) (by decide +kernel)) (by decide)
theorem e_134_50 : Df d 134 50 [l0, l1] [.int x] h nx = some (some (.int x), h, nx) := D_ireturn (ins_of mc_134 (pc := 50) (x := (.ireturn, 1)) (by decide +kernel)) mr_134
theorem e_134_51 : Df d 134 51 [l0, l1] st h nx = Df d 134 52 [l0, l1] (.int 5 :: st) h nx := D_iconst (ins_of mc_134 (pc := 51) (x := (.iconst 5, 1)) (by decide +kernel)) (by decide)
theorem e_134_52 : Df d 134 52 [l0, l1] [.int x] h nx = some (some (.int x), h, nx) := D_ireturn (ins_of mc_134 (pc := 52) (x := (.ireturn, 1)) (by decide +kernel)) mr_134
theorem mc_135 : mC 135 = prog_11_method_18_code := rfl
theorem mo_135 : mO 135 = 9 := rfl
theorem ml_135 : mL 135 = 2 := rfl
theorem mr_135 : mR 135 = (some .int) := rfl
theorem ma_135 : mA 135 = 1 := rfl
theorem e_135_0 : Df d 135 0 [.ref a, l1] st h nx = Df d 135 1 [.ref a, l1] (.ref a :: st) h nx := D_aload_n (ins_of mc_135 (pc := 0) (x := (.aload_n 0, 1)) (by decide +kernel)) rfl
theorem e_135_1 : Df d 135 1 [l0, .int x] st h nx = Df d 135 2 [l0, .int x] (.int x :: st) h nx := D_iload_n (ins_of mc_135 (pc := 1) (x := (.iload_n 1, 1)) (by decide +kernel)) rfl
theorem e_135_2 : Df d 135 2 [l0, l1] st h nx = Df d 135 3 [l0, l1] (.int 0 :: st) h nx := D_iconst (ins_of mc_135 (pc := 2) (x := (.iconst 0, 1)) (by decide +kernel)) (by decide)
theorem e_135_3 : Df d 135 3 [l0, l1] [v1, v0, .ref a] h nx = if ck h a 9 = true then cn d 135 6 [l0, l1] [] (Dn d 128 [.ref a, v0, v1] h nx) else none := D_virtual (k1 := 128) (ins_of mc_135 (pc := 3) (x := (.invokevirtual 80, 3)) (by decide +kernel)) mo_135 (by decide +kernel) (by decide) rfl rfl (by decide) rfl (Nat.le_of_ble_eq_true rfl) rfl
theorem e_135_6 : Df d 135 6 [l0, l1] (.int x :: st) h nx = if x = 3 then Df d 135 32 [l0, l1] st h nx else if x = 4 then Df d 135 56 [l0, l1] st h nx else if x = 5 then Df d 135 63 [l0, l1] st h nx else Df d 135 65 [l0, l1] st h nx := by
  have hi := (ins_of mc_135 (pc := 6) (x := (.tableswitch 59 3 5 #[26, 50, 57], 26)) (by decide +kernel))
  by_cases q0 : x = 3
  · subst q0
    rw [if_pos rfl]
    exact D_tswI (off := 26) hi (by decide) (by decide) (by decide)
  rw [if_neg q0]
  by_cases q1 : x = 4
  · subst q1
    rw [if_pos rfl]
    exact D_tswI (off := 50) hi (by decide) (by decide) (by decide)
  rw [if_neg q1]
  by_cases q2 : x = 5
  · subst q2
    rw [if_pos rfl]
    exact D_tswI (off := 57) hi (by decide) (by decide) (by decide)
  rw [if_neg q2]
  have r0 : x.toInt ≠ 3 := fun z => q0 (Int32.toInt_inj.mp (z.trans (by decide)))
  have r1 : x.toInt ≠ 4 := fun z => q1 (Int32.toInt_inj.mp (z.trans (by decide)))
  have r2 : x.toInt ≠ 5 := fun z => q2 (Int32.toInt_inj.mp (z.trans (by decide)))
  exact D_tswO hi (by omega) (by decide)
theorem e_135_32 : Df d 135 32 [.ref a, l1] st h nx = Df d 135 33 [.ref a, l1] (.ref a :: st) h nx := D_aload_n (ins_of mc_135 (pc := 32) (x := (.aload_n 0, 1)) (by decide +kernel)) rfl
theorem e_135_33 : Df d 135 33 [l0, .int x] st h nx = Df d 135 34 [l0, .int x] (.int x :: st) h nx := D_iload_n (ins_of mc_135 (pc := 33) (x := (.iload_n 1, 1)) (by decide +kernel)) rfl
theorem e_135_34 : Df d 135 34 [l0, l1] st h nx = Df d 135 35 [l0, l1] (.int 3 :: st) h nx := D_iconst (ins_of mc_135 (pc := 34) (x := (.iconst 3, 1)) (by decide +kernel)) (by decide)
theorem e_135_35 : Df d 135 35 [l0, l1] [v1, v0, .ref a] h nx = if ck h a 9 = true then cn d 135 38 [l0, l1] [] (Dn d 128 [.ref a, v0, v1] h nx) else none := D_virtual (k1 := 128) (ins_of mc_135 (pc := 35) (x := (.invokevirtual 80, 3)) (by decide +kernel)) mo_135 (by decide +kernel) (by decide) rfl rfl (by decide) rfl (Nat.le_of_ble_eq_true rfl) rfl
theorem e_135_38 : Df d 135 38 [l0, l1] st h nx = Df d 135 40 [l0, l1] (.int 24 :: st) h nx := D_bipush (ins_of mc_135 (pc := 38) (x := (.bipush 24, 2)) (by decide +kernel)) (by decide)
theorem e_135_40 : Df d 135 40 [l0, l1] (.int y :: .int x :: st) h nx = if x = y then Df d 135 43 [l0, l1] st h nx else Df d 135 50 [l0, l1] st h nx := D_icmp_ne (ins_of mc_135 (pc := 40) (x := (.if_icmp .ne 10, 3)) (by decide +kernel)) (by decide)
theorem e_135_43 : Df d 135 43 [.ref a, l1] st h nx = Df d 135 44 [.ref a, l1] (.ref a :: st) h nx := D_aload_n (ins_of mc_135 (pc := 43) (x := (.aload_n 0, 1)) (by decide +kernel)) rfl
theorem e_135_44 : Df d 135 44 [l0, l1] [.ref a] h nx = if ck h a 9 = true then cn d 135 47 [l0, l1] [] (Dn d 136 [.ref a] h nx) else none := D_virtual (k1 := 136) (ins_of mc_135 (pc := 44) (x := (.invokevirtual 104, 3)) (by decide +kernel)) mo_135 (by decide +kernel) (by decide) rfl rfl (by decide) rfl (Nat.le_of_ble_eq_true rfl) rfl
theorem e_135_47 : Df d 135 47 [l0, l1] st h nx = Df d 135 55 [l0, l1] st h nx := D_goto (ins_of mc_135 (pc := 47) (x := (.goto 8, 3)) (by decide +kernel)) (by decide)
theorem e_135_50 : Df d 135 50 [.ref a, l1] st h nx = Df d 135 51 [.ref a, l1] (.ref a :: st) h nx := D_aload_n (ins_of mc_135 (pc := 50) (x := (.aload_n 0, 1)) (by decide +kernel)) rfl
theorem e_135_51 : Df d 135 51 [l0, .int x] st h nx = Df d 135 52 [l0, .int x] (.int x :: st) h nx := D_iload_n (ins_of mc_135 (pc := 51) (x := (.iload_n 1, 1)) (by decide +kernel)) rfl
theorem e_135_52 : Df d 135 52 [l0, l1] [v0, .ref a] h nx = if ck h a 9 = true then cn d 135 55 [l0, l1] [] (Dn d 137 [.ref a, v0] h nx) else none := D_virtual (k1 := 137) (ins_of mc_135 (pc := 52) (x := (.invokevirtual 108, 3)) (by decide +kernel)) mo_135 (by decide +kernel) (by decide) rfl rfl (by decide) rfl (Nat.le_of_ble_eq_true rfl) rfl
theorem e_135_55 : Df d 135 55 [l0, l1] [.int x] h nx = some (some (.int x), h, nx) := D_ireturn (ins_of mc_135 (pc := 55) (x := (.ireturn, 1)) (by decide +kernel)) mr_135
theorem e_135_56 : Df d 135 56 [.ref a, l1] st h nx = Df d 135 57 [.ref a, l1] (.ref a :: st) h nx := D_aload_n (ins_of mc_135 (pc := 56) (x := (.aload_n 0, 1)) (by decide +kernel)) rfl
theorem e_135_57 : Df d 135 57 [l0, .int x] st h nx = Df d 135 58 [l0, .int x] (.int x :: st) h nx := D_iload_n (ins_of mc_135 (pc := 57) (x := (.iload_n 1, 1)) (by decide +kernel)) rfl
theorem e_135_58 : Df d 135 58 [l0, l1] [v0, .ref a] h nx = if ck h a 9 = true then cn d 135 61 [l0, l1] [] (Dn d 137 [.ref a, v0] h nx) else none := D_virtual (k1 := 137) (ins_of mc_135 (pc := 58) (x := (.invokevirtual 108, 3)) (by decide +kernel)) mo_135 (by decide +kernel) (by decide) rfl rfl (by decide) rfl (Nat.le_of_ble_eq_true rfl) rfl
theorem e_135_61 : Df d 135 61 [l0, l1] (.int x :: st) h nx = Df d 135 62 [l0, l1] (.int (-x) :: st) h nx := D_ineg (ins_of mc_135 (pc := 61) (x := (.ineg, 1)) (by decide +kernel))
theorem e_135_62 : Df d 135 62 [l0, l1] [.int x] h nx = some (some (.int x), h, nx) := D_ireturn (ins_of mc_135 (pc := 62) (x := (.ireturn, 1)) (by decide +kernel)) mr_135
theorem e_135_63 : Df d 135 63 [l0, l1] st h nx = Df d 135 64 [l0, l1] (.int 1 :: st) h nx := D_iconst (ins_of mc_135 (pc := 63) (x := (.iconst 1, 1)) (by decide +kernel)) (by decide)
theorem e_135_64 : Df d 135 64 [l0, l1] [.int x] h nx = some (some (.int x), h, nx) := D_ireturn (ins_of mc_135 (pc := 64) (x := (.ireturn, 1)) (by decide +kernel)) mr_135
theorem e_135_65 : Df d 135 65 [.ref a, l1] st h nx = Df d 135 66 [.ref a, l1] (.ref a :: st) h nx := D_aload_n (ins_of mc_135 (pc := 65) (x := (.aload_n 0, 1)) (by decide +kernel)) rfl
theorem e_135_66 : Df d 135 66 [l0, .int x] st h nx = Df d 135 67 [l0, .int x] (.int x :: st) h nx := D_iload_n (ins_of mc_135 (pc := 66) (x := (.iload_n 1, 1)) (by decide +kernel)) rfl
theorem e_135_67 : Df d 135 67 [l0, l1] [v0, .ref a] h nx = if ck h a 9 = true then cn d 135 70 [l0, l1] [] (Dn d 137 [.ref a, v0] h nx) else none := D_virtual (k1 := 137) (ins_of mc_135 (pc := 67) (x := (.invokevirtual 108, 3)) (by decide +kernel)) mo_135 (by decide +kernel) (by decide) rfl rfl (by decide) rfl (Nat.le_of_ble_eq_true rfl) rfl
theorem e_135_70 : Df d 135 70 [l0, l1] [.int x] h nx = some (some (.int x), h, nx) := D_ireturn (ins_of mc_135 (pc := 70) (x := (.ireturn, 1)) (by decide +kernel)) mr_135
theorem mc_136 : mC 136 = prog_11_method_16_code := rfl
theorem mo_136 : mO 136 = 9 := rfl
theorem ml_136 : mL 136 = 3 := rfl
theorem mr_136 : mR 136 = (some .int) := rfl
theorem ma_136 : mA 136 = 0 := rfl
theorem e_136_0 : Df d 136 0 [.ref a, l1, l2] st h nx = Df d 136 1 [.ref a, l1, l2] (.ref a :: st) h nx := D_aload_n (ins_of mc_136 (pc := 0) (x := (.aload_n 0, 1)) (by decide +kernel)) rfl
theorem e_136_1 : Df d 136 1 [l0, l1, l2] (.ref a :: st) h nx = (gF h a 9 0).bind fun v => Df d 136 4 [l0, l1, l2] (v :: st) h nx := D_getfield (ins_of mc_136 (pc := 1) (x := (.getfield 9, 3)) (by decide +kernel)) mo_136 (by decide +kernel)
theorem e_136_4 : Df d 136 4 [l0, l1, l2] st h nx = Df d 136 6 [l0, l1, l2] (.int 7 :: st) h nx := D_bipush (ins_of mc_136 (pc := 4) (x := (.bipush 7, 2)) (by decide +kernel)) (by decide)
theorem e_136_6 : Df d 136 6 [l0, l1, l2] (.int x :: .ref a :: st) h nx = (rX h a x).bind fun v => Df d 136 7 [l0, l1, l2] (.int v :: st) h nx := D_iaload (ins_of mc_136 (pc := 6) (x := (.iaload, 1)) (by decide +kernel))
theorem e_136_7 (hn : nr l1 = true) : Df d 136 7 [l0, l1, l2] (.int x :: st) h nx = Df d 136 8 [l0, .int x, l2] st h nx := D_istore_n (ins_of mc_136 (pc := 7) (x := (.istore_n 1, 1)) (by decide +kernel)) rfl hn rfl
theorem e_136_8 : Df d 136 8 [l0, l1, l2] st h nx = Df d 136 9 [l0, l1, l2] (.int 0 :: st) h nx := D_iconst (ins_of mc_136 (pc := 8) (x := (.iconst 0, 1)) (by decide +kernel)) (by decide)
theorem e_136_9 (hn : nr l2 = true) : Df d 136 9 [l0, l1, l2] (.int x :: st) h nx = Df d 136 10 [l0, l1, .int x] st h nx := D_istore_n (ins_of mc_136 (pc := 9) (x := (.istore_n 2, 1)) (by decide +kernel)) rfl hn rfl
theorem e_136_10 : Df d 136 10 [l0, l1, .int x] st h nx = Df d 136 11 [l0, l1, .int x] (.int x :: st) h nx := D_iload_n (ins_of mc_136 (pc := 10) (x := (.iload_n 2, 1)) (by decide +kernel)) rfl
theorem e_136_11 : Df d 136 11 [l0, l1, l2] st h nx = Df d 136 13 [l0, l1, l2] (.int 12 :: st) h nx := D_bipush (ins_of mc_136 (pc := 11) (x := (.bipush 12, 2)) (by decide +kernel)) (by decide)
theorem e_136_13 : Df d 136 13 [l0, l1, l2] (.int y :: .int x :: st) h nx = if y < x then Df d 136 71 [l0, l1, l2] st h nx else Df d 136 16 [l0, l1, l2] st h nx := D_icmp_gt (ins_of mc_136 (pc := 13) (x := (.if_icmp .gt 58, 3)) (by decide +kernel)) (by decide)
theorem e_136_16 : Df d 136 16 [.ref a, l1, l2] st h nx = Df d 136 17 [.ref a, l1, l2] (.ref a :: st) h nx := D_aload_n (ins_of mc_136 (pc := 16) (x := (.aload_n 0, 1)) (by decide +kernel)) rfl
theorem e_136_17 : Df d 136 17 [l0, l1, l2] (.ref a :: st) h nx = (gF h a 9 0).bind fun v => Df d 136 20 [l0, l1, l2] (v :: st) h nx := D_getfield (ins_of mc_136 (pc := 17) (x := (.getfield 9, 3)) (by decide +kernel)) mo_136 (by decide +kernel)
theorem e_136_20 : Df d 136 20 [l0, l1, l2] st h nx = Df d 136 22 [l0, l1, l2] (.int 11 :: st) h nx := D_bipush (ins_of mc_136 (pc := 20) (x := (.bipush 11, 2)) (by decide +kernel)) (by decide)
theorem e_136_22 : Df d 136 22 [l0, .int x, l2] st h nx = Df d 136 23 [l0, .int x, l2] (.int x :: st) h nx := D_iload_n (ins_of mc_136 (pc := 22) (x := (.iload_n 1, 1)) (by decide +kernel)) rfl
theorem e_136_23 : Df d 136 23 [l0, l1, .int x] st h nx = Df d 136 24 [l0, l1, .int x] (.int x :: st) h nx := D_iload_n (ins_of mc_136 (pc := 23) (x := (.iload_n 2, 1)) (by decide +kernel)) rfl
theorem e_136_24 : Df d 136 24 [l0, l1, l2] (.int y :: .int x :: st) h nx = Df d 136 25 [l0, l1, l2] (.int (x + y) :: st) h nx := D_iadd (ins_of mc_136 (pc := 24) (x := (.iadd, 1)) (by decide +kernel))
theorem e_136_25 : Df d 136 25 [l0, l1, l2] st h nx = Df d 136 27 [l0, l1, l2] (.int 24 :: st) h nx := D_bipush (ins_of mc_136 (pc := 25) (x := (.bipush 24, 2)) (by decide +kernel)) (by decide)
theorem e_136_27 : Df d 136 27 [l0, l1, l2] (.int y :: .int x :: st) h nx = if y = 0 then none else Df d 136 28 [l0, l1, l2] (.int (x - x / y * y) :: st) h nx := D_irem (ins_of mc_136 (pc := 27) (x := (.irem, 1)) (by decide +kernel))
theorem e_136_28 : Df d 136 28 [l0, l1, l2] (.int y :: .int x :: st) h nx = Df d 136 29 [l0, l1, l2] (.int (x + y) :: st) h nx := D_iadd (ins_of mc_136 (pc := 28) (x := (.iadd, 1)) (by decide +kernel))
theorem e_136_29 : Df d 136 29 [l0, l1, l2] (.int x :: .ref a :: st) h nx = (rX h a x).bind fun v => Df d 136 30 [l0, l1, l2] (.int v :: st) h nx := D_iaload (ins_of mc_136 (pc := 29) (x := (.iaload, 1)) (by decide +kernel))
theorem e_136_30 : Df d 136 30 [l0, l1, l2] (.int x :: st) h nx = if x ≤ 0 then Df d 136 43 [l0, l1, l2] st h nx else Df d 136 33 [l0, l1, l2] st h nx := D_if_le (ins_of mc_136 (pc := 30) (x := (.ifCond .le 13, 3)) (by decide +kernel)) (by decide)
theorem e_136_33 : Df d 136 33 [l0, l1, .int x] st h nx = Df d 136 34 [l0, l1, .int x] (.int x :: st) h nx := D_iload_n (ins_of mc_136 (pc := 33) (x := (.iload_n 2, 1)) (by decide +kernel)) rfl
theorem e_136_34 : Df d 136 34 [l0, l1, l2] (.int x :: st) h nx = if x = 0 then Df d 136 37 [l0, l1, l2] st h nx else Df d 136 41 [l0, l1, l2] st h nx := D_if_ne (ins_of mc_136 (pc := 34) (x := (.ifCond .ne 7, 3)) (by decide +kernel)) (by decide)
theorem e_136_37 : Df d 136 37 [l0, l1, l2] st h nx = Df d 136 38 [l0, l1, l2] (.int 0 :: st) h nx := D_iconst (ins_of mc_136 (pc := 37) (x := (.iconst 0, 1)) (by decide +kernel)) (by decide)
theorem e_136_38 : Df d 136 38 [l0, l1, l2] st h nx = Df d 136 42 [l0, l1, l2] st h nx := D_goto (ins_of mc_136 (pc := 38) (x := (.goto 4, 3)) (by decide +kernel)) (by decide)
theorem e_136_41 : Df d 136 41 [l0, l1, l2] st h nx = Df d 136 42 [l0, l1, l2] (.int 1 :: st) h nx := D_iconst (ins_of mc_136 (pc := 41) (x := (.iconst 1, 1)) (by decide +kernel)) (by decide)
theorem e_136_42 : Df d 136 42 [l0, l1, l2] [.int x] h nx = some (some (.int x), h, nx) := D_ireturn (ins_of mc_136 (pc := 42) (x := (.ireturn, 1)) (by decide +kernel)) mr_136
theorem e_136_43 : Df d 136 43 [.ref a, l1, l2] st h nx = Df d 136 44 [.ref a, l1, l2] (.ref a :: st) h nx := D_aload_n (ins_of mc_136 (pc := 43) (x := (.aload_n 0, 1)) (by decide +kernel)) rfl
theorem e_136_44 : Df d 136 44 [l0, l1, l2] (.ref a :: st) h nx = (gF h a 9 0).bind fun v => Df d 136 47 [l0, l1, l2] (v :: st) h nx := D_getfield (ins_of mc_136 (pc := 44) (x := (.getfield 9, 3)) (by decide +kernel)) mo_136 (by decide +kernel)
theorem e_136_47 : Df d 136 47 [l0, l1, l2] st h nx = Df d 136 49 [l0, l1, l2] (.int 11 :: st) h nx := D_bipush (ins_of mc_136 (pc := 47) (x := (.bipush 11, 2)) (by decide +kernel)) (by decide)
theorem e_136_49 : Df d 136 49 [l0, .int x, l2] st h nx = Df d 136 50 [l0, .int x, l2] (.int x :: st) h nx := D_iload_n (ins_of mc_136 (pc := 49) (x := (.iload_n 1, 1)) (by decide +kernel)) rfl
theorem e_136_50 : Df d 136 50 [l0, l1, l2] st h nx = Df d 136 52 [l0, l1, l2] (.int 24 :: st) h nx := D_bipush (ins_of mc_136 (pc := 50) (x := (.bipush 24, 2)) (by decide +kernel)) (by decide)
theorem e_136_52 : Df d 136 52 [l0, l1, l2] (.int y :: .int x :: st) h nx = Df d 136 53 [l0, l1, l2] (.int (x + y) :: st) h nx := D_iadd (ins_of mc_136 (pc := 52) (x := (.iadd, 1)) (by decide +kernel))
theorem e_136_53 : Df d 136 53 [l0, l1, .int x] st h nx = Df d 136 54 [l0, l1, .int x] (.int x :: st) h nx := D_iload_n (ins_of mc_136 (pc := 53) (x := (.iload_n 2, 1)) (by decide +kernel)) rfl
theorem e_136_54 : Df d 136 54 [l0, l1, l2] (.int y :: .int x :: st) h nx = Df d 136 55 [l0, l1, l2] (.int (x - y) :: st) h nx := D_isub (ins_of mc_136 (pc := 54) (x := (.isub, 1)) (by decide +kernel))
theorem e_136_55 : Df d 136 55 [l0, l1, l2] st h nx = Df d 136 57 [l0, l1, l2] (.int 24 :: st) h nx := D_bipush (ins_of mc_136 (pc := 55) (x := (.bipush 24, 2)) (by decide +kernel)) (by decide)
theorem e_136_57 : Df d 136 57 [l0, l1, l2] (.int y :: .int x :: st) h nx = if y = 0 then none else Df d 136 58 [l0, l1, l2] (.int (x - x / y * y) :: st) h nx := D_irem (ins_of mc_136 (pc := 57) (x := (.irem, 1)) (by decide +kernel))
theorem e_136_58 : Df d 136 58 [l0, l1, l2] (.int y :: .int x :: st) h nx = Df d 136 59 [l0, l1, l2] (.int (x + y) :: st) h nx := D_iadd (ins_of mc_136 (pc := 58) (x := (.iadd, 1)) (by decide +kernel))
theorem e_136_59 : Df d 136 59 [l0, l1, l2] (.int x :: .ref a :: st) h nx = (rX h a x).bind fun v => Df d 136 60 [l0, l1, l2] (.int v :: st) h nx := D_iaload (ins_of mc_136 (pc := 59) (x := (.iaload, 1)) (by decide +kernel))
theorem e_136_60 : Df d 136 60 [l0, l1, l2] (.int x :: st) h nx = if x ≤ 0 then Df d 136 65 [l0, l1, l2] st h nx else Df d 136 63 [l0, l1, l2] st h nx := D_if_le (ins_of mc_136 (pc := 60) (x := (.ifCond .le 5, 3)) (by decide +kernel)) (by decide)
theorem e_136_63 : Df d 136 63 [l0, l1, l2] st h nx = Df d 136 64 [l0, l1, l2] (.int (-1) :: st) h nx := D_iconst (ins_of mc_136 (pc := 63) (x := (.iconst (-1), 1)) (by decide +kernel)) (by decide)
theorem e_136_64 : Df d 136 64 [l0, l1, l2] [.int x] h nx = some (some (.int x), h, nx) := D_ireturn (ins_of mc_136 (pc := 64) (x := (.ireturn, 1)) (by decide +kernel)) mr_136
theorem e_136_65 : Df d 136 65 [l0, l1, .int x] st h nx = Df d 136 68 [l0, l1, .int (x + 1)] st h nx := D_iinc (ins_of mc_136 (pc := 65) (x := (.iinc 2 1, 3)) (by decide +kernel)) rfl (by decide) rfl
theorem e_136_68 : Df d 136 68 [l0, l1, l2] st h nx = Df d 136 10 [l0, l1, l2] st h nx := D_goto (ins_of mc_136 (pc := 68) (x := (.goto (-58), 3)) (by decide +kernel)) (by decide)
theorem e_136_71 : Df d 136 71 [l0, l1, l2] st h nx = Df d 136 72 [l0, l1, l2] (.int 1 :: st) h nx := D_iconst (ins_of mc_136 (pc := 71) (x := (.iconst 1, 1)) (by decide +kernel)) (by decide)
theorem e_136_72 : Df d 136 72 [l0, l1, l2] [.int x] h nx = some (some (.int x), h, nx) := D_ireturn (ins_of mc_136 (pc := 72) (x := (.ireturn, 1)) (by decide +kernel)) mr_136
theorem mc_137 : mC 137 = prog_11_method_17_code := rfl
theorem mo_137 : mO 137 = 9 := rfl
theorem ml_137 : mL 137 = 3 := rfl
theorem mr_137 : mR 137 = (some .int) := rfl
theorem ma_137 : mA 137 = 1 := rfl
theorem e_137_0 : Df d 137 0 [.ref a, l1, l2] st h nx = Df d 137 1 [.ref a, l1, l2] (.ref a :: st) h nx := D_aload_n (ins_of mc_137 (pc := 0) (x := (.aload_n 0, 1)) (by decide +kernel)) rfl
theorem e_137_1 : Df d 137 1 [l0, .int x, l2] st h nx = Df d 137 2 [l0, .int x, l2] (.int x :: st) h nx := D_iload_n (ins_of mc_137 (pc := 1) (x := (.iload_n 1, 1)) (by decide +kernel)) rfl
theorem e_137_2 : Df d 137 2 [l0, l1, l2] st h nx = Df d 137 3 [l0, l1, l2] (.int 3 :: st) h nx := D_iconst (ins_of mc_137 (pc := 2) (x := (.iconst 3, 1)) (by decide +kernel)) (by decide)
theorem e_137_3 : Df d 137 3 [l0, l1, l2] [v1, v0, .ref a] h nx = if ck h a 9 = true then cn d 137 6 [l0, l1, l2] [] (Dn d 128 [.ref a, v0, v1] h nx) else none := D_virtual (k1 := 128) (ins_of mc_137 (pc := 3) (x := (.invokevirtual 80, 3)) (by decide +kernel)) mo_137 (by decide +kernel) (by decide) rfl rfl (by decide) rfl (Nat.le_of_ble_eq_true rfl) rfl
theorem e_137_6 : Df d 137 6 [l0, l1, l2] st h nx = Df d 137 8 [l0, l1, l2] (.int 24 :: st) h nx := D_bipush (ins_of mc_137 (pc := 6) (x := (.bipush 24, 2)) (by decide +kernel)) (by decide)
theorem e_137_8 : Df d 137 8 [l0, l1, l2] (.int y :: .int x :: st) h nx = if x = y then Df d 137 11 [l0, l1, l2] st h nx else Df d 137 13 [l0, l1, l2] st h nx := D_icmp_ne (ins_of mc_137 (pc := 8) (x := (.if_icmp .ne 5, 3)) (by decide +kernel)) (by decide)
theorem e_137_11 : Df d 137 11 [l0, l1, l2] st h nx = Df d 137 12 [l0, l1, l2] (.int 1 :: st) h nx := D_iconst (ins_of mc_137 (pc := 11) (x := (.iconst 1, 1)) (by decide +kernel)) (by decide)
theorem e_137_12 : Df d 137 12 [l0, l1, l2] [.int x] h nx = some (some (.int x), h, nx) := D_ireturn (ins_of mc_137 (pc := 12) (x := (.ireturn, 1)) (by decide +kernel)) mr_137
theorem e_137_13 : Df d 137 13 [.ref a, l1, l2] st h nx = Df d 137 14 [.ref a, l1, l2] (.ref a :: st) h nx := D_aload_n (ins_of mc_137 (pc := 13) (x := (.aload_n 0, 1)) (by decide +kernel)) rfl
theorem e_137_14 : Df d 137 14 [l0, .int x, l2] st h nx = Df d 137 15 [l0, .int x, l2] (.int x :: st) h nx := D_iload_n (ins_of mc_137 (pc := 14) (x := (.iload_n 1, 1)) (by decide +kernel)) rfl
theorem e_137_15 : Df d 137 15 [l0, l1, l2] st h nx = Df d 137 16 [l0, l1, l2] (.int 3 :: st) h nx := D_iconst (ins_of mc_137 (pc := 15) (x := (.iconst 3, 1)) (by decide +kernel)) (by decide)
theorem e_137_16 : Df d 137 16 [l0, l1, l2] [v1, v0, .ref a] h nx = if ck h a 9 = true then cn d 137 19 [l0, l1, l2] [] (Dn d 128 [.ref a, v0, v1] h nx) else none := D_virtual (k1 := 128) (ins_of mc_137 (pc := 16) (x := (.invokevirtual 80, 3)) (by decide +kernel)) mo_137 (by decide +kernel) (by decide) rfl rfl (by decide) rfl (Nat.le_of_ble_eq_true rfl) rfl
theorem e_137_19 : Df d 137 19 [.ref a, l1, l2] st h nx = Df d 137 20 [.ref a, l1, l2] (.ref a :: st) h nx := D_aload_n (ins_of mc_137 (pc := 19) (x := (.aload_n 0, 1)) (by decide +kernel)) rfl
theorem e_137_20 : Df d 137 20 [l0, l1, l2] (.ref a :: st) h nx = (gF h a 9 0).bind fun v => Df d 137 23 [l0, l1, l2] (v :: st) h nx := D_getfield (ins_of mc_137 (pc := 20) (x := (.getfield 9, 3)) (by decide +kernel)) mo_137 (by decide +kernel)
theorem e_137_23 : Df d 137 23 [l0, l1, l2] st h nx = Df d 137 25 [l0, l1, l2] (.int 7 :: st) h nx := D_bipush (ins_of mc_137 (pc := 23) (x := (.bipush 7, 2)) (by decide +kernel)) (by decide)
theorem e_137_25 : Df d 137 25 [l0, l1, l2] (.int x :: .ref a :: st) h nx = (rX h a x).bind fun v => Df d 137 26 [l0, l1, l2] (.int v :: st) h nx := D_iaload (ins_of mc_137 (pc := 25) (x := (.iaload, 1)) (by decide +kernel))
theorem e_137_26 : Df d 137 26 [l0, l1, l2] (.int y :: .int x :: st) h nx = Df d 137 27 [l0, l1, l2] (.int (x - y) :: st) h nx := D_isub (ins_of mc_137 (pc := 26) (x := (.isub, 1)) (by decide +kernel))
theorem e_137_27 : Df d 137 27 [l0, l1, l2] st h nx = Df d 137 29 [l0, l1, l2] (.int 24 :: st) h nx := D_bipush (ins_of mc_137 (pc := 27) (x := (.bipush 24, 2)) (by decide +kernel)) (by decide)
theorem e_137_29 : Df d 137 29 [l0, l1, l2] (.int y :: .int x :: st) h nx = Df d 137 30 [l0, l1, l2] (.int (x + y) :: st) h nx := D_iadd (ins_of mc_137 (pc := 29) (x := (.iadd, 1)) (by decide +kernel))
theorem e_137_30 : Df d 137 30 [l0, l1, l2] st h nx = Df d 137 32 [l0, l1, l2] (.int 24 :: st) h nx := D_bipush (ins_of mc_137 (pc := 30) (x := (.bipush 24, 2)) (by decide +kernel)) (by decide)
theorem e_137_32 : Df d 137 32 [l0, l1, l2] (.int y :: .int x :: st) h nx = if y = 0 then none else Df d 137 33 [l0, l1, l2] (.int (x - x / y * y) :: st) h nx := D_irem (ins_of mc_137 (pc := 32) (x := (.irem, 1)) (by decide +kernel))
theorem e_137_33 (hn : nr l2 = true) : Df d 137 33 [l0, l1, l2] (.int x :: st) h nx = Df d 137 34 [l0, l1, .int x] st h nx := D_istore_n (ins_of mc_137 (pc := 33) (x := (.istore_n 2, 1)) (by decide +kernel)) rfl hn rfl
theorem e_137_34 : Df d 137 34 [l0, l1, .int x] st h nx = Df d 137 35 [l0, l1, .int x] (.int x :: st) h nx := D_iload_n (ins_of mc_137 (pc := 34) (x := (.iload_n 2, 1)) (by decide +kernel)) rfl
theorem e_137_35 : Df d 137 35 [l0, l1, l2] (.int x :: st) h nx = if x = 0 then Df d 137 38 [l0, l1, l2] st h nx else Df d 137 42 [l0, l1, l2] st h nx := D_if_ne (ins_of mc_137 (pc := 35) (x := (.ifCond .ne 7, 3)) (by decide +kernel)) (by decide)
theorem e_137_38 : Df d 137 38 [l0, l1, l2] st h nx = Df d 137 39 [l0, l1, l2] (.int 0 :: st) h nx := D_iconst (ins_of mc_137 (pc := 38) (x := (.iconst 0, 1)) (by decide +kernel)) (by decide)
theorem e_137_39 : Df d 137 39 [l0, l1, l2] st h nx = Df d 137 53 [l0, l1, l2] st h nx := D_goto (ins_of mc_137 (pc := 39) (x := (.goto 14, 3)) (by decide +kernel)) (by decide)
theorem e_137_42 : Df d 137 42 [l0, l1, .int x] st h nx = Df d 137 43 [l0, l1, .int x] (.int x :: st) h nx := D_iload_n (ins_of mc_137 (pc := 42) (x := (.iload_n 2, 1)) (by decide +kernel)) rfl
theorem e_137_43 : Df d 137 43 [l0, l1, l2] st h nx = Df d 137 45 [l0, l1, l2] (.int 12 :: st) h nx := D_bipush (ins_of mc_137 (pc := 43) (x := (.bipush 12, 2)) (by decide +kernel)) (by decide)
theorem e_137_45 : Df d 137 45 [l0, l1, l2] (.int y :: .int x :: st) h nx = if y < x then Df d 137 52 [l0, l1, l2] st h nx else Df d 137 48 [l0, l1, l2] st h nx := D_icmp_gt (ins_of mc_137 (pc := 45) (x := (.if_icmp .gt 7, 3)) (by decide +kernel)) (by decide)
theorem e_137_48 : Df d 137 48 [l0, l1, l2] st h nx = Df d 137 49 [l0, l1, l2] (.int 1 :: st) h nx := D_iconst (ins_of mc_137 (pc := 48) (x := (.iconst 1, 1)) (by decide +kernel)) (by decide)
theorem e_137_49 : Df d 137 49 [l0, l1, l2] st h nx = Df d 137 53 [l0, l1, l2] st h nx := D_goto (ins_of mc_137 (pc := 49) (x := (.goto 4, 3)) (by decide +kernel)) (by decide)
theorem e_137_52 : Df d 137 52 [l0, l1, l2] st h nx = Df d 137 53 [l0, l1, l2] (.int (-1) :: st) h nx := D_iconst (ins_of mc_137 (pc := 52) (x := (.iconst (-1), 1)) (by decide +kernel)) (by decide)
theorem e_137_53 : Df d 137 53 [l0, l1, l2] [.int x] h nx = some (some (.int x), h, nx) := D_ireturn (ins_of mc_137 (pc := 53) (x := (.ireturn, 1)) (by decide +kernel)) mr_137
theorem mc_138 : mC 138 = prog_11_method_19_code := rfl
theorem mo_138 : mO 138 = 9 := rfl
theorem ml_138 : mL 138 = 3 := rfl
theorem mr_138 : mR 138 = (some .int) := rfl
theorem ma_138 : mA 138 = 1 := rfl
theorem e_138_0 : Df d 138 0 [.ref a, l1, l2] st h nx = Df d 138 1 [.ref a, l1, l2] (.ref a :: st) h nx := D_aload_n (ins_of mc_138 (pc := 0) (x := (.aload_n 0, 1)) (by decide +kernel)) rfl
theorem e_138_1 : Df d 138 1 [l0, .int x, l2] st h nx = Df d 138 2 [l0, .int x, l2] (.int x :: st) h nx := D_iload_n (ins_of mc_138 (pc := 1) (x := (.iload_n 1, 1)) (by decide +kernel)) rfl
theorem e_138_2 : Df d 138 2 [l0, l1, l2] st h nx = Df d 138 3 [l0, l1, l2] (.int 2 :: st) h nx := D_iconst (ins_of mc_138 (pc := 2) (x := (.iconst 2, 1)) (by decide +kernel)) (by decide)
theorem e_138_3 : Df d 138 3 [l0, l1, l2] [v1, v0, .ref a] h nx = if ck h a 9 = true then cn d 138 6 [l0, l1, l2] [] (Dn d 128 [.ref a, v0, v1] h nx) else none := D_virtual (k1 := 128) (ins_of mc_138 (pc := 3) (x := (.invokevirtual 80, 3)) (by decide +kernel)) mo_138 (by decide +kernel) (by decide) rfl rfl (by decide) rfl (Nat.le_of_ble_eq_true rfl) rfl
theorem e_138_6 (hn : nr l2 = true) : Df d 138 6 [l0, l1, l2] (.int x :: st) h nx = Df d 138 7 [l0, l1, .int x] st h nx := D_istore_n (ins_of mc_138 (pc := 6) (x := (.istore_n 2, 1)) (by decide +kernel)) rfl hn rfl
theorem e_138_7 : Df d 138 7 [.ref a, l1, l2] st h nx = Df d 138 8 [.ref a, l1, l2] (.ref a :: st) h nx := D_aload_n (ins_of mc_138 (pc := 7) (x := (.aload_n 0, 1)) (by decide +kernel)) rfl
theorem e_138_8 : Df d 138 8 [l0, .int x, l2] st h nx = Df d 138 9 [l0, .int x, l2] (.int x :: st) h nx := D_iload_n (ins_of mc_138 (pc := 8) (x := (.iload_n 1, 1)) (by decide +kernel)) rfl
theorem e_138_9 : Df d 138 9 [l0, l1, l2] st h nx = Df d 138 10 [l0, l1, l2] (.int 0 :: st) h nx := D_iconst (ins_of mc_138 (pc := 9) (x := (.iconst 0, 1)) (by decide +kernel)) (by decide)
theorem e_138_10 : Df d 138 10 [l0, l1, l2] [v1, v0, .ref a] h nx = if ck h a 9 = true then cn d 138 13 [l0, l1, l2] [] (Dn d 128 [.ref a, v0, v1] h nx) else none := D_virtual (k1 := 128) (ins_of mc_138 (pc := 10) (x := (.invokevirtual 80, 3)) (by decide +kernel)) mo_138 (by decide +kernel) (by decide) rfl rfl (by decide) rfl (Nat.le_of_ble_eq_true rfl) rfl
theorem e_138_13 : Df d 138 13 [l0, l1, l2] (.int x :: st) h nx = if x = 1 then Df d 138 48 [l0, l1, l2] st h nx else if x = 2 then Df d 138 53 [l0, l1, l2] st h nx else if x = 3 then Df d 138 58 [l0, l1, l2] st h nx else if x = 4 then Df d 138 65 [l0, l1, l2] st h nx else if x = 5 then Df d 138 70 [l0, l1, l2] st h nx else Df d 138 72 [l0, l1, l2] st h nx := by
  have hi := (ins_of mc_138 (pc := 13) (x := (.tableswitch 59 1 5 #[35, 40, 45, 52, 57], 35)) (by decide +kernel))
  by_cases q0 : x = 1
  · subst q0
    rw [if_pos rfl]
    exact D_tswI (off := 35) hi (by decide) (by decide) (by decide)
  rw [if_neg q0]
  by_cases q1 : x = 2
  · subst q1
    rw [if_pos rfl]
    exact D_tswI (off := 40) hi (by decide) (by decide) (by decide)
  rw [if_neg q1]
  by_cases q2 : x = 3
  · subst q2
    rw [if_pos rfl]
    exact D_tswI (off := 45) hi (by decide) (by decide) (by decide)
  rw [if_neg q2]
  by_cases q3 : x = 4
  · subst q3
    rw [if_pos rfl]
    exact D_tswI (off := 52) hi (by decide) (by decide) (by decide)
  rw [if_neg q3]
  by_cases q4 : x = 5
  · subst q4
    rw [if_pos rfl]
    exact D_tswI (off := 57) hi (by decide) (by decide) (by decide)
  rw [if_neg q4]
  have r0 : x.toInt ≠ 1 := fun z => q0 (Int32.toInt_inj.mp (z.trans (by decide)))
  have r1 : x.toInt ≠ 2 := fun z => q1 (Int32.toInt_inj.mp (z.trans (by decide)))
  have r2 : x.toInt ≠ 3 := fun z => q2 (Int32.toInt_inj.mp (z.trans (by decide)))
  have r3 : x.toInt ≠ 4 := fun z => q3 (Int32.toInt_inj.mp (z.trans (by decide)))
  have r4 : x.toInt ≠ 5 := fun z => q4 (Int32.toInt_inj.mp (z.trans (by decide)))
  exact D_tswO hi (by omega) (by decide)
theorem e_138_48 : Df d 138 48 [l0, l1, .int x] st h nx = Df d 138 49 [l0, l1, .int x] (.int x :: st) h nx := D_iload_n (ins_of mc_138 (pc := 48) (x := (.iload_n 2, 1)) (by decide +kernel)) rfl
theorem e_138_49 : Df d 138 49 [l0, l1, l2] st h nx = Df d 138 51 [l0, l1, l2] (.int 8 :: st) h nx := D_bipush (ins_of mc_138 (pc := 49) (x := (.bipush 8, 2)) (by decide +kernel)) (by decide)
theorem e_138_51 : Df d 138 51 [l0, l1, l2] (.int y :: .int x :: st) h nx = Df d 138 52 [l0, l1, l2] (.int (x + y) :: st) h nx := D_iadd (ins_of mc_138 (pc := 51) (x := (.iadd, 1)) (by decide +kernel))
theorem e_138_52 : Df d 138 52 [l0, l1, l2] [.int x] h nx = some (some (.int x), h, nx) := D_ireturn (ins_of mc_138 (pc := 52) (x := (.ireturn, 1)) (by decide +kernel)) mr_138
theorem e_138_53 : Df d 138 53 [l0, l1, l2] st h nx = Df d 138 55 [l0, l1, l2] (.int 99 :: st) h nx := D_bipush (ins_of mc_138 (pc := 53) (x := (.bipush 99, 2)) (by decide +kernel)) (by decide)
theorem e_138_55 : Df d 138 55 [l0, l1, .int x] st h nx = Df d 138 56 [l0, l1, .int x] (.int x :: st) h nx := D_iload_n (ins_of mc_138 (pc := 55) (x := (.iload_n 2, 1)) (by decide +kernel)) rfl
theorem e_138_56 : Df d 138 56 [l0, l1, l2] (.int y :: .int x :: st) h nx = Df d 138 57 [l0, l1, l2] (.int (x - y) :: st) h nx := D_isub (ins_of mc_138 (pc := 56) (x := (.isub, 1)) (by decide +kernel))
theorem e_138_57 : Df d 138 57 [l0, l1, l2] [.int x] h nx = some (some (.int x), h, nx) := D_ireturn (ins_of mc_138 (pc := 57) (x := (.ireturn, 1)) (by decide +kernel)) mr_138
theorem e_138_58 : Df d 138 58 [l0, l1, l2] st h nx = Df d 138 59 [l0, l1, l2] (.int 2 :: st) h nx := D_iconst (ins_of mc_138 (pc := 58) (x := (.iconst 2, 1)) (by decide +kernel)) (by decide)
theorem e_138_59 : Df d 138 59 [l0, l1, .int x] st h nx = Df d 138 60 [l0, l1, .int x] (.int x :: st) h nx := D_iload_n (ins_of mc_138 (pc := 59) (x := (.iload_n 2, 1)) (by decide +kernel)) rfl
theorem e_138_60 : Df d 138 60 [l0, l1, l2] st h nx = Df d 138 62 [l0, l1, l2] (.int 8 :: st) h nx := D_bipush (ins_of mc_138 (pc := 60) (x := (.bipush 8, 2)) (by decide +kernel)) (by decide)
theorem e_138_62 : Df d 138 62 [l0, l1, l2] (.int y :: .int x :: st) h nx = Df d 138 63 [l0, l1, l2] (.int (x + y) :: st) h nx := D_iadd (ins_of mc_138 (pc := 62) (x := (.iadd, 1)) (by decide +kernel))
theorem e_138_63 : Df d 138 63 [l0, l1, l2] (.int y :: .int x :: st) h nx = Df d 138 64 [l0, l1, l2] (.int (x * y) :: st) h nx := D_imul (ins_of mc_138 (pc := 63) (x := (.imul, 1)) (by decide +kernel))
theorem e_138_64 : Df d 138 64 [l0, l1, l2] [.int x] h nx = some (some (.int x), h, nx) := D_ireturn (ins_of mc_138 (pc := 64) (x := (.ireturn, 1)) (by decide +kernel)) mr_138
theorem e_138_65 : Df d 138 65 [l0, l1, l2] st h nx = Df d 138 67 [l0, l1, l2] (.int 96 :: st) h nx := D_bipush (ins_of mc_138 (pc := 65) (x := (.bipush 96, 2)) (by decide +kernel)) (by decide)
theorem e_138_67 : Df d 138 67 [l0, l1, .int x] st h nx = Df d 138 68 [l0, l1, .int x] (.int x :: st) h nx := D_iload_n (ins_of mc_138 (pc := 67) (x := (.iload_n 2, 1)) (by decide +kernel)) rfl
theorem e_138_68 : Df d 138 68 [l0, l1, l2] (.int y :: .int x :: st) h nx = Df d 138 69 [l0, l1, l2] (.int (x - y) :: st) h nx := D_isub (ins_of mc_138 (pc := 68) (x := (.isub, 1)) (by decide +kernel))
theorem e_138_69 : Df d 138 69 [l0, l1, l2] [.int x] h nx = some (some (.int x), h, nx) := D_ireturn (ins_of mc_138 (pc := 69) (x := (.ireturn, 1)) (by decide +kernel)) mr_138
theorem e_138_70 : Df d 138 70 [l0, l1, l2] st h nx = Df d 138 71 [l0, l1, l2] (.int 4 :: st) h nx := D_iconst (ins_of mc_138 (pc := 70) (x := (.iconst 4, 1)) (by decide +kernel)) (by decide)
theorem e_138_71 : Df d 138 71 [l0, l1, l2] [.int x] h nx = some (some (.int x), h, nx) := D_ireturn (ins_of mc_138 (pc := 71) (x := (.ireturn, 1)) (by decide +kernel)) mr_138
theorem e_138_72 : Df d 138 72 [l0, l1, .int x] st h nx = Df d 138 73 [l0, l1, .int x] (.int x :: st) h nx := D_iload_n (ins_of mc_138 (pc := 72) (x := (.iload_n 2, 1)) (by decide +kernel)) rfl
theorem e_138_73 : Df d 138 73 [l0, l1, l2] [.int x] h nx = some (some (.int x), h, nx) := D_ireturn (ins_of mc_138 (pc := 73) (x := (.ireturn, 1)) (by decide +kernel)) mr_138
theorem mc_139 : mC 139 = prog_11_method_22_code := rfl
theorem mo_139 : mO 139 = 9 := rfl
theorem ml_139 : mL 139 = 3 := rfl
theorem mr_139 : mR 139 = (some .int) := rfl
theorem ma_139 : mA 139 = 2 := rfl
theorem e_139_0 : Df d 139 0 [.ref a, l1, l2] st h nx = Df d 139 1 [.ref a, l1, l2] (.ref a :: st) h nx := D_aload_n (ins_of mc_139 (pc := 0) (x := (.aload_n 0, 1)) (by decide +kernel)) rfl
theorem e_139_1 : Df d 139 1 [l0, .int x, l2] st h nx = Df d 139 2 [l0, .int x, l2] (.int x :: st) h nx := D_iload_n (ins_of mc_139 (pc := 1) (x := (.iload_n 1, 1)) (by decide +kernel)) rfl
theorem e_139_2 : Df d 139 2 [l0, l1, l2] [v0, .ref a] h nx = if ck h a 9 = true then cn d 139 5 [l0, l1, l2] [] (Dn d 127 [.ref a, v0] h nx) else none := D_virtual (k1 := 127) (ins_of mc_139 (pc := 2) (x := (.invokevirtual 111, 3)) (by decide +kernel)) mo_139 (by decide +kernel) (by decide) rfl rfl (by decide) rfl (Nat.le_of_ble_eq_true rfl) rfl
theorem e_139_5 : Df d 139 5 [l0, l1, l2] (.int x :: st) h nx = if x = 0 then Df d 139 17 [l0, l1, l2] st h nx else Df d 139 8 [l0, l1, l2] st h nx := D_if_eq (ins_of mc_139 (pc := 5) (x := (.ifCond .eq 12, 3)) (by decide +kernel)) (by decide)
theorem e_139_8 : Df d 139 8 [l0, l1, .int x] st h nx = Df d 139 9 [l0, l1, .int x] (.int x :: st) h nx := D_iload_n (ins_of mc_139 (pc := 8) (x := (.iload_n 2, 1)) (by decide +kernel)) rfl
theorem e_139_9 : Df d 139 9 [l0, l1, l2] st h nx = Df d 139 10 [l0, l1, l2] (.int 0 :: st) h nx := D_iconst (ins_of mc_139 (pc := 9) (x := (.iconst 0, 1)) (by decide +kernel)) (by decide)
theorem e_139_10 : Df d 139 10 [l0, l1, l2] st h nx = Df d 139 11 [l0, l1, l2] (.int 5 :: st) h nx := D_iconst (ins_of mc_139 (pc := 10) (x := (.iconst 5, 1)) (by decide +kernel)) (by decide)
theorem e_139_11 : Df d 139 11 [l0, l1, l2] [v2, v1, v0] h nx = cn d 139 14 [l0, l1, l2] [] (Dn d 123 [v0, v1, v2] h nx) := D_static (k1 := 123) (kd := 1) (ins_of mc_139 (pc := 11) (x := (.invokestatic 76, 3)) (by decide +kernel)) mo_139 (by decide +kernel) (by decide) rfl (Nat.le_of_ble_eq_true rfl) rfl (Nat.le_of_ble_eq_true rfl) rfl
theorem e_139_14 : Df d 139 14 [l0, l1, l2] (.int x :: st) h nx = if x = 0 then Df d 139 17 [l0, l1, l2] st h nx else Df d 139 20 [l0, l1, l2] st h nx := D_if_ne (ins_of mc_139 (pc := 14) (x := (.ifCond .ne 6, 3)) (by decide +kernel)) (by decide)
theorem e_139_17 : Df d 139 17 [l0, l1, l2] st h nx = Df d 139 19 [l0, l1, l2] (.int (-1000000001) :: st) h nx := D_ldc (ins_of mc_139 (pc := 17) (x := (.ldc 88, 2)) (by decide +kernel)) mo_139 (by decide +kernel)
theorem e_139_19 : Df d 139 19 [l0, l1, l2] [.int x] h nx = some (some (.int x), h, nx) := D_ireturn (ins_of mc_139 (pc := 19) (x := (.ireturn, 1)) (by decide +kernel)) mr_139
theorem e_139_20 : Df d 139 20 [.ref a, l1, l2] st h nx = Df d 139 21 [.ref a, l1, l2] (.ref a :: st) h nx := D_aload_n (ins_of mc_139 (pc := 20) (x := (.aload_n 0, 1)) (by decide +kernel)) rfl
theorem e_139_21 : Df d 139 21 [l0, .int x, l2] st h nx = Df d 139 22 [l0, .int x, l2] (.int x :: st) h nx := D_iload_n (ins_of mc_139 (pc := 21) (x := (.iload_n 1, 1)) (by decide +kernel)) rfl
theorem e_139_22 : Df d 139 22 [l0, l1, l2] st h nx = Df d 139 23 [l0, l1, l2] (.int 0 :: st) h nx := D_iconst (ins_of mc_139 (pc := 22) (x := (.iconst 0, 1)) (by decide +kernel)) (by decide)
theorem e_139_23 : Df d 139 23 [l0, l1, l2] [v1, v0, .ref a] h nx = if ck h a 9 = true then cn d 139 26 [l0, l1, l2] [] (Dn d 128 [.ref a, v0, v1] h nx) else none := D_virtual (k1 := 128) (ins_of mc_139 (pc := 23) (x := (.invokevirtual 80, 3)) (by decide +kernel)) mo_139 (by decide +kernel) (by decide) rfl rfl (by decide) rfl (Nat.le_of_ble_eq_true rfl) rfl
theorem e_139_26 : Df d 139 26 [l0, l1, .int x] st h nx = Df d 139 27 [l0, l1, .int x] (.int x :: st) h nx := D_iload_n (ins_of mc_139 (pc := 26) (x := (.iload_n 2, 1)) (by decide +kernel)) rfl
theorem e_139_27 : Df d 139 27 [l0, l1, l2] [v1, v0] h nx = cn d 139 30 [l0, l1, l2] [] (Dn d 140 [v0, v1] h nx) := D_static (k1 := 140) (kd := 1) (ins_of mc_139 (pc := 27) (x := (.invokestatic 127, 3)) (by decide +kernel)) mo_139 (by decide +kernel) (by decide) rfl (Nat.le_of_ble_eq_true rfl) rfl (Nat.le_of_ble_eq_true rfl) rfl
theorem e_139_30 : Df d 139 30 [l0, l1, l2] (.int x :: st) h nx = if x = 0 then Df d 139 42 [l0, l1, l2] st h nx else Df d 139 33 [l0, l1, l2] st h nx := D_if_eq (ins_of mc_139 (pc := 30) (x := (.ifCond .eq 12, 3)) (by decide +kernel)) (by decide)
theorem e_139_33 : Df d 139 33 [.ref a, l1, l2] st h nx = Df d 139 34 [.ref a, l1, l2] (.ref a :: st) h nx := D_aload_n (ins_of mc_139 (pc := 33) (x := (.aload_n 0, 1)) (by decide +kernel)) rfl
theorem e_139_34 : Df d 139 34 [l0, .int x, l2] st h nx = Df d 139 35 [l0, .int x, l2] (.int x :: st) h nx := D_iload_n (ins_of mc_139 (pc := 34) (x := (.iload_n 1, 1)) (by decide +kernel)) rfl
theorem e_139_35 : Df d 139 35 [l0, l1, l2] st h nx = Df d 139 36 [l0, l1, l2] (.int 2 :: st) h nx := D_iconst (ins_of mc_139 (pc := 35) (x := (.iconst 2, 1)) (by decide +kernel)) (by decide)
theorem e_139_36 : Df d 139 36 [l0, l1, l2] [v1, v0, .ref a] h nx = if ck h a 9 = true then cn d 139 39 [l0, l1, l2] [] (Dn d 128 [.ref a, v0, v1] h nx) else none := D_virtual (k1 := 128) (ins_of mc_139 (pc := 36) (x := (.invokevirtual 80, 3)) (by decide +kernel)) mo_139 (by decide +kernel) (by decide) rfl rfl (by decide) rfl (Nat.le_of_ble_eq_true rfl) rfl
theorem e_139_39 : Df d 139 39 [l0, l1, l2] st h nx = Df d 139 44 [l0, l1, l2] st h nx := D_goto (ins_of mc_139 (pc := 39) (x := (.goto 5, 3)) (by decide +kernel)) (by decide)
theorem e_139_42 : Df d 139 42 [l0, l1, l2] st h nx = Df d 139 44 [l0, l1, l2] (.int (-1000000012) :: st) h nx := D_ldc (ins_of mc_139 (pc := 42) (x := (.ldc 131, 2)) (by decide +kernel)) mo_139 (by decide +kernel)
theorem e_139_44 : Df d 139 44 [l0, l1, l2] [.int x] h nx = some (some (.int x), h, nx) := D_ireturn (ins_of mc_139 (pc := 44) (x := (.ireturn, 1)) (by decide +kernel)) mr_139
theorem mc_140 : mC 140 = prog_11_method_21_code := rfl
theorem mo_140 : mO 140 = 9 := rfl
theorem ml_140 : mL 140 = 2 := rfl
theorem mr_140 : mR 140 = (some .boolean) := rfl
theorem ma_140 : mA 140 = 2 := rfl
theorem e_140_0 : Df d 140 0 [l0, .int x] st h nx = Df d 140 1 [l0, .int x] (.int x :: st) h nx := D_iload_n (ins_of mc_140 (pc := 0) (x := (.iload_n 1, 1)) (by decide +kernel)) rfl
theorem e_140_1 : Df d 140 1 [l0, l1] (.int x :: st) h nx = if x = 0 then Df d 140 29 [l0, l1] st h nx else Df d 140 4 [l0, l1] st h nx := D_if_eq (ins_of mc_140 (pc := 1) (x := (.ifCond .eq 28, 3)) (by decide +kernel)) (by decide)
theorem e_140_4 : Df d 140 4 [.int x, l1] st h nx = Df d 140 5 [.int x, l1] (.int x :: st) h nx := D_iload_n (ins_of mc_140 (pc := 4) (x := (.iload_n 0, 1)) (by decide +kernel)) rfl
theorem e_140_5 : Df d 140 5 [l0, .int x] st h nx = Df d 140 6 [l0, .int x] (.int x :: st) h nx := D_iload_n (ins_of mc_140 (pc := 5) (x := (.iload_n 1, 1)) (by decide +kernel)) rfl
theorem e_140_6 : Df d 140 6 [l0, l1] (.int y :: .int x :: st) h nx = if x = y then Df d 140 29 [l0, l1] st h nx else Df d 140 9 [l0, l1] st h nx := D_icmp_eq (ins_of mc_140 (pc := 6) (x := (.if_icmp .eq 23, 3)) (by decide +kernel)) (by decide)
theorem e_140_9 : Df d 140 9 [l0, .int x] st h nx = Df d 140 10 [l0, .int x] (.int x :: st) h nx := D_iload_n (ins_of mc_140 (pc := 9) (x := (.iload_n 1, 1)) (by decide +kernel)) rfl
theorem e_140_10 : Df d 140 10 [l0, l1] st h nx = Df d 140 11 [l0, l1] (.int 1 :: st) h nx := D_iconst (ins_of mc_140 (pc := 10) (x := (.iconst 1, 1)) (by decide +kernel)) (by decide)
theorem e_140_11 : Df d 140 11 [l0, l1] (.int y :: .int x :: st) h nx = if x = y then Df d 140 14 [l0, l1] st h nx else Df d 140 19 [l0, l1] st h nx := D_icmp_ne (ins_of mc_140 (pc := 11) (x := (.if_icmp .ne 8, 3)) (by decide +kernel)) (by decide)
theorem e_140_14 : Df d 140 14 [.int x, l1] st h nx = Df d 140 15 [.int x, l1] (.int x :: st) h nx := D_iload_n (ins_of mc_140 (pc := 14) (x := (.iload_n 0, 1)) (by decide +kernel)) rfl
theorem e_140_15 : Df d 140 15 [l0, l1] st h nx = Df d 140 16 [l0, l1] (.int 3 :: st) h nx := D_iconst (ins_of mc_140 (pc := 15) (x := (.iconst 3, 1)) (by decide +kernel)) (by decide)
theorem e_140_16 : Df d 140 16 [l0, l1] (.int y :: .int x :: st) h nx = if x = y then Df d 140 29 [l0, l1] st h nx else Df d 140 19 [l0, l1] st h nx := D_icmp_eq (ins_of mc_140 (pc := 16) (x := (.if_icmp .eq 13, 3)) (by decide +kernel)) (by decide)
theorem e_140_19 : Df d 140 19 [l0, .int x] st h nx = Df d 140 20 [l0, .int x] (.int x :: st) h nx := D_iload_n (ins_of mc_140 (pc := 19) (x := (.iload_n 1, 1)) (by decide +kernel)) rfl
theorem e_140_20 : Df d 140 20 [l0, l1] st h nx = Df d 140 21 [l0, l1] (.int 2 :: st) h nx := D_iconst (ins_of mc_140 (pc := 20) (x := (.iconst 2, 1)) (by decide +kernel)) (by decide)
theorem e_140_21 : Df d 140 21 [l0, l1] (.int y :: .int x :: st) h nx = if x = y then Df d 140 24 [l0, l1] st h nx else Df d 140 33 [l0, l1] st h nx := D_icmp_ne (ins_of mc_140 (pc := 21) (x := (.if_icmp .ne 12, 3)) (by decide +kernel)) (by decide)
theorem e_140_24 : Df d 140 24 [.int x, l1] st h nx = Df d 140 25 [.int x, l1] (.int x :: st) h nx := D_iload_n (ins_of mc_140 (pc := 24) (x := (.iload_n 0, 1)) (by decide +kernel)) rfl
theorem e_140_25 : Df d 140 25 [l0, l1] st h nx = Df d 140 26 [l0, l1] (.int 4 :: st) h nx := D_iconst (ins_of mc_140 (pc := 25) (x := (.iconst 4, 1)) (by decide +kernel)) (by decide)
theorem e_140_26 : Df d 140 26 [l0, l1] (.int y :: .int x :: st) h nx = if x = y then Df d 140 29 [l0, l1] st h nx else Df d 140 33 [l0, l1] st h nx := D_icmp_ne (ins_of mc_140 (pc := 26) (x := (.if_icmp .ne 7, 3)) (by decide +kernel)) (by decide)
theorem e_140_29 : Df d 140 29 [l0, l1] st h nx = Df d 140 30 [l0, l1] (.int 1 :: st) h nx := D_iconst (ins_of mc_140 (pc := 29) (x := (.iconst 1, 1)) (by decide +kernel)) (by decide)
theorem e_140_30 : Df d 140 30 [l0, l1] st h nx = Df d 140 34 [l0, l1] st h nx := D_goto (ins_of mc_140 (pc := 30) (x := (.goto 4, 3)) (by decide +kernel)) (by decide)
theorem e_140_33 : Df d 140 33 [l0, l1] st h nx = Df d 140 34 [l0, l1] (.int 0 :: st) h nx := D_iconst (ins_of mc_140 (pc := 33) (x := (.iconst 0, 1)) (by decide +kernel)) (by decide)
theorem e_140_34 : Df d 140 34 [l0, l1] [.int x] h nx = if nR .boolean x = true then some (some (.int x), h, nx) else none := D_zreturn (ins_of mc_140 (pc := 34) (x := (.ireturn, 1)) (by decide +kernel)) mr_140
theorem mc_141 : mC 141 = prog_11_method_23_code := rfl
theorem mo_141 : mO 141 = 9 := rfl
theorem ml_141 : mL 141 = 3 := rfl
theorem mr_141 : mR 141 = (some .int) := rfl
theorem ma_141 : mA 141 = 2 := rfl
theorem e_141_0 : Df d 141 0 [.ref a, l1, l2] st h nx = Df d 141 1 [.ref a, l1, l2] (.ref a :: st) h nx := D_aload_n (ins_of mc_141 (pc := 0) (x := (.aload_n 0, 1)) (by decide +kernel)) rfl
theorem e_141_1 : Df d 141 1 [l0, .int x, l2] st h nx = Df d 141 2 [l0, .int x, l2] (.int x :: st) h nx := D_iload_n (ins_of mc_141 (pc := 1) (x := (.iload_n 1, 1)) (by decide +kernel)) rfl
theorem e_141_2 : Df d 141 2 [l0, l1, l2] [v0, .ref a] h nx = if ck h a 9 = true then cn d 141 5 [l0, l1, l2] [] (Dn d 127 [.ref a, v0] h nx) else none := D_virtual (k1 := 127) (ins_of mc_141 (pc := 2) (x := (.invokevirtual 111, 3)) (by decide +kernel)) mo_141 (by decide +kernel) (by decide) rfl rfl (by decide) rfl (Nat.le_of_ble_eq_true rfl) rfl
theorem e_141_5 : Df d 141 5 [l0, l1, l2] (.int x :: st) h nx = if x = 0 then Df d 141 32 [l0, l1, l2] st h nx else Df d 141 8 [l0, l1, l2] st h nx := D_if_eq (ins_of mc_141 (pc := 5) (x := (.ifCond .eq 27, 3)) (by decide +kernel)) (by decide)
theorem e_141_8 : Df d 141 8 [l0, l1, .int x] st h nx = Df d 141 9 [l0, l1, .int x] (.int x :: st) h nx := D_iload_n (ins_of mc_141 (pc := 8) (x := (.iload_n 2, 1)) (by decide +kernel)) rfl
theorem e_141_9 : Df d 141 9 [l0, l1, l2] st h nx = Df d 141 10 [l0, l1, l2] (.int 0 :: st) h nx := D_iconst (ins_of mc_141 (pc := 9) (x := (.iconst 0, 1)) (by decide +kernel)) (by decide)
theorem e_141_10 : Df d 141 10 [l0, l1, l2] st h nx = Df d 141 11 [l0, l1, l2] (.int 5 :: st) h nx := D_iconst (ins_of mc_141 (pc := 10) (x := (.iconst 5, 1)) (by decide +kernel)) (by decide)
theorem e_141_11 : Df d 141 11 [l0, l1, l2] [v2, v1, v0] h nx = cn d 141 14 [l0, l1, l2] [] (Dn d 123 [v0, v1, v2] h nx) := D_static (k1 := 123) (kd := 1) (ins_of mc_141 (pc := 11) (x := (.invokestatic 76, 3)) (by decide +kernel)) mo_141 (by decide +kernel) (by decide) rfl (Nat.le_of_ble_eq_true rfl) rfl (Nat.le_of_ble_eq_true rfl) rfl
theorem e_141_14 : Df d 141 14 [l0, l1, l2] (.int x :: st) h nx = if x = 0 then Df d 141 32 [l0, l1, l2] st h nx else Df d 141 17 [l0, l1, l2] st h nx := D_if_eq (ins_of mc_141 (pc := 14) (x := (.ifCond .eq 18, 3)) (by decide +kernel)) (by decide)
theorem e_141_17 : Df d 141 17 [.ref a, l1, l2] st h nx = Df d 141 18 [.ref a, l1, l2] (.ref a :: st) h nx := D_aload_n (ins_of mc_141 (pc := 17) (x := (.aload_n 0, 1)) (by decide +kernel)) rfl
theorem e_141_18 : Df d 141 18 [l0, l1, l2] st h nx = Df d 141 20 [l0, l1, l2] (.int 35 :: st) h nx := D_bipush (ins_of mc_141 (pc := 18) (x := (.bipush 35, 2)) (by decide +kernel)) (by decide)
theorem e_141_20 : Df d 141 20 [l0, l1, l2] st h nx = Df d 141 22 [l0, l1, l2] (.int 6 :: st) h nx := D_bipush (ins_of mc_141 (pc := 20) (x := (.bipush 6, 2)) (by decide +kernel)) (by decide)
theorem e_141_22 : Df d 141 22 [l0, .int x, l2] st h nx = Df d 141 23 [l0, .int x, l2] (.int x :: st) h nx := D_iload_n (ins_of mc_141 (pc := 22) (x := (.iload_n 1, 1)) (by decide +kernel)) rfl
theorem e_141_23 : Df d 141 23 [l0, l1, l2] (.int y :: .int x :: st) h nx = Df d 141 24 [l0, l1, l2] (.int (x * y) :: st) h nx := D_imul (ins_of mc_141 (pc := 23) (x := (.imul, 1)) (by decide +kernel))
theorem e_141_24 : Df d 141 24 [l0, l1, l2] (.int y :: .int x :: st) h nx = Df d 141 25 [l0, l1, l2] (.int (x + y) :: st) h nx := D_iadd (ins_of mc_141 (pc := 24) (x := (.iadd, 1)) (by decide +kernel))
theorem e_141_25 : Df d 141 25 [l0, l1, .int x] st h nx = Df d 141 26 [l0, l1, .int x] (.int x :: st) h nx := D_iload_n (ins_of mc_141 (pc := 25) (x := (.iload_n 2, 1)) (by decide +kernel)) rfl
theorem e_141_26 : Df d 141 26 [l0, l1, l2] [v1, v0, .ref a] h nx = if ck h a 9 = true then cn d 141 29 [l0, l1, l2] [] (Dn d 142 [.ref a, v0, v1] h nx) else none := D_virtual (k1 := 142) (ins_of mc_141 (pc := 26) (x := (.invokevirtual 132, 3)) (by decide +kernel)) mo_141 (by decide +kernel) (by decide) rfl rfl (by decide) rfl (Nat.le_of_ble_eq_true rfl) rfl
theorem e_141_29 : Df d 141 29 [l0, l1, l2] st h nx = Df d 141 34 [l0, l1, l2] st h nx := D_goto (ins_of mc_141 (pc := 29) (x := (.goto 5, 3)) (by decide +kernel)) (by decide)
theorem e_141_32 : Df d 141 32 [l0, l1, l2] st h nx = Df d 141 34 [l0, l1, l2] (.int (-1000000001) :: st) h nx := D_ldc (ins_of mc_141 (pc := 32) (x := (.ldc 88, 2)) (by decide +kernel)) mo_141 (by decide +kernel)
theorem e_141_34 : Df d 141 34 [l0, l1, l2] [.int x] h nx = some (some (.int x), h, nx) := D_ireturn (ins_of mc_141 (pc := 34) (x := (.ireturn, 1)) (by decide +kernel)) mr_141
theorem mc_142 : mC 142 = prog_11_method_11_code := rfl
theorem mo_142 : mO 142 = 9 := rfl
theorem ml_142 : mL 142 = 4 := rfl
theorem mr_142 : mR 142 = (some .int) := rfl
theorem ma_142 : mA 142 = 2 := rfl
theorem e_142_0 : Df d 142 0 [.ref a, l1, l2, l3] st h nx = Df d 142 1 [.ref a, l1, l2, l3] (.ref a :: st) h nx := D_aload_n (ins_of mc_142 (pc := 0) (x := (.aload_n 0, 1)) (by decide +kernel)) rfl
theorem e_142_1 : Df d 142 1 [l0, l1, l2, l3] (.ref a :: st) h nx = (gF h a 9 0).bind fun v => Df d 142 4 [l0, l1, l2, l3] (v :: st) h nx := D_getfield (ins_of mc_142 (pc := 1) (x := (.getfield 9, 3)) (by decide +kernel)) mo_142 (by decide +kernel)
theorem e_142_4 : Df d 142 4 [l0, .int x, l2, l3] st h nx = Df d 142 5 [l0, .int x, l2, l3] (.int x :: st) h nx := D_iload_n (ins_of mc_142 (pc := 4) (x := (.iload_n 1, 1)) (by decide +kernel)) rfl
theorem e_142_5 : Df d 142 5 [l0, l1, l2, l3] (.int x :: .ref a :: st) h nx = (rX h a x).bind fun v => Df d 142 6 [l0, l1, l2, l3] (.int v :: st) h nx := D_iaload (ins_of mc_142 (pc := 5) (x := (.iaload, 1)) (by decide +kernel))
theorem e_142_6 (hn : nr l3 = true) : Df d 142 6 [l0, l1, l2, l3] (.int x :: st) h nx = Df d 142 7 [l0, l1, l2, .int x] st h nx := D_istore_n (ins_of mc_142 (pc := 6) (x := (.istore_n 3, 1)) (by decide +kernel)) rfl hn rfl
theorem e_142_7 : Df d 142 7 [.ref a, l1, l2, l3] st h nx = Df d 142 8 [.ref a, l1, l2, l3] (.ref a :: st) h nx := D_aload_n (ins_of mc_142 (pc := 7) (x := (.aload_n 0, 1)) (by decide +kernel)) rfl
theorem e_142_8 : Df d 142 8 [l0, l1, l2, l3] (.ref a :: st) h nx = (gF h a 9 0).bind fun v => Df d 142 11 [l0, l1, l2, l3] (v :: st) h nx := D_getfield (ins_of mc_142 (pc := 8) (x := (.getfield 9, 3)) (by decide +kernel)) mo_142 (by decide +kernel)
theorem e_142_11 : Df d 142 11 [l0, .int x, l2, l3] st h nx = Df d 142 12 [l0, .int x, l2, l3] (.int x :: st) h nx := D_iload_n (ins_of mc_142 (pc := 11) (x := (.iload_n 1, 1)) (by decide +kernel)) rfl
theorem e_142_12 : Df d 142 12 [l0, l1, .int x, l3] st h nx = Df d 142 13 [l0, l1, .int x, l3] (.int x :: st) h nx := D_iload_n (ins_of mc_142 (pc := 12) (x := (.iload_n 2, 1)) (by decide +kernel)) rfl
theorem e_142_13 : Df d 142 13 [l0, l1, l2, l3] (.int y :: .int x :: .ref a :: st) h nx = (wI h a x 0 y).bind fun h => Df d 142 14 [l0, l1, l2, l3] st h nx := D_iastore (ins_of mc_142 (pc := 13) (x := (.iastore, 1)) (by decide +kernel))
theorem e_142_14 : Df d 142 14 [l0, l1, l2, .int x] st h nx = Df d 142 15 [l0, l1, l2, .int x] (.int x :: st) h nx := D_iload_n (ins_of mc_142 (pc := 14) (x := (.iload_n 3, 1)) (by decide +kernel)) rfl
theorem e_142_15 : Df d 142 15 [l0, l1, l2, l3] [.int x] h nx = some (some (.int x), h, nx) := D_ireturn (ins_of mc_142 (pc := 15) (x := (.ireturn, 1)) (by decide +kernel)) mr_142
theorem mc_143 : mC 143 = prog_11_method_24_code := rfl
theorem mo_143 : mO 143 = 9 := rfl
theorem ml_143 : mL 143 = 4 := rfl
theorem mr_143 : mR 143 = (some .int) := rfl
theorem ma_143 : mA 143 = 3 := rfl
theorem e_143_0 : Df d 143 0 [.ref a, l1, l2, l3] st h nx = Df d 143 1 [.ref a, l1, l2, l3] (.ref a :: st) h nx := D_aload_n (ins_of mc_143 (pc := 0) (x := (.aload_n 0, 1)) (by decide +kernel)) rfl
theorem e_143_1 : Df d 143 1 [l0, .int x, l2, l3] st h nx = Df d 143 2 [l0, .int x, l2, l3] (.int x :: st) h nx := D_iload_n (ins_of mc_143 (pc := 1) (x := (.iload_n 1, 1)) (by decide +kernel)) rfl
theorem e_143_2 : Df d 143 2 [l0, l1, l2, l3] [v0, .ref a] h nx = if ck h a 9 = true then cn d 143 5 [l0, l1, l2, l3] [] (Dn d 127 [.ref a, v0] h nx) else none := D_virtual (k1 := 127) (ins_of mc_143 (pc := 2) (x := (.invokevirtual 111, 3)) (by decide +kernel)) mo_143 (by decide +kernel) (by decide) rfl rfl (by decide) rfl (Nat.le_of_ble_eq_true rfl) rfl
theorem e_143_5 : Df d 143 5 [l0, l1, l2, l3] (.int x :: st) h nx = if x = 0 then Df d 143 47 [l0, l1, l2, l3] st h nx else Df d 143 8 [l0, l1, l2, l3] st h nx := D_if_eq (ins_of mc_143 (pc := 5) (x := (.ifCond .eq 42, 3)) (by decide +kernel)) (by decide)
theorem e_143_8 : Df d 143 8 [l0, l1, .int x, l3] st h nx = Df d 143 9 [l0, l1, .int x, l3] (.int x :: st) h nx := D_iload_n (ins_of mc_143 (pc := 8) (x := (.iload_n 2, 1)) (by decide +kernel)) rfl
theorem e_143_9 : Df d 143 9 [l0, l1, l2, l3] st h nx = Df d 143 10 [l0, l1, l2, l3] (.int 1 :: st) h nx := D_iconst (ins_of mc_143 (pc := 9) (x := (.iconst 1, 1)) (by decide +kernel)) (by decide)
theorem e_143_10 : Df d 143 10 [l0, l1, l2, l3] st h nx = Df d 143 11 [l0, l1, l2, l3] (.int 3 :: st) h nx := D_iconst (ins_of mc_143 (pc := 10) (x := (.iconst 3, 1)) (by decide +kernel)) (by decide)
theorem e_143_11 : Df d 143 11 [l0, l1, l2, l3] [v2, v1, v0] h nx = cn d 143 14 [l0, l1, l2, l3] [] (Dn d 123 [v0, v1, v2] h nx) := D_static (k1 := 123) (kd := 1) (ins_of mc_143 (pc := 11) (x := (.invokestatic 76, 3)) (by decide +kernel)) mo_143 (by decide +kernel) (by decide) rfl (Nat.le_of_ble_eq_true rfl) rfl (Nat.le_of_ble_eq_true rfl) rfl
theorem e_143_14 : Df d 143 14 [l0, l1, l2, l3] (.int x :: st) h nx = if x = 0 then Df d 143 47 [l0, l1, l2, l3] st h nx else Df d 143 17 [l0, l1, l2, l3] st h nx := D_if_eq (ins_of mc_143 (pc := 14) (x := (.ifCond .eq 33, 3)) (by decide +kernel)) (by decide)
theorem e_143_17 : Df d 143 17 [l0, l1, l2, .int x] st h nx = Df d 143 18 [l0, l1, l2, .int x] (.int x :: st) h nx := D_iload_n (ins_of mc_143 (pc := 17) (x := (.iload_n 3, 1)) (by decide +kernel)) rfl
theorem e_143_18 : Df d 143 18 [l0, l1, l2, l3] st h nx = Df d 143 19 [l0, l1, l2, l3] (.int 0 :: st) h nx := D_iconst (ins_of mc_143 (pc := 18) (x := (.iconst 0, 1)) (by decide +kernel)) (by decide)
theorem e_143_19 : Df d 143 19 [l0, l1, .int x, l3] st h nx = Df d 143 20 [l0, l1, .int x, l3] (.int x :: st) h nx := D_iload_n (ins_of mc_143 (pc := 19) (x := (.iload_n 2, 1)) (by decide +kernel)) rfl
theorem e_143_20 : Df d 143 20 [l0, l1, l2, l3] st h nx = Df d 143 21 [l0, l1, l2, l3] (.int 1 :: st) h nx := D_iconst (ins_of mc_143 (pc := 20) (x := (.iconst 1, 1)) (by decide +kernel)) (by decide)
theorem e_143_21 : Df d 143 21 [l0, l1, l2, l3] (.int y :: .int x :: st) h nx = if x = y then Df d 143 24 [l0, l1, l2, l3] st h nx else Df d 143 29 [l0, l1, l2, l3] st h nx := D_icmp_ne (ins_of mc_143 (pc := 21) (x := (.if_icmp .ne 8, 3)) (by decide +kernel)) (by decide)
theorem e_143_24 : Df d 143 24 [l0, l1, l2, l3] st h nx = Df d 143 26 [l0, l1, l2, l3] (.int 99 :: st) h nx := D_bipush (ins_of mc_143 (pc := 24) (x := (.bipush 99, 2)) (by decide +kernel)) (by decide)
theorem e_143_26 : Df d 143 26 [l0, l1, l2, l3] st h nx = Df d 143 41 [l0, l1, l2, l3] st h nx := D_goto (ins_of mc_143 (pc := 26) (x := (.goto 15, 3)) (by decide +kernel)) (by decide)
theorem e_143_29 : Df d 143 29 [l0, l1, .int x, l3] st h nx = Df d 143 30 [l0, l1, .int x, l3] (.int x :: st) h nx := D_iload_n (ins_of mc_143 (pc := 29) (x := (.iload_n 2, 1)) (by decide +kernel)) rfl
theorem e_143_30 : Df d 143 30 [l0, l1, l2, l3] st h nx = Df d 143 31 [l0, l1, l2, l3] (.int 2 :: st) h nx := D_iconst (ins_of mc_143 (pc := 30) (x := (.iconst 2, 1)) (by decide +kernel)) (by decide)
theorem e_143_31 : Df d 143 31 [l0, l1, l2, l3] (.int y :: .int x :: st) h nx = if x = y then Df d 143 34 [l0, l1, l2, l3] st h nx else Df d 143 39 [l0, l1, l2, l3] st h nx := D_icmp_ne (ins_of mc_143 (pc := 31) (x := (.if_icmp .ne 8, 3)) (by decide +kernel)) (by decide)
theorem e_143_34 : Df d 143 34 [l0, l1, l2, l3] st h nx = Df d 143 36 [l0, l1, l2, l3] (.int 30 :: st) h nx := D_bipush (ins_of mc_143 (pc := 34) (x := (.bipush 30, 2)) (by decide +kernel)) (by decide)
theorem e_143_36 : Df d 143 36 [l0, l1, l2, l3] st h nx = Df d 143 41 [l0, l1, l2, l3] st h nx := D_goto (ins_of mc_143 (pc := 36) (x := (.goto 5, 3)) (by decide +kernel)) (by decide)
theorem e_143_39 : Df d 143 39 [l0, l1, l2, l3] st h nx = Df d 143 41 [l0, l1, l2, l3] (.int 24 :: st) h nx := D_bipush (ins_of mc_143 (pc := 39) (x := (.bipush 24, 2)) (by decide +kernel)) (by decide)
theorem e_143_41 : Df d 143 41 [l0, l1, l2, l3] [v2, v1, v0] h nx = cn d 143 44 [l0, l1, l2, l3] [] (Dn d 123 [v0, v1, v2] h nx) := D_static (k1 := 123) (kd := 1) (ins_of mc_143 (pc := 41) (x := (.invokestatic 76, 3)) (by decide +kernel)) mo_143 (by decide +kernel) (by decide) rfl (Nat.le_of_ble_eq_true rfl) rfl (Nat.le_of_ble_eq_true rfl) rfl
theorem e_143_44 : Df d 143 44 [l0, l1, l2, l3] (.int x :: st) h nx = if x = 0 then Df d 143 47 [l0, l1, l2, l3] st h nx else Df d 143 50 [l0, l1, l2, l3] st h nx := D_if_ne (ins_of mc_143 (pc := 44) (x := (.ifCond .ne 6, 3)) (by decide +kernel)) (by decide)
theorem e_143_47 : Df d 143 47 [l0, l1, l2, l3] st h nx = Df d 143 49 [l0, l1, l2, l3] (.int (-1000000001) :: st) h nx := D_ldc (ins_of mc_143 (pc := 47) (x := (.ldc 88, 2)) (by decide +kernel)) mo_143 (by decide +kernel)
theorem e_143_49 : Df d 143 49 [l0, l1, l2, l3] [.int x] h nx = some (some (.int x), h, nx) := D_ireturn (ins_of mc_143 (pc := 49) (x := (.ireturn, 1)) (by decide +kernel)) mr_143
theorem e_143_50 : Df d 143 50 [.ref a, l1, l2, l3] st h nx = Df d 143 51 [.ref a, l1, l2, l3] (.ref a :: st) h nx := D_aload_n (ins_of mc_143 (pc := 50) (x := (.aload_n 0, 1)) (by decide +kernel)) rfl
theorem e_143_51 : Df d 143 51 [l0, l1, l2, l3] st h nx = Df d 143 53 [l0, l1, l2, l3] (.int 35 :: st) h nx := D_bipush (ins_of mc_143 (pc := 51) (x := (.bipush 35, 2)) (by decide +kernel)) (by decide)
theorem e_143_53 : Df d 143 53 [l0, l1, l2, l3] st h nx = Df d 143 55 [l0, l1, l2, l3] (.int 6 :: st) h nx := D_bipush (ins_of mc_143 (pc := 53) (x := (.bipush 6, 2)) (by decide +kernel)) (by decide)
theorem e_143_55 : Df d 143 55 [l0, .int x, l2, l3] st h nx = Df d 143 56 [l0, .int x, l2, l3] (.int x :: st) h nx := D_iload_n (ins_of mc_143 (pc := 55) (x := (.iload_n 1, 1)) (by decide +kernel)) rfl
theorem e_143_56 : Df d 143 56 [l0, l1, l2, l3] (.int y :: .int x :: st) h nx = Df d 143 57 [l0, l1, l2, l3] (.int (x * y) :: st) h nx := D_imul (ins_of mc_143 (pc := 56) (x := (.imul, 1)) (by decide +kernel))
theorem e_143_57 : Df d 143 57 [l0, l1, l2, l3] (.int y :: .int x :: st) h nx = Df d 143 58 [l0, l1, l2, l3] (.int (x + y) :: st) h nx := D_iadd (ins_of mc_143 (pc := 57) (x := (.iadd, 1)) (by decide +kernel))
theorem e_143_58 : Df d 143 58 [l0, l1, .int x, l3] st h nx = Df d 143 59 [l0, l1, .int x, l3] (.int x :: st) h nx := D_iload_n (ins_of mc_143 (pc := 58) (x := (.iload_n 2, 1)) (by decide +kernel)) rfl
theorem e_143_59 : Df d 143 59 [l0, l1, l2, l3] (.int y :: .int x :: st) h nx = Df d 143 60 [l0, l1, l2, l3] (.int (x + y) :: st) h nx := D_iadd (ins_of mc_143 (pc := 59) (x := (.iadd, 1)) (by decide +kernel))
theorem e_143_60 : Df d 143 60 [l0, l1, l2, .int x] st h nx = Df d 143 61 [l0, l1, l2, .int x] (.int x :: st) h nx := D_iload_n (ins_of mc_143 (pc := 60) (x := (.iload_n 3, 1)) (by decide +kernel)) rfl
theorem e_143_61 : Df d 143 61 [l0, l1, l2, l3] [v1, v0, .ref a] h nx = if ck h a 9 = true then cn d 143 64 [l0, l1, l2, l3] [] (Dn d 142 [.ref a, v0, v1] h nx) else none := D_virtual (k1 := 142) (ins_of mc_143 (pc := 61) (x := (.invokevirtual 132, 3)) (by decide +kernel)) mo_143 (by decide +kernel) (by decide) rfl rfl (by decide) rfl (Nat.le_of_ble_eq_true rfl) rfl
theorem e_143_64 : Df d 143 64 [l0, l1, l2, l3] [.int x] h nx = some (some (.int x), h, nx) := D_ireturn (ins_of mc_143 (pc := 64) (x := (.ireturn, 1)) (by decide +kernel)) mr_143
theorem mc_144 : mC 144 = prog_11_method_25_code := rfl
theorem mo_144 : mO 144 = 9 := rfl
theorem ml_144 : mL 144 = 3 := rfl
theorem mr_144 : mR 144 = (some .int) := rfl
theorem ma_144 : mA 144 = 2 := rfl
theorem e_144_0 : Df d 144 0 [l0, .int x, l2] st h nx = Df d 144 1 [l0, .int x, l2] (.int x :: st) h nx := D_iload_n (ins_of mc_144 (pc := 0) (x := (.iload_n 1, 1)) (by decide +kernel)) rfl
theorem e_144_1 : Df d 144 1 [l0, l1, l2] [v0] h nx = cn d 144 4 [l0, l1, l2] [] (Dn d 145 [v0] h nx) := D_static (k1 := 145) (kd := 1) (ins_of mc_144 (pc := 1) (x := (.invokestatic 135, 3)) (by decide +kernel)) mo_144 (by decide +kernel) (by decide) rfl (Nat.le_of_ble_eq_true rfl) rfl (Nat.le_of_ble_eq_true rfl) rfl
theorem e_144_4 : Df d 144 4 [l0, l1, l2] (.int x :: st) h nx = if x = 0 then Df d 144 29 [l0, l1, l2] st h nx else Df d 144 7 [l0, l1, l2] st h nx := D_if_eq (ins_of mc_144 (pc := 4) (x := (.ifCond .eq 25, 3)) (by decide +kernel)) (by decide)
theorem e_144_7 : Df d 144 7 [l0, l1, .int x] st h nx = Df d 144 8 [l0, l1, .int x] (.int x :: st) h nx := D_iload_n (ins_of mc_144 (pc := 7) (x := (.iload_n 2, 1)) (by decide +kernel)) rfl
theorem e_144_8 : Df d 144 8 [l0, l1, l2] st h nx = Df d 144 9 [l0, l1, l2] (.int 0 :: st) h nx := D_iconst (ins_of mc_144 (pc := 8) (x := (.iconst 0, 1)) (by decide +kernel)) (by decide)
theorem e_144_9 : Df d 144 9 [l0, l1, l2] st h nx = Df d 144 11 [l0, l1, l2] (.int 99 :: st) h nx := D_bipush (ins_of mc_144 (pc := 9) (x := (.bipush 99, 2)) (by decide +kernel)) (by decide)
theorem e_144_11 : Df d 144 11 [l0, l1, l2] [v2, v1, v0] h nx = cn d 144 14 [l0, l1, l2] [] (Dn d 123 [v0, v1, v2] h nx) := D_static (k1 := 123) (kd := 1) (ins_of mc_144 (pc := 11) (x := (.invokestatic 76, 3)) (by decide +kernel)) mo_144 (by decide +kernel) (by decide) rfl (Nat.le_of_ble_eq_true rfl) rfl (Nat.le_of_ble_eq_true rfl) rfl
theorem e_144_14 : Df d 144 14 [l0, l1, l2] (.int x :: st) h nx = if x = 0 then Df d 144 29 [l0, l1, l2] st h nx else Df d 144 17 [l0, l1, l2] st h nx := D_if_eq (ins_of mc_144 (pc := 14) (x := (.ifCond .eq 15, 3)) (by decide +kernel)) (by decide)
theorem e_144_17 : Df d 144 17 [.ref a, l1, l2] st h nx = Df d 144 18 [.ref a, l1, l2] (.ref a :: st) h nx := D_aload_n (ins_of mc_144 (pc := 17) (x := (.aload_n 0, 1)) (by decide +kernel)) rfl
theorem e_144_18 : Df d 144 18 [l0, l1, l2] st h nx = Df d 144 20 [l0, l1, l2] (.int 11 :: st) h nx := D_bipush (ins_of mc_144 (pc := 18) (x := (.bipush 11, 2)) (by decide +kernel)) (by decide)
theorem e_144_20 : Df d 144 20 [l0, .int x, l2] st h nx = Df d 144 21 [l0, .int x, l2] (.int x :: st) h nx := D_iload_n (ins_of mc_144 (pc := 20) (x := (.iload_n 1, 1)) (by decide +kernel)) rfl
theorem e_144_21 : Df d 144 21 [l0, l1, l2] (.int y :: .int x :: st) h nx = Df d 144 22 [l0, l1, l2] (.int (x + y) :: st) h nx := D_iadd (ins_of mc_144 (pc := 21) (x := (.iadd, 1)) (by decide +kernel))
theorem e_144_22 : Df d 144 22 [l0, l1, .int x] st h nx = Df d 144 23 [l0, l1, .int x] (.int x :: st) h nx := D_iload_n (ins_of mc_144 (pc := 22) (x := (.iload_n 2, 1)) (by decide +kernel)) rfl
theorem e_144_23 : Df d 144 23 [l0, l1, l2] [v1, v0, .ref a] h nx = if ck h a 9 = true then cn d 144 26 [l0, l1, l2] [] (Dn d 142 [.ref a, v0, v1] h nx) else none := D_virtual (k1 := 142) (ins_of mc_144 (pc := 23) (x := (.invokevirtual 132, 3)) (by decide +kernel)) mo_144 (by decide +kernel) (by decide) rfl rfl (by decide) rfl (Nat.le_of_ble_eq_true rfl) rfl
theorem e_144_26 : Df d 144 26 [l0, l1, l2] st h nx = Df d 144 31 [l0, l1, l2] st h nx := D_goto (ins_of mc_144 (pc := 26) (x := (.goto 5, 3)) (by decide +kernel)) (by decide)
theorem e_144_29 : Df d 144 29 [l0, l1, l2] st h nx = Df d 144 31 [l0, l1, l2] (.int (-1000000001) :: st) h nx := D_ldc (ins_of mc_144 (pc := 29) (x := (.ldc 88, 2)) (by decide +kernel)) mo_144 (by decide +kernel)
theorem e_144_31 : Df d 144 31 [l0, l1, l2] [.int x] h nx = some (some (.int x), h, nx) := D_ireturn (ins_of mc_144 (pc := 31) (x := (.ireturn, 1)) (by decide +kernel)) mr_144
theorem mc_145 : mC 145 = prog_11_method_7_code := rfl
theorem mo_145 : mO 145 = 9 := rfl
theorem ml_145 : mL 145 = 1 := rfl
theorem mr_145 : mR 145 = (some .boolean) := rfl
theorem ma_145 : mA 145 = 1 := rfl
theorem e_145_0 : Df d 145 0 [.int x] st h nx = Df d 145 1 [.int x] (.int x :: st) h nx := D_iload_n (ins_of mc_145 (pc := 0) (x := (.iload_n 0, 1)) (by decide +kernel)) rfl
theorem e_145_1 : Df d 145 1 [l0] st h nx = Df d 145 2 [l0] (.int 0 :: st) h nx := D_iconst (ins_of mc_145 (pc := 1) (x := (.iconst 0, 1)) (by decide +kernel)) (by decide)
theorem e_145_2 : Df d 145 2 [l0] st h nx = Df d 145 4 [l0] (.int 23 :: st) h nx := D_bipush (ins_of mc_145 (pc := 2) (x := (.bipush 23, 2)) (by decide +kernel)) (by decide)
theorem e_145_4 : Df d 145 4 [l0] [v2, v1, v0] h nx = cn d 145 7 [l0] [] (Dn d 123 [v0, v1, v2] h nx) := D_static (k1 := 123) (kd := 1) (ins_of mc_145 (pc := 4) (x := (.invokestatic 76, 3)) (by decide +kernel)) mo_145 (by decide +kernel) (by decide) rfl (Nat.le_of_ble_eq_true rfl) rfl (Nat.le_of_ble_eq_true rfl) rfl
theorem e_145_7 : Df d 145 7 [l0] [.int x] h nx = if nR .boolean x = true then some (some (.int x), h, nx) else none := D_zreturn (ins_of mc_145 (pc := 7) (x := (.ireturn, 1)) (by decide +kernel)) mr_145
theorem mc_146 : mC 146 = prog_11_method_26_code := rfl
theorem mo_146 : mO 146 = 9 := rfl
theorem ml_146 : mL 146 = 5 := rfl
theorem mr_146 : mR 146 = (some .int) := rfl
theorem ma_146 : mA 146 = 2 := rfl
theorem e_146_0 : Df d 146 0 [l0, .int x, l2, l3, l4] st h nx = Df d 146 1 [l0, .int x, l2, l3, l4] (.int x :: st) h nx := D_iload_n (ins_of mc_146 (pc := 0) (x := (.iload_n 1, 1)) (by decide +kernel)) rfl
theorem e_146_1 : Df d 146 1 [l0, l1, l2, l3, l4] st h nx = Df d 146 2 [l0, l1, l2, l3, l4] (.int 1 :: st) h nx := D_iconst (ins_of mc_146 (pc := 1) (x := (.iconst 1, 1)) (by decide +kernel)) (by decide)
theorem e_146_2 : Df d 146 2 [l0, l1, l2, l3, l4] (.int y :: .int x :: st) h nx = if x = y then Df d 146 5 [l0, l1, l2, l3, l4] st h nx else Df d 146 9 [l0, l1, l2, l3, l4] st h nx := D_icmp_ne (ins_of mc_146 (pc := 2) (x := (.if_icmp .ne 7, 3)) (by decide +kernel)) (by decide)
theorem e_146_5 : Df d 146 5 [l0, l1, l2, l3, l4] st h nx = Df d 146 6 [l0, l1, l2, l3, l4] (.int 1 :: st) h nx := D_iconst (ins_of mc_146 (pc := 5) (x := (.iconst 1, 1)) (by decide +kernel)) (by decide)
theorem e_146_6 : Df d 146 6 [l0, l1, l2, l3, l4] st h nx = Df d 146 20 [l0, l1, l2, l3, l4] st h nx := D_goto (ins_of mc_146 (pc := 6) (x := (.goto 14, 3)) (by decide +kernel)) (by decide)
theorem e_146_9 : Df d 146 9 [l0, .int x, l2, l3, l4] st h nx = Df d 146 10 [l0, .int x, l2, l3, l4] (.int x :: st) h nx := D_iload_n (ins_of mc_146 (pc := 9) (x := (.iload_n 1, 1)) (by decide +kernel)) rfl
theorem e_146_10 : Df d 146 10 [l0, l1, l2, l3, l4] st h nx = Df d 146 11 [l0, l1, l2, l3, l4] (.int 3 :: st) h nx := D_iconst (ins_of mc_146 (pc := 10) (x := (.iconst 3, 1)) (by decide +kernel)) (by decide)
theorem e_146_11 : Df d 146 11 [l0, l1, l2, l3, l4] (.int y :: .int x :: st) h nx = if x = y then Df d 146 14 [l0, l1, l2, l3, l4] st h nx else Df d 146 19 [l0, l1, l2, l3, l4] st h nx := D_icmp_ne (ins_of mc_146 (pc := 11) (x := (.if_icmp .ne 8, 3)) (by decide +kernel)) (by decide)
theorem e_146_14 : Df d 146 14 [l0, l1, l2, l3, l4] st h nx = Df d 146 16 [l0, l1, l2, l3, l4] (.int 20 :: st) h nx := D_bipush (ins_of mc_146 (pc := 14) (x := (.bipush 20, 2)) (by decide +kernel)) (by decide)
theorem e_146_16 : Df d 146 16 [l0, l1, l2, l3, l4] st h nx = Df d 146 20 [l0, l1, l2, l3, l4] st h nx := D_goto (ins_of mc_146 (pc := 16) (x := (.goto 4, 3)) (by decide +kernel)) (by decide)
theorem e_146_19 : Df d 146 19 [l0, l1, l2, l3, l4] st h nx = Df d 146 20 [l0, l1, l2, l3, l4] (.int 0 :: st) h nx := D_iconst (ins_of mc_146 (pc := 19) (x := (.iconst 0, 1)) (by decide +kernel)) (by decide)
theorem e_146_20 (hn : nr l3 = true) : Df d 146 20 [l0, l1, l2, l3, l4] (.int x :: st) h nx = Df d 146 21 [l0, l1, l2, .int x, l4] st h nx := D_istore_n (ins_of mc_146 (pc := 20) (x := (.istore_n 3, 1)) (by decide +kernel)) rfl hn rfl
theorem e_146_21 : Df d 146 21 [l0, .int x, l2, l3, l4] st h nx = Df d 146 22 [l0, .int x, l2, l3, l4] (.int x :: st) h nx := D_iload_n (ins_of mc_146 (pc := 21) (x := (.iload_n 1, 1)) (by decide +kernel)) rfl
theorem e_146_22 : Df d 146 22 [l0, l1, l2, l3, l4] st h nx = Df d 146 23 [l0, l1, l2, l3, l4] (.int 2 :: st) h nx := D_iconst (ins_of mc_146 (pc := 22) (x := (.iconst 2, 1)) (by decide +kernel)) (by decide)
theorem e_146_23 : Df d 146 23 [l0, l1, l2, l3, l4] (.int y :: .int x :: st) h nx = if y ≤ x then Df d 146 31 [l0, l1, l2, l3, l4] st h nx else Df d 146 26 [l0, l1, l2, l3, l4] st h nx := D_icmp_ge (ins_of mc_146 (pc := 23) (x := (.if_icmp .ge 8, 3)) (by decide +kernel)) (by decide)
theorem e_146_26 : Df d 146 26 [l0, l1, l2, l3, l4] st h nx = Df d 146 28 [l0, l1, l2, l3, l4] (.int 9 :: st) h nx := D_bipush (ins_of mc_146 (pc := 26) (x := (.bipush 9, 2)) (by decide +kernel)) (by decide)
theorem e_146_28 : Df d 146 28 [l0, l1, l2, l3, l4] st h nx = Df d 146 53 [l0, l1, l2, l3, l4] st h nx := D_goto (ins_of mc_146 (pc := 28) (x := (.goto 25, 3)) (by decide +kernel)) (by decide)
theorem e_146_31 : Df d 146 31 [l0, .int x, l2, l3, l4] st h nx = Df d 146 32 [l0, .int x, l2, l3, l4] (.int x :: st) h nx := D_iload_n (ins_of mc_146 (pc := 31) (x := (.iload_n 1, 1)) (by decide +kernel)) rfl
theorem e_146_32 : Df d 146 32 [l0, l1, l2, l3, l4] st h nx = Df d 146 33 [l0, l1, l2, l3, l4] (.int 2 :: st) h nx := D_iconst (ins_of mc_146 (pc := 32) (x := (.iconst 2, 1)) (by decide +kernel)) (by decide)
theorem e_146_33 : Df d 146 33 [l0, l1, l2, l3, l4] (.int y :: .int x :: st) h nx = if x = y then Df d 146 36 [l0, l1, l2, l3, l4] st h nx else Df d 146 41 [l0, l1, l2, l3, l4] st h nx := D_icmp_ne (ins_of mc_146 (pc := 33) (x := (.if_icmp .ne 8, 3)) (by decide +kernel)) (by decide)
theorem e_146_36 : Df d 146 36 [l0, l1, l2, l3, l4] st h nx = Df d 146 38 [l0, l1, l2, l3, l4] (.int 100 :: st) h nx := D_bipush (ins_of mc_146 (pc := 36) (x := (.bipush 100, 2)) (by decide +kernel)) (by decide)
theorem e_146_38 : Df d 146 38 [l0, l1, l2, l3, l4] st h nx = Df d 146 53 [l0, l1, l2, l3, l4] st h nx := D_goto (ins_of mc_146 (pc := 38) (x := (.goto 15, 3)) (by decide +kernel)) (by decide)
theorem e_146_41 : Df d 146 41 [l0, .int x, l2, l3, l4] st h nx = Df d 146 42 [l0, .int x, l2, l3, l4] (.int x :: st) h nx := D_iload_n (ins_of mc_146 (pc := 41) (x := (.iload_n 1, 1)) (by decide +kernel)) rfl
theorem e_146_42 : Df d 146 42 [l0, l1, l2, l3, l4] st h nx = Df d 146 43 [l0, l1, l2, l3, l4] (.int 3 :: st) h nx := D_iconst (ins_of mc_146 (pc := 42) (x := (.iconst 3, 1)) (by decide +kernel)) (by decide)
theorem e_146_43 : Df d 146 43 [l0, l1, l2, l3, l4] (.int y :: .int x :: st) h nx = if x = y then Df d 146 46 [l0, l1, l2, l3, l4] st h nx else Df d 146 51 [l0, l1, l2, l3, l4] st h nx := D_icmp_ne (ins_of mc_146 (pc := 43) (x := (.if_icmp .ne 8, 3)) (by decide +kernel)) (by decide)
theorem e_146_46 : Df d 146 46 [l0, l1, l2, l3, l4] st h nx = Df d 146 48 [l0, l1, l2, l3, l4] (.int 99 :: st) h nx := D_bipush (ins_of mc_146 (pc := 46) (x := (.bipush 99, 2)) (by decide +kernel)) (by decide)
theorem e_146_48 : Df d 146 48 [l0, l1, l2, l3, l4] st h nx = Df d 146 53 [l0, l1, l2, l3, l4] st h nx := D_goto (ins_of mc_146 (pc := 48) (x := (.goto 5, 3)) (by decide +kernel)) (by decide)
theorem e_146_51 : Df d 146 51 [l0, l1, l2, l3, l4] st h nx = Df d 146 53 [l0, l1, l2, l3, l4] (.int 23 :: st) h nx := D_bipush (ins_of mc_146 (pc := 51) (x := (.bipush 23, 2)) (by decide +kernel)) (by decide)
theorem e_146_53 (hn : nr l4 = true) : Df d 146 53 [l0, l1, l2, l3, l4] (.int x :: st) h nx = Df d 146 55 [l0, l1, l2, l3, .int x] st h nx := D_istore (ins_of mc_146 (pc := 53) (x := (.istore 4, 2)) (by decide +kernel)) rfl hn rfl
theorem e_146_55 : Df d 146 55 [l0, .int x, l2, l3, l4] st h nx = Df d 146 56 [l0, .int x, l2, l3, l4] (.int x :: st) h nx := D_iload_n (ins_of mc_146 (pc := 55) (x := (.iload_n 1, 1)) (by decide +kernel)) rfl
theorem e_146_56 : Df d 146 56 [l0, l1, l2, l3, l4] st h nx = Df d 146 57 [l0, l1, l2, l3, l4] (.int 0 :: st) h nx := D_iconst (ins_of mc_146 (pc := 56) (x := (.iconst 0, 1)) (by decide +kernel)) (by decide)
theorem e_146_57 : Df d 146 57 [l0, l1, l2, l3, l4] st h nx = Df d 146 58 [l0, l1, l2, l3, l4] (.int 4 :: st) h nx := D_iconst (ins_of mc_146 (pc := 57) (x := (.iconst 4, 1)) (by decide +kernel)) (by decide)
theorem e_146_58 : Df d 146 58 [l0, l1, l2, l3, l4] [v2, v1, v0] h nx = cn d 146 61 [l0, l1, l2, l3, l4] [] (Dn d 123 [v0, v1, v2] h nx) := D_static (k1 := 123) (kd := 1) (ins_of mc_146 (pc := 58) (x := (.invokestatic 76, 3)) (by decide +kernel)) mo_146 (by decide +kernel) (by decide) rfl (Nat.le_of_ble_eq_true rfl) rfl (Nat.le_of_ble_eq_true rfl) rfl
theorem e_146_61 : Df d 146 61 [l0, l1, l2, l3, l4] (.int x :: st) h nx = if x = 0 then Df d 146 85 [l0, l1, l2, l3, l4] st h nx else Df d 146 64 [l0, l1, l2, l3, l4] st h nx := D_if_eq (ins_of mc_146 (pc := 61) (x := (.ifCond .eq 24, 3)) (by decide +kernel)) (by decide)
theorem e_146_64 : Df d 146 64 [l0, l1, .int x, l3, l4] st h nx = Df d 146 65 [l0, l1, .int x, l3, l4] (.int x :: st) h nx := D_iload_n (ins_of mc_146 (pc := 64) (x := (.iload_n 2, 1)) (by decide +kernel)) rfl
theorem e_146_65 : Df d 146 65 [l0, l1, l2, .int x, l4] st h nx = Df d 146 66 [l0, l1, l2, .int x, l4] (.int x :: st) h nx := D_iload_n (ins_of mc_146 (pc := 65) (x := (.iload_n 3, 1)) (by decide +kernel)) rfl
theorem e_146_66 : Df d 146 66 [l0, l1, l2, l3, .int x] st h nx = Df d 146 68 [l0, l1, l2, l3, .int x] (.int x :: st) h nx := D_iload (ins_of mc_146 (pc := 66) (x := (.iload 4, 2)) (by decide +kernel)) rfl
theorem e_146_68 : Df d 146 68 [l0, l1, l2, l3, l4] [v2, v1, v0] h nx = cn d 146 71 [l0, l1, l2, l3, l4] [] (Dn d 123 [v0, v1, v2] h nx) := D_static (k1 := 123) (kd := 1) (ins_of mc_146 (pc := 68) (x := (.invokestatic 76, 3)) (by decide +kernel)) mo_146 (by decide +kernel) (by decide) rfl (Nat.le_of_ble_eq_true rfl) rfl (Nat.le_of_ble_eq_true rfl) rfl
theorem e_146_71 : Df d 146 71 [l0, l1, l2, l3, l4] (.int x :: st) h nx = if x = 0 then Df d 146 85 [l0, l1, l2, l3, l4] st h nx else Df d 146 74 [l0, l1, l2, l3, l4] st h nx := D_if_eq (ins_of mc_146 (pc := 71) (x := (.ifCond .eq 14, 3)) (by decide +kernel)) (by decide)
theorem e_146_74 : Df d 146 74 [.ref a, l1, l2, l3, l4] st h nx = Df d 146 75 [.ref a, l1, l2, l3, l4] (.ref a :: st) h nx := D_aload_n (ins_of mc_146 (pc := 74) (x := (.aload_n 0, 1)) (by decide +kernel)) rfl
theorem e_146_75 : Df d 146 75 [l0, l1, l2, l3, l4] st h nx = Df d 146 76 [l0, l1, l2, l3, l4] (.int 3 :: st) h nx := D_iconst (ins_of mc_146 (pc := 75) (x := (.iconst 3, 1)) (by decide +kernel)) (by decide)
theorem e_146_76 : Df d 146 76 [l0, .int x, l2, l3, l4] st h nx = Df d 146 77 [l0, .int x, l2, l3, l4] (.int x :: st) h nx := D_iload_n (ins_of mc_146 (pc := 76) (x := (.iload_n 1, 1)) (by decide +kernel)) rfl
theorem e_146_77 : Df d 146 77 [l0, l1, l2, l3, l4] (.int y :: .int x :: st) h nx = Df d 146 78 [l0, l1, l2, l3, l4] (.int (x + y) :: st) h nx := D_iadd (ins_of mc_146 (pc := 77) (x := (.iadd, 1)) (by decide +kernel))
theorem e_146_78 : Df d 146 78 [l0, l1, .int x, l3, l4] st h nx = Df d 146 79 [l0, l1, .int x, l3, l4] (.int x :: st) h nx := D_iload_n (ins_of mc_146 (pc := 78) (x := (.iload_n 2, 1)) (by decide +kernel)) rfl
theorem e_146_79 : Df d 146 79 [l0, l1, l2, l3, l4] [v1, v0, .ref a] h nx = if ck h a 9 = true then cn d 146 82 [l0, l1, l2, l3, l4] [] (Dn d 142 [.ref a, v0, v1] h nx) else none := D_virtual (k1 := 142) (ins_of mc_146 (pc := 79) (x := (.invokevirtual 132, 3)) (by decide +kernel)) mo_146 (by decide +kernel) (by decide) rfl rfl (by decide) rfl (Nat.le_of_ble_eq_true rfl) rfl
theorem e_146_82 : Df d 146 82 [l0, l1, l2, l3, l4] st h nx = Df d 146 87 [l0, l1, l2, l3, l4] st h nx := D_goto (ins_of mc_146 (pc := 82) (x := (.goto 5, 3)) (by decide +kernel)) (by decide)
theorem e_146_85 : Df d 146 85 [l0, l1, l2, l3, l4] st h nx = Df d 146 87 [l0, l1, l2, l3, l4] (.int (-1000000001) :: st) h nx := D_ldc (ins_of mc_146 (pc := 85) (x := (.ldc 88, 2)) (by decide +kernel)) mo_146 (by decide +kernel)
theorem e_146_87 : Df d 146 87 [l0, l1, l2, l3, l4] [.int x] h nx = some (some (.int x), h, nx) := D_ireturn (ins_of mc_146 (pc := 87) (x := (.ireturn, 1)) (by decide +kernel)) mr_146
theorem mc_147 : mC 147 = prog_11_method_28_code := rfl
theorem mo_147 : mO 147 = 9 := rfl
theorem ml_147 : mL 147 = 6 := rfl
theorem mr_147 : mR 147 = (some .int) := rfl
theorem ma_147 : mA 147 = 1 := rfl
theorem e_147_0 : Df d 147 0 [l0, .int x, l2, l3, l4, l5] st h nx = Df d 147 1 [l0, .int x, l2, l3, l4, l5] (.int x :: st) h nx := D_iload_n (ins_of mc_147 (pc := 0) (x := (.iload_n 1, 1)) (by decide +kernel)) rfl
theorem e_147_1 : Df d 147 1 [l0, l1, l2, l3, l4, l5] st h nx = Df d 147 2 [l0, l1, l2, l3, l4, l5] (.int 1 :: st) h nx := D_iconst (ins_of mc_147 (pc := 1) (x := (.iconst 1, 1)) (by decide +kernel)) (by decide)
theorem e_147_2 : Df d 147 2 [l0, l1, l2, l3, l4, l5] st h nx = Df d 147 4 [l0, l1, l2, l3, l4, l5] (.int 10 :: st) h nx := D_bipush (ins_of mc_147 (pc := 2) (x := (.bipush 10, 2)) (by decide +kernel)) (by decide)
theorem e_147_4 : Df d 147 4 [l0, l1, l2, l3, l4, l5] [v2, v1, v0] h nx = cn d 147 7 [l0, l1, l2, l3, l4, l5] [] (Dn d 123 [v0, v1, v2] h nx) := D_static (k1 := 123) (kd := 1) (ins_of mc_147 (pc := 4) (x := (.invokestatic 76, 3)) (by decide +kernel)) mo_147 (by decide +kernel) (by decide) rfl (Nat.le_of_ble_eq_true rfl) rfl (Nat.le_of_ble_eq_true rfl) rfl
theorem e_147_7 : Df d 147 7 [l0, l1, l2, l3, l4, l5] (.int x :: st) h nx = if x = 0 then Df d 147 10 [l0, l1, l2, l3, l4, l5] st h nx else Df d 147 13 [l0, l1, l2, l3, l4, l5] st h nx := D_if_ne (ins_of mc_147 (pc := 7) (x := (.ifCond .ne 6, 3)) (by decide +kernel)) (by decide)
theorem e_147_10 : Df d 147 10 [l0, l1, l2, l3, l4, l5] st h nx = Df d 147 12 [l0, l1, l2, l3, l4, l5] (.int (-1000000001) :: st) h nx := D_ldc (ins_of mc_147 (pc := 10) (x := (.ldc 88, 2)) (by decide +kernel)) mo_147 (by decide +kernel)
theorem e_147_12 : Df d 147 12 [l0, l1, l2, l3, l4, l5] [.int x] h nx = some (some (.int x), h, nx) := D_ireturn (ins_of mc_147 (pc := 12) (x := (.ireturn, 1)) (by decide +kernel)) mr_147
theorem e_147_13 : Df d 147 13 [l0, l1, l2, l3, l4, l5] st h nx = Df d 147 14 [l0, l1, l2, l3, l4, l5] (.int 0 :: st) h nx := D_iconst (ins_of mc_147 (pc := 13) (x := (.iconst 0, 1)) (by decide +kernel)) (by decide)
theorem e_147_14 (hn : nr l2 = true) : Df d 147 14 [l0, l1, l2, l3, l4, l5] (.int x :: st) h nx = Df d 147 15 [l0, l1, .int x, l3, l4, l5] st h nx := D_istore_n (ins_of mc_147 (pc := 14) (x := (.istore_n 2, 1)) (by decide +kernel)) rfl hn rfl
theorem e_147_15 : Df d 147 15 [l0, l1, .int x, l3, l4, l5] st h nx = Df d 147 16 [l0, l1, .int x, l3, l4, l5] (.int x :: st) h nx := D_iload_n (ins_of mc_147 (pc := 15) (x := (.iload_n 2, 1)) (by decide +kernel)) rfl
theorem e_147_16 : Df d 147 16 [l0, .int x, l2, l3, l4, l5] st h nx = Df d 147 17 [l0, .int x, l2, l3, l4, l5] (.int x :: st) h nx := D_iload_n (ins_of mc_147 (pc := 16) (x := (.iload_n 1, 1)) (by decide +kernel)) rfl
theorem e_147_17 : Df d 147 17 [l0, l1, l2, l3, l4, l5] (.int y :: .int x :: st) h nx = if y ≤ x then Df d 147 70 [l0, l1, l2, l3, l4, l5] st h nx else Df d 147 20 [l0, l1, l2, l3, l4, l5] st h nx := D_icmp_ge (ins_of mc_147 (pc := 17) (x := (.if_icmp .ge 53, 3)) (by decide +kernel)) (by decide)
theorem e_147_20 : Df d 147 20 [.ref a, l1, l2, l3, l4, l5] st h nx = Df d 147 21 [.ref a, l1, l2, l3, l4, l5] (.ref a :: st) h nx := D_aload_n (ins_of mc_147 (pc := 20) (x := (.aload_n 0, 1)) (by decide +kernel)) rfl
theorem e_147_21 : Df d 147 21 [l0, l1, l2, l3, l4, l5] (.ref a :: st) h nx = (gF h a 9 0).bind fun v => Df d 147 24 [l0, l1, l2, l3, l4, l5] (v :: st) h nx := D_getfield (ins_of mc_147 (pc := 21) (x := (.getfield 9, 3)) (by decide +kernel)) mo_147 (by decide +kernel)
theorem e_147_24 : Df d 147 24 [l0, l1, l2, l3, l4, l5] st h nx = Df d 147 25 [l0, l1, l2, l3, l4, l5] (.int 1 :: st) h nx := D_iconst (ins_of mc_147 (pc := 24) (x := (.iconst 1, 1)) (by decide +kernel)) (by decide)
theorem e_147_25 : Df d 147 25 [l0, l1, l2, l3, l4, l5] (.int x :: .ref a :: st) h nx = (rX h a x).bind fun v => Df d 147 26 [l0, l1, l2, l3, l4, l5] (.int v :: st) h nx := D_iaload (ins_of mc_147 (pc := 25) (x := (.iaload, 1)) (by decide +kernel))
theorem e_147_26 : Df d 147 26 [l0, l1, l2, l3, l4, l5] st h nx = Df d 147 28 [l0, l1, l2, l3, l4, l5] (.int 10 :: st) h nx := D_bipush (ins_of mc_147 (pc := 26) (x := (.bipush 10, 2)) (by decide +kernel)) (by decide)
theorem e_147_28 : Df d 147 28 [l0, l1, l2, l3, l4, l5] (.int y :: .int x :: st) h nx = if y ≤ x then Df d 147 70 [l0, l1, l2, l3, l4, l5] st h nx else Df d 147 31 [l0, l1, l2, l3, l4, l5] st h nx := D_icmp_ge (ins_of mc_147 (pc := 28) (x := (.if_icmp .ge 42, 3)) (by decide +kernel)) (by decide)
theorem e_147_31 : Df d 147 31 [.ref a, l1, l2, l3, l4, l5] st h nx = Df d 147 32 [.ref a, l1, l2, l3, l4, l5] (.ref a :: st) h nx := D_aload_n (ins_of mc_147 (pc := 31) (x := (.aload_n 0, 1)) (by decide +kernel)) rfl
theorem e_147_32 : Df d 147 32 [l0, l1, l2, l3, l4, l5] [.ref a] h nx = if ck h a 9 = true then cn d 147 35 [l0, l1, l2, l3, l4, l5] [] (Dn d 148 [.ref a] h nx) else none := D_virtual (k1 := 148) (ins_of mc_147 (pc := 32) (x := (.invokevirtual 139, 3)) (by decide +kernel)) mo_147 (by decide +kernel) (by decide) rfl rfl (by decide) rfl (Nat.le_of_ble_eq_true rfl) rfl
theorem e_147_35 : Df d 147 35 [l0, l1, l2, l3, l4, l5] st h nx = Df d 147 37 [l0, l1, l2, l3, l4, l5] (.int 6 :: st) h nx := D_bipush (ins_of mc_147 (pc := 35) (x := (.bipush 6, 2)) (by decide +kernel)) (by decide)
theorem e_147_37 : Df d 147 37 [l0, l1, l2, l3, l4, l5] (.int y :: .int x :: st) h nx = if y = 0 then none else Df d 147 38 [l0, l1, l2, l3, l4, l5] (.int (x - x / y * y) :: st) h nx := D_irem (ins_of mc_147 (pc := 37) (x := (.irem, 1)) (by decide +kernel))
theorem e_147_38 (hn : nr l3 = true) : Df d 147 38 [l0, l1, l2, l3, l4, l5] (.int x :: st) h nx = Df d 147 39 [l0, l1, l2, .int x, l4, l5] st h nx := D_istore_n (ins_of mc_147 (pc := 38) (x := (.istore_n 3, 1)) (by decide +kernel)) rfl hn rfl
theorem e_147_39 : Df d 147 39 [.ref a, l1, l2, l3, l4, l5] st h nx = Df d 147 40 [.ref a, l1, l2, l3, l4, l5] (.ref a :: st) h nx := D_aload_n (ins_of mc_147 (pc := 39) (x := (.aload_n 0, 1)) (by decide +kernel)) rfl
theorem e_147_40 : Df d 147 40 [l0, l1, l2, l3, l4, l5] [.ref a] h nx = if ck h a 9 = true then cn d 147 43 [l0, l1, l2, l3, l4, l5] [] (Dn d 148 [.ref a] h nx) else none := D_virtual (k1 := 148) (ins_of mc_147 (pc := 40) (x := (.invokevirtual 139, 3)) (by decide +kernel)) mo_147 (by decide +kernel) (by decide) rfl rfl (by decide) rfl (Nat.le_of_ble_eq_true rfl) rfl
theorem e_147_43 : Df d 147 43 [l0, l1, l2, l3, l4, l5] st h nx = Df d 147 45 [l0, l1, l2, l3, l4, l5] (.int 31 :: st) h nx := D_bipush (ins_of mc_147 (pc := 43) (x := (.bipush 31, 2)) (by decide +kernel)) (by decide)
theorem e_147_45 : Df d 147 45 [l0, l1, l2, l3, l4, l5] (.int y :: .int x :: st) h nx = if y = 0 then none else Df d 147 46 [l0, l1, l2, l3, l4, l5] (.int (x - x / y * y) :: st) h nx := D_irem (ins_of mc_147 (pc := 45) (x := (.irem, 1)) (by decide +kernel))
theorem e_147_46 (hn : nr l4 = true) : Df d 147 46 [l0, l1, l2, l3, l4, l5] (.int x :: st) h nx = Df d 147 48 [l0, l1, l2, l3, .int x, l5] st h nx := D_istore (ins_of mc_147 (pc := 46) (x := (.istore 4, 2)) (by decide +kernel)) rfl hn rfl
theorem e_147_48 : Df d 147 48 [.ref a, l1, l2, l3, l4, l5] st h nx = Df d 147 49 [.ref a, l1, l2, l3, l4, l5] (.ref a :: st) h nx := D_aload_n (ins_of mc_147 (pc := 48) (x := (.aload_n 0, 1)) (by decide +kernel)) rfl
theorem e_147_49 : Df d 147 49 [l0, l1, l2, .int x, l4, l5] st h nx = Df d 147 50 [l0, l1, l2, .int x, l4, l5] (.int x :: st) h nx := D_iload_n (ins_of mc_147 (pc := 49) (x := (.iload_n 3, 1)) (by decide +kernel)) rfl
theorem e_147_50 : Df d 147 50 [l0, l1, l2, l3, .int x, l5] st h nx = Df d 147 52 [l0, l1, l2, l3, .int x, l5] (.int x :: st) h nx := D_iload (ins_of mc_147 (pc := 50) (x := (.iload 4, 2)) (by decide +kernel)) rfl
theorem e_147_52 : Df d 147 52 [.ref a, l1, l2, l3, l4, l5] st h nx = Df d 147 53 [.ref a, l1, l2, l3, l4, l5] (.ref a :: st) h nx := D_aload_n (ins_of mc_147 (pc := 52) (x := (.aload_n 0, 1)) (by decide +kernel)) rfl
theorem e_147_53 : Df d 147 53 [l0, l1, l2, l3, l4, l5] [.ref a, s0, s1, s2] h nx = if ck h a 9 = true then cn d 147 56 [l0, l1, l2, l3, l4, l5] [s0, s1, s2] (Dn d 148 [.ref a] h nx) else none := D_virtual (k1 := 148) (ins_of mc_147 (pc := 53) (x := (.invokevirtual 139, 3)) (by decide +kernel)) mo_147 (by decide +kernel) (by decide) rfl rfl (by decide) rfl (Nat.le_of_ble_eq_true rfl) rfl
theorem e_147_56 : Df d 147 56 [l0, l1, l2, l3, l4, l5] st h nx = Df d 147 58 [l0, l1, l2, l3, l4, l5] (.int 25 :: st) h nx := D_bipush (ins_of mc_147 (pc := 56) (x := (.bipush 25, 2)) (by decide +kernel)) (by decide)
theorem e_147_58 : Df d 147 58 [l0, l1, l2, l3, l4, l5] (.int y :: .int x :: st) h nx = if y = 0 then none else Df d 147 59 [l0, l1, l2, l3, l4, l5] (.int (x - x / y * y) :: st) h nx := D_irem (ins_of mc_147 (pc := 58) (x := (.irem, 1)) (by decide +kernel))
theorem e_147_59 : Df d 147 59 [l0, l1, l2, l3, l4, l5] [v2, v1, v0, .ref a] h nx = if ck h a 9 = true then cn d 147 62 [l0, l1, l2, l3, l4, l5] [] (Dn d 124 [.ref a, v0, v1, v2] h nx) else none := D_virtual (k1 := 124) (ins_of mc_147 (pc := 59) (x := (.invokevirtual 90, 3)) (by decide +kernel)) mo_147 (by decide +kernel) (by decide) rfl rfl (by decide) rfl (Nat.le_of_ble_eq_true rfl) rfl
theorem e_147_62 (hn : nr l5 = true) : Df d 147 62 [l0, l1, l2, l3, l4, l5] (.int x :: st) h nx = Df d 147 64 [l0, l1, l2, l3, l4, .int x] st h nx := D_istore (ins_of mc_147 (pc := 62) (x := (.istore 5, 2)) (by decide +kernel)) rfl hn rfl
theorem e_147_64 : Df d 147 64 [l0, l1, .int x, l3, l4, l5] st h nx = Df d 147 67 [l0, l1, .int (x + 1), l3, l4, l5] st h nx := D_iinc (ins_of mc_147 (pc := 64) (x := (.iinc 2 1, 3)) (by decide +kernel)) rfl (by decide) rfl
theorem e_147_67 : Df d 147 67 [l0, l1, l2, l3, l4, l5] st h nx = Df d 147 15 [l0, l1, l2, l3, l4, l5] st h nx := D_goto (ins_of mc_147 (pc := 67) (x := (.goto (-52), 3)) (by decide +kernel)) (by decide)
theorem e_147_70 : Df d 147 70 [l0, l1, .int x, l3, l4, l5] st h nx = Df d 147 71 [l0, l1, .int x, l3, l4, l5] (.int x :: st) h nx := D_iload_n (ins_of mc_147 (pc := 70) (x := (.iload_n 2, 1)) (by decide +kernel)) rfl
theorem e_147_71 : Df d 147 71 [l0, l1, l2, l3, l4, l5] [.int x] h nx = some (some (.int x), h, nx) := D_ireturn (ins_of mc_147 (pc := 71) (x := (.ireturn, 1)) (by decide +kernel)) mr_147
theorem mc_148 : mC 148 = prog_11_method_27_code := rfl
theorem mo_148 : mO 148 = 9 := rfl
theorem ml_148 : mL 148 = 1 := rfl
theorem mr_148 : mR 148 = (some .int) := rfl
theorem ma_148 : mA 148 = 0 := rfl
theorem e_148_0 : Df d 148 0 [.ref a] st h nx = Df d 148 1 [.ref a] (.ref a :: st) h nx := D_aload_n (ins_of mc_148 (pc := 0) (x := (.aload_n 0, 1)) (by decide +kernel)) rfl
theorem e_148_1 : Df d 148 1 [l0] (.ref a :: st) h nx = (gF h a 9 0).bind fun v => Df d 148 4 [l0] (v :: st) h nx := D_getfield (ins_of mc_148 (pc := 1) (x := (.getfield 9, 3)) (by decide +kernel)) mo_148 (by decide +kernel)
theorem e_148_4 : Df d 148 4 [l0] st h nx = Df d 148 5 [l0] (.int 0 :: st) h nx := D_iconst (ins_of mc_148 (pc := 4) (x := (.iconst 0, 1)) (by decide +kernel)) (by decide)
theorem e_148_5 : Df d 148 5 [.ref a] st h nx = Df d 148 6 [.ref a] (.ref a :: st) h nx := D_aload_n (ins_of mc_148 (pc := 5) (x := (.aload_n 0, 1)) (by decide +kernel)) rfl
theorem e_148_6 : Df d 148 6 [l0] (.ref a :: st) h nx = (gF h a 9 0).bind fun v => Df d 148 9 [l0] (v :: st) h nx := D_getfield (ins_of mc_148 (pc := 6) (x := (.getfield 9, 3)) (by decide +kernel)) mo_148 (by decide +kernel)
theorem e_148_9 : Df d 148 9 [l0] st h nx = Df d 148 10 [l0] (.int 0 :: st) h nx := D_iconst (ins_of mc_148 (pc := 9) (x := (.iconst 0, 1)) (by decide +kernel)) (by decide)
theorem e_148_10 : Df d 148 10 [l0] (.int x :: .ref a :: st) h nx = (rX h a x).bind fun v => Df d 148 11 [l0] (.int v :: st) h nx := D_iaload (ins_of mc_148 (pc := 10) (x := (.iaload, 1)) (by decide +kernel))
theorem e_148_11 : Df d 148 11 [l0] st h nx = Df d 148 13 [l0] (.int 1103515245 :: st) h nx := D_ldc (ins_of mc_148 (pc := 11) (x := (.ldc 138, 2)) (by decide +kernel)) mo_148 (by decide +kernel)
theorem e_148_13 : Df d 148 13 [l0] (.int y :: .int x :: st) h nx = Df d 148 14 [l0] (.int (x * y) :: st) h nx := D_imul (ins_of mc_148 (pc := 13) (x := (.imul, 1)) (by decide +kernel))
theorem e_148_14 : Df d 148 14 [l0] st h nx = Df d 148 17 [l0] (.int 12345 :: st) h nx := D_sipush (ins_of mc_148 (pc := 14) (x := (.sipush 12345, 3)) (by decide +kernel)) (by decide)
theorem e_148_17 : Df d 148 17 [l0] (.int y :: .int x :: st) h nx = Df d 148 18 [l0] (.int (x + y) :: st) h nx := D_iadd (ins_of mc_148 (pc := 17) (x := (.iadd, 1)) (by decide +kernel))
theorem e_148_18 : Df d 148 18 [l0] (.int y :: .int x :: .ref a :: st) h nx = (wI h a x 0 y).bind fun h => Df d 148 19 [l0] st h nx := D_iastore (ins_of mc_148 (pc := 18) (x := (.iastore, 1)) (by decide +kernel))
theorem e_148_19 : Df d 148 19 [.ref a] st h nx = Df d 148 20 [.ref a] (.ref a :: st) h nx := D_aload_n (ins_of mc_148 (pc := 19) (x := (.aload_n 0, 1)) (by decide +kernel)) rfl
theorem e_148_20 : Df d 148 20 [l0] (.ref a :: st) h nx = (gF h a 9 0).bind fun v => Df d 148 23 [l0] (v :: st) h nx := D_getfield (ins_of mc_148 (pc := 20) (x := (.getfield 9, 3)) (by decide +kernel)) mo_148 (by decide +kernel)
theorem e_148_23 : Df d 148 23 [l0] st h nx = Df d 148 24 [l0] (.int 0 :: st) h nx := D_iconst (ins_of mc_148 (pc := 23) (x := (.iconst 0, 1)) (by decide +kernel)) (by decide)
theorem e_148_24 : Df d 148 24 [l0] (.int x :: .ref a :: st) h nx = (rX h a x).bind fun v => Df d 148 25 [l0] (.int v :: st) h nx := D_iaload (ins_of mc_148 (pc := 24) (x := (.iaload, 1)) (by decide +kernel))
theorem e_148_25 : Df d 148 25 [l0] st h nx = Df d 148 27 [l0] (.int 8 :: st) h nx := D_bipush (ins_of mc_148 (pc := 25) (x := (.bipush 8, 2)) (by decide +kernel)) (by decide)
theorem e_148_27 : Df d 148 27 [l0] (.int y :: .int x :: st) h nx = Df d 148 28 [l0] (.int (x.toUInt32 >>> (y.toUInt32 &&& Int32.toUInt32 31)).toInt32 :: st) h nx := D_iushr (ins_of mc_148 (pc := 27) (x := (.iushr, 1)) (by decide +kernel))
theorem e_148_28 : Df d 148 28 [l0] [.int x] h nx = some (some (.int x), h, nx) := D_ireturn (ins_of mc_148 (pc := 28) (x := (.ireturn, 1)) (by decide +kernel)) mr_148
theorem mc_149 : mC 149 = prog_11_method_29_code := rfl
theorem mo_149 : mO 149 = 9 := rfl
theorem ml_149 : mL 149 = 2 := rfl
theorem mr_149 : mR 149 = (some .int) := rfl
theorem ma_149 : mA 149 = 1 := rfl
theorem e_149_0 : Df d 149 0 [.ref a, l1] st h nx = Df d 149 1 [.ref a, l1] (.ref a :: st) h nx := D_aload_n (ins_of mc_149 (pc := 0) (x := (.aload_n 0, 1)) (by decide +kernel)) rfl
theorem e_149_1 : Df d 149 1 [l0, l1] st h nx = Df d 149 2 [l0, l1] (.int 0 :: st) h nx := D_iconst (ins_of mc_149 (pc := 1) (x := (.iconst 0, 1)) (by decide +kernel)) (by decide)
theorem e_149_2 : Df d 149 2 [l0, .int x] st h nx = Df d 149 3 [l0, .int x] (.int x :: st) h nx := D_iload_n (ins_of mc_149 (pc := 2) (x := (.iload_n 1, 1)) (by decide +kernel)) rfl
theorem e_149_3 : Df d 149 3 [l0, l1] [v1, v0, .ref a] h nx = if ck h a 9 = true then cn d 149 6 [l0, l1] [] (Dn d 142 [.ref a, v0, v1] h nx) else none := D_virtual (k1 := 142) (ins_of mc_149 (pc := 3) (x := (.invokevirtual 132, 3)) (by decide +kernel)) mo_149 (by decide +kernel) (by decide) rfl rfl (by decide) rfl (Nat.le_of_ble_eq_true rfl) rfl
theorem e_149_6 : Df d 149 6 [l0, l1] [.int x] h nx = some (some (.int x), h, nx) := D_ireturn (ins_of mc_149 (pc := 6) (x := (.ireturn, 1)) (by decide +kernel)) mr_149
theorem mc_150 : mC 150 = prog_11_method_38_code := rfl
theorem mo_150 : mO 150 = 9 := rfl
theorem ml_150 : mL 150 = 3 := rfl
theorem mr_150 : mR 150 = (some .int) := rfl
theorem ma_150 : mA 150 = 1 := rfl
theorem e_150_0 : Df d 150 0 [l0, .int x, l2] st h nx = Df d 150 1 [l0, .int x, l2] (.int x :: st) h nx := D_iload_n (ins_of mc_150 (pc := 0) (x := (.iload_n 1, 1)) (by decide +kernel)) rfl
theorem e_150_1 : Df d 150 1 [l0, l1, l2] st h nx = Df d 150 2 [l0, l1, l2] (.int 1 :: st) h nx := D_iconst (ins_of mc_150 (pc := 1) (x := (.iconst 1, 1)) (by decide +kernel)) (by decide)
theorem e_150_2 : Df d 150 2 [l0, l1, l2] st h nx = Df d 150 4 [l0, l1, l2] (.int 100 :: st) h nx := D_bipush (ins_of mc_150 (pc := 2) (x := (.bipush 100, 2)) (by decide +kernel)) (by decide)
theorem e_150_4 : Df d 150 4 [l0, l1, l2] [v2, v1, v0] h nx = cn d 150 7 [l0, l1, l2] [] (Dn d 123 [v0, v1, v2] h nx) := D_static (k1 := 123) (kd := 1) (ins_of mc_150 (pc := 4) (x := (.invokestatic 76, 3)) (by decide +kernel)) mo_150 (by decide +kernel) (by decide) rfl (Nat.le_of_ble_eq_true rfl) rfl (Nat.le_of_ble_eq_true rfl) rfl
theorem e_150_7 : Df d 150 7 [l0, l1, l2] (.int x :: st) h nx = if x = 0 then Df d 150 10 [l0, l1, l2] st h nx else Df d 150 13 [l0, l1, l2] st h nx := D_if_ne (ins_of mc_150 (pc := 7) (x := (.ifCond .ne 6, 3)) (by decide +kernel)) (by decide)
theorem e_150_10 : Df d 150 10 [l0, l1, l2] st h nx = Df d 150 12 [l0, l1, l2] (.int (-1000000001) :: st) h nx := D_ldc (ins_of mc_150 (pc := 10) (x := (.ldc 88, 2)) (by decide +kernel)) mo_150 (by decide +kernel)
theorem e_150_12 : Df d 150 12 [l0, l1, l2] [.int x] h nx = some (some (.int x), h, nx) := D_ireturn (ins_of mc_150 (pc := 12) (x := (.ireturn, 1)) (by decide +kernel)) mr_150
theorem e_150_13 : Df d 150 13 [.ref a, l1, l2] st h nx = Df d 150 14 [.ref a, l1, l2] (.ref a :: st) h nx := D_aload_n (ins_of mc_150 (pc := 13) (x := (.aload_n 0, 1)) (by decide +kernel)) rfl
theorem e_150_14 : Df d 150 14 [l0, l1, l2] (.ref a :: st) h nx = (gF h a 9 0).bind fun v => Df d 150 17 [l0, l1, l2] (v :: st) h nx := D_getfield (ins_of mc_150 (pc := 14) (x := (.getfield 9, 3)) (by decide +kernel)) mo_150 (by decide +kernel)
theorem e_150_17 : Df d 150 17 [l0, l1, l2] st h nx = Df d 150 19 [l0, l1, l2] (.int 8 :: st) h nx := D_bipush (ins_of mc_150 (pc := 17) (x := (.bipush 8, 2)) (by decide +kernel)) (by decide)
theorem e_150_19 : Df d 150 19 [l0, l1, l2] (.int x :: .ref a :: st) h nx = (rX h a x).bind fun v => Df d 150 20 [l0, l1, l2] (.int v :: st) h nx := D_iaload (ins_of mc_150 (pc := 19) (x := (.iaload, 1)) (by decide +kernel))
theorem e_150_20 (hn : nr l2 = true) : Df d 150 20 [l0, l1, l2] (.int x :: st) h nx = Df d 150 21 [l0, l1, .int x] st h nx := D_istore_n (ins_of mc_150 (pc := 20) (x := (.istore_n 2, 1)) (by decide +kernel)) rfl hn rfl
theorem e_150_21 : Df d 150 21 [.ref a, l1, l2] st h nx = Df d 150 22 [.ref a, l1, l2] (.ref a :: st) h nx := D_aload_n (ins_of mc_150 (pc := 21) (x := (.aload_n 0, 1)) (by decide +kernel)) rfl
theorem e_150_22 : Df d 150 22 [l0, l1, l2] st h nx = Df d 150 25 [l0, l1, l2] (.int 9999 :: st) h nx := D_sipush (ins_of mc_150 (pc := 22) (x := (.sipush 9999, 3)) (by decide +kernel)) (by decide)
theorem e_150_25 : Df d 150 25 [.ref a, l1, l2] st h nx = Df d 150 26 [.ref a, l1, l2] (.ref a :: st) h nx := D_aload_n (ins_of mc_150 (pc := 25) (x := (.aload_n 0, 1)) (by decide +kernel)) rfl
theorem e_150_26 : Df d 150 26 [l0, l1, l2] (.ref a :: st) h nx = (gF h a 9 0).bind fun v => Df d 150 29 [l0, l1, l2] (v :: st) h nx := D_getfield (ins_of mc_150 (pc := 26) (x := (.getfield 9, 3)) (by decide +kernel)) mo_150 (by decide +kernel)
theorem e_150_29 : Df d 150 29 [l0, l1, l2] st h nx = Df d 150 30 [l0, l1, l2] (.int 2 :: st) h nx := D_iconst (ins_of mc_150 (pc := 29) (x := (.iconst 2, 1)) (by decide +kernel)) (by decide)
theorem e_150_30 : Df d 150 30 [l0, l1, l2] (.int x :: .ref a :: st) h nx = (rX h a x).bind fun v => Df d 150 31 [l0, l1, l2] (.int v :: st) h nx := D_iaload (ins_of mc_150 (pc := 30) (x := (.iaload, 1)) (by decide +kernel))
theorem e_150_31 : Df d 150 31 [l0, l1, l2] (.int y :: .int x :: st) h nx = Df d 150 32 [l0, l1, l2] (.int (x - y) :: st) h nx := D_isub (ins_of mc_150 (pc := 31) (x := (.isub, 1)) (by decide +kernel))
theorem e_150_32 : Df d 150 32 [l0, l1, l2] st h nx = Df d 150 33 [l0, l1, l2] (.int 0 :: st) h nx := D_iconst (ins_of mc_150 (pc := 32) (x := (.iconst 0, 1)) (by decide +kernel)) (by decide)
theorem e_150_33 : Df d 150 33 [l0, .int x, l2] st h nx = Df d 150 34 [l0, .int x, l2] (.int x :: st) h nx := D_iload_n (ins_of mc_150 (pc := 33) (x := (.iload_n 1, 1)) (by decide +kernel)) rfl
theorem e_150_34 : Df d 150 34 [l0, l1, l2] [v2, v1, v0, s0] h nx = cn d 150 37 [l0, l1, l2] [s0] (Dn d 133 [v0, v1, v2] h nx) := D_static (k1 := 133) (kd := 1) (ins_of mc_150 (pc := 34) (x := (.invokestatic 101, 3)) (by decide +kernel)) mo_150 (by decide +kernel) (by decide) rfl (Nat.le_of_ble_eq_true rfl) rfl (Nat.le_of_ble_eq_true rfl) rfl
theorem e_150_37 : Df d 150 37 [l0, l1, l2] [v0, .ref a] h nx = if ck h a 9 = true then cn d 150 40 [l0, l1, l2] [] (Dn d 151 [.ref a, v0] h nx) else none := D_virtual (k1 := 151) (ins_of mc_150 (pc := 37) (x := (.invokevirtual 171, 3)) (by decide +kernel)) mo_150 (by decide +kernel) (by decide) rfl rfl (by decide) rfl (Nat.le_of_ble_eq_true rfl) rfl
theorem e_150_40 : Df d 150 40 [.ref a, l1, l2] st h nx = Df d 150 41 [.ref a, l1, l2] (.ref a :: st) h nx := D_aload_n (ins_of mc_150 (pc := 40) (x := (.aload_n 0, 1)) (by decide +kernel)) rfl
theorem e_150_41 : Df d 150 41 [l0, l1, l2] (.ref a :: st) h nx = (gF h a 9 0).bind fun v => Df d 150 44 [l0, l1, l2] (v :: st) h nx := D_getfield (ins_of mc_150 (pc := 41) (x := (.getfield 9, 3)) (by decide +kernel)) mo_150 (by decide +kernel)
theorem e_150_44 : Df d 150 44 [l0, l1, l2] st h nx = Df d 150 46 [l0, l1, l2] (.int 8 :: st) h nx := D_bipush (ins_of mc_150 (pc := 44) (x := (.bipush 8, 2)) (by decide +kernel)) (by decide)
theorem e_150_46 : Df d 150 46 [l0, l1, l2] (.int x :: .ref a :: st) h nx = (rX h a x).bind fun v => Df d 150 47 [l0, l1, l2] (.int v :: st) h nx := D_iaload (ins_of mc_150 (pc := 46) (x := (.iaload, 1)) (by decide +kernel))
theorem e_150_47 : Df d 150 47 [l0, l1, .int x] st h nx = Df d 150 48 [l0, l1, .int x] (.int x :: st) h nx := D_iload_n (ins_of mc_150 (pc := 47) (x := (.iload_n 2, 1)) (by decide +kernel)) rfl
theorem e_150_48 : Df d 150 48 [l0, l1, l2] (.int y :: .int x :: st) h nx = Df d 150 49 [l0, l1, l2] (.int (x - y) :: st) h nx := D_isub (ins_of mc_150 (pc := 48) (x := (.isub, 1)) (by decide +kernel))
theorem e_150_49 : Df d 150 49 [l0, l1, l2] [.int x] h nx = some (some (.int x), h, nx) := D_ireturn (ins_of mc_150 (pc := 49) (x := (.ireturn, 1)) (by decide +kernel)) mr_150
theorem mc_151 : mC 151 = prog_11_method_37_code := rfl
theorem mo_151 : mO 151 = 9 := rfl
theorem ml_151 : mL 151 = 3 := rfl
theorem mr_151 : mR 151 = none := rfl
theorem ma_151 : mA 151 = 1 := rfl
theorem e_151_0 : Df d 151 0 [l0, l1, l2] st h nx = Df d 151 1 [l0, l1, l2] (.int 0 :: st) h nx := D_iconst (ins_of mc_151 (pc := 0) (x := (.iconst 0, 1)) (by decide +kernel)) (by decide)
theorem e_151_1 (hn : nr l2 = true) : Df d 151 1 [l0, l1, l2] (.int x :: st) h nx = Df d 151 2 [l0, l1, .int x] st h nx := D_istore_n (ins_of mc_151 (pc := 1) (x := (.istore_n 2, 1)) (by decide +kernel)) rfl hn rfl
theorem e_151_2 : Df d 151 2 [l0, l1, .int x] st h nx = Df d 151 3 [l0, l1, .int x] (.int x :: st) h nx := D_iload_n (ins_of mc_151 (pc := 2) (x := (.iload_n 2, 1)) (by decide +kernel)) rfl
theorem e_151_3 : Df d 151 3 [l0, .int x, l2] st h nx = Df d 151 4 [l0, .int x, l2] (.int x :: st) h nx := D_iload_n (ins_of mc_151 (pc := 3) (x := (.iload_n 1, 1)) (by decide +kernel)) rfl
theorem e_151_4 : Df d 151 4 [l0, l1, l2] (.int y :: .int x :: st) h nx = if y ≤ x then Df d 151 17 [l0, l1, l2] st h nx else Df d 151 7 [l0, l1, l2] st h nx := D_icmp_ge (ins_of mc_151 (pc := 4) (x := (.if_icmp .ge 13, 3)) (by decide +kernel)) (by decide)
theorem e_151_7 : Df d 151 7 [.ref a, l1, l2] st h nx = Df d 151 8 [.ref a, l1, l2] (.ref a :: st) h nx := D_aload_n (ins_of mc_151 (pc := 7) (x := (.aload_n 0, 1)) (by decide +kernel)) rfl
theorem e_151_8 : Df d 151 8 [l0, l1, l2] [.ref a] h nx = if ck h a 9 = true then cn d 151 11 [l0, l1, l2] [] (Dn d 152 [.ref a] h nx) else none := D_virtual (k1 := 152) (ins_of mc_151 (pc := 8) (x := (.invokevirtual 168, 3)) (by decide +kernel)) mo_151 (by decide +kernel) (by decide) rfl rfl (by decide) rfl (Nat.le_of_ble_eq_true rfl) rfl
theorem e_151_11 : Df d 151 11 [l0, l1, .int x] st h nx = Df d 151 14 [l0, l1, .int (x + 1)] st h nx := D_iinc (ins_of mc_151 (pc := 11) (x := (.iinc 2 1, 3)) (by decide +kernel)) rfl (by decide) rfl
theorem e_151_14 : Df d 151 14 [l0, l1, l2] st h nx = Df d 151 2 [l0, l1, l2] st h nx := D_goto (ins_of mc_151 (pc := 14) (x := (.goto (-12), 3)) (by decide +kernel)) (by decide)
theorem e_151_17 : Df d 151 17 [l0, l1, l2] [] h nx = some (none, h, nx) := D_return (ins_of mc_151 (pc := 17) (x := (.return_, 1)) (by decide +kernel)) mr_151
theorem mc_152 : mC 152 = prog_11_method_36_code := rfl
theorem mo_152 : mO 152 = 9 := rfl
theorem ml_152 : mL 152 = 3 := rfl
theorem mr_152 : mR 152 = none := rfl
theorem ma_152 : mA 152 = 0 := rfl
theorem e_152_0 : Df d 152 0 [.ref a, l1, l2] st h nx = Df d 152 1 [.ref a, l1, l2] (.ref a :: st) h nx := D_aload_n (ins_of mc_152 (pc := 0) (x := (.aload_n 0, 1)) (by decide +kernel)) rfl
theorem e_152_1 : Df d 152 1 [l0, l1, l2] (.ref a :: st) h nx = (gF h a 9 0).bind fun v => Df d 152 4 [l0, l1, l2] (v :: st) h nx := D_getfield (ins_of mc_152 (pc := 1) (x := (.getfield 9, 3)) (by decide +kernel)) mo_152 (by decide +kernel)
theorem e_152_4 : Df d 152 4 [l0, l1, l2] st h nx = Df d 152 5 [l0, l1, l2] (.int 3 :: st) h nx := D_iconst (ins_of mc_152 (pc := 4) (x := (.iconst 3, 1)) (by decide +kernel)) (by decide)
theorem e_152_5 : Df d 152 5 [.ref a, l1, l2] st h nx = Df d 152 6 [.ref a, l1, l2] (.ref a :: st) h nx := D_aload_n (ins_of mc_152 (pc := 5) (x := (.aload_n 0, 1)) (by decide +kernel)) rfl
theorem e_152_6 : Df d 152 6 [l0, l1, l2] [.ref a, s0, s1] h nx = if ck h a 9 = true then cn d 152 9 [l0, l1, l2] [s0, s1] (Dn d 148 [.ref a] h nx) else none := D_virtual (k1 := 148) (ins_of mc_152 (pc := 6) (x := (.invokevirtual 139, 3)) (by decide +kernel)) mo_152 (by decide +kernel) (by decide) rfl rfl (by decide) rfl (Nat.le_of_ble_eq_true rfl) rfl
theorem e_152_9 : Df d 152 9 [l0, l1, l2] st h nx = Df d 152 11 [l0, l1, l2] (.int 10 :: st) h nx := D_bipush (ins_of mc_152 (pc := 9) (x := (.bipush 10, 2)) (by decide +kernel)) (by decide)
theorem e_152_11 : Df d 152 11 [l0, l1, l2] (.int y :: .int x :: st) h nx = if y = 0 then none else Df d 152 12 [l0, l1, l2] (.int (x - x / y * y) :: st) h nx := D_irem (ins_of mc_152 (pc := 11) (x := (.irem, 1)) (by decide +kernel))
theorem e_152_12 : Df d 152 12 [l0, l1, l2] (.int y :: .int x :: .ref a :: st) h nx = (wI h a x 0 y).bind fun h => Df d 152 13 [l0, l1, l2] st h nx := D_iastore (ins_of mc_152 (pc := 12) (x := (.iastore, 1)) (by decide +kernel))
theorem e_152_13 : Df d 152 13 [.ref a, l1, l2] st h nx = Df d 152 14 [.ref a, l1, l2] (.ref a :: st) h nx := D_aload_n (ins_of mc_152 (pc := 13) (x := (.aload_n 0, 1)) (by decide +kernel)) rfl
theorem e_152_14 : Df d 152 14 [l0, l1, l2] [.ref a] h nx = if ck h a 9 = true then cn d 152 17 [l0, l1, l2] [] (Dn d 153 [.ref a] h nx) else none := D_virtual (k1 := 153) (ins_of mc_152 (pc := 14) (x := (.invokevirtual 149, 3)) (by decide +kernel)) mo_152 (by decide +kernel) (by decide) rfl rfl (by decide) rfl (Nat.le_of_ble_eq_true rfl) rfl
theorem e_152_17 (hn : nr l1 = true) : Df d 152 17 [l0, l1, l2] (.int x :: st) h nx = Df d 152 18 [l0, .int x, l2] st h nx := D_istore_n (ins_of mc_152 (pc := 17) (x := (.istore_n 1, 1)) (by decide +kernel)) rfl hn rfl
theorem e_152_18 : Df d 152 18 [l0, .int x, l2] st h nx = Df d 152 19 [l0, .int x, l2] (.int x :: st) h nx := D_iload_n (ins_of mc_152 (pc := 18) (x := (.iload_n 1, 1)) (by decide +kernel)) rfl
theorem e_152_19 : Df d 152 19 [l0, l1, l2] (.int x :: st) h nx = if x < 0 then Df d 152 34 [l0, l1, l2] st h nx else Df d 152 22 [l0, l1, l2] st h nx := D_if_lt (ins_of mc_152 (pc := 19) (x := (.ifCond .lt 15, 3)) (by decide +kernel)) (by decide)
theorem e_152_22 : Df d 152 22 [.ref a, l1, l2] st h nx = Df d 152 23 [.ref a, l1, l2] (.ref a :: st) h nx := D_aload_n (ins_of mc_152 (pc := 22) (x := (.aload_n 0, 1)) (by decide +kernel)) rfl
theorem e_152_23 : Df d 152 23 [l0, l1, l2] (.ref a :: st) h nx = (gF h a 9 4).bind fun v => Df d 152 26 [l0, l1, l2] (v :: st) h nx := D_getfield (ins_of mc_152 (pc := 23) (x := (.getfield 152, 3)) (by decide +kernel)) mo_152 (by decide +kernel)
theorem e_152_26 : Df d 152 26 [l0, l1, l2] (.int x :: st) h nx = if x = 0 then Df d 152 29 [l0, l1, l2] st h nx else Df d 152 34 [l0, l1, l2] st h nx := D_if_ne (ins_of mc_152 (pc := 26) (x := (.ifCond .ne 8, 3)) (by decide +kernel)) (by decide)
theorem e_152_29 : Df d 152 29 [.ref a, l1, l2] st h nx = Df d 152 30 [.ref a, l1, l2] (.ref a :: st) h nx := D_aload_n (ins_of mc_152 (pc := 29) (x := (.aload_n 0, 1)) (by decide +kernel)) rfl
theorem e_152_30 : Df d 152 30 [l0, .int x, l2] st h nx = Df d 152 31 [l0, .int x, l2] (.int x :: st) h nx := D_iload_n (ins_of mc_152 (pc := 30) (x := (.iload_n 1, 1)) (by decide +kernel)) rfl
theorem e_152_31 : Df d 152 31 [l0, l1, l2] [v0, .ref a] h nx = if ck h a 9 = true then cn d 152 34 [l0, l1, l2] [] (Dn d 155 [.ref a, v0] h nx) else none := D_virtual (k1 := 155) (ins_of mc_152 (pc := 31) (x := (.invokevirtual 156, 3)) (by decide +kernel)) mo_152 (by decide +kernel) (by decide) rfl rfl (by decide) rfl (Nat.le_of_ble_eq_true rfl) rfl
theorem e_152_34 : Df d 152 34 [l0, l1, l2] st h nx = Df d 152 35 [l0, l1, l2] (.int 0 :: st) h nx := D_iconst (ins_of mc_152 (pc := 34) (x := (.iconst 0, 1)) (by decide +kernel)) (by decide)
theorem e_152_35 (hn : nr l2 = true) : Df d 152 35 [l0, l1, l2] (.int x :: st) h nx = Df d 152 36 [l0, l1, .int x] st h nx := D_istore_n (ins_of mc_152 (pc := 35) (x := (.istore_n 2, 1)) (by decide +kernel)) rfl hn rfl
theorem e_152_36 : Df d 152 36 [l0, l1, .int x] st h nx = Df d 152 37 [l0, l1, .int x] (.int x :: st) h nx := D_iload_n (ins_of mc_152 (pc := 36) (x := (.iload_n 2, 1)) (by decide +kernel)) rfl
theorem e_152_37 : Df d 152 37 [.ref a, l1, l2] st h nx = Df d 152 38 [.ref a, l1, l2] (.ref a :: st) h nx := D_aload_n (ins_of mc_152 (pc := 37) (x := (.aload_n 0, 1)) (by decide +kernel)) rfl
theorem e_152_38 : Df d 152 38 [l0, l1, l2] (.ref a :: st) h nx = (gF h a 9 0).bind fun v => Df d 152 41 [l0, l1, l2] (v :: st) h nx := D_getfield (ins_of mc_152 (pc := 38) (x := (.getfield 9, 3)) (by decide +kernel)) mo_152 (by decide +kernel)
theorem e_152_41 : Df d 152 41 [l0, l1, l2] st h nx = Df d 152 42 [l0, l1, l2] (.int 1 :: st) h nx := D_iconst (ins_of mc_152 (pc := 41) (x := (.iconst 1, 1)) (by decide +kernel)) (by decide)
theorem e_152_42 : Df d 152 42 [l0, l1, l2] (.int x :: .ref a :: st) h nx = (rX h a x).bind fun v => Df d 152 43 [l0, l1, l2] (.int v :: st) h nx := D_iaload (ins_of mc_152 (pc := 42) (x := (.iaload, 1)) (by decide +kernel))
theorem e_152_43 : Df d 152 43 [l0, l1, l2] (.int y :: .int x :: st) h nx = if y ≤ x then Df d 152 65 [l0, l1, l2] st h nx else Df d 152 46 [l0, l1, l2] st h nx := D_icmp_ge (ins_of mc_152 (pc := 43) (x := (.if_icmp .ge 22, 3)) (by decide +kernel)) (by decide)
theorem e_152_46 : Df d 152 46 [.ref a, l1, l2] st h nx = Df d 152 47 [.ref a, l1, l2] (.ref a :: st) h nx := D_aload_n (ins_of mc_152 (pc := 46) (x := (.aload_n 0, 1)) (by decide +kernel)) rfl
theorem e_152_47 : Df d 152 47 [l0, l1, .int x] st h nx = Df d 152 48 [l0, l1, .int x] (.int x :: st) h nx := D_iload_n (ins_of mc_152 (pc := 47) (x := (.iload_n 2, 1)) (by decide +kernel)) rfl
theorem e_152_48 : Df d 152 48 [l0, l1, l2] [v0, .ref a] h nx = if ck h a 9 = true then cn d 152 51 [l0, l1, l2] [] (Dn d 154 [.ref a, v0] h nx) else none := D_virtual (k1 := 154) (ins_of mc_152 (pc := 48) (x := (.invokevirtual 142, 3)) (by decide +kernel)) mo_152 (by decide +kernel) (by decide) rfl rfl (by decide) rfl (Nat.le_of_ble_eq_true rfl) rfl
theorem e_152_51 : Df d 152 51 [l0, l1, l2] (.int x :: st) h nx = if x = 0 then Df d 152 59 [l0, l1, l2] st h nx else Df d 152 54 [l0, l1, l2] st h nx := D_if_eq (ins_of mc_152 (pc := 51) (x := (.ifCond .eq 8, 3)) (by decide +kernel)) (by decide)
theorem e_152_54 : Df d 152 54 [.ref a, l1, l2] st h nx = Df d 152 55 [.ref a, l1, l2] (.ref a :: st) h nx := D_aload_n (ins_of mc_152 (pc := 54) (x := (.aload_n 0, 1)) (by decide +kernel)) rfl
theorem e_152_55 : Df d 152 55 [l0, l1, .int x] st h nx = Df d 152 56 [l0, l1, .int x] (.int x :: st) h nx := D_iload_n (ins_of mc_152 (pc := 55) (x := (.iload_n 2, 1)) (by decide +kernel)) rfl
theorem e_152_56 : Df d 152 56 [l0, l1, l2] [v0, .ref a] h nx = if ck h a 9 = true then cn d 152 59 [l0, l1, l2] [] (Dn d 156 [.ref a, v0] h nx) else none := D_virtual (k1 := 156) (ins_of mc_152 (pc := 56) (x := (.invokevirtual 159, 3)) (by decide +kernel)) mo_152 (by decide +kernel) (by decide) rfl rfl (by decide) rfl (Nat.le_of_ble_eq_true rfl) rfl
theorem e_152_59 : Df d 152 59 [l0, l1, .int x] st h nx = Df d 152 62 [l0, l1, .int (x + 1)] st h nx := D_iinc (ins_of mc_152 (pc := 59) (x := (.iinc 2 1, 3)) (by decide +kernel)) rfl (by decide) rfl
theorem e_152_62 : Df d 152 62 [l0, l1, l2] st h nx = Df d 152 36 [l0, l1, l2] st h nx := D_goto (ins_of mc_152 (pc := 62) (x := (.goto (-26), 3)) (by decide +kernel)) (by decide)
theorem e_152_65 : Df d 152 65 [l0, l1, l2] st h nx = Df d 152 66 [l0, l1, l2] (.int 0 :: st) h nx := D_iconst (ins_of mc_152 (pc := 65) (x := (.iconst 0, 1)) (by decide +kernel)) (by decide)
theorem e_152_66 (hn : nr l2 = true) : Df d 152 66 [l0, l1, l2] (.int x :: st) h nx = Df d 152 67 [l0, l1, .int x] st h nx := D_istore_n (ins_of mc_152 (pc := 66) (x := (.istore_n 2, 1)) (by decide +kernel)) rfl hn rfl
theorem e_152_67 : Df d 152 67 [l0, l1, .int x] st h nx = Df d 152 68 [l0, l1, .int x] (.int x :: st) h nx := D_iload_n (ins_of mc_152 (pc := 67) (x := (.iload_n 2, 1)) (by decide +kernel)) rfl
theorem e_152_68 : Df d 152 68 [.ref a, l1, l2] st h nx = Df d 152 69 [.ref a, l1, l2] (.ref a :: st) h nx := D_aload_n (ins_of mc_152 (pc := 68) (x := (.aload_n 0, 1)) (by decide +kernel)) rfl
theorem e_152_69 : Df d 152 69 [l0, l1, l2] (.ref a :: st) h nx = (gF h a 9 0).bind fun v => Df d 152 72 [l0, l1, l2] (v :: st) h nx := D_getfield (ins_of mc_152 (pc := 69) (x := (.getfield 9, 3)) (by decide +kernel)) mo_152 (by decide +kernel)
theorem e_152_72 : Df d 152 72 [l0, l1, l2] st h nx = Df d 152 73 [l0, l1, l2] (.int 1 :: st) h nx := D_iconst (ins_of mc_152 (pc := 72) (x := (.iconst 1, 1)) (by decide +kernel)) (by decide)
theorem e_152_73 : Df d 152 73 [l0, l1, l2] (.int x :: .ref a :: st) h nx = (rX h a x).bind fun v => Df d 152 74 [l0, l1, l2] (.int v :: st) h nx := D_iaload (ins_of mc_152 (pc := 73) (x := (.iaload, 1)) (by decide +kernel))
theorem e_152_74 : Df d 152 74 [l0, l1, l2] (.int y :: .int x :: st) h nx = if y ≤ x then Df d 152 96 [l0, l1, l2] st h nx else Df d 152 77 [l0, l1, l2] st h nx := D_icmp_ge (ins_of mc_152 (pc := 74) (x := (.if_icmp .ge 22, 3)) (by decide +kernel)) (by decide)
theorem e_152_77 : Df d 152 77 [.ref a, l1, l2] st h nx = Df d 152 78 [.ref a, l1, l2] (.ref a :: st) h nx := D_aload_n (ins_of mc_152 (pc := 77) (x := (.aload_n 0, 1)) (by decide +kernel)) rfl
theorem e_152_78 : Df d 152 78 [l0, l1, .int x] st h nx = Df d 152 79 [l0, l1, .int x] (.int x :: st) h nx := D_iload_n (ins_of mc_152 (pc := 78) (x := (.iload_n 2, 1)) (by decide +kernel)) rfl
theorem e_152_79 : Df d 152 79 [l0, l1, l2] [v0, .ref a] h nx = if ck h a 9 = true then cn d 152 82 [l0, l1, l2] [] (Dn d 154 [.ref a, v0] h nx) else none := D_virtual (k1 := 154) (ins_of mc_152 (pc := 79) (x := (.invokevirtual 142, 3)) (by decide +kernel)) mo_152 (by decide +kernel) (by decide) rfl rfl (by decide) rfl (Nat.le_of_ble_eq_true rfl) rfl
theorem e_152_82 : Df d 152 82 [l0, l1, l2] (.int x :: st) h nx = if x = 0 then Df d 152 90 [l0, l1, l2] st h nx else Df d 152 85 [l0, l1, l2] st h nx := D_if_eq (ins_of mc_152 (pc := 82) (x := (.ifCond .eq 8, 3)) (by decide +kernel)) (by decide)
theorem e_152_85 : Df d 152 85 [.ref a, l1, l2] st h nx = Df d 152 86 [.ref a, l1, l2] (.ref a :: st) h nx := D_aload_n (ins_of mc_152 (pc := 85) (x := (.aload_n 0, 1)) (by decide +kernel)) rfl
theorem e_152_86 : Df d 152 86 [l0, l1, .int x] st h nx = Df d 152 87 [l0, l1, .int x] (.int x :: st) h nx := D_iload_n (ins_of mc_152 (pc := 86) (x := (.iload_n 2, 1)) (by decide +kernel)) rfl
theorem e_152_87 : Df d 152 87 [l0, l1, l2] [v0, .ref a] h nx = if ck h a 9 = true then cn d 152 90 [l0, l1, l2] [] (Dn d 158 [.ref a, v0] h nx) else none := D_virtual (k1 := 158) (ins_of mc_152 (pc := 87) (x := (.invokevirtual 162, 3)) (by decide +kernel)) mo_152 (by decide +kernel) (by decide) rfl rfl (by decide) rfl (Nat.le_of_ble_eq_true rfl) rfl
theorem e_152_90 : Df d 152 90 [l0, l1, .int x] st h nx = Df d 152 93 [l0, l1, .int (x + 1)] st h nx := D_iinc (ins_of mc_152 (pc := 90) (x := (.iinc 2 1, 3)) (by decide +kernel)) rfl (by decide) rfl
theorem e_152_93 : Df d 152 93 [l0, l1, l2] st h nx = Df d 152 67 [l0, l1, l2] st h nx := D_goto (ins_of mc_152 (pc := 93) (x := (.goto (-26), 3)) (by decide +kernel)) (by decide)
theorem e_152_96 : Df d 152 96 [.ref a, l1, l2] st h nx = Df d 152 97 [.ref a, l1, l2] (.ref a :: st) h nx := D_aload_n (ins_of mc_152 (pc := 96) (x := (.aload_n 0, 1)) (by decide +kernel)) rfl
theorem e_152_97 : Df d 152 97 [l0, l1, l2] [.ref a] h nx = if ck h a 9 = true then cn d 152 100 [l0, l1, l2] [] (Dn d 159 [.ref a] h nx) else none := D_virtual (k1 := 159) (ins_of mc_152 (pc := 97) (x := (.invokevirtual 165, 3)) (by decide +kernel)) mo_152 (by decide +kernel) (by decide) rfl rfl (by decide) rfl (Nat.le_of_ble_eq_true rfl) rfl
theorem e_152_100 : Df d 152 100 [.ref a, l1, l2] st h nx = Df d 152 101 [.ref a, l1, l2] (.ref a :: st) h nx := D_aload_n (ins_of mc_152 (pc := 100) (x := (.aload_n 0, 1)) (by decide +kernel)) rfl
theorem e_152_101 : Df d 152 101 [l0, l1, l2] (.ref a :: st) h nx = (gF h a 9 0).bind fun v => Df d 152 104 [l0, l1, l2] (v :: st) h nx := D_getfield (ins_of mc_152 (pc := 101) (x := (.getfield 9, 3)) (by decide +kernel)) mo_152 (by decide +kernel)
theorem e_152_104 : Df d 152 104 [l0, l1, l2] st h nx = Df d 152 105 [l0, l1, l2] (.int 2 :: st) h nx := D_iconst (ins_of mc_152 (pc := 104) (x := (.iconst 2, 1)) (by decide +kernel)) (by decide)
theorem e_152_105 (hv : v0.category = 1) (hw : v1.category = 1) : Df d 152 105 [l0, l1, l2] (v0 :: v1 :: st) h nx = Df d 152 106 [l0, l1, l2] (v0 :: v1 :: v0 :: v1 :: st) h nx := D_dup2 (ins_of mc_152 (pc := 105) (x := (.dup2, 1)) (by decide +kernel)) hv hw
theorem e_152_106 : Df d 152 106 [l0, l1, l2] (.int x :: .ref a :: st) h nx = (rX h a x).bind fun v => Df d 152 107 [l0, l1, l2] (.int v :: st) h nx := D_iaload (ins_of mc_152 (pc := 106) (x := (.iaload, 1)) (by decide +kernel))
theorem e_152_107 : Df d 152 107 [l0, l1, l2] st h nx = Df d 152 108 [l0, l1, l2] (.int 1 :: st) h nx := D_iconst (ins_of mc_152 (pc := 107) (x := (.iconst 1, 1)) (by decide +kernel)) (by decide)
theorem e_152_108 : Df d 152 108 [l0, l1, l2] (.int y :: .int x :: st) h nx = Df d 152 109 [l0, l1, l2] (.int (x + y) :: st) h nx := D_iadd (ins_of mc_152 (pc := 108) (x := (.iadd, 1)) (by decide +kernel))
theorem e_152_109 : Df d 152 109 [l0, l1, l2] (.int y :: .int x :: .ref a :: st) h nx = (wI h a x 0 y).bind fun h => Df d 152 110 [l0, l1, l2] st h nx := D_iastore (ins_of mc_152 (pc := 109) (x := (.iastore, 1)) (by decide +kernel))
theorem e_152_110 : Df d 152 110 [l0, l1, l2] [] h nx = some (none, h, nx) := D_return (ins_of mc_152 (pc := 110) (x := (.return_, 1)) (by decide +kernel)) mr_152
theorem mc_153 : mC 153 = prog_11_method_30_code := rfl
theorem mo_153 : mO 153 = 9 := rfl
theorem ml_153 : mL 153 = 3 := rfl
theorem mr_153 : mR 153 = (some .int) := rfl
theorem ma_153 : mA 153 = 0 := rfl
theorem e_153_0 : Df d 153 0 [l0, l1, l2] st h nx = Df d 153 1 [l0, l1, l2] (.int (-1) :: st) h nx := D_iconst (ins_of mc_153 (pc := 0) (x := (.iconst (-1), 1)) (by decide +kernel)) (by decide)
theorem e_153_1 (hn : nr l1 = true) : Df d 153 1 [l0, l1, l2] (.int x :: st) h nx = Df d 153 2 [l0, .int x, l2] st h nx := D_istore_n (ins_of mc_153 (pc := 1) (x := (.istore_n 1, 1)) (by decide +kernel)) rfl hn rfl
theorem e_153_2 : Df d 153 2 [l0, l1, l2] st h nx = Df d 153 3 [l0, l1, l2] (.int 0 :: st) h nx := D_iconst (ins_of mc_153 (pc := 2) (x := (.iconst 0, 1)) (by decide +kernel)) (by decide)
theorem e_153_3 (hn : nr l2 = true) : Df d 153 3 [l0, l1, l2] (.int x :: st) h nx = Df d 153 4 [l0, l1, .int x] st h nx := D_istore_n (ins_of mc_153 (pc := 3) (x := (.istore_n 2, 1)) (by decide +kernel)) rfl hn rfl
theorem e_153_4 : Df d 153 4 [l0, l1, .int x] st h nx = Df d 153 5 [l0, l1, .int x] (.int x :: st) h nx := D_iload_n (ins_of mc_153 (pc := 4) (x := (.iload_n 2, 1)) (by decide +kernel)) rfl
theorem e_153_5 : Df d 153 5 [.ref a, l1, l2] st h nx = Df d 153 6 [.ref a, l1, l2] (.ref a :: st) h nx := D_aload_n (ins_of mc_153 (pc := 5) (x := (.aload_n 0, 1)) (by decide +kernel)) rfl
theorem e_153_6 : Df d 153 6 [l0, l1, l2] (.ref a :: st) h nx = (gF h a 9 0).bind fun v => Df d 153 9 [l0, l1, l2] (v :: st) h nx := D_getfield (ins_of mc_153 (pc := 6) (x := (.getfield 9, 3)) (by decide +kernel)) mo_153 (by decide +kernel)
theorem e_153_9 : Df d 153 9 [l0, l1, l2] st h nx = Df d 153 10 [l0, l1, l2] (.int 1 :: st) h nx := D_iconst (ins_of mc_153 (pc := 9) (x := (.iconst 1, 1)) (by decide +kernel)) (by decide)
theorem e_153_10 : Df d 153 10 [l0, l1, l2] (.int x :: .ref a :: st) h nx = (rX h a x).bind fun v => Df d 153 11 [l0, l1, l2] (.int v :: st) h nx := D_iaload (ins_of mc_153 (pc := 10) (x := (.iaload, 1)) (by decide +kernel))
theorem e_153_11 : Df d 153 11 [l0, l1, l2] (.int y :: .int x :: st) h nx = if y ≤ x then Df d 153 49 [l0, l1, l2] st h nx else Df d 153 14 [l0, l1, l2] st h nx := D_icmp_ge (ins_of mc_153 (pc := 11) (x := (.if_icmp .ge 38, 3)) (by decide +kernel)) (by decide)
theorem e_153_14 : Df d 153 14 [.ref a, l1, l2] st h nx = Df d 153 15 [.ref a, l1, l2] (.ref a :: st) h nx := D_aload_n (ins_of mc_153 (pc := 14) (x := (.aload_n 0, 1)) (by decide +kernel)) rfl
theorem e_153_15 : Df d 153 15 [l0, l1, .int x] st h nx = Df d 153 16 [l0, l1, .int x] (.int x :: st) h nx := D_iload_n (ins_of mc_153 (pc := 15) (x := (.iload_n 2, 1)) (by decide +kernel)) rfl
theorem e_153_16 : Df d 153 16 [l0, l1, l2] [v0, .ref a] h nx = if ck h a 9 = true then cn d 153 19 [l0, l1, l2] [] (Dn d 154 [.ref a, v0] h nx) else none := D_virtual (k1 := 154) (ins_of mc_153 (pc := 16) (x := (.invokevirtual 142, 3)) (by decide +kernel)) mo_153 (by decide +kernel) (by decide) rfl rfl (by decide) rfl (Nat.le_of_ble_eq_true rfl) rfl
theorem e_153_19 : Df d 153 19 [l0, l1, l2] (.int x :: st) h nx = if x = 0 then Df d 153 43 [l0, l1, l2] st h nx else Df d 153 22 [l0, l1, l2] st h nx := D_if_eq (ins_of mc_153 (pc := 19) (x := (.ifCond .eq 24, 3)) (by decide +kernel)) (by decide)
theorem e_153_22 : Df d 153 22 [l0, .int x, l2] st h nx = Df d 153 23 [l0, .int x, l2] (.int x :: st) h nx := D_iload_n (ins_of mc_153 (pc := 22) (x := (.iload_n 1, 1)) (by decide +kernel)) rfl
theorem e_153_23 : Df d 153 23 [l0, l1, l2] (.int x :: st) h nx = if x < 0 then Df d 153 41 [l0, l1, l2] st h nx else Df d 153 26 [l0, l1, l2] st h nx := D_if_lt (ins_of mc_153 (pc := 23) (x := (.ifCond .lt 18, 3)) (by decide +kernel)) (by decide)
theorem e_153_26 : Df d 153 26 [.ref a, l1, l2] st h nx = Df d 153 27 [.ref a, l1, l2] (.ref a :: st) h nx := D_aload_n (ins_of mc_153 (pc := 26) (x := (.aload_n 0, 1)) (by decide +kernel)) rfl
theorem e_153_27 : Df d 153 27 [l0, l1, .int x] st h nx = Df d 153 28 [l0, l1, .int x] (.int x :: st) h nx := D_iload_n (ins_of mc_153 (pc := 27) (x := (.iload_n 2, 1)) (by decide +kernel)) rfl
theorem e_153_28 : Df d 153 28 [l0, l1, l2] st h nx = Df d 153 29 [l0, l1, l2] (.int 1 :: st) h nx := D_iconst (ins_of mc_153 (pc := 28) (x := (.iconst 1, 1)) (by decide +kernel)) (by decide)
theorem e_153_29 : Df d 153 29 [l0, l1, l2] [v1, v0, .ref a] h nx = if ck h a 9 = true then cn d 153 32 [l0, l1, l2] [] (Dn d 128 [.ref a, v0, v1] h nx) else none := D_virtual (k1 := 128) (ins_of mc_153 (pc := 29) (x := (.invokevirtual 80, 3)) (by decide +kernel)) mo_153 (by decide +kernel) (by decide) rfl rfl (by decide) rfl (Nat.le_of_ble_eq_true rfl) rfl
theorem e_153_32 : Df d 153 32 [.ref a, l1, l2] st h nx = Df d 153 33 [.ref a, l1, l2] (.ref a :: st) h nx := D_aload_n (ins_of mc_153 (pc := 32) (x := (.aload_n 0, 1)) (by decide +kernel)) rfl
theorem e_153_33 : Df d 153 33 [l0, .int x, l2] st h nx = Df d 153 34 [l0, .int x, l2] (.int x :: st) h nx := D_iload_n (ins_of mc_153 (pc := 33) (x := (.iload_n 1, 1)) (by decide +kernel)) rfl
theorem e_153_34 : Df d 153 34 [l0, l1, l2] st h nx = Df d 153 35 [l0, l1, l2] (.int 1 :: st) h nx := D_iconst (ins_of mc_153 (pc := 34) (x := (.iconst 1, 1)) (by decide +kernel)) (by decide)
theorem e_153_35 : Df d 153 35 [l0, l1, l2] [v1, v0, .ref a, s0] h nx = if ck h a 9 = true then cn d 153 38 [l0, l1, l2] [s0] (Dn d 128 [.ref a, v0, v1] h nx) else none := D_virtual (k1 := 128) (ins_of mc_153 (pc := 35) (x := (.invokevirtual 80, 3)) (by decide +kernel)) mo_153 (by decide +kernel) (by decide) rfl rfl (by decide) rfl (Nat.le_of_ble_eq_true rfl) rfl
theorem e_153_38 : Df d 153 38 [l0, l1, l2] (.int y :: .int x :: st) h nx = if x ≤ y then Df d 153 43 [l0, l1, l2] st h nx else Df d 153 41 [l0, l1, l2] st h nx := D_icmp_le (ins_of mc_153 (pc := 38) (x := (.if_icmp .le 5, 3)) (by decide +kernel)) (by decide)
theorem e_153_41 : Df d 153 41 [l0, l1, .int x] st h nx = Df d 153 42 [l0, l1, .int x] (.int x :: st) h nx := D_iload_n (ins_of mc_153 (pc := 41) (x := (.iload_n 2, 1)) (by decide +kernel)) rfl
theorem e_153_42 (hn : nr l1 = true) : Df d 153 42 [l0, l1, l2] (.int x :: st) h nx = Df d 153 43 [l0, .int x, l2] st h nx := D_istore_n (ins_of mc_153 (pc := 42) (x := (.istore_n 1, 1)) (by decide +kernel)) rfl hn rfl
theorem e_153_43 : Df d 153 43 [l0, l1, .int x] st h nx = Df d 153 46 [l0, l1, .int (x + 1)] st h nx := D_iinc (ins_of mc_153 (pc := 43) (x := (.iinc 2 1, 3)) (by decide +kernel)) rfl (by decide) rfl
theorem e_153_46 : Df d 153 46 [l0, l1, l2] st h nx = Df d 153 4 [l0, l1, l2] st h nx := D_goto (ins_of mc_153 (pc := 46) (x := (.goto (-42), 3)) (by decide +kernel)) (by decide)
theorem e_153_49 : Df d 153 49 [l0, .int x, l2] st h nx = Df d 153 50 [l0, .int x, l2] (.int x :: st) h nx := D_iload_n (ins_of mc_153 (pc := 49) (x := (.iload_n 1, 1)) (by decide +kernel)) rfl
theorem e_153_50 : Df d 153 50 [l0, l1, l2] [.int x] h nx = some (some (.int x), h, nx) := D_ireturn (ins_of mc_153 (pc := 50) (x := (.ireturn, 1)) (by decide +kernel)) mr_153
theorem mc_154 : mC 154 = prog_11_method_10_code := rfl
theorem mo_154 : mO 154 = 9 := rfl
theorem ml_154 : mL 154 = 2 := rfl
theorem mr_154 : mR 154 = (some .boolean) := rfl
theorem ma_154 : mA 154 = 1 := rfl
theorem e_154_0 : Df d 154 0 [.ref a, l1] st h nx = Df d 154 1 [.ref a, l1] (.ref a :: st) h nx := D_aload_n (ins_of mc_154 (pc := 0) (x := (.aload_n 0, 1)) (by decide +kernel)) rfl
theorem e_154_1 : Df d 154 1 [l0, .int x] st h nx = Df d 154 2 [l0, .int x] (.int x :: st) h nx := D_iload_n (ins_of mc_154 (pc := 1) (x := (.iload_n 1, 1)) (by decide +kernel)) rfl
theorem e_154_2 : Df d 154 2 [l0, l1] st h nx = Df d 154 3 [l0, l1] (.int 5 :: st) h nx := D_iconst (ins_of mc_154 (pc := 2) (x := (.iconst 5, 1)) (by decide +kernel)) (by decide)
theorem e_154_3 : Df d 154 3 [l0, l1] [v1, v0, .ref a] h nx = if ck h a 9 = true then cn d 154 6 [l0, l1] [] (Dn d 128 [.ref a, v0, v1] h nx) else none := D_virtual (k1 := 128) (ins_of mc_154 (pc := 3) (x := (.invokevirtual 80, 3)) (by decide +kernel)) mo_154 (by decide +kernel) (by decide) rfl rfl (by decide) rfl (Nat.le_of_ble_eq_true rfl) rfl
theorem e_154_6 : Df d 154 6 [l0, l1] (.int x :: st) h nx = if x = 0 then Df d 154 9 [l0, l1] st h nx else Df d 154 13 [l0, l1] st h nx := D_if_ne (ins_of mc_154 (pc := 6) (x := (.ifCond .ne 7, 3)) (by decide +kernel)) (by decide)
theorem e_154_9 : Df d 154 9 [l0, l1] st h nx = Df d 154 10 [l0, l1] (.int 1 :: st) h nx := D_iconst (ins_of mc_154 (pc := 9) (x := (.iconst 1, 1)) (by decide +kernel)) (by decide)
theorem e_154_10 : Df d 154 10 [l0, l1] st h nx = Df d 154 14 [l0, l1] st h nx := D_goto (ins_of mc_154 (pc := 10) (x := (.goto 4, 3)) (by decide +kernel)) (by decide)
theorem e_154_13 : Df d 154 13 [l0, l1] st h nx = Df d 154 14 [l0, l1] (.int 0 :: st) h nx := D_iconst (ins_of mc_154 (pc := 13) (x := (.iconst 0, 1)) (by decide +kernel)) (by decide)
theorem e_154_14 : Df d 154 14 [l0, l1] [.int x] h nx = if nR .boolean x = true then some (some (.int x), h, nx) else none := D_zreturn (ins_of mc_154 (pc := 14) (x := (.ireturn, 1)) (by decide +kernel)) mr_154
theorem mc_155 : mC 155 = prog_11_method_31_code := rfl
theorem mo_155 : mO 155 = 9 := rfl
theorem ml_155 : mL 155 = 3 := rfl
theorem mr_155 : mR 155 = none := rfl
theorem ma_155 : mA 155 = 1 := rfl
theorem e_155_0 : Df d 155 0 [.ref a, l1, l2] st h nx = Df d 155 1 [.ref a, l1, l2] (.ref a :: st) h nx := D_aload_n (ins_of mc_155 (pc := 0) (x := (.aload_n 0, 1)) (by decide +kernel)) rfl
theorem e_155_1 : Df d 155 1 [l0, .int x, l2] st h nx = Df d 155 2 [l0, .int x, l2] (.int x :: st) h nx := D_iload_n (ins_of mc_155 (pc := 1) (x := (.iload_n 1, 1)) (by decide +kernel)) rfl
theorem e_155_2 : Df d 155 2 [l0, l1, l2] st h nx = Df d 155 3 [l0, l1, l2] (.int 4 :: st) h nx := D_iconst (ins_of mc_155 (pc := 2) (x := (.iconst 4, 1)) (by decide +kernel)) (by decide)
theorem e_155_3 : Df d 155 3 [.ref a, l1, l2] st h nx = Df d 155 4 [.ref a, l1, l2] (.ref a :: st) h nx := D_aload_n (ins_of mc_155 (pc := 3) (x := (.aload_n 0, 1)) (by decide +kernel)) rfl
theorem e_155_4 : Df d 155 4 [l0, .int x, l2] st h nx = Df d 155 5 [l0, .int x, l2] (.int x :: st) h nx := D_iload_n (ins_of mc_155 (pc := 4) (x := (.iload_n 1, 1)) (by decide +kernel)) rfl
theorem e_155_5 : Df d 155 5 [l0, l1, l2] st h nx = Df d 155 6 [l0, l1, l2] (.int 4 :: st) h nx := D_iconst (ins_of mc_155 (pc := 5) (x := (.iconst 4, 1)) (by decide +kernel)) (by decide)
theorem e_155_6 : Df d 155 6 [l0, l1, l2] [v1, v0, .ref a, s0, s1, s2] h nx = if ck h a 9 = true then cn d 155 9 [l0, l1, l2] [s0, s1, s2] (Dn d 128 [.ref a, v0, v1] h nx) else none := D_virtual (k1 := 128) (ins_of mc_155 (pc := 6) (x := (.invokevirtual 80, 3)) (by decide +kernel)) mo_155 (by decide +kernel) (by decide) rfl rfl (by decide) rfl (Nat.le_of_ble_eq_true rfl) rfl
theorem e_155_9 : Df d 155 9 [l0, l1, l2] st h nx = Df d 155 10 [l0, l1, l2] (.int 1 :: st) h nx := D_iconst (ins_of mc_155 (pc := 9) (x := (.iconst 1, 1)) (by decide +kernel)) (by decide)
theorem e_155_10 : Df d 155 10 [l0, l1, l2] (.int y :: .int x :: st) h nx = Df d 155 11 [l0, l1, l2] (.int (x + y) :: st) h nx := D_iadd (ins_of mc_155 (pc := 10) (x := (.iadd, 1)) (by decide +kernel))
theorem e_155_11 : Df d 155 11 [l0, l1, l2] [v2, v1, v0, .ref a] h nx = if ck h a 9 = true then cn d 155 14 [l0, l1, l2] [] (Dn d 125 [.ref a, v0, v1, v2] h nx) else none := D_virtual (k1 := 125) (ins_of mc_155 (pc := 11) (x := (.invokevirtual 84, 3)) (by decide +kernel)) mo_155 (by decide +kernel) (by decide) rfl rfl (by decide) rfl (Nat.le_of_ble_eq_true rfl) rfl
theorem e_155_14 : Df d 155 14 [.ref a, l1, l2] st h nx = Df d 155 15 [.ref a, l1, l2] (.ref a :: st) h nx := D_aload_n (ins_of mc_155 (pc := 14) (x := (.aload_n 0, 1)) (by decide +kernel)) rfl
theorem e_155_15 : Df d 155 15 [l0, .int x, l2] st h nx = Df d 155 16 [l0, .int x, l2] (.int x :: st) h nx := D_iload_n (ins_of mc_155 (pc := 15) (x := (.iload_n 1, 1)) (by decide +kernel)) rfl
theorem e_155_16 : Df d 155 16 [l0, l1, l2] [v0, .ref a] h nx = if ck h a 9 = true then cn d 155 19 [l0, l1, l2] [] (Dn d 135 [.ref a, v0] h nx) else none := D_virtual (k1 := 135) (ins_of mc_155 (pc := 16) (x := (.invokevirtual 121, 3)) (by decide +kernel)) mo_155 (by decide +kernel) (by decide) rfl rfl (by decide) rfl (Nat.le_of_ble_eq_true rfl) rfl
theorem e_155_19 (hn : nr l2 = true) : Df d 155 19 [l0, l1, l2] (.int x :: st) h nx = Df d 155 20 [l0, l1, .int x] st h nx := D_istore_n (ins_of mc_155 (pc := 19) (x := (.istore_n 2, 1)) (by decide +kernel)) rfl hn rfl
theorem e_155_20 : Df d 155 20 [.ref a, l1, l2] st h nx = Df d 155 21 [.ref a, l1, l2] (.ref a :: st) h nx := D_aload_n (ins_of mc_155 (pc := 20) (x := (.aload_n 0, 1)) (by decide +kernel)) rfl
theorem e_155_21 : Df d 155 21 [l0, l1, l2] [.ref a] h nx = if ck h a 9 = true then cn d 155 24 [l0, l1, l2] [] (Dn d 148 [.ref a] h nx) else none := D_virtual (k1 := 148) (ins_of mc_155 (pc := 21) (x := (.invokevirtual 139, 3)) (by decide +kernel)) mo_155 (by decide +kernel) (by decide) rfl rfl (by decide) rfl (Nat.le_of_ble_eq_true rfl) rfl
theorem e_155_24 : Df d 155 24 [l0, l1, l2] st h nx = Df d 155 26 [l0, l1, l2] (.int 100 :: st) h nx := D_bipush (ins_of mc_155 (pc := 24) (x := (.bipush 100, 2)) (by decide +kernel)) (by decide)
theorem e_155_26 : Df d 155 26 [l0, l1, l2] (.int y :: .int x :: st) h nx = if y = 0 then none else Df d 155 27 [l0, l1, l2] (.int (x - x / y * y) :: st) h nx := D_irem (ins_of mc_155 (pc := 26) (x := (.irem, 1)) (by decide +kernel))
theorem e_155_27 : Df d 155 27 [.ref a, l1, l2] st h nx = Df d 155 28 [.ref a, l1, l2] (.ref a :: st) h nx := D_aload_n (ins_of mc_155 (pc := 27) (x := (.aload_n 0, 1)) (by decide +kernel)) rfl
theorem e_155_28 : Df d 155 28 [l0, l1, l2] (.ref a :: st) h nx = (gF h a 9 0).bind fun v => Df d 155 31 [l0, l1, l2] (v :: st) h nx := D_getfield (ins_of mc_155 (pc := 28) (x := (.getfield 9, 3)) (by decide +kernel)) mo_155 (by decide +kernel)
theorem e_155_31 : Df d 155 31 [l0, l1, l2] st h nx = Df d 155 32 [l0, l1, l2] (.int 5 :: st) h nx := D_iconst (ins_of mc_155 (pc := 31) (x := (.iconst 5, 1)) (by decide +kernel)) (by decide)
theorem e_155_32 : Df d 155 32 [l0, l1, l2] (.int x :: .ref a :: st) h nx = (rX h a x).bind fun v => Df d 155 33 [l0, l1, l2] (.int v :: st) h nx := D_iaload (ins_of mc_155 (pc := 32) (x := (.iaload, 1)) (by decide +kernel))
theorem e_155_33 : Df d 155 33 [l0, l1, l2] (.int y :: .int x :: st) h nx = if y ≤ x then Df d 155 50 [l0, l1, l2] st h nx else Df d 155 36 [l0, l1, l2] st h nx := D_icmp_ge (ins_of mc_155 (pc := 33) (x := (.if_icmp .ge 17, 3)) (by decide +kernel)) (by decide)
theorem e_155_36 : Df d 155 36 [l0, l1, .int x] st h nx = Df d 155 37 [l0, l1, .int x] (.int x :: st) h nx := D_iload_n (ins_of mc_155 (pc := 36) (x := (.iload_n 2, 1)) (by decide +kernel)) rfl
theorem e_155_37 : Df d 155 37 [l0, l1, l2] (.int x :: st) h nx = Df d 155 38 [l0, l1, l2] (.int (-x) :: st) h nx := D_ineg (ins_of mc_155 (pc := 37) (x := (.ineg, 1)) (by decide +kernel))
theorem e_155_38 (hn : nr l2 = true) : Df d 155 38 [l0, l1, l2] (.int x :: st) h nx = Df d 155 39 [l0, l1, .int x] st h nx := D_istore_n (ins_of mc_155 (pc := 38) (x := (.istore_n 2, 1)) (by decide +kernel)) rfl hn rfl
theorem e_155_39 : Df d 155 39 [.ref a, l1, l2] st h nx = Df d 155 40 [.ref a, l1, l2] (.ref a :: st) h nx := D_aload_n (ins_of mc_155 (pc := 39) (x := (.aload_n 0, 1)) (by decide +kernel)) rfl
theorem e_155_40 : Df d 155 40 [l0, l1, l2] (.ref a :: st) h nx = (gF h a 9 0).bind fun v => Df d 155 43 [l0, l1, l2] (v :: st) h nx := D_getfield (ins_of mc_155 (pc := 40) (x := (.getfield 9, 3)) (by decide +kernel)) mo_155 (by decide +kernel)
theorem e_155_43 : Df d 155 43 [l0, l1, l2] st h nx = Df d 155 45 [l0, l1, l2] (.int 9 :: st) h nx := D_bipush (ins_of mc_155 (pc := 43) (x := (.bipush 9, 2)) (by decide +kernel)) (by decide)
theorem e_155_45 (hv : v0.category = 1) (hw : v1.category = 1) : Df d 155 45 [l0, l1, l2] (v0 :: v1 :: st) h nx = Df d 155 46 [l0, l1, l2] (v0 :: v1 :: v0 :: v1 :: st) h nx := D_dup2 (ins_of mc_155 (pc := 45) (x := (.dup2, 1)) (by decide +kernel)) hv hw
theorem e_155_46 : Df d 155 46 [l0, l1, l2] (.int x :: .ref a :: st) h nx = (rX h a x).bind fun v => Df d 155 47 [l0, l1, l2] (.int v :: st) h nx := D_iaload (ins_of mc_155 (pc := 46) (x := (.iaload, 1)) (by decide +kernel))
theorem e_155_47 : Df d 155 47 [l0, l1, l2] st h nx = Df d 155 48 [l0, l1, l2] (.int 1 :: st) h nx := D_iconst (ins_of mc_155 (pc := 47) (x := (.iconst 1, 1)) (by decide +kernel)) (by decide)
theorem e_155_48 : Df d 155 48 [l0, l1, l2] (.int y :: .int x :: st) h nx = Df d 155 49 [l0, l1, l2] (.int (x + y) :: st) h nx := D_iadd (ins_of mc_155 (pc := 48) (x := (.iadd, 1)) (by decide +kernel))
theorem e_155_49 : Df d 155 49 [l0, l1, l2] (.int y :: .int x :: .ref a :: st) h nx = (wI h a x 0 y).bind fun h => Df d 155 50 [l0, l1, l2] st h nx := D_iastore (ins_of mc_155 (pc := 49) (x := (.iastore, 1)) (by decide +kernel))
theorem e_155_50 : Df d 155 50 [.ref a, l1, l2] st h nx = Df d 155 51 [.ref a, l1, l2] (.ref a :: st) h nx := D_aload_n (ins_of mc_155 (pc := 50) (x := (.aload_n 0, 1)) (by decide +kernel)) rfl
theorem e_155_51 : Df d 155 51 [l0, l1, l2] (.ref a :: st) h nx = (gF h a 9 0).bind fun v => Df d 155 54 [l0, l1, l2] (v :: st) h nx := D_getfield (ins_of mc_155 (pc := 51) (x := (.getfield 9, 3)) (by decide +kernel)) mo_155 (by decide +kernel)
theorem e_155_54 : Df d 155 54 [l0, l1, l2] st h nx = Df d 155 56 [l0, l1, l2] (.int 7 :: st) h nx := D_bipush (ins_of mc_155 (pc := 54) (x := (.bipush 7, 2)) (by decide +kernel)) (by decide)
theorem e_155_56 : Df d 155 56 [.ref a, l1, l2] st h nx = Df d 155 57 [.ref a, l1, l2] (.ref a :: st) h nx := D_aload_n (ins_of mc_155 (pc := 56) (x := (.aload_n 0, 1)) (by decide +kernel)) rfl
theorem e_155_57 : Df d 155 57 [l0, l1, l2] (.ref a :: st) h nx = (gF h a 9 0).bind fun v => Df d 155 60 [l0, l1, l2] (v :: st) h nx := D_getfield (ins_of mc_155 (pc := 57) (x := (.getfield 9, 3)) (by decide +kernel)) mo_155 (by decide +kernel)
theorem e_155_60 : Df d 155 60 [l0, l1, l2] st h nx = Df d 155 62 [l0, l1, l2] (.int 7 :: st) h nx := D_bipush (ins_of mc_155 (pc := 60) (x := (.bipush 7, 2)) (by decide +kernel)) (by decide)
theorem e_155_62 : Df d 155 62 [l0, l1, l2] (.int x :: .ref a :: st) h nx = (rX h a x).bind fun v => Df d 155 63 [l0, l1, l2] (.int v :: st) h nx := D_iaload (ins_of mc_155 (pc := 62) (x := (.iaload, 1)) (by decide +kernel))
theorem e_155_63 : Df d 155 63 [l0, l1, .int x] st h nx = Df d 155 64 [l0, l1, .int x] (.int x :: st) h nx := D_iload_n (ins_of mc_155 (pc := 63) (x := (.iload_n 2, 1)) (by decide +kernel)) rfl
theorem e_155_64 : Df d 155 64 [l0, l1, l2] (.int y :: .int x :: st) h nx = Df d 155 65 [l0, l1, l2] (.int (x + y) :: st) h nx := D_iadd (ins_of mc_155 (pc := 64) (x := (.iadd, 1)) (by decide +kernel))
theorem e_155_65 : Df d 155 65 [l0, l1, l2] st h nx = Df d 155 67 [l0, l1, l2] (.int 24 :: st) h nx := D_bipush (ins_of mc_155 (pc := 65) (x := (.bipush 24, 2)) (by decide +kernel)) (by decide)
theorem e_155_67 : Df d 155 67 [l0, l1, l2] (.int y :: .int x :: st) h nx = Df d 155 68 [l0, l1, l2] (.int (x + y) :: st) h nx := D_iadd (ins_of mc_155 (pc := 67) (x := (.iadd, 1)) (by decide +kernel))
theorem e_155_68 : Df d 155 68 [l0, l1, l2] st h nx = Df d 155 70 [l0, l1, l2] (.int 24 :: st) h nx := D_bipush (ins_of mc_155 (pc := 68) (x := (.bipush 24, 2)) (by decide +kernel)) (by decide)
theorem e_155_70 : Df d 155 70 [l0, l1, l2] (.int y :: .int x :: st) h nx = if y = 0 then none else Df d 155 71 [l0, l1, l2] (.int (x - x / y * y) :: st) h nx := D_irem (ins_of mc_155 (pc := 70) (x := (.irem, 1)) (by decide +kernel))
theorem e_155_71 : Df d 155 71 [l0, l1, l2] (.int y :: .int x :: .ref a :: st) h nx = (wI h a x 0 y).bind fun h => Df d 155 72 [l0, l1, l2] st h nx := D_iastore (ins_of mc_155 (pc := 71) (x := (.iastore, 1)) (by decide +kernel))
theorem e_155_72 : Df d 155 72 [l0, l1, l2] [] h nx = some (none, h, nx) := D_return (ins_of mc_155 (pc := 72) (x := (.return_, 1)) (by decide +kernel)) mr_155
end EE
