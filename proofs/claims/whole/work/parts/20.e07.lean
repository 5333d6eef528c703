section EE
variable {d : Nat} {l0 l1 l2 l3 l4 l5 l6 l7 l8 l9 l10 l11 : Value} {st : List Value} {h : AH} {nx : AN} {x y z : Int32} {xl yl : Int64} {a b : Nat} {s0 s1 s2 s3 s4 s5 v0 v1 v2 v3 v4 v5 : Value}
theorem mc_197 : mC 197 = prog_11_method_79_code := rfl
theorem mo_197 : mO 197 = 9 := rfl
theorem ml_197 : mL 197 = 6 := rfl
theorem mr_197 : mR 197 = (some .int) := rfl
theorem ma_197 : mA 197 = 1 := rfl
theorem e_197_0 : Df d 197 0 [l0, .int x, l2, l3, l4, l5] st h nx = Df d 197 1 [l0, .int x, l2, l3, l4, l5] (.int x :: st) h nx := D_iload_n (ins_of mc_197 (pc := 0) (x := (.iload_n 1, 1)) (by decide +kernel)) rfl
theorem e_197_1 : Df d 197 1 [l0, l1, l2, l3, l4, l5] [v0] h nx = cn d 197 4 [l0, l1, l2, l3, l4, l5] [] (Dn d 175 [v0] h nx) := D_static (k1 := 175) (kd := 1) (ins_of mc_197 (pc := 1) (x := (.invokestatic 192, 3)) (by decide +kernel)) mo_197 (by decide +kernel) (by decide) rfl (Nat.le_of_ble_eq_true rfl) rfl (Nat.le_of_ble_eq_true rfl) rfl
theorem e_197_4 : Df d 197 4 [l0, l1, l2, l3, l4, l5] (.int x :: st) h nx = if x = 0 then Df d 197 7 [l0, l1, l2, l3, l4, l5] st h nx else Df d 197 10 [l0, l1, l2, l3, l4, l5] st h nx := D_if_ne (ins_of mc_197 (pc := 4) (x := (.ifCond .ne 6, 3)) (by decide +kernel)) (by decide)
theorem e_197_7 : Df d 197 7 [l0, l1, l2, l3, l4, l5] st h nx = Df d 197 9 [l0, l1, l2, l3, l4, l5] (.int (-1000000001) :: st) h nx := D_ldc (ins_of mc_197 (pc := 7) (x := (.ldc 88, 2)) (by decide +kernel)) mo_197 (by decide +kernel)
theorem e_197_9 : Df d 197 9 [l0, l1, l2, l3, l4, l5] [.int x] h nx = some (some (.int x), h, nx) := D_ireturn (ins_of mc_197 (pc := 9) (x := (.ireturn, 1)) (by decide +kernel)) mr_197
theorem e_197_10 : Df d 197 10 [.ref a, l1, l2, l3, l4, l5] st h nx = Df d 197 11 [.ref a, l1, l2, l3, l4, l5] (.ref a :: st) h nx := D_aload_n (ins_of mc_197 (pc := 10) (x := (.aload_n 0, 1)) (by decide +kernel)) rfl
theorem e_197_11 : Df d 197 11 [l0, l1, l2, l3, l4, l5] (.ref a :: st) h nx = (gF h a 9 24).bind fun v => Df d 197 14 [l0, l1, l2, l3, l4, l5] (v :: st) h nx := D_getfield (ins_of mc_197 (pc := 11) (x := (.getfield 48, 3)) (by decide +kernel)) mo_197 (by decide +kernel)
theorem e_197_14 : Df d 197 14 [l0, .int x, l2, l3, l4, l5] st h nx = Df d 197 15 [l0, .int x, l2, l3, l4, l5] (.int x :: st) h nx := D_iload_n (ins_of mc_197 (pc := 14) (x := (.iload_n 1, 1)) (by decide +kernel)) rfl
theorem e_197_15 : Df d 197 15 [l0, l1, l2, l3, l4, l5] (.int x :: .ref a :: st) h nx = (rX h a x).bind fun v => Df d 197 16 [l0, l1, l2, l3, l4, l5] (.int v :: st) h nx := D_iaload (ins_of mc_197 (pc := 15) (x := (.iaload, 1)) (by decide +kernel))
theorem e_197_16 : Df d 197 16 [l0, l1, l2, l3, l4, l5] (.int x :: st) h nx = if 0 ≤ x then Df d 197 22 [l0, l1, l2, l3, l4, l5] st h nx else Df d 197 19 [l0, l1, l2, l3, l4, l5] st h nx := D_if_ge (ins_of mc_197 (pc := 16) (x := (.ifCond .ge 6, 3)) (by decide +kernel)) (by decide)
theorem e_197_19 : Df d 197 19 [l0, l1, l2, l3, l4, l5] st h nx = Df d 197 21 [l0, l1, l2, l3, l4, l5] (.int (-1000000011) :: st) h nx := D_ldc (ins_of mc_197 (pc := 19) (x := (.ldc 195, 2)) (by decide +kernel)) mo_197 (by decide +kernel)
theorem e_197_21 : Df d 197 21 [l0, l1, l2, l3, l4, l5] [.int x] h nx = some (some (.int x), h, nx) := D_ireturn (ins_of mc_197 (pc := 21) (x := (.ireturn, 1)) (by decide +kernel)) mr_197
theorem e_197_22 : Df d 197 22 [l0, l1, l2, l3, l4, l5] st h nx = Df d 197 23 [l0, l1, l2, l3, l4, l5] (.int 0 :: st) h nx := D_iconst (ins_of mc_197 (pc := 22) (x := (.iconst 0, 1)) (by decide +kernel)) (by decide)
theorem e_197_23 (hn : nr l2 = true) : Df d 197 23 [l0, l1, l2, l3, l4, l5] (.int x :: st) h nx = Df d 197 24 [l0, l1, .int x, l3, l4, l5] st h nx := D_istore_n (ins_of mc_197 (pc := 23) (x := (.istore_n 2, 1)) (by decide +kernel)) rfl hn rfl
theorem e_197_24 : Df d 197 24 [l0, l1, l2, l3, l4, l5] st h nx = Df d 197 25 [l0, l1, l2, l3, l4, l5] (.int 0 :: st) h nx := D_iconst (ins_of mc_197 (pc := 24) (x := (.iconst 0, 1)) (by decide +kernel)) (by decide)
theorem e_197_25 (hn : nr l3 = true) : Df d 197 25 [l0, l1, l2, l3, l4, l5] (.int x :: st) h nx = Df d 197 26 [l0, l1, l2, .int x, l4, l5] st h nx := D_istore_n (ins_of mc_197 (pc := 25) (x := (.istore_n 3, 1)) (by decide +kernel)) rfl hn rfl
theorem e_197_26 : Df d 197 26 [l0, l1, l2, .int x, l4, l5] st h nx = Df d 197 27 [l0, l1, l2, .int x, l4, l5] (.int x :: st) h nx := D_iload_n (ins_of mc_197 (pc := 26) (x := (.iload_n 3, 1)) (by decide +kernel)) rfl
theorem e_197_27 : Df d 197 27 [.ref a, l1, l2, l3, l4, l5] st h nx = Df d 197 28 [.ref a, l1, l2, l3, l4, l5] (.ref a :: st) h nx := D_aload_n (ins_of mc_197 (pc := 27) (x := (.aload_n 0, 1)) (by decide +kernel)) rfl
theorem e_197_28 : Df d 197 28 [l0, l1, l2, l3, l4, l5] (.ref a :: st) h nx = (gF h a 9 25).bind fun v => Df d 197 31 [l0, l1, l2, l3, l4, l5] (v :: st) h nx := D_getfield (ins_of mc_197 (pc := 28) (x := (.getfield 51, 3)) (by decide +kernel)) mo_197 (by decide +kernel)
theorem e_197_31 : Df d 197 31 [l0, .int x, l2, l3, l4, l5] st h nx = Df d 197 32 [l0, .int x, l2, l3, l4, l5] (.int x :: st) h nx := D_iload_n (ins_of mc_197 (pc := 31) (x := (.iload_n 1, 1)) (by decide +kernel)) rfl
theorem e_197_32 : Df d 197 32 [l0, l1, l2, l3, l4, l5] (.int x :: .ref a :: st) h nx = (rX h a x).bind fun v => Df d 197 33 [l0, l1, l2, l3, l4, l5] (.int v :: st) h nx := D_iaload (ins_of mc_197 (pc := 32) (x := (.iaload, 1)) (by decide +kernel))
theorem e_197_33 : Df d 197 33 [l0, l1, l2, l3, l4, l5] (.int y :: .int x :: st) h nx = if y ≤ x then Df d 197 107 [l0, l1, l2, l3, l4, l5] st h nx else Df d 197 36 [l0, l1, l2, l3, l4, l5] st h nx := D_icmp_ge (ins_of mc_197 (pc := 33) (x := (.if_icmp .ge 74, 3)) (by decide +kernel)) (by decide)
theorem e_197_36 : Df d 197 36 [.ref a, l1, l2, l3, l4, l5] st h nx = Df d 197 37 [.ref a, l1, l2, l3, l4, l5] (.ref a :: st) h nx := D_aload_n (ins_of mc_197 (pc := 36) (x := (.aload_n 0, 1)) (by decide +kernel)) rfl
theorem e_197_37 : Df d 197 37 [l0, l1, l2, l3, l4, l5] (.ref a :: st) h nx = (gF h a 9 26).bind fun v => Df d 197 40 [l0, l1, l2, l3, l4, l5] (v :: st) h nx := D_getfield (ins_of mc_197 (pc := 37) (x := (.getfield 54, 3)) (by decide +kernel)) mo_197 (by decide +kernel)
theorem e_197_40 : Df d 197 40 [l0, l1, l2, l3, l4, l5] st h nx = Df d 197 42 [l0, l1, l2, l3, l4, l5] (.int 24 :: st) h nx := D_bipush (ins_of mc_197 (pc := 40) (x := (.bipush 24, 2)) (by decide +kernel)) (by decide)
theorem e_197_42 : Df d 197 42 [l0, .int x, l2, l3, l4, l5] st h nx = Df d 197 43 [l0, .int x, l2, l3, l4, l5] (.int x :: st) h nx := D_iload_n (ins_of mc_197 (pc := 42) (x := (.iload_n 1, 1)) (by decide +kernel)) rfl
theorem e_197_43 : Df d 197 43 [l0, l1, l2, l3, l4, l5] (.int y :: .int x :: st) h nx = Df d 197 44 [l0, l1, l2, l3, l4, l5] (.int (x * y) :: st) h nx := D_imul (ins_of mc_197 (pc := 43) (x := (.imul, 1)) (by decide +kernel))
theorem e_197_44 : Df d 197 44 [l0, l1, l2, .int x, l4, l5] st h nx = Df d 197 45 [l0, l1, l2, .int x, l4, l5] (.int x :: st) h nx := D_iload_n (ins_of mc_197 (pc := 44) (x := (.iload_n 3, 1)) (by decide +kernel)) rfl
theorem e_197_45 : Df d 197 45 [l0, l1, l2, l3, l4, l5] (.int y :: .int x :: st) h nx = Df d 197 46 [l0, l1, l2, l3, l4, l5] (.int (x + y) :: st) h nx := D_iadd (ins_of mc_197 (pc := 45) (x := (.iadd, 1)) (by decide +kernel))
theorem e_197_46 : Df d 197 46 [l0, l1, l2, l3, l4, l5] (.int x :: .ref a :: st) h nx = (rX h a x).bind fun v => Df d 197 47 [l0, l1, l2, l3, l4, l5] (.int v :: st) h nx := D_iaload (ins_of mc_197 (pc := 46) (x := (.iaload, 1)) (by decide +kernel))
theorem e_197_47 (hn : nr l4 = true) : Df d 197 47 [l0, l1, l2, l3, l4, l5] (.int x :: st) h nx = Df d 197 49 [l0, l1, l2, l3, .int x, l5] st h nx := D_istore (ins_of mc_197 (pc := 47) (x := (.istore 4, 2)) (by decide +kernel)) rfl hn rfl
theorem e_197_49 : Df d 197 49 [l0, l1, l2, l3, .int x, l5] st h nx = Df d 197 51 [l0, l1, l2, l3, .int x, l5] (.int x :: st) h nx := D_iload (ins_of mc_197 (pc := 49) (x := (.iload 4, 2)) (by decide +kernel)) rfl
theorem e_197_51 : Df d 197 51 [l0, l1, l2, l3, l4, l5] st h nx = Df d 197 53 [l0, l1, l2, l3, l4, l5] (.int (-1000000005) :: st) h nx := D_ldc (ins_of mc_197 (pc := 51) (x := (.ldc 75, 2)) (by decide +kernel)) mo_197 (by decide +kernel)
theorem e_197_53 : Df d 197 53 [l0, l1, l2, l3, l4, l5] (.int y :: .int x :: st) h nx = if x = y then Df d 197 56 [l0, l1, l2, l3, l4, l5] st h nx else Df d 197 68 [l0, l1, l2, l3, l4, l5] st h nx := D_icmp_ne (ins_of mc_197 (pc := 53) (x := (.if_icmp .ne 15, 3)) (by decide +kernel)) (by decide)
theorem e_197_56 : Df d 197 56 [.ref a, l1, l2, l3, l4, l5] st h nx = Df d 197 57 [.ref a, l1, l2, l3, l4, l5] (.ref a :: st) h nx := D_aload_n (ins_of mc_197 (pc := 56) (x := (.aload_n 0, 1)) (by decide +kernel)) rfl
theorem e_197_57 : Df d 197 57 [l0, l1, l2, l3, l4, l5] (.ref a :: st) h nx = (gF h a 9 0).bind fun v => Df d 197 60 [l0, l1, l2, l3, l4, l5] (v :: st) h nx := D_getfield (ins_of mc_197 (pc := 57) (x := (.getfield 9, 3)) (by decide +kernel)) mo_197 (by decide +kernel)
theorem e_197_60 : Df d 197 60 [l0, l1, l2, l3, l4, l5] st h nx = Df d 197 62 [l0, l1, l2, l3, l4, l5] (.int 11 :: st) h nx := D_bipush (ins_of mc_197 (pc := 60) (x := (.bipush 11, 2)) (by decide +kernel)) (by decide)
theorem e_197_62 : Df d 197 62 [l0, l1, l2, .int x, l4, l5] st h nx = Df d 197 63 [l0, l1, l2, .int x, l4, l5] (.int x :: st) h nx := D_iload_n (ins_of mc_197 (pc := 62) (x := (.iload_n 3, 1)) (by decide +kernel)) rfl
theorem e_197_63 : Df d 197 63 [l0, l1, l2, l3, l4, l5] (.int y :: .int x :: st) h nx = Df d 197 64 [l0, l1, l2, l3, l4, l5] (.int (x + y) :: st) h nx := D_iadd (ins_of mc_197 (pc := 63) (x := (.iadd, 1)) (by decide +kernel))
theorem e_197_64 : Df d 197 64 [l0, l1, l2, l3, l4, l5] (.int x :: .ref a :: st) h nx = (rX h a x).bind fun v => Df d 197 65 [l0, l1, l2, l3, l4, l5] (.int v :: st) h nx := D_iaload (ins_of mc_197 (pc := 64) (x := (.iaload, 1)) (by decide +kernel))
theorem e_197_65 : Df d 197 65 [l0, l1, l2, l3, l4, l5] st h nx = Df d 197 76 [l0, l1, l2, l3, l4, l5] st h nx := D_goto (ins_of mc_197 (pc := 65) (x := (.goto 11, 3)) (by decide +kernel)) (by decide)
theorem e_197_68 : Df d 197 68 [l0, l1, l2, l3, .int x, l5] st h nx = Df d 197 70 [l0, l1, l2, l3, .int x, l5] (.int x :: st) h nx := D_iload (ins_of mc_197 (pc := 68) (x := (.iload 4, 2)) (by decide +kernel)) rfl
theorem e_197_70 : Df d 197 70 [l0, l1, l2, l3, l4, l5] st h nx = Df d 197 71 [l0, l1, l2, l3, l4, l5] (.int 0 :: st) h nx := D_iconst (ins_of mc_197 (pc := 70) (x := (.iconst 0, 1)) (by decide +kernel)) (by decide)
theorem e_197_71 : Df d 197 71 [l0, l1, l2, l3, l4, l5] st h nx = Df d 197 73 [l0, l1, l2, l3, l4, l5] (.int 99 :: st) h nx := D_bipush (ins_of mc_197 (pc := 71) (x := (.bipush 99, 2)) (by decide +kernel)) (by decide)
theorem e_197_73 : Df d 197 73 [l0, l1, l2, l3, l4, l5] [v2, v1, v0] h nx = cn d 197 76 [l0, l1, l2, l3, l4, l5] [] (Dn d 133 [v0, v1, v2] h nx) := D_static (k1 := 133) (kd := 1) (ins_of mc_197 (pc := 73) (x := (.invokestatic 101, 3)) (by decide +kernel)) mo_197 (by decide +kernel) (by decide) rfl (Nat.le_of_ble_eq_true rfl) rfl (Nat.le_of_ble_eq_true rfl) rfl
theorem e_197_76 (hn : nr l5 = true) : Df d 197 76 [l0, l1, l2, l3, l4, l5] (.int x :: st) h nx = Df d 197 78 [l0, l1, l2, l3, l4, .int x] st h nx := D_istore (ins_of mc_197 (pc := 76) (x := (.istore 5, 2)) (by decide +kernel)) rfl hn rfl
theorem e_197_78 : Df d 197 78 [l0, l1, .int x, l3, l4, l5] st h nx = Df d 197 79 [l0, l1, .int x, l3, l4, l5] (.int x :: st) h nx := D_iload_n (ins_of mc_197 (pc := 78) (x := (.iload_n 2, 1)) (by decide +kernel)) rfl
theorem e_197_79 : Df d 197 79 [.ref a, l1, l2, l3, l4, l5] st h nx = Df d 197 80 [.ref a, l1, l2, l3, l4, l5] (.ref a :: st) h nx := D_aload_n (ins_of mc_197 (pc := 79) (x := (.aload_n 0, 1)) (by decide +kernel)) rfl
theorem e_197_80 : Df d 197 80 [l0, l1, l2, l3, l4, l5] st h nx = Df d 197 82 [l0, l1, l2, l3, l4, l5] (.int 11 :: st) h nx := D_bipush (ins_of mc_197 (pc := 80) (x := (.bipush 11, 2)) (by decide +kernel)) (by decide)
theorem e_197_82 : Df d 197 82 [l0, l1, l2, .int x, l4, l5] st h nx = Df d 197 83 [l0, l1, l2, .int x, l4, l5] (.int x :: st) h nx := D_iload_n (ins_of mc_197 (pc := 82) (x := (.iload_n 3, 1)) (by decide +kernel)) rfl
theorem e_197_83 : Df d 197 83 [l0, l1, l2, l3, l4, l5] (.int y :: .int x :: st) h nx = Df d 197 84 [l0, l1, l2, l3, l4, l5] (.int (x + y) :: st) h nx := D_iadd (ins_of mc_197 (pc := 83) (x := (.iadd, 1)) (by decide +kernel))
theorem e_197_84 : Df d 197 84 [l0, l1, l2, l3, l4, .int x] st h nx = Df d 197 86 [l0, l1, l2, l3, l4, .int x] (.int x :: st) h nx := D_iload (ins_of mc_197 (pc := 84) (x := (.iload 5, 2)) (by decide +kernel)) rfl
theorem e_197_86 : Df d 197 86 [l0, l1, l2, l3, l4, l5] [v1, v0, .ref a, s0] h nx = if ck h a 9 = true then cn d 197 89 [l0, l1, l2, l3, l4, l5] [s0] (Dn d 142 [.ref a, v0, v1] h nx) else none := D_virtual (k1 := 142) (ins_of mc_197 (pc := 86) (x := (.invokevirtual 132, 3)) (by decide +kernel)) mo_197 (by decide +kernel) (by decide) rfl rfl (by decide) rfl (Nat.le_of_ble_eq_true rfl) rfl
theorem e_197_89 : Df d 197 89 [l0, l1, l2, l3, l4, .int x] st h nx = Df d 197 91 [l0, l1, l2, l3, l4, .int x] (.int x :: st) h nx := D_iload (ins_of mc_197 (pc := 89) (x := (.iload 5, 2)) (by decide +kernel)) rfl
theorem e_197_91 : Df d 197 91 [l0, l1, l2, l3, l4, l5] (.int y :: .int x :: st) h nx = if x = y then Df d 197 94 [l0, l1, l2, l3, l4, l5] st h nx else Df d 197 98 [l0, l1, l2, l3, l4, l5] st h nx := D_icmp_ne (ins_of mc_197 (pc := 91) (x := (.if_icmp .ne 7, 3)) (by decide +kernel)) (by decide)
theorem e_197_94 : Df d 197 94 [l0, l1, l2, l3, l4, l5] st h nx = Df d 197 95 [l0, l1, l2, l3, l4, l5] (.int 0 :: st) h nx := D_iconst (ins_of mc_197 (pc := 94) (x := (.iconst 0, 1)) (by decide +kernel)) (by decide)
theorem e_197_95 : Df d 197 95 [l0, l1, l2, l3, l4, l5] st h nx = Df d 197 99 [l0, l1, l2, l3, l4, l5] st h nx := D_goto (ins_of mc_197 (pc := 95) (x := (.goto 4, 3)) (by decide +kernel)) (by decide)
theorem e_197_98 : Df d 197 98 [l0, l1, l2, l3, l4, l5] st h nx = Df d 197 99 [l0, l1, l2, l3, l4, l5] (.int 1 :: st) h nx := D_iconst (ins_of mc_197 (pc := 98) (x := (.iconst 1, 1)) (by decide +kernel)) (by decide)
theorem e_197_99 : Df d 197 99 [l0, l1, l2, l3, l4, l5] (.int y :: .int x :: st) h nx = Df d 197 100 [l0, l1, l2, l3, l4, l5] (.int (x + y) :: st) h nx := D_iadd (ins_of mc_197 (pc := 99) (x := (.iadd, 1)) (by decide +kernel))
theorem e_197_100 (hn : nr l2 = true) : Df d 197 100 [l0, l1, l2, l3, l4, l5] (.int x :: st) h nx = Df d 197 101 [l0, l1, .int x, l3, l4, l5] st h nx := D_istore_n (ins_of mc_197 (pc := 100) (x := (.istore_n 2, 1)) (by decide +kernel)) rfl hn rfl
theorem e_197_101 : Df d 197 101 [l0, l1, l2, .int x, l4, l5] st h nx = Df d 197 104 [l0, l1, l2, .int (x + 1), l4, l5] st h nx := D_iinc (ins_of mc_197 (pc := 101) (x := (.iinc 3 1, 3)) (by decide +kernel)) rfl (by decide) rfl
theorem e_197_104 : Df d 197 104 [l0, l1, l2, l3, l4, l5] st h nx = Df d 197 26 [l0, l1, l2, l3, l4, l5] st h nx := D_goto (ins_of mc_197 (pc := 104) (x := (.goto (-78), 3)) (by decide +kernel)) (by decide)
theorem e_197_107 : Df d 197 107 [l0, l1, .int x, l3, l4, l5] st h nx = Df d 197 108 [l0, l1, .int x, l3, l4, l5] (.int x :: st) h nx := D_iload_n (ins_of mc_197 (pc := 107) (x := (.iload_n 2, 1)) (by decide +kernel)) rfl
theorem e_197_108 : Df d 197 108 [l0, l1, l2, l3, l4, l5] [.int x] h nx = some (some (.int x), h, nx) := D_ireturn (ins_of mc_197 (pc := 108) (x := (.ireturn, 1)) (by decide +kernel)) mr_197
theorem mc_198 : mC 198 = prog_11_method_80_code := rfl
theorem mo_198 : mO 198 = 9 := rfl
theorem ml_198 : mL 198 = 4 := rfl
theorem mr_198 : mR 198 = (some .int) := rfl
theorem ma_198 : mA 198 = 1 := rfl
theorem e_198_0 : Df d 198 0 [l0, .int x, l2, l3] st h nx = Df d 198 1 [l0, .int x, l2, l3] (.int x :: st) h nx := D_iload_n (ins_of mc_198 (pc := 0) (x := (.iload_n 1, 1)) (by decide +kernel)) rfl
theorem e_198_1 : Df d 198 1 [l0, l1, l2, l3] [v0] h nx = cn d 198 4 [l0, l1, l2, l3] [] (Dn d 175 [v0] h nx) := D_static (k1 := 175) (kd := 1) (ins_of mc_198 (pc := 1) (x := (.invokestatic 192, 3)) (by decide +kernel)) mo_198 (by decide +kernel) (by decide) rfl (Nat.le_of_ble_eq_true rfl) rfl (Nat.le_of_ble_eq_true rfl) rfl
theorem e_198_4 : Df d 198 4 [l0, l1, l2, l3] (.int x :: st) h nx = if x = 0 then Df d 198 7 [l0, l1, l2, l3] st h nx else Df d 198 10 [l0, l1, l2, l3] st h nx := D_if_ne (ins_of mc_198 (pc := 4) (x := (.ifCond .ne 6, 3)) (by decide +kernel)) (by decide)
theorem e_198_7 : Df d 198 7 [l0, l1, l2, l3] st h nx = Df d 198 9 [l0, l1, l2, l3] (.int (-1000000001) :: st) h nx := D_ldc (ins_of mc_198 (pc := 7) (x := (.ldc 88, 2)) (by decide +kernel)) mo_198 (by decide +kernel)
theorem e_198_9 : Df d 198 9 [l0, l1, l2, l3] [.int x] h nx = some (some (.int x), h, nx) := D_ireturn (ins_of mc_198 (pc := 9) (x := (.ireturn, 1)) (by decide +kernel)) mr_198
theorem e_198_10 : Df d 198 10 [.ref a, l1, l2, l3] st h nx = Df d 198 11 [.ref a, l1, l2, l3] (.ref a :: st) h nx := D_aload_n (ins_of mc_198 (pc := 10) (x := (.aload_n 0, 1)) (by decide +kernel)) rfl
theorem e_198_11 : Df d 198 11 [l0, l1, l2, l3] (.ref a :: st) h nx = (gF h a 9 24).bind fun v => Df d 198 14 [l0, l1, l2, l3] (v :: st) h nx := D_getfield (ins_of mc_198 (pc := 11) (x := (.getfield 48, 3)) (by decide +kernel)) mo_198 (by decide +kernel)
theorem e_198_14 : Df d 198 14 [l0, .int x, l2, l3] st h nx = Df d 198 15 [l0, .int x, l2, l3] (.int x :: st) h nx := D_iload_n (ins_of mc_198 (pc := 14) (x := (.iload_n 1, 1)) (by decide +kernel)) rfl
theorem e_198_15 : Df d 198 15 [l0, l1, l2, l3] (.int x :: .ref a :: st) h nx = (rX h a x).bind fun v => Df d 198 16 [l0, l1, l2, l3] (.int v :: st) h nx := D_iaload (ins_of mc_198 (pc := 15) (x := (.iaload, 1)) (by decide +kernel))
theorem e_198_16 : Df d 198 16 [l0, l1, l2, l3] (.int x :: st) h nx = if 0 ≤ x then Df d 198 22 [l0, l1, l2, l3] st h nx else Df d 198 19 [l0, l1, l2, l3] st h nx := D_if_ge (ins_of mc_198 (pc := 16) (x := (.ifCond .ge 6, 3)) (by decide +kernel)) (by decide)
theorem e_198_19 : Df d 198 19 [l0, l1, l2, l3] st h nx = Df d 198 21 [l0, l1, l2, l3] (.int (-1000000011) :: st) h nx := D_ldc (ins_of mc_198 (pc := 19) (x := (.ldc 195, 2)) (by decide +kernel)) mo_198 (by decide +kernel)
theorem e_198_21 : Df d 198 21 [l0, l1, l2, l3] [.int x] h nx = some (some (.int x), h, nx) := D_ireturn (ins_of mc_198 (pc := 21) (x := (.ireturn, 1)) (by decide +kernel)) mr_198
theorem e_198_22 : Df d 198 22 [l0, l1, l2, l3] st h nx = Df d 198 23 [l0, l1, l2, l3] (.int 0 :: st) h nx := D_iconst (ins_of mc_198 (pc := 22) (x := (.iconst 0, 1)) (by decide +kernel)) (by decide)
theorem e_198_23 (hn : nr l2 = true) : Df d 198 23 [l0, l1, l2, l3] (.int x :: st) h nx = Df d 198 24 [l0, l1, .int x, l3] st h nx := D_istore_n (ins_of mc_198 (pc := 23) (x := (.istore_n 2, 1)) (by decide +kernel)) rfl hn rfl
theorem e_198_24 : Df d 198 24 [l0, l1, .int x, l3] st h nx = Df d 198 25 [l0, l1, .int x, l3] (.int x :: st) h nx := D_iload_n (ins_of mc_198 (pc := 24) (x := (.iload_n 2, 1)) (by decide +kernel)) rfl
theorem e_198_25 : Df d 198 25 [.ref a, l1, l2, l3] st h nx = Df d 198 26 [.ref a, l1, l2, l3] (.ref a :: st) h nx := D_aload_n (ins_of mc_198 (pc := 25) (x := (.aload_n 0, 1)) (by decide +kernel)) rfl
theorem e_198_26 : Df d 198 26 [l0, l1, l2, l3] (.ref a :: st) h nx = (gF h a 9 25).bind fun v => Df d 198 29 [l0, l1, l2, l3] (v :: st) h nx := D_getfield (ins_of mc_198 (pc := 26) (x := (.getfield 51, 3)) (by decide +kernel)) mo_198 (by decide +kernel)
theorem e_198_29 : Df d 198 29 [l0, .int x, l2, l3] st h nx = Df d 198 30 [l0, .int x, l2, l3] (.int x :: st) h nx := D_iload_n (ins_of mc_198 (pc := 29) (x := (.iload_n 1, 1)) (by decide +kernel)) rfl
theorem e_198_30 : Df d 198 30 [l0, l1, l2, l3] (.int x :: .ref a :: st) h nx = (rX h a x).bind fun v => Df d 198 31 [l0, l1, l2, l3] (.int v :: st) h nx := D_iaload (ins_of mc_198 (pc := 30) (x := (.iaload, 1)) (by decide +kernel))
theorem e_198_31 : Df d 198 31 [l0, l1, l2, l3] (.int y :: .int x :: st) h nx = if y ≤ x then Df d 198 78 [l0, l1, l2, l3] st h nx else Df d 198 34 [l0, l1, l2, l3] st h nx := D_icmp_ge (ins_of mc_198 (pc := 31) (x := (.if_icmp .ge 47, 3)) (by decide +kernel)) (by decide)
theorem e_198_34 : Df d 198 34 [.ref a, l1, l2, l3] st h nx = Df d 198 35 [.ref a, l1, l2, l3] (.ref a :: st) h nx := D_aload_n (ins_of mc_198 (pc := 34) (x := (.aload_n 0, 1)) (by decide +kernel)) rfl
theorem e_198_35 : Df d 198 35 [l0, l1, l2, l3] (.ref a :: st) h nx = (gF h a 9 26).bind fun v => Df d 198 38 [l0, l1, l2, l3] (v :: st) h nx := D_getfield (ins_of mc_198 (pc := 35) (x := (.getfield 54, 3)) (by decide +kernel)) mo_198 (by decide +kernel)
theorem e_198_38 : Df d 198 38 [l0, l1, l2, l3] st h nx = Df d 198 40 [l0, l1, l2, l3] (.int 24 :: st) h nx := D_bipush (ins_of mc_198 (pc := 38) (x := (.bipush 24, 2)) (by decide +kernel)) (by decide)
theorem e_198_40 : Df d 198 40 [l0, .int x, l2, l3] st h nx = Df d 198 41 [l0, .int x, l2, l3] (.int x :: st) h nx := D_iload_n (ins_of mc_198 (pc := 40) (x := (.iload_n 1, 1)) (by decide +kernel)) rfl
theorem e_198_41 : Df d 198 41 [l0, l1, l2, l3] (.int y :: .int x :: st) h nx = Df d 198 42 [l0, l1, l2, l3] (.int (x * y) :: st) h nx := D_imul (ins_of mc_198 (pc := 41) (x := (.imul, 1)) (by decide +kernel))
theorem e_198_42 : Df d 198 42 [l0, l1, .int x, l3] st h nx = Df d 198 43 [l0, l1, .int x, l3] (.int x :: st) h nx := D_iload_n (ins_of mc_198 (pc := 42) (x := (.iload_n 2, 1)) (by decide +kernel)) rfl
theorem e_198_43 : Df d 198 43 [l0, l1, l2, l3] (.int y :: .int x :: st) h nx = Df d 198 44 [l0, l1, l2, l3] (.int (x + y) :: st) h nx := D_iadd (ins_of mc_198 (pc := 43) (x := (.iadd, 1)) (by decide +kernel))
theorem e_198_44 : Df d 198 44 [l0, l1, l2, l3] (.int x :: .ref a :: st) h nx = (rX h a x).bind fun v => Df d 198 45 [l0, l1, l2, l3] (.int v :: st) h nx := D_iaload (ins_of mc_198 (pc := 44) (x := (.iaload, 1)) (by decide +kernel))
theorem e_198_45 (hn : nr l3 = true) : Df d 198 45 [l0, l1, l2, l3] (.int x :: st) h nx = Df d 198 46 [l0, l1, l2, .int x] st h nx := D_istore_n (ins_of mc_198 (pc := 45) (x := (.istore_n 3, 1)) (by decide +kernel)) rfl hn rfl
theorem e_198_46 : Df d 198 46 [l0, l1, l2, .int x] st h nx = Df d 198 47 [l0, l1, l2, .int x] (.int x :: st) h nx := D_iload_n (ins_of mc_198 (pc := 46) (x := (.iload_n 3, 1)) (by decide +kernel)) rfl
theorem e_198_47 : Df d 198 47 [l0, l1, l2, l3] st h nx = Df d 198 49 [l0, l1, l2, l3] (.int (-1000000005) :: st) h nx := D_ldc (ins_of mc_198 (pc := 47) (x := (.ldc 75, 2)) (by decide +kernel)) mo_198 (by decide +kernel)
theorem e_198_49 : Df d 198 49 [l0, l1, l2, l3] (.int y :: .int x :: st) h nx = if x = y then Df d 198 72 [l0, l1, l2, l3] st h nx else Df d 198 52 [l0, l1, l2, l3] st h nx := D_icmp_eq (ins_of mc_198 (pc := 49) (x := (.if_icmp .eq 23, 3)) (by decide +kernel)) (by decide)
theorem e_198_52 : Df d 198 52 [.ref a, l1, l2, l3] st h nx = Df d 198 53 [.ref a, l1, l2, l3] (.ref a :: st) h nx := D_aload_n (ins_of mc_198 (pc := 52) (x := (.aload_n 0, 1)) (by decide +kernel)) rfl
theorem e_198_53 : Df d 198 53 [l0, l1, .int x, l3] st h nx = Df d 198 54 [l0, l1, .int x, l3] (.int x :: st) h nx := D_iload_n (ins_of mc_198 (pc := 53) (x := (.iload_n 2, 1)) (by decide +kernel)) rfl
theorem e_198_54 : Df d 198 54 [l0, l1, l2, l3] [v0, .ref a] h nx = if ck h a 9 = true then cn d 198 57 [l0, l1, l2, l3] [] (Dn d 127 [.ref a, v0] h nx) else none := D_virtual (k1 := 127) (ins_of mc_198 (pc := 54) (x := (.invokevirtual 111, 3)) (by decide +kernel)) mo_198 (by decide +kernel) (by decide) rfl rfl (by decide) rfl (Nat.le_of_ble_eq_true rfl) rfl
theorem e_198_57 : Df d 198 57 [l0, l1, l2, l3] (.int x :: st) h nx = if x = 0 then Df d 198 70 [l0, l1, l2, l3] st h nx else Df d 198 60 [l0, l1, l2, l3] st h nx := D_if_eq (ins_of mc_198 (pc := 57) (x := (.ifCond .eq 13, 3)) (by decide +kernel)) (by decide)
theorem e_198_60 : Df d 198 60 [l0, l1, l2, .int x] st h nx = Df d 198 61 [l0, l1, l2, .int x] (.int x :: st) h nx := D_iload_n (ins_of mc_198 (pc := 60) (x := (.iload_n 3, 1)) (by decide +kernel)) rfl
theorem e_198_61 : Df d 198 61 [.ref a, l1, l2, l3] st h nx = Df d 198 62 [.ref a, l1, l2, l3] (.ref a :: st) h nx := D_aload_n (ins_of mc_198 (pc := 61) (x := (.aload_n 0, 1)) (by decide +kernel)) rfl
theorem e_198_62 : Df d 198 62 [l0, l1, .int x, l3] st h nx = Df d 198 63 [l0, l1, .int x, l3] (.int x :: st) h nx := D_iload_n (ins_of mc_198 (pc := 62) (x := (.iload_n 2, 1)) (by decide +kernel)) rfl
theorem e_198_63 : Df d 198 63 [l0, l1, l2, l3] st h nx = Df d 198 64 [l0, l1, l2, l3] (.int 1 :: st) h nx := D_iconst (ins_of mc_198 (pc := 63) (x := (.iconst 1, 1)) (by decide +kernel)) (by decide)
theorem e_198_64 : Df d 198 64 [l0, l1, l2, l3] [v1, v0, .ref a, s0] h nx = if ck h a 9 = true then cn d 198 67 [l0, l1, l2, l3] [s0] (Dn d 128 [.ref a, v0, v1] h nx) else none := D_virtual (k1 := 128) (ins_of mc_198 (pc := 64) (x := (.invokevirtual 80, 3)) (by decide +kernel)) mo_198 (by decide +kernel) (by decide) rfl rfl (by decide) rfl (Nat.le_of_ble_eq_true rfl) rfl
theorem e_198_67 : Df d 198 67 [l0, l1, l2, l3] (.int y :: .int x :: st) h nx = if x = y then Df d 198 72 [l0, l1, l2, l3] st h nx else Df d 198 70 [l0, l1, l2, l3] st h nx := D_icmp_eq (ins_of mc_198 (pc := 67) (x := (.if_icmp .eq 5, 3)) (by decide +kernel)) (by decide)
theorem e_198_70 : Df d 198 70 [l0, l1, .int x, l3] st h nx = Df d 198 71 [l0, l1, .int x, l3] (.int x :: st) h nx := D_iload_n (ins_of mc_198 (pc := 70) (x := (.iload_n 2, 1)) (by decide +kernel)) rfl
theorem e_198_71 : Df d 198 71 [l0, l1, l2, l3] [.int x] h nx = some (some (.int x), h, nx) := D_ireturn (ins_of mc_198 (pc := 71) (x := (.ireturn, 1)) (by decide +kernel)) mr_198
theorem e_198_72 : Df d 198 72 [l0, l1, .int x, l3] st h nx = Df d 198 75 [l0, l1, .int (x + 1), l3] st h nx := D_iinc (ins_of mc_198 (pc := 72) (x := (.iinc 2 1, 3)) (by decide +kernel)) rfl (by decide) rfl
theorem e_198_75 : Df d 198 75 [l0, l1, l2, l3] st h nx = Df d 198 24 [l0, l1, l2, l3] st h nx := D_goto (ins_of mc_198 (pc := 75) (x := (.goto (-51), 3)) (by decide +kernel)) (by decide)
theorem e_198_78 : Df d 198 78 [l0, l1, l2, l3] st h nx = Df d 198 80 [l0, l1, l2, l3] (.int (-1000000005) :: st) h nx := D_ldc (ins_of mc_198 (pc := 78) (x := (.ldc 75, 2)) (by decide +kernel)) mo_198 (by decide +kernel)
theorem e_198_80 : Df d 198 80 [l0, l1, l2, l3] [.int x] h nx = some (some (.int x), h, nx) := D_ireturn (ins_of mc_198 (pc := 80) (x := (.ireturn, 1)) (by decide +kernel)) mr_198
theorem mc_199 : mC 199 = prog_11_method_81_code := rfl
theorem mo_199 : mO 199 = 9 := rfl
theorem ml_199 : mL 199 = 7 := rfl
theorem mr_199 : mR 199 = (some .int) := rfl
theorem ma_199 : mA 199 = 5 := rfl
theorem e_199_0 : Df d 199 0 [l0, .int x, l2, l3, l4, l5, l6] st h nx = Df d 199 1 [l0, .int x, l2, l3, l4, l5, l6] (.int x :: st) h nx := D_iload_n (ins_of mc_199 (pc := 0) (x := (.iload_n 1, 1)) (by decide +kernel)) rfl
theorem e_199_1 : Df d 199 1 [l0, l1, l2, l3, l4, l5, l6] [v0] h nx = cn d 199 4 [l0, l1, l2, l3, l4, l5, l6] [] (Dn d 175 [v0] h nx) := D_static (k1 := 175) (kd := 1) (ins_of mc_199 (pc := 1) (x := (.invokestatic 192, 3)) (by decide +kernel)) mo_199 (by decide +kernel) (by decide) rfl (Nat.le_of_ble_eq_true rfl) rfl (Nat.le_of_ble_eq_true rfl) rfl
theorem e_199_4 : Df d 199 4 [l0, l1, l2, l3, l4, l5, l6] (.int x :: st) h nx = if x = 0 then Df d 199 14 [l0, l1, l2, l3, l4, l5, l6] st h nx else Df d 199 7 [l0, l1, l2, l3, l4, l5, l6] st h nx := D_if_eq (ins_of mc_199 (pc := 4) (x := (.ifCond .eq 10, 3)) (by decide +kernel)) (by decide)
theorem e_199_7 : Df d 199 7 [l0, l1, l2, .int x, l4, l5, l6] st h nx = Df d 199 8 [l0, l1, l2, .int x, l4, l5, l6] (.int x :: st) h nx := D_iload_n (ins_of mc_199 (pc := 7) (x := (.iload_n 3, 1)) (by decide +kernel)) rfl
theorem e_199_8 : Df d 199 8 [l0, l1, l2, l3, l4, l5, l6] [v0] h nx = cn d 199 11 [l0, l1, l2, l3, l4, l5, l6] [] (Dn d 175 [v0] h nx) := D_static (k1 := 175) (kd := 1) (ins_of mc_199 (pc := 8) (x := (.invokestatic 192, 3)) (by decide +kernel)) mo_199 (by decide +kernel) (by decide) rfl (Nat.le_of_ble_eq_true rfl) rfl (Nat.le_of_ble_eq_true rfl) rfl
theorem e_199_11 : Df d 199 11 [l0, l1, l2, l3, l4, l5, l6] (.int x :: st) h nx = if x = 0 then Df d 199 14 [l0, l1, l2, l3, l4, l5, l6] st h nx else Df d 199 17 [l0, l1, l2, l3, l4, l5, l6] st h nx := D_if_ne (ins_of mc_199 (pc := 11) (x := (.ifCond .ne 6, 3)) (by decide +kernel)) (by decide)
theorem e_199_14 : Df d 199 14 [l0, l1, l2, l3, l4, l5, l6] st h nx = Df d 199 16 [l0, l1, l2, l3, l4, l5, l6] (.int (-1000000001) :: st) h nx := D_ldc (ins_of mc_199 (pc := 14) (x := (.ldc 88, 2)) (by decide +kernel)) mo_199 (by decide +kernel)
theorem e_199_16 : Df d 199 16 [l0, l1, l2, l3, l4, l5, l6] [.int x] h nx = some (some (.int x), h, nx) := D_ireturn (ins_of mc_199 (pc := 16) (x := (.ireturn, 1)) (by decide +kernel)) mr_199
theorem e_199_17 : Df d 199 17 [.ref a, l1, l2, l3, l4, l5, l6] st h nx = Df d 199 18 [.ref a, l1, l2, l3, l4, l5, l6] (.ref a :: st) h nx := D_aload_n (ins_of mc_199 (pc := 17) (x := (.aload_n 0, 1)) (by decide +kernel)) rfl
theorem e_199_18 : Df d 199 18 [l0, l1, l2, l3, l4, l5, l6] (.ref a :: st) h nx = (gF h a 9 24).bind fun v => Df d 199 21 [l0, l1, l2, l3, l4, l5, l6] (v :: st) h nx := D_getfield (ins_of mc_199 (pc := 18) (x := (.getfield 48, 3)) (by decide +kernel)) mo_199 (by decide +kernel)
theorem e_199_21 : Df d 199 21 [l0, .int x, l2, l3, l4, l5, l6] st h nx = Df d 199 22 [l0, .int x, l2, l3, l4, l5, l6] (.int x :: st) h nx := D_iload_n (ins_of mc_199 (pc := 21) (x := (.iload_n 1, 1)) (by decide +kernel)) rfl
theorem e_199_22 : Df d 199 22 [l0, l1, l2, l3, l4, l5, l6] (.int x :: .ref a :: st) h nx = (rX h a x).bind fun v => Df d 199 23 [l0, l1, l2, l3, l4, l5, l6] (.int v :: st) h nx := D_iaload (ins_of mc_199 (pc := 22) (x := (.iaload, 1)) (by decide +kernel))
theorem e_199_23 : Df d 199 23 [l0, l1, l2, l3, l4, l5, l6] (.int x :: st) h nx = if x < 0 then Df d 199 35 [l0, l1, l2, l3, l4, l5, l6] st h nx else Df d 199 26 [l0, l1, l2, l3, l4, l5, l6] st h nx := D_if_lt (ins_of mc_199 (pc := 23) (x := (.ifCond .lt 12, 3)) (by decide +kernel)) (by decide)
theorem e_199_26 : Df d 199 26 [.ref a, l1, l2, l3, l4, l5, l6] st h nx = Df d 199 27 [.ref a, l1, l2, l3, l4, l5, l6] (.ref a :: st) h nx := D_aload_n (ins_of mc_199 (pc := 26) (x := (.aload_n 0, 1)) (by decide +kernel)) rfl
theorem e_199_27 : Df d 199 27 [l0, l1, l2, l3, l4, l5, l6] (.ref a :: st) h nx = (gF h a 9 24).bind fun v => Df d 199 30 [l0, l1, l2, l3, l4, l5, l6] (v :: st) h nx := D_getfield (ins_of mc_199 (pc := 27) (x := (.getfield 48, 3)) (by decide +kernel)) mo_199 (by decide +kernel)
theorem e_199_30 : Df d 199 30 [l0, l1, l2, .int x, l4, l5, l6] st h nx = Df d 199 31 [l0, l1, l2, .int x, l4, l5, l6] (.int x :: st) h nx := D_iload_n (ins_of mc_199 (pc := 30) (x := (.iload_n 3, 1)) (by decide +kernel)) rfl
theorem e_199_31 : Df d 199 31 [l0, l1, l2, l3, l4, l5, l6] (.int x :: .ref a :: st) h nx = (rX h a x).bind fun v => Df d 199 32 [l0, l1, l2, l3, l4, l5, l6] (.int v :: st) h nx := D_iaload (ins_of mc_199 (pc := 31) (x := (.iaload, 1)) (by decide +kernel))
theorem e_199_32 : Df d 199 32 [l0, l1, l2, l3, l4, l5, l6] (.int x :: st) h nx = if 0 ≤ x then Df d 199 38 [l0, l1, l2, l3, l4, l5, l6] st h nx else Df d 199 35 [l0, l1, l2, l3, l4, l5, l6] st h nx := D_if_ge (ins_of mc_199 (pc := 32) (x := (.ifCond .ge 6, 3)) (by decide +kernel)) (by decide)
theorem e_199_35 : Df d 199 35 [l0, l1, l2, l3, l4, l5, l6] st h nx = Df d 199 37 [l0, l1, l2, l3, l4, l5, l6] (.int (-1000000011) :: st) h nx := D_ldc (ins_of mc_199 (pc := 35) (x := (.ldc 195, 2)) (by decide +kernel)) mo_199 (by decide +kernel)
theorem e_199_37 : Df d 199 37 [l0, l1, l2, l3, l4, l5, l6] [.int x] h nx = some (some (.int x), h, nx) := D_ireturn (ins_of mc_199 (pc := 37) (x := (.ireturn, 1)) (by decide +kernel)) mr_199
theorem e_199_38 : Df d 199 38 [.ref a, l1, l2, l3, l4, l5, l6] st h nx = Df d 199 39 [.ref a, l1, l2, l3, l4, l5, l6] (.ref a :: st) h nx := D_aload_n (ins_of mc_199 (pc := 38) (x := (.aload_n 0, 1)) (by decide +kernel)) rfl
theorem e_199_39 : Df d 199 39 [l0, l1, l2, l3, l4, l5, l6] (.ref a :: st) h nx = (gF h a 9 24).bind fun v => Df d 199 42 [l0, l1, l2, l3, l4, l5, l6] (v :: st) h nx := D_getfield (ins_of mc_199 (pc := 39) (x := (.getfield 48, 3)) (by decide +kernel)) mo_199 (by decide +kernel)
theorem e_199_42 : Df d 199 42 [l0, .int x, l2, l3, l4, l5, l6] st h nx = Df d 199 43 [l0, .int x, l2, l3, l4, l5, l6] (.int x :: st) h nx := D_iload_n (ins_of mc_199 (pc := 42) (x := (.iload_n 1, 1)) (by decide +kernel)) rfl
theorem e_199_43 : Df d 199 43 [l0, l1, l2, l3, l4, l5, l6] (.int x :: .ref a :: st) h nx = (rX h a x).bind fun v => Df d 199 44 [l0, l1, l2, l3, l4, l5, l6] (.int v :: st) h nx := D_iaload (ins_of mc_199 (pc := 43) (x := (.iaload, 1)) (by decide +kernel))
theorem e_199_44 : Df d 199 44 [.ref a, l1, l2, l3, l4, l5, l6] st h nx = Df d 199 45 [.ref a, l1, l2, l3, l4, l5, l6] (.ref a :: st) h nx := D_aload_n (ins_of mc_199 (pc := 44) (x := (.aload_n 0, 1)) (by decide +kernel)) rfl
theorem e_199_45 : Df d 199 45 [l0, l1, l2, l3, l4, l5, l6] (.ref a :: st) h nx = (gF h a 9 24).bind fun v => Df d 199 48 [l0, l1, l2, l3, l4, l5, l6] (v :: st) h nx := D_getfield (ins_of mc_199 (pc := 45) (x := (.getfield 48, 3)) (by decide +kernel)) mo_199 (by decide +kernel)
theorem e_199_48 : Df d 199 48 [l0, l1, l2, .int x, l4, l5, l6] st h nx = Df d 199 49 [l0, l1, l2, .int x, l4, l5, l6] (.int x :: st) h nx := D_iload_n (ins_of mc_199 (pc := 48) (x := (.iload_n 3, 1)) (by decide +kernel)) rfl
theorem e_199_49 : Df d 199 49 [l0, l1, l2, l3, l4, l5, l6] (.int x :: .ref a :: st) h nx = (rX h a x).bind fun v => Df d 199 50 [l0, l1, l2, l3, l4, l5, l6] (.int v :: st) h nx := D_iaload (ins_of mc_199 (pc := 49) (x := (.iaload, 1)) (by decide +kernel))
theorem e_199_50 : Df d 199 50 [l0, l1, l2, l3, l4, l5, l6] (.int y :: .int x :: st) h nx = if x = y then Df d 199 56 [l0, l1, l2, l3, l4, l5, l6] st h nx else Df d 199 53 [l0, l1, l2, l3, l4, l5, l6] st h nx := D_icmp_eq (ins_of mc_199 (pc := 50) (x := (.if_icmp .eq 6, 3)) (by decide +kernel)) (by decide)
theorem e_199_53 : Df d 199 53 [l0, l1, l2, l3, l4, l5, l6] st h nx = Df d 199 55 [l0, l1, l2, l3, l4, l5, l6] (.int (-1000000012) :: st) h nx := D_ldc (ins_of mc_199 (pc := 53) (x := (.ldc 131, 2)) (by decide +kernel)) mo_199 (by decide +kernel)
theorem e_199_55 : Df d 199 55 [l0, l1, l2, l3, l4, l5, l6] [.int x] h nx = some (some (.int x), h, nx) := D_ireturn (ins_of mc_199 (pc := 55) (x := (.ireturn, 1)) (by decide +kernel)) mr_199
theorem e_199_56 : Df d 199 56 [l0, l1, .int x, l3, l4, l5, l6] st h nx = Df d 199 57 [l0, l1, .int x, l3, l4, l5, l6] (.int x :: st) h nx := D_iload_n (ins_of mc_199 (pc := 56) (x := (.iload_n 2, 1)) (by decide +kernel)) rfl
theorem e_199_57 : Df d 199 57 [l0, l1, l2, l3, l4, l5, l6] (.int x :: st) h nx = if x < 0 then Df d 199 97 [l0, l1, l2, l3, l4, l5, l6] st h nx else Df d 199 60 [l0, l1, l2, l3, l4, l5, l6] st h nx := D_if_lt (ins_of mc_199 (pc := 57) (x := (.ifCond .lt 40, 3)) (by decide +kernel)) (by decide)
theorem e_199_60 : Df d 199 60 [l0, l1, l2, l3, .int x, l5, l6] st h nx = Df d 199 62 [l0, l1, l2, l3, .int x, l5, l6] (.int x :: st) h nx := D_iload (ins_of mc_199 (pc := 60) (x := (.iload 4, 2)) (by decide +kernel)) rfl
theorem e_199_62 : Df d 199 62 [l0, l1, l2, l3, l4, l5, l6] (.int x :: st) h nx = if x < 0 then Df d 199 97 [l0, l1, l2, l3, l4, l5, l6] st h nx else Df d 199 65 [l0, l1, l2, l3, l4, l5, l6] st h nx := D_if_lt (ins_of mc_199 (pc := 62) (x := (.ifCond .lt 35, 3)) (by decide +kernel)) (by decide)
theorem e_199_65 : Df d 199 65 [l0, l1, l2, l3, l4, .int x, l6] st h nx = Df d 199 67 [l0, l1, l2, l3, l4, .int x, l6] (.int x :: st) h nx := D_iload (ins_of mc_199 (pc := 65) (x := (.iload 5, 2)) (by decide +kernel)) rfl
theorem e_199_67 : Df d 199 67 [l0, l1, l2, l3, l4, l5, l6] (.int x :: st) h nx = if x < 0 then Df d 199 97 [l0, l1, l2, l3, l4, l5, l6] st h nx else Df d 199 70 [l0, l1, l2, l3, l4, l5, l6] st h nx := D_if_lt (ins_of mc_199 (pc := 67) (x := (.ifCond .lt 30, 3)) (by decide +kernel)) (by decide)
theorem e_199_70 : Df d 199 70 [l0, l1, .int x, l3, l4, l5, l6] st h nx = Df d 199 71 [l0, l1, .int x, l3, l4, l5, l6] (.int x :: st) h nx := D_iload_n (ins_of mc_199 (pc := 70) (x := (.iload_n 2, 1)) (by decide +kernel)) rfl
theorem e_199_71 : Df d 199 71 [.ref a, l1, l2, l3, l4, l5, l6] st h nx = Df d 199 72 [.ref a, l1, l2, l3, l4, l5, l6] (.ref a :: st) h nx := D_aload_n (ins_of mc_199 (pc := 71) (x := (.aload_n 0, 1)) (by decide +kernel)) rfl
theorem e_199_72 : Df d 199 72 [l0, l1, l2, l3, l4, l5, l6] (.ref a :: st) h nx = (gF h a 9 25).bind fun v => Df d 199 75 [l0, l1, l2, l3, l4, l5, l6] (v :: st) h nx := D_getfield (ins_of mc_199 (pc := 72) (x := (.getfield 51, 3)) (by decide +kernel)) mo_199 (by decide +kernel)
theorem e_199_75 : Df d 199 75 [l0, .int x, l2, l3, l4, l5, l6] st h nx = Df d 199 76 [l0, .int x, l2, l3, l4, l5, l6] (.int x :: st) h nx := D_iload_n (ins_of mc_199 (pc := 75) (x := (.iload_n 1, 1)) (by decide +kernel)) rfl
theorem e_199_76 : Df d 199 76 [l0, l1, l2, l3, l4, l5, l6] (.int x :: .ref a :: st) h nx = (rX h a x).bind fun v => Df d 199 77 [l0, l1, l2, l3, l4, l5, l6] (.int v :: st) h nx := D_iaload (ins_of mc_199 (pc := 76) (x := (.iaload, 1)) (by decide +kernel))
theorem e_199_77 : Df d 199 77 [l0, l1, l2, l3, l4, .int x, l6] st h nx = Df d 199 79 [l0, l1, l2, l3, l4, .int x, l6] (.int x :: st) h nx := D_iload (ins_of mc_199 (pc := 77) (x := (.iload 5, 2)) (by decide +kernel)) rfl
theorem e_199_79 : Df d 199 79 [l0, l1, l2, l3, l4, l5, l6] (.int y :: .int x :: st) h nx = Df d 199 80 [l0, l1, l2, l3, l4, l5, l6] (.int (x - y) :: st) h nx := D_isub (ins_of mc_199 (pc := 79) (x := (.isub, 1)) (by decide +kernel))
theorem e_199_80 : Df d 199 80 [l0, l1, l2, l3, l4, l5, l6] (.int y :: .int x :: st) h nx = if y < x then Df d 199 97 [l0, l1, l2, l3, l4, l5, l6] st h nx else Df d 199 83 [l0, l1, l2, l3, l4, l5, l6] st h nx := D_icmp_gt (ins_of mc_199 (pc := 80) (x := (.if_icmp .gt 17, 3)) (by decide +kernel)) (by decide)
theorem e_199_83 : Df d 199 83 [l0, l1, l2, l3, .int x, l5, l6] st h nx = Df d 199 85 [l0, l1, l2, l3, .int x, l5, l6] (.int x :: st) h nx := D_iload (ins_of mc_199 (pc := 83) (x := (.iload 4, 2)) (by decide +kernel)) rfl
theorem e_199_85 : Df d 199 85 [.ref a, l1, l2, l3, l4, l5, l6] st h nx = Df d 199 86 [.ref a, l1, l2, l3, l4, l5, l6] (.ref a :: st) h nx := D_aload_n (ins_of mc_199 (pc := 85) (x := (.aload_n 0, 1)) (by decide +kernel)) rfl
theorem e_199_86 : Df d 199 86 [l0, l1, l2, l3, l4, l5, l6] (.ref a :: st) h nx = (gF h a 9 25).bind fun v => Df d 199 89 [l0, l1, l2, l3, l4, l5, l6] (v :: st) h nx := D_getfield (ins_of mc_199 (pc := 86) (x := (.getfield 51, 3)) (by decide +kernel)) mo_199 (by decide +kernel)
theorem e_199_89 : Df d 199 89 [l0, l1, l2, .int x, l4, l5, l6] st h nx = Df d 199 90 [l0, l1, l2, .int x, l4, l5, l6] (.int x :: st) h nx := D_iload_n (ins_of mc_199 (pc := 89) (x := (.iload_n 3, 1)) (by decide +kernel)) rfl
theorem e_199_90 : Df d 199 90 [l0, l1, l2, l3, l4, l5, l6] (.int x :: .ref a :: st) h nx = (rX h a x).bind fun v => Df d 199 91 [l0, l1, l2, l3, l4, l5, l6] (.int v :: st) h nx := D_iaload (ins_of mc_199 (pc := 90) (x := (.iaload, 1)) (by decide +kernel))
theorem e_199_91 : Df d 199 91 [l0, l1, l2, l3, l4, .int x, l6] st h nx = Df d 199 93 [l0, l1, l2, l3, l4, .int x, l6] (.int x :: st) h nx := D_iload (ins_of mc_199 (pc := 91) (x := (.iload 5, 2)) (by decide +kernel)) rfl
theorem e_199_93 : Df d 199 93 [l0, l1, l2, l3, l4, l5, l6] (.int y :: .int x :: st) h nx = Df d 199 94 [l0, l1, l2, l3, l4, l5, l6] (.int (x - y) :: st) h nx := D_isub (ins_of mc_199 (pc := 93) (x := (.isub, 1)) (by decide +kernel))
theorem e_199_94 : Df d 199 94 [l0, l1, l2, l3, l4, l5, l6] (.int y :: .int x :: st) h nx = if x ≤ y then Df d 199 101 [l0, l1, l2, l3, l4, l5, l6] st h nx else Df d 199 97 [l0, l1, l2, l3, l4, l5, l6] st h nx := D_icmp_le (ins_of mc_199 (pc := 94) (x := (.if_icmp .le 7, 3)) (by decide +kernel)) (by decide)
theorem e_199_97 : Df d 199 97 [l0, l1, l2, l3, l4, l5, l6] st h nx = Df d 199 100 [l0, l1, l2, l3, l4, l5, l6] (.int (-1000000013) :: st) h nx := D_ldc_w (ins_of mc_199 (pc := 97) (x := (.ldc_w 269, 3)) (by decide +kernel)) mo_199 (by decide +kernel)
theorem e_199_100 : Df d 199 100 [l0, l1, l2, l3, l4, l5, l6] [.int x] h nx = some (some (.int x), h, nx) := D_ireturn (ins_of mc_199 (pc := 100) (x := (.ireturn, 1)) (by decide +kernel)) mr_199
theorem e_199_101 : Df d 199 101 [l0, l1, l2, l3, l4, l5, l6] st h nx = Df d 199 102 [l0, l1, l2, l3, l4, l5, l6] (.int 0 :: st) h nx := D_iconst (ins_of mc_199 (pc := 101) (x := (.iconst 0, 1)) (by decide +kernel)) (by decide)
theorem e_199_102 (hn : nr l6 = true) : Df d 199 102 [l0, l1, l2, l3, l4, l5, l6] (.int x :: st) h nx = Df d 199 104 [l0, l1, l2, l3, l4, l5, .int x] st h nx := D_istore (ins_of mc_199 (pc := 102) (x := (.istore 6, 2)) (by decide +kernel)) rfl hn rfl
theorem e_199_104 : Df d 199 104 [l0, l1, l2, l3, l4, l5, .int x] st h nx = Df d 199 106 [l0, l1, l2, l3, l4, l5, .int x] (.int x :: st) h nx := D_iload (ins_of mc_199 (pc := 104) (x := (.iload 6, 2)) (by decide +kernel)) rfl
theorem e_199_106 : Df d 199 106 [l0, l1, l2, l3, l4, .int x, l6] st h nx = Df d 199 108 [l0, l1, l2, l3, l4, .int x, l6] (.int x :: st) h nx := D_iload (ins_of mc_199 (pc := 106) (x := (.iload 5, 2)) (by decide +kernel)) rfl
theorem e_199_108 : Df d 199 108 [l0, l1, l2, l3, l4, l5, l6] (.int y :: .int x :: st) h nx = if y ≤ x then Df d 199 138 [l0, l1, l2, l3, l4, l5, l6] st h nx else Df d 199 111 [l0, l1, l2, l3, l4, l5, l6] st h nx := D_icmp_ge (ins_of mc_199 (pc := 108) (x := (.if_icmp .ge 30, 3)) (by decide +kernel)) (by decide)
theorem e_199_111 : Df d 199 111 [.ref a, l1, l2, l3, l4, l5, l6] st h nx = Df d 199 112 [.ref a, l1, l2, l3, l4, l5, l6] (.ref a :: st) h nx := D_aload_n (ins_of mc_199 (pc := 111) (x := (.aload_n 0, 1)) (by decide +kernel)) rfl
theorem e_199_112 : Df d 199 112 [l0, l1, l2, l3, l4, l5, l6] (.ref a :: st) h nx = (gF h a 9 31).bind fun v => Df d 199 115 [l0, l1, l2, l3, l4, l5, l6] (v :: st) h nx := D_getfield (ins_of mc_199 (pc := 112) (x := (.getfield 69, 3)) (by decide +kernel)) mo_199 (by decide +kernel)
theorem e_199_115 : Df d 199 115 [l0, l1, l2, l3, l4, l5, .int x] st h nx = Df d 199 117 [l0, l1, l2, l3, l4, l5, .int x] (.int x :: st) h nx := D_iload (ins_of mc_199 (pc := 115) (x := (.iload 6, 2)) (by decide +kernel)) rfl
theorem e_199_117 : Df d 199 117 [.ref a, l1, l2, l3, l4, l5, l6] st h nx = Df d 199 118 [.ref a, l1, l2, l3, l4, l5, l6] (.ref a :: st) h nx := D_aload_n (ins_of mc_199 (pc := 117) (x := (.aload_n 0, 1)) (by decide +kernel)) rfl
theorem e_199_118 : Df d 199 118 [l0, l1, l2, l3, l4, l5, l6] (.ref a :: st) h nx = (gF h a 9 26).bind fun v => Df d 199 121 [l0, l1, l2, l3, l4, l5, l6] (v :: st) h nx := D_getfield (ins_of mc_199 (pc := 118) (x := (.getfield 54, 3)) (by decide +kernel)) mo_199 (by decide +kernel)
theorem e_199_121 : Df d 199 121 [l0, l1, l2, l3, l4, l5, l6] st h nx = Df d 199 123 [l0, l1, l2, l3, l4, l5, l6] (.int 24 :: st) h nx := D_bipush (ins_of mc_199 (pc := 121) (x := (.bipush 24, 2)) (by decide +kernel)) (by decide)
theorem e_199_123 : Df d 199 123 [l0, .int x, l2, l3, l4, l5, l6] st h nx = Df d 199 124 [l0, .int x, l2, l3, l4, l5, l6] (.int x :: st) h nx := D_iload_n (ins_of mc_199 (pc := 123) (x := (.iload_n 1, 1)) (by decide +kernel)) rfl
theorem e_199_124 : Df d 199 124 [l0, l1, l2, l3, l4, l5, l6] (.int y :: .int x :: st) h nx = Df d 199 125 [l0, l1, l2, l3, l4, l5, l6] (.int (x * y) :: st) h nx := D_imul (ins_of mc_199 (pc := 124) (x := (.imul, 1)) (by decide +kernel))
theorem e_199_125 : Df d 199 125 [l0, l1, .int x, l3, l4, l5, l6] st h nx = Df d 199 126 [l0, l1, .int x, l3, l4, l5, l6] (.int x :: st) h nx := D_iload_n (ins_of mc_199 (pc := 125) (x := (.iload_n 2, 1)) (by decide +kernel)) rfl
theorem e_199_126 : Df d 199 126 [l0, l1, l2, l3, l4, l5, l6] (.int y :: .int x :: st) h nx = Df d 199 127 [l0, l1, l2, l3, l4, l5, l6] (.int (x + y) :: st) h nx := D_iadd (ins_of mc_199 (pc := 126) (x := (.iadd, 1)) (by decide +kernel))
theorem e_199_127 : Df d 199 127 [l0, l1, l2, l3, l4, l5, .int x] st h nx = Df d 199 129 [l0, l1, l2, l3, l4, l5, .int x] (.int x :: st) h nx := D_iload (ins_of mc_199 (pc := 127) (x := (.iload 6, 2)) (by decide +kernel)) rfl
theorem e_199_129 : Df d 199 129 [l0, l1, l2, l3, l4, l5, l6] (.int y :: .int x :: st) h nx = Df d 199 130 [l0, l1, l2, l3, l4, l5, l6] (.int (x + y) :: st) h nx := D_iadd (ins_of mc_199 (pc := 129) (x := (.iadd, 1)) (by decide +kernel))
theorem e_199_130 : Df d 199 130 [l0, l1, l2, l3, l4, l5, l6] (.int x :: .ref a :: st) h nx = (rX h a x).bind fun v => Df d 199 131 [l0, l1, l2, l3, l4, l5, l6] (.int v :: st) h nx := D_iaload (ins_of mc_199 (pc := 130) (x := (.iaload, 1)) (by decide +kernel))
theorem e_199_131 : Df d 199 131 [l0, l1, l2, l3, l4, l5, l6] (.int y :: .int x :: .ref a :: st) h nx = (wI h a x 0 y).bind fun h => Df d 199 132 [l0, l1, l2, l3, l4, l5, l6] st h nx := D_iastore (ins_of mc_199 (pc := 131) (x := (.iastore, 1)) (by decide +kernel))
theorem e_199_132 : Df d 199 132 [l0, l1, l2, l3, l4, l5, .int x] st h nx = Df d 199 135 [l0, l1, l2, l3, l4, l5, .int (x + 1)] st h nx := D_iinc (ins_of mc_199 (pc := 132) (x := (.iinc 6 1, 3)) (by decide +kernel)) rfl (by decide) rfl
theorem e_199_135 : Df d 199 135 [l0, l1, l2, l3, l4, l5, l6] st h nx = Df d 199 104 [l0, l1, l2, l3, l4, l5, l6] st h nx := D_goto (ins_of mc_199 (pc := 135) (x := (.goto (-31), 3)) (by decide +kernel)) (by decide)
theorem e_199_138 : Df d 199 138 [l0, l1, l2, l3, l4, l5, l6] st h nx = Df d 199 139 [l0, l1, l2, l3, l4, l5, l6] (.int 0 :: st) h nx := D_iconst (ins_of mc_199 (pc := 138) (x := (.iconst 0, 1)) (by decide +kernel)) (by decide)
theorem e_199_139 (hn : nr l6 = true) : Df d 199 139 [l0, l1, l2, l3, l4, l5, l6] (.int x :: st) h nx = Df d 199 141 [l0, l1, l2, l3, l4, l5, .int x] st h nx := D_istore (ins_of mc_199 (pc := 139) (x := (.istore 6, 2)) (by decide +kernel)) rfl hn rfl
theorem e_199_141 : Df d 199 141 [l0, l1, l2, l3, l4, l5, .int x] st h nx = Df d 199 143 [l0, l1, l2, l3, l4, l5, .int x] (.int x :: st) h nx := D_iload (ins_of mc_199 (pc := 141) (x := (.iload 6, 2)) (by decide +kernel)) rfl
theorem e_199_143 : Df d 199 143 [l0, l1, l2, l3, l4, .int x, l6] st h nx = Df d 199 145 [l0, l1, l2, l3, l4, .int x, l6] (.int x :: st) h nx := D_iload (ins_of mc_199 (pc := 143) (x := (.iload 5, 2)) (by decide +kernel)) rfl
theorem e_199_145 : Df d 199 145 [l0, l1, l2, l3, l4, l5, l6] (.int y :: .int x :: st) h nx = if y ≤ x then Df d 199 176 [l0, l1, l2, l3, l4, l5, l6] st h nx else Df d 199 148 [l0, l1, l2, l3, l4, l5, l6] st h nx := D_icmp_ge (ins_of mc_199 (pc := 145) (x := (.if_icmp .ge 31, 3)) (by decide +kernel)) (by decide)
theorem e_199_148 : Df d 199 148 [.ref a, l1, l2, l3, l4, l5, l6] st h nx = Df d 199 149 [.ref a, l1, l2, l3, l4, l5, l6] (.ref a :: st) h nx := D_aload_n (ins_of mc_199 (pc := 148) (x := (.aload_n 0, 1)) (by decide +kernel)) rfl
theorem e_199_149 : Df d 199 149 [l0, l1, l2, l3, l4, l5, l6] (.ref a :: st) h nx = (gF h a 9 26).bind fun v => Df d 199 152 [l0, l1, l2, l3, l4, l5, l6] (v :: st) h nx := D_getfield (ins_of mc_199 (pc := 149) (x := (.getfield 54, 3)) (by decide +kernel)) mo_199 (by decide +kernel)
theorem e_199_152 : Df d 199 152 [l0, l1, l2, l3, l4, l5, l6] st h nx = Df d 199 154 [l0, l1, l2, l3, l4, l5, l6] (.int 24 :: st) h nx := D_bipush (ins_of mc_199 (pc := 152) (x := (.bipush 24, 2)) (by decide +kernel)) (by decide)
theorem e_199_154 : Df d 199 154 [l0, l1, l2, .int x, l4, l5, l6] st h nx = Df d 199 155 [l0, l1, l2, .int x, l4, l5, l6] (.int x :: st) h nx := D_iload_n (ins_of mc_199 (pc := 154) (x := (.iload_n 3, 1)) (by decide +kernel)) rfl
theorem e_199_155 : Df d 199 155 [l0, l1, l2, l3, l4, l5, l6] (.int y :: .int x :: st) h nx = Df d 199 156 [l0, l1, l2, l3, l4, l5, l6] (.int (x * y) :: st) h nx := D_imul (ins_of mc_199 (pc := 155) (x := (.imul, 1)) (by decide +kernel))
theorem e_199_156 : Df d 199 156 [l0, l1, l2, l3, .int x, l5, l6] st h nx = Df d 199 158 [l0, l1, l2, l3, .int x, l5, l6] (.int x :: st) h nx := D_iload (ins_of mc_199 (pc := 156) (x := (.iload 4, 2)) (by decide +kernel)) rfl
theorem e_199_158 : Df d 199 158 [l0, l1, l2, l3, l4, l5, l6] (.int y :: .int x :: st) h nx = Df d 199 159 [l0, l1, l2, l3, l4, l5, l6] (.int (x + y) :: st) h nx := D_iadd (ins_of mc_199 (pc := 158) (x := (.iadd, 1)) (by decide +kernel))
theorem e_199_159 : Df d 199 159 [l0, l1, l2, l3, l4, l5, .int x] st h nx = Df d 199 161 [l0, l1, l2, l3, l4, l5, .int x] (.int x :: st) h nx := D_iload (ins_of mc_199 (pc := 159) (x := (.iload 6, 2)) (by decide +kernel)) rfl
theorem e_199_161 : Df d 199 161 [l0, l1, l2, l3, l4, l5, l6] (.int y :: .int x :: st) h nx = Df d 199 162 [l0, l1, l2, l3, l4, l5, l6] (.int (x + y) :: st) h nx := D_iadd (ins_of mc_199 (pc := 161) (x := (.iadd, 1)) (by decide +kernel))
theorem e_199_162 : Df d 199 162 [.ref a, l1, l2, l3, l4, l5, l6] st h nx = Df d 199 163 [.ref a, l1, l2, l3, l4, l5, l6] (.ref a :: st) h nx := D_aload_n (ins_of mc_199 (pc := 162) (x := (.aload_n 0, 1)) (by decide +kernel)) rfl
theorem e_199_163 : Df d 199 163 [l0, l1, l2, l3, l4, l5, l6] (.ref a :: st) h nx = (gF h a 9 31).bind fun v => Df d 199 166 [l0, l1, l2, l3, l4, l5, l6] (v :: st) h nx := D_getfield (ins_of mc_199 (pc := 163) (x := (.getfield 69, 3)) (by decide +kernel)) mo_199 (by decide +kernel)
theorem e_199_166 : Df d 199 166 [l0, l1, l2, l3, l4, l5, .int x] st h nx = Df d 199 168 [l0, l1, l2, l3, l4, l5, .int x] (.int x :: st) h nx := D_iload (ins_of mc_199 (pc := 166) (x := (.iload 6, 2)) (by decide +kernel)) rfl
theorem e_199_168 : Df d 199 168 [l0, l1, l2, l3, l4, l5, l6] (.int x :: .ref a :: st) h nx = (rX h a x).bind fun v => Df d 199 169 [l0, l1, l2, l3, l4, l5, l6] (.int v :: st) h nx := D_iaload (ins_of mc_199 (pc := 168) (x := (.iaload, 1)) (by decide +kernel))
theorem e_199_169 : Df d 199 169 [l0, l1, l2, l3, l4, l5, l6] (.int y :: .int x :: .ref a :: st) h nx = (wI h a x 0 y).bind fun h => Df d 199 170 [l0, l1, l2, l3, l4, l5, l6] st h nx := D_iastore (ins_of mc_199 (pc := 169) (x := (.iastore, 1)) (by decide +kernel))
theorem e_199_170 : Df d 199 170 [l0, l1, l2, l3, l4, l5, .int x] st h nx = Df d 199 173 [l0, l1, l2, l3, l4, l5, .int (x + 1)] st h nx := D_iinc (ins_of mc_199 (pc := 170) (x := (.iinc 6 1, 3)) (by decide +kernel)) rfl (by decide) rfl
theorem e_199_173 : Df d 199 173 [l0, l1, l2, l3, l4, l5, l6] st h nx = Df d 199 141 [l0, l1, l2, l3, l4, l5, l6] st h nx := D_goto (ins_of mc_199 (pc := 173) (x := (.goto (-32), 3)) (by decide +kernel)) (by decide)
theorem e_199_176 : Df d 199 176 [l0, l1, l2, l3, l4, .int x, l6] st h nx = Df d 199 178 [l0, l1, l2, l3, l4, .int x, l6] (.int x :: st) h nx := D_iload (ins_of mc_199 (pc := 176) (x := (.iload 5, 2)) (by decide +kernel)) rfl
theorem e_199_178 : Df d 199 178 [l0, l1, l2, l3, l4, l5, l6] [.int x] h nx = some (some (.int x), h, nx) := D_ireturn (ins_of mc_199 (pc := 178) (x := (.ireturn, 1)) (by decide +kernel)) mr_199
theorem mc_200 : mC 200 = prog_11_method_82_code := rfl
theorem mo_200 : mO 200 = 9 := rfl
theorem ml_200 : mL 200 = 6 := rfl
theorem mr_200 : mR 200 = (some .int) := rfl
theorem ma_200 : mA 200 = 3 := rfl
theorem e_200_0 : Df d 200 0 [l0, .int x, l2, l3, l4, l5] st h nx = Df d 200 1 [l0, .int x, l2, l3, l4, l5] (.int x :: st) h nx := D_iload_n (ins_of mc_200 (pc := 0) (x := (.iload_n 1, 1)) (by decide +kernel)) rfl
theorem e_200_1 : Df d 200 1 [l0, l1, l2, l3, l4, l5] [v0] h nx = cn d 200 4 [l0, l1, l2, l3, l4, l5] [] (Dn d 201 [v0] h nx) := D_static (k1 := 201) (kd := 1) (ins_of mc_200 (pc := 1) (x := (.invokestatic 272, 3)) (by decide +kernel)) mo_200 (by decide +kernel) (by decide) rfl (Nat.le_of_ble_eq_true rfl) rfl (Nat.le_of_ble_eq_true rfl) rfl
theorem e_200_4 : Df d 200 4 [l0, l1, l2, l3, l4, l5] (.int x :: st) h nx = if x = 0 then Df d 200 41 [l0, l1, l2, l3, l4, l5] st h nx else Df d 200 7 [l0, l1, l2, l3, l4, l5] st h nx := D_if_eq (ins_of mc_200 (pc := 4) (x := (.ifCond .eq 37, 3)) (by decide +kernel)) (by decide)
theorem e_200_7 : Df d 200 7 [l0, l1, .int x, l3, l4, l5] st h nx = Df d 200 8 [l0, l1, .int x, l3, l4, l5] (.int x :: st) h nx := D_iload_n (ins_of mc_200 (pc := 7) (x := (.iload_n 2, 1)) (by decide +kernel)) rfl
theorem e_200_8 : Df d 200 8 [l0, l1, l2, l3, l4, l5] st h nx = Df d 200 9 [l0, l1, l2, l3, l4, l5] (.int 0 :: st) h nx := D_iconst (ins_of mc_200 (pc := 8) (x := (.iconst 0, 1)) (by decide +kernel)) (by decide)
theorem e_200_9 : Df d 200 9 [l0, l1, l2, l3, l4, l5] st h nx = Df d 200 10 [l0, l1, l2, l3, l4, l5] (.int 3 :: st) h nx := D_iconst (ins_of mc_200 (pc := 9) (x := (.iconst 3, 1)) (by decide +kernel)) (by decide)
theorem e_200_10 : Df d 200 10 [l0, l1, l2, l3, l4, l5] [v2, v1, v0] h nx = cn d 200 13 [l0, l1, l2, l3, l4, l5] [] (Dn d 123 [v0, v1, v2] h nx) := D_static (k1 := 123) (kd := 1) (ins_of mc_200 (pc := 10) (x := (.invokestatic 76, 3)) (by decide +kernel)) mo_200 (by decide +kernel) (by decide) rfl (Nat.le_of_ble_eq_true rfl) rfl (Nat.le_of_ble_eq_true rfl) rfl
theorem e_200_13 : Df d 200 13 [l0, l1, l2, l3, l4, l5] (.int x :: st) h nx = if x = 0 then Df d 200 41 [l0, l1, l2, l3, l4, l5] st h nx else Df d 200 16 [l0, l1, l2, l3, l4, l5] st h nx := D_if_eq (ins_of mc_200 (pc := 13) (x := (.ifCond .eq 28, 3)) (by decide +kernel)) (by decide)
theorem e_200_16 : Df d 200 16 [l0, l1, .int x, l3, l4, l5] st h nx = Df d 200 17 [l0, l1, .int x, l3, l4, l5] (.int x :: st) h nx := D_iload_n (ins_of mc_200 (pc := 16) (x := (.iload_n 2, 1)) (by decide +kernel)) rfl
theorem e_200_17 : Df d 200 17 [l0, l1, l2, l3, l4, l5] st h nx = Df d 200 18 [l0, l1, l2, l3, l4, l5] (.int 1 :: st) h nx := D_iconst (ins_of mc_200 (pc := 17) (x := (.iconst 1, 1)) (by decide +kernel)) (by decide)
theorem e_200_18 : Df d 200 18 [l0, l1, l2, l3, l4, l5] (.int y :: .int x :: st) h nx = if x = y then Df d 200 21 [l0, l1, l2, l3, l4, l5] st h nx else Df d 200 29 [l0, l1, l2, l3, l4, l5] st h nx := D_icmp_ne (ins_of mc_200 (pc := 18) (x := (.if_icmp .ne 11, 3)) (by decide +kernel)) (by decide)
theorem e_200_21 : Df d 200 21 [.ref a, l1, l2, l3, l4, l5] st h nx = Df d 200 22 [.ref a, l1, l2, l3, l4, l5] (.ref a :: st) h nx := D_aload_n (ins_of mc_200 (pc := 21) (x := (.aload_n 0, 1)) (by decide +kernel)) rfl
theorem e_200_22 : Df d 200 22 [l0, l1, l2, .int x, l4, l5] st h nx = Df d 200 23 [l0, l1, l2, .int x, l4, l5] (.int x :: st) h nx := D_iload_n (ins_of mc_200 (pc := 22) (x := (.iload_n 3, 1)) (by decide +kernel)) rfl
theorem e_200_23 : Df d 200 23 [l0, l1, l2, l3, l4, l5] [v0, .ref a] h nx = if ck h a 9 = true then cn d 200 26 [l0, l1, l2, l3, l4, l5] [] (Dn d 127 [.ref a, v0] h nx) else none := D_virtual (k1 := 127) (ins_of mc_200 (pc := 23) (x := (.invokevirtual 111, 3)) (by decide +kernel)) mo_200 (by decide +kernel) (by decide) rfl rfl (by decide) rfl (Nat.le_of_ble_eq_true rfl) rfl
theorem e_200_26 : Df d 200 26 [l0, l1, l2, l3, l4, l5] (.int x :: st) h nx = if x = 0 then Df d 200 41 [l0, l1, l2, l3, l4, l5] st h nx else Df d 200 29 [l0, l1, l2, l3, l4, l5] st h nx := D_if_eq (ins_of mc_200 (pc := 26) (x := (.ifCond .eq 15, 3)) (by decide +kernel)) (by decide)
theorem e_200_29 : Df d 200 29 [l0, l1, .int x, l3, l4, l5] st h nx = Df d 200 30 [l0, l1, .int x, l3, l4, l5] (.int x :: st) h nx := D_iload_n (ins_of mc_200 (pc := 29) (x := (.iload_n 2, 1)) (by decide +kernel)) rfl
theorem e_200_30 : Df d 200 30 [l0, l1, l2, l3, l4, l5] st h nx = Df d 200 31 [l0, l1, l2, l3, l4, l5] (.int 2 :: st) h nx := D_iconst (ins_of mc_200 (pc := 30) (x := (.iconst 2, 1)) (by decide +kernel)) (by decide)
theorem e_200_31 : Df d 200 31 [l0, l1, l2, l3, l4, l5] (.int y :: .int x :: st) h nx = if x = y then Df d 200 34 [l0, l1, l2, l3, l4, l5] st h nx else Df d 200 44 [l0, l1, l2, l3, l4, l5] st h nx := D_icmp_ne (ins_of mc_200 (pc := 31) (x := (.if_icmp .ne 13, 3)) (by decide +kernel)) (by decide)
theorem e_200_34 : Df d 200 34 [l0, l1, l2, .int x, l4, l5] st h nx = Df d 200 35 [l0, l1, l2, .int x, l4, l5] (.int x :: st) h nx := D_iload_n (ins_of mc_200 (pc := 34) (x := (.iload_n 3, 1)) (by decide +kernel)) rfl
theorem e_200_35 : Df d 200 35 [l0, l1, l2, l3, l4, l5] [v0] h nx = cn d 200 38 [l0, l1, l2, l3, l4, l5] [] (Dn d 175 [v0] h nx) := D_static (k1 := 175) (kd := 1) (ins_of mc_200 (pc := 35) (x := (.invokestatic 192, 3)) (by decide +kernel)) mo_200 (by decide +kernel) (by decide) rfl (Nat.le_of_ble_eq_true rfl) rfl (Nat.le_of_ble_eq_true rfl) rfl
theorem e_200_38 : Df d 200 38 [l0, l1, l2, l3, l4, l5] (.int x :: st) h nx = if x = 0 then Df d 200 41 [l0, l1, l2, l3, l4, l5] st h nx else Df d 200 44 [l0, l1, l2, l3, l4, l5] st h nx := D_if_ne (ins_of mc_200 (pc := 38) (x := (.ifCond .ne 6, 3)) (by decide +kernel)) (by decide)
theorem e_200_41 : Df d 200 41 [l0, l1, l2, l3, l4, l5] st h nx = Df d 200 43 [l0, l1, l2, l3, l4, l5] (.int (-1000000001) :: st) h nx := D_ldc (ins_of mc_200 (pc := 41) (x := (.ldc 88, 2)) (by decide +kernel)) mo_200 (by decide +kernel)
theorem e_200_43 : Df d 200 43 [l0, l1, l2, l3, l4, l5] [.int x] h nx = some (some (.int x), h, nx) := D_ireturn (ins_of mc_200 (pc := 43) (x := (.ireturn, 1)) (by decide +kernel)) mr_200
theorem e_200_44 : Df d 200 44 [l0, l1, .int x, l3, l4, l5] st h nx = Df d 200 45 [l0, l1, .int x, l3, l4, l5] (.int x :: st) h nx := D_iload_n (ins_of mc_200 (pc := 44) (x := (.iload_n 2, 1)) (by decide +kernel)) rfl
theorem e_200_45 : Df d 200 45 [l0, l1, l2, l3, l4, l5] st h nx = Df d 200 46 [l0, l1, l2, l3, l4, l5] (.int 2 :: st) h nx := D_iconst (ins_of mc_200 (pc := 45) (x := (.iconst 2, 1)) (by decide +kernel)) (by decide)
theorem e_200_46 : Df d 200 46 [l0, l1, l2, l3, l4, l5] (.int y :: .int x :: st) h nx = if x = y then Df d 200 49 [l0, l1, l2, l3, l4, l5] st h nx else Df d 200 61 [l0, l1, l2, l3, l4, l5] st h nx := D_icmp_ne (ins_of mc_200 (pc := 46) (x := (.if_icmp .ne 15, 3)) (by decide +kernel)) (by decide)
theorem e_200_49 : Df d 200 49 [.ref a, l1, l2, l3, l4, l5] st h nx = Df d 200 50 [.ref a, l1, l2, l3, l4, l5] (.ref a :: st) h nx := D_aload_n (ins_of mc_200 (pc := 49) (x := (.aload_n 0, 1)) (by decide +kernel)) rfl
theorem e_200_50 : Df d 200 50 [l0, l1, l2, l3, l4, l5] (.ref a :: st) h nx = (gF h a 9 24).bind fun v => Df d 200 53 [l0, l1, l2, l3, l4, l5] (v :: st) h nx := D_getfield (ins_of mc_200 (pc := 50) (x := (.getfield 48, 3)) (by decide +kernel)) mo_200 (by decide +kernel)
theorem e_200_53 : Df d 200 53 [l0, l1, l2, .int x, l4, l5] st h nx = Df d 200 54 [l0, l1, l2, .int x, l4, l5] (.int x :: st) h nx := D_iload_n (ins_of mc_200 (pc := 53) (x := (.iload_n 3, 1)) (by decide +kernel)) rfl
theorem e_200_54 : Df d 200 54 [l0, l1, l2, l3, l4, l5] (.int x :: .ref a :: st) h nx = (rX h a x).bind fun v => Df d 200 55 [l0, l1, l2, l3, l4, l5] (.int v :: st) h nx := D_iaload (ins_of mc_200 (pc := 54) (x := (.iaload, 1)) (by decide +kernel))
theorem e_200_55 : Df d 200 55 [l0, l1, l2, l3, l4, l5] (.int x :: st) h nx = if 0 ≤ x then Df d 200 61 [l0, l1, l2, l3, l4, l5] st h nx else Df d 200 58 [l0, l1, l2, l3, l4, l5] st h nx := D_if_ge (ins_of mc_200 (pc := 55) (x := (.ifCond .ge 6, 3)) (by decide +kernel)) (by decide)
theorem e_200_58 : Df d 200 58 [l0, l1, l2, l3, l4, l5] st h nx = Df d 200 60 [l0, l1, l2, l3, l4, l5] (.int (-1000000011) :: st) h nx := D_ldc (ins_of mc_200 (pc := 58) (x := (.ldc 195, 2)) (by decide +kernel)) mo_200 (by decide +kernel)
theorem e_200_60 : Df d 200 60 [l0, l1, l2, l3, l4, l5] [.int x] h nx = some (some (.int x), h, nx) := D_ireturn (ins_of mc_200 (pc := 60) (x := (.ireturn, 1)) (by decide +kernel)) mr_200
theorem e_200_61 : Df d 200 61 [.ref a, l1, l2, l3, l4, l5] st h nx = Df d 200 62 [.ref a, l1, l2, l3, l4, l5] (.ref a :: st) h nx := D_aload_n (ins_of mc_200 (pc := 61) (x := (.aload_n 0, 1)) (by decide +kernel)) rfl
theorem e_200_62 : Df d 200 62 [l0, l1, l2, l3, l4, l5] (.ref a :: st) h nx = (gF h a 9 27).bind fun v => Df d 200 65 [l0, l1, l2, l3, l4, l5] (v :: st) h nx := D_getfield (ins_of mc_200 (pc := 62) (x := (.getfield 57, 3)) (by decide +kernel)) mo_200 (by decide +kernel)
theorem e_200_65 : Df d 200 65 [l0, .int x, l2, l3, l4, l5] st h nx = Df d 200 66 [l0, .int x, l2, l3, l4, l5] (.int x :: st) h nx := D_iload_n (ins_of mc_200 (pc := 65) (x := (.iload_n 1, 1)) (by decide +kernel)) rfl
theorem e_200_66 : Df d 200 66 [l0, l1, l2, l3, l4, l5] (.int x :: .ref a :: st) h nx = (rX h a x).bind fun v => Df d 200 67 [l0, l1, l2, l3, l4, l5] (.int v :: st) h nx := D_iaload (ins_of mc_200 (pc := 66) (x := (.iaload, 1)) (by decide +kernel))
theorem e_200_67 (hn : nr l4 = true) : Df d 200 67 [l0, l1, l2, l3, l4, l5] (.int x :: st) h nx = Df d 200 69 [l0, l1, l2, l3, .int x, l5] st h nx := D_istore (ins_of mc_200 (pc := 67) (x := (.istore 4, 2)) (by decide +kernel)) rfl hn rfl
theorem e_200_69 : Df d 200 69 [.ref a, l1, l2, l3, l4, l5] st h nx = Df d 200 70 [.ref a, l1, l2, l3, l4, l5] (.ref a :: st) h nx := D_aload_n (ins_of mc_200 (pc := 69) (x := (.aload_n 0, 1)) (by decide +kernel)) rfl
theorem e_200_70 : Df d 200 70 [l0, l1, l2, l3, l4, l5] (.ref a :: st) h nx = (gF h a 9 27).bind fun v => Df d 200 73 [l0, l1, l2, l3, l4, l5] (v :: st) h nx := D_getfield (ins_of mc_200 (pc := 70) (x := (.getfield 57, 3)) (by decide +kernel)) mo_200 (by decide +kernel)
theorem e_200_73 : Df d 200 73 [l0, .int x, l2, l3, l4, l5] st h nx = Df d 200 74 [l0, .int x, l2, l3, l4, l5] (.int x :: st) h nx := D_iload_n (ins_of mc_200 (pc := 73) (x := (.iload_n 1, 1)) (by decide +kernel)) rfl
theorem e_200_74 : Df d 200 74 [l0, l1, .int x, l3, l4, l5] st h nx = Df d 200 75 [l0, l1, .int x, l3, l4, l5] (.int x :: st) h nx := D_iload_n (ins_of mc_200 (pc := 74) (x := (.iload_n 2, 1)) (by decide +kernel)) rfl
theorem e_200_75 : Df d 200 75 [l0, l1, l2, l3, l4, l5] (.int y :: .int x :: .ref a :: st) h nx = (wI h a x 0 y).bind fun h => Df d 200 76 [l0, l1, l2, l3, l4, l5] st h nx := D_iastore (ins_of mc_200 (pc := 75) (x := (.iastore, 1)) (by decide +kernel))
theorem e_200_76 : Df d 200 76 [.ref a, l1, l2, l3, l4, l5] st h nx = Df d 200 77 [.ref a, l1, l2, l3, l4, l5] (.ref a :: st) h nx := D_aload_n (ins_of mc_200 (pc := 76) (x := (.aload_n 0, 1)) (by decide +kernel)) rfl
theorem e_200_77 : Df d 200 77 [l0, l1, l2, l3, l4, l5] (.ref a :: st) h nx = (gF h a 9 28).bind fun v => Df d 200 80 [l0, l1, l2, l3, l4, l5] (v :: st) h nx := D_getfield (ins_of mc_200 (pc := 77) (x := (.getfield 60, 3)) (by decide +kernel)) mo_200 (by decide +kernel)
theorem e_200_80 : Df d 200 80 [l0, .int x, l2, l3, l4, l5] st h nx = Df d 200 81 [l0, .int x, l2, l3, l4, l5] (.int x :: st) h nx := D_iload_n (ins_of mc_200 (pc := 80) (x := (.iload_n 1, 1)) (by decide +kernel)) rfl
theorem e_200_81 : Df d 200 81 [l0, l1, .int x, l3, l4, l5] st h nx = Df d 200 82 [l0, l1, .int x, l3, l4, l5] (.int x :: st) h nx := D_iload_n (ins_of mc_200 (pc := 81) (x := (.iload_n 2, 1)) (by decide +kernel)) rfl
theorem e_200_82 : Df d 200 82 [l0, l1, l2, l3, l4, l5] st h nx = Df d 200 83 [l0, l1, l2, l3, l4, l5] (.int 1 :: st) h nx := D_iconst (ins_of mc_200 (pc := 82) (x := (.iconst 1, 1)) (by decide +kernel)) (by decide)
theorem e_200_83 : Df d 200 83 [l0, l1, l2, l3, l4, l5] (.int y :: .int x :: st) h nx = if x = y then Df d 200 86 [l0, l1, l2, l3, l4, l5] st h nx else Df d 200 95 [l0, l1, l2, l3, l4, l5] st h nx := D_icmp_ne (ins_of mc_200 (pc := 83) (x := (.if_icmp .ne 12, 3)) (by decide +kernel)) (by decide)
theorem e_200_86 : Df d 200 86 [.ref a, l1, l2, l3, l4, l5] st h nx = Df d 200 87 [.ref a, l1, l2, l3, l4, l5] (.ref a :: st) h nx := D_aload_n (ins_of mc_200 (pc := 86) (x := (.aload_n 0, 1)) (by decide +kernel)) rfl
theorem e_200_87 : Df d 200 87 [l0, l1, l2, .int x, l4, l5] st h nx = Df d 200 88 [l0, l1, l2, .int x, l4, l5] (.int x :: st) h nx := D_iload_n (ins_of mc_200 (pc := 87) (x := (.iload_n 3, 1)) (by decide +kernel)) rfl
theorem e_200_88 : Df d 200 88 [l0, l1, l2, l3, l4, l5] st h nx = Df d 200 89 [l0, l1, l2, l3, l4, l5] (.int 0 :: st) h nx := D_iconst (ins_of mc_200 (pc := 88) (x := (.iconst 0, 1)) (by decide +kernel)) (by decide)
theorem e_200_89 : Df d 200 89 [l0, l1, l2, l3, l4, l5] [v1, v0, .ref a, s0, s1] h nx = if ck h a 9 = true then cn d 200 92 [l0, l1, l2, l3, l4, l5] [s0, s1] (Dn d 128 [.ref a, v0, v1] h nx) else none := D_virtual (k1 := 128) (ins_of mc_200 (pc := 89) (x := (.invokevirtual 80, 3)) (by decide +kernel)) mo_200 (by decide +kernel) (by decide) rfl rfl (by decide) rfl (Nat.le_of_ble_eq_true rfl) rfl
theorem e_200_92 : Df d 200 92 [l0, l1, l2, l3, l4, l5] st h nx = Df d 200 110 [l0, l1, l2, l3, l4, l5] st h nx := D_goto (ins_of mc_200 (pc := 92) (x := (.goto 18, 3)) (by decide +kernel)) (by decide)
theorem e_200_95 : Df d 200 95 [l0, l1, .int x, l3, l4, l5] st h nx = Df d 200 96 [l0, l1, .int x, l3, l4, l5] (.int x :: st) h nx := D_iload_n (ins_of mc_200 (pc := 95) (x := (.iload_n 2, 1)) (by decide +kernel)) rfl
theorem e_200_96 : Df d 200 96 [l0, l1, l2, l3, l4, l5] st h nx = Df d 200 97 [l0, l1, l2, l3, l4, l5] (.int 2 :: st) h nx := D_iconst (ins_of mc_200 (pc := 96) (x := (.iconst 2, 1)) (by decide +kernel)) (by decide)
theorem e_200_97 : Df d 200 97 [l0, l1, l2, l3, l4, l5] (.int y :: .int x :: st) h nx = if x = y then Df d 200 100 [l0, l1, l2, l3, l4, l5] st h nx else Df d 200 109 [l0, l1, l2, l3, l4, l5] st h nx := D_icmp_ne (ins_of mc_200 (pc := 97) (x := (.if_icmp .ne 12, 3)) (by decide +kernel)) (by decide)
theorem e_200_100 : Df d 200 100 [.ref a, l1, l2, l3, l4, l5] st h nx = Df d 200 101 [.ref a, l1, l2, l3, l4, l5] (.ref a :: st) h nx := D_aload_n (ins_of mc_200 (pc := 100) (x := (.aload_n 0, 1)) (by decide +kernel)) rfl
theorem e_200_101 : Df d 200 101 [l0, l1, l2, l3, l4, l5] (.ref a :: st) h nx = (gF h a 9 25).bind fun v => Df d 200 104 [l0, l1, l2, l3, l4, l5] (v :: st) h nx := D_getfield (ins_of mc_200 (pc := 101) (x := (.getfield 51, 3)) (by decide +kernel)) mo_200 (by decide +kernel)
theorem e_200_104 : Df d 200 104 [l0, l1, l2, .int x, l4, l5] st h nx = Df d 200 105 [l0, l1, l2, .int x, l4, l5] (.int x :: st) h nx := D_iload_n (ins_of mc_200 (pc := 104) (x := (.iload_n 3, 1)) (by decide +kernel)) rfl
theorem e_200_105 : Df d 200 105 [l0, l1, l2, l3, l4, l5] (.int x :: .ref a :: st) h nx = (rX h a x).bind fun v => Df d 200 106 [l0, l1, l2, l3, l4, l5] (.int v :: st) h nx := D_iaload (ins_of mc_200 (pc := 105) (x := (.iaload, 1)) (by decide +kernel))
theorem e_200_106 : Df d 200 106 [l0, l1, l2, l3, l4, l5] st h nx = Df d 200 110 [l0, l1, l2, l3, l4, l5] st h nx := D_goto (ins_of mc_200 (pc := 106) (x := (.goto 4, 3)) (by decide +kernel)) (by decide)
theorem e_200_109 : Df d 200 109 [l0, l1, l2, .int x, l4, l5] st h nx = Df d 200 110 [l0, l1, l2, .int x, l4, l5] (.int x :: st) h nx := D_iload_n (ins_of mc_200 (pc := 109) (x := (.iload_n 3, 1)) (by decide +kernel)) rfl
theorem e_200_110 : Df d 200 110 [l0, l1, l2, l3, l4, l5] (.int y :: .int x :: .ref a :: st) h nx = (wI h a x 0 y).bind fun h => Df d 200 111 [l0, l1, l2, l3, l4, l5] st h nx := D_iastore (ins_of mc_200 (pc := 110) (x := (.iastore, 1)) (by decide +kernel))
theorem e_200_111 : Df d 200 111 [.ref a, l1, l2, l3, l4, l5] st h nx = Df d 200 112 [.ref a, l1, l2, l3, l4, l5] (.ref a :: st) h nx := D_aload_n (ins_of mc_200 (pc := 111) (x := (.aload_n 0, 1)) (by decide +kernel)) rfl
theorem e_200_112 : Df d 200 112 [l0, l1, l2, l3, l4, l5] (.ref a :: st) h nx = (gF h a 9 29).bind fun v => Df d 200 115 [l0, l1, l2, l3, l4, l5] (v :: st) h nx := D_getfield (ins_of mc_200 (pc := 112) (x := (.getfield 63, 3)) (by decide +kernel)) mo_200 (by decide +kernel)
theorem e_200_115 : Df d 200 115 [l0, .int x, l2, l3, l4, l5] st h nx = Df d 200 116 [l0, .int x, l2, l3, l4, l5] (.int x :: st) h nx := D_iload_n (ins_of mc_200 (pc := 115) (x := (.iload_n 1, 1)) (by decide +kernel)) rfl
theorem e_200_116 : Df d 200 116 [l0, l1, .int x, l3, l4, l5] st h nx = Df d 200 117 [l0, l1, .int x, l3, l4, l5] (.int x :: st) h nx := D_iload_n (ins_of mc_200 (pc := 116) (x := (.iload_n 2, 1)) (by decide +kernel)) rfl
theorem e_200_117 : Df d 200 117 [l0, l1, l2, l3, l4, l5] st h nx = Df d 200 118 [l0, l1, l2, l3, l4, l5] (.int 1 :: st) h nx := D_iconst (ins_of mc_200 (pc := 117) (x := (.iconst 1, 1)) (by decide +kernel)) (by decide)
theorem e_200_118 : Df d 200 118 [l0, l1, l2, l3, l4, l5] (.int y :: .int x :: st) h nx = if x = y then Df d 200 121 [l0, l1, l2, l3, l4, l5] st h nx else Df d 200 129 [l0, l1, l2, l3, l4, l5] st h nx := D_icmp_ne (ins_of mc_200 (pc := 118) (x := (.if_icmp .ne 11, 3)) (by decide +kernel)) (by decide)
theorem e_200_121 : Df d 200 121 [.ref a, l1, l2, l3, l4, l5] st h nx = Df d 200 122 [.ref a, l1, l2, l3, l4, l5] (.ref a :: st) h nx := D_aload_n (ins_of mc_200 (pc := 121) (x := (.aload_n 0, 1)) (by decide +kernel)) rfl
theorem e_200_122 : Df d 200 122 [l0, l1, l2, .int x, l4, l5] st h nx = Df d 200 123 [l0, l1, l2, .int x, l4, l5] (.int x :: st) h nx := D_iload_n (ins_of mc_200 (pc := 122) (x := (.iload_n 3, 1)) (by decide +kernel)) rfl
theorem e_200_123 : Df d 200 123 [l0, l1, l2, l3, l4, l5] [v0, .ref a, s0, s1] h nx = if ck h a 9 = true then cn d 200 126 [l0, l1, l2, l3, l4, l5] [s0, s1] (Dn d 138 [.ref a, v0] h nx) else none := D_virtual (k1 := 138) (ins_of mc_200 (pc := 123) (x := (.invokevirtual 124, 3)) (by decide +kernel)) mo_200 (by decide +kernel) (by decide) rfl rfl (by decide) rfl (Nat.le_of_ble_eq_true rfl) rfl
theorem e_200_126 : Df d 200 126 [l0, l1, l2, l3, l4, l5] st h nx = Df d 200 130 [l0, l1, l2, l3, l4, l5] st h nx := D_goto (ins_of mc_200 (pc := 126) (x := (.goto 4, 3)) (by decide +kernel)) (by decide)
theorem e_200_129 : Df d 200 129 [l0, l1, l2, l3, l4, l5] st h nx = Df d 200 130 [l0, l1, l2, l3, l4, l5] (.int 0 :: st) h nx := D_iconst (ins_of mc_200 (pc := 129) (x := (.iconst 0, 1)) (by decide +kernel)) (by decide)
theorem e_200_130 : Df d 200 130 [l0, l1, l2, l3, l4, l5] (.int y :: .int x :: .ref a :: st) h nx = (wI h a x 0 y).bind fun h => Df d 200 131 [l0, l1, l2, l3, l4, l5] st h nx := D_iastore (ins_of mc_200 (pc := 130) (x := (.iastore, 1)) (by decide +kernel))
theorem e_200_131 : Df d 200 131 [l0, l1, l2, l3, l4, l5] st h nx = Df d 200 132 [l0, l1, l2, l3, l4, l5] (.int 0 :: st) h nx := D_iconst (ins_of mc_200 (pc := 131) (x := (.iconst 0, 1)) (by decide +kernel)) (by decide)
theorem e_200_132 (hn : nr l5 = true) : Df d 200 132 [l0, l1, l2, l3, l4, l5] (.int x :: st) h nx = Df d 200 134 [l0, l1, l2, l3, l4, .int x] st h nx := D_istore (ins_of mc_200 (pc := 132) (x := (.istore 5, 2)) (by decide +kernel)) rfl hn rfl
theorem e_200_134 : Df d 200 134 [l0, l1, l2, l3, l4, .int x] st h nx = Df d 200 136 [l0, l1, l2, l3, l4, .int x] (.int x :: st) h nx := D_iload (ins_of mc_200 (pc := 134) (x := (.iload 5, 2)) (by decide +kernel)) rfl
theorem e_200_136 : Df d 200 136 [l0, l1, l2, l3, l4, l5] st h nx = Df d 200 138 [l0, l1, l2, l3, l4, l5] (.int 24 :: st) h nx := D_bipush (ins_of mc_200 (pc := 136) (x := (.bipush 24, 2)) (by decide +kernel)) (by decide)
theorem e_200_138 : Df d 200 138 [l0, l1, l2, l3, l4, l5] (.int y :: .int x :: st) h nx = if y ≤ x then Df d 200 176 [l0, l1, l2, l3, l4, l5] st h nx else Df d 200 141 [l0, l1, l2, l3, l4, l5] st h nx := D_icmp_ge (ins_of mc_200 (pc := 138) (x := (.if_icmp .ge 38, 3)) (by decide +kernel)) (by decide)
theorem e_200_141 : Df d 200 141 [l0, l1, .int x, l3, l4, l5] st h nx = Df d 200 142 [l0, l1, .int x, l3, l4, l5] (.int x :: st) h nx := D_iload_n (ins_of mc_200 (pc := 141) (x := (.iload_n 2, 1)) (by decide +kernel)) rfl
theorem e_200_142 : Df d 200 142 [l0, l1, l2, l3, l4, l5] st h nx = Df d 200 143 [l0, l1, l2, l3, l4, l5] (.int 2 :: st) h nx := D_iconst (ins_of mc_200 (pc := 142) (x := (.iconst 2, 1)) (by decide +kernel)) (by decide)
theorem e_200_143 : Df d 200 143 [l0, l1, l2, l3, l4, l5] (.int y :: .int x :: st) h nx = if x = y then Df d 200 146 [l0, l1, l2, l3, l4, l5] st h nx else Df d 200 176 [l0, l1, l2, l3, l4, l5] st h nx := D_icmp_ne (ins_of mc_200 (pc := 143) (x := (.if_icmp .ne 33, 3)) (by decide +kernel)) (by decide)
theorem e_200_146 : Df d 200 146 [.ref a, l1, l2, l3, l4, l5] st h nx = Df d 200 147 [.ref a, l1, l2, l3, l4, l5] (.ref a :: st) h nx := D_aload_n (ins_of mc_200 (pc := 146) (x := (.aload_n 0, 1)) (by decide +kernel)) rfl
theorem e_200_147 : Df d 200 147 [l0, l1, l2, l3, l4, l5] (.ref a :: st) h nx = (gF h a 9 30).bind fun v => Df d 200 150 [l0, l1, l2, l3, l4, l5] (v :: st) h nx := D_getfield (ins_of mc_200 (pc := 147) (x := (.getfield 66, 3)) (by decide +kernel)) mo_200 (by decide +kernel)
theorem e_200_150 : Df d 200 150 [l0, l1, l2, l3, l4, l5] st h nx = Df d 200 152 [l0, l1, l2, l3, l4, l5] (.int 24 :: st) h nx := D_bipush (ins_of mc_200 (pc := 150) (x := (.bipush 24, 2)) (by decide +kernel)) (by decide)
theorem e_200_152 : Df d 200 152 [l0, .int x, l2, l3, l4, l5] st h nx = Df d 200 153 [l0, .int x, l2, l3, l4, l5] (.int x :: st) h nx := D_iload_n (ins_of mc_200 (pc := 152) (x := (.iload_n 1, 1)) (by decide +kernel)) rfl
theorem e_200_153 : Df d 200 153 [l0, l1, l2, l3, l4, l5] (.int y :: .int x :: st) h nx = Df d 200 154 [l0, l1, l2, l3, l4, l5] (.int (x * y) :: st) h nx := D_imul (ins_of mc_200 (pc := 153) (x := (.imul, 1)) (by decide +kernel))
theorem e_200_154 : Df d 200 154 [l0, l1, l2, l3, l4, .int x] st h nx = Df d 200 156 [l0, l1, l2, l3, l4, .int x] (.int x :: st) h nx := D_iload (ins_of mc_200 (pc := 154) (x := (.iload 5, 2)) (by decide +kernel)) rfl
theorem e_200_156 : Df d 200 156 [l0, l1, l2, l3, l4, l5] (.int y :: .int x :: st) h nx = Df d 200 157 [l0, l1, l2, l3, l4, l5] (.int (x + y) :: st) h nx := D_iadd (ins_of mc_200 (pc := 156) (x := (.iadd, 1)) (by decide +kernel))
theorem e_200_157 : Df d 200 157 [.ref a, l1, l2, l3, l4, l5] st h nx = Df d 200 158 [.ref a, l1, l2, l3, l4, l5] (.ref a :: st) h nx := D_aload_n (ins_of mc_200 (pc := 157) (x := (.aload_n 0, 1)) (by decide +kernel)) rfl
theorem e_200_158 : Df d 200 158 [l0, l1, l2, l3, l4, l5] (.ref a :: st) h nx = (gF h a 9 26).bind fun v => Df d 200 161 [l0, l1, l2, l3, l4, l5] (v :: st) h nx := D_getfield (ins_of mc_200 (pc := 158) (x := (.getfield 54, 3)) (by decide +kernel)) mo_200 (by decide +kernel)
theorem e_200_161 : Df d 200 161 [l0, l1, l2, l3, l4, l5] st h nx = Df d 200 163 [l0, l1, l2, l3, l4, l5] (.int 24 :: st) h nx := D_bipush (ins_of mc_200 (pc := 161) (x := (.bipush 24, 2)) (by decide +kernel)) (by decide)
theorem e_200_163 : Df d 200 163 [l0, l1, l2, .int x, l4, l5] st h nx = Df d 200 164 [l0, l1, l2, .int x, l4, l5] (.int x :: st) h nx := D_iload_n (ins_of mc_200 (pc := 163) (x := (.iload_n 3, 1)) (by decide +kernel)) rfl
theorem e_200_164 : Df d 200 164 [l0, l1, l2, l3, l4, l5] (.int y :: .int x :: st) h nx = Df d 200 165 [l0, l1, l2, l3, l4, l5] (.int (x * y) :: st) h nx := D_imul (ins_of mc_200 (pc := 164) (x := (.imul, 1)) (by decide +kernel))
theorem e_200_165 : Df d 200 165 [l0, l1, l2, l3, l4, .int x] st h nx = Df d 200 167 [l0, l1, l2, l3, l4, .int x] (.int x :: st) h nx := D_iload (ins_of mc_200 (pc := 165) (x := (.iload 5, 2)) (by decide +kernel)) rfl
theorem e_200_167 : Df d 200 167 [l0, l1, l2, l3, l4, l5] (.int y :: .int x :: st) h nx = Df d 200 168 [l0, l1, l2, l3, l4, l5] (.int (x + y) :: st) h nx := D_iadd (ins_of mc_200 (pc := 167) (x := (.iadd, 1)) (by decide +kernel))
theorem e_200_168 : Df d 200 168 [l0, l1, l2, l3, l4, l5] (.int x :: .ref a :: st) h nx = (rX h a x).bind fun v => Df d 200 169 [l0, l1, l2, l3, l4, l5] (.int v :: st) h nx := D_iaload (ins_of mc_200 (pc := 168) (x := (.iaload, 1)) (by decide +kernel))
theorem e_200_169 : Df d 200 169 [l0, l1, l2, l3, l4, l5] (.int y :: .int x :: .ref a :: st) h nx = (wI h a x 0 y).bind fun h => Df d 200 170 [l0, l1, l2, l3, l4, l5] st h nx := D_iastore (ins_of mc_200 (pc := 169) (x := (.iastore, 1)) (by decide +kernel))
theorem e_200_170 : Df d 200 170 [l0, l1, l2, l3, l4, .int x] st h nx = Df d 200 173 [l0, l1, l2, l3, l4, .int (x + 1)] st h nx := D_iinc (ins_of mc_200 (pc := 170) (x := (.iinc 5 1, 3)) (by decide +kernel)) rfl (by decide) rfl
theorem e_200_173 : Df d 200 173 [l0, l1, l2, l3, l4, l5] st h nx = Df d 200 134 [l0, l1, l2, l3, l4, l5] st h nx := D_goto (ins_of mc_200 (pc := 173) (x := (.goto (-39), 3)) (by decide +kernel)) (by decide)
theorem e_200_176 : Df d 200 176 [l0, l1, l2, l3, .int x, l5] st h nx = Df d 200 178 [l0, l1, l2, l3, .int x, l5] (.int x :: st) h nx := D_iload (ins_of mc_200 (pc := 176) (x := (.iload 4, 2)) (by decide +kernel)) rfl
theorem e_200_178 : Df d 200 178 [l0, l1, l2, l3, l4, l5] [.int x] h nx = some (some (.int x), h, nx) := D_ireturn (ins_of mc_200 (pc := 178) (x := (.ireturn, 1)) (by decide +kernel)) mr_200
theorem mc_201 : mC 201 = prog_11_method_76_code := rfl
theorem mo_201 : mO 201 = 9 := rfl
theorem ml_201 : mL 201 = 1 := rfl
theorem mr_201 : mR 201 = (some .boolean) := rfl
theorem ma_201 : mA 201 = 1 := rfl
theorem e_201_0 : Df d 201 0 [.int x] st h nx = Df d 201 1 [.int x] (.int x :: st) h nx := D_iload_n (ins_of mc_201 (pc := 0) (x := (.iload_n 0, 1)) (by decide +kernel)) rfl
theorem e_201_1 : Df d 201 1 [l0] st h nx = Df d 201 2 [l0] (.int 0 :: st) h nx := D_iconst (ins_of mc_201 (pc := 1) (x := (.iconst 0, 1)) (by decide +kernel)) (by decide)
theorem e_201_2 : Df d 201 2 [l0] st h nx = Df d 201 3 [l0] (.int 4 :: st) h nx := D_iconst (ins_of mc_201 (pc := 2) (x := (.iconst 4, 1)) (by decide +kernel)) (by decide)
theorem e_201_3 : Df d 201 3 [l0] [v2, v1, v0] h nx = cn d 201 6 [l0] [] (Dn d 123 [v0, v1, v2] h nx) := D_static (k1 := 123) (kd := 1) (ins_of mc_201 (pc := 3) (x := (.invokestatic 76, 3)) (by decide +kernel)) mo_201 (by decide +kernel) (by decide) rfl (Nat.le_of_ble_eq_true rfl) rfl (Nat.le_of_ble_eq_true rfl) rfl
theorem e_201_6 : Df d 201 6 [l0] [.int x] h nx = if nR .boolean x = true then some (some (.int x), h, nx) else none := D_zreturn (ins_of mc_201 (pc := 6) (x := (.ireturn, 1)) (by decide +kernel)) mr_201
theorem mc_202 : mC 202 = prog_11_method_83_code := rfl
theorem mo_202 : mO 202 = 9 := rfl
theorem ml_202 : mL 202 = 3 := rfl
theorem mr_202 : mR 202 = (some .int) := rfl
theorem ma_202 : mA 202 = 2 := rfl
theorem e_202_0 : Df d 202 0 [l0, .int x, l2] st h nx = Df d 202 1 [l0, .int x, l2] (.int x :: st) h nx := D_iload_n (ins_of mc_202 (pc := 0) (x := (.iload_n 1, 1)) (by decide +kernel)) rfl
theorem e_202_1 : Df d 202 1 [l0, l1, l2] [v0] h nx = cn d 202 4 [l0, l1, l2] [] (Dn d 201 [v0] h nx) := D_static (k1 := 201) (kd := 1) (ins_of mc_202 (pc := 1) (x := (.invokestatic 272, 3)) (by decide +kernel)) mo_202 (by decide +kernel) (by decide) rfl (Nat.le_of_ble_eq_true rfl) rfl (Nat.le_of_ble_eq_true rfl) rfl
theorem e_202_4 : Df d 202 4 [l0, l1, l2] (.int x :: st) h nx = if x = 0 then Df d 202 16 [l0, l1, l2] st h nx else Df d 202 7 [l0, l1, l2] st h nx := D_if_eq (ins_of mc_202 (pc := 4) (x := (.ifCond .eq 12, 3)) (by decide +kernel)) (by decide)
theorem e_202_7 : Df d 202 7 [l0, l1, .int x] st h nx = Df d 202 8 [l0, l1, .int x] (.int x :: st) h nx := D_iload_n (ins_of mc_202 (pc := 7) (x := (.iload_n 2, 1)) (by decide +kernel)) rfl
theorem e_202_8 : Df d 202 8 [l0, l1, l2] st h nx = Df d 202 9 [l0, l1, l2] (.int 0 :: st) h nx := D_iconst (ins_of mc_202 (pc := 8) (x := (.iconst 0, 1)) (by decide +kernel)) (by decide)
theorem e_202_9 : Df d 202 9 [l0, l1, l2] st h nx = Df d 202 10 [l0, l1, l2] (.int 5 :: st) h nx := D_iconst (ins_of mc_202 (pc := 9) (x := (.iconst 5, 1)) (by decide +kernel)) (by decide)
theorem e_202_10 : Df d 202 10 [l0, l1, l2] [v2, v1, v0] h nx = cn d 202 13 [l0, l1, l2] [] (Dn d 123 [v0, v1, v2] h nx) := D_static (k1 := 123) (kd := 1) (ins_of mc_202 (pc := 10) (x := (.invokestatic 76, 3)) (by decide +kernel)) mo_202 (by decide +kernel) (by decide) rfl (Nat.le_of_ble_eq_true rfl) rfl (Nat.le_of_ble_eq_true rfl) rfl
theorem e_202_13 : Df d 202 13 [l0, l1, l2] (.int x :: st) h nx = if x = 0 then Df d 202 16 [l0, l1, l2] st h nx else Df d 202 19 [l0, l1, l2] st h nx := D_if_ne (ins_of mc_202 (pc := 13) (x := (.ifCond .ne 6, 3)) (by decide +kernel)) (by decide)
theorem e_202_16 : Df d 202 16 [l0, l1, l2] st h nx = Df d 202 18 [l0, l1, l2] (.int (-1000000001) :: st) h nx := D_ldc (ins_of mc_202 (pc := 16) (x := (.ldc 88, 2)) (by decide +kernel)) mo_202 (by decide +kernel)
theorem e_202_18 : Df d 202 18 [l0, l1, l2] [.int x] h nx = some (some (.int x), h, nx) := D_ireturn (ins_of mc_202 (pc := 18) (x := (.ireturn, 1)) (by decide +kernel)) mr_202
theorem e_202_19 : Df d 202 19 [.ref a, l1, l2] st h nx = Df d 202 20 [.ref a, l1, l2] (.ref a :: st) h nx := D_aload_n (ins_of mc_202 (pc := 19) (x := (.aload_n 0, 1)) (by decide +kernel)) rfl
theorem e_202_20 : Df d 202 20 [l0, l1, l2] (.ref a :: st) h nx = (gF h a 9 27).bind fun v => Df d 202 23 [l0, l1, l2] (v :: st) h nx := D_getfield (ins_of mc_202 (pc := 20) (x := (.getfield 57, 3)) (by decide +kernel)) mo_202 (by decide +kernel)
theorem e_202_23 : Df d 202 23 [l0, .int x, l2] st h nx = Df d 202 24 [l0, .int x, l2] (.int x :: st) h nx := D_iload_n (ins_of mc_202 (pc := 23) (x := (.iload_n 1, 1)) (by decide +kernel)) rfl
theorem e_202_24 : Df d 202 24 [l0, l1, l2] (.int x :: .ref a :: st) h nx = (rX h a x).bind fun v => Df d 202 25 [l0, l1, l2] (.int v :: st) h nx := D_iaload (ins_of mc_202 (pc := 24) (x := (.iaload, 1)) (by decide +kernel))
theorem e_202_25 : Df d 202 25 [l0, l1, l2] (.int x :: st) h nx = if x = 0 then Df d 202 28 [l0, l1, l2] st h nx else Df d 202 31 [l0, l1, l2] st h nx := D_if_ne (ins_of mc_202 (pc := 25) (x := (.ifCond .ne 6, 3)) (by decide +kernel)) (by decide)
theorem e_202_28 : Df d 202 28 [l0, l1, l2] st h nx = Df d 202 30 [l0, l1, l2] (.int (-1000000011) :: st) h nx := D_ldc (ins_of mc_202 (pc := 28) (x := (.ldc 195, 2)) (by decide +kernel)) mo_202 (by decide +kernel)
theorem e_202_30 : Df d 202 30 [l0, l1, l2] [.int x] h nx = some (some (.int x), h, nx) := D_ireturn (ins_of mc_202 (pc := 30) (x := (.ireturn, 1)) (by decide +kernel)) mr_202
theorem e_202_31 : Df d 202 31 [.ref a, l1, l2] st h nx = Df d 202 32 [.ref a, l1, l2] (.ref a :: st) h nx := D_aload_n (ins_of mc_202 (pc := 31) (x := (.aload_n 0, 1)) (by decide +kernel)) rfl
theorem e_202_32 : Df d 202 32 [l0, l1, l2] (.ref a :: st) h nx = (gF h a 9 27).bind fun v => Df d 202 35 [l0, l1, l2] (v :: st) h nx := D_getfield (ins_of mc_202 (pc := 32) (x := (.getfield 57, 3)) (by decide +kernel)) mo_202 (by decide +kernel)
theorem e_202_35 : Df d 202 35 [l0, .int x, l2] st h nx = Df d 202 36 [l0, .int x, l2] (.int x :: st) h nx := D_iload_n (ins_of mc_202 (pc := 35) (x := (.iload_n 1, 1)) (by decide +kernel)) rfl
theorem e_202_36 : Df d 202 36 [l0, l1, l2] (.int x :: .ref a :: st) h nx = (rX h a x).bind fun v => Df d 202 37 [l0, l1, l2] (.int v :: st) h nx := D_iaload (ins_of mc_202 (pc := 36) (x := (.iaload, 1)) (by decide +kernel))
theorem e_202_37 : Df d 202 37 [l0, l1, l2] st h nx = Df d 202 38 [l0, l1, l2] (.int 1 :: st) h nx := D_iconst (ins_of mc_202 (pc := 37) (x := (.iconst 1, 1)) (by decide +kernel)) (by decide)
theorem e_202_38 : Df d 202 38 [l0, l1, l2] (.int y :: .int x :: st) h nx = if x = y then Df d 202 41 [l0, l1, l2] st h nx else Df d 202 63 [l0, l1, l2] st h nx := D_icmp_ne (ins_of mc_202 (pc := 38) (x := (.if_icmp .ne 25, 3)) (by decide +kernel)) (by decide)
theorem e_202_41 : Df d 202 41 [.ref a, l1, l2] st h nx = Df d 202 42 [.ref a, l1, l2] (.ref a :: st) h nx := D_aload_n (ins_of mc_202 (pc := 41) (x := (.aload_n 0, 1)) (by decide +kernel)) rfl
theorem e_202_42 : Df d 202 42 [l0, l1, l2] (.ref a :: st) h nx = (gF h a 9 28).bind fun v => Df d 202 45 [l0, l1, l2] (v :: st) h nx := D_getfield (ins_of mc_202 (pc := 42) (x := (.getfield 60, 3)) (by decide +kernel)) mo_202 (by decide +kernel)
theorem e_202_45 : Df d 202 45 [l0, .int x, l2] st h nx = Df d 202 46 [l0, .int x, l2] (.int x :: st) h nx := D_iload_n (ins_of mc_202 (pc := 45) (x := (.iload_n 1, 1)) (by decide +kernel)) rfl
theorem e_202_46 : Df d 202 46 [l0, l1, l2] (.int x :: .ref a :: st) h nx = (rX h a x).bind fun v => Df d 202 47 [l0, l1, l2] (.int v :: st) h nx := D_iaload (ins_of mc_202 (pc := 46) (x := (.iaload, 1)) (by decide +kernel))
theorem e_202_47 : Df d 202 47 [l0, l1, .int x] st h nx = Df d 202 48 [l0, l1, .int x] (.int x :: st) h nx := D_iload_n (ins_of mc_202 (pc := 47) (x := (.iload_n 2, 1)) (by decide +kernel)) rfl
theorem e_202_48 : Df d 202 48 [l0, l1, l2] [v1, v0] h nx = cn d 202 51 [l0, l1, l2] [] (Dn d 140 [v0, v1] h nx) := D_static (k1 := 140) (kd := 1) (ins_of mc_202 (pc := 48) (x := (.invokestatic 127, 3)) (by decide +kernel)) mo_202 (by decide +kernel) (by decide) rfl (Nat.le_of_ble_eq_true rfl) rfl (Nat.le_of_ble_eq_true rfl) rfl
theorem e_202_51 : Df d 202 51 [l0, l1, l2] (.int x :: st) h nx = if x = 0 then Df d 202 63 [l0, l1, l2] st h nx else Df d 202 54 [l0, l1, l2] st h nx := D_if_eq (ins_of mc_202 (pc := 51) (x := (.ifCond .eq 12, 3)) (by decide +kernel)) (by decide)
theorem e_202_54 : Df d 202 54 [.ref a, l1, l2] st h nx = Df d 202 55 [.ref a, l1, l2] (.ref a :: st) h nx := D_aload_n (ins_of mc_202 (pc := 54) (x := (.aload_n 0, 1)) (by decide +kernel)) rfl
theorem e_202_55 : Df d 202 55 [l0, l1, l2] (.ref a :: st) h nx = (gF h a 9 29).bind fun v => Df d 202 58 [l0, l1, l2] (v :: st) h nx := D_getfield (ins_of mc_202 (pc := 55) (x := (.getfield 63, 3)) (by decide +kernel)) mo_202 (by decide +kernel)
theorem e_202_58 : Df d 202 58 [l0, .int x, l2] st h nx = Df d 202 59 [l0, .int x, l2] (.int x :: st) h nx := D_iload_n (ins_of mc_202 (pc := 58) (x := (.iload_n 1, 1)) (by decide +kernel)) rfl
theorem e_202_59 : Df d 202 59 [l0, l1, l2] (.int x :: .ref a :: st) h nx = (rX h a x).bind fun v => Df d 202 60 [l0, l1, l2] (.int v :: st) h nx := D_iaload (ins_of mc_202 (pc := 59) (x := (.iaload, 1)) (by decide +kernel))
theorem e_202_60 : Df d 202 60 [l0, l1, l2] st h nx = Df d 202 65 [l0, l1, l2] st h nx := D_goto (ins_of mc_202 (pc := 60) (x := (.goto 5, 3)) (by decide +kernel)) (by decide)
theorem e_202_63 : Df d 202 63 [l0, l1, l2] st h nx = Df d 202 65 [l0, l1, l2] (.int (-1000000012) :: st) h nx := D_ldc (ins_of mc_202 (pc := 63) (x := (.ldc 131, 2)) (by decide +kernel)) mo_202 (by decide +kernel)
theorem e_202_65 : Df d 202 65 [l0, l1, l2] [.int x] h nx = some (some (.int x), h, nx) := D_ireturn (ins_of mc_202 (pc := 65) (x := (.ireturn, 1)) (by decide +kernel)) mr_202
theorem mc_203 : mC 203 = prog_11_method_84_code := rfl
theorem mo_203 : mO 203 = 9 := rfl
theorem ml_203 : mL 203 = 4 := rfl
theorem mr_203 : mR 203 = (some .int) := rfl
theorem ma_203 : mA 203 = 2 := rfl
theorem e_203_0 : Df d 203 0 [l0, .int x, l2, l3] st h nx = Df d 203 1 [l0, .int x, l2, l3] (.int x :: st) h nx := D_iload_n (ins_of mc_203 (pc := 0) (x := (.iload_n 1, 1)) (by decide +kernel)) rfl
theorem e_203_1 : Df d 203 1 [l0, l1, l2, l3] [v0] h nx = cn d 203 4 [l0, l1, l2, l3] [] (Dn d 201 [v0] h nx) := D_static (k1 := 201) (kd := 1) (ins_of mc_203 (pc := 1) (x := (.invokestatic 272, 3)) (by decide +kernel)) mo_203 (by decide +kernel) (by decide) rfl (Nat.le_of_ble_eq_true rfl) rfl (Nat.le_of_ble_eq_true rfl) rfl
theorem e_203_4 : Df d 203 4 [l0, l1, l2, l3] (.int x :: st) h nx = if x = 0 then Df d 203 7 [l0, l1, l2, l3] st h nx else Df d 203 10 [l0, l1, l2, l3] st h nx := D_if_ne (ins_of mc_203 (pc := 4) (x := (.ifCond .ne 6, 3)) (by decide +kernel)) (by decide)
theorem e_203_7 : Df d 203 7 [l0, l1, l2, l3] st h nx = Df d 203 9 [l0, l1, l2, l3] (.int (-1000000001) :: st) h nx := D_ldc (ins_of mc_203 (pc := 7) (x := (.ldc 88, 2)) (by decide +kernel)) mo_203 (by decide +kernel)
theorem e_203_9 : Df d 203 9 [l0, l1, l2, l3] [.int x] h nx = some (some (.int x), h, nx) := D_ireturn (ins_of mc_203 (pc := 9) (x := (.ireturn, 1)) (by decide +kernel)) mr_203
theorem e_203_10 : Df d 203 10 [.ref a, l1, l2, l3] st h nx = Df d 203 11 [.ref a, l1, l2, l3] (.ref a :: st) h nx := D_aload_n (ins_of mc_203 (pc := 10) (x := (.aload_n 0, 1)) (by decide +kernel)) rfl
theorem e_203_11 : Df d 203 11 [l0, l1, l2, l3] (.ref a :: st) h nx = (gF h a 9 27).bind fun v => Df d 203 14 [l0, l1, l2, l3] (v :: st) h nx := D_getfield (ins_of mc_203 (pc := 11) (x := (.getfield 57, 3)) (by decide +kernel)) mo_203 (by decide +kernel)
theorem e_203_14 : Df d 203 14 [l0, .int x, l2, l3] st h nx = Df d 203 15 [l0, .int x, l2, l3] (.int x :: st) h nx := D_iload_n (ins_of mc_203 (pc := 14) (x := (.iload_n 1, 1)) (by decide +kernel)) rfl
theorem e_203_15 : Df d 203 15 [l0, l1, l2, l3] (.int x :: .ref a :: st) h nx = (rX h a x).bind fun v => Df d 203 16 [l0, l1, l2, l3] (.int v :: st) h nx := D_iaload (ins_of mc_203 (pc := 15) (x := (.iaload, 1)) (by decide +kernel))
theorem e_203_16 : Df d 203 16 [l0, l1, l2, l3] (.int x :: st) h nx = if x = 0 then Df d 203 19 [l0, l1, l2, l3] st h nx else Df d 203 22 [l0, l1, l2, l3] st h nx := D_if_ne (ins_of mc_203 (pc := 16) (x := (.ifCond .ne 6, 3)) (by decide +kernel)) (by decide)
theorem e_203_19 : Df d 203 19 [l0, l1, l2, l3] st h nx = Df d 203 21 [l0, l1, l2, l3] (.int (-1000000011) :: st) h nx := D_ldc (ins_of mc_203 (pc := 19) (x := (.ldc 195, 2)) (by decide +kernel)) mo_203 (by decide +kernel)
theorem e_203_21 : Df d 203 21 [l0, l1, l2, l3] [.int x] h nx = some (some (.int x), h, nx) := D_ireturn (ins_of mc_203 (pc := 21) (x := (.ireturn, 1)) (by decide +kernel)) mr_203
theorem e_203_22 : Df d 203 22 [.ref a, l1, l2, l3] st h nx = Df d 203 23 [.ref a, l1, l2, l3] (.ref a :: st) h nx := D_aload_n (ins_of mc_203 (pc := 22) (x := (.aload_n 0, 1)) (by decide +kernel)) rfl
theorem e_203_23 : Df d 203 23 [l0, l1, l2, l3] (.ref a :: st) h nx = (gF h a 9 27).bind fun v => Df d 203 26 [l0, l1, l2, l3] (v :: st) h nx := D_getfield (ins_of mc_203 (pc := 23) (x := (.getfield 57, 3)) (by decide +kernel)) mo_203 (by decide +kernel)
theorem e_203_26 : Df d 203 26 [l0, .int x, l2, l3] st h nx = Df d 203 27 [l0, .int x, l2, l3] (.int x :: st) h nx := D_iload_n (ins_of mc_203 (pc := 26) (x := (.iload_n 1, 1)) (by decide +kernel)) rfl
theorem e_203_27 : Df d 203 27 [l0, l1, l2, l3] (.int x :: .ref a :: st) h nx = (rX h a x).bind fun v => Df d 203 28 [l0, l1, l2, l3] (.int v :: st) h nx := D_iaload (ins_of mc_203 (pc := 27) (x := (.iaload, 1)) (by decide +kernel))
theorem e_203_28 : Df d 203 28 [l0, l1, l2, l3] st h nx = Df d 203 29 [l0, l1, l2, l3] (.int 2 :: st) h nx := D_iconst (ins_of mc_203 (pc := 28) (x := (.iconst 2, 1)) (by decide +kernel)) (by decide)
theorem e_203_29 : Df d 203 29 [l0, l1, l2, l3] (.int y :: .int x :: st) h nx = if x = y then Df d 203 35 [l0, l1, l2, l3] st h nx else Df d 203 32 [l0, l1, l2, l3] st h nx := D_icmp_eq (ins_of mc_203 (pc := 29) (x := (.if_icmp .eq 6, 3)) (by decide +kernel)) (by decide)
theorem e_203_32 : Df d 203 32 [l0, l1, l2, l3] st h nx = Df d 203 34 [l0, l1, l2, l3] (.int (-1000000012) :: st) h nx := D_ldc (ins_of mc_203 (pc := 32) (x := (.ldc 131, 2)) (by decide +kernel)) mo_203 (by decide +kernel)
theorem e_203_34 : Df d 203 34 [l0, l1, l2, l3] [.int x] h nx = some (some (.int x), h, nx) := D_ireturn (ins_of mc_203 (pc := 34) (x := (.ireturn, 1)) (by decide +kernel)) mr_203
theorem e_203_35 : Df d 203 35 [l0, l1, .int x, l3] st h nx = Df d 203 36 [l0, l1, .int x, l3] (.int x :: st) h nx := D_iload_n (ins_of mc_203 (pc := 35) (x := (.iload_n 2, 1)) (by decide +kernel)) rfl
theorem e_203_36 : Df d 203 36 [l0, l1, l2, l3] st h nx = Df d 203 37 [l0, l1, l2, l3] (.int 0 :: st) h nx := D_iconst (ins_of mc_203 (pc := 36) (x := (.iconst 0, 1)) (by decide +kernel)) (by decide)
theorem e_203_37 : Df d 203 37 [.ref a, l1, l2, l3] st h nx = Df d 203 38 [.ref a, l1, l2, l3] (.ref a :: st) h nx := D_aload_n (ins_of mc_203 (pc := 37) (x := (.aload_n 0, 1)) (by decide +kernel)) rfl
theorem e_203_38 : Df d 203 38 [l0, l1, l2, l3] (.ref a :: st) h nx = (gF h a 9 28).bind fun v => Df d 203 41 [l0, l1, l2, l3] (v :: st) h nx := D_getfield (ins_of mc_203 (pc := 38) (x := (.getfield 60, 3)) (by decide +kernel)) mo_203 (by decide +kernel)
theorem e_203_41 : Df d 203 41 [l0, .int x, l2, l3] st h nx = Df d 203 42 [l0, .int x, l2, l3] (.int x :: st) h nx := D_iload_n (ins_of mc_203 (pc := 41) (x := (.iload_n 1, 1)) (by decide +kernel)) rfl
theorem e_203_42 : Df d 203 42 [l0, l1, l2, l3] (.int x :: .ref a :: st) h nx = (rX h a x).bind fun v => Df d 203 43 [l0, l1, l2, l3] (.int v :: st) h nx := D_iaload (ins_of mc_203 (pc := 42) (x := (.iaload, 1)) (by decide +kernel))
theorem e_203_43 : Df d 203 43 [l0, l1, l2, l3] st h nx = Df d 203 44 [l0, l1, l2, l3] (.int 1 :: st) h nx := D_iconst (ins_of mc_203 (pc := 43) (x := (.iconst 1, 1)) (by decide +kernel)) (by decide)
theorem e_203_44 : Df d 203 44 [l0, l1, l2, l3] (.int y :: .int x :: st) h nx = Df d 203 45 [l0, l1, l2, l3] (.int (x - y) :: st) h nx := D_isub (ins_of mc_203 (pc := 44) (x := (.isub, 1)) (by decide +kernel))
theorem e_203_45 : Df d 203 45 [l0, l1, l2, l3] [v2, v1, v0] h nx = cn d 203 48 [l0, l1, l2, l3] [] (Dn d 123 [v0, v1, v2] h nx) := D_static (k1 := 123) (kd := 1) (ins_of mc_203 (pc := 45) (x := (.invokestatic 76, 3)) (by decide +kernel)) mo_203 (by decide +kernel) (by decide) rfl (Nat.le_of_ble_eq_true rfl) rfl (Nat.le_of_ble_eq_true rfl) rfl
theorem e_203_48 : Df d 203 48 [l0, l1, l2, l3] (.int x :: st) h nx = if x = 0 then Df d 203 51 [l0, l1, l2, l3] st h nx else Df d 203 55 [l0, l1, l2, l3] st h nx := D_if_ne (ins_of mc_203 (pc := 48) (x := (.ifCond .ne 7, 3)) (by decide +kernel)) (by decide)
theorem e_203_51 : Df d 203 51 [l0, l1, l2, l3] st h nx = Df d 203 54 [l0, l1, l2, l3] (.int (-1000000013) :: st) h nx := D_ldc_w (ins_of mc_203 (pc := 51) (x := (.ldc_w 269, 3)) (by decide +kernel)) mo_203 (by decide +kernel)
theorem e_203_54 : Df d 203 54 [l0, l1, l2, l3] [.int x] h nx = some (some (.int x), h, nx) := D_ireturn (ins_of mc_203 (pc := 54) (x := (.ireturn, 1)) (by decide +kernel)) mr_203
theorem e_203_55 : Df d 203 55 [.ref a, l1, l2, l3] st h nx = Df d 203 56 [.ref a, l1, l2, l3] (.ref a :: st) h nx := D_aload_n (ins_of mc_203 (pc := 55) (x := (.aload_n 0, 1)) (by decide +kernel)) rfl
theorem e_203_56 : Df d 203 56 [l0, l1, l2, l3] (.ref a :: st) h nx = (gF h a 9 30).bind fun v => Df d 203 59 [l0, l1, l2, l3] (v :: st) h nx := D_getfield (ins_of mc_203 (pc := 56) (x := (.getfield 66, 3)) (by decide +kernel)) mo_203 (by decide +kernel)
theorem e_203_59 : Df d 203 59 [l0, l1, l2, l3] st h nx = Df d 203 61 [l0, l1, l2, l3] (.int 24 :: st) h nx := D_bipush (ins_of mc_203 (pc := 59) (x := (.bipush 24, 2)) (by decide +kernel)) (by decide)
theorem e_203_61 : Df d 203 61 [l0, .int x, l2, l3] st h nx = Df d 203 62 [l0, .int x, l2, l3] (.int x :: st) h nx := D_iload_n (ins_of mc_203 (pc := 61) (x := (.iload_n 1, 1)) (by decide +kernel)) rfl
theorem e_203_62 : Df d 203 62 [l0, l1, l2, l3] (.int y :: .int x :: st) h nx = Df d 203 63 [l0, l1, l2, l3] (.int (x * y) :: st) h nx := D_imul (ins_of mc_203 (pc := 62) (x := (.imul, 1)) (by decide +kernel))
theorem e_203_63 : Df d 203 63 [l0, l1, .int x, l3] st h nx = Df d 203 64 [l0, l1, .int x, l3] (.int x :: st) h nx := D_iload_n (ins_of mc_203 (pc := 63) (x := (.iload_n 2, 1)) (by decide +kernel)) rfl
theorem e_203_64 : Df d 203 64 [l0, l1, l2, l3] (.int y :: .int x :: st) h nx = Df d 203 65 [l0, l1, l2, l3] (.int (x + y) :: st) h nx := D_iadd (ins_of mc_203 (pc := 64) (x := (.iadd, 1)) (by decide +kernel))
theorem e_203_65 : Df d 203 65 [l0, l1, l2, l3] (.int x :: .ref a :: st) h nx = (rX h a x).bind fun v => Df d 203 66 [l0, l1, l2, l3] (.int v :: st) h nx := D_iaload (ins_of mc_203 (pc := 65) (x := (.iaload, 1)) (by decide +kernel))
theorem e_203_66 (hn : nr l3 = true) : Df d 203 66 [l0, l1, l2, l3] (.int x :: st) h nx = Df d 203 67 [l0, l1, l2, .int x] st h nx := D_istore_n (ins_of mc_203 (pc := 66) (x := (.istore_n 3, 1)) (by decide +kernel)) rfl hn rfl
theorem e_203_67 : Df d 203 67 [l0, l1, l2, .int x] st h nx = Df d 203 68 [l0, l1, l2, .int x] (.int x :: st) h nx := D_iload_n (ins_of mc_203 (pc := 67) (x := (.iload_n 3, 1)) (by decide +kernel)) rfl
theorem e_203_68 : Df d 203 68 [l0, l1, l2, l3] st h nx = Df d 203 70 [l0, l1, l2, l3] (.int (-1000000005) :: st) h nx := D_ldc (ins_of mc_203 (pc := 68) (x := (.ldc 75, 2)) (by decide +kernel)) mo_203 (by decide +kernel)
theorem e_203_70 : Df d 203 70 [l0, l1, l2, l3] (.int y :: .int x :: st) h nx = if x = y then Df d 203 73 [l0, l1, l2, l3] st h nx else Df d 203 78 [l0, l1, l2, l3] st h nx := D_icmp_ne (ins_of mc_203 (pc := 70) (x := (.if_icmp .ne 8, 3)) (by decide +kernel)) (by decide)
theorem e_203_73 : Df d 203 73 [l0, l1, l2, l3] st h nx = Df d 203 75 [l0, l1, l2, l3] (.int (-1000000012) :: st) h nx := D_ldc (ins_of mc_203 (pc := 73) (x := (.ldc 131, 2)) (by decide +kernel)) mo_203 (by decide +kernel)
theorem e_203_75 : Df d 203 75 [l0, l1, l2, l3] st h nx = Df d 203 79 [l0, l1, l2, l3] st h nx := D_goto (ins_of mc_203 (pc := 75) (x := (.goto 4, 3)) (by decide +kernel)) (by decide)
theorem e_203_78 : Df d 203 78 [l0, l1, l2, .int x] st h nx = Df d 203 79 [l0, l1, l2, .int x] (.int x :: st) h nx := D_iload_n (ins_of mc_203 (pc := 78) (x := (.iload_n 3, 1)) (by decide +kernel)) rfl
theorem e_203_79 : Df d 203 79 [l0, l1, l2, l3] [.int x] h nx = some (some (.int x), h, nx) := D_ireturn (ins_of mc_203 (pc := 79) (x := (.ireturn, 1)) (by decide +kernel)) mr_203
theorem mc_204 : mC 204 = prog_11_method_85_code := rfl
theorem mo_204 : mO 204 = 9 := rfl
theorem ml_204 : mL 204 = 3 := rfl
theorem mr_204 : mR 204 = (some .int) := rfl
theorem ma_204 : mA 204 = 2 := rfl
theorem e_204_0 : Df d 204 0 [l0, .int x, l2] st h nx = Df d 204 1 [l0, .int x, l2] (.int x :: st) h nx := D_iload_n (ins_of mc_204 (pc := 0) (x := (.iload_n 1, 1)) (by decide +kernel)) rfl
theorem e_204_1 : Df d 204 1 [l0, l1, l2] [v0] h nx = cn d 204 4 [l0, l1, l2] [] (Dn d 201 [v0] h nx) := D_static (k1 := 201) (kd := 1) (ins_of mc_204 (pc := 1) (x := (.invokestatic 272, 3)) (by decide +kernel)) mo_204 (by decide +kernel) (by decide) rfl (Nat.le_of_ble_eq_true rfl) rfl (Nat.le_of_ble_eq_true rfl) rfl
theorem e_204_4 : Df d 204 4 [l0, l1, l2] (.int x :: st) h nx = if x = 0 then Df d 204 7 [l0, l1, l2] st h nx else Df d 204 10 [l0, l1, l2] st h nx := D_if_ne (ins_of mc_204 (pc := 4) (x := (.ifCond .ne 6, 3)) (by decide +kernel)) (by decide)
theorem e_204_7 : Df d 204 7 [l0, l1, l2] st h nx = Df d 204 9 [l0, l1, l2] (.int (-1000000001) :: st) h nx := D_ldc (ins_of mc_204 (pc := 7) (x := (.ldc 88, 2)) (by decide +kernel)) mo_204 (by decide +kernel)
theorem e_204_9 : Df d 204 9 [l0, l1, l2] [.int x] h nx = some (some (.int x), h, nx) := D_ireturn (ins_of mc_204 (pc := 9) (x := (.ireturn, 1)) (by decide +kernel)) mr_204
theorem e_204_10 : Df d 204 10 [.ref a, l1, l2] st h nx = Df d 204 11 [.ref a, l1, l2] (.ref a :: st) h nx := D_aload_n (ins_of mc_204 (pc := 10) (x := (.aload_n 0, 1)) (by decide +kernel)) rfl
theorem e_204_11 : Df d 204 11 [l0, l1, l2] (.ref a :: st) h nx = (gF h a 9 27).bind fun v => Df d 204 14 [l0, l1, l2] (v :: st) h nx := D_getfield (ins_of mc_204 (pc := 11) (x := (.getfield 57, 3)) (by decide +kernel)) mo_204 (by decide +kernel)
theorem e_204_14 : Df d 204 14 [l0, .int x, l2] st h nx = Df d 204 15 [l0, .int x, l2] (.int x :: st) h nx := D_iload_n (ins_of mc_204 (pc := 14) (x := (.iload_n 1, 1)) (by decide +kernel)) rfl
theorem e_204_15 : Df d 204 15 [l0, l1, l2] (.int x :: .ref a :: st) h nx = (rX h a x).bind fun v => Df d 204 16 [l0, l1, l2] (.int v :: st) h nx := D_iaload (ins_of mc_204 (pc := 15) (x := (.iaload, 1)) (by decide +kernel))
theorem e_204_16 : Df d 204 16 [l0, l1, l2] (.int x :: st) h nx = if x = 0 then Df d 204 19 [l0, l1, l2] st h nx else Df d 204 22 [l0, l1, l2] st h nx := D_if_ne (ins_of mc_204 (pc := 16) (x := (.ifCond .ne 6, 3)) (by decide +kernel)) (by decide)
theorem e_204_19 : Df d 204 19 [l0, l1, l2] st h nx = Df d 204 21 [l0, l1, l2] (.int (-1000000011) :: st) h nx := D_ldc (ins_of mc_204 (pc := 19) (x := (.ldc 195, 2)) (by decide +kernel)) mo_204 (by decide +kernel)
theorem e_204_21 : Df d 204 21 [l0, l1, l2] [.int x] h nx = some (some (.int x), h, nx) := D_ireturn (ins_of mc_204 (pc := 21) (x := (.ireturn, 1)) (by decide +kernel)) mr_204
theorem e_204_22 : Df d 204 22 [.ref a, l1, l2] st h nx = Df d 204 23 [.ref a, l1, l2] (.ref a :: st) h nx := D_aload_n (ins_of mc_204 (pc := 22) (x := (.aload_n 0, 1)) (by decide +kernel)) rfl
theorem e_204_23 : Df d 204 23 [l0, l1, l2] (.ref a :: st) h nx = (gF h a 9 27).bind fun v => Df d 204 26 [l0, l1, l2] (v :: st) h nx := D_getfield (ins_of mc_204 (pc := 23) (x := (.getfield 57, 3)) (by decide +kernel)) mo_204 (by decide +kernel)
theorem e_204_26 : Df d 204 26 [l0, .int x, l2] st h nx = Df d 204 27 [l0, .int x, l2] (.int x :: st) h nx := D_iload_n (ins_of mc_204 (pc := 26) (x := (.iload_n 1, 1)) (by decide +kernel)) rfl
theorem e_204_27 : Df d 204 27 [l0, l1, l2] (.int x :: .ref a :: st) h nx = (rX h a x).bind fun v => Df d 204 28 [l0, l1, l2] (.int v :: st) h nx := D_iaload (ins_of mc_204 (pc := 27) (x := (.iaload, 1)) (by decide +kernel))
theorem e_204_28 : Df d 204 28 [l0, l1, l2] st h nx = Df d 204 29 [l0, l1, l2] (.int 3 :: st) h nx := D_iconst (ins_of mc_204 (pc := 28) (x := (.iconst 3, 1)) (by decide +kernel)) (by decide)
theorem e_204_29 : Df d 204 29 [l0, l1, l2] (.int y :: .int x :: st) h nx = if x = y then Df d 204 35 [l0, l1, l2] st h nx else Df d 204 32 [l0, l1, l2] st h nx := D_icmp_eq (ins_of mc_204 (pc := 29) (x := (.if_icmp .eq 6, 3)) (by decide +kernel)) (by decide)
theorem e_204_32 : Df d 204 32 [l0, l1, l2] st h nx = Df d 204 34 [l0, l1, l2] (.int (-1000000012) :: st) h nx := D_ldc (ins_of mc_204 (pc := 32) (x := (.ldc 131, 2)) (by decide +kernel)) mo_204 (by decide +kernel)
theorem e_204_34 : Df d 204 34 [l0, l1, l2] [.int x] h nx = some (some (.int x), h, nx) := D_ireturn (ins_of mc_204 (pc := 34) (x := (.ireturn, 1)) (by decide +kernel)) mr_204
theorem e_204_35 : Df d 204 35 [l0, l1, .int x] st h nx = Df d 204 36 [l0, l1, .int x] (.int x :: st) h nx := D_iload_n (ins_of mc_204 (pc := 35) (x := (.iload_n 2, 1)) (by decide +kernel)) rfl
theorem e_204_36 : Df d 204 36 [l0, l1, l2] (.int x :: st) h nx = if x = 0 then Df d 204 39 [l0, l1, l2] st h nx else Df d 204 45 [l0, l1, l2] st h nx := D_if_ne (ins_of mc_204 (pc := 36) (x := (.ifCond .ne 9, 3)) (by decide +kernel)) (by decide)
theorem e_204_39 : Df d 204 39 [l0, l1, l2] st h nx = Df d 204 42 [l0, l1, l2] (.int (-1000000002) :: st) h nx := D_ldc_w (ins_of mc_204 (pc := 39) (x := (.ldc_w 275, 3)) (by decide +kernel)) mo_204 (by decide +kernel)
theorem e_204_42 : Df d 204 42 [l0, l1, l2] st h nx = Df d 204 62 [l0, l1, l2] st h nx := D_goto (ins_of mc_204 (pc := 42) (x := (.goto 20, 3)) (by decide +kernel)) (by decide)
theorem e_204_45 : Df d 204 45 [l0, l1, .int x] st h nx = Df d 204 46 [l0, l1, .int x] (.int x :: st) h nx := D_iload_n (ins_of mc_204 (pc := 45) (x := (.iload_n 2, 1)) (by decide +kernel)) rfl
theorem e_204_46 : Df d 204 46 [l0, l1, l2] st h nx = Df d 204 47 [l0, l1, l2] (.int (-1) :: st) h nx := D_iconst (ins_of mc_204 (pc := 46) (x := (.iconst (-1), 1)) (by decide +kernel)) (by decide)
theorem e_204_47 : Df d 204 47 [l0, l1, l2] (.int y :: .int x :: st) h nx = if x = y then Df d 204 50 [l0, l1, l2] st h nx else Df d 204 54 [l0, l1, l2] st h nx := D_icmp_ne (ins_of mc_204 (pc := 47) (x := (.if_icmp .ne 7, 3)) (by decide +kernel)) (by decide)
theorem e_204_50 : Df d 204 50 [l0, l1, l2] st h nx = Df d 204 51 [l0, l1, l2] (.int 0 :: st) h nx := D_iconst (ins_of mc_204 (pc := 50) (x := (.iconst 0, 1)) (by decide +kernel)) (by decide)
theorem e_204_51 : Df d 204 51 [l0, l1, l2] st h nx = Df d 204 62 [l0, l1, l2] st h nx := D_goto (ins_of mc_204 (pc := 51) (x := (.goto 11, 3)) (by decide +kernel)) (by decide)
theorem e_204_54 : Df d 204 54 [.ref a, l1, l2] st h nx = Df d 204 55 [.ref a, l1, l2] (.ref a :: st) h nx := D_aload_n (ins_of mc_204 (pc := 54) (x := (.aload_n 0, 1)) (by decide +kernel)) rfl
theorem e_204_55 : Df d 204 55 [l0, l1, l2] (.ref a :: st) h nx = (gF h a 9 28).bind fun v => Df d 204 58 [l0, l1, l2] (v :: st) h nx := D_getfield (ins_of mc_204 (pc := 55) (x := (.getfield 60, 3)) (by decide +kernel)) mo_204 (by decide +kernel)
theorem e_204_58 : Df d 204 58 [l0, .int x, l2] st h nx = Df d 204 59 [l0, .int x, l2] (.int x :: st) h nx := D_iload_n (ins_of mc_204 (pc := 58) (x := (.iload_n 1, 1)) (by decide +kernel)) rfl
theorem e_204_59 : Df d 204 59 [l0, l1, l2] (.int x :: .ref a :: st) h nx = (rX h a x).bind fun v => Df d 204 60 [l0, l1, l2] (.int v :: st) h nx := D_iaload (ins_of mc_204 (pc := 59) (x := (.iaload, 1)) (by decide +kernel))
theorem e_204_60 : Df d 204 60 [l0, l1, .int x] st h nx = Df d 204 61 [l0, l1, .int x] (.int x :: st) h nx := D_iload_n (ins_of mc_204 (pc := 60) (x := (.iload_n 2, 1)) (by decide +kernel)) rfl
theorem e_204_61 : Df d 204 61 [l0, l1, l2] (.int y :: .int x :: st) h nx = if y = 0 then none else Df d 204 62 [l0, l1, l2] (.int (x - x / y * y) :: st) h nx := D_irem (ins_of mc_204 (pc := 61) (x := (.irem, 1)) (by decide +kernel))
theorem e_204_62 : Df d 204 62 [l0, l1, l2] [.int x] h nx = some (some (.int x), h, nx) := D_ireturn (ins_of mc_204 (pc := 62) (x := (.ireturn, 1)) (by decide +kernel)) mr_204
theorem mc_205 : mC 205 = prog_11_method_86_code := rfl
theorem mo_205 : mO 205 = 9 := rfl
theorem ml_205 : mL 205 = 2 := rfl
theorem mr_205 : mR 205 = (some .int) := rfl
theorem ma_205 : mA 205 = 1 := rfl
theorem e_205_0 : Df d 205 0 [.ref a, l1] st h nx = Df d 205 1 [.ref a, l1] (.ref a :: st) h nx := D_aload_n (ins_of mc_205 (pc := 0) (x := (.aload_n 0, 1)) (by decide +kernel)) rfl
theorem e_205_1 : Df d 205 1 [l0, l1] (.ref a :: st) h nx = (gF h a 9 33).bind fun v => Df d 205 4 [l0, l1] (v :: st) h nx := D_getfield (ins_of mc_205 (pc := 1) (x := (.getfield 276, 3)) (by decide +kernel)) mo_205 (by decide +kernel)
theorem e_205_4 : Df d 205 4 [l0, l1] st h nx = Df d 205 6 [l0, l1] (.int 60 :: st) h nx := D_bipush (ins_of mc_205 (pc := 4) (x := (.bipush 60, 2)) (by decide +kernel)) (by decide)
theorem e_205_6 : Df d 205 6 [l0, l1] (.int y :: .int x :: st) h nx = if x = y then Df d 205 9 [l0, l1] st h nx else Df d 205 12 [l0, l1] st h nx := D_icmp_ne (ins_of mc_205 (pc := 6) (x := (.if_icmp .ne 6, 3)) (by decide +kernel)) (by decide)
theorem e_205_9 : Df d 205 9 [l0, l1] st h nx = Df d 205 11 [l0, l1] (.int (-1000000003) :: st) h nx := D_ldc (ins_of mc_205 (pc := 9) (x := (.ldc 89, 2)) (by decide +kernel)) mo_205 (by decide +kernel)
theorem e_205_11 : Df d 205 11 [l0, l1] [.int x] h nx = some (some (.int x), h, nx) := D_ireturn (ins_of mc_205 (pc := 11) (x := (.ireturn, 1)) (by decide +kernel)) mr_205
theorem e_205_12 : Df d 205 12 [.ref a, l1] st h nx = Df d 205 13 [.ref a, l1] (.ref a :: st) h nx := D_aload_n (ins_of mc_205 (pc := 12) (x := (.aload_n 0, 1)) (by decide +kernel)) rfl
theorem e_205_13 : Df d 205 13 [l0, l1] (.ref a :: st) h nx = (gF h a 9 32).bind fun v => Df d 205 16 [l0, l1] (v :: st) h nx := D_getfield (ins_of mc_205 (pc := 13) (x := (.getfield 72, 3)) (by decide +kernel)) mo_205 (by decide +kernel)
theorem e_205_16 : Df d 205 16 [.ref a, l1] st h nx = Df d 205 17 [.ref a, l1] (.ref a :: st) h nx := D_aload_n (ins_of mc_205 (pc := 16) (x := (.aload_n 0, 1)) (by decide +kernel)) rfl
theorem e_205_17 : Df d 205 17 [l0, l1] (.ref a :: st) h nx = (gF h a 9 33).bind fun v => Df d 205 20 [l0, l1] (v :: st) h nx := D_getfield (ins_of mc_205 (pc := 17) (x := (.getfield 276, 3)) (by decide +kernel)) mo_205 (by decide +kernel)
theorem e_205_20 : Df d 205 20 [l0, .int x] st h nx = Df d 205 21 [l0, .int x] (.int x :: st) h nx := D_iload_n (ins_of mc_205 (pc := 20) (x := (.iload_n 1, 1)) (by decide +kernel)) rfl
theorem e_205_21 : Df d 205 21 [l0, l1] (.int y :: .int x :: .ref a :: st) h nx = (wI h a x 0 y).bind fun h => Df d 205 22 [l0, l1] st h nx := D_iastore (ins_of mc_205 (pc := 21) (x := (.iastore, 1)) (by decide +kernel))
theorem e_205_22 : Df d 205 22 [.ref a, l1] st h nx = Df d 205 23 [.ref a, l1] (.ref a :: st) h nx := D_aload_n (ins_of mc_205 (pc := 22) (x := (.aload_n 0, 1)) (by decide +kernel)) rfl
theorem e_205_23 (hv : v0.category = 1) : Df d 205 23 [l0, l1] (v0 :: st) h nx = Df d 205 24 [l0, l1] (v0 :: v0 :: st) h nx := D_dup (ins_of mc_205 (pc := 23) (x := (.dup, 1)) (by decide +kernel)) hv
theorem e_205_24 : Df d 205 24 [l0, l1] (.ref a :: st) h nx = (gF h a 9 33).bind fun v => Df d 205 27 [l0, l1] (v :: st) h nx := D_getfield (ins_of mc_205 (pc := 24) (x := (.getfield 276, 3)) (by decide +kernel)) mo_205 (by decide +kernel)
theorem e_205_27 : Df d 205 27 [l0, l1] st h nx = Df d 205 28 [l0, l1] (.int 1 :: st) h nx := D_iconst (ins_of mc_205 (pc := 27) (x := (.iconst 1, 1)) (by decide +kernel)) (by decide)
theorem e_205_28 : Df d 205 28 [l0, l1] (.int y :: .int x :: st) h nx = Df d 205 29 [l0, l1] (.int (x + y) :: st) h nx := D_iadd (ins_of mc_205 (pc := 28) (x := (.iadd, 1)) (by decide +kernel))
theorem e_205_29 : Df d 205 29 [l0, l1] (.int x :: .ref a :: st) h nx = (pF h a 9 33 (.int x)).bind fun h => Df d 205 32 [l0, l1] st h nx := D_putfield (ins_of mc_205 (pc := 29) (x := (.putfield 276, 3)) (by decide +kernel)) mo_205 (by decide +kernel) rfl (Or.inl rfl)
theorem e_205_32 : Df d 205 32 [.ref a, l1] st h nx = Df d 205 33 [.ref a, l1] (.ref a :: st) h nx := D_aload_n (ins_of mc_205 (pc := 32) (x := (.aload_n 0, 1)) (by decide +kernel)) rfl
theorem e_205_33 : Df d 205 33 [l0, l1] (.ref a :: st) h nx = (gF h a 9 33).bind fun v => Df d 205 36 [l0, l1] (v :: st) h nx := D_getfield (ins_of mc_205 (pc := 33) (x := (.getfield 276, 3)) (by decide +kernel)) mo_205 (by decide +kernel)
theorem e_205_36 : Df d 205 36 [l0, l1] [.int x] h nx = some (some (.int x), h, nx) := D_ireturn (ins_of mc_205 (pc := 36) (x := (.ireturn, 1)) (by decide +kernel)) mr_205
theorem mc_206 : mC 206 = prog_11_method_87_code := rfl
theorem mo_206 : mO 206 = 9 := rfl
theorem ml_206 : mL 206 = 6 := rfl
theorem mr_206 : mR 206 = (some .int) := rfl
theorem ma_206 : mA 206 = 1 := rfl
theorem e_206_0 : Df d 206 0 [.ref a, l1, l2, l3, l4, l5] st h nx = Df d 206 1 [.ref a, l1, l2, l3, l4, l5] (.ref a :: st) h nx := D_aload_n (ins_of mc_206 (pc := 0) (x := (.aload_n 0, 1)) (by decide +kernel)) rfl
theorem e_206_1 : Df d 206 1 [l0, l1, l2, l3, l4, l5] (.ref a :: st) h nx = (gF h a 9 33).bind fun v => Df d 206 4 [l0, l1, l2, l3, l4, l5] (v :: st) h nx := D_getfield (ins_of mc_206 (pc := 1) (x := (.getfield 276, 3)) (by decide +kernel)) mo_206 (by decide +kernel)
theorem e_206_4 (hn : nr l2 = true) : Df d 206 4 [l0, l1, l2, l3, l4, l5] (.int x :: st) h nx = Df d 206 5 [l0, l1, .int x, l3, l4, l5] st h nx := D_istore_n (ins_of mc_206 (pc := 4) (x := (.istore_n 2, 1)) (by decide +kernel)) rfl hn rfl
theorem e_206_5 : Df d 206 5 [.ref a, l1, l2, l3, l4, l5] st h nx = Df d 206 6 [.ref a, l1, l2, l3, l4, l5] (.ref a :: st) h nx := D_aload_n (ins_of mc_206 (pc := 5) (x := (.aload_n 0, 1)) (by decide +kernel)) rfl
theorem e_206_6 : Df d 206 6 [l0, l1, l2, l3, l4, l5] st h nx = Df d 206 7 [l0, l1, l2, l3, l4, l5] (.int 0 :: st) h nx := D_iconst (ins_of mc_206 (pc := 6) (x := (.iconst 0, 1)) (by decide +kernel)) (by decide)
theorem e_206_7 : Df d 206 7 [l0, l1, l2, l3, l4, l5] (.int x :: .ref a :: st) h nx = (pF h a 9 33 (.int x)).bind fun h => Df d 206 10 [l0, l1, l2, l3, l4, l5] st h nx := D_putfield (ins_of mc_206 (pc := 7) (x := (.putfield 276, 3)) (by decide +kernel)) mo_206 (by decide +kernel) rfl (Or.inl rfl)
theorem e_206_10 : Df d 206 10 [l0, .int x, l2, l3, l4, l5] st h nx = Df d 206 11 [l0, .int x, l2, l3, l4, l5] (.int x :: st) h nx := D_iload_n (ins_of mc_206 (pc := 10) (x := (.iload_n 1, 1)) (by decide +kernel)) rfl
theorem e_206_11 : Df d 206 11 [l0, l1, l2, l3, l4, l5] st h nx = Df d 206 12 [l0, l1, l2, l3, l4, l5] (.int 1 :: st) h nx := D_iconst (ins_of mc_206 (pc := 11) (x := (.iconst 1, 1)) (by decide +kernel)) (by decide)
theorem e_206_12 : Df d 206 12 [l0, l1, l2, l3, l4, l5] st h nx = Df d 206 14 [l0, l1, l2, l3, l4, l5] (.int 30 :: st) h nx := D_bipush (ins_of mc_206 (pc := 12) (x := (.bipush 30, 2)) (by decide +kernel)) (by decide)
theorem e_206_14 : Df d 206 14 [l0, l1, l2, l3, l4, l5] [v2, v1, v0] h nx = cn d 206 17 [l0, l1, l2, l3, l4, l5] [] (Dn d 123 [v0, v1, v2] h nx) := D_static (k1 := 123) (kd := 1) (ins_of mc_206 (pc := 14) (x := (.invokestatic 76, 3)) (by decide +kernel)) mo_206 (by decide +kernel) (by decide) rfl (Nat.le_of_ble_eq_true rfl) rfl (Nat.le_of_ble_eq_true rfl) rfl
theorem e_206_17 : Df d 206 17 [l0, l1, l2, l3, l4, l5] (.int x :: st) h nx = if x = 0 then Df d 206 20 [l0, l1, l2, l3, l4, l5] st h nx else Df d 206 23 [l0, l1, l2, l3, l4, l5] st h nx := D_if_ne (ins_of mc_206 (pc := 17) (x := (.ifCond .ne 6, 3)) (by decide +kernel)) (by decide)
theorem e_206_20 : Df d 206 20 [l0, l1, l2, l3, l4, l5] st h nx = Df d 206 22 [l0, l1, l2, l3, l4, l5] (.int (-1000000001) :: st) h nx := D_ldc (ins_of mc_206 (pc := 20) (x := (.ldc 88, 2)) (by decide +kernel)) mo_206 (by decide +kernel)
theorem e_206_22 : Df d 206 22 [l0, l1, l2, l3, l4, l5] [.int x] h nx = some (some (.int x), h, nx) := D_ireturn (ins_of mc_206 (pc := 22) (x := (.ireturn, 1)) (by decide +kernel)) mr_206
theorem e_206_23 : Df d 206 23 [.ref a, l1, l2, l3, l4, l5] st h nx = Df d 206 24 [.ref a, l1, l2, l3, l4, l5] (.ref a :: st) h nx := D_aload_n (ins_of mc_206 (pc := 23) (x := (.aload_n 0, 1)) (by decide +kernel)) rfl
theorem e_206_24 : Df d 206 24 [l0, l1, l2, l3, l4, l5] (.ref a :: st) h nx = (gF h a 9 3).bind fun v => Df d 206 27 [l0, l1, l2, l3, l4, l5] (v :: st) h nx := D_getfield (ins_of mc_206 (pc := 24) (x := (.getfield 279, 3)) (by decide +kernel)) mo_206 (by decide +kernel)
theorem e_206_27 : Df d 206 27 [l0, l1, l2, l3, l4, l5] (.int x :: st) h nx = if x = 0 then Df d 206 30 [l0, l1, l2, l3, l4, l5] st h nx else Df d 206 34 [l0, l1, l2, l3, l4, l5] st h nx := D_if_ne (ins_of mc_206 (pc := 27) (x := (.ifCond .ne 7, 3)) (by decide +kernel)) (by decide)
theorem e_206_30 : Df d 206 30 [l0, l1, l2, l3, l4, l5] st h nx = Df d 206 33 [l0, l1, l2, l3, l4, l5] (.int (-1000000002) :: st) h nx := D_ldc_w (ins_of mc_206 (pc := 30) (x := (.ldc_w 275, 3)) (by decide +kernel)) mo_206 (by decide +kernel)
theorem e_206_33 : Df d 206 33 [l0, l1, l2, l3, l4, l5] [.int x] h nx = some (some (.int x), h, nx) := D_ireturn (ins_of mc_206 (pc := 33) (x := (.ireturn, 1)) (by decide +kernel)) mr_206
theorem e_206_34 : Df d 206 34 [.ref a, l1, l2, l3, l4, l5] st h nx = Df d 206 35 [.ref a, l1, l2, l3, l4, l5] (.ref a :: st) h nx := D_aload_n (ins_of mc_206 (pc := 34) (x := (.aload_n 0, 1)) (by decide +kernel)) rfl
theorem e_206_35 : Df d 206 35 [l0, l1, l2, l3, l4, l5] (.ref a :: st) h nx = (gF h a 9 0).bind fun v => Df d 206 38 [l0, l1, l2, l3, l4, l5] (v :: st) h nx := D_getfield (ins_of mc_206 (pc := 35) (x := (.getfield 9, 3)) (by decide +kernel)) mo_206 (by decide +kernel)
theorem e_206_38 : Df d 206 38 [.ref a, l1, l2, l3, l4, l5] st h nx = Df d 206 39 [.ref a, l1, l2, l3, l4, l5] (.ref a :: st) h nx := D_aload_n (ins_of mc_206 (pc := 38) (x := (.aload_n 0, 1)) (by decide +kernel)) rfl
theorem e_206_39 : Df d 206 39 [l0, l1, l2, l3, l4, l5] (.ref a :: st) h nx = (gF h a 9 2).bind fun v => Df d 206 42 [l0, l1, l2, l3, l4, l5] (v :: st) h nx := D_getfield (ins_of mc_206 (pc := 39) (x := (.getfield 16, 3)) (by decide +kernel)) mo_206 (by decide +kernel)
theorem e_206_42 : Df d 206 42 [l0, l1, l2, l3, l4, l5] [v1, v0] h nx = cn d 206 45 [l0, l1, l2, l3, l4, l5] [] (Dn d 207 [v0, v1] h nx) := D_static (k1 := 207) (kd := 1) (ins_of mc_206 (pc := 42) (x := (.invokestatic 282, 3)) (by decide +kernel)) mo_206 (by decide +kernel) (by decide) rfl (Nat.le_of_ble_eq_true rfl) rfl (Nat.le_of_ble_eq_true rfl) rfl
theorem e_206_45 : Df d 206 45 [.ref a, l1, l2, l3, l4, l5] st h nx = Df d 206 46 [.ref a, l1, l2, l3, l4, l5] (.ref a :: st) h nx := D_aload_n (ins_of mc_206 (pc := 45) (x := (.aload_n 0, 1)) (by decide +kernel)) rfl
theorem e_206_46 : Df d 206 46 [l0, l1, l2, l3, l4, l5] (.ref a :: st) h nx = (gF h a 9 1).bind fun v => Df d 206 49 [l0, l1, l2, l3, l4, l5] (v :: st) h nx := D_getfield (ins_of mc_206 (pc := 46) (x := (.getfield 13, 3)) (by decide +kernel)) mo_206 (by decide +kernel)
theorem e_206_49 : Df d 206 49 [.ref a, l1, l2, l3, l4, l5] st h nx = Df d 206 50 [.ref a, l1, l2, l3, l4, l5] (.ref a :: st) h nx := D_aload_n (ins_of mc_206 (pc := 49) (x := (.aload_n 0, 1)) (by decide +kernel)) rfl
theorem e_206_50 : Df d 206 50 [l0, l1, l2, l3, l4, l5] (.ref a :: st) h nx = (gF h a 9 0).bind fun v => Df d 206 53 [l0, l1, l2, l3, l4, l5] (v :: st) h nx := D_getfield (ins_of mc_206 (pc := 50) (x := (.getfield 9, 3)) (by decide +kernel)) mo_206 (by decide +kernel)
theorem e_206_53 : Df d 206 53 [l0, l1, l2, l3, l4, l5] [v1, v0] h nx = cn d 206 56 [l0, l1, l2, l3, l4, l5] [] (Dn d 207 [v0, v1] h nx) := D_static (k1 := 207) (kd := 1) (ins_of mc_206 (pc := 53) (x := (.invokestatic 282, 3)) (by decide +kernel)) mo_206 (by decide +kernel) (by decide) rfl (Nat.le_of_ble_eq_true rfl) rfl (Nat.le_of_ble_eq_true rfl) rfl
theorem e_206_56 : Df d 206 56 [l0, l1, l2, l3, l4, l5] st h nx = Df d 206 57 [l0, l1, l2, l3, l4, l5] (.int 2 :: st) h nx := D_iconst (ins_of mc_206 (pc := 56) (x := (.iconst 2, 1)) (by decide +kernel)) (by decide)
theorem e_206_57 : Df d 206 57 [l0, l1, l2, l3, l4, l5] st h nx = Df d 206 60 [l0, l1, l2, l3, l4, l5] (.int 9999 :: st) h nx := D_sipush (ins_of mc_206 (pc := 57) (x := (.sipush 9999, 3)) (by decide +kernel)) (by decide)
theorem e_206_60 : Df d 206 60 [.ref a, l1, l2, l3, l4, l5] st h nx = Df d 206 61 [.ref a, l1, l2, l3, l4, l5] (.ref a :: st) h nx := D_aload_n (ins_of mc_206 (pc := 60) (x := (.aload_n 0, 1)) (by decide +kernel)) rfl
theorem e_206_61 : Df d 206 61 [l0, l1, l2, l3, l4, l5] (.ref a :: st) h nx = (gF h a 9 0).bind fun v => Df d 206 64 [l0, l1, l2, l3, l4, l5] (v :: st) h nx := D_getfield (ins_of mc_206 (pc := 61) (x := (.getfield 9, 3)) (by decide +kernel)) mo_206 (by decide +kernel)
theorem e_206_64 : Df d 206 64 [l0, l1, l2, l3, l4, l5] st h nx = Df d 206 65 [l0, l1, l2, l3, l4, l5] (.int 2 :: st) h nx := D_iconst (ins_of mc_206 (pc := 64) (x := (.iconst 2, 1)) (by decide +kernel)) (by decide)
theorem e_206_65 : Df d 206 65 [l0, l1, l2, l3, l4, l5] (.int x :: .ref a :: st) h nx = (rX h a x).bind fun v => Df d 206 66 [l0, l1, l2, l3, l4, l5] (.int v :: st) h nx := D_iaload (ins_of mc_206 (pc := 65) (x := (.iaload, 1)) (by decide +kernel))
theorem e_206_66 : Df d 206 66 [l0, l1, l2, l3, l4, l5] (.int y :: .int x :: st) h nx = Df d 206 67 [l0, l1, l2, l3, l4, l5] (.int (x - y) :: st) h nx := D_isub (ins_of mc_206 (pc := 66) (x := (.isub, 1)) (by decide +kernel))
theorem e_206_67 : Df d 206 67 [l0, l1, l2, l3, l4, l5] st h nx = Df d 206 68 [l0, l1, l2, l3, l4, l5] (.int 0 :: st) h nx := D_iconst (ins_of mc_206 (pc := 67) (x := (.iconst 0, 1)) (by decide +kernel)) (by decide)
theorem e_206_68 : Df d 206 68 [l0, .int x, l2, l3, l4, l5] st h nx = Df d 206 69 [l0, .int x, l2, l3, l4, l5] (.int x :: st) h nx := D_iload_n (ins_of mc_206 (pc := 68) (x := (.iload_n 1, 1)) (by decide +kernel)) rfl
theorem e_206_69 : Df d 206 69 [l0, l1, l2, l3, l4, l5] [v2, v1, v0, s0] h nx = cn d 206 72 [l0, l1, l2, l3, l4, l5] [s0] (Dn d 133 [v0, v1, v2] h nx) := D_static (k1 := 133) (kd := 1) (ins_of mc_206 (pc := 69) (x := (.invokestatic 101, 3)) (by decide +kernel)) mo_206 (by decide +kernel) (by decide) rfl (Nat.le_of_ble_eq_true rfl) rfl (Nat.le_of_ble_eq_true rfl) rfl
theorem e_206_72 : Df d 206 72 [l0, l1, l2, l3, l4, l5] (.int y :: .int x :: st) h nx = Df d 206 73 [l0, l1, l2, l3, l4, l5] (.int (x * y) :: st) h nx := D_imul (ins_of mc_206 (pc := 72) (x := (.imul, 1)) (by decide +kernel))
theorem e_206_73 (hn : nr l3 = true) : Df d 206 73 [l0, l1, l2, l3, l4, l5] (.int x :: st) h nx = Df d 206 74 [l0, l1, l2, .int x, l4, l5] st h nx := D_istore_n (ins_of mc_206 (pc := 73) (x := (.istore_n 3, 1)) (by decide +kernel)) rfl hn rfl
theorem e_206_74 : Df d 206 74 [l0, l1, l2, l3, l4, l5] st h nx = Df d 206 75 [l0, l1, l2, l3, l4, l5] (.int 0 :: st) h nx := D_iconst (ins_of mc_206 (pc := 74) (x := (.iconst 0, 1)) (by decide +kernel)) (by decide)
theorem e_206_75 (hn : nr l4 = true) : Df d 206 75 [l0, l1, l2, l3, l4, l5] (.int x :: st) h nx = Df d 206 77 [l0, l1, l2, l3, .int x, l5] st h nx := D_istore (ins_of mc_206 (pc := 75) (x := (.istore 4, 2)) (by decide +kernel)) rfl hn rfl
theorem e_206_77 : Df d 206 77 [l0, l1, l2, l3, l4, l5] st h nx = Df d 206 78 [l0, l1, l2, l3, l4, l5] (.int 0 :: st) h nx := D_iconst (ins_of mc_206 (pc := 77) (x := (.iconst 0, 1)) (by decide +kernel)) (by decide)
theorem e_206_78 (hn : nr l5 = true) : Df d 206 78 [l0, l1, l2, l3, l4, l5] (.int x :: st) h nx = Df d 206 80 [l0, l1, l2, l3, l4, .int x] st h nx := D_istore (ins_of mc_206 (pc := 78) (x := (.istore 5, 2)) (by decide +kernel)) rfl hn rfl
theorem e_206_80 : Df d 206 80 [l0, l1, l2, l3, l4, l5] st h nx = Df d 206 81 [l0, l1, l2, l3, l4, l5] (.int 2 :: st) h nx := D_iconst (ins_of mc_206 (pc := 80) (x := (.iconst 2, 1)) (by decide +kernel)) (by decide)
theorem e_206_81 : Df d 206 81 [l0, l1, l2, l3, l4, .int x] st h nx = Df d 206 83 [l0, l1, l2, l3, l4, .int x] (.int x :: st) h nx := D_iload (ins_of mc_206 (pc := 81) (x := (.iload 5, 2)) (by decide +kernel)) rfl
theorem e_206_83 : Df d 206 83 [l0, l1, l2, l3, l4, l5] (.int y :: .int x :: st) h nx = Df d 206 84 [l0, l1, l2, l3, l4, l5] (.int (x * y) :: st) h nx := D_imul (ins_of mc_206 (pc := 83) (x := (.imul, 1)) (by decide +kernel))
theorem e_206_84 : Df d 206 84 [l0, l1, l2, .int x, l4, l5] st h nx = Df d 206 85 [l0, l1, l2, .int x, l4, l5] (.int x :: st) h nx := D_iload_n (ins_of mc_206 (pc := 84) (x := (.iload_n 3, 1)) (by decide +kernel)) rfl
theorem e_206_85 : Df d 206 85 [l0, l1, l2, l3, l4, l5] (.int y :: .int x :: st) h nx = if y ≤ x then Df d 206 181 [l0, l1, l2, l3, l4, l5] st h nx else Df d 206 88 [l0, l1, l2, l3, l4, l5] st h nx := D_icmp_ge (ins_of mc_206 (pc := 85) (x := (.if_icmp .ge 96, 3)) (by decide +kernel)) (by decide)
theorem e_206_88 : Df d 206 88 [l0, l1, l2, l3, .int x, l5] st h nx = Df d 206 90 [l0, l1, l2, l3, .int x, l5] (.int x :: st) h nx := D_iload (ins_of mc_206 (pc := 88) (x := (.iload 4, 2)) (by decide +kernel)) rfl
theorem e_206_90 : Df d 206 90 [l0, l1, l2, l3, l4, l5] st h nx = Df d 206 91 [l0, l1, l2, l3, l4, l5] (.int 2 :: st) h nx := D_iconst (ins_of mc_206 (pc := 90) (x := (.iconst 2, 1)) (by decide +kernel)) (by decide)
theorem e_206_91 : Df d 206 91 [l0, l1, l2, l3, l4, .int x] st h nx = Df d 206 93 [l0, l1, l2, l3, l4, .int x] (.int x :: st) h nx := D_iload (ins_of mc_206 (pc := 91) (x := (.iload 5, 2)) (by decide +kernel)) rfl
theorem e_206_93 : Df d 206 93 [l0, l1, l2, l3, l4, l5] (.int y :: .int x :: st) h nx = Df d 206 94 [l0, l1, l2, l3, l4, l5] (.int (x * y) :: st) h nx := D_imul (ins_of mc_206 (pc := 93) (x := (.imul, 1)) (by decide +kernel))
theorem e_206_94 : Df d 206 94 [l0, l1, l2, l3, l4, l5] (.int y :: .int x :: st) h nx = if x = y then Df d 206 97 [l0, l1, l2, l3, l4, l5] st h nx else Df d 206 181 [l0, l1, l2, l3, l4, l5] st h nx := D_icmp_ne (ins_of mc_206 (pc := 94) (x := (.if_icmp .ne 87, 3)) (by decide +kernel)) (by decide)
theorem e_206_97 : Df d 206 97 [.ref a, l1, l2, l3, l4, l5] st h nx = Df d 206 98 [.ref a, l1, l2, l3, l4, l5] (.ref a :: st) h nx := D_aload_n (ins_of mc_206 (pc := 97) (x := (.aload_n 0, 1)) (by decide +kernel)) rfl
theorem e_206_98 : Df d 206 98 [l0, l1, l2, l3, l4, l5] [.ref a] h nx = if ck h a 9 = true then cn d 206 101 [l0, l1, l2, l3, l4, l5] [] (Dn d 152 [.ref a] h nx) else none := D_virtual (k1 := 152) (ins_of mc_206 (pc := 98) (x := (.invokevirtual 168, 3)) (by decide +kernel)) mo_206 (by decide +kernel) (by decide) rfl rfl (by decide) rfl (Nat.le_of_ble_eq_true rfl) rfl
theorem e_206_101 : Df d 206 101 [l0, l1, l2, l3, .int x, l5] st h nx = Df d 206 103 [l0, l1, l2, l3, .int x, l5] (.int x :: st) h nx := D_iload (ins_of mc_206 (pc := 101) (x := (.iload 4, 2)) (by decide +kernel)) rfl
theorem e_206_103 : Df d 206 103 [l0, l1, l2, l3, .int x, l5] st h nx = Df d 206 105 [l0, l1, l2, l3, .int x, l5] (.int x :: st) h nx := D_iload (ins_of mc_206 (pc := 103) (x := (.iload 4, 2)) (by decide +kernel)) rfl
theorem e_206_105 : Df d 206 105 [l0, l1, .int x, l3, l4, l5] st h nx = Df d 206 106 [l0, l1, .int x, l3, l4, l5] (.int x :: st) h nx := D_iload_n (ins_of mc_206 (pc := 105) (x := (.iload_n 2, 1)) (by decide +kernel)) rfl
theorem e_206_106 : Df d 206 106 [l0, l1, l2, l3, l4, l5] (.int y :: .int x :: st) h nx = if y ≤ x then Df d 206 130 [l0, l1, l2, l3, l4, l5] st h nx else Df d 206 109 [l0, l1, l2, l3, l4, l5] st h nx := D_icmp_ge (ins_of mc_206 (pc := 106) (x := (.if_icmp .ge 24, 3)) (by decide +kernel)) (by decide)
theorem e_206_109 : Df d 206 109 [.ref a, l1, l2, l3, l4, l5] st h nx = Df d 206 110 [.ref a, l1, l2, l3, l4, l5] (.ref a :: st) h nx := D_aload_n (ins_of mc_206 (pc := 109) (x := (.aload_n 0, 1)) (by decide +kernel)) rfl
theorem e_206_110 : Df d 206 110 [l0, l1, l2, l3, l4, l5] (.ref a :: st) h nx = (gF h a 9 32).bind fun v => Df d 206 113 [l0, l1, l2, l3, l4, l5] (v :: st) h nx := D_getfield (ins_of mc_206 (pc := 110) (x := (.getfield 72, 3)) (by decide +kernel)) mo_206 (by decide +kernel)
theorem e_206_113 : Df d 206 113 [l0, l1, l2, l3, .int x, l5] st h nx = Df d 206 115 [l0, l1, l2, l3, .int x, l5] (.int x :: st) h nx := D_iload (ins_of mc_206 (pc := 113) (x := (.iload 4, 2)) (by decide +kernel)) rfl
theorem e_206_115 : Df d 206 115 [l0, l1, l2, l3, l4, l5] (.int x :: .ref a :: st) h nx = (rX h a x).bind fun v => Df d 206 116 [l0, l1, l2, l3, l4, l5] (.int v :: st) h nx := D_iaload (ins_of mc_206 (pc := 115) (x := (.iaload, 1)) (by decide +kernel))
theorem e_206_116 : Df d 206 116 [.ref a, l1, l2, l3, l4, l5] st h nx = Df d 206 117 [.ref a, l1, l2, l3, l4, l5] (.ref a :: st) h nx := D_aload_n (ins_of mc_206 (pc := 116) (x := (.aload_n 0, 1)) (by decide +kernel)) rfl
theorem e_206_117 : Df d 206 117 [l0, l1, l2, l3, l4, l5] (.ref a :: st) h nx = (gF h a 9 0).bind fun v => Df d 206 120 [l0, l1, l2, l3, l4, l5] (v :: st) h nx := D_getfield (ins_of mc_206 (pc := 117) (x := (.getfield 9, 3)) (by decide +kernel)) mo_206 (by decide +kernel)
theorem e_206_120 : Df d 206 120 [l0, l1, l2, l3, l4, l5] st h nx = Df d 206 122 [l0, l1, l2, l3, l4, l5] (.int 7 :: st) h nx := D_bipush (ins_of mc_206 (pc := 120) (x := (.bipush 7, 2)) (by decide +kernel)) (by decide)
theorem e_206_122 : Df d 206 122 [l0, l1, l2, l3, l4, l5] (.int x :: .ref a :: st) h nx = (rX h a x).bind fun v => Df d 206 123 [l0, l1, l2, l3, l4, l5] (.int v :: st) h nx := D_iaload (ins_of mc_206 (pc := 122) (x := (.iaload, 1)) (by decide +kernel))
theorem e_206_123 : Df d 206 123 [l0, l1, l2, l3, l4, l5] (.int y :: .int x :: st) h nx = if x = y then Df d 206 126 [l0, l1, l2, l3, l4, l5] st h nx else Df d 206 130 [l0, l1, l2, l3, l4, l5] st h nx := D_icmp_ne (ins_of mc_206 (pc := 123) (x := (.if_icmp .ne 7, 3)) (by decide +kernel)) (by decide)
theorem e_206_126 : Df d 206 126 [l0, l1, l2, l3, l4, l5] st h nx = Df d 206 127 [l0, l1, l2, l3, l4, l5] (.int 1 :: st) h nx := D_iconst (ins_of mc_206 (pc := 126) (x := (.iconst 1, 1)) (by decide +kernel)) (by decide)
theorem e_206_127 : Df d 206 127 [l0, l1, l2, l3, l4, l5] st h nx = Df d 206 131 [l0, l1, l2, l3, l4, l5] st h nx := D_goto (ins_of mc_206 (pc := 127) (x := (.goto 4, 3)) (by decide +kernel)) (by decide)
theorem e_206_130 : Df d 206 130 [l0, l1, l2, l3, l4, l5] st h nx = Df d 206 131 [l0, l1, l2, l3, l4, l5] (.int 0 :: st) h nx := D_iconst (ins_of mc_206 (pc := 130) (x := (.iconst 0, 1)) (by decide +kernel)) (by decide)
theorem e_206_131 : Df d 206 131 [l0, l1, l2, l3, l4, l5] (.int y :: .int x :: st) h nx = Df d 206 132 [l0, l1, l2, l3, l4, l5] (.int (x + y) :: st) h nx := D_iadd (ins_of mc_206 (pc := 131) (x := (.iadd, 1)) (by decide +kernel))
theorem e_206_132 (hn : nr l4 = true) : Df d 206 132 [l0, l1, l2, l3, l4, l5] (.int x :: st) h nx = Df d 206 134 [l0, l1, l2, l3, .int x, l5] st h nx := D_istore (ins_of mc_206 (pc := 132) (x := (.istore 4, 2)) (by decide +kernel)) rfl hn rfl
theorem e_206_134 : Df d 206 134 [l0, l1, l2, l3, .int x, l5] st h nx = Df d 206 136 [l0, l1, l2, l3, .int x, l5] (.int x :: st) h nx := D_iload (ins_of mc_206 (pc := 134) (x := (.iload 4, 2)) (by decide +kernel)) rfl
theorem e_206_136 : Df d 206 136 [l0, l1, l2, l3, .int x, l5] st h nx = Df d 206 138 [l0, l1, l2, l3, .int x, l5] (.int x :: st) h nx := D_iload (ins_of mc_206 (pc := 136) (x := (.iload 4, 2)) (by decide +kernel)) rfl
theorem e_206_138 : Df d 206 138 [l0, l1, l2, l3, l4, l5] st h nx = Df d 206 139 [l0, l1, l2, l3, l4, l5] (.int 2 :: st) h nx := D_iconst (ins_of mc_206 (pc := 138) (x := (.iconst 2, 1)) (by decide +kernel)) (by decide)
theorem e_206_139 : Df d 206 139 [l0, l1, l2, l3, l4, .int x] st h nx = Df d 206 141 [l0, l1, l2, l3, l4, .int x] (.int x :: st) h nx := D_iload (ins_of mc_206 (pc := 139) (x := (.iload 5, 2)) (by decide +kernel)) rfl
theorem e_206_141 : Df d 206 141 [l0, l1, l2, l3, l4, l5] (.int y :: .int x :: st) h nx = Df d 206 142 [l0, l1, l2, l3, l4, l5] (.int (x * y) :: st) h nx := D_imul (ins_of mc_206 (pc := 141) (x := (.imul, 1)) (by decide +kernel))
theorem e_206_142 : Df d 206 142 [l0, l1, l2, l3, l4, l5] st h nx = Df d 206 143 [l0, l1, l2, l3, l4, l5] (.int 1 :: st) h nx := D_iconst (ins_of mc_206 (pc := 142) (x := (.iconst 1, 1)) (by decide +kernel)) (by decide)
theorem e_206_143 : Df d 206 143 [l0, l1, l2, l3, l4, l5] (.int y :: .int x :: st) h nx = Df d 206 144 [l0, l1, l2, l3, l4, l5] (.int (x + y) :: st) h nx := D_iadd (ins_of mc_206 (pc := 143) (x := (.iadd, 1)) (by decide +kernel))
theorem e_206_144 : Df d 206 144 [l0, l1, l2, l3, l4, l5] (.int y :: .int x :: st) h nx = if x = y then Df d 206 147 [l0, l1, l2, l3, l4, l5] st h nx else Df d 206 171 [l0, l1, l2, l3, l4, l5] st h nx := D_icmp_ne (ins_of mc_206 (pc := 144) (x := (.if_icmp .ne 27, 3)) (by decide +kernel)) (by decide)
theorem e_206_147 : Df d 206 147 [l0, l1, l2, l3, .int x, l5] st h nx = Df d 206 149 [l0, l1, l2, l3, .int x, l5] (.int x :: st) h nx := D_iload (ins_of mc_206 (pc := 147) (x := (.iload 4, 2)) (by decide +kernel)) rfl
theorem e_206_149 : Df d 206 149 [l0, l1, .int x, l3, l4, l5] st h nx = Df d 206 150 [l0, l1, .int x, l3, l4, l5] (.int x :: st) h nx := D_iload_n (ins_of mc_206 (pc := 149) (x := (.iload_n 2, 1)) (by decide +kernel)) rfl
theorem e_206_150 : Df d 206 150 [l0, l1, l2, l3, l4, l5] (.int y :: .int x :: st) h nx = if y ≤ x then Df d 206 171 [l0, l1, l2, l3, l4, l5] st h nx else Df d 206 153 [l0, l1, l2, l3, l4, l5] st h nx := D_icmp_ge (ins_of mc_206 (pc := 150) (x := (.if_icmp .ge 21, 3)) (by decide +kernel)) (by decide)
theorem e_206_153 : Df d 206 153 [.ref a, l1, l2, l3, l4, l5] st h nx = Df d 206 154 [.ref a, l1, l2, l3, l4, l5] (.ref a :: st) h nx := D_aload_n (ins_of mc_206 (pc := 153) (x := (.aload_n 0, 1)) (by decide +kernel)) rfl
theorem e_206_154 : Df d 206 154 [l0, l1, l2, l3, l4, l5] (.ref a :: st) h nx = (gF h a 9 32).bind fun v => Df d 206 157 [l0, l1, l2, l3, l4, l5] (v :: st) h nx := D_getfield (ins_of mc_206 (pc := 154) (x := (.getfield 72, 3)) (by decide +kernel)) mo_206 (by decide +kernel)
theorem e_206_157 : Df d 206 157 [l0, l1, l2, l3, .int x, l5] st h nx = Df d 206 159 [l0, l1, l2, l3, .int x, l5] (.int x :: st) h nx := D_iload (ins_of mc_206 (pc := 157) (x := (.iload 4, 2)) (by decide +kernel)) rfl
theorem e_206_159 : Df d 206 159 [l0, l1, l2, l3, l4, l5] (.int x :: .ref a :: st) h nx = (rX h a x).bind fun v => Df d 206 160 [l0, l1, l2, l3, l4, l5] (.int v :: st) h nx := D_iaload (ins_of mc_206 (pc := 159) (x := (.iaload, 1)) (by decide +kernel))
theorem e_206_160 : Df d 206 160 [.ref a, l1, l2, l3, l4, l5] st h nx = Df d 206 161 [.ref a, l1, l2, l3, l4, l5] (.ref a :: st) h nx := D_aload_n (ins_of mc_206 (pc := 160) (x := (.aload_n 0, 1)) (by decide +kernel)) rfl
theorem e_206_161 : Df d 206 161 [l0, l1, l2, l3, l4, l5] [.ref a, s0, s1] h nx = if ck h a 9 = true then cn d 206 164 [l0, l1, l2, l3, l4, l5] [s0, s1] (Dn d 163 [.ref a] h nx) else none := D_virtual (k1 := 163) (ins_of mc_206 (pc := 161) (x := (.invokevirtual 180, 3)) (by decide +kernel)) mo_206 (by decide +kernel) (by decide) rfl rfl (by decide) rfl (Nat.le_of_ble_eq_true rfl) rfl
theorem e_206_164 : Df d 206 164 [l0, l1, l2, l3, l4, l5] (.int y :: .int x :: st) h nx = if x = y then Df d 206 167 [l0, l1, l2, l3, l4, l5] st h nx else Df d 206 171 [l0, l1, l2, l3, l4, l5] st h nx := D_icmp_ne (ins_of mc_206 (pc := 164) (x := (.if_icmp .ne 7, 3)) (by decide +kernel)) (by decide)
theorem e_206_167 : Df d 206 167 [l0, l1, l2, l3, l4, l5] st h nx = Df d 206 168 [l0, l1, l2, l3, l4, l5] (.int 1 :: st) h nx := D_iconst (ins_of mc_206 (pc := 167) (x := (.iconst 1, 1)) (by decide +kernel)) (by decide)
theorem e_206_168 : Df d 206 168 [l0, l1, l2, l3, l4, l5] st h nx = Df d 206 172 [l0, l1, l2, l3, l4, l5] st h nx := D_goto (ins_of mc_206 (pc := 168) (x := (.goto 4, 3)) (by decide +kernel)) (by decide)
theorem e_206_171 : Df d 206 171 [l0, l1, l2, l3, l4, l5] st h nx = Df d 206 172 [l0, l1, l2, l3, l4, l5] (.int 0 :: st) h nx := D_iconst (ins_of mc_206 (pc := 171) (x := (.iconst 0, 1)) (by decide +kernel)) (by decide)
theorem e_206_172 : Df d 206 172 [l0, l1, l2, l3, l4, l5] (.int y :: .int x :: st) h nx = Df d 206 173 [l0, l1, l2, l3, l4, l5] (.int (x + y) :: st) h nx := D_iadd (ins_of mc_206 (pc := 172) (x := (.iadd, 1)) (by decide +kernel))
theorem e_206_173 (hn : nr l4 = true) : Df d 206 173 [l0, l1, l2, l3, l4, l5] (.int x :: st) h nx = Df d 206 175 [l0, l1, l2, l3, .int x, l5] st h nx := D_istore (ins_of mc_206 (pc := 173) (x := (.istore 4, 2)) (by decide +kernel)) rfl hn rfl
theorem e_206_175 : Df d 206 175 [l0, l1, l2, l3, l4, .int x] st h nx = Df d 206 178 [l0, l1, l2, l3, l4, .int (x + 1)] st h nx := D_iinc (ins_of mc_206 (pc := 175) (x := (.iinc 5 1, 3)) (by decide +kernel)) rfl (by decide) rfl
theorem e_206_178 : Df d 206 178 [l0, l1, l2, l3, l4, l5] st h nx = Df d 206 80 [l0, l1, l2, l3, l4, l5] st h nx := D_goto (ins_of mc_206 (pc := 178) (x := (.goto (-98), 3)) (by decide +kernel)) (by decide)
theorem e_206_181 : Df d 206 181 [.ref a, l1, l2, l3, l4, l5] st h nx = Df d 206 182 [.ref a, l1, l2, l3, l4, l5] (.ref a :: st) h nx := D_aload_n (ins_of mc_206 (pc := 181) (x := (.aload_n 0, 1)) (by decide +kernel)) rfl
theorem e_206_182 : Df d 206 182 [l0, l1, l2, l3, l4, l5] (.ref a :: st) h nx = (gF h a 9 2).bind fun v => Df d 206 185 [l0, l1, l2, l3, l4, l5] (v :: st) h nx := D_getfield (ins_of mc_206 (pc := 182) (x := (.getfield 16, 3)) (by decide +kernel)) mo_206 (by decide +kernel)
theorem e_206_185 : Df d 206 185 [.ref a, l1, l2, l3, l4, l5] st h nx = Df d 206 186 [.ref a, l1, l2, l3, l4, l5] (.ref a :: st) h nx := D_aload_n (ins_of mc_206 (pc := 185) (x := (.aload_n 0, 1)) (by decide +kernel)) rfl
theorem e_206_186 : Df d 206 186 [l0, l1, l2, l3, l4, l5] (.ref a :: st) h nx = (gF h a 9 0).bind fun v => Df d 206 189 [l0, l1, l2, l3, l4, l5] (v :: st) h nx := D_getfield (ins_of mc_206 (pc := 186) (x := (.getfield 9, 3)) (by decide +kernel)) mo_206 (by decide +kernel)
theorem e_206_189 : Df d 206 189 [l0, l1, l2, l3, l4, l5] [v1, v0] h nx = cn d 206 192 [l0, l1, l2, l3, l4, l5] [] (Dn d 207 [v0, v1] h nx) := D_static (k1 := 207) (kd := 1) (ins_of mc_206 (pc := 189) (x := (.invokestatic 282, 3)) (by decide +kernel)) mo_206 (by decide +kernel) (by decide) rfl (Nat.le_of_ble_eq_true rfl) rfl (Nat.le_of_ble_eq_true rfl) rfl
theorem e_206_192 : Df d 206 192 [l0, l1, l2, l3, .int x, l5] st h nx = Df d 206 194 [l0, l1, l2, l3, .int x, l5] (.int x :: st) h nx := D_iload (ins_of mc_206 (pc := 192) (x := (.iload 4, 2)) (by decide +kernel)) rfl
theorem e_206_194 : Df d 206 194 [l0, l1, .int x, l3, l4, l5] st h nx = Df d 206 195 [l0, l1, .int x, l3, l4, l5] (.int x :: st) h nx := D_iload_n (ins_of mc_206 (pc := 194) (x := (.iload_n 2, 1)) (by decide +kernel)) rfl
theorem e_206_195 : Df d 206 195 [l0, l1, l2, l3, l4, l5] (.int y :: .int x :: st) h nx = if x = y then Df d 206 198 [l0, l1, l2, l3, l4, l5] st h nx else Df d 206 208 [l0, l1, l2, l3, l4, l5] st h nx := D_icmp_ne (ins_of mc_206 (pc := 195) (x := (.if_icmp .ne 13, 3)) (by decide +kernel)) (by decide)
theorem e_206_198 : Df d 206 198 [l0, l1, l2, l3, .int x, l5] st h nx = Df d 206 200 [l0, l1, l2, l3, .int x, l5] (.int x :: st) h nx := D_iload (ins_of mc_206 (pc := 198) (x := (.iload 4, 2)) (by decide +kernel)) rfl
theorem e_206_200 : Df d 206 200 [l0, l1, l2, .int x, l4, l5] st h nx = Df d 206 201 [l0, l1, l2, .int x, l4, l5] (.int x :: st) h nx := D_iload_n (ins_of mc_206 (pc := 200) (x := (.iload_n 3, 1)) (by decide +kernel)) rfl
theorem e_206_201 : Df d 206 201 [l0, l1, l2, l3, l4, l5] (.int y :: .int x :: st) h nx = if x = y then Df d 206 204 [l0, l1, l2, l3, l4, l5] st h nx else Df d 206 208 [l0, l1, l2, l3, l4, l5] st h nx := D_icmp_ne (ins_of mc_206 (pc := 201) (x := (.if_icmp .ne 7, 3)) (by decide +kernel)) (by decide)
theorem e_206_204 : Df d 206 204 [l0, l1, l2, l3, l4, l5] st h nx = Df d 206 205 [l0, l1, l2, l3, l4, l5] (.int 0 :: st) h nx := D_iconst (ins_of mc_206 (pc := 204) (x := (.iconst 0, 1)) (by decide +kernel)) (by decide)
theorem e_206_205 : Df d 206 205 [l0, l1, l2, l3, l4, l5] st h nx = Df d 206 212 [l0, l1, l2, l3, l4, l5] st h nx := D_goto (ins_of mc_206 (pc := 205) (x := (.goto 7, 3)) (by decide +kernel)) (by decide)
theorem e_206_208 : Df d 206 208 [l0, l1, l2, l3, l4, l5] st h nx = Df d 206 209 [l0, l1, l2, l3, l4, l5] (.int 1 :: st) h nx := D_iconst (ins_of mc_206 (pc := 208) (x := (.iconst 1, 1)) (by decide +kernel)) (by decide)
theorem e_206_209 : Df d 206 209 [l0, l1, l2, l3, .int x, l5] st h nx = Df d 206 211 [l0, l1, l2, l3, .int x, l5] (.int x :: st) h nx := D_iload (ins_of mc_206 (pc := 209) (x := (.iload 4, 2)) (by decide +kernel)) rfl
theorem e_206_211 : Df d 206 211 [l0, l1, l2, l3, l4, l5] (.int y :: .int x :: st) h nx = Df d 206 212 [l0, l1, l2, l3, l4, l5] (.int (x + y) :: st) h nx := D_iadd (ins_of mc_206 (pc := 211) (x := (.iadd, 1)) (by decide +kernel))
theorem e_206_212 : Df d 206 212 [l0, l1, l2, l3, l4, l5] [.int x] h nx = some (some (.int x), h, nx) := D_ireturn (ins_of mc_206 (pc := 212) (x := (.ireturn, 1)) (by decide +kernel)) mr_206
theorem mc_207 : mC 207 = prog_11_method_4_code := rfl
theorem mo_207 : mO 207 = 9 := rfl
theorem ml_207 : mL 207 = 3 := rfl
theorem mr_207 : mR 207 = none := rfl
theorem ma_207 : mA 207 = 2 := rfl
theorem e_207_0 : Df d 207 0 [l0, l1, l2] st h nx = Df d 207 1 [l0, l1, l2] (.int 0 :: st) h nx := D_iconst (ins_of mc_207 (pc := 0) (x := (.iconst 0, 1)) (by decide +kernel)) (by decide)
theorem e_207_1 (hn : nr l2 = true) : Df d 207 1 [l0, l1, l2] (.int x :: st) h nx = Df d 207 2 [l0, l1, .int x] st h nx := D_istore_n (ins_of mc_207 (pc := 1) (x := (.istore_n 2, 1)) (by decide +kernel)) rfl hn rfl
theorem e_207_2 : Df d 207 2 [l0, l1, .int x] st h nx = Df d 207 3 [l0, l1, .int x] (.int x :: st) h nx := D_iload_n (ins_of mc_207 (pc := 2) (x := (.iload_n 2, 1)) (by decide +kernel)) rfl
theorem e_207_3 : Df d 207 3 [l0, l1, l2] st h nx = Df d 207 6 [l0, l1, l2] (.int 1467 :: st) h nx := D_sipush (ins_of mc_207 (pc := 3) (x := (.sipush 1467, 3)) (by decide +kernel)) (by decide)
theorem e_207_6 : Df d 207 6 [l0, l1, l2] (.int y :: .int x :: st) h nx = if y ≤ x then Df d 207 21 [l0, l1, l2] st h nx else Df d 207 9 [l0, l1, l2] st h nx := D_icmp_ge (ins_of mc_207 (pc := 6) (x := (.if_icmp .ge 15, 3)) (by decide +kernel)) (by decide)
theorem e_207_9 : Df d 207 9 [l0, .ref a, l2] st h nx = Df d 207 10 [l0, .ref a, l2] (.ref a :: st) h nx := D_aload_n (ins_of mc_207 (pc := 9) (x := (.aload_n 1, 1)) (by decide +kernel)) rfl
theorem e_207_10 : Df d 207 10 [l0, l1, .int x] st h nx = Df d 207 11 [l0, l1, .int x] (.int x :: st) h nx := D_iload_n (ins_of mc_207 (pc := 10) (x := (.iload_n 2, 1)) (by decide +kernel)) rfl
theorem e_207_11 : Df d 207 11 [.ref a, l1, l2] st h nx = Df d 207 12 [.ref a, l1, l2] (.ref a :: st) h nx := D_aload_n (ins_of mc_207 (pc := 11) (x := (.aload_n 0, 1)) (by decide +kernel)) rfl
theorem e_207_12 : Df d 207 12 [l0, l1, .int x] st h nx = Df d 207 13 [l0, l1, .int x] (.int x :: st) h nx := D_iload_n (ins_of mc_207 (pc := 12) (x := (.iload_n 2, 1)) (by decide +kernel)) rfl
theorem e_207_13 : Df d 207 13 [l0, l1, l2] (.int x :: .ref a :: st) h nx = (rX h a x).bind fun v => Df d 207 14 [l0, l1, l2] (.int v :: st) h nx := D_iaload (ins_of mc_207 (pc := 13) (x := (.iaload, 1)) (by decide +kernel))
theorem e_207_14 : Df d 207 14 [l0, l1, l2] (.int y :: .int x :: .ref a :: st) h nx = (wI h a x 0 y).bind fun h => Df d 207 15 [l0, l1, l2] st h nx := D_iastore (ins_of mc_207 (pc := 14) (x := (.iastore, 1)) (by decide +kernel))
theorem e_207_15 : Df d 207 15 [l0, l1, .int x] st h nx = Df d 207 18 [l0, l1, .int (x + 1)] st h nx := D_iinc (ins_of mc_207 (pc := 15) (x := (.iinc 2 1, 3)) (by decide +kernel)) rfl (by decide) rfl
theorem e_207_18 : Df d 207 18 [l0, l1, l2] st h nx = Df d 207 2 [l0, l1, l2] st h nx := D_goto (ins_of mc_207 (pc := 18) (x := (.goto (-16), 3)) (by decide +kernel)) (by decide)
theorem e_207_21 : Df d 207 21 [l0, l1, l2] [] h nx = some (none, h, nx) := D_return (ins_of mc_207 (pc := 21) (x := (.return_, 1)) (by decide +kernel)) mr_207
theorem mc_208 : mC 208 = prog_11_method_88_code := rfl
theorem mo_208 : mO 208 = 9 := rfl
theorem ml_208 : mL 208 = 1 := rfl
theorem mr_208 : mR 208 = (some .int) := rfl
theorem ma_208 : mA 208 = 0 := rfl
theorem e_208_0 : Df d 208 0 [.ref a] st h nx = Df d 208 1 [.ref a] (.ref a :: st) h nx := D_aload_n (ins_of mc_208 (pc := 0) (x := (.aload_n 0, 1)) (by decide +kernel)) rfl
theorem e_208_1 : Df d 208 1 [l0] (.ref a :: st) h nx = (gF h a 9 0).bind fun v => Df d 208 4 [l0] (v :: st) h nx := D_getfield (ins_of mc_208 (pc := 1) (x := (.getfield 9, 3)) (by decide +kernel)) mo_208 (by decide +kernel)
theorem e_208_4 : Df d 208 4 [.ref a] st h nx = Df d 208 5 [.ref a] (.ref a :: st) h nx := D_aload_n (ins_of mc_208 (pc := 4) (x := (.aload_n 0, 1)) (by decide +kernel)) rfl
theorem e_208_5 : Df d 208 5 [l0] (.ref a :: st) h nx = (gF h a 9 1).bind fun v => Df d 208 8 [l0] (v :: st) h nx := D_getfield (ins_of mc_208 (pc := 5) (x := (.getfield 13, 3)) (by decide +kernel)) mo_208 (by decide +kernel)
theorem e_208_8 : Df d 208 8 [l0] [v1, v0] h nx = cn d 208 11 [l0] [] (Dn d 207 [v0, v1] h nx) := D_static (k1 := 207) (kd := 1) (ins_of mc_208 (pc := 8) (x := (.invokestatic 282, 3)) (by decide +kernel)) mo_208 (by decide +kernel) (by decide) rfl (Nat.le_of_ble_eq_true rfl) rfl (Nat.le_of_ble_eq_true rfl) rfl
theorem e_208_11 : Df d 208 11 [.ref a] st h nx = Df d 208 12 [.ref a] (.ref a :: st) h nx := D_aload_n (ins_of mc_208 (pc := 11) (x := (.aload_n 0, 1)) (by decide +kernel)) rfl
theorem e_208_12 : Df d 208 12 [l0] st h nx = Df d 208 13 [l0] (.int 1 :: st) h nx := D_iconst (ins_of mc_208 (pc := 12) (x := (.iconst 1, 1)) (by decide +kernel)) (by decide)
theorem e_208_13 : Df d 208 13 [l0] (.int x :: .ref a :: st) h nx = if x = 0 ∨ x = 1 then (pF h a 9 3 (.int x)).bind fun h => Df d 208 16 [l0] st h nx else none := D_putbool (ins_of mc_208 (pc := 13) (x := (.putfield 279, 3)) (by decide +kernel)) mo_208 (by decide +kernel) rfl (Or.inl rfl)
theorem e_208_16 : Df d 208 16 [.ref a] st h nx = Df d 208 17 [.ref a] (.ref a :: st) h nx := D_aload_n (ins_of mc_208 (pc := 16) (x := (.aload_n 0, 1)) (by decide +kernel)) rfl
theorem e_208_17 : Df d 208 17 [l0] (.ref a :: st) h nx = (gF h a 9 0).bind fun v => Df d 208 20 [l0] (v :: st) h nx := D_getfield (ins_of mc_208 (pc := 17) (x := (.getfield 9, 3)) (by decide +kernel)) mo_208 (by decide +kernel)
theorem e_208_20 : Df d 208 20 [l0] st h nx = Df d 208 21 [l0] (.int 1 :: st) h nx := D_iconst (ins_of mc_208 (pc := 20) (x := (.iconst 1, 1)) (by decide +kernel)) (by decide)
theorem e_208_21 : Df d 208 21 [l0] (.int x :: .ref a :: st) h nx = (rX h a x).bind fun v => Df d 208 22 [l0] (.int v :: st) h nx := D_iaload (ins_of mc_208 (pc := 21) (x := (.iaload, 1)) (by decide +kernel))
theorem e_208_22 : Df d 208 22 [l0] [.int x] h nx = some (some (.int x), h, nx) := D_ireturn (ins_of mc_208 (pc := 22) (x := (.ireturn, 1)) (by decide +kernel)) mr_208
theorem mc_209 : mC 209 = prog_11_method_89_code := rfl
theorem mo_209 : mO 209 = 9 := rfl
theorem ml_209 : mL 209 = 1 := rfl
theorem mr_209 : mR 209 = (some .int) := rfl
theorem ma_209 : mA 209 = 0 := rfl
theorem e_209_0 : Df d 209 0 [.ref a] st h nx = Df d 209 1 [.ref a] (.ref a :: st) h nx := D_aload_n (ins_of mc_209 (pc := 0) (x := (.aload_n 0, 1)) (by decide +kernel)) rfl
theorem e_209_1 : Df d 209 1 [l0] (.ref a :: st) h nx = (gF h a 9 3).bind fun v => Df d 209 4 [l0] (v :: st) h nx := D_getfield (ins_of mc_209 (pc := 1) (x := (.getfield 279, 3)) (by decide +kernel)) mo_209 (by decide +kernel)
theorem e_209_4 : Df d 209 4 [l0] (.int x :: st) h nx = if x = 0 then Df d 209 7 [l0] st h nx else Df d 209 11 [l0] st h nx := D_if_ne (ins_of mc_209 (pc := 4) (x := (.ifCond .ne 7, 3)) (by decide +kernel)) (by decide)
theorem e_209_7 : Df d 209 7 [l0] st h nx = Df d 209 10 [l0] (.int (-1000000002) :: st) h nx := D_ldc_w (ins_of mc_209 (pc := 7) (x := (.ldc_w 275, 3)) (by decide +kernel)) mo_209 (by decide +kernel)
theorem e_209_10 : Df d 209 10 [l0] [.int x] h nx = some (some (.int x), h, nx) := D_ireturn (ins_of mc_209 (pc := 10) (x := (.ireturn, 1)) (by decide +kernel)) mr_209
theorem e_209_11 : Df d 209 11 [.ref a] st h nx = Df d 209 12 [.ref a] (.ref a :: st) h nx := D_aload_n (ins_of mc_209 (pc := 11) (x := (.aload_n 0, 1)) (by decide +kernel)) rfl
theorem e_209_12 : Df d 209 12 [l0] (.ref a :: st) h nx = (gF h a 9 1).bind fun v => Df d 209 15 [l0] (v :: st) h nx := D_getfield (ins_of mc_209 (pc := 12) (x := (.getfield 13, 3)) (by decide +kernel)) mo_209 (by decide +kernel)
theorem e_209_15 : Df d 209 15 [.ref a] st h nx = Df d 209 16 [.ref a] (.ref a :: st) h nx := D_aload_n (ins_of mc_209 (pc := 15) (x := (.aload_n 0, 1)) (by decide +kernel)) rfl
theorem e_209_16 : Df d 209 16 [l0] (.ref a :: st) h nx = (gF h a 9 0).bind fun v => Df d 209 19 [l0] (v :: st) h nx := D_getfield (ins_of mc_209 (pc := 16) (x := (.getfield 9, 3)) (by decide +kernel)) mo_209 (by decide +kernel)
theorem e_209_19 : Df d 209 19 [l0] [v1, v0] h nx = cn d 209 22 [l0] [] (Dn d 207 [v0, v1] h nx) := D_static (k1 := 207) (kd := 1) (ins_of mc_209 (pc := 19) (x := (.invokestatic 282, 3)) (by decide +kernel)) mo_209 (by decide +kernel) (by decide) rfl (Nat.le_of_ble_eq_true rfl) rfl (Nat.le_of_ble_eq_true rfl) rfl
theorem e_209_22 : Df d 209 22 [.ref a] st h nx = Df d 209 23 [.ref a] (.ref a :: st) h nx := D_aload_n (ins_of mc_209 (pc := 22) (x := (.aload_n 0, 1)) (by decide +kernel)) rfl
theorem e_209_23 : Df d 209 23 [l0] (.ref a :: st) h nx = (gF h a 9 0).bind fun v => Df d 209 26 [l0] (v :: st) h nx := D_getfield (ins_of mc_209 (pc := 23) (x := (.getfield 9, 3)) (by decide +kernel)) mo_209 (by decide +kernel)
theorem e_209_26 : Df d 209 26 [l0] st h nx = Df d 209 27 [l0] (.int 1 :: st) h nx := D_iconst (ins_of mc_209 (pc := 26) (x := (.iconst 1, 1)) (by decide +kernel)) (by decide)
theorem e_209_27 : Df d 209 27 [l0] (.int x :: .ref a :: st) h nx = (rX h a x).bind fun v => Df d 209 28 [l0] (.int v :: st) h nx := D_iaload (ins_of mc_209 (pc := 27) (x := (.iaload, 1)) (by decide +kernel))
theorem e_209_28 : Df d 209 28 [l0] [.int x] h nx = some (some (.int x), h, nx) := D_ireturn (ins_of mc_209 (pc := 28) (x := (.ireturn, 1)) (by decide +kernel)) mr_209
theorem mc_210 : mC 210 = prog_11_method_90_code := rfl
theorem mo_210 : mO 210 = 9 := rfl
theorem ml_210 : mL 210 = 2 := rfl
theorem mr_210 : mR 210 = (some .int) := rfl
theorem ma_210 : mA 210 = 1 := rfl
theorem e_210_0 : Df d 210 0 [l0, .int x] st h nx = Df d 210 1 [l0, .int x] (.int x :: st) h nx := D_iload_n (ins_of mc_210 (pc := 0) (x := (.iload_n 1, 1)) (by decide +kernel)) rfl
theorem e_210_1 : Df d 210 1 [l0, l1] (.int x :: st) h nx = if x = 0 then Df d 210 56 [l0, l1] st h nx else if x = 1 then Df d 210 63 [l0, l1] st h nx else if x = 2 then Df d 210 63 [l0, l1] st h nx else if x = 3 then Df d 210 63 [l0, l1] st h nx else if x = 4 then Df d 210 63 [l0, l1] st h nx else if x = 5 then Df d 210 63 [l0, l1] st h nx else if x = 6 then Df d 210 74 [l0, l1] st h nx else if x = 7 then Df d 210 82 [l0, l1] st h nx else if x = 8 then Df d 210 87 [l0, l1] st h nx else if x = 9 then Df d 210 92 [l0, l1] st h nx else Df d 210 99 [l0, l1] st h nx := by
  have hi := (ins_of mc_210 (pc := 1) (x := (.tableswitch 98 0 9 #[55, 62, 62, 62, 62, 62, 73, 81, 86, 91], 55)) (by decide +kernel))
  by_cases q0 : x = 0
  · subst q0
    rw [if_pos rfl]
    exact D_tswI (off := 55) hi (by decide) (by decide) (by decide)
  rw [if_neg q0]
  by_cases q1 : x = 1
  · subst q1
    rw [if_pos rfl]
    exact D_tswI (off := 62) hi (by decide) (by decide) (by decide)
  rw [if_neg q1]
  by_cases q2 : x = 2
  · subst q2
    rw [if_pos rfl]
    exact D_tswI (off := 62) hi (by decide) (by decide) (by decide)
  rw [if_neg q2]
  by_cases q3 : x = 3
  · subst q3
    rw [if_pos rfl]
    exact D_tswI (off := 62) hi (by decide) (by decide) (by decide)
  rw [if_neg q3]
  by_cases q4 : x = 4
  · subst q4
    rw [if_pos rfl]
    exact D_tswI (off := 62) hi (by decide) (by decide) (by decide)
  rw [if_neg q4]
  by_cases q5 : x = 5
  · subst q5
    rw [if_pos rfl]
    exact D_tswI (off := 62) hi (by decide) (by decide) (by decide)
  rw [if_neg q5]
  by_cases q6 : x = 6
  · subst q6
    rw [if_pos rfl]
    exact D_tswI (off := 73) hi (by decide) (by decide) (by decide)
  rw [if_neg q6]
  by_cases q7 : x = 7
  · subst q7
    rw [if_pos rfl]
    exact D_tswI (off := 81) hi (by decide) (by decide) (by decide)
  rw [if_neg q7]
  by_cases q8 : x = 8
  · subst q8
    rw [if_pos rfl]
    exact D_tswI (off := 86) hi (by decide) (by decide) (by decide)
  rw [if_neg q8]
  by_cases q9 : x = 9
  · subst q9
    rw [if_pos rfl]
    exact D_tswI (off := 91) hi (by decide) (by decide) (by decide)
  rw [if_neg q9]
  have r0 : x.toInt ≠ 0 := fun z => q0 (Int32.toInt_inj.mp (z.trans (by decide)))
  have r1 : x.toInt ≠ 1 := fun z => q1 (Int32.toInt_inj.mp (z.trans (by decide)))
  have r2 : x.toInt ≠ 2 := fun z => q2 (Int32.toInt_inj.mp (z.trans (by decide)))
  have r3 : x.toInt ≠ 3 := fun z => q3 (Int32.toInt_inj.mp (z.trans (by decide)))
  have r4 : x.toInt ≠ 4 := fun z => q4 (Int32.toInt_inj.mp (z.trans (by decide)))
  have r5 : x.toInt ≠ 5 := fun z => q5 (Int32.toInt_inj.mp (z.trans (by decide)))
  have r6 : x.toInt ≠ 6 := fun z => q6 (Int32.toInt_inj.mp (z.trans (by decide)))
  have r7 : x.toInt ≠ 7 := fun z => q7 (Int32.toInt_inj.mp (z.trans (by decide)))
  have r8 : x.toInt ≠ 8 := fun z => q8 (Int32.toInt_inj.mp (z.trans (by decide)))
  have r9 : x.toInt ≠ 9 := fun z => q9 (Int32.toInt_inj.mp (z.trans (by decide)))
  exact D_tswO hi (by omega) (by decide)
theorem e_210_56 : Df d 210 56 [.ref a, l1] st h nx = Df d 210 57 [.ref a, l1] (.ref a :: st) h nx := D_aload_n (ins_of mc_210 (pc := 56) (x := (.aload_n 0, 1)) (by decide +kernel)) rfl
theorem e_210_57 : Df d 210 57 [l0, l1] (.ref a :: st) h nx = (gF h a 9 0).bind fun v => Df d 210 60 [l0, l1] (v :: st) h nx := D_getfield (ins_of mc_210 (pc := 57) (x := (.getfield 9, 3)) (by decide +kernel)) mo_210 (by decide +kernel)
theorem e_210_60 : Df d 210 60 [l0, l1] st h nx = Df d 210 61 [l0, l1] (.int 1 :: st) h nx := D_iconst (ins_of mc_210 (pc := 60) (x := (.iconst 1, 1)) (by decide +kernel)) (by decide)
theorem e_210_61 : Df d 210 61 [l0, l1] (.int x :: .ref a :: st) h nx = (rX h a x).bind fun v => Df d 210 62 [l0, l1] (.int v :: st) h nx := D_iaload (ins_of mc_210 (pc := 61) (x := (.iaload, 1)) (by decide +kernel))
theorem e_210_62 : Df d 210 62 [l0, l1] [.int x] h nx = some (some (.int x), h, nx) := D_ireturn (ins_of mc_210 (pc := 62) (x := (.ireturn, 1)) (by decide +kernel)) mr_210
theorem e_210_63 : Df d 210 63 [.ref a, l1] st h nx = Df d 210 64 [.ref a, l1] (.ref a :: st) h nx := D_aload_n (ins_of mc_210 (pc := 63) (x := (.aload_n 0, 1)) (by decide +kernel)) rfl
theorem e_210_64 : Df d 210 64 [l0, l1] (.ref a :: st) h nx = (gF h a 9 0).bind fun v => Df d 210 67 [l0, l1] (v :: st) h nx := D_getfield (ins_of mc_210 (pc := 64) (x := (.getfield 9, 3)) (by decide +kernel)) mo_210 (by decide +kernel)
theorem e_210_67 : Df d 210 67 [l0, l1] st h nx = Df d 210 68 [l0, l1] (.int 2 :: st) h nx := D_iconst (ins_of mc_210 (pc := 67) (x := (.iconst 2, 1)) (by decide +kernel)) (by decide)
theorem e_210_68 : Df d 210 68 [l0, .int x] st h nx = Df d 210 69 [l0, .int x] (.int x :: st) h nx := D_iload_n (ins_of mc_210 (pc := 68) (x := (.iload_n 1, 1)) (by decide +kernel)) rfl
theorem e_210_69 : Df d 210 69 [l0, l1] (.int y :: .int x :: st) h nx = Df d 210 70 [l0, l1] (.int (x + y) :: st) h nx := D_iadd (ins_of mc_210 (pc := 69) (x := (.iadd, 1)) (by decide +kernel))
theorem e_210_70 : Df d 210 70 [l0, l1] st h nx = Df d 210 71 [l0, l1] (.int 1 :: st) h nx := D_iconst (ins_of mc_210 (pc := 70) (x := (.iconst 1, 1)) (by decide +kernel)) (by decide)
theorem e_210_71 : Df d 210 71 [l0, l1] (.int y :: .int x :: st) h nx = Df d 210 72 [l0, l1] (.int (x - y) :: st) h nx := D_isub (ins_of mc_210 (pc := 71) (x := (.isub, 1)) (by decide +kernel))
theorem e_210_72 : Df d 210 72 [l0, l1] (.int x :: .ref a :: st) h nx = (rX h a x).bind fun v => Df d 210 73 [l0, l1] (.int v :: st) h nx := D_iaload (ins_of mc_210 (pc := 72) (x := (.iaload, 1)) (by decide +kernel))
theorem e_210_73 : Df d 210 73 [l0, l1] [.int x] h nx = some (some (.int x), h, nx) := D_ireturn (ins_of mc_210 (pc := 73) (x := (.ireturn, 1)) (by decide +kernel)) mr_210
theorem e_210_74 : Df d 210 74 [.ref a, l1] st h nx = Df d 210 75 [.ref a, l1] (.ref a :: st) h nx := D_aload_n (ins_of mc_210 (pc := 74) (x := (.aload_n 0, 1)) (by decide +kernel)) rfl
theorem e_210_75 : Df d 210 75 [l0, l1] (.ref a :: st) h nx = (gF h a 9 0).bind fun v => Df d 210 78 [l0, l1] (v :: st) h nx := D_getfield (ins_of mc_210 (pc := 75) (x := (.getfield 9, 3)) (by decide +kernel)) mo_210 (by decide +kernel)
theorem e_210_78 : Df d 210 78 [l0, l1] st h nx = Df d 210 80 [l0, l1] (.int 10 :: st) h nx := D_bipush (ins_of mc_210 (pc := 78) (x := (.bipush 10, 2)) (by decide +kernel)) (by decide)
theorem e_210_80 : Df d 210 80 [l0, l1] (.int x :: .ref a :: st) h nx = (rX h a x).bind fun v => Df d 210 81 [l0, l1] (.int v :: st) h nx := D_iaload (ins_of mc_210 (pc := 80) (x := (.iaload, 1)) (by decide +kernel))
theorem e_210_81 : Df d 210 81 [l0, l1] [.int x] h nx = some (some (.int x), h, nx) := D_ireturn (ins_of mc_210 (pc := 81) (x := (.ireturn, 1)) (by decide +kernel)) mr_210
theorem e_210_82 : Df d 210 82 [.ref a, l1] st h nx = Df d 210 83 [.ref a, l1] (.ref a :: st) h nx := D_aload_n (ins_of mc_210 (pc := 82) (x := (.aload_n 0, 1)) (by decide +kernel)) rfl
theorem e_210_83 : Df d 210 83 [l0, l1] (.ref a :: st) h nx = (gF h a 9 33).bind fun v => Df d 210 86 [l0, l1] (v :: st) h nx := D_getfield (ins_of mc_210 (pc := 83) (x := (.getfield 276, 3)) (by decide +kernel)) mo_210 (by decide +kernel)
theorem e_210_86 : Df d 210 86 [l0, l1] [.int x] h nx = some (some (.int x), h, nx) := D_ireturn (ins_of mc_210 (pc := 86) (x := (.ireturn, 1)) (by decide +kernel)) mr_210
theorem e_210_87 : Df d 210 87 [.ref a, l1] st h nx = Df d 210 88 [.ref a, l1] (.ref a :: st) h nx := D_aload_n (ins_of mc_210 (pc := 87) (x := (.aload_n 0, 1)) (by decide +kernel)) rfl
theorem e_210_88 : Df d 210 88 [l0, l1] (.ref a :: st) h nx = (gF h a 9 7).bind fun v => Df d 210 91 [l0, l1] (v :: st) h nx := D_getfield (ins_of mc_210 (pc := 88) (x := (.getfield 200, 3)) (by decide +kernel)) mo_210 (by decide +kernel)
theorem e_210_91 : Df d 210 91 [l0, l1] [.int x] h nx = some (some (.int x), h, nx) := D_ireturn (ins_of mc_210 (pc := 91) (x := (.ireturn, 1)) (by decide +kernel)) mr_210
theorem e_210_92 : Df d 210 92 [.ref a, l1] st h nx = Df d 210 93 [.ref a, l1] (.ref a :: st) h nx := D_aload_n (ins_of mc_210 (pc := 92) (x := (.aload_n 0, 1)) (by decide +kernel)) rfl
theorem e_210_93 : Df d 210 93 [l0, l1] (.ref a :: st) h nx = (gF h a 9 0).bind fun v => Df d 210 96 [l0, l1] (v :: st) h nx := D_getfield (ins_of mc_210 (pc := 93) (x := (.getfield 9, 3)) (by decide +kernel)) mo_210 (by decide +kernel)
theorem e_210_96 : Df d 210 96 [l0, l1] st h nx = Df d 210 97 [l0, l1] (.int 0 :: st) h nx := D_iconst (ins_of mc_210 (pc := 96) (x := (.iconst 0, 1)) (by decide +kernel)) (by decide)
theorem e_210_97 : Df d 210 97 [l0, l1] (.int x :: .ref a :: st) h nx = (rX h a x).bind fun v => Df d 210 98 [l0, l1] (.int v :: st) h nx := D_iaload (ins_of mc_210 (pc := 97) (x := (.iaload, 1)) (by decide +kernel))
theorem e_210_98 : Df d 210 98 [l0, l1] [.int x] h nx = some (some (.int x), h, nx) := D_ireturn (ins_of mc_210 (pc := 98) (x := (.ireturn, 1)) (by decide +kernel)) mr_210
theorem e_210_99 : Df d 210 99 [l0, l1] st h nx = Df d 210 101 [l0, l1] (.int (-1000000001) :: st) h nx := D_ldc (ins_of mc_210 (pc := 99) (x := (.ldc 88, 2)) (by decide +kernel)) mo_210 (by decide +kernel)
theorem e_210_101 : Df d 210 101 [l0, l1] [.int x] h nx = some (some (.int x), h, nx) := D_ireturn (ins_of mc_210 (pc := 101) (x := (.ireturn, 1)) (by decide +kernel)) mr_210
theorem mc_211 : mC 211 = prog_12_method_69_code := rfl
theorem mo_211 : mO 211 = 11 := rfl
theorem ml_211 : mL 211 = 2 := rfl
theorem mr_211 : mR 211 = (some .int) := rfl
theorem ma_211 : mA 211 = 2 := rfl
theorem e_211_0 : Df d 211 0 [.int x, l1] st h nx = Df d 211 1 [.int x, l1] (.int x :: st) h nx := D_iload_n (ins_of mc_211 (pc := 0) (x := (.iload_n 0, 1)) (by decide +kernel)) rfl
theorem e_211_1 : Df d 211 1 [l0, .int x] st h nx = Df d 211 2 [l0, .int x] (.int x :: st) h nx := D_iload_n (ins_of mc_211 (pc := 1) (x := (.iload_n 1, 1)) (by decide +kernel)) rfl
theorem e_211_2 : Df d 211 2 [l0, l1] (.int y :: .int x :: st) h nx = if y < x then Df d 211 9 [l0, l1] st h nx else Df d 211 5 [l0, l1] st h nx := D_icmp_gt (ins_of mc_211 (pc := 2) (x := (.if_icmp .gt 7, 3)) (by decide +kernel)) (by decide)
theorem e_211_5 : Df d 211 5 [.int x, l1] st h nx = Df d 211 6 [.int x, l1] (.int x :: st) h nx := D_iload_n (ins_of mc_211 (pc := 5) (x := (.iload_n 0, 1)) (by decide +kernel)) rfl
theorem e_211_6 : Df d 211 6 [l0, l1] st h nx = Df d 211 10 [l0, l1] st h nx := D_goto (ins_of mc_211 (pc := 6) (x := (.goto 4, 3)) (by decide +kernel)) (by decide)
theorem e_211_9 : Df d 211 9 [l0, .int x] st h nx = Df d 211 10 [l0, .int x] (.int x :: st) h nx := D_iload_n (ins_of mc_211 (pc := 9) (x := (.iload_n 1, 1)) (by decide +kernel)) rfl
theorem e_211_10 : Df d 211 10 [l0, l1] [.int x] h nx = some (some (.int x), h, nx) := D_ireturn (ins_of mc_211 (pc := 10) (x := (.ireturn, 1)) (by decide +kernel)) mr_211
theorem mc_212 : mC 212 = prog_12_method_65_code := rfl
theorem mo_212 : mO 212 = 11 := rfl
theorem ml_212 : mL 212 = 2 := rfl
theorem mr_212 : mR 212 = (some .int) := rfl
theorem ma_212 : mA 212 = 2 := rfl
theorem e_212_0 : Df d 212 0 [.int x, l1] st h nx = Df d 212 1 [.int x, l1] (.int x :: st) h nx := D_iload_n (ins_of mc_212 (pc := 0) (x := (.iload_n 0, 1)) (by decide +kernel)) rfl
theorem e_212_1 : Df d 212 1 [l0, .int x] st h nx = Df d 212 2 [l0, .int x] (.int x :: st) h nx := D_iload_n (ins_of mc_212 (pc := 1) (x := (.iload_n 1, 1)) (by decide +kernel)) rfl
theorem e_212_2 : Df d 212 2 [l0, l1] (.int y :: .int x :: st) h nx = if x < y then Df d 212 9 [l0, l1] st h nx else Df d 212 5 [l0, l1] st h nx := D_icmp_lt (ins_of mc_212 (pc := 2) (x := (.if_icmp .lt 7, 3)) (by decide +kernel)) (by decide)
theorem e_212_5 : Df d 212 5 [.int x, l1] st h nx = Df d 212 6 [.int x, l1] (.int x :: st) h nx := D_iload_n (ins_of mc_212 (pc := 5) (x := (.iload_n 0, 1)) (by decide +kernel)) rfl
theorem e_212_6 : Df d 212 6 [l0, l1] st h nx = Df d 212 10 [l0, l1] st h nx := D_goto (ins_of mc_212 (pc := 6) (x := (.goto 4, 3)) (by decide +kernel)) (by decide)
theorem e_212_9 : Df d 212 9 [l0, .int x] st h nx = Df d 212 10 [l0, .int x] (.int x :: st) h nx := D_iload_n (ins_of mc_212 (pc := 9) (x := (.iload_n 1, 1)) (by decide +kernel)) rfl
theorem e_212_10 : Df d 212 10 [l0, l1] [.int x] h nx = some (some (.int x), h, nx) := D_ireturn (ins_of mc_212 (pc := 10) (x := (.ireturn, 1)) (by decide +kernel)) mr_212
theorem mc_213 : mC 213 = prog_12_method_50_code := rfl
theorem mo_213 : mO 213 = 11 := rfl
theorem ml_213 : mL 213 = 3 := rfl
theorem mr_213 : mR 213 = (some .int) := rfl
theorem ma_213 : mA 213 = 2 := rfl
theorem e_213_0 : Df d 213 0 [.int x, l1, l2] st h nx = Df d 213 1 [.int x, l1, l2] (.int x :: st) h nx := D_iload_n (ins_of mc_213 (pc := 0) (x := (.iload_n 0, 1)) (by decide +kernel)) rfl
theorem e_213_1 : Df d 213 1 [l0, .int x, l2] st h nx = Df d 213 2 [l0, .int x, l2] (.int x :: st) h nx := D_iload_n (ins_of mc_213 (pc := 1) (x := (.iload_n 1, 1)) (by decide +kernel)) rfl
theorem e_213_2 : Df d 213 2 [l0, l1, l2] (.int y :: .int x :: st) h nx = if y = 0 then none else Df d 213 3 [l0, l1, l2] (.int (x - x / y * y) :: st) h nx := D_irem (ins_of mc_213 (pc := 2) (x := (.irem, 1)) (by decide +kernel))
theorem e_213_3 (hn : nr l2 = true) : Df d 213 3 [l0, l1, l2] (.int x :: st) h nx = Df d 213 4 [l0, l1, .int x] st h nx := D_istore_n (ins_of mc_213 (pc := 3) (x := (.istore_n 2, 1)) (by decide +kernel)) rfl hn rfl
theorem e_213_4 : Df d 213 4 [.int x, l1, l2] st h nx = Df d 213 5 [.int x, l1, l2] (.int x :: st) h nx := D_iload_n (ins_of mc_213 (pc := 4) (x := (.iload_n 0, 1)) (by decide +kernel)) rfl
theorem e_213_5 : Df d 213 5 [l0, .int x, l2] st h nx = Df d 213 6 [l0, .int x, l2] (.int x :: st) h nx := D_iload_n (ins_of mc_213 (pc := 5) (x := (.iload_n 1, 1)) (by decide +kernel)) rfl
theorem e_213_6 : Df d 213 6 [l0, l1, l2] (.int y :: .int x :: st) h nx = Df d 213 7 [l0, l1, l2] (.int (x ^^^ y) :: st) h nx := D_ixor (ins_of mc_213 (pc := 6) (x := (.ixor, 1)) (by decide +kernel))
theorem e_213_7 : Df d 213 7 [l0, l1, l2] (.int x :: st) h nx = if 0 ≤ x then Df d 213 18 [l0, l1, l2] st h nx else Df d 213 10 [l0, l1, l2] st h nx := D_if_ge (ins_of mc_213 (pc := 7) (x := (.ifCond .ge 11, 3)) (by decide +kernel)) (by decide)
theorem e_213_10 : Df d 213 10 [l0, l1, .int x] st h nx = Df d 213 11 [l0, l1, .int x] (.int x :: st) h nx := D_iload_n (ins_of mc_213 (pc := 10) (x := (.iload_n 2, 1)) (by decide +kernel)) rfl
theorem e_213_11 : Df d 213 11 [l0, l1, l2] (.int x :: st) h nx = if x = 0 then Df d 213 18 [l0, l1, l2] st h nx else Df d 213 14 [l0, l1, l2] st h nx := D_if_eq (ins_of mc_213 (pc := 11) (x := (.ifCond .eq 7, 3)) (by decide +kernel)) (by decide)
theorem e_213_14 : Df d 213 14 [l0, l1, .int x] st h nx = Df d 213 15 [l0, l1, .int x] (.int x :: st) h nx := D_iload_n (ins_of mc_213 (pc := 14) (x := (.iload_n 2, 1)) (by decide +kernel)) rfl
theorem e_213_15 : Df d 213 15 [l0, .int x, l2] st h nx = Df d 213 16 [l0, .int x, l2] (.int x :: st) h nx := D_iload_n (ins_of mc_213 (pc := 15) (x := (.iload_n 1, 1)) (by decide +kernel)) rfl
theorem e_213_16 : Df d 213 16 [l0, l1, l2] (.int y :: .int x :: st) h nx = Df d 213 17 [l0, l1, l2] (.int (x + y) :: st) h nx := D_iadd (ins_of mc_213 (pc := 16) (x := (.iadd, 1)) (by decide +kernel))
theorem e_213_17 : Df d 213 17 [l0, l1, l2] [.int x] h nx = some (some (.int x), h, nx) := D_ireturn (ins_of mc_213 (pc := 17) (x := (.ireturn, 1)) (by decide +kernel)) mr_213
theorem e_213_18 : Df d 213 18 [l0, l1, .int x] st h nx = Df d 213 19 [l0, l1, .int x] (.int x :: st) h nx := D_iload_n (ins_of mc_213 (pc := 18) (x := (.iload_n 2, 1)) (by decide +kernel)) rfl
theorem e_213_19 : Df d 213 19 [l0, l1, l2] [.int x] h nx = some (some (.int x), h, nx) := D_ireturn (ins_of mc_213 (pc := 19) (x := (.ireturn, 1)) (by decide +kernel)) mr_213
theorem mc_214 : mC 214 = prog_12_method_59_code := rfl
theorem mo_214 : mO 214 = 11 := rfl
theorem ml_214 : mL 214 = 1 := rfl
theorem mr_214 : mR 214 = (some .int) := rfl
theorem ma_214 : mA 214 = 1 := rfl
theorem e_214_0 : Df d 214 0 [.int x] st h nx = Df d 214 1 [.int x] (.int x :: st) h nx := D_iload_n (ins_of mc_214 (pc := 0) (x := (.iload_n 0, 1)) (by decide +kernel)) rfl
theorem e_214_1 : Df d 214 1 [l0] (.int x :: st) h nx = if 0 ≤ x then Df d 214 9 [l0] st h nx else Df d 214 4 [l0] st h nx := D_if_ge (ins_of mc_214 (pc := 1) (x := (.ifCond .ge 8, 3)) (by decide +kernel)) (by decide)
theorem e_214_4 : Df d 214 4 [.int x] st h nx = Df d 214 5 [.int x] (.int x :: st) h nx := D_iload_n (ins_of mc_214 (pc := 4) (x := (.iload_n 0, 1)) (by decide +kernel)) rfl
theorem e_214_5 : Df d 214 5 [l0] (.int x :: st) h nx = Df d 214 6 [l0] (.int (-x) :: st) h nx := D_ineg (ins_of mc_214 (pc := 5) (x := (.ineg, 1)) (by decide +kernel))
theorem e_214_6 : Df d 214 6 [l0] st h nx = Df d 214 10 [l0] st h nx := D_goto (ins_of mc_214 (pc := 6) (x := (.goto 4, 3)) (by decide +kernel)) (by decide)
theorem e_214_9 : Df d 214 9 [.int x] st h nx = Df d 214 10 [.int x] (.int x :: st) h nx := D_iload_n (ins_of mc_214 (pc := 9) (x := (.iload_n 0, 1)) (by decide +kernel)) rfl
theorem e_214_10 : Df d 214 10 [l0] [.int x] h nx = some (some (.int x), h, nx) := D_ireturn (ins_of mc_214 (pc := 10) (x := (.ireturn, 1)) (by decide +kernel)) mr_214
end EE
