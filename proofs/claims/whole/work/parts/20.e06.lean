section EE
variable {d : Nat} {l0 l1 l2 l3 l4 l5 l6 l7 l8 l9 l10 l11 : Value} {st : List Value} {h : AH} {nx : AN} {x y z : Int32} {xl yl : Int64} {a b : Nat} {s0 s1 s2 s3 s4 s5 v0 v1 v2 v3 v4 v5 : Value}
theorem mc_181 : mC 181 = prog_11_method_69_code := rfl
theorem mo_181 : mO 181 = 9 := rfl
theorem ml_181 : mL 181 = 4 := rfl
theorem mr_181 : mR 181 = (some .int) := rfl
theorem ma_181 : mA 181 = 0 := rfl
theorem e_181_0 : Df d 181 0 [.ref a, l1, l2, l3] st h nx = Df d 181 1 [.ref a, l1, l2, l3] (.ref a :: st) h nx := D_aload_n (ins_of mc_181 (pc := 0) (x := (.aload_n 0, 1)) (by decide +kernel)) rfl
theorem e_181_1 : Df d 181 1 [l0, l1, l2, l3] st h nx = Df d 181 2 [l0, l1, l2, l3] (.int 0 :: st) h nx := D_iconst (ins_of mc_181 (pc := 1) (x := (.iconst 0, 1)) (by decide +kernel)) (by decide)
theorem e_181_2 : Df d 181 2 [l0, l1, l2, l3] (.int x :: .ref a :: st) h nx = (pF h a 9 8 (.int x)).bind fun h => Df d 181 5 [l0, l1, l2, l3] st h nx := D_putfield (ins_of mc_181 (pc := 2) (x := (.putfield 204, 3)) (by decide +kernel)) mo_181 (by decide +kernel) rfl (Or.inl rfl)
theorem e_181_5 : Df d 181 5 [.ref a, l1, l2, l3] st h nx = Df d 181 6 [.ref a, l1, l2, l3] (.ref a :: st) h nx := D_aload_n (ins_of mc_181 (pc := 5) (x := (.aload_n 0, 1)) (by decide +kernel)) rfl
theorem e_181_6 : Df d 181 6 [l0, l1, l2, l3] st h nx = Df d 181 7 [l0, l1, l2, l3] (.int (-1) :: st) h nx := D_iconst (ins_of mc_181 (pc := 6) (x := (.iconst (-1), 1)) (by decide +kernel)) (by decide)
theorem e_181_7 : Df d 181 7 [l0, l1, l2, l3] (.int x :: .ref a :: st) h nx = (pF h a 9 12 (.int x)).bind fun h => Df d 181 10 [l0, l1, l2, l3] st h nx := D_putfield (ins_of mc_181 (pc := 7) (x := (.putfield 210, 3)) (by decide +kernel)) mo_181 (by decide +kernel) rfl (Or.inl rfl)
theorem e_181_10 : Df d 181 10 [.ref a, l1, l2, l3] st h nx = Df d 181 11 [.ref a, l1, l2, l3] (.ref a :: st) h nx := D_aload_n (ins_of mc_181 (pc := 10) (x := (.aload_n 0, 1)) (by decide +kernel)) rfl
theorem e_181_11 : Df d 181 11 [l0, l1, l2, l3] [.ref a] h nx = if ck h a 9 = true then cn d 181 14 [l0, l1, l2, l3] [] (Dn d 182 [.ref a] h nx) else none := D_virtual (k1 := 182) (ins_of mc_181 (pc := 11) (x := (.invokevirtual 228, 3)) (by decide +kernel)) mo_181 (by decide +kernel) (by decide) rfl rfl (by decide) rfl (Nat.le_of_ble_eq_true rfl) rfl
theorem e_181_14 : Df d 181 14 [.ref a, l1, l2, l3] st h nx = Df d 181 15 [.ref a, l1, l2, l3] (.ref a :: st) h nx := D_aload_n (ins_of mc_181 (pc := 14) (x := (.aload_n 0, 1)) (by decide +kernel)) rfl
theorem e_181_15 : Df d 181 15 [l0, l1, l2, l3] [.ref a] h nx = if ck h a 9 = true then cn d 181 18 [l0, l1, l2, l3] [] (Dn d 185 [.ref a] h nx) else none := D_virtual (k1 := 185) (ins_of mc_181 (pc := 15) (x := (.invokevirtual 259, 3)) (by decide +kernel)) mo_181 (by decide +kernel) (by decide) rfl rfl (by decide) rfl (Nat.le_of_ble_eq_true rfl) rfl
theorem e_181_18 : Df d 181 18 [l0, l1, l2, l3] (.int x :: st) h nx = if x = 0 then Df d 181 32 [l0, l1, l2, l3] st h nx else Df d 181 21 [l0, l1, l2, l3] st h nx := D_if_eq (ins_of mc_181 (pc := 18) (x := (.ifCond .eq 14, 3)) (by decide +kernel)) (by decide)
theorem e_181_21 : Df d 181 21 [.ref a, l1, l2, l3] st h nx = Df d 181 22 [.ref a, l1, l2, l3] (.ref a :: st) h nx := D_aload_n (ins_of mc_181 (pc := 21) (x := (.aload_n 0, 1)) (by decide +kernel)) rfl
theorem e_181_22 : Df d 181 22 [l0, l1, l2, l3] [.ref a] h nx = if ck h a 9 = true then cn d 181 25 [l0, l1, l2, l3] [] (Dn d 186 [.ref a] h nx) else none := D_virtual (k1 := 186) (ins_of mc_181 (pc := 22) (x := (.invokevirtual 262, 3)) (by decide +kernel)) mo_181 (by decide +kernel) (by decide) rfl rfl (by decide) rfl (Nat.le_of_ble_eq_true rfl) rfl
theorem e_181_25 : Df d 181 25 [l0, l1, l2, l3] (.int x :: st) h nx = if x = 0 then Df d 181 32 [l0, l1, l2, l3] st h nx else Df d 181 28 [l0, l1, l2, l3] st h nx := D_if_eq (ins_of mc_181 (pc := 25) (x := (.ifCond .eq 7, 3)) (by decide +kernel)) (by decide)
theorem e_181_28 : Df d 181 28 [l0, l1, l2, l3] st h nx = Df d 181 29 [l0, l1, l2, l3] (.int 1 :: st) h nx := D_iconst (ins_of mc_181 (pc := 28) (x := (.iconst 1, 1)) (by decide +kernel)) (by decide)
theorem e_181_29 : Df d 181 29 [l0, l1, l2, l3] st h nx = Df d 181 33 [l0, l1, l2, l3] st h nx := D_goto (ins_of mc_181 (pc := 29) (x := (.goto 4, 3)) (by decide +kernel)) (by decide)
theorem e_181_32 : Df d 181 32 [l0, l1, l2, l3] st h nx = Df d 181 33 [l0, l1, l2, l3] (.int 0 :: st) h nx := D_iconst (ins_of mc_181 (pc := 32) (x := (.iconst 0, 1)) (by decide +kernel)) (by decide)
theorem e_181_33 (hn : nr l1 = true) : Df d 181 33 [l0, l1, l2, l3] (.int x :: st) h nx = Df d 181 34 [l0, .int x, l2, l3] st h nx := D_istore_n (ins_of mc_181 (pc := 33) (x := (.istore_n 1, 1)) (by decide +kernel)) rfl hn rfl
theorem e_181_34 : Df d 181 34 [.ref a, l1, l2, l3] st h nx = Df d 181 35 [.ref a, l1, l2, l3] (.ref a :: st) h nx := D_aload_n (ins_of mc_181 (pc := 34) (x := (.aload_n 0, 1)) (by decide +kernel)) rfl
theorem e_181_35 : Df d 181 35 [l0, l1, l2, l3] st h nx = Df d 181 36 [l0, l1, l2, l3] (.int 0 :: st) h nx := D_iconst (ins_of mc_181 (pc := 35) (x := (.iconst 0, 1)) (by decide +kernel)) (by decide)
theorem e_181_36 : Df d 181 36 [l0, l1, l2, l3] (.int x :: .ref a :: st) h nx = (pF h a 9 7 (.int x)).bind fun h => Df d 181 39 [l0, l1, l2, l3] st h nx := D_putfield (ins_of mc_181 (pc := 36) (x := (.putfield 200, 3)) (by decide +kernel)) mo_181 (by decide +kernel) rfl (Or.inl rfl)
theorem e_181_39 : Df d 181 39 [l0, .int x, l2, l3] st h nx = Df d 181 40 [l0, .int x, l2, l3] (.int x :: st) h nx := D_iload_n (ins_of mc_181 (pc := 39) (x := (.iload_n 1, 1)) (by decide +kernel)) rfl
theorem e_181_40 : Df d 181 40 [l0, l1, l2, l3] (.int x :: st) h nx = if x = 0 then Df d 181 43 [l0, l1, l2, l3] st h nx else Df d 181 51 [l0, l1, l2, l3] st h nx := D_if_ne (ins_of mc_181 (pc := 40) (x := (.ifCond .ne 11, 3)) (by decide +kernel)) (by decide)
theorem e_181_43 : Df d 181 43 [l0, l1, l2, l3] st h nx = Df d 181 45 [l0, l1, l2, l3] (.int (-100) :: st) h nx := D_bipush (ins_of mc_181 (pc := 43) (x := (.bipush (-100), 2)) (by decide +kernel)) (by decide)
theorem e_181_45 : Df d 181 45 [.ref a, l1, l2, l3] st h nx = Df d 181 46 [.ref a, l1, l2, l3] (.ref a :: st) h nx := D_aload_n (ins_of mc_181 (pc := 45) (x := (.aload_n 0, 1)) (by decide +kernel)) rfl
theorem e_181_46 : Df d 181 46 [l0, l1, l2, l3] (.ref a :: st) h nx = (gF h a 9 9).bind fun v => Df d 181 49 [l0, l1, l2, l3] (v :: st) h nx := D_getfield (ins_of mc_181 (pc := 46) (x := (.getfield 207, 3)) (by decide +kernel)) mo_181 (by decide +kernel)
theorem e_181_49 : Df d 181 49 [l0, l1, l2, l3] (.int y :: .int x :: st) h nx = Df d 181 50 [l0, l1, l2, l3] (.int (x - y) :: st) h nx := D_isub (ins_of mc_181 (pc := 49) (x := (.isub, 1)) (by decide +kernel))
theorem e_181_50 : Df d 181 50 [l0, l1, l2, l3] [.int x] h nx = some (some (.int x), h, nx) := D_ireturn (ins_of mc_181 (pc := 50) (x := (.ireturn, 1)) (by decide +kernel)) mr_181
theorem e_181_51 : Df d 181 51 [.ref a, l1, l2, l3] st h nx = Df d 181 52 [.ref a, l1, l2, l3] (.ref a :: st) h nx := D_aload_n (ins_of mc_181 (pc := 51) (x := (.aload_n 0, 1)) (by decide +kernel)) rfl
theorem e_181_52 : Df d 181 52 [l0, l1, l2, l3] (.ref a :: st) h nx = (gF h a 9 0).bind fun v => Df d 181 55 [l0, l1, l2, l3] (v :: st) h nx := D_getfield (ins_of mc_181 (pc := 52) (x := (.getfield 9, 3)) (by decide +kernel)) mo_181 (by decide +kernel)
theorem e_181_55 : Df d 181 55 [l0, l1, l2, l3] st h nx = Df d 181 57 [l0, l1, l2, l3] (.int 10 :: st) h nx := D_bipush (ins_of mc_181 (pc := 55) (x := (.bipush 10, 2)) (by decide +kernel)) (by decide)
theorem e_181_57 : Df d 181 57 [l0, l1, l2, l3] (.int x :: .ref a :: st) h nx = (rX h a x).bind fun v => Df d 181 58 [l0, l1, l2, l3] (.int v :: st) h nx := D_iaload (ins_of mc_181 (pc := 57) (x := (.iaload, 1)) (by decide +kernel))
theorem e_181_58 : Df d 181 58 [l0, l1, l2, l3] st h nx = Df d 181 60 [l0, l1, l2, l3] (.int 14 :: st) h nx := D_bipush (ins_of mc_181 (pc := 58) (x := (.bipush 14, 2)) (by decide +kernel)) (by decide)
theorem e_181_60 : Df d 181 60 [l0, l1, l2, l3] (.int y :: .int x :: st) h nx = if x = y then Df d 181 63 [l0, l1, l2, l3] st h nx else Df d 181 66 [l0, l1, l2, l3] st h nx := D_icmp_ne (ins_of mc_181 (pc := 60) (x := (.if_icmp .ne 6, 3)) (by decide +kernel)) (by decide)
theorem e_181_63 : Df d 181 63 [l0, l1, l2, l3] st h nx = Df d 181 65 [l0, l1, l2, l3] (.int (-1000000003) :: st) h nx := D_ldc (ins_of mc_181 (pc := 63) (x := (.ldc 89, 2)) (by decide +kernel)) mo_181 (by decide +kernel)
theorem e_181_65 : Df d 181 65 [l0, l1, l2, l3] [.int x] h nx = some (some (.int x), h, nx) := D_ireturn (ins_of mc_181 (pc := 65) (x := (.ireturn, 1)) (by decide +kernel)) mr_181
theorem e_181_66 : Df d 181 66 [.ref a, l1, l2, l3] st h nx = Df d 181 67 [.ref a, l1, l2, l3] (.ref a :: st) h nx := D_aload_n (ins_of mc_181 (pc := 66) (x := (.aload_n 0, 1)) (by decide +kernel)) rfl
theorem e_181_67 : Df d 181 67 [l0, l1, l2, l3] (.ref a :: st) h nx = (gF h a 9 0).bind fun v => Df d 181 70 [l0, l1, l2, l3] (v :: st) h nx := D_getfield (ins_of mc_181 (pc := 67) (x := (.getfield 9, 3)) (by decide +kernel)) mo_181 (by decide +kernel)
theorem e_181_70 : Df d 181 70 [l0, l1, l2, l3] st h nx = Df d 181 72 [l0, l1, l2, l3] (.int 10 :: st) h nx := D_bipush (ins_of mc_181 (pc := 70) (x := (.bipush 10, 2)) (by decide +kernel)) (by decide)
theorem e_181_72 : Df d 181 72 [l0, l1, l2, l3] (.int x :: .ref a :: st) h nx = (rX h a x).bind fun v => Df d 181 73 [l0, l1, l2, l3] (.int v :: st) h nx := D_iaload (ins_of mc_181 (pc := 72) (x := (.iaload, 1)) (by decide +kernel))
theorem e_181_73 (hn : nr l2 = true) : Df d 181 73 [l0, l1, l2, l3] (.int x :: st) h nx = Df d 181 74 [l0, l1, .int x, l3] st h nx := D_istore_n (ins_of mc_181 (pc := 73) (x := (.istore_n 2, 1)) (by decide +kernel)) rfl hn rfl
theorem e_181_74 : Df d 181 74 [.ref a, l1, l2, l3] st h nx = Df d 181 75 [.ref a, l1, l2, l3] (.ref a :: st) h nx := D_aload_n (ins_of mc_181 (pc := 74) (x := (.aload_n 0, 1)) (by decide +kernel)) rfl
theorem e_181_75 : Df d 181 75 [l0, l1, l2, l3] (.ref a :: st) h nx = (gF h a 9 0).bind fun v => Df d 181 78 [l0, l1, l2, l3] (v :: st) h nx := D_getfield (ins_of mc_181 (pc := 75) (x := (.getfield 9, 3)) (by decide +kernel)) mo_181 (by decide +kernel)
theorem e_181_78 : Df d 181 78 [l0, l1, l2, l3] st h nx = Df d 181 80 [l0, l1, l2, l3] (.int 95 :: st) h nx := D_bipush (ins_of mc_181 (pc := 78) (x := (.bipush 95, 2)) (by decide +kernel)) (by decide)
theorem e_181_80 : Df d 181 80 [l0, l1, l2, l3] st h nx = Df d 181 81 [l0, l1, l2, l3] (.int 2 :: st) h nx := D_iconst (ins_of mc_181 (pc := 80) (x := (.iconst 2, 1)) (by decide +kernel)) (by decide)
theorem e_181_81 : Df d 181 81 [l0, l1, .int x, l3] st h nx = Df d 181 82 [l0, l1, .int x, l3] (.int x :: st) h nx := D_iload_n (ins_of mc_181 (pc := 81) (x := (.iload_n 2, 1)) (by decide +kernel)) rfl
theorem e_181_82 : Df d 181 82 [l0, l1, l2, l3] (.int y :: .int x :: st) h nx = Df d 181 83 [l0, l1, l2, l3] (.int (x * y) :: st) h nx := D_imul (ins_of mc_181 (pc := 82) (x := (.imul, 1)) (by decide +kernel))
theorem e_181_83 : Df d 181 83 [l0, l1, l2, l3] (.int y :: .int x :: st) h nx = Df d 181 84 [l0, l1, l2, l3] (.int (x + y) :: st) h nx := D_iadd (ins_of mc_181 (pc := 83) (x := (.iadd, 1)) (by decide +kernel))
theorem e_181_84 : Df d 181 84 [l0, l1, l2, l3] st h nx = Df d 181 87 [l0, l1, l2, l3] (.int 1000 :: st) h nx := D_sipush (ins_of mc_181 (pc := 84) (x := (.sipush 1000, 3)) (by decide +kernel)) (by decide)
theorem e_181_87 : Df d 181 87 [.ref a, l1, l2, l3] st h nx = Df d 181 88 [.ref a, l1, l2, l3] (.ref a :: st) h nx := D_aload_n (ins_of mc_181 (pc := 87) (x := (.aload_n 0, 1)) (by decide +kernel)) rfl
theorem e_181_88 : Df d 181 88 [l0, l1, l2, l3] (.ref a :: st) h nx = (gF h a 9 13).bind fun v => Df d 181 91 [l0, l1, l2, l3] (v :: st) h nx := D_getfield (ins_of mc_181 (pc := 88) (x := (.getfield 225, 3)) (by decide +kernel)) mo_181 (by decide +kernel)
theorem e_181_91 : Df d 181 91 [l0, l1, l2, l3] (.int y :: .int x :: st) h nx = Df d 181 92 [l0, l1, l2, l3] (.int (x * y) :: st) h nx := D_imul (ins_of mc_181 (pc := 91) (x := (.imul, 1)) (by decide +kernel))
theorem e_181_92 : Df d 181 92 [.ref a, l1, l2, l3] st h nx = Df d 181 93 [.ref a, l1, l2, l3] (.ref a :: st) h nx := D_aload_n (ins_of mc_181 (pc := 92) (x := (.aload_n 0, 1)) (by decide +kernel)) rfl
theorem e_181_93 : Df d 181 93 [l0, l1, l2, l3] (.ref a :: st) h nx = (gF h a 9 17).bind fun v => Df d 181 96 [l0, l1, l2, l3] (v :: st) h nx := D_getfield (ins_of mc_181 (pc := 93) (x := (.getfield 237, 3)) (by decide +kernel)) mo_181 (by decide +kernel)
theorem e_181_96 : Df d 181 96 [l0, l1, l2, l3] (.int y :: .int x :: st) h nx = Df d 181 97 [l0, l1, l2, l3] (.int (x + y) :: st) h nx := D_iadd (ins_of mc_181 (pc := 96) (x := (.iadd, 1)) (by decide +kernel))
theorem e_181_97 : Df d 181 97 [l0, l1, l2, l3] (.int y :: .int x :: .ref a :: st) h nx = (wI h a x 0 y).bind fun h => Df d 181 98 [l0, l1, l2, l3] st h nx := D_iastore (ins_of mc_181 (pc := 97) (x := (.iastore, 1)) (by decide +kernel))
theorem e_181_98 : Df d 181 98 [.ref a, l1, l2, l3] st h nx = Df d 181 99 [.ref a, l1, l2, l3] (.ref a :: st) h nx := D_aload_n (ins_of mc_181 (pc := 98) (x := (.aload_n 0, 1)) (by decide +kernel)) rfl
theorem e_181_99 : Df d 181 99 [l0, l1, l2, l3] (.ref a :: st) h nx = (gF h a 9 0).bind fun v => Df d 181 102 [l0, l1, l2, l3] (v :: st) h nx := D_getfield (ins_of mc_181 (pc := 99) (x := (.getfield 9, 3)) (by decide +kernel)) mo_181 (by decide +kernel)
theorem e_181_102 : Df d 181 102 [l0, l1, l2, l3] st h nx = Df d 181 104 [l0, l1, l2, l3] (.int 95 :: st) h nx := D_bipush (ins_of mc_181 (pc := 102) (x := (.bipush 95, 2)) (by decide +kernel)) (by decide)
theorem e_181_104 : Df d 181 104 [l0, l1, l2, l3] st h nx = Df d 181 105 [l0, l1, l2, l3] (.int 2 :: st) h nx := D_iconst (ins_of mc_181 (pc := 104) (x := (.iconst 2, 1)) (by decide +kernel)) (by decide)
theorem e_181_105 : Df d 181 105 [l0, l1, .int x, l3] st h nx = Df d 181 106 [l0, l1, .int x, l3] (.int x :: st) h nx := D_iload_n (ins_of mc_181 (pc := 105) (x := (.iload_n 2, 1)) (by decide +kernel)) rfl
theorem e_181_106 : Df d 181 106 [l0, l1, l2, l3] (.int y :: .int x :: st) h nx = Df d 181 107 [l0, l1, l2, l3] (.int (x * y) :: st) h nx := D_imul (ins_of mc_181 (pc := 106) (x := (.imul, 1)) (by decide +kernel))
theorem e_181_107 : Df d 181 107 [l0, l1, l2, l3] (.int y :: .int x :: st) h nx = Df d 181 108 [l0, l1, l2, l3] (.int (x + y) :: st) h nx := D_iadd (ins_of mc_181 (pc := 107) (x := (.iadd, 1)) (by decide +kernel))
theorem e_181_108 : Df d 181 108 [l0, l1, l2, l3] st h nx = Df d 181 109 [l0, l1, l2, l3] (.int 1 :: st) h nx := D_iconst (ins_of mc_181 (pc := 108) (x := (.iconst 1, 1)) (by decide +kernel)) (by decide)
theorem e_181_109 : Df d 181 109 [l0, l1, l2, l3] (.int y :: .int x :: st) h nx = Df d 181 110 [l0, l1, l2, l3] (.int (x + y) :: st) h nx := D_iadd (ins_of mc_181 (pc := 109) (x := (.iadd, 1)) (by decide +kernel))
theorem e_181_110 : Df d 181 110 [.ref a, l1, l2, l3] st h nx = Df d 181 111 [.ref a, l1, l2, l3] (.ref a :: st) h nx := D_aload_n (ins_of mc_181 (pc := 110) (x := (.aload_n 0, 1)) (by decide +kernel)) rfl
theorem e_181_111 : Df d 181 111 [l0, l1, l2, l3] (.ref a :: st) h nx = (gF h a 9 18).bind fun v => Df d 181 114 [l0, l1, l2, l3] (v :: st) h nx := D_getfield (ins_of mc_181 (pc := 111) (x := (.getfield 243, 3)) (by decide +kernel)) mo_181 (by decide +kernel)
theorem e_181_114 : Df d 181 114 [l0, l1, l2, l3] (.int y :: .int x :: .ref a :: st) h nx = (wI h a x 0 y).bind fun h => Df d 181 115 [l0, l1, l2, l3] st h nx := D_iastore (ins_of mc_181 (pc := 114) (x := (.iastore, 1)) (by decide +kernel))
theorem e_181_115 : Df d 181 115 [l0, l1, l2, l3] st h nx = Df d 181 116 [l0, l1, l2, l3] (.int 0 :: st) h nx := D_iconst (ins_of mc_181 (pc := 115) (x := (.iconst 0, 1)) (by decide +kernel)) (by decide)
theorem e_181_116 (hn : nr l3 = true) : Df d 181 116 [l0, l1, l2, l3] (.int x :: st) h nx = Df d 181 117 [l0, l1, l2, .int x] st h nx := D_istore_n (ins_of mc_181 (pc := 116) (x := (.istore_n 3, 1)) (by decide +kernel)) rfl hn rfl
theorem e_181_117 : Df d 181 117 [l0, l1, l2, .int x] st h nx = Df d 181 118 [l0, l1, l2, .int x] (.int x :: st) h nx := D_iload_n (ins_of mc_181 (pc := 117) (x := (.iload_n 3, 1)) (by decide +kernel)) rfl
theorem e_181_118 : Df d 181 118 [.ref a, l1, l2, l3] st h nx = Df d 181 119 [.ref a, l1, l2, l3] (.ref a :: st) h nx := D_aload_n (ins_of mc_181 (pc := 118) (x := (.aload_n 0, 1)) (by decide +kernel)) rfl
theorem e_181_119 : Df d 181 119 [l0, l1, l2, l3] (.ref a :: st) h nx = (gF h a 9 17).bind fun v => Df d 181 122 [l0, l1, l2, l3] (v :: st) h nx := D_getfield (ins_of mc_181 (pc := 119) (x := (.getfield 237, 3)) (by decide +kernel)) mo_181 (by decide +kernel)
theorem e_181_122 : Df d 181 122 [l0, l1, l2, l3] (.int y :: .int x :: st) h nx = if y ≤ x then Df d 181 151 [l0, l1, l2, l3] st h nx else Df d 181 125 [l0, l1, l2, l3] st h nx := D_icmp_ge (ins_of mc_181 (pc := 122) (x := (.if_icmp .ge 29, 3)) (by decide +kernel)) (by decide)
theorem e_181_125 : Df d 181 125 [.ref a, l1, l2, l3] st h nx = Df d 181 126 [.ref a, l1, l2, l3] (.ref a :: st) h nx := D_aload_n (ins_of mc_181 (pc := 125) (x := (.aload_n 0, 1)) (by decide +kernel)) rfl
theorem e_181_126 : Df d 181 126 [l0, l1, l2, l3] (.ref a :: st) h nx = (gF h a 9 0).bind fun v => Df d 181 129 [l0, l1, l2, l3] (v :: st) h nx := D_getfield (ins_of mc_181 (pc := 126) (x := (.getfield 9, 3)) (by decide +kernel)) mo_181 (by decide +kernel)
theorem e_181_129 : Df d 181 129 [l0, l1, l2, l3] st h nx = Df d 181 131 [l0, l1, l2, l3] (.int 123 :: st) h nx := D_bipush (ins_of mc_181 (pc := 129) (x := (.bipush 123, 2)) (by decide +kernel)) (by decide)
theorem e_181_131 : Df d 181 131 [l0, l1, l2, l3] st h nx = Df d 181 133 [l0, l1, l2, l3] (.int 96 :: st) h nx := D_bipush (ins_of mc_181 (pc := 131) (x := (.bipush 96, 2)) (by decide +kernel)) (by decide)
theorem e_181_133 : Df d 181 133 [l0, l1, .int x, l3] st h nx = Df d 181 134 [l0, l1, .int x, l3] (.int x :: st) h nx := D_iload_n (ins_of mc_181 (pc := 133) (x := (.iload_n 2, 1)) (by decide +kernel)) rfl
theorem e_181_134 : Df d 181 134 [l0, l1, l2, l3] (.int y :: .int x :: st) h nx = Df d 181 135 [l0, l1, l2, l3] (.int (x * y) :: st) h nx := D_imul (ins_of mc_181 (pc := 134) (x := (.imul, 1)) (by decide +kernel))
theorem e_181_135 : Df d 181 135 [l0, l1, l2, l3] (.int y :: .int x :: st) h nx = Df d 181 136 [l0, l1, l2, l3] (.int (x + y) :: st) h nx := D_iadd (ins_of mc_181 (pc := 135) (x := (.iadd, 1)) (by decide +kernel))
theorem e_181_136 : Df d 181 136 [l0, l1, l2, .int x] st h nx = Df d 181 137 [l0, l1, l2, .int x] (.int x :: st) h nx := D_iload_n (ins_of mc_181 (pc := 136) (x := (.iload_n 3, 1)) (by decide +kernel)) rfl
theorem e_181_137 : Df d 181 137 [l0, l1, l2, l3] (.int y :: .int x :: st) h nx = Df d 181 138 [l0, l1, l2, l3] (.int (x + y) :: st) h nx := D_iadd (ins_of mc_181 (pc := 137) (x := (.iadd, 1)) (by decide +kernel))
theorem e_181_138 : Df d 181 138 [.ref a, l1, l2, l3] st h nx = Df d 181 139 [.ref a, l1, l2, l3] (.ref a :: st) h nx := D_aload_n (ins_of mc_181 (pc := 138) (x := (.aload_n 0, 1)) (by decide +kernel)) rfl
theorem e_181_139 : Df d 181 139 [l0, l1, l2, l3] (.ref a :: st) h nx = (gF h a 9 16).bind fun v => Df d 181 142 [l0, l1, l2, l3] (v :: st) h nx := D_getfield (ins_of mc_181 (pc := 139) (x := (.getfield 32, 3)) (by decide +kernel)) mo_181 (by decide +kernel)
theorem e_181_142 : Df d 181 142 [l0, l1, l2, .int x] st h nx = Df d 181 143 [l0, l1, l2, .int x] (.int x :: st) h nx := D_iload_n (ins_of mc_181 (pc := 142) (x := (.iload_n 3, 1)) (by decide +kernel)) rfl
theorem e_181_143 : Df d 181 143 [l0, l1, l2, l3] (.int x :: .ref a :: st) h nx = (rX h a x).bind fun v => Df d 181 144 [l0, l1, l2, l3] (.int v :: st) h nx := D_iaload (ins_of mc_181 (pc := 143) (x := (.iaload, 1)) (by decide +kernel))
theorem e_181_144 : Df d 181 144 [l0, l1, l2, l3] (.int y :: .int x :: .ref a :: st) h nx = (wI h a x 0 y).bind fun h => Df d 181 145 [l0, l1, l2, l3] st h nx := D_iastore (ins_of mc_181 (pc := 144) (x := (.iastore, 1)) (by decide +kernel))
theorem e_181_145 : Df d 181 145 [l0, l1, l2, .int x] st h nx = Df d 181 148 [l0, l1, l2, .int (x + 1)] st h nx := D_iinc (ins_of mc_181 (pc := 145) (x := (.iinc 3 1, 3)) (by decide +kernel)) rfl (by decide) rfl
theorem e_181_148 : Df d 181 148 [l0, l1, l2, l3] st h nx = Df d 181 117 [l0, l1, l2, l3] st h nx := D_goto (ins_of mc_181 (pc := 148) (x := (.goto (-31), 3)) (by decide +kernel)) (by decide)
theorem e_181_151 : Df d 181 151 [.ref a, l1, l2, l3] st h nx = Df d 181 152 [.ref a, l1, l2, l3] (.ref a :: st) h nx := D_aload_n (ins_of mc_181 (pc := 151) (x := (.aload_n 0, 1)) (by decide +kernel)) rfl
theorem e_181_152 : Df d 181 152 [l0, l1, l2, l3] (.ref a :: st) h nx = (gF h a 9 0).bind fun v => Df d 181 155 [l0, l1, l2, l3] (v :: st) h nx := D_getfield (ins_of mc_181 (pc := 152) (x := (.getfield 9, 3)) (by decide +kernel)) mo_181 (by decide +kernel)
theorem e_181_155 : Df d 181 155 [l0, l1, l2, l3] st h nx = Df d 181 157 [l0, l1, l2, l3] (.int 10 :: st) h nx := D_bipush (ins_of mc_181 (pc := 155) (x := (.bipush 10, 2)) (by decide +kernel)) (by decide)
theorem e_181_157 (hv : v0.category = 1) (hw : v1.category = 1) : Df d 181 157 [l0, l1, l2, l3] (v0 :: v1 :: st) h nx = Df d 181 158 [l0, l1, l2, l3] (v0 :: v1 :: v0 :: v1 :: st) h nx := D_dup2 (ins_of mc_181 (pc := 157) (x := (.dup2, 1)) (by decide +kernel)) hv hw
theorem e_181_158 : Df d 181 158 [l0, l1, l2, l3] (.int x :: .ref a :: st) h nx = (rX h a x).bind fun v => Df d 181 159 [l0, l1, l2, l3] (.int v :: st) h nx := D_iaload (ins_of mc_181 (pc := 158) (x := (.iaload, 1)) (by decide +kernel))
theorem e_181_159 : Df d 181 159 [l0, l1, l2, l3] st h nx = Df d 181 160 [l0, l1, l2, l3] (.int 1 :: st) h nx := D_iconst (ins_of mc_181 (pc := 159) (x := (.iconst 1, 1)) (by decide +kernel)) (by decide)
theorem e_181_160 : Df d 181 160 [l0, l1, l2, l3] (.int y :: .int x :: st) h nx = Df d 181 161 [l0, l1, l2, l3] (.int (x + y) :: st) h nx := D_iadd (ins_of mc_181 (pc := 160) (x := (.iadd, 1)) (by decide +kernel))
theorem e_181_161 : Df d 181 161 [l0, l1, l2, l3] (.int y :: .int x :: .ref a :: st) h nx = (wI h a x 0 y).bind fun h => Df d 181 162 [l0, l1, l2, l3] st h nx := D_iastore (ins_of mc_181 (pc := 161) (x := (.iastore, 1)) (by decide +kernel))
theorem e_181_162 : Df d 181 162 [l0, l1, .int x, l3] st h nx = Df d 181 163 [l0, l1, .int x, l3] (.int x :: st) h nx := D_iload_n (ins_of mc_181 (pc := 162) (x := (.iload_n 2, 1)) (by decide +kernel)) rfl
theorem e_181_163 : Df d 181 163 [l0, l1, l2, l3] [.int x] h nx = some (some (.int x), h, nx) := D_ireturn (ins_of mc_181 (pc := 163) (x := (.ireturn, 1)) (by decide +kernel)) mr_181
theorem mc_182 : mC 182 = prog_11_method_60_code := rfl
theorem mo_182 : mO 182 = 9 := rfl
theorem ml_182 : mL 182 = 2 := rfl
theorem mr_182 : mR 182 = none := rfl
theorem ma_182 : mA 182 = 0 := rfl
theorem e_182_0 : Df d 182 0 [.ref a, l1] st h nx = Df d 182 1 [.ref a, l1] (.ref a :: st) h nx := D_aload_n (ins_of mc_182 (pc := 0) (x := (.aload_n 0, 1)) (by decide +kernel)) rfl
theorem e_182_1 : Df d 182 1 [l0, l1] (.ref a :: st) h nx = (gF h a 9 8).bind fun v => Df d 182 4 [l0, l1] (v :: st) h nx := D_getfield (ins_of mc_182 (pc := 1) (x := (.getfield 204, 3)) (by decide +kernel)) mo_182 (by decide +kernel)
theorem e_182_4 : Df d 182 4 [.ref a, l1] st h nx = Df d 182 5 [.ref a, l1] (.ref a :: st) h nx := D_aload_n (ins_of mc_182 (pc := 4) (x := (.aload_n 0, 1)) (by decide +kernel)) rfl
theorem e_182_5 : Df d 182 5 [l0, l1] (.ref a :: st) h nx = (gF h a 9 7).bind fun v => Df d 182 8 [l0, l1] (v :: st) h nx := D_getfield (ins_of mc_182 (pc := 5) (x := (.getfield 200, 3)) (by decide +kernel)) mo_182 (by decide +kernel)
theorem e_182_8 : Df d 182 8 [l0, l1] (.int y :: .int x :: st) h nx = if y ≤ x then Df d 182 38 [l0, l1] st h nx else Df d 182 11 [l0, l1] st h nx := D_icmp_ge (ins_of mc_182 (pc := 8) (x := (.if_icmp .ge 30, 3)) (by decide +kernel)) (by decide)
theorem e_182_11 : Df d 182 11 [.ref a, l1] st h nx = Df d 182 12 [.ref a, l1] (.ref a :: st) h nx := D_aload_n (ins_of mc_182 (pc := 11) (x := (.aload_n 0, 1)) (by decide +kernel)) rfl
theorem e_182_12 : Df d 182 12 [l0, l1] (.ref a :: st) h nx = (gF h a 9 6).bind fun v => Df d 182 15 [l0, l1] (v :: st) h nx := D_getfield (ins_of mc_182 (pc := 12) (x := (.getfield 22, 3)) (by decide +kernel)) mo_182 (by decide +kernel)
theorem e_182_15 : Df d 182 15 [.ref a, l1] st h nx = Df d 182 16 [.ref a, l1] (.ref a :: st) h nx := D_aload_n (ins_of mc_182 (pc := 15) (x := (.aload_n 0, 1)) (by decide +kernel)) rfl
theorem e_182_16 : Df d 182 16 [l0, l1] (.ref a :: st) h nx = (gF h a 9 8).bind fun v => Df d 182 19 [l0, l1] (v :: st) h nx := D_getfield (ins_of mc_182 (pc := 16) (x := (.getfield 204, 3)) (by decide +kernel)) mo_182 (by decide +kernel)
theorem e_182_19 : Df d 182 19 [l0, l1] (.int x :: .ref a :: st) h nx = (rX h a x).bind fun v => Df d 182 20 [l0, l1] (.int v :: st) h nx := D_iaload (ins_of mc_182 (pc := 19) (x := (.iaload, 1)) (by decide +kernel))
theorem e_182_20 : Df d 182 20 [l0, l1] st h nx = Df d 182 22 [l0, l1] (.int 32 :: st) h nx := D_bipush (ins_of mc_182 (pc := 20) (x := (.bipush 32, 2)) (by decide +kernel)) (by decide)
theorem e_182_22 : Df d 182 22 [l0, l1] (.int y :: .int x :: st) h nx = if x = y then Df d 182 25 [l0, l1] st h nx else Df d 182 38 [l0, l1] st h nx := D_icmp_ne (ins_of mc_182 (pc := 22) (x := (.if_icmp .ne 16, 3)) (by decide +kernel)) (by decide)
theorem e_182_25 : Df d 182 25 [.ref a, l1] st h nx = Df d 182 26 [.ref a, l1] (.ref a :: st) h nx := D_aload_n (ins_of mc_182 (pc := 25) (x := (.aload_n 0, 1)) (by decide +kernel)) rfl
theorem e_182_26 (hv : v0.category = 1) : Df d 182 26 [l0, l1] (v0 :: st) h nx = Df d 182 27 [l0, l1] (v0 :: v0 :: st) h nx := D_dup (ins_of mc_182 (pc := 26) (x := (.dup, 1)) (by decide +kernel)) hv
theorem e_182_27 : Df d 182 27 [l0, l1] (.ref a :: st) h nx = (gF h a 9 8).bind fun v => Df d 182 30 [l0, l1] (v :: st) h nx := D_getfield (ins_of mc_182 (pc := 27) (x := (.getfield 204, 3)) (by decide +kernel)) mo_182 (by decide +kernel)
theorem e_182_30 : Df d 182 30 [l0, l1] st h nx = Df d 182 31 [l0, l1] (.int 1 :: st) h nx := D_iconst (ins_of mc_182 (pc := 30) (x := (.iconst 1, 1)) (by decide +kernel)) (by decide)
theorem e_182_31 : Df d 182 31 [l0, l1] (.int y :: .int x :: st) h nx = Df d 182 32 [l0, l1] (.int (x + y) :: st) h nx := D_iadd (ins_of mc_182 (pc := 31) (x := (.iadd, 1)) (by decide +kernel))
theorem e_182_32 : Df d 182 32 [l0, l1] (.int x :: .ref a :: st) h nx = (pF h a 9 8 (.int x)).bind fun h => Df d 182 35 [l0, l1] st h nx := D_putfield (ins_of mc_182 (pc := 32) (x := (.putfield 204, 3)) (by decide +kernel)) mo_182 (by decide +kernel) rfl (Or.inl rfl)
theorem e_182_35 : Df d 182 35 [l0, l1] st h nx = Df d 182 0 [l0, l1] st h nx := D_goto (ins_of mc_182 (pc := 35) (x := (.goto (-35), 3)) (by decide +kernel)) (by decide)
theorem e_182_38 : Df d 182 38 [.ref a, l1] st h nx = Df d 182 39 [.ref a, l1] (.ref a :: st) h nx := D_aload_n (ins_of mc_182 (pc := 38) (x := (.aload_n 0, 1)) (by decide +kernel)) rfl
theorem e_182_39 : Df d 182 39 [.ref a, l1] st h nx = Df d 182 40 [.ref a, l1] (.ref a :: st) h nx := D_aload_n (ins_of mc_182 (pc := 39) (x := (.aload_n 0, 1)) (by decide +kernel)) rfl
theorem e_182_40 : Df d 182 40 [l0, l1] (.ref a :: st) h nx = (gF h a 9 8).bind fun v => Df d 182 43 [l0, l1] (v :: st) h nx := D_getfield (ins_of mc_182 (pc := 40) (x := (.getfield 204, 3)) (by decide +kernel)) mo_182 (by decide +kernel)
theorem e_182_43 : Df d 182 43 [l0, l1] (.int x :: .ref a :: st) h nx = (pF h a 9 9 (.int x)).bind fun h => Df d 182 46 [l0, l1] st h nx := D_putfield (ins_of mc_182 (pc := 43) (x := (.putfield 207, 3)) (by decide +kernel)) mo_182 (by decide +kernel) rfl (Or.inl rfl)
theorem e_182_46 : Df d 182 46 [.ref a, l1] st h nx = Df d 182 47 [.ref a, l1] (.ref a :: st) h nx := D_aload_n (ins_of mc_182 (pc := 46) (x := (.aload_n 0, 1)) (by decide +kernel)) rfl
theorem e_182_47 : Df d 182 47 [l0, l1] (.ref a :: st) h nx = (gF h a 9 9).bind fun v => Df d 182 50 [l0, l1] (v :: st) h nx := D_getfield (ins_of mc_182 (pc := 47) (x := (.getfield 207, 3)) (by decide +kernel)) mo_182 (by decide +kernel)
theorem e_182_50 : Df d 182 50 [.ref a, l1] st h nx = Df d 182 51 [.ref a, l1] (.ref a :: st) h nx := D_aload_n (ins_of mc_182 (pc := 50) (x := (.aload_n 0, 1)) (by decide +kernel)) rfl
theorem e_182_51 : Df d 182 51 [l0, l1] (.ref a :: st) h nx = (gF h a 9 12).bind fun v => Df d 182 54 [l0, l1] (v :: st) h nx := D_getfield (ins_of mc_182 (pc := 51) (x := (.getfield 210, 3)) (by decide +kernel)) mo_182 (by decide +kernel)
theorem e_182_54 : Df d 182 54 [l0, l1] (.int y :: .int x :: st) h nx = if x = y then Df d 182 57 [l0, l1] st h nx else Df d 182 61 [l0, l1] st h nx := D_icmp_ne (ins_of mc_182 (pc := 54) (x := (.if_icmp .ne 7, 3)) (by decide +kernel)) (by decide)
theorem e_182_57 : Df d 182 57 [l0, l1] st h nx = Df d 182 58 [l0, l1] (.int 1 :: st) h nx := D_iconst (ins_of mc_182 (pc := 57) (x := (.iconst 1, 1)) (by decide +kernel)) (by decide)
theorem e_182_58 : Df d 182 58 [l0, l1] st h nx = Df d 182 62 [l0, l1] st h nx := D_goto (ins_of mc_182 (pc := 58) (x := (.goto 4, 3)) (by decide +kernel)) (by decide)
theorem e_182_61 : Df d 182 61 [l0, l1] st h nx = Df d 182 62 [l0, l1] (.int 0 :: st) h nx := D_iconst (ins_of mc_182 (pc := 61) (x := (.iconst 0, 1)) (by decide +kernel)) (by decide)
theorem e_182_62 (hn : nr l1 = true) : Df d 182 62 [l0, l1] (.int x :: st) h nx = Df d 182 63 [l0, .int x] st h nx := D_istore_n (ins_of mc_182 (pc := 62) (x := (.istore_n 1, 1)) (by decide +kernel)) rfl hn rfl
theorem e_182_63 : Df d 182 63 [.ref a, l1] st h nx = Df d 182 64 [.ref a, l1] (.ref a :: st) h nx := D_aload_n (ins_of mc_182 (pc := 63) (x := (.aload_n 0, 1)) (by decide +kernel)) rfl
theorem e_182_64 : Df d 182 64 [l0, l1] (.ref a :: st) h nx = (gF h a 9 9).bind fun v => Df d 182 67 [l0, l1] (v :: st) h nx := D_getfield (ins_of mc_182 (pc := 64) (x := (.getfield 207, 3)) (by decide +kernel)) mo_182 (by decide +kernel)
theorem e_182_67 : Df d 182 67 [.ref a, l1] st h nx = Df d 182 68 [.ref a, l1] (.ref a :: st) h nx := D_aload_n (ins_of mc_182 (pc := 67) (x := (.aload_n 0, 1)) (by decide +kernel)) rfl
theorem e_182_68 : Df d 182 68 [l0, l1] (.ref a :: st) h nx = (gF h a 9 7).bind fun v => Df d 182 71 [l0, l1] (v :: st) h nx := D_getfield (ins_of mc_182 (pc := 68) (x := (.getfield 200, 3)) (by decide +kernel)) mo_182 (by decide +kernel)
theorem e_182_71 : Df d 182 71 [l0, l1] (.int y :: .int x :: st) h nx = if x = y then Df d 182 74 [l0, l1] st h nx else Df d 182 82 [l0, l1] st h nx := D_icmp_ne (ins_of mc_182 (pc := 71) (x := (.if_icmp .ne 11, 3)) (by decide +kernel)) (by decide)
theorem e_182_74 : Df d 182 74 [.ref a, l1] st h nx = Df d 182 75 [.ref a, l1] (.ref a :: st) h nx := D_aload_n (ins_of mc_182 (pc := 74) (x := (.aload_n 0, 1)) (by decide +kernel)) rfl
theorem e_182_75 : Df d 182 75 [l0, l1] st h nx = Df d 182 76 [l0, l1] (.int 0 :: st) h nx := D_iconst (ins_of mc_182 (pc := 75) (x := (.iconst 0, 1)) (by decide +kernel)) (by decide)
theorem e_182_76 : Df d 182 76 [l0, l1] (.int x :: .ref a :: st) h nx = (pF h a 9 10 (.int x)).bind fun h => Df d 182 79 [l0, l1] st h nx := D_putfield (ins_of mc_182 (pc := 76) (x := (.putfield 213, 3)) (by decide +kernel)) mo_182 (by decide +kernel) rfl (Or.inl rfl)
theorem e_182_79 : Df d 182 79 [l0, l1] st h nx = Df d 182 303 [l0, l1] st h nx := D_goto (ins_of mc_182 (pc := 79) (x := (.goto 224, 3)) (by decide +kernel)) (by decide)
theorem e_182_82 : Df d 182 82 [.ref a, l1] st h nx = Df d 182 83 [.ref a, l1] (.ref a :: st) h nx := D_aload_n (ins_of mc_182 (pc := 82) (x := (.aload_n 0, 1)) (by decide +kernel)) rfl
theorem e_182_83 : Df d 182 83 [.ref a, l1] st h nx = Df d 182 84 [.ref a, l1] (.ref a :: st) h nx := D_aload_n (ins_of mc_182 (pc := 83) (x := (.aload_n 0, 1)) (by decide +kernel)) rfl
theorem e_182_84 : Df d 182 84 [l0, l1] (.ref a :: st) h nx = (gF h a 9 9).bind fun v => Df d 182 87 [l0, l1] (v :: st) h nx := D_getfield (ins_of mc_182 (pc := 84) (x := (.getfield 207, 3)) (by decide +kernel)) mo_182 (by decide +kernel)
theorem e_182_87 : Df d 182 87 [l0, l1] [v0, .ref a] h nx = if ck h a 9 = true then cn d 182 90 [l0, l1] [] (Dn d 183 [.ref a, v0] h nx) else none := D_virtual (k1 := 183) (ins_of mc_182 (pc := 87) (x := (.invokevirtual 216, 3)) (by decide +kernel)) mo_182 (by decide +kernel) (by decide) rfl rfl (by decide) rfl (Nat.le_of_ble_eq_true rfl) rfl
theorem e_182_90 : Df d 182 90 [l0, l1] (.int x :: st) h nx = if x = 0 then Df d 182 154 [l0, l1] st h nx else Df d 182 93 [l0, l1] st h nx := D_if_eq (ins_of mc_182 (pc := 90) (x := (.ifCond .eq 64, 3)) (by decide +kernel)) (by decide)
theorem e_182_93 : Df d 182 93 [.ref a, l1] st h nx = Df d 182 94 [.ref a, l1] (.ref a :: st) h nx := D_aload_n (ins_of mc_182 (pc := 93) (x := (.aload_n 0, 1)) (by decide +kernel)) rfl
theorem e_182_94 : Df d 182 94 [.ref a, l1] st h nx = Df d 182 95 [.ref a, l1] (.ref a :: st) h nx := D_aload_n (ins_of mc_182 (pc := 94) (x := (.aload_n 0, 1)) (by decide +kernel)) rfl
theorem e_182_95 : Df d 182 95 [l0, l1] (.ref a :: st) h nx = (gF h a 9 8).bind fun v => Df d 182 98 [l0, l1] (v :: st) h nx := D_getfield (ins_of mc_182 (pc := 95) (x := (.getfield 204, 3)) (by decide +kernel)) mo_182 (by decide +kernel)
theorem e_182_98 : Df d 182 98 [l0, l1] [v0, .ref a] h nx = if ck h a 9 = true then cn d 182 101 [l0, l1] [] (Dn d 183 [.ref a, v0] h nx) else none := D_virtual (k1 := 183) (ins_of mc_182 (pc := 98) (x := (.invokevirtual 216, 3)) (by decide +kernel)) mo_182 (by decide +kernel) (by decide) rfl rfl (by decide) rfl (Nat.le_of_ble_eq_true rfl) rfl
theorem e_182_101 : Df d 182 101 [l0, l1] (.int x :: st) h nx = if x = 0 then Df d 182 117 [l0, l1] st h nx else Df d 182 104 [l0, l1] st h nx := D_if_eq (ins_of mc_182 (pc := 101) (x := (.ifCond .eq 16, 3)) (by decide +kernel)) (by decide)
theorem e_182_104 : Df d 182 104 [.ref a, l1] st h nx = Df d 182 105 [.ref a, l1] (.ref a :: st) h nx := D_aload_n (ins_of mc_182 (pc := 104) (x := (.aload_n 0, 1)) (by decide +kernel)) rfl
theorem e_182_105 (hv : v0.category = 1) : Df d 182 105 [l0, l1] (v0 :: st) h nx = Df d 182 106 [l0, l1] (v0 :: v0 :: st) h nx := D_dup (ins_of mc_182 (pc := 105) (x := (.dup, 1)) (by decide +kernel)) hv
theorem e_182_106 : Df d 182 106 [l0, l1] (.ref a :: st) h nx = (gF h a 9 8).bind fun v => Df d 182 109 [l0, l1] (v :: st) h nx := D_getfield (ins_of mc_182 (pc := 106) (x := (.getfield 204, 3)) (by decide +kernel)) mo_182 (by decide +kernel)
theorem e_182_109 : Df d 182 109 [l0, l1] st h nx = Df d 182 110 [l0, l1] (.int 1 :: st) h nx := D_iconst (ins_of mc_182 (pc := 109) (x := (.iconst 1, 1)) (by decide +kernel)) (by decide)
theorem e_182_110 : Df d 182 110 [l0, l1] (.int y :: .int x :: st) h nx = Df d 182 111 [l0, l1] (.int (x + y) :: st) h nx := D_iadd (ins_of mc_182 (pc := 110) (x := (.iadd, 1)) (by decide +kernel))
theorem e_182_111 : Df d 182 111 [l0, l1] (.int x :: .ref a :: st) h nx = (pF h a 9 8 (.int x)).bind fun h => Df d 182 114 [l0, l1] st h nx := D_putfield (ins_of mc_182 (pc := 111) (x := (.putfield 204, 3)) (by decide +kernel)) mo_182 (by decide +kernel) rfl (Or.inl rfl)
theorem e_182_114 : Df d 182 114 [l0, l1] st h nx = Df d 182 93 [l0, l1] st h nx := D_goto (ins_of mc_182 (pc := 114) (x := (.goto (-21), 3)) (by decide +kernel)) (by decide)
theorem e_182_117 : Df d 182 117 [.ref a, l1] st h nx = Df d 182 118 [.ref a, l1] (.ref a :: st) h nx := D_aload_n (ins_of mc_182 (pc := 117) (x := (.aload_n 0, 1)) (by decide +kernel)) rfl
theorem e_182_118 : Df d 182 118 [l0, .int x] st h nx = Df d 182 119 [l0, .int x] (.int x :: st) h nx := D_iload_n (ins_of mc_182 (pc := 118) (x := (.iload_n 1, 1)) (by decide +kernel)) rfl
theorem e_182_119 : Df d 182 119 [l0, l1] (.int x :: st) h nx = if x = 0 then Df d 182 126 [l0, l1] st h nx else Df d 182 122 [l0, l1] st h nx := D_if_eq (ins_of mc_182 (pc := 119) (x := (.ifCond .eq 7, 3)) (by decide +kernel)) (by decide)
theorem e_182_122 : Df d 182 122 [l0, l1] st h nx = Df d 182 123 [l0, l1] (.int 4 :: st) h nx := D_iconst (ins_of mc_182 (pc := 122) (x := (.iconst 4, 1)) (by decide +kernel)) (by decide)
theorem e_182_123 : Df d 182 123 [l0, l1] st h nx = Df d 182 127 [l0, l1] st h nx := D_goto (ins_of mc_182 (pc := 123) (x := (.goto 4, 3)) (by decide +kernel)) (by decide)
theorem e_182_126 : Df d 182 126 [l0, l1] st h nx = Df d 182 127 [l0, l1] (.int 1 :: st) h nx := D_iconst (ins_of mc_182 (pc := 126) (x := (.iconst 1, 1)) (by decide +kernel)) (by decide)
theorem e_182_127 : Df d 182 127 [l0, l1] (.int x :: .ref a :: st) h nx = (pF h a 9 10 (.int x)).bind fun h => Df d 182 130 [l0, l1] st h nx := D_putfield (ins_of mc_182 (pc := 127) (x := (.putfield 213, 3)) (by decide +kernel)) mo_182 (by decide +kernel) rfl (Or.inl rfl)
theorem e_182_130 : Df d 182 130 [.ref a, l1] st h nx = Df d 182 131 [.ref a, l1] (.ref a :: st) h nx := D_aload_n (ins_of mc_182 (pc := 130) (x := (.aload_n 0, 1)) (by decide +kernel)) rfl
theorem e_182_131 : Df d 182 131 [.ref a, l1] st h nx = Df d 182 132 [.ref a, l1] (.ref a :: st) h nx := D_aload_n (ins_of mc_182 (pc := 131) (x := (.aload_n 0, 1)) (by decide +kernel)) rfl
theorem e_182_132 : Df d 182 132 [l0, l1] (.ref a :: st) h nx = (gF h a 9 6).bind fun v => Df d 182 135 [l0, l1] (v :: st) h nx := D_getfield (ins_of mc_182 (pc := 132) (x := (.getfield 22, 3)) (by decide +kernel)) mo_182 (by decide +kernel)
theorem e_182_135 : Df d 182 135 [.ref a, l1] st h nx = Df d 182 136 [.ref a, l1] (.ref a :: st) h nx := D_aload_n (ins_of mc_182 (pc := 135) (x := (.aload_n 0, 1)) (by decide +kernel)) rfl
theorem e_182_136 : Df d 182 136 [l0, l1] (.ref a :: st) h nx = (gF h a 9 9).bind fun v => Df d 182 139 [l0, l1] (v :: st) h nx := D_getfield (ins_of mc_182 (pc := 136) (x := (.getfield 207, 3)) (by decide +kernel)) mo_182 (by decide +kernel)
theorem e_182_139 : Df d 182 139 [l0, l1] (.int x :: .ref a :: st) h nx = (rX h a x).bind fun v => Df d 182 140 [l0, l1] (.int v :: st) h nx := D_iaload (ins_of mc_182 (pc := 139) (x := (.iaload, 1)) (by decide +kernel))
theorem e_182_140 : Df d 182 140 [l0, l1] (.int x :: .ref a :: st) h nx = (pF h a 9 11 (.int x)).bind fun h => Df d 182 143 [l0, l1] st h nx := D_putfield (ins_of mc_182 (pc := 140) (x := (.putfield 219, 3)) (by decide +kernel)) mo_182 (by decide +kernel) rfl (Or.inl rfl)
theorem e_182_143 : Df d 182 143 [.ref a, l1] st h nx = Df d 182 144 [.ref a, l1] (.ref a :: st) h nx := D_aload_n (ins_of mc_182 (pc := 143) (x := (.aload_n 0, 1)) (by decide +kernel)) rfl
theorem e_182_144 : Df d 182 144 [.ref a, l1] st h nx = Df d 182 145 [.ref a, l1] (.ref a :: st) h nx := D_aload_n (ins_of mc_182 (pc := 144) (x := (.aload_n 0, 1)) (by decide +kernel)) rfl
theorem e_182_145 : Df d 182 145 [l0, l1] (.ref a :: st) h nx = (gF h a 9 8).bind fun v => Df d 182 148 [l0, l1] (v :: st) h nx := D_getfield (ins_of mc_182 (pc := 145) (x := (.getfield 204, 3)) (by decide +kernel)) mo_182 (by decide +kernel)
theorem e_182_148 : Df d 182 148 [l0, l1] (.int x :: .ref a :: st) h nx = (pF h a 9 12 (.int x)).bind fun h => Df d 182 151 [l0, l1] st h nx := D_putfield (ins_of mc_182 (pc := 148) (x := (.putfield 210, 3)) (by decide +kernel)) mo_182 (by decide +kernel) rfl (Or.inl rfl)
theorem e_182_151 : Df d 182 151 [l0, l1] st h nx = Df d 182 303 [l0, l1] st h nx := D_goto (ins_of mc_182 (pc := 151) (x := (.goto 152, 3)) (by decide +kernel)) (by decide)
theorem e_182_154 : Df d 182 154 [.ref a, l1] st h nx = Df d 182 155 [.ref a, l1] (.ref a :: st) h nx := D_aload_n (ins_of mc_182 (pc := 154) (x := (.aload_n 0, 1)) (by decide +kernel)) rfl
theorem e_182_155 : Df d 182 155 [.ref a, l1] st h nx = Df d 182 156 [.ref a, l1] (.ref a :: st) h nx := D_aload_n (ins_of mc_182 (pc := 155) (x := (.aload_n 0, 1)) (by decide +kernel)) rfl
theorem e_182_156 : Df d 182 156 [l0, l1] (.ref a :: st) h nx = (gF h a 9 9).bind fun v => Df d 182 159 [l0, l1] (v :: st) h nx := D_getfield (ins_of mc_182 (pc := 156) (x := (.getfield 207, 3)) (by decide +kernel)) mo_182 (by decide +kernel)
theorem e_182_159 : Df d 182 159 [l0, l1] [v0, .ref a] h nx = if ck h a 9 = true then cn d 182 162 [l0, l1] [] (Dn d 184 [.ref a, v0] h nx) else none := D_virtual (k1 := 184) (ins_of mc_182 (pc := 159) (x := (.invokevirtual 222, 3)) (by decide +kernel)) mo_182 (by decide +kernel) (by decide) rfl rfl (by decide) rfl (Nat.le_of_ble_eq_true rfl) rfl
theorem e_182_162 : Df d 182 162 [l0, l1] (.int x :: st) h nx = if x = 0 then Df d 182 275 [l0, l1] st h nx else Df d 182 165 [l0, l1] st h nx := D_if_eq (ins_of mc_182 (pc := 162) (x := (.ifCond .eq 113, 3)) (by decide +kernel)) (by decide)
theorem e_182_165 : Df d 182 165 [.ref a, l1] st h nx = Df d 182 166 [.ref a, l1] (.ref a :: st) h nx := D_aload_n (ins_of mc_182 (pc := 165) (x := (.aload_n 0, 1)) (by decide +kernel)) rfl
theorem e_182_166 : Df d 182 166 [l0, l1] st h nx = Df d 182 167 [l0, l1] (.int 0 :: st) h nx := D_iconst (ins_of mc_182 (pc := 166) (x := (.iconst 0, 1)) (by decide +kernel)) (by decide)
theorem e_182_167 : Df d 182 167 [l0, l1] (.int x :: .ref a :: st) h nx = (pF h a 9 11 (.int x)).bind fun h => Df d 182 170 [l0, l1] st h nx := D_putfield (ins_of mc_182 (pc := 167) (x := (.putfield 219, 3)) (by decide +kernel)) mo_182 (by decide +kernel) rfl (Or.inl rfl)
theorem e_182_170 : Df d 182 170 [.ref a, l1] st h nx = Df d 182 171 [.ref a, l1] (.ref a :: st) h nx := D_aload_n (ins_of mc_182 (pc := 170) (x := (.aload_n 0, 1)) (by decide +kernel)) rfl
theorem e_182_171 : Df d 182 171 [.ref a, l1] st h nx = Df d 182 172 [.ref a, l1] (.ref a :: st) h nx := D_aload_n (ins_of mc_182 (pc := 171) (x := (.aload_n 0, 1)) (by decide +kernel)) rfl
theorem e_182_172 : Df d 182 172 [l0, l1] (.ref a :: st) h nx = (gF h a 9 8).bind fun v => Df d 182 175 [l0, l1] (v :: st) h nx := D_getfield (ins_of mc_182 (pc := 172) (x := (.getfield 204, 3)) (by decide +kernel)) mo_182 (by decide +kernel)
theorem e_182_175 : Df d 182 175 [l0, l1] [v0, .ref a] h nx = if ck h a 9 = true then cn d 182 178 [l0, l1] [] (Dn d 184 [.ref a, v0] h nx) else none := D_virtual (k1 := 184) (ins_of mc_182 (pc := 175) (x := (.invokevirtual 222, 3)) (by decide +kernel)) mo_182 (by decide +kernel) (by decide) rfl rfl (by decide) rfl (Nat.le_of_ble_eq_true rfl) rfl
theorem e_182_178 : Df d 182 178 [l0, l1] (.int x :: st) h nx = if x = 0 then Df d 182 238 [l0, l1] st h nx else Df d 182 181 [l0, l1] st h nx := D_if_eq (ins_of mc_182 (pc := 178) (x := (.ifCond .eq 60, 3)) (by decide +kernel)) (by decide)
theorem e_182_181 : Df d 182 181 [.ref a, l1] st h nx = Df d 182 182 [.ref a, l1] (.ref a :: st) h nx := D_aload_n (ins_of mc_182 (pc := 181) (x := (.aload_n 0, 1)) (by decide +kernel)) rfl
theorem e_182_182 : Df d 182 182 [.ref a, l1] st h nx = Df d 182 183 [.ref a, l1] (.ref a :: st) h nx := D_aload_n (ins_of mc_182 (pc := 182) (x := (.aload_n 0, 1)) (by decide +kernel)) rfl
theorem e_182_183 : Df d 182 183 [l0, l1] (.ref a :: st) h nx = (gF h a 9 8).bind fun v => Df d 182 186 [l0, l1] (v :: st) h nx := D_getfield (ins_of mc_182 (pc := 183) (x := (.getfield 204, 3)) (by decide +kernel)) mo_182 (by decide +kernel)
theorem e_182_186 : Df d 182 186 [.ref a, l1] st h nx = Df d 182 187 [.ref a, l1] (.ref a :: st) h nx := D_aload_n (ins_of mc_182 (pc := 186) (x := (.aload_n 0, 1)) (by decide +kernel)) rfl
theorem e_182_187 : Df d 182 187 [l0, l1] (.ref a :: st) h nx = (gF h a 9 9).bind fun v => Df d 182 190 [l0, l1] (v :: st) h nx := D_getfield (ins_of mc_182 (pc := 187) (x := (.getfield 207, 3)) (by decide +kernel)) mo_182 (by decide +kernel)
theorem e_182_190 : Df d 182 190 [l0, l1] (.int y :: .int x :: st) h nx = Df d 182 191 [l0, l1] (.int (x - y) :: st) h nx := D_isub (ins_of mc_182 (pc := 190) (x := (.isub, 1)) (by decide +kernel))
theorem e_182_191 : Df d 182 191 [l0, l1] st h nx = Df d 182 192 [l0, l1] (.int 4 :: st) h nx := D_iconst (ins_of mc_182 (pc := 191) (x := (.iconst 4, 1)) (by decide +kernel)) (by decide)
theorem e_182_192 : Df d 182 192 [l0, l1] (.int y :: .int x :: st) h nx = if y ≤ x then Df d 182 218 [l0, l1] st h nx else Df d 182 195 [l0, l1] st h nx := D_icmp_ge (ins_of mc_182 (pc := 192) (x := (.if_icmp .ge 26, 3)) (by decide +kernel)) (by decide)
theorem e_182_195 : Df d 182 195 [l0, l1] st h nx = Df d 182 197 [l0, l1] (.int 10 :: st) h nx := D_bipush (ins_of mc_182 (pc := 195) (x := (.bipush 10, 2)) (by decide +kernel)) (by decide)
theorem e_182_197 : Df d 182 197 [.ref a, l1] st h nx = Df d 182 198 [.ref a, l1] (.ref a :: st) h nx := D_aload_n (ins_of mc_182 (pc := 197) (x := (.aload_n 0, 1)) (by decide +kernel)) rfl
theorem e_182_198 : Df d 182 198 [l0, l1] (.ref a :: st) h nx = (gF h a 9 11).bind fun v => Df d 182 201 [l0, l1] (v :: st) h nx := D_getfield (ins_of mc_182 (pc := 198) (x := (.getfield 219, 3)) (by decide +kernel)) mo_182 (by decide +kernel)
theorem e_182_201 : Df d 182 201 [l0, l1] (.int y :: .int x :: st) h nx = Df d 182 202 [l0, l1] (.int (x * y) :: st) h nx := D_imul (ins_of mc_182 (pc := 201) (x := (.imul, 1)) (by decide +kernel))
theorem e_182_202 : Df d 182 202 [.ref a, l1] st h nx = Df d 182 203 [.ref a, l1] (.ref a :: st) h nx := D_aload_n (ins_of mc_182 (pc := 202) (x := (.aload_n 0, 1)) (by decide +kernel)) rfl
theorem e_182_203 : Df d 182 203 [l0, l1] (.ref a :: st) h nx = (gF h a 9 6).bind fun v => Df d 182 206 [l0, l1] (v :: st) h nx := D_getfield (ins_of mc_182 (pc := 203) (x := (.getfield 22, 3)) (by decide +kernel)) mo_182 (by decide +kernel)
theorem e_182_206 : Df d 182 206 [.ref a, l1] st h nx = Df d 182 207 [.ref a, l1] (.ref a :: st) h nx := D_aload_n (ins_of mc_182 (pc := 206) (x := (.aload_n 0, 1)) (by decide +kernel)) rfl
theorem e_182_207 : Df d 182 207 [l0, l1] (.ref a :: st) h nx = (gF h a 9 8).bind fun v => Df d 182 210 [l0, l1] (v :: st) h nx := D_getfield (ins_of mc_182 (pc := 207) (x := (.getfield 204, 3)) (by decide +kernel)) mo_182 (by decide +kernel)
theorem e_182_210 : Df d 182 210 [l0, l1] (.int x :: .ref a :: st) h nx = (rX h a x).bind fun v => Df d 182 211 [l0, l1] (.int v :: st) h nx := D_iaload (ins_of mc_182 (pc := 210) (x := (.iaload, 1)) (by decide +kernel))
theorem e_182_211 : Df d 182 211 [l0, l1] (.int y :: .int x :: st) h nx = Df d 182 212 [l0, l1] (.int (x + y) :: st) h nx := D_iadd (ins_of mc_182 (pc := 211) (x := (.iadd, 1)) (by decide +kernel))
theorem e_182_212 : Df d 182 212 [l0, l1] st h nx = Df d 182 214 [l0, l1] (.int 48 :: st) h nx := D_bipush (ins_of mc_182 (pc := 212) (x := (.bipush 48, 2)) (by decide +kernel)) (by decide)
theorem e_182_214 : Df d 182 214 [l0, l1] (.int y :: .int x :: st) h nx = Df d 182 215 [l0, l1] (.int (x - y) :: st) h nx := D_isub (ins_of mc_182 (pc := 214) (x := (.isub, 1)) (by decide +kernel))
theorem e_182_215 : Df d 182 215 [l0, l1] st h nx = Df d 182 222 [l0, l1] st h nx := D_goto (ins_of mc_182 (pc := 215) (x := (.goto 7, 3)) (by decide +kernel)) (by decide)
theorem e_182_218 : Df d 182 218 [.ref a, l1] st h nx = Df d 182 219 [.ref a, l1] (.ref a :: st) h nx := D_aload_n (ins_of mc_182 (pc := 218) (x := (.aload_n 0, 1)) (by decide +kernel)) rfl
theorem e_182_219 : Df d 182 219 [l0, l1] (.ref a :: st) h nx = (gF h a 9 11).bind fun v => Df d 182 222 [l0, l1] (v :: st) h nx := D_getfield (ins_of mc_182 (pc := 219) (x := (.getfield 219, 3)) (by decide +kernel)) mo_182 (by decide +kernel)
theorem e_182_222 : Df d 182 222 [l0, l1] (.int x :: .ref a :: st) h nx = (pF h a 9 11 (.int x)).bind fun h => Df d 182 225 [l0, l1] st h nx := D_putfield (ins_of mc_182 (pc := 222) (x := (.putfield 219, 3)) (by decide +kernel)) mo_182 (by decide +kernel) rfl (Or.inl rfl)
theorem e_182_225 : Df d 182 225 [.ref a, l1] st h nx = Df d 182 226 [.ref a, l1] (.ref a :: st) h nx := D_aload_n (ins_of mc_182 (pc := 225) (x := (.aload_n 0, 1)) (by decide +kernel)) rfl
theorem e_182_226 (hv : v0.category = 1) : Df d 182 226 [l0, l1] (v0 :: st) h nx = Df d 182 227 [l0, l1] (v0 :: v0 :: st) h nx := D_dup (ins_of mc_182 (pc := 226) (x := (.dup, 1)) (by decide +kernel)) hv
theorem e_182_227 : Df d 182 227 [l0, l1] (.ref a :: st) h nx = (gF h a 9 8).bind fun v => Df d 182 230 [l0, l1] (v :: st) h nx := D_getfield (ins_of mc_182 (pc := 227) (x := (.getfield 204, 3)) (by decide +kernel)) mo_182 (by decide +kernel)
theorem e_182_230 : Df d 182 230 [l0, l1] st h nx = Df d 182 231 [l0, l1] (.int 1 :: st) h nx := D_iconst (ins_of mc_182 (pc := 230) (x := (.iconst 1, 1)) (by decide +kernel)) (by decide)
theorem e_182_231 : Df d 182 231 [l0, l1] (.int y :: .int x :: st) h nx = Df d 182 232 [l0, l1] (.int (x + y) :: st) h nx := D_iadd (ins_of mc_182 (pc := 231) (x := (.iadd, 1)) (by decide +kernel))
theorem e_182_232 : Df d 182 232 [l0, l1] (.int x :: .ref a :: st) h nx = (pF h a 9 8 (.int x)).bind fun h => Df d 182 235 [l0, l1] st h nx := D_putfield (ins_of mc_182 (pc := 232) (x := (.putfield 204, 3)) (by decide +kernel)) mo_182 (by decide +kernel) rfl (Or.inl rfl)
theorem e_182_235 : Df d 182 235 [l0, l1] st h nx = Df d 182 170 [l0, l1] st h nx := D_goto (ins_of mc_182 (pc := 235) (x := (.goto (-65), 3)) (by decide +kernel)) (by decide)
theorem e_182_238 : Df d 182 238 [.ref a, l1] st h nx = Df d 182 239 [.ref a, l1] (.ref a :: st) h nx := D_aload_n (ins_of mc_182 (pc := 238) (x := (.aload_n 0, 1)) (by decide +kernel)) rfl
theorem e_182_239 : Df d 182 239 [l0, .int x] st h nx = Df d 182 240 [l0, .int x] (.int x :: st) h nx := D_iload_n (ins_of mc_182 (pc := 239) (x := (.iload_n 1, 1)) (by decide +kernel)) rfl
theorem e_182_240 : Df d 182 240 [l0, l1] (.int x :: st) h nx = if x = 0 then Df d 182 243 [l0, l1] st h nx else Df d 182 256 [l0, l1] st h nx := D_if_ne (ins_of mc_182 (pc := 240) (x := (.ifCond .ne 16, 3)) (by decide +kernel)) (by decide)
theorem e_182_243 : Df d 182 243 [.ref a, l1] st h nx = Df d 182 244 [.ref a, l1] (.ref a :: st) h nx := D_aload_n (ins_of mc_182 (pc := 243) (x := (.aload_n 0, 1)) (by decide +kernel)) rfl
theorem e_182_244 : Df d 182 244 [l0, l1] (.ref a :: st) h nx = (gF h a 9 8).bind fun v => Df d 182 247 [l0, l1] (v :: st) h nx := D_getfield (ins_of mc_182 (pc := 244) (x := (.getfield 204, 3)) (by decide +kernel)) mo_182 (by decide +kernel)
theorem e_182_247 : Df d 182 247 [.ref a, l1] st h nx = Df d 182 248 [.ref a, l1] (.ref a :: st) h nx := D_aload_n (ins_of mc_182 (pc := 247) (x := (.aload_n 0, 1)) (by decide +kernel)) rfl
theorem e_182_248 : Df d 182 248 [l0, l1] (.ref a :: st) h nx = (gF h a 9 9).bind fun v => Df d 182 251 [l0, l1] (v :: st) h nx := D_getfield (ins_of mc_182 (pc := 248) (x := (.getfield 207, 3)) (by decide +kernel)) mo_182 (by decide +kernel)
theorem e_182_251 : Df d 182 251 [l0, l1] (.int y :: .int x :: st) h nx = Df d 182 252 [l0, l1] (.int (x - y) :: st) h nx := D_isub (ins_of mc_182 (pc := 251) (x := (.isub, 1)) (by decide +kernel))
theorem e_182_252 : Df d 182 252 [l0, l1] st h nx = Df d 182 253 [l0, l1] (.int 4 :: st) h nx := D_iconst (ins_of mc_182 (pc := 252) (x := (.iconst 4, 1)) (by decide +kernel)) (by decide)
theorem e_182_253 : Df d 182 253 [l0, l1] (.int y :: .int x :: st) h nx = if x ≤ y then Df d 182 260 [l0, l1] st h nx else Df d 182 256 [l0, l1] st h nx := D_icmp_le (ins_of mc_182 (pc := 253) (x := (.if_icmp .le 7, 3)) (by decide +kernel)) (by decide)
theorem e_182_256 : Df d 182 256 [l0, l1] st h nx = Df d 182 257 [l0, l1] (.int 4 :: st) h nx := D_iconst (ins_of mc_182 (pc := 256) (x := (.iconst 4, 1)) (by decide +kernel)) (by decide)
theorem e_182_257 : Df d 182 257 [l0, l1] st h nx = Df d 182 261 [l0, l1] st h nx := D_goto (ins_of mc_182 (pc := 257) (x := (.goto 4, 3)) (by decide +kernel)) (by decide)
theorem e_182_260 : Df d 182 260 [l0, l1] st h nx = Df d 182 261 [l0, l1] (.int 2 :: st) h nx := D_iconst (ins_of mc_182 (pc := 260) (x := (.iconst 2, 1)) (by decide +kernel)) (by decide)
theorem e_182_261 : Df d 182 261 [l0, l1] (.int x :: .ref a :: st) h nx = (pF h a 9 10 (.int x)).bind fun h => Df d 182 264 [l0, l1] st h nx := D_putfield (ins_of mc_182 (pc := 261) (x := (.putfield 213, 3)) (by decide +kernel)) mo_182 (by decide +kernel) rfl (Or.inl rfl)
theorem e_182_264 : Df d 182 264 [.ref a, l1] st h nx = Df d 182 265 [.ref a, l1] (.ref a :: st) h nx := D_aload_n (ins_of mc_182 (pc := 264) (x := (.aload_n 0, 1)) (by decide +kernel)) rfl
theorem e_182_265 : Df d 182 265 [.ref a, l1] st h nx = Df d 182 266 [.ref a, l1] (.ref a :: st) h nx := D_aload_n (ins_of mc_182 (pc := 265) (x := (.aload_n 0, 1)) (by decide +kernel)) rfl
theorem e_182_266 : Df d 182 266 [l0, l1] (.ref a :: st) h nx = (gF h a 9 8).bind fun v => Df d 182 269 [l0, l1] (v :: st) h nx := D_getfield (ins_of mc_182 (pc := 266) (x := (.getfield 204, 3)) (by decide +kernel)) mo_182 (by decide +kernel)
theorem e_182_269 : Df d 182 269 [l0, l1] (.int x :: .ref a :: st) h nx = (pF h a 9 12 (.int x)).bind fun h => Df d 182 272 [l0, l1] st h nx := D_putfield (ins_of mc_182 (pc := 269) (x := (.putfield 210, 3)) (by decide +kernel)) mo_182 (by decide +kernel) rfl (Or.inl rfl)
theorem e_182_272 : Df d 182 272 [l0, l1] st h nx = Df d 182 303 [l0, l1] st h nx := D_goto (ins_of mc_182 (pc := 272) (x := (.goto 31, 3)) (by decide +kernel)) (by decide)
theorem e_182_275 : Df d 182 275 [.ref a, l1] st h nx = Df d 182 276 [.ref a, l1] (.ref a :: st) h nx := D_aload_n (ins_of mc_182 (pc := 275) (x := (.aload_n 0, 1)) (by decide +kernel)) rfl
theorem e_182_276 : Df d 182 276 [l0, l1] st h nx = Df d 182 277 [l0, l1] (.int 3 :: st) h nx := D_iconst (ins_of mc_182 (pc := 276) (x := (.iconst 3, 1)) (by decide +kernel)) (by decide)
theorem e_182_277 : Df d 182 277 [l0, l1] (.int x :: .ref a :: st) h nx = (pF h a 9 10 (.int x)).bind fun h => Df d 182 280 [l0, l1] st h nx := D_putfield (ins_of mc_182 (pc := 277) (x := (.putfield 213, 3)) (by decide +kernel)) mo_182 (by decide +kernel) rfl (Or.inl rfl)
theorem e_182_280 : Df d 182 280 [.ref a, l1] st h nx = Df d 182 281 [.ref a, l1] (.ref a :: st) h nx := D_aload_n (ins_of mc_182 (pc := 280) (x := (.aload_n 0, 1)) (by decide +kernel)) rfl
theorem e_182_281 : Df d 182 281 [.ref a, l1] st h nx = Df d 182 282 [.ref a, l1] (.ref a :: st) h nx := D_aload_n (ins_of mc_182 (pc := 281) (x := (.aload_n 0, 1)) (by decide +kernel)) rfl
theorem e_182_282 : Df d 182 282 [l0, l1] (.ref a :: st) h nx = (gF h a 9 6).bind fun v => Df d 182 285 [l0, l1] (v :: st) h nx := D_getfield (ins_of mc_182 (pc := 282) (x := (.getfield 22, 3)) (by decide +kernel)) mo_182 (by decide +kernel)
theorem e_182_285 : Df d 182 285 [.ref a, l1] st h nx = Df d 182 286 [.ref a, l1] (.ref a :: st) h nx := D_aload_n (ins_of mc_182 (pc := 285) (x := (.aload_n 0, 1)) (by decide +kernel)) rfl
theorem e_182_286 : Df d 182 286 [l0, l1] (.ref a :: st) h nx = (gF h a 9 9).bind fun v => Df d 182 289 [l0, l1] (v :: st) h nx := D_getfield (ins_of mc_182 (pc := 286) (x := (.getfield 207, 3)) (by decide +kernel)) mo_182 (by decide +kernel)
theorem e_182_289 : Df d 182 289 [l0, l1] (.int x :: .ref a :: st) h nx = (rX h a x).bind fun v => Df d 182 290 [l0, l1] (.int v :: st) h nx := D_iaload (ins_of mc_182 (pc := 289) (x := (.iaload, 1)) (by decide +kernel))
theorem e_182_290 : Df d 182 290 [l0, l1] (.int x :: .ref a :: st) h nx = (pF h a 9 11 (.int x)).bind fun h => Df d 182 293 [l0, l1] st h nx := D_putfield (ins_of mc_182 (pc := 290) (x := (.putfield 219, 3)) (by decide +kernel)) mo_182 (by decide +kernel) rfl (Or.inl rfl)
theorem e_182_293 : Df d 182 293 [.ref a, l1] st h nx = Df d 182 294 [.ref a, l1] (.ref a :: st) h nx := D_aload_n (ins_of mc_182 (pc := 293) (x := (.aload_n 0, 1)) (by decide +kernel)) rfl
theorem e_182_294 (hv : v0.category = 1) : Df d 182 294 [l0, l1] (v0 :: st) h nx = Df d 182 295 [l0, l1] (v0 :: v0 :: st) h nx := D_dup (ins_of mc_182 (pc := 294) (x := (.dup, 1)) (by decide +kernel)) hv
theorem e_182_295 : Df d 182 295 [l0, l1] (.ref a :: st) h nx = (gF h a 9 8).bind fun v => Df d 182 298 [l0, l1] (v :: st) h nx := D_getfield (ins_of mc_182 (pc := 295) (x := (.getfield 204, 3)) (by decide +kernel)) mo_182 (by decide +kernel)
theorem e_182_298 : Df d 182 298 [l0, l1] st h nx = Df d 182 299 [l0, l1] (.int 1 :: st) h nx := D_iconst (ins_of mc_182 (pc := 298) (x := (.iconst 1, 1)) (by decide +kernel)) (by decide)
theorem e_182_299 : Df d 182 299 [l0, l1] (.int y :: .int x :: st) h nx = Df d 182 300 [l0, l1] (.int (x + y) :: st) h nx := D_iadd (ins_of mc_182 (pc := 299) (x := (.iadd, 1)) (by decide +kernel))
theorem e_182_300 : Df d 182 300 [l0, l1] (.int x :: .ref a :: st) h nx = (pF h a 9 8 (.int x)).bind fun h => Df d 182 303 [l0, l1] st h nx := D_putfield (ins_of mc_182 (pc := 300) (x := (.putfield 204, 3)) (by decide +kernel)) mo_182 (by decide +kernel) rfl (Or.inl rfl)
theorem e_182_303 : Df d 182 303 [l0, l1] [] h nx = some (none, h, nx) := D_return (ins_of mc_182 (pc := 303) (x := (.return_, 1)) (by decide +kernel)) mr_182
theorem mc_183 : mC 183 = prog_11_method_58_code := rfl
theorem mo_183 : mO 183 = 9 := rfl
theorem ml_183 : mL 183 = 2 := rfl
theorem mr_183 : mR 183 = (some .boolean) := rfl
theorem ma_183 : mA 183 = 1 := rfl
theorem e_183_0 : Df d 183 0 [l0, .int x] st h nx = Df d 183 1 [l0, .int x] (.int x :: st) h nx := D_iload_n (ins_of mc_183 (pc := 0) (x := (.iload_n 1, 1)) (by decide +kernel)) rfl
theorem e_183_1 : Df d 183 1 [.ref a, l1] st h nx = Df d 183 2 [.ref a, l1] (.ref a :: st) h nx := D_aload_n (ins_of mc_183 (pc := 1) (x := (.aload_n 0, 1)) (by decide +kernel)) rfl
theorem e_183_2 : Df d 183 2 [l0, l1] (.ref a :: st) h nx = (gF h a 9 7).bind fun v => Df d 183 5 [l0, l1] (v :: st) h nx := D_getfield (ins_of mc_183 (pc := 2) (x := (.getfield 200, 3)) (by decide +kernel)) mo_183 (by decide +kernel)
theorem e_183_5 : Df d 183 5 [l0, l1] (.int y :: .int x :: st) h nx = if y ≤ x then Df d 183 34 [l0, l1] st h nx else Df d 183 8 [l0, l1] st h nx := D_icmp_ge (ins_of mc_183 (pc := 5) (x := (.if_icmp .ge 29, 3)) (by decide +kernel)) (by decide)
theorem e_183_8 : Df d 183 8 [.ref a, l1] st h nx = Df d 183 9 [.ref a, l1] (.ref a :: st) h nx := D_aload_n (ins_of mc_183 (pc := 8) (x := (.aload_n 0, 1)) (by decide +kernel)) rfl
theorem e_183_9 : Df d 183 9 [l0, l1] (.ref a :: st) h nx = (gF h a 9 6).bind fun v => Df d 183 12 [l0, l1] (v :: st) h nx := D_getfield (ins_of mc_183 (pc := 9) (x := (.getfield 22, 3)) (by decide +kernel)) mo_183 (by decide +kernel)
theorem e_183_12 : Df d 183 12 [l0, .int x] st h nx = Df d 183 13 [l0, .int x] (.int x :: st) h nx := D_iload_n (ins_of mc_183 (pc := 12) (x := (.iload_n 1, 1)) (by decide +kernel)) rfl
theorem e_183_13 : Df d 183 13 [l0, l1] (.int x :: .ref a :: st) h nx = (rX h a x).bind fun v => Df d 183 14 [l0, l1] (.int v :: st) h nx := D_iaload (ins_of mc_183 (pc := 13) (x := (.iaload, 1)) (by decide +kernel))
theorem e_183_14 : Df d 183 14 [l0, l1] st h nx = Df d 183 16 [l0, l1] (.int 97 :: st) h nx := D_bipush (ins_of mc_183 (pc := 14) (x := (.bipush 97, 2)) (by decide +kernel)) (by decide)
theorem e_183_16 : Df d 183 16 [l0, l1] (.int y :: .int x :: st) h nx = if x < y then Df d 183 34 [l0, l1] st h nx else Df d 183 19 [l0, l1] st h nx := D_icmp_lt (ins_of mc_183 (pc := 16) (x := (.if_icmp .lt 18, 3)) (by decide +kernel)) (by decide)
theorem e_183_19 : Df d 183 19 [.ref a, l1] st h nx = Df d 183 20 [.ref a, l1] (.ref a :: st) h nx := D_aload_n (ins_of mc_183 (pc := 19) (x := (.aload_n 0, 1)) (by decide +kernel)) rfl
theorem e_183_20 : Df d 183 20 [l0, l1] (.ref a :: st) h nx = (gF h a 9 6).bind fun v => Df d 183 23 [l0, l1] (v :: st) h nx := D_getfield (ins_of mc_183 (pc := 20) (x := (.getfield 22, 3)) (by decide +kernel)) mo_183 (by decide +kernel)
theorem e_183_23 : Df d 183 23 [l0, .int x] st h nx = Df d 183 24 [l0, .int x] (.int x :: st) h nx := D_iload_n (ins_of mc_183 (pc := 23) (x := (.iload_n 1, 1)) (by decide +kernel)) rfl
theorem e_183_24 : Df d 183 24 [l0, l1] (.int x :: .ref a :: st) h nx = (rX h a x).bind fun v => Df d 183 25 [l0, l1] (.int v :: st) h nx := D_iaload (ins_of mc_183 (pc := 24) (x := (.iaload, 1)) (by decide +kernel))
theorem e_183_25 : Df d 183 25 [l0, l1] st h nx = Df d 183 27 [l0, l1] (.int 122 :: st) h nx := D_bipush (ins_of mc_183 (pc := 25) (x := (.bipush 122, 2)) (by decide +kernel)) (by decide)
theorem e_183_27 : Df d 183 27 [l0, l1] (.int y :: .int x :: st) h nx = if y < x then Df d 183 34 [l0, l1] st h nx else Df d 183 30 [l0, l1] st h nx := D_icmp_gt (ins_of mc_183 (pc := 27) (x := (.if_icmp .gt 7, 3)) (by decide +kernel)) (by decide)
theorem e_183_30 : Df d 183 30 [l0, l1] st h nx = Df d 183 31 [l0, l1] (.int 1 :: st) h nx := D_iconst (ins_of mc_183 (pc := 30) (x := (.iconst 1, 1)) (by decide +kernel)) (by decide)
theorem e_183_31 : Df d 183 31 [l0, l1] st h nx = Df d 183 35 [l0, l1] st h nx := D_goto (ins_of mc_183 (pc := 31) (x := (.goto 4, 3)) (by decide +kernel)) (by decide)
theorem e_183_34 : Df d 183 34 [l0, l1] st h nx = Df d 183 35 [l0, l1] (.int 0 :: st) h nx := D_iconst (ins_of mc_183 (pc := 34) (x := (.iconst 0, 1)) (by decide +kernel)) (by decide)
theorem e_183_35 : Df d 183 35 [l0, l1] [.int x] h nx = if nR .boolean x = true then some (some (.int x), h, nx) else none := D_zreturn (ins_of mc_183 (pc := 35) (x := (.ireturn, 1)) (by decide +kernel)) mr_183
theorem mc_184 : mC 184 = prog_11_method_59_code := rfl
theorem mo_184 : mO 184 = 9 := rfl
theorem ml_184 : mL 184 = 2 := rfl
theorem mr_184 : mR 184 = (some .boolean) := rfl
theorem ma_184 : mA 184 = 1 := rfl
theorem e_184_0 : Df d 184 0 [l0, .int x] st h nx = Df d 184 1 [l0, .int x] (.int x :: st) h nx := D_iload_n (ins_of mc_184 (pc := 0) (x := (.iload_n 1, 1)) (by decide +kernel)) rfl
theorem e_184_1 : Df d 184 1 [.ref a, l1] st h nx = Df d 184 2 [.ref a, l1] (.ref a :: st) h nx := D_aload_n (ins_of mc_184 (pc := 1) (x := (.aload_n 0, 1)) (by decide +kernel)) rfl
theorem e_184_2 : Df d 184 2 [l0, l1] (.ref a :: st) h nx = (gF h a 9 7).bind fun v => Df d 184 5 [l0, l1] (v :: st) h nx := D_getfield (ins_of mc_184 (pc := 2) (x := (.getfield 200, 3)) (by decide +kernel)) mo_184 (by decide +kernel)
theorem e_184_5 : Df d 184 5 [l0, l1] (.int y :: .int x :: st) h nx = if y ≤ x then Df d 184 34 [l0, l1] st h nx else Df d 184 8 [l0, l1] st h nx := D_icmp_ge (ins_of mc_184 (pc := 5) (x := (.if_icmp .ge 29, 3)) (by decide +kernel)) (by decide)
theorem e_184_8 : Df d 184 8 [.ref a, l1] st h nx = Df d 184 9 [.ref a, l1] (.ref a :: st) h nx := D_aload_n (ins_of mc_184 (pc := 8) (x := (.aload_n 0, 1)) (by decide +kernel)) rfl
theorem e_184_9 : Df d 184 9 [l0, l1] (.ref a :: st) h nx = (gF h a 9 6).bind fun v => Df d 184 12 [l0, l1] (v :: st) h nx := D_getfield (ins_of mc_184 (pc := 9) (x := (.getfield 22, 3)) (by decide +kernel)) mo_184 (by decide +kernel)
theorem e_184_12 : Df d 184 12 [l0, .int x] st h nx = Df d 184 13 [l0, .int x] (.int x :: st) h nx := D_iload_n (ins_of mc_184 (pc := 12) (x := (.iload_n 1, 1)) (by decide +kernel)) rfl
theorem e_184_13 : Df d 184 13 [l0, l1] (.int x :: .ref a :: st) h nx = (rX h a x).bind fun v => Df d 184 14 [l0, l1] (.int v :: st) h nx := D_iaload (ins_of mc_184 (pc := 13) (x := (.iaload, 1)) (by decide +kernel))
theorem e_184_14 : Df d 184 14 [l0, l1] st h nx = Df d 184 16 [l0, l1] (.int 48 :: st) h nx := D_bipush (ins_of mc_184 (pc := 14) (x := (.bipush 48, 2)) (by decide +kernel)) (by decide)
theorem e_184_16 : Df d 184 16 [l0, l1] (.int y :: .int x :: st) h nx = if x < y then Df d 184 34 [l0, l1] st h nx else Df d 184 19 [l0, l1] st h nx := D_icmp_lt (ins_of mc_184 (pc := 16) (x := (.if_icmp .lt 18, 3)) (by decide +kernel)) (by decide)
theorem e_184_19 : Df d 184 19 [.ref a, l1] st h nx = Df d 184 20 [.ref a, l1] (.ref a :: st) h nx := D_aload_n (ins_of mc_184 (pc := 19) (x := (.aload_n 0, 1)) (by decide +kernel)) rfl
theorem e_184_20 : Df d 184 20 [l0, l1] (.ref a :: st) h nx = (gF h a 9 6).bind fun v => Df d 184 23 [l0, l1] (v :: st) h nx := D_getfield (ins_of mc_184 (pc := 20) (x := (.getfield 22, 3)) (by decide +kernel)) mo_184 (by decide +kernel)
theorem e_184_23 : Df d 184 23 [l0, .int x] st h nx = Df d 184 24 [l0, .int x] (.int x :: st) h nx := D_iload_n (ins_of mc_184 (pc := 23) (x := (.iload_n 1, 1)) (by decide +kernel)) rfl
theorem e_184_24 : Df d 184 24 [l0, l1] (.int x :: .ref a :: st) h nx = (rX h a x).bind fun v => Df d 184 25 [l0, l1] (.int v :: st) h nx := D_iaload (ins_of mc_184 (pc := 24) (x := (.iaload, 1)) (by decide +kernel))
theorem e_184_25 : Df d 184 25 [l0, l1] st h nx = Df d 184 27 [l0, l1] (.int 57 :: st) h nx := D_bipush (ins_of mc_184 (pc := 25) (x := (.bipush 57, 2)) (by decide +kernel)) (by decide)
theorem e_184_27 : Df d 184 27 [l0, l1] (.int y :: .int x :: st) h nx = if y < x then Df d 184 34 [l0, l1] st h nx else Df d 184 30 [l0, l1] st h nx := D_icmp_gt (ins_of mc_184 (pc := 27) (x := (.if_icmp .gt 7, 3)) (by decide +kernel)) (by decide)
theorem e_184_30 : Df d 184 30 [l0, l1] st h nx = Df d 184 31 [l0, l1] (.int 1 :: st) h nx := D_iconst (ins_of mc_184 (pc := 30) (x := (.iconst 1, 1)) (by decide +kernel)) (by decide)
theorem e_184_31 : Df d 184 31 [l0, l1] st h nx = Df d 184 35 [l0, l1] st h nx := D_goto (ins_of mc_184 (pc := 31) (x := (.goto 4, 3)) (by decide +kernel)) (by decide)
theorem e_184_34 : Df d 184 34 [l0, l1] st h nx = Df d 184 35 [l0, l1] (.int 0 :: st) h nx := D_iconst (ins_of mc_184 (pc := 34) (x := (.iconst 0, 1)) (by decide +kernel)) (by decide)
theorem e_184_35 : Df d 184 35 [l0, l1] [.int x] h nx = if nR .boolean x = true then some (some (.int x), h, nx) else none := D_zreturn (ins_of mc_184 (pc := 35) (x := (.ireturn, 1)) (by decide +kernel)) mr_184
theorem mc_185 : mC 185 = prog_11_method_61_code := rfl
theorem mo_185 : mO 185 = 9 := rfl
theorem ml_185 : mL 185 = 5 := rfl
theorem mr_185 : mR 185 = (some .boolean) := rfl
theorem ma_185 : mA 185 = 0 := rfl
theorem e_185_0 : Df d 185 0 [.ref a, l1, l2, l3, l4] st h nx = Df d 185 1 [.ref a, l1, l2, l3, l4] (.ref a :: st) h nx := D_aload_n (ins_of mc_185 (pc := 0) (x := (.aload_n 0, 1)) (by decide +kernel)) rfl
theorem e_185_1 : Df d 185 1 [l0, l1, l2, l3, l4] (.ref a :: st) h nx = (gF h a 9 10).bind fun v => Df d 185 4 [l0, l1, l2, l3, l4] (v :: st) h nx := D_getfield (ins_of mc_185 (pc := 1) (x := (.getfield 213, 3)) (by decide +kernel)) mo_185 (by decide +kernel)
theorem e_185_4 : Df d 185 4 [l0, l1, l2, l3, l4] st h nx = Df d 185 5 [l0, l1, l2, l3, l4] (.int 1 :: st) h nx := D_iconst (ins_of mc_185 (pc := 4) (x := (.iconst 1, 1)) (by decide +kernel)) (by decide)
theorem e_185_5 : Df d 185 5 [l0, l1, l2, l3, l4] (.int y :: .int x :: st) h nx = if x = y then Df d 185 10 [l0, l1, l2, l3, l4] st h nx else Df d 185 8 [l0, l1, l2, l3, l4] st h nx := D_icmp_eq (ins_of mc_185 (pc := 5) (x := (.if_icmp .eq 5, 3)) (by decide +kernel)) (by decide)
theorem e_185_8 : Df d 185 8 [l0, l1, l2, l3, l4] st h nx = Df d 185 9 [l0, l1, l2, l3, l4] (.int 0 :: st) h nx := D_iconst (ins_of mc_185 (pc := 8) (x := (.iconst 0, 1)) (by decide +kernel)) (by decide)
theorem e_185_9 : Df d 185 9 [l0, l1, l2, l3, l4] [.int x] h nx = if nR .boolean x = true then some (some (.int x), h, nx) else none := D_zreturn (ins_of mc_185 (pc := 9) (x := (.ireturn, 1)) (by decide +kernel)) mr_185
theorem e_185_10 : Df d 185 10 [l0, l1, l2, l3, l4] st h nx = Df d 185 11 [l0, l1, l2, l3, l4] (.int 0 :: st) h nx := D_iconst (ins_of mc_185 (pc := 10) (x := (.iconst 0, 1)) (by decide +kernel)) (by decide)
theorem e_185_11 (hn : nr l1 = true) : Df d 185 11 [l0, l1, l2, l3, l4] (.int x :: st) h nx = Df d 185 12 [l0, .int x, l2, l3, l4] st h nx := D_istore_n (ins_of mc_185 (pc := 11) (x := (.istore_n 1, 1)) (by decide +kernel)) rfl hn rfl
theorem e_185_12 : Df d 185 12 [l0, .int x, l2, l3, l4] st h nx = Df d 185 13 [l0, .int x, l2, l3, l4] (.int x :: st) h nx := D_iload_n (ins_of mc_185 (pc := 12) (x := (.iload_n 1, 1)) (by decide +kernel)) rfl
theorem e_185_13 : Df d 185 13 [l0, l1, l2, l3, l4] st h nx = Df d 185 14 [l0, l1, l2, l3, l4] (.int 3 :: st) h nx := D_iconst (ins_of mc_185 (pc := 13) (x := (.iconst 3, 1)) (by decide +kernel)) (by decide)
theorem e_185_14 : Df d 185 14 [l0, l1, l2, l3, l4] (.int y :: .int x :: st) h nx = if y ≤ x then Df d 185 127 [l0, l1, l2, l3, l4] st h nx else Df d 185 17 [l0, l1, l2, l3, l4] st h nx := D_icmp_ge (ins_of mc_185 (pc := 14) (x := (.if_icmp .ge 113, 3)) (by decide +kernel)) (by decide)
theorem e_185_17 : Df d 185 17 [.ref a, l1, l2, l3, l4] st h nx = Df d 185 18 [.ref a, l1, l2, l3, l4] (.ref a :: st) h nx := D_aload_n (ins_of mc_185 (pc := 17) (x := (.aload_n 0, 1)) (by decide +kernel)) rfl
theorem e_185_18 : Df d 185 18 [l0, l1, l2, l3, l4] (.ref a :: st) h nx = (gF h a 9 15).bind fun v => Df d 185 21 [l0, l1, l2, l3, l4] (v :: st) h nx := D_getfield (ins_of mc_185 (pc := 18) (x := (.getfield 29, 3)) (by decide +kernel)) mo_185 (by decide +kernel)
theorem e_185_21 : Df d 185 21 [l0, .int x, l2, l3, l4] st h nx = Df d 185 22 [l0, .int x, l2, l3, l4] (.int x :: st) h nx := D_iload_n (ins_of mc_185 (pc := 21) (x := (.iload_n 1, 1)) (by decide +kernel)) rfl
theorem e_185_22 : Df d 185 22 [l0, l1, l2, l3, l4] st h nx = Df d 185 23 [l0, l1, l2, l3, l4] (.int 1 :: st) h nx := D_iconst (ins_of mc_185 (pc := 22) (x := (.iconst 1, 1)) (by decide +kernel)) (by decide)
theorem e_185_23 : Df d 185 23 [l0, l1, l2, l3, l4] (.int y :: .int x :: st) h nx = Df d 185 24 [l0, l1, l2, l3, l4] (.int (x + y) :: st) h nx := D_iadd (ins_of mc_185 (pc := 23) (x := (.iadd, 1)) (by decide +kernel))
theorem e_185_24 : Df d 185 24 [l0, l1, l2, l3, l4] (.int x :: .ref a :: st) h nx = (rX h a x).bind fun v => Df d 185 25 [l0, l1, l2, l3, l4] (.int v :: st) h nx := D_iaload (ins_of mc_185 (pc := 24) (x := (.iaload, 1)) (by decide +kernel))
theorem e_185_25 : Df d 185 25 [.ref a, l1, l2, l3, l4] st h nx = Df d 185 26 [.ref a, l1, l2, l3, l4] (.ref a :: st) h nx := D_aload_n (ins_of mc_185 (pc := 25) (x := (.aload_n 0, 1)) (by decide +kernel)) rfl
theorem e_185_26 : Df d 185 26 [l0, l1, l2, l3, l4] (.ref a :: st) h nx = (gF h a 9 15).bind fun v => Df d 185 29 [l0, l1, l2, l3, l4] (v :: st) h nx := D_getfield (ins_of mc_185 (pc := 26) (x := (.getfield 29, 3)) (by decide +kernel)) mo_185 (by decide +kernel)
theorem e_185_29 : Df d 185 29 [l0, .int x, l2, l3, l4] st h nx = Df d 185 30 [l0, .int x, l2, l3, l4] (.int x :: st) h nx := D_iload_n (ins_of mc_185 (pc := 29) (x := (.iload_n 1, 1)) (by decide +kernel)) rfl
theorem e_185_30 : Df d 185 30 [l0, l1, l2, l3, l4] (.int x :: .ref a :: st) h nx = (rX h a x).bind fun v => Df d 185 31 [l0, l1, l2, l3, l4] (.int v :: st) h nx := D_iaload (ins_of mc_185 (pc := 30) (x := (.iaload, 1)) (by decide +kernel))
theorem e_185_31 : Df d 185 31 [l0, l1, l2, l3, l4] (.int y :: .int x :: st) h nx = Df d 185 32 [l0, l1, l2, l3, l4] (.int (x - y) :: st) h nx := D_isub (ins_of mc_185 (pc := 31) (x := (.isub, 1)) (by decide +kernel))
theorem e_185_32 (hn : nr l2 = true) : Df d 185 32 [l0, l1, l2, l3, l4] (.int x :: st) h nx = Df d 185 33 [l0, l1, .int x, l3, l4] st h nx := D_istore_n (ins_of mc_185 (pc := 32) (x := (.istore_n 2, 1)) (by decide +kernel)) rfl hn rfl
theorem e_185_33 : Df d 185 33 [l0, l1, .int x, l3, l4] st h nx = Df d 185 34 [l0, l1, .int x, l3, l4] (.int x :: st) h nx := D_iload_n (ins_of mc_185 (pc := 33) (x := (.iload_n 2, 1)) (by decide +kernel)) rfl
theorem e_185_34 : Df d 185 34 [.ref a, l1, l2, l3, l4] st h nx = Df d 185 35 [.ref a, l1, l2, l3, l4] (.ref a :: st) h nx := D_aload_n (ins_of mc_185 (pc := 34) (x := (.aload_n 0, 1)) (by decide +kernel)) rfl
theorem e_185_35 : Df d 185 35 [l0, l1, l2, l3, l4] (.ref a :: st) h nx = (gF h a 9 8).bind fun v => Df d 185 38 [l0, l1, l2, l3, l4] (v :: st) h nx := D_getfield (ins_of mc_185 (pc := 35) (x := (.getfield 204, 3)) (by decide +kernel)) mo_185 (by decide +kernel)
theorem e_185_38 : Df d 185 38 [.ref a, l1, l2, l3, l4] st h nx = Df d 185 39 [.ref a, l1, l2, l3, l4] (.ref a :: st) h nx := D_aload_n (ins_of mc_185 (pc := 38) (x := (.aload_n 0, 1)) (by decide +kernel)) rfl
theorem e_185_39 : Df d 185 39 [l0, l1, l2, l3, l4] (.ref a :: st) h nx = (gF h a 9 9).bind fun v => Df d 185 42 [l0, l1, l2, l3, l4] (v :: st) h nx := D_getfield (ins_of mc_185 (pc := 39) (x := (.getfield 207, 3)) (by decide +kernel)) mo_185 (by decide +kernel)
theorem e_185_42 : Df d 185 42 [l0, l1, l2, l3, l4] (.int y :: .int x :: st) h nx = Df d 185 43 [l0, l1, l2, l3, l4] (.int (x - y) :: st) h nx := D_isub (ins_of mc_185 (pc := 42) (x := (.isub, 1)) (by decide +kernel))
theorem e_185_43 : Df d 185 43 [l0, l1, l2, l3, l4] (.int y :: .int x :: st) h nx = if x = y then Df d 185 46 [l0, l1, l2, l3, l4] st h nx else Df d 185 50 [l0, l1, l2, l3, l4] st h nx := D_icmp_ne (ins_of mc_185 (pc := 43) (x := (.if_icmp .ne 7, 3)) (by decide +kernel)) (by decide)
theorem e_185_46 : Df d 185 46 [l0, l1, l2, l3, l4] st h nx = Df d 185 47 [l0, l1, l2, l3, l4] (.int 1 :: st) h nx := D_iconst (ins_of mc_185 (pc := 46) (x := (.iconst 1, 1)) (by decide +kernel)) (by decide)
theorem e_185_47 : Df d 185 47 [l0, l1, l2, l3, l4] st h nx = Df d 185 51 [l0, l1, l2, l3, l4] st h nx := D_goto (ins_of mc_185 (pc := 47) (x := (.goto 4, 3)) (by decide +kernel)) (by decide)
theorem e_185_50 : Df d 185 50 [l0, l1, l2, l3, l4] st h nx = Df d 185 51 [l0, l1, l2, l3, l4] (.int 0 :: st) h nx := D_iconst (ins_of mc_185 (pc := 50) (x := (.iconst 0, 1)) (by decide +kernel)) (by decide)
theorem e_185_51 (hn : nr l3 = true) : Df d 185 51 [l0, l1, l2, l3, l4] (.int x :: st) h nx = Df d 185 52 [l0, l1, l2, .int x, l4] st h nx := D_istore_n (ins_of mc_185 (pc := 51) (x := (.istore_n 3, 1)) (by decide +kernel)) rfl hn rfl
theorem e_185_52 : Df d 185 52 [l0, l1, l2, l3, l4] st h nx = Df d 185 53 [l0, l1, l2, l3, l4] (.int 0 :: st) h nx := D_iconst (ins_of mc_185 (pc := 52) (x := (.iconst 0, 1)) (by decide +kernel)) (by decide)
theorem e_185_53 (hn : nr l4 = true) : Df d 185 53 [l0, l1, l2, l3, l4] (.int x :: st) h nx = Df d 185 55 [l0, l1, l2, l3, .int x] st h nx := D_istore (ins_of mc_185 (pc := 53) (x := (.istore 4, 2)) (by decide +kernel)) rfl hn rfl
theorem e_185_55 : Df d 185 55 [l0, l1, l2, l3, .int x] st h nx = Df d 185 57 [l0, l1, l2, l3, .int x] (.int x :: st) h nx := D_iload (ins_of mc_185 (pc := 55) (x := (.iload 4, 2)) (by decide +kernel)) rfl
theorem e_185_57 : Df d 185 57 [l0, l1, .int x, l3, l4] st h nx = Df d 185 58 [l0, l1, .int x, l3, l4] (.int x :: st) h nx := D_iload_n (ins_of mc_185 (pc := 57) (x := (.iload_n 2, 1)) (by decide +kernel)) rfl
theorem e_185_58 : Df d 185 58 [l0, l1, l2, l3, l4] (.int y :: .int x :: st) h nx = if y ≤ x then Df d 185 106 [l0, l1, l2, l3, l4] st h nx else Df d 185 61 [l0, l1, l2, l3, l4] st h nx := D_icmp_ge (ins_of mc_185 (pc := 58) (x := (.if_icmp .ge 48, 3)) (by decide +kernel)) (by decide)
theorem e_185_61 : Df d 185 61 [l0, l1, l2, .int x, l4] st h nx = Df d 185 62 [l0, l1, l2, .int x, l4] (.int x :: st) h nx := D_iload_n (ins_of mc_185 (pc := 61) (x := (.iload_n 3, 1)) (by decide +kernel)) rfl
theorem e_185_62 : Df d 185 62 [l0, l1, l2, l3, l4] (.int x :: st) h nx = if x = 0 then Df d 185 106 [l0, l1, l2, l3, l4] st h nx else Df d 185 65 [l0, l1, l2, l3, l4] st h nx := D_if_eq (ins_of mc_185 (pc := 62) (x := (.ifCond .eq 44, 3)) (by decide +kernel)) (by decide)
theorem e_185_65 : Df d 185 65 [.ref a, l1, l2, l3, l4] st h nx = Df d 185 66 [.ref a, l1, l2, l3, l4] (.ref a :: st) h nx := D_aload_n (ins_of mc_185 (pc := 65) (x := (.aload_n 0, 1)) (by decide +kernel)) rfl
theorem e_185_66 : Df d 185 66 [l0, l1, l2, l3, l4] (.ref a :: st) h nx = (gF h a 9 6).bind fun v => Df d 185 69 [l0, l1, l2, l3, l4] (v :: st) h nx := D_getfield (ins_of mc_185 (pc := 66) (x := (.getfield 22, 3)) (by decide +kernel)) mo_185 (by decide +kernel)
theorem e_185_69 : Df d 185 69 [.ref a, l1, l2, l3, l4] st h nx = Df d 185 70 [.ref a, l1, l2, l3, l4] (.ref a :: st) h nx := D_aload_n (ins_of mc_185 (pc := 69) (x := (.aload_n 0, 1)) (by decide +kernel)) rfl
theorem e_185_70 : Df d 185 70 [l0, l1, l2, l3, l4] (.ref a :: st) h nx = (gF h a 9 9).bind fun v => Df d 185 73 [l0, l1, l2, l3, l4] (v :: st) h nx := D_getfield (ins_of mc_185 (pc := 70) (x := (.getfield 207, 3)) (by decide +kernel)) mo_185 (by decide +kernel)
theorem e_185_73 : Df d 185 73 [l0, l1, l2, l3, .int x] st h nx = Df d 185 75 [l0, l1, l2, l3, .int x] (.int x :: st) h nx := D_iload (ins_of mc_185 (pc := 73) (x := (.iload 4, 2)) (by decide +kernel)) rfl
theorem e_185_75 : Df d 185 75 [l0, l1, l2, l3, l4] (.int y :: .int x :: st) h nx = Df d 185 76 [l0, l1, l2, l3, l4] (.int (x + y) :: st) h nx := D_iadd (ins_of mc_185 (pc := 75) (x := (.iadd, 1)) (by decide +kernel))
theorem e_185_76 : Df d 185 76 [l0, l1, l2, l3, l4] (.int x :: .ref a :: st) h nx = (rX h a x).bind fun v => Df d 185 77 [l0, l1, l2, l3, l4] (.int v :: st) h nx := D_iaload (ins_of mc_185 (pc := 76) (x := (.iaload, 1)) (by decide +kernel))
theorem e_185_77 : Df d 185 77 [.ref a, l1, l2, l3, l4] st h nx = Df d 185 78 [.ref a, l1, l2, l3, l4] (.ref a :: st) h nx := D_aload_n (ins_of mc_185 (pc := 77) (x := (.aload_n 0, 1)) (by decide +kernel)) rfl
theorem e_185_78 : Df d 185 78 [l0, l1, l2, l3, l4] (.ref a :: st) h nx = (gF h a 9 14).bind fun v => Df d 185 81 [l0, l1, l2, l3, l4] (v :: st) h nx := D_getfield (ins_of mc_185 (pc := 78) (x := (.getfield 25, 3)) (by decide +kernel)) mo_185 (by decide +kernel)
theorem e_185_81 : Df d 185 81 [.ref a, l1, l2, l3, l4] st h nx = Df d 185 82 [.ref a, l1, l2, l3, l4] (.ref a :: st) h nx := D_aload_n (ins_of mc_185 (pc := 81) (x := (.aload_n 0, 1)) (by decide +kernel)) rfl
theorem e_185_82 : Df d 185 82 [l0, l1, l2, l3, l4] (.ref a :: st) h nx = (gF h a 9 15).bind fun v => Df d 185 85 [l0, l1, l2, l3, l4] (v :: st) h nx := D_getfield (ins_of mc_185 (pc := 82) (x := (.getfield 29, 3)) (by decide +kernel)) mo_185 (by decide +kernel)
theorem e_185_85 : Df d 185 85 [l0, .int x, l2, l3, l4] st h nx = Df d 185 86 [l0, .int x, l2, l3, l4] (.int x :: st) h nx := D_iload_n (ins_of mc_185 (pc := 85) (x := (.iload_n 1, 1)) (by decide +kernel)) rfl
theorem e_185_86 : Df d 185 86 [l0, l1, l2, l3, l4] (.int x :: .ref a :: st) h nx = (rX h a x).bind fun v => Df d 185 87 [l0, l1, l2, l3, l4] (.int v :: st) h nx := D_iaload (ins_of mc_185 (pc := 86) (x := (.iaload, 1)) (by decide +kernel))
theorem e_185_87 : Df d 185 87 [l0, l1, l2, l3, .int x] st h nx = Df d 185 89 [l0, l1, l2, l3, .int x] (.int x :: st) h nx := D_iload (ins_of mc_185 (pc := 87) (x := (.iload 4, 2)) (by decide +kernel)) rfl
theorem e_185_89 : Df d 185 89 [l0, l1, l2, l3, l4] (.int y :: .int x :: st) h nx = Df d 185 90 [l0, l1, l2, l3, l4] (.int (x + y) :: st) h nx := D_iadd (ins_of mc_185 (pc := 89) (x := (.iadd, 1)) (by decide +kernel))
theorem e_185_90 : Df d 185 90 [l0, l1, l2, l3, l4] (.int x :: .ref a :: st) h nx = (rI h a x 2).bind fun v => Df d 185 91 [l0, l1, l2, l3, l4] (.int v :: st) h nx := D_caload (ins_of mc_185 (pc := 90) (x := (.caload, 1)) (by decide +kernel))
theorem e_185_91 : Df d 185 91 [l0, l1, l2, l3, l4] (.int y :: .int x :: st) h nx = if x = y then Df d 185 94 [l0, l1, l2, l3, l4] st h nx else Df d 185 98 [l0, l1, l2, l3, l4] st h nx := D_icmp_ne (ins_of mc_185 (pc := 91) (x := (.if_icmp .ne 7, 3)) (by decide +kernel)) (by decide)
theorem e_185_94 : Df d 185 94 [l0, l1, l2, l3, l4] st h nx = Df d 185 95 [l0, l1, l2, l3, l4] (.int 1 :: st) h nx := D_iconst (ins_of mc_185 (pc := 94) (x := (.iconst 1, 1)) (by decide +kernel)) (by decide)
theorem e_185_95 : Df d 185 95 [l0, l1, l2, l3, l4] st h nx = Df d 185 99 [l0, l1, l2, l3, l4] st h nx := D_goto (ins_of mc_185 (pc := 95) (x := (.goto 4, 3)) (by decide +kernel)) (by decide)
theorem e_185_98 : Df d 185 98 [l0, l1, l2, l3, l4] st h nx = Df d 185 99 [l0, l1, l2, l3, l4] (.int 0 :: st) h nx := D_iconst (ins_of mc_185 (pc := 98) (x := (.iconst 0, 1)) (by decide +kernel)) (by decide)
theorem e_185_99 (hn : nr l3 = true) : Df d 185 99 [l0, l1, l2, l3, l4] (.int x :: st) h nx = Df d 185 100 [l0, l1, l2, .int x, l4] st h nx := D_istore_n (ins_of mc_185 (pc := 99) (x := (.istore_n 3, 1)) (by decide +kernel)) rfl hn rfl
theorem e_185_100 : Df d 185 100 [l0, l1, l2, l3, .int x] st h nx = Df d 185 103 [l0, l1, l2, l3, .int (x + 1)] st h nx := D_iinc (ins_of mc_185 (pc := 100) (x := (.iinc 4 1, 3)) (by decide +kernel)) rfl (by decide) rfl
theorem e_185_103 : Df d 185 103 [l0, l1, l2, l3, l4] st h nx = Df d 185 55 [l0, l1, l2, l3, l4] st h nx := D_goto (ins_of mc_185 (pc := 103) (x := (.goto (-48), 3)) (by decide +kernel)) (by decide)
theorem e_185_106 : Df d 185 106 [l0, l1, l2, .int x, l4] st h nx = Df d 185 107 [l0, l1, l2, .int x, l4] (.int x :: st) h nx := D_iload_n (ins_of mc_185 (pc := 106) (x := (.iload_n 3, 1)) (by decide +kernel)) rfl
theorem e_185_107 : Df d 185 107 [l0, l1, l2, l3, l4] (.int x :: st) h nx = if x = 0 then Df d 185 121 [l0, l1, l2, l3, l4] st h nx else Df d 185 110 [l0, l1, l2, l3, l4] st h nx := D_if_eq (ins_of mc_185 (pc := 107) (x := (.ifCond .eq 14, 3)) (by decide +kernel)) (by decide)
theorem e_185_110 : Df d 185 110 [.ref a, l1, l2, l3, l4] st h nx = Df d 185 111 [.ref a, l1, l2, l3, l4] (.ref a :: st) h nx := D_aload_n (ins_of mc_185 (pc := 110) (x := (.aload_n 0, 1)) (by decide +kernel)) rfl
theorem e_185_111 : Df d 185 111 [l0, .int x, l2, l3, l4] st h nx = Df d 185 112 [l0, .int x, l2, l3, l4] (.int x :: st) h nx := D_iload_n (ins_of mc_185 (pc := 111) (x := (.iload_n 1, 1)) (by decide +kernel)) rfl
theorem e_185_112 : Df d 185 112 [l0, l1, l2, l3, l4] (.int x :: .ref a :: st) h nx = (pF h a 9 13 (.int x)).bind fun h => Df d 185 115 [l0, l1, l2, l3, l4] st h nx := D_putfield (ins_of mc_185 (pc := 112) (x := (.putfield 225, 3)) (by decide +kernel)) mo_185 (by decide +kernel) rfl (Or.inl rfl)
theorem e_185_115 : Df d 185 115 [.ref a, l1, l2, l3, l4] st h nx = Df d 185 116 [.ref a, l1, l2, l3, l4] (.ref a :: st) h nx := D_aload_n (ins_of mc_185 (pc := 115) (x := (.aload_n 0, 1)) (by decide +kernel)) rfl
theorem e_185_116 : Df d 185 116 [l0, l1, l2, l3, l4] [.ref a] h nx = if ck h a 9 = true then cn d 185 119 [l0, l1, l2, l3, l4] [] (Dn d 182 [.ref a] h nx) else none := D_virtual (k1 := 182) (ins_of mc_185 (pc := 116) (x := (.invokevirtual 228, 3)) (by decide +kernel)) mo_185 (by decide +kernel) (by decide) rfl rfl (by decide) rfl (Nat.le_of_ble_eq_true rfl) rfl
theorem e_185_119 : Df d 185 119 [l0, l1, l2, l3, l4] st h nx = Df d 185 120 [l0, l1, l2, l3, l4] (.int 1 :: st) h nx := D_iconst (ins_of mc_185 (pc := 119) (x := (.iconst 1, 1)) (by decide +kernel)) (by decide)
theorem e_185_120 : Df d 185 120 [l0, l1, l2, l3, l4] [.int x] h nx = if nR .boolean x = true then some (some (.int x), h, nx) else none := D_zreturn (ins_of mc_185 (pc := 120) (x := (.ireturn, 1)) (by decide +kernel)) mr_185
theorem e_185_121 : Df d 185 121 [l0, .int x, l2, l3, l4] st h nx = Df d 185 124 [l0, .int (x + 1), l2, l3, l4] st h nx := D_iinc (ins_of mc_185 (pc := 121) (x := (.iinc 1 1, 3)) (by decide +kernel)) rfl (by decide) rfl
theorem e_185_124 : Df d 185 124 [l0, l1, l2, l3, l4] st h nx = Df d 185 12 [l0, l1, l2, l3, l4] st h nx := D_goto (ins_of mc_185 (pc := 124) (x := (.goto (-112), 3)) (by decide +kernel)) (by decide)
theorem e_185_127 : Df d 185 127 [l0, l1, l2, l3, l4] st h nx = Df d 185 128 [l0, l1, l2, l3, l4] (.int 0 :: st) h nx := D_iconst (ins_of mc_185 (pc := 127) (x := (.iconst 0, 1)) (by decide +kernel)) (by decide)
theorem e_185_128 : Df d 185 128 [l0, l1, l2, l3, l4] [.int x] h nx = if nR .boolean x = true then some (some (.int x), h, nx) else none := D_zreturn (ins_of mc_185 (pc := 128) (x := (.ireturn, 1)) (by decide +kernel)) mr_185
theorem mc_186 : mC 186 = prog_11_method_67_code := rfl
theorem mo_186 : mO 186 = 9 := rfl
theorem ml_186 : mL 186 = 5 := rfl
theorem mr_186 : mR 186 = (some .boolean) := rfl
theorem ma_186 : mA 186 = 0 := rfl
theorem e_186_0 : Df d 186 0 [l0, l1, l2, l3, l4] st h nx = Df d 186 1 [l0, l1, l2, l3, l4] (.int 0 :: st) h nx := D_iconst (ins_of mc_186 (pc := 0) (x := (.iconst 0, 1)) (by decide +kernel)) (by decide)
theorem e_186_1 (hn : nr l1 = true) : Df d 186 1 [l0, l1, l2, l3, l4] (.int x :: st) h nx = Df d 186 2 [l0, .int x, l2, l3, l4] st h nx := D_istore_n (ins_of mc_186 (pc := 1) (x := (.istore_n 1, 1)) (by decide +kernel)) rfl hn rfl
theorem e_186_2 : Df d 186 2 [l0, l1, l2, l3, l4] st h nx = Df d 186 3 [l0, l1, l2, l3, l4] (.int 0 :: st) h nx := D_iconst (ins_of mc_186 (pc := 2) (x := (.iconst 0, 1)) (by decide +kernel)) (by decide)
theorem e_186_3 (hn : nr l2 = true) : Df d 186 3 [l0, l1, l2, l3, l4] (.int x :: st) h nx = Df d 186 4 [l0, l1, .int x, l3, l4] st h nx := D_istore_n (ins_of mc_186 (pc := 3) (x := (.istore_n 2, 1)) (by decide +kernel)) rfl hn rfl
theorem e_186_4 : Df d 186 4 [l0, l1, l2, l3, l4] st h nx = Df d 186 5 [l0, l1, l2, l3, l4] (.int 1 :: st) h nx := D_iconst (ins_of mc_186 (pc := 4) (x := (.iconst 1, 1)) (by decide +kernel)) (by decide)
theorem e_186_5 (hn : nr l3 = true) : Df d 186 5 [l0, l1, l2, l3, l4] (.int x :: st) h nx = Df d 186 6 [l0, l1, l2, .int x, l4] st h nx := D_istore_n (ins_of mc_186 (pc := 5) (x := (.istore_n 3, 1)) (by decide +kernel)) rfl hn rfl
theorem e_186_6 : Df d 186 6 [.ref a, l1, l2, l3, l4] st h nx = Df d 186 7 [.ref a, l1, l2, l3, l4] (.ref a :: st) h nx := D_aload_n (ins_of mc_186 (pc := 6) (x := (.aload_n 0, 1)) (by decide +kernel)) rfl
theorem e_186_7 : Df d 186 7 [l0, l1, l2, l3, l4] st h nx = Df d 186 8 [l0, l1, l2, l3, l4] (.int 0 :: st) h nx := D_iconst (ins_of mc_186 (pc := 7) (x := (.iconst 0, 1)) (by decide +kernel)) (by decide)
theorem e_186_8 : Df d 186 8 [l0, l1, l2, l3, l4] (.int x :: .ref a :: st) h nx = (pF h a 9 17 (.int x)).bind fun h => Df d 186 11 [l0, l1, l2, l3, l4] st h nx := D_putfield (ins_of mc_186 (pc := 8) (x := (.putfield 237, 3)) (by decide +kernel)) mo_186 (by decide +kernel) rfl (Or.inl rfl)
theorem e_186_11 : Df d 186 11 [.ref a, l1, l2, l3, l4] st h nx = Df d 186 12 [.ref a, l1, l2, l3, l4] (.ref a :: st) h nx := D_aload_n (ins_of mc_186 (pc := 11) (x := (.aload_n 0, 1)) (by decide +kernel)) rfl
theorem e_186_12 : Df d 186 12 [l0, l1, l2, l3, l4] st h nx = Df d 186 13 [l0, l1, l2, l3, l4] (.int 0 :: st) h nx := D_iconst (ins_of mc_186 (pc := 12) (x := (.iconst 0, 1)) (by decide +kernel)) (by decide)
theorem e_186_13 : Df d 186 13 [l0, l1, l2, l3, l4] (.int x :: .ref a :: st) h nx = (pF h a 9 18 (.int x)).bind fun h => Df d 186 16 [l0, l1, l2, l3, l4] st h nx := D_putfield (ins_of mc_186 (pc := 13) (x := (.putfield 243, 3)) (by decide +kernel)) mo_186 (by decide +kernel) rfl (Or.inl rfl)
theorem e_186_16 : Df d 186 16 [.ref a, l1, l2, l3, l4] st h nx = Df d 186 17 [.ref a, l1, l2, l3, l4] (.ref a :: st) h nx := D_aload_n (ins_of mc_186 (pc := 16) (x := (.aload_n 0, 1)) (by decide +kernel)) rfl
theorem e_186_17 : Df d 186 17 [l0, l1, l2, l3, l4] st h nx = Df d 186 18 [l0, l1, l2, l3, l4] (.int 0 :: st) h nx := D_iconst (ins_of mc_186 (pc := 17) (x := (.iconst 0, 1)) (by decide +kernel)) (by decide)
theorem e_186_18 : Df d 186 18 [l0, l1, l2, l3, l4] (.int x :: .ref a :: st) h nx = (pF h a 9 20 (.int x)).bind fun h => Df d 186 21 [l0, l1, l2, l3, l4] st h nx := D_putfield (ins_of mc_186 (pc := 18) (x := (.putfield 231, 3)) (by decide +kernel)) mo_186 (by decide +kernel) rfl (Or.inl rfl)
theorem e_186_21 : Df d 186 21 [.ref a, l1, l2, l3, l4] st h nx = Df d 186 22 [.ref a, l1, l2, l3, l4] (.ref a :: st) h nx := D_aload_n (ins_of mc_186 (pc := 21) (x := (.aload_n 0, 1)) (by decide +kernel)) rfl
theorem e_186_22 : Df d 186 22 [l0, l1, l2, l3, l4] (.ref a :: st) h nx = (gF h a 9 21).bind fun v => Df d 186 25 [l0, l1, l2, l3, l4] (v :: st) h nx := D_getfield (ins_of mc_186 (pc := 22) (x := (.getfield 38, 3)) (by decide +kernel)) mo_186 (by decide +kernel)
theorem e_186_25 : Df d 186 25 [l0, l1, l2, l3, l4] st h nx = Df d 186 26 [l0, l1, l2, l3, l4] (.int 0 :: st) h nx := D_iconst (ins_of mc_186 (pc := 25) (x := (.iconst 0, 1)) (by decide +kernel)) (by decide)
theorem e_186_26 : Df d 186 26 [l0, l1, l2, l3, l4] st h nx = Df d 186 27 [l0, l1, l2, l3, l4] (.int 0 :: st) h nx := D_iconst (ins_of mc_186 (pc := 26) (x := (.iconst 0, 1)) (by decide +kernel)) (by decide)
theorem e_186_27 : Df d 186 27 [l0, l1, l2, l3, l4] (.int y :: .int x :: .ref a :: st) h nx = (wI h a x 1 (vp_nar .boolean y)).bind fun h => Df d 186 28 [l0, l1, l2, l3, l4] st h nx := D_bastore (ins_of mc_186 (pc := 27) (x := (.bastore, 1)) (by decide +kernel))
theorem e_186_28 : Df d 186 28 [l0, l1, l2, .int x, l4] st h nx = Df d 186 29 [l0, l1, l2, .int x, l4] (.int x :: st) h nx := D_iload_n (ins_of mc_186 (pc := 28) (x := (.iload_n 3, 1)) (by decide +kernel)) rfl
theorem e_186_29 : Df d 186 29 [l0, l1, l2, l3, l4] (.int x :: st) h nx = if x = 0 then Df d 186 32 [l0, l1, l2, l3, l4] st h nx else Df d 186 39 [l0, l1, l2, l3, l4] st h nx := D_if_ne (ins_of mc_186 (pc := 29) (x := (.ifCond .ne 10, 3)) (by decide +kernel)) (by decide)
theorem e_186_32 : Df d 186 32 [.ref a, l1, l2, l3, l4] st h nx = Df d 186 33 [.ref a, l1, l2, l3, l4] (.ref a :: st) h nx := D_aload_n (ins_of mc_186 (pc := 32) (x := (.aload_n 0, 1)) (by decide +kernel)) rfl
theorem e_186_33 : Df d 186 33 [l0, l1, l2, l3, l4] (.ref a :: st) h nx = (gF h a 9 10).bind fun v => Df d 186 36 [l0, l1, l2, l3, l4] (v :: st) h nx := D_getfield (ins_of mc_186 (pc := 33) (x := (.getfield 213, 3)) (by decide +kernel)) mo_186 (by decide +kernel)
theorem e_186_36 : Df d 186 36 [l0, l1, l2, l3, l4] (.int x :: st) h nx = if x = 0 then Df d 186 345 [l0, l1, l2, l3, l4] st h nx else Df d 186 39 [l0, l1, l2, l3, l4] st h nx := D_if_eq (ins_of mc_186 (pc := 36) (x := (.ifCond .eq 309, 3)) (by decide +kernel)) (by decide)
theorem e_186_39 : Df d 186 39 [l0, l1, l2, .int x, l4] st h nx = Df d 186 40 [l0, l1, l2, .int x, l4] (.int x :: st) h nx := D_iload_n (ins_of mc_186 (pc := 39) (x := (.iload_n 3, 1)) (by decide +kernel)) rfl
theorem e_186_40 : Df d 186 40 [l0, l1, l2, l3, l4] (.int x :: st) h nx = if x = 0 then Df d 186 180 [l0, l1, l2, l3, l4] st h nx else Df d 186 43 [l0, l1, l2, l3, l4] st h nx := D_if_eq (ins_of mc_186 (pc := 40) (x := (.ifCond .eq 140, 3)) (by decide +kernel)) (by decide)
theorem e_186_43 : Df d 186 43 [.ref a, l1, l2, l3, l4] st h nx = Df d 186 44 [.ref a, l1, l2, l3, l4] (.ref a :: st) h nx := D_aload_n (ins_of mc_186 (pc := 43) (x := (.aload_n 0, 1)) (by decide +kernel)) rfl
theorem e_186_44 : Df d 186 44 [l0, l1, l2, l3, l4] (.ref a :: st) h nx = (gF h a 9 10).bind fun v => Df d 186 47 [l0, l1, l2, l3, l4] (v :: st) h nx := D_getfield (ins_of mc_186 (pc := 44) (x := (.getfield 213, 3)) (by decide +kernel)) mo_186 (by decide +kernel)
theorem e_186_47 : Df d 186 47 [l0, l1, l2, l3, l4] st h nx = Df d 186 48 [l0, l1, l2, l3, l4] (.int 3 :: st) h nx := D_iconst (ins_of mc_186 (pc := 47) (x := (.iconst 3, 1)) (by decide +kernel)) (by decide)
theorem e_186_48 : Df d 186 48 [l0, l1, l2, l3, l4] (.int y :: .int x :: st) h nx = if x = y then Df d 186 51 [l0, l1, l2, l3, l4] st h nx else Df d 186 97 [l0, l1, l2, l3, l4] st h nx := D_icmp_ne (ins_of mc_186 (pc := 48) (x := (.if_icmp .ne 49, 3)) (by decide +kernel)) (by decide)
theorem e_186_51 : Df d 186 51 [.ref a, l1, l2, l3, l4] st h nx = Df d 186 52 [.ref a, l1, l2, l3, l4] (.ref a :: st) h nx := D_aload_n (ins_of mc_186 (pc := 51) (x := (.aload_n 0, 1)) (by decide +kernel)) rfl
theorem e_186_52 : Df d 186 52 [l0, l1, l2, l3, l4] (.ref a :: st) h nx = (gF h a 9 11).bind fun v => Df d 186 55 [l0, l1, l2, l3, l4] (v :: st) h nx := D_getfield (ins_of mc_186 (pc := 52) (x := (.getfield 219, 3)) (by decide +kernel)) mo_186 (by decide +kernel)
theorem e_186_55 : Df d 186 55 [l0, l1, l2, l3, l4] st h nx = Df d 186 57 [l0, l1, l2, l3, l4] (.int 33 :: st) h nx := D_bipush (ins_of mc_186 (pc := 55) (x := (.bipush 33, 2)) (by decide +kernel)) (by decide)
theorem e_186_57 : Df d 186 57 [l0, l1, l2, l3, l4] (.int y :: .int x :: st) h nx = if x = y then Df d 186 60 [l0, l1, l2, l3, l4] st h nx else Df d 186 97 [l0, l1, l2, l3, l4] st h nx := D_icmp_ne (ins_of mc_186 (pc := 57) (x := (.if_icmp .ne 40, 3)) (by decide +kernel)) (by decide)
theorem e_186_60 : Df d 186 60 [l0, l1, .int x, l3, l4] st h nx = Df d 186 61 [l0, l1, .int x, l3, l4] (.int x :: st) h nx := D_iload_n (ins_of mc_186 (pc := 60) (x := (.iload_n 2, 1)) (by decide +kernel)) rfl
theorem e_186_61 : Df d 186 61 [l0, l1, l2, l3, l4] st h nx = Df d 186 63 [l0, l1, l2, l3, l4] (.int 8 :: st) h nx := D_bipush (ins_of mc_186 (pc := 61) (x := (.bipush 8, 2)) (by decide +kernel)) (by decide)
theorem e_186_63 : Df d 186 63 [l0, l1, l2, l3, l4] (.int y :: .int x :: st) h nx = if y ≤ x then Df d 186 97 [l0, l1, l2, l3, l4] st h nx else Df d 186 66 [l0, l1, l2, l3, l4] st h nx := D_icmp_ge (ins_of mc_186 (pc := 63) (x := (.if_icmp .ge 34, 3)) (by decide +kernel)) (by decide)
theorem e_186_66 : Df d 186 66 [.ref a, l1, l2, l3, l4] st h nx = Df d 186 67 [.ref a, l1, l2, l3, l4] (.ref a :: st) h nx := D_aload_n (ins_of mc_186 (pc := 66) (x := (.aload_n 0, 1)) (by decide +kernel)) rfl
theorem e_186_67 : Df d 186 67 [l0, l1, l2, l3, l4] (.ref a :: st) h nx = (gF h a 9 19).bind fun v => Df d 186 70 [l0, l1, l2, l3, l4] (v :: st) h nx := D_getfield (ins_of mc_186 (pc := 67) (x := (.getfield 35, 3)) (by decide +kernel)) mo_186 (by decide +kernel)
theorem e_186_70 : Df d 186 70 [.ref a, l1, l2, l3, l4] st h nx = Df d 186 71 [.ref a, l1, l2, l3, l4] (.ref a :: st) h nx := D_aload_n (ins_of mc_186 (pc := 70) (x := (.aload_n 0, 1)) (by decide +kernel)) rfl
theorem e_186_71 : Df d 186 71 [l0, l1, l2, l3, l4] (.ref a :: st) h nx = (gF h a 9 20).bind fun v => Df d 186 74 [l0, l1, l2, l3, l4] (v :: st) h nx := D_getfield (ins_of mc_186 (pc := 71) (x := (.getfield 231, 3)) (by decide +kernel)) mo_186 (by decide +kernel)
theorem e_186_74 : Df d 186 74 [l0, l1, l2, l3, l4] st h nx = Df d 186 76 [l0, l1, l2, l3, l4] (.int (-10) :: st) h nx := D_bipush (ins_of mc_186 (pc := 74) (x := (.bipush (-10), 2)) (by decide +kernel)) (by decide)
theorem e_186_76 : Df d 186 76 [l0, l1, l2, l3, l4] (.int y :: .int x :: .ref a :: st) h nx = (wI h a x 0 y).bind fun h => Df d 186 77 [l0, l1, l2, l3, l4] st h nx := D_iastore (ins_of mc_186 (pc := 76) (x := (.iastore, 1)) (by decide +kernel))
theorem e_186_77 : Df d 186 77 [.ref a, l1, l2, l3, l4] st h nx = Df d 186 78 [.ref a, l1, l2, l3, l4] (.ref a :: st) h nx := D_aload_n (ins_of mc_186 (pc := 77) (x := (.aload_n 0, 1)) (by decide +kernel)) rfl
theorem e_186_78 (hv : v0.category = 1) : Df d 186 78 [l0, l1, l2, l3, l4] (v0 :: st) h nx = Df d 186 79 [l0, l1, l2, l3, l4] (v0 :: v0 :: st) h nx := D_dup (ins_of mc_186 (pc := 78) (x := (.dup, 1)) (by decide +kernel)) hv
theorem e_186_79 : Df d 186 79 [l0, l1, l2, l3, l4] (.ref a :: st) h nx = (gF h a 9 20).bind fun v => Df d 186 82 [l0, l1, l2, l3, l4] (v :: st) h nx := D_getfield (ins_of mc_186 (pc := 79) (x := (.getfield 231, 3)) (by decide +kernel)) mo_186 (by decide +kernel)
theorem e_186_82 : Df d 186 82 [l0, l1, l2, l3, l4] st h nx = Df d 186 83 [l0, l1, l2, l3, l4] (.int 1 :: st) h nx := D_iconst (ins_of mc_186 (pc := 82) (x := (.iconst 1, 1)) (by decide +kernel)) (by decide)
theorem e_186_83 : Df d 186 83 [l0, l1, l2, l3, l4] (.int y :: .int x :: st) h nx = Df d 186 84 [l0, l1, l2, l3, l4] (.int (x + y) :: st) h nx := D_iadd (ins_of mc_186 (pc := 83) (x := (.iadd, 1)) (by decide +kernel))
theorem e_186_84 : Df d 186 84 [l0, l1, l2, l3, l4] (.int x :: .ref a :: st) h nx = (pF h a 9 20 (.int x)).bind fun h => Df d 186 87 [l0, l1, l2, l3, l4] st h nx := D_putfield (ins_of mc_186 (pc := 84) (x := (.putfield 231, 3)) (by decide +kernel)) mo_186 (by decide +kernel) rfl (Or.inl rfl)
theorem e_186_87 : Df d 186 87 [l0, l1, .int x, l3, l4] st h nx = Df d 186 90 [l0, l1, .int (x + 1), l3, l4] st h nx := D_iinc (ins_of mc_186 (pc := 87) (x := (.iinc 2 1, 3)) (by decide +kernel)) rfl (by decide) rfl
theorem e_186_90 : Df d 186 90 [.ref a, l1, l2, l3, l4] st h nx = Df d 186 91 [.ref a, l1, l2, l3, l4] (.ref a :: st) h nx := D_aload_n (ins_of mc_186 (pc := 90) (x := (.aload_n 0, 1)) (by decide +kernel)) rfl
theorem e_186_91 : Df d 186 91 [l0, l1, l2, l3, l4] [.ref a] h nx = if ck h a 9 = true then cn d 186 94 [l0, l1, l2, l3, l4] [] (Dn d 182 [.ref a] h nx) else none := D_virtual (k1 := 182) (ins_of mc_186 (pc := 91) (x := (.invokevirtual 228, 3)) (by decide +kernel)) mo_186 (by decide +kernel) (by decide) rfl rfl (by decide) rfl (Nat.le_of_ble_eq_true rfl) rfl
theorem e_186_94 : Df d 186 94 [l0, l1, l2, l3, l4] st h nx = Df d 186 172 [l0, l1, l2, l3, l4] st h nx := D_goto (ins_of mc_186 (pc := 94) (x := (.goto 78, 3)) (by decide +kernel)) (by decide)
theorem e_186_97 : Df d 186 97 [.ref a, l1, l2, l3, l4] st h nx = Df d 186 98 [.ref a, l1, l2, l3, l4] (.ref a :: st) h nx := D_aload_n (ins_of mc_186 (pc := 97) (x := (.aload_n 0, 1)) (by decide +kernel)) rfl
theorem e_186_98 : Df d 186 98 [l0, l1, l2, l3, l4] (.ref a :: st) h nx = (gF h a 9 10).bind fun v => Df d 186 101 [l0, l1, l2, l3, l4] (v :: st) h nx := D_getfield (ins_of mc_186 (pc := 98) (x := (.getfield 213, 3)) (by decide +kernel)) mo_186 (by decide +kernel)
theorem e_186_101 : Df d 186 101 [l0, l1, l2, l3, l4] st h nx = Df d 186 102 [l0, l1, l2, l3, l4] (.int 3 :: st) h nx := D_iconst (ins_of mc_186 (pc := 101) (x := (.iconst 3, 1)) (by decide +kernel)) (by decide)
theorem e_186_102 : Df d 186 102 [l0, l1, l2, l3, l4] (.int y :: .int x :: st) h nx = if x = y then Df d 186 105 [l0, l1, l2, l3, l4] st h nx else Df d 186 158 [l0, l1, l2, l3, l4] st h nx := D_icmp_ne (ins_of mc_186 (pc := 102) (x := (.if_icmp .ne 56, 3)) (by decide +kernel)) (by decide)
theorem e_186_105 : Df d 186 105 [.ref a, l1, l2, l3, l4] st h nx = Df d 186 106 [.ref a, l1, l2, l3, l4] (.ref a :: st) h nx := D_aload_n (ins_of mc_186 (pc := 105) (x := (.aload_n 0, 1)) (by decide +kernel)) rfl
theorem e_186_106 : Df d 186 106 [l0, l1, l2, l3, l4] (.ref a :: st) h nx = (gF h a 9 11).bind fun v => Df d 186 109 [l0, l1, l2, l3, l4] (v :: st) h nx := D_getfield (ins_of mc_186 (pc := 106) (x := (.getfield 219, 3)) (by decide +kernel)) mo_186 (by decide +kernel)
theorem e_186_109 : Df d 186 109 [l0, l1, l2, l3, l4] st h nx = Df d 186 111 [l0, l1, l2, l3, l4] (.int 40 :: st) h nx := D_bipush (ins_of mc_186 (pc := 109) (x := (.bipush 40, 2)) (by decide +kernel)) (by decide)
theorem e_186_111 : Df d 186 111 [l0, l1, l2, l3, l4] (.int y :: .int x :: st) h nx = if x = y then Df d 186 114 [l0, l1, l2, l3, l4] st h nx else Df d 186 158 [l0, l1, l2, l3, l4] st h nx := D_icmp_ne (ins_of mc_186 (pc := 111) (x := (.if_icmp .ne 47, 3)) (by decide +kernel)) (by decide)
theorem e_186_114 : Df d 186 114 [l0, .int x, l2, l3, l4] st h nx = Df d 186 115 [l0, .int x, l2, l3, l4] (.int x :: st) h nx := D_iload_n (ins_of mc_186 (pc := 114) (x := (.iload_n 1, 1)) (by decide +kernel)) rfl
theorem e_186_115 : Df d 186 115 [l0, l1, l2, l3, l4] st h nx = Df d 186 117 [l0, l1, l2, l3, l4] (.int 8 :: st) h nx := D_bipush (ins_of mc_186 (pc := 115) (x := (.bipush 8, 2)) (by decide +kernel)) (by decide)
theorem e_186_117 : Df d 186 117 [l0, l1, l2, l3, l4] (.int y :: .int x :: st) h nx = if y ≤ x then Df d 186 158 [l0, l1, l2, l3, l4] st h nx else Df d 186 120 [l0, l1, l2, l3, l4] st h nx := D_icmp_ge (ins_of mc_186 (pc := 117) (x := (.if_icmp .ge 41, 3)) (by decide +kernel)) (by decide)
theorem e_186_120 : Df d 186 120 [.ref a, l1, l2, l3, l4] st h nx = Df d 186 121 [.ref a, l1, l2, l3, l4] (.ref a :: st) h nx := D_aload_n (ins_of mc_186 (pc := 120) (x := (.aload_n 0, 1)) (by decide +kernel)) rfl
theorem e_186_121 : Df d 186 121 [l0, l1, l2, l3, l4] (.ref a :: st) h nx = (gF h a 9 19).bind fun v => Df d 186 124 [l0, l1, l2, l3, l4] (v :: st) h nx := D_getfield (ins_of mc_186 (pc := 121) (x := (.getfield 35, 3)) (by decide +kernel)) mo_186 (by decide +kernel)
theorem e_186_124 : Df d 186 124 [.ref a, l1, l2, l3, l4] st h nx = Df d 186 125 [.ref a, l1, l2, l3, l4] (.ref a :: st) h nx := D_aload_n (ins_of mc_186 (pc := 124) (x := (.aload_n 0, 1)) (by decide +kernel)) rfl
theorem e_186_125 : Df d 186 125 [l0, l1, l2, l3, l4] (.ref a :: st) h nx = (gF h a 9 20).bind fun v => Df d 186 128 [l0, l1, l2, l3, l4] (v :: st) h nx := D_getfield (ins_of mc_186 (pc := 125) (x := (.getfield 231, 3)) (by decide +kernel)) mo_186 (by decide +kernel)
theorem e_186_128 : Df d 186 128 [l0, l1, l2, l3, l4] st h nx = Df d 186 130 [l0, l1, l2, l3, l4] (.int (-11) :: st) h nx := D_bipush (ins_of mc_186 (pc := 128) (x := (.bipush (-11), 2)) (by decide +kernel)) (by decide)
theorem e_186_130 : Df d 186 130 [l0, l1, l2, l3, l4] (.int y :: .int x :: .ref a :: st) h nx = (wI h a x 0 y).bind fun h => Df d 186 131 [l0, l1, l2, l3, l4] st h nx := D_iastore (ins_of mc_186 (pc := 130) (x := (.iastore, 1)) (by decide +kernel))
theorem e_186_131 : Df d 186 131 [.ref a, l1, l2, l3, l4] st h nx = Df d 186 132 [.ref a, l1, l2, l3, l4] (.ref a :: st) h nx := D_aload_n (ins_of mc_186 (pc := 131) (x := (.aload_n 0, 1)) (by decide +kernel)) rfl
theorem e_186_132 (hv : v0.category = 1) : Df d 186 132 [l0, l1, l2, l3, l4] (v0 :: st) h nx = Df d 186 133 [l0, l1, l2, l3, l4] (v0 :: v0 :: st) h nx := D_dup (ins_of mc_186 (pc := 132) (x := (.dup, 1)) (by decide +kernel)) hv
theorem e_186_133 : Df d 186 133 [l0, l1, l2, l3, l4] (.ref a :: st) h nx = (gF h a 9 20).bind fun v => Df d 186 136 [l0, l1, l2, l3, l4] (v :: st) h nx := D_getfield (ins_of mc_186 (pc := 133) (x := (.getfield 231, 3)) (by decide +kernel)) mo_186 (by decide +kernel)
theorem e_186_136 : Df d 186 136 [l0, l1, l2, l3, l4] st h nx = Df d 186 137 [l0, l1, l2, l3, l4] (.int 1 :: st) h nx := D_iconst (ins_of mc_186 (pc := 136) (x := (.iconst 1, 1)) (by decide +kernel)) (by decide)
theorem e_186_137 : Df d 186 137 [l0, l1, l2, l3, l4] (.int y :: .int x :: st) h nx = Df d 186 138 [l0, l1, l2, l3, l4] (.int (x + y) :: st) h nx := D_iadd (ins_of mc_186 (pc := 137) (x := (.iadd, 1)) (by decide +kernel))
theorem e_186_138 : Df d 186 138 [l0, l1, l2, l3, l4] (.int x :: .ref a :: st) h nx = (pF h a 9 20 (.int x)).bind fun h => Df d 186 141 [l0, l1, l2, l3, l4] st h nx := D_putfield (ins_of mc_186 (pc := 138) (x := (.putfield 231, 3)) (by decide +kernel)) mo_186 (by decide +kernel) rfl (Or.inl rfl)
theorem e_186_141 : Df d 186 141 [l0, .int x, l2, l3, l4] st h nx = Df d 186 144 [l0, .int (x + 1), l2, l3, l4] st h nx := D_iinc (ins_of mc_186 (pc := 141) (x := (.iinc 1 1, 3)) (by decide +kernel)) rfl (by decide) rfl
theorem e_186_144 : Df d 186 144 [.ref a, l1, l2, l3, l4] st h nx = Df d 186 145 [.ref a, l1, l2, l3, l4] (.ref a :: st) h nx := D_aload_n (ins_of mc_186 (pc := 144) (x := (.aload_n 0, 1)) (by decide +kernel)) rfl
theorem e_186_145 : Df d 186 145 [l0, l1, l2, l3, l4] (.ref a :: st) h nx = (gF h a 9 21).bind fun v => Df d 186 148 [l0, l1, l2, l3, l4] (v :: st) h nx := D_getfield (ins_of mc_186 (pc := 145) (x := (.getfield 38, 3)) (by decide +kernel)) mo_186 (by decide +kernel)
theorem e_186_148 : Df d 186 148 [l0, .int x, l2, l3, l4] st h nx = Df d 186 149 [l0, .int x, l2, l3, l4] (.int x :: st) h nx := D_iload_n (ins_of mc_186 (pc := 148) (x := (.iload_n 1, 1)) (by decide +kernel)) rfl
theorem e_186_149 : Df d 186 149 [l0, l1, l2, l3, l4] st h nx = Df d 186 150 [l0, l1, l2, l3, l4] (.int 0 :: st) h nx := D_iconst (ins_of mc_186 (pc := 149) (x := (.iconst 0, 1)) (by decide +kernel)) (by decide)
theorem e_186_150 : Df d 186 150 [l0, l1, l2, l3, l4] (.int y :: .int x :: .ref a :: st) h nx = (wI h a x 1 (vp_nar .boolean y)).bind fun h => Df d 186 151 [l0, l1, l2, l3, l4] st h nx := D_bastore (ins_of mc_186 (pc := 150) (x := (.bastore, 1)) (by decide +kernel))
theorem e_186_151 : Df d 186 151 [.ref a, l1, l2, l3, l4] st h nx = Df d 186 152 [.ref a, l1, l2, l3, l4] (.ref a :: st) h nx := D_aload_n (ins_of mc_186 (pc := 151) (x := (.aload_n 0, 1)) (by decide +kernel)) rfl
theorem e_186_152 : Df d 186 152 [l0, l1, l2, l3, l4] [.ref a] h nx = if ck h a 9 = true then cn d 186 155 [l0, l1, l2, l3, l4] [] (Dn d 182 [.ref a] h nx) else none := D_virtual (k1 := 182) (ins_of mc_186 (pc := 152) (x := (.invokevirtual 228, 3)) (by decide +kernel)) mo_186 (by decide +kernel) (by decide) rfl rfl (by decide) rfl (Nat.le_of_ble_eq_true rfl) rfl
theorem e_186_155 : Df d 186 155 [l0, l1, l2, l3, l4] st h nx = Df d 186 172 [l0, l1, l2, l3, l4] st h nx := D_goto (ins_of mc_186 (pc := 155) (x := (.goto 17, 3)) (by decide +kernel)) (by decide)
theorem e_186_158 : Df d 186 158 [.ref a, l1, l2, l3, l4] st h nx = Df d 186 159 [.ref a, l1, l2, l3, l4] (.ref a :: st) h nx := D_aload_n (ins_of mc_186 (pc := 158) (x := (.aload_n 0, 1)) (by decide +kernel)) rfl
theorem e_186_159 : Df d 186 159 [l0, l1, l2, l3, l4] [.ref a] h nx = if ck h a 9 = true then cn d 186 162 [l0, l1, l2, l3, l4] [] (Dn d 187 [.ref a] h nx) else none := D_virtual (k1 := 187) (ins_of mc_186 (pc := 159) (x := (.invokevirtual 249, 3)) (by decide +kernel)) mo_186 (by decide +kernel) (by decide) rfl rfl (by decide) rfl (Nat.le_of_ble_eq_true rfl) rfl
theorem e_186_162 : Df d 186 162 [l0, l1, l2, l3, l4] (.int x :: st) h nx = if x = 0 then Df d 186 170 [l0, l1, l2, l3, l4] st h nx else Df d 186 165 [l0, l1, l2, l3, l4] st h nx := D_if_eq (ins_of mc_186 (pc := 162) (x := (.ifCond .eq 8, 3)) (by decide +kernel)) (by decide)
theorem e_186_165 : Df d 186 165 [l0, l1, l2, l3, l4] st h nx = Df d 186 166 [l0, l1, l2, l3, l4] (.int 0 :: st) h nx := D_iconst (ins_of mc_186 (pc := 165) (x := (.iconst 0, 1)) (by decide +kernel)) (by decide)
theorem e_186_166 (hn : nr l3 = true) : Df d 186 166 [l0, l1, l2, l3, l4] (.int x :: st) h nx = Df d 186 167 [l0, l1, l2, .int x, l4] st h nx := D_istore_n (ins_of mc_186 (pc := 166) (x := (.istore_n 3, 1)) (by decide +kernel)) rfl hn rfl
theorem e_186_167 : Df d 186 167 [l0, l1, l2, l3, l4] st h nx = Df d 186 172 [l0, l1, l2, l3, l4] st h nx := D_goto (ins_of mc_186 (pc := 167) (x := (.goto 5, 3)) (by decide +kernel)) (by decide)
theorem e_186_170 : Df d 186 170 [l0, l1, l2, l3, l4] st h nx = Df d 186 171 [l0, l1, l2, l3, l4] (.int 0 :: st) h nx := D_iconst (ins_of mc_186 (pc := 170) (x := (.iconst 0, 1)) (by decide +kernel)) (by decide)
theorem e_186_171 : Df d 186 171 [l0, l1, l2, l3, l4] [.int x] h nx = if nR .boolean x = true then some (some (.int x), h, nx) else none := D_zreturn (ins_of mc_186 (pc := 171) (x := (.ireturn, 1)) (by decide +kernel)) mr_186
theorem e_186_172 : Df d 186 172 [.ref a, l1, l2, l3, l4] st h nx = Df d 186 173 [.ref a, l1, l2, l3, l4] (.ref a :: st) h nx := D_aload_n (ins_of mc_186 (pc := 172) (x := (.aload_n 0, 1)) (by decide +kernel)) rfl
theorem e_186_173 : Df d 186 173 [l0, l1, l2, l3, l4] [.ref a] h nx = if ck h a 9 = true then cn d 186 176 [l0, l1, l2, l3, l4] [] (Dn d 191 [.ref a] h nx) else none := D_virtual (k1 := 191) (ins_of mc_186 (pc := 173) (x := (.invokevirtual 253, 3)) (by decide +kernel)) mo_186 (by decide +kernel) (by decide) rfl rfl (by decide) rfl (Nat.le_of_ble_eq_true rfl) rfl
theorem e_186_176 (hn : nr l2 = true) : Df d 186 176 [l0, l1, l2, l3, l4] (.int x :: st) h nx = Df d 186 177 [l0, l1, .int x, l3, l4] st h nx := D_istore_n (ins_of mc_186 (pc := 176) (x := (.istore_n 2, 1)) (by decide +kernel)) rfl hn rfl
theorem e_186_177 : Df d 186 177 [l0, l1, l2, l3, l4] st h nx = Df d 186 28 [l0, l1, l2, l3, l4] st h nx := D_goto (ins_of mc_186 (pc := 177) (x := (.goto (-149), 3)) (by decide +kernel)) (by decide)
theorem e_186_180 : Df d 186 180 [.ref a, l1, l2, l3, l4] st h nx = Df d 186 181 [.ref a, l1, l2, l3, l4] (.ref a :: st) h nx := D_aload_n (ins_of mc_186 (pc := 180) (x := (.aload_n 0, 1)) (by decide +kernel)) rfl
theorem e_186_181 : Df d 186 181 [l0, l1, l2, l3, l4] (.ref a :: st) h nx = (gF h a 9 10).bind fun v => Df d 186 184 [l0, l1, l2, l3, l4] (v :: st) h nx := D_getfield (ins_of mc_186 (pc := 181) (x := (.getfield 213, 3)) (by decide +kernel)) mo_186 (by decide +kernel)
theorem e_186_184 : Df d 186 184 [l0, l1, l2, l3, l4] st h nx = Df d 186 185 [l0, l1, l2, l3, l4] (.int 3 :: st) h nx := D_iconst (ins_of mc_186 (pc := 184) (x := (.iconst 3, 1)) (by decide +kernel)) (by decide)
theorem e_186_185 : Df d 186 185 [l0, l1, l2, l3, l4] (.int y :: .int x :: st) h nx = if x = y then Df d 186 188 [l0, l1, l2, l3, l4] st h nx else Df d 186 237 [l0, l1, l2, l3, l4] st h nx := D_icmp_ne (ins_of mc_186 (pc := 185) (x := (.if_icmp .ne 52, 3)) (by decide +kernel)) (by decide)
theorem e_186_188 : Df d 186 188 [.ref a, l1, l2, l3, l4] st h nx = Df d 186 189 [.ref a, l1, l2, l3, l4] (.ref a :: st) h nx := D_aload_n (ins_of mc_186 (pc := 188) (x := (.aload_n 0, 1)) (by decide +kernel)) rfl
theorem e_186_189 : Df d 186 189 [l0, l1, l2, l3, l4] (.ref a :: st) h nx = (gF h a 9 11).bind fun v => Df d 186 192 [l0, l1, l2, l3, l4] (v :: st) h nx := D_getfield (ins_of mc_186 (pc := 189) (x := (.getfield 219, 3)) (by decide +kernel)) mo_186 (by decide +kernel)
theorem e_186_192 : Df d 186 192 [l0, l1, l2, l3, l4] st h nx = Df d 186 194 [l0, l1, l2, l3, l4] (.int 41 :: st) h nx := D_bipush (ins_of mc_186 (pc := 192) (x := (.bipush 41, 2)) (by decide +kernel)) (by decide)
theorem e_186_194 : Df d 186 194 [l0, l1, l2, l3, l4] (.int y :: .int x :: st) h nx = if x = y then Df d 186 197 [l0, l1, l2, l3, l4] st h nx else Df d 186 237 [l0, l1, l2, l3, l4] st h nx := D_icmp_ne (ins_of mc_186 (pc := 194) (x := (.if_icmp .ne 43, 3)) (by decide +kernel)) (by decide)
theorem e_186_197 : Df d 186 197 [l0, .int x, l2, l3, l4] st h nx = Df d 186 198 [l0, .int x, l2, l3, l4] (.int x :: st) h nx := D_iload_n (ins_of mc_186 (pc := 197) (x := (.iload_n 1, 1)) (by decide +kernel)) rfl
theorem e_186_198 : Df d 186 198 [l0, l1, l2, l3, l4] (.int x :: st) h nx = if x ≤ 0 then Df d 186 237 [l0, l1, l2, l3, l4] st h nx else Df d 186 201 [l0, l1, l2, l3, l4] st h nx := D_if_le (ins_of mc_186 (pc := 198) (x := (.ifCond .le 39, 3)) (by decide +kernel)) (by decide)
theorem e_186_201 : Df d 186 201 [.ref a, l1, l2, l3, l4] st h nx = Df d 186 202 [.ref a, l1, l2, l3, l4] (.ref a :: st) h nx := D_aload_n (ins_of mc_186 (pc := 201) (x := (.aload_n 0, 1)) (by decide +kernel)) rfl
theorem e_186_202 : Df d 186 202 [l0, l1, l2, l3, l4] st h nx = Df d 186 203 [l0, l1, l2, l3, l4] (.int 0 :: st) h nx := D_iconst (ins_of mc_186 (pc := 202) (x := (.iconst 0, 1)) (by decide +kernel)) (by decide)
theorem e_186_203 : Df d 186 203 [l0, l1, l2, l3, l4] [v0, .ref a] h nx = if ck h a 9 = true then cn d 186 206 [l0, l1, l2, l3, l4] [] (Dn d 189 [.ref a, v0] h nx) else none := D_virtual (k1 := 189) (ins_of mc_186 (pc := 203) (x := (.invokevirtual 246, 3)) (by decide +kernel)) mo_186 (by decide +kernel) (by decide) rfl rfl (by decide) rfl (Nat.le_of_ble_eq_true rfl) rfl
theorem e_186_206 : Df d 186 206 [.ref a, l1, l2, l3, l4] st h nx = Df d 186 207 [.ref a, l1, l2, l3, l4] (.ref a :: st) h nx := D_aload_n (ins_of mc_186 (pc := 206) (x := (.aload_n 0, 1)) (by decide +kernel)) rfl
theorem e_186_207 (hv : v0.category = 1) : Df d 186 207 [l0, l1, l2, l3, l4] (v0 :: st) h nx = Df d 186 208 [l0, l1, l2, l3, l4] (v0 :: v0 :: st) h nx := D_dup (ins_of mc_186 (pc := 207) (x := (.dup, 1)) (by decide +kernel)) hv
theorem e_186_208 : Df d 186 208 [l0, l1, l2, l3, l4] (.ref a :: st) h nx = (gF h a 9 20).bind fun v => Df d 186 211 [l0, l1, l2, l3, l4] (v :: st) h nx := D_getfield (ins_of mc_186 (pc := 208) (x := (.getfield 231, 3)) (by decide +kernel)) mo_186 (by decide +kernel)
theorem e_186_211 : Df d 186 211 [l0, l1, l2, l3, l4] st h nx = Df d 186 212 [l0, l1, l2, l3, l4] (.int 1 :: st) h nx := D_iconst (ins_of mc_186 (pc := 211) (x := (.iconst 1, 1)) (by decide +kernel)) (by decide)
theorem e_186_212 : Df d 186 212 [l0, l1, l2, l3, l4] (.int y :: .int x :: st) h nx = Df d 186 213 [l0, l1, l2, l3, l4] (.int (x - y) :: st) h nx := D_isub (ins_of mc_186 (pc := 212) (x := (.isub, 1)) (by decide +kernel))
theorem e_186_213 : Df d 186 213 [l0, l1, l2, l3, l4] (.int x :: .ref a :: st) h nx = (pF h a 9 20 (.int x)).bind fun h => Df d 186 216 [l0, l1, l2, l3, l4] st h nx := D_putfield (ins_of mc_186 (pc := 213) (x := (.putfield 231, 3)) (by decide +kernel)) mo_186 (by decide +kernel) rfl (Or.inl rfl)
theorem e_186_216 : Df d 186 216 [l0, .int x, l2, l3, l4] st h nx = Df d 186 219 [l0, .int (x + (-1)), l2, l3, l4] st h nx := D_iinc (ins_of mc_186 (pc := 216) (x := (.iinc 1 (-1), 3)) (by decide +kernel)) rfl (by decide) rfl
theorem e_186_219 : Df d 186 219 [.ref a, l1, l2, l3, l4] st h nx = Df d 186 220 [.ref a, l1, l2, l3, l4] (.ref a :: st) h nx := D_aload_n (ins_of mc_186 (pc := 219) (x := (.aload_n 0, 1)) (by decide +kernel)) rfl
theorem e_186_220 : Df d 186 220 [l0, l1, l2, l3, l4] st h nx = Df d 186 222 [l0, l1, l2, l3, l4] (.int 6 :: st) h nx := D_bipush (ins_of mc_186 (pc := 220) (x := (.bipush 6, 2)) (by decide +kernel)) (by decide)
theorem e_186_222 : Df d 186 222 [l0, l1, l2, l3, l4] [v0, .ref a] h nx = if ck h a 9 = true then cn d 186 225 [l0, l1, l2, l3, l4] [] (Dn d 189 [.ref a, v0] h nx) else none := D_virtual (k1 := 189) (ins_of mc_186 (pc := 222) (x := (.invokevirtual 246, 3)) (by decide +kernel)) mo_186 (by decide +kernel) (by decide) rfl rfl (by decide) rfl (Nat.le_of_ble_eq_true rfl) rfl
theorem e_186_225 : Df d 186 225 [.ref a, l1, l2, l3, l4] st h nx = Df d 186 226 [.ref a, l1, l2, l3, l4] (.ref a :: st) h nx := D_aload_n (ins_of mc_186 (pc := 225) (x := (.aload_n 0, 1)) (by decide +kernel)) rfl
theorem e_186_226 : Df d 186 226 [l0, l1, l2, l3, l4] [.ref a] h nx = if ck h a 9 = true then cn d 186 229 [l0, l1, l2, l3, l4] [] (Dn d 191 [.ref a] h nx) else none := D_virtual (k1 := 191) (ins_of mc_186 (pc := 226) (x := (.invokevirtual 253, 3)) (by decide +kernel)) mo_186 (by decide +kernel) (by decide) rfl rfl (by decide) rfl (Nat.le_of_ble_eq_true rfl) rfl
theorem e_186_229 (hn : nr l2 = true) : Df d 186 229 [l0, l1, l2, l3, l4] (.int x :: st) h nx = Df d 186 230 [l0, l1, .int x, l3, l4] st h nx := D_istore_n (ins_of mc_186 (pc := 229) (x := (.istore_n 2, 1)) (by decide +kernel)) rfl hn rfl
theorem e_186_230 : Df d 186 230 [.ref a, l1, l2, l3, l4] st h nx = Df d 186 231 [.ref a, l1, l2, l3, l4] (.ref a :: st) h nx := D_aload_n (ins_of mc_186 (pc := 230) (x := (.aload_n 0, 1)) (by decide +kernel)) rfl
theorem e_186_231 : Df d 186 231 [l0, l1, l2, l3, l4] [.ref a] h nx = if ck h a 9 = true then cn d 186 234 [l0, l1, l2, l3, l4] [] (Dn d 182 [.ref a] h nx) else none := D_virtual (k1 := 182) (ins_of mc_186 (pc := 231) (x := (.invokevirtual 228, 3)) (by decide +kernel)) mo_186 (by decide +kernel) (by decide) rfl rfl (by decide) rfl (Nat.le_of_ble_eq_true rfl) rfl
theorem e_186_234 : Df d 186 234 [l0, l1, l2, l3, l4] st h nx = Df d 186 28 [l0, l1, l2, l3, l4] st h nx := D_goto (ins_of mc_186 (pc := 234) (x := (.goto (-206), 3)) (by decide +kernel)) (by decide)
theorem e_186_237 : Df d 186 237 [.ref a, l1, l2, l3, l4] st h nx = Df d 186 238 [.ref a, l1, l2, l3, l4] (.ref a :: st) h nx := D_aload_n (ins_of mc_186 (pc := 237) (x := (.aload_n 0, 1)) (by decide +kernel)) rfl
theorem e_186_238 : Df d 186 238 [l0, l1, l2, l3, l4] [.ref a] h nx = if ck h a 9 = true then cn d 186 241 [l0, l1, l2, l3, l4] [] (Dn d 192 [.ref a] h nx) else none := D_virtual (k1 := 192) (ins_of mc_186 (pc := 238) (x := (.invokevirtual 256, 3)) (by decide +kernel)) mo_186 (by decide +kernel) (by decide) rfl rfl (by decide) rfl (Nat.le_of_ble_eq_true rfl) rfl
theorem e_186_241 (hn : nr l4 = true) : Df d 186 241 [l0, l1, l2, l3, l4] (.int x :: st) h nx = Df d 186 243 [l0, l1, l2, l3, .int x] st h nx := D_istore (ins_of mc_186 (pc := 241) (x := (.istore 4, 2)) (by decide +kernel)) rfl hn rfl
theorem e_186_243 : Df d 186 243 [l0, l1, l2, l3, .int x] st h nx = Df d 186 245 [l0, l1, l2, l3, .int x] (.int x :: st) h nx := D_iload (ins_of mc_186 (pc := 243) (x := (.iload 4, 2)) (by decide +kernel)) rfl
theorem e_186_245 : Df d 186 245 [l0, l1, l2, l3, l4] (.int x :: st) h nx = if x = 0 then Df d 186 266 [l0, l1, l2, l3, l4] st h nx else Df d 186 248 [l0, l1, l2, l3, l4] st h nx := D_if_eq (ins_of mc_186 (pc := 245) (x := (.ifCond .eq 21, 3)) (by decide +kernel)) (by decide)
theorem e_186_248 : Df d 186 248 [l0, l1, l2, l3, .int x] st h nx = Df d 186 250 [l0, l1, l2, l3, .int x] (.int x :: st) h nx := D_iload (ins_of mc_186 (pc := 248) (x := (.iload 4, 2)) (by decide +kernel)) rfl
theorem e_186_250 : Df d 186 250 [l0, l1, l2, l3, l4] [v0] h nx = cn d 186 253 [l0, l1, l2, l3, l4] [] (Dn d 190 [v0] h nx) := D_static (k1 := 190) (kd := 1) (ins_of mc_186 (pc := 250) (x := (.invokestatic 234, 3)) (by decide +kernel)) mo_186 (by decide +kernel) (by decide) rfl (Nat.le_of_ble_eq_true rfl) rfl (Nat.le_of_ble_eq_true rfl) rfl
theorem e_186_253 : Df d 186 253 [l0, l1, l2, l3, l4] st h nx = Df d 186 254 [l0, l1, l2, l3, l4] (.int 3 :: st) h nx := D_iconst (ins_of mc_186 (pc := 253) (x := (.iconst 3, 1)) (by decide +kernel)) (by decide)
theorem e_186_254 : Df d 186 254 [l0, l1, l2, l3, l4] (.int y :: .int x :: st) h nx = if x = y then Df d 186 257 [l0, l1, l2, l3, l4] st h nx else Df d 186 268 [l0, l1, l2, l3, l4] st h nx := D_icmp_ne (ins_of mc_186 (pc := 254) (x := (.if_icmp .ne 14, 3)) (by decide +kernel)) (by decide)
theorem e_186_257 : Df d 186 257 [.ref a, l1, l2, l3, l4] st h nx = Df d 186 258 [.ref a, l1, l2, l3, l4] (.ref a :: st) h nx := D_aload_n (ins_of mc_186 (pc := 257) (x := (.aload_n 0, 1)) (by decide +kernel)) rfl
theorem e_186_258 : Df d 186 258 [l0, l1, l2, l3, l4] (.ref a :: st) h nx = (gF h a 9 21).bind fun v => Df d 186 261 [l0, l1, l2, l3, l4] (v :: st) h nx := D_getfield (ins_of mc_186 (pc := 258) (x := (.getfield 38, 3)) (by decide +kernel)) mo_186 (by decide +kernel)
theorem e_186_261 : Df d 186 261 [l0, .int x, l2, l3, l4] st h nx = Df d 186 262 [l0, .int x, l2, l3, l4] (.int x :: st) h nx := D_iload_n (ins_of mc_186 (pc := 261) (x := (.iload_n 1, 1)) (by decide +kernel)) rfl
theorem e_186_262 : Df d 186 262 [l0, l1, l2, l3, l4] (.int x :: .ref a :: st) h nx = (rI h a x 1).bind fun v => Df d 186 263 [l0, l1, l2, l3, l4] (.int v :: st) h nx := D_baload (ins_of mc_186 (pc := 262) (x := (.baload, 1)) (by decide +kernel))
theorem e_186_263 : Df d 186 263 [l0, l1, l2, l3, l4] (.int x :: st) h nx = if x = 0 then Df d 186 268 [l0, l1, l2, l3, l4] st h nx else Df d 186 266 [l0, l1, l2, l3, l4] st h nx := D_if_eq (ins_of mc_186 (pc := 263) (x := (.ifCond .eq 5, 3)) (by decide +kernel)) (by decide)
theorem e_186_266 : Df d 186 266 [l0, l1, l2, l3, l4] st h nx = Df d 186 267 [l0, l1, l2, l3, l4] (.int 0 :: st) h nx := D_iconst (ins_of mc_186 (pc := 266) (x := (.iconst 0, 1)) (by decide +kernel)) (by decide)
theorem e_186_267 : Df d 186 267 [l0, l1, l2, l3, l4] [.int x] h nx = if nR .boolean x = true then some (some (.int x), h, nx) else none := D_zreturn (ins_of mc_186 (pc := 267) (x := (.ireturn, 1)) (by decide +kernel)) mr_186
theorem e_186_268 : Df d 186 268 [.ref a, l1, l2, l3, l4] st h nx = Df d 186 269 [.ref a, l1, l2, l3, l4] (.ref a :: st) h nx := D_aload_n (ins_of mc_186 (pc := 268) (x := (.aload_n 0, 1)) (by decide +kernel)) rfl
theorem e_186_269 : Df d 186 269 [l0, l1, l2, l3, l4] (.ref a :: st) h nx = (gF h a 9 21).bind fun v => Df d 186 272 [l0, l1, l2, l3, l4] (v :: st) h nx := D_getfield (ins_of mc_186 (pc := 269) (x := (.getfield 38, 3)) (by decide +kernel)) mo_186 (by decide +kernel)
theorem e_186_272 : Df d 186 272 [l0, .int x, l2, l3, l4] st h nx = Df d 186 273 [l0, .int x, l2, l3, l4] (.int x :: st) h nx := D_iload_n (ins_of mc_186 (pc := 272) (x := (.iload_n 1, 1)) (by decide +kernel)) rfl
theorem e_186_273 : Df d 186 273 [l0, l1, l2, l3, .int x] st h nx = Df d 186 275 [l0, l1, l2, l3, .int x] (.int x :: st) h nx := D_iload (ins_of mc_186 (pc := 273) (x := (.iload 4, 2)) (by decide +kernel)) rfl
theorem e_186_275 : Df d 186 275 [l0, l1, l2, l3, l4] [v0, s0, s1] h nx = cn d 186 278 [l0, l1, l2, l3, l4] [s0, s1] (Dn d 190 [v0] h nx) := D_static (k1 := 190) (kd := 1) (ins_of mc_186 (pc := 275) (x := (.invokestatic 234, 3)) (by decide +kernel)) mo_186 (by decide +kernel) (by decide) rfl (Nat.le_of_ble_eq_true rfl) rfl (Nat.le_of_ble_eq_true rfl) rfl
theorem e_186_278 : Df d 186 278 [l0, l1, l2, l3, l4] st h nx = Df d 186 279 [l0, l1, l2, l3, l4] (.int 3 :: st) h nx := D_iconst (ins_of mc_186 (pc := 278) (x := (.iconst 3, 1)) (by decide +kernel)) (by decide)
theorem e_186_279 : Df d 186 279 [l0, l1, l2, l3, l4] (.int y :: .int x :: st) h nx = if x = y then Df d 186 300 [l0, l1, l2, l3, l4] st h nx else Df d 186 282 [l0, l1, l2, l3, l4] st h nx := D_icmp_eq (ins_of mc_186 (pc := 279) (x := (.if_icmp .eq 21, 3)) (by decide +kernel)) (by decide)
theorem e_186_282 : Df d 186 282 [l0, l1, l2, l3, .int x] st h nx = Df d 186 284 [l0, l1, l2, l3, .int x] (.int x :: st) h nx := D_iload (ins_of mc_186 (pc := 282) (x := (.iload 4, 2)) (by decide +kernel)) rfl
theorem e_186_284 : Df d 186 284 [l0, l1, l2, l3, l4] [v0, s0, s1] h nx = cn d 186 287 [l0, l1, l2, l3, l4] [s0, s1] (Dn d 190 [v0] h nx) := D_static (k1 := 190) (kd := 1) (ins_of mc_186 (pc := 284) (x := (.invokestatic 234, 3)) (by decide +kernel)) mo_186 (by decide +kernel) (by decide) rfl (Nat.le_of_ble_eq_true rfl) rfl (Nat.le_of_ble_eq_true rfl) rfl
theorem e_186_287 : Df d 186 287 [l0, l1, l2, l3, l4] st h nx = Df d 186 288 [l0, l1, l2, l3, l4] (.int 3 :: st) h nx := D_iconst (ins_of mc_186 (pc := 287) (x := (.iconst 3, 1)) (by decide +kernel)) (by decide)
theorem e_186_288 : Df d 186 288 [l0, l1, l2, l3, l4] (.int y :: .int x :: st) h nx = if x ≤ y then Df d 186 304 [l0, l1, l2, l3, l4] st h nx else Df d 186 291 [l0, l1, l2, l3, l4] st h nx := D_icmp_le (ins_of mc_186 (pc := 288) (x := (.if_icmp .le 16, 3)) (by decide +kernel)) (by decide)
theorem e_186_291 : Df d 186 291 [.ref a, l1, l2, l3, l4] st h nx = Df d 186 292 [.ref a, l1, l2, l3, l4] (.ref a :: st) h nx := D_aload_n (ins_of mc_186 (pc := 291) (x := (.aload_n 0, 1)) (by decide +kernel)) rfl
theorem e_186_292 : Df d 186 292 [l0, l1, l2, l3, l4] (.ref a :: st) h nx = (gF h a 9 21).bind fun v => Df d 186 295 [l0, l1, l2, l3, l4] (v :: st) h nx := D_getfield (ins_of mc_186 (pc := 292) (x := (.getfield 38, 3)) (by decide +kernel)) mo_186 (by decide +kernel)
theorem e_186_295 : Df d 186 295 [l0, .int x, l2, l3, l4] st h nx = Df d 186 296 [l0, .int x, l2, l3, l4] (.int x :: st) h nx := D_iload_n (ins_of mc_186 (pc := 295) (x := (.iload_n 1, 1)) (by decide +kernel)) rfl
theorem e_186_296 : Df d 186 296 [l0, l1, l2, l3, l4] (.int x :: .ref a :: st) h nx = (rI h a x 1).bind fun v => Df d 186 297 [l0, l1, l2, l3, l4] (.int v :: st) h nx := D_baload (ins_of mc_186 (pc := 296) (x := (.baload, 1)) (by decide +kernel))
theorem e_186_297 : Df d 186 297 [l0, l1, l2, l3, l4] (.int x :: st) h nx = if x = 0 then Df d 186 304 [l0, l1, l2, l3, l4] st h nx else Df d 186 300 [l0, l1, l2, l3, l4] st h nx := D_if_eq (ins_of mc_186 (pc := 297) (x := (.ifCond .eq 7, 3)) (by decide +kernel)) (by decide)
theorem e_186_300 : Df d 186 300 [l0, l1, l2, l3, l4] st h nx = Df d 186 301 [l0, l1, l2, l3, l4] (.int 1 :: st) h nx := D_iconst (ins_of mc_186 (pc := 300) (x := (.iconst 1, 1)) (by decide +kernel)) (by decide)
theorem e_186_301 : Df d 186 301 [l0, l1, l2, l3, l4] st h nx = Df d 186 305 [l0, l1, l2, l3, l4] st h nx := D_goto (ins_of mc_186 (pc := 301) (x := (.goto 4, 3)) (by decide +kernel)) (by decide)
theorem e_186_304 : Df d 186 304 [l0, l1, l2, l3, l4] st h nx = Df d 186 305 [l0, l1, l2, l3, l4] (.int 0 :: st) h nx := D_iconst (ins_of mc_186 (pc := 304) (x := (.iconst 0, 1)) (by decide +kernel)) (by decide)
theorem e_186_305 : Df d 186 305 [l0, l1, l2, l3, l4] (.int y :: .int x :: .ref a :: st) h nx = (wI h a x 1 (vp_nar .boolean y)).bind fun h => Df d 186 306 [l0, l1, l2, l3, l4] st h nx := D_bastore (ins_of mc_186 (pc := 305) (x := (.bastore, 1)) (by decide +kernel))
theorem e_186_306 : Df d 186 306 [.ref a, l1, l2, l3, l4] st h nx = Df d 186 307 [.ref a, l1, l2, l3, l4] (.ref a :: st) h nx := D_aload_n (ins_of mc_186 (pc := 306) (x := (.aload_n 0, 1)) (by decide +kernel)) rfl
theorem e_186_307 : Df d 186 307 [l0, l1, l2, l3, .int x] st h nx = Df d 186 309 [l0, l1, l2, l3, .int x] (.int x :: st) h nx := D_iload (ins_of mc_186 (pc := 307) (x := (.iload 4, 2)) (by decide +kernel)) rfl
theorem e_186_309 : Df d 186 309 [l0, l1, l2, l3, l4] [v0, s0] h nx = cn d 186 312 [l0, l1, l2, l3, l4] [s0] (Dn d 190 [v0] h nx) := D_static (k1 := 190) (kd := 1) (ins_of mc_186 (pc := 309) (x := (.invokestatic 234, 3)) (by decide +kernel)) mo_186 (by decide +kernel) (by decide) rfl (Nat.le_of_ble_eq_true rfl) rfl (Nat.le_of_ble_eq_true rfl) rfl
theorem e_186_312 : Df d 186 312 [l0, l1, l2, l3, l4] [v0, .ref a] h nx = if ck h a 9 = true then cn d 186 315 [l0, l1, l2, l3, l4] [] (Dn d 189 [.ref a, v0] h nx) else none := D_virtual (k1 := 189) (ins_of mc_186 (pc := 312) (x := (.invokevirtual 246, 3)) (by decide +kernel)) mo_186 (by decide +kernel) (by decide) rfl rfl (by decide) rfl (Nat.le_of_ble_eq_true rfl) rfl
theorem e_186_315 : Df d 186 315 [.ref a, l1, l2, l3, l4] st h nx = Df d 186 316 [.ref a, l1, l2, l3, l4] (.ref a :: st) h nx := D_aload_n (ins_of mc_186 (pc := 315) (x := (.aload_n 0, 1)) (by decide +kernel)) rfl
theorem e_186_316 : Df d 186 316 [l0, l1, l2, l3, l4] (.ref a :: st) h nx = (gF h a 9 19).bind fun v => Df d 186 319 [l0, l1, l2, l3, l4] (v :: st) h nx := D_getfield (ins_of mc_186 (pc := 316) (x := (.getfield 35, 3)) (by decide +kernel)) mo_186 (by decide +kernel)
theorem e_186_319 : Df d 186 319 [.ref a, l1, l2, l3, l4] st h nx = Df d 186 320 [.ref a, l1, l2, l3, l4] (.ref a :: st) h nx := D_aload_n (ins_of mc_186 (pc := 319) (x := (.aload_n 0, 1)) (by decide +kernel)) rfl
theorem e_186_320 : Df d 186 320 [l0, l1, l2, l3, l4] (.ref a :: st) h nx = (gF h a 9 20).bind fun v => Df d 186 323 [l0, l1, l2, l3, l4] (v :: st) h nx := D_getfield (ins_of mc_186 (pc := 320) (x := (.getfield 231, 3)) (by decide +kernel)) mo_186 (by decide +kernel)
theorem e_186_323 : Df d 186 323 [l0, l1, l2, l3, .int x] st h nx = Df d 186 325 [l0, l1, l2, l3, .int x] (.int x :: st) h nx := D_iload (ins_of mc_186 (pc := 323) (x := (.iload 4, 2)) (by decide +kernel)) rfl
theorem e_186_325 : Df d 186 325 [l0, l1, l2, l3, l4] (.int y :: .int x :: .ref a :: st) h nx = (wI h a x 0 y).bind fun h => Df d 186 326 [l0, l1, l2, l3, l4] st h nx := D_iastore (ins_of mc_186 (pc := 325) (x := (.iastore, 1)) (by decide +kernel))
theorem e_186_326 : Df d 186 326 [.ref a, l1, l2, l3, l4] st h nx = Df d 186 327 [.ref a, l1, l2, l3, l4] (.ref a :: st) h nx := D_aload_n (ins_of mc_186 (pc := 326) (x := (.aload_n 0, 1)) (by decide +kernel)) rfl
theorem e_186_327 (hv : v0.category = 1) : Df d 186 327 [l0, l1, l2, l3, l4] (v0 :: st) h nx = Df d 186 328 [l0, l1, l2, l3, l4] (v0 :: v0 :: st) h nx := D_dup (ins_of mc_186 (pc := 327) (x := (.dup, 1)) (by decide +kernel)) hv
theorem e_186_328 : Df d 186 328 [l0, l1, l2, l3, l4] (.ref a :: st) h nx = (gF h a 9 20).bind fun v => Df d 186 331 [l0, l1, l2, l3, l4] (v :: st) h nx := D_getfield (ins_of mc_186 (pc := 328) (x := (.getfield 231, 3)) (by decide +kernel)) mo_186 (by decide +kernel)
theorem e_186_331 : Df d 186 331 [l0, l1, l2, l3, l4] st h nx = Df d 186 332 [l0, l1, l2, l3, l4] (.int 1 :: st) h nx := D_iconst (ins_of mc_186 (pc := 331) (x := (.iconst 1, 1)) (by decide +kernel)) (by decide)
theorem e_186_332 : Df d 186 332 [l0, l1, l2, l3, l4] (.int y :: .int x :: st) h nx = Df d 186 333 [l0, l1, l2, l3, l4] (.int (x + y) :: st) h nx := D_iadd (ins_of mc_186 (pc := 332) (x := (.iadd, 1)) (by decide +kernel))
theorem e_186_333 : Df d 186 333 [l0, l1, l2, l3, l4] (.int x :: .ref a :: st) h nx = (pF h a 9 20 (.int x)).bind fun h => Df d 186 336 [l0, l1, l2, l3, l4] st h nx := D_putfield (ins_of mc_186 (pc := 333) (x := (.putfield 231, 3)) (by decide +kernel)) mo_186 (by decide +kernel) rfl (Or.inl rfl)
theorem e_186_336 : Df d 186 336 [l0, l1, l2, l3, l4] st h nx = Df d 186 337 [l0, l1, l2, l3, l4] (.int 1 :: st) h nx := D_iconst (ins_of mc_186 (pc := 336) (x := (.iconst 1, 1)) (by decide +kernel)) (by decide)
theorem e_186_337 (hn : nr l3 = true) : Df d 186 337 [l0, l1, l2, l3, l4] (.int x :: st) h nx = Df d 186 338 [l0, l1, l2, .int x, l4] st h nx := D_istore_n (ins_of mc_186 (pc := 337) (x := (.istore_n 3, 1)) (by decide +kernel)) rfl hn rfl
theorem e_186_338 : Df d 186 338 [.ref a, l1, l2, l3, l4] st h nx = Df d 186 339 [.ref a, l1, l2, l3, l4] (.ref a :: st) h nx := D_aload_n (ins_of mc_186 (pc := 338) (x := (.aload_n 0, 1)) (by decide +kernel)) rfl
theorem e_186_339 : Df d 186 339 [l0, l1, l2, l3, l4] [.ref a] h nx = if ck h a 9 = true then cn d 186 342 [l0, l1, l2, l3, l4] [] (Dn d 182 [.ref a] h nx) else none := D_virtual (k1 := 182) (ins_of mc_186 (pc := 339) (x := (.invokevirtual 228, 3)) (by decide +kernel)) mo_186 (by decide +kernel) (by decide) rfl rfl (by decide) rfl (Nat.le_of_ble_eq_true rfl) rfl
theorem e_186_342 : Df d 186 342 [l0, l1, l2, l3, l4] st h nx = Df d 186 28 [l0, l1, l2, l3, l4] st h nx := D_goto (ins_of mc_186 (pc := 342) (x := (.goto (-314), 3)) (by decide +kernel)) (by decide)
theorem e_186_345 : Df d 186 345 [.ref a, l1, l2, l3, l4] st h nx = Df d 186 346 [.ref a, l1, l2, l3, l4] (.ref a :: st) h nx := D_aload_n (ins_of mc_186 (pc := 345) (x := (.aload_n 0, 1)) (by decide +kernel)) rfl
theorem e_186_346 : Df d 186 346 [l0, l1, l2, l3, l4] st h nx = Df d 186 347 [l0, l1, l2, l3, l4] (.int 0 :: st) h nx := D_iconst (ins_of mc_186 (pc := 346) (x := (.iconst 0, 1)) (by decide +kernel)) (by decide)
theorem e_186_347 : Df d 186 347 [l0, l1, l2, l3, l4] [v0, .ref a] h nx = if ck h a 9 = true then cn d 186 350 [l0, l1, l2, l3, l4] [] (Dn d 189 [.ref a, v0] h nx) else none := D_virtual (k1 := 189) (ins_of mc_186 (pc := 347) (x := (.invokevirtual 246, 3)) (by decide +kernel)) mo_186 (by decide +kernel) (by decide) rfl rfl (by decide) rfl (Nat.le_of_ble_eq_true rfl) rfl
theorem e_186_350 : Df d 186 350 [l0, .int x, l2, l3, l4] st h nx = Df d 186 351 [l0, .int x, l2, l3, l4] (.int x :: st) h nx := D_iload_n (ins_of mc_186 (pc := 350) (x := (.iload_n 1, 1)) (by decide +kernel)) rfl
theorem e_186_351 : Df d 186 351 [l0, l1, l2, l3, l4] (.int x :: st) h nx = if x = 0 then Df d 186 354 [l0, l1, l2, l3, l4] st h nx else Df d 186 358 [l0, l1, l2, l3, l4] st h nx := D_if_ne (ins_of mc_186 (pc := 351) (x := (.ifCond .ne 7, 3)) (by decide +kernel)) (by decide)
theorem e_186_354 : Df d 186 354 [l0, l1, l2, l3, l4] st h nx = Df d 186 355 [l0, l1, l2, l3, l4] (.int 1 :: st) h nx := D_iconst (ins_of mc_186 (pc := 354) (x := (.iconst 1, 1)) (by decide +kernel)) (by decide)
theorem e_186_355 : Df d 186 355 [l0, l1, l2, l3, l4] st h nx = Df d 186 359 [l0, l1, l2, l3, l4] st h nx := D_goto (ins_of mc_186 (pc := 355) (x := (.goto 4, 3)) (by decide +kernel)) (by decide)
theorem e_186_358 : Df d 186 358 [l0, l1, l2, l3, l4] st h nx = Df d 186 359 [l0, l1, l2, l3, l4] (.int 0 :: st) h nx := D_iconst (ins_of mc_186 (pc := 358) (x := (.iconst 0, 1)) (by decide +kernel)) (by decide)
theorem e_186_359 : Df d 186 359 [l0, l1, l2, l3, l4] [.int x] h nx = if nR .boolean x = true then some (some (.int x), h, nx) else none := D_zreturn (ins_of mc_186 (pc := 359) (x := (.ireturn, 1)) (by decide +kernel)) mr_186
theorem mc_187 : mC 187 = prog_11_method_66_code := rfl
theorem mo_187 : mO 187 = 9 := rfl
theorem ml_187 : mL 187 = 2 := rfl
theorem mr_187 : mR 187 = (some .boolean) := rfl
theorem ma_187 : mA 187 = 0 := rfl
theorem e_187_0 : Df d 187 0 [.ref a, l1] st h nx = Df d 187 1 [.ref a, l1] (.ref a :: st) h nx := D_aload_n (ins_of mc_187 (pc := 0) (x := (.aload_n 0, 1)) (by decide +kernel)) rfl
theorem e_187_1 : Df d 187 1 [l0, l1] (.ref a :: st) h nx = (gF h a 9 10).bind fun v => Df d 187 4 [l0, l1] (v :: st) h nx := D_getfield (ins_of mc_187 (pc := 1) (x := (.getfield 213, 3)) (by decide +kernel)) mo_187 (by decide +kernel)
theorem e_187_4 : Df d 187 4 [l0, l1] st h nx = Df d 187 5 [l0, l1] (.int 1 :: st) h nx := D_iconst (ins_of mc_187 (pc := 4) (x := (.iconst 1, 1)) (by decide +kernel)) (by decide)
theorem e_187_5 : Df d 187 5 [l0, l1] (.int y :: .int x :: st) h nx = if x = y then Df d 187 8 [l0, l1] st h nx else Df d 187 36 [l0, l1] st h nx := D_icmp_ne (ins_of mc_187 (pc := 5) (x := (.if_icmp .ne 31, 3)) (by decide +kernel)) (by decide)
theorem e_187_8 : Df d 187 8 [.ref a, l1] st h nx = Df d 187 9 [.ref a, l1] (.ref a :: st) h nx := D_aload_n (ins_of mc_187 (pc := 8) (x := (.aload_n 0, 1)) (by decide +kernel)) rfl
theorem e_187_9 : Df d 187 9 [l0, l1] (.ref a :: st) h nx = (gF h a 9 8).bind fun v => Df d 187 12 [l0, l1] (v :: st) h nx := D_getfield (ins_of mc_187 (pc := 9) (x := (.getfield 204, 3)) (by decide +kernel)) mo_187 (by decide +kernel)
theorem e_187_12 : Df d 187 12 [.ref a, l1] st h nx = Df d 187 13 [.ref a, l1] (.ref a :: st) h nx := D_aload_n (ins_of mc_187 (pc := 12) (x := (.aload_n 0, 1)) (by decide +kernel)) rfl
theorem e_187_13 : Df d 187 13 [l0, l1] (.ref a :: st) h nx = (gF h a 9 9).bind fun v => Df d 187 16 [l0, l1] (v :: st) h nx := D_getfield (ins_of mc_187 (pc := 13) (x := (.getfield 207, 3)) (by decide +kernel)) mo_187 (by decide +kernel)
theorem e_187_16 : Df d 187 16 [l0, l1] (.int y :: .int x :: st) h nx = Df d 187 17 [l0, l1] (.int (x - y) :: st) h nx := D_isub (ins_of mc_187 (pc := 16) (x := (.isub, 1)) (by decide +kernel))
theorem e_187_17 : Df d 187 17 [l0, l1] st h nx = Df d 187 18 [l0, l1] (.int 1 :: st) h nx := D_iconst (ins_of mc_187 (pc := 17) (x := (.iconst 1, 1)) (by decide +kernel)) (by decide)
theorem e_187_18 : Df d 187 18 [l0, l1] (.int y :: .int x :: st) h nx = if x = y then Df d 187 21 [l0, l1] st h nx else Df d 187 36 [l0, l1] st h nx := D_icmp_ne (ins_of mc_187 (pc := 18) (x := (.if_icmp .ne 18, 3)) (by decide +kernel)) (by decide)
theorem e_187_21 : Df d 187 21 [.ref a, l1] st h nx = Df d 187 22 [.ref a, l1] (.ref a :: st) h nx := D_aload_n (ins_of mc_187 (pc := 21) (x := (.aload_n 0, 1)) (by decide +kernel)) rfl
theorem e_187_22 : Df d 187 22 [.ref a, l1] st h nx = Df d 187 23 [.ref a, l1] (.ref a :: st) h nx := D_aload_n (ins_of mc_187 (pc := 22) (x := (.aload_n 0, 1)) (by decide +kernel)) rfl
theorem e_187_23 : Df d 187 23 [l0, l1] (.ref a :: st) h nx = (gF h a 9 11).bind fun v => Df d 187 26 [l0, l1] (v :: st) h nx := D_getfield (ins_of mc_187 (pc := 23) (x := (.getfield 219, 3)) (by decide +kernel)) mo_187 (by decide +kernel)
theorem e_187_26 : Df d 187 26 [l0, l1] [v0, .ref a] h nx = if ck h a 9 = true then cn d 187 29 [l0, l1] [] (Dn d 188 [.ref a, v0] h nx) else none := D_virtual (k1 := 188) (ins_of mc_187 (pc := 26) (x := (.invokevirtual 240, 3)) (by decide +kernel)) mo_187 (by decide +kernel) (by decide) rfl rfl (by decide) rfl (Nat.le_of_ble_eq_true rfl) rfl
theorem e_187_29 : Df d 187 29 [l0, l1] (.int x :: st) h nx = if x < 0 then Df d 187 36 [l0, l1] st h nx else Df d 187 32 [l0, l1] st h nx := D_if_lt (ins_of mc_187 (pc := 29) (x := (.ifCond .lt 7, 3)) (by decide +kernel)) (by decide)
theorem e_187_32 : Df d 187 32 [l0, l1] st h nx = Df d 187 33 [l0, l1] (.int 1 :: st) h nx := D_iconst (ins_of mc_187 (pc := 32) (x := (.iconst 1, 1)) (by decide +kernel)) (by decide)
theorem e_187_33 : Df d 187 33 [l0, l1] st h nx = Df d 187 37 [l0, l1] st h nx := D_goto (ins_of mc_187 (pc := 33) (x := (.goto 4, 3)) (by decide +kernel)) (by decide)
theorem e_187_36 : Df d 187 36 [l0, l1] st h nx = Df d 187 37 [l0, l1] (.int 0 :: st) h nx := D_iconst (ins_of mc_187 (pc := 36) (x := (.iconst 0, 1)) (by decide +kernel)) (by decide)
theorem e_187_37 (hn : nr l1 = true) : Df d 187 37 [l0, l1] (.int x :: st) h nx = Df d 187 38 [l0, .int x] st h nx := D_istore_n (ins_of mc_187 (pc := 37) (x := (.istore_n 1, 1)) (by decide +kernel)) rfl hn rfl
theorem e_187_38 : Df d 187 38 [.ref a, l1] st h nx = Df d 187 39 [.ref a, l1] (.ref a :: st) h nx := D_aload_n (ins_of mc_187 (pc := 38) (x := (.aload_n 0, 1)) (by decide +kernel)) rfl
theorem e_187_39 : Df d 187 39 [l0, l1] (.ref a :: st) h nx = (gF h a 9 10).bind fun v => Df d 187 42 [l0, l1] (v :: st) h nx := D_getfield (ins_of mc_187 (pc := 39) (x := (.getfield 213, 3)) (by decide +kernel)) mo_187 (by decide +kernel)
theorem e_187_42 : Df d 187 42 [l0, l1] st h nx = Df d 187 43 [l0, l1] (.int 2 :: st) h nx := D_iconst (ins_of mc_187 (pc := 42) (x := (.iconst 2, 1)) (by decide +kernel)) (by decide)
theorem e_187_43 : Df d 187 43 [l0, l1] (.int y :: .int x :: st) h nx = if x = y then Df d 187 52 [l0, l1] st h nx else Df d 187 46 [l0, l1] st h nx := D_icmp_eq (ins_of mc_187 (pc := 43) (x := (.if_icmp .eq 9, 3)) (by decide +kernel)) (by decide)
theorem e_187_46 : Df d 187 46 [l0, .int x] st h nx = Df d 187 47 [l0, .int x] (.int x :: st) h nx := D_iload_n (ins_of mc_187 (pc := 46) (x := (.iload_n 1, 1)) (by decide +kernel)) rfl
theorem e_187_47 : Df d 187 47 [l0, l1] (.int x :: st) h nx = if x = 0 then Df d 187 50 [l0, l1] st h nx else Df d 187 52 [l0, l1] st h nx := D_if_ne (ins_of mc_187 (pc := 47) (x := (.ifCond .ne 5, 3)) (by decide +kernel)) (by decide)
theorem e_187_50 : Df d 187 50 [l0, l1] st h nx = Df d 187 51 [l0, l1] (.int 0 :: st) h nx := D_iconst (ins_of mc_187 (pc := 50) (x := (.iconst 0, 1)) (by decide +kernel)) (by decide)
theorem e_187_51 : Df d 187 51 [l0, l1] [.int x] h nx = if nR .boolean x = true then some (some (.int x), h, nx) else none := D_zreturn (ins_of mc_187 (pc := 51) (x := (.ireturn, 1)) (by decide +kernel)) mr_187
theorem e_187_52 : Df d 187 52 [.ref a, l1] st h nx = Df d 187 53 [.ref a, l1] (.ref a :: st) h nx := D_aload_n (ins_of mc_187 (pc := 52) (x := (.aload_n 0, 1)) (by decide +kernel)) rfl
theorem e_187_53 : Df d 187 53 [l0, l1] (.ref a :: st) h nx = (gF h a 9 16).bind fun v => Df d 187 56 [l0, l1] (v :: st) h nx := D_getfield (ins_of mc_187 (pc := 53) (x := (.getfield 32, 3)) (by decide +kernel)) mo_187 (by decide +kernel)
theorem e_187_56 : Df d 187 56 [.ref a, l1] st h nx = Df d 187 57 [.ref a, l1] (.ref a :: st) h nx := D_aload_n (ins_of mc_187 (pc := 56) (x := (.aload_n 0, 1)) (by decide +kernel)) rfl
theorem e_187_57 : Df d 187 57 [l0, l1] (.ref a :: st) h nx = (gF h a 9 17).bind fun v => Df d 187 60 [l0, l1] (v :: st) h nx := D_getfield (ins_of mc_187 (pc := 57) (x := (.getfield 237, 3)) (by decide +kernel)) mo_187 (by decide +kernel)
theorem e_187_60 : Df d 187 60 [.ref a, l1] st h nx = Df d 187 61 [.ref a, l1] (.ref a :: st) h nx := D_aload_n (ins_of mc_187 (pc := 60) (x := (.aload_n 0, 1)) (by decide +kernel)) rfl
theorem e_187_61 : Df d 187 61 [l0, l1] (.ref a :: st) h nx = (gF h a 9 10).bind fun v => Df d 187 64 [l0, l1] (v :: st) h nx := D_getfield (ins_of mc_187 (pc := 61) (x := (.getfield 213, 3)) (by decide +kernel)) mo_187 (by decide +kernel)
theorem e_187_64 : Df d 187 64 [l0, l1] st h nx = Df d 187 65 [l0, l1] (.int 2 :: st) h nx := D_iconst (ins_of mc_187 (pc := 64) (x := (.iconst 2, 1)) (by decide +kernel)) (by decide)
theorem e_187_65 : Df d 187 65 [l0, l1] (.int y :: .int x :: st) h nx = if x = y then Df d 187 68 [l0, l1] st h nx else Df d 187 75 [l0, l1] st h nx := D_icmp_ne (ins_of mc_187 (pc := 65) (x := (.if_icmp .ne 10, 3)) (by decide +kernel)) (by decide)
theorem e_187_68 : Df d 187 68 [.ref a, l1] st h nx = Df d 187 69 [.ref a, l1] (.ref a :: st) h nx := D_aload_n (ins_of mc_187 (pc := 68) (x := (.aload_n 0, 1)) (by decide +kernel)) rfl
theorem e_187_69 : Df d 187 69 [l0, l1] (.ref a :: st) h nx = (gF h a 9 11).bind fun v => Df d 187 72 [l0, l1] (v :: st) h nx := D_getfield (ins_of mc_187 (pc := 69) (x := (.getfield 219, 3)) (by decide +kernel)) mo_187 (by decide +kernel)
theorem e_187_72 : Df d 187 72 [l0, l1] st h nx = Df d 187 87 [l0, l1] st h nx := D_goto (ins_of mc_187 (pc := 72) (x := (.goto 15, 3)) (by decide +kernel)) (by decide)
theorem e_187_75 : Df d 187 75 [l0, l1] st h nx = Df d 187 78 [l0, l1] (.int 10000 :: st) h nx := D_sipush (ins_of mc_187 (pc := 75) (x := (.sipush 10000, 3)) (by decide +kernel)) (by decide)
theorem e_187_78 : Df d 187 78 [.ref a, l1] st h nx = Df d 187 79 [.ref a, l1] (.ref a :: st) h nx := D_aload_n (ins_of mc_187 (pc := 78) (x := (.aload_n 0, 1)) (by decide +kernel)) rfl
theorem e_187_79 : Df d 187 79 [.ref a, l1] st h nx = Df d 187 80 [.ref a, l1] (.ref a :: st) h nx := D_aload_n (ins_of mc_187 (pc := 79) (x := (.aload_n 0, 1)) (by decide +kernel)) rfl
theorem e_187_80 : Df d 187 80 [l0, l1] (.ref a :: st) h nx = (gF h a 9 11).bind fun v => Df d 187 83 [l0, l1] (v :: st) h nx := D_getfield (ins_of mc_187 (pc := 80) (x := (.getfield 219, 3)) (by decide +kernel)) mo_187 (by decide +kernel)
theorem e_187_83 : Df d 187 83 [l0, l1] [v0, .ref a, s0, s1, s2] h nx = if ck h a 9 = true then cn d 187 86 [l0, l1] [s0, s1, s2] (Dn d 188 [.ref a, v0] h nx) else none := D_virtual (k1 := 188) (ins_of mc_187 (pc := 83) (x := (.invokevirtual 240, 3)) (by decide +kernel)) mo_187 (by decide +kernel) (by decide) rfl rfl (by decide) rfl (Nat.le_of_ble_eq_true rfl) rfl
theorem e_187_86 : Df d 187 86 [l0, l1] (.int y :: .int x :: st) h nx = Df d 187 87 [l0, l1] (.int (x + y) :: st) h nx := D_iadd (ins_of mc_187 (pc := 86) (x := (.iadd, 1)) (by decide +kernel))
theorem e_187_87 : Df d 187 87 [l0, l1] (.int y :: .int x :: .ref a :: st) h nx = (wI h a x 0 y).bind fun h => Df d 187 88 [l0, l1] st h nx := D_iastore (ins_of mc_187 (pc := 87) (x := (.iastore, 1)) (by decide +kernel))
theorem e_187_88 : Df d 187 88 [.ref a, l1] st h nx = Df d 187 89 [.ref a, l1] (.ref a :: st) h nx := D_aload_n (ins_of mc_187 (pc := 88) (x := (.aload_n 0, 1)) (by decide +kernel)) rfl
theorem e_187_89 (hv : v0.category = 1) : Df d 187 89 [l0, l1] (v0 :: st) h nx = Df d 187 90 [l0, l1] (v0 :: v0 :: st) h nx := D_dup (ins_of mc_187 (pc := 89) (x := (.dup, 1)) (by decide +kernel)) hv
theorem e_187_90 : Df d 187 90 [l0, l1] (.ref a :: st) h nx = (gF h a 9 17).bind fun v => Df d 187 93 [l0, l1] (v :: st) h nx := D_getfield (ins_of mc_187 (pc := 90) (x := (.getfield 237, 3)) (by decide +kernel)) mo_187 (by decide +kernel)
theorem e_187_93 : Df d 187 93 [l0, l1] st h nx = Df d 187 94 [l0, l1] (.int 1 :: st) h nx := D_iconst (ins_of mc_187 (pc := 93) (x := (.iconst 1, 1)) (by decide +kernel)) (by decide)
theorem e_187_94 : Df d 187 94 [l0, l1] (.int y :: .int x :: st) h nx = Df d 187 95 [l0, l1] (.int (x + y) :: st) h nx := D_iadd (ins_of mc_187 (pc := 94) (x := (.iadd, 1)) (by decide +kernel))
theorem e_187_95 : Df d 187 95 [l0, l1] (.int x :: .ref a :: st) h nx = (pF h a 9 17 (.int x)).bind fun h => Df d 187 98 [l0, l1] st h nx := D_putfield (ins_of mc_187 (pc := 95) (x := (.putfield 237, 3)) (by decide +kernel)) mo_187 (by decide +kernel) rfl (Or.inl rfl)
theorem e_187_98 : Df d 187 98 [.ref a, l1] st h nx = Df d 187 99 [.ref a, l1] (.ref a :: st) h nx := D_aload_n (ins_of mc_187 (pc := 98) (x := (.aload_n 0, 1)) (by decide +kernel)) rfl
theorem e_187_99 (hv : v0.category = 1) : Df d 187 99 [l0, l1] (v0 :: st) h nx = Df d 187 100 [l0, l1] (v0 :: v0 :: st) h nx := D_dup (ins_of mc_187 (pc := 99) (x := (.dup, 1)) (by decide +kernel)) hv
theorem e_187_100 : Df d 187 100 [l0, l1] (.ref a :: st) h nx = (gF h a 9 18).bind fun v => Df d 187 103 [l0, l1] (v :: st) h nx := D_getfield (ins_of mc_187 (pc := 100) (x := (.getfield 243, 3)) (by decide +kernel)) mo_187 (by decide +kernel)
theorem e_187_103 : Df d 187 103 [l0, l1] st h nx = Df d 187 104 [l0, l1] (.int 1 :: st) h nx := D_iconst (ins_of mc_187 (pc := 103) (x := (.iconst 1, 1)) (by decide +kernel)) (by decide)
theorem e_187_104 : Df d 187 104 [l0, l1] (.int y :: .int x :: st) h nx = Df d 187 105 [l0, l1] (.int (x + y) :: st) h nx := D_iadd (ins_of mc_187 (pc := 104) (x := (.iadd, 1)) (by decide +kernel))
theorem e_187_105 : Df d 187 105 [l0, l1] (.int x :: .ref a :: st) h nx = (pF h a 9 18 (.int x)).bind fun h => Df d 187 108 [l0, l1] st h nx := D_putfield (ins_of mc_187 (pc := 105) (x := (.putfield 243, 3)) (by decide +kernel)) mo_187 (by decide +kernel) rfl (Or.inl rfl)
theorem e_187_108 : Df d 187 108 [.ref a, l1] st h nx = Df d 187 109 [.ref a, l1] (.ref a :: st) h nx := D_aload_n (ins_of mc_187 (pc := 108) (x := (.aload_n 0, 1)) (by decide +kernel)) rfl
theorem e_187_109 : Df d 187 109 [l0, l1] st h nx = Df d 187 111 [l0, l1] (.int 6 :: st) h nx := D_bipush (ins_of mc_187 (pc := 109) (x := (.bipush 6, 2)) (by decide +kernel)) (by decide)
theorem e_187_111 : Df d 187 111 [l0, l1] [v0, .ref a] h nx = if ck h a 9 = true then cn d 187 114 [l0, l1] [] (Dn d 189 [.ref a, v0] h nx) else none := D_virtual (k1 := 189) (ins_of mc_187 (pc := 111) (x := (.invokevirtual 246, 3)) (by decide +kernel)) mo_187 (by decide +kernel) (by decide) rfl rfl (by decide) rfl (Nat.le_of_ble_eq_true rfl) rfl
theorem e_187_114 : Df d 187 114 [.ref a, l1] st h nx = Df d 187 115 [.ref a, l1] (.ref a :: st) h nx := D_aload_n (ins_of mc_187 (pc := 114) (x := (.aload_n 0, 1)) (by decide +kernel)) rfl
theorem e_187_115 : Df d 187 115 [l0, l1] [.ref a] h nx = if ck h a 9 = true then cn d 187 118 [l0, l1] [] (Dn d 182 [.ref a] h nx) else none := D_virtual (k1 := 182) (ins_of mc_187 (pc := 115) (x := (.invokevirtual 228, 3)) (by decide +kernel)) mo_187 (by decide +kernel) (by decide) rfl rfl (by decide) rfl (Nat.le_of_ble_eq_true rfl) rfl
theorem e_187_118 : Df d 187 118 [l0, l1] st h nx = Df d 187 119 [l0, l1] (.int 1 :: st) h nx := D_iconst (ins_of mc_187 (pc := 118) (x := (.iconst 1, 1)) (by decide +kernel)) (by decide)
theorem e_187_119 : Df d 187 119 [l0, l1] [.int x] h nx = if nR .boolean x = true then some (some (.int x), h, nx) else none := D_zreturn (ins_of mc_187 (pc := 119) (x := (.ireturn, 1)) (by decide +kernel)) mr_187
theorem mc_188 : mC 188 = prog_11_method_62_code := rfl
theorem mo_188 : mO 188 = 9 := rfl
theorem ml_188 : mL 188 = 2 := rfl
theorem mr_188 : mR 188 = (some .int) := rfl
theorem ma_188 : mA 188 = 1 := rfl
theorem e_188_0 : Df d 188 0 [.ref a, l1] st h nx = Df d 188 1 [.ref a, l1] (.ref a :: st) h nx := D_aload_n (ins_of mc_188 (pc := 0) (x := (.aload_n 0, 1)) (by decide +kernel)) rfl
theorem e_188_1 : Df d 188 1 [l0, l1] (.ref a :: st) h nx = (gF h a 9 13).bind fun v => Df d 188 4 [l0, l1] (v :: st) h nx := D_getfield (ins_of mc_188 (pc := 1) (x := (.getfield 225, 3)) (by decide +kernel)) mo_188 (by decide +kernel)
theorem e_188_4 : Df d 188 4 [l0, l1] (.int x :: st) h nx = if x = 0 then Df d 188 32 [l0, l1] st h nx else if x = 1 then Df d 188 64 [l0, l1] st h nx else Df d 188 86 [l0, l1] st h nx := by
  have hi := (ins_of mc_188 (pc := 4) (x := (.lookupswitch 82 #[(0, 28), (1, 60)], 28)) (by decide +kernel))
  by_cases q0 : x = 0
  · subst q0
    rw [if_pos rfl]
    exact D_lsw hi (by decide) (off := 28) (by decide) (by decide)
  rw [if_neg q0]
  by_cases q1 : x = 1
  · subst q1
    rw [if_pos rfl]
    exact D_lsw hi (by decide) (off := 60) (by decide) (by decide)
  rw [if_neg q1]
  refine D_lsw hi (by decide) (off := 82) ?_ (by decide)
  show Op.lookupswitch.offset [(0, 28), (1, 60)] 82 x.toInt = 82
  rw [lv_osw (k := 0) q0 (by decide)]
  rw [lv_osw (k := 1) q1 (by decide)]
  rfl
theorem e_188_32 : Df d 188 32 [l0, .int x] st h nx = Df d 188 33 [l0, .int x] (.int x :: st) h nx := D_iload_n (ins_of mc_188 (pc := 32) (x := (.iload_n 1, 1)) (by decide +kernel)) rfl
theorem e_188_33 : Df d 188 33 [l0, l1] st h nx = Df d 188 35 [l0, l1] (.int 104 :: st) h nx := D_bipush (ins_of mc_188 (pc := 33) (x := (.bipush 104, 2)) (by decide +kernel)) (by decide)
theorem e_188_35 : Df d 188 35 [l0, l1] (.int y :: .int x :: st) h nx = if x = y then Df d 188 38 [l0, l1] st h nx else Df d 188 42 [l0, l1] st h nx := D_icmp_ne (ins_of mc_188 (pc := 35) (x := (.if_icmp .ne 7, 3)) (by decide +kernel)) (by decide)
theorem e_188_38 : Df d 188 38 [l0, l1] st h nx = Df d 188 39 [l0, l1] (.int 0 :: st) h nx := D_iconst (ins_of mc_188 (pc := 38) (x := (.iconst 0, 1)) (by decide +kernel)) (by decide)
theorem e_188_39 : Df d 188 39 [l0, l1] st h nx = Df d 188 63 [l0, l1] st h nx := D_goto (ins_of mc_188 (pc := 39) (x := (.goto 24, 3)) (by decide +kernel)) (by decide)
theorem e_188_42 : Df d 188 42 [l0, .int x] st h nx = Df d 188 43 [l0, .int x] (.int x :: st) h nx := D_iload_n (ins_of mc_188 (pc := 42) (x := (.iload_n 1, 1)) (by decide +kernel)) rfl
theorem e_188_43 : Df d 188 43 [l0, l1] st h nx = Df d 188 45 [l0, l1] (.int 115 :: st) h nx := D_bipush (ins_of mc_188 (pc := 43) (x := (.bipush 115, 2)) (by decide +kernel)) (by decide)
theorem e_188_45 : Df d 188 45 [l0, l1] (.int y :: .int x :: st) h nx = if x = y then Df d 188 48 [l0, l1] st h nx else Df d 188 52 [l0, l1] st h nx := D_icmp_ne (ins_of mc_188 (pc := 45) (x := (.if_icmp .ne 7, 3)) (by decide +kernel)) (by decide)
theorem e_188_48 : Df d 188 48 [l0, l1] st h nx = Df d 188 49 [l0, l1] (.int 1 :: st) h nx := D_iconst (ins_of mc_188 (pc := 48) (x := (.iconst 1, 1)) (by decide +kernel)) (by decide)
theorem e_188_49 : Df d 188 49 [l0, l1] st h nx = Df d 188 63 [l0, l1] st h nx := D_goto (ins_of mc_188 (pc := 49) (x := (.goto 14, 3)) (by decide +kernel)) (by decide)
theorem e_188_52 : Df d 188 52 [l0, .int x] st h nx = Df d 188 53 [l0, .int x] (.int x :: st) h nx := D_iload_n (ins_of mc_188 (pc := 52) (x := (.iload_n 1, 1)) (by decide +kernel)) rfl
theorem e_188_53 : Df d 188 53 [l0, l1] st h nx = Df d 188 55 [l0, l1] (.int 116 :: st) h nx := D_bipush (ins_of mc_188 (pc := 53) (x := (.bipush 116, 2)) (by decide +kernel)) (by decide)
theorem e_188_55 : Df d 188 55 [l0, l1] (.int y :: .int x :: st) h nx = if x = y then Df d 188 58 [l0, l1] st h nx else Df d 188 62 [l0, l1] st h nx := D_icmp_ne (ins_of mc_188 (pc := 55) (x := (.if_icmp .ne 7, 3)) (by decide +kernel)) (by decide)
theorem e_188_58 : Df d 188 58 [l0, l1] st h nx = Df d 188 59 [l0, l1] (.int 2 :: st) h nx := D_iconst (ins_of mc_188 (pc := 58) (x := (.iconst 2, 1)) (by decide +kernel)) (by decide)
theorem e_188_59 : Df d 188 59 [l0, l1] st h nx = Df d 188 63 [l0, l1] st h nx := D_goto (ins_of mc_188 (pc := 59) (x := (.goto 4, 3)) (by decide +kernel)) (by decide)
theorem e_188_62 : Df d 188 62 [l0, l1] st h nx = Df d 188 63 [l0, l1] (.int (-1) :: st) h nx := D_iconst (ins_of mc_188 (pc := 62) (x := (.iconst (-1), 1)) (by decide +kernel)) (by decide)
theorem e_188_63 : Df d 188 63 [l0, l1] [.int x] h nx = some (some (.int x), h, nx) := D_ireturn (ins_of mc_188 (pc := 63) (x := (.ireturn, 1)) (by decide +kernel)) mr_188
theorem e_188_64 : Df d 188 64 [l0, .int x] st h nx = Df d 188 65 [l0, .int x] (.int x :: st) h nx := D_iload_n (ins_of mc_188 (pc := 64) (x := (.iload_n 1, 1)) (by decide +kernel)) rfl
theorem e_188_65 : Df d 188 65 [l0, l1] st h nx = Df d 188 67 [l0, l1] (.int 100 :: st) h nx := D_bipush (ins_of mc_188 (pc := 65) (x := (.bipush 100, 2)) (by decide +kernel)) (by decide)
theorem e_188_67 : Df d 188 67 [l0, l1] (.int y :: .int x :: st) h nx = if x = y then Df d 188 70 [l0, l1] st h nx else Df d 188 74 [l0, l1] st h nx := D_icmp_ne (ins_of mc_188 (pc := 67) (x := (.if_icmp .ne 7, 3)) (by decide +kernel)) (by decide)
theorem e_188_70 : Df d 188 70 [l0, l1] st h nx = Df d 188 71 [l0, l1] (.int 0 :: st) h nx := D_iconst (ins_of mc_188 (pc := 70) (x := (.iconst 0, 1)) (by decide +kernel)) (by decide)
theorem e_188_71 : Df d 188 71 [l0, l1] st h nx = Df d 188 85 [l0, l1] st h nx := D_goto (ins_of mc_188 (pc := 71) (x := (.goto 14, 3)) (by decide +kernel)) (by decide)
theorem e_188_74 : Df d 188 74 [l0, .int x] st h nx = Df d 188 75 [l0, .int x] (.int x :: st) h nx := D_iload_n (ins_of mc_188 (pc := 74) (x := (.iload_n 1, 1)) (by decide +kernel)) rfl
theorem e_188_75 : Df d 188 75 [l0, l1] st h nx = Df d 188 77 [l0, l1] (.int 108 :: st) h nx := D_bipush (ins_of mc_188 (pc := 75) (x := (.bipush 108, 2)) (by decide +kernel)) (by decide)
theorem e_188_77 : Df d 188 77 [l0, l1] (.int y :: .int x :: st) h nx = if x = y then Df d 188 80 [l0, l1] st h nx else Df d 188 84 [l0, l1] st h nx := D_icmp_ne (ins_of mc_188 (pc := 77) (x := (.if_icmp .ne 7, 3)) (by decide +kernel)) (by decide)
theorem e_188_80 : Df d 188 80 [l0, l1] st h nx = Df d 188 81 [l0, l1] (.int 1 :: st) h nx := D_iconst (ins_of mc_188 (pc := 80) (x := (.iconst 1, 1)) (by decide +kernel)) (by decide)
theorem e_188_81 : Df d 188 81 [l0, l1] st h nx = Df d 188 85 [l0, l1] st h nx := D_goto (ins_of mc_188 (pc := 81) (x := (.goto 4, 3)) (by decide +kernel)) (by decide)
theorem e_188_84 : Df d 188 84 [l0, l1] st h nx = Df d 188 85 [l0, l1] (.int (-1) :: st) h nx := D_iconst (ins_of mc_188 (pc := 84) (x := (.iconst (-1), 1)) (by decide +kernel)) (by decide)
theorem e_188_85 : Df d 188 85 [l0, l1] [.int x] h nx = some (some (.int x), h, nx) := D_ireturn (ins_of mc_188 (pc := 85) (x := (.ireturn, 1)) (by decide +kernel)) mr_188
theorem e_188_86 : Df d 188 86 [l0, .int x] st h nx = Df d 188 87 [l0, .int x] (.int x :: st) h nx := D_iload_n (ins_of mc_188 (pc := 86) (x := (.iload_n 1, 1)) (by decide +kernel)) rfl
theorem e_188_87 : Df d 188 87 [l0, l1] st h nx = Df d 188 89 [l0, l1] (.int 115 :: st) h nx := D_bipush (ins_of mc_188 (pc := 87) (x := (.bipush 115, 2)) (by decide +kernel)) (by decide)
theorem e_188_89 : Df d 188 89 [l0, l1] (.int y :: .int x :: st) h nx = if x = y then Df d 188 92 [l0, l1] st h nx else Df d 188 96 [l0, l1] st h nx := D_icmp_ne (ins_of mc_188 (pc := 89) (x := (.if_icmp .ne 7, 3)) (by decide +kernel)) (by decide)
theorem e_188_92 : Df d 188 92 [l0, l1] st h nx = Df d 188 93 [l0, l1] (.int 0 :: st) h nx := D_iconst (ins_of mc_188 (pc := 92) (x := (.iconst 0, 1)) (by decide +kernel)) (by decide)
theorem e_188_93 : Df d 188 93 [l0, l1] st h nx = Df d 188 107 [l0, l1] st h nx := D_goto (ins_of mc_188 (pc := 93) (x := (.goto 14, 3)) (by decide +kernel)) (by decide)
theorem e_188_96 : Df d 188 96 [l0, .int x] st h nx = Df d 188 97 [l0, .int x] (.int x :: st) h nx := D_iload_n (ins_of mc_188 (pc := 96) (x := (.iload_n 1, 1)) (by decide +kernel)) rfl
theorem e_188_97 : Df d 188 97 [l0, l1] st h nx = Df d 188 99 [l0, l1] (.int 108 :: st) h nx := D_bipush (ins_of mc_188 (pc := 97) (x := (.bipush 108, 2)) (by decide +kernel)) (by decide)
theorem e_188_99 : Df d 188 99 [l0, l1] (.int y :: .int x :: st) h nx = if x = y then Df d 188 102 [l0, l1] st h nx else Df d 188 106 [l0, l1] st h nx := D_icmp_ne (ins_of mc_188 (pc := 99) (x := (.if_icmp .ne 7, 3)) (by decide +kernel)) (by decide)
theorem e_188_102 : Df d 188 102 [l0, l1] st h nx = Df d 188 103 [l0, l1] (.int 1 :: st) h nx := D_iconst (ins_of mc_188 (pc := 102) (x := (.iconst 1, 1)) (by decide +kernel)) (by decide)
theorem e_188_103 : Df d 188 103 [l0, l1] st h nx = Df d 188 107 [l0, l1] st h nx := D_goto (ins_of mc_188 (pc := 103) (x := (.goto 4, 3)) (by decide +kernel)) (by decide)
theorem e_188_106 : Df d 188 106 [l0, l1] st h nx = Df d 188 107 [l0, l1] (.int (-1) :: st) h nx := D_iconst (ins_of mc_188 (pc := 106) (x := (.iconst (-1), 1)) (by decide +kernel)) (by decide)
theorem e_188_107 : Df d 188 107 [l0, l1] [.int x] h nx = some (some (.int x), h, nx) := D_ireturn (ins_of mc_188 (pc := 107) (x := (.ireturn, 1)) (by decide +kernel)) mr_188
theorem mc_189 : mC 189 = prog_11_method_64_code := rfl
theorem mo_189 : mO 189 = 9 := rfl
theorem ml_189 : mL 189 = 2 := rfl
theorem mr_189 : mR 189 = none := rfl
theorem ma_189 : mA 189 = 1 := rfl
theorem e_189_0 : Df d 189 0 [.ref a, l1] st h nx = Df d 189 1 [.ref a, l1] (.ref a :: st) h nx := D_aload_n (ins_of mc_189 (pc := 0) (x := (.aload_n 0, 1)) (by decide +kernel)) rfl
theorem e_189_1 : Df d 189 1 [l0, l1] (.ref a :: st) h nx = (gF h a 9 20).bind fun v => Df d 189 4 [l0, l1] (v :: st) h nx := D_getfield (ins_of mc_189 (pc := 1) (x := (.getfield 231, 3)) (by decide +kernel)) mo_189 (by decide +kernel)
theorem e_189_4 : Df d 189 4 [l0, l1] (.int x :: st) h nx = if x ≤ 0 then Df d 189 82 [l0, l1] st h nx else Df d 189 7 [l0, l1] st h nx := D_if_le (ins_of mc_189 (pc := 4) (x := (.ifCond .le 78, 3)) (by decide +kernel)) (by decide)
theorem e_189_7 : Df d 189 7 [.ref a, l1] st h nx = Df d 189 8 [.ref a, l1] (.ref a :: st) h nx := D_aload_n (ins_of mc_189 (pc := 7) (x := (.aload_n 0, 1)) (by decide +kernel)) rfl
theorem e_189_8 : Df d 189 8 [l0, l1] (.ref a :: st) h nx = (gF h a 9 19).bind fun v => Df d 189 11 [l0, l1] (v :: st) h nx := D_getfield (ins_of mc_189 (pc := 8) (x := (.getfield 35, 3)) (by decide +kernel)) mo_189 (by decide +kernel)
theorem e_189_11 : Df d 189 11 [.ref a, l1] st h nx = Df d 189 12 [.ref a, l1] (.ref a :: st) h nx := D_aload_n (ins_of mc_189 (pc := 11) (x := (.aload_n 0, 1)) (by decide +kernel)) rfl
theorem e_189_12 : Df d 189 12 [l0, l1] (.ref a :: st) h nx = (gF h a 9 20).bind fun v => Df d 189 15 [l0, l1] (v :: st) h nx := D_getfield (ins_of mc_189 (pc := 12) (x := (.getfield 231, 3)) (by decide +kernel)) mo_189 (by decide +kernel)
theorem e_189_15 : Df d 189 15 [l0, l1] st h nx = Df d 189 16 [l0, l1] (.int 1 :: st) h nx := D_iconst (ins_of mc_189 (pc := 15) (x := (.iconst 1, 1)) (by decide +kernel)) (by decide)
theorem e_189_16 : Df d 189 16 [l0, l1] (.int y :: .int x :: st) h nx = Df d 189 17 [l0, l1] (.int (x - y) :: st) h nx := D_isub (ins_of mc_189 (pc := 16) (x := (.isub, 1)) (by decide +kernel))
theorem e_189_17 : Df d 189 17 [l0, l1] (.int x :: .ref a :: st) h nx = (rX h a x).bind fun v => Df d 189 18 [l0, l1] (.int v :: st) h nx := D_iaload (ins_of mc_189 (pc := 17) (x := (.iaload, 1)) (by decide +kernel))
theorem e_189_18 : Df d 189 18 [l0, l1] st h nx = Df d 189 20 [l0, l1] (.int (-11) :: st) h nx := D_bipush (ins_of mc_189 (pc := 18) (x := (.bipush (-11), 2)) (by decide +kernel)) (by decide)
theorem e_189_20 : Df d 189 20 [l0, l1] (.int y :: .int x :: st) h nx = if x = y then Df d 189 82 [l0, l1] st h nx else Df d 189 23 [l0, l1] st h nx := D_icmp_eq (ins_of mc_189 (pc := 20) (x := (.if_icmp .eq 62, 3)) (by decide +kernel)) (by decide)
theorem e_189_23 : Df d 189 23 [.ref a, l1] st h nx = Df d 189 24 [.ref a, l1] (.ref a :: st) h nx := D_aload_n (ins_of mc_189 (pc := 23) (x := (.aload_n 0, 1)) (by decide +kernel)) rfl
theorem e_189_24 : Df d 189 24 [l0, l1] (.ref a :: st) h nx = (gF h a 9 19).bind fun v => Df d 189 27 [l0, l1] (v :: st) h nx := D_getfield (ins_of mc_189 (pc := 24) (x := (.getfield 35, 3)) (by decide +kernel)) mo_189 (by decide +kernel)
theorem e_189_27 : Df d 189 27 [.ref a, l1] st h nx = Df d 189 28 [.ref a, l1] (.ref a :: st) h nx := D_aload_n (ins_of mc_189 (pc := 27) (x := (.aload_n 0, 1)) (by decide +kernel)) rfl
theorem e_189_28 : Df d 189 28 [l0, l1] (.ref a :: st) h nx = (gF h a 9 20).bind fun v => Df d 189 31 [l0, l1] (v :: st) h nx := D_getfield (ins_of mc_189 (pc := 28) (x := (.getfield 231, 3)) (by decide +kernel)) mo_189 (by decide +kernel)
theorem e_189_31 : Df d 189 31 [l0, l1] st h nx = Df d 189 32 [l0, l1] (.int 1 :: st) h nx := D_iconst (ins_of mc_189 (pc := 31) (x := (.iconst 1, 1)) (by decide +kernel)) (by decide)
theorem e_189_32 : Df d 189 32 [l0, l1] (.int y :: .int x :: st) h nx = Df d 189 33 [l0, l1] (.int (x - y) :: st) h nx := D_isub (ins_of mc_189 (pc := 32) (x := (.isub, 1)) (by decide +kernel))
theorem e_189_33 : Df d 189 33 [l0, l1] (.int x :: .ref a :: st) h nx = (rX h a x).bind fun v => Df d 189 34 [l0, l1] (.int v :: st) h nx := D_iaload (ins_of mc_189 (pc := 33) (x := (.iaload, 1)) (by decide +kernel))
theorem e_189_34 : Df d 189 34 [l0, l1] [v0] h nx = cn d 189 37 [l0, l1] [] (Dn d 190 [v0] h nx) := D_static (k1 := 190) (kd := 1) (ins_of mc_189 (pc := 34) (x := (.invokestatic 234, 3)) (by decide +kernel)) mo_189 (by decide +kernel) (by decide) rfl (Nat.le_of_ble_eq_true rfl) rfl (Nat.le_of_ble_eq_true rfl) rfl
theorem e_189_37 : Df d 189 37 [l0, .int x] st h nx = Df d 189 38 [l0, .int x] (.int x :: st) h nx := D_iload_n (ins_of mc_189 (pc := 37) (x := (.iload_n 1, 1)) (by decide +kernel)) rfl
theorem e_189_38 : Df d 189 38 [l0, l1] (.int y :: .int x :: st) h nx = if x < y then Df d 189 82 [l0, l1] st h nx else Df d 189 41 [l0, l1] st h nx := D_icmp_lt (ins_of mc_189 (pc := 38) (x := (.if_icmp .lt 44, 3)) (by decide +kernel)) (by decide)
theorem e_189_41 : Df d 189 41 [.ref a, l1] st h nx = Df d 189 42 [.ref a, l1] (.ref a :: st) h nx := D_aload_n (ins_of mc_189 (pc := 41) (x := (.aload_n 0, 1)) (by decide +kernel)) rfl
theorem e_189_42 (hv : v0.category = 1) : Df d 189 42 [l0, l1] (v0 :: st) h nx = Df d 189 43 [l0, l1] (v0 :: v0 :: st) h nx := D_dup (ins_of mc_189 (pc := 42) (x := (.dup, 1)) (by decide +kernel)) hv
theorem e_189_43 : Df d 189 43 [l0, l1] (.ref a :: st) h nx = (gF h a 9 20).bind fun v => Df d 189 46 [l0, l1] (v :: st) h nx := D_getfield (ins_of mc_189 (pc := 43) (x := (.getfield 231, 3)) (by decide +kernel)) mo_189 (by decide +kernel)
theorem e_189_46 : Df d 189 46 [l0, l1] st h nx = Df d 189 47 [l0, l1] (.int 1 :: st) h nx := D_iconst (ins_of mc_189 (pc := 46) (x := (.iconst 1, 1)) (by decide +kernel)) (by decide)
theorem e_189_47 : Df d 189 47 [l0, l1] (.int y :: .int x :: st) h nx = Df d 189 48 [l0, l1] (.int (x - y) :: st) h nx := D_isub (ins_of mc_189 (pc := 47) (x := (.isub, 1)) (by decide +kernel))
theorem e_189_48 : Df d 189 48 [l0, l1] (.int x :: .ref a :: st) h nx = (pF h a 9 20 (.int x)).bind fun h => Df d 189 51 [l0, l1] st h nx := D_putfield (ins_of mc_189 (pc := 48) (x := (.putfield 231, 3)) (by decide +kernel)) mo_189 (by decide +kernel) rfl (Or.inl rfl)
theorem e_189_51 : Df d 189 51 [.ref a, l1] st h nx = Df d 189 52 [.ref a, l1] (.ref a :: st) h nx := D_aload_n (ins_of mc_189 (pc := 51) (x := (.aload_n 0, 1)) (by decide +kernel)) rfl
theorem e_189_52 : Df d 189 52 [l0, l1] (.ref a :: st) h nx = (gF h a 9 16).bind fun v => Df d 189 55 [l0, l1] (v :: st) h nx := D_getfield (ins_of mc_189 (pc := 52) (x := (.getfield 32, 3)) (by decide +kernel)) mo_189 (by decide +kernel)
theorem e_189_55 : Df d 189 55 [.ref a, l1] st h nx = Df d 189 56 [.ref a, l1] (.ref a :: st) h nx := D_aload_n (ins_of mc_189 (pc := 55) (x := (.aload_n 0, 1)) (by decide +kernel)) rfl
theorem e_189_56 : Df d 189 56 [l0, l1] (.ref a :: st) h nx = (gF h a 9 17).bind fun v => Df d 189 59 [l0, l1] (v :: st) h nx := D_getfield (ins_of mc_189 (pc := 56) (x := (.getfield 237, 3)) (by decide +kernel)) mo_189 (by decide +kernel)
theorem e_189_59 : Df d 189 59 [.ref a, l1] st h nx = Df d 189 60 [.ref a, l1] (.ref a :: st) h nx := D_aload_n (ins_of mc_189 (pc := 59) (x := (.aload_n 0, 1)) (by decide +kernel)) rfl
theorem e_189_60 : Df d 189 60 [l0, l1] (.ref a :: st) h nx = (gF h a 9 19).bind fun v => Df d 189 63 [l0, l1] (v :: st) h nx := D_getfield (ins_of mc_189 (pc := 60) (x := (.getfield 35, 3)) (by decide +kernel)) mo_189 (by decide +kernel)
theorem e_189_63 : Df d 189 63 [.ref a, l1] st h nx = Df d 189 64 [.ref a, l1] (.ref a :: st) h nx := D_aload_n (ins_of mc_189 (pc := 63) (x := (.aload_n 0, 1)) (by decide +kernel)) rfl
theorem e_189_64 : Df d 189 64 [l0, l1] (.ref a :: st) h nx = (gF h a 9 20).bind fun v => Df d 189 67 [l0, l1] (v :: st) h nx := D_getfield (ins_of mc_189 (pc := 64) (x := (.getfield 231, 3)) (by decide +kernel)) mo_189 (by decide +kernel)
theorem e_189_67 : Df d 189 67 [l0, l1] (.int x :: .ref a :: st) h nx = (rX h a x).bind fun v => Df d 189 68 [l0, l1] (.int v :: st) h nx := D_iaload (ins_of mc_189 (pc := 67) (x := (.iaload, 1)) (by decide +kernel))
theorem e_189_68 : Df d 189 68 [l0, l1] (.int y :: .int x :: .ref a :: st) h nx = (wI h a x 0 y).bind fun h => Df d 189 69 [l0, l1] st h nx := D_iastore (ins_of mc_189 (pc := 68) (x := (.iastore, 1)) (by decide +kernel))
theorem e_189_69 : Df d 189 69 [.ref a, l1] st h nx = Df d 189 70 [.ref a, l1] (.ref a :: st) h nx := D_aload_n (ins_of mc_189 (pc := 69) (x := (.aload_n 0, 1)) (by decide +kernel)) rfl
theorem e_189_70 (hv : v0.category = 1) : Df d 189 70 [l0, l1] (v0 :: st) h nx = Df d 189 71 [l0, l1] (v0 :: v0 :: st) h nx := D_dup (ins_of mc_189 (pc := 70) (x := (.dup, 1)) (by decide +kernel)) hv
theorem e_189_71 : Df d 189 71 [l0, l1] (.ref a :: st) h nx = (gF h a 9 17).bind fun v => Df d 189 74 [l0, l1] (v :: st) h nx := D_getfield (ins_of mc_189 (pc := 71) (x := (.getfield 237, 3)) (by decide +kernel)) mo_189 (by decide +kernel)
theorem e_189_74 : Df d 189 74 [l0, l1] st h nx = Df d 189 75 [l0, l1] (.int 1 :: st) h nx := D_iconst (ins_of mc_189 (pc := 74) (x := (.iconst 1, 1)) (by decide +kernel)) (by decide)
theorem e_189_75 : Df d 189 75 [l0, l1] (.int y :: .int x :: st) h nx = Df d 189 76 [l0, l1] (.int (x + y) :: st) h nx := D_iadd (ins_of mc_189 (pc := 75) (x := (.iadd, 1)) (by decide +kernel))
theorem e_189_76 : Df d 189 76 [l0, l1] (.int x :: .ref a :: st) h nx = (pF h a 9 17 (.int x)).bind fun h => Df d 189 79 [l0, l1] st h nx := D_putfield (ins_of mc_189 (pc := 76) (x := (.putfield 237, 3)) (by decide +kernel)) mo_189 (by decide +kernel) rfl (Or.inl rfl)
theorem e_189_79 : Df d 189 79 [l0, l1] st h nx = Df d 189 0 [l0, l1] st h nx := D_goto (ins_of mc_189 (pc := 79) (x := (.goto (-79), 3)) (by decide +kernel)) (by decide)
theorem e_189_82 : Df d 189 82 [l0, l1] [] h nx = some (none, h, nx) := D_return (ins_of mc_189 (pc := 82) (x := (.return_, 1)) (by decide +kernel)) mr_189
theorem mc_190 : mC 190 = prog_11_method_63_code := rfl
theorem mo_190 : mO 190 = 9 := rfl
theorem ml_190 : mL 190 = 1 := rfl
theorem mr_190 : mR 190 = (some .int) := rfl
theorem ma_190 : mA 190 = 1 := rfl
theorem e_190_0 : Df d 190 0 [.int x] st h nx = Df d 190 1 [.int x] (.int x :: st) h nx := D_iload_n (ins_of mc_190 (pc := 0) (x := (.iload_n 0, 1)) (by decide +kernel)) rfl
theorem e_190_1 : Df d 190 1 [l0] st h nx = Df d 190 2 [l0] (.int (-1) :: st) h nx := D_iconst (ins_of mc_190 (pc := 1) (x := (.iconst (-1), 1)) (by decide +kernel)) (by decide)
theorem e_190_2 : Df d 190 2 [l0] (.int y :: .int x :: st) h nx = if x = y then Df d 190 5 [l0] st h nx else Df d 190 9 [l0] st h nx := D_icmp_ne (ins_of mc_190 (pc := 2) (x := (.if_icmp .ne 7, 3)) (by decide +kernel)) (by decide)
theorem e_190_5 : Df d 190 5 [l0] st h nx = Df d 190 6 [l0] (.int 1 :: st) h nx := D_iconst (ins_of mc_190 (pc := 5) (x := (.iconst 1, 1)) (by decide +kernel)) (by decide)
theorem e_190_6 : Df d 190 6 [l0] st h nx = Df d 190 51 [l0] st h nx := D_goto (ins_of mc_190 (pc := 6) (x := (.goto 45, 3)) (by decide +kernel)) (by decide)
theorem e_190_9 : Df d 190 9 [.int x] st h nx = Df d 190 10 [.int x] (.int x :: st) h nx := D_iload_n (ins_of mc_190 (pc := 9) (x := (.iload_n 0, 1)) (by decide +kernel)) rfl
theorem e_190_10 : Df d 190 10 [l0] st h nx = Df d 190 12 [l0] (.int (-2) :: st) h nx := D_bipush (ins_of mc_190 (pc := 10) (x := (.bipush (-2), 2)) (by decide +kernel)) (by decide)
theorem e_190_12 : Df d 190 12 [l0] (.int y :: .int x :: st) h nx = if x = y then Df d 190 15 [l0] st h nx else Df d 190 19 [l0] st h nx := D_icmp_ne (ins_of mc_190 (pc := 12) (x := (.if_icmp .ne 7, 3)) (by decide +kernel)) (by decide)
theorem e_190_15 : Df d 190 15 [l0] st h nx = Df d 190 16 [l0] (.int 2 :: st) h nx := D_iconst (ins_of mc_190 (pc := 15) (x := (.iconst 2, 1)) (by decide +kernel)) (by decide)
theorem e_190_16 : Df d 190 16 [l0] st h nx = Df d 190 51 [l0] st h nx := D_goto (ins_of mc_190 (pc := 16) (x := (.goto 35, 3)) (by decide +kernel)) (by decide)
theorem e_190_19 : Df d 190 19 [.int x] st h nx = Df d 190 20 [.int x] (.int x :: st) h nx := D_iload_n (ins_of mc_190 (pc := 19) (x := (.iload_n 0, 1)) (by decide +kernel)) rfl
theorem e_190_20 : Df d 190 20 [l0] st h nx = Df d 190 22 [l0] (.int (-5) :: st) h nx := D_bipush (ins_of mc_190 (pc := 20) (x := (.bipush (-5), 2)) (by decide +kernel)) (by decide)
theorem e_190_22 : Df d 190 22 [l0] (.int y :: .int x :: st) h nx = if x < y then Df d 190 29 [l0] st h nx else Df d 190 25 [l0] st h nx := D_icmp_lt (ins_of mc_190 (pc := 22) (x := (.if_icmp .lt 7, 3)) (by decide +kernel)) (by decide)
theorem e_190_25 : Df d 190 25 [l0] st h nx = Df d 190 26 [l0] (.int 3 :: st) h nx := D_iconst (ins_of mc_190 (pc := 25) (x := (.iconst 3, 1)) (by decide +kernel)) (by decide)
theorem e_190_26 : Df d 190 26 [l0] st h nx = Df d 190 51 [l0] st h nx := D_goto (ins_of mc_190 (pc := 26) (x := (.goto 25, 3)) (by decide +kernel)) (by decide)
theorem e_190_29 : Df d 190 29 [.int x] st h nx = Df d 190 30 [.int x] (.int x :: st) h nx := D_iload_n (ins_of mc_190 (pc := 29) (x := (.iload_n 0, 1)) (by decide +kernel)) rfl
theorem e_190_30 : Df d 190 30 [l0] st h nx = Df d 190 32 [l0] (.int (-7) :: st) h nx := D_bipush (ins_of mc_190 (pc := 30) (x := (.bipush (-7), 2)) (by decide +kernel)) (by decide)
theorem e_190_32 : Df d 190 32 [l0] (.int y :: .int x :: st) h nx = if x < y then Df d 190 39 [l0] st h nx else Df d 190 35 [l0] st h nx := D_icmp_lt (ins_of mc_190 (pc := 32) (x := (.if_icmp .lt 7, 3)) (by decide +kernel)) (by decide)
theorem e_190_35 : Df d 190 35 [l0] st h nx = Df d 190 36 [l0] (.int 4 :: st) h nx := D_iconst (ins_of mc_190 (pc := 35) (x := (.iconst 4, 1)) (by decide +kernel)) (by decide)
theorem e_190_36 : Df d 190 36 [l0] st h nx = Df d 190 51 [l0] st h nx := D_goto (ins_of mc_190 (pc := 36) (x := (.goto 15, 3)) (by decide +kernel)) (by decide)
theorem e_190_39 : Df d 190 39 [.int x] st h nx = Df d 190 40 [.int x] (.int x :: st) h nx := D_iload_n (ins_of mc_190 (pc := 39) (x := (.iload_n 0, 1)) (by decide +kernel)) rfl
theorem e_190_40 : Df d 190 40 [l0] st h nx = Df d 190 42 [l0] (.int (-9) :: st) h nx := D_bipush (ins_of mc_190 (pc := 40) (x := (.bipush (-9), 2)) (by decide +kernel)) (by decide)
theorem e_190_42 : Df d 190 42 [l0] (.int y :: .int x :: st) h nx = if x < y then Df d 190 49 [l0] st h nx else Df d 190 45 [l0] st h nx := D_icmp_lt (ins_of mc_190 (pc := 42) (x := (.if_icmp .lt 7, 3)) (by decide +kernel)) (by decide)
theorem e_190_45 : Df d 190 45 [l0] st h nx = Df d 190 46 [l0] (.int 5 :: st) h nx := D_iconst (ins_of mc_190 (pc := 45) (x := (.iconst 5, 1)) (by decide +kernel)) (by decide)
theorem e_190_46 : Df d 190 46 [l0] st h nx = Df d 190 51 [l0] st h nx := D_goto (ins_of mc_190 (pc := 46) (x := (.goto 5, 3)) (by decide +kernel)) (by decide)
theorem e_190_49 : Df d 190 49 [l0] st h nx = Df d 190 51 [l0] (.int 6 :: st) h nx := D_bipush (ins_of mc_190 (pc := 49) (x := (.bipush 6, 2)) (by decide +kernel)) (by decide)
theorem e_190_51 : Df d 190 51 [l0] [.int x] h nx = some (some (.int x), h, nx) := D_ireturn (ins_of mc_190 (pc := 51) (x := (.ireturn, 1)) (by decide +kernel)) mr_190
theorem mc_191 : mC 191 = prog_11_method_68_code := rfl
theorem mo_191 : mO 191 = 9 := rfl
theorem ml_191 : mL 191 = 3 := rfl
theorem mr_191 : mR 191 = (some .int) := rfl
theorem ma_191 : mA 191 = 0 := rfl
theorem e_191_0 : Df d 191 0 [l0, l1, l2] st h nx = Df d 191 1 [l0, l1, l2] (.int 0 :: st) h nx := D_iconst (ins_of mc_191 (pc := 0) (x := (.iconst 0, 1)) (by decide +kernel)) (by decide)
theorem e_191_1 (hn : nr l1 = true) : Df d 191 1 [l0, l1, l2] (.int x :: st) h nx = Df d 191 2 [l0, .int x, l2] st h nx := D_istore_n (ins_of mc_191 (pc := 1) (x := (.istore_n 1, 1)) (by decide +kernel)) rfl hn rfl
theorem e_191_2 : Df d 191 2 [l0, l1, l2] st h nx = Df d 191 3 [l0, l1, l2] (.int 0 :: st) h nx := D_iconst (ins_of mc_191 (pc := 2) (x := (.iconst 0, 1)) (by decide +kernel)) (by decide)
theorem e_191_3 (hn : nr l2 = true) : Df d 191 3 [l0, l1, l2] (.int x :: st) h nx = Df d 191 4 [l0, l1, .int x] st h nx := D_istore_n (ins_of mc_191 (pc := 3) (x := (.istore_n 2, 1)) (by decide +kernel)) rfl hn rfl
theorem e_191_4 : Df d 191 4 [l0, l1, .int x] st h nx = Df d 191 5 [l0, l1, .int x] (.int x :: st) h nx := D_iload_n (ins_of mc_191 (pc := 4) (x := (.iload_n 2, 1)) (by decide +kernel)) rfl
theorem e_191_5 : Df d 191 5 [.ref a, l1, l2] st h nx = Df d 191 6 [.ref a, l1, l2] (.ref a :: st) h nx := D_aload_n (ins_of mc_191 (pc := 5) (x := (.aload_n 0, 1)) (by decide +kernel)) rfl
theorem e_191_6 : Df d 191 6 [l0, l1, l2] (.ref a :: st) h nx = (gF h a 9 20).bind fun v => Df d 191 9 [l0, l1, l2] (v :: st) h nx := D_getfield (ins_of mc_191 (pc := 6) (x := (.getfield 231, 3)) (by decide +kernel)) mo_191 (by decide +kernel)
theorem e_191_9 : Df d 191 9 [l0, l1, l2] (.int y :: .int x :: st) h nx = if y ≤ x then Df d 191 37 [l0, l1, l2] st h nx else Df d 191 12 [l0, l1, l2] st h nx := D_icmp_ge (ins_of mc_191 (pc := 9) (x := (.if_icmp .ge 28, 3)) (by decide +kernel)) (by decide)
theorem e_191_12 : Df d 191 12 [l0, .int x, l2] st h nx = Df d 191 13 [l0, .int x, l2] (.int x :: st) h nx := D_iload_n (ins_of mc_191 (pc := 12) (x := (.iload_n 1, 1)) (by decide +kernel)) rfl
theorem e_191_13 : Df d 191 13 [.ref a, l1, l2] st h nx = Df d 191 14 [.ref a, l1, l2] (.ref a :: st) h nx := D_aload_n (ins_of mc_191 (pc := 13) (x := (.aload_n 0, 1)) (by decide +kernel)) rfl
theorem e_191_14 : Df d 191 14 [l0, l1, l2] (.ref a :: st) h nx = (gF h a 9 19).bind fun v => Df d 191 17 [l0, l1, l2] (v :: st) h nx := D_getfield (ins_of mc_191 (pc := 14) (x := (.getfield 35, 3)) (by decide +kernel)) mo_191 (by decide +kernel)
theorem e_191_17 : Df d 191 17 [l0, l1, .int x] st h nx = Df d 191 18 [l0, l1, .int x] (.int x :: st) h nx := D_iload_n (ins_of mc_191 (pc := 17) (x := (.iload_n 2, 1)) (by decide +kernel)) rfl
theorem e_191_18 : Df d 191 18 [l0, l1, l2] (.int x :: .ref a :: st) h nx = (rX h a x).bind fun v => Df d 191 19 [l0, l1, l2] (.int v :: st) h nx := D_iaload (ins_of mc_191 (pc := 18) (x := (.iaload, 1)) (by decide +kernel))
theorem e_191_19 : Df d 191 19 [l0, l1, l2] st h nx = Df d 191 21 [l0, l1, l2] (.int (-10) :: st) h nx := D_bipush (ins_of mc_191 (pc := 19) (x := (.bipush (-10), 2)) (by decide +kernel)) (by decide)
theorem e_191_21 : Df d 191 21 [l0, l1, l2] (.int y :: .int x :: st) h nx = if x = y then Df d 191 24 [l0, l1, l2] st h nx else Df d 191 28 [l0, l1, l2] st h nx := D_icmp_ne (ins_of mc_191 (pc := 21) (x := (.if_icmp .ne 7, 3)) (by decide +kernel)) (by decide)
theorem e_191_24 : Df d 191 24 [l0, l1, l2] st h nx = Df d 191 25 [l0, l1, l2] (.int 1 :: st) h nx := D_iconst (ins_of mc_191 (pc := 24) (x := (.iconst 1, 1)) (by decide +kernel)) (by decide)
theorem e_191_25 : Df d 191 25 [l0, l1, l2] st h nx = Df d 191 29 [l0, l1, l2] st h nx := D_goto (ins_of mc_191 (pc := 25) (x := (.goto 4, 3)) (by decide +kernel)) (by decide)
theorem e_191_28 : Df d 191 28 [l0, l1, l2] st h nx = Df d 191 29 [l0, l1, l2] (.int 0 :: st) h nx := D_iconst (ins_of mc_191 (pc := 28) (x := (.iconst 0, 1)) (by decide +kernel)) (by decide)
theorem e_191_29 : Df d 191 29 [l0, l1, l2] (.int y :: .int x :: st) h nx = Df d 191 30 [l0, l1, l2] (.int (x + y) :: st) h nx := D_iadd (ins_of mc_191 (pc := 29) (x := (.iadd, 1)) (by decide +kernel))
theorem e_191_30 (hn : nr l1 = true) : Df d 191 30 [l0, l1, l2] (.int x :: st) h nx = Df d 191 31 [l0, .int x, l2] st h nx := D_istore_n (ins_of mc_191 (pc := 30) (x := (.istore_n 1, 1)) (by decide +kernel)) rfl hn rfl
theorem e_191_31 : Df d 191 31 [l0, l1, .int x] st h nx = Df d 191 34 [l0, l1, .int (x + 1)] st h nx := D_iinc (ins_of mc_191 (pc := 31) (x := (.iinc 2 1, 3)) (by decide +kernel)) rfl (by decide) rfl
theorem e_191_34 : Df d 191 34 [l0, l1, l2] st h nx = Df d 191 4 [l0, l1, l2] st h nx := D_goto (ins_of mc_191 (pc := 34) (x := (.goto (-30), 3)) (by decide +kernel)) (by decide)
theorem e_191_37 : Df d 191 37 [l0, .int x, l2] st h nx = Df d 191 38 [l0, .int x, l2] (.int x :: st) h nx := D_iload_n (ins_of mc_191 (pc := 37) (x := (.iload_n 1, 1)) (by decide +kernel)) rfl
theorem e_191_38 : Df d 191 38 [l0, l1, l2] [.int x] h nx = some (some (.int x), h, nx) := D_ireturn (ins_of mc_191 (pc := 38) (x := (.ireturn, 1)) (by decide +kernel)) mr_191
theorem mc_192 : mC 192 = prog_11_method_65_code := rfl
theorem mo_192 : mO 192 = 9 := rfl
theorem ml_192 : mL 192 = 1 := rfl
theorem mr_192 : mR 192 = (some .int) := rfl
theorem ma_192 : mA 192 = 0 := rfl
theorem e_192_0 : Df d 192 0 [.ref a] st h nx = Df d 192 1 [.ref a] (.ref a :: st) h nx := D_aload_n (ins_of mc_192 (pc := 0) (x := (.aload_n 0, 1)) (by decide +kernel)) rfl
theorem e_192_1 : Df d 192 1 [l0] (.ref a :: st) h nx = (gF h a 9 10).bind fun v => Df d 192 4 [l0] (v :: st) h nx := D_getfield (ins_of mc_192 (pc := 1) (x := (.getfield 213, 3)) (by decide +kernel)) mo_192 (by decide +kernel)
theorem e_192_4 : Df d 192 4 [l0] st h nx = Df d 192 5 [l0] (.int 3 :: st) h nx := D_iconst (ins_of mc_192 (pc := 4) (x := (.iconst 3, 1)) (by decide +kernel)) (by decide)
theorem e_192_5 : Df d 192 5 [l0] (.int y :: .int x :: st) h nx = if x = y then Df d 192 10 [l0] st h nx else Df d 192 8 [l0] st h nx := D_icmp_eq (ins_of mc_192 (pc := 5) (x := (.if_icmp .eq 5, 3)) (by decide +kernel)) (by decide)
theorem e_192_8 : Df d 192 8 [l0] st h nx = Df d 192 9 [l0] (.int 0 :: st) h nx := D_iconst (ins_of mc_192 (pc := 8) (x := (.iconst 0, 1)) (by decide +kernel)) (by decide)
theorem e_192_9 : Df d 192 9 [l0] [.int x] h nx = some (some (.int x), h, nx) := D_ireturn (ins_of mc_192 (pc := 9) (x := (.ireturn, 1)) (by decide +kernel)) mr_192
theorem e_192_10 : Df d 192 10 [.ref a] st h nx = Df d 192 11 [.ref a] (.ref a :: st) h nx := D_aload_n (ins_of mc_192 (pc := 10) (x := (.aload_n 0, 1)) (by decide +kernel)) rfl
theorem e_192_11 : Df d 192 11 [l0] (.ref a :: st) h nx = (gF h a 9 11).bind fun v => Df d 192 14 [l0] (v :: st) h nx := D_getfield (ins_of mc_192 (pc := 11) (x := (.getfield 219, 3)) (by decide +kernel)) mo_192 (by decide +kernel)
theorem e_192_14 : Df d 192 14 [l0] (.int x :: st) h nx = if x = 38 then Df d 192 98 [l0] st h nx else if x = 42 then Df d 192 116 [l0] st h nx else if x = 43 then Df d 192 110 [l0] st h nx else if x = 45 then Df d 192 113 [l0] st h nx else if x = 47 then Df d 192 119 [l0] st h nx else if x = 60 then Df d 192 101 [l0] st h nx else if x = 61 then Df d 192 104 [l0] st h nx else if x = 62 then Df d 192 107 [l0] st h nx else if x = 124 then Df d 192 96 [l0] st h nx else Df d 192 122 [l0] st h nx := by
  have hi := (ins_of mc_192 (pc := 14) (x := (.lookupswitch 108 #[(38, 84), (42, 102), (43, 96), (45, 99), (47, 105), (60, 87), (61, 90), (62, 93), (124, 82)], 82)) (by decide +kernel))
  by_cases q0 : x = 38
  · subst q0
    rw [if_pos rfl]
    exact D_lsw hi (by decide) (off := 84) (by decide) (by decide)
  rw [if_neg q0]
  by_cases q1 : x = 42
  · subst q1
    rw [if_pos rfl]
    exact D_lsw hi (by decide) (off := 102) (by decide) (by decide)
  rw [if_neg q1]
  by_cases q2 : x = 43
  · subst q2
    rw [if_pos rfl]
    exact D_lsw hi (by decide) (off := 96) (by decide) (by decide)
  rw [if_neg q2]
  by_cases q3 : x = 45
  · subst q3
    rw [if_pos rfl]
    exact D_lsw hi (by decide) (off := 99) (by decide) (by decide)
  rw [if_neg q3]
  by_cases q4 : x = 47
  · subst q4
    rw [if_pos rfl]
    exact D_lsw hi (by decide) (off := 105) (by decide) (by decide)
  rw [if_neg q4]
  by_cases q5 : x = 60
  · subst q5
    rw [if_pos rfl]
    exact D_lsw hi (by decide) (off := 87) (by decide) (by decide)
  rw [if_neg q5]
  by_cases q6 : x = 61
  · subst q6
    rw [if_pos rfl]
    exact D_lsw hi (by decide) (off := 90) (by decide) (by decide)
  rw [if_neg q6]
  by_cases q7 : x = 62
  · subst q7
    rw [if_pos rfl]
    exact D_lsw hi (by decide) (off := 93) (by decide) (by decide)
  rw [if_neg q7]
  by_cases q8 : x = 124
  · subst q8
    rw [if_pos rfl]
    exact D_lsw hi (by decide) (off := 82) (by decide) (by decide)
  rw [if_neg q8]
  refine D_lsw hi (by decide) (off := 108) ?_ (by decide)
  show Op.lookupswitch.offset [(38, 84), (42, 102), (43, 96), (45, 99), (47, 105), (60, 87), (61, 90), (62, 93), (124, 82)] 108 x.toInt = 108
  rw [lv_osw (k := 38) q0 (by decide)]
  rw [lv_osw (k := 42) q1 (by decide)]
  rw [lv_osw (k := 43) q2 (by decide)]
  rw [lv_osw (k := 45) q3 (by decide)]
  rw [lv_osw (k := 47) q4 (by decide)]
  rw [lv_osw (k := 60) q5 (by decide)]
  rw [lv_osw (k := 61) q6 (by decide)]
  rw [lv_osw (k := 62) q7 (by decide)]
  rw [lv_osw (k := 124) q8 (by decide)]
  rfl
theorem e_192_96 : Df d 192 96 [l0] st h nx = Df d 192 97 [l0] (.int (-1) :: st) h nx := D_iconst (ins_of mc_192 (pc := 96) (x := (.iconst (-1), 1)) (by decide +kernel)) (by decide)
theorem e_192_97 : Df d 192 97 [l0] [.int x] h nx = some (some (.int x), h, nx) := D_ireturn (ins_of mc_192 (pc := 97) (x := (.ireturn, 1)) (by decide +kernel)) mr_192
theorem e_192_98 : Df d 192 98 [l0] st h nx = Df d 192 100 [l0] (.int (-2) :: st) h nx := D_bipush (ins_of mc_192 (pc := 98) (x := (.bipush (-2), 2)) (by decide +kernel)) (by decide)
theorem e_192_100 : Df d 192 100 [l0] [.int x] h nx = some (some (.int x), h, nx) := D_ireturn (ins_of mc_192 (pc := 100) (x := (.ireturn, 1)) (by decide +kernel)) mr_192
theorem e_192_101 : Df d 192 101 [l0] st h nx = Df d 192 103 [l0] (.int (-3) :: st) h nx := D_bipush (ins_of mc_192 (pc := 101) (x := (.bipush (-3), 2)) (by decide +kernel)) (by decide)
theorem e_192_103 : Df d 192 103 [l0] [.int x] h nx = some (some (.int x), h, nx) := D_ireturn (ins_of mc_192 (pc := 103) (x := (.ireturn, 1)) (by decide +kernel)) mr_192
theorem e_192_104 : Df d 192 104 [l0] st h nx = Df d 192 106 [l0] (.int (-4) :: st) h nx := D_bipush (ins_of mc_192 (pc := 104) (x := (.bipush (-4), 2)) (by decide +kernel)) (by decide)
theorem e_192_106 : Df d 192 106 [l0] [.int x] h nx = some (some (.int x), h, nx) := D_ireturn (ins_of mc_192 (pc := 106) (x := (.ireturn, 1)) (by decide +kernel)) mr_192
theorem e_192_107 : Df d 192 107 [l0] st h nx = Df d 192 109 [l0] (.int (-5) :: st) h nx := D_bipush (ins_of mc_192 (pc := 107) (x := (.bipush (-5), 2)) (by decide +kernel)) (by decide)
theorem e_192_109 : Df d 192 109 [l0] [.int x] h nx = some (some (.int x), h, nx) := D_ireturn (ins_of mc_192 (pc := 109) (x := (.ireturn, 1)) (by decide +kernel)) mr_192
theorem e_192_110 : Df d 192 110 [l0] st h nx = Df d 192 112 [l0] (.int (-6) :: st) h nx := D_bipush (ins_of mc_192 (pc := 110) (x := (.bipush (-6), 2)) (by decide +kernel)) (by decide)
theorem e_192_112 : Df d 192 112 [l0] [.int x] h nx = some (some (.int x), h, nx) := D_ireturn (ins_of mc_192 (pc := 112) (x := (.ireturn, 1)) (by decide +kernel)) mr_192
theorem e_192_113 : Df d 192 113 [l0] st h nx = Df d 192 115 [l0] (.int (-7) :: st) h nx := D_bipush (ins_of mc_192 (pc := 113) (x := (.bipush (-7), 2)) (by decide +kernel)) (by decide)
theorem e_192_115 : Df d 192 115 [l0] [.int x] h nx = some (some (.int x), h, nx) := D_ireturn (ins_of mc_192 (pc := 115) (x := (.ireturn, 1)) (by decide +kernel)) mr_192
theorem e_192_116 : Df d 192 116 [l0] st h nx = Df d 192 118 [l0] (.int (-8) :: st) h nx := D_bipush (ins_of mc_192 (pc := 116) (x := (.bipush (-8), 2)) (by decide +kernel)) (by decide)
theorem e_192_118 : Df d 192 118 [l0] [.int x] h nx = some (some (.int x), h, nx) := D_ireturn (ins_of mc_192 (pc := 118) (x := (.ireturn, 1)) (by decide +kernel)) mr_192
theorem e_192_119 : Df d 192 119 [l0] st h nx = Df d 192 121 [l0] (.int (-9) :: st) h nx := D_bipush (ins_of mc_192 (pc := 119) (x := (.bipush (-9), 2)) (by decide +kernel)) (by decide)
theorem e_192_121 : Df d 192 121 [l0] [.int x] h nx = some (some (.int x), h, nx) := D_ireturn (ins_of mc_192 (pc := 121) (x := (.ireturn, 1)) (by decide +kernel)) mr_192
theorem e_192_122 : Df d 192 122 [l0] st h nx = Df d 192 123 [l0] (.int 0 :: st) h nx := D_iconst (ins_of mc_192 (pc := 122) (x := (.iconst 0, 1)) (by decide +kernel)) (by decide)
theorem e_192_123 : Df d 192 123 [l0] [.int x] h nx = some (some (.int x), h, nx) := D_ireturn (ins_of mc_192 (pc := 123) (x := (.ireturn, 1)) (by decide +kernel)) mr_192
theorem mc_193 : mC 193 = prog_11_method_70_code := rfl
theorem mo_193 : mO 193 = 9 := rfl
theorem ml_193 : mL 193 = 3 := rfl
theorem mr_193 : mR 193 = (some .int) := rfl
theorem ma_193 : mA 193 = 2 := rfl
theorem e_193_0 : Df d 193 0 [l0, .int x, l2] st h nx = Df d 193 1 [l0, .int x, l2] (.int x :: st) h nx := D_iload_n (ins_of mc_193 (pc := 0) (x := (.iload_n 1, 1)) (by decide +kernel)) rfl
theorem e_193_1 : Df d 193 1 [l0, l1, l2] st h nx = Df d 193 2 [l0, l1, l2] (.int 0 :: st) h nx := D_iconst (ins_of mc_193 (pc := 1) (x := (.iconst 0, 1)) (by decide +kernel)) (by decide)
theorem e_193_2 : Df d 193 2 [.ref a, l1, l2] st h nx = Df d 193 3 [.ref a, l1, l2] (.ref a :: st) h nx := D_aload_n (ins_of mc_193 (pc := 2) (x := (.aload_n 0, 1)) (by decide +kernel)) rfl
theorem e_193_3 : Df d 193 3 [l0, l1, l2] (.ref a :: st) h nx = (gF h a 9 0).bind fun v => Df d 193 6 [l0, l1, l2] (v :: st) h nx := D_getfield (ins_of mc_193 (pc := 3) (x := (.getfield 9, 3)) (by decide +kernel)) mo_193 (by decide +kernel)
theorem e_193_6 : Df d 193 6 [l0, l1, l2] st h nx = Df d 193 8 [l0, l1, l2] (.int 10 :: st) h nx := D_bipush (ins_of mc_193 (pc := 6) (x := (.bipush 10, 2)) (by decide +kernel)) (by decide)
theorem e_193_8 : Df d 193 8 [l0, l1, l2] (.int x :: .ref a :: st) h nx = (rX h a x).bind fun v => Df d 193 9 [l0, l1, l2] (.int v :: st) h nx := D_iaload (ins_of mc_193 (pc := 8) (x := (.iaload, 1)) (by decide +kernel))
theorem e_193_9 : Df d 193 9 [l0, l1, l2] st h nx = Df d 193 10 [l0, l1, l2] (.int 1 :: st) h nx := D_iconst (ins_of mc_193 (pc := 9) (x := (.iconst 1, 1)) (by decide +kernel)) (by decide)
theorem e_193_10 : Df d 193 10 [l0, l1, l2] (.int y :: .int x :: st) h nx = Df d 193 11 [l0, l1, l2] (.int (x - y) :: st) h nx := D_isub (ins_of mc_193 (pc := 10) (x := (.isub, 1)) (by decide +kernel))
theorem e_193_11 : Df d 193 11 [l0, l1, l2] [v2, v1, v0] h nx = cn d 193 14 [l0, l1, l2] [] (Dn d 123 [v0, v1, v2] h nx) := D_static (k1 := 123) (kd := 1) (ins_of mc_193 (pc := 11) (x := (.invokestatic 76, 3)) (by decide +kernel)) mo_193 (by decide +kernel) (by decide) rfl (Nat.le_of_ble_eq_true rfl) rfl (Nat.le_of_ble_eq_true rfl) rfl
theorem e_193_14 : Df d 193 14 [l0, l1, l2] (.int x :: st) h nx = if x = 0 then Df d 193 26 [l0, l1, l2] st h nx else Df d 193 17 [l0, l1, l2] st h nx := D_if_eq (ins_of mc_193 (pc := 14) (x := (.ifCond .eq 12, 3)) (by decide +kernel)) (by decide)
theorem e_193_17 : Df d 193 17 [l0, l1, .int x] st h nx = Df d 193 18 [l0, l1, .int x] (.int x :: st) h nx := D_iload_n (ins_of mc_193 (pc := 17) (x := (.iload_n 2, 1)) (by decide +kernel)) rfl
theorem e_193_18 : Df d 193 18 [l0, l1, l2] st h nx = Df d 193 19 [l0, l1, l2] (.int 0 :: st) h nx := D_iconst (ins_of mc_193 (pc := 18) (x := (.iconst 0, 1)) (by decide +kernel)) (by decide)
theorem e_193_19 : Df d 193 19 [l0, l1, l2] st h nx = Df d 193 20 [l0, l1, l2] (.int 1 :: st) h nx := D_iconst (ins_of mc_193 (pc := 19) (x := (.iconst 1, 1)) (by decide +kernel)) (by decide)
theorem e_193_20 : Df d 193 20 [l0, l1, l2] [v2, v1, v0] h nx = cn d 193 23 [l0, l1, l2] [] (Dn d 123 [v0, v1, v2] h nx) := D_static (k1 := 123) (kd := 1) (ins_of mc_193 (pc := 20) (x := (.invokestatic 76, 3)) (by decide +kernel)) mo_193 (by decide +kernel) (by decide) rfl (Nat.le_of_ble_eq_true rfl) rfl (Nat.le_of_ble_eq_true rfl) rfl
theorem e_193_23 : Df d 193 23 [l0, l1, l2] (.int x :: st) h nx = if x = 0 then Df d 193 26 [l0, l1, l2] st h nx else Df d 193 29 [l0, l1, l2] st h nx := D_if_ne (ins_of mc_193 (pc := 23) (x := (.ifCond .ne 6, 3)) (by decide +kernel)) (by decide)
theorem e_193_26 : Df d 193 26 [l0, l1, l2] st h nx = Df d 193 28 [l0, l1, l2] (.int (-1000000001) :: st) h nx := D_ldc (ins_of mc_193 (pc := 26) (x := (.ldc 88, 2)) (by decide +kernel)) mo_193 (by decide +kernel)
theorem e_193_28 : Df d 193 28 [l0, l1, l2] [.int x] h nx = some (some (.int x), h, nx) := D_ireturn (ins_of mc_193 (pc := 28) (x := (.ireturn, 1)) (by decide +kernel)) mr_193
theorem e_193_29 : Df d 193 29 [l0, l1, .int x] st h nx = Df d 193 30 [l0, l1, .int x] (.int x :: st) h nx := D_iload_n (ins_of mc_193 (pc := 29) (x := (.iload_n 2, 1)) (by decide +kernel)) rfl
theorem e_193_30 : Df d 193 30 [l0, l1, l2] (.int x :: st) h nx = if x = 0 then Df d 193 33 [l0, l1, l2] st h nx else Df d 193 51 [l0, l1, l2] st h nx := D_if_ne (ins_of mc_193 (pc := 30) (x := (.ifCond .ne 21, 3)) (by decide +kernel)) (by decide)
theorem e_193_33 : Df d 193 33 [.ref a, l1, l2] st h nx = Df d 193 34 [.ref a, l1, l2] (.ref a :: st) h nx := D_aload_n (ins_of mc_193 (pc := 33) (x := (.aload_n 0, 1)) (by decide +kernel)) rfl
theorem e_193_34 : Df d 193 34 [l0, l1, l2] (.ref a :: st) h nx = (gF h a 9 0).bind fun v => Df d 193 37 [l0, l1, l2] (v :: st) h nx := D_getfield (ins_of mc_193 (pc := 34) (x := (.getfield 9, 3)) (by decide +kernel)) mo_193 (by decide +kernel)
theorem e_193_37 : Df d 193 37 [l0, l1, l2] st h nx = Df d 193 39 [l0, l1, l2] (.int 95 :: st) h nx := D_bipush (ins_of mc_193 (pc := 37) (x := (.bipush 95, 2)) (by decide +kernel)) (by decide)
theorem e_193_39 : Df d 193 39 [l0, l1, l2] st h nx = Df d 193 40 [l0, l1, l2] (.int 2 :: st) h nx := D_iconst (ins_of mc_193 (pc := 39) (x := (.iconst 2, 1)) (by decide +kernel)) (by decide)
theorem e_193_40 : Df d 193 40 [l0, .int x, l2] st h nx = Df d 193 41 [l0, .int x, l2] (.int x :: st) h nx := D_iload_n (ins_of mc_193 (pc := 40) (x := (.iload_n 1, 1)) (by decide +kernel)) rfl
theorem e_193_41 : Df d 193 41 [l0, l1, l2] (.int y :: .int x :: st) h nx = Df d 193 42 [l0, l1, l2] (.int (x * y) :: st) h nx := D_imul (ins_of mc_193 (pc := 41) (x := (.imul, 1)) (by decide +kernel))
theorem e_193_42 : Df d 193 42 [l0, l1, l2] (.int y :: .int x :: st) h nx = Df d 193 43 [l0, l1, l2] (.int (x + y) :: st) h nx := D_iadd (ins_of mc_193 (pc := 42) (x := (.iadd, 1)) (by decide +kernel))
theorem e_193_43 : Df d 193 43 [l0, l1, l2] (.int x :: .ref a :: st) h nx = (rX h a x).bind fun v => Df d 193 44 [l0, l1, l2] (.int v :: st) h nx := D_iaload (ins_of mc_193 (pc := 43) (x := (.iaload, 1)) (by decide +kernel))
theorem e_193_44 : Df d 193 44 [l0, l1, l2] st h nx = Df d 193 47 [l0, l1, l2] (.int 1000 :: st) h nx := D_sipush (ins_of mc_193 (pc := 44) (x := (.sipush 1000, 3)) (by decide +kernel)) (by decide)
theorem e_193_47 : Df d 193 47 [l0, l1, l2] (.int y :: .int x :: st) h nx = if y = 0 then none else Df d 193 48 [l0, l1, l2] (.int (x / y) :: st) h nx := D_idiv (ins_of mc_193 (pc := 47) (x := (.idiv, 1)) (by decide +kernel))
theorem e_193_48 : Df d 193 48 [l0, l1, l2] st h nx = Df d 193 64 [l0, l1, l2] st h nx := D_goto (ins_of mc_193 (pc := 48) (x := (.goto 16, 3)) (by decide +kernel)) (by decide)
theorem e_193_51 : Df d 193 51 [.ref a, l1, l2] st h nx = Df d 193 52 [.ref a, l1, l2] (.ref a :: st) h nx := D_aload_n (ins_of mc_193 (pc := 51) (x := (.aload_n 0, 1)) (by decide +kernel)) rfl
theorem e_193_52 : Df d 193 52 [l0, l1, l2] (.ref a :: st) h nx = (gF h a 9 0).bind fun v => Df d 193 55 [l0, l1, l2] (v :: st) h nx := D_getfield (ins_of mc_193 (pc := 52) (x := (.getfield 9, 3)) (by decide +kernel)) mo_193 (by decide +kernel)
theorem e_193_55 : Df d 193 55 [l0, l1, l2] st h nx = Df d 193 57 [l0, l1, l2] (.int 95 :: st) h nx := D_bipush (ins_of mc_193 (pc := 55) (x := (.bipush 95, 2)) (by decide +kernel)) (by decide)
theorem e_193_57 : Df d 193 57 [l0, l1, l2] st h nx = Df d 193 58 [l0, l1, l2] (.int 2 :: st) h nx := D_iconst (ins_of mc_193 (pc := 57) (x := (.iconst 2, 1)) (by decide +kernel)) (by decide)
theorem e_193_58 : Df d 193 58 [l0, .int x, l2] st h nx = Df d 193 59 [l0, .int x, l2] (.int x :: st) h nx := D_iload_n (ins_of mc_193 (pc := 58) (x := (.iload_n 1, 1)) (by decide +kernel)) rfl
theorem e_193_59 : Df d 193 59 [l0, l1, l2] (.int y :: .int x :: st) h nx = Df d 193 60 [l0, l1, l2] (.int (x * y) :: st) h nx := D_imul (ins_of mc_193 (pc := 59) (x := (.imul, 1)) (by decide +kernel))
theorem e_193_60 : Df d 193 60 [l0, l1, l2] (.int y :: .int x :: st) h nx = Df d 193 61 [l0, l1, l2] (.int (x + y) :: st) h nx := D_iadd (ins_of mc_193 (pc := 60) (x := (.iadd, 1)) (by decide +kernel))
theorem e_193_61 : Df d 193 61 [l0, l1, l2] st h nx = Df d 193 62 [l0, l1, l2] (.int 1 :: st) h nx := D_iconst (ins_of mc_193 (pc := 61) (x := (.iconst 1, 1)) (by decide +kernel)) (by decide)
theorem e_193_62 : Df d 193 62 [l0, l1, l2] (.int y :: .int x :: st) h nx = Df d 193 63 [l0, l1, l2] (.int (x + y) :: st) h nx := D_iadd (ins_of mc_193 (pc := 62) (x := (.iadd, 1)) (by decide +kernel))
theorem e_193_63 : Df d 193 63 [l0, l1, l2] (.int x :: .ref a :: st) h nx = (rX h a x).bind fun v => Df d 193 64 [l0, l1, l2] (.int v :: st) h nx := D_iaload (ins_of mc_193 (pc := 63) (x := (.iaload, 1)) (by decide +kernel))
theorem e_193_64 : Df d 193 64 [l0, l1, l2] [.int x] h nx = some (some (.int x), h, nx) := D_ireturn (ins_of mc_193 (pc := 64) (x := (.ireturn, 1)) (by decide +kernel)) mr_193
theorem mc_194 : mC 194 = prog_11_method_72_code := rfl
theorem mo_194 : mO 194 = 9 := rfl
theorem ml_194 : mL 194 = 3 := rfl
theorem mr_194 : mR 194 = (some .int) := rfl
theorem ma_194 : mA 194 = 1 := rfl
theorem e_194_0 : Df d 194 0 [l0, .int x, l2] st h nx = Df d 194 1 [l0, .int x, l2] (.int x :: st) h nx := D_iload_n (ins_of mc_194 (pc := 0) (x := (.iload_n 1, 1)) (by decide +kernel)) rfl
theorem e_194_1 : Df d 194 1 [l0, l1, l2] st h nx = Df d 194 2 [l0, l1, l2] (.int 0 :: st) h nx := D_iconst (ins_of mc_194 (pc := 1) (x := (.iconst 0, 1)) (by decide +kernel)) (by decide)
theorem e_194_2 : Df d 194 2 [l0, l1, l2] st h nx = Df d 194 3 [l0, l1, l2] (.int 2 :: st) h nx := D_iconst (ins_of mc_194 (pc := 2) (x := (.iconst 2, 1)) (by decide +kernel)) (by decide)
theorem e_194_3 : Df d 194 3 [l0, l1, l2] [v2, v1, v0] h nx = cn d 194 6 [l0, l1, l2] [] (Dn d 123 [v0, v1, v2] h nx) := D_static (k1 := 123) (kd := 1) (ins_of mc_194 (pc := 3) (x := (.invokestatic 76, 3)) (by decide +kernel)) mo_194 (by decide +kernel) (by decide) rfl (Nat.le_of_ble_eq_true rfl) rfl (Nat.le_of_ble_eq_true rfl) rfl
theorem e_194_6 : Df d 194 6 [l0, l1, l2] (.int x :: st) h nx = if x = 0 then Df d 194 9 [l0, l1, l2] st h nx else Df d 194 12 [l0, l1, l2] st h nx := D_if_ne (ins_of mc_194 (pc := 6) (x := (.ifCond .ne 6, 3)) (by decide +kernel)) (by decide)
theorem e_194_9 : Df d 194 9 [l0, l1, l2] st h nx = Df d 194 11 [l0, l1, l2] (.int (-1000000001) :: st) h nx := D_ldc (ins_of mc_194 (pc := 9) (x := (.ldc 88, 2)) (by decide +kernel)) mo_194 (by decide +kernel)
theorem e_194_11 : Df d 194 11 [l0, l1, l2] [.int x] h nx = some (some (.int x), h, nx) := D_ireturn (ins_of mc_194 (pc := 11) (x := (.ireturn, 1)) (by decide +kernel)) mr_194
theorem e_194_12 : Df d 194 12 [.ref a, l1, l2] st h nx = Df d 194 13 [.ref a, l1, l2] (.ref a :: st) h nx := D_aload_n (ins_of mc_194 (pc := 12) (x := (.aload_n 0, 1)) (by decide +kernel)) rfl
theorem e_194_13 : Df d 194 13 [l0, .int x, l2] st h nx = Df d 194 14 [l0, .int x, l2] (.int x :: st) h nx := D_iload_n (ins_of mc_194 (pc := 13) (x := (.iload_n 1, 1)) (by decide +kernel)) rfl
theorem e_194_14 : Df d 194 14 [l0, l1, l2] [v0, .ref a] h nx = if ck h a 9 = true then cn d 194 17 [l0, l1, l2] [] (Dn d 130 [.ref a, v0] h nx) else none := D_virtual (k1 := 130) (ins_of mc_194 (pc := 14) (x := (.invokevirtual 94, 3)) (by decide +kernel)) mo_194 (by decide +kernel) (by decide) rfl rfl (by decide) rfl (Nat.le_of_ble_eq_true rfl) rfl
theorem e_194_17 (hn : nr l2 = true) : Df d 194 17 [l0, l1, l2] (.int x :: st) h nx = Df d 194 18 [l0, l1, .int x] st h nx := D_istore_n (ins_of mc_194 (pc := 17) (x := (.istore_n 2, 1)) (by decide +kernel)) rfl hn rfl
theorem e_194_18 : Df d 194 18 [l0, l1, .int x] st h nx = Df d 194 19 [l0, l1, .int x] (.int x :: st) h nx := D_iload_n (ins_of mc_194 (pc := 18) (x := (.iload_n 2, 1)) (by decide +kernel)) rfl
theorem e_194_19 : Df d 194 19 [l0, l1, l2] (.int x :: st) h nx = if 0 ≤ x then Df d 194 27 [l0, l1, l2] st h nx else Df d 194 22 [l0, l1, l2] st h nx := D_if_ge (ins_of mc_194 (pc := 19) (x := (.ifCond .ge 8, 3)) (by decide +kernel)) (by decide)
theorem e_194_22 : Df d 194 22 [l0, l1, l2] st h nx = Df d 194 24 [l0, l1, l2] (.int (-1000000005) :: st) h nx := D_ldc (ins_of mc_194 (pc := 22) (x := (.ldc 75, 2)) (by decide +kernel)) mo_194 (by decide +kernel)
theorem e_194_24 : Df d 194 24 [l0, l1, l2] st h nx = Df d 194 28 [l0, l1, l2] st h nx := D_goto (ins_of mc_194 (pc := 24) (x := (.goto 4, 3)) (by decide +kernel)) (by decide)
theorem e_194_27 : Df d 194 27 [l0, l1, .int x] st h nx = Df d 194 28 [l0, l1, .int x] (.int x :: st) h nx := D_iload_n (ins_of mc_194 (pc := 27) (x := (.iload_n 2, 1)) (by decide +kernel)) rfl
theorem e_194_28 : Df d 194 28 [l0, l1, l2] [.int x] h nx = some (some (.int x), h, nx) := D_ireturn (ins_of mc_194 (pc := 28) (x := (.ireturn, 1)) (by decide +kernel)) mr_194
theorem mc_195 : mC 195 = prog_11_method_77_code := rfl
theorem mo_195 : mO 195 = 9 := rfl
theorem ml_195 : mL 195 = 5 := rfl
theorem mr_195 : mR 195 = (some .int) := rfl
theorem ma_195 : mA 195 = 3 := rfl
theorem e_195_0 : Df d 195 0 [l0, .int x, l2, l3, l4] st h nx = Df d 195 1 [l0, .int x, l2, l3, l4] (.int x :: st) h nx := D_iload_n (ins_of mc_195 (pc := 0) (x := (.iload_n 1, 1)) (by decide +kernel)) rfl
theorem e_195_1 : Df d 195 1 [l0, l1, l2, l3, l4] [v0] h nx = cn d 195 4 [l0, l1, l2, l3, l4] [] (Dn d 175 [v0] h nx) := D_static (k1 := 175) (kd := 1) (ins_of mc_195 (pc := 1) (x := (.invokestatic 192, 3)) (by decide +kernel)) mo_195 (by decide +kernel) (by decide) rfl (Nat.le_of_ble_eq_true rfl) rfl (Nat.le_of_ble_eq_true rfl) rfl
theorem e_195_4 : Df d 195 4 [l0, l1, l2, l3, l4] (.int x :: st) h nx = if x = 0 then Df d 195 26 [l0, l1, l2, l3, l4] st h nx else Df d 195 7 [l0, l1, l2, l3, l4] st h nx := D_if_eq (ins_of mc_195 (pc := 4) (x := (.ifCond .eq 22, 3)) (by decide +kernel)) (by decide)
theorem e_195_7 : Df d 195 7 [l0, l1, .int x, l3, l4] st h nx = Df d 195 8 [l0, l1, .int x, l3, l4] (.int x :: st) h nx := D_iload_n (ins_of mc_195 (pc := 7) (x := (.iload_n 2, 1)) (by decide +kernel)) rfl
theorem e_195_8 : Df d 195 8 [l0, l1, l2, l3, l4] st h nx = Df d 195 9 [l0, l1, l2, l3, l4] (.int (-1) :: st) h nx := D_iconst (ins_of mc_195 (pc := 8) (x := (.iconst (-1), 1)) (by decide +kernel)) (by decide)
theorem e_195_9 : Df d 195 9 [l0, l1, l2, l3, l4] st h nx = Df d 195 10 [l0, l1, l2, l3, l4] (.int 1 :: st) h nx := D_iconst (ins_of mc_195 (pc := 9) (x := (.iconst 1, 1)) (by decide +kernel)) (by decide)
theorem e_195_10 : Df d 195 10 [l0, l1, l2, l3, l4] [v2, v1, v0] h nx = cn d 195 13 [l0, l1, l2, l3, l4] [] (Dn d 123 [v0, v1, v2] h nx) := D_static (k1 := 123) (kd := 1) (ins_of mc_195 (pc := 10) (x := (.invokestatic 76, 3)) (by decide +kernel)) mo_195 (by decide +kernel) (by decide) rfl (Nat.le_of_ble_eq_true rfl) rfl (Nat.le_of_ble_eq_true rfl) rfl
theorem e_195_13 : Df d 195 13 [l0, l1, l2, l3, l4] (.int x :: st) h nx = if x = 0 then Df d 195 26 [l0, l1, l2, l3, l4] st h nx else Df d 195 16 [l0, l1, l2, l3, l4] st h nx := D_if_eq (ins_of mc_195 (pc := 13) (x := (.ifCond .eq 13, 3)) (by decide +kernel)) (by decide)
theorem e_195_16 : Df d 195 16 [l0, l1, .int x, l3, l4] st h nx = Df d 195 17 [l0, l1, .int x, l3, l4] (.int x :: st) h nx := D_iload_n (ins_of mc_195 (pc := 16) (x := (.iload_n 2, 1)) (by decide +kernel)) rfl
theorem e_195_17 : Df d 195 17 [l0, l1, l2, l3, l4] (.int x :: st) h nx = if x < 0 then Df d 195 29 [l0, l1, l2, l3, l4] st h nx else Df d 195 20 [l0, l1, l2, l3, l4] st h nx := D_if_lt (ins_of mc_195 (pc := 17) (x := (.ifCond .lt 12, 3)) (by decide +kernel)) (by decide)
theorem e_195_20 : Df d 195 20 [l0, l1, l2, .int x, l4] st h nx = Df d 195 21 [l0, l1, l2, .int x, l4] (.int x :: st) h nx := D_iload_n (ins_of mc_195 (pc := 20) (x := (.iload_n 3, 1)) (by decide +kernel)) rfl
theorem e_195_21 : Df d 195 21 [l0, l1, l2, l3, l4] st h nx = Df d 195 23 [l0, l1, l2, l3, l4] (.int 24 :: st) h nx := D_bipush (ins_of mc_195 (pc := 21) (x := (.bipush 24, 2)) (by decide +kernel)) (by decide)
theorem e_195_23 : Df d 195 23 [l0, l1, l2, l3, l4] (.int y :: .int x :: st) h nx = if x ≤ y then Df d 195 29 [l0, l1, l2, l3, l4] st h nx else Df d 195 26 [l0, l1, l2, l3, l4] st h nx := D_icmp_le (ins_of mc_195 (pc := 23) (x := (.if_icmp .le 6, 3)) (by decide +kernel)) (by decide)
theorem e_195_26 : Df d 195 26 [l0, l1, l2, l3, l4] st h nx = Df d 195 28 [l0, l1, l2, l3, l4] (.int (-1000000001) :: st) h nx := D_ldc (ins_of mc_195 (pc := 26) (x := (.ldc 88, 2)) (by decide +kernel)) mo_195 (by decide +kernel)
theorem e_195_28 : Df d 195 28 [l0, l1, l2, l3, l4] [.int x] h nx = some (some (.int x), h, nx) := D_ireturn (ins_of mc_195 (pc := 28) (x := (.ireturn, 1)) (by decide +kernel)) mr_195
theorem e_195_29 : Df d 195 29 [l0, l1, .int x, l3, l4] st h nx = Df d 195 30 [l0, l1, .int x, l3, l4] (.int x :: st) h nx := D_iload_n (ins_of mc_195 (pc := 29) (x := (.iload_n 2, 1)) (by decide +kernel)) rfl
theorem e_195_30 : Df d 195 30 [l0, l1, l2, l3, l4] (.int x :: st) h nx = if x < 0 then Df d 195 41 [l0, l1, l2, l3, l4] st h nx else Df d 195 33 [l0, l1, l2, l3, l4] st h nx := D_if_lt (ins_of mc_195 (pc := 30) (x := (.ifCond .lt 11, 3)) (by decide +kernel)) (by decide)
theorem e_195_33 : Df d 195 33 [l0, l1, l2, .int x, l4] st h nx = Df d 195 34 [l0, l1, l2, .int x, l4] (.int x :: st) h nx := D_iload_n (ins_of mc_195 (pc := 33) (x := (.iload_n 3, 1)) (by decide +kernel)) rfl
theorem e_195_34 : Df d 195 34 [l0, l1, l2, l3, l4] (.int x :: st) h nx = if 0 ≤ x then Df d 195 41 [l0, l1, l2, l3, l4] st h nx else Df d 195 37 [l0, l1, l2, l3, l4] st h nx := D_if_ge (ins_of mc_195 (pc := 34) (x := (.ifCond .ge 7, 3)) (by decide +kernel)) (by decide)
theorem e_195_37 : Df d 195 37 [l0, l1, l2, l3, l4] st h nx = Df d 195 40 [l0, l1, l2, l3, l4] (.int (-1000000014) :: st) h nx := D_ldc_w (ins_of mc_195 (pc := 37) (x := (.ldc_w 268, 3)) (by decide +kernel)) mo_195 (by decide +kernel)
theorem e_195_40 : Df d 195 40 [l0, l1, l2, l3, l4] [.int x] h nx = some (some (.int x), h, nx) := D_ireturn (ins_of mc_195 (pc := 40) (x := (.ireturn, 1)) (by decide +kernel)) mr_195
theorem e_195_41 : Df d 195 41 [.ref a, l1, l2, l3, l4] st h nx = Df d 195 42 [.ref a, l1, l2, l3, l4] (.ref a :: st) h nx := D_aload_n (ins_of mc_195 (pc := 41) (x := (.aload_n 0, 1)) (by decide +kernel)) rfl
theorem e_195_42 : Df d 195 42 [l0, l1, l2, l3, l4] (.ref a :: st) h nx = (gF h a 9 24).bind fun v => Df d 195 45 [l0, l1, l2, l3, l4] (v :: st) h nx := D_getfield (ins_of mc_195 (pc := 42) (x := (.getfield 48, 3)) (by decide +kernel)) mo_195 (by decide +kernel)
theorem e_195_45 : Df d 195 45 [l0, .int x, l2, l3, l4] st h nx = Df d 195 46 [l0, .int x, l2, l3, l4] (.int x :: st) h nx := D_iload_n (ins_of mc_195 (pc := 45) (x := (.iload_n 1, 1)) (by decide +kernel)) rfl
theorem e_195_46 : Df d 195 46 [l0, l1, .int x, l3, l4] st h nx = Df d 195 47 [l0, l1, .int x, l3, l4] (.int x :: st) h nx := D_iload_n (ins_of mc_195 (pc := 46) (x := (.iload_n 2, 1)) (by decide +kernel)) rfl
theorem e_195_47 : Df d 195 47 [l0, l1, l2, l3, l4] (.int y :: .int x :: .ref a :: st) h nx = (wI h a x 0 y).bind fun h => Df d 195 48 [l0, l1, l2, l3, l4] st h nx := D_iastore (ins_of mc_195 (pc := 47) (x := (.iastore, 1)) (by decide +kernel))
theorem e_195_48 : Df d 195 48 [.ref a, l1, l2, l3, l4] st h nx = Df d 195 49 [.ref a, l1, l2, l3, l4] (.ref a :: st) h nx := D_aload_n (ins_of mc_195 (pc := 48) (x := (.aload_n 0, 1)) (by decide +kernel)) rfl
theorem e_195_49 : Df d 195 49 [l0, l1, l2, l3, l4] (.ref a :: st) h nx = (gF h a 9 25).bind fun v => Df d 195 52 [l0, l1, l2, l3, l4] (v :: st) h nx := D_getfield (ins_of mc_195 (pc := 49) (x := (.getfield 51, 3)) (by decide +kernel)) mo_195 (by decide +kernel)
theorem e_195_52 : Df d 195 52 [l0, .int x, l2, l3, l4] st h nx = Df d 195 53 [l0, .int x, l2, l3, l4] (.int x :: st) h nx := D_iload_n (ins_of mc_195 (pc := 52) (x := (.iload_n 1, 1)) (by decide +kernel)) rfl
theorem e_195_53 : Df d 195 53 [l0, l1, .int x, l3, l4] st h nx = Df d 195 54 [l0, l1, .int x, l3, l4] (.int x :: st) h nx := D_iload_n (ins_of mc_195 (pc := 53) (x := (.iload_n 2, 1)) (by decide +kernel)) rfl
theorem e_195_54 : Df d 195 54 [l0, l1, l2, l3, l4] (.int x :: st) h nx = if 0 ≤ x then Df d 195 61 [l0, l1, l2, l3, l4] st h nx else Df d 195 57 [l0, l1, l2, l3, l4] st h nx := D_if_ge (ins_of mc_195 (pc := 54) (x := (.ifCond .ge 7, 3)) (by decide +kernel)) (by decide)
theorem e_195_57 : Df d 195 57 [l0, l1, l2, l3, l4] st h nx = Df d 195 58 [l0, l1, l2, l3, l4] (.int 0 :: st) h nx := D_iconst (ins_of mc_195 (pc := 57) (x := (.iconst 0, 1)) (by decide +kernel)) (by decide)
theorem e_195_58 : Df d 195 58 [l0, l1, l2, l3, l4] st h nx = Df d 195 62 [l0, l1, l2, l3, l4] st h nx := D_goto (ins_of mc_195 (pc := 58) (x := (.goto 4, 3)) (by decide +kernel)) (by decide)
theorem e_195_61 : Df d 195 61 [l0, l1, l2, .int x, l4] st h nx = Df d 195 62 [l0, l1, l2, .int x, l4] (.int x :: st) h nx := D_iload_n (ins_of mc_195 (pc := 61) (x := (.iload_n 3, 1)) (by decide +kernel)) rfl
theorem e_195_62 : Df d 195 62 [l0, l1, l2, l3, l4] (.int y :: .int x :: .ref a :: st) h nx = (wI h a x 0 y).bind fun h => Df d 195 63 [l0, l1, l2, l3, l4] st h nx := D_iastore (ins_of mc_195 (pc := 62) (x := (.iastore, 1)) (by decide +kernel))
theorem e_195_63 : Df d 195 63 [l0, l1, l2, l3, l4] st h nx = Df d 195 64 [l0, l1, l2, l3, l4] (.int 0 :: st) h nx := D_iconst (ins_of mc_195 (pc := 63) (x := (.iconst 0, 1)) (by decide +kernel)) (by decide)
theorem e_195_64 (hn : nr l4 = true) : Df d 195 64 [l0, l1, l2, l3, l4] (.int x :: st) h nx = Df d 195 66 [l0, l1, l2, l3, .int x] st h nx := D_istore (ins_of mc_195 (pc := 64) (x := (.istore 4, 2)) (by decide +kernel)) rfl hn rfl
theorem e_195_66 : Df d 195 66 [l0, l1, l2, l3, .int x] st h nx = Df d 195 68 [l0, l1, l2, l3, .int x] (.int x :: st) h nx := D_iload (ins_of mc_195 (pc := 66) (x := (.iload 4, 2)) (by decide +kernel)) rfl
theorem e_195_68 : Df d 195 68 [l0, l1, l2, l3, l4] st h nx = Df d 195 70 [l0, l1, l2, l3, l4] (.int 24 :: st) h nx := D_bipush (ins_of mc_195 (pc := 68) (x := (.bipush 24, 2)) (by decide +kernel)) (by decide)
theorem e_195_70 : Df d 195 70 [l0, l1, l2, l3, l4] (.int y :: .int x :: st) h nx = if y ≤ x then Df d 195 92 [l0, l1, l2, l3, l4] st h nx else Df d 195 73 [l0, l1, l2, l3, l4] st h nx := D_icmp_ge (ins_of mc_195 (pc := 70) (x := (.if_icmp .ge 22, 3)) (by decide +kernel)) (by decide)
theorem e_195_73 : Df d 195 73 [.ref a, l1, l2, l3, l4] st h nx = Df d 195 74 [.ref a, l1, l2, l3, l4] (.ref a :: st) h nx := D_aload_n (ins_of mc_195 (pc := 73) (x := (.aload_n 0, 1)) (by decide +kernel)) rfl
theorem e_195_74 : Df d 195 74 [l0, l1, l2, l3, l4] (.ref a :: st) h nx = (gF h a 9 26).bind fun v => Df d 195 77 [l0, l1, l2, l3, l4] (v :: st) h nx := D_getfield (ins_of mc_195 (pc := 74) (x := (.getfield 54, 3)) (by decide +kernel)) mo_195 (by decide +kernel)
theorem e_195_77 : Df d 195 77 [l0, l1, l2, l3, l4] st h nx = Df d 195 79 [l0, l1, l2, l3, l4] (.int 24 :: st) h nx := D_bipush (ins_of mc_195 (pc := 77) (x := (.bipush 24, 2)) (by decide +kernel)) (by decide)
theorem e_195_79 : Df d 195 79 [l0, .int x, l2, l3, l4] st h nx = Df d 195 80 [l0, .int x, l2, l3, l4] (.int x :: st) h nx := D_iload_n (ins_of mc_195 (pc := 79) (x := (.iload_n 1, 1)) (by decide +kernel)) rfl
theorem e_195_80 : Df d 195 80 [l0, l1, l2, l3, l4] (.int y :: .int x :: st) h nx = Df d 195 81 [l0, l1, l2, l3, l4] (.int (x * y) :: st) h nx := D_imul (ins_of mc_195 (pc := 80) (x := (.imul, 1)) (by decide +kernel))
theorem e_195_81 : Df d 195 81 [l0, l1, l2, l3, .int x] st h nx = Df d 195 83 [l0, l1, l2, l3, .int x] (.int x :: st) h nx := D_iload (ins_of mc_195 (pc := 81) (x := (.iload 4, 2)) (by decide +kernel)) rfl
theorem e_195_83 : Df d 195 83 [l0, l1, l2, l3, l4] (.int y :: .int x :: st) h nx = Df d 195 84 [l0, l1, l2, l3, l4] (.int (x + y) :: st) h nx := D_iadd (ins_of mc_195 (pc := 83) (x := (.iadd, 1)) (by decide +kernel))
theorem e_195_84 : Df d 195 84 [l0, l1, l2, l3, l4] st h nx = Df d 195 85 [l0, l1, l2, l3, l4] (.int 0 :: st) h nx := D_iconst (ins_of mc_195 (pc := 84) (x := (.iconst 0, 1)) (by decide +kernel)) (by decide)
theorem e_195_85 : Df d 195 85 [l0, l1, l2, l3, l4] (.int y :: .int x :: .ref a :: st) h nx = (wI h a x 0 y).bind fun h => Df d 195 86 [l0, l1, l2, l3, l4] st h nx := D_iastore (ins_of mc_195 (pc := 85) (x := (.iastore, 1)) (by decide +kernel))
theorem e_195_86 : Df d 195 86 [l0, l1, l2, l3, .int x] st h nx = Df d 195 89 [l0, l1, l2, l3, .int (x + 1)] st h nx := D_iinc (ins_of mc_195 (pc := 86) (x := (.iinc 4 1, 3)) (by decide +kernel)) rfl (by decide) rfl
theorem e_195_89 : Df d 195 89 [l0, l1, l2, l3, l4] st h nx = Df d 195 66 [l0, l1, l2, l3, l4] st h nx := D_goto (ins_of mc_195 (pc := 89) (x := (.goto (-23), 3)) (by decide +kernel)) (by decide)
theorem e_195_92 : Df d 195 92 [.ref a, l1, l2, l3, l4] st h nx = Df d 195 93 [.ref a, l1, l2, l3, l4] (.ref a :: st) h nx := D_aload_n (ins_of mc_195 (pc := 92) (x := (.aload_n 0, 1)) (by decide +kernel)) rfl
theorem e_195_93 : Df d 195 93 [l0, l1, l2, l3, l4] (.ref a :: st) h nx = (gF h a 9 25).bind fun v => Df d 195 96 [l0, l1, l2, l3, l4] (v :: st) h nx := D_getfield (ins_of mc_195 (pc := 93) (x := (.getfield 51, 3)) (by decide +kernel)) mo_195 (by decide +kernel)
theorem e_195_96 : Df d 195 96 [l0, .int x, l2, l3, l4] st h nx = Df d 195 97 [l0, .int x, l2, l3, l4] (.int x :: st) h nx := D_iload_n (ins_of mc_195 (pc := 96) (x := (.iload_n 1, 1)) (by decide +kernel)) rfl
theorem e_195_97 : Df d 195 97 [l0, l1, l2, l3, l4] (.int x :: .ref a :: st) h nx = (rX h a x).bind fun v => Df d 195 98 [l0, l1, l2, l3, l4] (.int v :: st) h nx := D_iaload (ins_of mc_195 (pc := 97) (x := (.iaload, 1)) (by decide +kernel))
theorem e_195_98 : Df d 195 98 [l0, l1, l2, l3, l4] [.int x] h nx = some (some (.int x), h, nx) := D_ireturn (ins_of mc_195 (pc := 98) (x := (.ireturn, 1)) (by decide +kernel)) mr_195
theorem mc_196 : mC 196 = prog_11_method_78_code := rfl
theorem mo_196 : mO 196 = 9 := rfl
theorem ml_196 : mL 196 = 4 := rfl
theorem mr_196 : mR 196 = (some .int) := rfl
theorem ma_196 : mA 196 = 3 := rfl
theorem e_196_0 : Df d 196 0 [l0, .int x, l2, l3] st h nx = Df d 196 1 [l0, .int x, l2, l3] (.int x :: st) h nx := D_iload_n (ins_of mc_196 (pc := 0) (x := (.iload_n 1, 1)) (by decide +kernel)) rfl
theorem e_196_1 : Df d 196 1 [l0, l1, l2, l3] [v0] h nx = cn d 196 4 [l0, l1, l2, l3] [] (Dn d 175 [v0] h nx) := D_static (k1 := 175) (kd := 1) (ins_of mc_196 (pc := 1) (x := (.invokestatic 192, 3)) (by decide +kernel)) mo_196 (by decide +kernel) (by decide) rfl (Nat.le_of_ble_eq_true rfl) rfl (Nat.le_of_ble_eq_true rfl) rfl
theorem e_196_4 : Df d 196 4 [l0, l1, l2, l3] (.int x :: st) h nx = if x = 0 then Df d 196 7 [l0, l1, l2, l3] st h nx else Df d 196 10 [l0, l1, l2, l3] st h nx := D_if_ne (ins_of mc_196 (pc := 4) (x := (.ifCond .ne 6, 3)) (by decide +kernel)) (by decide)
theorem e_196_7 : Df d 196 7 [l0, l1, l2, l3] st h nx = Df d 196 9 [l0, l1, l2, l3] (.int (-1000000001) :: st) h nx := D_ldc (ins_of mc_196 (pc := 7) (x := (.ldc 88, 2)) (by decide +kernel)) mo_196 (by decide +kernel)
theorem e_196_9 : Df d 196 9 [l0, l1, l2, l3] [.int x] h nx = some (some (.int x), h, nx) := D_ireturn (ins_of mc_196 (pc := 9) (x := (.ireturn, 1)) (by decide +kernel)) mr_196
theorem e_196_10 : Df d 196 10 [.ref a, l1, l2, l3] st h nx = Df d 196 11 [.ref a, l1, l2, l3] (.ref a :: st) h nx := D_aload_n (ins_of mc_196 (pc := 10) (x := (.aload_n 0, 1)) (by decide +kernel)) rfl
theorem e_196_11 : Df d 196 11 [l0, l1, l2, l3] (.ref a :: st) h nx = (gF h a 9 24).bind fun v => Df d 196 14 [l0, l1, l2, l3] (v :: st) h nx := D_getfield (ins_of mc_196 (pc := 11) (x := (.getfield 48, 3)) (by decide +kernel)) mo_196 (by decide +kernel)
theorem e_196_14 : Df d 196 14 [l0, .int x, l2, l3] st h nx = Df d 196 15 [l0, .int x, l2, l3] (.int x :: st) h nx := D_iload_n (ins_of mc_196 (pc := 14) (x := (.iload_n 1, 1)) (by decide +kernel)) rfl
theorem e_196_15 : Df d 196 15 [l0, l1, l2, l3] (.int x :: .ref a :: st) h nx = (rX h a x).bind fun v => Df d 196 16 [l0, l1, l2, l3] (.int v :: st) h nx := D_iaload (ins_of mc_196 (pc := 15) (x := (.iaload, 1)) (by decide +kernel))
theorem e_196_16 : Df d 196 16 [l0, l1, l2, l3] (.int x :: st) h nx = if 0 ≤ x then Df d 196 22 [l0, l1, l2, l3] st h nx else Df d 196 19 [l0, l1, l2, l3] st h nx := D_if_ge (ins_of mc_196 (pc := 16) (x := (.ifCond .ge 6, 3)) (by decide +kernel)) (by decide)
theorem e_196_19 : Df d 196 19 [l0, l1, l2, l3] st h nx = Df d 196 21 [l0, l1, l2, l3] (.int (-1000000011) :: st) h nx := D_ldc (ins_of mc_196 (pc := 19) (x := (.ldc 195, 2)) (by decide +kernel)) mo_196 (by decide +kernel)
theorem e_196_21 : Df d 196 21 [l0, l1, l2, l3] [.int x] h nx = some (some (.int x), h, nx) := D_ireturn (ins_of mc_196 (pc := 21) (x := (.ireturn, 1)) (by decide +kernel)) mr_196
theorem e_196_22 : Df d 196 22 [l0, l1, .int x, l3] st h nx = Df d 196 23 [l0, l1, .int x, l3] (.int x :: st) h nx := D_iload_n (ins_of mc_196 (pc := 22) (x := (.iload_n 2, 1)) (by decide +kernel)) rfl
theorem e_196_23 : Df d 196 23 [l0, l1, l2, l3] st h nx = Df d 196 24 [l0, l1, l2, l3] (.int 0 :: st) h nx := D_iconst (ins_of mc_196 (pc := 23) (x := (.iconst 0, 1)) (by decide +kernel)) (by decide)
theorem e_196_24 : Df d 196 24 [.ref a, l1, l2, l3] st h nx = Df d 196 25 [.ref a, l1, l2, l3] (.ref a :: st) h nx := D_aload_n (ins_of mc_196 (pc := 24) (x := (.aload_n 0, 1)) (by decide +kernel)) rfl
theorem e_196_25 : Df d 196 25 [l0, l1, l2, l3] (.ref a :: st) h nx = (gF h a 9 25).bind fun v => Df d 196 28 [l0, l1, l2, l3] (v :: st) h nx := D_getfield (ins_of mc_196 (pc := 25) (x := (.getfield 51, 3)) (by decide +kernel)) mo_196 (by decide +kernel)
theorem e_196_28 : Df d 196 28 [l0, .int x, l2, l3] st h nx = Df d 196 29 [l0, .int x, l2, l3] (.int x :: st) h nx := D_iload_n (ins_of mc_196 (pc := 28) (x := (.iload_n 1, 1)) (by decide +kernel)) rfl
theorem e_196_29 : Df d 196 29 [l0, l1, l2, l3] (.int x :: .ref a :: st) h nx = (rX h a x).bind fun v => Df d 196 30 [l0, l1, l2, l3] (.int v :: st) h nx := D_iaload (ins_of mc_196 (pc := 29) (x := (.iaload, 1)) (by decide +kernel))
theorem e_196_30 : Df d 196 30 [l0, l1, l2, l3] st h nx = Df d 196 31 [l0, l1, l2, l3] (.int 1 :: st) h nx := D_iconst (ins_of mc_196 (pc := 30) (x := (.iconst 1, 1)) (by decide +kernel)) (by decide)
theorem e_196_31 : Df d 196 31 [l0, l1, l2, l3] (.int y :: .int x :: st) h nx = Df d 196 32 [l0, l1, l2, l3] (.int (x - y) :: st) h nx := D_isub (ins_of mc_196 (pc := 31) (x := (.isub, 1)) (by decide +kernel))
theorem e_196_32 : Df d 196 32 [l0, l1, l2, l3] [v2, v1, v0] h nx = cn d 196 35 [l0, l1, l2, l3] [] (Dn d 123 [v0, v1, v2] h nx) := D_static (k1 := 123) (kd := 1) (ins_of mc_196 (pc := 32) (x := (.invokestatic 76, 3)) (by decide +kernel)) mo_196 (by decide +kernel) (by decide) rfl (Nat.le_of_ble_eq_true rfl) rfl (Nat.le_of_ble_eq_true rfl) rfl
theorem e_196_35 : Df d 196 35 [l0, l1, l2, l3] (.int x :: st) h nx = if x = 0 then Df d 196 38 [l0, l1, l2, l3] st h nx else Df d 196 42 [l0, l1, l2, l3] st h nx := D_if_ne (ins_of mc_196 (pc := 35) (x := (.ifCond .ne 7, 3)) (by decide +kernel)) (by decide)
theorem e_196_38 : Df d 196 38 [l0, l1, l2, l3] st h nx = Df d 196 41 [l0, l1, l2, l3] (.int (-1000000013) :: st) h nx := D_ldc_w (ins_of mc_196 (pc := 38) (x := (.ldc_w 269, 3)) (by decide +kernel)) mo_196 (by decide +kernel)
theorem e_196_41 : Df d 196 41 [l0, l1, l2, l3] [.int x] h nx = some (some (.int x), h, nx) := D_ireturn (ins_of mc_196 (pc := 41) (x := (.ireturn, 1)) (by decide +kernel)) mr_196
theorem e_196_42 : Df d 196 42 [.ref a, l1, l2, l3] st h nx = Df d 196 43 [.ref a, l1, l2, l3] (.ref a :: st) h nx := D_aload_n (ins_of mc_196 (pc := 42) (x := (.aload_n 0, 1)) (by decide +kernel)) rfl
theorem e_196_43 : Df d 196 43 [l0, l1, l2, l3] (.ref a :: st) h nx = (gF h a 9 24).bind fun v => Df d 196 46 [l0, l1, l2, l3] (v :: st) h nx := D_getfield (ins_of mc_196 (pc := 43) (x := (.getfield 48, 3)) (by decide +kernel)) mo_196 (by decide +kernel)
theorem e_196_46 : Df d 196 46 [l0, .int x, l2, l3] st h nx = Df d 196 47 [l0, .int x, l2, l3] (.int x :: st) h nx := D_iload_n (ins_of mc_196 (pc := 46) (x := (.iload_n 1, 1)) (by decide +kernel)) rfl
theorem e_196_47 : Df d 196 47 [l0, l1, l2, l3] (.int x :: .ref a :: st) h nx = (rX h a x).bind fun v => Df d 196 48 [l0, l1, l2, l3] (.int v :: st) h nx := D_iaload (ins_of mc_196 (pc := 47) (x := (.iaload, 1)) (by decide +kernel))
theorem e_196_48 : Df d 196 48 [l0, l1, l2, l3] (.int x :: st) h nx = if x = 0 then Df d 196 51 [l0, l1, l2, l3] st h nx else Df d 196 60 [l0, l1, l2, l3] st h nx := D_if_ne (ins_of mc_196 (pc := 48) (x := (.ifCond .ne 12, 3)) (by decide +kernel)) (by decide)
theorem e_196_51 : Df d 196 51 [l0, l1, l2, .int x] st h nx = Df d 196 52 [l0, l1, l2, .int x] (.int x :: st) h nx := D_iload_n (ins_of mc_196 (pc := 51) (x := (.iload_n 3, 1)) (by decide +kernel)) rfl
theorem e_196_52 : Df d 196 52 [l0, l1, l2, l3] st h nx = Df d 196 54 [l0, l1, l2, l3] (.int (-1000000005) :: st) h nx := D_ldc (ins_of mc_196 (pc := 52) (x := (.ldc 75, 2)) (by decide +kernel)) mo_196 (by decide +kernel)
theorem e_196_54 : Df d 196 54 [l0, l1, l2, l3] (.int y :: .int x :: st) h nx = if x = y then Df d 196 57 [l0, l1, l2, l3] st h nx else Df d 196 60 [l0, l1, l2, l3] st h nx := D_icmp_ne (ins_of mc_196 (pc := 54) (x := (.if_icmp .ne 6, 3)) (by decide +kernel)) (by decide)
theorem e_196_57 : Df d 196 57 [l0, l1, l2, l3] st h nx = Df d 196 59 [l0, l1, l2, l3] (.int (-1000000012) :: st) h nx := D_ldc (ins_of mc_196 (pc := 57) (x := (.ldc 131, 2)) (by decide +kernel)) mo_196 (by decide +kernel)
theorem e_196_59 : Df d 196 59 [l0, l1, l2, l3] [.int x] h nx = some (some (.int x), h, nx) := D_ireturn (ins_of mc_196 (pc := 59) (x := (.ireturn, 1)) (by decide +kernel)) mr_196
theorem e_196_60 : Df d 196 60 [.ref a, l1, l2, l3] st h nx = Df d 196 61 [.ref a, l1, l2, l3] (.ref a :: st) h nx := D_aload_n (ins_of mc_196 (pc := 60) (x := (.aload_n 0, 1)) (by decide +kernel)) rfl
theorem e_196_61 : Df d 196 61 [l0, l1, l2, l3] (.ref a :: st) h nx = (gF h a 9 24).bind fun v => Df d 196 64 [l0, l1, l2, l3] (v :: st) h nx := D_getfield (ins_of mc_196 (pc := 61) (x := (.getfield 48, 3)) (by decide +kernel)) mo_196 (by decide +kernel)
theorem e_196_64 : Df d 196 64 [l0, .int x, l2, l3] st h nx = Df d 196 65 [l0, .int x, l2, l3] (.int x :: st) h nx := D_iload_n (ins_of mc_196 (pc := 64) (x := (.iload_n 1, 1)) (by decide +kernel)) rfl
theorem e_196_65 : Df d 196 65 [l0, l1, l2, l3] (.int x :: .ref a :: st) h nx = (rX h a x).bind fun v => Df d 196 66 [l0, l1, l2, l3] (.int v :: st) h nx := D_iaload (ins_of mc_196 (pc := 65) (x := (.iaload, 1)) (by decide +kernel))
theorem e_196_66 : Df d 196 66 [l0, l1, l2, l3] st h nx = Df d 196 67 [l0, l1, l2, l3] (.int 1 :: st) h nx := D_iconst (ins_of mc_196 (pc := 66) (x := (.iconst 1, 1)) (by decide +kernel)) (by decide)
theorem e_196_67 : Df d 196 67 [l0, l1, l2, l3] (.int y :: .int x :: st) h nx = if x = y then Df d 196 70 [l0, l1, l2, l3] st h nx else Df d 196 92 [l0, l1, l2, l3] st h nx := D_icmp_ne (ins_of mc_196 (pc := 67) (x := (.if_icmp .ne 25, 3)) (by decide +kernel)) (by decide)
theorem e_196_70 : Df d 196 70 [l0, l1, l2, .int x] st h nx = Df d 196 71 [l0, l1, l2, .int x] (.int x :: st) h nx := D_iload_n (ins_of mc_196 (pc := 70) (x := (.iload_n 3, 1)) (by decide +kernel)) rfl
theorem e_196_71 : Df d 196 71 [l0, l1, l2, l3] st h nx = Df d 196 73 [l0, l1, l2, l3] (.int (-1000000005) :: st) h nx := D_ldc (ins_of mc_196 (pc := 71) (x := (.ldc 75, 2)) (by decide +kernel)) mo_196 (by decide +kernel)
theorem e_196_73 : Df d 196 73 [l0, l1, l2, l3] (.int y :: .int x :: st) h nx = if x = y then Df d 196 92 [l0, l1, l2, l3] st h nx else Df d 196 76 [l0, l1, l2, l3] st h nx := D_icmp_eq (ins_of mc_196 (pc := 73) (x := (.if_icmp .eq 19, 3)) (by decide +kernel)) (by decide)
theorem e_196_76 : Df d 196 76 [l0, l1, l2, .int x] st h nx = Df d 196 77 [l0, l1, l2, .int x] (.int x :: st) h nx := D_iload_n (ins_of mc_196 (pc := 76) (x := (.iload_n 3, 1)) (by decide +kernel)) rfl
theorem e_196_77 : Df d 196 77 [l0, l1, l2, l3] st h nx = Df d 196 80 [l0, l1, l2, l3] (.int (-99999) :: st) h nx := D_ldc_w (ins_of mc_196 (pc := 77) (x := (.ldc_w 270, 3)) (by decide +kernel)) mo_196 (by decide +kernel)
theorem e_196_80 : Df d 196 80 [l0, l1, l2, l3] st h nx = Df d 196 83 [l0, l1, l2, l3] (.int 99999 :: st) h nx := D_ldc_w (ins_of mc_196 (pc := 80) (x := (.ldc_w 271, 3)) (by decide +kernel)) mo_196 (by decide +kernel)
theorem e_196_83 : Df d 196 83 [l0, l1, l2, l3] [v2, v1, v0] h nx = cn d 196 86 [l0, l1, l2, l3] [] (Dn d 123 [v0, v1, v2] h nx) := D_static (k1 := 123) (kd := 1) (ins_of mc_196 (pc := 83) (x := (.invokestatic 76, 3)) (by decide +kernel)) mo_196 (by decide +kernel) (by decide) rfl (Nat.le_of_ble_eq_true rfl) rfl (Nat.le_of_ble_eq_true rfl) rfl
theorem e_196_86 : Df d 196 86 [l0, l1, l2, l3] (.int x :: st) h nx = if x = 0 then Df d 196 89 [l0, l1, l2, l3] st h nx else Df d 196 92 [l0, l1, l2, l3] st h nx := D_if_ne (ins_of mc_196 (pc := 86) (x := (.ifCond .ne 6, 3)) (by decide +kernel)) (by decide)
theorem e_196_89 : Df d 196 89 [l0, l1, l2, l3] st h nx = Df d 196 91 [l0, l1, l2, l3] (.int (-1000000001) :: st) h nx := D_ldc (ins_of mc_196 (pc := 89) (x := (.ldc 88, 2)) (by decide +kernel)) mo_196 (by decide +kernel)
theorem e_196_91 : Df d 196 91 [l0, l1, l2, l3] [.int x] h nx = some (some (.int x), h, nx) := D_ireturn (ins_of mc_196 (pc := 91) (x := (.ireturn, 1)) (by decide +kernel)) mr_196
theorem e_196_92 : Df d 196 92 [.ref a, l1, l2, l3] st h nx = Df d 196 93 [.ref a, l1, l2, l3] (.ref a :: st) h nx := D_aload_n (ins_of mc_196 (pc := 92) (x := (.aload_n 0, 1)) (by decide +kernel)) rfl
theorem e_196_93 : Df d 196 93 [l0, l1, l2, l3] (.ref a :: st) h nx = (gF h a 9 26).bind fun v => Df d 196 96 [l0, l1, l2, l3] (v :: st) h nx := D_getfield (ins_of mc_196 (pc := 93) (x := (.getfield 54, 3)) (by decide +kernel)) mo_196 (by decide +kernel)
theorem e_196_96 : Df d 196 96 [l0, l1, l2, l3] st h nx = Df d 196 98 [l0, l1, l2, l3] (.int 24 :: st) h nx := D_bipush (ins_of mc_196 (pc := 96) (x := (.bipush 24, 2)) (by decide +kernel)) (by decide)
theorem e_196_98 : Df d 196 98 [l0, .int x, l2, l3] st h nx = Df d 196 99 [l0, .int x, l2, l3] (.int x :: st) h nx := D_iload_n (ins_of mc_196 (pc := 98) (x := (.iload_n 1, 1)) (by decide +kernel)) rfl
theorem e_196_99 : Df d 196 99 [l0, l1, l2, l3] (.int y :: .int x :: st) h nx = Df d 196 100 [l0, l1, l2, l3] (.int (x * y) :: st) h nx := D_imul (ins_of mc_196 (pc := 99) (x := (.imul, 1)) (by decide +kernel))
theorem e_196_100 : Df d 196 100 [l0, l1, .int x, l3] st h nx = Df d 196 101 [l0, l1, .int x, l3] (.int x :: st) h nx := D_iload_n (ins_of mc_196 (pc := 100) (x := (.iload_n 2, 1)) (by decide +kernel)) rfl
theorem e_196_101 : Df d 196 101 [l0, l1, l2, l3] (.int y :: .int x :: st) h nx = Df d 196 102 [l0, l1, l2, l3] (.int (x + y) :: st) h nx := D_iadd (ins_of mc_196 (pc := 101) (x := (.iadd, 1)) (by decide +kernel))
theorem e_196_102 : Df d 196 102 [.ref a, l1, l2, l3] st h nx = Df d 196 103 [.ref a, l1, l2, l3] (.ref a :: st) h nx := D_aload_n (ins_of mc_196 (pc := 102) (x := (.aload_n 0, 1)) (by decide +kernel)) rfl
theorem e_196_103 : Df d 196 103 [l0, l1, l2, l3] (.ref a :: st) h nx = (gF h a 9 24).bind fun v => Df d 196 106 [l0, l1, l2, l3] (v :: st) h nx := D_getfield (ins_of mc_196 (pc := 103) (x := (.getfield 48, 3)) (by decide +kernel)) mo_196 (by decide +kernel)
theorem e_196_106 : Df d 196 106 [l0, .int x, l2, l3] st h nx = Df d 196 107 [l0, .int x, l2, l3] (.int x :: st) h nx := D_iload_n (ins_of mc_196 (pc := 106) (x := (.iload_n 1, 1)) (by decide +kernel)) rfl
theorem e_196_107 : Df d 196 107 [l0, l1, l2, l3] (.int x :: .ref a :: st) h nx = (rX h a x).bind fun v => Df d 196 108 [l0, l1, l2, l3] (.int v :: st) h nx := D_iaload (ins_of mc_196 (pc := 107) (x := (.iaload, 1)) (by decide +kernel))
theorem e_196_108 : Df d 196 108 [l0, l1, l2, l3] (.int x :: st) h nx = if x = 0 then Df d 196 111 [l0, l1, l2, l3] st h nx else Df d 196 116 [l0, l1, l2, l3] st h nx := D_if_ne (ins_of mc_196 (pc := 108) (x := (.ifCond .ne 8, 3)) (by decide +kernel)) (by decide)
theorem e_196_111 : Df d 196 111 [l0, l1, l2, .int x] st h nx = Df d 196 112 [l0, l1, l2, .int x] (.int x :: st) h nx := D_iload_n (ins_of mc_196 (pc := 111) (x := (.iload_n 3, 1)) (by decide +kernel)) rfl
theorem e_196_112 : Df d 196 112 [l0, l1, l2, l3] (.int x :: st) h nx = Df d 196 113 [l0, l1, l2, l3] (.int x.toInt16.toInt32 :: st) h nx := D_i2s (ins_of mc_196 (pc := 112) (x := (.i2s, 1)) (by decide +kernel))
theorem e_196_113 : Df d 196 113 [l0, l1, l2, l3] st h nx = Df d 196 117 [l0, l1, l2, l3] st h nx := D_goto (ins_of mc_196 (pc := 113) (x := (.goto 4, 3)) (by decide +kernel)) (by decide)
theorem e_196_116 : Df d 196 116 [l0, l1, l2, .int x] st h nx = Df d 196 117 [l0, l1, l2, .int x] (.int x :: st) h nx := D_iload_n (ins_of mc_196 (pc := 116) (x := (.iload_n 3, 1)) (by decide +kernel)) rfl
theorem e_196_117 : Df d 196 117 [l0, l1, l2, l3] (.int y :: .int x :: .ref a :: st) h nx = (wI h a x 0 y).bind fun h => Df d 196 118 [l0, l1, l2, l3] st h nx := D_iastore (ins_of mc_196 (pc := 117) (x := (.iastore, 1)) (by decide +kernel))
theorem e_196_118 : Df d 196 118 [l0, l1, l2, l3] st h nx = Df d 196 119 [l0, l1, l2, l3] (.int 1 :: st) h nx := D_iconst (ins_of mc_196 (pc := 118) (x := (.iconst 1, 1)) (by decide +kernel)) (by decide)
theorem e_196_119 : Df d 196 119 [l0, l1, l2, l3] [.int x] h nx = some (some (.int x), h, nx) := D_ireturn (ins_of mc_196 (pc := 119) (x := (.ireturn, 1)) (by decide +kernel)) mr_196
end EE
