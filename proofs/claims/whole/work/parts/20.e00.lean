section EE
variable {d : Nat} {l0 l1 l2 l3 l4 l5 l6 l7 l8 l9 l10 l11 : Value} {st : List Value} {h : AH} {nx : AN} {x y z : Int32} {xl yl : Int64} {a b : Nat} {s0 s1 s2 s3 s4 s5 v0 v1 v2 v3 v4 v5 : Value}
theorem mc_0 : mC 0 = prog_2_method_1_code := rfl
theorem mo_0 : mO 0 = 0 := rfl
theorem ml_0 : mL 0 = 1 := rfl
theorem mr_0 : mR 0 = none := rfl
theorem ma_0 : mA 0 = 0 := rfl
theorem e_0_0 : Df d 0 0 [.ref a] st h nx = Df d 0 1 [.ref a] (.ref a :: st) h nx := D_aload_n (ins_of mc_0 (pc := 0) (x := (.aload_n 0, 1)) (by decide +kernel)) rfl
theorem e_0_1 : Df d 0 1 [l0] [.ref a] h nx = Df d 0 4 [l0] [] h nx := D_objinit (k1 := 0) (ins_of mc_0 (pc := 1) (x := (.invokespecial 3, 3)) (by decide +kernel)) mo_0 (by decide +kernel) (Nat.le_of_ble_eq_true rfl)
theorem e_0_4 : Df d 0 4 [.ref a] st h nx = Df d 0 5 [.ref a] (.ref a :: st) h nx := D_aload_n (ins_of mc_0 (pc := 4) (x := (.aload_n 0, 1)) (by decide +kernel)) rfl
theorem e_0_5 : Df d 0 5 [l0] st h nx = Df d 0 7 [l0] (.int (-1000000005) :: st) h nx := D_ldc (ins_of mc_0 (pc := 5) (x := (.ldc 9, 2)) (by decide +kernel)) mo_0 (by decide +kernel)
theorem e_0_7 : Df d 0 7 [l0] (.int x :: .ref a :: st) h nx = (pF h a 0 0 (.int x)).bind fun h => Df d 0 10 [l0] st h nx := D_putfield (ins_of mc_0 (pc := 7) (x := (.putfield 10, 3)) (by decide +kernel)) mo_0 (by decide +kernel) rfl (Or.inl rfl)
theorem e_0_10 : Df d 0 10 [.ref a] st h nx = Df d 0 11 [.ref a] (.ref a :: st) h nx := D_aload_n (ins_of mc_0 (pc := 10) (x := (.aload_n 0, 1)) (by decide +kernel)) rfl
theorem e_0_11 : Df d 0 11 [l0] st h nx = Df d 0 13 [l0] (.int (-1000000005) :: st) h nx := D_ldc (ins_of mc_0 (pc := 11) (x := (.ldc 9, 2)) (by decide +kernel)) mo_0 (by decide +kernel)
theorem e_0_13 : Df d 0 13 [l0] (.int x :: .ref a :: st) h nx = (pF h a 0 1 (.int x)).bind fun h => Df d 0 16 [l0] st h nx := D_putfield (ins_of mc_0 (pc := 13) (x := (.putfield 16, 3)) (by decide +kernel)) mo_0 (by decide +kernel) rfl (Or.inl rfl)
theorem e_0_16 : Df d 0 16 [l0] [] h nx = some (none, h, nx) := D_return (ins_of mc_0 (pc := 16) (x := (.return_, 1)) (by decide +kernel)) mr_0
theorem mc_1 : mC 1 = prog_2_method_2_code := rfl
theorem mo_1 : mO 1 = 0 := rfl
theorem ml_1 : mL 1 = 1 := rfl
theorem mr_1 : mR 1 = none := rfl
theorem ma_1 : mA 1 = 0 := rfl
theorem e_1_0 : Df d 1 0 [.ref a] st h nx = Df d 1 1 [.ref a] (.ref a :: st) h nx := D_aload_n (ins_of mc_1 (pc := 0) (x := (.aload_n 0, 1)) (by decide +kernel)) rfl
theorem e_1_1 : Df d 1 1 [l0] st h nx = Df d 1 3 [l0] (.int (-1000000005) :: st) h nx := D_ldc (ins_of mc_1 (pc := 1) (x := (.ldc 9, 2)) (by decide +kernel)) mo_1 (by decide +kernel)
theorem e_1_3 : Df d 1 3 [l0] (.int x :: .ref a :: st) h nx = (pF h a 0 0 (.int x)).bind fun h => Df d 1 6 [l0] st h nx := D_putfield (ins_of mc_1 (pc := 3) (x := (.putfield 10, 3)) (by decide +kernel)) mo_1 (by decide +kernel) rfl (Or.inl rfl)
theorem e_1_6 : Df d 1 6 [.ref a] st h nx = Df d 1 7 [.ref a] (.ref a :: st) h nx := D_aload_n (ins_of mc_1 (pc := 6) (x := (.aload_n 0, 1)) (by decide +kernel)) rfl
theorem e_1_7 : Df d 1 7 [l0] st h nx = Df d 1 9 [l0] (.int (-1000000005) :: st) h nx := D_ldc (ins_of mc_1 (pc := 7) (x := (.ldc 9, 2)) (by decide +kernel)) mo_1 (by decide +kernel)
theorem e_1_9 : Df d 1 9 [l0] (.int x :: .ref a :: st) h nx = (pF h a 0 1 (.int x)).bind fun h => Df d 1 12 [l0] st h nx := D_putfield (ins_of mc_1 (pc := 9) (x := (.putfield 16, 3)) (by decide +kernel)) mo_1 (by decide +kernel) rfl (Or.inl rfl)
theorem e_1_12 : Df d 1 12 [l0] [] h nx = some (none, h, nx) := D_return (ins_of mc_1 (pc := 12) (x := (.return_, 1)) (by decide +kernel)) mr_1
theorem mc_2 : mC 2 = prog_2_method_3_code := rfl
theorem mo_2 : mO 2 = 0 := rfl
theorem ml_2 : mL 2 = 3 := rfl
theorem mr_2 : mR 2 = none := rfl
theorem ma_2 : mA 2 = 2 := rfl
theorem e_2_0 : Df d 2 0 [.ref a, l1, l2] st h nx = Df d 2 1 [.ref a, l1, l2] (.ref a :: st) h nx := D_aload_n (ins_of mc_2 (pc := 0) (x := (.aload_n 0, 1)) (by decide +kernel)) rfl
theorem e_2_1 : Df d 2 1 [l0, l1, l2] (.ref a :: st) h nx = (gF h a 0 0).bind fun v => Df d 2 4 [l0, l1, l2] (v :: st) h nx := D_getfield (ins_of mc_2 (pc := 1) (x := (.getfield 10, 3)) (by decide +kernel)) mo_2 (by decide +kernel)
theorem e_2_4 : Df d 2 4 [l0, l1, l2] st h nx = Df d 2 6 [l0, l1, l2] (.int (-1000000005) :: st) h nx := D_ldc (ins_of mc_2 (pc := 4) (x := (.ldc 9, 2)) (by decide +kernel)) mo_2 (by decide +kernel)
theorem e_2_6 : Df d 2 6 [l0, l1, l2] (.int y :: .int x :: st) h nx = if x = y then Df d 2 17 [l0, l1, l2] st h nx else Df d 2 9 [l0, l1, l2] st h nx := D_icmp_eq (ins_of mc_2 (pc := 6) (x := (.if_icmp .eq 11, 3)) (by decide +kernel)) (by decide)
theorem e_2_9 : Df d 2 9 [l0, l1, .int x] st h nx = Df d 2 10 [l0, l1, .int x] (.int x :: st) h nx := D_iload_n (ins_of mc_2 (pc := 9) (x := (.iload_n 2, 1)) (by decide +kernel)) rfl
theorem e_2_10 : Df d 2 10 [.ref a, l1, l2] st h nx = Df d 2 11 [.ref a, l1, l2] (.ref a :: st) h nx := D_aload_n (ins_of mc_2 (pc := 10) (x := (.aload_n 0, 1)) (by decide +kernel)) rfl
theorem e_2_11 : Df d 2 11 [l0, l1, l2] (.ref a :: st) h nx = (gF h a 0 1).bind fun v => Df d 2 14 [l0, l1, l2] (v :: st) h nx := D_getfield (ins_of mc_2 (pc := 11) (x := (.getfield 16, 3)) (by decide +kernel)) mo_2 (by decide +kernel)
theorem e_2_14 : Df d 2 14 [l0, l1, l2] (.int y :: .int x :: st) h nx = if y ≤ x then Df d 2 27 [l0, l1, l2] st h nx else Df d 2 17 [l0, l1, l2] st h nx := D_icmp_ge (ins_of mc_2 (pc := 14) (x := (.if_icmp .ge 13, 3)) (by decide +kernel)) (by decide)
theorem e_2_17 : Df d 2 17 [.ref a, l1, l2] st h nx = Df d 2 18 [.ref a, l1, l2] (.ref a :: st) h nx := D_aload_n (ins_of mc_2 (pc := 17) (x := (.aload_n 0, 1)) (by decide +kernel)) rfl
theorem e_2_18 : Df d 2 18 [l0, .int x, l2] st h nx = Df d 2 19 [l0, .int x, l2] (.int x :: st) h nx := D_iload_n (ins_of mc_2 (pc := 18) (x := (.iload_n 1, 1)) (by decide +kernel)) rfl
theorem e_2_19 : Df d 2 19 [l0, l1, l2] (.int x :: .ref a :: st) h nx = (pF h a 0 0 (.int x)).bind fun h => Df d 2 22 [l0, l1, l2] st h nx := D_putfield (ins_of mc_2 (pc := 19) (x := (.putfield 10, 3)) (by decide +kernel)) mo_2 (by decide +kernel) rfl (Or.inl rfl)
theorem e_2_22 : Df d 2 22 [.ref a, l1, l2] st h nx = Df d 2 23 [.ref a, l1, l2] (.ref a :: st) h nx := D_aload_n (ins_of mc_2 (pc := 22) (x := (.aload_n 0, 1)) (by decide +kernel)) rfl
theorem e_2_23 : Df d 2 23 [l0, l1, .int x] st h nx = Df d 2 24 [l0, l1, .int x] (.int x :: st) h nx := D_iload_n (ins_of mc_2 (pc := 23) (x := (.iload_n 2, 1)) (by decide +kernel)) rfl
theorem e_2_24 : Df d 2 24 [l0, l1, l2] (.int x :: .ref a :: st) h nx = (pF h a 0 1 (.int x)).bind fun h => Df d 2 27 [l0, l1, l2] st h nx := D_putfield (ins_of mc_2 (pc := 24) (x := (.putfield 16, 3)) (by decide +kernel)) mo_2 (by decide +kernel) rfl (Or.inl rfl)
theorem e_2_27 : Df d 2 27 [l0, l1, l2] [] h nx = some (none, h, nx) := D_return (ins_of mc_2 (pc := 27) (x := (.return_, 1)) (by decide +kernel)) mr_2
theorem mc_3 : mC 3 = prog_2_method_4_code := rfl
theorem mo_3 : mO 3 = 0 := rfl
theorem ml_3 : mL 3 = 2 := rfl
theorem mr_3 : mR 3 = (some .int) := rfl
theorem ma_3 : mA 3 = 1 := rfl
theorem e_3_0 : Df d 3 0 [l0, .int x] st h nx = Df d 3 1 [l0, .int x] (.int x :: st) h nx := D_iload_n (ins_of mc_3 (pc := 0) (x := (.iload_n 1, 1)) (by decide +kernel)) rfl
theorem e_3_1 : Df d 3 1 [l0, l1] (.int x :: st) h nx = if x = 0 then Df d 3 4 [l0, l1] st h nx else Df d 3 11 [l0, l1] st h nx := D_if_ne (ins_of mc_3 (pc := 1) (x := (.ifCond .ne 10, 3)) (by decide +kernel)) (by decide)
theorem e_3_4 : Df d 3 4 [.ref a, l1] st h nx = Df d 3 5 [.ref a, l1] (.ref a :: st) h nx := D_aload_n (ins_of mc_3 (pc := 4) (x := (.aload_n 0, 1)) (by decide +kernel)) rfl
theorem e_3_5 : Df d 3 5 [l0, l1] (.ref a :: st) h nx = (gF h a 0 0).bind fun v => Df d 3 8 [l0, l1] (v :: st) h nx := D_getfield (ins_of mc_3 (pc := 5) (x := (.getfield 10, 3)) (by decide +kernel)) mo_3 (by decide +kernel)
theorem e_3_8 : Df d 3 8 [l0, l1] st h nx = Df d 3 15 [l0, l1] st h nx := D_goto (ins_of mc_3 (pc := 8) (x := (.goto 7, 3)) (by decide +kernel)) (by decide)
theorem e_3_11 : Df d 3 11 [.ref a, l1] st h nx = Df d 3 12 [.ref a, l1] (.ref a :: st) h nx := D_aload_n (ins_of mc_3 (pc := 11) (x := (.aload_n 0, 1)) (by decide +kernel)) rfl
theorem e_3_12 : Df d 3 12 [l0, l1] (.ref a :: st) h nx = (gF h a 0 1).bind fun v => Df d 3 15 [l0, l1] (v :: st) h nx := D_getfield (ins_of mc_3 (pc := 12) (x := (.getfield 16, 3)) (by decide +kernel)) mo_3 (by decide +kernel)
theorem e_3_15 : Df d 3 15 [l0, l1] [.int x] h nx = some (some (.int x), h, nx) := D_ireturn (ins_of mc_3 (pc := 15) (x := (.ireturn, 1)) (by decide +kernel)) mr_3
theorem mc_4 : mC 4 = prog_3_method_1_code := rfl
theorem mo_4 : mO 4 = 1 := rfl
theorem ml_4 : mL 4 = 2 := rfl
theorem mr_4 : mR 4 = none := rfl
theorem ma_4 : mA 4 = 0 := rfl
theorem e_4_0 : Df d 4 0 [.ref a, l1] st h nx = Df d 4 1 [.ref a, l1] (.ref a :: st) h nx := D_aload_n (ins_of mc_4 (pc := 0) (x := (.aload_n 0, 1)) (by decide +kernel)) rfl
theorem e_4_1 : Df d 4 1 [l0, l1] [.ref a] h nx = Df d 4 4 [l0, l1] [] h nx := D_objinit (k1 := 0) (ins_of mc_4 (pc := 1) (x := (.invokespecial 3, 3)) (by decide +kernel)) mo_4 (by decide +kernel) (Nat.le_of_ble_eq_true rfl)
theorem e_4_4 : Df d 4 4 [.ref a, l1] st h nx = Df d 4 5 [.ref a, l1] (.ref a :: st) h nx := D_aload_n (ins_of mc_4 (pc := 4) (x := (.aload_n 0, 1)) (by decide +kernel)) rfl
theorem e_4_5 : Df d 4 5 [l0, l1] st h nx = Df d 4 7 [l0, l1] (.int 24 :: st) h nx := D_bipush (ins_of mc_4 (pc := 5) (x := (.bipush 24, 2)) (by decide +kernel)) (by decide)
theorem e_4_7 : Df d 4 7 [l0, l1] (.int x :: st) h nx = if x < 0 ∨ 10000 < x.toNatClampNeg then none else Df d 4 9 [l0, l1] (.ref (16 + nx.1) :: st) (put h (16 + nx.1) (.inl (0, x.toNatClampNeg, .inl fun _ => 0))) (nx.1 + 1, nx.2 + x.toNatClampNeg) := D_newint (ins_of mc_4 (pc := 7) (x := (.newarray .int, 2)) (by decide +kernel))
theorem e_4_9 : Df d 4 9 [l0, l1] (.ref b :: .ref a :: st) h nx = (pF h a 1 0 (.ref b)).bind fun h => Df d 4 12 [l0, l1] st h nx := D_putfield (ins_of mc_4 (pc := 9) (x := (.putfield 9, 3)) (by decide +kernel)) mo_4 (by decide +kernel) rfl (Or.inr ⟨by decide +kernel, rfl⟩)
theorem e_4_12 : Df d 4 12 [.ref a, l1] st h nx = Df d 4 13 [.ref a, l1] (.ref a :: st) h nx := D_aload_n (ins_of mc_4 (pc := 12) (x := (.aload_n 0, 1)) (by decide +kernel)) rfl
theorem e_4_13 : Df d 4 13 [l0, l1] st h nx = Df d 4 15 [l0, l1] (.int 10 :: st) h nx := D_bipush (ins_of mc_4 (pc := 13) (x := (.bipush 10, 2)) (by decide +kernel)) (by decide)
theorem e_4_15 : Df d 4 15 [l0, l1] (.int x :: st) h nx = if x < 0 ∨ 10000 < x.toNatClampNeg then none else Df d 4 18 [l0, l1] (.ref (16 + nx.1) :: st) (put h (16 + nx.1) (.inl (3, x.toNatClampNeg, .inr (.inr (.inr (.inr fun _ => none)))))) (nx.1 + 1, nx.2 + x.toNatClampNeg) := D_anewarray (ci := 7) (ins_of mc_4 (pc := 15) (x := (.anewarray 15, 3)) (by decide +kernel)) mo_4 (by decide +kernel) rfl (by decide)
theorem e_4_18 : Df d 4 18 [l0, l1] (.ref b :: .ref a :: st) h nx = (pF h a 1 1 (.ref b)).bind fun h => Df d 4 21 [l0, l1] st h nx := D_putfield (ins_of mc_4 (pc := 18) (x := (.putfield 17, 3)) (by decide +kernel)) mo_4 (by decide +kernel) rfl (Or.inr ⟨by decide +kernel, rfl⟩)
theorem e_4_21 : Df d 4 21 [.ref a, l1] st h nx = Df d 4 22 [.ref a, l1] (.ref a :: st) h nx := D_aload_n (ins_of mc_4 (pc := 21) (x := (.aload_n 0, 1)) (by decide +kernel)) rfl
theorem e_4_22 : Df d 4 22 [l0, l1] st h nx = Df d 4 23 [l0, l1] (.int 0 :: st) h nx := D_iconst (ins_of mc_4 (pc := 22) (x := (.iconst 0, 1)) (by decide +kernel)) (by decide)
theorem e_4_23 : Df d 4 23 [l0, l1] (.int x :: .ref a :: st) h nx = (pF h a 1 2 (.int x)).bind fun h => Df d 4 26 [l0, l1] st h nx := D_putfield (ins_of mc_4 (pc := 23) (x := (.putfield 21, 3)) (by decide +kernel)) mo_4 (by decide +kernel) rfl (Or.inl rfl)
theorem e_4_26 : Df d 4 26 [.ref a, l1] st h nx = Df d 4 27 [.ref a, l1] (.ref a :: st) h nx := D_aload_n (ins_of mc_4 (pc := 26) (x := (.aload_n 0, 1)) (by decide +kernel)) rfl
theorem e_4_27 : Df d 4 27 [l0, l1] st h nx = Df d 4 28 [l0, l1] (.int 0 :: st) h nx := D_iconst (ins_of mc_4 (pc := 27) (x := (.iconst 0, 1)) (by decide +kernel)) (by decide)
theorem e_4_28 : Df d 4 28 [l0, l1] (.int x :: .ref a :: st) h nx = (pF h a 1 3 (.int x)).bind fun h => Df d 4 31 [l0, l1] st h nx := D_putfield (ins_of mc_4 (pc := 28) (x := (.putfield 25, 3)) (by decide +kernel)) mo_4 (by decide +kernel) rfl (Or.inl rfl)
theorem e_4_31 : Df d 4 31 [.ref a, l1] st h nx = Df d 4 32 [.ref a, l1] (.ref a :: st) h nx := D_aload_n (ins_of mc_4 (pc := 31) (x := (.aload_n 0, 1)) (by decide +kernel)) rfl
theorem e_4_32 : Df d 4 32 [l0, l1] st h nx = Df d 4 33 [l0, l1] (.int 3 :: st) h nx := D_iconst (ins_of mc_4 (pc := 32) (x := (.iconst 3, 1)) (by decide +kernel)) (by decide)
theorem e_4_33 : Df d 4 33 [l0, l1] (.int x :: .ref a :: st) h nx = (pF h a 1 4 (.int x)).bind fun h => Df d 4 36 [l0, l1] st h nx := D_putfield (ins_of mc_4 (pc := 33) (x := (.putfield 28, 3)) (by decide +kernel)) mo_4 (by decide +kernel) rfl (Or.inl rfl)
theorem e_4_36 : Df d 4 36 [.ref a, l1] st h nx = Df d 4 37 [.ref a, l1] (.ref a :: st) h nx := D_aload_n (ins_of mc_4 (pc := 36) (x := (.aload_n 0, 1)) (by decide +kernel)) rfl
theorem e_4_37 : Df d 4 37 [l0, l1] st h nx = Df d 4 38 [l0, l1] (.int 2 :: st) h nx := D_iconst (ins_of mc_4 (pc := 37) (x := (.iconst 2, 1)) (by decide +kernel)) (by decide)
theorem e_4_38 : Df d 4 38 [l0, l1] (.int x :: .ref a :: st) h nx = (pF h a 1 5 (.int x)).bind fun h => Df d 4 41 [l0, l1] st h nx := D_putfield (ins_of mc_4 (pc := 38) (x := (.putfield 31, 3)) (by decide +kernel)) mo_4 (by decide +kernel) rfl (Or.inl rfl)
theorem e_4_41 : Df d 4 41 [.ref a, l1] st h nx = Df d 4 42 [.ref a, l1] (.ref a :: st) h nx := D_aload_n (ins_of mc_4 (pc := 41) (x := (.aload_n 0, 1)) (by decide +kernel)) rfl
theorem e_4_42 : Df d 4 42 [l0, l1] st h nx = Df d 4 43 [l0, l1] (.int 0 :: st) h nx := D_iconst (ins_of mc_4 (pc := 42) (x := (.iconst 0, 1)) (by decide +kernel)) (by decide)
theorem e_4_43 : Df d 4 43 [l0, l1] (.int x :: .ref a :: st) h nx = (pF h a 1 6 (.int x)).bind fun h => Df d 4 46 [l0, l1] st h nx := D_putfield (ins_of mc_4 (pc := 43) (x := (.putfield 34, 3)) (by decide +kernel)) mo_4 (by decide +kernel) rfl (Or.inl rfl)
theorem e_4_46 : Df d 4 46 [.ref a, l1] st h nx = Df d 4 47 [.ref a, l1] (.ref a :: st) h nx := D_aload_n (ins_of mc_4 (pc := 46) (x := (.aload_n 0, 1)) (by decide +kernel)) rfl
theorem e_4_47 : Df d 4 47 [l0, l1] st h nx = Df d 4 49 [l0, l1] (.int 60 :: st) h nx := D_bipush (ins_of mc_4 (pc := 47) (x := (.bipush 60, 2)) (by decide +kernel)) (by decide)
theorem e_4_49 : Df d 4 49 [l0, l1] (.int x :: .ref a :: st) h nx = (pF h a 1 7 (.int x)).bind fun h => Df d 4 52 [l0, l1] st h nx := D_putfield (ins_of mc_4 (pc := 49) (x := (.putfield 37, 3)) (by decide +kernel)) mo_4 (by decide +kernel) rfl (Or.inl rfl)
theorem e_4_52 : Df d 4 52 [.ref a, l1] st h nx = Df d 4 53 [.ref a, l1] (.ref a :: st) h nx := D_aload_n (ins_of mc_4 (pc := 52) (x := (.aload_n 0, 1)) (by decide +kernel)) rfl
theorem e_4_53 : Df d 4 53 [l0, l1] st h nx = Df d 4 54 [l0, l1] (.int 0 :: st) h nx := D_iconst (ins_of mc_4 (pc := 53) (x := (.iconst 0, 1)) (by decide +kernel)) (by decide)
theorem e_4_54 : Df d 4 54 [l0, l1] (.int x :: .ref a :: st) h nx = (pF h a 1 8 (.int x)).bind fun h => Df d 4 57 [l0, l1] st h nx := D_putfield (ins_of mc_4 (pc := 54) (x := (.putfield 40, 3)) (by decide +kernel)) mo_4 (by decide +kernel) rfl (Or.inl rfl)
theorem e_4_57 : Df d 4 57 [.ref a, l1] st h nx = Df d 4 58 [.ref a, l1] (.ref a :: st) h nx := D_aload_n (ins_of mc_4 (pc := 57) (x := (.aload_n 0, 1)) (by decide +kernel)) rfl
theorem e_4_58 : Df d 4 58 [l0, l1] st h nx = Df d 4 59 [l0, l1] (.int 0 :: st) h nx := D_iconst (ins_of mc_4 (pc := 58) (x := (.iconst 0, 1)) (by decide +kernel)) (by decide)
theorem e_4_59 : Df d 4 59 [l0, l1] (.int x :: .ref a :: st) h nx = (pF h a 1 9 (.int x)).bind fun h => Df d 4 62 [l0, l1] st h nx := D_putfield (ins_of mc_4 (pc := 59) (x := (.putfield 43, 3)) (by decide +kernel)) mo_4 (by decide +kernel) rfl (Or.inl rfl)
theorem e_4_62 : Df d 4 62 [.ref a, l1] st h nx = Df d 4 63 [.ref a, l1] (.ref a :: st) h nx := D_aload_n (ins_of mc_4 (pc := 62) (x := (.aload_n 0, 1)) (by decide +kernel)) rfl
theorem e_4_63 : Df d 4 63 [l0, l1] st h nx = Df d 4 64 [l0, l1] (.int 0 :: st) h nx := D_iconst (ins_of mc_4 (pc := 63) (x := (.iconst 0, 1)) (by decide +kernel)) (by decide)
theorem e_4_64 : Df d 4 64 [l0, l1] (.int x :: .ref a :: st) h nx = (pF h a 1 10 (.int x)).bind fun h => Df d 4 67 [l0, l1] st h nx := D_putfield (ins_of mc_4 (pc := 64) (x := (.putfield 46, 3)) (by decide +kernel)) mo_4 (by decide +kernel) rfl (Or.inl rfl)
theorem e_4_67 : Df d 4 67 [.ref a, l1] st h nx = Df d 4 68 [.ref a, l1] (.ref a :: st) h nx := D_aload_n (ins_of mc_4 (pc := 67) (x := (.aload_n 0, 1)) (by decide +kernel)) rfl
theorem e_4_68 : Df d 4 68 [l0, l1] st h nx = Df d 4 69 [l0, l1] (.int 1 :: st) h nx := D_iconst (ins_of mc_4 (pc := 68) (x := (.iconst 1, 1)) (by decide +kernel)) (by decide)
theorem e_4_69 : Df d 4 69 [l0, l1] (.int x :: .ref a :: st) h nx = (pF h a 1 11 (.int x)).bind fun h => Df d 4 72 [l0, l1] st h nx := D_putfield (ins_of mc_4 (pc := 69) (x := (.putfield 49, 3)) (by decide +kernel)) mo_4 (by decide +kernel) rfl (Or.inl rfl)
theorem e_4_72 : Df d 4 72 [.ref a, l1] st h nx = Df d 4 73 [.ref a, l1] (.ref a :: st) h nx := D_aload_n (ins_of mc_4 (pc := 72) (x := (.aload_n 0, 1)) (by decide +kernel)) rfl
theorem e_4_73 : Df d 4 73 [l0, l1] st h nx = Df d 4 74 [l0, l1] (.int 0 :: st) h nx := D_iconst (ins_of mc_4 (pc := 73) (x := (.iconst 0, 1)) (by decide +kernel)) (by decide)
theorem e_4_74 : Df d 4 74 [l0, l1] (.int x :: .ref a :: st) h nx = (pF h a 1 12 (.int x)).bind fun h => Df d 4 77 [l0, l1] st h nx := D_putfield (ins_of mc_4 (pc := 74) (x := (.putfield 52, 3)) (by decide +kernel)) mo_4 (by decide +kernel) rfl (Or.inl rfl)
theorem e_4_77 : Df d 4 77 [l0, l1] st h nx = Df d 4 78 [l0, l1] (.int 0 :: st) h nx := D_iconst (ins_of mc_4 (pc := 77) (x := (.iconst 0, 1)) (by decide +kernel)) (by decide)
theorem e_4_78 (hn : nr l1 = true) : Df d 4 78 [l0, l1] (.int x :: st) h nx = Df d 4 79 [l0, .int x] st h nx := D_istore_n (ins_of mc_4 (pc := 78) (x := (.istore_n 1, 1)) (by decide +kernel)) rfl hn rfl
theorem e_4_79 : Df d 4 79 [l0, .int x] st h nx = Df d 4 80 [l0, .int x] (.int x :: st) h nx := D_iload_n (ins_of mc_4 (pc := 79) (x := (.iload_n 1, 1)) (by decide +kernel)) rfl
theorem e_4_80 : Df d 4 80 [l0, l1] st h nx = Df d 4 82 [l0, l1] (.int 10 :: st) h nx := D_bipush (ins_of mc_4 (pc := 80) (x := (.bipush 10, 2)) (by decide +kernel)) (by decide)
theorem e_4_82 : Df d 4 82 [l0, l1] (.int y :: .int x :: st) h nx = if y ≤ x then Df d 4 104 [l0, l1] st h nx else Df d 4 85 [l0, l1] st h nx := D_icmp_ge (ins_of mc_4 (pc := 82) (x := (.if_icmp .ge 22, 3)) (by decide +kernel)) (by decide)
theorem e_4_85 : Df d 4 85 [.ref a, l1] st h nx = Df d 4 86 [.ref a, l1] (.ref a :: st) h nx := D_aload_n (ins_of mc_4 (pc := 85) (x := (.aload_n 0, 1)) (by decide +kernel)) rfl
theorem e_4_86 : Df d 4 86 [l0, l1] (.ref a :: st) h nx = (gF h a 1 1).bind fun v => Df d 4 89 [l0, l1] (v :: st) h nx := D_getfield (ins_of mc_4 (pc := 86) (x := (.getfield 17, 3)) (by decide +kernel)) mo_4 (by decide +kernel)
theorem e_4_89 : Df d 4 89 [l0, .int x] st h nx = Df d 4 90 [l0, .int x] (.int x :: st) h nx := D_iload_n (ins_of mc_4 (pc := 89) (x := (.iload_n 1, 1)) (by decide +kernel)) rfl
theorem e_4_90 : Df d 4 90 [l0, l1] st h nx = Df d 4 93 [l0, l1] (.ref (16 + nx.1) :: st) (put h (16 + nx.1) (.inr (7, dfl 7))) (nx.1 + 1, nx.2 + 6) := D_new (ins_of mc_4 (pc := 90) (x := (.new 15, 3)) (by decide +kernel)) mo_4 (by decide +kernel)
theorem e_4_93 (hv : v0.category = 1) : Df d 4 93 [l0, l1] (v0 :: st) h nx = Df d 4 94 [l0, l1] (v0 :: v0 :: st) h nx := D_dup (ins_of mc_4 (pc := 93) (x := (.dup, 1)) (by decide +kernel)) hv
theorem e_4_94 : Df d 4 94 [l0, l1] [.ref a, s0, s1, s2] h nx = cn d 4 97 [l0, l1] [s0, s1, s2] (Dn d 62 [.ref a] h nx) := D_special (k1 := 62) (kd := 4) (ins_of mc_4 (pc := 94) (x := (.invokespecial 55, 3)) (by decide +kernel)) mo_4 (by decide +kernel) (by decide) rfl rfl (Nat.le_of_ble_eq_true rfl) rfl
theorem e_4_97 : Df d 4 97 [l0, l1] (.ref b :: .int x :: .ref a :: st) h nx = (wR h a x b).bind fun h => Df d 4 98 [l0, l1] st h nx := D_aastore (ins_of mc_4 (pc := 97) (x := (.aastore, 1)) (by decide +kernel))
theorem e_4_98 : Df d 4 98 [l0, .int x] st h nx = Df d 4 101 [l0, .int (x + 1)] st h nx := D_iinc (ins_of mc_4 (pc := 98) (x := (.iinc 1 1, 3)) (by decide +kernel)) rfl (by decide) rfl
theorem e_4_101 : Df d 4 101 [l0, l1] st h nx = Df d 4 79 [l0, l1] st h nx := D_goto (ins_of mc_4 (pc := 101) (x := (.goto (-22), 3)) (by decide +kernel)) (by decide)
theorem e_4_104 : Df d 4 104 [l0, l1] [] h nx = some (none, h, nx) := D_return (ins_of mc_4 (pc := 104) (x := (.return_, 1)) (by decide +kernel)) mr_4
theorem mc_5 : mC 5 = prog_3_method_5_code := rfl
theorem mo_5 : mO 5 = 1 := rfl
theorem ml_5 : mL 5 = 4 := rfl
theorem mr_5 : mR 5 = (some .int) := rfl
theorem ma_5 : mA 5 = 3 := rfl
theorem e_5_0 : Df d 5 0 [.ref a, l1, l2, l3] st h nx = Df d 5 1 [.ref a, l1, l2, l3] (.ref a :: st) h nx := D_aload_n (ins_of mc_5 (pc := 0) (x := (.aload_n 0, 1)) (by decide +kernel)) rfl
theorem e_5_1 : Df d 5 1 [l0, l1, l2, l3] (.ref a :: st) h nx = (gF h a 1 2).bind fun v => Df d 5 4 [l0, l1, l2, l3] (v :: st) h nx := D_getfield (ins_of mc_5 (pc := 1) (x := (.getfield 21, 3)) (by decide +kernel)) mo_5 (by decide +kernel)
theorem e_5_4 : Df d 5 4 [l0, l1, l2, l3] st h nx = Df d 5 6 [l0, l1, l2, l3] (.int 10 :: st) h nx := D_bipush (ins_of mc_5 (pc := 4) (x := (.bipush 10, 2)) (by decide +kernel)) (by decide)
theorem e_5_6 : Df d 5 6 [l0, l1, l2, l3] (.int y :: .int x :: st) h nx = if x < y then Df d 5 12 [l0, l1, l2, l3] st h nx else Df d 5 9 [l0, l1, l2, l3] st h nx := D_icmp_lt (ins_of mc_5 (pc := 6) (x := (.if_icmp .lt 6, 3)) (by decide +kernel)) (by decide)
theorem e_5_9 : Df d 5 9 [l0, l1, l2, l3] st h nx = Df d 5 11 [l0, l1, l2, l3] (.int (-1000000003) :: st) h nx := D_ldc (ins_of mc_5 (pc := 9) (x := (.ldc 74, 2)) (by decide +kernel)) mo_5 (by decide +kernel)
theorem e_5_11 : Df d 5 11 [l0, l1, l2, l3] [.int x] h nx = some (some (.int x), h, nx) := D_ireturn (ins_of mc_5 (pc := 11) (x := (.ireturn, 1)) (by decide +kernel)) mr_5
theorem e_5_12 : Df d 5 12 [.ref a, l1, l2, l3] st h nx = Df d 5 13 [.ref a, l1, l2, l3] (.ref a :: st) h nx := D_aload_n (ins_of mc_5 (pc := 12) (x := (.aload_n 0, 1)) (by decide +kernel)) rfl
theorem e_5_13 : Df d 5 13 [l0, l1, l2, l3] (.ref a :: st) h nx = (gF h a 1 1).bind fun v => Df d 5 16 [l0, l1, l2, l3] (v :: st) h nx := D_getfield (ins_of mc_5 (pc := 13) (x := (.getfield 17, 3)) (by decide +kernel)) mo_5 (by decide +kernel)
theorem e_5_16 : Df d 5 16 [.ref a, l1, l2, l3] st h nx = Df d 5 17 [.ref a, l1, l2, l3] (.ref a :: st) h nx := D_aload_n (ins_of mc_5 (pc := 16) (x := (.aload_n 0, 1)) (by decide +kernel)) rfl
theorem e_5_17 : Df d 5 17 [l0, l1, l2, l3] (.ref a :: st) h nx = (gF h a 1 2).bind fun v => Df d 5 20 [l0, l1, l2, l3] (v :: st) h nx := D_getfield (ins_of mc_5 (pc := 17) (x := (.getfield 21, 3)) (by decide +kernel)) mo_5 (by decide +kernel)
theorem e_5_20 : Df d 5 20 [l0, l1, l2, l3] (.int x :: .ref a :: st) h nx = (rR h a x).bind fun v => Df d 5 21 [l0, l1, l2, l3] (.ref v :: st) h nx := D_aaload (ins_of mc_5 (pc := 20) (x := (.aaload, 1)) (by decide +kernel))
theorem e_5_21 : Df d 5 21 [l0, .int x, l2, l3] st h nx = Df d 5 22 [l0, .int x, l2, l3] (.int x :: st) h nx := D_iload_n (ins_of mc_5 (pc := 21) (x := (.iload_n 1, 1)) (by decide +kernel)) rfl
theorem e_5_22 : Df d 5 22 [l0, l1, .int x, l3] st h nx = Df d 5 23 [l0, l1, .int x, l3] (.int x :: st) h nx := D_iload_n (ins_of mc_5 (pc := 22) (x := (.iload_n 2, 1)) (by decide +kernel)) rfl
theorem e_5_23 : Df d 5 23 [l0, l1, l2, .int x] st h nx = Df d 5 24 [l0, l1, l2, .int x] (.int x :: st) h nx := D_iload_n (ins_of mc_5 (pc := 23) (x := (.iload_n 3, 1)) (by decide +kernel)) rfl
theorem e_5_24 : Df d 5 24 [l0, l1, l2, l3] [v2, v1, v0, .ref a] h nx = if ck h a 7 = true then cn d 5 27 [l0, l1, l2, l3] [] (Dn d 63 [.ref a, v0, v1, v2] h nx) else none := D_virtual (k1 := 63) (ins_of mc_5 (pc := 24) (x := (.invokevirtual 75, 3)) (by decide +kernel)) mo_5 (by decide +kernel) (by decide) rfl rfl (by decide) rfl (Nat.le_of_ble_eq_true rfl) rfl
theorem e_5_27 : Df d 5 27 [.ref a, l1, l2, l3] st h nx = Df d 5 28 [.ref a, l1, l2, l3] (.ref a :: st) h nx := D_aload_n (ins_of mc_5 (pc := 27) (x := (.aload_n 0, 1)) (by decide +kernel)) rfl
theorem e_5_28 (hv : v0.category = 1) : Df d 5 28 [l0, l1, l2, l3] (v0 :: st) h nx = Df d 5 29 [l0, l1, l2, l3] (v0 :: v0 :: st) h nx := D_dup (ins_of mc_5 (pc := 28) (x := (.dup, 1)) (by decide +kernel)) hv
theorem e_5_29 : Df d 5 29 [l0, l1, l2, l3] (.ref a :: st) h nx = (gF h a 1 2).bind fun v => Df d 5 32 [l0, l1, l2, l3] (v :: st) h nx := D_getfield (ins_of mc_5 (pc := 29) (x := (.getfield 21, 3)) (by decide +kernel)) mo_5 (by decide +kernel)
theorem e_5_32 : Df d 5 32 [l0, l1, l2, l3] st h nx = Df d 5 33 [l0, l1, l2, l3] (.int 1 :: st) h nx := D_iconst (ins_of mc_5 (pc := 32) (x := (.iconst 1, 1)) (by decide +kernel)) (by decide)
theorem e_5_33 : Df d 5 33 [l0, l1, l2, l3] (.int y :: .int x :: st) h nx = Df d 5 34 [l0, l1, l2, l3] (.int (x + y) :: st) h nx := D_iadd (ins_of mc_5 (pc := 33) (x := (.iadd, 1)) (by decide +kernel))
theorem e_5_34 : Df d 5 34 [l0, l1, l2, l3] (.int x :: .ref a :: st) h nx = (pF h a 1 2 (.int x)).bind fun h => Df d 5 37 [l0, l1, l2, l3] st h nx := D_putfield (ins_of mc_5 (pc := 34) (x := (.putfield 21, 3)) (by decide +kernel)) mo_5 (by decide +kernel) rfl (Or.inl rfl)
theorem e_5_37 : Df d 5 37 [.ref a, l1, l2, l3] st h nx = Df d 5 38 [.ref a, l1, l2, l3] (.ref a :: st) h nx := D_aload_n (ins_of mc_5 (pc := 37) (x := (.aload_n 0, 1)) (by decide +kernel)) rfl
theorem e_5_38 : Df d 5 38 [l0, l1, l2, l3] (.ref a :: st) h nx = (gF h a 1 2).bind fun v => Df d 5 41 [l0, l1, l2, l3] (v :: st) h nx := D_getfield (ins_of mc_5 (pc := 38) (x := (.getfield 21, 3)) (by decide +kernel)) mo_5 (by decide +kernel)
theorem e_5_41 : Df d 5 41 [l0, l1, l2, l3] st h nx = Df d 5 42 [l0, l1, l2, l3] (.int 1 :: st) h nx := D_iconst (ins_of mc_5 (pc := 41) (x := (.iconst 1, 1)) (by decide +kernel)) (by decide)
theorem e_5_42 : Df d 5 42 [l0, l1, l2, l3] (.int y :: .int x :: st) h nx = Df d 5 43 [l0, l1, l2, l3] (.int (x - y) :: st) h nx := D_isub (ins_of mc_5 (pc := 42) (x := (.isub, 1)) (by decide +kernel))
theorem e_5_43 : Df d 5 43 [l0, l1, l2, l3] [.int x] h nx = some (some (.int x), h, nx) := D_ireturn (ins_of mc_5 (pc := 43) (x := (.ireturn, 1)) (by decide +kernel)) mr_5
theorem mc_6 : mC 6 = prog_3_method_3_code := rfl
theorem mo_6 : mO 6 = 1 := rfl
theorem ml_6 : mL 6 = 2 := rfl
theorem mr_6 : mR 6 = (some .boolean) := rfl
theorem ma_6 : mA 6 = 1 := rfl
theorem e_6_0 : Df d 6 0 [l0, .int x] st h nx = Df d 6 1 [l0, .int x] (.int x :: st) h nx := D_iload_n (ins_of mc_6 (pc := 0) (x := (.iload_n 1, 1)) (by decide +kernel)) rfl
theorem e_6_1 : Df d 6 1 [l0, l1] (.int x :: st) h nx = if x < 0 then Df d 6 22 [l0, l1] st h nx else Df d 6 4 [l0, l1] st h nx := D_if_lt (ins_of mc_6 (pc := 1) (x := (.ifCond .lt 21, 3)) (by decide +kernel)) (by decide)
theorem e_6_4 : Df d 6 4 [l0, .int x] st h nx = Df d 6 5 [l0, .int x] (.int x :: st) h nx := D_iload_n (ins_of mc_6 (pc := 4) (x := (.iload_n 1, 1)) (by decide +kernel)) rfl
theorem e_6_5 : Df d 6 5 [.ref a, l1] st h nx = Df d 6 6 [.ref a, l1] (.ref a :: st) h nx := D_aload_n (ins_of mc_6 (pc := 5) (x := (.aload_n 0, 1)) (by decide +kernel)) rfl
theorem e_6_6 : Df d 6 6 [l0, l1] (.ref a :: st) h nx = (gF h a 1 2).bind fun v => Df d 6 9 [l0, l1] (v :: st) h nx := D_getfield (ins_of mc_6 (pc := 6) (x := (.getfield 21, 3)) (by decide +kernel)) mo_6 (by decide +kernel)
theorem e_6_9 : Df d 6 9 [l0, l1] (.int y :: .int x :: st) h nx = if y ≤ x then Df d 6 22 [l0, l1] st h nx else Df d 6 12 [l0, l1] st h nx := D_icmp_ge (ins_of mc_6 (pc := 9) (x := (.if_icmp .ge 13, 3)) (by decide +kernel)) (by decide)
theorem e_6_12 : Df d 6 12 [l0, .int x] st h nx = Df d 6 13 [l0, .int x] (.int x :: st) h nx := D_iload_n (ins_of mc_6 (pc := 12) (x := (.iload_n 1, 1)) (by decide +kernel)) rfl
theorem e_6_13 : Df d 6 13 [l0, l1] st h nx = Df d 6 15 [l0, l1] (.int 10 :: st) h nx := D_bipush (ins_of mc_6 (pc := 13) (x := (.bipush 10, 2)) (by decide +kernel)) (by decide)
theorem e_6_15 : Df d 6 15 [l0, l1] (.int y :: .int x :: st) h nx = if y ≤ x then Df d 6 22 [l0, l1] st h nx else Df d 6 18 [l0, l1] st h nx := D_icmp_ge (ins_of mc_6 (pc := 15) (x := (.if_icmp .ge 7, 3)) (by decide +kernel)) (by decide)
theorem e_6_18 : Df d 6 18 [l0, l1] st h nx = Df d 6 19 [l0, l1] (.int 1 :: st) h nx := D_iconst (ins_of mc_6 (pc := 18) (x := (.iconst 1, 1)) (by decide +kernel)) (by decide)
theorem e_6_19 : Df d 6 19 [l0, l1] st h nx = Df d 6 23 [l0, l1] st h nx := D_goto (ins_of mc_6 (pc := 19) (x := (.goto 4, 3)) (by decide +kernel)) (by decide)
theorem e_6_22 : Df d 6 22 [l0, l1] st h nx = Df d 6 23 [l0, l1] (.int 0 :: st) h nx := D_iconst (ins_of mc_6 (pc := 22) (x := (.iconst 0, 1)) (by decide +kernel)) (by decide)
theorem e_6_23 : Df d 6 23 [l0, l1] [.int x] h nx = if nR .boolean x = true then some (some (.int x), h, nx) else none := D_zreturn (ins_of mc_6 (pc := 23) (x := (.ireturn, 1)) (by decide +kernel)) mr_6
theorem mc_7 : mC 7 = prog_3_method_14_code := rfl
theorem mo_7 : mO 7 = 1 := rfl
theorem ml_7 : mL 7 = 5 := rfl
theorem mr_7 : mR 7 = (some .int) := rfl
theorem ma_7 : mA 7 = 2 := rfl
theorem e_7_0 : Df d 7 0 [l0, l1, .ref a, l3, l4] st h nx = Df d 7 1 [l0, l1, .ref a, l3, l4] (.ref a :: st) h nx := D_aload_n (ins_of mc_7 (pc := 0) (x := (.aload_n 2, 1)) (by decide +kernel)) rfl
theorem e_7_1 : Df d 7 1 [l0, l1, l2, l3, l4] st h nx = Df d 7 2 [l0, l1, l2, l3, l4] (.int 0 :: st) h nx := D_iconst (ins_of mc_7 (pc := 1) (x := (.iconst 0, 1)) (by decide +kernel)) (by decide)
theorem e_7_2 : Df d 7 2 [.ref a, l1, l2, l3, l4] st h nx = Df d 7 3 [.ref a, l1, l2, l3, l4] (.ref a :: st) h nx := D_aload_n (ins_of mc_7 (pc := 2) (x := (.aload_n 0, 1)) (by decide +kernel)) rfl
theorem e_7_3 : Df d 7 3 [l0, l1, l2, l3, l4] (.ref a :: st) h nx = (gF h a 1 12).bind fun v => Df d 7 6 [l0, l1, l2, l3, l4] (v :: st) h nx := D_getfield (ins_of mc_7 (pc := 3) (x := (.getfield 52, 3)) (by decide +kernel)) mo_7 (by decide +kernel)
theorem e_7_6 : Df d 7 6 [l0, l1, l2, l3, l4] [v1, v0, .ref a] h nx = if ck h a 3 = true then cn d 7 9 [l0, l1, l2, l3, l4] [] (Dn d 33 [.ref a, v0, v1] h nx) else none := D_virtual (k1 := 33) (ins_of mc_7 (pc := 6) (x := (.invokevirtual 95, 3)) (by decide +kernel)) mo_7 (by decide +kernel) (by decide) rfl rfl (by decide) rfl (Nat.le_of_ble_eq_true rfl) rfl
theorem e_7_9 (hn : nr l3 = true) : Df d 7 9 [l0, l1, l2, l3, l4] (.int x :: st) h nx = Df d 7 10 [l0, l1, l2, .int x, l4] st h nx := D_istore_n (ins_of mc_7 (pc := 9) (x := (.istore_n 3, 1)) (by decide +kernel)) rfl hn rfl
theorem e_7_10 : Df d 7 10 [l0, l1, l2, .int x, l4] st h nx = Df d 7 11 [l0, l1, l2, .int x, l4] (.int x :: st) h nx := D_iload_n (ins_of mc_7 (pc := 10) (x := (.iload_n 3, 1)) (by decide +kernel)) rfl
theorem e_7_11 : Df d 7 11 [l0, l1, l2, l3, l4] st h nx = Df d 7 13 [l0, l1, l2, l3, l4] (.int (-1000000005) :: st) h nx := D_ldc (ins_of mc_7 (pc := 11) (x := (.ldc 101, 2)) (by decide +kernel)) mo_7 (by decide +kernel)
theorem e_7_13 : Df d 7 13 [l0, l1, l2, l3, l4] (.int y :: .int x :: st) h nx = if x = y then Df d 7 16 [l0, l1, l2, l3, l4] st h nx else Df d 7 25 [l0, l1, l2, l3, l4] st h nx := D_icmp_ne (ins_of mc_7 (pc := 13) (x := (.if_icmp .ne 12, 3)) (by decide +kernel)) (by decide)
theorem e_7_16 : Df d 7 16 [.ref a, l1, l2, l3, l4] st h nx = Df d 7 17 [.ref a, l1, l2, l3, l4] (.ref a :: st) h nx := D_aload_n (ins_of mc_7 (pc := 16) (x := (.aload_n 0, 1)) (by decide +kernel)) rfl
theorem e_7_17 : Df d 7 17 [l0, l1, l2, l3, l4] (.ref a :: st) h nx = (gF h a 1 4).bind fun v => Df d 7 20 [l0, l1, l2, l3, l4] (v :: st) h nx := D_getfield (ins_of mc_7 (pc := 17) (x := (.getfield 28, 3)) (by decide +kernel)) mo_7 (by decide +kernel)
theorem e_7_20 : Df d 7 20 [l0, l1, l2, l3, l4] st h nx = Df d 7 21 [l0, l1, l2, l3, l4] (.int 1 :: st) h nx := D_iconst (ins_of mc_7 (pc := 20) (x := (.iconst 1, 1)) (by decide +kernel)) (by decide)
theorem e_7_21 : Df d 7 21 [l0, l1, l2, l3, l4] (.int y :: .int x :: st) h nx = Df d 7 22 [l0, l1, l2, l3, l4] (.int (x + y) :: st) h nx := D_iadd (ins_of mc_7 (pc := 21) (x := (.iadd, 1)) (by decide +kernel))
theorem e_7_22 : Df d 7 22 [l0, l1, l2, l3, l4] st h nx = Df d 7 48 [l0, l1, l2, l3, l4] st h nx := D_goto (ins_of mc_7 (pc := 22) (x := (.goto 26, 3)) (by decide +kernel)) (by decide)
theorem e_7_25 : Df d 7 25 [l0, l1, .ref a, l3, l4] st h nx = Df d 7 26 [l0, l1, .ref a, l3, l4] (.ref a :: st) h nx := D_aload_n (ins_of mc_7 (pc := 25) (x := (.aload_n 2, 1)) (by decide +kernel)) rfl
theorem e_7_26 : Df d 7 26 [l0, l1, l2, .int x, l4] st h nx = Df d 7 27 [l0, l1, l2, .int x, l4] (.int x :: st) h nx := D_iload_n (ins_of mc_7 (pc := 26) (x := (.iload_n 3, 1)) (by decide +kernel)) rfl
theorem e_7_27 : Df d 7 27 [.ref a, l1, l2, l3, l4] st h nx = Df d 7 28 [.ref a, l1, l2, l3, l4] (.ref a :: st) h nx := D_aload_n (ins_of mc_7 (pc := 27) (x := (.aload_n 0, 1)) (by decide +kernel)) rfl
theorem e_7_28 : Df d 7 28 [l0, l1, l2, l3, l4] (.ref a :: st) h nx = (gF h a 1 4).bind fun v => Df d 7 31 [l0, l1, l2, l3, l4] (v :: st) h nx := D_getfield (ins_of mc_7 (pc := 28) (x := (.getfield 28, 3)) (by decide +kernel)) mo_7 (by decide +kernel)
theorem e_7_31 : Df d 7 31 [l0, .ref a, l2, l3, l4] st h nx = Df d 7 32 [l0, .ref a, l2, l3, l4] (.ref a :: st) h nx := D_aload_n (ins_of mc_7 (pc := 31) (x := (.aload_n 1, 1)) (by decide +kernel)) rfl
theorem e_7_32 : Df d 7 32 [l0, l1, l2, l3, l4] (.ref a :: st) h nx = (gF h a 7 2).bind fun v => Df d 7 35 [l0, l1, l2, l3, l4] (v :: st) h nx := D_getfield (ins_of mc_7 (pc := 32) (x := (.getfield 92, 3)) (by decide +kernel)) mo_7 (by decide +kernel)
theorem e_7_35 : Df d 7 35 [l0, .ref a, l2, l3, l4] st h nx = Df d 7 36 [l0, .ref a, l2, l3, l4] (.ref a :: st) h nx := D_aload_n (ins_of mc_7 (pc := 35) (x := (.aload_n 1, 1)) (by decide +kernel)) rfl
theorem e_7_36 : Df d 7 36 [l0, l1, l2, l3, l4] (.ref a :: st) h nx = (gF h a 7 1).bind fun v => Df d 7 39 [l0, l1, l2, l3, l4] (v :: st) h nx := D_getfield (ins_of mc_7 (pc := 36) (x := (.getfield 70, 3)) (by decide +kernel)) mo_7 (by decide +kernel)
theorem e_7_39 : Df d 7 39 [l0, l1, l2, l3, l4] [v3, v2, v1, v0, .ref a] h nx = if ck h a 3 = true then cn d 7 42 [l0, l1, l2, l3, l4] [] (Dn d 34 [.ref a, v0, v1, v2, v3] h nx) else none := D_virtual (k1 := 34) (ins_of mc_7 (pc := 39) (x := (.invokevirtual 102, 3)) (by decide +kernel)) mo_7 (by decide +kernel) (by decide) rfl rfl (by decide) rfl (Nat.le_of_ble_eq_true rfl) rfl
theorem e_7_42 : Df d 7 42 [l0, l1, l2, l3, l4] st h nx = Df d 7 43 [l0, l1, l2, l3, l4] (.int 0 :: st) h nx := D_iconst (ins_of mc_7 (pc := 42) (x := (.iconst 0, 1)) (by decide +kernel)) (by decide)
theorem e_7_43 : Df d 7 43 [l0, l1, l2, l3, l4] st h nx = Df d 7 45 [l0, l1, l2, l3, l4] (.int 40 :: st) h nx := D_bipush (ins_of mc_7 (pc := 43) (x := (.bipush 40, 2)) (by decide +kernel)) (by decide)
theorem e_7_45 : Df d 7 45 [l0, l1, l2, l3, l4] [v2, v1, v0] h nx = cn d 7 48 [l0, l1, l2, l3, l4] [] (Dn d 76 [v0, v1, v2] h nx) := D_static (k1 := 76) (kd := 2) (ins_of mc_7 (pc := 45) (x := (.invokestatic 106, 3)) (by decide +kernel)) mo_7 (by decide +kernel) (by decide) rfl (Nat.le_of_ble_eq_true rfl) rfl (Nat.le_of_ble_eq_true rfl) rfl
theorem e_7_48 (hn : nr l4 = true) : Df d 7 48 [l0, l1, l2, l3, l4] (.int x :: st) h nx = Df d 7 50 [l0, l1, l2, l3, .int x] st h nx := D_istore (ins_of mc_7 (pc := 48) (x := (.istore 4, 2)) (by decide +kernel)) rfl hn rfl
theorem e_7_50 : Df d 7 50 [l0, .ref a, l2, l3, l4] st h nx = Df d 7 51 [l0, .ref a, l2, l3, l4] (.ref a :: st) h nx := D_aload_n (ins_of mc_7 (pc := 50) (x := (.aload_n 1, 1)) (by decide +kernel)) rfl
theorem e_7_51 : Df d 7 51 [l0, l1, l2, l3, l4] (.ref a :: st) h nx = (gF h a 7 0).bind fun v => Df d 7 54 [l0, l1, l2, l3, l4] (v :: st) h nx := D_getfield (ins_of mc_7 (pc := 51) (x := (.getfield 109, 3)) (by decide +kernel)) mo_7 (by decide +kernel)
theorem e_7_54 : Df d 7 54 [l0, l1, l2, l3, l4] (.int x :: st) h nx = if x = 1 then Df d 7 88 [l0, l1, l2, l3, l4] st h nx else if x = 2 then Df d 7 100 [l0, l1, l2, l3, l4] st h nx else if x = 3 then Df d 7 93 [l0, l1, l2, l3, l4] st h nx else if x = 4 then Df d 7 105 [l0, l1, l2, l3, l4] st h nx else if x = 5 then Df d 7 117 [l0, l1, l2, l3, l4] st h nx else Df d 7 119 [l0, l1, l2, l3, l4] st h nx := by
  have hi := (ins_of mc_7 (pc := 54) (x := (.tableswitch 65 1 5 #[34, 46, 39, 51, 63], 34)) (by decide +kernel))
  by_cases q0 : x = 1
  · subst q0
    rw [if_pos rfl]
    exact D_tswI (off := 34) hi (by decide) (by decide) (by decide)
  rw [if_neg q0]
  by_cases q1 : x = 2
  · subst q1
    rw [if_pos rfl]
    exact D_tswI (off := 46) hi (by decide) (by decide) (by decide)
  rw [if_neg q1]
  by_cases q2 : x = 3
  · subst q2
    rw [if_pos rfl]
    exact D_tswI (off := 39) hi (by decide) (by decide) (by decide)
  rw [if_neg q2]
  by_cases q3 : x = 4
  · subst q3
    rw [if_pos rfl]
    exact D_tswI (off := 51) hi (by decide) (by decide) (by decide)
  rw [if_neg q3]
  by_cases q4 : x = 5
  · subst q4
    rw [if_pos rfl]
    exact D_tswI (off := 63) hi (by decide) (by decide) (by decide)
  rw [if_neg q4]
  have r0 : x.toInt ≠ 1 := fun z => q0 (Int32.toInt_inj.mp (z.trans (by decide)))
  have r1 : x.toInt ≠ 2 := fun z => q1 (Int32.toInt_inj.mp (z.trans (by decide)))
  have r2 : x.toInt ≠ 3 := fun z => q2 (Int32.toInt_inj.mp (z.trans (by decide)))
  have r3 : x.toInt ≠ 4 := fun z => q3 (Int32.toInt_inj.mp (z.trans (by decide)))
  have r4 : x.toInt ≠ 5 := fun z => q4 (Int32.toInt_inj.mp (z.trans (by decide)))
  exact D_tswO hi (by omega) (by decide)
theorem e_7_88 : Df d 7 88 [l0, l1, l2, l3, .int x] st h nx = Df d 7 90 [l0, l1, l2, l3, .int x] (.int x :: st) h nx := D_iload (ins_of mc_7 (pc := 88) (x := (.iload 4, 2)) (by decide +kernel)) rfl
theorem e_7_90 : Df d 7 90 [l0, l1, l2, l3, l4] st h nx = Df d 7 91 [l0, l1, l2, l3, l4] (.int 2 :: st) h nx := D_iconst (ins_of mc_7 (pc := 90) (x := (.iconst 2, 1)) (by decide +kernel)) (by decide)
theorem e_7_91 : Df d 7 91 [l0, l1, l2, l3, l4] (.int y :: .int x :: st) h nx = Df d 7 92 [l0, l1, l2, l3, l4] (.int (x + y) :: st) h nx := D_iadd (ins_of mc_7 (pc := 91) (x := (.iadd, 1)) (by decide +kernel))
theorem e_7_92 : Df d 7 92 [l0, l1, l2, l3, l4] [.int x] h nx = some (some (.int x), h, nx) := D_ireturn (ins_of mc_7 (pc := 92) (x := (.ireturn, 1)) (by decide +kernel)) mr_7
theorem e_7_93 : Df d 7 93 [l0, l1, l2, l3, .int x] st h nx = Df d 7 95 [l0, l1, l2, l3, .int x] (.int x :: st) h nx := D_iload (ins_of mc_7 (pc := 93) (x := (.iload 4, 2)) (by decide +kernel)) rfl
theorem e_7_95 : Df d 7 95 [l0, l1, l2, l3, l4] st h nx = Df d 7 96 [l0, l1, l2, l3, l4] (.int 2 :: st) h nx := D_iconst (ins_of mc_7 (pc := 95) (x := (.iconst 2, 1)) (by decide +kernel)) (by decide)
theorem e_7_96 : Df d 7 96 [l0, l1, l2, l3, l4] (.int y :: .int x :: st) h nx = Df d 7 97 [l0, l1, l2, l3, l4] (.int (x + y) :: st) h nx := D_iadd (ins_of mc_7 (pc := 96) (x := (.iadd, 1)) (by decide +kernel))
theorem e_7_97 : Df d 7 97 [l0, l1, l2, l3, l4] st h nx = Df d 7 98 [l0, l1, l2, l3, l4] (.int 1 :: st) h nx := D_iconst (ins_of mc_7 (pc := 97) (x := (.iconst 1, 1)) (by decide +kernel)) (by decide)
theorem e_7_98 : Df d 7 98 [l0, l1, l2, l3, l4] (.int y :: .int x :: st) h nx = Df d 7 99 [l0, l1, l2, l3, l4] (.int (x - y) :: st) h nx := D_isub (ins_of mc_7 (pc := 98) (x := (.isub, 1)) (by decide +kernel))
theorem e_7_99 : Df d 7 99 [l0, l1, l2, l3, l4] [.int x] h nx = some (some (.int x), h, nx) := D_ireturn (ins_of mc_7 (pc := 99) (x := (.ireturn, 1)) (by decide +kernel)) mr_7
theorem e_7_100 : Df d 7 100 [l0, l1, l2, l3, .int x] st h nx = Df d 7 102 [l0, l1, l2, l3, .int x] (.int x :: st) h nx := D_iload (ins_of mc_7 (pc := 100) (x := (.iload 4, 2)) (by decide +kernel)) rfl
theorem e_7_102 : Df d 7 102 [l0, l1, l2, l3, l4] st h nx = Df d 7 103 [l0, l1, l2, l3, l4] (.int 2 :: st) h nx := D_iconst (ins_of mc_7 (pc := 102) (x := (.iconst 2, 1)) (by decide +kernel)) (by decide)
theorem e_7_103 : Df d 7 103 [l0, l1, l2, l3, l4] (.int y :: .int x :: st) h nx = if y = 0 then none else Df d 7 104 [l0, l1, l2, l3, l4] (.int (x / y) :: st) h nx := D_idiv (ins_of mc_7 (pc := 103) (x := (.idiv, 1)) (by decide +kernel))
theorem e_7_104 : Df d 7 104 [l0, l1, l2, l3, l4] [.int x] h nx = some (some (.int x), h, nx) := D_ireturn (ins_of mc_7 (pc := 104) (x := (.ireturn, 1)) (by decide +kernel)) mr_7
theorem e_7_105 : Df d 7 105 [l0, l1, l2, l3, .int x] st h nx = Df d 7 107 [l0, l1, l2, l3, .int x] (.int x :: st) h nx := D_iload (ins_of mc_7 (pc := 105) (x := (.iload 4, 2)) (by decide +kernel)) rfl
theorem e_7_107 : Df d 7 107 [l0, l1, l2, l3, l4] st h nx = Df d 7 108 [l0, l1, l2, l3, l4] (.int 2 :: st) h nx := D_iconst (ins_of mc_7 (pc := 107) (x := (.iconst 2, 1)) (by decide +kernel)) (by decide)
theorem e_7_108 : Df d 7 108 [l0, l1, l2, l3, l4] (.int y :: .int x :: st) h nx = if y = 0 then none else Df d 7 109 [l0, l1, l2, l3, l4] (.int (x / y) :: st) h nx := D_idiv (ins_of mc_7 (pc := 108) (x := (.idiv, 1)) (by decide +kernel))
theorem e_7_109 : Df d 7 109 [.ref a, l1, l2, l3, l4] st h nx = Df d 7 110 [.ref a, l1, l2, l3, l4] (.ref a :: st) h nx := D_aload_n (ins_of mc_7 (pc := 109) (x := (.aload_n 0, 1)) (by decide +kernel)) rfl
theorem e_7_110 : Df d 7 110 [l0, l1, l2, l3, l4] (.ref a :: st) h nx = (gF h a 1 10).bind fun v => Df d 7 113 [l0, l1, l2, l3, l4] (v :: st) h nx := D_getfield (ins_of mc_7 (pc := 110) (x := (.getfield 46, 3)) (by decide +kernel)) mo_7 (by decide +kernel)
theorem e_7_113 : Df d 7 113 [l0, l1, l2, l3, l4] st h nx = Df d 7 114 [l0, l1, l2, l3, l4] (.int 2 :: st) h nx := D_iconst (ins_of mc_7 (pc := 113) (x := (.iconst 2, 1)) (by decide +kernel)) (by decide)
theorem e_7_114 : Df d 7 114 [l0, l1, l2, l3, l4] (.int y :: .int x :: st) h nx = if y = 0 then none else Df d 7 115 [l0, l1, l2, l3, l4] (.int (x - x / y * y) :: st) h nx := D_irem (ins_of mc_7 (pc := 114) (x := (.irem, 1)) (by decide +kernel))
theorem e_7_115 : Df d 7 115 [l0, l1, l2, l3, l4] (.int y :: .int x :: st) h nx = Df d 7 116 [l0, l1, l2, l3, l4] (.int (x + y) :: st) h nx := D_iadd (ins_of mc_7 (pc := 115) (x := (.iadd, 1)) (by decide +kernel))
theorem e_7_116 : Df d 7 116 [l0, l1, l2, l3, l4] [.int x] h nx = some (some (.int x), h, nx) := D_ireturn (ins_of mc_7 (pc := 116) (x := (.ireturn, 1)) (by decide +kernel)) mr_7
theorem e_7_117 : Df d 7 117 [l0, l1, l2, l3, l4] st h nx = Df d 7 118 [l0, l1, l2, l3, l4] (.int 1 :: st) h nx := D_iconst (ins_of mc_7 (pc := 117) (x := (.iconst 1, 1)) (by decide +kernel)) (by decide)
theorem e_7_118 : Df d 7 118 [l0, l1, l2, l3, l4] [.int x] h nx = some (some (.int x), h, nx) := D_ireturn (ins_of mc_7 (pc := 118) (x := (.ireturn, 1)) (by decide +kernel)) mr_7
theorem e_7_119 : Df d 7 119 [l0, l1, l2, l3, .int x] st h nx = Df d 7 121 [l0, l1, l2, l3, .int x] (.int x :: st) h nx := D_iload (ins_of mc_7 (pc := 119) (x := (.iload 4, 2)) (by decide +kernel)) rfl
theorem e_7_121 : Df d 7 121 [l0, l1, l2, l3, l4] [.int x] h nx = some (some (.int x), h, nx) := D_ireturn (ins_of mc_7 (pc := 121) (x := (.ireturn, 1)) (by decide +kernel)) mr_7
theorem mc_8 : mC 8 = prog_3_method_15_code := rfl
theorem mo_8 : mO 8 = 1 := rfl
theorem ml_8 : mL 8 = 2 := rfl
theorem mr_8 : mR 8 = (some .int) := rfl
theorem ma_8 : mA 8 = 1 := rfl
theorem e_8_0 : Df d 8 0 [l0, .ref a] st h nx = Df d 8 1 [l0, .ref a] (.ref a :: st) h nx := D_aload_n (ins_of mc_8 (pc := 0) (x := (.aload_n 1, 1)) (by decide +kernel)) rfl
theorem e_8_1 : Df d 8 1 [l0, l1] (.ref a :: st) h nx = (gF h a 7 0).bind fun v => Df d 8 4 [l0, l1] (v :: st) h nx := D_getfield (ins_of mc_8 (pc := 1) (x := (.getfield 109, 3)) (by decide +kernel)) mo_8 (by decide +kernel)
theorem e_8_4 : Df d 8 4 [l0, l1] (.int x :: st) h nx = if x = 3 then Df d 8 32 [l0, l1] st h nx else if x = 4 then Df d 8 57 [l0, l1] st h nx else if x = 5 then Df d 8 67 [l0, l1] st h nx else Df d 8 69 [l0, l1] st h nx := by
  have hi := (ins_of mc_8 (pc := 4) (x := (.tableswitch 65 3 5 #[28, 53, 63], 28)) (by decide +kernel))
  by_cases q0 : x = 3
  · subst q0
    rw [if_pos rfl]
    exact D_tswI (off := 28) hi (by decide) (by decide) (by decide)
  rw [if_neg q0]
  by_cases q1 : x = 4
  · subst q1
    rw [if_pos rfl]
    exact D_tswI (off := 53) hi (by decide) (by decide) (by decide)
  rw [if_neg q1]
  by_cases q2 : x = 5
  · subst q2
    rw [if_pos rfl]
    exact D_tswI (off := 63) hi (by decide) (by decide) (by decide)
  rw [if_neg q2]
  have r0 : x.toInt ≠ 3 := fun z => q0 (Int32.toInt_inj.mp (z.trans (by decide)))
  have r1 : x.toInt ≠ 4 := fun z => q1 (Int32.toInt_inj.mp (z.trans (by decide)))
  have r2 : x.toInt ≠ 5 := fun z => q2 (Int32.toInt_inj.mp (z.trans (by decide)))
  exact D_tswO hi (by omega) (by decide)
theorem e_8_32 : Df d 8 32 [l0, .ref a] st h nx = Df d 8 33 [l0, .ref a] (.ref a :: st) h nx := D_aload_n (ins_of mc_8 (pc := 32) (x := (.aload_n 1, 1)) (by decide +kernel)) rfl
theorem e_8_33 : Df d 8 33 [l0, l1] (.ref a :: st) h nx = (gF h a 7 3).bind fun v => Df d 8 36 [l0, l1] (v :: st) h nx := D_getfield (ins_of mc_8 (pc := 33) (x := (.getfield 112, 3)) (by decide +kernel)) mo_8 (by decide +kernel)
theorem e_8_36 : Df d 8 36 [l0, l1] st h nx = Df d 8 38 [l0, l1] (.int 24 :: st) h nx := D_bipush (ins_of mc_8 (pc := 36) (x := (.bipush 24, 2)) (by decide +kernel)) (by decide)
theorem e_8_38 : Df d 8 38 [l0, l1] (.int y :: .int x :: st) h nx = if x = y then Df d 8 41 [l0, l1] st h nx else Df d 8 48 [l0, l1] st h nx := D_icmp_ne (ins_of mc_8 (pc := 38) (x := (.if_icmp .ne 10, 3)) (by decide +kernel)) (by decide)
theorem e_8_41 : Df d 8 41 [.ref a, l1] st h nx = Df d 8 42 [.ref a, l1] (.ref a :: st) h nx := D_aload_n (ins_of mc_8 (pc := 41) (x := (.aload_n 0, 1)) (by decide +kernel)) rfl
theorem e_8_42 : Df d 8 42 [l0, l1] [.ref a] h nx = if ck h a 1 = true then cn d 8 45 [l0, l1] [] (Dn d 9 [.ref a] h nx) else none := D_virtual (k1 := 9) (ins_of mc_8 (pc := 42) (x := (.invokevirtual 115, 3)) (by decide +kernel)) mo_8 (by decide +kernel) (by decide) rfl rfl (by decide) rfl (Nat.le_of_ble_eq_true rfl) rfl
theorem e_8_45 : Df d 8 45 [l0, l1] st h nx = Df d 8 56 [l0, l1] st h nx := D_goto (ins_of mc_8 (pc := 45) (x := (.goto 11, 3)) (by decide +kernel)) (by decide)
theorem e_8_48 : Df d 8 48 [.ref a, l1] st h nx = Df d 8 49 [.ref a, l1] (.ref a :: st) h nx := D_aload_n (ins_of mc_8 (pc := 48) (x := (.aload_n 0, 1)) (by decide +kernel)) rfl
theorem e_8_49 : Df d 8 49 [l0, .ref a] st h nx = Df d 8 50 [l0, .ref a] (.ref a :: st) h nx := D_aload_n (ins_of mc_8 (pc := 49) (x := (.aload_n 1, 1)) (by decide +kernel)) rfl
theorem e_8_50 : Df d 8 50 [l0, l1] (.ref a :: st) h nx = (gF h a 7 3).bind fun v => Df d 8 53 [l0, l1] (v :: st) h nx := D_getfield (ins_of mc_8 (pc := 50) (x := (.getfield 112, 3)) (by decide +kernel)) mo_8 (by decide +kernel)
theorem e_8_53 : Df d 8 53 [l0, l1] [v0, .ref a] h nx = if ck h a 1 = true then cn d 8 56 [l0, l1] [] (Dn d 10 [.ref a, v0] h nx) else none := D_virtual (k1 := 10) (ins_of mc_8 (pc := 53) (x := (.invokevirtual 118, 3)) (by decide +kernel)) mo_8 (by decide +kernel) (by decide) rfl rfl (by decide) rfl (Nat.le_of_ble_eq_true rfl) rfl
theorem e_8_56 : Df d 8 56 [l0, l1] [.int x] h nx = some (some (.int x), h, nx) := D_ireturn (ins_of mc_8 (pc := 56) (x := (.ireturn, 1)) (by decide +kernel)) mr_8
theorem e_8_57 : Df d 8 57 [.ref a, l1] st h nx = Df d 8 58 [.ref a, l1] (.ref a :: st) h nx := D_aload_n (ins_of mc_8 (pc := 57) (x := (.aload_n 0, 1)) (by decide +kernel)) rfl
theorem e_8_58 : Df d 8 58 [l0, .ref a] st h nx = Df d 8 59 [l0, .ref a] (.ref a :: st) h nx := D_aload_n (ins_of mc_8 (pc := 58) (x := (.aload_n 1, 1)) (by decide +kernel)) rfl
theorem e_8_59 : Df d 8 59 [l0, l1] (.ref a :: st) h nx = (gF h a 7 3).bind fun v => Df d 8 62 [l0, l1] (v :: st) h nx := D_getfield (ins_of mc_8 (pc := 59) (x := (.getfield 112, 3)) (by decide +kernel)) mo_8 (by decide +kernel)
theorem e_8_62 : Df d 8 62 [l0, l1] [v0, .ref a] h nx = if ck h a 1 = true then cn d 8 65 [l0, l1] [] (Dn d 10 [.ref a, v0] h nx) else none := D_virtual (k1 := 10) (ins_of mc_8 (pc := 62) (x := (.invokevirtual 118, 3)) (by decide +kernel)) mo_8 (by decide +kernel) (by decide) rfl rfl (by decide) rfl (Nat.le_of_ble_eq_true rfl) rfl
theorem e_8_65 : Df d 8 65 [l0, l1] (.int x :: st) h nx = Df d 8 66 [l0, l1] (.int (-x) :: st) h nx := D_ineg (ins_of mc_8 (pc := 65) (x := (.ineg, 1)) (by decide +kernel))
theorem e_8_66 : Df d 8 66 [l0, l1] [.int x] h nx = some (some (.int x), h, nx) := D_ireturn (ins_of mc_8 (pc := 66) (x := (.ireturn, 1)) (by decide +kernel)) mr_8
theorem e_8_67 : Df d 8 67 [l0, l1] st h nx = Df d 8 68 [l0, l1] (.int 1 :: st) h nx := D_iconst (ins_of mc_8 (pc := 67) (x := (.iconst 1, 1)) (by decide +kernel)) (by decide)
theorem e_8_68 : Df d 8 68 [l0, l1] [.int x] h nx = some (some (.int x), h, nx) := D_ireturn (ins_of mc_8 (pc := 68) (x := (.ireturn, 1)) (by decide +kernel)) mr_8
theorem e_8_69 : Df d 8 69 [.ref a, l1] st h nx = Df d 8 70 [.ref a, l1] (.ref a :: st) h nx := D_aload_n (ins_of mc_8 (pc := 69) (x := (.aload_n 0, 1)) (by decide +kernel)) rfl
theorem e_8_70 : Df d 8 70 [l0, .ref a] st h nx = Df d 8 71 [l0, .ref a] (.ref a :: st) h nx := D_aload_n (ins_of mc_8 (pc := 70) (x := (.aload_n 1, 1)) (by decide +kernel)) rfl
theorem e_8_71 : Df d 8 71 [l0, l1] (.ref a :: st) h nx = (gF h a 7 3).bind fun v => Df d 8 74 [l0, l1] (v :: st) h nx := D_getfield (ins_of mc_8 (pc := 71) (x := (.getfield 112, 3)) (by decide +kernel)) mo_8 (by decide +kernel)
theorem e_8_74 : Df d 8 74 [l0, l1] [v0, .ref a] h nx = if ck h a 1 = true then cn d 8 77 [l0, l1] [] (Dn d 10 [.ref a, v0] h nx) else none := D_virtual (k1 := 10) (ins_of mc_8 (pc := 74) (x := (.invokevirtual 118, 3)) (by decide +kernel)) mo_8 (by decide +kernel) (by decide) rfl rfl (by decide) rfl (Nat.le_of_ble_eq_true rfl) rfl
theorem e_8_77 : Df d 8 77 [l0, l1] [.int x] h nx = some (some (.int x), h, nx) := D_ireturn (ins_of mc_8 (pc := 77) (x := (.ireturn, 1)) (by decide +kernel)) mr_8
theorem mc_9 : mC 9 = prog_3_method_17_code := rfl
theorem mo_9 : mO 9 = 1 := rfl
theorem ml_9 : mL 9 = 2 := rfl
theorem mr_9 : mR 9 = (some .int) := rfl
theorem ma_9 : mA 9 = 0 := rfl
theorem e_9_0 : Df d 9 0 [l0, l1] st h nx = Df d 9 1 [l0, l1] (.int 0 :: st) h nx := D_iconst (ins_of mc_9 (pc := 0) (x := (.iconst 0, 1)) (by decide +kernel)) (by decide)
theorem e_9_1 (hn : nr l1 = true) : Df d 9 1 [l0, l1] (.int x :: st) h nx = Df d 9 2 [l0, .int x] st h nx := D_istore_n (ins_of mc_9 (pc := 1) (x := (.istore_n 1, 1)) (by decide +kernel)) rfl hn rfl
theorem e_9_2 : Df d 9 2 [l0, .int x] st h nx = Df d 9 3 [l0, .int x] (.int x :: st) h nx := D_iload_n (ins_of mc_9 (pc := 2) (x := (.iload_n 1, 1)) (by decide +kernel)) rfl
theorem e_9_3 : Df d 9 3 [l0, l1] st h nx = Df d 9 5 [l0, l1] (.int 12 :: st) h nx := D_bipush (ins_of mc_9 (pc := 3) (x := (.bipush 12, 2)) (by decide +kernel)) (by decide)
theorem e_9_5 : Df d 9 5 [l0, l1] (.int y :: .int x :: st) h nx = if y < x then Df d 9 64 [l0, l1] st h nx else Df d 9 8 [l0, l1] st h nx := D_icmp_gt (ins_of mc_9 (pc := 5) (x := (.if_icmp .gt 59, 3)) (by decide +kernel)) (by decide)
theorem e_9_8 : Df d 9 8 [.ref a, l1] st h nx = Df d 9 9 [.ref a, l1] (.ref a :: st) h nx := D_aload_n (ins_of mc_9 (pc := 8) (x := (.aload_n 0, 1)) (by decide +kernel)) rfl
theorem e_9_9 : Df d 9 9 [l0, l1] (.ref a :: st) h nx = (gF h a 1 0).bind fun v => Df d 9 12 [l0, l1] (v :: st) h nx := D_getfield (ins_of mc_9 (pc := 9) (x := (.getfield 9, 3)) (by decide +kernel)) mo_9 (by decide +kernel)
theorem e_9_12 : Df d 9 12 [.ref a, l1] st h nx = Df d 9 13 [.ref a, l1] (.ref a :: st) h nx := D_aload_n (ins_of mc_9 (pc := 12) (x := (.aload_n 0, 1)) (by decide +kernel)) rfl
theorem e_9_13 : Df d 9 13 [l0, l1] (.ref a :: st) h nx = (gF h a 1 3).bind fun v => Df d 9 16 [l0, l1] (v :: st) h nx := D_getfield (ins_of mc_9 (pc := 13) (x := (.getfield 25, 3)) (by decide +kernel)) mo_9 (by decide +kernel)
theorem e_9_16 : Df d 9 16 [l0, .int x] st h nx = Df d 9 17 [l0, .int x] (.int x :: st) h nx := D_iload_n (ins_of mc_9 (pc := 16) (x := (.iload_n 1, 1)) (by decide +kernel)) rfl
theorem e_9_17 : Df d 9 17 [l0, l1] (.int y :: .int x :: st) h nx = Df d 9 18 [l0, l1] (.int (x + y) :: st) h nx := D_iadd (ins_of mc_9 (pc := 17) (x := (.iadd, 1)) (by decide +kernel))
theorem e_9_18 : Df d 9 18 [l0, l1] st h nx = Df d 9 20 [l0, l1] (.int 24 :: st) h nx := D_bipush (ins_of mc_9 (pc := 18) (x := (.bipush 24, 2)) (by decide +kernel)) (by decide)
theorem e_9_20 : Df d 9 20 [l0, l1] [v1, v0, s0] h nx = cn d 9 23 [l0, l1] [s0] (Dn d 213 [v0, v1] h nx) := D_static (k1 := 213) (kd := 1) (ins_of mc_9 (pc := 20) (x := (.invokestatic 122, 3)) (by decide +kernel)) mo_9 (by decide +kernel) (by decide) rfl (Nat.le_of_ble_eq_true rfl) rfl (Nat.le_of_ble_eq_true rfl) rfl
theorem e_9_23 : Df d 9 23 [l0, l1] (.int x :: .ref a :: st) h nx = (rX h a x).bind fun v => Df d 9 24 [l0, l1] (.int v :: st) h nx := D_iaload (ins_of mc_9 (pc := 23) (x := (.iaload, 1)) (by decide +kernel))
theorem e_9_24 : Df d 9 24 [l0, l1] (.int x :: st) h nx = if x ≤ 0 then Df d 9 37 [l0, l1] st h nx else Df d 9 27 [l0, l1] st h nx := D_if_le (ins_of mc_9 (pc := 24) (x := (.ifCond .le 13, 3)) (by decide +kernel)) (by decide)
theorem e_9_27 : Df d 9 27 [l0, .int x] st h nx = Df d 9 28 [l0, .int x] (.int x :: st) h nx := D_iload_n (ins_of mc_9 (pc := 27) (x := (.iload_n 1, 1)) (by decide +kernel)) rfl
theorem e_9_28 : Df d 9 28 [l0, l1] (.int x :: st) h nx = if x = 0 then Df d 9 31 [l0, l1] st h nx else Df d 9 35 [l0, l1] st h nx := D_if_ne (ins_of mc_9 (pc := 28) (x := (.ifCond .ne 7, 3)) (by decide +kernel)) (by decide)
theorem e_9_31 : Df d 9 31 [l0, l1] st h nx = Df d 9 32 [l0, l1] (.int 0 :: st) h nx := D_iconst (ins_of mc_9 (pc := 31) (x := (.iconst 0, 1)) (by decide +kernel)) (by decide)
theorem e_9_32 : Df d 9 32 [l0, l1] st h nx = Df d 9 36 [l0, l1] st h nx := D_goto (ins_of mc_9 (pc := 32) (x := (.goto 4, 3)) (by decide +kernel)) (by decide)
theorem e_9_35 : Df d 9 35 [l0, l1] st h nx = Df d 9 36 [l0, l1] (.int 1 :: st) h nx := D_iconst (ins_of mc_9 (pc := 35) (x := (.iconst 1, 1)) (by decide +kernel)) (by decide)
theorem e_9_36 : Df d 9 36 [l0, l1] [.int x] h nx = some (some (.int x), h, nx) := D_ireturn (ins_of mc_9 (pc := 36) (x := (.ireturn, 1)) (by decide +kernel)) mr_9
theorem e_9_37 : Df d 9 37 [.ref a, l1] st h nx = Df d 9 38 [.ref a, l1] (.ref a :: st) h nx := D_aload_n (ins_of mc_9 (pc := 37) (x := (.aload_n 0, 1)) (by decide +kernel)) rfl
theorem e_9_38 : Df d 9 38 [l0, l1] (.ref a :: st) h nx = (gF h a 1 0).bind fun v => Df d 9 41 [l0, l1] (v :: st) h nx := D_getfield (ins_of mc_9 (pc := 38) (x := (.getfield 9, 3)) (by decide +kernel)) mo_9 (by decide +kernel)
theorem e_9_41 : Df d 9 41 [.ref a, l1] st h nx = Df d 9 42 [.ref a, l1] (.ref a :: st) h nx := D_aload_n (ins_of mc_9 (pc := 41) (x := (.aload_n 0, 1)) (by decide +kernel)) rfl
theorem e_9_42 : Df d 9 42 [l0, l1] (.ref a :: st) h nx = (gF h a 1 3).bind fun v => Df d 9 45 [l0, l1] (v :: st) h nx := D_getfield (ins_of mc_9 (pc := 42) (x := (.getfield 25, 3)) (by decide +kernel)) mo_9 (by decide +kernel)
theorem e_9_45 : Df d 9 45 [l0, .int x] st h nx = Df d 9 46 [l0, .int x] (.int x :: st) h nx := D_iload_n (ins_of mc_9 (pc := 45) (x := (.iload_n 1, 1)) (by decide +kernel)) rfl
theorem e_9_46 : Df d 9 46 [l0, l1] (.int y :: .int x :: st) h nx = Df d 9 47 [l0, l1] (.int (x - y) :: st) h nx := D_isub (ins_of mc_9 (pc := 46) (x := (.isub, 1)) (by decide +kernel))
theorem e_9_47 : Df d 9 47 [l0, l1] st h nx = Df d 9 49 [l0, l1] (.int 24 :: st) h nx := D_bipush (ins_of mc_9 (pc := 47) (x := (.bipush 24, 2)) (by decide +kernel)) (by decide)
theorem e_9_49 : Df d 9 49 [l0, l1] [v1, v0, s0] h nx = cn d 9 52 [l0, l1] [s0] (Dn d 213 [v0, v1] h nx) := D_static (k1 := 213) (kd := 1) (ins_of mc_9 (pc := 49) (x := (.invokestatic 122, 3)) (by decide +kernel)) mo_9 (by decide +kernel) (by decide) rfl (Nat.le_of_ble_eq_true rfl) rfl (Nat.le_of_ble_eq_true rfl) rfl
theorem e_9_52 : Df d 9 52 [l0, l1] (.int x :: .ref a :: st) h nx = (rX h a x).bind fun v => Df d 9 53 [l0, l1] (.int v :: st) h nx := D_iaload (ins_of mc_9 (pc := 52) (x := (.iaload, 1)) (by decide +kernel))
theorem e_9_53 : Df d 9 53 [l0, l1] (.int x :: st) h nx = if x ≤ 0 then Df d 9 58 [l0, l1] st h nx else Df d 9 56 [l0, l1] st h nx := D_if_le (ins_of mc_9 (pc := 53) (x := (.ifCond .le 5, 3)) (by decide +kernel)) (by decide)
theorem e_9_56 : Df d 9 56 [l0, l1] st h nx = Df d 9 57 [l0, l1] (.int (-1) :: st) h nx := D_iconst (ins_of mc_9 (pc := 56) (x := (.iconst (-1), 1)) (by decide +kernel)) (by decide)
theorem e_9_57 : Df d 9 57 [l0, l1] [.int x] h nx = some (some (.int x), h, nx) := D_ireturn (ins_of mc_9 (pc := 57) (x := (.ireturn, 1)) (by decide +kernel)) mr_9
theorem e_9_58 : Df d 9 58 [l0, .int x] st h nx = Df d 9 61 [l0, .int (x + 1)] st h nx := D_iinc (ins_of mc_9 (pc := 58) (x := (.iinc 1 1, 3)) (by decide +kernel)) rfl (by decide) rfl
theorem e_9_61 : Df d 9 61 [l0, l1] st h nx = Df d 9 2 [l0, l1] st h nx := D_goto (ins_of mc_9 (pc := 61) (x := (.goto (-59), 3)) (by decide +kernel)) (by decide)
theorem e_9_64 : Df d 9 64 [l0, l1] st h nx = Df d 9 65 [l0, l1] (.int 1 :: st) h nx := D_iconst (ins_of mc_9 (pc := 64) (x := (.iconst 1, 1)) (by decide +kernel)) (by decide)
theorem e_9_65 : Df d 9 65 [l0, l1] [.int x] h nx = some (some (.int x), h, nx) := D_ireturn (ins_of mc_9 (pc := 65) (x := (.ireturn, 1)) (by decide +kernel)) mr_9
theorem mc_10 : mC 10 = prog_3_method_16_code := rfl
theorem mo_10 : mO 10 = 1 := rfl
theorem ml_10 : mL 10 = 3 := rfl
theorem mr_10 : mR 10 = (some .int) := rfl
theorem ma_10 : mA 10 = 1 := rfl
theorem e_10_0 : Df d 10 0 [l0, .int x, l2] st h nx = Df d 10 1 [l0, .int x, l2] (.int x :: st) h nx := D_iload_n (ins_of mc_10 (pc := 0) (x := (.iload_n 1, 1)) (by decide +kernel)) rfl
theorem e_10_1 : Df d 10 1 [l0, l1, l2] st h nx = Df d 10 3 [l0, l1, l2] (.int 24 :: st) h nx := D_bipush (ins_of mc_10 (pc := 1) (x := (.bipush 24, 2)) (by decide +kernel)) (by decide)
theorem e_10_3 : Df d 10 3 [l0, l1, l2] (.int y :: .int x :: st) h nx = if x = y then Df d 10 6 [l0, l1, l2] st h nx else Df d 10 8 [l0, l1, l2] st h nx := D_icmp_ne (ins_of mc_10 (pc := 3) (x := (.if_icmp .ne 5, 3)) (by decide +kernel)) (by decide)
theorem e_10_6 : Df d 10 6 [l0, l1, l2] st h nx = Df d 10 7 [l0, l1, l2] (.int 1 :: st) h nx := D_iconst (ins_of mc_10 (pc := 6) (x := (.iconst 1, 1)) (by decide +kernel)) (by decide)
theorem e_10_7 : Df d 10 7 [l0, l1, l2] [.int x] h nx = some (some (.int x), h, nx) := D_ireturn (ins_of mc_10 (pc := 7) (x := (.ireturn, 1)) (by decide +kernel)) mr_10
theorem e_10_8 : Df d 10 8 [l0, .int x, l2] st h nx = Df d 10 9 [l0, .int x, l2] (.int x :: st) h nx := D_iload_n (ins_of mc_10 (pc := 8) (x := (.iload_n 1, 1)) (by decide +kernel)) rfl
theorem e_10_9 : Df d 10 9 [.ref a, l1, l2] st h nx = Df d 10 10 [.ref a, l1, l2] (.ref a :: st) h nx := D_aload_n (ins_of mc_10 (pc := 9) (x := (.aload_n 0, 1)) (by decide +kernel)) rfl
theorem e_10_10 : Df d 10 10 [l0, l1, l2] (.ref a :: st) h nx = (gF h a 1 3).bind fun v => Df d 10 13 [l0, l1, l2] (v :: st) h nx := D_getfield (ins_of mc_10 (pc := 10) (x := (.getfield 25, 3)) (by decide +kernel)) mo_10 (by decide +kernel)
theorem e_10_13 : Df d 10 13 [l0, l1, l2] (.int y :: .int x :: st) h nx = Df d 10 14 [l0, l1, l2] (.int (x - y) :: st) h nx := D_isub (ins_of mc_10 (pc := 13) (x := (.isub, 1)) (by decide +kernel))
theorem e_10_14 : Df d 10 14 [l0, l1, l2] st h nx = Df d 10 16 [l0, l1, l2] (.int 24 :: st) h nx := D_bipush (ins_of mc_10 (pc := 14) (x := (.bipush 24, 2)) (by decide +kernel)) (by decide)
theorem e_10_16 : Df d 10 16 [l0, l1, l2] [v1, v0] h nx = cn d 10 19 [l0, l1, l2] [] (Dn d 213 [v0, v1] h nx) := D_static (k1 := 213) (kd := 1) (ins_of mc_10 (pc := 16) (x := (.invokestatic 122, 3)) (by decide +kernel)) mo_10 (by decide +kernel) (by decide) rfl (Nat.le_of_ble_eq_true rfl) rfl (Nat.le_of_ble_eq_true rfl) rfl
theorem e_10_19 (hn : nr l2 = true) : Df d 10 19 [l0, l1, l2] (.int x :: st) h nx = Df d 10 20 [l0, l1, .int x] st h nx := D_istore_n (ins_of mc_10 (pc := 19) (x := (.istore_n 2, 1)) (by decide +kernel)) rfl hn rfl
theorem e_10_20 : Df d 10 20 [l0, l1, .int x] st h nx = Df d 10 21 [l0, l1, .int x] (.int x :: st) h nx := D_iload_n (ins_of mc_10 (pc := 20) (x := (.iload_n 2, 1)) (by decide +kernel)) rfl
theorem e_10_21 : Df d 10 21 [l0, l1, l2] (.int x :: st) h nx = if x = 0 then Df d 10 24 [l0, l1, l2] st h nx else Df d 10 26 [l0, l1, l2] st h nx := D_if_ne (ins_of mc_10 (pc := 21) (x := (.ifCond .ne 5, 3)) (by decide +kernel)) (by decide)
theorem e_10_24 : Df d 10 24 [l0, l1, l2] st h nx = Df d 10 25 [l0, l1, l2] (.int 0 :: st) h nx := D_iconst (ins_of mc_10 (pc := 24) (x := (.iconst 0, 1)) (by decide +kernel)) (by decide)
theorem e_10_25 : Df d 10 25 [l0, l1, l2] [.int x] h nx = some (some (.int x), h, nx) := D_ireturn (ins_of mc_10 (pc := 25) (x := (.ireturn, 1)) (by decide +kernel)) mr_10
theorem e_10_26 : Df d 10 26 [l0, l1, .int x] st h nx = Df d 10 27 [l0, l1, .int x] (.int x :: st) h nx := D_iload_n (ins_of mc_10 (pc := 26) (x := (.iload_n 2, 1)) (by decide +kernel)) rfl
theorem e_10_27 : Df d 10 27 [l0, l1, l2] st h nx = Df d 10 29 [l0, l1, l2] (.int 12 :: st) h nx := D_bipush (ins_of mc_10 (pc := 27) (x := (.bipush 12, 2)) (by decide +kernel)) (by decide)
theorem e_10_29 : Df d 10 29 [l0, l1, l2] (.int y :: .int x :: st) h nx = if y < x then Df d 10 36 [l0, l1, l2] st h nx else Df d 10 32 [l0, l1, l2] st h nx := D_icmp_gt (ins_of mc_10 (pc := 29) (x := (.if_icmp .gt 7, 3)) (by decide +kernel)) (by decide)
theorem e_10_32 : Df d 10 32 [l0, l1, l2] st h nx = Df d 10 33 [l0, l1, l2] (.int 1 :: st) h nx := D_iconst (ins_of mc_10 (pc := 32) (x := (.iconst 1, 1)) (by decide +kernel)) (by decide)
theorem e_10_33 : Df d 10 33 [l0, l1, l2] st h nx = Df d 10 37 [l0, l1, l2] st h nx := D_goto (ins_of mc_10 (pc := 33) (x := (.goto 4, 3)) (by decide +kernel)) (by decide)
theorem e_10_36 : Df d 10 36 [l0, l1, l2] st h nx = Df d 10 37 [l0, l1, l2] (.int (-1) :: st) h nx := D_iconst (ins_of mc_10 (pc := 36) (x := (.iconst (-1), 1)) (by decide +kernel)) (by decide)
theorem e_10_37 : Df d 10 37 [l0, l1, l2] [.int x] h nx = some (some (.int x), h, nx) := D_ireturn (ins_of mc_10 (pc := 37) (x := (.ireturn, 1)) (by decide +kernel)) mr_10
theorem mc_11 : mC 11 = prog_3_method_8_code := rfl
theorem mo_11 : mO 11 = 1 := rfl
theorem ml_11 : mL 11 = 4 := rfl
theorem mr_11 : mR 11 = (some .int) := rfl
theorem ma_11 : mA 11 = 2 := rfl
theorem e_11_0 : Df d 11 0 [l0, .int x, l2, l3] st h nx = Df d 11 1 [l0, .int x, l2, l3] (.int x :: st) h nx := D_iload_n (ins_of mc_11 (pc := 0) (x := (.iload_n 1, 1)) (by decide +kernel)) rfl
theorem e_11_1 : Df d 11 1 [l0, l1, l2, l3] (.int x :: st) h nx = if x = 0 then Df d 11 32 [l0, l1, l2, l3] st h nx else if x = 1 then Df d 11 45 [l0, l1, l2, l3] st h nx else if x = 2 then Df d 11 58 [l0, l1, l2, l3] st h nx else if x = 3 then Df d 11 71 [l0, l1, l2, l3] st h nx else Df d 11 84 [l0, l1, l2, l3] st h nx := by
  have hi := (ins_of mc_11 (pc := 1) (x := (.tableswitch 83 0 3 #[31, 44, 57, 70], 31)) (by decide +kernel))
  by_cases q0 : x = 0
  · subst q0
    rw [if_pos rfl]
    exact D_tswI (off := 31) hi (by decide) (by decide) (by decide)
  rw [if_neg q0]
  by_cases q1 : x = 1
  · subst q1
    rw [if_pos rfl]
    exact D_tswI (off := 44) hi (by decide) (by decide) (by decide)
  rw [if_neg q1]
  by_cases q2 : x = 2
  · subst q2
    rw [if_pos rfl]
    exact D_tswI (off := 57) hi (by decide) (by decide) (by decide)
  rw [if_neg q2]
  by_cases q3 : x = 3
  · subst q3
    rw [if_pos rfl]
    exact D_tswI (off := 70) hi (by decide) (by decide) (by decide)
  rw [if_neg q3]
  have r0 : x.toInt ≠ 0 := fun z => q0 (Int32.toInt_inj.mp (z.trans (by decide)))
  have r1 : x.toInt ≠ 1 := fun z => q1 (Int32.toInt_inj.mp (z.trans (by decide)))
  have r2 : x.toInt ≠ 2 := fun z => q2 (Int32.toInt_inj.mp (z.trans (by decide)))
  have r3 : x.toInt ≠ 3 := fun z => q3 (Int32.toInt_inj.mp (z.trans (by decide)))
  exact D_tswO hi (by omega) (by decide)
theorem e_11_32 : Df d 11 32 [.ref a, l1, l2, l3] st h nx = Df d 11 33 [.ref a, l1, l2, l3] (.ref a :: st) h nx := D_aload_n (ins_of mc_11 (pc := 32) (x := (.aload_n 0, 1)) (by decide +kernel)) rfl
theorem e_11_33 : Df d 11 33 [l0, l1, l2, l3] (.ref a :: st) h nx = (gF h a 1 4).bind fun v => Df d 11 36 [l0, l1, l2, l3] (v :: st) h nx := D_getfield (ins_of mc_11 (pc := 33) (x := (.getfield 28, 3)) (by decide +kernel)) mo_11 (by decide +kernel)
theorem e_11_36 (hn : nr l3 = true) : Df d 11 36 [l0, l1, l2, l3] (.int x :: st) h nx = Df d 11 37 [l0, l1, l2, .int x] st h nx := D_istore_n (ins_of mc_11 (pc := 36) (x := (.istore_n 3, 1)) (by decide +kernel)) rfl hn rfl
theorem e_11_37 : Df d 11 37 [.ref a, l1, l2, l3] st h nx = Df d 11 38 [.ref a, l1, l2, l3] (.ref a :: st) h nx := D_aload_n (ins_of mc_11 (pc := 37) (x := (.aload_n 0, 1)) (by decide +kernel)) rfl
theorem e_11_38 : Df d 11 38 [l0, l1, .int x, l3] st h nx = Df d 11 39 [l0, l1, .int x, l3] (.int x :: st) h nx := D_iload_n (ins_of mc_11 (pc := 38) (x := (.iload_n 2, 1)) (by decide +kernel)) rfl
theorem e_11_39 : Df d 11 39 [l0, l1, l2, l3] (.int x :: .ref a :: st) h nx = (pF h a 1 4 (.int x)).bind fun h => Df d 11 42 [l0, l1, l2, l3] st h nx := D_putfield (ins_of mc_11 (pc := 39) (x := (.putfield 28, 3)) (by decide +kernel)) mo_11 (by decide +kernel) rfl (Or.inl rfl)
theorem e_11_42 : Df d 11 42 [l0, l1, l2, l3] st h nx = Df d 11 94 [l0, l1, l2, l3] st h nx := D_goto (ins_of mc_11 (pc := 42) (x := (.goto 52, 3)) (by decide +kernel)) (by decide)
theorem e_11_45 : Df d 11 45 [.ref a, l1, l2, l3] st h nx = Df d 11 46 [.ref a, l1, l2, l3] (.ref a :: st) h nx := D_aload_n (ins_of mc_11 (pc := 45) (x := (.aload_n 0, 1)) (by decide +kernel)) rfl
theorem e_11_46 : Df d 11 46 [l0, l1, l2, l3] (.ref a :: st) h nx = (gF h a 1 5).bind fun v => Df d 11 49 [l0, l1, l2, l3] (v :: st) h nx := D_getfield (ins_of mc_11 (pc := 46) (x := (.getfield 31, 3)) (by decide +kernel)) mo_11 (by decide +kernel)
theorem e_11_49 (hn : nr l3 = true) : Df d 11 49 [l0, l1, l2, l3] (.int x :: st) h nx = Df d 11 50 [l0, l1, l2, .int x] st h nx := D_istore_n (ins_of mc_11 (pc := 49) (x := (.istore_n 3, 1)) (by decide +kernel)) rfl hn rfl
theorem e_11_50 : Df d 11 50 [.ref a, l1, l2, l3] st h nx = Df d 11 51 [.ref a, l1, l2, l3] (.ref a :: st) h nx := D_aload_n (ins_of mc_11 (pc := 50) (x := (.aload_n 0, 1)) (by decide +kernel)) rfl
theorem e_11_51 : Df d 11 51 [l0, l1, .int x, l3] st h nx = Df d 11 52 [l0, l1, .int x, l3] (.int x :: st) h nx := D_iload_n (ins_of mc_11 (pc := 51) (x := (.iload_n 2, 1)) (by decide +kernel)) rfl
theorem e_11_52 : Df d 11 52 [l0, l1, l2, l3] (.int x :: .ref a :: st) h nx = (pF h a 1 5 (.int x)).bind fun h => Df d 11 55 [l0, l1, l2, l3] st h nx := D_putfield (ins_of mc_11 (pc := 52) (x := (.putfield 31, 3)) (by decide +kernel)) mo_11 (by decide +kernel) rfl (Or.inl rfl)
theorem e_11_55 : Df d 11 55 [l0, l1, l2, l3] st h nx = Df d 11 94 [l0, l1, l2, l3] st h nx := D_goto (ins_of mc_11 (pc := 55) (x := (.goto 39, 3)) (by decide +kernel)) (by decide)
theorem e_11_58 : Df d 11 58 [.ref a, l1, l2, l3] st h nx = Df d 11 59 [.ref a, l1, l2, l3] (.ref a :: st) h nx := D_aload_n (ins_of mc_11 (pc := 58) (x := (.aload_n 0, 1)) (by decide +kernel)) rfl
theorem e_11_59 : Df d 11 59 [l0, l1, l2, l3] (.ref a :: st) h nx = (gF h a 1 6).bind fun v => Df d 11 62 [l0, l1, l2, l3] (v :: st) h nx := D_getfield (ins_of mc_11 (pc := 59) (x := (.getfield 34, 3)) (by decide +kernel)) mo_11 (by decide +kernel)
theorem e_11_62 (hn : nr l3 = true) : Df d 11 62 [l0, l1, l2, l3] (.int x :: st) h nx = Df d 11 63 [l0, l1, l2, .int x] st h nx := D_istore_n (ins_of mc_11 (pc := 62) (x := (.istore_n 3, 1)) (by decide +kernel)) rfl hn rfl
theorem e_11_63 : Df d 11 63 [.ref a, l1, l2, l3] st h nx = Df d 11 64 [.ref a, l1, l2, l3] (.ref a :: st) h nx := D_aload_n (ins_of mc_11 (pc := 63) (x := (.aload_n 0, 1)) (by decide +kernel)) rfl
theorem e_11_64 : Df d 11 64 [l0, l1, .int x, l3] st h nx = Df d 11 65 [l0, l1, .int x, l3] (.int x :: st) h nx := D_iload_n (ins_of mc_11 (pc := 64) (x := (.iload_n 2, 1)) (by decide +kernel)) rfl
theorem e_11_65 : Df d 11 65 [l0, l1, l2, l3] (.int x :: .ref a :: st) h nx = (pF h a 1 6 (.int x)).bind fun h => Df d 11 68 [l0, l1, l2, l3] st h nx := D_putfield (ins_of mc_11 (pc := 65) (x := (.putfield 34, 3)) (by decide +kernel)) mo_11 (by decide +kernel) rfl (Or.inl rfl)
theorem e_11_68 : Df d 11 68 [l0, l1, l2, l3] st h nx = Df d 11 94 [l0, l1, l2, l3] st h nx := D_goto (ins_of mc_11 (pc := 68) (x := (.goto 26, 3)) (by decide +kernel)) (by decide)
theorem e_11_71 : Df d 11 71 [.ref a, l1, l2, l3] st h nx = Df d 11 72 [.ref a, l1, l2, l3] (.ref a :: st) h nx := D_aload_n (ins_of mc_11 (pc := 71) (x := (.aload_n 0, 1)) (by decide +kernel)) rfl
theorem e_11_72 : Df d 11 72 [l0, l1, l2, l3] (.ref a :: st) h nx = (gF h a 1 7).bind fun v => Df d 11 75 [l0, l1, l2, l3] (v :: st) h nx := D_getfield (ins_of mc_11 (pc := 72) (x := (.getfield 37, 3)) (by decide +kernel)) mo_11 (by decide +kernel)
theorem e_11_75 (hn : nr l3 = true) : Df d 11 75 [l0, l1, l2, l3] (.int x :: st) h nx = Df d 11 76 [l0, l1, l2, .int x] st h nx := D_istore_n (ins_of mc_11 (pc := 75) (x := (.istore_n 3, 1)) (by decide +kernel)) rfl hn rfl
theorem e_11_76 : Df d 11 76 [.ref a, l1, l2, l3] st h nx = Df d 11 77 [.ref a, l1, l2, l3] (.ref a :: st) h nx := D_aload_n (ins_of mc_11 (pc := 76) (x := (.aload_n 0, 1)) (by decide +kernel)) rfl
theorem e_11_77 : Df d 11 77 [l0, l1, .int x, l3] st h nx = Df d 11 78 [l0, l1, .int x, l3] (.int x :: st) h nx := D_iload_n (ins_of mc_11 (pc := 77) (x := (.iload_n 2, 1)) (by decide +kernel)) rfl
theorem e_11_78 : Df d 11 78 [l0, l1, l2, l3] (.int x :: .ref a :: st) h nx = (pF h a 1 7 (.int x)).bind fun h => Df d 11 81 [l0, l1, l2, l3] st h nx := D_putfield (ins_of mc_11 (pc := 78) (x := (.putfield 37, 3)) (by decide +kernel)) mo_11 (by decide +kernel) rfl (Or.inl rfl)
theorem e_11_81 : Df d 11 81 [l0, l1, l2, l3] st h nx = Df d 11 94 [l0, l1, l2, l3] st h nx := D_goto (ins_of mc_11 (pc := 81) (x := (.goto 13, 3)) (by decide +kernel)) (by decide)
theorem e_11_84 : Df d 11 84 [.ref a, l1, l2, l3] st h nx = Df d 11 85 [.ref a, l1, l2, l3] (.ref a :: st) h nx := D_aload_n (ins_of mc_11 (pc := 84) (x := (.aload_n 0, 1)) (by decide +kernel)) rfl
theorem e_11_85 : Df d 11 85 [l0, l1, l2, l3] (.ref a :: st) h nx = (gF h a 1 3).bind fun v => Df d 11 88 [l0, l1, l2, l3] (v :: st) h nx := D_getfield (ins_of mc_11 (pc := 85) (x := (.getfield 25, 3)) (by decide +kernel)) mo_11 (by decide +kernel)
theorem e_11_88 (hn : nr l3 = true) : Df d 11 88 [l0, l1, l2, l3] (.int x :: st) h nx = Df d 11 89 [l0, l1, l2, .int x] st h nx := D_istore_n (ins_of mc_11 (pc := 88) (x := (.istore_n 3, 1)) (by decide +kernel)) rfl hn rfl
theorem e_11_89 : Df d 11 89 [.ref a, l1, l2, l3] st h nx = Df d 11 90 [.ref a, l1, l2, l3] (.ref a :: st) h nx := D_aload_n (ins_of mc_11 (pc := 89) (x := (.aload_n 0, 1)) (by decide +kernel)) rfl
theorem e_11_90 : Df d 11 90 [l0, l1, .int x, l3] st h nx = Df d 11 91 [l0, l1, .int x, l3] (.int x :: st) h nx := D_iload_n (ins_of mc_11 (pc := 90) (x := (.iload_n 2, 1)) (by decide +kernel)) rfl
theorem e_11_91 : Df d 11 91 [l0, l1, l2, l3] (.int x :: .ref a :: st) h nx = (pF h a 1 3 (.int x)).bind fun h => Df d 11 94 [l0, l1, l2, l3] st h nx := D_putfield (ins_of mc_11 (pc := 91) (x := (.putfield 25, 3)) (by decide +kernel)) mo_11 (by decide +kernel) rfl (Or.inl rfl)
theorem e_11_94 : Df d 11 94 [l0, l1, l2, .int x] st h nx = Df d 11 95 [l0, l1, l2, .int x] (.int x :: st) h nx := D_iload_n (ins_of mc_11 (pc := 94) (x := (.iload_n 3, 1)) (by decide +kernel)) rfl
theorem e_11_95 : Df d 11 95 [l0, l1, l2, l3] [.int x] h nx = some (some (.int x), h, nx) := D_ireturn (ins_of mc_11 (pc := 95) (x := (.ireturn, 1)) (by decide +kernel)) mr_11
theorem mc_12 : mC 12 = prog_3_method_6_code := rfl
theorem mo_12 : mO 12 = 1 := rfl
theorem ml_12 : mL 12 = 4 := rfl
theorem mr_12 : mR 12 = none := rfl
theorem ma_12 : mA 12 = 0 := rfl
theorem e_12_0 : Df d 12 0 [.ref a, l1, l2, l3] st h nx = Df d 12 1 [.ref a, l1, l2, l3] (.ref a :: st) h nx := D_aload_n (ins_of mc_12 (pc := 0) (x := (.aload_n 0, 1)) (by decide +kernel)) rfl
theorem e_12_1 : Df d 12 1 [l0, l1, l2, l3] [.ref a] h nx = if ck h a 1 = true then cn d 12 4 [l0, l1, l2, l3] [] (Dn d 13 [.ref a] h nx) else none := D_virtual (k1 := 13) (ins_of mc_12 (pc := 1) (x := (.invokevirtual 79, 3)) (by decide +kernel)) mo_12 (by decide +kernel) (by decide) rfl rfl (by decide) rfl (Nat.le_of_ble_eq_true rfl) rfl
theorem e_12_4 : Df d 12 4 [l0, l1, l2, l3] st h nx = Df d 12 6 [l0, l1, l2, l3] (.int 6 :: st) h nx := D_bipush (ins_of mc_12 (pc := 4) (x := (.bipush 6, 2)) (by decide +kernel)) (by decide)
theorem e_12_6 : Df d 12 6 [l0, l1, l2, l3] (.int y :: .int x :: st) h nx = if y = 0 then none else Df d 12 7 [l0, l1, l2, l3] (.int (x - x / y * y) :: st) h nx := D_irem (ins_of mc_12 (pc := 6) (x := (.irem, 1)) (by decide +kernel))
theorem e_12_7 (hn : nr l1 = true) : Df d 12 7 [l0, l1, l2, l3] (.int x :: st) h nx = Df d 12 8 [l0, .int x, l2, l3] st h nx := D_istore_n (ins_of mc_12 (pc := 7) (x := (.istore_n 1, 1)) (by decide +kernel)) rfl hn rfl
theorem e_12_8 : Df d 12 8 [.ref a, l1, l2, l3] st h nx = Df d 12 9 [.ref a, l1, l2, l3] (.ref a :: st) h nx := D_aload_n (ins_of mc_12 (pc := 8) (x := (.aload_n 0, 1)) (by decide +kernel)) rfl
theorem e_12_9 : Df d 12 9 [l0, l1, l2, l3] [.ref a] h nx = if ck h a 1 = true then cn d 12 12 [l0, l1, l2, l3] [] (Dn d 13 [.ref a] h nx) else none := D_virtual (k1 := 13) (ins_of mc_12 (pc := 9) (x := (.invokevirtual 79, 3)) (by decide +kernel)) mo_12 (by decide +kernel) (by decide) rfl rfl (by decide) rfl (Nat.le_of_ble_eq_true rfl) rfl
theorem e_12_12 : Df d 12 12 [l0, l1, l2, l3] st h nx = Df d 12 14 [l0, l1, l2, l3] (.int 31 :: st) h nx := D_bipush (ins_of mc_12 (pc := 12) (x := (.bipush 31, 2)) (by decide +kernel)) (by decide)
theorem e_12_14 : Df d 12 14 [l0, l1, l2, l3] (.int y :: .int x :: st) h nx = if y = 0 then none else Df d 12 15 [l0, l1, l2, l3] (.int (x - x / y * y) :: st) h nx := D_irem (ins_of mc_12 (pc := 14) (x := (.irem, 1)) (by decide +kernel))
theorem e_12_15 (hn : nr l2 = true) : Df d 12 15 [l0, l1, l2, l3] (.int x :: st) h nx = Df d 12 16 [l0, l1, .int x, l3] st h nx := D_istore_n (ins_of mc_12 (pc := 15) (x := (.istore_n 2, 1)) (by decide +kernel)) rfl hn rfl
theorem e_12_16 : Df d 12 16 [.ref a, l1, l2, l3] st h nx = Df d 12 17 [.ref a, l1, l2, l3] (.ref a :: st) h nx := D_aload_n (ins_of mc_12 (pc := 16) (x := (.aload_n 0, 1)) (by decide +kernel)) rfl
theorem e_12_17 : Df d 12 17 [l0, l1, l2, l3] [.ref a] h nx = if ck h a 1 = true then cn d 12 20 [l0, l1, l2, l3] [] (Dn d 13 [.ref a] h nx) else none := D_virtual (k1 := 13) (ins_of mc_12 (pc := 17) (x := (.invokevirtual 79, 3)) (by decide +kernel)) mo_12 (by decide +kernel) (by decide) rfl rfl (by decide) rfl (Nat.le_of_ble_eq_true rfl) rfl
theorem e_12_20 : Df d 12 20 [l0, l1, l2, l3] st h nx = Df d 12 22 [l0, l1, l2, l3] (.int 25 :: st) h nx := D_bipush (ins_of mc_12 (pc := 20) (x := (.bipush 25, 2)) (by decide +kernel)) (by decide)
theorem e_12_22 : Df d 12 22 [l0, l1, l2, l3] (.int y :: .int x :: st) h nx = if y = 0 then none else Df d 12 23 [l0, l1, l2, l3] (.int (x - x / y * y) :: st) h nx := D_irem (ins_of mc_12 (pc := 22) (x := (.irem, 1)) (by decide +kernel))
theorem e_12_23 (hn : nr l3 = true) : Df d 12 23 [l0, l1, l2, l3] (.int x :: st) h nx = Df d 12 24 [l0, l1, l2, .int x] st h nx := D_istore_n (ins_of mc_12 (pc := 23) (x := (.istore_n 3, 1)) (by decide +kernel)) rfl hn rfl
theorem e_12_24 : Df d 12 24 [.ref a, l1, l2, l3] st h nx = Df d 12 25 [.ref a, l1, l2, l3] (.ref a :: st) h nx := D_aload_n (ins_of mc_12 (pc := 24) (x := (.aload_n 0, 1)) (by decide +kernel)) rfl
theorem e_12_25 : Df d 12 25 [l0, .int x, l2, l3] st h nx = Df d 12 26 [l0, .int x, l2, l3] (.int x :: st) h nx := D_iload_n (ins_of mc_12 (pc := 25) (x := (.iload_n 1, 1)) (by decide +kernel)) rfl
theorem e_12_26 : Df d 12 26 [l0, l1, .int x, l3] st h nx = Df d 12 27 [l0, l1, .int x, l3] (.int x :: st) h nx := D_iload_n (ins_of mc_12 (pc := 26) (x := (.iload_n 2, 1)) (by decide +kernel)) rfl
theorem e_12_27 : Df d 12 27 [l0, l1, l2, .int x] st h nx = Df d 12 28 [l0, l1, l2, .int x] (.int x :: st) h nx := D_iload_n (ins_of mc_12 (pc := 27) (x := (.iload_n 3, 1)) (by decide +kernel)) rfl
theorem e_12_28 : Df d 12 28 [l0, l1, l2, l3] [v2, v1, v0, .ref a] h nx = if ck h a 1 = true then cn d 12 31 [l0, l1, l2, l3] [] (Dn d 5 [.ref a, v0, v1, v2] h nx) else none := D_virtual (k1 := 5) (ins_of mc_12 (pc := 28) (x := (.invokevirtual 83, 3)) (by decide +kernel)) mo_12 (by decide +kernel) (by decide) rfl rfl (by decide) rfl (Nat.le_of_ble_eq_true rfl) rfl
theorem e_12_31 (hv : v0.category = 1) : Df d 12 31 [l0, l1, l2, l3] (v0 :: st) h nx = Df d 12 32 [l0, l1, l2, l3] st h nx := D_pop (ins_of mc_12 (pc := 31) (x := (.pop, 1)) (by decide +kernel)) hv
theorem e_12_32 : Df d 12 32 [l0, l1, l2, l3] [] h nx = some (none, h, nx) := D_return (ins_of mc_12 (pc := 32) (x := (.return_, 1)) (by decide +kernel)) mr_12
theorem mc_13 : mC 13 = prog_3_method_7_code := rfl
theorem mo_13 : mO 13 = 1 := rfl
theorem ml_13 : mL 13 = 1 := rfl
theorem mr_13 : mR 13 = (some .int) := rfl
theorem ma_13 : mA 13 = 0 := rfl
theorem e_13_0 : Df d 13 0 [.ref a] st h nx = Df d 13 1 [.ref a] (.ref a :: st) h nx := D_aload_n (ins_of mc_13 (pc := 0) (x := (.aload_n 0, 1)) (by decide +kernel)) rfl
theorem e_13_1 : Df d 13 1 [.ref a] st h nx = Df d 13 2 [.ref a] (.ref a :: st) h nx := D_aload_n (ins_of mc_13 (pc := 1) (x := (.aload_n 0, 1)) (by decide +kernel)) rfl
theorem e_13_2 : Df d 13 2 [l0] (.ref a :: st) h nx = (gF h a 1 11).bind fun v => Df d 13 5 [l0] (v :: st) h nx := D_getfield (ins_of mc_13 (pc := 2) (x := (.getfield 49, 3)) (by decide +kernel)) mo_13 (by decide +kernel)
theorem e_13_5 : Df d 13 5 [l0] st h nx = Df d 13 7 [l0] (.int 1103515245 :: st) h nx := D_ldc (ins_of mc_13 (pc := 5) (x := (.ldc 87, 2)) (by decide +kernel)) mo_13 (by decide +kernel)
theorem e_13_7 : Df d 13 7 [l0] (.int y :: .int x :: st) h nx = Df d 13 8 [l0] (.int (x * y) :: st) h nx := D_imul (ins_of mc_13 (pc := 7) (x := (.imul, 1)) (by decide +kernel))
theorem e_13_8 : Df d 13 8 [l0] st h nx = Df d 13 11 [l0] (.int 12345 :: st) h nx := D_sipush (ins_of mc_13 (pc := 8) (x := (.sipush 12345, 3)) (by decide +kernel)) (by decide)
theorem e_13_11 : Df d 13 11 [l0] (.int y :: .int x :: st) h nx = Df d 13 12 [l0] (.int (x + y) :: st) h nx := D_iadd (ins_of mc_13 (pc := 11) (x := (.iadd, 1)) (by decide +kernel))
theorem e_13_12 : Df d 13 12 [l0] (.int x :: .ref a :: st) h nx = (pF h a 1 11 (.int x)).bind fun h => Df d 13 15 [l0] st h nx := D_putfield (ins_of mc_13 (pc := 12) (x := (.putfield 49, 3)) (by decide +kernel)) mo_13 (by decide +kernel) rfl (Or.inl rfl)
theorem e_13_15 : Df d 13 15 [.ref a] st h nx = Df d 13 16 [.ref a] (.ref a :: st) h nx := D_aload_n (ins_of mc_13 (pc := 15) (x := (.aload_n 0, 1)) (by decide +kernel)) rfl
theorem e_13_16 : Df d 13 16 [l0] (.ref a :: st) h nx = (gF h a 1 11).bind fun v => Df d 13 19 [l0] (v :: st) h nx := D_getfield (ins_of mc_13 (pc := 16) (x := (.getfield 49, 3)) (by decide +kernel)) mo_13 (by decide +kernel)
theorem e_13_19 : Df d 13 19 [l0] st h nx = Df d 13 21 [l0] (.int 8 :: st) h nx := D_bipush (ins_of mc_13 (pc := 19) (x := (.bipush 8, 2)) (by decide +kernel)) (by decide)
theorem e_13_21 : Df d 13 21 [l0] (.int y :: .int x :: st) h nx = Df d 13 22 [l0] (.int (x.toUInt32 >>> (y.toUInt32 &&& Int32.toUInt32 31)).toInt32 :: st) h nx := D_iushr (ins_of mc_13 (pc := 21) (x := (.iushr, 1)) (by decide +kernel))
theorem e_13_22 : Df d 13 22 [l0] [.int x] h nx = some (some (.int x), h, nx) := D_ireturn (ins_of mc_13 (pc := 22) (x := (.ireturn, 1)) (by decide +kernel)) mr_13
theorem mc_14 : mC 14 = prog_3_method_18_code := rfl
theorem mo_14 : mO 14 = 1 := rfl
theorem ml_14 : mL 14 = 3 := rfl
theorem mr_14 : mR 14 = none := rfl
theorem ma_14 : mA 14 = 2 := rfl
theorem e_14_0 : Df d 14 0 [.ref a, l1, l2] st h nx = Df d 14 1 [.ref a, l1, l2] (.ref a :: st) h nx := D_aload_n (ins_of mc_14 (pc := 0) (x := (.aload_n 0, 1)) (by decide +kernel)) rfl
theorem e_14_1 : Df d 14 1 [.ref a, l1, l2] st h nx = Df d 14 2 [.ref a, l1, l2] (.ref a :: st) h nx := D_aload_n (ins_of mc_14 (pc := 1) (x := (.aload_n 0, 1)) (by decide +kernel)) rfl
theorem e_14_2 : Df d 14 2 [l0, l1, l2] [.ref a, s0] h nx = if ck h a 1 = true then cn d 14 5 [l0, l1, l2] [s0] (Dn d 13 [.ref a] h nx) else none := D_virtual (k1 := 13) (ins_of mc_14 (pc := 2) (x := (.invokevirtual 79, 3)) (by decide +kernel)) mo_14 (by decide +kernel) (by decide) rfl rfl (by decide) rfl (Nat.le_of_ble_eq_true rfl) rfl
theorem e_14_5 : Df d 14 5 [l0, l1, l2] st h nx = Df d 14 7 [l0, l1, l2] (.int 10 :: st) h nx := D_bipush (ins_of mc_14 (pc := 5) (x := (.bipush 10, 2)) (by decide +kernel)) (by decide)
theorem e_14_7 : Df d 14 7 [l0, l1, l2] (.int y :: .int x :: st) h nx = if y = 0 then none else Df d 14 8 [l0, l1, l2] (.int (x - x / y * y) :: st) h nx := D_irem (ins_of mc_14 (pc := 7) (x := (.irem, 1)) (by decide +kernel))
theorem e_14_8 : Df d 14 8 [l0, l1, l2] (.int x :: .ref a :: st) h nx = (pF h a 1 4 (.int x)).bind fun h => Df d 14 11 [l0, l1, l2] st h nx := D_putfield (ins_of mc_14 (pc := 8) (x := (.putfield 28, 3)) (by decide +kernel)) mo_14 (by decide +kernel) rfl (Or.inl rfl)
theorem e_14_11 : Df d 14 11 [.ref a, l1, l2] st h nx = Df d 14 12 [.ref a, l1, l2] (.ref a :: st) h nx := D_aload_n (ins_of mc_14 (pc := 11) (x := (.aload_n 0, 1)) (by decide +kernel)) rfl
theorem e_14_12 : Df d 14 12 [l0, l1, l2] [.ref a] h nx = if ck h a 1 = true then cn d 14 15 [l0, l1, l2] [] (Dn d 15 [.ref a] h nx) else none := D_virtual (k1 := 15) (ins_of mc_14 (pc := 12) (x := (.invokevirtual 127, 3)) (by decide +kernel)) mo_14 (by decide +kernel) (by decide) rfl rfl (by decide) rfl (Nat.le_of_ble_eq_true rfl) rfl
theorem e_14_15 : Df d 14 15 [l0, l1, l2] st h nx = Df d 14 16 [l0, l1, l2] (.int (-1) :: st) h nx := D_iconst (ins_of mc_14 (pc := 15) (x := (.iconst (-1), 1)) (by decide +kernel)) (by decide)
theorem e_14_16 : Df d 14 16 [l0, l1, l2] (.int y :: .int x :: st) h nx = if x = y then Df d 14 40 [l0, l1, l2] st h nx else Df d 14 19 [l0, l1, l2] st h nx := D_icmp_eq (ins_of mc_14 (pc := 16) (x := (.if_icmp .eq 24, 3)) (by decide +kernel)) (by decide)
theorem e_14_19 : Df d 14 19 [l0, l1, .int x] st h nx = Df d 14 20 [l0, l1, .int x] (.int x :: st) h nx := D_iload_n (ins_of mc_14 (pc := 19) (x := (.iload_n 2, 1)) (by decide +kernel)) rfl
theorem e_14_20 : Df d 14 20 [l0, l1, l2] (.int x :: st) h nx = if x = 0 then Df d 14 27 [l0, l1, l2] st h nx else Df d 14 23 [l0, l1, l2] st h nx := D_if_eq (ins_of mc_14 (pc := 20) (x := (.ifCond .eq 7, 3)) (by decide +kernel)) (by decide)
theorem e_14_23 : Df d 14 23 [.ref a, l1, l2] st h nx = Df d 14 24 [.ref a, l1, l2] (.ref a :: st) h nx := D_aload_n (ins_of mc_14 (pc := 23) (x := (.aload_n 0, 1)) (by decide +kernel)) rfl
theorem e_14_24 : Df d 14 24 [l0, l1, l2] [.ref a] h nx = if ck h a 1 = true then cn d 14 27 [l0, l1, l2] [] (Dn d 16 [.ref a] h nx) else none := D_virtual (k1 := 16) (ins_of mc_14 (pc := 24) (x := (.invokevirtual 130, 3)) (by decide +kernel)) mo_14 (by decide +kernel) (by decide) rfl rfl (by decide) rfl (Nat.le_of_ble_eq_true rfl) rfl
theorem e_14_27 : Df d 14 27 [.ref a, l1, l2] st h nx = Df d 14 28 [.ref a, l1, l2] (.ref a :: st) h nx := D_aload_n (ins_of mc_14 (pc := 27) (x := (.aload_n 0, 1)) (by decide +kernel)) rfl
theorem e_14_28 : Df d 14 28 [l0, l1, l2] [.ref a] h nx = if ck h a 1 = true then cn d 14 31 [l0, l1, l2] [] (Dn d 17 [.ref a] h nx) else none := D_virtual (k1 := 17) (ins_of mc_14 (pc := 28) (x := (.invokevirtual 133, 3)) (by decide +kernel)) mo_14 (by decide +kernel) (by decide) rfl rfl (by decide) rfl (Nat.le_of_ble_eq_true rfl) rfl
theorem e_14_31 : Df d 14 31 [.ref a, l1, l2] st h nx = Df d 14 32 [.ref a, l1, l2] (.ref a :: st) h nx := D_aload_n (ins_of mc_14 (pc := 31) (x := (.aload_n 0, 1)) (by decide +kernel)) rfl
theorem e_14_32 : Df d 14 32 [l0, .ref a, l2] st h nx = Df d 14 33 [l0, .ref a, l2] (.ref a :: st) h nx := D_aload_n (ins_of mc_14 (pc := 32) (x := (.aload_n 1, 1)) (by decide +kernel)) rfl
theorem e_14_33 : Df d 14 33 [l0, l1, l2] [v0, .ref a] h nx = if ck h a 1 = true then cn d 14 36 [l0, l1, l2] [] (Dn d 18 [.ref a, v0] h nx) else none := D_virtual (k1 := 18) (ins_of mc_14 (pc := 33) (x := (.invokevirtual 136, 3)) (by decide +kernel)) mo_14 (by decide +kernel) (by decide) rfl rfl (by decide) rfl (Nat.le_of_ble_eq_true rfl) rfl
theorem e_14_36 : Df d 14 36 [.ref a, l1, l2] st h nx = Df d 14 37 [.ref a, l1, l2] (.ref a :: st) h nx := D_aload_n (ins_of mc_14 (pc := 36) (x := (.aload_n 0, 1)) (by decide +kernel)) rfl
theorem e_14_37 : Df d 14 37 [l0, l1, l2] [.ref a] h nx = if ck h a 1 = true then cn d 14 40 [l0, l1, l2] [] (Dn d 19 [.ref a] h nx) else none := D_virtual (k1 := 19) (ins_of mc_14 (pc := 37) (x := (.invokevirtual 140, 3)) (by decide +kernel)) mo_14 (by decide +kernel) (by decide) rfl rfl (by decide) rfl (Nat.le_of_ble_eq_true rfl) rfl
theorem e_14_40 : Df d 14 40 [.ref a, l1, l2] st h nx = Df d 14 41 [.ref a, l1, l2] (.ref a :: st) h nx := D_aload_n (ins_of mc_14 (pc := 40) (x := (.aload_n 0, 1)) (by decide +kernel)) rfl
theorem e_14_41 (hv : v0.category = 1) : Df d 14 41 [l0, l1, l2] (v0 :: st) h nx = Df d 14 42 [l0, l1, l2] (v0 :: v0 :: st) h nx := D_dup (ins_of mc_14 (pc := 41) (x := (.dup, 1)) (by decide +kernel)) hv
theorem e_14_42 : Df d 14 42 [l0, l1, l2] (.ref a :: st) h nx = (gF h a 1 10).bind fun v => Df d 14 45 [l0, l1, l2] (v :: st) h nx := D_getfield (ins_of mc_14 (pc := 42) (x := (.getfield 46, 3)) (by decide +kernel)) mo_14 (by decide +kernel)
theorem e_14_45 : Df d 14 45 [l0, l1, l2] st h nx = Df d 14 46 [l0, l1, l2] (.int 1 :: st) h nx := D_iconst (ins_of mc_14 (pc := 45) (x := (.iconst 1, 1)) (by decide +kernel)) (by decide)
theorem e_14_46 : Df d 14 46 [l0, l1, l2] (.int y :: .int x :: st) h nx = Df d 14 47 [l0, l1, l2] (.int (x + y) :: st) h nx := D_iadd (ins_of mc_14 (pc := 46) (x := (.iadd, 1)) (by decide +kernel))
theorem e_14_47 : Df d 14 47 [l0, l1, l2] (.int x :: .ref a :: st) h nx = (pF h a 1 10 (.int x)).bind fun h => Df d 14 50 [l0, l1, l2] st h nx := D_putfield (ins_of mc_14 (pc := 47) (x := (.putfield 46, 3)) (by decide +kernel)) mo_14 (by decide +kernel) rfl (Or.inl rfl)
theorem e_14_50 : Df d 14 50 [l0, l1, l2] [] h nx = some (none, h, nx) := D_return (ins_of mc_14 (pc := 50) (x := (.return_, 1)) (by decide +kernel)) mr_14
theorem mc_15 : mC 15 = prog_3_method_9_code := rfl
theorem mo_15 : mO 15 = 1 := rfl
theorem ml_15 : mL 15 = 3 := rfl
theorem mr_15 : mR 15 = (some .int) := rfl
theorem ma_15 : mA 15 = 0 := rfl
theorem e_15_0 : Df d 15 0 [l0, l1, l2] st h nx = Df d 15 1 [l0, l1, l2] (.int (-1) :: st) h nx := D_iconst (ins_of mc_15 (pc := 0) (x := (.iconst (-1), 1)) (by decide +kernel)) (by decide)
theorem e_15_1 (hn : nr l1 = true) : Df d 15 1 [l0, l1, l2] (.int x :: st) h nx = Df d 15 2 [l0, .int x, l2] st h nx := D_istore_n (ins_of mc_15 (pc := 1) (x := (.istore_n 1, 1)) (by decide +kernel)) rfl hn rfl
theorem e_15_2 : Df d 15 2 [l0, l1, l2] st h nx = Df d 15 3 [l0, l1, l2] (.int 0 :: st) h nx := D_iconst (ins_of mc_15 (pc := 2) (x := (.iconst 0, 1)) (by decide +kernel)) (by decide)
theorem e_15_3 (hn : nr l2 = true) : Df d 15 3 [l0, l1, l2] (.int x :: st) h nx = Df d 15 4 [l0, l1, .int x] st h nx := D_istore_n (ins_of mc_15 (pc := 3) (x := (.istore_n 2, 1)) (by decide +kernel)) rfl hn rfl
theorem e_15_4 : Df d 15 4 [l0, l1, .int x] st h nx = Df d 15 5 [l0, l1, .int x] (.int x :: st) h nx := D_iload_n (ins_of mc_15 (pc := 4) (x := (.iload_n 2, 1)) (by decide +kernel)) rfl
theorem e_15_5 : Df d 15 5 [.ref a, l1, l2] st h nx = Df d 15 6 [.ref a, l1, l2] (.ref a :: st) h nx := D_aload_n (ins_of mc_15 (pc := 5) (x := (.aload_n 0, 1)) (by decide +kernel)) rfl
theorem e_15_6 : Df d 15 6 [l0, l1, l2] (.ref a :: st) h nx = (gF h a 1 2).bind fun v => Df d 15 9 [l0, l1, l2] (v :: st) h nx := D_getfield (ins_of mc_15 (pc := 6) (x := (.getfield 21, 3)) (by decide +kernel)) mo_15 (by decide +kernel)
theorem e_15_9 : Df d 15 9 [l0, l1, l2] (.int y :: .int x :: st) h nx = if y ≤ x then Df d 15 58 [l0, l1, l2] st h nx else Df d 15 12 [l0, l1, l2] st h nx := D_icmp_ge (ins_of mc_15 (pc := 9) (x := (.if_icmp .ge 49, 3)) (by decide +kernel)) (by decide)
theorem e_15_12 : Df d 15 12 [.ref a, l1, l2] st h nx = Df d 15 13 [.ref a, l1, l2] (.ref a :: st) h nx := D_aload_n (ins_of mc_15 (pc := 12) (x := (.aload_n 0, 1)) (by decide +kernel)) rfl
theorem e_15_13 : Df d 15 13 [l0, l1, l2] (.ref a :: st) h nx = (gF h a 1 1).bind fun v => Df d 15 16 [l0, l1, l2] (v :: st) h nx := D_getfield (ins_of mc_15 (pc := 13) (x := (.getfield 17, 3)) (by decide +kernel)) mo_15 (by decide +kernel)
theorem e_15_16 : Df d 15 16 [l0, l1, .int x] st h nx = Df d 15 17 [l0, l1, .int x] (.int x :: st) h nx := D_iload_n (ins_of mc_15 (pc := 16) (x := (.iload_n 2, 1)) (by decide +kernel)) rfl
theorem e_15_17 : Df d 15 17 [l0, l1, l2] (.int x :: .ref a :: st) h nx = (rR h a x).bind fun v => Df d 15 18 [l0, l1, l2] (.ref v :: st) h nx := D_aaload (ins_of mc_15 (pc := 17) (x := (.aaload, 1)) (by decide +kernel))
theorem e_15_18 : Df d 15 18 [l0, l1, l2] (.ref a :: st) h nx = (gF h a 7 5).bind fun v => Df d 15 21 [l0, l1, l2] (v :: st) h nx := D_getfield (ins_of mc_15 (pc := 18) (x := (.getfield 88, 3)) (by decide +kernel)) mo_15 (by decide +kernel)
theorem e_15_21 : Df d 15 21 [l0, l1, l2] (.int x :: st) h nx = if x = 0 then Df d 15 52 [l0, l1, l2] st h nx else Df d 15 24 [l0, l1, l2] st h nx := D_if_eq (ins_of mc_15 (pc := 21) (x := (.ifCond .eq 31, 3)) (by decide +kernel)) (by decide)
theorem e_15_24 : Df d 15 24 [l0, .int x, l2] st h nx = Df d 15 25 [l0, .int x, l2] (.int x :: st) h nx := D_iload_n (ins_of mc_15 (pc := 24) (x := (.iload_n 1, 1)) (by decide +kernel)) rfl
theorem e_15_25 : Df d 15 25 [l0, l1, l2] st h nx = Df d 15 26 [l0, l1, l2] (.int (-1) :: st) h nx := D_iconst (ins_of mc_15 (pc := 25) (x := (.iconst (-1), 1)) (by decide +kernel)) (by decide)
theorem e_15_26 : Df d 15 26 [l0, l1, l2] (.int y :: .int x :: st) h nx = if x = y then Df d 15 50 [l0, l1, l2] st h nx else Df d 15 29 [l0, l1, l2] st h nx := D_icmp_eq (ins_of mc_15 (pc := 26) (x := (.if_icmp .eq 24, 3)) (by decide +kernel)) (by decide)
theorem e_15_29 : Df d 15 29 [.ref a, l1, l2] st h nx = Df d 15 30 [.ref a, l1, l2] (.ref a :: st) h nx := D_aload_n (ins_of mc_15 (pc := 29) (x := (.aload_n 0, 1)) (by decide +kernel)) rfl
theorem e_15_30 : Df d 15 30 [l0, l1, l2] (.ref a :: st) h nx = (gF h a 1 1).bind fun v => Df d 15 33 [l0, l1, l2] (v :: st) h nx := D_getfield (ins_of mc_15 (pc := 30) (x := (.getfield 17, 3)) (by decide +kernel)) mo_15 (by decide +kernel)
theorem e_15_33 : Df d 15 33 [l0, l1, .int x] st h nx = Df d 15 34 [l0, l1, .int x] (.int x :: st) h nx := D_iload_n (ins_of mc_15 (pc := 33) (x := (.iload_n 2, 1)) (by decide +kernel)) rfl
theorem e_15_34 : Df d 15 34 [l0, l1, l2] (.int x :: .ref a :: st) h nx = (rR h a x).bind fun v => Df d 15 35 [l0, l1, l2] (.ref v :: st) h nx := D_aaload (ins_of mc_15 (pc := 34) (x := (.aaload, 1)) (by decide +kernel))
theorem e_15_35 : Df d 15 35 [l0, l1, l2] (.ref a :: st) h nx = (gF h a 7 1).bind fun v => Df d 15 38 [l0, l1, l2] (v :: st) h nx := D_getfield (ins_of mc_15 (pc := 35) (x := (.getfield 70, 3)) (by decide +kernel)) mo_15 (by decide +kernel)
theorem e_15_38 : Df d 15 38 [.ref a, l1, l2] st h nx = Df d 15 39 [.ref a, l1, l2] (.ref a :: st) h nx := D_aload_n (ins_of mc_15 (pc := 38) (x := (.aload_n 0, 1)) (by decide +kernel)) rfl
theorem e_15_39 : Df d 15 39 [l0, l1, l2] (.ref a :: st) h nx = (gF h a 1 1).bind fun v => Df d 15 42 [l0, l1, l2] (v :: st) h nx := D_getfield (ins_of mc_15 (pc := 39) (x := (.getfield 17, 3)) (by decide +kernel)) mo_15 (by decide +kernel)
theorem e_15_42 : Df d 15 42 [l0, .int x, l2] st h nx = Df d 15 43 [l0, .int x, l2] (.int x :: st) h nx := D_iload_n (ins_of mc_15 (pc := 42) (x := (.iload_n 1, 1)) (by decide +kernel)) rfl
theorem e_15_43 : Df d 15 43 [l0, l1, l2] (.int x :: .ref a :: st) h nx = (rR h a x).bind fun v => Df d 15 44 [l0, l1, l2] (.ref v :: st) h nx := D_aaload (ins_of mc_15 (pc := 43) (x := (.aaload, 1)) (by decide +kernel))
theorem e_15_44 : Df d 15 44 [l0, l1, l2] (.ref a :: st) h nx = (gF h a 7 1).bind fun v => Df d 15 47 [l0, l1, l2] (v :: st) h nx := D_getfield (ins_of mc_15 (pc := 44) (x := (.getfield 70, 3)) (by decide +kernel)) mo_15 (by decide +kernel)
theorem e_15_47 : Df d 15 47 [l0, l1, l2] (.int y :: .int x :: st) h nx = if x ≤ y then Df d 15 52 [l0, l1, l2] st h nx else Df d 15 50 [l0, l1, l2] st h nx := D_icmp_le (ins_of mc_15 (pc := 47) (x := (.if_icmp .le 5, 3)) (by decide +kernel)) (by decide)
theorem e_15_50 : Df d 15 50 [l0, l1, .int x] st h nx = Df d 15 51 [l0, l1, .int x] (.int x :: st) h nx := D_iload_n (ins_of mc_15 (pc := 50) (x := (.iload_n 2, 1)) (by decide +kernel)) rfl
theorem e_15_51 (hn : nr l1 = true) : Df d 15 51 [l0, l1, l2] (.int x :: st) h nx = Df d 15 52 [l0, .int x, l2] st h nx := D_istore_n (ins_of mc_15 (pc := 51) (x := (.istore_n 1, 1)) (by decide +kernel)) rfl hn rfl
theorem e_15_52 : Df d 15 52 [l0, l1, .int x] st h nx = Df d 15 55 [l0, l1, .int (x + 1)] st h nx := D_iinc (ins_of mc_15 (pc := 52) (x := (.iinc 2 1, 3)) (by decide +kernel)) rfl (by decide) rfl
theorem e_15_55 : Df d 15 55 [l0, l1, l2] st h nx = Df d 15 4 [l0, l1, l2] st h nx := D_goto (ins_of mc_15 (pc := 55) (x := (.goto (-51), 3)) (by decide +kernel)) (by decide)
theorem e_15_58 : Df d 15 58 [l0, .int x, l2] st h nx = Df d 15 59 [l0, .int x, l2] (.int x :: st) h nx := D_iload_n (ins_of mc_15 (pc := 58) (x := (.iload_n 1, 1)) (by decide +kernel)) rfl
theorem e_15_59 : Df d 15 59 [l0, l1, l2] [.int x] h nx = some (some (.int x), h, nx) := D_ireturn (ins_of mc_15 (pc := 59) (x := (.ireturn, 1)) (by decide +kernel)) mr_15
theorem mc_16 : mC 16 = prog_3_method_19_code := rfl
theorem mo_16 : mO 16 = 1 := rfl
theorem ml_16 : mL 16 = 3 := rfl
theorem mr_16 : mR 16 = none := rfl
theorem ma_16 : mA 16 = 0 := rfl
theorem e_16_0 : Df d 16 0 [.ref a, l1, l2] st h nx = Df d 16 1 [.ref a, l1, l2] (.ref a :: st) h nx := D_aload_n (ins_of mc_16 (pc := 0) (x := (.aload_n 0, 1)) (by decide +kernel)) rfl
theorem e_16_1 : Df d 16 1 [l0, l1, l2] [.ref a] h nx = if ck h a 1 = true then cn d 16 4 [l0, l1, l2] [] (Dn d 15 [.ref a] h nx) else none := D_virtual (k1 := 15) (ins_of mc_16 (pc := 1) (x := (.invokevirtual 127, 3)) (by decide +kernel)) mo_16 (by decide +kernel) (by decide) rfl rfl (by decide) rfl (Nat.le_of_ble_eq_true rfl) rfl
theorem e_16_4 (hn : nr l1 = true) : Df d 16 4 [l0, l1, l2] (.int x :: st) h nx = Df d 16 5 [l0, .int x, l2] st h nx := D_istore_n (ins_of mc_16 (pc := 4) (x := (.istore_n 1, 1)) (by decide +kernel)) rfl hn rfl
theorem e_16_5 : Df d 16 5 [l0, .int x, l2] st h nx = Df d 16 6 [l0, .int x, l2] (.int x :: st) h nx := D_iload_n (ins_of mc_16 (pc := 5) (x := (.iload_n 1, 1)) (by decide +kernel)) rfl
theorem e_16_6 : Df d 16 6 [l0, l1, l2] st h nx = Df d 16 7 [l0, l1, l2] (.int (-1) :: st) h nx := D_iconst (ins_of mc_16 (pc := 6) (x := (.iconst (-1), 1)) (by decide +kernel)) (by decide)
theorem e_16_7 : Df d 16 7 [l0, l1, l2] (.int y :: .int x :: st) h nx = if x = y then Df d 16 10 [l0, l1, l2] st h nx else Df d 16 11 [l0, l1, l2] st h nx := D_icmp_ne (ins_of mc_16 (pc := 7) (x := (.if_icmp .ne 4, 3)) (by decide +kernel)) (by decide)
theorem e_16_10 : Df d 16 10 [l0, l1, l2] [] h nx = some (none, h, nx) := D_return (ins_of mc_16 (pc := 10) (x := (.return_, 1)) (by decide +kernel)) mr_16
theorem e_16_11 : Df d 16 11 [.ref a, l1, l2] st h nx = Df d 16 12 [.ref a, l1, l2] (.ref a :: st) h nx := D_aload_n (ins_of mc_16 (pc := 11) (x := (.aload_n 0, 1)) (by decide +kernel)) rfl
theorem e_16_12 : Df d 16 12 [l0, l1, l2] (.ref a :: st) h nx = (gF h a 1 1).bind fun v => Df d 16 15 [l0, l1, l2] (v :: st) h nx := D_getfield (ins_of mc_16 (pc := 12) (x := (.getfield 17, 3)) (by decide +kernel)) mo_16 (by decide +kernel)
theorem e_16_15 : Df d 16 15 [l0, .int x, l2] st h nx = Df d 16 16 [l0, .int x, l2] (.int x :: st) h nx := D_iload_n (ins_of mc_16 (pc := 15) (x := (.iload_n 1, 1)) (by decide +kernel)) rfl
theorem e_16_16 : Df d 16 16 [l0, l1, l2] (.int x :: .ref a :: st) h nx = (rR h a x).bind fun v => Df d 16 17 [l0, l1, l2] (.ref v :: st) h nx := D_aaload (ins_of mc_16 (pc := 16) (x := (.aaload, 1)) (by decide +kernel))
theorem e_16_17 (hv : v0.category = 1) : Df d 16 17 [l0, l1, l2] (v0 :: st) h nx = Df d 16 18 [l0, l1, l2] (v0 :: v0 :: st) h nx := D_dup (ins_of mc_16 (pc := 17) (x := (.dup, 1)) (by decide +kernel)) hv
theorem e_16_18 : Df d 16 18 [l0, l1, l2] (.ref a :: st) h nx = (gF h a 7 4).bind fun v => Df d 16 21 [l0, l1, l2] (v :: st) h nx := D_getfield (ins_of mc_16 (pc := 18) (x := (.getfield 143, 3)) (by decide +kernel)) mo_16 (by decide +kernel)
theorem e_16_21 : Df d 16 21 [l0, l1, l2] st h nx = Df d 16 22 [l0, l1, l2] (.int 1 :: st) h nx := D_iconst (ins_of mc_16 (pc := 21) (x := (.iconst 1, 1)) (by decide +kernel)) (by decide)
theorem e_16_22 : Df d 16 22 [l0, l1, l2] (.int y :: .int x :: st) h nx = Df d 16 23 [l0, l1, l2] (.int (x + y) :: st) h nx := D_iadd (ins_of mc_16 (pc := 22) (x := (.iadd, 1)) (by decide +kernel))
theorem e_16_23 : Df d 16 23 [l0, l1, l2] (.int x :: .ref a :: st) h nx = (pF h a 7 4 (.int x)).bind fun h => Df d 16 26 [l0, l1, l2] st h nx := D_putfield (ins_of mc_16 (pc := 23) (x := (.putfield 143, 3)) (by decide +kernel)) mo_16 (by decide +kernel) rfl (Or.inl rfl)
theorem e_16_26 : Df d 16 26 [.ref a, l1, l2] st h nx = Df d 16 27 [.ref a, l1, l2] (.ref a :: st) h nx := D_aload_n (ins_of mc_16 (pc := 26) (x := (.aload_n 0, 1)) (by decide +kernel)) rfl
theorem e_16_27 : Df d 16 27 [.ref a, l1, l2] st h nx = Df d 16 28 [.ref a, l1, l2] (.ref a :: st) h nx := D_aload_n (ins_of mc_16 (pc := 27) (x := (.aload_n 0, 1)) (by decide +kernel)) rfl
theorem e_16_28 : Df d 16 28 [l0, l1, l2] (.ref a :: st) h nx = (gF h a 1 1).bind fun v => Df d 16 31 [l0, l1, l2] (v :: st) h nx := D_getfield (ins_of mc_16 (pc := 28) (x := (.getfield 17, 3)) (by decide +kernel)) mo_16 (by decide +kernel)
theorem e_16_31 : Df d 16 31 [l0, .int x, l2] st h nx = Df d 16 32 [l0, .int x, l2] (.int x :: st) h nx := D_iload_n (ins_of mc_16 (pc := 31) (x := (.iload_n 1, 1)) (by decide +kernel)) rfl
theorem e_16_32 : Df d 16 32 [l0, l1, l2] (.int x :: .ref a :: st) h nx = (rR h a x).bind fun v => Df d 16 33 [l0, l1, l2] (.ref v :: st) h nx := D_aaload (ins_of mc_16 (pc := 32) (x := (.aaload, 1)) (by decide +kernel))
theorem e_16_33 : Df d 16 33 [l0, l1, l2] [v0, .ref a] h nx = if ck h a 1 = true then cn d 16 36 [l0, l1, l2] [] (Dn d 8 [.ref a, v0] h nx) else none := D_virtual (k1 := 8) (ins_of mc_16 (pc := 33) (x := (.invokevirtual 146, 3)) (by decide +kernel)) mo_16 (by decide +kernel) (by decide) rfl rfl (by decide) rfl (Nat.le_of_ble_eq_true rfl) rfl
theorem e_16_36 (hn : nr l2 = true) : Df d 16 36 [l0, l1, l2] (.int x :: st) h nx = Df d 16 37 [l0, l1, .int x] st h nx := D_istore_n (ins_of mc_16 (pc := 36) (x := (.istore_n 2, 1)) (by decide +kernel)) rfl hn rfl
theorem e_16_37 : Df d 16 37 [.ref a, l1, l2] st h nx = Df d 16 38 [.ref a, l1, l2] (.ref a :: st) h nx := D_aload_n (ins_of mc_16 (pc := 37) (x := (.aload_n 0, 1)) (by decide +kernel)) rfl
theorem e_16_38 : Df d 16 38 [l0, l1, l2] [.ref a] h nx = if ck h a 1 = true then cn d 16 41 [l0, l1, l2] [] (Dn d 13 [.ref a] h nx) else none := D_virtual (k1 := 13) (ins_of mc_16 (pc := 38) (x := (.invokevirtual 79, 3)) (by decide +kernel)) mo_16 (by decide +kernel) (by decide) rfl rfl (by decide) rfl (Nat.le_of_ble_eq_true rfl) rfl
theorem e_16_41 : Df d 16 41 [l0, l1, l2] st h nx = Df d 16 43 [l0, l1, l2] (.int 100 :: st) h nx := D_bipush (ins_of mc_16 (pc := 41) (x := (.bipush 100, 2)) (by decide +kernel)) (by decide)
theorem e_16_43 : Df d 16 43 [l0, l1, l2] (.int y :: .int x :: st) h nx = if y = 0 then none else Df d 16 44 [l0, l1, l2] (.int (x - x / y * y) :: st) h nx := D_irem (ins_of mc_16 (pc := 43) (x := (.irem, 1)) (by decide +kernel))
theorem e_16_44 : Df d 16 44 [.ref a, l1, l2] st h nx = Df d 16 45 [.ref a, l1, l2] (.ref a :: st) h nx := D_aload_n (ins_of mc_16 (pc := 44) (x := (.aload_n 0, 1)) (by decide +kernel)) rfl
theorem e_16_45 : Df d 16 45 [l0, l1, l2] (.ref a :: st) h nx = (gF h a 1 6).bind fun v => Df d 16 48 [l0, l1, l2] (v :: st) h nx := D_getfield (ins_of mc_16 (pc := 45) (x := (.getfield 34, 3)) (by decide +kernel)) mo_16 (by decide +kernel)
theorem e_16_48 : Df d 16 48 [l0, l1, l2] (.int y :: .int x :: st) h nx = if y ≤ x then Df d 16 64 [l0, l1, l2] st h nx else Df d 16 51 [l0, l1, l2] st h nx := D_icmp_ge (ins_of mc_16 (pc := 48) (x := (.if_icmp .ge 16, 3)) (by decide +kernel)) (by decide)
theorem e_16_51 : Df d 16 51 [l0, l1, .int x] st h nx = Df d 16 52 [l0, l1, .int x] (.int x :: st) h nx := D_iload_n (ins_of mc_16 (pc := 51) (x := (.iload_n 2, 1)) (by decide +kernel)) rfl
theorem e_16_52 : Df d 16 52 [l0, l1, l2] (.int x :: st) h nx = Df d 16 53 [l0, l1, l2] (.int (-x) :: st) h nx := D_ineg (ins_of mc_16 (pc := 52) (x := (.ineg, 1)) (by decide +kernel))
theorem e_16_53 (hn : nr l2 = true) : Df d 16 53 [l0, l1, l2] (.int x :: st) h nx = Df d 16 54 [l0, l1, .int x] st h nx := D_istore_n (ins_of mc_16 (pc := 53) (x := (.istore_n 2, 1)) (by decide +kernel)) rfl hn rfl
theorem e_16_54 : Df d 16 54 [.ref a, l1, l2] st h nx = Df d 16 55 [.ref a, l1, l2] (.ref a :: st) h nx := D_aload_n (ins_of mc_16 (pc := 54) (x := (.aload_n 0, 1)) (by decide +kernel)) rfl
theorem e_16_55 (hv : v0.category = 1) : Df d 16 55 [l0, l1, l2] (v0 :: st) h nx = Df d 16 56 [l0, l1, l2] (v0 :: v0 :: st) h nx := D_dup (ins_of mc_16 (pc := 55) (x := (.dup, 1)) (by decide +kernel)) hv
theorem e_16_56 : Df d 16 56 [l0, l1, l2] (.ref a :: st) h nx = (gF h a 1 9).bind fun v => Df d 16 59 [l0, l1, l2] (v :: st) h nx := D_getfield (ins_of mc_16 (pc := 56) (x := (.getfield 43, 3)) (by decide +kernel)) mo_16 (by decide +kernel)
theorem e_16_59 : Df d 16 59 [l0, l1, l2] st h nx = Df d 16 60 [l0, l1, l2] (.int 1 :: st) h nx := D_iconst (ins_of mc_16 (pc := 59) (x := (.iconst 1, 1)) (by decide +kernel)) (by decide)
theorem e_16_60 : Df d 16 60 [l0, l1, l2] (.int y :: .int x :: st) h nx = Df d 16 61 [l0, l1, l2] (.int (x + y) :: st) h nx := D_iadd (ins_of mc_16 (pc := 60) (x := (.iadd, 1)) (by decide +kernel))
theorem e_16_61 : Df d 16 61 [l0, l1, l2] (.int x :: .ref a :: st) h nx = (pF h a 1 9 (.int x)).bind fun h => Df d 16 64 [l0, l1, l2] st h nx := D_putfield (ins_of mc_16 (pc := 61) (x := (.putfield 43, 3)) (by decide +kernel)) mo_16 (by decide +kernel) rfl (Or.inl rfl)
theorem e_16_64 : Df d 16 64 [.ref a, l1, l2] st h nx = Df d 16 65 [.ref a, l1, l2] (.ref a :: st) h nx := D_aload_n (ins_of mc_16 (pc := 64) (x := (.aload_n 0, 1)) (by decide +kernel)) rfl
theorem e_16_65 : Df d 16 65 [.ref a, l1, l2] st h nx = Df d 16 66 [.ref a, l1, l2] (.ref a :: st) h nx := D_aload_n (ins_of mc_16 (pc := 65) (x := (.aload_n 0, 1)) (by decide +kernel)) rfl
theorem e_16_66 : Df d 16 66 [l0, l1, l2] (.ref a :: st) h nx = (gF h a 1 3).bind fun v => Df d 16 69 [l0, l1, l2] (v :: st) h nx := D_getfield (ins_of mc_16 (pc := 66) (x := (.getfield 25, 3)) (by decide +kernel)) mo_16 (by decide +kernel)
theorem e_16_69 : Df d 16 69 [l0, l1, .int x] st h nx = Df d 16 70 [l0, l1, .int x] (.int x :: st) h nx := D_iload_n (ins_of mc_16 (pc := 69) (x := (.iload_n 2, 1)) (by decide +kernel)) rfl
theorem e_16_70 : Df d 16 70 [l0, l1, l2] (.int y :: .int x :: st) h nx = Df d 16 71 [l0, l1, l2] (.int (x + y) :: st) h nx := D_iadd (ins_of mc_16 (pc := 70) (x := (.iadd, 1)) (by decide +kernel))
theorem e_16_71 : Df d 16 71 [l0, l1, l2] st h nx = Df d 16 73 [l0, l1, l2] (.int 24 :: st) h nx := D_bipush (ins_of mc_16 (pc := 71) (x := (.bipush 24, 2)) (by decide +kernel)) (by decide)
theorem e_16_73 : Df d 16 73 [l0, l1, l2] [v1, v0, s0] h nx = cn d 16 76 [l0, l1, l2] [s0] (Dn d 213 [v0, v1] h nx) := D_static (k1 := 213) (kd := 1) (ins_of mc_16 (pc := 73) (x := (.invokestatic 122, 3)) (by decide +kernel)) mo_16 (by decide +kernel) (by decide) rfl (Nat.le_of_ble_eq_true rfl) rfl (Nat.le_of_ble_eq_true rfl) rfl
theorem e_16_76 : Df d 16 76 [l0, l1, l2] (.int x :: .ref a :: st) h nx = (pF h a 1 3 (.int x)).bind fun h => Df d 16 79 [l0, l1, l2] st h nx := D_putfield (ins_of mc_16 (pc := 76) (x := (.putfield 25, 3)) (by decide +kernel)) mo_16 (by decide +kernel) rfl (Or.inl rfl)
theorem e_16_79 : Df d 16 79 [l0, l1, l2] [] h nx = some (none, h, nx) := D_return (ins_of mc_16 (pc := 79) (x := (.return_, 1)) (by decide +kernel)) mr_16
theorem mc_17 : mC 17 = prog_3_method_20_code := rfl
theorem mo_17 : mO 17 = 1 := rfl
theorem ml_17 : mL 17 = 2 := rfl
theorem mr_17 : mR 17 = none := rfl
theorem ma_17 : mA 17 = 0 := rfl
theorem e_17_0 : Df d 17 0 [l0, l1] st h nx = Df d 17 1 [l0, l1] (.int 0 :: st) h nx := D_iconst (ins_of mc_17 (pc := 0) (x := (.iconst 0, 1)) (by decide +kernel)) (by decide)
theorem e_17_1 (hn : nr l1 = true) : Df d 17 1 [l0, l1] (.int x :: st) h nx = Df d 17 2 [l0, .int x] st h nx := D_istore_n (ins_of mc_17 (pc := 1) (x := (.istore_n 1, 1)) (by decide +kernel)) rfl hn rfl
theorem e_17_2 : Df d 17 2 [l0, .int x] st h nx = Df d 17 3 [l0, .int x] (.int x :: st) h nx := D_iload_n (ins_of mc_17 (pc := 2) (x := (.iload_n 1, 1)) (by decide +kernel)) rfl
theorem e_17_3 : Df d 17 3 [.ref a, l1] st h nx = Df d 17 4 [.ref a, l1] (.ref a :: st) h nx := D_aload_n (ins_of mc_17 (pc := 3) (x := (.aload_n 0, 1)) (by decide +kernel)) rfl
theorem e_17_4 : Df d 17 4 [l0, l1] (.ref a :: st) h nx = (gF h a 1 2).bind fun v => Df d 17 7 [l0, l1] (v :: st) h nx := D_getfield (ins_of mc_17 (pc := 4) (x := (.getfield 21, 3)) (by decide +kernel)) mo_17 (by decide +kernel)
theorem e_17_7 : Df d 17 7 [l0, l1] (.int y :: .int x :: st) h nx = if y ≤ x then Df d 17 55 [l0, l1] st h nx else Df d 17 10 [l0, l1] st h nx := D_icmp_ge (ins_of mc_17 (pc := 7) (x := (.if_icmp .ge 48, 3)) (by decide +kernel)) (by decide)
theorem e_17_10 : Df d 17 10 [.ref a, l1] st h nx = Df d 17 11 [.ref a, l1] (.ref a :: st) h nx := D_aload_n (ins_of mc_17 (pc := 10) (x := (.aload_n 0, 1)) (by decide +kernel)) rfl
theorem e_17_11 : Df d 17 11 [l0, l1] (.ref a :: st) h nx = (gF h a 1 1).bind fun v => Df d 17 14 [l0, l1] (v :: st) h nx := D_getfield (ins_of mc_17 (pc := 11) (x := (.getfield 17, 3)) (by decide +kernel)) mo_17 (by decide +kernel)
theorem e_17_14 : Df d 17 14 [l0, .int x] st h nx = Df d 17 15 [l0, .int x] (.int x :: st) h nx := D_iload_n (ins_of mc_17 (pc := 14) (x := (.iload_n 1, 1)) (by decide +kernel)) rfl
theorem e_17_15 : Df d 17 15 [l0, l1] (.int x :: .ref a :: st) h nx = (rR h a x).bind fun v => Df d 17 16 [l0, l1] (.ref v :: st) h nx := D_aaload (ins_of mc_17 (pc := 15) (x := (.aaload, 1)) (by decide +kernel))
theorem e_17_16 : Df d 17 16 [l0, l1] (.ref a :: st) h nx = (gF h a 7 5).bind fun v => Df d 17 19 [l0, l1] (v :: st) h nx := D_getfield (ins_of mc_17 (pc := 16) (x := (.getfield 88, 3)) (by decide +kernel)) mo_17 (by decide +kernel)
theorem e_17_19 : Df d 17 19 [l0, l1] (.int x :: st) h nx = if x = 0 then Df d 17 49 [l0, l1] st h nx else Df d 17 22 [l0, l1] st h nx := D_if_eq (ins_of mc_17 (pc := 19) (x := (.ifCond .eq 30, 3)) (by decide +kernel)) (by decide)
theorem e_17_22 : Df d 17 22 [.ref a, l1] st h nx = Df d 17 23 [.ref a, l1] (.ref a :: st) h nx := D_aload_n (ins_of mc_17 (pc := 22) (x := (.aload_n 0, 1)) (by decide +kernel)) rfl
theorem e_17_23 : Df d 17 23 [l0, l1] (.ref a :: st) h nx = (gF h a 1 0).bind fun v => Df d 17 26 [l0, l1] (v :: st) h nx := D_getfield (ins_of mc_17 (pc := 23) (x := (.getfield 9, 3)) (by decide +kernel)) mo_17 (by decide +kernel)
theorem e_17_26 : Df d 17 26 [.ref a, l1] st h nx = Df d 17 27 [.ref a, l1] (.ref a :: st) h nx := D_aload_n (ins_of mc_17 (pc := 26) (x := (.aload_n 0, 1)) (by decide +kernel)) rfl
theorem e_17_27 : Df d 17 27 [l0, l1] (.ref a :: st) h nx = (gF h a 1 3).bind fun v => Df d 17 30 [l0, l1] (v :: st) h nx := D_getfield (ins_of mc_17 (pc := 27) (x := (.getfield 25, 3)) (by decide +kernel)) mo_17 (by decide +kernel)
theorem e_17_30 : Df d 17 30 [.ref a, l1] st h nx = Df d 17 31 [.ref a, l1] (.ref a :: st) h nx := D_aload_n (ins_of mc_17 (pc := 30) (x := (.aload_n 0, 1)) (by decide +kernel)) rfl
theorem e_17_31 : Df d 17 31 [l0, l1] (.ref a :: st) h nx = (gF h a 1 1).bind fun v => Df d 17 34 [l0, l1] (v :: st) h nx := D_getfield (ins_of mc_17 (pc := 31) (x := (.getfield 17, 3)) (by decide +kernel)) mo_17 (by decide +kernel)
theorem e_17_34 : Df d 17 34 [l0, .int x] st h nx = Df d 17 35 [l0, .int x] (.int x :: st) h nx := D_iload_n (ins_of mc_17 (pc := 34) (x := (.iload_n 1, 1)) (by decide +kernel)) rfl
theorem e_17_35 : Df d 17 35 [l0, l1] (.int x :: .ref a :: st) h nx = (rR h a x).bind fun v => Df d 17 36 [l0, l1] (.ref v :: st) h nx := D_aaload (ins_of mc_17 (pc := 35) (x := (.aaload, 1)) (by decide +kernel))
theorem e_17_36 : Df d 17 36 [.ref a, l1] st h nx = Df d 17 37 [.ref a, l1] (.ref a :: st) h nx := D_aload_n (ins_of mc_17 (pc := 36) (x := (.aload_n 0, 1)) (by decide +kernel)) rfl
theorem e_17_37 : Df d 17 37 [l0, l1] (.ref a :: st) h nx = (gF h a 1 0).bind fun v => Df d 17 40 [l0, l1] (v :: st) h nx := D_getfield (ins_of mc_17 (pc := 37) (x := (.getfield 9, 3)) (by decide +kernel)) mo_17 (by decide +kernel)
theorem e_17_40 : Df d 17 40 [.ref a, l1] st h nx = Df d 17 41 [.ref a, l1] (.ref a :: st) h nx := D_aload_n (ins_of mc_17 (pc := 40) (x := (.aload_n 0, 1)) (by decide +kernel)) rfl
theorem e_17_41 : Df d 17 41 [l0, l1] (.ref a :: st) h nx = (gF h a 1 3).bind fun v => Df d 17 44 [l0, l1] (v :: st) h nx := D_getfield (ins_of mc_17 (pc := 41) (x := (.getfield 25, 3)) (by decide +kernel)) mo_17 (by decide +kernel)
theorem e_17_44 : Df d 17 44 [l0, l1] (.int x :: .ref a :: st) h nx = (rX h a x).bind fun v => Df d 17 45 [l0, l1] (.int v :: st) h nx := D_iaload (ins_of mc_17 (pc := 44) (x := (.iaload, 1)) (by decide +kernel))
theorem e_17_45 : Df d 17 45 [l0, l1] [v0, .ref a, s0, s1] h nx = if ck h a 7 = true then cn d 17 48 [l0, l1] [s0, s1] (Dn d 67 [.ref a, v0] h nx) else none := D_virtual (k1 := 67) (ins_of mc_17 (pc := 45) (x := (.invokevirtual 150, 3)) (by decide +kernel)) mo_17 (by decide +kernel) (by decide) rfl rfl (by decide) rfl (Nat.le_of_ble_eq_true rfl) rfl
theorem e_17_48 : Df d 17 48 [l0, l1] (.int y :: .int x :: .ref a :: st) h nx = (wI h a x 0 y).bind fun h => Df d 17 49 [l0, l1] st h nx := D_iastore (ins_of mc_17 (pc := 48) (x := (.iastore, 1)) (by decide +kernel))
theorem e_17_49 : Df d 17 49 [l0, .int x] st h nx = Df d 17 52 [l0, .int (x + 1)] st h nx := D_iinc (ins_of mc_17 (pc := 49) (x := (.iinc 1 1, 3)) (by decide +kernel)) rfl (by decide) rfl
theorem e_17_52 : Df d 17 52 [l0, l1] st h nx = Df d 17 2 [l0, l1] st h nx := D_goto (ins_of mc_17 (pc := 52) (x := (.goto (-50), 3)) (by decide +kernel)) (by decide)
theorem e_17_55 : Df d 17 55 [l0, l1] [] h nx = some (none, h, nx) := D_return (ins_of mc_17 (pc := 55) (x := (.return_, 1)) (by decide +kernel)) mr_17
theorem mc_18 : mC 18 = prog_3_method_21_code := rfl
theorem mo_18 : mO 18 = 1 := rfl
theorem ml_18 : mL 18 = 3 := rfl
theorem mr_18 : mR 18 = none := rfl
theorem ma_18 : mA 18 = 1 := rfl
theorem e_18_0 : Df d 18 0 [l0, l1, l2] st h nx = Df d 18 1 [l0, l1, l2] (.int 0 :: st) h nx := D_iconst (ins_of mc_18 (pc := 0) (x := (.iconst 0, 1)) (by decide +kernel)) (by decide)
theorem e_18_1 (hn : nr l2 = true) : Df d 18 1 [l0, l1, l2] (.int x :: st) h nx = Df d 18 2 [l0, l1, .int x] st h nx := D_istore_n (ins_of mc_18 (pc := 1) (x := (.istore_n 2, 1)) (by decide +kernel)) rfl hn rfl
theorem e_18_2 : Df d 18 2 [l0, l1, .int x] st h nx = Df d 18 3 [l0, l1, .int x] (.int x :: st) h nx := D_iload_n (ins_of mc_18 (pc := 2) (x := (.iload_n 2, 1)) (by decide +kernel)) rfl
theorem e_18_3 : Df d 18 3 [.ref a, l1, l2] st h nx = Df d 18 4 [.ref a, l1, l2] (.ref a :: st) h nx := D_aload_n (ins_of mc_18 (pc := 3) (x := (.aload_n 0, 1)) (by decide +kernel)) rfl
theorem e_18_4 : Df d 18 4 [l0, l1, l2] (.ref a :: st) h nx = (gF h a 1 2).bind fun v => Df d 18 7 [l0, l1, l2] (v :: st) h nx := D_getfield (ins_of mc_18 (pc := 4) (x := (.getfield 21, 3)) (by decide +kernel)) mo_18 (by decide +kernel)
theorem e_18_7 : Df d 18 7 [l0, l1, l2] (.int y :: .int x :: st) h nx = if y ≤ x then Df d 18 52 [l0, l1, l2] st h nx else Df d 18 10 [l0, l1, l2] st h nx := D_icmp_ge (ins_of mc_18 (pc := 7) (x := (.if_icmp .ge 45, 3)) (by decide +kernel)) (by decide)
theorem e_18_10 : Df d 18 10 [.ref a, l1, l2] st h nx = Df d 18 11 [.ref a, l1, l2] (.ref a :: st) h nx := D_aload_n (ins_of mc_18 (pc := 10) (x := (.aload_n 0, 1)) (by decide +kernel)) rfl
theorem e_18_11 : Df d 18 11 [l0, l1, l2] (.ref a :: st) h nx = (gF h a 1 1).bind fun v => Df d 18 14 [l0, l1, l2] (v :: st) h nx := D_getfield (ins_of mc_18 (pc := 11) (x := (.getfield 17, 3)) (by decide +kernel)) mo_18 (by decide +kernel)
theorem e_18_14 : Df d 18 14 [l0, l1, .int x] st h nx = Df d 18 15 [l0, l1, .int x] (.int x :: st) h nx := D_iload_n (ins_of mc_18 (pc := 14) (x := (.iload_n 2, 1)) (by decide +kernel)) rfl
theorem e_18_15 : Df d 18 15 [l0, l1, l2] (.int x :: .ref a :: st) h nx = (rR h a x).bind fun v => Df d 18 16 [l0, l1, l2] (.ref v :: st) h nx := D_aaload (ins_of mc_18 (pc := 15) (x := (.aaload, 1)) (by decide +kernel))
theorem e_18_16 : Df d 18 16 [l0, l1, l2] (.ref a :: st) h nx = (gF h a 7 5).bind fun v => Df d 18 19 [l0, l1, l2] (v :: st) h nx := D_getfield (ins_of mc_18 (pc := 16) (x := (.getfield 88, 3)) (by decide +kernel)) mo_18 (by decide +kernel)
theorem e_18_19 : Df d 18 19 [l0, l1, l2] (.int x :: st) h nx = if x = 0 then Df d 18 46 [l0, l1, l2] st h nx else Df d 18 22 [l0, l1, l2] st h nx := D_if_eq (ins_of mc_18 (pc := 19) (x := (.ifCond .eq 27, 3)) (by decide +kernel)) (by decide)
theorem e_18_22 : Df d 18 22 [.ref a, l1, l2] st h nx = Df d 18 23 [.ref a, l1, l2] (.ref a :: st) h nx := D_aload_n (ins_of mc_18 (pc := 22) (x := (.aload_n 0, 1)) (by decide +kernel)) rfl
theorem e_18_23 : Df d 18 23 [l0, l1, l2] (.ref a :: st) h nx = (gF h a 1 1).bind fun v => Df d 18 26 [l0, l1, l2] (v :: st) h nx := D_getfield (ins_of mc_18 (pc := 23) (x := (.getfield 17, 3)) (by decide +kernel)) mo_18 (by decide +kernel)
theorem e_18_26 : Df d 18 26 [l0, l1, .int x] st h nx = Df d 18 27 [l0, l1, .int x] (.int x :: st) h nx := D_iload_n (ins_of mc_18 (pc := 26) (x := (.iload_n 2, 1)) (by decide +kernel)) rfl
theorem e_18_27 : Df d 18 27 [l0, l1, l2] (.int x :: .ref a :: st) h nx = (rR h a x).bind fun v => Df d 18 28 [l0, l1, l2] (.ref v :: st) h nx := D_aaload (ins_of mc_18 (pc := 27) (x := (.aaload, 1)) (by decide +kernel))
theorem e_18_28 : Df d 18 28 [.ref a, l1, l2] st h nx = Df d 18 29 [.ref a, l1, l2] (.ref a :: st) h nx := D_aload_n (ins_of mc_18 (pc := 28) (x := (.aload_n 0, 1)) (by decide +kernel)) rfl
theorem e_18_29 : Df d 18 29 [.ref a, l1, l2] st h nx = Df d 18 30 [.ref a, l1, l2] (.ref a :: st) h nx := D_aload_n (ins_of mc_18 (pc := 29) (x := (.aload_n 0, 1)) (by decide +kernel)) rfl
theorem e_18_30 : Df d 18 30 [l0, l1, l2] (.ref a :: st) h nx = (gF h a 1 1).bind fun v => Df d 18 33 [l0, l1, l2] (v :: st) h nx := D_getfield (ins_of mc_18 (pc := 30) (x := (.getfield 17, 3)) (by decide +kernel)) mo_18 (by decide +kernel)
theorem e_18_33 : Df d 18 33 [l0, l1, .int x] st h nx = Df d 18 34 [l0, l1, .int x] (.int x :: st) h nx := D_iload_n (ins_of mc_18 (pc := 33) (x := (.iload_n 2, 1)) (by decide +kernel)) rfl
theorem e_18_34 : Df d 18 34 [l0, l1, l2] (.int x :: .ref a :: st) h nx = (rR h a x).bind fun v => Df d 18 35 [l0, l1, l2] (.ref v :: st) h nx := D_aaload (ins_of mc_18 (pc := 34) (x := (.aaload, 1)) (by decide +kernel))
theorem e_18_35 : Df d 18 35 [l0, .ref a, l2] st h nx = Df d 18 36 [l0, .ref a, l2] (.ref a :: st) h nx := D_aload_n (ins_of mc_18 (pc := 35) (x := (.aload_n 1, 1)) (by decide +kernel)) rfl
theorem e_18_36 : Df d 18 36 [l0, l1, l2] [v1, v0, .ref a, s0] h nx = if ck h a 1 = true then cn d 18 39 [l0, l1, l2] [s0] (Dn d 7 [.ref a, v0, v1] h nx) else none := D_virtual (k1 := 7) (ins_of mc_18 (pc := 36) (x := (.invokevirtual 153, 3)) (by decide +kernel)) mo_18 (by decide +kernel) (by decide) rfl rfl (by decide) rfl (Nat.le_of_ble_eq_true rfl) rfl
theorem e_18_39 : Df d 18 39 [.ref a, l1, l2] st h nx = Df d 18 40 [.ref a, l1, l2] (.ref a :: st) h nx := D_aload_n (ins_of mc_18 (pc := 39) (x := (.aload_n 0, 1)) (by decide +kernel)) rfl
theorem e_18_40 : Df d 18 40 [l0, l1, l2] (.ref a :: st) h nx = (gF h a 1 5).bind fun v => Df d 18 43 [l0, l1, l2] (v :: st) h nx := D_getfield (ins_of mc_18 (pc := 40) (x := (.getfield 31, 3)) (by decide +kernel)) mo_18 (by decide +kernel)
theorem e_18_43 : Df d 18 43 [l0, l1, l2] [v1, v0, .ref a] h nx = if ck h a 7 = true then cn d 18 46 [l0, l1, l2] [] (Dn d 69 [.ref a, v0, v1] h nx) else none := D_virtual (k1 := 69) (ins_of mc_18 (pc := 43) (x := (.invokevirtual 157, 3)) (by decide +kernel)) mo_18 (by decide +kernel) (by decide) rfl rfl (by decide) rfl (Nat.le_of_ble_eq_true rfl) rfl
theorem e_18_46 : Df d 18 46 [l0, l1, .int x] st h nx = Df d 18 49 [l0, l1, .int (x + 1)] st h nx := D_iinc (ins_of mc_18 (pc := 46) (x := (.iinc 2 1, 3)) (by decide +kernel)) rfl (by decide) rfl
theorem e_18_49 : Df d 18 49 [l0, l1, l2] st h nx = Df d 18 2 [l0, l1, l2] st h nx := D_goto (ins_of mc_18 (pc := 49) (x := (.goto (-47), 3)) (by decide +kernel)) (by decide)
theorem e_18_52 : Df d 18 52 [l0, l1, l2] [] h nx = some (none, h, nx) := D_return (ins_of mc_18 (pc := 52) (x := (.return_, 1)) (by decide +kernel)) mr_18
theorem mc_19 : mC 19 = prog_3_method_22_code := rfl
theorem mo_19 : mO 19 = 1 := rfl
theorem ml_19 : mL 19 = 4 := rfl
theorem mr_19 : mR 19 = none := rfl
theorem ma_19 : mA 19 = 0 := rfl
theorem e_19_0 : Df d 19 0 [l0, l1, l2, l3] st h nx = Df d 19 1 [l0, l1, l2, l3] (.int 0 :: st) h nx := D_iconst (ins_of mc_19 (pc := 0) (x := (.iconst 0, 1)) (by decide +kernel)) (by decide)
theorem e_19_1 (hn : nr l1 = true) : Df d 19 1 [l0, l1, l2, l3] (.int x :: st) h nx = Df d 19 2 [l0, .int x, l2, l3] st h nx := D_istore_n (ins_of mc_19 (pc := 1) (x := (.istore_n 1, 1)) (by decide +kernel)) rfl hn rfl
theorem e_19_2 : Df d 19 2 [l0, l1, l2, l3] st h nx = Df d 19 3 [l0, l1, l2, l3] (.int 0 :: st) h nx := D_iconst (ins_of mc_19 (pc := 2) (x := (.iconst 0, 1)) (by decide +kernel)) (by decide)
theorem e_19_3 (hn : nr l2 = true) : Df d 19 3 [l0, l1, l2, l3] (.int x :: st) h nx = Df d 19 4 [l0, l1, .int x, l3] st h nx := D_istore_n (ins_of mc_19 (pc := 3) (x := (.istore_n 2, 1)) (by decide +kernel)) rfl hn rfl
theorem e_19_4 : Df d 19 4 [l0, l1, .int x, l3] st h nx = Df d 19 5 [l0, l1, .int x, l3] (.int x :: st) h nx := D_iload_n (ins_of mc_19 (pc := 4) (x := (.iload_n 2, 1)) (by decide +kernel)) rfl
theorem e_19_5 : Df d 19 5 [.ref a, l1, l2, l3] st h nx = Df d 19 6 [.ref a, l1, l2, l3] (.ref a :: st) h nx := D_aload_n (ins_of mc_19 (pc := 5) (x := (.aload_n 0, 1)) (by decide +kernel)) rfl
theorem e_19_6 : Df d 19 6 [l0, l1, l2, l3] (.ref a :: st) h nx = (gF h a 1 2).bind fun v => Df d 19 9 [l0, l1, l2, l3] (v :: st) h nx := D_getfield (ins_of mc_19 (pc := 6) (x := (.getfield 21, 3)) (by decide +kernel)) mo_19 (by decide +kernel)
theorem e_19_9 : Df d 19 9 [l0, l1, l2, l3] (.int y :: .int x :: st) h nx = if y ≤ x then Df d 19 70 [l0, l1, l2, l3] st h nx else Df d 19 12 [l0, l1, l2, l3] st h nx := D_icmp_ge (ins_of mc_19 (pc := 9) (x := (.if_icmp .ge 61, 3)) (by decide +kernel)) (by decide)
theorem e_19_12 : Df d 19 12 [.ref a, l1, l2, l3] st h nx = Df d 19 13 [.ref a, l1, l2, l3] (.ref a :: st) h nx := D_aload_n (ins_of mc_19 (pc := 12) (x := (.aload_n 0, 1)) (by decide +kernel)) rfl
theorem e_19_13 : Df d 19 13 [l0, l1, l2, l3] (.ref a :: st) h nx = (gF h a 1 1).bind fun v => Df d 19 16 [l0, l1, l2, l3] (v :: st) h nx := D_getfield (ins_of mc_19 (pc := 13) (x := (.getfield 17, 3)) (by decide +kernel)) mo_19 (by decide +kernel)
theorem e_19_16 : Df d 19 16 [l0, l1, .int x, l3] st h nx = Df d 19 17 [l0, l1, .int x, l3] (.int x :: st) h nx := D_iload_n (ins_of mc_19 (pc := 16) (x := (.iload_n 2, 1)) (by decide +kernel)) rfl
theorem e_19_17 : Df d 19 17 [l0, l1, l2, l3] (.int x :: .ref a :: st) h nx = (rR h a x).bind fun v => Df d 19 18 [l0, l1, l2, l3] (.ref v :: st) h nx := D_aaload (ins_of mc_19 (pc := 17) (x := (.aaload, 1)) (by decide +kernel))
theorem e_19_18 (hn : nr l3 = true) : Df d 19 18 [l0, l1, l2, l3] (.ref a :: st) h nx = Df d 19 19 [l0, l1, l2, .ref a] st h nx := D_astore_n (ins_of mc_19 (pc := 18) (x := (.astore_n 3, 1)) (by decide +kernel)) rfl hn rfl
theorem e_19_19 : Df d 19 19 [l0, l1, l2, .ref a] st h nx = Df d 19 20 [l0, l1, l2, .ref a] (.ref a :: st) h nx := D_aload_n (ins_of mc_19 (pc := 19) (x := (.aload_n 3, 1)) (by decide +kernel)) rfl
theorem e_19_20 : Df d 19 20 [l0, l1, l2, l3] (.ref a :: st) h nx = (gF h a 7 5).bind fun v => Df d 19 23 [l0, l1, l2, l3] (v :: st) h nx := D_getfield (ins_of mc_19 (pc := 20) (x := (.getfield 88, 3)) (by decide +kernel)) mo_19 (by decide +kernel)
theorem e_19_23 : Df d 19 23 [l0, l1, l2, l3] (.int x :: st) h nx = if x = 0 then Df d 19 64 [l0, l1, l2, l3] st h nx else Df d 19 26 [l0, l1, l2, l3] st h nx := D_if_eq (ins_of mc_19 (pc := 23) (x := (.ifCond .eq 41, 3)) (by decide +kernel)) (by decide)
theorem e_19_26 : Df d 19 26 [l0, l1, l2, .ref a] st h nx = Df d 19 27 [l0, l1, l2, .ref a] (.ref a :: st) h nx := D_aload_n (ins_of mc_19 (pc := 26) (x := (.aload_n 3, 1)) (by decide +kernel)) rfl
theorem e_19_27 : Df d 19 27 [l0, l1, l2, l3] (.ref a :: st) h nx = (gF h a 7 1).bind fun v => Df d 19 30 [l0, l1, l2, l3] (v :: st) h nx := D_getfield (ins_of mc_19 (pc := 27) (x := (.getfield 70, 3)) (by decide +kernel)) mo_19 (by decide +kernel)
theorem e_19_30 : Df d 19 30 [.ref a, l1, l2, l3] st h nx = Df d 19 31 [.ref a, l1, l2, l3] (.ref a :: st) h nx := D_aload_n (ins_of mc_19 (pc := 30) (x := (.aload_n 0, 1)) (by decide +kernel)) rfl
theorem e_19_31 : Df d 19 31 [l0, l1, l2, l3] (.ref a :: st) h nx = (gF h a 1 7).bind fun v => Df d 19 34 [l0, l1, l2, l3] (v :: st) h nx := D_getfield (ins_of mc_19 (pc := 31) (x := (.getfield 37, 3)) (by decide +kernel)) mo_19 (by decide +kernel)
theorem e_19_34 : Df d 19 34 [l0, l1, l2, l3] (.int y :: .int x :: st) h nx = if x < y then Df d 19 64 [l0, l1, l2, l3] st h nx else Df d 19 37 [l0, l1, l2, l3] st h nx := D_icmp_lt (ins_of mc_19 (pc := 34) (x := (.if_icmp .lt 30, 3)) (by decide +kernel)) (by decide)
theorem e_19_37 : Df d 19 37 [l0, l1, l2, .ref a] st h nx = Df d 19 38 [l0, l1, l2, .ref a] (.ref a :: st) h nx := D_aload_n (ins_of mc_19 (pc := 37) (x := (.aload_n 3, 1)) (by decide +kernel)) rfl
theorem e_19_38 : Df d 19 38 [l0, l1, l2, l3] st h nx = Df d 19 39 [l0, l1, l2, l3] (.int 0 :: st) h nx := D_iconst (ins_of mc_19 (pc := 38) (x := (.iconst 0, 1)) (by decide +kernel)) (by decide)
theorem e_19_39 : Df d 19 39 [l0, l1, l2, l3] (.int x :: .ref a :: st) h nx = if x = 0 ∨ x = 1 then (pF h a 7 5 (.int x)).bind fun h => Df d 19 42 [l0, l1, l2, l3] st h nx else none := D_putbool (ins_of mc_19 (pc := 39) (x := (.putfield 88, 3)) (by decide +kernel)) mo_19 (by decide +kernel) rfl (Or.inl rfl)
theorem e_19_42 : Df d 19 42 [.ref a, l1, l2, l3] st h nx = Df d 19 43 [.ref a, l1, l2, l3] (.ref a :: st) h nx := D_aload_n (ins_of mc_19 (pc := 42) (x := (.aload_n 0, 1)) (by decide +kernel)) rfl
theorem e_19_43 (hv : v0.category = 1) : Df d 19 43 [l0, l1, l2, l3] (v0 :: st) h nx = Df d 19 44 [l0, l1, l2, l3] (v0 :: v0 :: st) h nx := D_dup (ins_of mc_19 (pc := 43) (x := (.dup, 1)) (by decide +kernel)) hv
theorem e_19_44 : Df d 19 44 [l0, l1, l2, l3] (.ref a :: st) h nx = (gF h a 1 8).bind fun v => Df d 19 47 [l0, l1, l2, l3] (v :: st) h nx := D_getfield (ins_of mc_19 (pc := 44) (x := (.getfield 40, 3)) (by decide +kernel)) mo_19 (by decide +kernel)
theorem e_19_47 : Df d 19 47 [l0, l1, l2, l3] st h nx = Df d 19 48 [l0, l1, l2, l3] (.int 1 :: st) h nx := D_iconst (ins_of mc_19 (pc := 47) (x := (.iconst 1, 1)) (by decide +kernel)) (by decide)
theorem e_19_48 : Df d 19 48 [l0, l1, l2, l3] (.int y :: .int x :: st) h nx = Df d 19 49 [l0, l1, l2, l3] (.int (x + y) :: st) h nx := D_iadd (ins_of mc_19 (pc := 48) (x := (.iadd, 1)) (by decide +kernel))
theorem e_19_49 : Df d 19 49 [l0, l1, l2, l3] (.int x :: .ref a :: st) h nx = (pF h a 1 8 (.int x)).bind fun h => Df d 19 52 [l0, l1, l2, l3] st h nx := D_putfield (ins_of mc_19 (pc := 49) (x := (.putfield 40, 3)) (by decide +kernel)) mo_19 (by decide +kernel) rfl (Or.inl rfl)
theorem e_19_52 : Df d 19 52 [l0, .int x, l2, l3] st h nx = Df d 19 53 [l0, .int x, l2, l3] (.int x :: st) h nx := D_iload_n (ins_of mc_19 (pc := 52) (x := (.iload_n 1, 1)) (by decide +kernel)) rfl
theorem e_19_53 : Df d 19 53 [l0, l1, l2, .ref a] st h nx = Df d 19 54 [l0, l1, l2, .ref a] (.ref a :: st) h nx := D_aload_n (ins_of mc_19 (pc := 53) (x := (.aload_n 3, 1)) (by decide +kernel)) rfl
theorem e_19_54 : Df d 19 54 [l0, l1, l2, l3] (.ref a :: st) h nx = (gF h a 7 2).bind fun v => Df d 19 57 [l0, l1, l2, l3] (v :: st) h nx := D_getfield (ins_of mc_19 (pc := 54) (x := (.getfield 92, 3)) (by decide +kernel)) mo_19 (by decide +kernel)
theorem e_19_57 : Df d 19 57 [l0, l1, l2, l3] (.int y :: .int x :: st) h nx = Df d 19 58 [l0, l1, l2, l3] (.int (x + y) :: st) h nx := D_iadd (ins_of mc_19 (pc := 57) (x := (.iadd, 1)) (by decide +kernel))
theorem e_19_58 (hn : nr l1 = true) : Df d 19 58 [l0, l1, l2, l3] (.int x :: st) h nx = Df d 19 59 [l0, .int x, l2, l3] st h nx := D_istore_n (ins_of mc_19 (pc := 58) (x := (.istore_n 1, 1)) (by decide +kernel)) rfl hn rfl
theorem e_19_59 : Df d 19 59 [l0, l1, l2, .ref a] st h nx = Df d 19 60 [l0, l1, l2, .ref a] (.ref a :: st) h nx := D_aload_n (ins_of mc_19 (pc := 59) (x := (.aload_n 3, 1)) (by decide +kernel)) rfl
theorem e_19_60 : Df d 19 60 [l0, l1, l2, l3] st h nx = Df d 19 61 [l0, l1, l2, l3] (.int 0 :: st) h nx := D_iconst (ins_of mc_19 (pc := 60) (x := (.iconst 0, 1)) (by decide +kernel)) (by decide)
theorem e_19_61 : Df d 19 61 [l0, l1, l2, l3] (.int x :: .ref a :: st) h nx = (pF h a 7 2 (.int x)).bind fun h => Df d 19 64 [l0, l1, l2, l3] st h nx := D_putfield (ins_of mc_19 (pc := 61) (x := (.putfield 92, 3)) (by decide +kernel)) mo_19 (by decide +kernel) rfl (Or.inl rfl)
theorem e_19_64 : Df d 19 64 [l0, l1, .int x, l3] st h nx = Df d 19 67 [l0, l1, .int (x + 1), l3] st h nx := D_iinc (ins_of mc_19 (pc := 64) (x := (.iinc 2 1, 3)) (by decide +kernel)) rfl (by decide) rfl
theorem e_19_67 : Df d 19 67 [l0, l1, l2, l3] st h nx = Df d 19 4 [l0, l1, l2, l3] st h nx := D_goto (ins_of mc_19 (pc := 67) (x := (.goto (-63), 3)) (by decide +kernel)) (by decide)
theorem e_19_70 : Df d 19 70 [.ref a, l1, l2, l3] st h nx = Df d 19 71 [.ref a, l1, l2, l3] (.ref a :: st) h nx := D_aload_n (ins_of mc_19 (pc := 70) (x := (.aload_n 0, 1)) (by decide +kernel)) rfl
theorem e_19_71 : Df d 19 71 [l0, l1, l2, l3] [.ref a] h nx = if ck h a 1 = true then cn d 19 74 [l0, l1, l2, l3] [] (Dn d 15 [.ref a] h nx) else none := D_virtual (k1 := 15) (ins_of mc_19 (pc := 71) (x := (.invokevirtual 127, 3)) (by decide +kernel)) mo_19 (by decide +kernel) (by decide) rfl rfl (by decide) rfl (Nat.le_of_ble_eq_true rfl) rfl
theorem e_19_74 (hn : nr l2 = true) : Df d 19 74 [l0, l1, l2, l3] (.int x :: st) h nx = Df d 19 75 [l0, l1, .int x, l3] st h nx := D_istore_n (ins_of mc_19 (pc := 74) (x := (.istore_n 2, 1)) (by decide +kernel)) rfl hn rfl
theorem e_19_75 : Df d 19 75 [l0, l1, .int x, l3] st h nx = Df d 19 76 [l0, l1, .int x, l3] (.int x :: st) h nx := D_iload_n (ins_of mc_19 (pc := 75) (x := (.iload_n 2, 1)) (by decide +kernel)) rfl
theorem e_19_76 : Df d 19 76 [l0, l1, l2, l3] st h nx = Df d 19 77 [l0, l1, l2, l3] (.int (-1) :: st) h nx := D_iconst (ins_of mc_19 (pc := 76) (x := (.iconst (-1), 1)) (by decide +kernel)) (by decide)
theorem e_19_77 : Df d 19 77 [l0, l1, l2, l3] (.int y :: .int x :: st) h nx = if x = y then Df d 19 105 [l0, l1, l2, l3] st h nx else Df d 19 80 [l0, l1, l2, l3] st h nx := D_icmp_eq (ins_of mc_19 (pc := 77) (x := (.if_icmp .eq 28, 3)) (by decide +kernel)) (by decide)
theorem e_19_80 : Df d 19 80 [.ref a, l1, l2, l3] st h nx = Df d 19 81 [.ref a, l1, l2, l3] (.ref a :: st) h nx := D_aload_n (ins_of mc_19 (pc := 80) (x := (.aload_n 0, 1)) (by decide +kernel)) rfl
theorem e_19_81 : Df d 19 81 [l0, l1, l2, l3] (.ref a :: st) h nx = (gF h a 1 1).bind fun v => Df d 19 84 [l0, l1, l2, l3] (v :: st) h nx := D_getfield (ins_of mc_19 (pc := 81) (x := (.getfield 17, 3)) (by decide +kernel)) mo_19 (by decide +kernel)
theorem e_19_84 : Df d 19 84 [l0, l1, .int x, l3] st h nx = Df d 19 85 [l0, l1, .int x, l3] (.int x :: st) h nx := D_iload_n (ins_of mc_19 (pc := 84) (x := (.iload_n 2, 1)) (by decide +kernel)) rfl
theorem e_19_85 : Df d 19 85 [l0, l1, l2, l3] (.int x :: .ref a :: st) h nx = (rR h a x).bind fun v => Df d 19 86 [l0, l1, l2, l3] (.ref v :: st) h nx := D_aaload (ins_of mc_19 (pc := 85) (x := (.aaload, 1)) (by decide +kernel))
theorem e_19_86 : Df d 19 86 [l0, l1, l2, l3] st h nx = Df d 19 88 [l0, l1, l2, l3] (.int 30 :: st) h nx := D_bipush (ins_of mc_19 (pc := 86) (x := (.bipush 30, 2)) (by decide +kernel)) (by decide)
theorem e_19_88 : Df d 19 88 [.ref a, l1, l2, l3] st h nx = Df d 19 89 [.ref a, l1, l2, l3] (.ref a :: st) h nx := D_aload_n (ins_of mc_19 (pc := 88) (x := (.aload_n 0, 1)) (by decide +kernel)) rfl
theorem e_19_89 : Df d 19 89 [l0, l1, l2, l3] (.ref a :: st) h nx = (gF h a 1 1).bind fun v => Df d 19 92 [l0, l1, l2, l3] (v :: st) h nx := D_getfield (ins_of mc_19 (pc := 89) (x := (.getfield 17, 3)) (by decide +kernel)) mo_19 (by decide +kernel)
theorem e_19_92 : Df d 19 92 [l0, l1, .int x, l3] st h nx = Df d 19 93 [l0, l1, .int x, l3] (.int x :: st) h nx := D_iload_n (ins_of mc_19 (pc := 92) (x := (.iload_n 2, 1)) (by decide +kernel)) rfl
theorem e_19_93 : Df d 19 93 [l0, l1, l2, l3] (.int x :: .ref a :: st) h nx = (rR h a x).bind fun v => Df d 19 94 [l0, l1, l2, l3] (.ref v :: st) h nx := D_aaload (ins_of mc_19 (pc := 93) (x := (.aaload, 1)) (by decide +kernel))
theorem e_19_94 : Df d 19 94 [l0, l1, l2, l3] (.ref a :: st) h nx = (gF h a 7 2).bind fun v => Df d 19 97 [l0, l1, l2, l3] (v :: st) h nx := D_getfield (ins_of mc_19 (pc := 94) (x := (.getfield 92, 3)) (by decide +kernel)) mo_19 (by decide +kernel)
theorem e_19_97 : Df d 19 97 [l0, .int x, l2, l3] st h nx = Df d 19 98 [l0, .int x, l2, l3] (.int x :: st) h nx := D_iload_n (ins_of mc_19 (pc := 97) (x := (.iload_n 1, 1)) (by decide +kernel)) rfl
theorem e_19_98 : Df d 19 98 [l0, l1, l2, l3] (.int y :: .int x :: st) h nx = Df d 19 99 [l0, l1, l2, l3] (.int (x + y) :: st) h nx := D_iadd (ins_of mc_19 (pc := 98) (x := (.iadd, 1)) (by decide +kernel))
theorem e_19_99 : Df d 19 99 [l0, l1, l2, l3] [v1, v0, s0] h nx = cn d 19 102 [l0, l1, l2, l3] [s0] (Dn d 211 [v0, v1] h nx) := D_static (k1 := 211) (kd := 1) (ins_of mc_19 (pc := 99) (x := (.invokestatic 161, 3)) (by decide +kernel)) mo_19 (by decide +kernel) (by decide) rfl (Nat.le_of_ble_eq_true rfl) rfl (Nat.le_of_ble_eq_true rfl) rfl
theorem e_19_102 : Df d 19 102 [l0, l1, l2, l3] (.int x :: .ref a :: st) h nx = (pF h a 7 2 (.int x)).bind fun h => Df d 19 105 [l0, l1, l2, l3] st h nx := D_putfield (ins_of mc_19 (pc := 102) (x := (.putfield 92, 3)) (by decide +kernel)) mo_19 (by decide +kernel) rfl (Or.inl rfl)
theorem e_19_105 : Df d 19 105 [l0, l1, l2, l3] [] h nx = some (none, h, nx) := D_return (ins_of mc_19 (pc := 105) (x := (.return_, 1)) (by decide +kernel)) mr_19
theorem mc_20 : mC 20 = prog_3_method_10_code := rfl
theorem mo_20 : mO 20 = 1 := rfl
theorem ml_20 : mL 20 = 3 := rfl
theorem mr_20 : mR 20 = (some .int) := rfl
theorem ma_20 : mA 20 = 0 := rfl
theorem e_20_0 : Df d 20 0 [l0, l1, l2] st h nx = Df d 20 1 [l0, l1, l2] (.int 0 :: st) h nx := D_iconst (ins_of mc_20 (pc := 0) (x := (.iconst 0, 1)) (by decide +kernel)) (by decide)
theorem e_20_1 (hn : nr l1 = true) : Df d 20 1 [l0, l1, l2] (.int x :: st) h nx = Df d 20 2 [l0, .int x, l2] st h nx := D_istore_n (ins_of mc_20 (pc := 1) (x := (.istore_n 1, 1)) (by decide +kernel)) rfl hn rfl
theorem e_20_2 : Df d 20 2 [l0, l1, l2] st h nx = Df d 20 3 [l0, l1, l2] (.int 0 :: st) h nx := D_iconst (ins_of mc_20 (pc := 2) (x := (.iconst 0, 1)) (by decide +kernel)) (by decide)
theorem e_20_3 (hn : nr l2 = true) : Df d 20 3 [l0, l1, l2] (.int x :: st) h nx = Df d 20 4 [l0, l1, .int x] st h nx := D_istore_n (ins_of mc_20 (pc := 3) (x := (.istore_n 2, 1)) (by decide +kernel)) rfl hn rfl
theorem e_20_4 : Df d 20 4 [l0, l1, .int x] st h nx = Df d 20 5 [l0, l1, .int x] (.int x :: st) h nx := D_iload_n (ins_of mc_20 (pc := 4) (x := (.iload_n 2, 1)) (by decide +kernel)) rfl
theorem e_20_5 : Df d 20 5 [.ref a, l1, l2] st h nx = Df d 20 6 [.ref a, l1, l2] (.ref a :: st) h nx := D_aload_n (ins_of mc_20 (pc := 5) (x := (.aload_n 0, 1)) (by decide +kernel)) rfl
theorem e_20_6 : Df d 20 6 [l0, l1, l2] (.ref a :: st) h nx = (gF h a 1 2).bind fun v => Df d 20 9 [l0, l1, l2] (v :: st) h nx := D_getfield (ins_of mc_20 (pc := 6) (x := (.getfield 21, 3)) (by decide +kernel)) mo_20 (by decide +kernel)
theorem e_20_9 : Df d 20 9 [l0, l1, l2] (.int y :: .int x :: st) h nx = if y ≤ x then Df d 20 40 [l0, l1, l2] st h nx else Df d 20 12 [l0, l1, l2] st h nx := D_icmp_ge (ins_of mc_20 (pc := 9) (x := (.if_icmp .ge 31, 3)) (by decide +kernel)) (by decide)
theorem e_20_12 : Df d 20 12 [l0, .int x, l2] st h nx = Df d 20 13 [l0, .int x, l2] (.int x :: st) h nx := D_iload_n (ins_of mc_20 (pc := 12) (x := (.iload_n 1, 1)) (by decide +kernel)) rfl
theorem e_20_13 : Df d 20 13 [.ref a, l1, l2] st h nx = Df d 20 14 [.ref a, l1, l2] (.ref a :: st) h nx := D_aload_n (ins_of mc_20 (pc := 13) (x := (.aload_n 0, 1)) (by decide +kernel)) rfl
theorem e_20_14 : Df d 20 14 [l0, l1, l2] (.ref a :: st) h nx = (gF h a 1 1).bind fun v => Df d 20 17 [l0, l1, l2] (v :: st) h nx := D_getfield (ins_of mc_20 (pc := 14) (x := (.getfield 17, 3)) (by decide +kernel)) mo_20 (by decide +kernel)
theorem e_20_17 : Df d 20 17 [l0, l1, .int x] st h nx = Df d 20 18 [l0, l1, .int x] (.int x :: st) h nx := D_iload_n (ins_of mc_20 (pc := 17) (x := (.iload_n 2, 1)) (by decide +kernel)) rfl
theorem e_20_18 : Df d 20 18 [l0, l1, l2] (.int x :: .ref a :: st) h nx = (rR h a x).bind fun v => Df d 20 19 [l0, l1, l2] (.ref v :: st) h nx := D_aaload (ins_of mc_20 (pc := 18) (x := (.aaload, 1)) (by decide +kernel))
theorem e_20_19 : Df d 20 19 [l0, l1, l2] (.ref a :: st) h nx = (gF h a 7 5).bind fun v => Df d 20 22 [l0, l1, l2] (v :: st) h nx := D_getfield (ins_of mc_20 (pc := 19) (x := (.getfield 88, 3)) (by decide +kernel)) mo_20 (by decide +kernel)
theorem e_20_22 : Df d 20 22 [l0, l1, l2] (.int x :: st) h nx = if x = 0 then Df d 20 31 [l0, l1, l2] st h nx else Df d 20 25 [l0, l1, l2] st h nx := D_if_eq (ins_of mc_20 (pc := 22) (x := (.ifCond .eq 9, 3)) (by decide +kernel)) (by decide)
theorem e_20_25 : Df d 20 25 [l0, l1, l2] st h nx = Df d 20 26 [l0, l1, l2] (.int 1 :: st) h nx := D_iconst (ins_of mc_20 (pc := 25) (x := (.iconst 1, 1)) (by decide +kernel)) (by decide)
theorem e_20_26 : Df d 20 26 [l0, l1, .int x] st h nx = Df d 20 27 [l0, l1, .int x] (.int x :: st) h nx := D_iload_n (ins_of mc_20 (pc := 26) (x := (.iload_n 2, 1)) (by decide +kernel)) rfl
theorem e_20_27 : Df d 20 27 [l0, l1, l2] (.int y :: .int x :: st) h nx = Df d 20 28 [l0, l1, l2] (.int (x <<< (y &&& 31)) :: st) h nx := D_ishl (ins_of mc_20 (pc := 27) (x := (.ishl, 1)) (by decide +kernel))
theorem e_20_28 : Df d 20 28 [l0, l1, l2] st h nx = Df d 20 32 [l0, l1, l2] st h nx := D_goto (ins_of mc_20 (pc := 28) (x := (.goto 4, 3)) (by decide +kernel)) (by decide)
theorem e_20_31 : Df d 20 31 [l0, l1, l2] st h nx = Df d 20 32 [l0, l1, l2] (.int 0 :: st) h nx := D_iconst (ins_of mc_20 (pc := 31) (x := (.iconst 0, 1)) (by decide +kernel)) (by decide)
theorem e_20_32 : Df d 20 32 [l0, l1, l2] (.int y :: .int x :: st) h nx = Df d 20 33 [l0, l1, l2] (.int (x ||| y) :: st) h nx := D_ior (ins_of mc_20 (pc := 32) (x := (.ior, 1)) (by decide +kernel))
theorem e_20_33 (hn : nr l1 = true) : Df d 20 33 [l0, l1, l2] (.int x :: st) h nx = Df d 20 34 [l0, .int x, l2] st h nx := D_istore_n (ins_of mc_20 (pc := 33) (x := (.istore_n 1, 1)) (by decide +kernel)) rfl hn rfl
theorem e_20_34 : Df d 20 34 [l0, l1, .int x] st h nx = Df d 20 37 [l0, l1, .int (x + 1)] st h nx := D_iinc (ins_of mc_20 (pc := 34) (x := (.iinc 2 1, 3)) (by decide +kernel)) rfl (by decide) rfl
theorem e_20_37 : Df d 20 37 [l0, l1, l2] st h nx = Df d 20 4 [l0, l1, l2] st h nx := D_goto (ins_of mc_20 (pc := 37) (x := (.goto (-33), 3)) (by decide +kernel)) (by decide)
theorem e_20_40 : Df d 20 40 [l0, .int x, l2] st h nx = Df d 20 41 [l0, .int x, l2] (.int x :: st) h nx := D_iload_n (ins_of mc_20 (pc := 40) (x := (.iload_n 1, 1)) (by decide +kernel)) rfl
theorem e_20_41 : Df d 20 41 [l0, l1, l2] [.int x] h nx = some (some (.int x), h, nx) := D_ireturn (ins_of mc_20 (pc := 41) (x := (.ireturn, 1)) (by decide +kernel)) mr_20
theorem mc_21 : mC 21 = prog_3_method_11_code := rfl
theorem mo_21 : mO 21 = 1 := rfl
theorem ml_21 : mL 21 = 3 := rfl
theorem mr_21 : mR 21 = (some .int) := rfl
theorem ma_21 : mA 21 = 0 := rfl
theorem e_21_0 : Df d 21 0 [l0, l1, l2] st h nx = Df d 21 1 [l0, l1, l2] (.int 0 :: st) h nx := D_iconst (ins_of mc_21 (pc := 0) (x := (.iconst 0, 1)) (by decide +kernel)) (by decide)
theorem e_21_1 (hn : nr l1 = true) : Df d 21 1 [l0, l1, l2] (.int x :: st) h nx = Df d 21 2 [l0, .int x, l2] st h nx := D_istore_n (ins_of mc_21 (pc := 1) (x := (.istore_n 1, 1)) (by decide +kernel)) rfl hn rfl
theorem e_21_2 : Df d 21 2 [l0, l1, l2] st h nx = Df d 21 3 [l0, l1, l2] (.int 0 :: st) h nx := D_iconst (ins_of mc_21 (pc := 2) (x := (.iconst 0, 1)) (by decide +kernel)) (by decide)
theorem e_21_3 (hn : nr l2 = true) : Df d 21 3 [l0, l1, l2] (.int x :: st) h nx = Df d 21 4 [l0, l1, .int x] st h nx := D_istore_n (ins_of mc_21 (pc := 3) (x := (.istore_n 2, 1)) (by decide +kernel)) rfl hn rfl
theorem e_21_4 : Df d 21 4 [l0, l1, .int x] st h nx = Df d 21 5 [l0, l1, .int x] (.int x :: st) h nx := D_iload_n (ins_of mc_21 (pc := 4) (x := (.iload_n 2, 1)) (by decide +kernel)) rfl
theorem e_21_5 : Df d 21 5 [.ref a, l1, l2] st h nx = Df d 21 6 [.ref a, l1, l2] (.ref a :: st) h nx := D_aload_n (ins_of mc_21 (pc := 5) (x := (.aload_n 0, 1)) (by decide +kernel)) rfl
theorem e_21_6 : Df d 21 6 [l0, l1, l2] (.ref a :: st) h nx = (gF h a 1 2).bind fun v => Df d 21 9 [l0, l1, l2] (v :: st) h nx := D_getfield (ins_of mc_21 (pc := 6) (x := (.getfield 21, 3)) (by decide +kernel)) mo_21 (by decide +kernel)
theorem e_21_9 : Df d 21 9 [l0, l1, l2] (.int y :: .int x :: st) h nx = if y ≤ x then Df d 21 46 [l0, l1, l2] st h nx else Df d 21 12 [l0, l1, l2] st h nx := D_icmp_ge (ins_of mc_21 (pc := 9) (x := (.if_icmp .ge 37, 3)) (by decide +kernel)) (by decide)
theorem e_21_12 : Df d 21 12 [l0, .int x, l2] st h nx = Df d 21 13 [l0, .int x, l2] (.int x :: st) h nx := D_iload_n (ins_of mc_21 (pc := 12) (x := (.iload_n 1, 1)) (by decide +kernel)) rfl
theorem e_21_13 : Df d 21 13 [.ref a, l1, l2] st h nx = Df d 21 14 [.ref a, l1, l2] (.ref a :: st) h nx := D_aload_n (ins_of mc_21 (pc := 13) (x := (.aload_n 0, 1)) (by decide +kernel)) rfl
theorem e_21_14 : Df d 21 14 [l0, l1, l2] (.ref a :: st) h nx = (gF h a 1 1).bind fun v => Df d 21 17 [l0, l1, l2] (v :: st) h nx := D_getfield (ins_of mc_21 (pc := 14) (x := (.getfield 17, 3)) (by decide +kernel)) mo_21 (by decide +kernel)
theorem e_21_17 : Df d 21 17 [l0, l1, .int x] st h nx = Df d 21 18 [l0, l1, .int x] (.int x :: st) h nx := D_iload_n (ins_of mc_21 (pc := 17) (x := (.iload_n 2, 1)) (by decide +kernel)) rfl
theorem e_21_18 : Df d 21 18 [l0, l1, l2] (.int x :: .ref a :: st) h nx = (rR h a x).bind fun v => Df d 21 19 [l0, l1, l2] (.ref v :: st) h nx := D_aaload (ins_of mc_21 (pc := 18) (x := (.aaload, 1)) (by decide +kernel))
theorem e_21_19 : Df d 21 19 [l0, l1, l2] (.ref a :: st) h nx = (gF h a 7 5).bind fun v => Df d 21 22 [l0, l1, l2] (v :: st) h nx := D_getfield (ins_of mc_21 (pc := 19) (x := (.getfield 88, 3)) (by decide +kernel)) mo_21 (by decide +kernel)
theorem e_21_22 : Df d 21 22 [l0, l1, l2] (.int x :: st) h nx = if x = 0 then Df d 21 37 [l0, l1, l2] st h nx else Df d 21 25 [l0, l1, l2] st h nx := D_if_eq (ins_of mc_21 (pc := 22) (x := (.ifCond .eq 15, 3)) (by decide +kernel)) (by decide)
theorem e_21_25 : Df d 21 25 [.ref a, l1, l2] st h nx = Df d 21 26 [.ref a, l1, l2] (.ref a :: st) h nx := D_aload_n (ins_of mc_21 (pc := 25) (x := (.aload_n 0, 1)) (by decide +kernel)) rfl
theorem e_21_26 : Df d 21 26 [l0, l1, l2] (.ref a :: st) h nx = (gF h a 1 1).bind fun v => Df d 21 29 [l0, l1, l2] (v :: st) h nx := D_getfield (ins_of mc_21 (pc := 26) (x := (.getfield 17, 3)) (by decide +kernel)) mo_21 (by decide +kernel)
theorem e_21_29 : Df d 21 29 [l0, l1, .int x] st h nx = Df d 21 30 [l0, l1, .int x] (.int x :: st) h nx := D_iload_n (ins_of mc_21 (pc := 29) (x := (.iload_n 2, 1)) (by decide +kernel)) rfl
theorem e_21_30 : Df d 21 30 [l0, l1, l2] (.int x :: .ref a :: st) h nx = (rR h a x).bind fun v => Df d 21 31 [l0, l1, l2] (.ref v :: st) h nx := D_aaload (ins_of mc_21 (pc := 30) (x := (.aaload, 1)) (by decide +kernel))
theorem e_21_31 : Df d 21 31 [l0, l1, l2] (.ref a :: st) h nx = (gF h a 7 1).bind fun v => Df d 21 34 [l0, l1, l2] (v :: st) h nx := D_getfield (ins_of mc_21 (pc := 31) (x := (.getfield 70, 3)) (by decide +kernel)) mo_21 (by decide +kernel)
theorem e_21_34 : Df d 21 34 [l0, l1, l2] st h nx = Df d 21 38 [l0, l1, l2] st h nx := D_goto (ins_of mc_21 (pc := 34) (x := (.goto 4, 3)) (by decide +kernel)) (by decide)
theorem e_21_37 : Df d 21 37 [l0, l1, l2] st h nx = Df d 21 38 [l0, l1, l2] (.int 0 :: st) h nx := D_iconst (ins_of mc_21 (pc := 37) (x := (.iconst 0, 1)) (by decide +kernel)) (by decide)
theorem e_21_38 : Df d 21 38 [l0, l1, l2] (.int y :: .int x :: st) h nx = Df d 21 39 [l0, l1, l2] (.int (x + y) :: st) h nx := D_iadd (ins_of mc_21 (pc := 38) (x := (.iadd, 1)) (by decide +kernel))
theorem e_21_39 (hn : nr l1 = true) : Df d 21 39 [l0, l1, l2] (.int x :: st) h nx = Df d 21 40 [l0, .int x, l2] st h nx := D_istore_n (ins_of mc_21 (pc := 39) (x := (.istore_n 1, 1)) (by decide +kernel)) rfl hn rfl
theorem e_21_40 : Df d 21 40 [l0, l1, .int x] st h nx = Df d 21 43 [l0, l1, .int (x + 1)] st h nx := D_iinc (ins_of mc_21 (pc := 40) (x := (.iinc 2 1, 3)) (by decide +kernel)) rfl (by decide) rfl
theorem e_21_43 : Df d 21 43 [l0, l1, l2] st h nx = Df d 21 4 [l0, l1, l2] st h nx := D_goto (ins_of mc_21 (pc := 43) (x := (.goto (-39), 3)) (by decide +kernel)) (by decide)
theorem e_21_46 : Df d 21 46 [l0, .int x, l2] st h nx = Df d 21 47 [l0, .int x, l2] (.int x :: st) h nx := D_iload_n (ins_of mc_21 (pc := 46) (x := (.iload_n 1, 1)) (by decide +kernel)) rfl
theorem e_21_47 : Df d 21 47 [l0, l1, l2] [.int x] h nx = some (some (.int x), h, nx) := D_ireturn (ins_of mc_21 (pc := 47) (x := (.ireturn, 1)) (by decide +kernel)) mr_21
theorem mc_22 : mC 22 = prog_3_method_12_code := rfl
theorem mo_22 : mO 22 = 1 := rfl
theorem ml_22 : mL 22 = 3 := rfl
theorem mr_22 : mR 22 = (some .int) := rfl
theorem ma_22 : mA 22 = 0 := rfl
theorem e_22_0 : Df d 22 0 [l0, l1, l2] st h nx = Df d 22 1 [l0, l1, l2] (.int 0 :: st) h nx := D_iconst (ins_of mc_22 (pc := 0) (x := (.iconst 0, 1)) (by decide +kernel)) (by decide)
theorem e_22_1 (hn : nr l1 = true) : Df d 22 1 [l0, l1, l2] (.int x :: st) h nx = Df d 22 2 [l0, .int x, l2] st h nx := D_istore_n (ins_of mc_22 (pc := 1) (x := (.istore_n 1, 1)) (by decide +kernel)) rfl hn rfl
theorem e_22_2 : Df d 22 2 [l0, l1, l2] st h nx = Df d 22 3 [l0, l1, l2] (.int 0 :: st) h nx := D_iconst (ins_of mc_22 (pc := 2) (x := (.iconst 0, 1)) (by decide +kernel)) (by decide)
theorem e_22_3 (hn : nr l2 = true) : Df d 22 3 [l0, l1, l2] (.int x :: st) h nx = Df d 22 4 [l0, l1, .int x] st h nx := D_istore_n (ins_of mc_22 (pc := 3) (x := (.istore_n 2, 1)) (by decide +kernel)) rfl hn rfl
theorem e_22_4 : Df d 22 4 [l0, l1, .int x] st h nx = Df d 22 5 [l0, l1, .int x] (.int x :: st) h nx := D_iload_n (ins_of mc_22 (pc := 4) (x := (.iload_n 2, 1)) (by decide +kernel)) rfl
theorem e_22_5 : Df d 22 5 [l0, l1, l2] st h nx = Df d 22 7 [l0, l1, l2] (.int 24 :: st) h nx := D_bipush (ins_of mc_22 (pc := 5) (x := (.bipush 24, 2)) (by decide +kernel)) (by decide)
theorem e_22_7 : Df d 22 7 [l0, l1, l2] (.int y :: .int x :: st) h nx = if y ≤ x then Df d 22 35 [l0, l1, l2] st h nx else Df d 22 10 [l0, l1, l2] st h nx := D_icmp_ge (ins_of mc_22 (pc := 7) (x := (.if_icmp .ge 28, 3)) (by decide +kernel)) (by decide)
theorem e_22_10 : Df d 22 10 [l0, .int x, l2] st h nx = Df d 22 11 [l0, .int x, l2] (.int x :: st) h nx := D_iload_n (ins_of mc_22 (pc := 10) (x := (.iload_n 1, 1)) (by decide +kernel)) rfl
theorem e_22_11 : Df d 22 11 [.ref a, l1, l2] st h nx = Df d 22 12 [.ref a, l1, l2] (.ref a :: st) h nx := D_aload_n (ins_of mc_22 (pc := 11) (x := (.aload_n 0, 1)) (by decide +kernel)) rfl
theorem e_22_12 : Df d 22 12 [l0, l1, l2] (.ref a :: st) h nx = (gF h a 1 0).bind fun v => Df d 22 15 [l0, l1, l2] (v :: st) h nx := D_getfield (ins_of mc_22 (pc := 12) (x := (.getfield 9, 3)) (by decide +kernel)) mo_22 (by decide +kernel)
theorem e_22_15 : Df d 22 15 [l0, l1, .int x] st h nx = Df d 22 16 [l0, l1, .int x] (.int x :: st) h nx := D_iload_n (ins_of mc_22 (pc := 15) (x := (.iload_n 2, 1)) (by decide +kernel)) rfl
theorem e_22_16 : Df d 22 16 [l0, l1, l2] (.int x :: .ref a :: st) h nx = (rX h a x).bind fun v => Df d 22 17 [l0, l1, l2] (.int v :: st) h nx := D_iaload (ins_of mc_22 (pc := 16) (x := (.iaload, 1)) (by decide +kernel))
theorem e_22_17 : Df d 22 17 [l0, l1, l2] (.int x :: st) h nx = if x ≤ 0 then Df d 22 26 [l0, l1, l2] st h nx else Df d 22 20 [l0, l1, l2] st h nx := D_if_le (ins_of mc_22 (pc := 17) (x := (.ifCond .le 9, 3)) (by decide +kernel)) (by decide)
theorem e_22_20 : Df d 22 20 [l0, l1, l2] st h nx = Df d 22 21 [l0, l1, l2] (.int 1 :: st) h nx := D_iconst (ins_of mc_22 (pc := 20) (x := (.iconst 1, 1)) (by decide +kernel)) (by decide)
theorem e_22_21 : Df d 22 21 [l0, l1, .int x] st h nx = Df d 22 22 [l0, l1, .int x] (.int x :: st) h nx := D_iload_n (ins_of mc_22 (pc := 21) (x := (.iload_n 2, 1)) (by decide +kernel)) rfl
theorem e_22_22 : Df d 22 22 [l0, l1, l2] (.int y :: .int x :: st) h nx = Df d 22 23 [l0, l1, l2] (.int (x <<< (y &&& 31)) :: st) h nx := D_ishl (ins_of mc_22 (pc := 22) (x := (.ishl, 1)) (by decide +kernel))
theorem e_22_23 : Df d 22 23 [l0, l1, l2] st h nx = Df d 22 27 [l0, l1, l2] st h nx := D_goto (ins_of mc_22 (pc := 23) (x := (.goto 4, 3)) (by decide +kernel)) (by decide)
theorem e_22_26 : Df d 22 26 [l0, l1, l2] st h nx = Df d 22 27 [l0, l1, l2] (.int 0 :: st) h nx := D_iconst (ins_of mc_22 (pc := 26) (x := (.iconst 0, 1)) (by decide +kernel)) (by decide)
theorem e_22_27 : Df d 22 27 [l0, l1, l2] (.int y :: .int x :: st) h nx = Df d 22 28 [l0, l1, l2] (.int (x ||| y) :: st) h nx := D_ior (ins_of mc_22 (pc := 27) (x := (.ior, 1)) (by decide +kernel))
theorem e_22_28 (hn : nr l1 = true) : Df d 22 28 [l0, l1, l2] (.int x :: st) h nx = Df d 22 29 [l0, .int x, l2] st h nx := D_istore_n (ins_of mc_22 (pc := 28) (x := (.istore_n 1, 1)) (by decide +kernel)) rfl hn rfl
theorem e_22_29 : Df d 22 29 [l0, l1, .int x] st h nx = Df d 22 32 [l0, l1, .int (x + 1)] st h nx := D_iinc (ins_of mc_22 (pc := 29) (x := (.iinc 2 1, 3)) (by decide +kernel)) rfl (by decide) rfl
theorem e_22_32 : Df d 22 32 [l0, l1, l2] st h nx = Df d 22 4 [l0, l1, l2] st h nx := D_goto (ins_of mc_22 (pc := 32) (x := (.goto (-28), 3)) (by decide +kernel)) (by decide)
theorem e_22_35 : Df d 22 35 [l0, .int x, l2] st h nx = Df d 22 36 [l0, .int x, l2] (.int x :: st) h nx := D_iload_n (ins_of mc_22 (pc := 35) (x := (.iload_n 1, 1)) (by decide +kernel)) rfl
theorem e_22_36 : Df d 22 36 [l0, l1, l2] [.int x] h nx = some (some (.int x), h, nx) := D_ireturn (ins_of mc_22 (pc := 36) (x := (.ireturn, 1)) (by decide +kernel)) mr_22
theorem mc_23 : mC 23 = prog_3_method_2_code := rfl
theorem mo_23 : mO 23 = 1 := rfl
theorem ml_23 : mL 23 = 3 := rfl
theorem mr_23 : mR 23 = none := rfl
theorem ma_23 : mA 23 = 1 := rfl
theorem e_23_0 : Df d 23 0 [l0, .ref a, l2] st h nx = Df d 23 1 [l0, .ref a, l2] (.ref a :: st) h nx := D_aload_n (ins_of mc_23 (pc := 0) (x := (.aload_n 1, 1)) (by decide +kernel)) rfl
theorem e_23_1 : Df d 23 1 [l0, l1, l2] (.ref a :: st) h nx = (gF h a 1 0).bind fun v => Df d 23 4 [l0, l1, l2] (v :: st) h nx := D_getfield (ins_of mc_23 (pc := 1) (x := (.getfield 9, 3)) (by decide +kernel)) mo_23 (by decide +kernel)
theorem e_23_4 : Df d 23 4 [l0, l1, l2] st h nx = Df d 23 5 [l0, l1, l2] (.int 0 :: st) h nx := D_iconst (ins_of mc_23 (pc := 4) (x := (.iconst 0, 1)) (by decide +kernel)) (by decide)
theorem e_23_5 : Df d 23 5 [.ref a, l1, l2] st h nx = Df d 23 6 [.ref a, l1, l2] (.ref a :: st) h nx := D_aload_n (ins_of mc_23 (pc := 5) (x := (.aload_n 0, 1)) (by decide +kernel)) rfl
theorem e_23_6 : Df d 23 6 [l0, l1, l2] (.ref a :: st) h nx = (gF h a 1 0).bind fun v => Df d 23 9 [l0, l1, l2] (v :: st) h nx := D_getfield (ins_of mc_23 (pc := 6) (x := (.getfield 9, 3)) (by decide +kernel)) mo_23 (by decide +kernel)
theorem e_23_9 : Df d 23 9 [l0, l1, l2] st h nx = Df d 23 10 [l0, l1, l2] (.int 0 :: st) h nx := D_iconst (ins_of mc_23 (pc := 9) (x := (.iconst 0, 1)) (by decide +kernel)) (by decide)
theorem e_23_10 : Df d 23 10 [l0, l1, l2] st h nx = Df d 23 12 [l0, l1, l2] (.int 24 :: st) h nx := D_bipush (ins_of mc_23 (pc := 10) (x := (.bipush 24, 2)) (by decide +kernel)) (by decide)
theorem e_23_12 : Df d 23 12 [l0, l1, l2] [.int z, .int y, .ref b, .int x, .ref a] h nx = (cpA h a b x y z).bind fun h => Df d 23 15 [l0, l1, l2] [] h nx := D_arraycopy (k1 := 0) (ins_of mc_23 (pc := 12) (x := (.invokestatic 56, 3)) (by decide +kernel)) mo_23 (by decide +kernel) (Nat.le_of_ble_eq_true rfl)
theorem e_23_15 : Df d 23 15 [l0, l1, l2] st h nx = Df d 23 16 [l0, l1, l2] (.int 0 :: st) h nx := D_iconst (ins_of mc_23 (pc := 15) (x := (.iconst 0, 1)) (by decide +kernel)) (by decide)
theorem e_23_16 (hn : nr l2 = true) : Df d 23 16 [l0, l1, l2] (.int x :: st) h nx = Df d 23 17 [l0, l1, .int x] st h nx := D_istore_n (ins_of mc_23 (pc := 16) (x := (.istore_n 2, 1)) (by decide +kernel)) rfl hn rfl
theorem e_23_17 : Df d 23 17 [l0, l1, .int x] st h nx = Df d 23 18 [l0, l1, .int x] (.int x :: st) h nx := D_iload_n (ins_of mc_23 (pc := 17) (x := (.iload_n 2, 1)) (by decide +kernel)) rfl
theorem e_23_18 : Df d 23 18 [l0, .ref a, l2] st h nx = Df d 23 19 [l0, .ref a, l2] (.ref a :: st) h nx := D_aload_n (ins_of mc_23 (pc := 18) (x := (.aload_n 1, 1)) (by decide +kernel)) rfl
theorem e_23_19 : Df d 23 19 [l0, l1, l2] (.ref a :: st) h nx = (gF h a 1 2).bind fun v => Df d 23 22 [l0, l1, l2] (v :: st) h nx := D_getfield (ins_of mc_23 (pc := 19) (x := (.getfield 21, 3)) (by decide +kernel)) mo_23 (by decide +kernel)
theorem e_23_22 : Df d 23 22 [l0, l1, l2] (.int y :: .int x :: st) h nx = if y ≤ x then Df d 23 52 [l0, l1, l2] st h nx else Df d 23 25 [l0, l1, l2] st h nx := D_icmp_ge (ins_of mc_23 (pc := 22) (x := (.if_icmp .ge 30, 3)) (by decide +kernel)) (by decide)
theorem e_23_25 : Df d 23 25 [l0, l1, .int x] st h nx = Df d 23 26 [l0, l1, .int x] (.int x :: st) h nx := D_iload_n (ins_of mc_23 (pc := 25) (x := (.iload_n 2, 1)) (by decide +kernel)) rfl
theorem e_23_26 : Df d 23 26 [l0, l1, l2] st h nx = Df d 23 28 [l0, l1, l2] (.int 10 :: st) h nx := D_bipush (ins_of mc_23 (pc := 26) (x := (.bipush 10, 2)) (by decide +kernel)) (by decide)
theorem e_23_28 : Df d 23 28 [l0, l1, l2] (.int y :: .int x :: st) h nx = if y ≤ x then Df d 23 52 [l0, l1, l2] st h nx else Df d 23 31 [l0, l1, l2] st h nx := D_icmp_ge (ins_of mc_23 (pc := 28) (x := (.if_icmp .ge 24, 3)) (by decide +kernel)) (by decide)
theorem e_23_31 : Df d 23 31 [.ref a, l1, l2] st h nx = Df d 23 32 [.ref a, l1, l2] (.ref a :: st) h nx := D_aload_n (ins_of mc_23 (pc := 31) (x := (.aload_n 0, 1)) (by decide +kernel)) rfl
theorem e_23_32 : Df d 23 32 [l0, l1, l2] (.ref a :: st) h nx = (gF h a 1 1).bind fun v => Df d 23 35 [l0, l1, l2] (v :: st) h nx := D_getfield (ins_of mc_23 (pc := 32) (x := (.getfield 17, 3)) (by decide +kernel)) mo_23 (by decide +kernel)
theorem e_23_35 : Df d 23 35 [l0, l1, .int x] st h nx = Df d 23 36 [l0, l1, .int x] (.int x :: st) h nx := D_iload_n (ins_of mc_23 (pc := 35) (x := (.iload_n 2, 1)) (by decide +kernel)) rfl
theorem e_23_36 : Df d 23 36 [l0, l1, l2] (.int x :: .ref a :: st) h nx = (rR h a x).bind fun v => Df d 23 37 [l0, l1, l2] (.ref v :: st) h nx := D_aaload (ins_of mc_23 (pc := 36) (x := (.aaload, 1)) (by decide +kernel))
theorem e_23_37 : Df d 23 37 [l0, .ref a, l2] st h nx = Df d 23 38 [l0, .ref a, l2] (.ref a :: st) h nx := D_aload_n (ins_of mc_23 (pc := 37) (x := (.aload_n 1, 1)) (by decide +kernel)) rfl
theorem e_23_38 : Df d 23 38 [l0, l1, l2] (.ref a :: st) h nx = (gF h a 1 1).bind fun v => Df d 23 41 [l0, l1, l2] (v :: st) h nx := D_getfield (ins_of mc_23 (pc := 38) (x := (.getfield 17, 3)) (by decide +kernel)) mo_23 (by decide +kernel)
theorem e_23_41 : Df d 23 41 [l0, l1, .int x] st h nx = Df d 23 42 [l0, l1, .int x] (.int x :: st) h nx := D_iload_n (ins_of mc_23 (pc := 41) (x := (.iload_n 2, 1)) (by decide +kernel)) rfl
theorem e_23_42 : Df d 23 42 [l0, l1, l2] (.int x :: .ref a :: st) h nx = (rR h a x).bind fun v => Df d 23 43 [l0, l1, l2] (.ref v :: st) h nx := D_aaload (ins_of mc_23 (pc := 42) (x := (.aaload, 1)) (by decide +kernel))
theorem e_23_43 : Df d 23 43 [l0, l1, l2] [v0, .ref a] h nx = if ck h a 7 = true then cn d 23 46 [l0, l1, l2] [] (Dn d 70 [.ref a, v0] h nx) else none := D_virtual (k1 := 70) (ins_of mc_23 (pc := 43) (x := (.invokevirtual 62, 3)) (by decide +kernel)) mo_23 (by decide +kernel) (by decide) rfl rfl (by decide) rfl (Nat.le_of_ble_eq_true rfl) rfl
theorem e_23_46 : Df d 23 46 [l0, l1, .int x] st h nx = Df d 23 49 [l0, l1, .int (x + 1)] st h nx := D_iinc (ins_of mc_23 (pc := 46) (x := (.iinc 2 1, 3)) (by decide +kernel)) rfl (by decide) rfl
theorem e_23_49 : Df d 23 49 [l0, l1, l2] st h nx = Df d 23 17 [l0, l1, l2] st h nx := D_goto (ins_of mc_23 (pc := 49) (x := (.goto (-32), 3)) (by decide +kernel)) (by decide)
theorem e_23_52 : Df d 23 52 [.ref a, l1, l2] st h nx = Df d 23 53 [.ref a, l1, l2] (.ref a :: st) h nx := D_aload_n (ins_of mc_23 (pc := 52) (x := (.aload_n 0, 1)) (by decide +kernel)) rfl
theorem e_23_53 : Df d 23 53 [l0, .ref a, l2] st h nx = Df d 23 54 [l0, .ref a, l2] (.ref a :: st) h nx := D_aload_n (ins_of mc_23 (pc := 53) (x := (.aload_n 1, 1)) (by decide +kernel)) rfl
theorem e_23_54 : Df d 23 54 [l0, l1, l2] (.ref a :: st) h nx = (gF h a 1 2).bind fun v => Df d 23 57 [l0, l1, l2] (v :: st) h nx := D_getfield (ins_of mc_23 (pc := 54) (x := (.getfield 21, 3)) (by decide +kernel)) mo_23 (by decide +kernel)
theorem e_23_57 : Df d 23 57 [l0, l1, l2] (.int x :: .ref a :: st) h nx = (pF h a 1 2 (.int x)).bind fun h => Df d 23 60 [l0, l1, l2] st h nx := D_putfield (ins_of mc_23 (pc := 57) (x := (.putfield 21, 3)) (by decide +kernel)) mo_23 (by decide +kernel) rfl (Or.inl rfl)
theorem e_23_60 : Df d 23 60 [.ref a, l1, l2] st h nx = Df d 23 61 [.ref a, l1, l2] (.ref a :: st) h nx := D_aload_n (ins_of mc_23 (pc := 60) (x := (.aload_n 0, 1)) (by decide +kernel)) rfl
theorem e_23_61 : Df d 23 61 [l0, .ref a, l2] st h nx = Df d 23 62 [l0, .ref a, l2] (.ref a :: st) h nx := D_aload_n (ins_of mc_23 (pc := 61) (x := (.aload_n 1, 1)) (by decide +kernel)) rfl
theorem e_23_62 : Df d 23 62 [l0, l1, l2] (.ref a :: st) h nx = (gF h a 1 3).bind fun v => Df d 23 65 [l0, l1, l2] (v :: st) h nx := D_getfield (ins_of mc_23 (pc := 62) (x := (.getfield 25, 3)) (by decide +kernel)) mo_23 (by decide +kernel)
theorem e_23_65 : Df d 23 65 [l0, l1, l2] (.int x :: .ref a :: st) h nx = (pF h a 1 3 (.int x)).bind fun h => Df d 23 68 [l0, l1, l2] st h nx := D_putfield (ins_of mc_23 (pc := 65) (x := (.putfield 25, 3)) (by decide +kernel)) mo_23 (by decide +kernel) rfl (Or.inl rfl)
theorem e_23_68 : Df d 23 68 [.ref a, l1, l2] st h nx = Df d 23 69 [.ref a, l1, l2] (.ref a :: st) h nx := D_aload_n (ins_of mc_23 (pc := 68) (x := (.aload_n 0, 1)) (by decide +kernel)) rfl
theorem e_23_69 : Df d 23 69 [l0, .ref a, l2] st h nx = Df d 23 70 [l0, .ref a, l2] (.ref a :: st) h nx := D_aload_n (ins_of mc_23 (pc := 69) (x := (.aload_n 1, 1)) (by decide +kernel)) rfl
theorem e_23_70 : Df d 23 70 [l0, l1, l2] (.ref a :: st) h nx = (gF h a 1 4).bind fun v => Df d 23 73 [l0, l1, l2] (v :: st) h nx := D_getfield (ins_of mc_23 (pc := 70) (x := (.getfield 28, 3)) (by decide +kernel)) mo_23 (by decide +kernel)
theorem e_23_73 : Df d 23 73 [l0, l1, l2] (.int x :: .ref a :: st) h nx = (pF h a 1 4 (.int x)).bind fun h => Df d 23 76 [l0, l1, l2] st h nx := D_putfield (ins_of mc_23 (pc := 73) (x := (.putfield 28, 3)) (by decide +kernel)) mo_23 (by decide +kernel) rfl (Or.inl rfl)
theorem e_23_76 : Df d 23 76 [.ref a, l1, l2] st h nx = Df d 23 77 [.ref a, l1, l2] (.ref a :: st) h nx := D_aload_n (ins_of mc_23 (pc := 76) (x := (.aload_n 0, 1)) (by decide +kernel)) rfl
theorem e_23_77 : Df d 23 77 [l0, .ref a, l2] st h nx = Df d 23 78 [l0, .ref a, l2] (.ref a :: st) h nx := D_aload_n (ins_of mc_23 (pc := 77) (x := (.aload_n 1, 1)) (by decide +kernel)) rfl
theorem e_23_78 : Df d 23 78 [l0, l1, l2] (.ref a :: st) h nx = (gF h a 1 5).bind fun v => Df d 23 81 [l0, l1, l2] (v :: st) h nx := D_getfield (ins_of mc_23 (pc := 78) (x := (.getfield 31, 3)) (by decide +kernel)) mo_23 (by decide +kernel)
theorem e_23_81 : Df d 23 81 [l0, l1, l2] (.int x :: .ref a :: st) h nx = (pF h a 1 5 (.int x)).bind fun h => Df d 23 84 [l0, l1, l2] st h nx := D_putfield (ins_of mc_23 (pc := 81) (x := (.putfield 31, 3)) (by decide +kernel)) mo_23 (by decide +kernel) rfl (Or.inl rfl)
theorem e_23_84 : Df d 23 84 [.ref a, l1, l2] st h nx = Df d 23 85 [.ref a, l1, l2] (.ref a :: st) h nx := D_aload_n (ins_of mc_23 (pc := 84) (x := (.aload_n 0, 1)) (by decide +kernel)) rfl
theorem e_23_85 : Df d 23 85 [l0, .ref a, l2] st h nx = Df d 23 86 [l0, .ref a, l2] (.ref a :: st) h nx := D_aload_n (ins_of mc_23 (pc := 85) (x := (.aload_n 1, 1)) (by decide +kernel)) rfl
theorem e_23_86 : Df d 23 86 [l0, l1, l2] (.ref a :: st) h nx = (gF h a 1 6).bind fun v => Df d 23 89 [l0, l1, l2] (v :: st) h nx := D_getfield (ins_of mc_23 (pc := 86) (x := (.getfield 34, 3)) (by decide +kernel)) mo_23 (by decide +kernel)
theorem e_23_89 : Df d 23 89 [l0, l1, l2] (.int x :: .ref a :: st) h nx = (pF h a 1 6 (.int x)).bind fun h => Df d 23 92 [l0, l1, l2] st h nx := D_putfield (ins_of mc_23 (pc := 89) (x := (.putfield 34, 3)) (by decide +kernel)) mo_23 (by decide +kernel) rfl (Or.inl rfl)
theorem e_23_92 : Df d 23 92 [.ref a, l1, l2] st h nx = Df d 23 93 [.ref a, l1, l2] (.ref a :: st) h nx := D_aload_n (ins_of mc_23 (pc := 92) (x := (.aload_n 0, 1)) (by decide +kernel)) rfl
theorem e_23_93 : Df d 23 93 [l0, .ref a, l2] st h nx = Df d 23 94 [l0, .ref a, l2] (.ref a :: st) h nx := D_aload_n (ins_of mc_23 (pc := 93) (x := (.aload_n 1, 1)) (by decide +kernel)) rfl
theorem e_23_94 : Df d 23 94 [l0, l1, l2] (.ref a :: st) h nx = (gF h a 1 7).bind fun v => Df d 23 97 [l0, l1, l2] (v :: st) h nx := D_getfield (ins_of mc_23 (pc := 94) (x := (.getfield 37, 3)) (by decide +kernel)) mo_23 (by decide +kernel)
theorem e_23_97 : Df d 23 97 [l0, l1, l2] (.int x :: .ref a :: st) h nx = (pF h a 1 7 (.int x)).bind fun h => Df d 23 100 [l0, l1, l2] st h nx := D_putfield (ins_of mc_23 (pc := 97) (x := (.putfield 37, 3)) (by decide +kernel)) mo_23 (by decide +kernel) rfl (Or.inl rfl)
theorem e_23_100 : Df d 23 100 [.ref a, l1, l2] st h nx = Df d 23 101 [.ref a, l1, l2] (.ref a :: st) h nx := D_aload_n (ins_of mc_23 (pc := 100) (x := (.aload_n 0, 1)) (by decide +kernel)) rfl
theorem e_23_101 : Df d 23 101 [l0, .ref a, l2] st h nx = Df d 23 102 [l0, .ref a, l2] (.ref a :: st) h nx := D_aload_n (ins_of mc_23 (pc := 101) (x := (.aload_n 1, 1)) (by decide +kernel)) rfl
theorem e_23_102 : Df d 23 102 [l0, l1, l2] (.ref a :: st) h nx = (gF h a 1 8).bind fun v => Df d 23 105 [l0, l1, l2] (v :: st) h nx := D_getfield (ins_of mc_23 (pc := 102) (x := (.getfield 40, 3)) (by decide +kernel)) mo_23 (by decide +kernel)
theorem e_23_105 : Df d 23 105 [l0, l1, l2] (.int x :: .ref a :: st) h nx = (pF h a 1 8 (.int x)).bind fun h => Df d 23 108 [l0, l1, l2] st h nx := D_putfield (ins_of mc_23 (pc := 105) (x := (.putfield 40, 3)) (by decide +kernel)) mo_23 (by decide +kernel) rfl (Or.inl rfl)
theorem e_23_108 : Df d 23 108 [.ref a, l1, l2] st h nx = Df d 23 109 [.ref a, l1, l2] (.ref a :: st) h nx := D_aload_n (ins_of mc_23 (pc := 108) (x := (.aload_n 0, 1)) (by decide +kernel)) rfl
theorem e_23_109 : Df d 23 109 [l0, .ref a, l2] st h nx = Df d 23 110 [l0, .ref a, l2] (.ref a :: st) h nx := D_aload_n (ins_of mc_23 (pc := 109) (x := (.aload_n 1, 1)) (by decide +kernel)) rfl
theorem e_23_110 : Df d 23 110 [l0, l1, l2] (.ref a :: st) h nx = (gF h a 1 9).bind fun v => Df d 23 113 [l0, l1, l2] (v :: st) h nx := D_getfield (ins_of mc_23 (pc := 110) (x := (.getfield 43, 3)) (by decide +kernel)) mo_23 (by decide +kernel)
theorem e_23_113 : Df d 23 113 [l0, l1, l2] (.int x :: .ref a :: st) h nx = (pF h a 1 9 (.int x)).bind fun h => Df d 23 116 [l0, l1, l2] st h nx := D_putfield (ins_of mc_23 (pc := 113) (x := (.putfield 43, 3)) (by decide +kernel)) mo_23 (by decide +kernel) rfl (Or.inl rfl)
theorem e_23_116 : Df d 23 116 [.ref a, l1, l2] st h nx = Df d 23 117 [.ref a, l1, l2] (.ref a :: st) h nx := D_aload_n (ins_of mc_23 (pc := 116) (x := (.aload_n 0, 1)) (by decide +kernel)) rfl
theorem e_23_117 : Df d 23 117 [l0, .ref a, l2] st h nx = Df d 23 118 [l0, .ref a, l2] (.ref a :: st) h nx := D_aload_n (ins_of mc_23 (pc := 117) (x := (.aload_n 1, 1)) (by decide +kernel)) rfl
theorem e_23_118 : Df d 23 118 [l0, l1, l2] (.ref a :: st) h nx = (gF h a 1 10).bind fun v => Df d 23 121 [l0, l1, l2] (v :: st) h nx := D_getfield (ins_of mc_23 (pc := 118) (x := (.getfield 46, 3)) (by decide +kernel)) mo_23 (by decide +kernel)
theorem e_23_121 : Df d 23 121 [l0, l1, l2] (.int x :: .ref a :: st) h nx = (pF h a 1 10 (.int x)).bind fun h => Df d 23 124 [l0, l1, l2] st h nx := D_putfield (ins_of mc_23 (pc := 121) (x := (.putfield 46, 3)) (by decide +kernel)) mo_23 (by decide +kernel) rfl (Or.inl rfl)
theorem e_23_124 : Df d 23 124 [.ref a, l1, l2] st h nx = Df d 23 125 [.ref a, l1, l2] (.ref a :: st) h nx := D_aload_n (ins_of mc_23 (pc := 124) (x := (.aload_n 0, 1)) (by decide +kernel)) rfl
theorem e_23_125 : Df d 23 125 [l0, .ref a, l2] st h nx = Df d 23 126 [l0, .ref a, l2] (.ref a :: st) h nx := D_aload_n (ins_of mc_23 (pc := 125) (x := (.aload_n 1, 1)) (by decide +kernel)) rfl
theorem e_23_126 : Df d 23 126 [l0, l1, l2] (.ref a :: st) h nx = (gF h a 1 11).bind fun v => Df d 23 129 [l0, l1, l2] (v :: st) h nx := D_getfield (ins_of mc_23 (pc := 126) (x := (.getfield 49, 3)) (by decide +kernel)) mo_23 (by decide +kernel)
theorem e_23_129 : Df d 23 129 [l0, l1, l2] (.int x :: .ref a :: st) h nx = (pF h a 1 11 (.int x)).bind fun h => Df d 23 132 [l0, l1, l2] st h nx := D_putfield (ins_of mc_23 (pc := 129) (x := (.putfield 49, 3)) (by decide +kernel)) mo_23 (by decide +kernel) rfl (Or.inl rfl)
theorem e_23_132 : Df d 23 132 [.ref a, l1, l2] st h nx = Df d 23 133 [.ref a, l1, l2] (.ref a :: st) h nx := D_aload_n (ins_of mc_23 (pc := 132) (x := (.aload_n 0, 1)) (by decide +kernel)) rfl
theorem e_23_133 : Df d 23 133 [l0, .ref a, l2] st h nx = Df d 23 134 [l0, .ref a, l2] (.ref a :: st) h nx := D_aload_n (ins_of mc_23 (pc := 133) (x := (.aload_n 1, 1)) (by decide +kernel)) rfl
theorem e_23_134 : Df d 23 134 [l0, l1, l2] (.ref a :: st) h nx = (gF h a 1 12).bind fun v => Df d 23 137 [l0, l1, l2] (v :: st) h nx := D_getfield (ins_of mc_23 (pc := 134) (x := (.getfield 52, 3)) (by decide +kernel)) mo_23 (by decide +kernel)
theorem e_23_137 : Df d 23 137 [l0, l1, l2] (.int x :: .ref a :: st) h nx = (pF h a 1 12 (.int x)).bind fun h => Df d 23 140 [l0, l1, l2] st h nx := D_putfield (ins_of mc_23 (pc := 137) (x := (.putfield 52, 3)) (by decide +kernel)) mo_23 (by decide +kernel) rfl (Or.inl rfl)
theorem e_23_140 : Df d 23 140 [l0, l1, l2] [] h nx = some (none, h, nx) := D_return (ins_of mc_23 (pc := 140) (x := (.return_, 1)) (by decide +kernel)) mr_23
theorem mc_24 : mC 24 = prog_3_method_4_code := rfl
theorem mo_24 : mO 24 = 1 := rfl
theorem ml_24 : mL 24 = 2 := rfl
theorem mr_24 : mR 24 = (some .int) := rfl
theorem ma_24 : mA 24 = 1 := rfl
theorem e_24_0 : Df d 24 0 [.ref a, l1] st h nx = Df d 24 1 [.ref a, l1] (.ref a :: st) h nx := D_aload_n (ins_of mc_24 (pc := 0) (x := (.aload_n 0, 1)) (by decide +kernel)) rfl
theorem e_24_1 : Df d 24 1 [l0, .int x] st h nx = Df d 24 2 [l0, .int x] (.int x :: st) h nx := D_iload_n (ins_of mc_24 (pc := 1) (x := (.iload_n 1, 1)) (by decide +kernel)) rfl
theorem e_24_2 : Df d 24 2 [l0, l1] [v0, .ref a] h nx = if ck h a 1 = true then cn d 24 5 [l0, l1] [] (Dn d 6 [.ref a, v0] h nx) else none := D_virtual (k1 := 6) (ins_of mc_24 (pc := 2) (x := (.invokevirtual 66, 3)) (by decide +kernel)) mo_24 (by decide +kernel) (by decide) rfl rfl (by decide) rfl (Nat.le_of_ble_eq_true rfl) rfl
theorem e_24_5 : Df d 24 5 [l0, l1] (.int x :: st) h nx = if x = 0 then Df d 24 20 [l0, l1] st h nx else Df d 24 8 [l0, l1] st h nx := D_if_eq (ins_of mc_24 (pc := 5) (x := (.ifCond .eq 15, 3)) (by decide +kernel)) (by decide)
theorem e_24_8 : Df d 24 8 [.ref a, l1] st h nx = Df d 24 9 [.ref a, l1] (.ref a :: st) h nx := D_aload_n (ins_of mc_24 (pc := 8) (x := (.aload_n 0, 1)) (by decide +kernel)) rfl
theorem e_24_9 : Df d 24 9 [l0, l1] (.ref a :: st) h nx = (gF h a 1 1).bind fun v => Df d 24 12 [l0, l1] (v :: st) h nx := D_getfield (ins_of mc_24 (pc := 9) (x := (.getfield 17, 3)) (by decide +kernel)) mo_24 (by decide +kernel)
theorem e_24_12 : Df d 24 12 [l0, .int x] st h nx = Df d 24 13 [l0, .int x] (.int x :: st) h nx := D_iload_n (ins_of mc_24 (pc := 12) (x := (.iload_n 1, 1)) (by decide +kernel)) rfl
theorem e_24_13 : Df d 24 13 [l0, l1] (.int x :: .ref a :: st) h nx = (rR h a x).bind fun v => Df d 24 14 [l0, l1] (.ref v :: st) h nx := D_aaload (ins_of mc_24 (pc := 13) (x := (.aaload, 1)) (by decide +kernel))
theorem e_24_14 : Df d 24 14 [l0, l1] (.ref a :: st) h nx = (gF h a 7 1).bind fun v => Df d 24 17 [l0, l1] (v :: st) h nx := D_getfield (ins_of mc_24 (pc := 14) (x := (.getfield 70, 3)) (by decide +kernel)) mo_24 (by decide +kernel)
theorem e_24_17 : Df d 24 17 [l0, l1] st h nx = Df d 24 22 [l0, l1] st h nx := D_goto (ins_of mc_24 (pc := 17) (x := (.goto 5, 3)) (by decide +kernel)) (by decide)
theorem e_24_20 : Df d 24 20 [l0, l1] st h nx = Df d 24 22 [l0, l1] (.int (-1000000001) :: st) h nx := D_ldc (ins_of mc_24 (pc := 20) (x := (.ldc 73, 2)) (by decide +kernel)) mo_24 (by decide +kernel)
theorem e_24_22 : Df d 24 22 [l0, l1] [.int x] h nx = some (some (.int x), h, nx) := D_ireturn (ins_of mc_24 (pc := 22) (x := (.ireturn, 1)) (by decide +kernel)) mr_24
theorem mc_25 : mC 25 = prog_3_method_13_code := rfl
theorem mo_25 : mO 25 = 1 := rfl
theorem ml_25 : mL 25 = 3 := rfl
theorem mr_25 : mR 25 = none := rfl
theorem ma_25 : mA 25 = 1 := rfl
theorem e_25_0 : Df d 25 0 [l0, l1, l2] st h nx = Df d 25 1 [l0, l1, l2] (.int 0 :: st) h nx := D_iconst (ins_of mc_25 (pc := 0) (x := (.iconst 0, 1)) (by decide +kernel)) (by decide)
theorem e_25_1 (hn : nr l2 = true) : Df d 25 1 [l0, l1, l2] (.int x :: st) h nx = Df d 25 2 [l0, l1, .int x] st h nx := D_istore_n (ins_of mc_25 (pc := 1) (x := (.istore_n 2, 1)) (by decide +kernel)) rfl hn rfl
theorem e_25_2 : Df d 25 2 [l0, l1, .int x] st h nx = Df d 25 3 [l0, l1, .int x] (.int x :: st) h nx := D_iload_n (ins_of mc_25 (pc := 2) (x := (.iload_n 2, 1)) (by decide +kernel)) rfl
theorem e_25_3 : Df d 25 3 [.ref a, l1, l2] st h nx = Df d 25 4 [.ref a, l1, l2] (.ref a :: st) h nx := D_aload_n (ins_of mc_25 (pc := 3) (x := (.aload_n 0, 1)) (by decide +kernel)) rfl
theorem e_25_4 : Df d 25 4 [l0, l1, l2] (.ref a :: st) h nx = (gF h a 1 2).bind fun v => Df d 25 7 [l0, l1, l2] (v :: st) h nx := D_getfield (ins_of mc_25 (pc := 4) (x := (.getfield 21, 3)) (by decide +kernel)) mo_25 (by decide +kernel)
theorem e_25_7 : Df d 25 7 [l0, l1, l2] (.int y :: .int x :: st) h nx = if y ≤ x then Df d 25 38 [l0, l1, l2] st h nx else Df d 25 10 [l0, l1, l2] st h nx := D_icmp_ge (ins_of mc_25 (pc := 7) (x := (.if_icmp .ge 31, 3)) (by decide +kernel)) (by decide)
theorem e_25_10 : Df d 25 10 [.ref a, l1, l2] st h nx = Df d 25 11 [.ref a, l1, l2] (.ref a :: st) h nx := D_aload_n (ins_of mc_25 (pc := 10) (x := (.aload_n 0, 1)) (by decide +kernel)) rfl
theorem e_25_11 : Df d 25 11 [l0, l1, l2] (.ref a :: st) h nx = (gF h a 1 1).bind fun v => Df d 25 14 [l0, l1, l2] (v :: st) h nx := D_getfield (ins_of mc_25 (pc := 11) (x := (.getfield 17, 3)) (by decide +kernel)) mo_25 (by decide +kernel)
theorem e_25_14 : Df d 25 14 [l0, l1, .int x] st h nx = Df d 25 15 [l0, l1, .int x] (.int x :: st) h nx := D_iload_n (ins_of mc_25 (pc := 14) (x := (.iload_n 2, 1)) (by decide +kernel)) rfl
theorem e_25_15 : Df d 25 15 [l0, l1, l2] (.int x :: .ref a :: st) h nx = (rR h a x).bind fun v => Df d 25 16 [l0, l1, l2] (.ref v :: st) h nx := D_aaload (ins_of mc_25 (pc := 15) (x := (.aaload, 1)) (by decide +kernel))
theorem e_25_16 : Df d 25 16 [l0, l1, l2] (.ref a :: st) h nx = (gF h a 7 5).bind fun v => Df d 25 19 [l0, l1, l2] (v :: st) h nx := D_getfield (ins_of mc_25 (pc := 16) (x := (.getfield 88, 3)) (by decide +kernel)) mo_25 (by decide +kernel)
theorem e_25_19 : Df d 25 19 [l0, l1, l2] (.int x :: st) h nx = if x = 0 then Df d 25 32 [l0, l1, l2] st h nx else Df d 25 22 [l0, l1, l2] st h nx := D_if_eq (ins_of mc_25 (pc := 19) (x := (.ifCond .eq 13, 3)) (by decide +kernel)) (by decide)
theorem e_25_22 : Df d 25 22 [.ref a, l1, l2] st h nx = Df d 25 23 [.ref a, l1, l2] (.ref a :: st) h nx := D_aload_n (ins_of mc_25 (pc := 22) (x := (.aload_n 0, 1)) (by decide +kernel)) rfl
theorem e_25_23 : Df d 25 23 [l0, l1, l2] (.ref a :: st) h nx = (gF h a 1 1).bind fun v => Df d 25 26 [l0, l1, l2] (v :: st) h nx := D_getfield (ins_of mc_25 (pc := 23) (x := (.getfield 17, 3)) (by decide +kernel)) mo_25 (by decide +kernel)
theorem e_25_26 : Df d 25 26 [l0, l1, .int x] st h nx = Df d 25 27 [l0, l1, .int x] (.int x :: st) h nx := D_iload_n (ins_of mc_25 (pc := 26) (x := (.iload_n 2, 1)) (by decide +kernel)) rfl
theorem e_25_27 : Df d 25 27 [l0, l1, l2] (.int x :: .ref a :: st) h nx = (rR h a x).bind fun v => Df d 25 28 [l0, l1, l2] (.ref v :: st) h nx := D_aaload (ins_of mc_25 (pc := 27) (x := (.aaload, 1)) (by decide +kernel))
theorem e_25_28 : Df d 25 28 [l0, .int x, l2] st h nx = Df d 25 29 [l0, .int x, l2] (.int x :: st) h nx := D_iload_n (ins_of mc_25 (pc := 28) (x := (.iload_n 1, 1)) (by decide +kernel)) rfl
theorem e_25_29 : Df d 25 29 [l0, l1, l2] (.int x :: .ref a :: st) h nx = (pF h a 7 2 (.int x)).bind fun h => Df d 25 32 [l0, l1, l2] st h nx := D_putfield (ins_of mc_25 (pc := 29) (x := (.putfield 92, 3)) (by decide +kernel)) mo_25 (by decide +kernel) rfl (Or.inl rfl)
theorem e_25_32 : Df d 25 32 [l0, l1, .int x] st h nx = Df d 25 35 [l0, l1, .int (x + 1)] st h nx := D_iinc (ins_of mc_25 (pc := 32) (x := (.iinc 2 1, 3)) (by decide +kernel)) rfl (by decide) rfl
theorem e_25_35 : Df d 25 35 [l0, l1, l2] st h nx = Df d 25 2 [l0, l1, l2] st h nx := D_goto (ins_of mc_25 (pc := 35) (x := (.goto (-33), 3)) (by decide +kernel)) (by decide)
theorem e_25_38 : Df d 25 38 [l0, l1, l2] [] h nx = some (none, h, nx) := D_return (ins_of mc_25 (pc := 38) (x := (.return_, 1)) (by decide +kernel)) mr_25
theorem mc_26 : mC 26 = prog_4_method_1_code := rfl
theorem mo_26 : mO 26 = 2 := rfl
theorem ml_26 : mL 26 = 1 := rfl
theorem mr_26 : mR 26 = none := rfl
theorem ma_26 : mA 26 = 0 := rfl
theorem e_26_0 : Df d 26 0 [.ref a] st h nx = Df d 26 1 [.ref a] (.ref a :: st) h nx := D_aload_n (ins_of mc_26 (pc := 0) (x := (.aload_n 0, 1)) (by decide +kernel)) rfl
theorem e_26_1 : Df d 26 1 [l0] [.ref a] h nx = Df d 26 4 [l0] [] h nx := D_objinit (k1 := 0) (ins_of mc_26 (pc := 1) (x := (.invokespecial 3, 3)) (by decide +kernel)) mo_26 (by decide +kernel) (Nat.le_of_ble_eq_true rfl)
theorem e_26_4 : Df d 26 4 [.ref a] st h nx = Df d 26 5 [.ref a] (.ref a :: st) h nx := D_aload_n (ins_of mc_26 (pc := 4) (x := (.aload_n 0, 1)) (by decide +kernel)) rfl
theorem e_26_5 : Df d 26 5 [l0] st h nx = Df d 26 7 [l0] (.int 96 :: st) h nx := D_bipush (ins_of mc_26 (pc := 5) (x := (.bipush 96, 2)) (by decide +kernel)) (by decide)
theorem e_26_7 : Df d 26 7 [l0] (.int x :: st) h nx = if x < 0 ∨ 10000 < x.toNatClampNeg then none else Df d 26 9 [l0] (.ref (16 + nx.1) :: st) (put h (16 + nx.1) (.inl (0, x.toNatClampNeg, .inl fun _ => 0))) (nx.1 + 1, nx.2 + x.toNatClampNeg) := D_newint (ins_of mc_26 (pc := 7) (x := (.newarray .int, 2)) (by decide +kernel))
theorem e_26_9 : Df d 26 9 [l0] (.ref b :: .ref a :: st) h nx = (pF h a 2 0 (.ref b)).bind fun h => Df d 26 12 [l0] st h nx := D_putfield (ins_of mc_26 (pc := 9) (x := (.putfield 9, 3)) (by decide +kernel)) mo_26 (by decide +kernel) rfl (Or.inr ⟨by decide +kernel, rfl⟩)
theorem e_26_12 : Df d 26 12 [.ref a] st h nx = Df d 26 13 [.ref a] (.ref a :: st) h nx := D_aload_n (ins_of mc_26 (pc := 12) (x := (.aload_n 0, 1)) (by decide +kernel)) rfl
theorem e_26_13 : Df d 26 13 [l0] st h nx = Df d 26 14 [l0] (.int 0 :: st) h nx := D_iconst (ins_of mc_26 (pc := 13) (x := (.iconst 0, 1)) (by decide +kernel)) (by decide)
theorem e_26_14 : Df d 26 14 [l0] (.int x :: .ref a :: st) h nx = (pF h a 2 1 (.int x)).bind fun h => Df d 26 17 [l0] st h nx := D_putfield (ins_of mc_26 (pc := 14) (x := (.putfield 15, 3)) (by decide +kernel)) mo_26 (by decide +kernel) rfl (Or.inl rfl)
theorem e_26_17 : Df d 26 17 [.ref a] st h nx = Df d 26 18 [.ref a] (.ref a :: st) h nx := D_aload_n (ins_of mc_26 (pc := 17) (x := (.aload_n 0, 1)) (by decide +kernel)) rfl
theorem e_26_18 : Df d 26 18 [l0] st h nx = Df d 26 19 [l0] (.int 0 :: st) h nx := D_iconst (ins_of mc_26 (pc := 18) (x := (.iconst 0, 1)) (by decide +kernel)) (by decide)
theorem e_26_19 : Df d 26 19 [l0] (.int x :: .ref a :: st) h nx = (pF h a 2 2 (.int x)).bind fun h => Df d 26 22 [l0] st h nx := D_putfield (ins_of mc_26 (pc := 19) (x := (.putfield 19, 3)) (by decide +kernel)) mo_26 (by decide +kernel) rfl (Or.inl rfl)
theorem e_26_22 : Df d 26 22 [.ref a] st h nx = Df d 26 23 [.ref a] (.ref a :: st) h nx := D_aload_n (ins_of mc_26 (pc := 22) (x := (.aload_n 0, 1)) (by decide +kernel)) rfl
theorem e_26_23 : Df d 26 23 [l0] st h nx = Df d 26 24 [l0] (.int 0 :: st) h nx := D_iconst (ins_of mc_26 (pc := 23) (x := (.iconst 0, 1)) (by decide +kernel)) (by decide)
theorem e_26_24 : Df d 26 24 [l0] (.int x :: .ref a :: st) h nx = (pF h a 2 3 (.int x)).bind fun h => Df d 26 27 [l0] st h nx := D_putfield (ins_of mc_26 (pc := 24) (x := (.putfield 22, 3)) (by decide +kernel)) mo_26 (by decide +kernel) rfl (Or.inl rfl)
theorem e_26_27 : Df d 26 27 [l0] [] h nx = some (none, h, nx) := D_return (ins_of mc_26 (pc := 27) (x := (.return_, 1)) (by decide +kernel)) mr_26
theorem mc_27 : mC 27 = prog_4_method_2_code := rfl
theorem mo_27 : mO 27 = 2 := rfl
theorem ml_27 : mL 27 = 1 := rfl
theorem mr_27 : mR 27 = none := rfl
theorem ma_27 : mA 27 = 0 := rfl
theorem e_27_0 : Df d 27 0 [.ref a] st h nx = Df d 27 1 [.ref a] (.ref a :: st) h nx := D_aload_n (ins_of mc_27 (pc := 0) (x := (.aload_n 0, 1)) (by decide +kernel)) rfl
theorem e_27_1 : Df d 27 1 [l0] st h nx = Df d 27 2 [l0] (.int 0 :: st) h nx := D_iconst (ins_of mc_27 (pc := 1) (x := (.iconst 0, 1)) (by decide +kernel)) (by decide)
theorem e_27_2 : Df d 27 2 [l0] (.int x :: .ref a :: st) h nx = (pF h a 2 1 (.int x)).bind fun h => Df d 27 5 [l0] st h nx := D_putfield (ins_of mc_27 (pc := 2) (x := (.putfield 15, 3)) (by decide +kernel)) mo_27 (by decide +kernel) rfl (Or.inl rfl)
theorem e_27_5 : Df d 27 5 [.ref a] st h nx = Df d 27 6 [.ref a] (.ref a :: st) h nx := D_aload_n (ins_of mc_27 (pc := 5) (x := (.aload_n 0, 1)) (by decide +kernel)) rfl
theorem e_27_6 : Df d 27 6 [l0] st h nx = Df d 27 7 [l0] (.int 0 :: st) h nx := D_iconst (ins_of mc_27 (pc := 6) (x := (.iconst 0, 1)) (by decide +kernel)) (by decide)
theorem e_27_7 : Df d 27 7 [l0] (.int x :: .ref a :: st) h nx = (pF h a 2 2 (.int x)).bind fun h => Df d 27 10 [l0] st h nx := D_putfield (ins_of mc_27 (pc := 7) (x := (.putfield 19, 3)) (by decide +kernel)) mo_27 (by decide +kernel) rfl (Or.inl rfl)
theorem e_27_10 : Df d 27 10 [.ref a] st h nx = Df d 27 11 [.ref a] (.ref a :: st) h nx := D_aload_n (ins_of mc_27 (pc := 10) (x := (.aload_n 0, 1)) (by decide +kernel)) rfl
theorem e_27_11 : Df d 27 11 [l0] st h nx = Df d 27 12 [l0] (.int 0 :: st) h nx := D_iconst (ins_of mc_27 (pc := 11) (x := (.iconst 0, 1)) (by decide +kernel)) (by decide)
theorem e_27_12 : Df d 27 12 [l0] (.int x :: .ref a :: st) h nx = (pF h a 2 3 (.int x)).bind fun h => Df d 27 15 [l0] st h nx := D_putfield (ins_of mc_27 (pc := 12) (x := (.putfield 22, 3)) (by decide +kernel)) mo_27 (by decide +kernel) rfl (Or.inl rfl)
theorem e_27_15 : Df d 27 15 [l0] [] h nx = some (none, h, nx) := D_return (ins_of mc_27 (pc := 15) (x := (.return_, 1)) (by decide +kernel)) mr_27
theorem mc_28 : mC 28 = prog_4_method_4_code := rfl
theorem mo_28 : mO 28 = 2 := rfl
theorem ml_28 : mL 28 = 2 := rfl
theorem mr_28 : mR 28 = none := rfl
theorem ma_28 : mA 28 = 1 := rfl
theorem e_28_0 : Df d 28 0 [.ref a, l1] st h nx = Df d 28 1 [.ref a, l1] (.ref a :: st) h nx := D_aload_n (ins_of mc_28 (pc := 0) (x := (.aload_n 0, 1)) (by decide +kernel)) rfl
theorem e_28_1 : Df d 28 1 [l0, .int x] st h nx = Df d 28 2 [l0, .int x] (.int x :: st) h nx := D_iload_n (ins_of mc_28 (pc := 1) (x := (.iload_n 1, 1)) (by decide +kernel)) rfl
theorem e_28_2 : Df d 28 2 [l0, l1] [v0, .ref a] h nx = if ck h a 2 = true then cn d 28 5 [l0, l1] [] (Dn d 29 [.ref a, v0] h nx) else none := D_virtual (k1 := 29) (ins_of mc_28 (pc := 2) (x := (.invokevirtual 31, 3)) (by decide +kernel)) mo_28 (by decide +kernel) (by decide) rfl rfl (by decide) rfl (Nat.le_of_ble_eq_true rfl) rfl
theorem e_28_5 : Df d 28 5 [.ref a, l1] st h nx = Df d 28 6 [.ref a, l1] (.ref a :: st) h nx := D_aload_n (ins_of mc_28 (pc := 5) (x := (.aload_n 0, 1)) (by decide +kernel)) rfl
theorem e_28_6 (hv : v0.category = 1) : Df d 28 6 [l0, l1] (v0 :: st) h nx = Df d 28 7 [l0, l1] (v0 :: v0 :: st) h nx := D_dup (ins_of mc_28 (pc := 6) (x := (.dup, 1)) (by decide +kernel)) hv
theorem e_28_7 : Df d 28 7 [l0, l1] (.ref a :: st) h nx = (gF h a 2 3).bind fun v => Df d 28 10 [l0, l1] (v :: st) h nx := D_getfield (ins_of mc_28 (pc := 7) (x := (.getfield 22, 3)) (by decide +kernel)) mo_28 (by decide +kernel)
theorem e_28_10 : Df d 28 10 [l0, l1] st h nx = Df d 28 11 [l0, l1] (.int 1 :: st) h nx := D_iconst (ins_of mc_28 (pc := 10) (x := (.iconst 1, 1)) (by decide +kernel)) (by decide)
theorem e_28_11 : Df d 28 11 [l0, l1] (.int y :: .int x :: st) h nx = Df d 28 12 [l0, l1] (.int (x + y) :: st) h nx := D_iadd (ins_of mc_28 (pc := 11) (x := (.iadd, 1)) (by decide +kernel))
theorem e_28_12 : Df d 28 12 [l0, l1] (.int x :: .ref a :: st) h nx = (pF h a 2 3 (.int x)).bind fun h => Df d 28 15 [l0, l1] st h nx := D_putfield (ins_of mc_28 (pc := 12) (x := (.putfield 22, 3)) (by decide +kernel)) mo_28 (by decide +kernel) rfl (Or.inl rfl)
theorem e_28_15 : Df d 28 15 [l0, l1] [] h nx = some (none, h, nx) := D_return (ins_of mc_28 (pc := 15) (x := (.return_, 1)) (by decide +kernel)) mr_28
theorem mc_29 : mC 29 = prog_4_method_6_code := rfl
theorem mo_29 : mO 29 = 2 := rfl
theorem ml_29 : mL 29 = 2 := rfl
theorem mr_29 : mR 29 = none := rfl
theorem ma_29 : mA 29 = 1 := rfl
theorem e_29_0 : Df d 29 0 [.ref a, l1] st h nx = Df d 29 1 [.ref a, l1] (.ref a :: st) h nx := D_aload_n (ins_of mc_29 (pc := 0) (x := (.aload_n 0, 1)) (by decide +kernel)) rfl
theorem e_29_1 : Df d 29 1 [l0, l1] (.ref a :: st) h nx = (gF h a 2 1).bind fun v => Df d 29 4 [l0, l1] (v :: st) h nx := D_getfield (ins_of mc_29 (pc := 1) (x := (.getfield 15, 3)) (by decide +kernel)) mo_29 (by decide +kernel)
theorem e_29_4 : Df d 29 4 [l0, l1] st h nx = Df d 29 6 [l0, l1] (.int 96 :: st) h nx := D_bipush (ins_of mc_29 (pc := 4) (x := (.bipush 96, 2)) (by decide +kernel)) (by decide)
theorem e_29_6 : Df d 29 6 [l0, l1] (.int y :: .int x :: st) h nx = if y ≤ x then Df d 29 29 [l0, l1] st h nx else Df d 29 9 [l0, l1] st h nx := D_icmp_ge (ins_of mc_29 (pc := 6) (x := (.if_icmp .ge 23, 3)) (by decide +kernel)) (by decide)
theorem e_29_9 : Df d 29 9 [.ref a, l1] st h nx = Df d 29 10 [.ref a, l1] (.ref a :: st) h nx := D_aload_n (ins_of mc_29 (pc := 9) (x := (.aload_n 0, 1)) (by decide +kernel)) rfl
theorem e_29_10 : Df d 29 10 [l0, l1] (.ref a :: st) h nx = (gF h a 2 0).bind fun v => Df d 29 13 [l0, l1] (v :: st) h nx := D_getfield (ins_of mc_29 (pc := 10) (x := (.getfield 9, 3)) (by decide +kernel)) mo_29 (by decide +kernel)
theorem e_29_13 : Df d 29 13 [.ref a, l1] st h nx = Df d 29 14 [.ref a, l1] (.ref a :: st) h nx := D_aload_n (ins_of mc_29 (pc := 13) (x := (.aload_n 0, 1)) (by decide +kernel)) rfl
theorem e_29_14 : Df d 29 14 [l0, l1] (.ref a :: st) h nx = (gF h a 2 1).bind fun v => Df d 29 17 [l0, l1] (v :: st) h nx := D_getfield (ins_of mc_29 (pc := 14) (x := (.getfield 15, 3)) (by decide +kernel)) mo_29 (by decide +kernel)
theorem e_29_17 : Df d 29 17 [l0, .int x] st h nx = Df d 29 18 [l0, .int x] (.int x :: st) h nx := D_iload_n (ins_of mc_29 (pc := 17) (x := (.iload_n 1, 1)) (by decide +kernel)) rfl
theorem e_29_18 : Df d 29 18 [l0, l1] (.int y :: .int x :: .ref a :: st) h nx = (wI h a x 0 y).bind fun h => Df d 29 19 [l0, l1] st h nx := D_iastore (ins_of mc_29 (pc := 18) (x := (.iastore, 1)) (by decide +kernel))
theorem e_29_19 : Df d 29 19 [.ref a, l1] st h nx = Df d 29 20 [.ref a, l1] (.ref a :: st) h nx := D_aload_n (ins_of mc_29 (pc := 19) (x := (.aload_n 0, 1)) (by decide +kernel)) rfl
theorem e_29_20 (hv : v0.category = 1) : Df d 29 20 [l0, l1] (v0 :: st) h nx = Df d 29 21 [l0, l1] (v0 :: v0 :: st) h nx := D_dup (ins_of mc_29 (pc := 20) (x := (.dup, 1)) (by decide +kernel)) hv
theorem e_29_21 : Df d 29 21 [l0, l1] (.ref a :: st) h nx = (gF h a 2 1).bind fun v => Df d 29 24 [l0, l1] (v :: st) h nx := D_getfield (ins_of mc_29 (pc := 21) (x := (.getfield 15, 3)) (by decide +kernel)) mo_29 (by decide +kernel)
theorem e_29_24 : Df d 29 24 [l0, l1] st h nx = Df d 29 25 [l0, l1] (.int 1 :: st) h nx := D_iconst (ins_of mc_29 (pc := 24) (x := (.iconst 1, 1)) (by decide +kernel)) (by decide)
theorem e_29_25 : Df d 29 25 [l0, l1] (.int y :: .int x :: st) h nx = Df d 29 26 [l0, l1] (.int (x + y) :: st) h nx := D_iadd (ins_of mc_29 (pc := 25) (x := (.iadd, 1)) (by decide +kernel))
theorem e_29_26 : Df d 29 26 [l0, l1] (.int x :: .ref a :: st) h nx = (pF h a 2 1 (.int x)).bind fun h => Df d 29 29 [l0, l1] st h nx := D_putfield (ins_of mc_29 (pc := 26) (x := (.putfield 15, 3)) (by decide +kernel)) mo_29 (by decide +kernel) rfl (Or.inl rfl)
theorem e_29_29 : Df d 29 29 [l0, l1] [] h nx = some (none, h, nx) := D_return (ins_of mc_29 (pc := 29) (x := (.return_, 1)) (by decide +kernel)) mr_29
theorem mc_30 : mC 30 = prog_4_method_5_code := rfl
theorem mo_30 : mO 30 = 2 := rfl
theorem ml_30 : mL 30 = 2 := rfl
theorem mr_30 : mR 30 = none := rfl
theorem ma_30 : mA 30 = 1 := rfl
theorem e_30_0 : Df d 30 0 [.ref a, l1] st h nx = Df d 30 1 [.ref a, l1] (.ref a :: st) h nx := D_aload_n (ins_of mc_30 (pc := 0) (x := (.aload_n 0, 1)) (by decide +kernel)) rfl
theorem e_30_1 : Df d 30 1 [l0, .int x] st h nx = Df d 30 2 [l0, .int x] (.int x :: st) h nx := D_iload_n (ins_of mc_30 (pc := 1) (x := (.iload_n 1, 1)) (by decide +kernel)) rfl
theorem e_30_2 : Df d 30 2 [l0, l1] (.int x :: st) h nx = Df d 30 3 [l0, l1] (.int (-x) :: st) h nx := D_ineg (ins_of mc_30 (pc := 2) (x := (.ineg, 1)) (by decide +kernel))
theorem e_30_3 : Df d 30 3 [l0, l1] [v0, .ref a] h nx = if ck h a 2 = true then cn d 30 6 [l0, l1] [] (Dn d 29 [.ref a, v0] h nx) else none := D_virtual (k1 := 29) (ins_of mc_30 (pc := 3) (x := (.invokevirtual 31, 3)) (by decide +kernel)) mo_30 (by decide +kernel) (by decide) rfl rfl (by decide) rfl (Nat.le_of_ble_eq_true rfl) rfl
theorem e_30_6 : Df d 30 6 [l0, l1] [] h nx = some (none, h, nx) := D_return (ins_of mc_30 (pc := 6) (x := (.return_, 1)) (by decide +kernel)) mr_30
theorem mc_31 : mC 31 = prog_4_method_3_code := rfl
theorem mo_31 : mO 31 = 2 := rfl
theorem ml_31 : mL 31 = 2 := rfl
theorem mr_31 : mR 31 = none := rfl
theorem ma_31 : mA 31 = 1 := rfl
theorem e_31_0 : Df d 31 0 [l0, .ref a] st h nx = Df d 31 1 [l0, .ref a] (.ref a :: st) h nx := D_aload_n (ins_of mc_31 (pc := 0) (x := (.aload_n 1, 1)) (by decide +kernel)) rfl
theorem e_31_1 : Df d 31 1 [l0, l1] (.ref a :: st) h nx = (gF h a 2 0).bind fun v => Df d 31 4 [l0, l1] (v :: st) h nx := D_getfield (ins_of mc_31 (pc := 1) (x := (.getfield 9, 3)) (by decide +kernel)) mo_31 (by decide +kernel)
theorem e_31_4 : Df d 31 4 [l0, l1] st h nx = Df d 31 5 [l0, l1] (.int 0 :: st) h nx := D_iconst (ins_of mc_31 (pc := 4) (x := (.iconst 0, 1)) (by decide +kernel)) (by decide)
theorem e_31_5 : Df d 31 5 [.ref a, l1] st h nx = Df d 31 6 [.ref a, l1] (.ref a :: st) h nx := D_aload_n (ins_of mc_31 (pc := 5) (x := (.aload_n 0, 1)) (by decide +kernel)) rfl
theorem e_31_6 : Df d 31 6 [l0, l1] (.ref a :: st) h nx = (gF h a 2 0).bind fun v => Df d 31 9 [l0, l1] (v :: st) h nx := D_getfield (ins_of mc_31 (pc := 6) (x := (.getfield 9, 3)) (by decide +kernel)) mo_31 (by decide +kernel)
theorem e_31_9 : Df d 31 9 [l0, l1] st h nx = Df d 31 10 [l0, l1] (.int 0 :: st) h nx := D_iconst (ins_of mc_31 (pc := 9) (x := (.iconst 0, 1)) (by decide +kernel)) (by decide)
theorem e_31_10 : Df d 31 10 [l0, l1] st h nx = Df d 31 12 [l0, l1] (.int 96 :: st) h nx := D_bipush (ins_of mc_31 (pc := 10) (x := (.bipush 96, 2)) (by decide +kernel)) (by decide)
theorem e_31_12 : Df d 31 12 [l0, l1] [.int z, .int y, .ref b, .int x, .ref a] h nx = (cpA h a b x y z).bind fun h => Df d 31 15 [l0, l1] [] h nx := D_arraycopy (k1 := 0) (ins_of mc_31 (pc := 12) (x := (.invokestatic 25, 3)) (by decide +kernel)) mo_31 (by decide +kernel) (Nat.le_of_ble_eq_true rfl)
theorem e_31_15 : Df d 31 15 [.ref a, l1] st h nx = Df d 31 16 [.ref a, l1] (.ref a :: st) h nx := D_aload_n (ins_of mc_31 (pc := 15) (x := (.aload_n 0, 1)) (by decide +kernel)) rfl
theorem e_31_16 : Df d 31 16 [l0, .ref a] st h nx = Df d 31 17 [l0, .ref a] (.ref a :: st) h nx := D_aload_n (ins_of mc_31 (pc := 16) (x := (.aload_n 1, 1)) (by decide +kernel)) rfl
theorem e_31_17 : Df d 31 17 [l0, l1] (.ref a :: st) h nx = (gF h a 2 1).bind fun v => Df d 31 20 [l0, l1] (v :: st) h nx := D_getfield (ins_of mc_31 (pc := 17) (x := (.getfield 15, 3)) (by decide +kernel)) mo_31 (by decide +kernel)
theorem e_31_20 : Df d 31 20 [l0, l1] (.int x :: .ref a :: st) h nx = (pF h a 2 1 (.int x)).bind fun h => Df d 31 23 [l0, l1] st h nx := D_putfield (ins_of mc_31 (pc := 20) (x := (.putfield 15, 3)) (by decide +kernel)) mo_31 (by decide +kernel) rfl (Or.inl rfl)
theorem e_31_23 : Df d 31 23 [.ref a, l1] st h nx = Df d 31 24 [.ref a, l1] (.ref a :: st) h nx := D_aload_n (ins_of mc_31 (pc := 23) (x := (.aload_n 0, 1)) (by decide +kernel)) rfl
theorem e_31_24 : Df d 31 24 [l0, .ref a] st h nx = Df d 31 25 [l0, .ref a] (.ref a :: st) h nx := D_aload_n (ins_of mc_31 (pc := 24) (x := (.aload_n 1, 1)) (by decide +kernel)) rfl
theorem e_31_25 : Df d 31 25 [l0, l1] (.ref a :: st) h nx = (gF h a 2 2).bind fun v => Df d 31 28 [l0, l1] (v :: st) h nx := D_getfield (ins_of mc_31 (pc := 25) (x := (.getfield 19, 3)) (by decide +kernel)) mo_31 (by decide +kernel)
theorem e_31_28 : Df d 31 28 [l0, l1] (.int x :: .ref a :: st) h nx = (pF h a 2 2 (.int x)).bind fun h => Df d 31 31 [l0, l1] st h nx := D_putfield (ins_of mc_31 (pc := 28) (x := (.putfield 19, 3)) (by decide +kernel)) mo_31 (by decide +kernel) rfl (Or.inl rfl)
theorem e_31_31 : Df d 31 31 [.ref a, l1] st h nx = Df d 31 32 [.ref a, l1] (.ref a :: st) h nx := D_aload_n (ins_of mc_31 (pc := 31) (x := (.aload_n 0, 1)) (by decide +kernel)) rfl
theorem e_31_32 : Df d 31 32 [l0, .ref a] st h nx = Df d 31 33 [l0, .ref a] (.ref a :: st) h nx := D_aload_n (ins_of mc_31 (pc := 32) (x := (.aload_n 1, 1)) (by decide +kernel)) rfl
theorem e_31_33 : Df d 31 33 [l0, l1] (.ref a :: st) h nx = (gF h a 2 3).bind fun v => Df d 31 36 [l0, l1] (v :: st) h nx := D_getfield (ins_of mc_31 (pc := 33) (x := (.getfield 22, 3)) (by decide +kernel)) mo_31 (by decide +kernel)
theorem e_31_36 : Df d 31 36 [l0, l1] (.int x :: .ref a :: st) h nx = (pF h a 2 3 (.int x)).bind fun h => Df d 31 39 [l0, l1] st h nx := D_putfield (ins_of mc_31 (pc := 36) (x := (.putfield 22, 3)) (by decide +kernel)) mo_31 (by decide +kernel) rfl (Or.inl rfl)
theorem e_31_39 : Df d 31 39 [l0, l1] [] h nx = some (none, h, nx) := D_return (ins_of mc_31 (pc := 39) (x := (.return_, 1)) (by decide +kernel)) mr_31
theorem mc_32 : mC 32 = prog_5_method_1_code := rfl
theorem mo_32 : mO 32 = 3 := rfl
theorem ml_32 : mL 32 = 2 := rfl
theorem mr_32 : mR 32 = none := rfl
theorem ma_32 : mA 32 = 0 := rfl
theorem e_32_0 : Df d 32 0 [.ref a, l1] st h nx = Df d 32 1 [.ref a, l1] (.ref a :: st) h nx := D_aload_n (ins_of mc_32 (pc := 0) (x := (.aload_n 0, 1)) (by decide +kernel)) rfl
theorem e_32_1 : Df d 32 1 [l0, l1] [.ref a] h nx = Df d 32 4 [l0, l1] [] h nx := D_objinit (k1 := 0) (ins_of mc_32 (pc := 1) (x := (.invokespecial 3, 3)) (by decide +kernel)) mo_32 (by decide +kernel) (Nat.le_of_ble_eq_true rfl)
theorem e_32_4 : Df d 32 4 [.ref a, l1] st h nx = Df d 32 5 [.ref a, l1] (.ref a :: st) h nx := D_aload_n (ins_of mc_32 (pc := 4) (x := (.aload_n 0, 1)) (by decide +kernel)) rfl
theorem e_32_5 : Df d 32 5 [l0, l1] st h nx = Df d 32 7 [l0, l1] (.int 14 :: st) h nx := D_bipush (ins_of mc_32 (pc := 5) (x := (.bipush 14, 2)) (by decide +kernel)) (by decide)
theorem e_32_7 : Df d 32 7 [l0, l1] (.int x :: st) h nx = if x < 0 ∨ 10000 < x.toNatClampNeg then none else Df d 32 10 [l0, l1] (.ref (16 + nx.1) :: st) (put h (16 + nx.1) (.inl (4, x.toNatClampNeg, .inr (.inr (.inr (.inr fun _ => none)))))) (nx.1 + 1, nx.2 + x.toNatClampNeg) := D_anewarray (ci := 2) (ins_of mc_32 (pc := 7) (x := (.anewarray 9, 3)) (by decide +kernel)) mo_32 (by decide +kernel) rfl (by decide)
theorem e_32_10 : Df d 32 10 [l0, l1] (.ref b :: .ref a :: st) h nx = (pF h a 3 0 (.ref b)).bind fun h => Df d 32 13 [l0, l1] st h nx := D_putfield (ins_of mc_32 (pc := 10) (x := (.putfield 11, 3)) (by decide +kernel)) mo_32 (by decide +kernel) rfl (Or.inr ⟨by decide +kernel, rfl⟩)
theorem e_32_13 : Df d 32 13 [.ref a, l1] st h nx = Df d 32 14 [.ref a, l1] (.ref a :: st) h nx := D_aload_n (ins_of mc_32 (pc := 13) (x := (.aload_n 0, 1)) (by decide +kernel)) rfl
theorem e_32_14 : Df d 32 14 [l0, l1] st h nx = Df d 32 16 [l0, l1] (.int 96 :: st) h nx := D_bipush (ins_of mc_32 (pc := 14) (x := (.bipush 96, 2)) (by decide +kernel)) (by decide)
theorem e_32_16 : Df d 32 16 [l0, l1] (.int x :: st) h nx = if x < 0 ∨ 10000 < x.toNatClampNeg then none else Df d 32 18 [l0, l1] (.ref (16 + nx.1) :: st) (put h (16 + nx.1) (.inl (0, x.toNatClampNeg, .inl fun _ => 0))) (nx.1 + 1, nx.2 + x.toNatClampNeg) := D_newint (ins_of mc_32 (pc := 16) (x := (.newarray .int, 2)) (by decide +kernel))
theorem e_32_18 : Df d 32 18 [l0, l1] (.ref b :: .ref a :: st) h nx = (pF h a 3 1 (.ref b)).bind fun h => Df d 32 21 [l0, l1] st h nx := D_putfield (ins_of mc_32 (pc := 18) (x := (.putfield 17, 3)) (by decide +kernel)) mo_32 (by decide +kernel) rfl (Or.inr ⟨by decide +kernel, rfl⟩)
theorem e_32_21 : Df d 32 21 [l0, l1] st h nx = Df d 32 22 [l0, l1] (.int 0 :: st) h nx := D_iconst (ins_of mc_32 (pc := 21) (x := (.iconst 0, 1)) (by decide +kernel)) (by decide)
theorem e_32_22 (hn : nr l1 = true) : Df d 32 22 [l0, l1] (.int x :: st) h nx = Df d 32 23 [l0, .int x] st h nx := D_istore_n (ins_of mc_32 (pc := 22) (x := (.istore_n 1, 1)) (by decide +kernel)) rfl hn rfl
theorem e_32_23 : Df d 32 23 [l0, .int x] st h nx = Df d 32 24 [l0, .int x] (.int x :: st) h nx := D_iload_n (ins_of mc_32 (pc := 23) (x := (.iload_n 1, 1)) (by decide +kernel)) rfl
theorem e_32_24 : Df d 32 24 [l0, l1] st h nx = Df d 32 26 [l0, l1] (.int 14 :: st) h nx := D_bipush (ins_of mc_32 (pc := 24) (x := (.bipush 14, 2)) (by decide +kernel)) (by decide)
theorem e_32_26 : Df d 32 26 [l0, l1] (.int y :: .int x :: st) h nx = if y ≤ x then Df d 32 48 [l0, l1] st h nx else Df d 32 29 [l0, l1] st h nx := D_icmp_ge (ins_of mc_32 (pc := 26) (x := (.if_icmp .ge 22, 3)) (by decide +kernel)) (by decide)
theorem e_32_29 : Df d 32 29 [.ref a, l1] st h nx = Df d 32 30 [.ref a, l1] (.ref a :: st) h nx := D_aload_n (ins_of mc_32 (pc := 29) (x := (.aload_n 0, 1)) (by decide +kernel)) rfl
theorem e_32_30 : Df d 32 30 [l0, l1] (.ref a :: st) h nx = (gF h a 3 0).bind fun v => Df d 32 33 [l0, l1] (v :: st) h nx := D_getfield (ins_of mc_32 (pc := 30) (x := (.getfield 11, 3)) (by decide +kernel)) mo_32 (by decide +kernel)
theorem e_32_33 : Df d 32 33 [l0, .int x] st h nx = Df d 32 34 [l0, .int x] (.int x :: st) h nx := D_iload_n (ins_of mc_32 (pc := 33) (x := (.iload_n 1, 1)) (by decide +kernel)) rfl
theorem e_32_34 : Df d 32 34 [l0, l1] st h nx = Df d 32 37 [l0, l1] (.ref (16 + nx.1) :: st) (put h (16 + nx.1) (.inr (2, dfl 2))) (nx.1 + 1, nx.2 + 4) := D_new (ins_of mc_32 (pc := 34) (x := (.new 9, 3)) (by decide +kernel)) mo_32 (by decide +kernel)
theorem e_32_37 (hv : v0.category = 1) : Df d 32 37 [l0, l1] (v0 :: st) h nx = Df d 32 38 [l0, l1] (v0 :: v0 :: st) h nx := D_dup (ins_of mc_32 (pc := 37) (x := (.dup, 1)) (by decide +kernel)) hv
theorem e_32_38 : Df d 32 38 [l0, l1] [.ref a, s0, s1, s2] h nx = cn d 32 41 [l0, l1] [s0, s1, s2] (Dn d 26 [.ref a] h nx) := D_special (k1 := 26) (kd := 4) (ins_of mc_32 (pc := 38) (x := (.invokespecial 21, 3)) (by decide +kernel)) mo_32 (by decide +kernel) (by decide) rfl rfl (Nat.le_of_ble_eq_true rfl) rfl
theorem e_32_41 : Df d 32 41 [l0, l1] (.ref b :: .int x :: .ref a :: st) h nx = (wR h a x b).bind fun h => Df d 32 42 [l0, l1] st h nx := D_aastore (ins_of mc_32 (pc := 41) (x := (.aastore, 1)) (by decide +kernel))
theorem e_32_42 : Df d 32 42 [l0, .int x] st h nx = Df d 32 45 [l0, .int (x + 1)] st h nx := D_iinc (ins_of mc_32 (pc := 42) (x := (.iinc 1 1, 3)) (by decide +kernel)) rfl (by decide) rfl
theorem e_32_45 : Df d 32 45 [l0, l1] st h nx = Df d 32 23 [l0, l1] st h nx := D_goto (ins_of mc_32 (pc := 45) (x := (.goto (-22), 3)) (by decide +kernel)) (by decide)
theorem e_32_48 : Df d 32 48 [l0, l1] [] h nx = some (none, h, nx) := D_return (ins_of mc_32 (pc := 48) (x := (.return_, 1)) (by decide +kernel)) mr_32
theorem mc_33 : mC 33 = prog_5_method_2_code := rfl
theorem mo_33 : mO 33 = 3 := rfl
theorem ml_33 : mL 33 = 4 := rfl
theorem mr_33 : mR 33 = (some .int) := rfl
theorem ma_33 : mA 33 = 2 := rfl
theorem e_33_0 : Df d 33 0 [l0, l1, .int x, l3] st h nx = Df d 33 1 [l0, l1, .int x, l3] (.int x :: st) h nx := D_iload_n (ins_of mc_33 (pc := 0) (x := (.iload_n 2, 1)) (by decide +kernel)) rfl
theorem e_33_1 : Df d 33 1 [l0, l1, l2, l3] st h nx = Df d 33 3 [l0, l1, l2, l3] (.int 14 :: st) h nx := D_bipush (ins_of mc_33 (pc := 1) (x := (.bipush 14, 2)) (by decide +kernel)) (by decide)
theorem e_33_3 : Df d 33 3 [l0, l1, l2, l3] [v1, v0] h nx = cn d 33 6 [l0, l1, l2, l3] [] (Dn d 211 [v0, v1] h nx) := D_static (k1 := 211) (kd := 1) (ins_of mc_33 (pc := 3) (x := (.invokestatic 22, 3)) (by decide +kernel)) mo_33 (by decide +kernel) (by decide) rfl (Nat.le_of_ble_eq_true rfl) rfl (Nat.le_of_ble_eq_true rfl) rfl
theorem e_33_6 : Df d 33 6 [l0, l1, l2, l3] st h nx = Df d 33 7 [l0, l1, l2, l3] (.int 1 :: st) h nx := D_iconst (ins_of mc_33 (pc := 6) (x := (.iconst 1, 1)) (by decide +kernel)) (by decide)
theorem e_33_7 : Df d 33 7 [l0, l1, l2, l3] (.int y :: .int x :: st) h nx = Df d 33 8 [l0, l1, l2, l3] (.int (x - y) :: st) h nx := D_isub (ins_of mc_33 (pc := 7) (x := (.isub, 1)) (by decide +kernel))
theorem e_33_8 (hn : nr l3 = true) : Df d 33 8 [l0, l1, l2, l3] (.int x :: st) h nx = Df d 33 9 [l0, l1, l2, .int x] st h nx := D_istore_n (ins_of mc_33 (pc := 8) (x := (.istore_n 3, 1)) (by decide +kernel)) rfl hn rfl
theorem e_33_9 : Df d 33 9 [l0, l1, l2, .int x] st h nx = Df d 33 10 [l0, l1, l2, .int x] (.int x :: st) h nx := D_iload_n (ins_of mc_33 (pc := 9) (x := (.iload_n 3, 1)) (by decide +kernel)) rfl
theorem e_33_10 : Df d 33 10 [l0, l1, l2, l3] (.int x :: st) h nx = if x < 0 then Df d 33 34 [l0, l1, l2, l3] st h nx else Df d 33 13 [l0, l1, l2, l3] st h nx := D_if_lt (ins_of mc_33 (pc := 10) (x := (.ifCond .lt 24, 3)) (by decide +kernel)) (by decide)
theorem e_33_13 : Df d 33 13 [.ref a, l1, l2, l3] st h nx = Df d 33 14 [.ref a, l1, l2, l3] (.ref a :: st) h nx := D_aload_n (ins_of mc_33 (pc := 13) (x := (.aload_n 0, 1)) (by decide +kernel)) rfl
theorem e_33_14 : Df d 33 14 [l0, l1, l2, l3] (.ref a :: st) h nx = (gF h a 3 0).bind fun v => Df d 33 17 [l0, l1, l2, l3] (v :: st) h nx := D_getfield (ins_of mc_33 (pc := 14) (x := (.getfield 11, 3)) (by decide +kernel)) mo_33 (by decide +kernel)
theorem e_33_17 : Df d 33 17 [l0, l1, l2, .int x] st h nx = Df d 33 18 [l0, l1, l2, .int x] (.int x :: st) h nx := D_iload_n (ins_of mc_33 (pc := 17) (x := (.iload_n 3, 1)) (by decide +kernel)) rfl
theorem e_33_18 : Df d 33 18 [l0, l1, l2, l3] (.int x :: .ref a :: st) h nx = (rR h a x).bind fun v => Df d 33 19 [l0, l1, l2, l3] (.ref v :: st) h nx := D_aaload (ins_of mc_33 (pc := 18) (x := (.aaload, 1)) (by decide +kernel))
theorem e_33_19 : Df d 33 19 [l0, l1, l2, l3] (.ref a :: st) h nx = (gF h a 2 2).bind fun v => Df d 33 22 [l0, l1, l2, l3] (v :: st) h nx := D_getfield (ins_of mc_33 (pc := 19) (x := (.getfield 28, 3)) (by decide +kernel)) mo_33 (by decide +kernel)
theorem e_33_22 : Df d 33 22 [l0, .int x, l2, l3] st h nx = Df d 33 23 [l0, .int x, l2, l3] (.int x :: st) h nx := D_iload_n (ins_of mc_33 (pc := 22) (x := (.iload_n 1, 1)) (by decide +kernel)) rfl
theorem e_33_23 : Df d 33 23 [l0, l1, l2, l3] (.int y :: .int x :: st) h nx = if x = y then Df d 33 26 [l0, l1, l2, l3] st h nx else Df d 33 28 [l0, l1, l2, l3] st h nx := D_icmp_ne (ins_of mc_33 (pc := 23) (x := (.if_icmp .ne 5, 3)) (by decide +kernel)) (by decide)
theorem e_33_26 : Df d 33 26 [l0, l1, l2, .int x] st h nx = Df d 33 27 [l0, l1, l2, .int x] (.int x :: st) h nx := D_iload_n (ins_of mc_33 (pc := 26) (x := (.iload_n 3, 1)) (by decide +kernel)) rfl
theorem e_33_27 : Df d 33 27 [l0, l1, l2, l3] [.int x] h nx = some (some (.int x), h, nx) := D_ireturn (ins_of mc_33 (pc := 27) (x := (.ireturn, 1)) (by decide +kernel)) mr_33
theorem e_33_28 : Df d 33 28 [l0, l1, l2, .int x] st h nx = Df d 33 31 [l0, l1, l2, .int (x + (-1))] st h nx := D_iinc (ins_of mc_33 (pc := 28) (x := (.iinc 3 (-1), 3)) (by decide +kernel)) rfl (by decide) rfl
theorem e_33_31 : Df d 33 31 [l0, l1, l2, l3] st h nx = Df d 33 9 [l0, l1, l2, l3] st h nx := D_goto (ins_of mc_33 (pc := 31) (x := (.goto (-22), 3)) (by decide +kernel)) (by decide)
theorem e_33_34 : Df d 33 34 [l0, l1, l2, l3] st h nx = Df d 33 36 [l0, l1, l2, l3] (.int (-1000000005) :: st) h nx := D_ldc (ins_of mc_33 (pc := 34) (x := (.ldc 32, 2)) (by decide +kernel)) mo_33 (by decide +kernel)
theorem e_33_36 : Df d 33 36 [l0, l1, l2, l3] [.int x] h nx = some (some (.int x), h, nx) := D_ireturn (ins_of mc_33 (pc := 36) (x := (.ireturn, 1)) (by decide +kernel)) mr_33
theorem mc_34 : mC 34 = prog_5_method_3_code := rfl
theorem mo_34 : mO 34 = 3 := rfl
theorem ml_34 : mL 34 = 9 := rfl
theorem mr_34 : mR 34 = (some .int) := rfl
theorem ma_34 : mA 34 = 4 := rfl
theorem e_34_0 : Df d 34 0 [l0, .int x, l2, l3, l4, l5, l6, l7, l8] st h nx = Df d 34 1 [l0, .int x, l2, l3, l4, l5, l6, l7, l8] (.int x :: st) h nx := D_iload_n (ins_of mc_34 (pc := 0) (x := (.iload_n 1, 1)) (by decide +kernel)) rfl
theorem e_34_1 : Df d 34 1 [l0, l1, l2, l3, l4, l5, l6, l7, l8] (.int x :: st) h nx = if x < 0 then Df d 34 10 [l0, l1, l2, l3, l4, l5, l6, l7, l8] st h nx else Df d 34 4 [l0, l1, l2, l3, l4, l5, l6, l7, l8] st h nx := D_if_lt (ins_of mc_34 (pc := 1) (x := (.ifCond .lt 9, 3)) (by decide +kernel)) (by decide)
theorem e_34_4 : Df d 34 4 [l0, .int x, l2, l3, l4, l5, l6, l7, l8] st h nx = Df d 34 5 [l0, .int x, l2, l3, l4, l5, l6, l7, l8] (.int x :: st) h nx := D_iload_n (ins_of mc_34 (pc := 4) (x := (.iload_n 1, 1)) (by decide +kernel)) rfl
theorem e_34_5 : Df d 34 5 [l0, l1, l2, l3, l4, l5, l6, l7, l8] st h nx = Df d 34 7 [l0, l1, l2, l3, l4, l5, l6, l7, l8] (.int 14 :: st) h nx := D_bipush (ins_of mc_34 (pc := 5) (x := (.bipush 14, 2)) (by decide +kernel)) (by decide)
theorem e_34_7 : Df d 34 7 [l0, l1, l2, l3, l4, l5, l6, l7, l8] (.int y :: .int x :: st) h nx = if x < y then Df d 34 12 [l0, l1, l2, l3, l4, l5, l6, l7, l8] st h nx else Df d 34 10 [l0, l1, l2, l3, l4, l5, l6, l7, l8] st h nx := D_icmp_lt (ins_of mc_34 (pc := 7) (x := (.if_icmp .lt 5, 3)) (by decide +kernel)) (by decide)
theorem e_34_10 : Df d 34 10 [l0, l1, l2, l3, l4, l5, l6, l7, l8] st h nx = Df d 34 11 [l0, l1, l2, l3, l4, l5, l6, l7, l8] (.int 0 :: st) h nx := D_iconst (ins_of mc_34 (pc := 10) (x := (.iconst 0, 1)) (by decide +kernel)) (by decide)
theorem e_34_11 : Df d 34 11 [l0, l1, l2, l3, l4, l5, l6, l7, l8] [.int x] h nx = some (some (.int x), h, nx) := D_ireturn (ins_of mc_34 (pc := 11) (x := (.ireturn, 1)) (by decide +kernel)) mr_34
theorem e_34_12 : Df d 34 12 [.ref a, l1, l2, l3, l4, l5, l6, l7, l8] st h nx = Df d 34 13 [.ref a, l1, l2, l3, l4, l5, l6, l7, l8] (.ref a :: st) h nx := D_aload_n (ins_of mc_34 (pc := 12) (x := (.aload_n 0, 1)) (by decide +kernel)) rfl
theorem e_34_13 : Df d 34 13 [l0, l1, l2, l3, l4, l5, l6, l7, l8] (.ref a :: st) h nx = (gF h a 3 0).bind fun v => Df d 34 16 [l0, l1, l2, l3, l4, l5, l6, l7, l8] (v :: st) h nx := D_getfield (ins_of mc_34 (pc := 13) (x := (.getfield 11, 3)) (by decide +kernel)) mo_34 (by decide +kernel)
theorem e_34_16 : Df d 34 16 [l0, .int x, l2, l3, l4, l5, l6, l7, l8] st h nx = Df d 34 17 [l0, .int x, l2, l3, l4, l5, l6, l7, l8] (.int x :: st) h nx := D_iload_n (ins_of mc_34 (pc := 16) (x := (.iload_n 1, 1)) (by decide +kernel)) rfl
theorem e_34_17 : Df d 34 17 [l0, l1, l2, l3, l4, l5, l6, l7, l8] (.int x :: .ref a :: st) h nx = (rR h a x).bind fun v => Df d 34 18 [l0, l1, l2, l3, l4, l5, l6, l7, l8] (.ref v :: st) h nx := D_aaload (ins_of mc_34 (pc := 17) (x := (.aaload, 1)) (by decide +kernel))
theorem e_34_18 (hn : nr l5 = true) : Df d 34 18 [l0, l1, l2, l3, l4, l5, l6, l7, l8] (.ref a :: st) h nx = Df d 34 20 [l0, l1, l2, l3, l4, .ref a, l6, l7, l8] st h nx := D_astore (ins_of mc_34 (pc := 18) (x := (.astore 5, 2)) (by decide +kernel)) rfl hn rfl
theorem e_34_20 : Df d 34 20 [l0, l1, l2, l3, l4, l5, l6, l7, l8] st h nx = Df d 34 21 [l0, l1, l2, l3, l4, l5, l6, l7, l8] (.int 0 :: st) h nx := D_iconst (ins_of mc_34 (pc := 20) (x := (.iconst 0, 1)) (by decide +kernel)) (by decide)
theorem e_34_21 (hn : nr l6 = true) : Df d 34 21 [l0, l1, l2, l3, l4, l5, l6, l7, l8] (.int x :: st) h nx = Df d 34 23 [l0, l1, l2, l3, l4, l5, .int x, l7, l8] st h nx := D_istore (ins_of mc_34 (pc := 21) (x := (.istore 6, 2)) (by decide +kernel)) rfl hn rfl
theorem e_34_23 : Df d 34 23 [l0, l1, l2, l3, l4, l5, l6, l7, l8] st h nx = Df d 34 24 [l0, l1, l2, l3, l4, l5, l6, l7, l8] (.int 0 :: st) h nx := D_iconst (ins_of mc_34 (pc := 23) (x := (.iconst 0, 1)) (by decide +kernel)) (by decide)
theorem e_34_24 (hn : nr l7 = true) : Df d 34 24 [l0, l1, l2, l3, l4, l5, l6, l7, l8] (.int x :: st) h nx = Df d 34 26 [l0, l1, l2, l3, l4, l5, l6, .int x, l8] st h nx := D_istore (ins_of mc_34 (pc := 24) (x := (.istore 7, 2)) (by decide +kernel)) rfl hn rfl
theorem e_34_26 : Df d 34 26 [l0, l1, l2, l3, l4, l5, l6, .int x, l8] st h nx = Df d 34 28 [l0, l1, l2, l3, l4, l5, l6, .int x, l8] (.int x :: st) h nx := D_iload (ins_of mc_34 (pc := 26) (x := (.iload 7, 2)) (by decide +kernel)) rfl
theorem e_34_28 : Df d 34 28 [l0, l1, l2, l3, l4, .ref a, l6, l7, l8] st h nx = Df d 34 30 [l0, l1, l2, l3, l4, .ref a, l6, l7, l8] (.ref a :: st) h nx := D_aload (ins_of mc_34 (pc := 28) (x := (.aload 5, 2)) (by decide +kernel)) rfl
theorem e_34_30 : Df d 34 30 [l0, l1, l2, l3, l4, l5, l6, l7, l8] (.ref a :: st) h nx = (gF h a 2 1).bind fun v => Df d 34 33 [l0, l1, l2, l3, l4, l5, l6, l7, l8] (v :: st) h nx := D_getfield (ins_of mc_34 (pc := 30) (x := (.getfield 33, 3)) (by decide +kernel)) mo_34 (by decide +kernel)
theorem e_34_33 : Df d 34 33 [l0, l1, l2, l3, l4, l5, l6, l7, l8] (.int y :: .int x :: st) h nx = if y ≤ x then Df d 34 188 [l0, l1, l2, l3, l4, l5, l6, l7, l8] st h nx else Df d 34 36 [l0, l1, l2, l3, l4, l5, l6, l7, l8] st h nx := D_icmp_ge (ins_of mc_34 (pc := 33) (x := (.if_icmp .ge 155, 3)) (by decide +kernel)) (by decide)
theorem e_34_36 : Df d 34 36 [l0, l1, l2, l3, l4, l5, l6, .int x, l8] st h nx = Df d 34 38 [l0, l1, l2, l3, l4, l5, l6, .int x, l8] (.int x :: st) h nx := D_iload (ins_of mc_34 (pc := 36) (x := (.iload 7, 2)) (by decide +kernel)) rfl
theorem e_34_38 : Df d 34 38 [l0, l1, l2, l3, l4, l5, l6, l7, l8] st h nx = Df d 34 40 [l0, l1, l2, l3, l4, l5, l6, l7, l8] (.int 96 :: st) h nx := D_bipush (ins_of mc_34 (pc := 38) (x := (.bipush 96, 2)) (by decide +kernel)) (by decide)
theorem e_34_40 : Df d 34 40 [l0, l1, l2, l3, l4, l5, l6, l7, l8] (.int y :: .int x :: st) h nx = if y ≤ x then Df d 34 188 [l0, l1, l2, l3, l4, l5, l6, l7, l8] st h nx else Df d 34 43 [l0, l1, l2, l3, l4, l5, l6, l7, l8] st h nx := D_icmp_ge (ins_of mc_34 (pc := 40) (x := (.if_icmp .ge 148, 3)) (by decide +kernel)) (by decide)
theorem e_34_43 : Df d 34 43 [l0, l1, l2, l3, l4, .ref a, l6, l7, l8] st h nx = Df d 34 45 [l0, l1, l2, l3, l4, .ref a, l6, l7, l8] (.ref a :: st) h nx := D_aload (ins_of mc_34 (pc := 43) (x := (.aload 5, 2)) (by decide +kernel)) rfl
theorem e_34_45 : Df d 34 45 [l0, l1, l2, l3, l4, l5, l6, l7, l8] (.ref a :: st) h nx = (gF h a 2 0).bind fun v => Df d 34 48 [l0, l1, l2, l3, l4, l5, l6, l7, l8] (v :: st) h nx := D_getfield (ins_of mc_34 (pc := 45) (x := (.getfield 36, 3)) (by decide +kernel)) mo_34 (by decide +kernel)
theorem e_34_48 : Df d 34 48 [l0, l1, l2, l3, l4, l5, l6, .int x, l8] st h nx = Df d 34 50 [l0, l1, l2, l3, l4, l5, l6, .int x, l8] (.int x :: st) h nx := D_iload (ins_of mc_34 (pc := 48) (x := (.iload 7, 2)) (by decide +kernel)) rfl
theorem e_34_50 : Df d 34 50 [l0, l1, l2, l3, l4, l5, l6, l7, l8] (.int x :: .ref a :: st) h nx = (rX h a x).bind fun v => Df d 34 51 [l0, l1, l2, l3, l4, l5, l6, l7, l8] (.int v :: st) h nx := D_iaload (ins_of mc_34 (pc := 50) (x := (.iaload, 1)) (by decide +kernel))
theorem e_34_51 (hn : nr l8 = true) : Df d 34 51 [l0, l1, l2, l3, l4, l5, l6, l7, l8] (.int x :: st) h nx = Df d 34 53 [l0, l1, l2, l3, l4, l5, l6, l7, .int x] st h nx := D_istore (ins_of mc_34 (pc := 51) (x := (.istore 8, 2)) (by decide +kernel)) rfl hn rfl
theorem e_34_53 : Df d 34 53 [l0, l1, l2, l3, l4, l5, l6, l7, .int x] st h nx = Df d 34 55 [l0, l1, l2, l3, l4, l5, l6, l7, .int x] (.int x :: st) h nx := D_iload (ins_of mc_34 (pc := 53) (x := (.iload 8, 2)) (by decide +kernel)) rfl
theorem e_34_55 : Df d 34 55 [l0, l1, l2, l3, l4, l5, l6, l7, l8] (.int x :: st) h nx = if x < 0 then Df d 34 100 [l0, l1, l2, l3, l4, l5, l6, l7, l8] st h nx else Df d 34 58 [l0, l1, l2, l3, l4, l5, l6, l7, l8] st h nx := D_if_lt (ins_of mc_34 (pc := 55) (x := (.ifCond .lt 45, 3)) (by decide +kernel)) (by decide)
theorem e_34_58 : Df d 34 58 [l0, l1, l2, l3, l4, l5, .int x, l7, l8] st h nx = Df d 34 60 [l0, l1, l2, l3, l4, l5, .int x, l7, l8] (.int x :: st) h nx := D_iload (ins_of mc_34 (pc := 58) (x := (.iload 6, 2)) (by decide +kernel)) rfl
theorem e_34_60 : Df d 34 60 [l0, l1, l2, l3, l4, l5, l6, l7, l8] st h nx = Df d 34 62 [l0, l1, l2, l3, l4, l5, l6, l7, l8] (.int 96 :: st) h nx := D_bipush (ins_of mc_34 (pc := 60) (x := (.bipush 96, 2)) (by decide +kernel)) (by decide)
theorem e_34_62 : Df d 34 62 [l0, l1, l2, l3, l4, l5, l6, l7, l8] (.int y :: .int x :: st) h nx = if y ≤ x then Df d 34 100 [l0, l1, l2, l3, l4, l5, l6, l7, l8] st h nx else Df d 34 65 [l0, l1, l2, l3, l4, l5, l6, l7, l8] st h nx := D_icmp_ge (ins_of mc_34 (pc := 62) (x := (.if_icmp .ge 38, 3)) (by decide +kernel)) (by decide)
theorem e_34_65 : Df d 34 65 [.ref a, l1, l2, l3, l4, l5, l6, l7, l8] st h nx = Df d 34 66 [.ref a, l1, l2, l3, l4, l5, l6, l7, l8] (.ref a :: st) h nx := D_aload_n (ins_of mc_34 (pc := 65) (x := (.aload_n 0, 1)) (by decide +kernel)) rfl
theorem e_34_66 : Df d 34 66 [l0, l1, l2, l3, l4, l5, l6, l7, l8] (.ref a :: st) h nx = (gF h a 3 1).bind fun v => Df d 34 69 [l0, l1, l2, l3, l4, l5, l6, l7, l8] (v :: st) h nx := D_getfield (ins_of mc_34 (pc := 66) (x := (.getfield 17, 3)) (by decide +kernel)) mo_34 (by decide +kernel)
theorem e_34_69 : Df d 34 69 [l0, l1, l2, l3, l4, l5, .int x, l7, l8] st h nx = Df d 34 71 [l0, l1, l2, l3, l4, l5, .int x, l7, l8] (.int x :: st) h nx := D_iload (ins_of mc_34 (pc := 69) (x := (.iload 6, 2)) (by decide +kernel)) rfl
theorem e_34_71 : Df d 34 71 [l0, l1, l2, l3, l4, l5, l6, l7, .int x] st h nx = Df d 34 73 [l0, l1, l2, l3, l4, l5, l6, l7, .int x] (.int x :: st) h nx := D_iload (ins_of mc_34 (pc := 71) (x := (.iload 8, 2)) (by decide +kernel)) rfl
theorem e_34_73 : Df d 34 73 [l0, l1, l2, l3, l4, l5, l6, l7, l8] st h nx = Df d 34 76 [l0, l1, l2, l3, l4, l5, l6, l7, l8] (.int 10000 :: st) h nx := D_sipush (ins_of mc_34 (pc := 73) (x := (.sipush 10000, 3)) (by decide +kernel)) (by decide)
theorem e_34_76 : Df d 34 76 [l0, l1, l2, l3, l4, l5, l6, l7, l8] (.int y :: .int x :: st) h nx = if y ≤ x then Df d 34 84 [l0, l1, l2, l3, l4, l5, l6, l7, l8] st h nx else Df d 34 79 [l0, l1, l2, l3, l4, l5, l6, l7, l8] st h nx := D_icmp_ge (ins_of mc_34 (pc := 76) (x := (.if_icmp .ge 8, 3)) (by decide +kernel)) (by decide)
theorem e_34_79 : Df d 34 79 [l0, l1, l2, l3, l4, l5, l6, l7, .int x] st h nx = Df d 34 81 [l0, l1, l2, l3, l4, l5, l6, l7, .int x] (.int x :: st) h nx := D_iload (ins_of mc_34 (pc := 79) (x := (.iload 8, 2)) (by decide +kernel)) rfl
theorem e_34_81 : Df d 34 81 [l0, l1, l2, l3, l4, l5, l6, l7, l8] st h nx = Df d 34 93 [l0, l1, l2, l3, l4, l5, l6, l7, l8] st h nx := D_goto (ins_of mc_34 (pc := 81) (x := (.goto 12, 3)) (by decide +kernel)) (by decide)
theorem e_34_84 : Df d 34 84 [l0, l1, l2, l3, l4, l5, l6, l7, .int x] st h nx = Df d 34 86 [l0, l1, l2, l3, l4, l5, l6, l7, .int x] (.int x :: st) h nx := D_iload (ins_of mc_34 (pc := 84) (x := (.iload 8, 2)) (by decide +kernel)) rfl
theorem e_34_86 : Df d 34 86 [l0, l1, .int x, l3, l4, l5, l6, l7, l8] st h nx = Df d 34 87 [l0, l1, .int x, l3, l4, l5, l6, l7, l8] (.int x :: st) h nx := D_iload_n (ins_of mc_34 (pc := 86) (x := (.iload_n 2, 1)) (by decide +kernel)) rfl
theorem e_34_87 : Df d 34 87 [l0, l1, l2, .int x, l4, l5, l6, l7, l8] st h nx = Df d 34 88 [l0, l1, l2, .int x, l4, l5, l6, l7, l8] (.int x :: st) h nx := D_iload_n (ins_of mc_34 (pc := 87) (x := (.iload_n 3, 1)) (by decide +kernel)) rfl
theorem e_34_88 : Df d 34 88 [l0, l1, l2, l3, .int x, l5, l6, l7, l8] st h nx = Df d 34 90 [l0, l1, l2, l3, .int x, l5, l6, l7, l8] (.int x :: st) h nx := D_iload (ins_of mc_34 (pc := 88) (x := (.iload 4, 2)) (by decide +kernel)) rfl
theorem e_34_90 : Df d 34 90 [l0, l1, l2, l3, l4, l5, l6, l7, l8] [v3, v2, v1, v0, s0, s1] h nx = cn d 34 93 [l0, l1, l2, l3, l4, l5, l6, l7, l8] [s0, s1] (Dn d 35 [v0, v1, v2, v3] h nx) := D_static (k1 := 35) (kd := 1) (ins_of mc_34 (pc := 90) (x := (.invokestatic 39, 3)) (by decide +kernel)) mo_34 (by decide +kernel) (by decide) rfl (Nat.le_of_ble_eq_true rfl) rfl (Nat.le_of_ble_eq_true rfl) rfl
theorem e_34_93 : Df d 34 93 [l0, l1, l2, l3, l4, l5, l6, l7, l8] (.int y :: .int x :: .ref a :: st) h nx = (wI h a x 0 y).bind fun h => Df d 34 94 [l0, l1, l2, l3, l4, l5, l6, l7, l8] st h nx := D_iastore (ins_of mc_34 (pc := 93) (x := (.iastore, 1)) (by decide +kernel))
theorem e_34_94 : Df d 34 94 [l0, l1, l2, l3, l4, l5, .int x, l7, l8] st h nx = Df d 34 97 [l0, l1, l2, l3, l4, l5, .int (x + 1), l7, l8] st h nx := D_iinc (ins_of mc_34 (pc := 94) (x := (.iinc 6 1, 3)) (by decide +kernel)) rfl (by decide) rfl
theorem e_34_97 : Df d 34 97 [l0, l1, l2, l3, l4, l5, l6, l7, l8] st h nx = Df d 34 182 [l0, l1, l2, l3, l4, l5, l6, l7, l8] st h nx := D_goto (ins_of mc_34 (pc := 97) (x := (.goto 85, 3)) (by decide +kernel)) (by decide)
theorem e_34_100 : Df d 34 100 [l0, l1, l2, l3, l4, l5, l6, l7, .int x] st h nx = Df d 34 102 [l0, l1, l2, l3, l4, l5, l6, l7, .int x] (.int x :: st) h nx := D_iload (ins_of mc_34 (pc := 100) (x := (.iload 8, 2)) (by decide +kernel)) rfl
theorem e_34_102 : Df d 34 102 [l0, l1, l2, l3, l4, l5, l6, l7, l8] st h nx = Df d 34 104 [l0, l1, l2, l3, l4, l5, l6, l7, l8] (.int (-33) :: st) h nx := D_bipush (ins_of mc_34 (pc := 102) (x := (.bipush (-33), 2)) (by decide +kernel)) (by decide)
theorem e_34_104 : Df d 34 104 [l0, l1, l2, l3, l4, l5, l6, l7, l8] (.int y :: .int x :: st) h nx = if x = y then Df d 34 107 [l0, l1, l2, l3, l4, l5, l6, l7, l8] st h nx else Df d 34 142 [l0, l1, l2, l3, l4, l5, l6, l7, l8] st h nx := D_icmp_ne (ins_of mc_34 (pc := 104) (x := (.if_icmp .ne 38, 3)) (by decide +kernel)) (by decide)
theorem e_34_107 : Df d 34 107 [l0, l1, l2, l3, l4, l5, .int x, l7, l8] st h nx = Df d 34 109 [l0, l1, l2, l3, l4, l5, .int x, l7, l8] (.int x :: st) h nx := D_iload (ins_of mc_34 (pc := 107) (x := (.iload 6, 2)) (by decide +kernel)) rfl
theorem e_34_109 : Df d 34 109 [l0, l1, l2, l3, l4, l5, l6, l7, l8] st h nx = Df d 34 110 [l0, l1, l2, l3, l4, l5, l6, l7, l8] (.int 1 :: st) h nx := D_iconst (ins_of mc_34 (pc := 109) (x := (.iconst 1, 1)) (by decide +kernel)) (by decide)
theorem e_34_110 : Df d 34 110 [l0, l1, l2, l3, l4, l5, l6, l7, l8] (.int y :: .int x :: st) h nx = if x < y then Df d 34 142 [l0, l1, l2, l3, l4, l5, l6, l7, l8] st h nx else Df d 34 113 [l0, l1, l2, l3, l4, l5, l6, l7, l8] st h nx := D_icmp_lt (ins_of mc_34 (pc := 110) (x := (.if_icmp .lt 32, 3)) (by decide +kernel)) (by decide)
theorem e_34_113 : Df d 34 113 [.ref a, l1, l2, l3, l4, l5, l6, l7, l8] st h nx = Df d 34 114 [.ref a, l1, l2, l3, l4, l5, l6, l7, l8] (.ref a :: st) h nx := D_aload_n (ins_of mc_34 (pc := 113) (x := (.aload_n 0, 1)) (by decide +kernel)) rfl
theorem e_34_114 : Df d 34 114 [l0, l1, l2, l3, l4, l5, l6, l7, l8] (.ref a :: st) h nx = (gF h a 3 1).bind fun v => Df d 34 117 [l0, l1, l2, l3, l4, l5, l6, l7, l8] (v :: st) h nx := D_getfield (ins_of mc_34 (pc := 114) (x := (.getfield 17, 3)) (by decide +kernel)) mo_34 (by decide +kernel)
theorem e_34_117 : Df d 34 117 [l0, l1, l2, l3, l4, l5, .int x, l7, l8] st h nx = Df d 34 119 [l0, l1, l2, l3, l4, l5, .int x, l7, l8] (.int x :: st) h nx := D_iload (ins_of mc_34 (pc := 117) (x := (.iload 6, 2)) (by decide +kernel)) rfl
theorem e_34_119 : Df d 34 119 [l0, l1, l2, l3, l4, l5, l6, l7, l8] st h nx = Df d 34 120 [l0, l1, l2, l3, l4, l5, l6, l7, l8] (.int 1 :: st) h nx := D_iconst (ins_of mc_34 (pc := 119) (x := (.iconst 1, 1)) (by decide +kernel)) (by decide)
theorem e_34_120 : Df d 34 120 [l0, l1, l2, l3, l4, l5, l6, l7, l8] (.int y :: .int x :: st) h nx = Df d 34 121 [l0, l1, l2, l3, l4, l5, l6, l7, l8] (.int (x - y) :: st) h nx := D_isub (ins_of mc_34 (pc := 120) (x := (.isub, 1)) (by decide +kernel))
theorem e_34_121 : Df d 34 121 [.ref a, l1, l2, l3, l4, l5, l6, l7, l8] st h nx = Df d 34 122 [.ref a, l1, l2, l3, l4, l5, l6, l7, l8] (.ref a :: st) h nx := D_aload_n (ins_of mc_34 (pc := 121) (x := (.aload_n 0, 1)) (by decide +kernel)) rfl
theorem e_34_122 : Df d 34 122 [l0, l1, l2, l3, l4, l5, l6, l7, l8] (.ref a :: st) h nx = (gF h a 3 1).bind fun v => Df d 34 125 [l0, l1, l2, l3, l4, l5, l6, l7, l8] (v :: st) h nx := D_getfield (ins_of mc_34 (pc := 122) (x := (.getfield 17, 3)) (by decide +kernel)) mo_34 (by decide +kernel)
theorem e_34_125 : Df d 34 125 [l0, l1, l2, l3, l4, l5, .int x, l7, l8] st h nx = Df d 34 127 [l0, l1, l2, l3, l4, l5, .int x, l7, l8] (.int x :: st) h nx := D_iload (ins_of mc_34 (pc := 125) (x := (.iload 6, 2)) (by decide +kernel)) rfl
theorem e_34_127 : Df d 34 127 [l0, l1, l2, l3, l4, l5, l6, l7, l8] st h nx = Df d 34 128 [l0, l1, l2, l3, l4, l5, l6, l7, l8] (.int 1 :: st) h nx := D_iconst (ins_of mc_34 (pc := 127) (x := (.iconst 1, 1)) (by decide +kernel)) (by decide)
theorem e_34_128 : Df d 34 128 [l0, l1, l2, l3, l4, l5, l6, l7, l8] (.int y :: .int x :: st) h nx = Df d 34 129 [l0, l1, l2, l3, l4, l5, l6, l7, l8] (.int (x - y) :: st) h nx := D_isub (ins_of mc_34 (pc := 128) (x := (.isub, 1)) (by decide +kernel))
theorem e_34_129 : Df d 34 129 [l0, l1, l2, l3, l4, l5, l6, l7, l8] (.int x :: .ref a :: st) h nx = (rX h a x).bind fun v => Df d 34 130 [l0, l1, l2, l3, l4, l5, l6, l7, l8] (.int v :: st) h nx := D_iaload (ins_of mc_34 (pc := 129) (x := (.iaload, 1)) (by decide +kernel))
theorem e_34_130 : Df d 34 130 [l0, l1, l2, l3, l4, l5, l6, l7, l8] (.int x :: st) h nx = if x = 0 then Df d 34 133 [l0, l1, l2, l3, l4, l5, l6, l7, l8] st h nx else Df d 34 137 [l0, l1, l2, l3, l4, l5, l6, l7, l8] st h nx := D_if_ne (ins_of mc_34 (pc := 130) (x := (.ifCond .ne 7, 3)) (by decide +kernel)) (by decide)
theorem e_34_133 : Df d 34 133 [l0, l1, l2, l3, l4, l5, l6, l7, l8] st h nx = Df d 34 134 [l0, l1, l2, l3, l4, l5, l6, l7, l8] (.int 1 :: st) h nx := D_iconst (ins_of mc_34 (pc := 133) (x := (.iconst 1, 1)) (by decide +kernel)) (by decide)
theorem e_34_134 : Df d 34 134 [l0, l1, l2, l3, l4, l5, l6, l7, l8] st h nx = Df d 34 138 [l0, l1, l2, l3, l4, l5, l6, l7, l8] st h nx := D_goto (ins_of mc_34 (pc := 134) (x := (.goto 4, 3)) (by decide +kernel)) (by decide)
theorem e_34_137 : Df d 34 137 [l0, l1, l2, l3, l4, l5, l6, l7, l8] st h nx = Df d 34 138 [l0, l1, l2, l3, l4, l5, l6, l7, l8] (.int 0 :: st) h nx := D_iconst (ins_of mc_34 (pc := 137) (x := (.iconst 0, 1)) (by decide +kernel)) (by decide)
theorem e_34_138 : Df d 34 138 [l0, l1, l2, l3, l4, l5, l6, l7, l8] (.int y :: .int x :: .ref a :: st) h nx = (wI h a x 0 y).bind fun h => Df d 34 139 [l0, l1, l2, l3, l4, l5, l6, l7, l8] st h nx := D_iastore (ins_of mc_34 (pc := 138) (x := (.iastore, 1)) (by decide +kernel))
theorem e_34_139 : Df d 34 139 [l0, l1, l2, l3, l4, l5, l6, l7, l8] st h nx = Df d 34 182 [l0, l1, l2, l3, l4, l5, l6, l7, l8] st h nx := D_goto (ins_of mc_34 (pc := 139) (x := (.goto 43, 3)) (by decide +kernel)) (by decide)
theorem e_34_142 : Df d 34 142 [l0, l1, l2, l3, l4, l5, .int x, l7, l8] st h nx = Df d 34 144 [l0, l1, l2, l3, l4, l5, .int x, l7, l8] (.int x :: st) h nx := D_iload (ins_of mc_34 (pc := 142) (x := (.iload 6, 2)) (by decide +kernel)) rfl
theorem e_34_144 : Df d 34 144 [l0, l1, l2, l3, l4, l5, l6, l7, l8] st h nx = Df d 34 145 [l0, l1, l2, l3, l4, l5, l6, l7, l8] (.int 2 :: st) h nx := D_iconst (ins_of mc_34 (pc := 144) (x := (.iconst 2, 1)) (by decide +kernel)) (by decide)
theorem e_34_145 : Df d 34 145 [l0, l1, l2, l3, l4, l5, l6, l7, l8] (.int y :: .int x :: st) h nx = if x < y then Df d 34 182 [l0, l1, l2, l3, l4, l5, l6, l7, l8] st h nx else Df d 34 148 [l0, l1, l2, l3, l4, l5, l6, l7, l8] st h nx := D_icmp_lt (ins_of mc_34 (pc := 145) (x := (.if_icmp .lt 37, 3)) (by decide +kernel)) (by decide)
theorem e_34_148 : Df d 34 148 [l0, l1, l2, l3, l4, l5, .int x, l7, l8] st h nx = Df d 34 151 [l0, l1, l2, l3, l4, l5, .int (x + (-1)), l7, l8] st h nx := D_iinc (ins_of mc_34 (pc := 148) (x := (.iinc 6 (-1), 3)) (by decide +kernel)) rfl (by decide) rfl
theorem e_34_151 : Df d 34 151 [.ref a, l1, l2, l3, l4, l5, l6, l7, l8] st h nx = Df d 34 152 [.ref a, l1, l2, l3, l4, l5, l6, l7, l8] (.ref a :: st) h nx := D_aload_n (ins_of mc_34 (pc := 151) (x := (.aload_n 0, 1)) (by decide +kernel)) rfl
theorem e_34_152 : Df d 34 152 [l0, l1, l2, l3, l4, l5, l6, l7, l8] (.ref a :: st) h nx = (gF h a 3 1).bind fun v => Df d 34 155 [l0, l1, l2, l3, l4, l5, l6, l7, l8] (v :: st) h nx := D_getfield (ins_of mc_34 (pc := 152) (x := (.getfield 17, 3)) (by decide +kernel)) mo_34 (by decide +kernel)
theorem e_34_155 : Df d 34 155 [l0, l1, l2, l3, l4, l5, .int x, l7, l8] st h nx = Df d 34 157 [l0, l1, l2, l3, l4, l5, .int x, l7, l8] (.int x :: st) h nx := D_iload (ins_of mc_34 (pc := 155) (x := (.iload 6, 2)) (by decide +kernel)) rfl
theorem e_34_157 : Df d 34 157 [l0, l1, l2, l3, l4, l5, l6, l7, l8] st h nx = Df d 34 158 [l0, l1, l2, l3, l4, l5, l6, l7, l8] (.int 1 :: st) h nx := D_iconst (ins_of mc_34 (pc := 157) (x := (.iconst 1, 1)) (by decide +kernel)) (by decide)
theorem e_34_158 : Df d 34 158 [l0, l1, l2, l3, l4, l5, l6, l7, l8] (.int y :: .int x :: st) h nx = Df d 34 159 [l0, l1, l2, l3, l4, l5, l6, l7, l8] (.int (x - y) :: st) h nx := D_isub (ins_of mc_34 (pc := 158) (x := (.isub, 1)) (by decide +kernel))
theorem e_34_159 : Df d 34 159 [l0, l1, l2, l3, l4, l5, l6, l7, .int x] st h nx = Df d 34 161 [l0, l1, l2, l3, l4, l5, l6, l7, .int x] (.int x :: st) h nx := D_iload (ins_of mc_34 (pc := 159) (x := (.iload 8, 2)) (by decide +kernel)) rfl
theorem e_34_161 : Df d 34 161 [l0, l1, l2, l3, l4, l5, l6, l7, l8] (.int x :: st) h nx = Df d 34 162 [l0, l1, l2, l3, l4, l5, l6, l7, l8] (.int (-x) :: st) h nx := D_ineg (ins_of mc_34 (pc := 161) (x := (.ineg, 1)) (by decide +kernel))
theorem e_34_162 : Df d 34 162 [.ref a, l1, l2, l3, l4, l5, l6, l7, l8] st h nx = Df d 34 163 [.ref a, l1, l2, l3, l4, l5, l6, l7, l8] (.ref a :: st) h nx := D_aload_n (ins_of mc_34 (pc := 162) (x := (.aload_n 0, 1)) (by decide +kernel)) rfl
theorem e_34_163 : Df d 34 163 [l0, l1, l2, l3, l4, l5, l6, l7, l8] (.ref a :: st) h nx = (gF h a 3 1).bind fun v => Df d 34 166 [l0, l1, l2, l3, l4, l5, l6, l7, l8] (v :: st) h nx := D_getfield (ins_of mc_34 (pc := 163) (x := (.getfield 17, 3)) (by decide +kernel)) mo_34 (by decide +kernel)
theorem e_34_166 : Df d 34 166 [l0, l1, l2, l3, l4, l5, .int x, l7, l8] st h nx = Df d 34 168 [l0, l1, l2, l3, l4, l5, .int x, l7, l8] (.int x :: st) h nx := D_iload (ins_of mc_34 (pc := 166) (x := (.iload 6, 2)) (by decide +kernel)) rfl
theorem e_34_168 : Df d 34 168 [l0, l1, l2, l3, l4, l5, l6, l7, l8] st h nx = Df d 34 169 [l0, l1, l2, l3, l4, l5, l6, l7, l8] (.int 1 :: st) h nx := D_iconst (ins_of mc_34 (pc := 168) (x := (.iconst 1, 1)) (by decide +kernel)) (by decide)
theorem e_34_169 : Df d 34 169 [l0, l1, l2, l3, l4, l5, l6, l7, l8] (.int y :: .int x :: st) h nx = Df d 34 170 [l0, l1, l2, l3, l4, l5, l6, l7, l8] (.int (x - y) :: st) h nx := D_isub (ins_of mc_34 (pc := 169) (x := (.isub, 1)) (by decide +kernel))
theorem e_34_170 : Df d 34 170 [l0, l1, l2, l3, l4, l5, l6, l7, l8] (.int x :: .ref a :: st) h nx = (rX h a x).bind fun v => Df d 34 171 [l0, l1, l2, l3, l4, l5, l6, l7, l8] (.int v :: st) h nx := D_iaload (ins_of mc_34 (pc := 170) (x := (.iaload, 1)) (by decide +kernel))
theorem e_34_171 : Df d 34 171 [.ref a, l1, l2, l3, l4, l5, l6, l7, l8] st h nx = Df d 34 172 [.ref a, l1, l2, l3, l4, l5, l6, l7, l8] (.ref a :: st) h nx := D_aload_n (ins_of mc_34 (pc := 171) (x := (.aload_n 0, 1)) (by decide +kernel)) rfl
theorem e_34_172 : Df d 34 172 [l0, l1, l2, l3, l4, l5, l6, l7, l8] (.ref a :: st) h nx = (gF h a 3 1).bind fun v => Df d 34 175 [l0, l1, l2, l3, l4, l5, l6, l7, l8] (v :: st) h nx := D_getfield (ins_of mc_34 (pc := 172) (x := (.getfield 17, 3)) (by decide +kernel)) mo_34 (by decide +kernel)
theorem e_34_175 : Df d 34 175 [l0, l1, l2, l3, l4, l5, .int x, l7, l8] st h nx = Df d 34 177 [l0, l1, l2, l3, l4, l5, .int x, l7, l8] (.int x :: st) h nx := D_iload (ins_of mc_34 (pc := 175) (x := (.iload 6, 2)) (by decide +kernel)) rfl
theorem e_34_177 : Df d 34 177 [l0, l1, l2, l3, l4, l5, l6, l7, l8] (.int x :: .ref a :: st) h nx = (rX h a x).bind fun v => Df d 34 178 [l0, l1, l2, l3, l4, l5, l6, l7, l8] (.int v :: st) h nx := D_iaload (ins_of mc_34 (pc := 177) (x := (.iaload, 1)) (by decide +kernel))
theorem e_34_178 : Df d 34 178 [l0, l1, l2, l3, l4, l5, l6, l7, l8] [v2, v1, v0, s0, s1] h nx = cn d 34 181 [l0, l1, l2, l3, l4, l5, l6, l7, l8] [s0, s1] (Dn d 36 [v0, v1, v2] h nx) := D_static (k1 := 36) (kd := 1) (ins_of mc_34 (pc := 178) (x := (.invokestatic 43, 3)) (by decide +kernel)) mo_34 (by decide +kernel) (by decide) rfl (Nat.le_of_ble_eq_true rfl) rfl (Nat.le_of_ble_eq_true rfl) rfl
theorem e_34_181 : Df d 34 181 [l0, l1, l2, l3, l4, l5, l6, l7, l8] (.int y :: .int x :: .ref a :: st) h nx = (wI h a x 0 y).bind fun h => Df d 34 182 [l0, l1, l2, l3, l4, l5, l6, l7, l8] st h nx := D_iastore (ins_of mc_34 (pc := 181) (x := (.iastore, 1)) (by decide +kernel))
theorem e_34_182 : Df d 34 182 [l0, l1, l2, l3, l4, l5, l6, .int x, l8] st h nx = Df d 34 185 [l0, l1, l2, l3, l4, l5, l6, .int (x + 1), l8] st h nx := D_iinc (ins_of mc_34 (pc := 182) (x := (.iinc 7 1, 3)) (by decide +kernel)) rfl (by decide) rfl
theorem e_34_185 : Df d 34 185 [l0, l1, l2, l3, l4, l5, l6, l7, l8] st h nx = Df d 34 26 [l0, l1, l2, l3, l4, l5, l6, l7, l8] st h nx := D_goto (ins_of mc_34 (pc := 185) (x := (.goto (-159), 3)) (by decide +kernel)) (by decide)
theorem e_34_188 : Df d 34 188 [l0, l1, l2, l3, l4, l5, .int x, l7, l8] st h nx = Df d 34 190 [l0, l1, l2, l3, l4, l5, .int x, l7, l8] (.int x :: st) h nx := D_iload (ins_of mc_34 (pc := 188) (x := (.iload 6, 2)) (by decide +kernel)) rfl
theorem e_34_190 : Df d 34 190 [l0, l1, l2, l3, l4, l5, l6, l7, l8] (.int x :: st) h nx = if x ≤ 0 then Df d 34 202 [l0, l1, l2, l3, l4, l5, l6, l7, l8] st h nx else Df d 34 193 [l0, l1, l2, l3, l4, l5, l6, l7, l8] st h nx := D_if_le (ins_of mc_34 (pc := 190) (x := (.ifCond .le 12, 3)) (by decide +kernel)) (by decide)
theorem e_34_193 : Df d 34 193 [.ref a, l1, l2, l3, l4, l5, l6, l7, l8] st h nx = Df d 34 194 [.ref a, l1, l2, l3, l4, l5, l6, l7, l8] (.ref a :: st) h nx := D_aload_n (ins_of mc_34 (pc := 193) (x := (.aload_n 0, 1)) (by decide +kernel)) rfl
theorem e_34_194 : Df d 34 194 [l0, l1, l2, l3, l4, l5, l6, l7, l8] (.ref a :: st) h nx = (gF h a 3 1).bind fun v => Df d 34 197 [l0, l1, l2, l3, l4, l5, l6, l7, l8] (v :: st) h nx := D_getfield (ins_of mc_34 (pc := 194) (x := (.getfield 17, 3)) (by decide +kernel)) mo_34 (by decide +kernel)
theorem e_34_197 : Df d 34 197 [l0, l1, l2, l3, l4, l5, l6, l7, l8] st h nx = Df d 34 198 [l0, l1, l2, l3, l4, l5, l6, l7, l8] (.int 0 :: st) h nx := D_iconst (ins_of mc_34 (pc := 197) (x := (.iconst 0, 1)) (by decide +kernel)) (by decide)
theorem e_34_198 : Df d 34 198 [l0, l1, l2, l3, l4, l5, l6, l7, l8] (.int x :: .ref a :: st) h nx = (rX h a x).bind fun v => Df d 34 199 [l0, l1, l2, l3, l4, l5, l6, l7, l8] (.int v :: st) h nx := D_iaload (ins_of mc_34 (pc := 198) (x := (.iaload, 1)) (by decide +kernel))
theorem e_34_199 : Df d 34 199 [l0, l1, l2, l3, l4, l5, l6, l7, l8] st h nx = Df d 34 203 [l0, l1, l2, l3, l4, l5, l6, l7, l8] st h nx := D_goto (ins_of mc_34 (pc := 199) (x := (.goto 4, 3)) (by decide +kernel)) (by decide)
theorem e_34_202 : Df d 34 202 [l0, l1, l2, l3, l4, l5, l6, l7, l8] st h nx = Df d 34 203 [l0, l1, l2, l3, l4, l5, l6, l7, l8] (.int 0 :: st) h nx := D_iconst (ins_of mc_34 (pc := 202) (x := (.iconst 0, 1)) (by decide +kernel)) (by decide)
theorem e_34_203 : Df d 34 203 [l0, l1, l2, l3, l4, l5, l6, l7, l8] [.int x] h nx = some (some (.int x), h, nx) := D_ireturn (ins_of mc_34 (pc := 203) (x := (.ireturn, 1)) (by decide +kernel)) mr_34
end EE
