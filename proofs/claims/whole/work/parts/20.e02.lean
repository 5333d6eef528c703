section EE
variable {d : Nat} {l0 l1 l2 l3 l4 l5 l6 l7 l8 l9 l10 l11 : Value} {st : List Value} {h : AH} {nx : AN} {x y z : Int32} {xl yl : Int64} {a b : Nat} {s0 s1 s2 s3 s4 s5 v0 v1 v2 v3 v4 v5 : Value}
theorem mc_71 : mC 71 = prog_1_method_1_code := rfl
theorem mo_71 : mO 71 = 8 := rfl
theorem ml_71 : mL 71 = 2 := rfl
theorem mr_71 : mR 71 = none := rfl
theorem ma_71 : mA 71 = 0 := rfl
theorem e_71_0 : Df d 71 0 [.ref a, l1] st h nx = Df d 71 1 [.ref a, l1] (.ref a :: st) h nx := D_aload_n (ins_of mc_71 (pc := 0) (x := (.aload_n 0, 1)) (by decide +kernel)) rfl
theorem e_71_1 : Df d 71 1 [l0, l1] [.ref a] h nx = Df d 71 4 [l0, l1] [] h nx := D_objinit (k1 := 0) (ins_of mc_71 (pc := 1) (x := (.invokespecial 3, 3)) (by decide +kernel)) mo_71 (by decide +kernel) (Nat.le_of_ble_eq_true rfl)
theorem e_71_4 : Df d 71 4 [.ref a, l1] st h nx = Df d 71 5 [.ref a, l1] (.ref a :: st) h nx := D_aload_n (ins_of mc_71 (pc := 4) (x := (.aload_n 0, 1)) (by decide +kernel)) rfl
theorem e_71_5 : Df d 71 5 [l0, l1] st h nx = Df d 71 8 [l0, l1] (.ref (16 + nx.1) :: st) (put h (16 + nx.1) (.inr (1, dfl 1))) (nx.1 + 1, nx.2 + 13) := D_new (ins_of mc_71 (pc := 5) (x := (.new 9, 3)) (by decide +kernel)) mo_71 (by decide +kernel)
theorem e_71_8 (hv : v0.category = 1) : Df d 71 8 [l0, l1] (v0 :: st) h nx = Df d 71 9 [l0, l1] (v0 :: v0 :: st) h nx := D_dup (ins_of mc_71 (pc := 8) (x := (.dup, 1)) (by decide +kernel)) hv
theorem e_71_9 : Df d 71 9 [l0, l1] [.ref a, s0, s1] h nx = cn d 71 12 [l0, l1] [s0, s1] (Dn d 4 [.ref a] h nx) := D_special (k1 := 4) (kd := 3) (ins_of mc_71 (pc := 9) (x := (.invokespecial 11, 3)) (by decide +kernel)) mo_71 (by decide +kernel) (by decide) rfl rfl (Nat.le_of_ble_eq_true rfl) rfl
theorem e_71_12 : Df d 71 12 [l0, l1] (.ref b :: .ref a :: st) h nx = (pF h a 8 0 (.ref b)).bind fun h => Df d 71 15 [l0, l1] st h nx := D_putfield (ins_of mc_71 (pc := 12) (x := (.putfield 12, 3)) (by decide +kernel)) mo_71 (by decide +kernel) rfl (Or.inr ⟨by decide +kernel, rfl⟩)
theorem e_71_15 : Df d 71 15 [.ref a, l1] st h nx = Df d 71 16 [.ref a, l1] (.ref a :: st) h nx := D_aload_n (ins_of mc_71 (pc := 15) (x := (.aload_n 0, 1)) (by decide +kernel)) rfl
theorem e_71_16 : Df d 71 16 [l0, l1] st h nx = Df d 71 19 [l0, l1] (.ref (16 + nx.1) :: st) (put h (16 + nx.1) (.inr (1, dfl 1))) (nx.1 + 1, nx.2 + 13) := D_new (ins_of mc_71 (pc := 16) (x := (.new 9, 3)) (by decide +kernel)) mo_71 (by decide +kernel)
theorem e_71_19 (hv : v0.category = 1) : Df d 71 19 [l0, l1] (v0 :: st) h nx = Df d 71 20 [l0, l1] (v0 :: v0 :: st) h nx := D_dup (ins_of mc_71 (pc := 19) (x := (.dup, 1)) (by decide +kernel)) hv
theorem e_71_20 : Df d 71 20 [l0, l1] [.ref a, s0, s1] h nx = cn d 71 23 [l0, l1] [s0, s1] (Dn d 4 [.ref a] h nx) := D_special (k1 := 4) (kd := 3) (ins_of mc_71 (pc := 20) (x := (.invokespecial 11, 3)) (by decide +kernel)) mo_71 (by decide +kernel) (by decide) rfl rfl (Nat.le_of_ble_eq_true rfl) rfl
theorem e_71_23 : Df d 71 23 [l0, l1] (.ref b :: .ref a :: st) h nx = (pF h a 8 1 (.ref b)).bind fun h => Df d 71 26 [l0, l1] st h nx := D_putfield (ins_of mc_71 (pc := 23) (x := (.putfield 16, 3)) (by decide +kernel)) mo_71 (by decide +kernel) rfl (Or.inr ⟨by decide +kernel, rfl⟩)
theorem e_71_26 : Df d 71 26 [.ref a, l1] st h nx = Df d 71 27 [.ref a, l1] (.ref a :: st) h nx := D_aload_n (ins_of mc_71 (pc := 26) (x := (.aload_n 0, 1)) (by decide +kernel)) rfl
theorem e_71_27 : Df d 71 27 [l0, l1] st h nx = Df d 71 30 [l0, l1] (.ref (16 + nx.1) :: st) (put h (16 + nx.1) (.inr (1, dfl 1))) (nx.1 + 1, nx.2 + 13) := D_new (ins_of mc_71 (pc := 27) (x := (.new 9, 3)) (by decide +kernel)) mo_71 (by decide +kernel)
theorem e_71_30 (hv : v0.category = 1) : Df d 71 30 [l0, l1] (v0 :: st) h nx = Df d 71 31 [l0, l1] (v0 :: v0 :: st) h nx := D_dup (ins_of mc_71 (pc := 30) (x := (.dup, 1)) (by decide +kernel)) hv
theorem e_71_31 : Df d 71 31 [l0, l1] [.ref a, s0, s1] h nx = cn d 71 34 [l0, l1] [s0, s1] (Dn d 4 [.ref a] h nx) := D_special (k1 := 4) (kd := 3) (ins_of mc_71 (pc := 31) (x := (.invokespecial 11, 3)) (by decide +kernel)) mo_71 (by decide +kernel) (by decide) rfl rfl (Nat.le_of_ble_eq_true rfl) rfl
theorem e_71_34 : Df d 71 34 [l0, l1] (.ref b :: .ref a :: st) h nx = (pF h a 8 2 (.ref b)).bind fun h => Df d 71 37 [l0, l1] st h nx := D_putfield (ins_of mc_71 (pc := 34) (x := (.putfield 19, 3)) (by decide +kernel)) mo_71 (by decide +kernel) rfl (Or.inr ⟨by decide +kernel, rfl⟩)
theorem e_71_37 : Df d 71 37 [.ref a, l1] st h nx = Df d 71 38 [.ref a, l1] (.ref a :: st) h nx := D_aload_n (ins_of mc_71 (pc := 37) (x := (.aload_n 0, 1)) (by decide +kernel)) rfl
theorem e_71_38 : Df d 71 38 [l0, l1] st h nx = Df d 71 41 [l0, l1] (.ref (16 + nx.1) :: st) (put h (16 + nx.1) (.inr (0, dfl 0))) (nx.1 + 1, nx.2 + 2) := D_new (ins_of mc_71 (pc := 38) (x := (.new 22, 3)) (by decide +kernel)) mo_71 (by decide +kernel)
theorem e_71_41 (hv : v0.category = 1) : Df d 71 41 [l0, l1] (v0 :: st) h nx = Df d 71 42 [l0, l1] (v0 :: v0 :: st) h nx := D_dup (ins_of mc_71 (pc := 41) (x := (.dup, 1)) (by decide +kernel)) hv
theorem e_71_42 : Df d 71 42 [l0, l1] [.ref a, s0, s1] h nx = cn d 71 45 [l0, l1] [s0, s1] (Dn d 0 [.ref a] h nx) := D_special (k1 := 0) (kd := 4) (ins_of mc_71 (pc := 42) (x := (.invokespecial 24, 3)) (by decide +kernel)) mo_71 (by decide +kernel) (by decide) rfl rfl (Nat.le_of_ble_eq_true rfl) rfl
theorem e_71_45 : Df d 71 45 [l0, l1] (.ref b :: .ref a :: st) h nx = (pF h a 8 3 (.ref b)).bind fun h => Df d 71 48 [l0, l1] st h nx := D_putfield (ins_of mc_71 (pc := 45) (x := (.putfield 25, 3)) (by decide +kernel)) mo_71 (by decide +kernel) rfl (Or.inr ⟨by decide +kernel, rfl⟩)
theorem e_71_48 : Df d 71 48 [.ref a, l1] st h nx = Df d 71 49 [.ref a, l1] (.ref a :: st) h nx := D_aload_n (ins_of mc_71 (pc := 48) (x := (.aload_n 0, 1)) (by decide +kernel)) rfl
theorem e_71_49 : Df d 71 49 [l0, l1] st h nx = Df d 71 52 [l0, l1] (.ref (16 + nx.1) :: st) (put h (16 + nx.1) (.inr (3, dfl 3))) (nx.1 + 1, nx.2 + 2) := D_new (ins_of mc_71 (pc := 49) (x := (.new 29, 3)) (by decide +kernel)) mo_71 (by decide +kernel)
theorem e_71_52 (hv : v0.category = 1) : Df d 71 52 [l0, l1] (v0 :: st) h nx = Df d 71 53 [l0, l1] (v0 :: v0 :: st) h nx := D_dup (ins_of mc_71 (pc := 52) (x := (.dup, 1)) (by decide +kernel)) hv
theorem e_71_53 : Df d 71 53 [l0, l1] [.ref a, s0, s1] h nx = cn d 71 56 [l0, l1] [s0, s1] (Dn d 32 [.ref a] h nx) := D_special (k1 := 32) (kd := 3) (ins_of mc_71 (pc := 53) (x := (.invokespecial 31, 3)) (by decide +kernel)) mo_71 (by decide +kernel) (by decide) rfl rfl (Nat.le_of_ble_eq_true rfl) rfl
theorem e_71_56 : Df d 71 56 [l0, l1] (.ref b :: .ref a :: st) h nx = (pF h a 8 4 (.ref b)).bind fun h => Df d 71 59 [l0, l1] st h nx := D_putfield (ins_of mc_71 (pc := 56) (x := (.putfield 32, 3)) (by decide +kernel)) mo_71 (by decide +kernel) rfl (Or.inr ⟨by decide +kernel, rfl⟩)
theorem e_71_59 : Df d 71 59 [.ref a, l1] st h nx = Df d 71 60 [.ref a, l1] (.ref a :: st) h nx := D_aload_n (ins_of mc_71 (pc := 59) (x := (.aload_n 0, 1)) (by decide +kernel)) rfl
theorem e_71_60 : Df d 71 60 [l0, l1] st h nx = Df d 71 63 [l0, l1] (.ref (16 + nx.1) :: st) (put h (16 + nx.1) (.inr (4, dfl 4))) (nx.1 + 1, nx.2 + 6) := D_new (ins_of mc_71 (pc := 60) (x := (.new 36, 3)) (by decide +kernel)) mo_71 (by decide +kernel)
theorem e_71_63 (hv : v0.category = 1) : Df d 71 63 [l0, l1] (v0 :: st) h nx = Df d 71 64 [l0, l1] (v0 :: v0 :: st) h nx := D_dup (ins_of mc_71 (pc := 63) (x := (.dup, 1)) (by decide +kernel)) hv
theorem e_71_64 : Df d 71 64 [l0, l1] [.ref a, s0, s1] h nx = cn d 71 67 [l0, l1] [s0, s1] (Dn d 37 [.ref a] h nx) := D_special (k1 := 37) (kd := 4) (ins_of mc_71 (pc := 64) (x := (.invokespecial 38, 3)) (by decide +kernel)) mo_71 (by decide +kernel) (by decide) rfl rfl (Nat.le_of_ble_eq_true rfl) rfl
theorem e_71_67 : Df d 71 67 [l0, l1] (.ref b :: .ref a :: st) h nx = (pF h a 8 5 (.ref b)).bind fun h => Df d 71 70 [l0, l1] st h nx := D_putfield (ins_of mc_71 (pc := 67) (x := (.putfield 39, 3)) (by decide +kernel)) mo_71 (by decide +kernel) rfl (Or.inr ⟨by decide +kernel, rfl⟩)
theorem e_71_70 : Df d 71 70 [.ref a, l1] st h nx = Df d 71 71 [.ref a, l1] (.ref a :: st) h nx := D_aload_n (ins_of mc_71 (pc := 70) (x := (.aload_n 0, 1)) (by decide +kernel)) rfl
theorem e_71_71 : Df d 71 71 [l0, l1] st h nx = Df d 71 72 [l0, l1] (.int 4 :: st) h nx := D_iconst (ins_of mc_71 (pc := 71) (x := (.iconst 4, 1)) (by decide +kernel)) (by decide)
theorem e_71_72 : Df d 71 72 [l0, l1] (.int x :: st) h nx = if x < 0 ∨ 10000 < x.toNatClampNeg then none else Df d 71 75 [l0, l1] (.ref (16 + nx.1) :: st) (put h (16 + nx.1) (.inl (5, x.toNatClampNeg, .inr (.inr (.inr (.inr fun _ => none)))))) (nx.1 + 1, nx.2 + x.toNatClampNeg) := D_anewarray (ci := 5) (ins_of mc_71 (pc := 72) (x := (.anewarray 43, 3)) (by decide +kernel)) mo_71 (by decide +kernel) rfl (by decide)
theorem e_71_75 : Df d 71 75 [l0, l1] (.ref b :: .ref a :: st) h nx = (pF h a 8 6 (.ref b)).bind fun h => Df d 71 78 [l0, l1] st h nx := D_putfield (ins_of mc_71 (pc := 75) (x := (.putfield 45, 3)) (by decide +kernel)) mo_71 (by decide +kernel) rfl (Or.inr ⟨by decide +kernel, rfl⟩)
theorem e_71_78 : Df d 71 78 [.ref a, l1] st h nx = Df d 71 79 [.ref a, l1] (.ref a :: st) h nx := D_aload_n (ins_of mc_71 (pc := 78) (x := (.aload_n 0, 1)) (by decide +kernel)) rfl
theorem e_71_79 : Df d 71 79 [l0, l1] st h nx = Df d 71 80 [l0, l1] (.int 5 :: st) h nx := D_iconst (ins_of mc_71 (pc := 79) (x := (.iconst 5, 1)) (by decide +kernel)) (by decide)
theorem e_71_80 : Df d 71 80 [l0, l1] (.int x :: st) h nx = if x < 0 ∨ 10000 < x.toNatClampNeg then none else Df d 71 83 [l0, l1] (.ref (16 + nx.1) :: st) (put h (16 + nx.1) (.inl (6, x.toNatClampNeg, .inr (.inr (.inr (.inr fun _ => none)))))) (nx.1 + 1, nx.2 + x.toNatClampNeg) := D_anewarray (ci := 6) (ins_of mc_71 (pc := 80) (x := (.anewarray 49, 3)) (by decide +kernel)) mo_71 (by decide +kernel) rfl (by decide)
theorem e_71_83 : Df d 71 83 [l0, l1] (.ref b :: .ref a :: st) h nx = (pF h a 8 7 (.ref b)).bind fun h => Df d 71 86 [l0, l1] st h nx := D_putfield (ins_of mc_71 (pc := 83) (x := (.putfield 51, 3)) (by decide +kernel)) mo_71 (by decide +kernel) rfl (Or.inr ⟨by decide +kernel, rfl⟩)
theorem e_71_86 : Df d 71 86 [.ref a, l1] st h nx = Df d 71 87 [.ref a, l1] (.ref a :: st) h nx := D_aload_n (ins_of mc_71 (pc := 86) (x := (.aload_n 0, 1)) (by decide +kernel)) rfl
theorem e_71_87 : Df d 71 87 [l0, l1] st h nx = Df d 71 89 [l0, l1] (.int 60 :: st) h nx := D_bipush (ins_of mc_71 (pc := 87) (x := (.bipush 60, 2)) (by decide +kernel)) (by decide)
theorem e_71_89 : Df d 71 89 [l0, l1] (.int x :: st) h nx = if x < 0 ∨ 10000 < x.toNatClampNeg then none else Df d 71 91 [l0, l1] (.ref (16 + nx.1) :: st) (put h (16 + nx.1) (.inl (0, x.toNatClampNeg, .inl fun _ => 0))) (nx.1 + 1, nx.2 + x.toNatClampNeg) := D_newint (ins_of mc_71 (pc := 89) (x := (.newarray .int, 2)) (by decide +kernel))
theorem e_71_91 : Df d 71 91 [l0, l1] (.ref b :: .ref a :: st) h nx = (pF h a 8 8 (.ref b)).bind fun h => Df d 71 94 [l0, l1] st h nx := D_putfield (ins_of mc_71 (pc := 91) (x := (.putfield 55, 3)) (by decide +kernel)) mo_71 (by decide +kernel) rfl (Or.inr ⟨by decide +kernel, rfl⟩)
theorem e_71_94 : Df d 71 94 [.ref a, l1] st h nx = Df d 71 95 [.ref a, l1] (.ref a :: st) h nx := D_aload_n (ins_of mc_71 (pc := 94) (x := (.aload_n 0, 1)) (by decide +kernel)) rfl
theorem e_71_95 : Df d 71 95 [l0, l1] st h nx = Df d 71 96 [l0, l1] (.int 0 :: st) h nx := D_iconst (ins_of mc_71 (pc := 95) (x := (.iconst 0, 1)) (by decide +kernel)) (by decide)
theorem e_71_96 : Df d 71 96 [l0, l1] (.int x :: .ref a :: st) h nx = (pF h a 8 9 (.int x)).bind fun h => Df d 71 99 [l0, l1] st h nx := D_putfield (ins_of mc_71 (pc := 96) (x := (.putfield 59, 3)) (by decide +kernel)) mo_71 (by decide +kernel) rfl (Or.inl rfl)
theorem e_71_99 : Df d 71 99 [.ref a, l1] st h nx = Df d 71 100 [.ref a, l1] (.ref a :: st) h nx := D_aload_n (ins_of mc_71 (pc := 99) (x := (.aload_n 0, 1)) (by decide +kernel)) rfl
theorem e_71_100 : Df d 71 100 [l0, l1] st h nx = Df d 71 101 [l0, l1] (.int 0 :: st) h nx := D_iconst (ins_of mc_71 (pc := 100) (x := (.iconst 0, 1)) (by decide +kernel)) (by decide)
theorem e_71_101 : Df d 71 101 [l0, l1] (.int x :: .ref a :: st) h nx = if x = 0 ∨ x = 1 then (pF h a 8 10 (.int x)).bind fun h => Df d 71 104 [l0, l1] st h nx else none := D_putbool (ins_of mc_71 (pc := 101) (x := (.putfield 63, 3)) (by decide +kernel)) mo_71 (by decide +kernel) rfl (Or.inl rfl)
theorem e_71_104 : Df d 71 104 [l0, l1] st h nx = Df d 71 105 [l0, l1] (.int 0 :: st) h nx := D_iconst (ins_of mc_71 (pc := 104) (x := (.iconst 0, 1)) (by decide +kernel)) (by decide)
theorem e_71_105 (hn : nr l1 = true) : Df d 71 105 [l0, l1] (.int x :: st) h nx = Df d 71 106 [l0, .int x] st h nx := D_istore_n (ins_of mc_71 (pc := 105) (x := (.istore_n 1, 1)) (by decide +kernel)) rfl hn rfl
theorem e_71_106 : Df d 71 106 [l0, .int x] st h nx = Df d 71 107 [l0, .int x] (.int x :: st) h nx := D_iload_n (ins_of mc_71 (pc := 106) (x := (.iload_n 1, 1)) (by decide +kernel)) rfl
theorem e_71_107 : Df d 71 107 [l0, l1] st h nx = Df d 71 108 [l0, l1] (.int 4 :: st) h nx := D_iconst (ins_of mc_71 (pc := 107) (x := (.iconst 4, 1)) (by decide +kernel)) (by decide)
theorem e_71_108 : Df d 71 108 [l0, l1] (.int y :: .int x :: st) h nx = if y ≤ x then Df d 71 130 [l0, l1] st h nx else Df d 71 111 [l0, l1] st h nx := D_icmp_ge (ins_of mc_71 (pc := 108) (x := (.if_icmp .ge 22, 3)) (by decide +kernel)) (by decide)
theorem e_71_111 : Df d 71 111 [.ref a, l1] st h nx = Df d 71 112 [.ref a, l1] (.ref a :: st) h nx := D_aload_n (ins_of mc_71 (pc := 111) (x := (.aload_n 0, 1)) (by decide +kernel)) rfl
theorem e_71_112 : Df d 71 112 [l0, l1] (.ref a :: st) h nx = (gF h a 8 6).bind fun v => Df d 71 115 [l0, l1] (v :: st) h nx := D_getfield (ins_of mc_71 (pc := 112) (x := (.getfield 45, 3)) (by decide +kernel)) mo_71 (by decide +kernel)
theorem e_71_115 : Df d 71 115 [l0, .int x] st h nx = Df d 71 116 [l0, .int x] (.int x :: st) h nx := D_iload_n (ins_of mc_71 (pc := 115) (x := (.iload_n 1, 1)) (by decide +kernel)) rfl
theorem e_71_116 : Df d 71 116 [l0, l1] st h nx = Df d 71 119 [l0, l1] (.ref (16 + nx.1) :: st) (put h (16 + nx.1) (.inr (5, dfl 5))) (nx.1 + 1, nx.2 + 3) := D_new (ins_of mc_71 (pc := 116) (x := (.new 43, 3)) (by decide +kernel)) mo_71 (by decide +kernel)
theorem e_71_119 (hv : v0.category = 1) : Df d 71 119 [l0, l1] (v0 :: st) h nx = Df d 71 120 [l0, l1] (v0 :: v0 :: st) h nx := D_dup (ins_of mc_71 (pc := 119) (x := (.dup, 1)) (by decide +kernel)) hv
theorem e_71_120 : Df d 71 120 [l0, l1] [.ref a, s0, s1, s2] h nx = cn d 71 123 [l0, l1] [s0, s1, s2] (Dn d 55 [.ref a] h nx) := D_special (k1 := 55) (kd := 4) (ins_of mc_71 (pc := 120) (x := (.invokespecial 67, 3)) (by decide +kernel)) mo_71 (by decide +kernel) (by decide) rfl rfl (Nat.le_of_ble_eq_true rfl) rfl
theorem e_71_123 : Df d 71 123 [l0, l1] (.ref b :: .int x :: .ref a :: st) h nx = (wR h a x b).bind fun h => Df d 71 124 [l0, l1] st h nx := D_aastore (ins_of mc_71 (pc := 123) (x := (.aastore, 1)) (by decide +kernel))
theorem e_71_124 : Df d 71 124 [l0, .int x] st h nx = Df d 71 127 [l0, .int (x + 1)] st h nx := D_iinc (ins_of mc_71 (pc := 124) (x := (.iinc 1 1, 3)) (by decide +kernel)) rfl (by decide) rfl
theorem e_71_127 : Df d 71 127 [l0, l1] st h nx = Df d 71 106 [l0, l1] st h nx := D_goto (ins_of mc_71 (pc := 127) (x := (.goto (-21), 3)) (by decide +kernel)) (by decide)
theorem e_71_130 : Df d 71 130 [l0, l1] st h nx = Df d 71 131 [l0, l1] (.int 0 :: st) h nx := D_iconst (ins_of mc_71 (pc := 130) (x := (.iconst 0, 1)) (by decide +kernel)) (by decide)
theorem e_71_131 (hn : nr l1 = true) : Df d 71 131 [l0, l1] (.int x :: st) h nx = Df d 71 132 [l0, .int x] st h nx := D_istore_n (ins_of mc_71 (pc := 131) (x := (.istore_n 1, 1)) (by decide +kernel)) rfl hn rfl
theorem e_71_132 : Df d 71 132 [l0, .int x] st h nx = Df d 71 133 [l0, .int x] (.int x :: st) h nx := D_iload_n (ins_of mc_71 (pc := 132) (x := (.iload_n 1, 1)) (by decide +kernel)) rfl
theorem e_71_133 : Df d 71 133 [l0, l1] st h nx = Df d 71 134 [l0, l1] (.int 5 :: st) h nx := D_iconst (ins_of mc_71 (pc := 133) (x := (.iconst 5, 1)) (by decide +kernel)) (by decide)
theorem e_71_134 : Df d 71 134 [l0, l1] (.int y :: .int x :: st) h nx = if y ≤ x then Df d 71 156 [l0, l1] st h nx else Df d 71 137 [l0, l1] st h nx := D_icmp_ge (ins_of mc_71 (pc := 134) (x := (.if_icmp .ge 22, 3)) (by decide +kernel)) (by decide)
theorem e_71_137 : Df d 71 137 [.ref a, l1] st h nx = Df d 71 138 [.ref a, l1] (.ref a :: st) h nx := D_aload_n (ins_of mc_71 (pc := 137) (x := (.aload_n 0, 1)) (by decide +kernel)) rfl
theorem e_71_138 : Df d 71 138 [l0, l1] (.ref a :: st) h nx = (gF h a 8 7).bind fun v => Df d 71 141 [l0, l1] (v :: st) h nx := D_getfield (ins_of mc_71 (pc := 138) (x := (.getfield 51, 3)) (by decide +kernel)) mo_71 (by decide +kernel)
theorem e_71_141 : Df d 71 141 [l0, .int x] st h nx = Df d 71 142 [l0, .int x] (.int x :: st) h nx := D_iload_n (ins_of mc_71 (pc := 141) (x := (.iload_n 1, 1)) (by decide +kernel)) rfl
theorem e_71_142 : Df d 71 142 [l0, l1] st h nx = Df d 71 145 [l0, l1] (.ref (16 + nx.1) :: st) (put h (16 + nx.1) (.inr (6, dfl 6))) (nx.1 + 1, nx.2 + 4) := D_new (ins_of mc_71 (pc := 142) (x := (.new 49, 3)) (by decide +kernel)) mo_71 (by decide +kernel)
theorem e_71_145 (hv : v0.category = 1) : Df d 71 145 [l0, l1] (v0 :: st) h nx = Df d 71 146 [l0, l1] (v0 :: v0 :: st) h nx := D_dup (ins_of mc_71 (pc := 145) (x := (.dup, 1)) (by decide +kernel)) hv
theorem e_71_146 : Df d 71 146 [l0, l1] [.ref a, s0, s1, s2] h nx = cn d 71 149 [l0, l1] [s0, s1, s2] (Dn d 61 [.ref a] h nx) := D_special (k1 := 61) (kd := 4) (ins_of mc_71 (pc := 146) (x := (.invokespecial 68, 3)) (by decide +kernel)) mo_71 (by decide +kernel) (by decide) rfl rfl (Nat.le_of_ble_eq_true rfl) rfl
theorem e_71_149 : Df d 71 149 [l0, l1] (.ref b :: .int x :: .ref a :: st) h nx = (wR h a x b).bind fun h => Df d 71 150 [l0, l1] st h nx := D_aastore (ins_of mc_71 (pc := 149) (x := (.aastore, 1)) (by decide +kernel))
theorem e_71_150 : Df d 71 150 [l0, .int x] st h nx = Df d 71 153 [l0, .int (x + 1)] st h nx := D_iinc (ins_of mc_71 (pc := 150) (x := (.iinc 1 1, 3)) (by decide +kernel)) rfl (by decide) rfl
theorem e_71_153 : Df d 71 153 [l0, l1] st h nx = Df d 71 132 [l0, l1] st h nx := D_goto (ins_of mc_71 (pc := 153) (x := (.goto (-21), 3)) (by decide +kernel)) (by decide)
theorem e_71_156 : Df d 71 156 [l0, l1] [] h nx = some (none, h, nx) := D_return (ins_of mc_71 (pc := 156) (x := (.return_, 1)) (by decide +kernel)) mr_71
theorem mc_72 : mC 72 = prog_1_method_2_code := rfl
theorem mo_72 : mO 72 = 8 := rfl
theorem ml_72 : mL 72 = 4 := rfl
theorem mr_72 : mR 72 = (some .int) := rfl
theorem ma_72 : mA 72 = 3 := rfl
theorem e_72_0 : Df d 72 0 [l0, .int x, l2, l3] st h nx = Df d 72 1 [l0, .int x, l2, l3] (.int x :: st) h nx := D_iload_n (ins_of mc_72 (pc := 0) (x := (.iload_n 1, 1)) (by decide +kernel)) rfl
theorem e_72_1 : Df d 72 1 [l0, l1, l2, l3] [v0] h nx = cn d 72 4 [l0, l1, l2, l3] [] (Dn d 73 [v0] h nx) := D_static (k1 := 73) (kd := 1) (ins_of mc_72 (pc := 1) (x := (.invokestatic 69, 3)) (by decide +kernel)) mo_72 (by decide +kernel) (by decide) rfl (Nat.le_of_ble_eq_true rfl) rfl (Nat.le_of_ble_eq_true rfl) rfl
theorem e_72_4 : Df d 72 4 [l0, l1, l2, l3] (.int x :: st) h nx = if x = 0 then Df d 72 27 [l0, l1, l2, l3] st h nx else Df d 72 7 [l0, l1, l2, l3] st h nx := D_if_eq (ins_of mc_72 (pc := 4) (x := (.ifCond .eq 23, 3)) (by decide +kernel)) (by decide)
theorem e_72_7 : Df d 72 7 [l0, l1, .int x, l3] st h nx = Df d 72 8 [l0, l1, .int x, l3] (.int x :: st) h nx := D_iload_n (ins_of mc_72 (pc := 7) (x := (.iload_n 2, 1)) (by decide +kernel)) rfl
theorem e_72_8 : Df d 72 8 [l0, l1, l2, l3] st h nx = Df d 72 9 [l0, l1, l2, l3] (.int 0 :: st) h nx := D_iconst (ins_of mc_72 (pc := 8) (x := (.iconst 0, 1)) (by decide +kernel)) (by decide)
theorem e_72_9 : Df d 72 9 [l0, l1, l2, l3] st h nx = Df d 72 11 [l0, l1, l2, l3] (.int 30 :: st) h nx := D_bipush (ins_of mc_72 (pc := 9) (x := (.bipush 30, 2)) (by decide +kernel)) (by decide)
theorem e_72_11 : Df d 72 11 [l0, l1, l2, l3] [v2, v1, v0] h nx = cn d 72 14 [l0, l1, l2, l3] [] (Dn d 74 [v0, v1, v2] h nx) := D_static (k1 := 74) (kd := 1) (ins_of mc_72 (pc := 11) (x := (.invokestatic 73, 3)) (by decide +kernel)) mo_72 (by decide +kernel) (by decide) rfl (Nat.le_of_ble_eq_true rfl) rfl (Nat.le_of_ble_eq_true rfl) rfl
theorem e_72_14 : Df d 72 14 [l0, l1, l2, l3] (.int x :: st) h nx = if x = 0 then Df d 72 27 [l0, l1, l2, l3] st h nx else Df d 72 17 [l0, l1, l2, l3] st h nx := D_if_eq (ins_of mc_72 (pc := 14) (x := (.ifCond .eq 13, 3)) (by decide +kernel)) (by decide)
theorem e_72_17 : Df d 72 17 [l0, l1, l2, .int x] st h nx = Df d 72 18 [l0, l1, l2, .int x] (.int x :: st) h nx := D_iload_n (ins_of mc_72 (pc := 17) (x := (.iload_n 3, 1)) (by decide +kernel)) rfl
theorem e_72_18 : Df d 72 18 [l0, l1, l2, l3] st h nx = Df d 72 19 [l0, l1, l2, l3] (.int 0 :: st) h nx := D_iconst (ins_of mc_72 (pc := 18) (x := (.iconst 0, 1)) (by decide +kernel)) (by decide)
theorem e_72_19 : Df d 72 19 [l0, l1, l2, l3] st h nx = Df d 72 21 [l0, l1, l2, l3] (.int 24 :: st) h nx := D_bipush (ins_of mc_72 (pc := 19) (x := (.bipush 24, 2)) (by decide +kernel)) (by decide)
theorem e_72_21 : Df d 72 21 [l0, l1, l2, l3] [v2, v1, v0] h nx = cn d 72 24 [l0, l1, l2, l3] [] (Dn d 74 [v0, v1, v2] h nx) := D_static (k1 := 74) (kd := 1) (ins_of mc_72 (pc := 21) (x := (.invokestatic 73, 3)) (by decide +kernel)) mo_72 (by decide +kernel) (by decide) rfl (Nat.le_of_ble_eq_true rfl) rfl (Nat.le_of_ble_eq_true rfl) rfl
theorem e_72_24 : Df d 72 24 [l0, l1, l2, l3] (.int x :: st) h nx = if x = 0 then Df d 72 27 [l0, l1, l2, l3] st h nx else Df d 72 30 [l0, l1, l2, l3] st h nx := D_if_ne (ins_of mc_72 (pc := 24) (x := (.ifCond .ne 6, 3)) (by decide +kernel)) (by decide)
theorem e_72_27 : Df d 72 27 [l0, l1, l2, l3] st h nx = Df d 72 29 [l0, l1, l2, l3] (.int (-1000000001) :: st) h nx := D_ldc (ins_of mc_72 (pc := 27) (x := (.ldc 77, 2)) (by decide +kernel)) mo_72 (by decide +kernel)
theorem e_72_29 : Df d 72 29 [l0, l1, l2, l3] [.int x] h nx = some (some (.int x), h, nx) := D_ireturn (ins_of mc_72 (pc := 29) (x := (.ireturn, 1)) (by decide +kernel)) mr_72
theorem e_72_30 : Df d 72 30 [.ref a, l1, l2, l3] st h nx = Df d 72 31 [.ref a, l1, l2, l3] (.ref a :: st) h nx := D_aload_n (ins_of mc_72 (pc := 30) (x := (.aload_n 0, 1)) (by decide +kernel)) rfl
theorem e_72_31 : Df d 72 31 [l0, l1, l2, l3] (.ref a :: st) h nx = (gF h a 8 0).bind fun v => Df d 72 34 [l0, l1, l2, l3] (v :: st) h nx := D_getfield (ins_of mc_72 (pc := 31) (x := (.getfield 12, 3)) (by decide +kernel)) mo_72 (by decide +kernel)
theorem e_72_34 : Df d 72 34 [l0, .int x, l2, l3] st h nx = Df d 72 35 [l0, .int x, l2, l3] (.int x :: st) h nx := D_iload_n (ins_of mc_72 (pc := 34) (x := (.iload_n 1, 1)) (by decide +kernel)) rfl
theorem e_72_35 : Df d 72 35 [l0, l1, .int x, l3] st h nx = Df d 72 36 [l0, l1, .int x, l3] (.int x :: st) h nx := D_iload_n (ins_of mc_72 (pc := 35) (x := (.iload_n 2, 1)) (by decide +kernel)) rfl
theorem e_72_36 : Df d 72 36 [l0, l1, l2, .int x] st h nx = Df d 72 37 [l0, l1, l2, .int x] (.int x :: st) h nx := D_iload_n (ins_of mc_72 (pc := 36) (x := (.iload_n 3, 1)) (by decide +kernel)) rfl
theorem e_72_37 : Df d 72 37 [l0, l1, l2, l3] [v2, v1, v0, .ref a] h nx = if ck h a 1 = true then cn d 72 40 [l0, l1, l2, l3] [] (Dn d 5 [.ref a, v0, v1, v2] h nx) else none := D_virtual (k1 := 5) (ins_of mc_72 (pc := 37) (x := (.invokevirtual 78, 3)) (by decide +kernel)) mo_72 (by decide +kernel) (by decide) rfl rfl (by decide) rfl (Nat.le_of_ble_eq_true rfl) rfl
theorem e_72_40 : Df d 72 40 [l0, l1, l2, l3] [.int x] h nx = some (some (.int x), h, nx) := D_ireturn (ins_of mc_72 (pc := 40) (x := (.ireturn, 1)) (by decide +kernel)) mr_72
theorem mc_73 : mC 73 = prog_1_method_44_code := rfl
theorem mo_73 : mO 73 = 8 := rfl
theorem ml_73 : mL 73 = 1 := rfl
theorem mr_73 : mR 73 = (some .boolean) := rfl
theorem ma_73 : mA 73 = 1 := rfl
theorem e_73_0 : Df d 73 0 [.int x] st h nx = Df d 73 1 [.int x] (.int x :: st) h nx := D_iload_n (ins_of mc_73 (pc := 0) (x := (.iload_n 0, 1)) (by decide +kernel)) rfl
theorem e_73_1 : Df d 73 1 [l0] st h nx = Df d 73 2 [l0] (.int 0 :: st) h nx := D_iconst (ins_of mc_73 (pc := 1) (x := (.iconst 0, 1)) (by decide +kernel)) (by decide)
theorem e_73_2 : Df d 73 2 [l0] st h nx = Df d 73 3 [l0] (.int 5 :: st) h nx := D_iconst (ins_of mc_73 (pc := 2) (x := (.iconst 5, 1)) (by decide +kernel)) (by decide)
theorem e_73_3 : Df d 73 3 [l0] [v2, v1, v0] h nx = cn d 73 6 [l0] [] (Dn d 74 [v0, v1, v2] h nx) := D_static (k1 := 74) (kd := 1) (ins_of mc_73 (pc := 3) (x := (.invokestatic 73, 3)) (by decide +kernel)) mo_73 (by decide +kernel) (by decide) rfl (Nat.le_of_ble_eq_true rfl) rfl (Nat.le_of_ble_eq_true rfl) rfl
theorem e_73_6 : Df d 73 6 [l0] [.int x] h nx = if nR .boolean x = true then some (some (.int x), h, nx) else none := D_zreturn (ins_of mc_73 (pc := 6) (x := (.ireturn, 1)) (by decide +kernel)) mr_73
theorem mc_74 : mC 74 = prog_1_method_42_code := rfl
theorem mo_74 : mO 74 = 8 := rfl
theorem ml_74 : mL 74 = 3 := rfl
theorem mr_74 : mR 74 = (some .boolean) := rfl
theorem ma_74 : mA 74 = 3 := rfl
theorem e_74_0 : Df d 74 0 [.int x, l1, l2] st h nx = Df d 74 1 [.int x, l1, l2] (.int x :: st) h nx := D_iload_n (ins_of mc_74 (pc := 0) (x := (.iload_n 0, 1)) (by decide +kernel)) rfl
theorem e_74_1 : Df d 74 1 [l0, .int x, l2] st h nx = Df d 74 2 [l0, .int x, l2] (.int x :: st) h nx := D_iload_n (ins_of mc_74 (pc := 1) (x := (.iload_n 1, 1)) (by decide +kernel)) rfl
theorem e_74_2 : Df d 74 2 [l0, l1, l2] (.int y :: .int x :: st) h nx = if x < y then Df d 74 14 [l0, l1, l2] st h nx else Df d 74 5 [l0, l1, l2] st h nx := D_icmp_lt (ins_of mc_74 (pc := 2) (x := (.if_icmp .lt 12, 3)) (by decide +kernel)) (by decide)
theorem e_74_5 : Df d 74 5 [.int x, l1, l2] st h nx = Df d 74 6 [.int x, l1, l2] (.int x :: st) h nx := D_iload_n (ins_of mc_74 (pc := 5) (x := (.iload_n 0, 1)) (by decide +kernel)) rfl
theorem e_74_6 : Df d 74 6 [l0, l1, .int x] st h nx = Df d 74 7 [l0, l1, .int x] (.int x :: st) h nx := D_iload_n (ins_of mc_74 (pc := 6) (x := (.iload_n 2, 1)) (by decide +kernel)) rfl
theorem e_74_7 : Df d 74 7 [l0, l1, l2] (.int y :: .int x :: st) h nx = if y < x then Df d 74 14 [l0, l1, l2] st h nx else Df d 74 10 [l0, l1, l2] st h nx := D_icmp_gt (ins_of mc_74 (pc := 7) (x := (.if_icmp .gt 7, 3)) (by decide +kernel)) (by decide)
theorem e_74_10 : Df d 74 10 [l0, l1, l2] st h nx = Df d 74 11 [l0, l1, l2] (.int 1 :: st) h nx := D_iconst (ins_of mc_74 (pc := 10) (x := (.iconst 1, 1)) (by decide +kernel)) (by decide)
theorem e_74_11 : Df d 74 11 [l0, l1, l2] st h nx = Df d 74 15 [l0, l1, l2] st h nx := D_goto (ins_of mc_74 (pc := 11) (x := (.goto 4, 3)) (by decide +kernel)) (by decide)
theorem e_74_14 : Df d 74 14 [l0, l1, l2] st h nx = Df d 74 15 [l0, l1, l2] (.int 0 :: st) h nx := D_iconst (ins_of mc_74 (pc := 14) (x := (.iconst 0, 1)) (by decide +kernel)) (by decide)
theorem e_74_15 : Df d 74 15 [l0, l1, l2] [.int x] h nx = if nR .boolean x = true then some (some (.int x), h, nx) else none := D_zreturn (ins_of mc_74 (pc := 15) (x := (.ireturn, 1)) (by decide +kernel)) mr_74
theorem mc_75 : mC 75 = prog_1_method_3_code := rfl
theorem mo_75 : mO 75 = 8 := rfl
theorem ml_75 : mL 75 = 4 := rfl
theorem mr_75 : mR 75 = (some .int) := rfl
theorem ma_75 : mA 75 = 2 := rfl
theorem e_75_0 : Df d 75 0 [.ref a, l1, l2, l3] st h nx = Df d 75 1 [.ref a, l1, l2, l3] (.ref a :: st) h nx := D_aload_n (ins_of mc_75 (pc := 0) (x := (.aload_n 0, 1)) (by decide +kernel)) rfl
theorem e_75_1 : Df d 75 1 [l0, l1, l2, l3] (.ref a :: st) h nx = (gF h a 8 0).bind fun v => Df d 75 4 [l0, l1, l2, l3] (v :: st) h nx := D_getfield (ins_of mc_75 (pc := 1) (x := (.getfield 12, 3)) (by decide +kernel)) mo_75 (by decide +kernel)
theorem e_75_4 : Df d 75 4 [l0, .int x, l2, l3] st h nx = Df d 75 5 [l0, .int x, l2, l3] (.int x :: st) h nx := D_iload_n (ins_of mc_75 (pc := 4) (x := (.iload_n 1, 1)) (by decide +kernel)) rfl
theorem e_75_5 : Df d 75 5 [l0, l1, l2, l3] [v0, .ref a] h nx = if ck h a 1 = true then cn d 75 8 [l0, l1, l2, l3] [] (Dn d 6 [.ref a, v0] h nx) else none := D_virtual (k1 := 6) (ins_of mc_75 (pc := 5) (x := (.invokevirtual 82, 3)) (by decide +kernel)) mo_75 (by decide +kernel) (by decide) rfl rfl (by decide) rfl (Nat.le_of_ble_eq_true rfl) rfl
theorem e_75_8 : Df d 75 8 [l0, l1, l2, l3] (.int x :: st) h nx = if x = 0 then Df d 75 11 [l0, l1, l2, l3] st h nx else Df d 75 14 [l0, l1, l2, l3] st h nx := D_if_ne (ins_of mc_75 (pc := 8) (x := (.ifCond .ne 6, 3)) (by decide +kernel)) (by decide)
theorem e_75_11 : Df d 75 11 [l0, l1, l2, l3] st h nx = Df d 75 13 [l0, l1, l2, l3] (.int (-1000000001) :: st) h nx := D_ldc (ins_of mc_75 (pc := 11) (x := (.ldc 77, 2)) (by decide +kernel)) mo_75 (by decide +kernel)
theorem e_75_13 : Df d 75 13 [l0, l1, l2, l3] [.int x] h nx = some (some (.int x), h, nx) := D_ireturn (ins_of mc_75 (pc := 13) (x := (.ireturn, 1)) (by decide +kernel)) mr_75
theorem e_75_14 : Df d 75 14 [.ref a, l1, l2, l3] st h nx = Df d 75 15 [.ref a, l1, l2, l3] (.ref a :: st) h nx := D_aload_n (ins_of mc_75 (pc := 14) (x := (.aload_n 0, 1)) (by decide +kernel)) rfl
theorem e_75_15 : Df d 75 15 [l0, l1, l2, l3] (.ref a :: st) h nx = (gF h a 8 0).bind fun v => Df d 75 18 [l0, l1, l2, l3] (v :: st) h nx := D_getfield (ins_of mc_75 (pc := 15) (x := (.getfield 12, 3)) (by decide +kernel)) mo_75 (by decide +kernel)
theorem e_75_18 : Df d 75 18 [l0, l1, l2, l3] (.ref a :: st) h nx = (gF h a 1 1).bind fun v => Df d 75 21 [l0, l1, l2, l3] (v :: st) h nx := D_getfield (ins_of mc_75 (pc := 18) (x := (.getfield 85, 3)) (by decide +kernel)) mo_75 (by decide +kernel)
theorem e_75_21 : Df d 75 21 [l0, .int x, l2, l3] st h nx = Df d 75 22 [l0, .int x, l2, l3] (.int x :: st) h nx := D_iload_n (ins_of mc_75 (pc := 21) (x := (.iload_n 1, 1)) (by decide +kernel)) rfl
theorem e_75_22 : Df d 75 22 [l0, l1, l2, l3] (.int x :: .ref a :: st) h nx = (rR h a x).bind fun v => Df d 75 23 [l0, l1, l2, l3] (.ref v :: st) h nx := D_aaload (ins_of mc_75 (pc := 22) (x := (.aaload, 1)) (by decide +kernel))
theorem e_75_23 (hn : nr l3 = true) : Df d 75 23 [l0, l1, l2, l3] (.ref a :: st) h nx = Df d 75 24 [l0, l1, l2, .ref a] st h nx := D_astore_n (ins_of mc_75 (pc := 23) (x := (.astore_n 3, 1)) (by decide +kernel)) rfl hn rfl
theorem e_75_24 : Df d 75 24 [l0, l1, .int x, l3] st h nx = Df d 75 25 [l0, l1, .int x, l3] (.int x :: st) h nx := D_iload_n (ins_of mc_75 (pc := 24) (x := (.iload_n 2, 1)) (by decide +kernel)) rfl
theorem e_75_25 : Df d 75 25 [l0, l1, l2, l3] (.int x :: st) h nx = if x = 0 then Df d 75 80 [l0, l1, l2, l3] st h nx else if x = 1 then Df d 75 85 [l0, l1, l2, l3] st h nx else if x = 2 then Df d 75 90 [l0, l1, l2, l3] st h nx else if x = 3 then Df d 75 95 [l0, l1, l2, l3] st h nx else if x = 4 then Df d 75 100 [l0, l1, l2, l3] st h nx else if x = 5 then Df d 75 105 [l0, l1, l2, l3] st h nx else if x = 6 then Df d 75 118 [l0, l1, l2, l3] st h nx else if x = 7 then Df d 75 131 [l0, l1, l2, l3] st h nx else if x = 8 then Df d 75 136 [l0, l1, l2, l3] st h nx else if x = 9 then Df d 75 145 [l0, l1, l2, l3] st h nx else Df d 75 150 [l0, l1, l2, l3] st h nx := by
  have hi := (ins_of mc_75 (pc := 25) (x := (.tableswitch 125 0 9 #[55, 60, 65, 70, 75, 80, 93, 106, 111, 120], 55)) (by decide +kernel))
  by_cases q0 : x = 0
  · subst q0
    rw [if_pos rfl]
    exact D_tswI (off := 55) hi (by decide) (by decide) (by decide)
  rw [if_neg q0]
  by_cases q1 : x = 1
  · subst q1
    rw [if_pos rfl]
    exact D_tswI (off := 60) hi (by decide) (by decide) (by decide)
  rw [if_neg q1]
  by_cases q2 : x = 2
  · subst q2
    rw [if_pos rfl]
    exact D_tswI (off := 65) hi (by decide) (by decide) (by decide)
  rw [if_neg q2]
  by_cases q3 : x = 3
  · subst q3
    rw [if_pos rfl]
    exact D_tswI (off := 70) hi (by decide) (by decide) (by decide)
  rw [if_neg q3]
  by_cases q4 : x = 4
  · subst q4
    rw [if_pos rfl]
    exact D_tswI (off := 75) hi (by decide) (by decide) (by decide)
  rw [if_neg q4]
  by_cases q5 : x = 5
  · subst q5
    rw [if_pos rfl]
    exact D_tswI (off := 80) hi (by decide) (by decide) (by decide)
  rw [if_neg q5]
  by_cases q6 : x = 6
  · subst q6
    rw [if_pos rfl]
    exact D_tswI (off := 93) hi (by decide) (by decide) (by decide)
  rw [if_neg q6]
  by_cases q7 : x = 7
  · subst q7
    rw [if_pos rfl]
    exact D_tswI (off := 106) hi (by decide) (by decide) (by decide)
  rw [if_neg q7]
  by_cases q8 : x = 8
  · subst q8
    rw [if_pos rfl]
    exact D_tswI (off := 111) hi (by decide) (by decide) (by decide)
  rw [if_neg q8]
  by_cases q9 : x = 9
  · subst q9
    rw [if_pos rfl]
    exact D_tswI (off := 120) hi (by decide) (by decide) (by decide)
  rw [if_neg q9]
  have r0 : x.toInt ≠ 0 := fun z => q0 (Int32.toInt_inj.mp (z.trans (by decide)))
  have r1 : x.toInt ≠ 1 := fun z => q1 (Int32.toInt_inj.mp (z.trans (by decide)))
  have r2 : x.toInt ≠ 2 := fun z => q2 (Int32.toInt_inj.mp (z.trans (by decide)))
  have r3 : x.toInt ≠ 3 := fun z => q3 (Int32.toInt_inj.mp (z.trans (by decide)))
  have r4 : x.toInt ≠ 4 := fun z => q4 (Int32.toInt_inj.mp (z.trans (by decide)))
  have r5 : x.toInt ≠ 5 := fun z => q5 (Int32.toInt_inj.mp (z.trans (by decide)))
  have r6 : x.toInt ≠ 6 := fun z => q6 (Int32.toInt_inj.mp (z.trans (by decide)))
  have r7 : x.toInt ≠ 7 := fun z => q7 (Int32.toInt_inj.mp (z.trans (by decide)))
  have r8 : x.toInt ≠ 8 := fun z => q8 (Int32.toInt_inj.mp (z.trans (by decide)))
  have r9 : x.toInt ≠ 9 := fun z => q9 (Int32.toInt_inj.mp (z.trans (by decide)))
  exact D_tswO hi (by omega) (by decide)
theorem e_75_80 : Df d 75 80 [l0, l1, l2, .ref a] st h nx = Df d 75 81 [l0, l1, l2, .ref a] (.ref a :: st) h nx := D_aload_n (ins_of mc_75 (pc := 80) (x := (.aload_n 3, 1)) (by decide +kernel)) rfl
theorem e_75_81 : Df d 75 81 [l0, l1, l2, l3] (.ref a :: st) h nx = (gF h a 7 0).bind fun v => Df d 75 84 [l0, l1, l2, l3] (v :: st) h nx := D_getfield (ins_of mc_75 (pc := 81) (x := (.getfield 89, 3)) (by decide +kernel)) mo_75 (by decide +kernel)
theorem e_75_84 : Df d 75 84 [l0, l1, l2, l3] [.int x] h nx = some (some (.int x), h, nx) := D_ireturn (ins_of mc_75 (pc := 84) (x := (.ireturn, 1)) (by decide +kernel)) mr_75
theorem e_75_85 : Df d 75 85 [l0, l1, l2, .ref a] st h nx = Df d 75 86 [l0, l1, l2, .ref a] (.ref a :: st) h nx := D_aload_n (ins_of mc_75 (pc := 85) (x := (.aload_n 3, 1)) (by decide +kernel)) rfl
theorem e_75_86 : Df d 75 86 [l0, l1, l2, l3] (.ref a :: st) h nx = (gF h a 7 1).bind fun v => Df d 75 89 [l0, l1, l2, l3] (v :: st) h nx := D_getfield (ins_of mc_75 (pc := 86) (x := (.getfield 94, 3)) (by decide +kernel)) mo_75 (by decide +kernel)
theorem e_75_89 : Df d 75 89 [l0, l1, l2, l3] [.int x] h nx = some (some (.int x), h, nx) := D_ireturn (ins_of mc_75 (pc := 89) (x := (.ireturn, 1)) (by decide +kernel)) mr_75
theorem e_75_90 : Df d 75 90 [l0, l1, l2, .ref a] st h nx = Df d 75 91 [l0, l1, l2, .ref a] (.ref a :: st) h nx := D_aload_n (ins_of mc_75 (pc := 90) (x := (.aload_n 3, 1)) (by decide +kernel)) rfl
theorem e_75_91 : Df d 75 91 [l0, l1, l2, l3] (.ref a :: st) h nx = (gF h a 7 2).bind fun v => Df d 75 94 [l0, l1, l2, l3] (v :: st) h nx := D_getfield (ins_of mc_75 (pc := 91) (x := (.getfield 97, 3)) (by decide +kernel)) mo_75 (by decide +kernel)
theorem e_75_94 : Df d 75 94 [l0, l1, l2, l3] [.int x] h nx = some (some (.int x), h, nx) := D_ireturn (ins_of mc_75 (pc := 94) (x := (.ireturn, 1)) (by decide +kernel)) mr_75
theorem e_75_95 : Df d 75 95 [l0, l1, l2, .ref a] st h nx = Df d 75 96 [l0, l1, l2, .ref a] (.ref a :: st) h nx := D_aload_n (ins_of mc_75 (pc := 95) (x := (.aload_n 3, 1)) (by decide +kernel)) rfl
theorem e_75_96 : Df d 75 96 [l0, l1, l2, l3] (.ref a :: st) h nx = (gF h a 7 3).bind fun v => Df d 75 99 [l0, l1, l2, l3] (v :: st) h nx := D_getfield (ins_of mc_75 (pc := 96) (x := (.getfield 100, 3)) (by decide +kernel)) mo_75 (by decide +kernel)
theorem e_75_99 : Df d 75 99 [l0, l1, l2, l3] [.int x] h nx = some (some (.int x), h, nx) := D_ireturn (ins_of mc_75 (pc := 99) (x := (.ireturn, 1)) (by decide +kernel)) mr_75
theorem e_75_100 : Df d 75 100 [l0, l1, l2, .ref a] st h nx = Df d 75 101 [l0, l1, l2, .ref a] (.ref a :: st) h nx := D_aload_n (ins_of mc_75 (pc := 100) (x := (.aload_n 3, 1)) (by decide +kernel)) rfl
theorem e_75_101 : Df d 75 101 [l0, l1, l2, l3] (.ref a :: st) h nx = (gF h a 7 4).bind fun v => Df d 75 104 [l0, l1, l2, l3] (v :: st) h nx := D_getfield (ins_of mc_75 (pc := 101) (x := (.getfield 103, 3)) (by decide +kernel)) mo_75 (by decide +kernel)
theorem e_75_104 : Df d 75 104 [l0, l1, l2, l3] [.int x] h nx = some (some (.int x), h, nx) := D_ireturn (ins_of mc_75 (pc := 104) (x := (.ireturn, 1)) (by decide +kernel)) mr_75
theorem e_75_105 : Df d 75 105 [l0, l1, l2, .ref a] st h nx = Df d 75 106 [l0, l1, l2, .ref a] (.ref a :: st) h nx := D_aload_n (ins_of mc_75 (pc := 105) (x := (.aload_n 3, 1)) (by decide +kernel)) rfl
theorem e_75_106 : Df d 75 106 [l0, l1, l2, l3] (.ref a :: st) h nx = (gF h a 7 5).bind fun v => Df d 75 109 [l0, l1, l2, l3] (v :: st) h nx := D_getfield (ins_of mc_75 (pc := 106) (x := (.getfield 106, 3)) (by decide +kernel)) mo_75 (by decide +kernel)
theorem e_75_109 : Df d 75 109 [l0, l1, l2, l3] (.int x :: st) h nx = if x = 0 then Df d 75 116 [l0, l1, l2, l3] st h nx else Df d 75 112 [l0, l1, l2, l3] st h nx := D_if_eq (ins_of mc_75 (pc := 109) (x := (.ifCond .eq 7, 3)) (by decide +kernel)) (by decide)
theorem e_75_112 : Df d 75 112 [l0, l1, l2, l3] st h nx = Df d 75 113 [l0, l1, l2, l3] (.int 1 :: st) h nx := D_iconst (ins_of mc_75 (pc := 112) (x := (.iconst 1, 1)) (by decide +kernel)) (by decide)
theorem e_75_113 : Df d 75 113 [l0, l1, l2, l3] st h nx = Df d 75 117 [l0, l1, l2, l3] st h nx := D_goto (ins_of mc_75 (pc := 113) (x := (.goto 4, 3)) (by decide +kernel)) (by decide)
theorem e_75_116 : Df d 75 116 [l0, l1, l2, l3] st h nx = Df d 75 117 [l0, l1, l2, l3] (.int 0 :: st) h nx := D_iconst (ins_of mc_75 (pc := 116) (x := (.iconst 0, 1)) (by decide +kernel)) (by decide)
theorem e_75_117 : Df d 75 117 [l0, l1, l2, l3] [.int x] h nx = some (some (.int x), h, nx) := D_ireturn (ins_of mc_75 (pc := 117) (x := (.ireturn, 1)) (by decide +kernel)) mr_75
theorem e_75_118 : Df d 75 118 [.ref a, l1, l2, l3] st h nx = Df d 75 119 [.ref a, l1, l2, l3] (.ref a :: st) h nx := D_aload_n (ins_of mc_75 (pc := 118) (x := (.aload_n 0, 1)) (by decide +kernel)) rfl
theorem e_75_119 : Df d 75 119 [l0, l1, l2, l3] (.ref a :: st) h nx = (gF h a 8 0).bind fun v => Df d 75 122 [l0, l1, l2, l3] (v :: st) h nx := D_getfield (ins_of mc_75 (pc := 119) (x := (.getfield 12, 3)) (by decide +kernel)) mo_75 (by decide +kernel)
theorem e_75_122 : Df d 75 122 [l0, l1, l2, .ref a] st h nx = Df d 75 123 [l0, l1, l2, .ref a] (.ref a :: st) h nx := D_aload_n (ins_of mc_75 (pc := 122) (x := (.aload_n 3, 1)) (by decide +kernel)) rfl
theorem e_75_123 : Df d 75 123 [.ref a, l1, l2, l3] st h nx = Df d 75 124 [.ref a, l1, l2, l3] (.ref a :: st) h nx := D_aload_n (ins_of mc_75 (pc := 123) (x := (.aload_n 0, 1)) (by decide +kernel)) rfl
theorem e_75_124 : Df d 75 124 [l0, l1, l2, l3] (.ref a :: st) h nx = (gF h a 8 4).bind fun v => Df d 75 127 [l0, l1, l2, l3] (v :: st) h nx := D_getfield (ins_of mc_75 (pc := 124) (x := (.getfield 32, 3)) (by decide +kernel)) mo_75 (by decide +kernel)
theorem e_75_127 : Df d 75 127 [l0, l1, l2, l3] [v1, v0, .ref a] h nx = if ck h a 1 = true then cn d 75 130 [l0, l1, l2, l3] [] (Dn d 7 [.ref a, v0, v1] h nx) else none := D_virtual (k1 := 7) (ins_of mc_75 (pc := 127) (x := (.invokevirtual 109, 3)) (by decide +kernel)) mo_75 (by decide +kernel) (by decide) rfl rfl (by decide) rfl (Nat.le_of_ble_eq_true rfl) rfl
theorem e_75_130 : Df d 75 130 [l0, l1, l2, l3] [.int x] h nx = some (some (.int x), h, nx) := D_ireturn (ins_of mc_75 (pc := 130) (x := (.ireturn, 1)) (by decide +kernel)) mr_75
theorem e_75_131 : Df d 75 131 [l0, l1, l2, .ref a] st h nx = Df d 75 132 [l0, l1, l2, .ref a] (.ref a :: st) h nx := D_aload_n (ins_of mc_75 (pc := 131) (x := (.aload_n 3, 1)) (by decide +kernel)) rfl
theorem e_75_132 : Df d 75 132 [l0, l1, l2, l3] [.ref a] h nx = if ck h a 7 = true then cn d 75 135 [l0, l1, l2, l3] [] (Dn d 64 [.ref a] h nx) else none := D_virtual (k1 := 64) (ins_of mc_75 (pc := 132) (x := (.invokevirtual 113, 3)) (by decide +kernel)) mo_75 (by decide +kernel) (by decide) rfl rfl (by decide) rfl (Nat.le_of_ble_eq_true rfl) rfl
theorem e_75_135 : Df d 75 135 [l0, l1, l2, l3] [.int x] h nx = some (some (.int x), h, nx) := D_ireturn (ins_of mc_75 (pc := 135) (x := (.ireturn, 1)) (by decide +kernel)) mr_75
theorem e_75_136 : Df d 75 136 [.ref a, l1, l2, l3] st h nx = Df d 75 137 [.ref a, l1, l2, l3] (.ref a :: st) h nx := D_aload_n (ins_of mc_75 (pc := 136) (x := (.aload_n 0, 1)) (by decide +kernel)) rfl
theorem e_75_137 : Df d 75 137 [l0, l1, l2, l3] (.ref a :: st) h nx = (gF h a 8 0).bind fun v => Df d 75 140 [l0, l1, l2, l3] (v :: st) h nx := D_getfield (ins_of mc_75 (pc := 137) (x := (.getfield 12, 3)) (by decide +kernel)) mo_75 (by decide +kernel)
theorem e_75_140 : Df d 75 140 [l0, l1, l2, .ref a] st h nx = Df d 75 141 [l0, l1, l2, .ref a] (.ref a :: st) h nx := D_aload_n (ins_of mc_75 (pc := 140) (x := (.aload_n 3, 1)) (by decide +kernel)) rfl
theorem e_75_141 : Df d 75 141 [l0, l1, l2, l3] [v0, .ref a] h nx = if ck h a 1 = true then cn d 75 144 [l0, l1, l2, l3] [] (Dn d 8 [.ref a, v0] h nx) else none := D_virtual (k1 := 8) (ins_of mc_75 (pc := 141) (x := (.invokevirtual 117, 3)) (by decide +kernel)) mo_75 (by decide +kernel) (by decide) rfl rfl (by decide) rfl (Nat.le_of_ble_eq_true rfl) rfl
theorem e_75_144 : Df d 75 144 [l0, l1, l2, l3] [.int x] h nx = some (some (.int x), h, nx) := D_ireturn (ins_of mc_75 (pc := 144) (x := (.ireturn, 1)) (by decide +kernel)) mr_75
theorem e_75_145 : Df d 75 145 [l0, l1, l2, .ref a] st h nx = Df d 75 146 [l0, l1, l2, .ref a] (.ref a :: st) h nx := D_aload_n (ins_of mc_75 (pc := 145) (x := (.aload_n 3, 1)) (by decide +kernel)) rfl
theorem e_75_146 : Df d 75 146 [l0, l1, l2, l3] [.ref a] h nx = if ck h a 7 = true then cn d 75 149 [l0, l1, l2, l3] [] (Dn d 65 [.ref a] h nx) else none := D_virtual (k1 := 65) (ins_of mc_75 (pc := 146) (x := (.invokevirtual 121, 3)) (by decide +kernel)) mo_75 (by decide +kernel) (by decide) rfl rfl (by decide) rfl (Nat.le_of_ble_eq_true rfl) rfl
theorem e_75_149 : Df d 75 149 [l0, l1, l2, l3] [.int x] h nx = some (some (.int x), h, nx) := D_ireturn (ins_of mc_75 (pc := 149) (x := (.ireturn, 1)) (by decide +kernel)) mr_75
theorem e_75_150 : Df d 75 150 [l0, l1, l2, l3] st h nx = Df d 75 152 [l0, l1, l2, l3] (.int (-1000000001) :: st) h nx := D_ldc (ins_of mc_75 (pc := 150) (x := (.ldc 77, 2)) (by decide +kernel)) mo_75 (by decide +kernel)
theorem e_75_152 : Df d 75 152 [l0, l1, l2, l3] [.int x] h nx = some (some (.int x), h, nx) := D_ireturn (ins_of mc_75 (pc := 152) (x := (.ireturn, 1)) (by decide +kernel)) mr_75
theorem mc_76 : mC 76 = prog_1_method_43_code := rfl
theorem mo_76 : mO 76 = 8 := rfl
theorem ml_76 : mL 76 = 3 := rfl
theorem mr_76 : mR 76 = (some .int) := rfl
theorem ma_76 : mA 76 = 3 := rfl
theorem e_76_0 : Df d 76 0 [l0, .int x, l2] st h nx = Df d 76 1 [l0, .int x, l2] (.int x :: st) h nx := D_iload_n (ins_of mc_76 (pc := 0) (x := (.iload_n 1, 1)) (by decide +kernel)) rfl
theorem e_76_1 : Df d 76 1 [l0, l1, .int x] st h nx = Df d 76 2 [l0, l1, .int x] (.int x :: st) h nx := D_iload_n (ins_of mc_76 (pc := 1) (x := (.iload_n 2, 1)) (by decide +kernel)) rfl
theorem e_76_2 : Df d 76 2 [.int x, l1, l2] st h nx = Df d 76 3 [.int x, l1, l2] (.int x :: st) h nx := D_iload_n (ins_of mc_76 (pc := 2) (x := (.iload_n 0, 1)) (by decide +kernel)) rfl
theorem e_76_3 : Df d 76 3 [l0, l1, l2] [v1, v0, s0] h nx = cn d 76 6 [l0, l1, l2] [s0] (Dn d 211 [v0, v1] h nx) := D_static (k1 := 211) (kd := 1) (ins_of mc_76 (pc := 3) (x := (.invokestatic 147, 3)) (by decide +kernel)) mo_76 (by decide +kernel) (by decide) rfl (Nat.le_of_ble_eq_true rfl) rfl (Nat.le_of_ble_eq_true rfl) rfl
theorem e_76_6 : Df d 76 6 [l0, l1, l2] [v1, v0] h nx = cn d 76 9 [l0, l1, l2] [] (Dn d 212 [v0, v1] h nx) := D_static (k1 := 212) (kd := 1) (ins_of mc_76 (pc := 6) (x := (.invokestatic 334, 3)) (by decide +kernel)) mo_76 (by decide +kernel) (by decide) rfl (Nat.le_of_ble_eq_true rfl) rfl (Nat.le_of_ble_eq_true rfl) rfl
theorem e_76_9 : Df d 76 9 [l0, l1, l2] [.int x] h nx = some (some (.int x), h, nx) := D_ireturn (ins_of mc_76 (pc := 9) (x := (.ireturn, 1)) (by decide +kernel)) mr_76
theorem mc_77 : mC 77 = prog_1_method_4_code := rfl
theorem mo_77 : mO 77 = 8 := rfl
theorem ml_77 : mL 77 = 4 := rfl
theorem mr_77 : mR 77 = (some .int) := rfl
theorem ma_77 : mA 77 = 2 := rfl
theorem e_77_0 : Df d 77 0 [.ref a, l1, l2, l3] st h nx = Df d 77 1 [.ref a, l1, l2, l3] (.ref a :: st) h nx := D_aload_n (ins_of mc_77 (pc := 0) (x := (.aload_n 0, 1)) (by decide +kernel)) rfl
theorem e_77_1 : Df d 77 1 [l0, l1, l2, l3] (.ref a :: st) h nx = (gF h a 8 0).bind fun v => Df d 77 4 [l0, l1, l2, l3] (v :: st) h nx := D_getfield (ins_of mc_77 (pc := 1) (x := (.getfield 12, 3)) (by decide +kernel)) mo_77 (by decide +kernel)
theorem e_77_4 : Df d 77 4 [l0, .int x, l2, l3] st h nx = Df d 77 5 [l0, .int x, l2, l3] (.int x :: st) h nx := D_iload_n (ins_of mc_77 (pc := 4) (x := (.iload_n 1, 1)) (by decide +kernel)) rfl
theorem e_77_5 : Df d 77 5 [l0, l1, l2, l3] [v0, .ref a] h nx = if ck h a 1 = true then cn d 77 8 [l0, l1, l2, l3] [] (Dn d 6 [.ref a, v0] h nx) else none := D_virtual (k1 := 6) (ins_of mc_77 (pc := 5) (x := (.invokevirtual 82, 3)) (by decide +kernel)) mo_77 (by decide +kernel) (by decide) rfl rfl (by decide) rfl (Nat.le_of_ble_eq_true rfl) rfl
theorem e_77_8 : Df d 77 8 [l0, l1, l2, l3] (.int x :: st) h nx = if x = 0 then Df d 77 18 [l0, l1, l2, l3] st h nx else Df d 77 11 [l0, l1, l2, l3] st h nx := D_if_eq (ins_of mc_77 (pc := 8) (x := (.ifCond .eq 10, 3)) (by decide +kernel)) (by decide)
theorem e_77_11 : Df d 77 11 [l0, l1, .int x, l3] st h nx = Df d 77 12 [l0, l1, .int x, l3] (.int x :: st) h nx := D_iload_n (ins_of mc_77 (pc := 11) (x := (.iload_n 2, 1)) (by decide +kernel)) rfl
theorem e_77_12 : Df d 77 12 [l0, l1, l2, l3] [v0] h nx = cn d 77 15 [l0, l1, l2, l3] [] (Dn d 73 [v0] h nx) := D_static (k1 := 73) (kd := 1) (ins_of mc_77 (pc := 12) (x := (.invokestatic 69, 3)) (by decide +kernel)) mo_77 (by decide +kernel) (by decide) rfl (Nat.le_of_ble_eq_true rfl) rfl (Nat.le_of_ble_eq_true rfl) rfl
theorem e_77_15 : Df d 77 15 [l0, l1, l2, l3] (.int x :: st) h nx = if x = 0 then Df d 77 18 [l0, l1, l2, l3] st h nx else Df d 77 21 [l0, l1, l2, l3] st h nx := D_if_ne (ins_of mc_77 (pc := 15) (x := (.ifCond .ne 6, 3)) (by decide +kernel)) (by decide)
theorem e_77_18 : Df d 77 18 [l0, l1, l2, l3] st h nx = Df d 77 20 [l0, l1, l2, l3] (.int (-1000000001) :: st) h nx := D_ldc (ins_of mc_77 (pc := 18) (x := (.ldc 77, 2)) (by decide +kernel)) mo_77 (by decide +kernel)
theorem e_77_20 : Df d 77 20 [l0, l1, l2, l3] [.int x] h nx = some (some (.int x), h, nx) := D_ireturn (ins_of mc_77 (pc := 20) (x := (.ireturn, 1)) (by decide +kernel)) mr_77
theorem e_77_21 : Df d 77 21 [.ref a, l1, l2, l3] st h nx = Df d 77 22 [.ref a, l1, l2, l3] (.ref a :: st) h nx := D_aload_n (ins_of mc_77 (pc := 21) (x := (.aload_n 0, 1)) (by decide +kernel)) rfl
theorem e_77_22 : Df d 77 22 [l0, l1, l2, l3] (.ref a :: st) h nx = (gF h a 8 0).bind fun v => Df d 77 25 [l0, l1, l2, l3] (v :: st) h nx := D_getfield (ins_of mc_77 (pc := 22) (x := (.getfield 12, 3)) (by decide +kernel)) mo_77 (by decide +kernel)
theorem e_77_25 : Df d 77 25 [l0, l1, l2, l3] (.ref a :: st) h nx = (gF h a 1 1).bind fun v => Df d 77 28 [l0, l1, l2, l3] (v :: st) h nx := D_getfield (ins_of mc_77 (pc := 25) (x := (.getfield 85, 3)) (by decide +kernel)) mo_77 (by decide +kernel)
theorem e_77_28 : Df d 77 28 [l0, .int x, l2, l3] st h nx = Df d 77 29 [l0, .int x, l2, l3] (.int x :: st) h nx := D_iload_n (ins_of mc_77 (pc := 28) (x := (.iload_n 1, 1)) (by decide +kernel)) rfl
theorem e_77_29 : Df d 77 29 [l0, l1, l2, l3] (.int x :: .ref a :: st) h nx = (rR h a x).bind fun v => Df d 77 30 [l0, l1, l2, l3] (.ref v :: st) h nx := D_aaload (ins_of mc_77 (pc := 29) (x := (.aaload, 1)) (by decide +kernel))
theorem e_77_30 (hn : nr l3 = true) : Df d 77 30 [l0, l1, l2, l3] (.ref a :: st) h nx = Df d 77 31 [l0, l1, l2, .ref a] st h nx := D_astore_n (ins_of mc_77 (pc := 30) (x := (.astore_n 3, 1)) (by decide +kernel)) rfl hn rfl
theorem e_77_31 : Df d 77 31 [l0, l1, l2, .ref a] st h nx = Df d 77 32 [l0, l1, l2, .ref a] (.ref a :: st) h nx := D_aload_n (ins_of mc_77 (pc := 31) (x := (.aload_n 3, 1)) (by decide +kernel)) rfl
theorem e_77_32 : Df d 77 32 [l0, l1, .int x, l3] st h nx = Df d 77 33 [l0, l1, .int x, l3] (.int x :: st) h nx := D_iload_n (ins_of mc_77 (pc := 32) (x := (.iload_n 2, 1)) (by decide +kernel)) rfl
theorem e_77_33 : Df d 77 33 [l0, l1, l2, l3] [v0, .ref a] h nx = if ck h a 7 = true then cn d 77 36 [l0, l1, l2, l3] [] (Dn d 66 [.ref a, v0] h nx) else none := D_virtual (k1 := 66) (ins_of mc_77 (pc := 33) (x := (.invokevirtual 124, 3)) (by decide +kernel)) mo_77 (by decide +kernel) (by decide) rfl rfl (by decide) rfl (Nat.le_of_ble_eq_true rfl) rfl
theorem e_77_36 : Df d 77 36 [l0, l1, l2, l3] (.int x :: st) h nx = if x = 0 then Df d 77 46 [l0, l1, l2, l3] st h nx else Df d 77 39 [l0, l1, l2, l3] st h nx := D_if_eq (ins_of mc_77 (pc := 36) (x := (.ifCond .eq 10, 3)) (by decide +kernel)) (by decide)
theorem e_77_39 : Df d 77 39 [l0, l1, l2, .ref a] st h nx = Df d 77 40 [l0, l1, l2, .ref a] (.ref a :: st) h nx := D_aload_n (ins_of mc_77 (pc := 39) (x := (.aload_n 3, 1)) (by decide +kernel)) rfl
theorem e_77_40 : Df d 77 40 [l0, l1, l2, l3] (.ref a :: st) h nx = (gF h a 7 2).bind fun v => Df d 77 43 [l0, l1, l2, l3] (v :: st) h nx := D_getfield (ins_of mc_77 (pc := 40) (x := (.getfield 97, 3)) (by decide +kernel)) mo_77 (by decide +kernel)
theorem e_77_43 : Df d 77 43 [l0, l1, l2, l3] st h nx = Df d 77 48 [l0, l1, l2, l3] st h nx := D_goto (ins_of mc_77 (pc := 43) (x := (.goto 5, 3)) (by decide +kernel)) (by decide)
theorem e_77_46 : Df d 77 46 [l0, l1, l2, l3] st h nx = Df d 77 48 [l0, l1, l2, l3] (.int (-1000000012) :: st) h nx := D_ldc (ins_of mc_77 (pc := 46) (x := (.ldc 127, 2)) (by decide +kernel)) mo_77 (by decide +kernel)
theorem e_77_48 : Df d 77 48 [l0, l1, l2, l3] [.int x] h nx = some (some (.int x), h, nx) := D_ireturn (ins_of mc_77 (pc := 48) (x := (.ireturn, 1)) (by decide +kernel)) mr_77
theorem mc_78 : mC 78 = prog_1_method_5_code := rfl
theorem mo_78 : mO 78 = 8 := rfl
theorem ml_78 : mL 78 = 5 := rfl
theorem mr_78 : mR 78 = (some .int) := rfl
theorem ma_78 : mA 78 = 2 := rfl
theorem e_78_0 : Df d 78 0 [.ref a, l1, l2, l3, l4] st h nx = Df d 78 1 [.ref a, l1, l2, l3, l4] (.ref a :: st) h nx := D_aload_n (ins_of mc_78 (pc := 0) (x := (.aload_n 0, 1)) (by decide +kernel)) rfl
theorem e_78_1 : Df d 78 1 [l0, l1, l2, l3, l4] (.ref a :: st) h nx = (gF h a 8 0).bind fun v => Df d 78 4 [l0, l1, l2, l3, l4] (v :: st) h nx := D_getfield (ins_of mc_78 (pc := 1) (x := (.getfield 12, 3)) (by decide +kernel)) mo_78 (by decide +kernel)
theorem e_78_4 : Df d 78 4 [l0, .int x, l2, l3, l4] st h nx = Df d 78 5 [l0, .int x, l2, l3, l4] (.int x :: st) h nx := D_iload_n (ins_of mc_78 (pc := 4) (x := (.iload_n 1, 1)) (by decide +kernel)) rfl
theorem e_78_5 : Df d 78 5 [l0, l1, l2, l3, l4] [v0, .ref a] h nx = if ck h a 1 = true then cn d 78 8 [l0, l1, l2, l3, l4] [] (Dn d 6 [.ref a, v0] h nx) else none := D_virtual (k1 := 6) (ins_of mc_78 (pc := 5) (x := (.invokevirtual 82, 3)) (by decide +kernel)) mo_78 (by decide +kernel) (by decide) rfl rfl (by decide) rfl (Nat.le_of_ble_eq_true rfl) rfl
theorem e_78_8 : Df d 78 8 [l0, l1, l2, l3, l4] (.int x :: st) h nx = if x = 0 then Df d 78 18 [l0, l1, l2, l3, l4] st h nx else Df d 78 11 [l0, l1, l2, l3, l4] st h nx := D_if_eq (ins_of mc_78 (pc := 8) (x := (.ifCond .eq 10, 3)) (by decide +kernel)) (by decide)
theorem e_78_11 : Df d 78 11 [l0, l1, .int x, l3, l4] st h nx = Df d 78 12 [l0, l1, .int x, l3, l4] (.int x :: st) h nx := D_iload_n (ins_of mc_78 (pc := 11) (x := (.iload_n 2, 1)) (by decide +kernel)) rfl
theorem e_78_12 : Df d 78 12 [l0, l1, l2, l3, l4] [v0] h nx = cn d 78 15 [l0, l1, l2, l3, l4] [] (Dn d 73 [v0] h nx) := D_static (k1 := 73) (kd := 1) (ins_of mc_78 (pc := 12) (x := (.invokestatic 69, 3)) (by decide +kernel)) mo_78 (by decide +kernel) (by decide) rfl (Nat.le_of_ble_eq_true rfl) rfl (Nat.le_of_ble_eq_true rfl) rfl
theorem e_78_15 : Df d 78 15 [l0, l1, l2, l3, l4] (.int x :: st) h nx = if x = 0 then Df d 78 18 [l0, l1, l2, l3, l4] st h nx else Df d 78 21 [l0, l1, l2, l3, l4] st h nx := D_if_ne (ins_of mc_78 (pc := 15) (x := (.ifCond .ne 6, 3)) (by decide +kernel)) (by decide)
theorem e_78_18 : Df d 78 18 [l0, l1, l2, l3, l4] st h nx = Df d 78 20 [l0, l1, l2, l3, l4] (.int (-1000000001) :: st) h nx := D_ldc (ins_of mc_78 (pc := 18) (x := (.ldc 77, 2)) (by decide +kernel)) mo_78 (by decide +kernel)
theorem e_78_20 : Df d 78 20 [l0, l1, l2, l3, l4] [.int x] h nx = some (some (.int x), h, nx) := D_ireturn (ins_of mc_78 (pc := 20) (x := (.ireturn, 1)) (by decide +kernel)) mr_78
theorem e_78_21 : Df d 78 21 [.ref a, l1, l2, l3, l4] st h nx = Df d 78 22 [.ref a, l1, l2, l3, l4] (.ref a :: st) h nx := D_aload_n (ins_of mc_78 (pc := 21) (x := (.aload_n 0, 1)) (by decide +kernel)) rfl
theorem e_78_22 : Df d 78 22 [l0, l1, l2, l3, l4] (.ref a :: st) h nx = (gF h a 8 0).bind fun v => Df d 78 25 [l0, l1, l2, l3, l4] (v :: st) h nx := D_getfield (ins_of mc_78 (pc := 22) (x := (.getfield 12, 3)) (by decide +kernel)) mo_78 (by decide +kernel)
theorem e_78_25 : Df d 78 25 [l0, l1, l2, l3, l4] (.ref a :: st) h nx = (gF h a 1 1).bind fun v => Df d 78 28 [l0, l1, l2, l3, l4] (v :: st) h nx := D_getfield (ins_of mc_78 (pc := 25) (x := (.getfield 85, 3)) (by decide +kernel)) mo_78 (by decide +kernel)
theorem e_78_28 : Df d 78 28 [l0, .int x, l2, l3, l4] st h nx = Df d 78 29 [l0, .int x, l2, l3, l4] (.int x :: st) h nx := D_iload_n (ins_of mc_78 (pc := 28) (x := (.iload_n 1, 1)) (by decide +kernel)) rfl
theorem e_78_29 : Df d 78 29 [l0, l1, l2, l3, l4] (.int x :: .ref a :: st) h nx = (rR h a x).bind fun v => Df d 78 30 [l0, l1, l2, l3, l4] (.ref v :: st) h nx := D_aaload (ins_of mc_78 (pc := 29) (x := (.aaload, 1)) (by decide +kernel))
theorem e_78_30 (hn : nr l3 = true) : Df d 78 30 [l0, l1, l2, l3, l4] (.ref a :: st) h nx = Df d 78 31 [l0, l1, l2, .ref a, l4] st h nx := D_astore_n (ins_of mc_78 (pc := 30) (x := (.astore_n 3, 1)) (by decide +kernel)) rfl hn rfl
theorem e_78_31 : Df d 78 31 [l0, l1, l2, .ref a, l4] st h nx = Df d 78 32 [l0, l1, l2, .ref a, l4] (.ref a :: st) h nx := D_aload_n (ins_of mc_78 (pc := 31) (x := (.aload_n 3, 1)) (by decide +kernel)) rfl
theorem e_78_32 : Df d 78 32 [l0, l1, l2, l3, l4] (.ref a :: st) h nx = (gF h a 7 0).bind fun v => Df d 78 35 [l0, l1, l2, l3, l4] (v :: st) h nx := D_getfield (ins_of mc_78 (pc := 32) (x := (.getfield 89, 3)) (by decide +kernel)) mo_78 (by decide +kernel)
theorem e_78_35 (hn : nr l4 = true) : Df d 78 35 [l0, l1, l2, l3, l4] (.int x :: st) h nx = Df d 78 37 [l0, l1, l2, l3, .int x] st h nx := D_istore (ins_of mc_78 (pc := 35) (x := (.istore 4, 2)) (by decide +kernel)) rfl hn rfl
theorem e_78_37 : Df d 78 37 [l0, l1, l2, .ref a, l4] st h nx = Df d 78 38 [l0, l1, l2, .ref a, l4] (.ref a :: st) h nx := D_aload_n (ins_of mc_78 (pc := 37) (x := (.aload_n 3, 1)) (by decide +kernel)) rfl
theorem e_78_38 : Df d 78 38 [l0, l1, .int x, l3, l4] st h nx = Df d 78 39 [l0, l1, .int x, l3, l4] (.int x :: st) h nx := D_iload_n (ins_of mc_78 (pc := 38) (x := (.iload_n 2, 1)) (by decide +kernel)) rfl
theorem e_78_39 : Df d 78 39 [l0, l1, l2, l3, l4] (.int x :: .ref a :: st) h nx = (pF h a 7 0 (.int x)).bind fun h => Df d 78 42 [l0, l1, l2, l3, l4] st h nx := D_putfield (ins_of mc_78 (pc := 39) (x := (.putfield 89, 3)) (by decide +kernel)) mo_78 (by decide +kernel) rfl (Or.inl rfl)
theorem e_78_42 : Df d 78 42 [l0, l1, l2, l3, .int x] st h nx = Df d 78 44 [l0, l1, l2, l3, .int x] (.int x :: st) h nx := D_iload (ins_of mc_78 (pc := 42) (x := (.iload 4, 2)) (by decide +kernel)) rfl
theorem e_78_44 : Df d 78 44 [l0, l1, l2, l3, l4] [.int x] h nx = some (some (.int x), h, nx) := D_ireturn (ins_of mc_78 (pc := 44) (x := (.ireturn, 1)) (by decide +kernel)) mr_78
theorem mc_79 : mC 79 = prog_1_method_6_code := rfl
theorem mo_79 : mO 79 = 8 := rfl
theorem ml_79 : mL 79 = 6 := rfl
theorem mr_79 : mR 79 = (some .int) := rfl
theorem ma_79 : mA 79 = 3 := rfl
theorem e_79_0 : Df d 79 0 [.ref a, l1, l2, l3, l4, l5] st h nx = Df d 79 1 [.ref a, l1, l2, l3, l4, l5] (.ref a :: st) h nx := D_aload_n (ins_of mc_79 (pc := 0) (x := (.aload_n 0, 1)) (by decide +kernel)) rfl
theorem e_79_1 : Df d 79 1 [l0, l1, l2, l3, l4, l5] (.ref a :: st) h nx = (gF h a 8 0).bind fun v => Df d 79 4 [l0, l1, l2, l3, l4, l5] (v :: st) h nx := D_getfield (ins_of mc_79 (pc := 1) (x := (.getfield 12, 3)) (by decide +kernel)) mo_79 (by decide +kernel)
theorem e_79_4 : Df d 79 4 [l0, .int x, l2, l3, l4, l5] st h nx = Df d 79 5 [l0, .int x, l2, l3, l4, l5] (.int x :: st) h nx := D_iload_n (ins_of mc_79 (pc := 4) (x := (.iload_n 1, 1)) (by decide +kernel)) rfl
theorem e_79_5 : Df d 79 5 [l0, l1, l2, l3, l4, l5] [v0, .ref a] h nx = if ck h a 1 = true then cn d 79 8 [l0, l1, l2, l3, l4, l5] [] (Dn d 6 [.ref a, v0] h nx) else none := D_virtual (k1 := 6) (ins_of mc_79 (pc := 5) (x := (.invokevirtual 82, 3)) (by decide +kernel)) mo_79 (by decide +kernel) (by decide) rfl rfl (by decide) rfl (Nat.le_of_ble_eq_true rfl) rfl
theorem e_79_8 : Df d 79 8 [l0, l1, l2, l3, l4, l5] (.int x :: st) h nx = if x = 0 then Df d 79 38 [l0, l1, l2, l3, l4, l5] st h nx else Df d 79 11 [l0, l1, l2, l3, l4, l5] st h nx := D_if_eq (ins_of mc_79 (pc := 8) (x := (.ifCond .eq 30, 3)) (by decide +kernel)) (by decide)
theorem e_79_11 : Df d 79 11 [l0, l1, .int x, l3, l4, l5] st h nx = Df d 79 12 [l0, l1, .int x, l3, l4, l5] (.int x :: st) h nx := D_iload_n (ins_of mc_79 (pc := 11) (x := (.iload_n 2, 1)) (by decide +kernel)) rfl
theorem e_79_12 : Df d 79 12 [l0, l1, l2, l3, l4, l5] st h nx = Df d 79 13 [l0, l1, l2, l3, l4, l5] (.int 1 :: st) h nx := D_iconst (ins_of mc_79 (pc := 12) (x := (.iconst 1, 1)) (by decide +kernel)) (by decide)
theorem e_79_13 : Df d 79 13 [l0, l1, l2, l3, l4, l5] st h nx = Df d 79 16 [l0, l1, l2, l3, l4, l5] (.ref 1 :: st) h nx := D_getstatic (ins_of mc_79 (pc := 13) (x := (.getstatic 128, 3)) (by decide +kernel)) mo_79 (by decide +kernel)
theorem e_79_16 : Df d 79 16 [l0, l1, l2, l3, l4, l5] (.ref a :: st) h nx = (aL h a).bind fun v => Df d 79 17 [l0, l1, l2, l3, l4, l5] (.int v :: st) h nx := D_arraylength (ins_of mc_79 (pc := 16) (x := (.arraylength, 1)) (by decide +kernel))
theorem e_79_17 : Df d 79 17 [l0, l1, l2, l3, l4, l5] [v2, v1, v0] h nx = cn d 79 20 [l0, l1, l2, l3, l4, l5] [] (Dn d 74 [v0, v1, v2] h nx) := D_static (k1 := 74) (kd := 1) (ins_of mc_79 (pc := 17) (x := (.invokestatic 73, 3)) (by decide +kernel)) mo_79 (by decide +kernel) (by decide) rfl (Nat.le_of_ble_eq_true rfl) rfl (Nat.le_of_ble_eq_true rfl) rfl
theorem e_79_20 : Df d 79 20 [l0, l1, l2, l3, l4, l5] (.int x :: st) h nx = if x = 0 then Df d 79 38 [l0, l1, l2, l3, l4, l5] st h nx else Df d 79 23 [l0, l1, l2, l3, l4, l5] st h nx := D_if_eq (ins_of mc_79 (pc := 20) (x := (.ifCond .eq 18, 3)) (by decide +kernel)) (by decide)
theorem e_79_23 : Df d 79 23 [l0, l1, l2, .int x, l4, l5] st h nx = Df d 79 24 [l0, l1, l2, .int x, l4, l5] (.int x :: st) h nx := D_iload_n (ins_of mc_79 (pc := 23) (x := (.iload_n 3, 1)) (by decide +kernel)) rfl
theorem e_79_24 : Df d 79 24 [l0, l1, l2, l3, l4, l5] st h nx = Df d 79 25 [l0, l1, l2, l3, l4, l5] (.int 0 :: st) h nx := D_iconst (ins_of mc_79 (pc := 24) (x := (.iconst 0, 1)) (by decide +kernel)) (by decide)
theorem e_79_25 : Df d 79 25 [l0, l1, l2, l3, l4, l5] st h nx = Df d 79 28 [l0, l1, l2, l3, l4, l5] (.ref 1 :: st) h nx := D_getstatic (ins_of mc_79 (pc := 25) (x := (.getstatic 128, 3)) (by decide +kernel)) mo_79 (by decide +kernel)
theorem e_79_28 : Df d 79 28 [l0, l1, .int x, l3, l4, l5] st h nx = Df d 79 29 [l0, l1, .int x, l3, l4, l5] (.int x :: st) h nx := D_iload_n (ins_of mc_79 (pc := 28) (x := (.iload_n 2, 1)) (by decide +kernel)) rfl
theorem e_79_29 : Df d 79 29 [l0, l1, l2, l3, l4, l5] st h nx = Df d 79 30 [l0, l1, l2, l3, l4, l5] (.int 1 :: st) h nx := D_iconst (ins_of mc_79 (pc := 29) (x := (.iconst 1, 1)) (by decide +kernel)) (by decide)
theorem e_79_30 : Df d 79 30 [l0, l1, l2, l3, l4, l5] (.int y :: .int x :: st) h nx = Df d 79 31 [l0, l1, l2, l3, l4, l5] (.int (x - y) :: st) h nx := D_isub (ins_of mc_79 (pc := 30) (x := (.isub, 1)) (by decide +kernel))
theorem e_79_31 : Df d 79 31 [l0, l1, l2, l3, l4, l5] (.int x :: .ref a :: st) h nx = (rX h a x).bind fun v => Df d 79 32 [l0, l1, l2, l3, l4, l5] (.int v :: st) h nx := D_iaload (ins_of mc_79 (pc := 31) (x := (.iaload, 1)) (by decide +kernel))
theorem e_79_32 : Df d 79 32 [l0, l1, l2, l3, l4, l5] [v2, v1, v0] h nx = cn d 79 35 [l0, l1, l2, l3, l4, l5] [] (Dn d 74 [v0, v1, v2] h nx) := D_static (k1 := 74) (kd := 1) (ins_of mc_79 (pc := 32) (x := (.invokestatic 73, 3)) (by decide +kernel)) mo_79 (by decide +kernel) (by decide) rfl (Nat.le_of_ble_eq_true rfl) rfl (Nat.le_of_ble_eq_true rfl) rfl
theorem e_79_35 : Df d 79 35 [l0, l1, l2, l3, l4, l5] (.int x :: st) h nx = if x = 0 then Df d 79 38 [l0, l1, l2, l3, l4, l5] st h nx else Df d 79 41 [l0, l1, l2, l3, l4, l5] st h nx := D_if_ne (ins_of mc_79 (pc := 35) (x := (.ifCond .ne 6, 3)) (by decide +kernel)) (by decide)
theorem e_79_38 : Df d 79 38 [l0, l1, l2, l3, l4, l5] st h nx = Df d 79 40 [l0, l1, l2, l3, l4, l5] (.int (-1000000001) :: st) h nx := D_ldc (ins_of mc_79 (pc := 38) (x := (.ldc 77, 2)) (by decide +kernel)) mo_79 (by decide +kernel)
theorem e_79_40 : Df d 79 40 [l0, l1, l2, l3, l4, l5] [.int x] h nx = some (some (.int x), h, nx) := D_ireturn (ins_of mc_79 (pc := 40) (x := (.ireturn, 1)) (by decide +kernel)) mr_79
theorem e_79_41 : Df d 79 41 [.ref a, l1, l2, l3, l4, l5] st h nx = Df d 79 42 [.ref a, l1, l2, l3, l4, l5] (.ref a :: st) h nx := D_aload_n (ins_of mc_79 (pc := 41) (x := (.aload_n 0, 1)) (by decide +kernel)) rfl
theorem e_79_42 : Df d 79 42 [l0, l1, l2, l3, l4, l5] (.ref a :: st) h nx = (gF h a 8 0).bind fun v => Df d 79 45 [l0, l1, l2, l3, l4, l5] (v :: st) h nx := D_getfield (ins_of mc_79 (pc := 42) (x := (.getfield 12, 3)) (by decide +kernel)) mo_79 (by decide +kernel)
theorem e_79_45 : Df d 79 45 [l0, l1, l2, l3, l4, l5] (.ref a :: st) h nx = (gF h a 1 1).bind fun v => Df d 79 48 [l0, l1, l2, l3, l4, l5] (v :: st) h nx := D_getfield (ins_of mc_79 (pc := 45) (x := (.getfield 85, 3)) (by decide +kernel)) mo_79 (by decide +kernel)
theorem e_79_48 : Df d 79 48 [l0, .int x, l2, l3, l4, l5] st h nx = Df d 79 49 [l0, .int x, l2, l3, l4, l5] (.int x :: st) h nx := D_iload_n (ins_of mc_79 (pc := 48) (x := (.iload_n 1, 1)) (by decide +kernel)) rfl
theorem e_79_49 : Df d 79 49 [l0, l1, l2, l3, l4, l5] (.int x :: .ref a :: st) h nx = (rR h a x).bind fun v => Df d 79 50 [l0, l1, l2, l3, l4, l5] (.ref v :: st) h nx := D_aaload (ins_of mc_79 (pc := 49) (x := (.aaload, 1)) (by decide +kernel))
theorem e_79_50 (hn : nr l4 = true) : Df d 79 50 [l0, l1, l2, l3, l4, l5] (.ref a :: st) h nx = Df d 79 52 [l0, l1, l2, l3, .ref a, l5] st h nx := D_astore (ins_of mc_79 (pc := 50) (x := (.astore 4, 2)) (by decide +kernel)) rfl hn rfl
theorem e_79_52 : Df d 79 52 [l0, l1, .int x, l3, l4, l5] st h nx = Df d 79 53 [l0, l1, .int x, l3, l4, l5] (.int x :: st) h nx := D_iload_n (ins_of mc_79 (pc := 52) (x := (.iload_n 2, 1)) (by decide +kernel)) rfl
theorem e_79_53 : Df d 79 53 [l0, l1, l2, l3, l4, l5] st h nx = Df d 79 54 [l0, l1, l2, l3, l4, l5] (.int 1 :: st) h nx := D_iconst (ins_of mc_79 (pc := 53) (x := (.iconst 1, 1)) (by decide +kernel)) (by decide)
theorem e_79_54 : Df d 79 54 [l0, l1, l2, l3, l4, l5] (.int y :: .int x :: st) h nx = if x = y then Df d 79 57 [l0, l1, l2, l3, l4, l5] st h nx else Df d 79 73 [l0, l1, l2, l3, l4, l5] st h nx := D_icmp_ne (ins_of mc_79 (pc := 54) (x := (.if_icmp .ne 19, 3)) (by decide +kernel)) (by decide)
theorem e_79_57 : Df d 79 57 [l0, l1, l2, l3, .ref a, l5] st h nx = Df d 79 59 [l0, l1, l2, l3, .ref a, l5] (.ref a :: st) h nx := D_aload (ins_of mc_79 (pc := 57) (x := (.aload 4, 2)) (by decide +kernel)) rfl
theorem e_79_59 : Df d 79 59 [l0, l1, l2, l3, l4, l5] (.ref a :: st) h nx = (gF h a 7 1).bind fun v => Df d 79 62 [l0, l1, l2, l3, l4, l5] (v :: st) h nx := D_getfield (ins_of mc_79 (pc := 59) (x := (.getfield 94, 3)) (by decide +kernel)) mo_79 (by decide +kernel)
theorem e_79_62 (hn : nr l5 = true) : Df d 79 62 [l0, l1, l2, l3, l4, l5] (.int x :: st) h nx = Df d 79 64 [l0, l1, l2, l3, l4, .int x] st h nx := D_istore (ins_of mc_79 (pc := 62) (x := (.istore 5, 2)) (by decide +kernel)) rfl hn rfl
theorem e_79_64 : Df d 79 64 [l0, l1, l2, l3, .ref a, l5] st h nx = Df d 79 66 [l0, l1, l2, l3, .ref a, l5] (.ref a :: st) h nx := D_aload (ins_of mc_79 (pc := 64) (x := (.aload 4, 2)) (by decide +kernel)) rfl
theorem e_79_66 : Df d 79 66 [l0, l1, l2, .int x, l4, l5] st h nx = Df d 79 67 [l0, l1, l2, .int x, l4, l5] (.int x :: st) h nx := D_iload_n (ins_of mc_79 (pc := 66) (x := (.iload_n 3, 1)) (by decide +kernel)) rfl
theorem e_79_67 : Df d 79 67 [l0, l1, l2, l3, l4, l5] (.int x :: .ref a :: st) h nx = (pF h a 7 1 (.int x)).bind fun h => Df d 79 70 [l0, l1, l2, l3, l4, l5] st h nx := D_putfield (ins_of mc_79 (pc := 67) (x := (.putfield 94, 3)) (by decide +kernel)) mo_79 (by decide +kernel) rfl (Or.inl rfl)
theorem e_79_70 : Df d 79 70 [l0, l1, l2, l3, l4, l5] st h nx = Df d 79 107 [l0, l1, l2, l3, l4, l5] st h nx := D_goto (ins_of mc_79 (pc := 70) (x := (.goto 37, 3)) (by decide +kernel)) (by decide)
theorem e_79_73 : Df d 79 73 [l0, l1, .int x, l3, l4, l5] st h nx = Df d 79 74 [l0, l1, .int x, l3, l4, l5] (.int x :: st) h nx := D_iload_n (ins_of mc_79 (pc := 73) (x := (.iload_n 2, 1)) (by decide +kernel)) rfl
theorem e_79_74 : Df d 79 74 [l0, l1, l2, l3, l4, l5] st h nx = Df d 79 75 [l0, l1, l2, l3, l4, l5] (.int 2 :: st) h nx := D_iconst (ins_of mc_79 (pc := 74) (x := (.iconst 2, 1)) (by decide +kernel)) (by decide)
theorem e_79_75 : Df d 79 75 [l0, l1, l2, l3, l4, l5] (.int y :: .int x :: st) h nx = if x = y then Df d 79 78 [l0, l1, l2, l3, l4, l5] st h nx else Df d 79 94 [l0, l1, l2, l3, l4, l5] st h nx := D_icmp_ne (ins_of mc_79 (pc := 75) (x := (.if_icmp .ne 19, 3)) (by decide +kernel)) (by decide)
theorem e_79_78 : Df d 79 78 [l0, l1, l2, l3, .ref a, l5] st h nx = Df d 79 80 [l0, l1, l2, l3, .ref a, l5] (.ref a :: st) h nx := D_aload (ins_of mc_79 (pc := 78) (x := (.aload 4, 2)) (by decide +kernel)) rfl
theorem e_79_80 : Df d 79 80 [l0, l1, l2, l3, l4, l5] (.ref a :: st) h nx = (gF h a 7 2).bind fun v => Df d 79 83 [l0, l1, l2, l3, l4, l5] (v :: st) h nx := D_getfield (ins_of mc_79 (pc := 80) (x := (.getfield 97, 3)) (by decide +kernel)) mo_79 (by decide +kernel)
theorem e_79_83 (hn : nr l5 = true) : Df d 79 83 [l0, l1, l2, l3, l4, l5] (.int x :: st) h nx = Df d 79 85 [l0, l1, l2, l3, l4, .int x] st h nx := D_istore (ins_of mc_79 (pc := 83) (x := (.istore 5, 2)) (by decide +kernel)) rfl hn rfl
theorem e_79_85 : Df d 79 85 [l0, l1, l2, l3, .ref a, l5] st h nx = Df d 79 87 [l0, l1, l2, l3, .ref a, l5] (.ref a :: st) h nx := D_aload (ins_of mc_79 (pc := 85) (x := (.aload 4, 2)) (by decide +kernel)) rfl
theorem e_79_87 : Df d 79 87 [l0, l1, l2, .int x, l4, l5] st h nx = Df d 79 88 [l0, l1, l2, .int x, l4, l5] (.int x :: st) h nx := D_iload_n (ins_of mc_79 (pc := 87) (x := (.iload_n 3, 1)) (by decide +kernel)) rfl
theorem e_79_88 : Df d 79 88 [l0, l1, l2, l3, l4, l5] (.int x :: .ref a :: st) h nx = (pF h a 7 2 (.int x)).bind fun h => Df d 79 91 [l0, l1, l2, l3, l4, l5] st h nx := D_putfield (ins_of mc_79 (pc := 88) (x := (.putfield 97, 3)) (by decide +kernel)) mo_79 (by decide +kernel) rfl (Or.inl rfl)
theorem e_79_91 : Df d 79 91 [l0, l1, l2, l3, l4, l5] st h nx = Df d 79 107 [l0, l1, l2, l3, l4, l5] st h nx := D_goto (ins_of mc_79 (pc := 91) (x := (.goto 16, 3)) (by decide +kernel)) (by decide)
theorem e_79_94 : Df d 79 94 [l0, l1, l2, l3, .ref a, l5] st h nx = Df d 79 96 [l0, l1, l2, l3, .ref a, l5] (.ref a :: st) h nx := D_aload (ins_of mc_79 (pc := 94) (x := (.aload 4, 2)) (by decide +kernel)) rfl
theorem e_79_96 : Df d 79 96 [l0, l1, l2, l3, l4, l5] (.ref a :: st) h nx = (gF h a 7 3).bind fun v => Df d 79 99 [l0, l1, l2, l3, l4, l5] (v :: st) h nx := D_getfield (ins_of mc_79 (pc := 96) (x := (.getfield 100, 3)) (by decide +kernel)) mo_79 (by decide +kernel)
theorem e_79_99 (hn : nr l5 = true) : Df d 79 99 [l0, l1, l2, l3, l4, l5] (.int x :: st) h nx = Df d 79 101 [l0, l1, l2, l3, l4, .int x] st h nx := D_istore (ins_of mc_79 (pc := 99) (x := (.istore 5, 2)) (by decide +kernel)) rfl hn rfl
theorem e_79_101 : Df d 79 101 [l0, l1, l2, l3, .ref a, l5] st h nx = Df d 79 103 [l0, l1, l2, l3, .ref a, l5] (.ref a :: st) h nx := D_aload (ins_of mc_79 (pc := 101) (x := (.aload 4, 2)) (by decide +kernel)) rfl
theorem e_79_103 : Df d 79 103 [l0, l1, l2, .int x, l4, l5] st h nx = Df d 79 104 [l0, l1, l2, .int x, l4, l5] (.int x :: st) h nx := D_iload_n (ins_of mc_79 (pc := 103) (x := (.iload_n 3, 1)) (by decide +kernel)) rfl
theorem e_79_104 : Df d 79 104 [l0, l1, l2, l3, l4, l5] (.int x :: .ref a :: st) h nx = (pF h a 7 3 (.int x)).bind fun h => Df d 79 107 [l0, l1, l2, l3, l4, l5] st h nx := D_putfield (ins_of mc_79 (pc := 104) (x := (.putfield 100, 3)) (by decide +kernel)) mo_79 (by decide +kernel) rfl (Or.inl rfl)
theorem e_79_107 : Df d 79 107 [l0, l1, l2, l3, l4, .int x] st h nx = Df d 79 109 [l0, l1, l2, l3, l4, .int x] (.int x :: st) h nx := D_iload (ins_of mc_79 (pc := 107) (x := (.iload 5, 2)) (by decide +kernel)) rfl
theorem e_79_109 : Df d 79 109 [l0, l1, l2, l3, l4, l5] [.int x] h nx = some (some (.int x), h, nx) := D_ireturn (ins_of mc_79 (pc := 109) (x := (.ireturn, 1)) (by decide +kernel)) mr_79
theorem mc_80 : mC 80 = prog_1_method_7_code := rfl
theorem mo_80 : mO 80 = 8 := rfl
theorem ml_80 : mL 80 = 4 := rfl
theorem mr_80 : mR 80 = (some .int) := rfl
theorem ma_80 : mA 80 = 2 := rfl
theorem e_80_0 : Df d 80 0 [l0, .int x, l2, l3] st h nx = Df d 80 1 [l0, .int x, l2, l3] (.int x :: st) h nx := D_iload_n (ins_of mc_80 (pc := 0) (x := (.iload_n 1, 1)) (by decide +kernel)) rfl
theorem e_80_1 : Df d 80 1 [l0, l1, l2, l3] st h nx = Df d 80 2 [l0, l1, l2, l3] (.int 0 :: st) h nx := D_iconst (ins_of mc_80 (pc := 1) (x := (.iconst 0, 1)) (by decide +kernel)) (by decide)
theorem e_80_2 : Df d 80 2 [l0, l1, l2, l3] st h nx = Df d 80 4 [l0, l1, l2, l3] (.int 23 :: st) h nx := D_bipush (ins_of mc_80 (pc := 2) (x := (.bipush 23, 2)) (by decide +kernel)) (by decide)
theorem e_80_4 : Df d 80 4 [l0, l1, l2, l3] [v2, v1, v0] h nx = cn d 80 7 [l0, l1, l2, l3] [] (Dn d 74 [v0, v1, v2] h nx) := D_static (k1 := 74) (kd := 1) (ins_of mc_80 (pc := 4) (x := (.invokestatic 73, 3)) (by decide +kernel)) mo_80 (by decide +kernel) (by decide) rfl (Nat.le_of_ble_eq_true rfl) rfl (Nat.le_of_ble_eq_true rfl) rfl
theorem e_80_7 : Df d 80 7 [l0, l1, l2, l3] (.int x :: st) h nx = if x = 0 then Df d 80 20 [l0, l1, l2, l3] st h nx else Df d 80 10 [l0, l1, l2, l3] st h nx := D_if_eq (ins_of mc_80 (pc := 7) (x := (.ifCond .eq 13, 3)) (by decide +kernel)) (by decide)
theorem e_80_10 : Df d 80 10 [l0, l1, .int x, l3] st h nx = Df d 80 11 [l0, l1, .int x, l3] (.int x :: st) h nx := D_iload_n (ins_of mc_80 (pc := 10) (x := (.iload_n 2, 1)) (by decide +kernel)) rfl
theorem e_80_11 : Df d 80 11 [l0, l1, l2, l3] st h nx = Df d 80 12 [l0, l1, l2, l3] (.int 0 :: st) h nx := D_iconst (ins_of mc_80 (pc := 11) (x := (.iconst 0, 1)) (by decide +kernel)) (by decide)
theorem e_80_12 : Df d 80 12 [l0, l1, l2, l3] st h nx = Df d 80 14 [l0, l1, l2, l3] (.int 99 :: st) h nx := D_bipush (ins_of mc_80 (pc := 12) (x := (.bipush 99, 2)) (by decide +kernel)) (by decide)
theorem e_80_14 : Df d 80 14 [l0, l1, l2, l3] [v2, v1, v0] h nx = cn d 80 17 [l0, l1, l2, l3] [] (Dn d 74 [v0, v1, v2] h nx) := D_static (k1 := 74) (kd := 1) (ins_of mc_80 (pc := 14) (x := (.invokestatic 73, 3)) (by decide +kernel)) mo_80 (by decide +kernel) (by decide) rfl (Nat.le_of_ble_eq_true rfl) rfl (Nat.le_of_ble_eq_true rfl) rfl
theorem e_80_17 : Df d 80 17 [l0, l1, l2, l3] (.int x :: st) h nx = if x = 0 then Df d 80 20 [l0, l1, l2, l3] st h nx else Df d 80 23 [l0, l1, l2, l3] st h nx := D_if_ne (ins_of mc_80 (pc := 17) (x := (.ifCond .ne 6, 3)) (by decide +kernel)) (by decide)
theorem e_80_20 : Df d 80 20 [l0, l1, l2, l3] st h nx = Df d 80 22 [l0, l1, l2, l3] (.int (-1000000001) :: st) h nx := D_ldc (ins_of mc_80 (pc := 20) (x := (.ldc 77, 2)) (by decide +kernel)) mo_80 (by decide +kernel)
theorem e_80_22 : Df d 80 22 [l0, l1, l2, l3] [.int x] h nx = some (some (.int x), h, nx) := D_ireturn (ins_of mc_80 (pc := 22) (x := (.ireturn, 1)) (by decide +kernel)) mr_80
theorem e_80_23 : Df d 80 23 [.ref a, l1, l2, l3] st h nx = Df d 80 24 [.ref a, l1, l2, l3] (.ref a :: st) h nx := D_aload_n (ins_of mc_80 (pc := 23) (x := (.aload_n 0, 1)) (by decide +kernel)) rfl
theorem e_80_24 : Df d 80 24 [l0, l1, l2, l3] (.ref a :: st) h nx = (gF h a 8 0).bind fun v => Df d 80 27 [l0, l1, l2, l3] (v :: st) h nx := D_getfield (ins_of mc_80 (pc := 24) (x := (.getfield 12, 3)) (by decide +kernel)) mo_80 (by decide +kernel)
theorem e_80_27 : Df d 80 27 [l0, l1, l2, l3] (.ref a :: st) h nx = (gF h a 1 0).bind fun v => Df d 80 30 [l0, l1, l2, l3] (v :: st) h nx := D_getfield (ins_of mc_80 (pc := 27) (x := (.getfield 131, 3)) (by decide +kernel)) mo_80 (by decide +kernel)
theorem e_80_30 : Df d 80 30 [l0, .int x, l2, l3] st h nx = Df d 80 31 [l0, .int x, l2, l3] (.int x :: st) h nx := D_iload_n (ins_of mc_80 (pc := 30) (x := (.iload_n 1, 1)) (by decide +kernel)) rfl
theorem e_80_31 : Df d 80 31 [l0, l1, l2, l3] (.int x :: .ref a :: st) h nx = (rX h a x).bind fun v => Df d 80 32 [l0, l1, l2, l3] (.int v :: st) h nx := D_iaload (ins_of mc_80 (pc := 31) (x := (.iaload, 1)) (by decide +kernel))
theorem e_80_32 (hn : nr l3 = true) : Df d 80 32 [l0, l1, l2, l3] (.int x :: st) h nx = Df d 80 33 [l0, l1, l2, .int x] st h nx := D_istore_n (ins_of mc_80 (pc := 32) (x := (.istore_n 3, 1)) (by decide +kernel)) rfl hn rfl
theorem e_80_33 : Df d 80 33 [.ref a, l1, l2, l3] st h nx = Df d 80 34 [.ref a, l1, l2, l3] (.ref a :: st) h nx := D_aload_n (ins_of mc_80 (pc := 33) (x := (.aload_n 0, 1)) (by decide +kernel)) rfl
theorem e_80_34 : Df d 80 34 [l0, l1, l2, l3] (.ref a :: st) h nx = (gF h a 8 0).bind fun v => Df d 80 37 [l0, l1, l2, l3] (v :: st) h nx := D_getfield (ins_of mc_80 (pc := 34) (x := (.getfield 12, 3)) (by decide +kernel)) mo_80 (by decide +kernel)
theorem e_80_37 : Df d 80 37 [l0, l1, l2, l3] (.ref a :: st) h nx = (gF h a 1 0).bind fun v => Df d 80 40 [l0, l1, l2, l3] (v :: st) h nx := D_getfield (ins_of mc_80 (pc := 37) (x := (.getfield 131, 3)) (by decide +kernel)) mo_80 (by decide +kernel)
theorem e_80_40 : Df d 80 40 [l0, .int x, l2, l3] st h nx = Df d 80 41 [l0, .int x, l2, l3] (.int x :: st) h nx := D_iload_n (ins_of mc_80 (pc := 40) (x := (.iload_n 1, 1)) (by decide +kernel)) rfl
theorem e_80_41 : Df d 80 41 [l0, l1, .int x, l3] st h nx = Df d 80 42 [l0, l1, .int x, l3] (.int x :: st) h nx := D_iload_n (ins_of mc_80 (pc := 41) (x := (.iload_n 2, 1)) (by decide +kernel)) rfl
theorem e_80_42 : Df d 80 42 [l0, l1, l2, l3] (.int y :: .int x :: .ref a :: st) h nx = (wI h a x 0 y).bind fun h => Df d 80 43 [l0, l1, l2, l3] st h nx := D_iastore (ins_of mc_80 (pc := 42) (x := (.iastore, 1)) (by decide +kernel))
theorem e_80_43 : Df d 80 43 [l0, l1, l2, .int x] st h nx = Df d 80 44 [l0, l1, l2, .int x] (.int x :: st) h nx := D_iload_n (ins_of mc_80 (pc := 43) (x := (.iload_n 3, 1)) (by decide +kernel)) rfl
theorem e_80_44 : Df d 80 44 [l0, l1, l2, l3] [.int x] h nx = some (some (.int x), h, nx) := D_ireturn (ins_of mc_80 (pc := 44) (x := (.ireturn, 1)) (by decide +kernel)) mr_80
theorem mc_81 : mC 81 = prog_1_method_8_code := rfl
theorem mo_81 : mO 81 = 8 := rfl
theorem ml_81 : mL 81 = 3 := rfl
theorem mr_81 : mR 81 = (some .int) := rfl
theorem ma_81 : mA 81 = 2 := rfl
theorem e_81_0 : Df d 81 0 [l0, .int x, l2] st h nx = Df d 81 1 [l0, .int x, l2] (.int x :: st) h nx := D_iload_n (ins_of mc_81 (pc := 0) (x := (.iload_n 1, 1)) (by decide +kernel)) rfl
theorem e_81_1 : Df d 81 1 [l0, l1, l2] st h nx = Df d 81 2 [l0, l1, l2] (.int 0 :: st) h nx := D_iconst (ins_of mc_81 (pc := 1) (x := (.iconst 0, 1)) (by decide +kernel)) (by decide)
theorem e_81_2 : Df d 81 2 [l0, l1, l2] st h nx = Df d 81 5 [l0, l1, l2] (.ref 2 :: st) h nx := D_getstatic (ins_of mc_81 (pc := 2) (x := (.getstatic 134, 3)) (by decide +kernel)) mo_81 (by decide +kernel)
theorem e_81_5 : Df d 81 5 [l0, l1, l2] (.ref a :: st) h nx = (aL h a).bind fun v => Df d 81 6 [l0, l1, l2] (.int v :: st) h nx := D_arraylength (ins_of mc_81 (pc := 5) (x := (.arraylength, 1)) (by decide +kernel))
theorem e_81_6 : Df d 81 6 [l0, l1, l2] st h nx = Df d 81 7 [l0, l1, l2] (.int 1 :: st) h nx := D_iconst (ins_of mc_81 (pc := 6) (x := (.iconst 1, 1)) (by decide +kernel)) (by decide)
theorem e_81_7 : Df d 81 7 [l0, l1, l2] (.int y :: .int x :: st) h nx = Df d 81 8 [l0, l1, l2] (.int (x - y) :: st) h nx := D_isub (ins_of mc_81 (pc := 7) (x := (.isub, 1)) (by decide +kernel))
theorem e_81_8 : Df d 81 8 [l0, l1, l2] [v2, v1, v0] h nx = cn d 81 11 [l0, l1, l2] [] (Dn d 74 [v0, v1, v2] h nx) := D_static (k1 := 74) (kd := 1) (ins_of mc_81 (pc := 8) (x := (.invokestatic 73, 3)) (by decide +kernel)) mo_81 (by decide +kernel) (by decide) rfl (Nat.le_of_ble_eq_true rfl) rfl (Nat.le_of_ble_eq_true rfl) rfl
theorem e_81_11 : Df d 81 11 [l0, l1, l2] (.int x :: st) h nx = if x = 0 then Df d 81 31 [l0, l1, l2] st h nx else Df d 81 14 [l0, l1, l2] st h nx := D_if_eq (ins_of mc_81 (pc := 11) (x := (.ifCond .eq 20, 3)) (by decide +kernel)) (by decide)
theorem e_81_14 : Df d 81 14 [l0, l1, .int x] st h nx = Df d 81 15 [l0, l1, .int x] (.int x :: st) h nx := D_iload_n (ins_of mc_81 (pc := 14) (x := (.iload_n 2, 1)) (by decide +kernel)) rfl
theorem e_81_15 : Df d 81 15 [l0, l1, l2] st h nx = Df d 81 18 [l0, l1, l2] (.ref 3 :: st) h nx := D_getstatic (ins_of mc_81 (pc := 15) (x := (.getstatic 137, 3)) (by decide +kernel)) mo_81 (by decide +kernel)
theorem e_81_18 : Df d 81 18 [l0, .int x, l2] st h nx = Df d 81 19 [l0, .int x, l2] (.int x :: st) h nx := D_iload_n (ins_of mc_81 (pc := 18) (x := (.iload_n 1, 1)) (by decide +kernel)) rfl
theorem e_81_19 : Df d 81 19 [l0, l1, l2] (.int x :: .ref a :: st) h nx = (rX h a x).bind fun v => Df d 81 20 [l0, l1, l2] (.int v :: st) h nx := D_iaload (ins_of mc_81 (pc := 19) (x := (.iaload, 1)) (by decide +kernel))
theorem e_81_20 : Df d 81 20 [l0, l1, l2] st h nx = Df d 81 23 [l0, l1, l2] (.ref 2 :: st) h nx := D_getstatic (ins_of mc_81 (pc := 20) (x := (.getstatic 134, 3)) (by decide +kernel)) mo_81 (by decide +kernel)
theorem e_81_23 : Df d 81 23 [l0, .int x, l2] st h nx = Df d 81 24 [l0, .int x, l2] (.int x :: st) h nx := D_iload_n (ins_of mc_81 (pc := 23) (x := (.iload_n 1, 1)) (by decide +kernel)) rfl
theorem e_81_24 : Df d 81 24 [l0, l1, l2] (.int x :: .ref a :: st) h nx = (rX h a x).bind fun v => Df d 81 25 [l0, l1, l2] (.int v :: st) h nx := D_iaload (ins_of mc_81 (pc := 24) (x := (.iaload, 1)) (by decide +kernel))
theorem e_81_25 : Df d 81 25 [l0, l1, l2] [v2, v1, v0] h nx = cn d 81 28 [l0, l1, l2] [] (Dn d 74 [v0, v1, v2] h nx) := D_static (k1 := 74) (kd := 1) (ins_of mc_81 (pc := 25) (x := (.invokestatic 73, 3)) (by decide +kernel)) mo_81 (by decide +kernel) (by decide) rfl (Nat.le_of_ble_eq_true rfl) rfl (Nat.le_of_ble_eq_true rfl) rfl
theorem e_81_28 : Df d 81 28 [l0, l1, l2] (.int x :: st) h nx = if x = 0 then Df d 81 31 [l0, l1, l2] st h nx else Df d 81 34 [l0, l1, l2] st h nx := D_if_ne (ins_of mc_81 (pc := 28) (x := (.ifCond .ne 6, 3)) (by decide +kernel)) (by decide)
theorem e_81_31 : Df d 81 31 [l0, l1, l2] st h nx = Df d 81 33 [l0, l1, l2] (.int (-1000000001) :: st) h nx := D_ldc (ins_of mc_81 (pc := 31) (x := (.ldc 77, 2)) (by decide +kernel)) mo_81 (by decide +kernel)
theorem e_81_33 : Df d 81 33 [l0, l1, l2] [.int x] h nx = some (some (.int x), h, nx) := D_ireturn (ins_of mc_81 (pc := 33) (x := (.ireturn, 1)) (by decide +kernel)) mr_81
theorem e_81_34 : Df d 81 34 [.ref a, l1, l2] st h nx = Df d 81 35 [.ref a, l1, l2] (.ref a :: st) h nx := D_aload_n (ins_of mc_81 (pc := 34) (x := (.aload_n 0, 1)) (by decide +kernel)) rfl
theorem e_81_35 : Df d 81 35 [l0, l1, l2] (.ref a :: st) h nx = (gF h a 8 0).bind fun v => Df d 81 38 [l0, l1, l2] (v :: st) h nx := D_getfield (ins_of mc_81 (pc := 35) (x := (.getfield 12, 3)) (by decide +kernel)) mo_81 (by decide +kernel)
theorem e_81_38 : Df d 81 38 [l0, .int x, l2] st h nx = Df d 81 39 [l0, .int x, l2] (.int x :: st) h nx := D_iload_n (ins_of mc_81 (pc := 38) (x := (.iload_n 1, 1)) (by decide +kernel)) rfl
theorem e_81_39 : Df d 81 39 [l0, l1, .int x] st h nx = Df d 81 40 [l0, l1, .int x] (.int x :: st) h nx := D_iload_n (ins_of mc_81 (pc := 39) (x := (.iload_n 2, 1)) (by decide +kernel)) rfl
theorem e_81_40 : Df d 81 40 [l0, l1, l2] [v1, v0, .ref a] h nx = if ck h a 1 = true then cn d 81 43 [l0, l1, l2] [] (Dn d 11 [.ref a, v0, v1] h nx) else none := D_virtual (k1 := 11) (ins_of mc_81 (pc := 40) (x := (.invokevirtual 140, 3)) (by decide +kernel)) mo_81 (by decide +kernel) (by decide) rfl rfl (by decide) rfl (Nat.le_of_ble_eq_true rfl) rfl
theorem e_81_43 : Df d 81 43 [l0, l1, l2] [.int x] h nx = some (some (.int x), h, nx) := D_ireturn (ins_of mc_81 (pc := 43) (x := (.ireturn, 1)) (by decide +kernel)) mr_81
theorem mc_82 : mC 82 = prog_1_method_9_code := rfl
theorem mo_82 : mO 82 = 8 := rfl
theorem ml_82 : mL 82 = 4 := rfl
theorem mr_82 : mR 82 = (some .int) := rfl
theorem ma_82 : mA 82 = 1 := rfl
theorem e_82_0 : Df d 82 0 [l0, .int x, l2, l3] st h nx = Df d 82 1 [l0, .int x, l2, l3] (.int x :: st) h nx := D_iload_n (ins_of mc_82 (pc := 0) (x := (.iload_n 1, 1)) (by decide +kernel)) rfl
theorem e_82_1 : Df d 82 1 [l0, l1, l2, l3] st h nx = Df d 82 2 [l0, l1, l2, l3] (.int 1 :: st) h nx := D_iconst (ins_of mc_82 (pc := 1) (x := (.iconst 1, 1)) (by decide +kernel)) (by decide)
theorem e_82_2 : Df d 82 2 [l0, l1, l2, l3] st h nx = Df d 82 4 [l0, l1, l2, l3] (.int 10 :: st) h nx := D_bipush (ins_of mc_82 (pc := 2) (x := (.bipush 10, 2)) (by decide +kernel)) (by decide)
theorem e_82_4 : Df d 82 4 [l0, l1, l2, l3] [v2, v1, v0] h nx = cn d 82 7 [l0, l1, l2, l3] [] (Dn d 74 [v0, v1, v2] h nx) := D_static (k1 := 74) (kd := 1) (ins_of mc_82 (pc := 4) (x := (.invokestatic 73, 3)) (by decide +kernel)) mo_82 (by decide +kernel) (by decide) rfl (Nat.le_of_ble_eq_true rfl) rfl (Nat.le_of_ble_eq_true rfl) rfl
theorem e_82_7 : Df d 82 7 [l0, l1, l2, l3] (.int x :: st) h nx = if x = 0 then Df d 82 10 [l0, l1, l2, l3] st h nx else Df d 82 13 [l0, l1, l2, l3] st h nx := D_if_ne (ins_of mc_82 (pc := 7) (x := (.ifCond .ne 6, 3)) (by decide +kernel)) (by decide)
theorem e_82_10 : Df d 82 10 [l0, l1, l2, l3] st h nx = Df d 82 12 [l0, l1, l2, l3] (.int (-1000000001) :: st) h nx := D_ldc (ins_of mc_82 (pc := 10) (x := (.ldc 77, 2)) (by decide +kernel)) mo_82 (by decide +kernel)
theorem e_82_12 : Df d 82 12 [l0, l1, l2, l3] [.int x] h nx = some (some (.int x), h, nx) := D_ireturn (ins_of mc_82 (pc := 12) (x := (.ireturn, 1)) (by decide +kernel)) mr_82
theorem e_82_13 : Df d 82 13 [l0, .int x, l2, l3] st h nx = Df d 82 14 [l0, .int x, l2, l3] (.int x :: st) h nx := D_iload_n (ins_of mc_82 (pc := 13) (x := (.iload_n 1, 1)) (by decide +kernel)) rfl
theorem e_82_14 : Df d 82 14 [l0, l1, l2, l3] st h nx = Df d 82 16 [l0, l1, l2, l3] (.int 10 :: st) h nx := D_bipush (ins_of mc_82 (pc := 14) (x := (.bipush 10, 2)) (by decide +kernel)) (by decide)
theorem e_82_16 : Df d 82 16 [.ref a, l1, l2, l3] st h nx = Df d 82 17 [.ref a, l1, l2, l3] (.ref a :: st) h nx := D_aload_n (ins_of mc_82 (pc := 16) (x := (.aload_n 0, 1)) (by decide +kernel)) rfl
theorem e_82_17 : Df d 82 17 [l0, l1, l2, l3] (.ref a :: st) h nx = (gF h a 8 0).bind fun v => Df d 82 20 [l0, l1, l2, l3] (v :: st) h nx := D_getfield (ins_of mc_82 (pc := 17) (x := (.getfield 12, 3)) (by decide +kernel)) mo_82 (by decide +kernel)
theorem e_82_20 : Df d 82 20 [l0, l1, l2, l3] (.ref a :: st) h nx = (gF h a 1 2).bind fun v => Df d 82 23 [l0, l1, l2, l3] (v :: st) h nx := D_getfield (ins_of mc_82 (pc := 20) (x := (.getfield 144, 3)) (by decide +kernel)) mo_82 (by decide +kernel)
theorem e_82_23 : Df d 82 23 [l0, l1, l2, l3] (.int y :: .int x :: st) h nx = Df d 82 24 [l0, l1, l2, l3] (.int (x - y) :: st) h nx := D_isub (ins_of mc_82 (pc := 23) (x := (.isub, 1)) (by decide +kernel))
theorem e_82_24 : Df d 82 24 [l0, l1, l2, l3] [v1, v0] h nx = cn d 82 27 [l0, l1, l2, l3] [] (Dn d 211 [v0, v1] h nx) := D_static (k1 := 211) (kd := 1) (ins_of mc_82 (pc := 24) (x := (.invokestatic 147, 3)) (by decide +kernel)) mo_82 (by decide +kernel) (by decide) rfl (Nat.le_of_ble_eq_true rfl) rfl (Nat.le_of_ble_eq_true rfl) rfl
theorem e_82_27 (hn : nr l2 = true) : Df d 82 27 [l0, l1, l2, l3] (.int x :: st) h nx = Df d 82 28 [l0, l1, .int x, l3] st h nx := D_istore_n (ins_of mc_82 (pc := 27) (x := (.istore_n 2, 1)) (by decide +kernel)) rfl hn rfl
theorem e_82_28 : Df d 82 28 [l0, l1, l2, l3] st h nx = Df d 82 29 [l0, l1, l2, l3] (.int 0 :: st) h nx := D_iconst (ins_of mc_82 (pc := 28) (x := (.iconst 0, 1)) (by decide +kernel)) (by decide)
theorem e_82_29 (hn : nr l3 = true) : Df d 82 29 [l0, l1, l2, l3] (.int x :: st) h nx = Df d 82 30 [l0, l1, l2, .int x] st h nx := D_istore_n (ins_of mc_82 (pc := 29) (x := (.istore_n 3, 1)) (by decide +kernel)) rfl hn rfl
theorem e_82_30 : Df d 82 30 [l0, l1, l2, .int x] st h nx = Df d 82 31 [l0, l1, l2, .int x] (.int x :: st) h nx := D_iload_n (ins_of mc_82 (pc := 30) (x := (.iload_n 3, 1)) (by decide +kernel)) rfl
theorem e_82_31 : Df d 82 31 [l0, l1, .int x, l3] st h nx = Df d 82 32 [l0, l1, .int x, l3] (.int x :: st) h nx := D_iload_n (ins_of mc_82 (pc := 31) (x := (.iload_n 2, 1)) (by decide +kernel)) rfl
theorem e_82_32 : Df d 82 32 [l0, l1, l2, l3] (.int y :: .int x :: st) h nx = if y ≤ x then Df d 82 48 [l0, l1, l2, l3] st h nx else Df d 82 35 [l0, l1, l2, l3] st h nx := D_icmp_ge (ins_of mc_82 (pc := 32) (x := (.if_icmp .ge 16, 3)) (by decide +kernel)) (by decide)
theorem e_82_35 : Df d 82 35 [.ref a, l1, l2, l3] st h nx = Df d 82 36 [.ref a, l1, l2, l3] (.ref a :: st) h nx := D_aload_n (ins_of mc_82 (pc := 35) (x := (.aload_n 0, 1)) (by decide +kernel)) rfl
theorem e_82_36 : Df d 82 36 [l0, l1, l2, l3] (.ref a :: st) h nx = (gF h a 8 0).bind fun v => Df d 82 39 [l0, l1, l2, l3] (v :: st) h nx := D_getfield (ins_of mc_82 (pc := 36) (x := (.getfield 12, 3)) (by decide +kernel)) mo_82 (by decide +kernel)
theorem e_82_39 : Df d 82 39 [l0, l1, l2, l3] [.ref a] h nx = if ck h a 1 = true then cn d 82 42 [l0, l1, l2, l3] [] (Dn d 12 [.ref a] h nx) else none := D_virtual (k1 := 12) (ins_of mc_82 (pc := 39) (x := (.invokevirtual 152, 3)) (by decide +kernel)) mo_82 (by decide +kernel) (by decide) rfl rfl (by decide) rfl (Nat.le_of_ble_eq_true rfl) rfl
theorem e_82_42 : Df d 82 42 [l0, l1, l2, .int x] st h nx = Df d 82 45 [l0, l1, l2, .int (x + 1)] st h nx := D_iinc (ins_of mc_82 (pc := 42) (x := (.iinc 3 1, 3)) (by decide +kernel)) rfl (by decide) rfl
theorem e_82_45 : Df d 82 45 [l0, l1, l2, l3] st h nx = Df d 82 30 [l0, l1, l2, l3] st h nx := D_goto (ins_of mc_82 (pc := 45) (x := (.goto (-15), 3)) (by decide +kernel)) (by decide)
theorem e_82_48 : Df d 82 48 [l0, l1, .int x, l3] st h nx = Df d 82 49 [l0, l1, .int x, l3] (.int x :: st) h nx := D_iload_n (ins_of mc_82 (pc := 48) (x := (.iload_n 2, 1)) (by decide +kernel)) rfl
theorem e_82_49 : Df d 82 49 [l0, l1, l2, l3] [.int x] h nx = some (some (.int x), h, nx) := D_ireturn (ins_of mc_82 (pc := 49) (x := (.ireturn, 1)) (by decide +kernel)) mr_82
theorem mc_83 : mC 83 = prog_1_method_10_code := rfl
theorem mo_83 : mO 83 = 8 := rfl
theorem ml_83 : mL 83 = 3 := rfl
theorem mr_83 : mR 83 = (some .int) := rfl
theorem ma_83 : mA 83 = 1 := rfl
theorem e_83_0 : Df d 83 0 [.ref a, l1, l2] st h nx = Df d 83 1 [.ref a, l1, l2] (.ref a :: st) h nx := D_aload_n (ins_of mc_83 (pc := 0) (x := (.aload_n 0, 1)) (by decide +kernel)) rfl
theorem e_83_1 : Df d 83 1 [l0, l1, l2] (.ref a :: st) h nx = (gF h a 8 0).bind fun v => Df d 83 4 [l0, l1, l2] (v :: st) h nx := D_getfield (ins_of mc_83 (pc := 1) (x := (.getfield 12, 3)) (by decide +kernel)) mo_83 (by decide +kernel)
theorem e_83_4 : Df d 83 4 [l0, l1, l2] (.ref a :: st) h nx = (gF h a 1 11).bind fun v => Df d 83 7 [l0, l1, l2] (v :: st) h nx := D_getfield (ins_of mc_83 (pc := 4) (x := (.getfield 155, 3)) (by decide +kernel)) mo_83 (by decide +kernel)
theorem e_83_7 (hn : nr l2 = true) : Df d 83 7 [l0, l1, l2] (.int x :: st) h nx = Df d 83 8 [l0, l1, .int x] st h nx := D_istore_n (ins_of mc_83 (pc := 7) (x := (.istore_n 2, 1)) (by decide +kernel)) rfl hn rfl
theorem e_83_8 : Df d 83 8 [.ref a, l1, l2] st h nx = Df d 83 9 [.ref a, l1, l2] (.ref a :: st) h nx := D_aload_n (ins_of mc_83 (pc := 8) (x := (.aload_n 0, 1)) (by decide +kernel)) rfl
theorem e_83_9 : Df d 83 9 [l0, l1, l2] (.ref a :: st) h nx = (gF h a 8 0).bind fun v => Df d 83 12 [l0, l1, l2] (v :: st) h nx := D_getfield (ins_of mc_83 (pc := 9) (x := (.getfield 12, 3)) (by decide +kernel)) mo_83 (by decide +kernel)
theorem e_83_12 : Df d 83 12 [l0, .int x, l2] st h nx = Df d 83 13 [l0, .int x, l2] (.int x :: st) h nx := D_iload_n (ins_of mc_83 (pc := 12) (x := (.iload_n 1, 1)) (by decide +kernel)) rfl
theorem e_83_13 : Df d 83 13 [l0, l1, l2] (.int x :: .ref a :: st) h nx = (pF h a 1 11 (.int x)).bind fun h => Df d 83 16 [l0, l1, l2] st h nx := D_putfield (ins_of mc_83 (pc := 13) (x := (.putfield 155, 3)) (by decide +kernel)) mo_83 (by decide +kernel) rfl (Or.inl rfl)
theorem e_83_16 : Df d 83 16 [l0, l1, .int x] st h nx = Df d 83 17 [l0, l1, .int x] (.int x :: st) h nx := D_iload_n (ins_of mc_83 (pc := 16) (x := (.iload_n 2, 1)) (by decide +kernel)) rfl
theorem e_83_17 : Df d 83 17 [l0, l1, l2] [.int x] h nx = some (some (.int x), h, nx) := D_ireturn (ins_of mc_83 (pc := 17) (x := (.ireturn, 1)) (by decide +kernel)) mr_83
theorem mc_84 : mC 84 = prog_1_method_11_code := rfl
theorem mo_84 : mO 84 = 8 := rfl
theorem ml_84 : mL 84 = 3 := rfl
theorem mr_84 : mR 84 = (some .int) := rfl
theorem ma_84 : mA 84 = 1 := rfl
theorem e_84_0 : Df d 84 0 [l0, .int x, l2] st h nx = Df d 84 1 [l0, .int x, l2] (.int x :: st) h nx := D_iload_n (ins_of mc_84 (pc := 0) (x := (.iload_n 1, 1)) (by decide +kernel)) rfl
theorem e_84_1 : Df d 84 1 [l0, l1, l2] st h nx = Df d 84 2 [l0, l1, l2] (.int 1 :: st) h nx := D_iconst (ins_of mc_84 (pc := 1) (x := (.iconst 1, 1)) (by decide +kernel)) (by decide)
theorem e_84_2 : Df d 84 2 [l0, l1, l2] st h nx = Df d 84 4 [l0, l1, l2] (.int 100 :: st) h nx := D_bipush (ins_of mc_84 (pc := 2) (x := (.bipush 100, 2)) (by decide +kernel)) (by decide)
theorem e_84_4 : Df d 84 4 [l0, l1, l2] [v2, v1, v0] h nx = cn d 84 7 [l0, l1, l2] [] (Dn d 74 [v0, v1, v2] h nx) := D_static (k1 := 74) (kd := 1) (ins_of mc_84 (pc := 4) (x := (.invokestatic 73, 3)) (by decide +kernel)) mo_84 (by decide +kernel) (by decide) rfl (Nat.le_of_ble_eq_true rfl) rfl (Nat.le_of_ble_eq_true rfl) rfl
theorem e_84_7 : Df d 84 7 [l0, l1, l2] (.int x :: st) h nx = if x = 0 then Df d 84 10 [l0, l1, l2] st h nx else Df d 84 13 [l0, l1, l2] st h nx := D_if_ne (ins_of mc_84 (pc := 7) (x := (.ifCond .ne 6, 3)) (by decide +kernel)) (by decide)
theorem e_84_10 : Df d 84 10 [l0, l1, l2] st h nx = Df d 84 12 [l0, l1, l2] (.int (-1000000001) :: st) h nx := D_ldc (ins_of mc_84 (pc := 10) (x := (.ldc 77, 2)) (by decide +kernel)) mo_84 (by decide +kernel)
theorem e_84_12 : Df d 84 12 [l0, l1, l2] [.int x] h nx = some (some (.int x), h, nx) := D_ireturn (ins_of mc_84 (pc := 12) (x := (.ireturn, 1)) (by decide +kernel)) mr_84
theorem e_84_13 : Df d 84 13 [.ref a, l1, l2] st h nx = Df d 84 14 [.ref a, l1, l2] (.ref a :: st) h nx := D_aload_n (ins_of mc_84 (pc := 13) (x := (.aload_n 0, 1)) (by decide +kernel)) rfl
theorem e_84_14 : Df d 84 14 [l0, l1, l2] (.ref a :: st) h nx = (gF h a 8 0).bind fun v => Df d 84 17 [l0, l1, l2] (v :: st) h nx := D_getfield (ins_of mc_84 (pc := 14) (x := (.getfield 12, 3)) (by decide +kernel)) mo_84 (by decide +kernel)
theorem e_84_17 : Df d 84 17 [l0, l1, l2] (.ref a :: st) h nx = (gF h a 1 8).bind fun v => Df d 84 20 [l0, l1, l2] (v :: st) h nx := D_getfield (ins_of mc_84 (pc := 17) (x := (.getfield 158, 3)) (by decide +kernel)) mo_84 (by decide +kernel)
theorem e_84_20 (hn : nr l2 = true) : Df d 84 20 [l0, l1, l2] (.int x :: st) h nx = Df d 84 21 [l0, l1, .int x] st h nx := D_istore_n (ins_of mc_84 (pc := 20) (x := (.istore_n 2, 1)) (by decide +kernel)) rfl hn rfl
theorem e_84_21 : Df d 84 21 [.ref a, l1, l2] st h nx = Df d 84 22 [.ref a, l1, l2] (.ref a :: st) h nx := D_aload_n (ins_of mc_84 (pc := 21) (x := (.aload_n 0, 1)) (by decide +kernel)) rfl
theorem e_84_22 : Df d 84 22 [.ref a, l1, l2] st h nx = Df d 84 23 [.ref a, l1, l2] (.ref a :: st) h nx := D_aload_n (ins_of mc_84 (pc := 22) (x := (.aload_n 0, 1)) (by decide +kernel)) rfl
theorem e_84_23 : Df d 84 23 [l0, l1, l2] (.ref a :: st) h nx = (gF h a 8 0).bind fun v => Df d 84 26 [l0, l1, l2] (v :: st) h nx := D_getfield (ins_of mc_84 (pc := 23) (x := (.getfield 12, 3)) (by decide +kernel)) mo_84 (by decide +kernel)
theorem e_84_26 : Df d 84 26 [l0, .int x, l2] st h nx = Df d 84 27 [l0, .int x, l2] (.int x :: st) h nx := D_iload_n (ins_of mc_84 (pc := 26) (x := (.iload_n 1, 1)) (by decide +kernel)) rfl
theorem e_84_27 : Df d 84 27 [l0, l1, l2] st h nx = Df d 84 30 [l0, l1, l2] (.int 9999 :: st) h nx := D_sipush (ins_of mc_84 (pc := 27) (x := (.sipush 9999, 3)) (by decide +kernel)) (by decide)
theorem e_84_30 : Df d 84 30 [.ref a, l1, l2] st h nx = Df d 84 31 [.ref a, l1, l2] (.ref a :: st) h nx := D_aload_n (ins_of mc_84 (pc := 30) (x := (.aload_n 0, 1)) (by decide +kernel)) rfl
theorem e_84_31 : Df d 84 31 [l0, l1, l2] (.ref a :: st) h nx = (gF h a 8 0).bind fun v => Df d 84 34 [l0, l1, l2] (v :: st) h nx := D_getfield (ins_of mc_84 (pc := 31) (x := (.getfield 12, 3)) (by decide +kernel)) mo_84 (by decide +kernel)
theorem e_84_34 : Df d 84 34 [l0, l1, l2] (.ref a :: st) h nx = (gF h a 1 10).bind fun v => Df d 84 37 [l0, l1, l2] (v :: st) h nx := D_getfield (ins_of mc_84 (pc := 34) (x := (.getfield 161, 3)) (by decide +kernel)) mo_84 (by decide +kernel)
theorem e_84_37 : Df d 84 37 [l0, l1, l2] (.int y :: .int x :: st) h nx = Df d 84 38 [l0, l1, l2] (.int (x - y) :: st) h nx := D_isub (ins_of mc_84 (pc := 37) (x := (.isub, 1)) (by decide +kernel))
theorem e_84_38 : Df d 84 38 [l0, l1, l2] [v1, v0, s0, s1] h nx = cn d 84 41 [l0, l1, l2] [s0, s1] (Dn d 211 [v0, v1] h nx) := D_static (k1 := 211) (kd := 1) (ins_of mc_84 (pc := 38) (x := (.invokestatic 147, 3)) (by decide +kernel)) mo_84 (by decide +kernel) (by decide) rfl (Nat.le_of_ble_eq_true rfl) rfl (Nat.le_of_ble_eq_true rfl) rfl
theorem e_84_41 : Df d 84 41 [l0, l1, l2] [v1, v0, .ref a] h nx = if ck h a 8 = true then cn d 84 44 [l0, l1, l2] [] (Dn d 85 [.ref a, v0, v1] h nx) else none := D_virtual (k1 := 85) (ins_of mc_84 (pc := 41) (x := (.invokevirtual 164, 3)) (by decide +kernel)) mo_84 (by decide +kernel) (by decide) rfl rfl (by decide) rfl (Nat.le_of_ble_eq_true rfl) rfl
theorem e_84_44 : Df d 84 44 [.ref a, l1, l2] st h nx = Df d 84 45 [.ref a, l1, l2] (.ref a :: st) h nx := D_aload_n (ins_of mc_84 (pc := 44) (x := (.aload_n 0, 1)) (by decide +kernel)) rfl
theorem e_84_45 : Df d 84 45 [l0, l1, l2] (.ref a :: st) h nx = (gF h a 8 0).bind fun v => Df d 84 48 [l0, l1, l2] (v :: st) h nx := D_getfield (ins_of mc_84 (pc := 45) (x := (.getfield 12, 3)) (by decide +kernel)) mo_84 (by decide +kernel)
theorem e_84_48 : Df d 84 48 [l0, l1, l2] (.ref a :: st) h nx = (gF h a 1 8).bind fun v => Df d 84 51 [l0, l1, l2] (v :: st) h nx := D_getfield (ins_of mc_84 (pc := 48) (x := (.getfield 158, 3)) (by decide +kernel)) mo_84 (by decide +kernel)
theorem e_84_51 : Df d 84 51 [l0, l1, .int x] st h nx = Df d 84 52 [l0, l1, .int x] (.int x :: st) h nx := D_iload_n (ins_of mc_84 (pc := 51) (x := (.iload_n 2, 1)) (by decide +kernel)) rfl
theorem e_84_52 : Df d 84 52 [l0, l1, l2] (.int y :: .int x :: st) h nx = Df d 84 53 [l0, l1, l2] (.int (x - y) :: st) h nx := D_isub (ins_of mc_84 (pc := 52) (x := (.isub, 1)) (by decide +kernel))
theorem e_84_53 : Df d 84 53 [l0, l1, l2] [.int x] h nx = some (some (.int x), h, nx) := D_ireturn (ins_of mc_84 (pc := 53) (x := (.ireturn, 1)) (by decide +kernel)) mr_84
theorem mc_85 : mC 85 = prog_1_method_47_code := rfl
theorem mo_85 : mO 85 = 8 := rfl
theorem ml_85 : mL 85 = 4 := rfl
theorem mr_85 : mR 85 = none := rfl
theorem ma_85 : mA 85 = 2 := rfl
theorem e_85_0 : Df d 85 0 [l0, l1, l2, l3] st h nx = Df d 85 1 [l0, l1, l2, l3] (.int 0 :: st) h nx := D_iconst (ins_of mc_85 (pc := 0) (x := (.iconst 0, 1)) (by decide +kernel)) (by decide)
theorem e_85_1 (hn : nr l3 = true) : Df d 85 1 [l0, l1, l2, l3] (.int x :: st) h nx = Df d 85 2 [l0, l1, l2, .int x] st h nx := D_istore_n (ins_of mc_85 (pc := 1) (x := (.istore_n 3, 1)) (by decide +kernel)) rfl hn rfl
theorem e_85_2 : Df d 85 2 [l0, l1, l2, .int x] st h nx = Df d 85 3 [l0, l1, l2, .int x] (.int x :: st) h nx := D_iload_n (ins_of mc_85 (pc := 2) (x := (.iload_n 3, 1)) (by decide +kernel)) rfl
theorem e_85_3 : Df d 85 3 [l0, l1, .int x, l3] st h nx = Df d 85 4 [l0, l1, .int x, l3] (.int x :: st) h nx := D_iload_n (ins_of mc_85 (pc := 3) (x := (.iload_n 2, 1)) (by decide +kernel)) rfl
theorem e_85_4 : Df d 85 4 [l0, l1, l2, l3] (.int y :: .int x :: st) h nx = if y ≤ x then Df d 85 22 [l0, l1, l2, l3] st h nx else Df d 85 7 [l0, l1, l2, l3] st h nx := D_icmp_ge (ins_of mc_85 (pc := 4) (x := (.if_icmp .ge 18, 3)) (by decide +kernel)) (by decide)
theorem e_85_7 : Df d 85 7 [l0, .ref a, l2, l3] st h nx = Df d 85 8 [l0, .ref a, l2, l3] (.ref a :: st) h nx := D_aload_n (ins_of mc_85 (pc := 7) (x := (.aload_n 1, 1)) (by decide +kernel)) rfl
theorem e_85_8 : Df d 85 8 [.ref a, l1, l2, l3] st h nx = Df d 85 9 [.ref a, l1, l2, l3] (.ref a :: st) h nx := D_aload_n (ins_of mc_85 (pc := 8) (x := (.aload_n 0, 1)) (by decide +kernel)) rfl
theorem e_85_9 : Df d 85 9 [l0, l1, l2, l3] (.ref a :: st) h nx = (gF h a 8 4).bind fun v => Df d 85 12 [l0, l1, l2, l3] (v :: st) h nx := D_getfield (ins_of mc_85 (pc := 9) (x := (.getfield 32, 3)) (by decide +kernel)) mo_85 (by decide +kernel)
theorem e_85_12 : Df d 85 12 [l0, l1, l2, l3] st h nx = Df d 85 13 [l0, l1, l2, l3] (.int 1 :: st) h nx := D_iconst (ins_of mc_85 (pc := 12) (x := (.iconst 1, 1)) (by decide +kernel)) (by decide)
theorem e_85_13 : Df d 85 13 [l0, l1, l2, l3] [v1, v0, .ref a] h nx = if ck h a 1 = true then cn d 85 16 [l0, l1, l2, l3] [] (Dn d 14 [.ref a, v0, v1] h nx) else none := D_virtual (k1 := 14) (ins_of mc_85 (pc := 13) (x := (.invokevirtual 208, 3)) (by decide +kernel)) mo_85 (by decide +kernel) (by decide) rfl rfl (by decide) rfl (Nat.le_of_ble_eq_true rfl) rfl
theorem e_85_16 : Df d 85 16 [l0, l1, l2, .int x] st h nx = Df d 85 19 [l0, l1, l2, .int (x + 1)] st h nx := D_iinc (ins_of mc_85 (pc := 16) (x := (.iinc 3 1, 3)) (by decide +kernel)) rfl (by decide) rfl
theorem e_85_19 : Df d 85 19 [l0, l1, l2, l3] st h nx = Df d 85 2 [l0, l1, l2, l3] st h nx := D_goto (ins_of mc_85 (pc := 19) (x := (.goto (-17), 3)) (by decide +kernel)) (by decide)
theorem e_85_22 : Df d 85 22 [l0, l1, l2, l3] [] h nx = some (none, h, nx) := D_return (ins_of mc_85 (pc := 22) (x := (.return_, 1)) (by decide +kernel)) mr_85
theorem mc_86 : mC 86 = prog_1_method_12_code := rfl
theorem mo_86 : mO 86 = 8 := rfl
theorem ml_86 : mL 86 = 2 := rfl
theorem mr_86 : mR 86 = (some .int) := rfl
theorem ma_86 : mA 86 = 1 := rfl
theorem e_86_0 : Df d 86 0 [l0, .int x] st h nx = Df d 86 1 [l0, .int x] (.int x :: st) h nx := D_iload_n (ins_of mc_86 (pc := 0) (x := (.iload_n 1, 1)) (by decide +kernel)) rfl
theorem e_86_1 : Df d 86 1 [l0, l1] (.int x :: st) h nx = if x = 0 then Df d 86 44 [l0, l1] st h nx else if x = 1 then Df d 86 52 [l0, l1] st h nx else if x = 2 then Df d 86 76 [l0, l1] st h nx else if x = 3 then Df d 86 84 [l0, l1] st h nx else if x = 4 then Df d 86 92 [l0, l1] st h nx else if x = 5 then Df d 86 100 [l0, l1] st h nx else if x = 6 then Df d 86 108 [l0, l1] st h nx else Df d 86 116 [l0, l1] st h nx := by
  have hi := (ins_of mc_86 (pc := 1) (x := (.tableswitch 115 0 6 #[43, 51, 75, 83, 91, 99, 107], 43)) (by decide +kernel))
  by_cases q0 : x = 0
  · subst q0
    rw [if_pos rfl]
    exact D_tswI (off := 43) hi (by decide) (by decide) (by decide)
  rw [if_neg q0]
  by_cases q1 : x = 1
  · subst q1
    rw [if_pos rfl]
    exact D_tswI (off := 51) hi (by decide) (by decide) (by decide)
  rw [if_neg q1]
  by_cases q2 : x = 2
  · subst q2
    rw [if_pos rfl]
    exact D_tswI (off := 75) hi (by decide) (by decide) (by decide)
  rw [if_neg q2]
  by_cases q3 : x = 3
  · subst q3
    rw [if_pos rfl]
    exact D_tswI (off := 83) hi (by decide) (by decide) (by decide)
  rw [if_neg q3]
  by_cases q4 : x = 4
  · subst q4
    rw [if_pos rfl]
    exact D_tswI (off := 91) hi (by decide) (by decide) (by decide)
  rw [if_neg q4]
  by_cases q5 : x = 5
  · subst q5
    rw [if_pos rfl]
    exact D_tswI (off := 99) hi (by decide) (by decide) (by decide)
  rw [if_neg q5]
  by_cases q6 : x = 6
  · subst q6
    rw [if_pos rfl]
    exact D_tswI (off := 107) hi (by decide) (by decide) (by decide)
  rw [if_neg q6]
  have r0 : x.toInt ≠ 0 := fun z => q0 (Int32.toInt_inj.mp (z.trans (by decide)))
  have r1 : x.toInt ≠ 1 := fun z => q1 (Int32.toInt_inj.mp (z.trans (by decide)))
  have r2 : x.toInt ≠ 2 := fun z => q2 (Int32.toInt_inj.mp (z.trans (by decide)))
  have r3 : x.toInt ≠ 3 := fun z => q3 (Int32.toInt_inj.mp (z.trans (by decide)))
  have r4 : x.toInt ≠ 4 := fun z => q4 (Int32.toInt_inj.mp (z.trans (by decide)))
  have r5 : x.toInt ≠ 5 := fun z => q5 (Int32.toInt_inj.mp (z.trans (by decide)))
  have r6 : x.toInt ≠ 6 := fun z => q6 (Int32.toInt_inj.mp (z.trans (by decide)))
  exact D_tswO hi (by omega) (by decide)
theorem e_86_44 : Df d 86 44 [.ref a, l1] st h nx = Df d 86 45 [.ref a, l1] (.ref a :: st) h nx := D_aload_n (ins_of mc_86 (pc := 44) (x := (.aload_n 0, 1)) (by decide +kernel)) rfl
theorem e_86_45 : Df d 86 45 [l0, l1] (.ref a :: st) h nx = (gF h a 8 0).bind fun v => Df d 86 48 [l0, l1] (v :: st) h nx := D_getfield (ins_of mc_86 (pc := 45) (x := (.getfield 12, 3)) (by decide +kernel)) mo_86 (by decide +kernel)
theorem e_86_48 : Df d 86 48 [l0, l1] (.ref a :: st) h nx = (gF h a 1 3).bind fun v => Df d 86 51 [l0, l1] (v :: st) h nx := D_getfield (ins_of mc_86 (pc := 48) (x := (.getfield 168, 3)) (by decide +kernel)) mo_86 (by decide +kernel)
theorem e_86_51 : Df d 86 51 [l0, l1] [.int x] h nx = some (some (.int x), h, nx) := D_ireturn (ins_of mc_86 (pc := 51) (x := (.ireturn, 1)) (by decide +kernel)) mr_86
theorem e_86_52 : Df d 86 52 [.ref a, l1] st h nx = Df d 86 53 [.ref a, l1] (.ref a :: st) h nx := D_aload_n (ins_of mc_86 (pc := 52) (x := (.aload_n 0, 1)) (by decide +kernel)) rfl
theorem e_86_53 : Df d 86 53 [l0, l1] (.ref a :: st) h nx = (gF h a 8 0).bind fun v => Df d 86 56 [l0, l1] (v :: st) h nx := D_getfield (ins_of mc_86 (pc := 53) (x := (.getfield 12, 3)) (by decide +kernel)) mo_86 (by decide +kernel)
theorem e_86_56 : Df d 86 56 [l0, l1] [.ref a] h nx = if ck h a 1 = true then cn d 86 59 [l0, l1] [] (Dn d 15 [.ref a] h nx) else none := D_virtual (k1 := 15) (ins_of mc_86 (pc := 56) (x := (.invokevirtual 171, 3)) (by decide +kernel)) mo_86 (by decide +kernel) (by decide) rfl rfl (by decide) rfl (Nat.le_of_ble_eq_true rfl) rfl
theorem e_86_59 : Df d 86 59 [l0, l1] st h nx = Df d 86 60 [l0, l1] (.int (-1) :: st) h nx := D_iconst (ins_of mc_86 (pc := 59) (x := (.iconst (-1), 1)) (by decide +kernel)) (by decide)
theorem e_86_60 : Df d 86 60 [l0, l1] (.int y :: .int x :: st) h nx = if x = y then Df d 86 63 [l0, l1] st h nx else Df d 86 68 [l0, l1] st h nx := D_icmp_ne (ins_of mc_86 (pc := 60) (x := (.if_icmp .ne 8, 3)) (by decide +kernel)) (by decide)
theorem e_86_63 : Df d 86 63 [l0, l1] st h nx = Df d 86 65 [l0, l1] (.int (-1000000005) :: st) h nx := D_ldc (ins_of mc_86 (pc := 63) (x := (.ldc 174, 2)) (by decide +kernel)) mo_86 (by decide +kernel)
theorem e_86_65 : Df d 86 65 [l0, l1] st h nx = Df d 86 75 [l0, l1] st h nx := D_goto (ins_of mc_86 (pc := 65) (x := (.goto 10, 3)) (by decide +kernel)) (by decide)
theorem e_86_68 : Df d 86 68 [.ref a, l1] st h nx = Df d 86 69 [.ref a, l1] (.ref a :: st) h nx := D_aload_n (ins_of mc_86 (pc := 68) (x := (.aload_n 0, 1)) (by decide +kernel)) rfl
theorem e_86_69 : Df d 86 69 [l0, l1] (.ref a :: st) h nx = (gF h a 8 0).bind fun v => Df d 86 72 [l0, l1] (v :: st) h nx := D_getfield (ins_of mc_86 (pc := 69) (x := (.getfield 12, 3)) (by decide +kernel)) mo_86 (by decide +kernel)
theorem e_86_72 : Df d 86 72 [l0, l1] [.ref a] h nx = if ck h a 1 = true then cn d 86 75 [l0, l1] [] (Dn d 15 [.ref a] h nx) else none := D_virtual (k1 := 15) (ins_of mc_86 (pc := 72) (x := (.invokevirtual 171, 3)) (by decide +kernel)) mo_86 (by decide +kernel) (by decide) rfl rfl (by decide) rfl (Nat.le_of_ble_eq_true rfl) rfl
theorem e_86_75 : Df d 86 75 [l0, l1] [.int x] h nx = some (some (.int x), h, nx) := D_ireturn (ins_of mc_86 (pc := 75) (x := (.ireturn, 1)) (by decide +kernel)) mr_86
theorem e_86_76 : Df d 86 76 [.ref a, l1] st h nx = Df d 86 77 [.ref a, l1] (.ref a :: st) h nx := D_aload_n (ins_of mc_86 (pc := 76) (x := (.aload_n 0, 1)) (by decide +kernel)) rfl
theorem e_86_77 : Df d 86 77 [l0, l1] (.ref a :: st) h nx = (gF h a 8 0).bind fun v => Df d 86 80 [l0, l1] (v :: st) h nx := D_getfield (ins_of mc_86 (pc := 77) (x := (.getfield 12, 3)) (by decide +kernel)) mo_86 (by decide +kernel)
theorem e_86_80 : Df d 86 80 [l0, l1] (.ref a :: st) h nx = (gF h a 1 8).bind fun v => Df d 86 83 [l0, l1] (v :: st) h nx := D_getfield (ins_of mc_86 (pc := 80) (x := (.getfield 158, 3)) (by decide +kernel)) mo_86 (by decide +kernel)
theorem e_86_83 : Df d 86 83 [l0, l1] [.int x] h nx = some (some (.int x), h, nx) := D_ireturn (ins_of mc_86 (pc := 83) (x := (.ireturn, 1)) (by decide +kernel)) mr_86
theorem e_86_84 : Df d 86 84 [.ref a, l1] st h nx = Df d 86 85 [.ref a, l1] (.ref a :: st) h nx := D_aload_n (ins_of mc_86 (pc := 84) (x := (.aload_n 0, 1)) (by decide +kernel)) rfl
theorem e_86_85 : Df d 86 85 [l0, l1] (.ref a :: st) h nx = (gF h a 8 0).bind fun v => Df d 86 88 [l0, l1] (v :: st) h nx := D_getfield (ins_of mc_86 (pc := 85) (x := (.getfield 12, 3)) (by decide +kernel)) mo_86 (by decide +kernel)
theorem e_86_88 : Df d 86 88 [l0, l1] (.ref a :: st) h nx = (gF h a 1 9).bind fun v => Df d 86 91 [l0, l1] (v :: st) h nx := D_getfield (ins_of mc_86 (pc := 88) (x := (.getfield 175, 3)) (by decide +kernel)) mo_86 (by decide +kernel)
theorem e_86_91 : Df d 86 91 [l0, l1] [.int x] h nx = some (some (.int x), h, nx) := D_ireturn (ins_of mc_86 (pc := 91) (x := (.ireturn, 1)) (by decide +kernel)) mr_86
theorem e_86_92 : Df d 86 92 [.ref a, l1] st h nx = Df d 86 93 [.ref a, l1] (.ref a :: st) h nx := D_aload_n (ins_of mc_86 (pc := 92) (x := (.aload_n 0, 1)) (by decide +kernel)) rfl
theorem e_86_93 : Df d 86 93 [l0, l1] (.ref a :: st) h nx = (gF h a 8 0).bind fun v => Df d 86 96 [l0, l1] (v :: st) h nx := D_getfield (ins_of mc_86 (pc := 93) (x := (.getfield 12, 3)) (by decide +kernel)) mo_86 (by decide +kernel)
theorem e_86_96 : Df d 86 96 [l0, l1] [.ref a] h nx = if ck h a 1 = true then cn d 86 99 [l0, l1] [] (Dn d 20 [.ref a] h nx) else none := D_virtual (k1 := 20) (ins_of mc_86 (pc := 96) (x := (.invokevirtual 178, 3)) (by decide +kernel)) mo_86 (by decide +kernel) (by decide) rfl rfl (by decide) rfl (Nat.le_of_ble_eq_true rfl) rfl
theorem e_86_99 : Df d 86 99 [l0, l1] [.int x] h nx = some (some (.int x), h, nx) := D_ireturn (ins_of mc_86 (pc := 99) (x := (.ireturn, 1)) (by decide +kernel)) mr_86
theorem e_86_100 : Df d 86 100 [.ref a, l1] st h nx = Df d 86 101 [.ref a, l1] (.ref a :: st) h nx := D_aload_n (ins_of mc_86 (pc := 100) (x := (.aload_n 0, 1)) (by decide +kernel)) rfl
theorem e_86_101 : Df d 86 101 [l0, l1] (.ref a :: st) h nx = (gF h a 8 0).bind fun v => Df d 86 104 [l0, l1] (v :: st) h nx := D_getfield (ins_of mc_86 (pc := 101) (x := (.getfield 12, 3)) (by decide +kernel)) mo_86 (by decide +kernel)
theorem e_86_104 : Df d 86 104 [l0, l1] [.ref a] h nx = if ck h a 1 = true then cn d 86 107 [l0, l1] [] (Dn d 21 [.ref a] h nx) else none := D_virtual (k1 := 21) (ins_of mc_86 (pc := 104) (x := (.invokevirtual 181, 3)) (by decide +kernel)) mo_86 (by decide +kernel) (by decide) rfl rfl (by decide) rfl (Nat.le_of_ble_eq_true rfl) rfl
theorem e_86_107 : Df d 86 107 [l0, l1] [.int x] h nx = some (some (.int x), h, nx) := D_ireturn (ins_of mc_86 (pc := 107) (x := (.ireturn, 1)) (by decide +kernel)) mr_86
theorem e_86_108 : Df d 86 108 [.ref a, l1] st h nx = Df d 86 109 [.ref a, l1] (.ref a :: st) h nx := D_aload_n (ins_of mc_86 (pc := 108) (x := (.aload_n 0, 1)) (by decide +kernel)) rfl
theorem e_86_109 : Df d 86 109 [l0, l1] (.ref a :: st) h nx = (gF h a 8 0).bind fun v => Df d 86 112 [l0, l1] (v :: st) h nx := D_getfield (ins_of mc_86 (pc := 109) (x := (.getfield 12, 3)) (by decide +kernel)) mo_86 (by decide +kernel)
theorem e_86_112 : Df d 86 112 [l0, l1] [.ref a] h nx = if ck h a 1 = true then cn d 86 115 [l0, l1] [] (Dn d 22 [.ref a] h nx) else none := D_virtual (k1 := 22) (ins_of mc_86 (pc := 112) (x := (.invokevirtual 184, 3)) (by decide +kernel)) mo_86 (by decide +kernel) (by decide) rfl rfl (by decide) rfl (Nat.le_of_ble_eq_true rfl) rfl
theorem e_86_115 : Df d 86 115 [l0, l1] [.int x] h nx = some (some (.int x), h, nx) := D_ireturn (ins_of mc_86 (pc := 115) (x := (.ireturn, 1)) (by decide +kernel)) mr_86
theorem e_86_116 : Df d 86 116 [l0, l1] st h nx = Df d 86 118 [l0, l1] (.int (-1000000001) :: st) h nx := D_ldc (ins_of mc_86 (pc := 116) (x := (.ldc 77, 2)) (by decide +kernel)) mo_86 (by decide +kernel)
theorem e_86_118 : Df d 86 118 [l0, l1] [.int x] h nx = some (some (.int x), h, nx) := D_ireturn (ins_of mc_86 (pc := 118) (x := (.ireturn, 1)) (by decide +kernel)) mr_86
theorem mc_87 : mC 87 = prog_1_method_13_code := rfl
theorem mo_87 : mO 87 = 8 := rfl
theorem ml_87 : mL 87 = 3 := rfl
theorem mr_87 : mR 87 = (some .int) := rfl
theorem ma_87 : mA 87 = 2 := rfl
theorem e_87_0 : Df d 87 0 [l0, .int x, l2] st h nx = Df d 87 1 [l0, .int x, l2] (.int x :: st) h nx := D_iload_n (ins_of mc_87 (pc := 0) (x := (.iload_n 1, 1)) (by decide +kernel)) rfl
theorem e_87_1 : Df d 87 1 [l0, l1, l2] st h nx = Df d 87 2 [l0, l1, l2] (.int 0 :: st) h nx := D_iconst (ins_of mc_87 (pc := 1) (x := (.iconst 0, 1)) (by decide +kernel)) (by decide)
theorem e_87_2 : Df d 87 2 [l0, l1, l2] st h nx = Df d 87 4 [l0, l1, l2] (.int 100 :: st) h nx := D_bipush (ins_of mc_87 (pc := 2) (x := (.bipush 100, 2)) (by decide +kernel)) (by decide)
theorem e_87_4 : Df d 87 4 [l0, l1, l2] [v2, v1, v0] h nx = cn d 87 7 [l0, l1, l2] [] (Dn d 74 [v0, v1, v2] h nx) := D_static (k1 := 74) (kd := 1) (ins_of mc_87 (pc := 4) (x := (.invokestatic 73, 3)) (by decide +kernel)) mo_87 (by decide +kernel) (by decide) rfl (Nat.le_of_ble_eq_true rfl) rfl (Nat.le_of_ble_eq_true rfl) rfl
theorem e_87_7 : Df d 87 7 [l0, l1, l2] (.int x :: st) h nx = if x = 0 then Df d 87 27 [l0, l1, l2] st h nx else Df d 87 10 [l0, l1, l2] st h nx := D_if_eq (ins_of mc_87 (pc := 7) (x := (.ifCond .eq 20, 3)) (by decide +kernel)) (by decide)
theorem e_87_10 : Df d 87 10 [l0, l1, .int x] st h nx = Df d 87 11 [l0, l1, .int x] (.int x :: st) h nx := D_iload_n (ins_of mc_87 (pc := 10) (x := (.iload_n 2, 1)) (by decide +kernel)) rfl
theorem e_87_11 : Df d 87 11 [l0, l1, l2] st h nx = Df d 87 12 [l0, l1, l2] (.int 0 :: st) h nx := D_iconst (ins_of mc_87 (pc := 11) (x := (.iconst 0, 1)) (by decide +kernel)) (by decide)
theorem e_87_12 : Df d 87 12 [l0, l1, l2] st h nx = Df d 87 13 [l0, l1, l2] (.int 2 :: st) h nx := D_iconst (ins_of mc_87 (pc := 12) (x := (.iconst 2, 1)) (by decide +kernel)) (by decide)
theorem e_87_13 : Df d 87 13 [.ref a, l1, l2] st h nx = Df d 87 14 [.ref a, l1, l2] (.ref a :: st) h nx := D_aload_n (ins_of mc_87 (pc := 13) (x := (.aload_n 0, 1)) (by decide +kernel)) rfl
theorem e_87_14 : Df d 87 14 [l0, l1, l2] (.ref a :: st) h nx = (gF h a 8 0).bind fun v => Df d 87 17 [l0, l1, l2] (v :: st) h nx := D_getfield (ins_of mc_87 (pc := 14) (x := (.getfield 12, 3)) (by decide +kernel)) mo_87 (by decide +kernel)
theorem e_87_17 : Df d 87 17 [l0, l1, l2] (.ref a :: st) h nx = (gF h a 1 2).bind fun v => Df d 87 20 [l0, l1, l2] (v :: st) h nx := D_getfield (ins_of mc_87 (pc := 17) (x := (.getfield 144, 3)) (by decide +kernel)) mo_87 (by decide +kernel)
theorem e_87_20 : Df d 87 20 [l0, l1, l2] (.int y :: .int x :: st) h nx = Df d 87 21 [l0, l1, l2] (.int (x + y) :: st) h nx := D_iadd (ins_of mc_87 (pc := 20) (x := (.iadd, 1)) (by decide +kernel))
theorem e_87_21 : Df d 87 21 [l0, l1, l2] [v2, v1, v0] h nx = cn d 87 24 [l0, l1, l2] [] (Dn d 74 [v0, v1, v2] h nx) := D_static (k1 := 74) (kd := 1) (ins_of mc_87 (pc := 21) (x := (.invokestatic 73, 3)) (by decide +kernel)) mo_87 (by decide +kernel) (by decide) rfl (Nat.le_of_ble_eq_true rfl) rfl (Nat.le_of_ble_eq_true rfl) rfl
theorem e_87_24 : Df d 87 24 [l0, l1, l2] (.int x :: st) h nx = if x = 0 then Df d 87 27 [l0, l1, l2] st h nx else Df d 87 30 [l0, l1, l2] st h nx := D_if_ne (ins_of mc_87 (pc := 24) (x := (.ifCond .ne 6, 3)) (by decide +kernel)) (by decide)
theorem e_87_27 : Df d 87 27 [l0, l1, l2] st h nx = Df d 87 29 [l0, l1, l2] (.int (-1000000001) :: st) h nx := D_ldc (ins_of mc_87 (pc := 27) (x := (.ldc 77, 2)) (by decide +kernel)) mo_87 (by decide +kernel)
theorem e_87_29 : Df d 87 29 [l0, l1, l2] [.int x] h nx = some (some (.int x), h, nx) := D_ireturn (ins_of mc_87 (pc := 29) (x := (.ireturn, 1)) (by decide +kernel)) mr_87
theorem e_87_30 : Df d 87 30 [.ref a, l1, l2] st h nx = Df d 87 31 [.ref a, l1, l2] (.ref a :: st) h nx := D_aload_n (ins_of mc_87 (pc := 30) (x := (.aload_n 0, 1)) (by decide +kernel)) rfl
theorem e_87_31 : Df d 87 31 [l0, l1, l2] (.ref a :: st) h nx = (gF h a 8 2).bind fun v => Df d 87 34 [l0, l1, l2] (v :: st) h nx := D_getfield (ins_of mc_87 (pc := 31) (x := (.getfield 19, 3)) (by decide +kernel)) mo_87 (by decide +kernel)
theorem e_87_34 : Df d 87 34 [.ref a, l1, l2] st h nx = Df d 87 35 [.ref a, l1, l2] (.ref a :: st) h nx := D_aload_n (ins_of mc_87 (pc := 34) (x := (.aload_n 0, 1)) (by decide +kernel)) rfl
theorem e_87_35 : Df d 87 35 [l0, l1, l2] (.ref a :: st) h nx = (gF h a 8 0).bind fun v => Df d 87 38 [l0, l1, l2] (v :: st) h nx := D_getfield (ins_of mc_87 (pc := 35) (x := (.getfield 12, 3)) (by decide +kernel)) mo_87 (by decide +kernel)
theorem e_87_38 : Df d 87 38 [l0, l1, l2] [v0, .ref a] h nx = if ck h a 1 = true then cn d 87 41 [l0, l1, l2] [] (Dn d 23 [.ref a, v0] h nx) else none := D_virtual (k1 := 23) (ins_of mc_87 (pc := 38) (x := (.invokevirtual 187, 3)) (by decide +kernel)) mo_87 (by decide +kernel) (by decide) rfl rfl (by decide) rfl (Nat.le_of_ble_eq_true rfl) rfl
theorem e_87_41 : Df d 87 41 [.ref a, l1, l2] st h nx = Df d 87 42 [.ref a, l1, l2] (.ref a :: st) h nx := D_aload_n (ins_of mc_87 (pc := 41) (x := (.aload_n 0, 1)) (by decide +kernel)) rfl
theorem e_87_42 : Df d 87 42 [.ref a, l1, l2] st h nx = Df d 87 43 [.ref a, l1, l2] (.ref a :: st) h nx := D_aload_n (ins_of mc_87 (pc := 42) (x := (.aload_n 0, 1)) (by decide +kernel)) rfl
theorem e_87_43 : Df d 87 43 [l0, l1, l2] (.ref a :: st) h nx = (gF h a 8 2).bind fun v => Df d 87 46 [l0, l1, l2] (v :: st) h nx := D_getfield (ins_of mc_87 (pc := 43) (x := (.getfield 19, 3)) (by decide +kernel)) mo_87 (by decide +kernel)
theorem e_87_46 : Df d 87 46 [l0, .int x, l2] st h nx = Df d 87 47 [l0, .int x, l2] (.int x :: st) h nx := D_iload_n (ins_of mc_87 (pc := 46) (x := (.iload_n 1, 1)) (by decide +kernel)) rfl
theorem e_87_47 : Df d 87 47 [l0, l1, l2] [v1, v0, .ref a] h nx = if ck h a 8 = true then cn d 87 50 [l0, l1, l2] [] (Dn d 85 [.ref a, v0, v1] h nx) else none := D_virtual (k1 := 85) (ins_of mc_87 (pc := 47) (x := (.invokevirtual 164, 3)) (by decide +kernel)) mo_87 (by decide +kernel) (by decide) rfl rfl (by decide) rfl (Nat.le_of_ble_eq_true rfl) rfl
theorem e_87_50 : Df d 87 50 [l0, l1, .int x] st h nx = Df d 87 51 [l0, l1, .int x] (.int x :: st) h nx := D_iload_n (ins_of mc_87 (pc := 50) (x := (.iload_n 2, 1)) (by decide +kernel)) rfl
theorem e_87_51 : Df d 87 51 [l0, l1, l2] (.int x :: st) h nx = if x = 0 then Df d 87 76 [l0, l1, l2] st h nx else if x = 1 then Df d 87 84 [l0, l1, l2] st h nx else if x = 2 then Df d 87 92 [l0, l1, l2] st h nx else Df d 87 100 [l0, l1, l2] st h nx := by
  have hi := (ins_of mc_87 (pc := 51) (x := (.tableswitch 49 0 2 #[25, 33, 41], 25)) (by decide +kernel))
  by_cases q0 : x = 0
  · subst q0
    rw [if_pos rfl]
    exact D_tswI (off := 25) hi (by decide) (by decide) (by decide)
  rw [if_neg q0]
  by_cases q1 : x = 1
  · subst q1
    rw [if_pos rfl]
    exact D_tswI (off := 33) hi (by decide) (by decide) (by decide)
  rw [if_neg q1]
  by_cases q2 : x = 2
  · subst q2
    rw [if_pos rfl]
    exact D_tswI (off := 41) hi (by decide) (by decide) (by decide)
  rw [if_neg q2]
  have r0 : x.toInt ≠ 0 := fun z => q0 (Int32.toInt_inj.mp (z.trans (by decide)))
  have r1 : x.toInt ≠ 1 := fun z => q1 (Int32.toInt_inj.mp (z.trans (by decide)))
  have r2 : x.toInt ≠ 2 := fun z => q2 (Int32.toInt_inj.mp (z.trans (by decide)))
  exact D_tswO hi (by omega) (by decide)
theorem e_87_76 : Df d 87 76 [.ref a, l1, l2] st h nx = Df d 87 77 [.ref a, l1, l2] (.ref a :: st) h nx := D_aload_n (ins_of mc_87 (pc := 76) (x := (.aload_n 0, 1)) (by decide +kernel)) rfl
theorem e_87_77 : Df d 87 77 [l0, l1, l2] (.ref a :: st) h nx = (gF h a 8 2).bind fun v => Df d 87 80 [l0, l1, l2] (v :: st) h nx := D_getfield (ins_of mc_87 (pc := 77) (x := (.getfield 19, 3)) (by decide +kernel)) mo_87 (by decide +kernel)
theorem e_87_80 : Df d 87 80 [l0, l1, l2] (.ref a :: st) h nx = (gF h a 1 3).bind fun v => Df d 87 83 [l0, l1, l2] (v :: st) h nx := D_getfield (ins_of mc_87 (pc := 80) (x := (.getfield 168, 3)) (by decide +kernel)) mo_87 (by decide +kernel)
theorem e_87_83 : Df d 87 83 [l0, l1, l2] [.int x] h nx = some (some (.int x), h, nx) := D_ireturn (ins_of mc_87 (pc := 83) (x := (.ireturn, 1)) (by decide +kernel)) mr_87
theorem e_87_84 : Df d 87 84 [.ref a, l1, l2] st h nx = Df d 87 85 [.ref a, l1, l2] (.ref a :: st) h nx := D_aload_n (ins_of mc_87 (pc := 84) (x := (.aload_n 0, 1)) (by decide +kernel)) rfl
theorem e_87_85 : Df d 87 85 [l0, l1, l2] (.ref a :: st) h nx = (gF h a 8 2).bind fun v => Df d 87 88 [l0, l1, l2] (v :: st) h nx := D_getfield (ins_of mc_87 (pc := 85) (x := (.getfield 19, 3)) (by decide +kernel)) mo_87 (by decide +kernel)
theorem e_87_88 : Df d 87 88 [l0, l1, l2] (.ref a :: st) h nx = (gF h a 1 8).bind fun v => Df d 87 91 [l0, l1, l2] (v :: st) h nx := D_getfield (ins_of mc_87 (pc := 88) (x := (.getfield 158, 3)) (by decide +kernel)) mo_87 (by decide +kernel)
theorem e_87_91 : Df d 87 91 [l0, l1, l2] [.int x] h nx = some (some (.int x), h, nx) := D_ireturn (ins_of mc_87 (pc := 91) (x := (.ireturn, 1)) (by decide +kernel)) mr_87
theorem e_87_92 : Df d 87 92 [.ref a, l1, l2] st h nx = Df d 87 93 [.ref a, l1, l2] (.ref a :: st) h nx := D_aload_n (ins_of mc_87 (pc := 92) (x := (.aload_n 0, 1)) (by decide +kernel)) rfl
theorem e_87_93 : Df d 87 93 [l0, l1, l2] (.ref a :: st) h nx = (gF h a 8 2).bind fun v => Df d 87 96 [l0, l1, l2] (v :: st) h nx := D_getfield (ins_of mc_87 (pc := 93) (x := (.getfield 19, 3)) (by decide +kernel)) mo_87 (by decide +kernel)
theorem e_87_96 : Df d 87 96 [l0, l1, l2] [.ref a] h nx = if ck h a 1 = true then cn d 87 99 [l0, l1, l2] [] (Dn d 20 [.ref a] h nx) else none := D_virtual (k1 := 20) (ins_of mc_87 (pc := 96) (x := (.invokevirtual 178, 3)) (by decide +kernel)) mo_87 (by decide +kernel) (by decide) rfl rfl (by decide) rfl (Nat.le_of_ble_eq_true rfl) rfl
theorem e_87_99 : Df d 87 99 [l0, l1, l2] [.int x] h nx = some (some (.int x), h, nx) := D_ireturn (ins_of mc_87 (pc := 99) (x := (.ireturn, 1)) (by decide +kernel)) mr_87
theorem e_87_100 : Df d 87 100 [.ref a, l1, l2] st h nx = Df d 87 101 [.ref a, l1, l2] (.ref a :: st) h nx := D_aload_n (ins_of mc_87 (pc := 100) (x := (.aload_n 0, 1)) (by decide +kernel)) rfl
theorem e_87_101 : Df d 87 101 [l0, l1, l2] (.ref a :: st) h nx = (gF h a 8 2).bind fun v => Df d 87 104 [l0, l1, l2] (v :: st) h nx := D_getfield (ins_of mc_87 (pc := 101) (x := (.getfield 19, 3)) (by decide +kernel)) mo_87 (by decide +kernel)
theorem e_87_104 : Df d 87 104 [l0, l1, .int x] st h nx = Df d 87 105 [l0, l1, .int x] (.int x :: st) h nx := D_iload_n (ins_of mc_87 (pc := 104) (x := (.iload_n 2, 1)) (by decide +kernel)) rfl
theorem e_87_105 : Df d 87 105 [l0, l1, l2] st h nx = Df d 87 106 [l0, l1, l2] (.int 3 :: st) h nx := D_iconst (ins_of mc_87 (pc := 105) (x := (.iconst 3, 1)) (by decide +kernel)) (by decide)
theorem e_87_106 : Df d 87 106 [l0, l1, l2] (.int y :: .int x :: st) h nx = Df d 87 107 [l0, l1, l2] (.int (x - y) :: st) h nx := D_isub (ins_of mc_87 (pc := 106) (x := (.isub, 1)) (by decide +kernel))
theorem e_87_107 : Df d 87 107 [l0, l1, l2] [v0, .ref a] h nx = if ck h a 1 = true then cn d 87 110 [l0, l1, l2] [] (Dn d 24 [.ref a, v0] h nx) else none := D_virtual (k1 := 24) (ins_of mc_87 (pc := 107) (x := (.invokevirtual 191, 3)) (by decide +kernel)) mo_87 (by decide +kernel) (by decide) rfl rfl (by decide) rfl (Nat.le_of_ble_eq_true rfl) rfl
theorem e_87_110 : Df d 87 110 [l0, l1, l2] [.int x] h nx = some (some (.int x), h, nx) := D_ireturn (ins_of mc_87 (pc := 110) (x := (.ireturn, 1)) (by decide +kernel)) mr_87
theorem mc_88 : mC 88 = prog_1_method_14_code := rfl
theorem mo_88 : mO 88 = 8 := rfl
theorem ml_88 : mL 88 = 1 := rfl
theorem mr_88 : mR 88 = (some .int) := rfl
theorem ma_88 : mA 88 = 0 := rfl
theorem e_88_0 : Df d 88 0 [.ref a] st h nx = Df d 88 1 [.ref a] (.ref a :: st) h nx := D_aload_n (ins_of mc_88 (pc := 0) (x := (.aload_n 0, 1)) (by decide +kernel)) rfl
theorem e_88_1 : Df d 88 1 [l0] (.ref a :: st) h nx = (gF h a 8 2).bind fun v => Df d 88 4 [l0] (v :: st) h nx := D_getfield (ins_of mc_88 (pc := 1) (x := (.getfield 19, 3)) (by decide +kernel)) mo_88 (by decide +kernel)
theorem e_88_4 : Df d 88 4 [.ref a] st h nx = Df d 88 5 [.ref a] (.ref a :: st) h nx := D_aload_n (ins_of mc_88 (pc := 4) (x := (.aload_n 0, 1)) (by decide +kernel)) rfl
theorem e_88_5 : Df d 88 5 [l0] (.ref a :: st) h nx = (gF h a 8 0).bind fun v => Df d 88 8 [l0] (v :: st) h nx := D_getfield (ins_of mc_88 (pc := 5) (x := (.getfield 12, 3)) (by decide +kernel)) mo_88 (by decide +kernel)
theorem e_88_8 : Df d 88 8 [l0] [v0, .ref a] h nx = if ck h a 1 = true then cn d 88 11 [l0] [] (Dn d 23 [.ref a, v0] h nx) else none := D_virtual (k1 := 23) (ins_of mc_88 (pc := 8) (x := (.invokevirtual 187, 3)) (by decide +kernel)) mo_88 (by decide +kernel) (by decide) rfl rfl (by decide) rfl (Nat.le_of_ble_eq_true rfl) rfl
theorem e_88_11 : Df d 88 11 [.ref a] st h nx = Df d 88 12 [.ref a] (.ref a :: st) h nx := D_aload_n (ins_of mc_88 (pc := 11) (x := (.aload_n 0, 1)) (by decide +kernel)) rfl
theorem e_88_12 : Df d 88 12 [l0] st h nx = Df d 88 15 [l0] (.int 200 :: st) h nx := D_sipush (ins_of mc_88 (pc := 12) (x := (.sipush 200, 3)) (by decide +kernel)) (by decide)
theorem e_88_15 : Df d 88 15 [l0] [v0, .ref a] h nx = if ck h a 8 = true then cn d 88 18 [l0] [] (Dn d 89 [.ref a, v0] h nx) else none := D_virtual (k1 := 89) (ins_of mc_88 (pc := 15) (x := (.invokevirtual 195, 3)) (by decide +kernel)) mo_88 (by decide +kernel) (by decide) rfl rfl (by decide) rfl (Nat.le_of_ble_eq_true rfl) rfl
theorem e_88_18 : Df d 88 18 [l0] [.int x] h nx = some (some (.int x), h, nx) := D_ireturn (ins_of mc_88 (pc := 18) (x := (.ireturn, 1)) (by decide +kernel)) mr_88
theorem mc_89 : mC 89 = prog_1_method_48_code := rfl
theorem mo_89 : mO 89 = 8 := rfl
theorem ml_89 : mL 89 = 3 := rfl
theorem mr_89 : mR 89 = (some .int) := rfl
theorem ma_89 : mA 89 = 1 := rfl
theorem e_89_0 : Df d 89 0 [l0, l1, l2] st h nx = Df d 89 1 [l0, l1, l2] (.int 1 :: st) h nx := D_iconst (ins_of mc_89 (pc := 0) (x := (.iconst 1, 1)) (by decide +kernel)) (by decide)
theorem e_89_1 (hn : nr l2 = true) : Df d 89 1 [l0, l1, l2] (.int x :: st) h nx = Df d 89 2 [l0, l1, .int x] st h nx := D_istore_n (ins_of mc_89 (pc := 1) (x := (.istore_n 2, 1)) (by decide +kernel)) rfl hn rfl
theorem e_89_2 : Df d 89 2 [l0, l1, .int x] st h nx = Df d 89 3 [l0, l1, .int x] (.int x :: st) h nx := D_iload_n (ins_of mc_89 (pc := 2) (x := (.iload_n 2, 1)) (by decide +kernel)) rfl
theorem e_89_3 : Df d 89 3 [l0, .int x, l2] st h nx = Df d 89 4 [l0, .int x, l2] (.int x :: st) h nx := D_iload_n (ins_of mc_89 (pc := 3) (x := (.iload_n 1, 1)) (by decide +kernel)) rfl
theorem e_89_4 : Df d 89 4 [l0, l1, l2] (.int y :: .int x :: st) h nx = if y < x then Df d 89 44 [l0, l1, l2] st h nx else Df d 89 7 [l0, l1, l2] st h nx := D_icmp_gt (ins_of mc_89 (pc := 4) (x := (.if_icmp .gt 40, 3)) (by decide +kernel)) (by decide)
theorem e_89_7 : Df d 89 7 [.ref a, l1, l2] st h nx = Df d 89 8 [.ref a, l1, l2] (.ref a :: st) h nx := D_aload_n (ins_of mc_89 (pc := 7) (x := (.aload_n 0, 1)) (by decide +kernel)) rfl
theorem e_89_8 : Df d 89 8 [l0, l1, l2] (.ref a :: st) h nx = (gF h a 8 2).bind fun v => Df d 89 11 [l0, l1, l2] (v :: st) h nx := D_getfield (ins_of mc_89 (pc := 8) (x := (.getfield 19, 3)) (by decide +kernel)) mo_89 (by decide +kernel)
theorem e_89_11 : Df d 89 11 [.ref a, l1, l2] st h nx = Df d 89 12 [.ref a, l1, l2] (.ref a :: st) h nx := D_aload_n (ins_of mc_89 (pc := 11) (x := (.aload_n 0, 1)) (by decide +kernel)) rfl
theorem e_89_12 : Df d 89 12 [l0, l1, l2] (.ref a :: st) h nx = (gF h a 8 4).bind fun v => Df d 89 15 [l0, l1, l2] (v :: st) h nx := D_getfield (ins_of mc_89 (pc := 12) (x := (.getfield 32, 3)) (by decide +kernel)) mo_89 (by decide +kernel)
theorem e_89_15 : Df d 89 15 [l0, l1, l2] st h nx = Df d 89 16 [l0, l1, l2] (.int 1 :: st) h nx := D_iconst (ins_of mc_89 (pc := 15) (x := (.iconst 1, 1)) (by decide +kernel)) (by decide)
theorem e_89_16 : Df d 89 16 [l0, l1, l2] [v1, v0, .ref a] h nx = if ck h a 1 = true then cn d 89 19 [l0, l1, l2] [] (Dn d 14 [.ref a, v0, v1] h nx) else none := D_virtual (k1 := 14) (ins_of mc_89 (pc := 16) (x := (.invokevirtual 208, 3)) (by decide +kernel)) mo_89 (by decide +kernel) (by decide) rfl rfl (by decide) rfl (Nat.le_of_ble_eq_true rfl) rfl
theorem e_89_19 : Df d 89 19 [.ref a, l1, l2] st h nx = Df d 89 20 [.ref a, l1, l2] (.ref a :: st) h nx := D_aload_n (ins_of mc_89 (pc := 19) (x := (.aload_n 0, 1)) (by decide +kernel)) rfl
theorem e_89_20 : Df d 89 20 [l0, l1, l2] (.ref a :: st) h nx = (gF h a 8 2).bind fun v => Df d 89 23 [l0, l1, l2] (v :: st) h nx := D_getfield (ins_of mc_89 (pc := 20) (x := (.getfield 19, 3)) (by decide +kernel)) mo_89 (by decide +kernel)
theorem e_89_23 : Df d 89 23 [l0, l1, l2] (.ref a :: st) h nx = (gF h a 1 8).bind fun v => Df d 89 26 [l0, l1, l2] (v :: st) h nx := D_getfield (ins_of mc_89 (pc := 23) (x := (.getfield 158, 3)) (by decide +kernel)) mo_89 (by decide +kernel)
theorem e_89_26 : Df d 89 26 [.ref a, l1, l2] st h nx = Df d 89 27 [.ref a, l1, l2] (.ref a :: st) h nx := D_aload_n (ins_of mc_89 (pc := 26) (x := (.aload_n 0, 1)) (by decide +kernel)) rfl
theorem e_89_27 : Df d 89 27 [l0, l1, l2] (.ref a :: st) h nx = (gF h a 8 0).bind fun v => Df d 89 30 [l0, l1, l2] (v :: st) h nx := D_getfield (ins_of mc_89 (pc := 27) (x := (.getfield 12, 3)) (by decide +kernel)) mo_89 (by decide +kernel)
theorem e_89_30 : Df d 89 30 [l0, l1, l2] (.ref a :: st) h nx = (gF h a 1 8).bind fun v => Df d 89 33 [l0, l1, l2] (v :: st) h nx := D_getfield (ins_of mc_89 (pc := 30) (x := (.getfield 158, 3)) (by decide +kernel)) mo_89 (by decide +kernel)
theorem e_89_33 : Df d 89 33 [l0, l1, l2] (.int y :: .int x :: st) h nx = if x ≤ y then Df d 89 38 [l0, l1, l2] st h nx else Df d 89 36 [l0, l1, l2] st h nx := D_icmp_le (ins_of mc_89 (pc := 33) (x := (.if_icmp .le 5, 3)) (by decide +kernel)) (by decide)
theorem e_89_36 : Df d 89 36 [l0, l1, .int x] st h nx = Df d 89 37 [l0, l1, .int x] (.int x :: st) h nx := D_iload_n (ins_of mc_89 (pc := 36) (x := (.iload_n 2, 1)) (by decide +kernel)) rfl
theorem e_89_37 : Df d 89 37 [l0, l1, l2] [.int x] h nx = some (some (.int x), h, nx) := D_ireturn (ins_of mc_89 (pc := 37) (x := (.ireturn, 1)) (by decide +kernel)) mr_89
theorem e_89_38 : Df d 89 38 [l0, l1, .int x] st h nx = Df d 89 41 [l0, l1, .int (x + 1)] st h nx := D_iinc (ins_of mc_89 (pc := 38) (x := (.iinc 2 1, 3)) (by decide +kernel)) rfl (by decide) rfl
theorem e_89_41 : Df d 89 41 [l0, l1, l2] st h nx = Df d 89 2 [l0, l1, l2] st h nx := D_goto (ins_of mc_89 (pc := 41) (x := (.goto (-39), 3)) (by decide +kernel)) (by decide)
theorem e_89_44 : Df d 89 44 [l0, l1, l2] st h nx = Df d 89 46 [l0, l1, l2] (.int (-1000000005) :: st) h nx := D_ldc (ins_of mc_89 (pc := 44) (x := (.ldc 174, 2)) (by decide +kernel)) mo_89 (by decide +kernel)
theorem e_89_46 : Df d 89 46 [l0, l1, l2] [.int x] h nx = some (some (.int x), h, nx) := D_ireturn (ins_of mc_89 (pc := 46) (x := (.ireturn, 1)) (by decide +kernel)) mr_89
theorem mc_90 : mC 90 = prog_1_method_15_code := rfl
theorem mo_90 : mO 90 = 8 := rfl
theorem ml_90 : mL 90 = 4 := rfl
theorem mr_90 : mR 90 = (some .int) := rfl
theorem ma_90 : mA 90 = 2 := rfl
theorem e_90_0 : Df d 90 0 [l0, .int x, l2, l3] st h nx = Df d 90 1 [l0, .int x, l2, l3] (.int x :: st) h nx := D_iload_n (ins_of mc_90 (pc := 0) (x := (.iload_n 1, 1)) (by decide +kernel)) rfl
theorem e_90_1 : Df d 90 1 [l0, l1, l2, l3] st h nx = Df d 90 2 [l0, l1, l2, l3] (.int 1 :: st) h nx := D_iconst (ins_of mc_90 (pc := 1) (x := (.iconst 1, 1)) (by decide +kernel)) (by decide)
theorem e_90_2 : Df d 90 2 [l0, l1, l2, l3] st h nx = Df d 90 4 [l0, l1, l2, l3] (.int 60 :: st) h nx := D_bipush (ins_of mc_90 (pc := 2) (x := (.bipush 60, 2)) (by decide +kernel)) (by decide)
theorem e_90_4 : Df d 90 4 [l0, l1, l2, l3] [v2, v1, v0] h nx = cn d 90 7 [l0, l1, l2, l3] [] (Dn d 74 [v0, v1, v2] h nx) := D_static (k1 := 74) (kd := 1) (ins_of mc_90 (pc := 4) (x := (.invokestatic 73, 3)) (by decide +kernel)) mo_90 (by decide +kernel) (by decide) rfl (Nat.le_of_ble_eq_true rfl) rfl (Nat.le_of_ble_eq_true rfl) rfl
theorem e_90_7 : Df d 90 7 [l0, l1, l2, l3] (.int x :: st) h nx = if x = 0 then Df d 90 19 [l0, l1, l2, l3] st h nx else Df d 90 10 [l0, l1, l2, l3] st h nx := D_if_eq (ins_of mc_90 (pc := 7) (x := (.ifCond .eq 12, 3)) (by decide +kernel)) (by decide)
theorem e_90_10 : Df d 90 10 [l0, l1, .int x, l3] st h nx = Df d 90 11 [l0, l1, .int x, l3] (.int x :: st) h nx := D_iload_n (ins_of mc_90 (pc := 10) (x := (.iload_n 2, 1)) (by decide +kernel)) rfl
theorem e_90_11 : Df d 90 11 [l0, l1, l2, l3] st h nx = Df d 90 12 [l0, l1, l2, l3] (.int 0 :: st) h nx := D_iconst (ins_of mc_90 (pc := 11) (x := (.iconst 0, 1)) (by decide +kernel)) (by decide)
theorem e_90_12 : Df d 90 12 [l0, l1, l2, l3] st h nx = Df d 90 13 [l0, l1, l2, l3] (.int 1 :: st) h nx := D_iconst (ins_of mc_90 (pc := 12) (x := (.iconst 1, 1)) (by decide +kernel)) (by decide)
theorem e_90_13 : Df d 90 13 [l0, l1, l2, l3] [v2, v1, v0] h nx = cn d 90 16 [l0, l1, l2, l3] [] (Dn d 74 [v0, v1, v2] h nx) := D_static (k1 := 74) (kd := 1) (ins_of mc_90 (pc := 13) (x := (.invokestatic 73, 3)) (by decide +kernel)) mo_90 (by decide +kernel) (by decide) rfl (Nat.le_of_ble_eq_true rfl) rfl (Nat.le_of_ble_eq_true rfl) rfl
theorem e_90_16 : Df d 90 16 [l0, l1, l2, l3] (.int x :: st) h nx = if x = 0 then Df d 90 19 [l0, l1, l2, l3] st h nx else Df d 90 22 [l0, l1, l2, l3] st h nx := D_if_ne (ins_of mc_90 (pc := 16) (x := (.ifCond .ne 6, 3)) (by decide +kernel)) (by decide)
theorem e_90_19 : Df d 90 19 [l0, l1, l2, l3] st h nx = Df d 90 21 [l0, l1, l2, l3] (.int (-1000000001) :: st) h nx := D_ldc (ins_of mc_90 (pc := 19) (x := (.ldc 77, 2)) (by decide +kernel)) mo_90 (by decide +kernel)
theorem e_90_21 : Df d 90 21 [l0, l1, l2, l3] [.int x] h nx = some (some (.int x), h, nx) := D_ireturn (ins_of mc_90 (pc := 21) (x := (.ireturn, 1)) (by decide +kernel)) mr_90
theorem e_90_22 : Df d 90 22 [.ref a, l1, l2, l3] st h nx = Df d 90 23 [.ref a, l1, l2, l3] (.ref a :: st) h nx := D_aload_n (ins_of mc_90 (pc := 22) (x := (.aload_n 0, 1)) (by decide +kernel)) rfl
theorem e_90_23 : Df d 90 23 [l0, l1, l2, l3] (.ref a :: st) h nx = (gF h a 8 3).bind fun v => Df d 90 26 [l0, l1, l2, l3] (v :: st) h nx := D_getfield (ins_of mc_90 (pc := 23) (x := (.getfield 25, 3)) (by decide +kernel)) mo_90 (by decide +kernel)
theorem e_90_26 : Df d 90 26 [l0, l1, l2, l3] [.ref a] h nx = if ck h a 0 = true then cn d 90 29 [l0, l1, l2, l3] [] (Dn d 1 [.ref a] h nx) else none := D_virtual (k1 := 1) (ins_of mc_90 (pc := 26) (x := (.invokevirtual 198, 3)) (by decide +kernel)) mo_90 (by decide +kernel) (by decide) rfl rfl (by decide) rfl (Nat.le_of_ble_eq_true rfl) rfl
theorem e_90_29 : Df d 90 29 [l0, l1, l2, l3] st h nx = Df d 90 30 [l0, l1, l2, l3] (.int 0 :: st) h nx := D_iconst (ins_of mc_90 (pc := 29) (x := (.iconst 0, 1)) (by decide +kernel)) (by decide)
theorem e_90_30 (hn : nr l3 = true) : Df d 90 30 [l0, l1, l2, l3] (.int x :: st) h nx = Df d 90 31 [l0, l1, l2, .int x] st h nx := D_istore_n (ins_of mc_90 (pc := 30) (x := (.istore_n 3, 1)) (by decide +kernel)) rfl hn rfl
theorem e_90_31 : Df d 90 31 [l0, l1, l2, .int x] st h nx = Df d 90 32 [l0, l1, l2, .int x] (.int x :: st) h nx := D_iload_n (ins_of mc_90 (pc := 31) (x := (.iload_n 3, 1)) (by decide +kernel)) rfl
theorem e_90_32 : Df d 90 32 [.ref a, l1, l2, l3] st h nx = Df d 90 33 [.ref a, l1, l2, l3] (.ref a :: st) h nx := D_aload_n (ins_of mc_90 (pc := 32) (x := (.aload_n 0, 1)) (by decide +kernel)) rfl
theorem e_90_33 : Df d 90 33 [l0, l1, l2, l3] (.ref a :: st) h nx = (gF h a 8 0).bind fun v => Df d 90 36 [l0, l1, l2, l3] (v :: st) h nx := D_getfield (ins_of mc_90 (pc := 33) (x := (.getfield 12, 3)) (by decide +kernel)) mo_90 (by decide +kernel)
theorem e_90_36 : Df d 90 36 [l0, l1, l2, l3] (.ref a :: st) h nx = (gF h a 1 2).bind fun v => Df d 90 39 [l0, l1, l2, l3] (v :: st) h nx := D_getfield (ins_of mc_90 (pc := 36) (x := (.getfield 144, 3)) (by decide +kernel)) mo_90 (by decide +kernel)
theorem e_90_39 : Df d 90 39 [l0, l1, l2, l3] (.int y :: .int x :: st) h nx = if y ≤ x then Df d 90 130 [l0, l1, l2, l3] st h nx else Df d 90 42 [l0, l1, l2, l3] st h nx := D_icmp_ge (ins_of mc_90 (pc := 39) (x := (.if_icmp .ge 91, 3)) (by decide +kernel)) (by decide)
theorem e_90_42 : Df d 90 42 [.ref a, l1, l2, l3] st h nx = Df d 90 43 [.ref a, l1, l2, l3] (.ref a :: st) h nx := D_aload_n (ins_of mc_90 (pc := 42) (x := (.aload_n 0, 1)) (by decide +kernel)) rfl
theorem e_90_43 : Df d 90 43 [l0, l1, l2, l3] (.ref a :: st) h nx = (gF h a 8 0).bind fun v => Df d 90 46 [l0, l1, l2, l3] (v :: st) h nx := D_getfield (ins_of mc_90 (pc := 43) (x := (.getfield 12, 3)) (by decide +kernel)) mo_90 (by decide +kernel)
theorem e_90_46 : Df d 90 46 [l0, l1, l2, l3] (.ref a :: st) h nx = (gF h a 1 1).bind fun v => Df d 90 49 [l0, l1, l2, l3] (v :: st) h nx := D_getfield (ins_of mc_90 (pc := 46) (x := (.getfield 85, 3)) (by decide +kernel)) mo_90 (by decide +kernel)
theorem e_90_49 : Df d 90 49 [l0, l1, l2, .int x] st h nx = Df d 90 50 [l0, l1, l2, .int x] (.int x :: st) h nx := D_iload_n (ins_of mc_90 (pc := 49) (x := (.iload_n 3, 1)) (by decide +kernel)) rfl
theorem e_90_50 : Df d 90 50 [l0, l1, l2, l3] (.int x :: .ref a :: st) h nx = (rR h a x).bind fun v => Df d 90 51 [l0, l1, l2, l3] (.ref v :: st) h nx := D_aaload (ins_of mc_90 (pc := 50) (x := (.aaload, 1)) (by decide +kernel))
theorem e_90_51 : Df d 90 51 [l0, l1, l2, l3] (.ref a :: st) h nx = (gF h a 7 5).bind fun v => Df d 90 54 [l0, l1, l2, l3] (v :: st) h nx := D_getfield (ins_of mc_90 (pc := 51) (x := (.getfield 106, 3)) (by decide +kernel)) mo_90 (by decide +kernel)
theorem e_90_54 : Df d 90 54 [l0, l1, l2, l3] (.int x :: st) h nx = if x = 0 then Df d 90 124 [l0, l1, l2, l3] st h nx else Df d 90 57 [l0, l1, l2, l3] st h nx := D_if_eq (ins_of mc_90 (pc := 54) (x := (.ifCond .eq 70, 3)) (by decide +kernel)) (by decide)
theorem e_90_57 : Df d 90 57 [.ref a, l1, l2, l3] st h nx = Df d 90 58 [.ref a, l1, l2, l3] (.ref a :: st) h nx := D_aload_n (ins_of mc_90 (pc := 57) (x := (.aload_n 0, 1)) (by decide +kernel)) rfl
theorem e_90_58 : Df d 90 58 [l0, l1, l2, l3] (.ref a :: st) h nx = (gF h a 8 2).bind fun v => Df d 90 61 [l0, l1, l2, l3] (v :: st) h nx := D_getfield (ins_of mc_90 (pc := 58) (x := (.getfield 19, 3)) (by decide +kernel)) mo_90 (by decide +kernel)
theorem e_90_61 : Df d 90 61 [.ref a, l1, l2, l3] st h nx = Df d 90 62 [.ref a, l1, l2, l3] (.ref a :: st) h nx := D_aload_n (ins_of mc_90 (pc := 61) (x := (.aload_n 0, 1)) (by decide +kernel)) rfl
theorem e_90_62 : Df d 90 62 [l0, l1, l2, l3] (.ref a :: st) h nx = (gF h a 8 0).bind fun v => Df d 90 65 [l0, l1, l2, l3] (v :: st) h nx := D_getfield (ins_of mc_90 (pc := 62) (x := (.getfield 12, 3)) (by decide +kernel)) mo_90 (by decide +kernel)
theorem e_90_65 : Df d 90 65 [l0, l1, l2, l3] [v0, .ref a] h nx = if ck h a 1 = true then cn d 90 68 [l0, l1, l2, l3] [] (Dn d 23 [.ref a, v0] h nx) else none := D_virtual (k1 := 23) (ins_of mc_90 (pc := 65) (x := (.invokevirtual 187, 3)) (by decide +kernel)) mo_90 (by decide +kernel) (by decide) rfl rfl (by decide) rfl (Nat.le_of_ble_eq_true rfl) rfl
theorem e_90_68 : Df d 90 68 [.ref a, l1, l2, l3] st h nx = Df d 90 69 [.ref a, l1, l2, l3] (.ref a :: st) h nx := D_aload_n (ins_of mc_90 (pc := 68) (x := (.aload_n 0, 1)) (by decide +kernel)) rfl
theorem e_90_69 : Df d 90 69 [l0, l1, l2, l3] (.ref a :: st) h nx = (gF h a 8 2).bind fun v => Df d 90 72 [l0, l1, l2, l3] (v :: st) h nx := D_getfield (ins_of mc_90 (pc := 69) (x := (.getfield 19, 3)) (by decide +kernel)) mo_90 (by decide +kernel)
theorem e_90_72 : Df d 90 72 [l0, l1, l2, l3] (.ref a :: st) h nx = (gF h a 1 1).bind fun v => Df d 90 75 [l0, l1, l2, l3] (v :: st) h nx := D_getfield (ins_of mc_90 (pc := 72) (x := (.getfield 85, 3)) (by decide +kernel)) mo_90 (by decide +kernel)
theorem e_90_75 : Df d 90 75 [l0, l1, l2, .int x] st h nx = Df d 90 76 [l0, l1, l2, .int x] (.int x :: st) h nx := D_iload_n (ins_of mc_90 (pc := 75) (x := (.iload_n 3, 1)) (by decide +kernel)) rfl
theorem e_90_76 : Df d 90 76 [l0, l1, l2, l3] (.int x :: .ref a :: st) h nx = (rR h a x).bind fun v => Df d 90 77 [l0, l1, l2, l3] (.ref v :: st) h nx := D_aaload (ins_of mc_90 (pc := 76) (x := (.aaload, 1)) (by decide +kernel))
theorem e_90_77 : Df d 90 77 [l0, l1, l2, l3] st h nx = Df d 90 79 [l0, l1, l2, l3] (.int 99 :: st) h nx := D_bipush (ins_of mc_90 (pc := 77) (x := (.bipush 99, 2)) (by decide +kernel)) (by decide)
theorem e_90_79 : Df d 90 79 [.ref a, l1, l2, l3] st h nx = Df d 90 80 [.ref a, l1, l2, l3] (.ref a :: st) h nx := D_aload_n (ins_of mc_90 (pc := 79) (x := (.aload_n 0, 1)) (by decide +kernel)) rfl
theorem e_90_80 : Df d 90 80 [l0, l1, l2, l3] (.ref a :: st) h nx = (gF h a 8 0).bind fun v => Df d 90 83 [l0, l1, l2, l3] (v :: st) h nx := D_getfield (ins_of mc_90 (pc := 80) (x := (.getfield 12, 3)) (by decide +kernel)) mo_90 (by decide +kernel)
theorem e_90_83 : Df d 90 83 [l0, l1, l2, l3] (.ref a :: st) h nx = (gF h a 1 1).bind fun v => Df d 90 86 [l0, l1, l2, l3] (v :: st) h nx := D_getfield (ins_of mc_90 (pc := 83) (x := (.getfield 85, 3)) (by decide +kernel)) mo_90 (by decide +kernel)
theorem e_90_86 : Df d 90 86 [l0, l1, l2, .int x] st h nx = Df d 90 87 [l0, l1, l2, .int x] (.int x :: st) h nx := D_iload_n (ins_of mc_90 (pc := 86) (x := (.iload_n 3, 1)) (by decide +kernel)) rfl
theorem e_90_87 : Df d 90 87 [l0, l1, l2, l3] (.int x :: .ref a :: st) h nx = (rR h a x).bind fun v => Df d 90 88 [l0, l1, l2, l3] (.ref v :: st) h nx := D_aaload (ins_of mc_90 (pc := 87) (x := (.aaload, 1)) (by decide +kernel))
theorem e_90_88 : Df d 90 88 [l0, l1, l2, l3] (.ref a :: st) h nx = (gF h a 7 1).bind fun v => Df d 90 91 [l0, l1, l2, l3] (v :: st) h nx := D_getfield (ins_of mc_90 (pc := 88) (x := (.getfield 94, 3)) (by decide +kernel)) mo_90 (by decide +kernel)
theorem e_90_91 : Df d 90 91 [l0, l1, l2, l3] st h nx = Df d 90 93 [l0, l1, l2, l3] (.int 30 :: st) h nx := D_bipush (ins_of mc_90 (pc := 91) (x := (.bipush 30, 2)) (by decide +kernel)) (by decide)
theorem e_90_93 : Df d 90 93 [l0, l1, l2, l3] (.int y :: .int x :: st) h nx = Df d 90 94 [l0, l1, l2, l3] (.int (x + y) :: st) h nx := D_iadd (ins_of mc_90 (pc := 93) (x := (.iadd, 1)) (by decide +kernel))
theorem e_90_94 : Df d 90 94 [l0, l1, l2, l3] [v1, v0, s0] h nx = cn d 90 97 [l0, l1, l2, l3] [s0] (Dn d 211 [v0, v1] h nx) := D_static (k1 := 211) (kd := 1) (ins_of mc_90 (pc := 94) (x := (.invokestatic 147, 3)) (by decide +kernel)) mo_90 (by decide +kernel) (by decide) rfl (Nat.le_of_ble_eq_true rfl) rfl (Nat.le_of_ble_eq_true rfl) rfl
theorem e_90_97 : Df d 90 97 [l0, l1, l2, l3] (.int x :: .ref a :: st) h nx = (pF h a 7 1 (.int x)).bind fun h => Df d 90 100 [l0, l1, l2, l3] st h nx := D_putfield (ins_of mc_90 (pc := 97) (x := (.putfield 94, 3)) (by decide +kernel)) mo_90 (by decide +kernel) rfl (Or.inl rfl)
theorem e_90_100 : Df d 90 100 [.ref a, l1, l2, l3] st h nx = Df d 90 101 [.ref a, l1, l2, l3] (.ref a :: st) h nx := D_aload_n (ins_of mc_90 (pc := 100) (x := (.aload_n 0, 1)) (by decide +kernel)) rfl
theorem e_90_101 : Df d 90 101 [.ref a, l1, l2, l3] st h nx = Df d 90 102 [.ref a, l1, l2, l3] (.ref a :: st) h nx := D_aload_n (ins_of mc_90 (pc := 101) (x := (.aload_n 0, 1)) (by decide +kernel)) rfl
theorem e_90_102 : Df d 90 102 [l0, l1, l2, l3] (.ref a :: st) h nx = (gF h a 8 2).bind fun v => Df d 90 105 [l0, l1, l2, l3] (v :: st) h nx := D_getfield (ins_of mc_90 (pc := 102) (x := (.getfield 19, 3)) (by decide +kernel)) mo_90 (by decide +kernel)
theorem e_90_105 : Df d 90 105 [l0, .int x, l2, l3] st h nx = Df d 90 106 [l0, .int x, l2, l3] (.int x :: st) h nx := D_iload_n (ins_of mc_90 (pc := 105) (x := (.iload_n 1, 1)) (by decide +kernel)) rfl
theorem e_90_106 : Df d 90 106 [l0, l1, l2, l3] [v1, v0, .ref a] h nx = if ck h a 8 = true then cn d 90 109 [l0, l1, l2, l3] [] (Dn d 85 [.ref a, v0, v1] h nx) else none := D_virtual (k1 := 85) (ins_of mc_90 (pc := 106) (x := (.invokevirtual 164, 3)) (by decide +kernel)) mo_90 (by decide +kernel) (by decide) rfl rfl (by decide) rfl (Nat.le_of_ble_eq_true rfl) rfl
theorem e_90_109 : Df d 90 109 [.ref a, l1, l2, l3] st h nx = Df d 90 110 [.ref a, l1, l2, l3] (.ref a :: st) h nx := D_aload_n (ins_of mc_90 (pc := 109) (x := (.aload_n 0, 1)) (by decide +kernel)) rfl
theorem e_90_110 : Df d 90 110 [l0, l1, l2, l3] (.ref a :: st) h nx = (gF h a 8 3).bind fun v => Df d 90 113 [l0, l1, l2, l3] (v :: st) h nx := D_getfield (ins_of mc_90 (pc := 110) (x := (.getfield 25, 3)) (by decide +kernel)) mo_90 (by decide +kernel)
theorem e_90_113 : Df d 90 113 [l0, l1, l2, .int x] st h nx = Df d 90 114 [l0, l1, l2, .int x] (.int x :: st) h nx := D_iload_n (ins_of mc_90 (pc := 113) (x := (.iload_n 3, 1)) (by decide +kernel)) rfl
theorem e_90_114 : Df d 90 114 [.ref a, l1, l2, l3] st h nx = Df d 90 115 [.ref a, l1, l2, l3] (.ref a :: st) h nx := D_aload_n (ins_of mc_90 (pc := 114) (x := (.aload_n 0, 1)) (by decide +kernel)) rfl
theorem e_90_115 : Df d 90 115 [l0, l1, l2, l3] (.ref a :: st) h nx = (gF h a 8 2).bind fun v => Df d 90 118 [l0, l1, l2, l3] (v :: st) h nx := D_getfield (ins_of mc_90 (pc := 115) (x := (.getfield 19, 3)) (by decide +kernel)) mo_90 (by decide +kernel)
theorem e_90_118 : Df d 90 118 [l0, l1, l2, l3] (.ref a :: st) h nx = (gF h a 1 8).bind fun v => Df d 90 121 [l0, l1, l2, l3] (v :: st) h nx := D_getfield (ins_of mc_90 (pc := 118) (x := (.getfield 158, 3)) (by decide +kernel)) mo_90 (by decide +kernel)
theorem e_90_121 : Df d 90 121 [l0, l1, l2, l3] [v1, v0, .ref a] h nx = if ck h a 0 = true then cn d 90 124 [l0, l1, l2, l3] [] (Dn d 2 [.ref a, v0, v1] h nx) else none := D_virtual (k1 := 2) (ins_of mc_90 (pc := 121) (x := (.invokevirtual 201, 3)) (by decide +kernel)) mo_90 (by decide +kernel) (by decide) rfl rfl (by decide) rfl (Nat.le_of_ble_eq_true rfl) rfl
theorem e_90_124 : Df d 90 124 [l0, l1, l2, .int x] st h nx = Df d 90 127 [l0, l1, l2, .int (x + 1)] st h nx := D_iinc (ins_of mc_90 (pc := 124) (x := (.iinc 3 1, 3)) (by decide +kernel)) rfl (by decide) rfl
theorem e_90_127 : Df d 90 127 [l0, l1, l2, l3] st h nx = Df d 90 31 [l0, l1, l2, l3] st h nx := D_goto (ins_of mc_90 (pc := 127) (x := (.goto (-96), 3)) (by decide +kernel)) (by decide)
theorem e_90_130 : Df d 90 130 [.ref a, l1, l2, l3] st h nx = Df d 90 131 [.ref a, l1, l2, l3] (.ref a :: st) h nx := D_aload_n (ins_of mc_90 (pc := 130) (x := (.aload_n 0, 1)) (by decide +kernel)) rfl
theorem e_90_131 : Df d 90 131 [l0, l1, l2, l3] (.ref a :: st) h nx = (gF h a 8 3).bind fun v => Df d 90 134 [l0, l1, l2, l3] (v :: st) h nx := D_getfield (ins_of mc_90 (pc := 131) (x := (.getfield 25, 3)) (by decide +kernel)) mo_90 (by decide +kernel)
theorem e_90_134 : Df d 90 134 [l0, l1, .int x, l3] st h nx = Df d 90 135 [l0, l1, .int x, l3] (.int x :: st) h nx := D_iload_n (ins_of mc_90 (pc := 134) (x := (.iload_n 2, 1)) (by decide +kernel)) rfl
theorem e_90_135 : Df d 90 135 [l0, l1, l2, l3] [v0, .ref a] h nx = if ck h a 0 = true then cn d 90 138 [l0, l1, l2, l3] [] (Dn d 3 [.ref a, v0] h nx) else none := D_virtual (k1 := 3) (ins_of mc_90 (pc := 135) (x := (.invokevirtual 205, 3)) (by decide +kernel)) mo_90 (by decide +kernel) (by decide) rfl rfl (by decide) rfl (Nat.le_of_ble_eq_true rfl) rfl
theorem e_90_138 : Df d 90 138 [l0, l1, l2, l3] [.int x] h nx = some (some (.int x), h, nx) := D_ireturn (ins_of mc_90 (pc := 138) (x := (.ireturn, 1)) (by decide +kernel)) mr_90
theorem mc_91 : mC 91 = prog_1_method_16_code := rfl
theorem mo_91 : mO 91 = 8 := rfl
theorem ml_91 : mL 91 = 5 := rfl
theorem mr_91 : mR 91 = (some .int) := rfl
theorem ma_91 : mA 91 = 3 := rfl
theorem e_91_0 : Df d 91 0 [.ref a, l1, l2, l3, l4] st h nx = Df d 91 1 [.ref a, l1, l2, l3, l4] (.ref a :: st) h nx := D_aload_n (ins_of mc_91 (pc := 0) (x := (.aload_n 0, 1)) (by decide +kernel)) rfl
theorem e_91_1 : Df d 91 1 [l0, l1, l2, l3, l4] (.ref a :: st) h nx = (gF h a 8 0).bind fun v => Df d 91 4 [l0, l1, l2, l3, l4] (v :: st) h nx := D_getfield (ins_of mc_91 (pc := 1) (x := (.getfield 12, 3)) (by decide +kernel)) mo_91 (by decide +kernel)
theorem e_91_4 : Df d 91 4 [l0, .int x, l2, l3, l4] st h nx = Df d 91 5 [l0, .int x, l2, l3, l4] (.int x :: st) h nx := D_iload_n (ins_of mc_91 (pc := 4) (x := (.iload_n 1, 1)) (by decide +kernel)) rfl
theorem e_91_5 : Df d 91 5 [l0, l1, l2, l3, l4] [v0, .ref a] h nx = if ck h a 1 = true then cn d 91 8 [l0, l1, l2, l3, l4] [] (Dn d 6 [.ref a, v0] h nx) else none := D_virtual (k1 := 6) (ins_of mc_91 (pc := 5) (x := (.invokevirtual 82, 3)) (by decide +kernel)) mo_91 (by decide +kernel) (by decide) rfl rfl (by decide) rfl (Nat.le_of_ble_eq_true rfl) rfl
theorem e_91_8 : Df d 91 8 [l0, l1, l2, l3, l4] (.int x :: st) h nx = if x = 0 then Df d 91 30 [l0, l1, l2, l3, l4] st h nx else Df d 91 11 [l0, l1, l2, l3, l4] st h nx := D_if_eq (ins_of mc_91 (pc := 8) (x := (.ifCond .eq 22, 3)) (by decide +kernel)) (by decide)
theorem e_91_11 : Df d 91 11 [l0, l1, .int x, l3, l4] st h nx = Df d 91 12 [l0, l1, .int x, l3, l4] (.int x :: st) h nx := D_iload_n (ins_of mc_91 (pc := 11) (x := (.iload_n 2, 1)) (by decide +kernel)) rfl
theorem e_91_12 : Df d 91 12 [l0, l1, l2, l3, l4] st h nx = Df d 91 13 [l0, l1, l2, l3, l4] (.int 1 :: st) h nx := D_iconst (ins_of mc_91 (pc := 12) (x := (.iconst 1, 1)) (by decide +kernel)) (by decide)
theorem e_91_13 : Df d 91 13 [l0, l1, l2, l3, l4] st h nx = Df d 91 15 [l0, l1, l2, l3, l4] (.int 40 :: st) h nx := D_bipush (ins_of mc_91 (pc := 13) (x := (.bipush 40, 2)) (by decide +kernel)) (by decide)
theorem e_91_15 : Df d 91 15 [l0, l1, l2, l3, l4] [v2, v1, v0] h nx = cn d 91 18 [l0, l1, l2, l3, l4] [] (Dn d 74 [v0, v1, v2] h nx) := D_static (k1 := 74) (kd := 1) (ins_of mc_91 (pc := 15) (x := (.invokestatic 73, 3)) (by decide +kernel)) mo_91 (by decide +kernel) (by decide) rfl (Nat.le_of_ble_eq_true rfl) rfl (Nat.le_of_ble_eq_true rfl) rfl
theorem e_91_18 : Df d 91 18 [l0, l1, l2, l3, l4] (.int x :: st) h nx = if x = 0 then Df d 91 30 [l0, l1, l2, l3, l4] st h nx else Df d 91 21 [l0, l1, l2, l3, l4] st h nx := D_if_eq (ins_of mc_91 (pc := 18) (x := (.ifCond .eq 12, 3)) (by decide +kernel)) (by decide)
theorem e_91_21 : Df d 91 21 [l0, l1, l2, .int x, l4] st h nx = Df d 91 22 [l0, l1, l2, .int x, l4] (.int x :: st) h nx := D_iload_n (ins_of mc_91 (pc := 21) (x := (.iload_n 3, 1)) (by decide +kernel)) rfl
theorem e_91_22 : Df d 91 22 [l0, l1, l2, l3, l4] st h nx = Df d 91 23 [l0, l1, l2, l3, l4] (.int 0 :: st) h nx := D_iconst (ins_of mc_91 (pc := 22) (x := (.iconst 0, 1)) (by decide +kernel)) (by decide)
theorem e_91_23 : Df d 91 23 [l0, l1, l2, l3, l4] st h nx = Df d 91 24 [l0, l1, l2, l3, l4] (.int 1 :: st) h nx := D_iconst (ins_of mc_91 (pc := 23) (x := (.iconst 1, 1)) (by decide +kernel)) (by decide)
theorem e_91_24 : Df d 91 24 [l0, l1, l2, l3, l4] [v2, v1, v0] h nx = cn d 91 27 [l0, l1, l2, l3, l4] [] (Dn d 74 [v0, v1, v2] h nx) := D_static (k1 := 74) (kd := 1) (ins_of mc_91 (pc := 24) (x := (.invokestatic 73, 3)) (by decide +kernel)) mo_91 (by decide +kernel) (by decide) rfl (Nat.le_of_ble_eq_true rfl) rfl (Nat.le_of_ble_eq_true rfl) rfl
theorem e_91_27 : Df d 91 27 [l0, l1, l2, l3, l4] (.int x :: st) h nx = if x = 0 then Df d 91 30 [l0, l1, l2, l3, l4] st h nx else Df d 91 33 [l0, l1, l2, l3, l4] st h nx := D_if_ne (ins_of mc_91 (pc := 27) (x := (.ifCond .ne 6, 3)) (by decide +kernel)) (by decide)
theorem e_91_30 : Df d 91 30 [l0, l1, l2, l3, l4] st h nx = Df d 91 32 [l0, l1, l2, l3, l4] (.int (-1000000001) :: st) h nx := D_ldc (ins_of mc_91 (pc := 30) (x := (.ldc 77, 2)) (by decide +kernel)) mo_91 (by decide +kernel)
theorem e_91_32 : Df d 91 32 [l0, l1, l2, l3, l4] [.int x] h nx = some (some (.int x), h, nx) := D_ireturn (ins_of mc_91 (pc := 32) (x := (.ireturn, 1)) (by decide +kernel)) mr_91
theorem e_91_33 : Df d 91 33 [.ref a, l1, l2, l3, l4] st h nx = Df d 91 34 [.ref a, l1, l2, l3, l4] (.ref a :: st) h nx := D_aload_n (ins_of mc_91 (pc := 33) (x := (.aload_n 0, 1)) (by decide +kernel)) rfl
theorem e_91_34 : Df d 91 34 [l0, l1, l2, l3, l4] (.ref a :: st) h nx = (gF h a 8 3).bind fun v => Df d 91 37 [l0, l1, l2, l3, l4] (v :: st) h nx := D_getfield (ins_of mc_91 (pc := 34) (x := (.getfield 25, 3)) (by decide +kernel)) mo_91 (by decide +kernel)
theorem e_91_37 : Df d 91 37 [l0, l1, l2, l3, l4] [.ref a] h nx = if ck h a 0 = true then cn d 91 40 [l0, l1, l2, l3, l4] [] (Dn d 1 [.ref a] h nx) else none := D_virtual (k1 := 1) (ins_of mc_91 (pc := 37) (x := (.invokevirtual 198, 3)) (by decide +kernel)) mo_91 (by decide +kernel) (by decide) rfl rfl (by decide) rfl (Nat.le_of_ble_eq_true rfl) rfl
theorem e_91_40 : Df d 91 40 [l0, l1, l2, l3, l4] st h nx = Df d 91 41 [l0, l1, l2, l3, l4] (.int 0 :: st) h nx := D_iconst (ins_of mc_91 (pc := 40) (x := (.iconst 0, 1)) (by decide +kernel)) (by decide)
theorem e_91_41 (hn : nr l4 = true) : Df d 91 41 [l0, l1, l2, l3, l4] (.int x :: st) h nx = Df d 91 43 [l0, l1, l2, l3, .int x] st h nx := D_istore (ins_of mc_91 (pc := 41) (x := (.istore 4, 2)) (by decide +kernel)) rfl hn rfl
theorem e_91_43 : Df d 91 43 [l0, l1, l2, l3, .int x] st h nx = Df d 91 45 [l0, l1, l2, l3, .int x] (.int x :: st) h nx := D_iload (ins_of mc_91 (pc := 43) (x := (.iload 4, 2)) (by decide +kernel)) rfl
theorem e_91_45 : Df d 91 45 [l0, l1, l2, l3, l4] st h nx = Df d 91 47 [l0, l1, l2, l3, l4] (.int 24 :: st) h nx := D_bipush (ins_of mc_91 (pc := 45) (x := (.bipush 24, 2)) (by decide +kernel)) (by decide)
theorem e_91_47 : Df d 91 47 [l0, l1, l2, l3, l4] (.int y :: .int x :: st) h nx = if y ≤ x then Df d 91 106 [l0, l1, l2, l3, l4] st h nx else Df d 91 50 [l0, l1, l2, l3, l4] st h nx := D_icmp_ge (ins_of mc_91 (pc := 47) (x := (.if_icmp .ge 59, 3)) (by decide +kernel)) (by decide)
theorem e_91_50 : Df d 91 50 [.ref a, l1, l2, l3, l4] st h nx = Df d 91 51 [.ref a, l1, l2, l3, l4] (.ref a :: st) h nx := D_aload_n (ins_of mc_91 (pc := 50) (x := (.aload_n 0, 1)) (by decide +kernel)) rfl
theorem e_91_51 : Df d 91 51 [l0, l1, l2, l3, l4] (.ref a :: st) h nx = (gF h a 8 2).bind fun v => Df d 91 54 [l0, l1, l2, l3, l4] (v :: st) h nx := D_getfield (ins_of mc_91 (pc := 51) (x := (.getfield 19, 3)) (by decide +kernel)) mo_91 (by decide +kernel)
theorem e_91_54 : Df d 91 54 [.ref a, l1, l2, l3, l4] st h nx = Df d 91 55 [.ref a, l1, l2, l3, l4] (.ref a :: st) h nx := D_aload_n (ins_of mc_91 (pc := 54) (x := (.aload_n 0, 1)) (by decide +kernel)) rfl
theorem e_91_55 : Df d 91 55 [l0, l1, l2, l3, l4] (.ref a :: st) h nx = (gF h a 8 0).bind fun v => Df d 91 58 [l0, l1, l2, l3, l4] (v :: st) h nx := D_getfield (ins_of mc_91 (pc := 55) (x := (.getfield 12, 3)) (by decide +kernel)) mo_91 (by decide +kernel)
theorem e_91_58 : Df d 91 58 [l0, l1, l2, l3, l4] [v0, .ref a] h nx = if ck h a 1 = true then cn d 91 61 [l0, l1, l2, l3, l4] [] (Dn d 23 [.ref a, v0] h nx) else none := D_virtual (k1 := 23) (ins_of mc_91 (pc := 58) (x := (.invokevirtual 187, 3)) (by decide +kernel)) mo_91 (by decide +kernel) (by decide) rfl rfl (by decide) rfl (Nat.le_of_ble_eq_true rfl) rfl
theorem e_91_61 : Df d 91 61 [.ref a, l1, l2, l3, l4] st h nx = Df d 91 62 [.ref a, l1, l2, l3, l4] (.ref a :: st) h nx := D_aload_n (ins_of mc_91 (pc := 61) (x := (.aload_n 0, 1)) (by decide +kernel)) rfl
theorem e_91_62 : Df d 91 62 [l0, l1, l2, l3, l4] (.ref a :: st) h nx = (gF h a 8 2).bind fun v => Df d 91 65 [l0, l1, l2, l3, l4] (v :: st) h nx := D_getfield (ins_of mc_91 (pc := 62) (x := (.getfield 19, 3)) (by decide +kernel)) mo_91 (by decide +kernel)
theorem e_91_65 : Df d 91 65 [l0, l1, l2, l3, l4] (.ref a :: st) h nx = (gF h a 1 1).bind fun v => Df d 91 68 [l0, l1, l2, l3, l4] (v :: st) h nx := D_getfield (ins_of mc_91 (pc := 65) (x := (.getfield 85, 3)) (by decide +kernel)) mo_91 (by decide +kernel)
theorem e_91_68 : Df d 91 68 [l0, .int x, l2, l3, l4] st h nx = Df d 91 69 [l0, .int x, l2, l3, l4] (.int x :: st) h nx := D_iload_n (ins_of mc_91 (pc := 68) (x := (.iload_n 1, 1)) (by decide +kernel)) rfl
theorem e_91_69 : Df d 91 69 [l0, l1, l2, l3, l4] (.int x :: .ref a :: st) h nx = (rR h a x).bind fun v => Df d 91 70 [l0, l1, l2, l3, l4] (.ref v :: st) h nx := D_aaload (ins_of mc_91 (pc := 69) (x := (.aaload, 1)) (by decide +kernel))
theorem e_91_70 : Df d 91 70 [l0, l1, l2, l3, .int x] st h nx = Df d 91 72 [l0, l1, l2, l3, .int x] (.int x :: st) h nx := D_iload (ins_of mc_91 (pc := 70) (x := (.iload 4, 2)) (by decide +kernel)) rfl
theorem e_91_72 : Df d 91 72 [l0, l1, l2, l3, l4] (.int x :: .ref a :: st) h nx = (pF h a 7 3 (.int x)).bind fun h => Df d 91 75 [l0, l1, l2, l3, l4] st h nx := D_putfield (ins_of mc_91 (pc := 72) (x := (.putfield 100, 3)) (by decide +kernel)) mo_91 (by decide +kernel) rfl (Or.inl rfl)
theorem e_91_75 : Df d 91 75 [.ref a, l1, l2, l3, l4] st h nx = Df d 91 76 [.ref a, l1, l2, l3, l4] (.ref a :: st) h nx := D_aload_n (ins_of mc_91 (pc := 75) (x := (.aload_n 0, 1)) (by decide +kernel)) rfl
theorem e_91_76 : Df d 91 76 [.ref a, l1, l2, l3, l4] st h nx = Df d 91 77 [.ref a, l1, l2, l3, l4] (.ref a :: st) h nx := D_aload_n (ins_of mc_91 (pc := 76) (x := (.aload_n 0, 1)) (by decide +kernel)) rfl
theorem e_91_77 : Df d 91 77 [l0, l1, l2, l3, l4] (.ref a :: st) h nx = (gF h a 8 2).bind fun v => Df d 91 80 [l0, l1, l2, l3, l4] (v :: st) h nx := D_getfield (ins_of mc_91 (pc := 77) (x := (.getfield 19, 3)) (by decide +kernel)) mo_91 (by decide +kernel)
theorem e_91_80 : Df d 91 80 [l0, l1, .int x, l3, l4] st h nx = Df d 91 81 [l0, l1, .int x, l3, l4] (.int x :: st) h nx := D_iload_n (ins_of mc_91 (pc := 80) (x := (.iload_n 2, 1)) (by decide +kernel)) rfl
theorem e_91_81 : Df d 91 81 [l0, l1, l2, l3, l4] [v1, v0, .ref a] h nx = if ck h a 8 = true then cn d 91 84 [l0, l1, l2, l3, l4] [] (Dn d 85 [.ref a, v0, v1] h nx) else none := D_virtual (k1 := 85) (ins_of mc_91 (pc := 81) (x := (.invokevirtual 164, 3)) (by decide +kernel)) mo_91 (by decide +kernel) (by decide) rfl rfl (by decide) rfl (Nat.le_of_ble_eq_true rfl) rfl
theorem e_91_84 : Df d 91 84 [.ref a, l1, l2, l3, l4] st h nx = Df d 91 85 [.ref a, l1, l2, l3, l4] (.ref a :: st) h nx := D_aload_n (ins_of mc_91 (pc := 84) (x := (.aload_n 0, 1)) (by decide +kernel)) rfl
theorem e_91_85 : Df d 91 85 [l0, l1, l2, l3, l4] (.ref a :: st) h nx = (gF h a 8 3).bind fun v => Df d 91 88 [l0, l1, l2, l3, l4] (v :: st) h nx := D_getfield (ins_of mc_91 (pc := 85) (x := (.getfield 25, 3)) (by decide +kernel)) mo_91 (by decide +kernel)
theorem e_91_88 : Df d 91 88 [l0, l1, l2, l3, .int x] st h nx = Df d 91 90 [l0, l1, l2, l3, .int x] (.int x :: st) h nx := D_iload (ins_of mc_91 (pc := 88) (x := (.iload 4, 2)) (by decide +kernel)) rfl
theorem e_91_90 : Df d 91 90 [.ref a, l1, l2, l3, l4] st h nx = Df d 91 91 [.ref a, l1, l2, l3, l4] (.ref a :: st) h nx := D_aload_n (ins_of mc_91 (pc := 90) (x := (.aload_n 0, 1)) (by decide +kernel)) rfl
theorem e_91_91 : Df d 91 91 [l0, l1, l2, l3, l4] (.ref a :: st) h nx = (gF h a 8 2).bind fun v => Df d 91 94 [l0, l1, l2, l3, l4] (v :: st) h nx := D_getfield (ins_of mc_91 (pc := 91) (x := (.getfield 19, 3)) (by decide +kernel)) mo_91 (by decide +kernel)
theorem e_91_94 : Df d 91 94 [l0, l1, l2, l3, l4] (.ref a :: st) h nx = (gF h a 1 8).bind fun v => Df d 91 97 [l0, l1, l2, l3, l4] (v :: st) h nx := D_getfield (ins_of mc_91 (pc := 94) (x := (.getfield 158, 3)) (by decide +kernel)) mo_91 (by decide +kernel)
theorem e_91_97 : Df d 91 97 [l0, l1, l2, l3, l4] [v1, v0, .ref a] h nx = if ck h a 0 = true then cn d 91 100 [l0, l1, l2, l3, l4] [] (Dn d 2 [.ref a, v0, v1] h nx) else none := D_virtual (k1 := 2) (ins_of mc_91 (pc := 97) (x := (.invokevirtual 201, 3)) (by decide +kernel)) mo_91 (by decide +kernel) (by decide) rfl rfl (by decide) rfl (Nat.le_of_ble_eq_true rfl) rfl
theorem e_91_100 : Df d 91 100 [l0, l1, l2, l3, .int x] st h nx = Df d 91 103 [l0, l1, l2, l3, .int (x + 1)] st h nx := D_iinc (ins_of mc_91 (pc := 100) (x := (.iinc 4 1, 3)) (by decide +kernel)) rfl (by decide) rfl
theorem e_91_103 : Df d 91 103 [l0, l1, l2, l3, l4] st h nx = Df d 91 43 [l0, l1, l2, l3, l4] st h nx := D_goto (ins_of mc_91 (pc := 103) (x := (.goto (-60), 3)) (by decide +kernel)) (by decide)
theorem e_91_106 : Df d 91 106 [.ref a, l1, l2, l3, l4] st h nx = Df d 91 107 [.ref a, l1, l2, l3, l4] (.ref a :: st) h nx := D_aload_n (ins_of mc_91 (pc := 106) (x := (.aload_n 0, 1)) (by decide +kernel)) rfl
theorem e_91_107 : Df d 91 107 [l0, l1, l2, l3, l4] (.ref a :: st) h nx = (gF h a 8 3).bind fun v => Df d 91 110 [l0, l1, l2, l3, l4] (v :: st) h nx := D_getfield (ins_of mc_91 (pc := 107) (x := (.getfield 25, 3)) (by decide +kernel)) mo_91 (by decide +kernel)
theorem e_91_110 : Df d 91 110 [l0, l1, l2, .int x, l4] st h nx = Df d 91 111 [l0, l1, l2, .int x, l4] (.int x :: st) h nx := D_iload_n (ins_of mc_91 (pc := 110) (x := (.iload_n 3, 1)) (by decide +kernel)) rfl
theorem e_91_111 : Df d 91 111 [l0, l1, l2, l3, l4] [v0, .ref a] h nx = if ck h a 0 = true then cn d 91 114 [l0, l1, l2, l3, l4] [] (Dn d 3 [.ref a, v0] h nx) else none := D_virtual (k1 := 3) (ins_of mc_91 (pc := 111) (x := (.invokevirtual 205, 3)) (by decide +kernel)) mo_91 (by decide +kernel) (by decide) rfl rfl (by decide) rfl (Nat.le_of_ble_eq_true rfl) rfl
theorem e_91_114 : Df d 91 114 [l0, l1, l2, l3, l4] [.int x] h nx = some (some (.int x), h, nx) := D_ireturn (ins_of mc_91 (pc := 114) (x := (.ireturn, 1)) (by decide +kernel)) mr_91
theorem mc_92 : mC 92 = prog_1_method_17_code := rfl
theorem mo_92 : mO 92 = 8 := rfl
theorem ml_92 : mL 92 = 4 := rfl
theorem mr_92 : mR 92 = (some .int) := rfl
theorem ma_92 : mA 92 = 1 := rfl
theorem e_92_0 : Df d 92 0 [l0, .int x, l2, l3] st h nx = Df d 92 1 [l0, .int x, l2, l3] (.int x :: st) h nx := D_iload_n (ins_of mc_92 (pc := 0) (x := (.iload_n 1, 1)) (by decide +kernel)) rfl
theorem e_92_1 : Df d 92 1 [l0, l1, l2, l3] st h nx = Df d 92 2 [l0, l1, l2, l3] (.int 1 :: st) h nx := D_iconst (ins_of mc_92 (pc := 1) (x := (.iconst 1, 1)) (by decide +kernel)) (by decide)
theorem e_92_2 : Df d 92 2 [l0, l1, l2, l3] st h nx = Df d 92 4 [l0, l1, l2, l3] (.int 60 :: st) h nx := D_bipush (ins_of mc_92 (pc := 2) (x := (.bipush 60, 2)) (by decide +kernel)) (by decide)
theorem e_92_4 : Df d 92 4 [l0, l1, l2, l3] [v2, v1, v0] h nx = cn d 92 7 [l0, l1, l2, l3] [] (Dn d 74 [v0, v1, v2] h nx) := D_static (k1 := 74) (kd := 1) (ins_of mc_92 (pc := 4) (x := (.invokestatic 73, 3)) (by decide +kernel)) mo_92 (by decide +kernel) (by decide) rfl (Nat.le_of_ble_eq_true rfl) rfl (Nat.le_of_ble_eq_true rfl) rfl
theorem e_92_7 : Df d 92 7 [l0, l1, l2, l3] (.int x :: st) h nx = if x = 0 then Df d 92 10 [l0, l1, l2, l3] st h nx else Df d 92 13 [l0, l1, l2, l3] st h nx := D_if_ne (ins_of mc_92 (pc := 7) (x := (.ifCond .ne 6, 3)) (by decide +kernel)) (by decide)
theorem e_92_10 : Df d 92 10 [l0, l1, l2, l3] st h nx = Df d 92 12 [l0, l1, l2, l3] (.int (-1000000001) :: st) h nx := D_ldc (ins_of mc_92 (pc := 10) (x := (.ldc 77, 2)) (by decide +kernel)) mo_92 (by decide +kernel)
theorem e_92_12 : Df d 92 12 [l0, l1, l2, l3] [.int x] h nx = some (some (.int x), h, nx) := D_ireturn (ins_of mc_92 (pc := 12) (x := (.ireturn, 1)) (by decide +kernel)) mr_92
theorem e_92_13 : Df d 92 13 [.ref a, l1, l2, l3] st h nx = Df d 92 14 [.ref a, l1, l2, l3] (.ref a :: st) h nx := D_aload_n (ins_of mc_92 (pc := 13) (x := (.aload_n 0, 1)) (by decide +kernel)) rfl
theorem e_92_14 : Df d 92 14 [l0, l1, l2, l3] (.ref a :: st) h nx = (gF h a 8 2).bind fun v => Df d 92 17 [l0, l1, l2, l3] (v :: st) h nx := D_getfield (ins_of mc_92 (pc := 14) (x := (.getfield 19, 3)) (by decide +kernel)) mo_92 (by decide +kernel)
theorem e_92_17 : Df d 92 17 [.ref a, l1, l2, l3] st h nx = Df d 92 18 [.ref a, l1, l2, l3] (.ref a :: st) h nx := D_aload_n (ins_of mc_92 (pc := 17) (x := (.aload_n 0, 1)) (by decide +kernel)) rfl
theorem e_92_18 : Df d 92 18 [l0, l1, l2, l3] (.ref a :: st) h nx = (gF h a 8 0).bind fun v => Df d 92 21 [l0, l1, l2, l3] (v :: st) h nx := D_getfield (ins_of mc_92 (pc := 18) (x := (.getfield 12, 3)) (by decide +kernel)) mo_92 (by decide +kernel)
theorem e_92_21 : Df d 92 21 [l0, l1, l2, l3] [v0, .ref a] h nx = if ck h a 1 = true then cn d 92 24 [l0, l1, l2, l3] [] (Dn d 23 [.ref a, v0] h nx) else none := D_virtual (k1 := 23) (ins_of mc_92 (pc := 21) (x := (.invokevirtual 187, 3)) (by decide +kernel)) mo_92 (by decide +kernel) (by decide) rfl rfl (by decide) rfl (Nat.le_of_ble_eq_true rfl) rfl
theorem e_92_24 : Df d 92 24 [.ref a, l1, l2, l3] st h nx = Df d 92 25 [.ref a, l1, l2, l3] (.ref a :: st) h nx := D_aload_n (ins_of mc_92 (pc := 24) (x := (.aload_n 0, 1)) (by decide +kernel)) rfl
theorem e_92_25 : Df d 92 25 [.ref a, l1, l2, l3] st h nx = Df d 92 26 [.ref a, l1, l2, l3] (.ref a :: st) h nx := D_aload_n (ins_of mc_92 (pc := 25) (x := (.aload_n 0, 1)) (by decide +kernel)) rfl
theorem e_92_26 : Df d 92 26 [l0, l1, l2, l3] (.ref a :: st) h nx = (gF h a 8 2).bind fun v => Df d 92 29 [l0, l1, l2, l3] (v :: st) h nx := D_getfield (ins_of mc_92 (pc := 26) (x := (.getfield 19, 3)) (by decide +kernel)) mo_92 (by decide +kernel)
theorem e_92_29 : Df d 92 29 [l0, .int x, l2, l3] st h nx = Df d 92 30 [l0, .int x, l2, l3] (.int x :: st) h nx := D_iload_n (ins_of mc_92 (pc := 29) (x := (.iload_n 1, 1)) (by decide +kernel)) rfl
theorem e_92_30 : Df d 92 30 [l0, l1, l2, l3] [v1, v0, .ref a] h nx = if ck h a 8 = true then cn d 92 33 [l0, l1, l2, l3] [] (Dn d 85 [.ref a, v0, v1] h nx) else none := D_virtual (k1 := 85) (ins_of mc_92 (pc := 30) (x := (.invokevirtual 164, 3)) (by decide +kernel)) mo_92 (by decide +kernel) (by decide) rfl rfl (by decide) rfl (Nat.le_of_ble_eq_true rfl) rfl
theorem e_92_33 : Df d 92 33 [.ref a, l1, l2, l3] st h nx = Df d 92 34 [.ref a, l1, l2, l3] (.ref a :: st) h nx := D_aload_n (ins_of mc_92 (pc := 33) (x := (.aload_n 0, 1)) (by decide +kernel)) rfl
theorem e_92_34 : Df d 92 34 [l0, l1, l2, l3] (.ref a :: st) h nx = (gF h a 8 2).bind fun v => Df d 92 37 [l0, l1, l2, l3] (v :: st) h nx := D_getfield (ins_of mc_92 (pc := 34) (x := (.getfield 19, 3)) (by decide +kernel)) mo_92 (by decide +kernel)
theorem e_92_37 : Df d 92 37 [l0, l1, l2, l3] (.ref a :: st) h nx = (gF h a 1 8).bind fun v => Df d 92 40 [l0, l1, l2, l3] (v :: st) h nx := D_getfield (ins_of mc_92 (pc := 37) (x := (.getfield 158, 3)) (by decide +kernel)) mo_92 (by decide +kernel)
theorem e_92_40 (hn : nr l2 = true) : Df d 92 40 [l0, l1, l2, l3] (.int x :: st) h nx = Df d 92 41 [l0, l1, .int x, l3] st h nx := D_istore_n (ins_of mc_92 (pc := 40) (x := (.istore_n 2, 1)) (by decide +kernel)) rfl hn rfl
theorem e_92_41 : Df d 92 41 [.ref a, l1, l2, l3] st h nx = Df d 92 42 [.ref a, l1, l2, l3] (.ref a :: st) h nx := D_aload_n (ins_of mc_92 (pc := 41) (x := (.aload_n 0, 1)) (by decide +kernel)) rfl
theorem e_92_42 : Df d 92 42 [l0, l1, l2, l3] (.ref a :: st) h nx = (gF h a 8 2).bind fun v => Df d 92 45 [l0, l1, l2, l3] (v :: st) h nx := D_getfield (ins_of mc_92 (pc := 42) (x := (.getfield 19, 3)) (by decide +kernel)) mo_92 (by decide +kernel)
theorem e_92_45 : Df d 92 45 [.ref a, l1, l2, l3] st h nx = Df d 92 46 [.ref a, l1, l2, l3] (.ref a :: st) h nx := D_aload_n (ins_of mc_92 (pc := 45) (x := (.aload_n 0, 1)) (by decide +kernel)) rfl
theorem e_92_46 : Df d 92 46 [l0, l1, l2, l3] (.ref a :: st) h nx = (gF h a 8 0).bind fun v => Df d 92 49 [l0, l1, l2, l3] (v :: st) h nx := D_getfield (ins_of mc_92 (pc := 46) (x := (.getfield 12, 3)) (by decide +kernel)) mo_92 (by decide +kernel)
theorem e_92_49 : Df d 92 49 [l0, l1, l2, l3] [v0, .ref a] h nx = if ck h a 1 = true then cn d 92 52 [l0, l1, l2, l3] [] (Dn d 23 [.ref a, v0] h nx) else none := D_virtual (k1 := 23) (ins_of mc_92 (pc := 49) (x := (.invokevirtual 187, 3)) (by decide +kernel)) mo_92 (by decide +kernel) (by decide) rfl rfl (by decide) rfl (Nat.le_of_ble_eq_true rfl) rfl
theorem e_92_52 : Df d 92 52 [l0, l1, l2, l3] st h nx = Df d 92 53 [l0, l1, l2, l3] (.int 0 :: st) h nx := D_iconst (ins_of mc_92 (pc := 52) (x := (.iconst 0, 1)) (by decide +kernel)) (by decide)
theorem e_92_53 (hn : nr l3 = true) : Df d 92 53 [l0, l1, l2, l3] (.int x :: st) h nx = Df d 92 54 [l0, l1, l2, .int x] st h nx := D_istore_n (ins_of mc_92 (pc := 53) (x := (.istore_n 3, 1)) (by decide +kernel)) rfl hn rfl
theorem e_92_54 : Df d 92 54 [l0, l1, l2, .int x] st h nx = Df d 92 55 [l0, l1, l2, .int x] (.int x :: st) h nx := D_iload_n (ins_of mc_92 (pc := 54) (x := (.iload_n 3, 1)) (by decide +kernel)) rfl
theorem e_92_55 : Df d 92 55 [l0, .int x, l2, l3] st h nx = Df d 92 56 [l0, .int x, l2, l3] (.int x :: st) h nx := D_iload_n (ins_of mc_92 (pc := 55) (x := (.iload_n 1, 1)) (by decide +kernel)) rfl
theorem e_92_56 : Df d 92 56 [l0, l1, l2, l3] (.int y :: .int x :: st) h nx = if y ≤ x then Df d 92 77 [l0, l1, l2, l3] st h nx else Df d 92 59 [l0, l1, l2, l3] st h nx := D_icmp_ge (ins_of mc_92 (pc := 56) (x := (.if_icmp .ge 21, 3)) (by decide +kernel)) (by decide)
theorem e_92_59 : Df d 92 59 [.ref a, l1, l2, l3] st h nx = Df d 92 60 [.ref a, l1, l2, l3] (.ref a :: st) h nx := D_aload_n (ins_of mc_92 (pc := 59) (x := (.aload_n 0, 1)) (by decide +kernel)) rfl
theorem e_92_60 : Df d 92 60 [l0, l1, l2, l3] (.ref a :: st) h nx = (gF h a 8 2).bind fun v => Df d 92 63 [l0, l1, l2, l3] (v :: st) h nx := D_getfield (ins_of mc_92 (pc := 60) (x := (.getfield 19, 3)) (by decide +kernel)) mo_92 (by decide +kernel)
theorem e_92_63 : Df d 92 63 [.ref a, l1, l2, l3] st h nx = Df d 92 64 [.ref a, l1, l2, l3] (.ref a :: st) h nx := D_aload_n (ins_of mc_92 (pc := 63) (x := (.aload_n 0, 1)) (by decide +kernel)) rfl
theorem e_92_64 : Df d 92 64 [l0, l1, l2, l3] (.ref a :: st) h nx = (gF h a 8 4).bind fun v => Df d 92 67 [l0, l1, l2, l3] (v :: st) h nx := D_getfield (ins_of mc_92 (pc := 64) (x := (.getfield 32, 3)) (by decide +kernel)) mo_92 (by decide +kernel)
theorem e_92_67 : Df d 92 67 [l0, l1, l2, l3] st h nx = Df d 92 68 [l0, l1, l2, l3] (.int 0 :: st) h nx := D_iconst (ins_of mc_92 (pc := 67) (x := (.iconst 0, 1)) (by decide +kernel)) (by decide)
theorem e_92_68 : Df d 92 68 [l0, l1, l2, l3] [v1, v0, .ref a] h nx = if ck h a 1 = true then cn d 92 71 [l0, l1, l2, l3] [] (Dn d 14 [.ref a, v0, v1] h nx) else none := D_virtual (k1 := 14) (ins_of mc_92 (pc := 68) (x := (.invokevirtual 208, 3)) (by decide +kernel)) mo_92 (by decide +kernel) (by decide) rfl rfl (by decide) rfl (Nat.le_of_ble_eq_true rfl) rfl
theorem e_92_71 : Df d 92 71 [l0, l1, l2, .int x] st h nx = Df d 92 74 [l0, l1, l2, .int (x + 1)] st h nx := D_iinc (ins_of mc_92 (pc := 71) (x := (.iinc 3 1, 3)) (by decide +kernel)) rfl (by decide) rfl
theorem e_92_74 : Df d 92 74 [l0, l1, l2, l3] st h nx = Df d 92 54 [l0, l1, l2, l3] st h nx := D_goto (ins_of mc_92 (pc := 74) (x := (.goto (-20), 3)) (by decide +kernel)) (by decide)
theorem e_92_77 : Df d 92 77 [l0, l1, .int x, l3] st h nx = Df d 92 78 [l0, l1, .int x, l3] (.int x :: st) h nx := D_iload_n (ins_of mc_92 (pc := 77) (x := (.iload_n 2, 1)) (by decide +kernel)) rfl
theorem e_92_78 : Df d 92 78 [.ref a, l1, l2, l3] st h nx = Df d 92 79 [.ref a, l1, l2, l3] (.ref a :: st) h nx := D_aload_n (ins_of mc_92 (pc := 78) (x := (.aload_n 0, 1)) (by decide +kernel)) rfl
theorem e_92_79 : Df d 92 79 [l0, l1, l2, l3] (.ref a :: st) h nx = (gF h a 8 2).bind fun v => Df d 92 82 [l0, l1, l2, l3] (v :: st) h nx := D_getfield (ins_of mc_92 (pc := 79) (x := (.getfield 19, 3)) (by decide +kernel)) mo_92 (by decide +kernel)
theorem e_92_82 : Df d 92 82 [l0, l1, l2, l3] (.ref a :: st) h nx = (gF h a 1 8).bind fun v => Df d 92 85 [l0, l1, l2, l3] (v :: st) h nx := D_getfield (ins_of mc_92 (pc := 82) (x := (.getfield 158, 3)) (by decide +kernel)) mo_92 (by decide +kernel)
theorem e_92_85 : Df d 92 85 [l0, l1, l2, l3] (.int y :: .int x :: st) h nx = Df d 92 86 [l0, l1, l2, l3] (.int (x - y) :: st) h nx := D_isub (ins_of mc_92 (pc := 85) (x := (.isub, 1)) (by decide +kernel))
theorem e_92_86 : Df d 92 86 [l0, l1, l2, l3] [.int x] h nx = some (some (.int x), h, nx) := D_ireturn (ins_of mc_92 (pc := 86) (x := (.ireturn, 1)) (by decide +kernel)) mr_92
theorem mc_93 : mC 93 = prog_1_method_18_code := rfl
theorem mo_93 : mO 93 = 8 := rfl
theorem ml_93 : mL 93 = 3 := rfl
theorem mr_93 : mR 93 = (some .int) := rfl
theorem ma_93 : mA 93 = 1 := rfl
theorem e_93_0 : Df d 93 0 [l0, .int x, l2] st h nx = Df d 93 1 [l0, .int x, l2] (.int x :: st) h nx := D_iload_n (ins_of mc_93 (pc := 0) (x := (.iload_n 1, 1)) (by decide +kernel)) rfl
theorem e_93_1 : Df d 93 1 [l0, l1, l2] st h nx = Df d 93 2 [l0, l1, l2] (.int 1 :: st) h nx := D_iconst (ins_of mc_93 (pc := 1) (x := (.iconst 1, 1)) (by decide +kernel)) (by decide)
theorem e_93_2 : Df d 93 2 [l0, l1, l2] st h nx = Df d 93 4 [l0, l1, l2] (.int 40 :: st) h nx := D_bipush (ins_of mc_93 (pc := 2) (x := (.bipush 40, 2)) (by decide +kernel)) (by decide)
theorem e_93_4 : Df d 93 4 [l0, l1, l2] [v2, v1, v0] h nx = cn d 93 7 [l0, l1, l2] [] (Dn d 74 [v0, v1, v2] h nx) := D_static (k1 := 74) (kd := 1) (ins_of mc_93 (pc := 4) (x := (.invokestatic 73, 3)) (by decide +kernel)) mo_93 (by decide +kernel) (by decide) rfl (Nat.le_of_ble_eq_true rfl) rfl (Nat.le_of_ble_eq_true rfl) rfl
theorem e_93_7 : Df d 93 7 [l0, l1, l2] (.int x :: st) h nx = if x = 0 then Df d 93 10 [l0, l1, l2] st h nx else Df d 93 13 [l0, l1, l2] st h nx := D_if_ne (ins_of mc_93 (pc := 7) (x := (.ifCond .ne 6, 3)) (by decide +kernel)) (by decide)
theorem e_93_10 : Df d 93 10 [l0, l1, l2] st h nx = Df d 93 12 [l0, l1, l2] (.int (-1000000001) :: st) h nx := D_ldc (ins_of mc_93 (pc := 10) (x := (.ldc 77, 2)) (by decide +kernel)) mo_93 (by decide +kernel)
theorem e_93_12 : Df d 93 12 [l0, l1, l2] [.int x] h nx = some (some (.int x), h, nx) := D_ireturn (ins_of mc_93 (pc := 12) (x := (.ireturn, 1)) (by decide +kernel)) mr_93
theorem e_93_13 : Df d 93 13 [l0, l1, l2] st h nx = Df d 93 14 [l0, l1, l2] (.int 0 :: st) h nx := D_iconst (ins_of mc_93 (pc := 13) (x := (.iconst 0, 1)) (by decide +kernel)) (by decide)
theorem e_93_14 (hn : nr l2 = true) : Df d 93 14 [l0, l1, l2] (.int x :: st) h nx = Df d 93 15 [l0, l1, .int x] st h nx := D_istore_n (ins_of mc_93 (pc := 14) (x := (.istore_n 2, 1)) (by decide +kernel)) rfl hn rfl
theorem e_93_15 : Df d 93 15 [l0, l1, .int x] st h nx = Df d 93 16 [l0, l1, .int x] (.int x :: st) h nx := D_iload_n (ins_of mc_93 (pc := 15) (x := (.iload_n 2, 1)) (by decide +kernel)) rfl
theorem e_93_16 : Df d 93 16 [l0, l1, l2] st h nx = Df d 93 18 [l0, l1, l2] (.int 30 :: st) h nx := D_bipush (ins_of mc_93 (pc := 16) (x := (.bipush 30, 2)) (by decide +kernel)) (by decide)
theorem e_93_18 : Df d 93 18 [l0, l1, l2] (.int y :: .int x :: st) h nx = if y < x then Df d 93 58 [l0, l1, l2] st h nx else Df d 93 21 [l0, l1, l2] st h nx := D_icmp_gt (ins_of mc_93 (pc := 18) (x := (.if_icmp .gt 40, 3)) (by decide +kernel)) (by decide)
theorem e_93_21 : Df d 93 21 [.ref a, l1, l2] st h nx = Df d 93 22 [.ref a, l1, l2] (.ref a :: st) h nx := D_aload_n (ins_of mc_93 (pc := 21) (x := (.aload_n 0, 1)) (by decide +kernel)) rfl
theorem e_93_22 : Df d 93 22 [l0, l1, l2] (.ref a :: st) h nx = (gF h a 8 2).bind fun v => Df d 93 25 [l0, l1, l2] (v :: st) h nx := D_getfield (ins_of mc_93 (pc := 22) (x := (.getfield 19, 3)) (by decide +kernel)) mo_93 (by decide +kernel)
theorem e_93_25 : Df d 93 25 [.ref a, l1, l2] st h nx = Df d 93 26 [.ref a, l1, l2] (.ref a :: st) h nx := D_aload_n (ins_of mc_93 (pc := 25) (x := (.aload_n 0, 1)) (by decide +kernel)) rfl
theorem e_93_26 : Df d 93 26 [l0, l1, l2] (.ref a :: st) h nx = (gF h a 8 0).bind fun v => Df d 93 29 [l0, l1, l2] (v :: st) h nx := D_getfield (ins_of mc_93 (pc := 26) (x := (.getfield 12, 3)) (by decide +kernel)) mo_93 (by decide +kernel)
theorem e_93_29 : Df d 93 29 [l0, l1, l2] [v0, .ref a] h nx = if ck h a 1 = true then cn d 93 32 [l0, l1, l2] [] (Dn d 23 [.ref a, v0] h nx) else none := D_virtual (k1 := 23) (ins_of mc_93 (pc := 29) (x := (.invokevirtual 187, 3)) (by decide +kernel)) mo_93 (by decide +kernel) (by decide) rfl rfl (by decide) rfl (Nat.le_of_ble_eq_true rfl) rfl
theorem e_93_32 : Df d 93 32 [.ref a, l1, l2] st h nx = Df d 93 33 [.ref a, l1, l2] (.ref a :: st) h nx := D_aload_n (ins_of mc_93 (pc := 32) (x := (.aload_n 0, 1)) (by decide +kernel)) rfl
theorem e_93_33 : Df d 93 33 [l0, l1, l2] (.ref a :: st) h nx = (gF h a 8 2).bind fun v => Df d 93 36 [l0, l1, l2] (v :: st) h nx := D_getfield (ins_of mc_93 (pc := 33) (x := (.getfield 19, 3)) (by decide +kernel)) mo_93 (by decide +kernel)
theorem e_93_36 : Df d 93 36 [l0, l1, .int x] st h nx = Df d 93 37 [l0, l1, .int x] (.int x :: st) h nx := D_iload_n (ins_of mc_93 (pc := 36) (x := (.iload_n 2, 1)) (by decide +kernel)) rfl
theorem e_93_37 : Df d 93 37 [l0, l1, l2] [v0, .ref a] h nx = if ck h a 1 = true then cn d 93 40 [l0, l1, l2] [] (Dn d 25 [.ref a, v0] h nx) else none := D_virtual (k1 := 25) (ins_of mc_93 (pc := 37) (x := (.invokevirtual 212, 3)) (by decide +kernel)) mo_93 (by decide +kernel) (by decide) rfl rfl (by decide) rfl (Nat.le_of_ble_eq_true rfl) rfl
theorem e_93_40 : Df d 93 40 [.ref a, l1, l2] st h nx = Df d 93 41 [.ref a, l1, l2] (.ref a :: st) h nx := D_aload_n (ins_of mc_93 (pc := 40) (x := (.aload_n 0, 1)) (by decide +kernel)) rfl
theorem e_93_41 : Df d 93 41 [l0, .int x, l2] st h nx = Df d 93 42 [l0, .int x, l2] (.int x :: st) h nx := D_iload_n (ins_of mc_93 (pc := 41) (x := (.iload_n 1, 1)) (by decide +kernel)) rfl
theorem e_93_42 : Df d 93 42 [l0, l1, l2] [v0, .ref a] h nx = if ck h a 8 = true then cn d 93 45 [l0, l1, l2] [] (Dn d 89 [.ref a, v0] h nx) else none := D_virtual (k1 := 89) (ins_of mc_93 (pc := 42) (x := (.invokevirtual 195, 3)) (by decide +kernel)) mo_93 (by decide +kernel) (by decide) rfl rfl (by decide) rfl (Nat.le_of_ble_eq_true rfl) rfl
theorem e_93_45 : Df d 93 45 [l0, l1, l2] st h nx = Df d 93 47 [l0, l1, l2] (.int (-1000000005) :: st) h nx := D_ldc (ins_of mc_93 (pc := 45) (x := (.ldc 174, 2)) (by decide +kernel)) mo_93 (by decide +kernel)
theorem e_93_47 : Df d 93 47 [l0, l1, l2] (.int y :: .int x :: st) h nx = if x = y then Df d 93 50 [l0, l1, l2] st h nx else Df d 93 52 [l0, l1, l2] st h nx := D_icmp_ne (ins_of mc_93 (pc := 47) (x := (.if_icmp .ne 5, 3)) (by decide +kernel)) (by decide)
theorem e_93_50 : Df d 93 50 [l0, l1, .int x] st h nx = Df d 93 51 [l0, l1, .int x] (.int x :: st) h nx := D_iload_n (ins_of mc_93 (pc := 50) (x := (.iload_n 2, 1)) (by decide +kernel)) rfl
theorem e_93_51 : Df d 93 51 [l0, l1, l2] [.int x] h nx = some (some (.int x), h, nx) := D_ireturn (ins_of mc_93 (pc := 51) (x := (.ireturn, 1)) (by decide +kernel)) mr_93
theorem e_93_52 : Df d 93 52 [l0, l1, .int x] st h nx = Df d 93 55 [l0, l1, .int (x + 1)] st h nx := D_iinc (ins_of mc_93 (pc := 52) (x := (.iinc 2 1, 3)) (by decide +kernel)) rfl (by decide) rfl
theorem e_93_55 : Df d 93 55 [l0, l1, l2] st h nx = Df d 93 15 [l0, l1, l2] st h nx := D_goto (ins_of mc_93 (pc := 55) (x := (.goto (-40), 3)) (by decide +kernel)) (by decide)
theorem e_93_58 : Df d 93 58 [l0, l1, l2] st h nx = Df d 93 60 [l0, l1, l2] (.int (-1000000005) :: st) h nx := D_ldc (ins_of mc_93 (pc := 58) (x := (.ldc 174, 2)) (by decide +kernel)) mo_93 (by decide +kernel)
theorem e_93_60 : Df d 93 60 [l0, l1, l2] [.int x] h nx = some (some (.int x), h, nx) := D_ireturn (ins_of mc_93 (pc := 60) (x := (.ireturn, 1)) (by decide +kernel)) mr_93
theorem mc_94 : mC 94 = prog_1_method_19_code := rfl
theorem mo_94 : mO 94 = 8 := rfl
theorem ml_94 : mL 94 = 4 := rfl
theorem mr_94 : mR 94 = (some .int) := rfl
theorem ma_94 : mA 94 = 1 := rfl
theorem e_94_0 : Df d 94 0 [l0, .int x, l2, l3] st h nx = Df d 94 1 [l0, .int x, l2, l3] (.int x :: st) h nx := D_iload_n (ins_of mc_94 (pc := 0) (x := (.iload_n 1, 1)) (by decide +kernel)) rfl
theorem e_94_1 : Df d 94 1 [l0, l1, l2, l3] st h nx = Df d 94 2 [l0, l1, l2, l3] (.int 1 :: st) h nx := D_iconst (ins_of mc_94 (pc := 1) (x := (.iconst 1, 1)) (by decide +kernel)) (by decide)
theorem e_94_2 : Df d 94 2 [l0, l1, l2, l3] st h nx = Df d 94 4 [l0, l1, l2, l3] (.int 100 :: st) h nx := D_bipush (ins_of mc_94 (pc := 2) (x := (.bipush 100, 2)) (by decide +kernel)) (by decide)
theorem e_94_4 : Df d 94 4 [l0, l1, l2, l3] [v2, v1, v0] h nx = cn d 94 7 [l0, l1, l2, l3] [] (Dn d 74 [v0, v1, v2] h nx) := D_static (k1 := 74) (kd := 1) (ins_of mc_94 (pc := 4) (x := (.invokestatic 73, 3)) (by decide +kernel)) mo_94 (by decide +kernel) (by decide) rfl (Nat.le_of_ble_eq_true rfl) rfl (Nat.le_of_ble_eq_true rfl) rfl
theorem e_94_7 : Df d 94 7 [l0, l1, l2, l3] (.int x :: st) h nx = if x = 0 then Df d 94 10 [l0, l1, l2, l3] st h nx else Df d 94 13 [l0, l1, l2, l3] st h nx := D_if_ne (ins_of mc_94 (pc := 7) (x := (.ifCond .ne 6, 3)) (by decide +kernel)) (by decide)
theorem e_94_10 : Df d 94 10 [l0, l1, l2, l3] st h nx = Df d 94 12 [l0, l1, l2, l3] (.int (-1000000001) :: st) h nx := D_ldc (ins_of mc_94 (pc := 10) (x := (.ldc 77, 2)) (by decide +kernel)) mo_94 (by decide +kernel)
theorem e_94_12 : Df d 94 12 [l0, l1, l2, l3] [.int x] h nx = some (some (.int x), h, nx) := D_ireturn (ins_of mc_94 (pc := 12) (x := (.ireturn, 1)) (by decide +kernel)) mr_94
theorem e_94_13 : Df d 94 13 [.ref a, l1, l2, l3] st h nx = Df d 94 14 [.ref a, l1, l2, l3] (.ref a :: st) h nx := D_aload_n (ins_of mc_94 (pc := 13) (x := (.aload_n 0, 1)) (by decide +kernel)) rfl
theorem e_94_14 : Df d 94 14 [l0, l1, l2, l3] (.ref a :: st) h nx = (gF h a 8 2).bind fun v => Df d 94 17 [l0, l1, l2, l3] (v :: st) h nx := D_getfield (ins_of mc_94 (pc := 14) (x := (.getfield 19, 3)) (by decide +kernel)) mo_94 (by decide +kernel)
theorem e_94_17 : Df d 94 17 [.ref a, l1, l2, l3] st h nx = Df d 94 18 [.ref a, l1, l2, l3] (.ref a :: st) h nx := D_aload_n (ins_of mc_94 (pc := 17) (x := (.aload_n 0, 1)) (by decide +kernel)) rfl
theorem e_94_18 : Df d 94 18 [l0, l1, l2, l3] (.ref a :: st) h nx = (gF h a 8 0).bind fun v => Df d 94 21 [l0, l1, l2, l3] (v :: st) h nx := D_getfield (ins_of mc_94 (pc := 18) (x := (.getfield 12, 3)) (by decide +kernel)) mo_94 (by decide +kernel)
theorem e_94_21 : Df d 94 21 [l0, l1, l2, l3] [v0, .ref a] h nx = if ck h a 1 = true then cn d 94 24 [l0, l1, l2, l3] [] (Dn d 23 [.ref a, v0] h nx) else none := D_virtual (k1 := 23) (ins_of mc_94 (pc := 21) (x := (.invokevirtual 187, 3)) (by decide +kernel)) mo_94 (by decide +kernel) (by decide) rfl rfl (by decide) rfl (Nat.le_of_ble_eq_true rfl) rfl
theorem e_94_24 : Df d 94 24 [l0, l1, l2, l3] st h nx = Df d 94 25 [l0, l1, l2, l3] (.int 0 :: st) h nx := D_iconst (ins_of mc_94 (pc := 24) (x := (.iconst 0, 1)) (by decide +kernel)) (by decide)
theorem e_94_25 (hn : nr l2 = true) : Df d 94 25 [l0, l1, l2, l3] (.int x :: st) h nx = Df d 94 26 [l0, l1, .int x, l3] st h nx := D_istore_n (ins_of mc_94 (pc := 25) (x := (.istore_n 2, 1)) (by decide +kernel)) rfl hn rfl
theorem e_94_26 : Df d 94 26 [l0, l1, l2, l3] st h nx = Df d 94 27 [l0, l1, l2, l3] (.int 0 :: st) h nx := D_iconst (ins_of mc_94 (pc := 26) (x := (.iconst 0, 1)) (by decide +kernel)) (by decide)
theorem e_94_27 (hn : nr l3 = true) : Df d 94 27 [l0, l1, l2, l3] (.int x :: st) h nx = Df d 94 28 [l0, l1, l2, .int x] st h nx := D_istore_n (ins_of mc_94 (pc := 27) (x := (.istore_n 3, 1)) (by decide +kernel)) rfl hn rfl
theorem e_94_28 : Df d 94 28 [l0, l1, l2, .int x] st h nx = Df d 94 29 [l0, l1, l2, .int x] (.int x :: st) h nx := D_iload_n (ins_of mc_94 (pc := 28) (x := (.iload_n 3, 1)) (by decide +kernel)) rfl
theorem e_94_29 : Df d 94 29 [l0, .int x, l2, l3] st h nx = Df d 94 30 [l0, .int x, l2, l3] (.int x :: st) h nx := D_iload_n (ins_of mc_94 (pc := 29) (x := (.iload_n 1, 1)) (by decide +kernel)) rfl
theorem e_94_30 : Df d 94 30 [l0, l1, l2, l3] (.int y :: .int x :: st) h nx = if y ≤ x then Df d 94 63 [l0, l1, l2, l3] st h nx else Df d 94 33 [l0, l1, l2, l3] st h nx := D_icmp_ge (ins_of mc_94 (pc := 30) (x := (.if_icmp .ge 33, 3)) (by decide +kernel)) (by decide)
theorem e_94_33 : Df d 94 33 [.ref a, l1, l2, l3] st h nx = Df d 94 34 [.ref a, l1, l2, l3] (.ref a :: st) h nx := D_aload_n (ins_of mc_94 (pc := 33) (x := (.aload_n 0, 1)) (by decide +kernel)) rfl
theorem e_94_34 : Df d 94 34 [l0, l1, l2, l3] (.ref a :: st) h nx = (gF h a 8 2).bind fun v => Df d 94 37 [l0, l1, l2, l3] (v :: st) h nx := D_getfield (ins_of mc_94 (pc := 34) (x := (.getfield 19, 3)) (by decide +kernel)) mo_94 (by decide +kernel)
theorem e_94_37 : Df d 94 37 [.ref a, l1, l2, l3] st h nx = Df d 94 38 [.ref a, l1, l2, l3] (.ref a :: st) h nx := D_aload_n (ins_of mc_94 (pc := 37) (x := (.aload_n 0, 1)) (by decide +kernel)) rfl
theorem e_94_38 : Df d 94 38 [l0, l1, l2, l3] (.ref a :: st) h nx = (gF h a 8 4).bind fun v => Df d 94 41 [l0, l1, l2, l3] (v :: st) h nx := D_getfield (ins_of mc_94 (pc := 38) (x := (.getfield 32, 3)) (by decide +kernel)) mo_94 (by decide +kernel)
theorem e_94_41 : Df d 94 41 [l0, l1, l2, l3] st h nx = Df d 94 42 [l0, l1, l2, l3] (.int 1 :: st) h nx := D_iconst (ins_of mc_94 (pc := 41) (x := (.iconst 1, 1)) (by decide +kernel)) (by decide)
theorem e_94_42 : Df d 94 42 [l0, l1, l2, l3] [v1, v0, .ref a] h nx = if ck h a 1 = true then cn d 94 45 [l0, l1, l2, l3] [] (Dn d 14 [.ref a, v0, v1] h nx) else none := D_virtual (k1 := 14) (ins_of mc_94 (pc := 42) (x := (.invokevirtual 208, 3)) (by decide +kernel)) mo_94 (by decide +kernel) (by decide) rfl rfl (by decide) rfl (Nat.le_of_ble_eq_true rfl) rfl
theorem e_94_45 : Df d 94 45 [l0, l1, .int x, l3] st h nx = Df d 94 46 [l0, l1, .int x, l3] (.int x :: st) h nx := D_iload_n (ins_of mc_94 (pc := 45) (x := (.iload_n 2, 1)) (by decide +kernel)) rfl
theorem e_94_46 : Df d 94 46 [l0, l1, l2, l3] st h nx = Df d 94 47 [l0, l1, l2, l3] (.int 1 :: st) h nx := D_iconst (ins_of mc_94 (pc := 46) (x := (.iconst 1, 1)) (by decide +kernel)) (by decide)
theorem e_94_47 : Df d 94 47 [.ref a, l1, l2, l3] st h nx = Df d 94 48 [.ref a, l1, l2, l3] (.ref a :: st) h nx := D_aload_n (ins_of mc_94 (pc := 47) (x := (.aload_n 0, 1)) (by decide +kernel)) rfl
theorem e_94_48 : Df d 94 48 [l0, l1, l2, l3] (.ref a :: st) h nx = (gF h a 8 2).bind fun v => Df d 94 51 [l0, l1, l2, l3] (v :: st) h nx := D_getfield (ins_of mc_94 (pc := 48) (x := (.getfield 19, 3)) (by decide +kernel)) mo_94 (by decide +kernel)
theorem e_94_51 : Df d 94 51 [l0, l1, l2, l3] (.ref a :: st) h nx = (gF h a 1 3).bind fun v => Df d 94 54 [l0, l1, l2, l3] (v :: st) h nx := D_getfield (ins_of mc_94 (pc := 51) (x := (.getfield 168, 3)) (by decide +kernel)) mo_94 (by decide +kernel)
theorem e_94_54 : Df d 94 54 [l0, l1, l2, l3] (.int y :: .int x :: st) h nx = Df d 94 55 [l0, l1, l2, l3] (.int (x <<< (y &&& 31)) :: st) h nx := D_ishl (ins_of mc_94 (pc := 54) (x := (.ishl, 1)) (by decide +kernel))
theorem e_94_55 : Df d 94 55 [l0, l1, l2, l3] (.int y :: .int x :: st) h nx = Df d 94 56 [l0, l1, l2, l3] (.int (x ||| y) :: st) h nx := D_ior (ins_of mc_94 (pc := 55) (x := (.ior, 1)) (by decide +kernel))
theorem e_94_56 (hn : nr l2 = true) : Df d 94 56 [l0, l1, l2, l3] (.int x :: st) h nx = Df d 94 57 [l0, l1, .int x, l3] st h nx := D_istore_n (ins_of mc_94 (pc := 56) (x := (.istore_n 2, 1)) (by decide +kernel)) rfl hn rfl
theorem e_94_57 : Df d 94 57 [l0, l1, l2, .int x] st h nx = Df d 94 60 [l0, l1, l2, .int (x + 1)] st h nx := D_iinc (ins_of mc_94 (pc := 57) (x := (.iinc 3 1, 3)) (by decide +kernel)) rfl (by decide) rfl
theorem e_94_60 : Df d 94 60 [l0, l1, l2, l3] st h nx = Df d 94 28 [l0, l1, l2, l3] st h nx := D_goto (ins_of mc_94 (pc := 60) (x := (.goto (-32), 3)) (by decide +kernel)) (by decide)
theorem e_94_63 : Df d 94 63 [l0, l1, .int x, l3] st h nx = Df d 94 64 [l0, l1, .int x, l3] (.int x :: st) h nx := D_iload_n (ins_of mc_94 (pc := 63) (x := (.iload_n 2, 1)) (by decide +kernel)) rfl
theorem e_94_64 : Df d 94 64 [l0, l1, l2, l3] [.int x] h nx = some (some (.int x), h, nx) := D_ireturn (ins_of mc_94 (pc := 64) (x := (.ireturn, 1)) (by decide +kernel)) mr_94
theorem mc_95 : mC 95 = prog_1_method_20_code := rfl
theorem mo_95 : mO 95 = 8 := rfl
theorem ml_95 : mL 95 = 5 := rfl
theorem mr_95 : mR 95 = (some .int) := rfl
theorem ma_95 : mA 95 = 3 := rfl
theorem e_95_0 : Df d 95 0 [l0, .int x, l2, l3, l4] st h nx = Df d 95 1 [l0, .int x, l2, l3, l4] (.int x :: st) h nx := D_iload_n (ins_of mc_95 (pc := 0) (x := (.iload_n 1, 1)) (by decide +kernel)) rfl
theorem e_95_1 : Df d 95 1 [l0, l1, l2, l3, l4] [v0] h nx = cn d 95 4 [l0, l1, l2, l3, l4] [] (Dn d 96 [v0] h nx) := D_static (k1 := 96) (kd := 1) (ins_of mc_95 (pc := 1) (x := (.invokestatic 216, 3)) (by decide +kernel)) mo_95 (by decide +kernel) (by decide) rfl (Nat.le_of_ble_eq_true rfl) rfl (Nat.le_of_ble_eq_true rfl) rfl
theorem e_95_4 : Df d 95 4 [l0, l1, l2, l3, l4] (.int x :: st) h nx = if x = 0 then Df d 95 27 [l0, l1, l2, l3, l4] st h nx else Df d 95 7 [l0, l1, l2, l3, l4] st h nx := D_if_eq (ins_of mc_95 (pc := 4) (x := (.ifCond .eq 23, 3)) (by decide +kernel)) (by decide)
theorem e_95_7 : Df d 95 7 [.ref a, l1, l2, l3, l4] st h nx = Df d 95 8 [.ref a, l1, l2, l3, l4] (.ref a :: st) h nx := D_aload_n (ins_of mc_95 (pc := 7) (x := (.aload_n 0, 1)) (by decide +kernel)) rfl
theorem e_95_8 : Df d 95 8 [l0, l1, l2, l3, l4] (.ref a :: st) h nx = (gF h a 8 0).bind fun v => Df d 95 11 [l0, l1, l2, l3, l4] (v :: st) h nx := D_getfield (ins_of mc_95 (pc := 8) (x := (.getfield 12, 3)) (by decide +kernel)) mo_95 (by decide +kernel)
theorem e_95_11 : Df d 95 11 [l0, l1, .int x, l3, l4] st h nx = Df d 95 12 [l0, l1, .int x, l3, l4] (.int x :: st) h nx := D_iload_n (ins_of mc_95 (pc := 11) (x := (.iload_n 2, 1)) (by decide +kernel)) rfl
theorem e_95_12 : Df d 95 12 [l0, l1, l2, l3, l4] [v0, .ref a] h nx = if ck h a 1 = true then cn d 95 15 [l0, l1, l2, l3, l4] [] (Dn d 6 [.ref a, v0] h nx) else none := D_virtual (k1 := 6) (ins_of mc_95 (pc := 12) (x := (.invokevirtual 82, 3)) (by decide +kernel)) mo_95 (by decide +kernel) (by decide) rfl rfl (by decide) rfl (Nat.le_of_ble_eq_true rfl) rfl
theorem e_95_15 : Df d 95 15 [l0, l1, l2, l3, l4] (.int x :: st) h nx = if x = 0 then Df d 95 27 [l0, l1, l2, l3, l4] st h nx else Df d 95 18 [l0, l1, l2, l3, l4] st h nx := D_if_eq (ins_of mc_95 (pc := 15) (x := (.ifCond .eq 12, 3)) (by decide +kernel)) (by decide)
theorem e_95_18 : Df d 95 18 [l0, l1, l2, .int x, l4] st h nx = Df d 95 19 [l0, l1, l2, .int x, l4] (.int x :: st) h nx := D_iload_n (ins_of mc_95 (pc := 18) (x := (.iload_n 3, 1)) (by decide +kernel)) rfl
theorem e_95_19 : Df d 95 19 [l0, l1, l2, l3, l4] st h nx = Df d 95 20 [l0, l1, l2, l3, l4] (.int 0 :: st) h nx := D_iconst (ins_of mc_95 (pc := 19) (x := (.iconst 0, 1)) (by decide +kernel)) (by decide)
theorem e_95_20 : Df d 95 20 [l0, l1, l2, l3, l4] st h nx = Df d 95 21 [l0, l1, l2, l3, l4] (.int 1 :: st) h nx := D_iconst (ins_of mc_95 (pc := 20) (x := (.iconst 1, 1)) (by decide +kernel)) (by decide)
theorem e_95_21 : Df d 95 21 [l0, l1, l2, l3, l4] [v2, v1, v0] h nx = cn d 95 24 [l0, l1, l2, l3, l4] [] (Dn d 74 [v0, v1, v2] h nx) := D_static (k1 := 74) (kd := 1) (ins_of mc_95 (pc := 21) (x := (.invokestatic 73, 3)) (by decide +kernel)) mo_95 (by decide +kernel) (by decide) rfl (Nat.le_of_ble_eq_true rfl) rfl (Nat.le_of_ble_eq_true rfl) rfl
theorem e_95_24 : Df d 95 24 [l0, l1, l2, l3, l4] (.int x :: st) h nx = if x = 0 then Df d 95 27 [l0, l1, l2, l3, l4] st h nx else Df d 95 30 [l0, l1, l2, l3, l4] st h nx := D_if_ne (ins_of mc_95 (pc := 24) (x := (.ifCond .ne 6, 3)) (by decide +kernel)) (by decide)
theorem e_95_27 : Df d 95 27 [l0, l1, l2, l3, l4] st h nx = Df d 95 29 [l0, l1, l2, l3, l4] (.int (-1000000001) :: st) h nx := D_ldc (ins_of mc_95 (pc := 27) (x := (.ldc 77, 2)) (by decide +kernel)) mo_95 (by decide +kernel)
theorem e_95_29 : Df d 95 29 [l0, l1, l2, l3, l4] [.int x] h nx = some (some (.int x), h, nx) := D_ireturn (ins_of mc_95 (pc := 29) (x := (.ireturn, 1)) (by decide +kernel)) mr_95
theorem e_95_30 : Df d 95 30 [.ref a, l1, l2, l3, l4] st h nx = Df d 95 31 [.ref a, l1, l2, l3, l4] (.ref a :: st) h nx := D_aload_n (ins_of mc_95 (pc := 30) (x := (.aload_n 0, 1)) (by decide +kernel)) rfl
theorem e_95_31 : Df d 95 31 [l0, l1, l2, l3, l4] (.ref a :: st) h nx = (gF h a 8 6).bind fun v => Df d 95 34 [l0, l1, l2, l3, l4] (v :: st) h nx := D_getfield (ins_of mc_95 (pc := 31) (x := (.getfield 45, 3)) (by decide +kernel)) mo_95 (by decide +kernel)
theorem e_95_34 : Df d 95 34 [l0, .int x, l2, l3, l4] st h nx = Df d 95 35 [l0, .int x, l2, l3, l4] (.int x :: st) h nx := D_iload_n (ins_of mc_95 (pc := 34) (x := (.iload_n 1, 1)) (by decide +kernel)) rfl
theorem e_95_35 : Df d 95 35 [l0, l1, l2, l3, l4] (.int x :: .ref a :: st) h nx = (rR h a x).bind fun v => Df d 95 36 [l0, l1, l2, l3, l4] (.ref v :: st) h nx := D_aaload (ins_of mc_95 (pc := 35) (x := (.aaload, 1)) (by decide +kernel))
theorem e_95_36 : Df d 95 36 [l0, l1, l2, l3, l4] (.ref a :: st) h nx = (gF h a 5 1).bind fun v => Df d 95 39 [l0, l1, l2, l3, l4] (v :: st) h nx := D_getfield (ins_of mc_95 (pc := 36) (x := (.getfield 219, 3)) (by decide +kernel)) mo_95 (by decide +kernel)
theorem e_95_39 : Df d 95 39 [l0, l1, l2, l3, l4] st h nx = Df d 95 40 [l0, l1, l2, l3, l4] (.int (-1) :: st) h nx := D_iconst (ins_of mc_95 (pc := 39) (x := (.iconst (-1), 1)) (by decide +kernel)) (by decide)
theorem e_95_40 : Df d 95 40 [l0, l1, l2, l3, l4] (.int y :: .int x :: st) h nx = if x = y then Df d 95 43 [l0, l1, l2, l3, l4] st h nx else Df d 95 46 [l0, l1, l2, l3, l4] st h nx := D_icmp_ne (ins_of mc_95 (pc := 40) (x := (.if_icmp .ne 6, 3)) (by decide +kernel)) (by decide)
theorem e_95_43 : Df d 95 43 [l0, l1, l2, l3, l4] st h nx = Df d 95 45 [l0, l1, l2, l3, l4] (.int (-1000000011) :: st) h nx := D_ldc (ins_of mc_95 (pc := 43) (x := (.ldc 222, 2)) (by decide +kernel)) mo_95 (by decide +kernel)
theorem e_95_45 : Df d 95 45 [l0, l1, l2, l3, l4] [.int x] h nx = some (some (.int x), h, nx) := D_ireturn (ins_of mc_95 (pc := 45) (x := (.ireturn, 1)) (by decide +kernel)) mr_95
theorem e_95_46 : Df d 95 46 [.ref a, l1, l2, l3, l4] st h nx = Df d 95 47 [.ref a, l1, l2, l3, l4] (.ref a :: st) h nx := D_aload_n (ins_of mc_95 (pc := 46) (x := (.aload_n 0, 1)) (by decide +kernel)) rfl
theorem e_95_47 : Df d 95 47 [l0, l1, l2, l3, l4] (.ref a :: st) h nx = (gF h a 8 3).bind fun v => Df d 95 50 [l0, l1, l2, l3, l4] (v :: st) h nx := D_getfield (ins_of mc_95 (pc := 47) (x := (.getfield 25, 3)) (by decide +kernel)) mo_95 (by decide +kernel)
theorem e_95_50 : Df d 95 50 [l0, l1, l2, l3, l4] [.ref a] h nx = if ck h a 0 = true then cn d 95 53 [l0, l1, l2, l3, l4] [] (Dn d 1 [.ref a] h nx) else none := D_virtual (k1 := 1) (ins_of mc_95 (pc := 50) (x := (.invokevirtual 198, 3)) (by decide +kernel)) mo_95 (by decide +kernel) (by decide) rfl rfl (by decide) rfl (Nat.le_of_ble_eq_true rfl) rfl
theorem e_95_53 : Df d 95 53 [l0, l1, l2, l3, l4] st h nx = Df d 95 54 [l0, l1, l2, l3, l4] (.int 0 :: st) h nx := D_iconst (ins_of mc_95 (pc := 53) (x := (.iconst 0, 1)) (by decide +kernel)) (by decide)
theorem e_95_54 (hn : nr l4 = true) : Df d 95 54 [l0, l1, l2, l3, l4] (.int x :: st) h nx = Df d 95 56 [l0, l1, l2, l3, .int x] st h nx := D_istore (ins_of mc_95 (pc := 54) (x := (.istore 4, 2)) (by decide +kernel)) rfl hn rfl
theorem e_95_56 : Df d 95 56 [l0, l1, l2, l3, .int x] st h nx = Df d 95 58 [l0, l1, l2, l3, .int x] (.int x :: st) h nx := D_iload (ins_of mc_95 (pc := 56) (x := (.iload 4, 2)) (by decide +kernel)) rfl
theorem e_95_58 : Df d 95 58 [l0, l1, l2, l3, l4] st h nx = Df d 95 60 [l0, l1, l2, l3, l4] (.int 95 :: st) h nx := D_bipush (ins_of mc_95 (pc := 58) (x := (.bipush 95, 2)) (by decide +kernel)) (by decide)
theorem e_95_60 : Df d 95 60 [l0, l1, l2, l3, l4] (.int y :: .int x :: st) h nx = if y < x then Df d 95 91 [l0, l1, l2, l3, l4] st h nx else Df d 95 63 [l0, l1, l2, l3, l4] st h nx := D_icmp_gt (ins_of mc_95 (pc := 60) (x := (.if_icmp .gt 31, 3)) (by decide +kernel)) (by decide)
theorem e_95_63 : Df d 95 63 [.ref a, l1, l2, l3, l4] st h nx = Df d 95 64 [.ref a, l1, l2, l3, l4] (.ref a :: st) h nx := D_aload_n (ins_of mc_95 (pc := 63) (x := (.aload_n 0, 1)) (by decide +kernel)) rfl
theorem e_95_64 : Df d 95 64 [l0, l1, l2, l3, l4] (.ref a :: st) h nx = (gF h a 8 3).bind fun v => Df d 95 67 [l0, l1, l2, l3, l4] (v :: st) h nx := D_getfield (ins_of mc_95 (pc := 64) (x := (.getfield 25, 3)) (by decide +kernel)) mo_95 (by decide +kernel)
theorem e_95_67 : Df d 95 67 [l0, l1, l2, l3, .int x] st h nx = Df d 95 69 [l0, l1, l2, l3, .int x] (.int x :: st) h nx := D_iload (ins_of mc_95 (pc := 67) (x := (.iload 4, 2)) (by decide +kernel)) rfl
theorem e_95_69 : Df d 95 69 [.ref a, l1, l2, l3, l4] st h nx = Df d 95 70 [.ref a, l1, l2, l3, l4] (.ref a :: st) h nx := D_aload_n (ins_of mc_95 (pc := 69) (x := (.aload_n 0, 1)) (by decide +kernel)) rfl
theorem e_95_70 : Df d 95 70 [.ref a, l1, l2, l3, l4] st h nx = Df d 95 71 [.ref a, l1, l2, l3, l4] (.ref a :: st) h nx := D_aload_n (ins_of mc_95 (pc := 70) (x := (.aload_n 0, 1)) (by decide +kernel)) rfl
theorem e_95_71 : Df d 95 71 [l0, l1, l2, l3, l4] (.ref a :: st) h nx = (gF h a 8 6).bind fun v => Df d 95 74 [l0, l1, l2, l3, l4] (v :: st) h nx := D_getfield (ins_of mc_95 (pc := 71) (x := (.getfield 45, 3)) (by decide +kernel)) mo_95 (by decide +kernel)
theorem e_95_74 : Df d 95 74 [l0, .int x, l2, l3, l4] st h nx = Df d 95 75 [l0, .int x, l2, l3, l4] (.int x :: st) h nx := D_iload_n (ins_of mc_95 (pc := 74) (x := (.iload_n 1, 1)) (by decide +kernel)) rfl
theorem e_95_75 : Df d 95 75 [l0, l1, l2, l3, l4] (.int x :: .ref a :: st) h nx = (rR h a x).bind fun v => Df d 95 76 [l0, l1, l2, l3, l4] (.ref v :: st) h nx := D_aaload (ins_of mc_95 (pc := 75) (x := (.aaload, 1)) (by decide +kernel))
theorem e_95_76 : Df d 95 76 [l0, l1, .int x, l3, l4] st h nx = Df d 95 77 [l0, l1, .int x, l3, l4] (.int x :: st) h nx := D_iload_n (ins_of mc_95 (pc := 76) (x := (.iload_n 2, 1)) (by decide +kernel)) rfl
theorem e_95_77 : Df d 95 77 [l0, l1, l2, l3, .int x] st h nx = Df d 95 79 [l0, l1, l2, l3, .int x] (.int x :: st) h nx := D_iload (ins_of mc_95 (pc := 77) (x := (.iload 4, 2)) (by decide +kernel)) rfl
theorem e_95_79 : Df d 95 79 [l0, l1, l2, l3, l4] [v2, v1, v0, .ref a, s0, s1] h nx = if ck h a 8 = true then cn d 95 82 [l0, l1, l2, l3, l4] [s0, s1] (Dn d 97 [.ref a, v0, v1, v2] h nx) else none := D_virtual (k1 := 97) (ins_of mc_95 (pc := 79) (x := (.invokevirtual 223, 3)) (by decide +kernel)) mo_95 (by decide +kernel) (by decide) rfl rfl (by decide) rfl (Nat.le_of_ble_eq_true rfl) rfl
theorem e_95_82 : Df d 95 82 [l0, l1, l2, l3, l4] [v1, v0, .ref a] h nx = if ck h a 0 = true then cn d 95 85 [l0, l1, l2, l3, l4] [] (Dn d 2 [.ref a, v0, v1] h nx) else none := D_virtual (k1 := 2) (ins_of mc_95 (pc := 82) (x := (.invokevirtual 201, 3)) (by decide +kernel)) mo_95 (by decide +kernel) (by decide) rfl rfl (by decide) rfl (Nat.le_of_ble_eq_true rfl) rfl
theorem e_95_85 : Df d 95 85 [l0, l1, l2, l3, .int x] st h nx = Df d 95 88 [l0, l1, l2, l3, .int (x + 5)] st h nx := D_iinc (ins_of mc_95 (pc := 85) (x := (.iinc 4 5, 3)) (by decide +kernel)) rfl (by decide) rfl
theorem e_95_88 : Df d 95 88 [l0, l1, l2, l3, l4] st h nx = Df d 95 56 [l0, l1, l2, l3, l4] st h nx := D_goto (ins_of mc_95 (pc := 88) (x := (.goto (-32), 3)) (by decide +kernel)) (by decide)
theorem e_95_91 : Df d 95 91 [.ref a, l1, l2, l3, l4] st h nx = Df d 95 92 [.ref a, l1, l2, l3, l4] (.ref a :: st) h nx := D_aload_n (ins_of mc_95 (pc := 91) (x := (.aload_n 0, 1)) (by decide +kernel)) rfl
theorem e_95_92 : Df d 95 92 [l0, l1, l2, l3, l4] (.ref a :: st) h nx = (gF h a 8 3).bind fun v => Df d 95 95 [l0, l1, l2, l3, l4] (v :: st) h nx := D_getfield (ins_of mc_95 (pc := 92) (x := (.getfield 25, 3)) (by decide +kernel)) mo_95 (by decide +kernel)
theorem e_95_95 : Df d 95 95 [l0, l1, l2, .int x, l4] st h nx = Df d 95 96 [l0, l1, l2, .int x, l4] (.int x :: st) h nx := D_iload_n (ins_of mc_95 (pc := 95) (x := (.iload_n 3, 1)) (by decide +kernel)) rfl
theorem e_95_96 : Df d 95 96 [l0, l1, l2, l3, l4] [v0, .ref a] h nx = if ck h a 0 = true then cn d 95 99 [l0, l1, l2, l3, l4] [] (Dn d 3 [.ref a, v0] h nx) else none := D_virtual (k1 := 3) (ins_of mc_95 (pc := 96) (x := (.invokevirtual 205, 3)) (by decide +kernel)) mo_95 (by decide +kernel) (by decide) rfl rfl (by decide) rfl (Nat.le_of_ble_eq_true rfl) rfl
theorem e_95_99 : Df d 95 99 [l0, l1, l2, l3, l4] [.int x] h nx = some (some (.int x), h, nx) := D_ireturn (ins_of mc_95 (pc := 99) (x := (.ireturn, 1)) (by decide +kernel)) mr_95
theorem mc_96 : mC 96 = prog_1_method_45_code := rfl
theorem mo_96 : mO 96 = 8 := rfl
theorem ml_96 : mL 96 = 1 := rfl
theorem mr_96 : mR 96 = (some .boolean) := rfl
theorem ma_96 : mA 96 = 1 := rfl
theorem e_96_0 : Df d 96 0 [.int x] st h nx = Df d 96 1 [.int x] (.int x :: st) h nx := D_iload_n (ins_of mc_96 (pc := 0) (x := (.iload_n 0, 1)) (by decide +kernel)) rfl
theorem e_96_1 : Df d 96 1 [l0] st h nx = Df d 96 2 [l0] (.int 0 :: st) h nx := D_iconst (ins_of mc_96 (pc := 1) (x := (.iconst 0, 1)) (by decide +kernel)) (by decide)
theorem e_96_2 : Df d 96 2 [l0] st h nx = Df d 96 3 [l0] (.int 3 :: st) h nx := D_iconst (ins_of mc_96 (pc := 2) (x := (.iconst 3, 1)) (by decide +kernel)) (by decide)
theorem e_96_3 : Df d 96 3 [l0] [v2, v1, v0] h nx = cn d 96 6 [l0] [] (Dn d 74 [v0, v1, v2] h nx) := D_static (k1 := 74) (kd := 1) (ins_of mc_96 (pc := 3) (x := (.invokestatic 73, 3)) (by decide +kernel)) mo_96 (by decide +kernel) (by decide) rfl (Nat.le_of_ble_eq_true rfl) rfl (Nat.le_of_ble_eq_true rfl) rfl
theorem e_96_6 : Df d 96 6 [l0] [.int x] h nx = if nR .boolean x = true then some (some (.int x), h, nx) else none := D_zreturn (ins_of mc_96 (pc := 6) (x := (.ireturn, 1)) (by decide +kernel)) mr_96
theorem mc_97 : mC 97 = prog_1_method_49_code := rfl
theorem mo_97 : mO 97 = 8 := rfl
theorem ml_97 : mL 97 = 6 := rfl
theorem mr_97 : mR 97 = (some .int) := rfl
theorem ma_97 : mA 97 = 3 := rfl
theorem e_97_0 : Df d 97 0 [.ref a, l1, l2, l3, l4, l5] st h nx = Df d 97 1 [.ref a, l1, l2, l3, l4, l5] (.ref a :: st) h nx := D_aload_n (ins_of mc_97 (pc := 0) (x := (.aload_n 0, 1)) (by decide +kernel)) rfl
theorem e_97_1 : Df d 97 1 [l0, l1, l2, l3, l4, l5] (.ref a :: st) h nx = (gF h a 8 2).bind fun v => Df d 97 4 [l0, l1, l2, l3, l4, l5] (v :: st) h nx := D_getfield (ins_of mc_97 (pc := 1) (x := (.getfield 19, 3)) (by decide +kernel)) mo_97 (by decide +kernel)
theorem e_97_4 : Df d 97 4 [.ref a, l1, l2, l3, l4, l5] st h nx = Df d 97 5 [.ref a, l1, l2, l3, l4, l5] (.ref a :: st) h nx := D_aload_n (ins_of mc_97 (pc := 4) (x := (.aload_n 0, 1)) (by decide +kernel)) rfl
theorem e_97_5 : Df d 97 5 [l0, l1, l2, l3, l4, l5] (.ref a :: st) h nx = (gF h a 8 0).bind fun v => Df d 97 8 [l0, l1, l2, l3, l4, l5] (v :: st) h nx := D_getfield (ins_of mc_97 (pc := 5) (x := (.getfield 12, 3)) (by decide +kernel)) mo_97 (by decide +kernel)
theorem e_97_8 : Df d 97 8 [l0, l1, l2, l3, l4, l5] [v0, .ref a] h nx = if ck h a 1 = true then cn d 97 11 [l0, l1, l2, l3, l4, l5] [] (Dn d 23 [.ref a, v0] h nx) else none := D_virtual (k1 := 23) (ins_of mc_97 (pc := 8) (x := (.invokevirtual 187, 3)) (by decide +kernel)) mo_97 (by decide +kernel) (by decide) rfl rfl (by decide) rfl (Nat.le_of_ble_eq_true rfl) rfl
theorem e_97_11 : Df d 97 11 [.ref a, l1, l2, l3, l4, l5] st h nx = Df d 97 12 [.ref a, l1, l2, l3, l4, l5] (.ref a :: st) h nx := D_aload_n (ins_of mc_97 (pc := 11) (x := (.aload_n 0, 1)) (by decide +kernel)) rfl
theorem e_97_12 : Df d 97 12 [l0, l1, l2, l3, l4, l5] (.ref a :: st) h nx = (gF h a 8 2).bind fun v => Df d 97 15 [l0, l1, l2, l3, l4, l5] (v :: st) h nx := D_getfield (ins_of mc_97 (pc := 12) (x := (.getfield 19, 3)) (by decide +kernel)) mo_97 (by decide +kernel)
theorem e_97_15 : Df d 97 15 [l0, l1, l2, l3, l4, l5] (.ref a :: st) h nx = (gF h a 1 1).bind fun v => Df d 97 18 [l0, l1, l2, l3, l4, l5] (v :: st) h nx := D_getfield (ins_of mc_97 (pc := 15) (x := (.getfield 85, 3)) (by decide +kernel)) mo_97 (by decide +kernel)
theorem e_97_18 : Df d 97 18 [l0, l1, .int x, l3, l4, l5] st h nx = Df d 97 19 [l0, l1, .int x, l3, l4, l5] (.int x :: st) h nx := D_iload_n (ins_of mc_97 (pc := 18) (x := (.iload_n 2, 1)) (by decide +kernel)) rfl
theorem e_97_19 : Df d 97 19 [l0, l1, l2, l3, l4, l5] (.int x :: .ref a :: st) h nx = (rR h a x).bind fun v => Df d 97 20 [l0, l1, l2, l3, l4, l5] (.ref v :: st) h nx := D_aaload (ins_of mc_97 (pc := 19) (x := (.aaload, 1)) (by decide +kernel))
theorem e_97_20 : Df d 97 20 [l0, l1, l2, .int x, l4, l5] st h nx = Df d 97 21 [l0, l1, l2, .int x, l4, l5] (.int x :: st) h nx := D_iload_n (ins_of mc_97 (pc := 20) (x := (.iload_n 3, 1)) (by decide +kernel)) rfl
theorem e_97_21 : Df d 97 21 [l0, l1, l2, l3, l4, l5] (.int x :: .ref a :: st) h nx = (pF h a 7 1 (.int x)).bind fun h => Df d 97 24 [l0, l1, l2, l3, l4, l5] st h nx := D_putfield (ins_of mc_97 (pc := 21) (x := (.putfield 94, 3)) (by decide +kernel)) mo_97 (by decide +kernel) rfl (Or.inl rfl)
theorem e_97_24 : Df d 97 24 [l0, l1, l2, l3, l4, l5] st h nx = Df d 97 25 [l0, l1, l2, l3, l4, l5] (.int 0 :: st) h nx := D_iconst (ins_of mc_97 (pc := 24) (x := (.iconst 0, 1)) (by decide +kernel)) (by decide)
theorem e_97_25 (hn : nr l4 = true) : Df d 97 25 [l0, l1, l2, l3, l4, l5] (.int x :: st) h nx = Df d 97 27 [l0, l1, l2, l3, .int x, l5] st h nx := D_istore (ins_of mc_97 (pc := 25) (x := (.istore 4, 2)) (by decide +kernel)) rfl hn rfl
theorem e_97_27 : Df d 97 27 [l0, l1, l2, l3, l4, l5] st h nx = Df d 97 28 [l0, l1, l2, l3, l4, l5] (.int 0 :: st) h nx := D_iconst (ins_of mc_97 (pc := 27) (x := (.iconst 0, 1)) (by decide +kernel)) (by decide)
theorem e_97_28 (hn : nr l5 = true) : Df d 97 28 [l0, l1, l2, l3, l4, l5] (.int x :: st) h nx = Df d 97 30 [l0, l1, l2, l3, l4, .int x] st h nx := D_istore (ins_of mc_97 (pc := 28) (x := (.istore 5, 2)) (by decide +kernel)) rfl hn rfl
theorem e_97_30 : Df d 97 30 [l0, l1, l2, l3, l4, .int x] st h nx = Df d 97 32 [l0, l1, l2, l3, l4, .int x] (.int x :: st) h nx := D_iload (ins_of mc_97 (pc := 30) (x := (.iload 5, 2)) (by decide +kernel)) rfl
theorem e_97_32 : Df d 97 32 [l0, .ref a, l2, l3, l4, l5] st h nx = Df d 97 33 [l0, .ref a, l2, l3, l4, l5] (.ref a :: st) h nx := D_aload_n (ins_of mc_97 (pc := 32) (x := (.aload_n 1, 1)) (by decide +kernel)) rfl
theorem e_97_33 : Df d 97 33 [l0, l1, l2, l3, l4, l5] (.ref a :: st) h nx = (gF h a 5 2).bind fun v => Df d 97 36 [l0, l1, l2, l3, l4, l5] (v :: st) h nx := D_getfield (ins_of mc_97 (pc := 33) (x := (.getfield 337, 3)) (by decide +kernel)) mo_97 (by decide +kernel)
theorem e_97_36 : Df d 97 36 [l0, l1, l2, l3, l4, l5] (.int y :: .int x :: st) h nx = if y ≤ x then Df d 97 95 [l0, l1, l2, l3, l4, l5] st h nx else Df d 97 39 [l0, l1, l2, l3, l4, l5] st h nx := D_icmp_ge (ins_of mc_97 (pc := 36) (x := (.if_icmp .ge 59, 3)) (by decide +kernel)) (by decide)
theorem e_97_39 : Df d 97 39 [l0, l1, l2, l3, l4, .int x] st h nx = Df d 97 41 [l0, l1, l2, l3, l4, .int x] (.int x :: st) h nx := D_iload (ins_of mc_97 (pc := 39) (x := (.iload 5, 2)) (by decide +kernel)) rfl
theorem e_97_41 : Df d 97 41 [l0, l1, l2, l3, l4, l5] (.int x :: st) h nx = if x ≤ 0 then Df d 97 56 [l0, l1, l2, l3, l4, l5] st h nx else Df d 97 44 [l0, l1, l2, l3, l4, l5] st h nx := D_if_le (ins_of mc_97 (pc := 41) (x := (.ifCond .le 15, 3)) (by decide +kernel)) (by decide)
theorem e_97_44 : Df d 97 44 [.ref a, l1, l2, l3, l4, l5] st h nx = Df d 97 45 [.ref a, l1, l2, l3, l4, l5] (.ref a :: st) h nx := D_aload_n (ins_of mc_97 (pc := 44) (x := (.aload_n 0, 1)) (by decide +kernel)) rfl
theorem e_97_45 : Df d 97 45 [l0, l1, l2, l3, l4, l5] (.ref a :: st) h nx = (gF h a 8 2).bind fun v => Df d 97 48 [l0, l1, l2, l3, l4, l5] (v :: st) h nx := D_getfield (ins_of mc_97 (pc := 45) (x := (.getfield 19, 3)) (by decide +kernel)) mo_97 (by decide +kernel)
theorem e_97_48 : Df d 97 48 [.ref a, l1, l2, l3, l4, l5] st h nx = Df d 97 49 [.ref a, l1, l2, l3, l4, l5] (.ref a :: st) h nx := D_aload_n (ins_of mc_97 (pc := 48) (x := (.aload_n 0, 1)) (by decide +kernel)) rfl
theorem e_97_49 : Df d 97 49 [l0, l1, l2, l3, l4, l5] (.ref a :: st) h nx = (gF h a 8 4).bind fun v => Df d 97 52 [l0, l1, l2, l3, l4, l5] (v :: st) h nx := D_getfield (ins_of mc_97 (pc := 49) (x := (.getfield 32, 3)) (by decide +kernel)) mo_97 (by decide +kernel)
theorem e_97_52 : Df d 97 52 [l0, l1, l2, l3, l4, l5] st h nx = Df d 97 53 [l0, l1, l2, l3, l4, l5] (.int 1 :: st) h nx := D_iconst (ins_of mc_97 (pc := 52) (x := (.iconst 1, 1)) (by decide +kernel)) (by decide)
theorem e_97_53 : Df d 97 53 [l0, l1, l2, l3, l4, l5] [v1, v0, .ref a] h nx = if ck h a 1 = true then cn d 97 56 [l0, l1, l2, l3, l4, l5] [] (Dn d 14 [.ref a, v0, v1] h nx) else none := D_virtual (k1 := 14) (ins_of mc_97 (pc := 53) (x := (.invokevirtual 208, 3)) (by decide +kernel)) mo_97 (by decide +kernel) (by decide) rfl rfl (by decide) rfl (Nat.le_of_ble_eq_true rfl) rfl
theorem e_97_56 : Df d 97 56 [l0, .ref a, l2, l3, l4, l5] st h nx = Df d 97 57 [l0, .ref a, l2, l3, l4, l5] (.ref a :: st) h nx := D_aload_n (ins_of mc_97 (pc := 56) (x := (.aload_n 1, 1)) (by decide +kernel)) rfl
theorem e_97_57 : Df d 97 57 [l0, l1, l2, l3, l4, .int x] st h nx = Df d 97 59 [l0, l1, l2, l3, l4, .int x] (.int x :: st) h nx := D_iload (ins_of mc_97 (pc := 57) (x := (.iload 5, 2)) (by decide +kernel)) rfl
theorem e_97_59 : Df d 97 59 [l0, l1, l2, l3, l4, l5] [v0, .ref a] h nx = if ck h a 5 = true then cn d 97 62 [l0, l1, l2, l3, l4, l5] [] (Dn d 56 [.ref a, v0] h nx) else none := D_virtual (k1 := 56) (ins_of mc_97 (pc := 59) (x := (.invokevirtual 279, 3)) (by decide +kernel)) mo_97 (by decide +kernel) (by decide) rfl rfl (by decide) rfl (Nat.le_of_ble_eq_true rfl) rfl
theorem e_97_62 : Df d 97 62 [l0, l1, l2, l3, l4, l5] (.int x :: st) h nx = if x = 0 then Df d 97 89 [l0, l1, l2, l3, l4, l5] st h nx else Df d 97 65 [l0, l1, l2, l3, l4, l5] st h nx := D_if_eq (ins_of mc_97 (pc := 62) (x := (.ifCond .eq 27, 3)) (by decide +kernel)) (by decide)
theorem e_97_65 : Df d 97 65 [l0, l1, l2, l3, .int x, l5] st h nx = Df d 97 67 [l0, l1, l2, l3, .int x, l5] (.int x :: st) h nx := D_iload (ins_of mc_97 (pc := 65) (x := (.iload 4, 2)) (by decide +kernel)) rfl
theorem e_97_67 : Df d 97 67 [.ref a, l1, l2, l3, l4, l5] st h nx = Df d 97 68 [.ref a, l1, l2, l3, l4, l5] (.ref a :: st) h nx := D_aload_n (ins_of mc_97 (pc := 67) (x := (.aload_n 0, 1)) (by decide +kernel)) rfl
theorem e_97_68 : Df d 97 68 [l0, l1, l2, l3, l4, l5] (.ref a :: st) h nx = (gF h a 8 2).bind fun v => Df d 97 71 [l0, l1, l2, l3, l4, l5] (v :: st) h nx := D_getfield (ins_of mc_97 (pc := 68) (x := (.getfield 19, 3)) (by decide +kernel)) mo_97 (by decide +kernel)
theorem e_97_71 : Df d 97 71 [l0, l1, .int x, l3, l4, l5] st h nx = Df d 97 72 [l0, l1, .int x, l3, l4, l5] (.int x :: st) h nx := D_iload_n (ins_of mc_97 (pc := 71) (x := (.iload_n 2, 1)) (by decide +kernel)) rfl
theorem e_97_72 : Df d 97 72 [l0, l1, l2, l3, l4, l5] [v0, .ref a, s0] h nx = if ck h a 1 = true then cn d 97 75 [l0, l1, l2, l3, l4, l5] [s0] (Dn d 24 [.ref a, v0] h nx) else none := D_virtual (k1 := 24) (ins_of mc_97 (pc := 72) (x := (.invokevirtual 191, 3)) (by decide +kernel)) mo_97 (by decide +kernel) (by decide) rfl rfl (by decide) rfl (Nat.le_of_ble_eq_true rfl) rfl
theorem e_97_75 : Df d 97 75 [l0, .ref a, l2, l3, l4, l5] st h nx = Df d 97 76 [l0, .ref a, l2, l3, l4, l5] (.ref a :: st) h nx := D_aload_n (ins_of mc_97 (pc := 75) (x := (.aload_n 1, 1)) (by decide +kernel)) rfl
theorem e_97_76 : Df d 97 76 [l0, l1, l2, l3, l4, l5] (.ref a :: st) h nx = (gF h a 5 0).bind fun v => Df d 97 79 [l0, l1, l2, l3, l4, l5] (v :: st) h nx := D_getfield (ins_of mc_97 (pc := 76) (x := (.getfield 274, 3)) (by decide +kernel)) mo_97 (by decide +kernel)
theorem e_97_79 : Df d 97 79 [l0, l1, l2, l3, l4, .int x] st h nx = Df d 97 81 [l0, l1, l2, l3, l4, .int x] (.int x :: st) h nx := D_iload (ins_of mc_97 (pc := 79) (x := (.iload 5, 2)) (by decide +kernel)) rfl
theorem e_97_81 : Df d 97 81 [l0, l1, l2, l3, l4, l5] (.int x :: .ref a :: st) h nx = (rX h a x).bind fun v => Df d 97 82 [l0, l1, l2, l3, l4, l5] (.int v :: st) h nx := D_iaload (ins_of mc_97 (pc := 81) (x := (.iaload, 1)) (by decide +kernel))
theorem e_97_82 : Df d 97 82 [l0, l1, l2, l3, l4, l5] (.int y :: .int x :: st) h nx = Df d 97 83 [l0, l1, l2, l3, l4, l5] (.int (x - y) :: st) h nx := D_isub (ins_of mc_97 (pc := 82) (x := (.isub, 1)) (by decide +kernel))
theorem e_97_83 : Df d 97 83 [l0, l1, l2, l3, l4, l5] [v0, s0] h nx = cn d 97 86 [l0, l1, l2, l3, l4, l5] [s0] (Dn d 214 [v0] h nx) := D_static (k1 := 214) (kd := 1) (ins_of mc_97 (pc := 83) (x := (.invokestatic 338, 3)) (by decide +kernel)) mo_97 (by decide +kernel) (by decide) rfl (Nat.le_of_ble_eq_true rfl) rfl (Nat.le_of_ble_eq_true rfl) rfl
theorem e_97_86 : Df d 97 86 [l0, l1, l2, l3, l4, l5] (.int y :: .int x :: st) h nx = Df d 97 87 [l0, l1, l2, l3, l4, l5] (.int (x + y) :: st) h nx := D_iadd (ins_of mc_97 (pc := 86) (x := (.iadd, 1)) (by decide +kernel))
theorem e_97_87 (hn : nr l4 = true) : Df d 97 87 [l0, l1, l2, l3, l4, l5] (.int x :: st) h nx = Df d 97 89 [l0, l1, l2, l3, .int x, l5] st h nx := D_istore (ins_of mc_97 (pc := 87) (x := (.istore 4, 2)) (by decide +kernel)) rfl hn rfl
theorem e_97_89 : Df d 97 89 [l0, l1, l2, l3, l4, .int x] st h nx = Df d 97 92 [l0, l1, l2, l3, l4, .int (x + 1)] st h nx := D_iinc (ins_of mc_97 (pc := 89) (x := (.iinc 5 1, 3)) (by decide +kernel)) rfl (by decide) rfl
theorem e_97_92 : Df d 97 92 [l0, l1, l2, l3, l4, l5] st h nx = Df d 97 30 [l0, l1, l2, l3, l4, l5] st h nx := D_goto (ins_of mc_97 (pc := 92) (x := (.goto (-62), 3)) (by decide +kernel)) (by decide)
theorem e_97_95 : Df d 97 95 [l0, l1, l2, l3, .int x, l5] st h nx = Df d 97 97 [l0, l1, l2, l3, .int x, l5] (.int x :: st) h nx := D_iload (ins_of mc_97 (pc := 95) (x := (.iload 4, 2)) (by decide +kernel)) rfl
theorem e_97_97 : Df d 97 97 [l0, l1, l2, l3, l4, l5] [.int x] h nx = some (some (.int x), h, nx) := D_ireturn (ins_of mc_97 (pc := 97) (x := (.ireturn, 1)) (by decide +kernel)) mr_97
theorem mc_98 : mC 98 = prog_1_method_21_code := rfl
theorem mo_98 : mO 98 = 8 := rfl
theorem ml_98 : mL 98 = 2 := rfl
theorem mr_98 : mR 98 = (some .int) := rfl
theorem ma_98 : mA 98 = 0 := rfl
theorem e_98_0 : Df d 98 0 [.ref a, l1] st h nx = Df d 98 1 [.ref a, l1] (.ref a :: st) h nx := D_aload_n (ins_of mc_98 (pc := 0) (x := (.aload_n 0, 1)) (by decide +kernel)) rfl
theorem e_98_1 : Df d 98 1 [l0, l1] (.ref a :: st) h nx = (gF h a 8 4).bind fun v => Df d 98 4 [l0, l1] (v :: st) h nx := D_getfield (ins_of mc_98 (pc := 1) (x := (.getfield 32, 3)) (by decide +kernel)) mo_98 (by decide +kernel)
theorem e_98_4 : Df d 98 4 [l0, l1] st h nx = Df d 98 5 [l0, l1] (.int 1 :: st) h nx := D_iconst (ins_of mc_98 (pc := 4) (x := (.iconst 1, 1)) (by decide +kernel)) (by decide)
theorem e_98_5 : Df d 98 5 [.ref a, l1] st h nx = Df d 98 6 [.ref a, l1] (.ref a :: st) h nx := D_aload_n (ins_of mc_98 (pc := 5) (x := (.aload_n 0, 1)) (by decide +kernel)) rfl
theorem e_98_6 : Df d 98 6 [l0, l1] (.ref a :: st) h nx = (gF h a 8 0).bind fun v => Df d 98 9 [l0, l1] (v :: st) h nx := D_getfield (ins_of mc_98 (pc := 6) (x := (.getfield 12, 3)) (by decide +kernel)) mo_98 (by decide +kernel)
theorem e_98_9 : Df d 98 9 [l0, l1] (.ref a :: st) h nx = (gF h a 1 12).bind fun v => Df d 98 12 [l0, l1] (v :: st) h nx := D_getfield (ins_of mc_98 (pc := 9) (x := (.getfield 227, 3)) (by decide +kernel)) mo_98 (by decide +kernel)
theorem e_98_12 : Df d 98 12 [l0, l1] [v1, v0, .ref a] h nx = if ck h a 3 = true then cn d 98 15 [l0, l1] [] (Dn d 33 [.ref a, v0, v1] h nx) else none := D_virtual (k1 := 33) (ins_of mc_98 (pc := 12) (x := (.invokevirtual 230, 3)) (by decide +kernel)) mo_98 (by decide +kernel) (by decide) rfl rfl (by decide) rfl (Nat.le_of_ble_eq_true rfl) rfl
theorem e_98_15 (hn : nr l1 = true) : Df d 98 15 [l0, l1] (.int x :: st) h nx = Df d 98 16 [l0, .int x] st h nx := D_istore_n (ins_of mc_98 (pc := 15) (x := (.istore_n 1, 1)) (by decide +kernel)) rfl hn rfl
theorem e_98_16 : Df d 98 16 [l0, .int x] st h nx = Df d 98 17 [l0, .int x] (.int x :: st) h nx := D_iload_n (ins_of mc_98 (pc := 16) (x := (.iload_n 1, 1)) (by decide +kernel)) rfl
theorem e_98_17 : Df d 98 17 [l0, l1] st h nx = Df d 98 19 [l0, l1] (.int (-1000000005) :: st) h nx := D_ldc (ins_of mc_98 (pc := 17) (x := (.ldc 174, 2)) (by decide +kernel)) mo_98 (by decide +kernel)
theorem e_98_19 : Df d 98 19 [l0, l1] (.int y :: .int x :: st) h nx = if x = y then Df d 98 22 [l0, l1] st h nx else Df d 98 32 [l0, l1] st h nx := D_icmp_ne (ins_of mc_98 (pc := 19) (x := (.if_icmp .ne 13, 3)) (by decide +kernel)) (by decide)
theorem e_98_22 : Df d 98 22 [.ref a, l1] st h nx = Df d 98 23 [.ref a, l1] (.ref a :: st) h nx := D_aload_n (ins_of mc_98 (pc := 22) (x := (.aload_n 0, 1)) (by decide +kernel)) rfl
theorem e_98_23 : Df d 98 23 [l0, l1] (.ref a :: st) h nx = (gF h a 8 0).bind fun v => Df d 98 26 [l0, l1] (v :: st) h nx := D_getfield (ins_of mc_98 (pc := 23) (x := (.getfield 12, 3)) (by decide +kernel)) mo_98 (by decide +kernel)
theorem e_98_26 : Df d 98 26 [l0, l1] (.ref a :: st) h nx = (gF h a 1 8).bind fun v => Df d 98 29 [l0, l1] (v :: st) h nx := D_getfield (ins_of mc_98 (pc := 26) (x := (.getfield 158, 3)) (by decide +kernel)) mo_98 (by decide +kernel)
theorem e_98_29 : Df d 98 29 [l0, l1] st h nx = Df d 98 55 [l0, l1] st h nx := D_goto (ins_of mc_98 (pc := 29) (x := (.goto 26, 3)) (by decide +kernel)) (by decide)
theorem e_98_32 : Df d 98 32 [.ref a, l1] st h nx = Df d 98 33 [.ref a, l1] (.ref a :: st) h nx := D_aload_n (ins_of mc_98 (pc := 32) (x := (.aload_n 0, 1)) (by decide +kernel)) rfl
theorem e_98_33 : Df d 98 33 [l0, l1] (.ref a :: st) h nx = (gF h a 8 4).bind fun v => Df d 98 36 [l0, l1] (v :: st) h nx := D_getfield (ins_of mc_98 (pc := 33) (x := (.getfield 32, 3)) (by decide +kernel)) mo_98 (by decide +kernel)
theorem e_98_36 : Df d 98 36 [l0, .int x] st h nx = Df d 98 37 [l0, .int x] (.int x :: st) h nx := D_iload_n (ins_of mc_98 (pc := 36) (x := (.iload_n 1, 1)) (by decide +kernel)) rfl
theorem e_98_37 : Df d 98 37 [.ref a, l1] st h nx = Df d 98 38 [.ref a, l1] (.ref a :: st) h nx := D_aload_n (ins_of mc_98 (pc := 37) (x := (.aload_n 0, 1)) (by decide +kernel)) rfl
theorem e_98_38 : Df d 98 38 [l0, l1] (.ref a :: st) h nx = (gF h a 8 0).bind fun v => Df d 98 41 [l0, l1] (v :: st) h nx := D_getfield (ins_of mc_98 (pc := 38) (x := (.getfield 12, 3)) (by decide +kernel)) mo_98 (by decide +kernel)
theorem e_98_41 : Df d 98 41 [l0, l1] (.ref a :: st) h nx = (gF h a 1 8).bind fun v => Df d 98 44 [l0, l1] (v :: st) h nx := D_getfield (ins_of mc_98 (pc := 41) (x := (.getfield 158, 3)) (by decide +kernel)) mo_98 (by decide +kernel)
theorem e_98_44 : Df d 98 44 [.ref a, l1] st h nx = Df d 98 45 [.ref a, l1] (.ref a :: st) h nx := D_aload_n (ins_of mc_98 (pc := 44) (x := (.aload_n 0, 1)) (by decide +kernel)) rfl
theorem e_98_45 : Df d 98 45 [l0, l1] (.ref a :: st) h nx = (gF h a 8 0).bind fun v => Df d 98 48 [l0, l1] (v :: st) h nx := D_getfield (ins_of mc_98 (pc := 45) (x := (.getfield 12, 3)) (by decide +kernel)) mo_98 (by decide +kernel)
theorem e_98_48 : Df d 98 48 [l0, l1] (.ref a :: st) h nx = (gF h a 1 9).bind fun v => Df d 98 51 [l0, l1] (v :: st) h nx := D_getfield (ins_of mc_98 (pc := 48) (x := (.getfield 175, 3)) (by decide +kernel)) mo_98 (by decide +kernel)
theorem e_98_51 : Df d 98 51 [l0, l1] st h nx = Df d 98 52 [l0, l1] (.int 0 :: st) h nx := D_iconst (ins_of mc_98 (pc := 51) (x := (.iconst 0, 1)) (by decide +kernel)) (by decide)
theorem e_98_52 : Df d 98 52 [l0, l1] [v3, v2, v1, v0, .ref a] h nx = if ck h a 3 = true then cn d 98 55 [l0, l1] [] (Dn d 34 [.ref a, v0, v1, v2, v3] h nx) else none := D_virtual (k1 := 34) (ins_of mc_98 (pc := 52) (x := (.invokevirtual 233, 3)) (by decide +kernel)) mo_98 (by decide +kernel) (by decide) rfl rfl (by decide) rfl (Nat.le_of_ble_eq_true rfl) rfl
theorem e_98_55 : Df d 98 55 [l0, l1] [.int x] h nx = some (some (.int x), h, nx) := D_ireturn (ins_of mc_98 (pc := 55) (x := (.ireturn, 1)) (by decide +kernel)) mr_98
theorem mc_99 : mC 99 = prog_1_method_22_code := rfl
theorem mo_99 : mO 99 = 8 := rfl
theorem ml_99 : mL 99 = 4 := rfl
theorem mr_99 : mR 99 = (some .int) := rfl
theorem ma_99 : mA 99 = 1 := rfl
theorem e_99_0 : Df d 99 0 [.ref a, l1, l2, l3] st h nx = Df d 99 1 [.ref a, l1, l2, l3] (.ref a :: st) h nx := D_aload_n (ins_of mc_99 (pc := 0) (x := (.aload_n 0, 1)) (by decide +kernel)) rfl
theorem e_99_1 : Df d 99 1 [l0, l1, l2, l3] (.ref a :: st) h nx = (gF h a 8 0).bind fun v => Df d 99 4 [l0, l1, l2, l3] (v :: st) h nx := D_getfield (ins_of mc_99 (pc := 1) (x := (.getfield 12, 3)) (by decide +kernel)) mo_99 (by decide +kernel)
theorem e_99_4 : Df d 99 4 [l0, .int x, l2, l3] st h nx = Df d 99 5 [l0, .int x, l2, l3] (.int x :: st) h nx := D_iload_n (ins_of mc_99 (pc := 4) (x := (.iload_n 1, 1)) (by decide +kernel)) rfl
theorem e_99_5 : Df d 99 5 [l0, l1, l2, l3] [v0, .ref a] h nx = if ck h a 1 = true then cn d 99 8 [l0, l1, l2, l3] [] (Dn d 6 [.ref a, v0] h nx) else none := D_virtual (k1 := 6) (ins_of mc_99 (pc := 5) (x := (.invokevirtual 82, 3)) (by decide +kernel)) mo_99 (by decide +kernel) (by decide) rfl rfl (by decide) rfl (Nat.le_of_ble_eq_true rfl) rfl
theorem e_99_8 : Df d 99 8 [l0, l1, l2, l3] (.int x :: st) h nx = if x = 0 then Df d 99 11 [l0, l1, l2, l3] st h nx else Df d 99 14 [l0, l1, l2, l3] st h nx := D_if_ne (ins_of mc_99 (pc := 8) (x := (.ifCond .ne 6, 3)) (by decide +kernel)) (by decide)
theorem e_99_11 : Df d 99 11 [l0, l1, l2, l3] st h nx = Df d 99 13 [l0, l1, l2, l3] (.int (-1000000001) :: st) h nx := D_ldc (ins_of mc_99 (pc := 11) (x := (.ldc 77, 2)) (by decide +kernel)) mo_99 (by decide +kernel)
theorem e_99_13 : Df d 99 13 [l0, l1, l2, l3] [.int x] h nx = some (some (.int x), h, nx) := D_ireturn (ins_of mc_99 (pc := 13) (x := (.ireturn, 1)) (by decide +kernel)) mr_99
theorem e_99_14 : Df d 99 14 [.ref a, l1, l2, l3] st h nx = Df d 99 15 [.ref a, l1, l2, l3] (.ref a :: st) h nx := D_aload_n (ins_of mc_99 (pc := 14) (x := (.aload_n 0, 1)) (by decide +kernel)) rfl
theorem e_99_15 : Df d 99 15 [l0, l1, l2, l3] (.ref a :: st) h nx = (gF h a 8 0).bind fun v => Df d 99 18 [l0, l1, l2, l3] (v :: st) h nx := D_getfield (ins_of mc_99 (pc := 15) (x := (.getfield 12, 3)) (by decide +kernel)) mo_99 (by decide +kernel)
theorem e_99_18 : Df d 99 18 [l0, l1, l2, l3] (.ref a :: st) h nx = (gF h a 1 1).bind fun v => Df d 99 21 [l0, l1, l2, l3] (v :: st) h nx := D_getfield (ins_of mc_99 (pc := 18) (x := (.getfield 85, 3)) (by decide +kernel)) mo_99 (by decide +kernel)
theorem e_99_21 : Df d 99 21 [l0, .int x, l2, l3] st h nx = Df d 99 22 [l0, .int x, l2, l3] (.int x :: st) h nx := D_iload_n (ins_of mc_99 (pc := 21) (x := (.iload_n 1, 1)) (by decide +kernel)) rfl
theorem e_99_22 : Df d 99 22 [l0, l1, l2, l3] (.int x :: .ref a :: st) h nx = (rR h a x).bind fun v => Df d 99 23 [l0, l1, l2, l3] (.ref v :: st) h nx := D_aaload (ins_of mc_99 (pc := 22) (x := (.aaload, 1)) (by decide +kernel))
theorem e_99_23 (hn : nr l2 = true) : Df d 99 23 [l0, l1, l2, l3] (.ref a :: st) h nx = Df d 99 24 [l0, l1, .ref a, l3] st h nx := D_astore_n (ins_of mc_99 (pc := 23) (x := (.astore_n 2, 1)) (by decide +kernel)) rfl hn rfl
theorem e_99_24 : Df d 99 24 [.ref a, l1, l2, l3] st h nx = Df d 99 25 [.ref a, l1, l2, l3] (.ref a :: st) h nx := D_aload_n (ins_of mc_99 (pc := 24) (x := (.aload_n 0, 1)) (by decide +kernel)) rfl
theorem e_99_25 : Df d 99 25 [l0, l1, l2, l3] (.ref a :: st) h nx = (gF h a 8 4).bind fun v => Df d 99 28 [l0, l1, l2, l3] (v :: st) h nx := D_getfield (ins_of mc_99 (pc := 25) (x := (.getfield 32, 3)) (by decide +kernel)) mo_99 (by decide +kernel)
theorem e_99_28 : Df d 99 28 [l0, l1, l2, l3] st h nx = Df d 99 29 [l0, l1, l2, l3] (.int 2 :: st) h nx := D_iconst (ins_of mc_99 (pc := 28) (x := (.iconst 2, 1)) (by decide +kernel)) (by decide)
theorem e_99_29 : Df d 99 29 [.ref a, l1, l2, l3] st h nx = Df d 99 30 [.ref a, l1, l2, l3] (.ref a :: st) h nx := D_aload_n (ins_of mc_99 (pc := 29) (x := (.aload_n 0, 1)) (by decide +kernel)) rfl
theorem e_99_30 : Df d 99 30 [l0, l1, l2, l3] (.ref a :: st) h nx = (gF h a 8 0).bind fun v => Df d 99 33 [l0, l1, l2, l3] (v :: st) h nx := D_getfield (ins_of mc_99 (pc := 30) (x := (.getfield 12, 3)) (by decide +kernel)) mo_99 (by decide +kernel)
theorem e_99_33 : Df d 99 33 [l0, l1, l2, l3] (.ref a :: st) h nx = (gF h a 1 12).bind fun v => Df d 99 36 [l0, l1, l2, l3] (v :: st) h nx := D_getfield (ins_of mc_99 (pc := 33) (x := (.getfield 227, 3)) (by decide +kernel)) mo_99 (by decide +kernel)
theorem e_99_36 : Df d 99 36 [l0, l1, l2, l3] [v1, v0, .ref a] h nx = if ck h a 3 = true then cn d 99 39 [l0, l1, l2, l3] [] (Dn d 33 [.ref a, v0, v1] h nx) else none := D_virtual (k1 := 33) (ins_of mc_99 (pc := 36) (x := (.invokevirtual 230, 3)) (by decide +kernel)) mo_99 (by decide +kernel) (by decide) rfl rfl (by decide) rfl (Nat.le_of_ble_eq_true rfl) rfl
theorem e_99_39 (hn : nr l3 = true) : Df d 99 39 [l0, l1, l2, l3] (.int x :: st) h nx = Df d 99 40 [l0, l1, l2, .int x] st h nx := D_istore_n (ins_of mc_99 (pc := 39) (x := (.istore_n 3, 1)) (by decide +kernel)) rfl hn rfl
theorem e_99_40 : Df d 99 40 [l0, l1, l2, .int x] st h nx = Df d 99 41 [l0, l1, l2, .int x] (.int x :: st) h nx := D_iload_n (ins_of mc_99 (pc := 40) (x := (.iload_n 3, 1)) (by decide +kernel)) rfl
theorem e_99_41 : Df d 99 41 [l0, l1, l2, l3] st h nx = Df d 99 43 [l0, l1, l2, l3] (.int (-1000000005) :: st) h nx := D_ldc (ins_of mc_99 (pc := 41) (x := (.ldc 174, 2)) (by decide +kernel)) mo_99 (by decide +kernel)
theorem e_99_43 : Df d 99 43 [l0, l1, l2, l3] (.int y :: .int x :: st) h nx = if x = y then Df d 99 46 [l0, l1, l2, l3] st h nx else Df d 99 53 [l0, l1, l2, l3] st h nx := D_icmp_ne (ins_of mc_99 (pc := 43) (x := (.if_icmp .ne 10, 3)) (by decide +kernel)) (by decide)
theorem e_99_46 : Df d 99 46 [l0, l1, .ref a, l3] st h nx = Df d 99 47 [l0, l1, .ref a, l3] (.ref a :: st) h nx := D_aload_n (ins_of mc_99 (pc := 46) (x := (.aload_n 2, 1)) (by decide +kernel)) rfl
theorem e_99_47 : Df d 99 47 [l0, l1, l2, l3] (.ref a :: st) h nx = (gF h a 7 4).bind fun v => Df d 99 50 [l0, l1, l2, l3] (v :: st) h nx := D_getfield (ins_of mc_99 (pc := 47) (x := (.getfield 103, 3)) (by decide +kernel)) mo_99 (by decide +kernel)
theorem e_99_50 : Df d 99 50 [l0, l1, l2, l3] st h nx = Df d 99 70 [l0, l1, l2, l3] st h nx := D_goto (ins_of mc_99 (pc := 50) (x := (.goto 20, 3)) (by decide +kernel)) (by decide)
theorem e_99_53 : Df d 99 53 [.ref a, l1, l2, l3] st h nx = Df d 99 54 [.ref a, l1, l2, l3] (.ref a :: st) h nx := D_aload_n (ins_of mc_99 (pc := 53) (x := (.aload_n 0, 1)) (by decide +kernel)) rfl
theorem e_99_54 : Df d 99 54 [l0, l1, l2, l3] (.ref a :: st) h nx = (gF h a 8 4).bind fun v => Df d 99 57 [l0, l1, l2, l3] (v :: st) h nx := D_getfield (ins_of mc_99 (pc := 54) (x := (.getfield 32, 3)) (by decide +kernel)) mo_99 (by decide +kernel)
theorem e_99_57 : Df d 99 57 [l0, l1, l2, .int x] st h nx = Df d 99 58 [l0, l1, l2, .int x] (.int x :: st) h nx := D_iload_n (ins_of mc_99 (pc := 57) (x := (.iload_n 3, 1)) (by decide +kernel)) rfl
theorem e_99_58 : Df d 99 58 [l0, l1, .ref a, l3] st h nx = Df d 99 59 [l0, l1, .ref a, l3] (.ref a :: st) h nx := D_aload_n (ins_of mc_99 (pc := 58) (x := (.aload_n 2, 1)) (by decide +kernel)) rfl
theorem e_99_59 : Df d 99 59 [l0, l1, l2, l3] (.ref a :: st) h nx = (gF h a 7 2).bind fun v => Df d 99 62 [l0, l1, l2, l3] (v :: st) h nx := D_getfield (ins_of mc_99 (pc := 59) (x := (.getfield 97, 3)) (by decide +kernel)) mo_99 (by decide +kernel)
theorem e_99_62 : Df d 99 62 [l0, l1, .ref a, l3] st h nx = Df d 99 63 [l0, l1, .ref a, l3] (.ref a :: st) h nx := D_aload_n (ins_of mc_99 (pc := 62) (x := (.aload_n 2, 1)) (by decide +kernel)) rfl
theorem e_99_63 : Df d 99 63 [l0, l1, l2, l3] (.ref a :: st) h nx = (gF h a 7 4).bind fun v => Df d 99 66 [l0, l1, l2, l3] (v :: st) h nx := D_getfield (ins_of mc_99 (pc := 63) (x := (.getfield 103, 3)) (by decide +kernel)) mo_99 (by decide +kernel)
theorem e_99_66 : Df d 99 66 [l0, l1, l2, l3] st h nx = Df d 99 67 [l0, l1, l2, l3] (.int 0 :: st) h nx := D_iconst (ins_of mc_99 (pc := 66) (x := (.iconst 0, 1)) (by decide +kernel)) (by decide)
theorem e_99_67 : Df d 99 67 [l0, l1, l2, l3] [v3, v2, v1, v0, .ref a] h nx = if ck h a 3 = true then cn d 99 70 [l0, l1, l2, l3] [] (Dn d 34 [.ref a, v0, v1, v2, v3] h nx) else none := D_virtual (k1 := 34) (ins_of mc_99 (pc := 67) (x := (.invokevirtual 233, 3)) (by decide +kernel)) mo_99 (by decide +kernel) (by decide) rfl rfl (by decide) rfl (Nat.le_of_ble_eq_true rfl) rfl
theorem e_99_70 : Df d 99 70 [l0, l1, l2, l3] [.int x] h nx = some (some (.int x), h, nx) := D_ireturn (ins_of mc_99 (pc := 70) (x := (.ireturn, 1)) (by decide +kernel)) mr_99
theorem mc_100 : mC 100 = prog_1_method_23_code := rfl
theorem mo_100 : mO 100 = 8 := rfl
theorem ml_100 : mL 100 = 4 := rfl
theorem mr_100 : mR 100 = (some .int) := rfl
theorem ma_100 : mA 100 = 3 := rfl
theorem e_100_0 : Df d 100 0 [.ref a, l1, l2, l3] st h nx = Df d 100 1 [.ref a, l1, l2, l3] (.ref a :: st) h nx := D_aload_n (ins_of mc_100 (pc := 0) (x := (.aload_n 0, 1)) (by decide +kernel)) rfl
theorem e_100_1 : Df d 100 1 [l0, l1, l2, l3] (.ref a :: st) h nx = (gF h a 8 5).bind fun v => Df d 100 4 [l0, l1, l2, l3] (v :: st) h nx := D_getfield (ins_of mc_100 (pc := 1) (x := (.getfield 39, 3)) (by decide +kernel)) mo_100 (by decide +kernel)
theorem e_100_4 : Df d 100 4 [l0, l1, l2, l3] (.ref a :: st) h nx = (gF h a 4 1).bind fun v => Df d 100 7 [l0, l1, l2, l3] (v :: st) h nx := D_getfield (ins_of mc_100 (pc := 4) (x := (.getfield 237, 3)) (by decide +kernel)) mo_100 (by decide +kernel)
theorem e_100_7 : Df d 100 7 [l0, l1, l2, l3] st h nx = Df d 100 9 [l0, l1, l2, l3] (.int 12 :: st) h nx := D_bipush (ins_of mc_100 (pc := 7) (x := (.bipush 12, 2)) (by decide +kernel)) (by decide)
theorem e_100_9 : Df d 100 9 [l0, l1, l2, l3] (.int y :: .int x :: st) h nx = Df d 100 10 [l0, l1, l2, l3] (.int (x + y) :: st) h nx := D_iadd (ins_of mc_100 (pc := 9) (x := (.iadd, 1)) (by decide +kernel))
theorem e_100_10 : Df d 100 10 [l0, l1, l2, l3] st h nx = Df d 100 12 [l0, l1, l2, l3] (.int 96 :: st) h nx := D_bipush (ins_of mc_100 (pc := 10) (x := (.bipush 96, 2)) (by decide +kernel)) (by decide)
theorem e_100_12 : Df d 100 12 [l0, l1, l2, l3] (.int y :: .int x :: st) h nx = if x ≤ y then Df d 100 18 [l0, l1, l2, l3] st h nx else Df d 100 15 [l0, l1, l2, l3] st h nx := D_icmp_le (ins_of mc_100 (pc := 12) (x := (.if_icmp .le 6, 3)) (by decide +kernel)) (by decide)
theorem e_100_15 : Df d 100 15 [l0, l1, l2, l3] st h nx = Df d 100 17 [l0, l1, l2, l3] (.int (-1000000003) :: st) h nx := D_ldc (ins_of mc_100 (pc := 15) (x := (.ldc 240, 2)) (by decide +kernel)) mo_100 (by decide +kernel)
theorem e_100_17 : Df d 100 17 [l0, l1, l2, l3] [.int x] h nx = some (some (.int x), h, nx) := D_ireturn (ins_of mc_100 (pc := 17) (x := (.ireturn, 1)) (by decide +kernel)) mr_100
theorem e_100_18 : Df d 100 18 [.ref a, l1, l2, l3] st h nx = Df d 100 19 [.ref a, l1, l2, l3] (.ref a :: st) h nx := D_aload_n (ins_of mc_100 (pc := 18) (x := (.aload_n 0, 1)) (by decide +kernel)) rfl
theorem e_100_19 : Df d 100 19 [l0, l1, l2, l3] (.ref a :: st) h nx = (gF h a 8 5).bind fun v => Df d 100 22 [l0, l1, l2, l3] (v :: st) h nx := D_getfield (ins_of mc_100 (pc := 19) (x := (.getfield 39, 3)) (by decide +kernel)) mo_100 (by decide +kernel)
theorem e_100_22 : Df d 100 22 [l0, .int x, l2, l3] st h nx = Df d 100 23 [l0, .int x, l2, l3] (.int x :: st) h nx := D_iload_n (ins_of mc_100 (pc := 22) (x := (.iload_n 1, 1)) (by decide +kernel)) rfl
theorem e_100_23 : Df d 100 23 [l0, l1, l2, l3] [v0, .ref a] h nx = if ck h a 4 = true then cn d 100 26 [l0, l1, l2, l3] [] (Dn d 38 [.ref a, v0] h nx) else none := D_virtual (k1 := 38) (ins_of mc_100 (pc := 23) (x := (.invokevirtual 241, 3)) (by decide +kernel)) mo_100 (by decide +kernel) (by decide) rfl rfl (by decide) rfl (Nat.le_of_ble_eq_true rfl) rfl
theorem e_100_26 : Df d 100 26 [.ref a, l1, l2, l3] st h nx = Df d 100 27 [.ref a, l1, l2, l3] (.ref a :: st) h nx := D_aload_n (ins_of mc_100 (pc := 26) (x := (.aload_n 0, 1)) (by decide +kernel)) rfl
theorem e_100_27 : Df d 100 27 [l0, l1, l2, l3] (.ref a :: st) h nx = (gF h a 8 5).bind fun v => Df d 100 30 [l0, l1, l2, l3] (v :: st) h nx := D_getfield (ins_of mc_100 (pc := 27) (x := (.getfield 39, 3)) (by decide +kernel)) mo_100 (by decide +kernel)
theorem e_100_30 : Df d 100 30 [l0, l1, .int x, l3] st h nx = Df d 100 31 [l0, l1, .int x, l3] (.int x :: st) h nx := D_iload_n (ins_of mc_100 (pc := 30) (x := (.iload_n 2, 1)) (by decide +kernel)) rfl
theorem e_100_31 : Df d 100 31 [l0, l1, l2, l3] [v0, .ref a] h nx = if ck h a 4 = true then cn d 100 34 [l0, l1, l2, l3] [] (Dn d 38 [.ref a, v0] h nx) else none := D_virtual (k1 := 38) (ins_of mc_100 (pc := 31) (x := (.invokevirtual 241, 3)) (by decide +kernel)) mo_100 (by decide +kernel) (by decide) rfl rfl (by decide) rfl (Nat.le_of_ble_eq_true rfl) rfl
theorem e_100_34 : Df d 100 34 [.ref a, l1, l2, l3] st h nx = Df d 100 35 [.ref a, l1, l2, l3] (.ref a :: st) h nx := D_aload_n (ins_of mc_100 (pc := 34) (x := (.aload_n 0, 1)) (by decide +kernel)) rfl
theorem e_100_35 : Df d 100 35 [l0, l1, l2, l3] (.ref a :: st) h nx = (gF h a 8 5).bind fun v => Df d 100 38 [l0, l1, l2, l3] (v :: st) h nx := D_getfield (ins_of mc_100 (pc := 35) (x := (.getfield 39, 3)) (by decide +kernel)) mo_100 (by decide +kernel)
theorem e_100_38 : Df d 100 38 [l0, l1, l2, .int x] st h nx = Df d 100 39 [l0, l1, l2, .int x] (.int x :: st) h nx := D_iload_n (ins_of mc_100 (pc := 38) (x := (.iload_n 3, 1)) (by decide +kernel)) rfl
theorem e_100_39 : Df d 100 39 [l0, l1, l2, l3] [v0, .ref a] h nx = if ck h a 4 = true then cn d 100 42 [l0, l1, l2, l3] [] (Dn d 38 [.ref a, v0] h nx) else none := D_virtual (k1 := 38) (ins_of mc_100 (pc := 39) (x := (.invokevirtual 241, 3)) (by decide +kernel)) mo_100 (by decide +kernel) (by decide) rfl rfl (by decide) rfl (Nat.le_of_ble_eq_true rfl) rfl
theorem e_100_42 : Df d 100 42 [.ref a, l1, l2, l3] st h nx = Df d 100 43 [.ref a, l1, l2, l3] (.ref a :: st) h nx := D_aload_n (ins_of mc_100 (pc := 42) (x := (.aload_n 0, 1)) (by decide +kernel)) rfl
theorem e_100_43 : Df d 100 43 [l0, l1, l2, l3] (.ref a :: st) h nx = (gF h a 8 5).bind fun v => Df d 100 46 [l0, l1, l2, l3] (v :: st) h nx := D_getfield (ins_of mc_100 (pc := 43) (x := (.getfield 39, 3)) (by decide +kernel)) mo_100 (by decide +kernel)
theorem e_100_46 : Df d 100 46 [l0, l1, l2, l3] (.ref a :: st) h nx = (gF h a 4 1).bind fun v => Df d 100 49 [l0, l1, l2, l3] (v :: st) h nx := D_getfield (ins_of mc_100 (pc := 46) (x := (.getfield 237, 3)) (by decide +kernel)) mo_100 (by decide +kernel)
theorem e_100_49 : Df d 100 49 [l0, l1, l2, l3] [.int x] h nx = some (some (.int x), h, nx) := D_ireturn (ins_of mc_100 (pc := 49) (x := (.ireturn, 1)) (by decide +kernel)) mr_100
theorem mc_101 : mC 101 = prog_1_method_24_code := rfl
theorem mo_101 : mO 101 = 8 := rfl
theorem ml_101 : mL 101 = 2 := rfl
theorem mr_101 : mR 101 = (some .int) := rfl
theorem ma_101 : mA 101 = 1 := rfl
theorem e_101_0 : Df d 101 0 [l0, .int x] st h nx = Df d 101 1 [l0, .int x] (.int x :: st) h nx := D_iload_n (ins_of mc_101 (pc := 0) (x := (.iload_n 1, 1)) (by decide +kernel)) rfl
theorem e_101_1 : Df d 101 1 [l0, l1] st h nx = Df d 101 2 [l0, l1] (.int 0 :: st) h nx := D_iconst (ins_of mc_101 (pc := 1) (x := (.iconst 0, 1)) (by decide +kernel)) (by decide)
theorem e_101_2 : Df d 101 2 [.ref a, l1] st h nx = Df d 101 3 [.ref a, l1] (.ref a :: st) h nx := D_aload_n (ins_of mc_101 (pc := 2) (x := (.aload_n 0, 1)) (by decide +kernel)) rfl
theorem e_101_3 : Df d 101 3 [l0, l1] (.ref a :: st) h nx = (gF h a 8 5).bind fun v => Df d 101 6 [l0, l1] (v :: st) h nx := D_getfield (ins_of mc_101 (pc := 3) (x := (.getfield 39, 3)) (by decide +kernel)) mo_101 (by decide +kernel)
theorem e_101_6 : Df d 101 6 [l0, l1] (.ref a :: st) h nx = (gF h a 4 1).bind fun v => Df d 101 9 [l0, l1] (v :: st) h nx := D_getfield (ins_of mc_101 (pc := 6) (x := (.getfield 237, 3)) (by decide +kernel)) mo_101 (by decide +kernel)
theorem e_101_9 : Df d 101 9 [l0, l1] [v2, v1, v0] h nx = cn d 101 12 [l0, l1] [] (Dn d 74 [v0, v1, v2] h nx) := D_static (k1 := 74) (kd := 1) (ins_of mc_101 (pc := 9) (x := (.invokestatic 73, 3)) (by decide +kernel)) mo_101 (by decide +kernel) (by decide) rfl (Nat.le_of_ble_eq_true rfl) rfl (Nat.le_of_ble_eq_true rfl) rfl
theorem e_101_12 : Df d 101 12 [l0, l1] (.int x :: st) h nx = if x = 0 then Df d 101 15 [l0, l1] st h nx else Df d 101 18 [l0, l1] st h nx := D_if_ne (ins_of mc_101 (pc := 12) (x := (.ifCond .ne 6, 3)) (by decide +kernel)) (by decide)
theorem e_101_15 : Df d 101 15 [l0, l1] st h nx = Df d 101 17 [l0, l1] (.int (-1000000001) :: st) h nx := D_ldc (ins_of mc_101 (pc := 15) (x := (.ldc 77, 2)) (by decide +kernel)) mo_101 (by decide +kernel)
theorem e_101_17 : Df d 101 17 [l0, l1] [.int x] h nx = some (some (.int x), h, nx) := D_ireturn (ins_of mc_101 (pc := 17) (x := (.ireturn, 1)) (by decide +kernel)) mr_101
theorem e_101_18 : Df d 101 18 [.ref a, l1] st h nx = Df d 101 19 [.ref a, l1] (.ref a :: st) h nx := D_aload_n (ins_of mc_101 (pc := 18) (x := (.aload_n 0, 1)) (by decide +kernel)) rfl
theorem e_101_19 : Df d 101 19 [l0, l1] (.ref a :: st) h nx = (gF h a 8 5).bind fun v => Df d 101 22 [l0, l1] (v :: st) h nx := D_getfield (ins_of mc_101 (pc := 19) (x := (.getfield 39, 3)) (by decide +kernel)) mo_101 (by decide +kernel)
theorem e_101_22 : Df d 101 22 [l0, .int x] st h nx = Df d 101 23 [l0, .int x] (.int x :: st) h nx := D_iload_n (ins_of mc_101 (pc := 22) (x := (.iload_n 1, 1)) (by decide +kernel)) rfl
theorem e_101_23 : Df d 101 23 [l0, l1] (.int x :: .ref a :: st) h nx = (pF h a 4 1 (.int x)).bind fun h => Df d 101 26 [l0, l1] st h nx := D_putfield (ins_of mc_101 (pc := 23) (x := (.putfield 237, 3)) (by decide +kernel)) mo_101 (by decide +kernel) rfl (Or.inl rfl)
theorem e_101_26 : Df d 101 26 [l0, .int x] st h nx = Df d 101 27 [l0, .int x] (.int x :: st) h nx := D_iload_n (ins_of mc_101 (pc := 26) (x := (.iload_n 1, 1)) (by decide +kernel)) rfl
theorem e_101_27 : Df d 101 27 [l0, l1] [.int x] h nx = some (some (.int x), h, nx) := D_ireturn (ins_of mc_101 (pc := 27) (x := (.ireturn, 1)) (by decide +kernel)) mr_101
end EE
