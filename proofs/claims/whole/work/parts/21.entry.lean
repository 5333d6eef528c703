section EN
variable {d : Nat} {h : AH} {nx : AN} {x0 x1 x2 x3 x4 x5 x6 : Int32} {a0 a1 a2 a3 a4 a5 a6 : Nat}
theorem n_0 : Dn (d + 1) 0 [.ref a0] h nx = Df d 0 0 [.ref a0] [] h nx := Dn_eq d 0 _ h nx (by decide) rfl
theorem n_1 : Dn (d + 1) 1 [.ref a0] h nx = Df d 1 0 [.ref a0] [] h nx := Dn_eq d 1 _ h nx (by decide) rfl
theorem n_2 : Dn (d + 1) 2 [.ref a0, .int x1, .int x2] h nx = Df d 2 0 [.ref a0, .int x1, .int x2] [] h nx := Dn_eq d 2 _ h nx (by decide) rfl
theorem n_3 : Dn (d + 1) 3 [.ref a0, .int x1] h nx = Df d 3 0 [.ref a0, .int x1] [] h nx := Dn_eq d 3 _ h nx (by decide) rfl
theorem n_4 : Dn (d + 1) 4 [.ref a0] h nx = Df d 4 0 [.ref a0, .null] [] h nx := Dn_eq d 4 _ h nx (by decide) rfl
theorem n_5 : Dn (d + 1) 5 [.ref a0, .int x1, .int x2, .int x3] h nx = Df d 5 0 [.ref a0, .int x1, .int x2, .int x3] [] h nx := Dn_eq d 5 _ h nx (by decide) rfl
theorem n_6 : Dn (d + 1) 6 [.ref a0, .int x1] h nx = Df d 6 0 [.ref a0, .int x1] [] h nx := Dn_eq d 6 _ h nx (by decide) rfl
theorem n_7 : Dn (d + 1) 7 [.ref a0, .ref a1, .ref a2] h nx = Df d 7 0 [.ref a0, .ref a1, .ref a2, .null, .null] [] h nx := Dn_eq d 7 _ h nx (by decide) rfl
theorem n_8 : Dn (d + 1) 8 [.ref a0, .ref a1] h nx = Df d 8 0 [.ref a0, .ref a1] [] h nx := Dn_eq d 8 _ h nx (by decide) rfl
theorem n_9 : Dn (d + 1) 9 [.ref a0] h nx = Df d 9 0 [.ref a0, .null] [] h nx := Dn_eq d 9 _ h nx (by decide) rfl
theorem n_10 : Dn (d + 1) 10 [.ref a0, .int x1] h nx = Df d 10 0 [.ref a0, .int x1, .null] [] h nx := Dn_eq d 10 _ h nx (by decide) rfl
theorem n_11 : Dn (d + 1) 11 [.ref a0, .int x1, .int x2] h nx = Df d 11 0 [.ref a0, .int x1, .int x2, .null] [] h nx := Dn_eq d 11 _ h nx (by decide) rfl
theorem n_12 : Dn (d + 1) 12 [.ref a0] h nx = Df d 12 0 [.ref a0, .null, .null, .null] [] h nx := Dn_eq d 12 _ h nx (by decide) rfl
theorem n_13 : Dn (d + 1) 13 [.ref a0] h nx = Df d 13 0 [.ref a0] [] h nx := Dn_eq d 13 _ h nx (by decide) rfl
theorem n_14 : Dn (d + 1) 14 [.ref a0, .ref a1, .int x2] h nx = Df d 14 0 [.ref a0, .ref a1, .int x2] [] h nx := Dn_eq d 14 _ h nx (by decide) rfl
theorem n_15 : Dn (d + 1) 15 [.ref a0] h nx = Df d 15 0 [.ref a0, .null, .null] [] h nx := Dn_eq d 15 _ h nx (by decide) rfl
theorem n_16 : Dn (d + 1) 16 [.ref a0] h nx = Df d 16 0 [.ref a0, .null, .null] [] h nx := Dn_eq d 16 _ h nx (by decide) rfl
theorem n_17 : Dn (d + 1) 17 [.ref a0] h nx = Df d 17 0 [.ref a0, .null] [] h nx := Dn_eq d 17 _ h nx (by decide) rfl
theorem n_18 : Dn (d + 1) 18 [.ref a0, .ref a1] h nx = Df d 18 0 [.ref a0, .ref a1, .null] [] h nx := Dn_eq d 18 _ h nx (by decide) rfl
theorem n_19 : Dn (d + 1) 19 [.ref a0] h nx = Df d 19 0 [.ref a0, .null, .null, .null] [] h nx := Dn_eq d 19 _ h nx (by decide) rfl
theorem n_20 : Dn (d + 1) 20 [.ref a0] h nx = Df d 20 0 [.ref a0, .null, .null] [] h nx := Dn_eq d 20 _ h nx (by decide) rfl
theorem n_21 : Dn (d + 1) 21 [.ref a0] h nx = Df d 21 0 [.ref a0, .null, .null] [] h nx := Dn_eq d 21 _ h nx (by decide) rfl
theorem n_22 : Dn (d + 1) 22 [.ref a0] h nx = Df d 22 0 [.ref a0, .null, .null] [] h nx := Dn_eq d 22 _ h nx (by decide) rfl
theorem n_23 : Dn (d + 1) 23 [.ref a0, .ref a1] h nx = Df d 23 0 [.ref a0, .ref a1, .null] [] h nx := Dn_eq d 23 _ h nx (by decide) rfl
theorem n_24 : Dn (d + 1) 24 [.ref a0, .int x1] h nx = Df d 24 0 [.ref a0, .int x1] [] h nx := Dn_eq d 24 _ h nx (by decide) rfl
theorem n_25 : Dn (d + 1) 25 [.ref a0, .int x1] h nx = Df d 25 0 [.ref a0, .int x1, .null] [] h nx := Dn_eq d 25 _ h nx (by decide) rfl
theorem n_26 : Dn (d + 1) 26 [.ref a0] h nx = Df d 26 0 [.ref a0] [] h nx := Dn_eq d 26 _ h nx (by decide) rfl
theorem n_27 : Dn (d + 1) 27 [.ref a0] h nx = Df d 27 0 [.ref a0] [] h nx := Dn_eq d 27 _ h nx (by decide) rfl
theorem n_28 : Dn (d + 1) 28 [.ref a0, .int x1] h nx = Df d 28 0 [.ref a0, .int x1] [] h nx := Dn_eq d 28 _ h nx (by decide) rfl
theorem n_29 : Dn (d + 1) 29 [.ref a0, .int x1] h nx = Df d 29 0 [.ref a0, .int x1] [] h nx := Dn_eq d 29 _ h nx (by decide) rfl
theorem n_30 : Dn (d + 1) 30 [.ref a0, .int x1] h nx = Df d 30 0 [.ref a0, .int x1] [] h nx := Dn_eq d 30 _ h nx (by decide) rfl
theorem n_31 : Dn (d + 1) 31 [.ref a0, .ref a1] h nx = Df d 31 0 [.ref a0, .ref a1] [] h nx := Dn_eq d 31 _ h nx (by decide) rfl
theorem n_32 : Dn (d + 1) 32 [.ref a0] h nx = Df d 32 0 [.ref a0, .null] [] h nx := Dn_eq d 32 _ h nx (by decide) rfl
theorem n_33 : Dn (d + 1) 33 [.ref a0, .int x1, .int x2] h nx = Df d 33 0 [.ref a0, .int x1, .int x2, .null] [] h nx := Dn_eq d 33 _ h nx (by decide) rfl
theorem n_34 : Dn (d + 1) 34 [.ref a0, .int x1, .int x2, .int x3, .int x4] h nx = Df d 34 0 [.ref a0, .int x1, .int x2, .int x3, .int x4, .null, .null, .null, .null] [] h nx := Dn_eq d 34 _ h nx (by decide) rfl
theorem n_35 : Dn (d + 1) 35 [.int x0, .int x1, .int x2, .int x3] h nx = Df d 35 0 [.int x0, .int x1, .int x2, .int x3] [] h nx := Dn_eq d 35 _ h nx (by decide) rfl
theorem n_36 : Dn (d + 1) 36 [.int x0, .int x1, .int x2] h nx = Df d 36 0 [.int x0, .int x1, .int x2] [] h nx := Dn_eq d 36 _ h nx (by decide) rfl
theorem n_37 : Dn (d + 1) 37 [.ref a0] h nx = Df d 37 0 [.ref a0] [] h nx := Dn_eq d 37 _ h nx (by decide) rfl
theorem n_38 : Dn (d + 1) 38 [.ref a0, .int x1] h nx = Df d 38 0 [.ref a0, .int x1, .null] [] h nx := Dn_eq d 38 _ h nx (by decide) rfl
theorem n_39 : Dn (d + 1) 39 [.ref a0] h nx = Df d 39 0 [.ref a0] [] h nx := Dn_eq d 39 _ h nx (by decide) rfl
theorem n_40 : Dn (d + 1) 40 [.ref a0] h nx = Df d 40 0 [.ref a0, .null, .null] [] h nx := Dn_eq d 40 _ h nx (by decide) rfl
theorem n_41 : Dn (d + 1) 41 [.ref a0] h nx = Df d 41 0 [.ref a0] [] h nx := Dn_eq d 41 _ h nx (by decide) rfl
theorem n_42 : Dn (d + 1) 42 [.ref a0, .int x1, .int x2, .int x3] h nx = Df d 42 0 [.ref a0, .int x1, .int x2, .int x3, .null] [] h nx := Dn_eq d 42 _ h nx (by decide) rfl
theorem n_43 : Dn (d + 1) 43 [.ref a0, .int x1, .int x2, .int x3] h nx = Df d 43 0 [.ref a0, .int x1, .int x2, .int x3] [] h nx := Dn_eq d 43 _ h nx (by decide) rfl
theorem n_44 : Dn (d + 1) 44 [.ref a0] h nx = Df d 44 0 [.ref a0, .null] [] h nx := Dn_eq d 44 _ h nx (by decide) rfl
theorem n_45 : Dn (d + 1) 45 [.int x0] h nx = Df d 45 0 [.int x0] [] h nx := Dn_eq d 45 _ h nx (by decide) rfl
theorem n_46 : Dn (d + 1) 46 [.ref a0, .ref a1] h nx = Df d 46 0 [.ref a0, .ref a1, .null] [] h nx := Dn_eq d 46 _ h nx (by decide) rfl
theorem n_47 : Dn (d + 1) 47 [.ref a0, .int x1, .int x2, .int x3] h nx = Df d 47 0 [.ref a0, .int x1, .int x2, .int x3, .null, .null, .null] [] h nx := Dn_eq d 47 _ h nx (by decide) rfl
theorem n_48 : Dn (d + 1) 48 [.ref a0, .int x1, .int x2] h nx = Df d 48 0 [.ref a0, .int x1, .int x2] [] h nx := Dn_eq d 48 _ h nx (by decide) rfl
theorem n_49 : Dn (d + 1) 49 [.ref a0] h nx = Df d 49 0 [.ref a0, .null, .null] [] h nx := Dn_eq d 49 _ h nx (by decide) rfl
theorem n_50 : Dn (d + 1) 50 [.ref a0] h nx = Df d 50 0 [.ref a0, .null, .null] [] h nx := Dn_eq d 50 _ h nx (by decide) rfl
theorem n_51 : Dn (d + 1) 51 [.int x0] h nx = Df d 51 0 [.int x0] [] h nx := Dn_eq d 51 _ h nx (by decide) rfl
theorem n_52 : Dn (d + 1) 52 [.ref a0, .int x1, .int x2] h nx = Df d 52 0 [.ref a0, .int x1, .int x2] [] h nx := Dn_eq d 52 _ h nx (by decide) rfl
theorem n_53 : Dn (d + 1) 53 [.ref a0, .int x1, .int x2] h nx = Df d 53 0 [.ref a0, .int x1, .int x2] [] h nx := Dn_eq d 53 _ h nx (by decide) rfl
theorem n_54 : Dn (d + 1) 54 [.int x0, .int x1] h nx = Df d 54 0 [.int x0, .int x1] [] h nx := Dn_eq d 54 _ h nx (by decide) rfl
theorem n_55 : Dn (d + 1) 55 [.ref a0] h nx = Df d 55 0 [.ref a0] [] h nx := Dn_eq d 55 _ h nx (by decide) rfl
theorem n_56 : Dn (d + 1) 56 [.ref a0, .int x1] h nx = Df d 56 0 [.ref a0, .int x1] [] h nx := Dn_eq d 56 _ h nx (by decide) rfl
theorem n_57 : Dn (d + 1) 57 [.ref a0, .int x1] h nx = Df d 57 0 [.ref a0, .int x1] [] h nx := Dn_eq d 57 _ h nx (by decide) rfl
theorem n_58 : Dn (d + 1) 58 [.ref a0, .int x1, .int x2] h nx = Df d 58 0 [.ref a0, .int x1, .int x2, .null] [] h nx := Dn_eq d 58 _ h nx (by decide) rfl
theorem n_59 : Dn (d + 1) 59 [.ref a0, .int x1, .int x2] h nx = Df d 59 0 [.ref a0, .int x1, .int x2] [] h nx := Dn_eq d 59 _ h nx (by decide) rfl
theorem n_60 : Dn (d + 1) 60 [.ref a0, .ref a1] h nx = Df d 60 0 [.ref a0, .ref a1] [] h nx := Dn_eq d 60 _ h nx (by decide) rfl
theorem n_61 : Dn (d + 1) 61 [.ref a0] h nx = Df d 61 0 [.ref a0] [] h nx := Dn_eq d 61 _ h nx (by decide) rfl
theorem n_62 : Dn (d + 1) 62 [.ref a0] h nx = Df d 62 0 [.ref a0] [] h nx := Dn_eq d 62 _ h nx (by decide) rfl
theorem n_63 : Dn (d + 1) 63 [.ref a0, .int x1, .int x2, .int x3] h nx = Df d 63 0 [.ref a0, .int x1, .int x2, .int x3] [] h nx := Dn_eq d 63 _ h nx (by decide) rfl
theorem n_64 : Dn (d + 1) 64 [.ref a0] h nx = Df d 64 0 [.ref a0] [] h nx := Dn_eq d 64 _ h nx (by decide) rfl
theorem n_65 : Dn (d + 1) 65 [.ref a0] h nx = Df d 65 0 [.ref a0] [] h nx := Dn_eq d 65 _ h nx (by decide) rfl
theorem n_66 : Dn (d + 1) 66 [.ref a0, .int x1] h nx = Df d 66 0 [.ref a0, .int x1] [] h nx := Dn_eq d 66 _ h nx (by decide) rfl
theorem n_67 : Dn (d + 1) 67 [.ref a0, .int x1] h nx = Df d 67 0 [.ref a0, .int x1, .null, .null] [] h nx := Dn_eq d 67 _ h nx (by decide) rfl
theorem n_68 : Dn (d + 1) 68 [.ref a0] h nx = Df d 68 0 [.ref a0] [] h nx := Dn_eq d 68 _ h nx (by decide) rfl
theorem n_69 : Dn (d + 1) 69 [.ref a0, .int x1, .int x2] h nx = Df d 69 0 [.ref a0, .int x1, .int x2, .null, .null] [] h nx := Dn_eq d 69 _ h nx (by decide) rfl
theorem n_70 : Dn (d + 1) 70 [.ref a0, .ref a1] h nx = Df d 70 0 [.ref a0, .ref a1] [] h nx := Dn_eq d 70 _ h nx (by decide) rfl
theorem n_71 : Dn (d + 1) 71 [.ref a0] h nx = Df d 71 0 [.ref a0, .null] [] h nx := Dn_eq d 71 _ h nx (by decide) rfl
theorem n_72 : Dn (d + 1) 72 [.ref a0, .int x1, .int x2, .int x3] h nx = Df d 72 0 [.ref a0, .int x1, .int x2, .int x3] [] h nx := Dn_eq d 72 _ h nx (by decide) rfl
theorem n_73 : Dn (d + 1) 73 [.int x0] h nx = Df d 73 0 [.int x0] [] h nx := Dn_eq d 73 _ h nx (by decide) rfl
theorem n_74 : Dn (d + 1) 74 [.int x0, .int x1, .int x2] h nx = Df d 74 0 [.int x0, .int x1, .int x2] [] h nx := Dn_eq d 74 _ h nx (by decide) rfl
theorem n_75 : Dn (d + 1) 75 [.ref a0, .int x1, .int x2] h nx = Df d 75 0 [.ref a0, .int x1, .int x2, .null] [] h nx := Dn_eq d 75 _ h nx (by decide) rfl
theorem n_76 : Dn (d + 1) 76 [.int x0, .int x1, .int x2] h nx = Df d 76 0 [.int x0, .int x1, .int x2] [] h nx := Dn_eq d 76 _ h nx (by decide) rfl
theorem n_77 : Dn (d + 1) 77 [.ref a0, .int x1, .int x2] h nx = Df d 77 0 [.ref a0, .int x1, .int x2, .null] [] h nx := Dn_eq d 77 _ h nx (by decide) rfl
theorem n_78 : Dn (d + 1) 78 [.ref a0, .int x1, .int x2] h nx = Df d 78 0 [.ref a0, .int x1, .int x2, .null, .null] [] h nx := Dn_eq d 78 _ h nx (by decide) rfl
theorem n_79 : Dn (d + 1) 79 [.ref a0, .int x1, .int x2, .int x3] h nx = Df d 79 0 [.ref a0, .int x1, .int x2, .int x3, .null, .null] [] h nx := Dn_eq d 79 _ h nx (by decide) rfl
theorem n_80 : Dn (d + 1) 80 [.ref a0, .int x1, .int x2] h nx = Df d 80 0 [.ref a0, .int x1, .int x2, .null] [] h nx := Dn_eq d 80 _ h nx (by decide) rfl
theorem n_81 : Dn (d + 1) 81 [.ref a0, .int x1, .int x2] h nx = Df d 81 0 [.ref a0, .int x1, .int x2] [] h nx := Dn_eq d 81 _ h nx (by decide) rfl
theorem n_82 : Dn (d + 1) 82 [.ref a0, .int x1] h nx = Df d 82 0 [.ref a0, .int x1, .null, .null] [] h nx := Dn_eq d 82 _ h nx (by decide) rfl
theorem n_83 : Dn (d + 1) 83 [.ref a0, .int x1] h nx = Df d 83 0 [.ref a0, .int x1, .null] [] h nx := Dn_eq d 83 _ h nx (by decide) rfl
theorem n_84 : Dn (d + 1) 84 [.ref a0, .int x1] h nx = Df d 84 0 [.ref a0, .int x1, .null] [] h nx := Dn_eq d 84 _ h nx (by decide) rfl
theorem n_85 : Dn (d + 1) 85 [.ref a0, .ref a1, .int x2] h nx = Df d 85 0 [.ref a0, .ref a1, .int x2, .null] [] h nx := Dn_eq d 85 _ h nx (by decide) rfl
theorem n_86 : Dn (d + 1) 86 [.ref a0, .int x1] h nx = Df d 86 0 [.ref a0, .int x1] [] h nx := Dn_eq d 86 _ h nx (by decide) rfl
theorem n_87 : Dn (d + 1) 87 [.ref a0, .int x1, .int x2] h nx = Df d 87 0 [.ref a0, .int x1, .int x2] [] h nx := Dn_eq d 87 _ h nx (by decide) rfl
theorem n_88 : Dn (d + 1) 88 [.ref a0] h nx = Df d 88 0 [.ref a0] [] h nx := Dn_eq d 88 _ h nx (by decide) rfl
theorem n_89 : Dn (d + 1) 89 [.ref a0, .int x1] h nx = Df d 89 0 [.ref a0, .int x1, .null] [] h nx := Dn_eq d 89 _ h nx (by decide) rfl
theorem n_90 : Dn (d + 1) 90 [.ref a0, .int x1, .int x2] h nx = Df d 90 0 [.ref a0, .int x1, .int x2, .null] [] h nx := Dn_eq d 90 _ h nx (by decide) rfl
theorem n_91 : Dn (d + 1) 91 [.ref a0, .int x1, .int x2, .int x3] h nx = Df d 91 0 [.ref a0, .int x1, .int x2, .int x3, .null] [] h nx := Dn_eq d 91 _ h nx (by decide) rfl
theorem n_92 : Dn (d + 1) 92 [.ref a0, .int x1] h nx = Df d 92 0 [.ref a0, .int x1, .null, .null] [] h nx := Dn_eq d 92 _ h nx (by decide) rfl
theorem n_93 : Dn (d + 1) 93 [.ref a0, .int x1] h nx = Df d 93 0 [.ref a0, .int x1, .null] [] h nx := Dn_eq d 93 _ h nx (by decide) rfl
theorem n_94 : Dn (d + 1) 94 [.ref a0, .int x1] h nx = Df d 94 0 [.ref a0, .int x1, .null, .null] [] h nx := Dn_eq d 94 _ h nx (by decide) rfl
theorem n_95 : Dn (d + 1) 95 [.ref a0, .int x1, .int x2, .int x3] h nx = Df d 95 0 [.ref a0, .int x1, .int x2, .int x3, .null] [] h nx := Dn_eq d 95 _ h nx (by decide) rfl
theorem n_96 : Dn (d + 1) 96 [.int x0] h nx = Df d 96 0 [.int x0] [] h nx := Dn_eq d 96 _ h nx (by decide) rfl
theorem n_97 : Dn (d + 1) 97 [.ref a0, .ref a1, .int x2, .int x3] h nx = Df d 97 0 [.ref a0, .ref a1, .int x2, .int x3, .null, .null] [] h nx := Dn_eq d 97 _ h nx (by decide) rfl
theorem n_98 : Dn (d + 1) 98 [.ref a0] h nx = Df d 98 0 [.ref a0, .null] [] h nx := Dn_eq d 98 _ h nx (by decide) rfl
theorem n_99 : Dn (d + 1) 99 [.ref a0, .int x1] h nx = Df d 99 0 [.ref a0, .int x1, .null, .null] [] h nx := Dn_eq d 99 _ h nx (by decide) rfl
theorem n_100 : Dn (d + 1) 100 [.ref a0, .int x1, .int x2, .int x3] h nx = Df d 100 0 [.ref a0, .int x1, .int x2, .int x3] [] h nx := Dn_eq d 100 _ h nx (by decide) rfl
theorem n_101 : Dn (d + 1) 101 [.ref a0, .int x1] h nx = Df d 101 0 [.ref a0, .int x1] [] h nx := Dn_eq d 101 _ h nx (by decide) rfl
theorem n_102 : Dn (d + 1) 102 [.ref a0] h nx = Df d 102 0 [.ref a0, .null] [] h nx := Dn_eq d 102 _ h nx (by decide) rfl
theorem n_103 : Dn (d + 1) 103 [.ref a0, .int x1, .int x2] h nx = Df d 103 0 [.ref a0, .int x1, .int x2, .null] [] h nx := Dn_eq d 103 _ h nx (by decide) rfl
theorem n_104 : Dn (d + 1) 104 [.ref a0, .int x1] h nx = Df d 104 0 [.ref a0, .int x1] [] h nx := Dn_eq d 104 _ h nx (by decide) rfl
theorem n_105 : Dn (d + 1) 105 [.ref a0, .int x1, .int x2, .int x3] h nx = Df d 105 0 [.ref a0, .int x1, .int x2, .int x3, .null] [] h nx := Dn_eq d 105 _ h nx (by decide) rfl
theorem n_106 : Dn (d + 1) 106 [.ref a0, .int x1, .int x2, .int x3] h nx = Df d 106 0 [.ref a0, .int x1, .int x2, .int x3, .null] [] h nx := Dn_eq d 106 _ h nx (by decide) rfl
theorem n_107 : Dn (d + 1) 107 [.ref a0, .int x1] h nx = Df d 107 0 [.ref a0, .int x1, .null, .null, .null, .null] [] h nx := Dn_eq d 107 _ h nx (by decide) rfl
theorem n_108 : Dn (d + 1) 108 [.ref a0, .int x1] h nx = Df d 108 0 [.ref a0, .int x1, .null, .null] [] h nx := Dn_eq d 108 _ h nx (by decide) rfl
theorem n_109 : Dn (d + 1) 109 [.ref a0, .int x1, .int x2, .int x3, .int x4, .int x5] h nx = Df d 109 0 [.ref a0, .int x1, .int x2, .int x3, .int x4, .int x5, .null, .null] [] h nx := Dn_eq d 109 _ h nx (by decide) rfl
theorem n_110 : Dn (d + 1) 110 [.ref a0, .int x1, .int x2, .int x3] h nx = Df d 110 0 [.ref a0, .int x1, .int x2, .int x3, .null, .null] [] h nx := Dn_eq d 110 _ h nx (by decide) rfl
theorem n_111 : Dn (d + 1) 111 [.int x0] h nx = Df d 111 0 [.int x0] [] h nx := Dn_eq d 111 _ h nx (by decide) rfl
theorem n_112 : Dn (d + 1) 112 [.ref a0, .int x1, .int x2] h nx = Df d 112 0 [.ref a0, .int x1, .int x2, .null] [] h nx := Dn_eq d 112 _ h nx (by decide) rfl
theorem n_113 : Dn (d + 1) 113 [.ref a0, .int x1, .int x2] h nx = Df d 113 0 [.ref a0, .int x1, .int x2, .null] [] h nx := Dn_eq d 113 _ h nx (by decide) rfl
theorem n_114 : Dn (d + 1) 114 [.ref a0, .int x1, .int x2] h nx = Df d 114 0 [.ref a0, .int x1, .int x2, .null] [] h nx := Dn_eq d 114 _ h nx (by decide) rfl
theorem n_115 : Dn (d + 1) 115 [.ref a0, .int x1] h nx = Df d 115 0 [.ref a0, .int x1] [] h nx := Dn_eq d 115 _ h nx (by decide) rfl
theorem n_116 : Dn (d + 1) 116 [.ref a0, .int x1] h nx = Df d 116 0 [.ref a0, .int x1, .null, .null, .null] [] h nx := Dn_eq d 116 _ h nx (by decide) rfl
theorem n_117 : Dn (d + 1) 117 [.ref a0, .int x1, .int x2, .int x3] h nx = Df d 117 0 [.ref a0, .int x1, .int x2, .int x3] [] h nx := Dn_eq d 117 _ h nx (by decide) rfl
theorem n_118 : Dn (d + 1) 118 [.ref a0] h nx = Df d 118 0 [.ref a0] [] h nx := Dn_eq d 118 _ h nx (by decide) rfl
theorem n_119 : Dn (d + 1) 119 [.ref a0] h nx = Df d 119 0 [.ref a0] [] h nx := Dn_eq d 119 _ h nx (by decide) rfl
theorem n_120 : Dn (d + 1) 120 [.ref a0, .int x1] h nx = Df d 120 0 [.ref a0, .int x1] [] h nx := Dn_eq d 120 _ h nx (by decide) rfl
theorem n_121 : Dn (d + 1) 121 [.ref a0] h nx = Df d 121 0 [.ref a0] [] h nx := Dn_eq d 121 _ h nx (by decide) rfl
theorem n_122 : Dn (d + 1) 122 [.ref a0, .int x1, .int x2, .int x3] h nx = Df d 122 0 [.ref a0, .int x1, .int x2, .int x3] [] h nx := Dn_eq d 122 _ h nx (by decide) rfl
theorem n_123 : Dn (d + 1) 123 [.int x0, .int x1, .int x2] h nx = Df d 123 0 [.int x0, .int x1, .int x2] [] h nx := Dn_eq d 123 _ h nx (by decide) rfl
theorem n_124 : Dn (d + 1) 124 [.ref a0, .int x1, .int x2, .int x3] h nx = Df d 124 0 [.ref a0, .int x1, .int x2, .int x3, .null, .null] [] h nx := Dn_eq d 124 _ h nx (by decide) rfl
theorem n_125 : Dn (d + 1) 125 [.ref a0, .int x1, .int x2, .int x3] h nx = Df d 125 0 [.ref a0, .int x1, .int x2, .int x3] [] h nx := Dn_eq d 125 _ h nx (by decide) rfl
theorem n_126 : Dn (d + 1) 126 [.ref a0, .int x1, .int x2] h nx = Df d 126 0 [.ref a0, .int x1, .int x2] [] h nx := Dn_eq d 126 _ h nx (by decide) rfl
theorem n_127 : Dn (d + 1) 127 [.ref a0, .int x1] h nx = Df d 127 0 [.ref a0, .int x1] [] h nx := Dn_eq d 127 _ h nx (by decide) rfl
theorem n_128 : Dn (d + 1) 128 [.ref a0, .int x1, .int x2] h nx = Df d 128 0 [.ref a0, .int x1, .int x2] [] h nx := Dn_eq d 128 _ h nx (by decide) rfl
theorem n_129 : Dn (d + 1) 129 [.ref a0, .int x1] h nx = Df d 129 0 [.ref a0, .int x1, .null, .null] [] h nx := Dn_eq d 129 _ h nx (by decide) rfl
theorem n_130 : Dn (d + 1) 130 [.ref a0, .int x1] h nx = Df d 130 0 [.ref a0, .int x1, .null] [] h nx := Dn_eq d 130 _ h nx (by decide) rfl
theorem n_131 : Dn (d + 1) 131 [.ref a0, .int x1] h nx = Df d 131 0 [.ref a0, .int x1, .null, .null, .null, .null] [] h nx := Dn_eq d 131 _ h nx (by decide) rfl
theorem n_132 : Dn (d + 1) 132 [.int x0, .int x1, .int x2] h nx = Df d 132 0 [.int x0, .int x1, .int x2] [] h nx := Dn_eq d 132 _ h nx (by decide) rfl
theorem n_133 : Dn (d + 1) 133 [.int x0, .int x1, .int x2] h nx = Df d 133 0 [.int x0, .int x1, .int x2] [] h nx := Dn_eq d 133 _ h nx (by decide) rfl
theorem n_134 : Dn (d + 1) 134 [.ref a0, .int x1] h nx = Df d 134 0 [.ref a0, .int x1] [] h nx := Dn_eq d 134 _ h nx (by decide) rfl
theorem n_135 : Dn (d + 1) 135 [.ref a0, .int x1] h nx = Df d 135 0 [.ref a0, .int x1] [] h nx := Dn_eq d 135 _ h nx (by decide) rfl
theorem n_136 : Dn (d + 1) 136 [.ref a0] h nx = Df d 136 0 [.ref a0, .null, .null] [] h nx := Dn_eq d 136 _ h nx (by decide) rfl
theorem n_137 : Dn (d + 1) 137 [.ref a0, .int x1] h nx = Df d 137 0 [.ref a0, .int x1, .null] [] h nx := Dn_eq d 137 _ h nx (by decide) rfl
theorem n_138 : Dn (d + 1) 138 [.ref a0, .int x1] h nx = Df d 138 0 [.ref a0, .int x1, .null] [] h nx := Dn_eq d 138 _ h nx (by decide) rfl
theorem n_139 : Dn (d + 1) 139 [.ref a0, .int x1, .int x2] h nx = Df d 139 0 [.ref a0, .int x1, .int x2] [] h nx := Dn_eq d 139 _ h nx (by decide) rfl
theorem n_140 : Dn (d + 1) 140 [.int x0, .int x1] h nx = Df d 140 0 [.int x0, .int x1] [] h nx := Dn_eq d 140 _ h nx (by decide) rfl
theorem n_141 : Dn (d + 1) 141 [.ref a0, .int x1, .int x2] h nx = Df d 141 0 [.ref a0, .int x1, .int x2] [] h nx := Dn_eq d 141 _ h nx (by decide) rfl
theorem n_142 : Dn (d + 1) 142 [.ref a0, .int x1, .int x2] h nx = Df d 142 0 [.ref a0, .int x1, .int x2, .null] [] h nx := Dn_eq d 142 _ h nx (by decide) rfl
theorem n_143 : Dn (d + 1) 143 [.ref a0, .int x1, .int x2, .int x3] h nx = Df d 143 0 [.ref a0, .int x1, .int x2, .int x3] [] h nx := Dn_eq d 143 _ h nx (by decide) rfl
theorem n_144 : Dn (d + 1) 144 [.ref a0, .int x1, .int x2] h nx = Df d 144 0 [.ref a0, .int x1, .int x2] [] h nx := Dn_eq d 144 _ h nx (by decide) rfl
theorem n_145 : Dn (d + 1) 145 [.int x0] h nx = Df d 145 0 [.int x0] [] h nx := Dn_eq d 145 _ h nx (by decide) rfl
theorem n_146 : Dn (d + 1) 146 [.ref a0, .int x1, .int x2] h nx = Df d 146 0 [.ref a0, .int x1, .int x2, .null, .null] [] h nx := Dn_eq d 146 _ h nx (by decide) rfl
theorem n_147 : Dn (d + 1) 147 [.ref a0, .int x1] h nx = Df d 147 0 [.ref a0, .int x1, .null, .null, .null, .null] [] h nx := Dn_eq d 147 _ h nx (by decide) rfl
theorem n_148 : Dn (d + 1) 148 [.ref a0] h nx = Df d 148 0 [.ref a0] [] h nx := Dn_eq d 148 _ h nx (by decide) rfl
theorem n_149 : Dn (d + 1) 149 [.ref a0, .int x1] h nx = Df d 149 0 [.ref a0, .int x1] [] h nx := Dn_eq d 149 _ h nx (by decide) rfl
theorem n_150 : Dn (d + 1) 150 [.ref a0, .int x1] h nx = Df d 150 0 [.ref a0, .int x1, .null] [] h nx := Dn_eq d 150 _ h nx (by decide) rfl
theorem n_151 : Dn (d + 1) 151 [.ref a0, .int x1] h nx = Df d 151 0 [.ref a0, .int x1, .null] [] h nx := Dn_eq d 151 _ h nx (by decide) rfl
theorem n_152 : Dn (d + 1) 152 [.ref a0] h nx = Df d 152 0 [.ref a0, .null, .null] [] h nx := Dn_eq d 152 _ h nx (by decide) rfl
theorem n_153 : Dn (d + 1) 153 [.ref a0] h nx = Df d 153 0 [.ref a0, .null, .null] [] h nx := Dn_eq d 153 _ h nx (by decide) rfl
theorem n_154 : Dn (d + 1) 154 [.ref a0, .int x1] h nx = Df d 154 0 [.ref a0, .int x1] [] h nx := Dn_eq d 154 _ h nx (by decide) rfl
theorem n_155 : Dn (d + 1) 155 [.ref a0, .int x1] h nx = Df d 155 0 [.ref a0, .int x1, .null] [] h nx := Dn_eq d 155 _ h nx (by decide) rfl
theorem n_156 : Dn (d + 1) 156 [.ref a0, .int x1] h nx = Df d 156 0 [.ref a0, .int x1, .null, .null] [] h nx := Dn_eq d 156 _ h nx (by decide) rfl
theorem n_157 : Dn (d + 1) 157 [.ref a0, .int x1] h nx = Df d 157 0 [.ref a0, .int x1] [] h nx := Dn_eq d 157 _ h nx (by decide) rfl
theorem n_158 : Dn (d + 1) 158 [.ref a0, .int x1] h nx = Df d 158 0 [.ref a0, .int x1, .null, .null] [] h nx := Dn_eq d 158 _ h nx (by decide) rfl
theorem n_159 : Dn (d + 1) 159 [.ref a0] h nx = Df d 159 0 [.ref a0, .null, .null] [] h nx := Dn_eq d 159 _ h nx (by decide) rfl
theorem n_160 : Dn (d + 1) 160 [.ref a0, .int x1] h nx = Df d 160 0 [.ref a0, .int x1, .null, .null] [] h nx := Dn_eq d 160 _ h nx (by decide) rfl
theorem n_161 : Dn (d + 1) 161 [.int x0] h nx = Df d 161 0 [.int x0] [] h nx := Dn_eq d 161 _ h nx (by decide) rfl
theorem n_162 : Dn (d + 1) 162 [.ref a0] h nx = Df d 162 0 [.ref a0, .null, .null] [] h nx := Dn_eq d 162 _ h nx (by decide) rfl
theorem n_163 : Dn (d + 1) 163 [.ref a0] h nx = Df d 163 0 [.ref a0, .null, .null] [] h nx := Dn_eq d 163 _ h nx (by decide) rfl
theorem n_164 : Dn (d + 1) 164 [.ref a0, .int x1, .int x2] h nx = Df d 164 0 [.ref a0, .int x1, .int x2, .null] [] h nx := Dn_eq d 164 _ h nx (by decide) rfl
theorem n_165 : Dn (d + 1) 165 [.ref a0] h nx = Df d 165 0 [.ref a0, .null] [] h nx := Dn_eq d 165 _ h nx (by decide) rfl
theorem n_166 : Dn (d + 1) 166 [.ref a0] h nx = Df d 166 0 [.ref a0, .null] [] h nx := Dn_eq d 166 _ h nx (by decide) rfl
theorem n_167 : Dn (d + 1) 167 [.ref a0] h nx = Df d 167 0 [.ref a0, .null, .null, .null] [] h nx := Dn_eq d 167 _ h nx (by decide) rfl
theorem n_168 : Dn (d + 1) 168 [.ref a0, .int x1, .int x2] h nx = Df d 168 0 [.ref a0, .int x1, .int x2, .null, .null, .null, .null] [] h nx := Dn_eq d 168 _ h nx (by decide) rfl
theorem n_169 : Dn (d + 1) 169 [.ref a0, .int x1] h nx = Df d 169 0 [.ref a0, .int x1, .null] [] h nx := Dn_eq d 169 _ h nx (by decide) rfl
theorem n_170 : Dn (d + 1) 170 [.ref a0, .int x1, .int x2, .int x3] h nx = Df d 170 0 [.ref a0, .int x1, .int x2, .int x3, .null, .null, .null, .null] [] h nx := Dn_eq d 170 _ h nx (by decide) rfl
theorem n_171 : Dn (d + 1) 171 [.ref a0, .int x1] h nx = Df d 171 0 [.ref a0, .int x1, .null] [] h nx := Dn_eq d 171 _ h nx (by decide) rfl
theorem n_172 : Dn (d + 1) 172 [.ref a0, .int x1] h nx = Df d 172 0 [.ref a0, .int x1, .null, .null, .null] [] h nx := Dn_eq d 172 _ h nx (by decide) rfl
theorem n_173 : Dn (d + 1) 173 [.ref a0, .int x1] h nx = Df d 173 0 [.ref a0, .int x1, .null, .null] [] h nx := Dn_eq d 173 _ h nx (by decide) rfl
theorem n_174 : Dn (d + 1) 174 [.ref a0, .int x1, .int x2, .int x3] h nx = Df d 174 0 [.ref a0, .int x1, .int x2, .int x3, .null, .null, .null, .null, .null, .null] [] h nx := Dn_eq d 174 _ h nx (by decide) rfl
theorem n_175 : Dn (d + 1) 175 [.int x0] h nx = Df d 175 0 [.int x0] [] h nx := Dn_eq d 175 _ h nx (by decide) rfl
theorem n_176 : Dn (d + 1) 176 [.ref a0, .int x1, .int x2, .int x3] h nx = Df d 176 0 [.ref a0, .int x1, .int x2, .int x3, .null, .null, .null, .null, .null, .null] [] h nx := Dn_eq d 176 _ h nx (by decide) rfl
theorem n_177 : Dn (d + 1) 177 [.ref a0] h nx = Df d 177 0 [.ref a0, .null] [] h nx := Dn_eq d 177 _ h nx (by decide) rfl
theorem n_178 : Dn (d + 1) 178 [.ref a0, .int x1] h nx = Df d 178 0 [.ref a0, .int x1, .null] [] h nx := Dn_eq d 178 _ h nx (by decide) rfl
theorem n_179 : Dn (d + 1) 179 [.ref a0, .int x1, .int x2, .int x3] h nx = Df d 179 0 [.ref a0, .int x1, .int x2, .int x3, .null, .null] [] h nx := Dn_eq d 179 _ h nx (by decide) rfl
theorem n_180 : Dn (d + 1) 180 [.ref a0, .int x1] h nx = Df d 180 0 [.ref a0, .int x1] [] h nx := Dn_eq d 180 _ h nx (by decide) rfl
theorem n_181 : Dn (d + 1) 181 [.ref a0] h nx = Df d 181 0 [.ref a0, .null, .null, .null] [] h nx := Dn_eq d 181 _ h nx (by decide) rfl
theorem n_182 : Dn (d + 1) 182 [.ref a0] h nx = Df d 182 0 [.ref a0, .null] [] h nx := Dn_eq d 182 _ h nx (by decide) rfl
theorem n_183 : Dn (d + 1) 183 [.ref a0, .int x1] h nx = Df d 183 0 [.ref a0, .int x1] [] h nx := Dn_eq d 183 _ h nx (by decide) rfl
theorem n_184 : Dn (d + 1) 184 [.ref a0, .int x1] h nx = Df d 184 0 [.ref a0, .int x1] [] h nx := Dn_eq d 184 _ h nx (by decide) rfl
theorem n_185 : Dn (d + 1) 185 [.ref a0] h nx = Df d 185 0 [.ref a0, .null, .null, .null, .null] [] h nx := Dn_eq d 185 _ h nx (by decide) rfl
theorem n_186 : Dn (d + 1) 186 [.ref a0] h nx = Df d 186 0 [.ref a0, .null, .null, .null, .null] [] h nx := Dn_eq d 186 _ h nx (by decide) rfl
theorem n_187 : Dn (d + 1) 187 [.ref a0] h nx = Df d 187 0 [.ref a0, .null] [] h nx := Dn_eq d 187 _ h nx (by decide) rfl
theorem n_188 : Dn (d + 1) 188 [.ref a0, .int x1] h nx = Df d 188 0 [.ref a0, .int x1] [] h nx := Dn_eq d 188 _ h nx (by decide) rfl
theorem n_189 : Dn (d + 1) 189 [.ref a0, .int x1] h nx = Df d 189 0 [.ref a0, .int x1] [] h nx := Dn_eq d 189 _ h nx (by decide) rfl
theorem n_190 : Dn (d + 1) 190 [.int x0] h nx = Df d 190 0 [.int x0] [] h nx := Dn_eq d 190 _ h nx (by decide) rfl
theorem n_191 : Dn (d + 1) 191 [.ref a0] h nx = Df d 191 0 [.ref a0, .null, .null] [] h nx := Dn_eq d 191 _ h nx (by decide) rfl
theorem n_192 : Dn (d + 1) 192 [.ref a0] h nx = Df d 192 0 [.ref a0] [] h nx := Dn_eq d 192 _ h nx (by decide) rfl
theorem n_193 : Dn (d + 1) 193 [.ref a0, .int x1, .int x2] h nx = Df d 193 0 [.ref a0, .int x1, .int x2] [] h nx := Dn_eq d 193 _ h nx (by decide) rfl
theorem n_194 : Dn (d + 1) 194 [.ref a0, .int x1] h nx = Df d 194 0 [.ref a0, .int x1, .null] [] h nx := Dn_eq d 194 _ h nx (by decide) rfl
theorem n_195 : Dn (d + 1) 195 [.ref a0, .int x1, .int x2, .int x3] h nx = Df d 195 0 [.ref a0, .int x1, .int x2, .int x3, .null] [] h nx := Dn_eq d 195 _ h nx (by decide) rfl
theorem n_196 : Dn (d + 1) 196 [.ref a0, .int x1, .int x2, .int x3] h nx = Df d 196 0 [.ref a0, .int x1, .int x2, .int x3] [] h nx := Dn_eq d 196 _ h nx (by decide) rfl
theorem n_197 : Dn (d + 1) 197 [.ref a0, .int x1] h nx = Df d 197 0 [.ref a0, .int x1, .null, .null, .null, .null] [] h nx := Dn_eq d 197 _ h nx (by decide) rfl
theorem n_198 : Dn (d + 1) 198 [.ref a0, .int x1] h nx = Df d 198 0 [.ref a0, .int x1, .null, .null] [] h nx := Dn_eq d 198 _ h nx (by decide) rfl
theorem n_199 : Dn (d + 1) 199 [.ref a0, .int x1, .int x2, .int x3, .int x4, .int x5] h nx = Df d 199 0 [.ref a0, .int x1, .int x2, .int x3, .int x4, .int x5, .null] [] h nx := Dn_eq d 199 _ h nx (by decide) rfl
theorem n_200 : Dn (d + 1) 200 [.ref a0, .int x1, .int x2, .int x3] h nx = Df d 200 0 [.ref a0, .int x1, .int x2, .int x3, .null, .null] [] h nx := Dn_eq d 200 _ h nx (by decide) rfl
theorem n_201 : Dn (d + 1) 201 [.int x0] h nx = Df d 201 0 [.int x0] [] h nx := Dn_eq d 201 _ h nx (by decide) rfl
theorem n_202 : Dn (d + 1) 202 [.ref a0, .int x1, .int x2] h nx = Df d 202 0 [.ref a0, .int x1, .int x2] [] h nx := Dn_eq d 202 _ h nx (by decide) rfl
theorem n_203 : Dn (d + 1) 203 [.ref a0, .int x1, .int x2] h nx = Df d 203 0 [.ref a0, .int x1, .int x2, .null] [] h nx := Dn_eq d 203 _ h nx (by decide) rfl
theorem n_204 : Dn (d + 1) 204 [.ref a0, .int x1, .int x2] h nx = Df d 204 0 [.ref a0, .int x1, .int x2] [] h nx := Dn_eq d 204 _ h nx (by decide) rfl
theorem n_205 : Dn (d + 1) 205 [.ref a0, .int x1] h nx = Df d 205 0 [.ref a0, .int x1] [] h nx := Dn_eq d 205 _ h nx (by decide) rfl
theorem n_206 : Dn (d + 1) 206 [.ref a0, .int x1] h nx = Df d 206 0 [.ref a0, .int x1, .null, .null, .null, .null] [] h nx := Dn_eq d 206 _ h nx (by decide) rfl
theorem n_207 : Dn (d + 1) 207 [.ref a0, .ref a1] h nx = Df d 207 0 [.ref a0, .ref a1, .null] [] h nx := Dn_eq d 207 _ h nx (by decide) rfl
theorem n_208 : Dn (d + 1) 208 [.ref a0] h nx = Df d 208 0 [.ref a0] [] h nx := Dn_eq d 208 _ h nx (by decide) rfl
theorem n_209 : Dn (d + 1) 209 [.ref a0] h nx = Df d 209 0 [.ref a0] [] h nx := Dn_eq d 209 _ h nx (by decide) rfl
theorem n_210 : Dn (d + 1) 210 [.ref a0, .int x1] h nx = Df d 210 0 [.ref a0, .int x1] [] h nx := Dn_eq d 210 _ h nx (by decide) rfl
theorem n_211 : Dn (d + 1) 211 [.int x0, .int x1] h nx = Df d 211 0 [.int x0, .int x1] [] h nx := Dn_eq d 211 _ h nx (by decide) rfl
theorem n_212 : Dn (d + 1) 212 [.int x0, .int x1] h nx = Df d 212 0 [.int x0, .int x1] [] h nx := Dn_eq d 212 _ h nx (by decide) rfl
theorem n_213 : Dn (d + 1) 213 [.int x0, .int x1] h nx = Df d 213 0 [.int x0, .int x1, .null] [] h nx := Dn_eq d 213 _ h nx (by decide) rfl
theorem n_214 : Dn (d + 1) 214 [.int x0] h nx = Df d 214 0 [.int x0] [] h nx := Dn_eq d 214 _ h nx (by decide) rfl
theorem n_226 : Dn (d + 1) 226 [.ref a0] h nx = Df d 226 0 [.ref a0, .null, .null, .null] [] h nx := Dn_eq d 226 _ h nx (by decide) rfl
end EN
