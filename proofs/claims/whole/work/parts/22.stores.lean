section EE
variable {d : Nat} {l0 l1 l2 l3 l4 l5 l6 l7 l8 l9 l10 l11 : Value} {st : List Value} {h : AH} {nx : AN} {x y z : Int32} {xl yl : Int64} {a b : Nat} {s0 s1 s2 s3 s4 s5 v0 v1 v2 v3 v4 v5 : Value} {c e : Nat} {p q : Int32}
theorem e_4_78n : Df d 4 78 [l0, .null] (.int x :: st) h nx = Df d 4 79 [l0, .int x] st h nx := e_4_78 nr_n
theorem e_4_78i : Df d 4 78 [l0, .int p] (.int x :: st) h nx = Df d 4 79 [l0, .int x] st h nx := e_4_78 (nr_i p)
theorem e_4_78r : Df d 4 78 [l0, .ref c] (.int x :: st) h nx = Df d 4 79 [l0, .int x] st h nx := e_4_78 (nr_r c)
theorem e_4_93i : Df d 4 93 [l0, l1] (.int p :: st) h nx = Df d 4 94 [l0, l1] (.int p :: .int p :: st) h nx := e_4_93 rfl
theorem e_4_93r : Df d 4 93 [l0, l1] (.ref c :: st) h nx = Df d 4 94 [l0, l1] (.ref c :: .ref c :: st) h nx := e_4_93 rfl
theorem e_5_28i : Df d 5 28 [l0, l1, l2, l3] (.int p :: st) h nx = Df d 5 29 [l0, l1, l2, l3] (.int p :: .int p :: st) h nx := e_5_28 rfl
theorem e_5_28r : Df d 5 28 [l0, l1, l2, l3] (.ref c :: st) h nx = Df d 5 29 [l0, l1, l2, l3] (.ref c :: .ref c :: st) h nx := e_5_28 rfl
theorem e_7_9n : Df d 7 9 [l0, l1, l2, .null, l4] (.int x :: st) h nx = Df d 7 10 [l0, l1, l2, .int x, l4] st h nx := e_7_9 nr_n
theorem e_7_9i : Df d 7 9 [l0, l1, l2, .int p, l4] (.int x :: st) h nx = Df d 7 10 [l0, l1, l2, .int x, l4] st h nx := e_7_9 (nr_i p)
theorem e_7_9r : Df d 7 9 [l0, l1, l2, .ref c, l4] (.int x :: st) h nx = Df d 7 10 [l0, l1, l2, .int x, l4] st h nx := e_7_9 (nr_r c)
theorem e_7_48n : Df d 7 48 [l0, l1, l2, l3, .null] (.int x :: st) h nx = Df d 7 50 [l0, l1, l2, l3, .int x] st h nx := e_7_48 nr_n
theorem e_7_48i : Df d 7 48 [l0, l1, l2, l3, .int p] (.int x :: st) h nx = Df d 7 50 [l0, l1, l2, l3, .int x] st h nx := e_7_48 (nr_i p)
theorem e_7_48r : Df d 7 48 [l0, l1, l2, l3, .ref c] (.int x :: st) h nx = Df d 7 50 [l0, l1, l2, l3, .int x] st h nx := e_7_48 (nr_r c)
theorem e_9_1n : Df d 9 1 [l0, .null] (.int x :: st) h nx = Df d 9 2 [l0, .int x] st h nx := e_9_1 nr_n
theorem e_9_1i : Df d 9 1 [l0, .int p] (.int x :: st) h nx = Df d 9 2 [l0, .int x] st h nx := e_9_1 (nr_i p)
theorem e_9_1r : Df d 9 1 [l0, .ref c] (.int x :: st) h nx = Df d 9 2 [l0, .int x] st h nx := e_9_1 (nr_r c)
theorem e_10_19n : Df d 10 19 [l0, l1, .null] (.int x :: st) h nx = Df d 10 20 [l0, l1, .int x] st h nx := e_10_19 nr_n
theorem e_10_19i : Df d 10 19 [l0, l1, .int p] (.int x :: st) h nx = Df d 10 20 [l0, l1, .int x] st h nx := e_10_19 (nr_i p)
theorem e_10_19r : Df d 10 19 [l0, l1, .ref c] (.int x :: st) h nx = Df d 10 20 [l0, l1, .int x] st h nx := e_10_19 (nr_r c)
theorem e_11_36n : Df d 11 36 [l0, l1, l2, .null] (.int x :: st) h nx = Df d 11 37 [l0, l1, l2, .int x] st h nx := e_11_36 nr_n
theorem e_11_36i : Df d 11 36 [l0, l1, l2, .int p] (.int x :: st) h nx = Df d 11 37 [l0, l1, l2, .int x] st h nx := e_11_36 (nr_i p)
theorem e_11_36r : Df d 11 36 [l0, l1, l2, .ref c] (.int x :: st) h nx = Df d 11 37 [l0, l1, l2, .int x] st h nx := e_11_36 (nr_r c)
theorem e_11_49n : Df d 11 49 [l0, l1, l2, .null] (.int x :: st) h nx = Df d 11 50 [l0, l1, l2, .int x] st h nx := e_11_49 nr_n
theorem e_11_49i : Df d 11 49 [l0, l1, l2, .int p] (.int x :: st) h nx = Df d 11 50 [l0, l1, l2, .int x] st h nx := e_11_49 (nr_i p)
theorem e_11_49r : Df d 11 49 [l0, l1, l2, .ref c] (.int x :: st) h nx = Df d 11 50 [l0, l1, l2, .int x] st h nx := e_11_49 (nr_r c)
theorem e_11_62n : Df d 11 62 [l0, l1, l2, .null] (.int x :: st) h nx = Df d 11 63 [l0, l1, l2, .int x] st h nx := e_11_62 nr_n
theorem e_11_62i : Df d 11 62 [l0, l1, l2, .int p] (.int x :: st) h nx = Df d 11 63 [l0, l1, l2, .int x] st h nx := e_11_62 (nr_i p)
theorem e_11_62r : Df d 11 62 [l0, l1, l2, .ref c] (.int x :: st) h nx = Df d 11 63 [l0, l1, l2, .int x] st h nx := e_11_62 (nr_r c)
theorem e_11_75n : Df d 11 75 [l0, l1, l2, .null] (.int x :: st) h nx = Df d 11 76 [l0, l1, l2, .int x] st h nx := e_11_75 nr_n
theorem e_11_75i : Df d 11 75 [l0, l1, l2, .int p] (.int x :: st) h nx = Df d 11 76 [l0, l1, l2, .int x] st h nx := e_11_75 (nr_i p)
theorem e_11_75r : Df d 11 75 [l0, l1, l2, .ref c] (.int x :: st) h nx = Df d 11 76 [l0, l1, l2, .int x] st h nx := e_11_75 (nr_r c)
theorem e_11_88n : Df d 11 88 [l0, l1, l2, .null] (.int x :: st) h nx = Df d 11 89 [l0, l1, l2, .int x] st h nx := e_11_88 nr_n
theorem e_11_88i : Df d 11 88 [l0, l1, l2, .int p] (.int x :: st) h nx = Df d 11 89 [l0, l1, l2, .int x] st h nx := e_11_88 (nr_i p)
theorem e_11_88r : Df d 11 88 [l0, l1, l2, .ref c] (.int x :: st) h nx = Df d 11 89 [l0, l1, l2, .int x] st h nx := e_11_88 (nr_r c)
theorem e_12_7n : Df d 12 7 [l0, .null, l2, l3] (.int x :: st) h nx = Df d 12 8 [l0, .int x, l2, l3] st h nx := e_12_7 nr_n
theorem e_12_7i : Df d 12 7 [l0, .int p, l2, l3] (.int x :: st) h nx = Df d 12 8 [l0, .int x, l2, l3] st h nx := e_12_7 (nr_i p)
theorem e_12_7r : Df d 12 7 [l0, .ref c, l2, l3] (.int x :: st) h nx = Df d 12 8 [l0, .int x, l2, l3] st h nx := e_12_7 (nr_r c)
theorem e_12_15n : Df d 12 15 [l0, l1, .null, l3] (.int x :: st) h nx = Df d 12 16 [l0, l1, .int x, l3] st h nx := e_12_15 nr_n
theorem e_12_15i : Df d 12 15 [l0, l1, .int p, l3] (.int x :: st) h nx = Df d 12 16 [l0, l1, .int x, l3] st h nx := e_12_15 (nr_i p)
theorem e_12_15r : Df d 12 15 [l0, l1, .ref c, l3] (.int x :: st) h nx = Df d 12 16 [l0, l1, .int x, l3] st h nx := e_12_15 (nr_r c)
theorem e_12_23n : Df d 12 23 [l0, l1, l2, .null] (.int x :: st) h nx = Df d 12 24 [l0, l1, l2, .int x] st h nx := e_12_23 nr_n
theorem e_12_23i : Df d 12 23 [l0, l1, l2, .int p] (.int x :: st) h nx = Df d 12 24 [l0, l1, l2, .int x] st h nx := e_12_23 (nr_i p)
theorem e_12_23r : Df d 12 23 [l0, l1, l2, .ref c] (.int x :: st) h nx = Df d 12 24 [l0, l1, l2, .int x] st h nx := e_12_23 (nr_r c)
theorem e_12_31i : Df d 12 31 [l0, l1, l2, l3] (.int p :: st) h nx = Df d 12 32 [l0, l1, l2, l3] st h nx := e_12_31 rfl
theorem e_14_41i : Df d 14 41 [l0, l1, l2] (.int p :: st) h nx = Df d 14 42 [l0, l1, l2] (.int p :: .int p :: st) h nx := e_14_41 rfl
theorem e_14_41r : Df d 14 41 [l0, l1, l2] (.ref c :: st) h nx = Df d 14 42 [l0, l1, l2] (.ref c :: .ref c :: st) h nx := e_14_41 rfl
theorem e_15_1n : Df d 15 1 [l0, .null, l2] (.int x :: st) h nx = Df d 15 2 [l0, .int x, l2] st h nx := e_15_1 nr_n
theorem e_15_1i : Df d 15 1 [l0, .int p, l2] (.int x :: st) h nx = Df d 15 2 [l0, .int x, l2] st h nx := e_15_1 (nr_i p)
theorem e_15_1r : Df d 15 1 [l0, .ref c, l2] (.int x :: st) h nx = Df d 15 2 [l0, .int x, l2] st h nx := e_15_1 (nr_r c)
theorem e_15_3n : Df d 15 3 [l0, l1, .null] (.int x :: st) h nx = Df d 15 4 [l0, l1, .int x] st h nx := e_15_3 nr_n
theorem e_15_3i : Df d 15 3 [l0, l1, .int p] (.int x :: st) h nx = Df d 15 4 [l0, l1, .int x] st h nx := e_15_3 (nr_i p)
theorem e_15_3r : Df d 15 3 [l0, l1, .ref c] (.int x :: st) h nx = Df d 15 4 [l0, l1, .int x] st h nx := e_15_3 (nr_r c)
theorem e_15_51n : Df d 15 51 [l0, .null, l2] (.int x :: st) h nx = Df d 15 52 [l0, .int x, l2] st h nx := e_15_51 nr_n
theorem e_15_51i : Df d 15 51 [l0, .int p, l2] (.int x :: st) h nx = Df d 15 52 [l0, .int x, l2] st h nx := e_15_51 (nr_i p)
theorem e_15_51r : Df d 15 51 [l0, .ref c, l2] (.int x :: st) h nx = Df d 15 52 [l0, .int x, l2] st h nx := e_15_51 (nr_r c)
theorem e_16_4n : Df d 16 4 [l0, .null, l2] (.int x :: st) h nx = Df d 16 5 [l0, .int x, l2] st h nx := e_16_4 nr_n
theorem e_16_4i : Df d 16 4 [l0, .int p, l2] (.int x :: st) h nx = Df d 16 5 [l0, .int x, l2] st h nx := e_16_4 (nr_i p)
theorem e_16_4r : Df d 16 4 [l0, .ref c, l2] (.int x :: st) h nx = Df d 16 5 [l0, .int x, l2] st h nx := e_16_4 (nr_r c)
theorem e_16_17i : Df d 16 17 [l0, l1, l2] (.int p :: st) h nx = Df d 16 18 [l0, l1, l2] (.int p :: .int p :: st) h nx := e_16_17 rfl
theorem e_16_17r : Df d 16 17 [l0, l1, l2] (.ref c :: st) h nx = Df d 16 18 [l0, l1, l2] (.ref c :: .ref c :: st) h nx := e_16_17 rfl
theorem e_16_36n : Df d 16 36 [l0, l1, .null] (.int x :: st) h nx = Df d 16 37 [l0, l1, .int x] st h nx := e_16_36 nr_n
theorem e_16_36i : Df d 16 36 [l0, l1, .int p] (.int x :: st) h nx = Df d 16 37 [l0, l1, .int x] st h nx := e_16_36 (nr_i p)
theorem e_16_36r : Df d 16 36 [l0, l1, .ref c] (.int x :: st) h nx = Df d 16 37 [l0, l1, .int x] st h nx := e_16_36 (nr_r c)
theorem e_16_53n : Df d 16 53 [l0, l1, .null] (.int x :: st) h nx = Df d 16 54 [l0, l1, .int x] st h nx := e_16_53 nr_n
theorem e_16_53i : Df d 16 53 [l0, l1, .int p] (.int x :: st) h nx = Df d 16 54 [l0, l1, .int x] st h nx := e_16_53 (nr_i p)
theorem e_16_53r : Df d 16 53 [l0, l1, .ref c] (.int x :: st) h nx = Df d 16 54 [l0, l1, .int x] st h nx := e_16_53 (nr_r c)
theorem e_16_55i : Df d 16 55 [l0, l1, l2] (.int p :: st) h nx = Df d 16 56 [l0, l1, l2] (.int p :: .int p :: st) h nx := e_16_55 rfl
theorem e_16_55r : Df d 16 55 [l0, l1, l2] (.ref c :: st) h nx = Df d 16 56 [l0, l1, l2] (.ref c :: .ref c :: st) h nx := e_16_55 rfl
theorem e_17_1n : Df d 17 1 [l0, .null] (.int x :: st) h nx = Df d 17 2 [l0, .int x] st h nx := e_17_1 nr_n
theorem e_17_1i : Df d 17 1 [l0, .int p] (.int x :: st) h nx = Df d 17 2 [l0, .int x] st h nx := e_17_1 (nr_i p)
theorem e_17_1r : Df d 17 1 [l0, .ref c] (.int x :: st) h nx = Df d 17 2 [l0, .int x] st h nx := e_17_1 (nr_r c)
theorem e_18_1n : Df d 18 1 [l0, l1, .null] (.int x :: st) h nx = Df d 18 2 [l0, l1, .int x] st h nx := e_18_1 nr_n
theorem e_18_1i : Df d 18 1 [l0, l1, .int p] (.int x :: st) h nx = Df d 18 2 [l0, l1, .int x] st h nx := e_18_1 (nr_i p)
theorem e_18_1r : Df d 18 1 [l0, l1, .ref c] (.int x :: st) h nx = Df d 18 2 [l0, l1, .int x] st h nx := e_18_1 (nr_r c)
theorem e_19_1n : Df d 19 1 [l0, .null, l2, l3] (.int x :: st) h nx = Df d 19 2 [l0, .int x, l2, l3] st h nx := e_19_1 nr_n
theorem e_19_1i : Df d 19 1 [l0, .int p, l2, l3] (.int x :: st) h nx = Df d 19 2 [l0, .int x, l2, l3] st h nx := e_19_1 (nr_i p)
theorem e_19_1r : Df d 19 1 [l0, .ref c, l2, l3] (.int x :: st) h nx = Df d 19 2 [l0, .int x, l2, l3] st h nx := e_19_1 (nr_r c)
theorem e_19_3n : Df d 19 3 [l0, l1, .null, l3] (.int x :: st) h nx = Df d 19 4 [l0, l1, .int x, l3] st h nx := e_19_3 nr_n
theorem e_19_3i : Df d 19 3 [l0, l1, .int p, l3] (.int x :: st) h nx = Df d 19 4 [l0, l1, .int x, l3] st h nx := e_19_3 (nr_i p)
theorem e_19_3r : Df d 19 3 [l0, l1, .ref c, l3] (.int x :: st) h nx = Df d 19 4 [l0, l1, .int x, l3] st h nx := e_19_3 (nr_r c)
theorem e_19_18n : Df d 19 18 [l0, l1, l2, .null] (.ref a :: st) h nx = Df d 19 19 [l0, l1, l2, .ref a] st h nx := e_19_18 nr_n
theorem e_19_18i : Df d 19 18 [l0, l1, l2, .int p] (.ref a :: st) h nx = Df d 19 19 [l0, l1, l2, .ref a] st h nx := e_19_18 (nr_i p)
theorem e_19_18r : Df d 19 18 [l0, l1, l2, .ref c] (.ref a :: st) h nx = Df d 19 19 [l0, l1, l2, .ref a] st h nx := e_19_18 (nr_r c)
theorem e_19_43i : Df d 19 43 [l0, l1, l2, l3] (.int p :: st) h nx = Df d 19 44 [l0, l1, l2, l3] (.int p :: .int p :: st) h nx := e_19_43 rfl
theorem e_19_43r : Df d 19 43 [l0, l1, l2, l3] (.ref c :: st) h nx = Df d 19 44 [l0, l1, l2, l3] (.ref c :: .ref c :: st) h nx := e_19_43 rfl
theorem e_19_58n : Df d 19 58 [l0, .null, l2, l3] (.int x :: st) h nx = Df d 19 59 [l0, .int x, l2, l3] st h nx := e_19_58 nr_n
theorem e_19_58i : Df d 19 58 [l0, .int p, l2, l3] (.int x :: st) h nx = Df d 19 59 [l0, .int x, l2, l3] st h nx := e_19_58 (nr_i p)
theorem e_19_58r : Df d 19 58 [l0, .ref c, l2, l3] (.int x :: st) h nx = Df d 19 59 [l0, .int x, l2, l3] st h nx := e_19_58 (nr_r c)
theorem e_19_74n : Df d 19 74 [l0, l1, .null, l3] (.int x :: st) h nx = Df d 19 75 [l0, l1, .int x, l3] st h nx := e_19_74 nr_n
theorem e_19_74i : Df d 19 74 [l0, l1, .int p, l3] (.int x :: st) h nx = Df d 19 75 [l0, l1, .int x, l3] st h nx := e_19_74 (nr_i p)
theorem e_19_74r : Df d 19 74 [l0, l1, .ref c, l3] (.int x :: st) h nx = Df d 19 75 [l0, l1, .int x, l3] st h nx := e_19_74 (nr_r c)
theorem e_20_1n : Df d 20 1 [l0, .null, l2] (.int x :: st) h nx = Df d 20 2 [l0, .int x, l2] st h nx := e_20_1 nr_n
theorem e_20_1i : Df d 20 1 [l0, .int p, l2] (.int x :: st) h nx = Df d 20 2 [l0, .int x, l2] st h nx := e_20_1 (nr_i p)
theorem e_20_1r : Df d 20 1 [l0, .ref c, l2] (.int x :: st) h nx = Df d 20 2 [l0, .int x, l2] st h nx := e_20_1 (nr_r c)
theorem e_20_3n : Df d 20 3 [l0, l1, .null] (.int x :: st) h nx = Df d 20 4 [l0, l1, .int x] st h nx := e_20_3 nr_n
theorem e_20_3i : Df d 20 3 [l0, l1, .int p] (.int x :: st) h nx = Df d 20 4 [l0, l1, .int x] st h nx := e_20_3 (nr_i p)
theorem e_20_3r : Df d 20 3 [l0, l1, .ref c] (.int x :: st) h nx = Df d 20 4 [l0, l1, .int x] st h nx := e_20_3 (nr_r c)
theorem e_20_33n : Df d 20 33 [l0, .null, l2] (.int x :: st) h nx = Df d 20 34 [l0, .int x, l2] st h nx := e_20_33 nr_n
theorem e_20_33i : Df d 20 33 [l0, .int p, l2] (.int x :: st) h nx = Df d 20 34 [l0, .int x, l2] st h nx := e_20_33 (nr_i p)
theorem e_20_33r : Df d 20 33 [l0, .ref c, l2] (.int x :: st) h nx = Df d 20 34 [l0, .int x, l2] st h nx := e_20_33 (nr_r c)
theorem e_21_1n : Df d 21 1 [l0, .null, l2] (.int x :: st) h nx = Df d 21 2 [l0, .int x, l2] st h nx := e_21_1 nr_n
theorem e_21_1i : Df d 21 1 [l0, .int p, l2] (.int x :: st) h nx = Df d 21 2 [l0, .int x, l2] st h nx := e_21_1 (nr_i p)
theorem e_21_1r : Df d 21 1 [l0, .ref c, l2] (.int x :: st) h nx = Df d 21 2 [l0, .int x, l2] st h nx := e_21_1 (nr_r c)
theorem e_21_3n : Df d 21 3 [l0, l1, .null] (.int x :: st) h nx = Df d 21 4 [l0, l1, .int x] st h nx := e_21_3 nr_n
theorem e_21_3i : Df d 21 3 [l0, l1, .int p] (.int x :: st) h nx = Df d 21 4 [l0, l1, .int x] st h nx := e_21_3 (nr_i p)
theorem e_21_3r : Df d 21 3 [l0, l1, .ref c] (.int x :: st) h nx = Df d 21 4 [l0, l1, .int x] st h nx := e_21_3 (nr_r c)
theorem e_21_39n : Df d 21 39 [l0, .null, l2] (.int x :: st) h nx = Df d 21 40 [l0, .int x, l2] st h nx := e_21_39 nr_n
theorem e_21_39i : Df d 21 39 [l0, .int p, l2] (.int x :: st) h nx = Df d 21 40 [l0, .int x, l2] st h nx := e_21_39 (nr_i p)
theorem e_21_39r : Df d 21 39 [l0, .ref c, l2] (.int x :: st) h nx = Df d 21 40 [l0, .int x, l2] st h nx := e_21_39 (nr_r c)
theorem e_22_1n : Df d 22 1 [l0, .null, l2] (.int x :: st) h nx = Df d 22 2 [l0, .int x, l2] st h nx := e_22_1 nr_n
theorem e_22_1i : Df d 22 1 [l0, .int p, l2] (.int x :: st) h nx = Df d 22 2 [l0, .int x, l2] st h nx := e_22_1 (nr_i p)
theorem e_22_1r : Df d 22 1 [l0, .ref c, l2] (.int x :: st) h nx = Df d 22 2 [l0, .int x, l2] st h nx := e_22_1 (nr_r c)
theorem e_22_3n : Df d 22 3 [l0, l1, .null] (.int x :: st) h nx = Df d 22 4 [l0, l1, .int x] st h nx := e_22_3 nr_n
theorem e_22_3i : Df d 22 3 [l0, l1, .int p] (.int x :: st) h nx = Df d 22 4 [l0, l1, .int x] st h nx := e_22_3 (nr_i p)
theorem e_22_3r : Df d 22 3 [l0, l1, .ref c] (.int x :: st) h nx = Df d 22 4 [l0, l1, .int x] st h nx := e_22_3 (nr_r c)
theorem e_22_28n : Df d 22 28 [l0, .null, l2] (.int x :: st) h nx = Df d 22 29 [l0, .int x, l2] st h nx := e_22_28 nr_n
theorem e_22_28i : Df d 22 28 [l0, .int p, l2] (.int x :: st) h nx = Df d 22 29 [l0, .int x, l2] st h nx := e_22_28 (nr_i p)
theorem e_22_28r : Df d 22 28 [l0, .ref c, l2] (.int x :: st) h nx = Df d 22 29 [l0, .int x, l2] st h nx := e_22_28 (nr_r c)
theorem e_23_16n : Df d 23 16 [l0, l1, .null] (.int x :: st) h nx = Df d 23 17 [l0, l1, .int x] st h nx := e_23_16 nr_n
theorem e_23_16i : Df d 23 16 [l0, l1, .int p] (.int x :: st) h nx = Df d 23 17 [l0, l1, .int x] st h nx := e_23_16 (nr_i p)
theorem e_23_16r : Df d 23 16 [l0, l1, .ref c] (.int x :: st) h nx = Df d 23 17 [l0, l1, .int x] st h nx := e_23_16 (nr_r c)
theorem e_25_1n : Df d 25 1 [l0, l1, .null] (.int x :: st) h nx = Df d 25 2 [l0, l1, .int x] st h nx := e_25_1 nr_n
theorem e_25_1i : Df d 25 1 [l0, l1, .int p] (.int x :: st) h nx = Df d 25 2 [l0, l1, .int x] st h nx := e_25_1 (nr_i p)
theorem e_25_1r : Df d 25 1 [l0, l1, .ref c] (.int x :: st) h nx = Df d 25 2 [l0, l1, .int x] st h nx := e_25_1 (nr_r c)
theorem e_28_6i : Df d 28 6 [l0, l1] (.int p :: st) h nx = Df d 28 7 [l0, l1] (.int p :: .int p :: st) h nx := e_28_6 rfl
theorem e_28_6r : Df d 28 6 [l0, l1] (.ref c :: st) h nx = Df d 28 7 [l0, l1] (.ref c :: .ref c :: st) h nx := e_28_6 rfl
theorem e_29_20i : Df d 29 20 [l0, l1] (.int p :: st) h nx = Df d 29 21 [l0, l1] (.int p :: .int p :: st) h nx := e_29_20 rfl
theorem e_29_20r : Df d 29 20 [l0, l1] (.ref c :: st) h nx = Df d 29 21 [l0, l1] (.ref c :: .ref c :: st) h nx := e_29_20 rfl
theorem e_32_22n : Df d 32 22 [l0, .null] (.int x :: st) h nx = Df d 32 23 [l0, .int x] st h nx := e_32_22 nr_n
theorem e_32_22i : Df d 32 22 [l0, .int p] (.int x :: st) h nx = Df d 32 23 [l0, .int x] st h nx := e_32_22 (nr_i p)
theorem e_32_22r : Df d 32 22 [l0, .ref c] (.int x :: st) h nx = Df d 32 23 [l0, .int x] st h nx := e_32_22 (nr_r c)
theorem e_32_37i : Df d 32 37 [l0, l1] (.int p :: st) h nx = Df d 32 38 [l0, l1] (.int p :: .int p :: st) h nx := e_32_37 rfl
theorem e_32_37r : Df d 32 37 [l0, l1] (.ref c :: st) h nx = Df d 32 38 [l0, l1] (.ref c :: .ref c :: st) h nx := e_32_37 rfl
theorem e_33_8n : Df d 33 8 [l0, l1, l2, .null] (.int x :: st) h nx = Df d 33 9 [l0, l1, l2, .int x] st h nx := e_33_8 nr_n
theorem e_33_8i : Df d 33 8 [l0, l1, l2, .int p] (.int x :: st) h nx = Df d 33 9 [l0, l1, l2, .int x] st h nx := e_33_8 (nr_i p)
theorem e_33_8r : Df d 33 8 [l0, l1, l2, .ref c] (.int x :: st) h nx = Df d 33 9 [l0, l1, l2, .int x] st h nx := e_33_8 (nr_r c)
theorem e_34_18n : Df d 34 18 [l0, l1, l2, l3, l4, .null, l6, l7, l8] (.ref a :: st) h nx = Df d 34 20 [l0, l1, l2, l3, l4, .ref a, l6, l7, l8] st h nx := e_34_18 nr_n
theorem e_34_18i : Df d 34 18 [l0, l1, l2, l3, l4, .int p, l6, l7, l8] (.ref a :: st) h nx = Df d 34 20 [l0, l1, l2, l3, l4, .ref a, l6, l7, l8] st h nx := e_34_18 (nr_i p)
theorem e_34_18r : Df d 34 18 [l0, l1, l2, l3, l4, .ref c, l6, l7, l8] (.ref a :: st) h nx = Df d 34 20 [l0, l1, l2, l3, l4, .ref a, l6, l7, l8] st h nx := e_34_18 (nr_r c)
theorem e_34_21n : Df d 34 21 [l0, l1, l2, l3, l4, l5, .null, l7, l8] (.int x :: st) h nx = Df d 34 23 [l0, l1, l2, l3, l4, l5, .int x, l7, l8] st h nx := e_34_21 nr_n
theorem e_34_21i : Df d 34 21 [l0, l1, l2, l3, l4, l5, .int p, l7, l8] (.int x :: st) h nx = Df d 34 23 [l0, l1, l2, l3, l4, l5, .int x, l7, l8] st h nx := e_34_21 (nr_i p)
theorem e_34_21r : Df d 34 21 [l0, l1, l2, l3, l4, l5, .ref c, l7, l8] (.int x :: st) h nx = Df d 34 23 [l0, l1, l2, l3, l4, l5, .int x, l7, l8] st h nx := e_34_21 (nr_r c)
theorem e_34_24n : Df d 34 24 [l0, l1, l2, l3, l4, l5, l6, .null, l8] (.int x :: st) h nx = Df d 34 26 [l0, l1, l2, l3, l4, l5, l6, .int x, l8] st h nx := e_34_24 nr_n
theorem e_34_24i : Df d 34 24 [l0, l1, l2, l3, l4, l5, l6, .int p, l8] (.int x :: st) h nx = Df d 34 26 [l0, l1, l2, l3, l4, l5, l6, .int x, l8] st h nx := e_34_24 (nr_i p)
theorem e_34_24r : Df d 34 24 [l0, l1, l2, l3, l4, l5, l6, .ref c, l8] (.int x :: st) h nx = Df d 34 26 [l0, l1, l2, l3, l4, l5, l6, .int x, l8] st h nx := e_34_24 (nr_r c)
theorem e_34_51n : Df d 34 51 [l0, l1, l2, l3, l4, l5, l6, l7, .null] (.int x :: st) h nx = Df d 34 53 [l0, l1, l2, l3, l4, l5, l6, l7, .int x] st h nx := e_34_51 nr_n
theorem e_34_51i : Df d 34 51 [l0, l1, l2, l3, l4, l5, l6, l7, .int p] (.int x :: st) h nx = Df d 34 53 [l0, l1, l2, l3, l4, l5, l6, l7, .int x] st h nx := e_34_51 (nr_i p)
theorem e_34_51r : Df d 34 51 [l0, l1, l2, l3, l4, l5, l6, l7, .ref c] (.int x :: st) h nx = Df d 34 53 [l0, l1, l2, l3, l4, l5, l6, l7, .int x] st h nx := e_34_51 (nr_r c)
theorem e_37_8i : Df d 37 8 [l0] (.int p :: st) h nx = Df d 37 9 [l0] (.int p :: .int p :: st) h nx := e_37_8 rfl
theorem e_37_8r : Df d 37 8 [l0] (.ref c :: st) h nx = Df d 37 9 [l0] (.ref c :: .ref c :: st) h nx := e_37_8 rfl
theorem e_38_2n : Df d 38 2 [l0, l1, .null] (.int x :: st) h nx = Df d 38 3 [l0, l1, .int x] st h nx := e_38_2 nr_n
theorem e_38_2i : Df d 38 2 [l0, l1, .int p] (.int x :: st) h nx = Df d 38 3 [l0, l1, .int x] st h nx := e_38_2 (nr_i p)
theorem e_38_2r : Df d 38 2 [l0, l1, .ref c] (.int x :: st) h nx = Df d 38 3 [l0, l1, .int x] st h nx := e_38_2 (nr_r c)
theorem e_38_33i : Df d 38 33 [l0, l1, l2] (.int p :: st) h nx = Df d 38 34 [l0, l1, l2] (.int p :: .int p :: st) h nx := e_38_33 rfl
theorem e_38_33r : Df d 38 33 [l0, l1, l2] (.ref c :: st) h nx = Df d 38 34 [l0, l1, l2] (.ref c :: .ref c :: st) h nx := e_38_33 rfl
theorem e_40_4n : Df d 40 4 [l0, .null, l2] (.int x :: st) h nx = Df d 40 5 [l0, .int x, l2] st h nx := e_40_4 nr_n
theorem e_40_4i : Df d 40 4 [l0, .int p, l2] (.int x :: st) h nx = Df d 40 5 [l0, .int x, l2] st h nx := e_40_4 (nr_i p)
theorem e_40_4r : Df d 40 4 [l0, .ref c, l2] (.int x :: st) h nx = Df d 40 5 [l0, .int x, l2] st h nx := e_40_4 (nr_r c)
theorem e_40_9n : Df d 40 9 [l0, l1, .null] (.int x :: st) h nx = Df d 40 10 [l0, l1, .int x] st h nx := e_40_9 nr_n
theorem e_40_9i : Df d 40 9 [l0, l1, .int p] (.int x :: st) h nx = Df d 40 10 [l0, l1, .int x] st h nx := e_40_9 (nr_i p)
theorem e_40_9r : Df d 40 9 [l0, l1, .ref c] (.int x :: st) h nx = Df d 40 10 [l0, l1, .int x] st h nx := e_40_9 (nr_r c)
theorem e_42_1n : Df d 42 1 [l0, l1, l2, l3, .null] (.int x :: st) h nx = Df d 42 3 [l0, l1, l2, l3, .int x] st h nx := e_42_1 nr_n
theorem e_42_1i : Df d 42 1 [l0, l1, l2, l3, .int p] (.int x :: st) h nx = Df d 42 3 [l0, l1, l2, l3, .int x] st h nx := e_42_1 (nr_i p)
theorem e_42_1r : Df d 42 1 [l0, l1, l2, l3, .ref c] (.int x :: st) h nx = Df d 42 3 [l0, l1, l2, l3, .int x] st h nx := e_42_1 (nr_r c)
theorem e_44_13n : Df d 44 13 [l0, .null] (.int x :: st) h nx = Df d 44 14 [l0, .int x] st h nx := e_44_13 nr_n
theorem e_44_13i : Df d 44 13 [l0, .int p] (.int x :: st) h nx = Df d 44 14 [l0, .int x] st h nx := e_44_13 (nr_i p)
theorem e_44_13r : Df d 44 13 [l0, .ref c] (.int x :: st) h nx = Df d 44 14 [l0, .int x] st h nx := e_44_13 (nr_r c)
theorem e_46_19n : Df d 46 19 [l0, l1, .null] (.int x :: st) h nx = Df d 46 20 [l0, l1, .int x] st h nx := e_46_19 nr_n
theorem e_46_19i : Df d 46 19 [l0, l1, .int p] (.int x :: st) h nx = Df d 46 20 [l0, l1, .int x] st h nx := e_46_19 (nr_i p)
theorem e_46_19r : Df d 46 19 [l0, l1, .ref c] (.int x :: st) h nx = Df d 46 20 [l0, l1, .int x] st h nx := e_46_19 (nr_r c)
theorem e_47_37n : Df d 47 37 [l0, l1, l2, l3, .null, l5, l6] (.int x :: st) h nx = Df d 47 39 [l0, l1, l2, l3, .int x, l5, l6] st h nx := e_47_37 nr_n
theorem e_47_37i : Df d 47 37 [l0, l1, l2, l3, .int p, l5, l6] (.int x :: st) h nx = Df d 47 39 [l0, l1, l2, l3, .int x, l5, l6] st h nx := e_47_37 (nr_i p)
theorem e_47_37r : Df d 47 37 [l0, l1, l2, l3, .ref c, l5, l6] (.int x :: st) h nx = Df d 47 39 [l0, l1, l2, l3, .int x, l5, l6] st h nx := e_47_37 (nr_r c)
theorem e_47_40n : Df d 47 40 [l0, l1, l2, l3, l4, .null, l6] (.int x :: st) h nx = Df d 47 42 [l0, l1, l2, l3, l4, .int x, l6] st h nx := e_47_40 nr_n
theorem e_47_40i : Df d 47 40 [l0, l1, l2, l3, l4, .int p, l6] (.int x :: st) h nx = Df d 47 42 [l0, l1, l2, l3, l4, .int x, l6] st h nx := e_47_40 (nr_i p)
theorem e_47_40r : Df d 47 40 [l0, l1, l2, l3, l4, .ref c, l6] (.int x :: st) h nx = Df d 47 42 [l0, l1, l2, l3, l4, .int x, l6] st h nx := e_47_40 (nr_r c)
theorem e_47_64n : Df d 47 64 [l0, l1, l2, l3, l4, l5, .null] (.int x :: st) h nx = Df d 47 66 [l0, l1, l2, l3, l4, l5, .int x] st h nx := e_47_64 nr_n
theorem e_47_64i : Df d 47 64 [l0, l1, l2, l3, l4, l5, .int p] (.int x :: st) h nx = Df d 47 66 [l0, l1, l2, l3, l4, l5, .int x] st h nx := e_47_64 (nr_i p)
theorem e_47_64r : Df d 47 64 [l0, l1, l2, l3, l4, l5, .ref c] (.int x :: st) h nx = Df d 47 66 [l0, l1, l2, l3, l4, l5, .int x] st h nx := e_47_64 (nr_r c)
theorem e_49_16n : Df d 49 16 [l0, .null, l2] (.int x :: st) h nx = Df d 49 17 [l0, .int x, l2] st h nx := e_49_16 nr_n
theorem e_49_16i : Df d 49 16 [l0, .int p, l2] (.int x :: st) h nx = Df d 49 17 [l0, .int x, l2] st h nx := e_49_16 (nr_i p)
theorem e_49_16r : Df d 49 16 [l0, .ref c, l2] (.int x :: st) h nx = Df d 49 17 [l0, .int x, l2] st h nx := e_49_16 (nr_r c)
theorem e_49_21n : Df d 49 21 [l0, l1, .null] (.int x :: st) h nx = Df d 49 22 [l0, l1, .int x] st h nx := e_49_21 nr_n
theorem e_49_21i : Df d 49 21 [l0, l1, .int p] (.int x :: st) h nx = Df d 49 22 [l0, l1, .int x] st h nx := e_49_21 (nr_i p)
theorem e_49_21r : Df d 49 21 [l0, l1, .ref c] (.int x :: st) h nx = Df d 49 22 [l0, l1, .int x] st h nx := e_49_21 (nr_r c)
theorem e_49_50n : Df d 49 50 [l0, .null, l2] (.int x :: st) h nx = Df d 49 51 [l0, .int x, l2] st h nx := e_49_50 nr_n
theorem e_49_50i : Df d 49 50 [l0, .int p, l2] (.int x :: st) h nx = Df d 49 51 [l0, .int x, l2] st h nx := e_49_50 (nr_i p)
theorem e_49_50r : Df d 49 50 [l0, .ref c, l2] (.int x :: st) h nx = Df d 49 51 [l0, .int x, l2] st h nx := e_49_50 (nr_r c)
theorem e_50_10n : Df d 50 10 [l0, .null, l2] (.ref a :: st) h nx = Df d 50 11 [l0, .ref a, l2] st h nx := e_50_10 nr_n
theorem e_50_10i : Df d 50 10 [l0, .int p, l2] (.ref a :: st) h nx = Df d 50 11 [l0, .ref a, l2] st h nx := e_50_10 (nr_i p)
theorem e_50_10r : Df d 50 10 [l0, .ref c, l2] (.ref a :: st) h nx = Df d 50 11 [l0, .ref a, l2] st h nx := e_50_10 (nr_r c)
theorem e_50_12n : Df d 50 12 [l0, l1, .null] (.int x :: st) h nx = Df d 50 13 [l0, l1, .int x] st h nx := e_50_12 nr_n
theorem e_50_12i : Df d 50 12 [l0, l1, .int p] (.int x :: st) h nx = Df d 50 13 [l0, l1, .int x] st h nx := e_50_12 (nr_i p)
theorem e_50_12r : Df d 50 12 [l0, l1, .ref c] (.int x :: st) h nx = Df d 50 13 [l0, l1, .int x] st h nx := e_50_12 (nr_r c)
theorem e_58_11n : Df d 58 11 [l0, l1, l2, .null] (.int x :: st) h nx = Df d 58 12 [l0, l1, l2, .int x] st h nx := e_58_11 nr_n
theorem e_58_11i : Df d 58 11 [l0, l1, l2, .int p] (.int x :: st) h nx = Df d 58 12 [l0, l1, l2, .int x] st h nx := e_58_11 (nr_i p)
theorem e_58_11r : Df d 58 11 [l0, l1, l2, .ref c] (.int x :: st) h nx = Df d 58 12 [l0, l1, l2, .int x] st h nx := e_58_11 (nr_r c)
theorem e_61_8i : Df d 61 8 [l0] (.int p :: st) h nx = Df d 61 9 [l0] (.int p :: .int p :: st) h nx := e_61_8 rfl
theorem e_61_8r : Df d 61 8 [l0] (.ref c :: st) h nx = Df d 61 9 [l0] (.ref c :: .ref c :: st) h nx := e_61_8 rfl
theorem e_61_19i : Df d 61 19 [l0] (.int p :: st) h nx = Df d 61 20 [l0] (.int p :: .int p :: st) h nx := e_61_19 rfl
theorem e_61_19r : Df d 61 19 [l0] (.ref c :: st) h nx = Df d 61 20 [l0] (.ref c :: .ref c :: st) h nx := e_61_19 rfl
theorem e_67_1n : Df d 67 1 [l0, l1, .null, l3] (.int x :: st) h nx = Df d 67 2 [l0, l1, .int x, l3] st h nx := e_67_1 nr_n
theorem e_67_1i : Df d 67 1 [l0, l1, .int p, l3] (.int x :: st) h nx = Df d 67 2 [l0, l1, .int x, l3] st h nx := e_67_1 (nr_i p)
theorem e_67_1r : Df d 67 1 [l0, l1, .ref c, l3] (.int x :: st) h nx = Df d 67 2 [l0, l1, .int x, l3] st h nx := e_67_1 (nr_r c)
theorem e_67_3n : Df d 67 3 [l0, l1, l2, .null] (.int x :: st) h nx = Df d 67 4 [l0, l1, l2, .int x] st h nx := e_67_3 nr_n
theorem e_67_3i : Df d 67 3 [l0, l1, l2, .int p] (.int x :: st) h nx = Df d 67 4 [l0, l1, l2, .int x] st h nx := e_67_3 (nr_i p)
theorem e_67_3r : Df d 67 3 [l0, l1, l2, .ref c] (.int x :: st) h nx = Df d 67 4 [l0, l1, l2, .int x] st h nx := e_67_3 (nr_r c)
theorem e_67_49n : Df d 67 49 [l0, l1, l2, .null] (.int x :: st) h nx = Df d 67 50 [l0, l1, l2, .int x] st h nx := e_67_49 nr_n
theorem e_67_49i : Df d 67 49 [l0, l1, l2, .int p] (.int x :: st) h nx = Df d 67 50 [l0, l1, l2, .int x] st h nx := e_67_49 (nr_i p)
theorem e_67_49r : Df d 67 49 [l0, l1, l2, .ref c] (.int x :: st) h nx = Df d 67 50 [l0, l1, l2, .int x] st h nx := e_67_49 (nr_r c)
theorem e_67_51i : Df d 67 51 [l0, l1, l2, l3] (.int p :: st) h nx = Df d 67 52 [l0, l1, l2, l3] (.int p :: .int p :: st) h nx := e_67_51 rfl
theorem e_67_51r : Df d 67 51 [l0, l1, l2, l3] (.ref c :: st) h nx = Df d 67 52 [l0, l1, l2, l3] (.ref c :: .ref c :: st) h nx := e_67_51 rfl
theorem e_69_32n : Df d 69 32 [l0, l1, l2, .null, l4] (.int x :: st) h nx = Df d 69 33 [l0, l1, l2, .int x, l4] st h nx := e_69_32 nr_n
theorem e_69_32i : Df d 69 32 [l0, l1, l2, .int p, l4] (.int x :: st) h nx = Df d 69 33 [l0, l1, l2, .int x, l4] st h nx := e_69_32 (nr_i p)
theorem e_69_32r : Df d 69 32 [l0, l1, l2, .ref c, l4] (.int x :: st) h nx = Df d 69 33 [l0, l1, l2, .int x, l4] st h nx := e_69_32 (nr_r c)
theorem e_69_34n : Df d 69 34 [l0, l1, l2, l3, .null] (.int x :: st) h nx = Df d 69 36 [l0, l1, l2, l3, .int x] st h nx := e_69_34 nr_n
theorem e_69_34i : Df d 69 34 [l0, l1, l2, l3, .int p] (.int x :: st) h nx = Df d 69 36 [l0, l1, l2, l3, .int x] st h nx := e_69_34 (nr_i p)
theorem e_69_34r : Df d 69 34 [l0, l1, l2, l3, .ref c] (.int x :: st) h nx = Df d 69 36 [l0, l1, l2, l3, .int x] st h nx := e_69_34 (nr_r c)
theorem e_69_53i : Df d 69 53 [l0, l1, l2, l3, l4] (.int p :: st) h nx = Df d 69 54 [l0, l1, l2, l3, l4] (.int p :: .int p :: st) h nx := e_69_53 rfl
theorem e_69_53r : Df d 69 53 [l0, l1, l2, l3, l4] (.ref c :: st) h nx = Df d 69 54 [l0, l1, l2, l3, l4] (.ref c :: .ref c :: st) h nx := e_69_53 rfl
theorem e_71_8i : Df d 71 8 [l0, l1] (.int p :: st) h nx = Df d 71 9 [l0, l1] (.int p :: .int p :: st) h nx := e_71_8 rfl
theorem e_71_8r : Df d 71 8 [l0, l1] (.ref c :: st) h nx = Df d 71 9 [l0, l1] (.ref c :: .ref c :: st) h nx := e_71_8 rfl
theorem e_71_19i : Df d 71 19 [l0, l1] (.int p :: st) h nx = Df d 71 20 [l0, l1] (.int p :: .int p :: st) h nx := e_71_19 rfl
theorem e_71_19r : Df d 71 19 [l0, l1] (.ref c :: st) h nx = Df d 71 20 [l0, l1] (.ref c :: .ref c :: st) h nx := e_71_19 rfl
theorem e_71_30i : Df d 71 30 [l0, l1] (.int p :: st) h nx = Df d 71 31 [l0, l1] (.int p :: .int p :: st) h nx := e_71_30 rfl
theorem e_71_30r : Df d 71 30 [l0, l1] (.ref c :: st) h nx = Df d 71 31 [l0, l1] (.ref c :: .ref c :: st) h nx := e_71_30 rfl
theorem e_71_41i : Df d 71 41 [l0, l1] (.int p :: st) h nx = Df d 71 42 [l0, l1] (.int p :: .int p :: st) h nx := e_71_41 rfl
theorem e_71_41r : Df d 71 41 [l0, l1] (.ref c :: st) h nx = Df d 71 42 [l0, l1] (.ref c :: .ref c :: st) h nx := e_71_41 rfl
theorem e_71_52i : Df d 71 52 [l0, l1] (.int p :: st) h nx = Df d 71 53 [l0, l1] (.int p :: .int p :: st) h nx := e_71_52 rfl
theorem e_71_52r : Df d 71 52 [l0, l1] (.ref c :: st) h nx = Df d 71 53 [l0, l1] (.ref c :: .ref c :: st) h nx := e_71_52 rfl
theorem e_71_63i : Df d 71 63 [l0, l1] (.int p :: st) h nx = Df d 71 64 [l0, l1] (.int p :: .int p :: st) h nx := e_71_63 rfl
theorem e_71_63r : Df d 71 63 [l0, l1] (.ref c :: st) h nx = Df d 71 64 [l0, l1] (.ref c :: .ref c :: st) h nx := e_71_63 rfl
theorem e_71_105n : Df d 71 105 [l0, .null] (.int x :: st) h nx = Df d 71 106 [l0, .int x] st h nx := e_71_105 nr_n
theorem e_71_105i : Df d 71 105 [l0, .int p] (.int x :: st) h nx = Df d 71 106 [l0, .int x] st h nx := e_71_105 (nr_i p)
theorem e_71_105r : Df d 71 105 [l0, .ref c] (.int x :: st) h nx = Df d 71 106 [l0, .int x] st h nx := e_71_105 (nr_r c)
theorem e_71_119i : Df d 71 119 [l0, l1] (.int p :: st) h nx = Df d 71 120 [l0, l1] (.int p :: .int p :: st) h nx := e_71_119 rfl
theorem e_71_119r : Df d 71 119 [l0, l1] (.ref c :: st) h nx = Df d 71 120 [l0, l1] (.ref c :: .ref c :: st) h nx := e_71_119 rfl
theorem e_71_131n : Df d 71 131 [l0, .null] (.int x :: st) h nx = Df d 71 132 [l0, .int x] st h nx := e_71_131 nr_n
theorem e_71_131i : Df d 71 131 [l0, .int p] (.int x :: st) h nx = Df d 71 132 [l0, .int x] st h nx := e_71_131 (nr_i p)
theorem e_71_131r : Df d 71 131 [l0, .ref c] (.int x :: st) h nx = Df d 71 132 [l0, .int x] st h nx := e_71_131 (nr_r c)
theorem e_71_145i : Df d 71 145 [l0, l1] (.int p :: st) h nx = Df d 71 146 [l0, l1] (.int p :: .int p :: st) h nx := e_71_145 rfl
theorem e_71_145r : Df d 71 145 [l0, l1] (.ref c :: st) h nx = Df d 71 146 [l0, l1] (.ref c :: .ref c :: st) h nx := e_71_145 rfl
theorem e_75_23n : Df d 75 23 [l0, l1, l2, .null] (.ref a :: st) h nx = Df d 75 24 [l0, l1, l2, .ref a] st h nx := e_75_23 nr_n
theorem e_75_23i : Df d 75 23 [l0, l1, l2, .int p] (.ref a :: st) h nx = Df d 75 24 [l0, l1, l2, .ref a] st h nx := e_75_23 (nr_i p)
theorem e_75_23r : Df d 75 23 [l0, l1, l2, .ref c] (.ref a :: st) h nx = Df d 75 24 [l0, l1, l2, .ref a] st h nx := e_75_23 (nr_r c)
theorem e_77_30n : Df d 77 30 [l0, l1, l2, .null] (.ref a :: st) h nx = Df d 77 31 [l0, l1, l2, .ref a] st h nx := e_77_30 nr_n
theorem e_77_30i : Df d 77 30 [l0, l1, l2, .int p] (.ref a :: st) h nx = Df d 77 31 [l0, l1, l2, .ref a] st h nx := e_77_30 (nr_i p)
theorem e_77_30r : Df d 77 30 [l0, l1, l2, .ref c] (.ref a :: st) h nx = Df d 77 31 [l0, l1, l2, .ref a] st h nx := e_77_30 (nr_r c)
theorem e_78_30n : Df d 78 30 [l0, l1, l2, .null, l4] (.ref a :: st) h nx = Df d 78 31 [l0, l1, l2, .ref a, l4] st h nx := e_78_30 nr_n
theorem e_78_30i : Df d 78 30 [l0, l1, l2, .int p, l4] (.ref a :: st) h nx = Df d 78 31 [l0, l1, l2, .ref a, l4] st h nx := e_78_30 (nr_i p)
theorem e_78_30r : Df d 78 30 [l0, l1, l2, .ref c, l4] (.ref a :: st) h nx = Df d 78 31 [l0, l1, l2, .ref a, l4] st h nx := e_78_30 (nr_r c)
theorem e_78_35n : Df d 78 35 [l0, l1, l2, l3, .null] (.int x :: st) h nx = Df d 78 37 [l0, l1, l2, l3, .int x] st h nx := e_78_35 nr_n
theorem e_78_35i : Df d 78 35 [l0, l1, l2, l3, .int p] (.int x :: st) h nx = Df d 78 37 [l0, l1, l2, l3, .int x] st h nx := e_78_35 (nr_i p)
theorem e_78_35r : Df d 78 35 [l0, l1, l2, l3, .ref c] (.int x :: st) h nx = Df d 78 37 [l0, l1, l2, l3, .int x] st h nx := e_78_35 (nr_r c)
theorem e_79_50n : Df d 79 50 [l0, l1, l2, l3, .null, l5] (.ref a :: st) h nx = Df d 79 52 [l0, l1, l2, l3, .ref a, l5] st h nx := e_79_50 nr_n
theorem e_79_50i : Df d 79 50 [l0, l1, l2, l3, .int p, l5] (.ref a :: st) h nx = Df d 79 52 [l0, l1, l2, l3, .ref a, l5] st h nx := e_79_50 (nr_i p)
theorem e_79_50r : Df d 79 50 [l0, l1, l2, l3, .ref c, l5] (.ref a :: st) h nx = Df d 79 52 [l0, l1, l2, l3, .ref a, l5] st h nx := e_79_50 (nr_r c)
theorem e_79_62n : Df d 79 62 [l0, l1, l2, l3, l4, .null] (.int x :: st) h nx = Df d 79 64 [l0, l1, l2, l3, l4, .int x] st h nx := e_79_62 nr_n
theorem e_79_62i : Df d 79 62 [l0, l1, l2, l3, l4, .int p] (.int x :: st) h nx = Df d 79 64 [l0, l1, l2, l3, l4, .int x] st h nx := e_79_62 (nr_i p)
theorem e_79_62r : Df d 79 62 [l0, l1, l2, l3, l4, .ref c] (.int x :: st) h nx = Df d 79 64 [l0, l1, l2, l3, l4, .int x] st h nx := e_79_62 (nr_r c)
theorem e_79_83n : Df d 79 83 [l0, l1, l2, l3, l4, .null] (.int x :: st) h nx = Df d 79 85 [l0, l1, l2, l3, l4, .int x] st h nx := e_79_83 nr_n
theorem e_79_83i : Df d 79 83 [l0, l1, l2, l3, l4, .int p] (.int x :: st) h nx = Df d 79 85 [l0, l1, l2, l3, l4, .int x] st h nx := e_79_83 (nr_i p)
theorem e_79_83r : Df d 79 83 [l0, l1, l2, l3, l4, .ref c] (.int x :: st) h nx = Df d 79 85 [l0, l1, l2, l3, l4, .int x] st h nx := e_79_83 (nr_r c)
theorem e_79_99n : Df d 79 99 [l0, l1, l2, l3, l4, .null] (.int x :: st) h nx = Df d 79 101 [l0, l1, l2, l3, l4, .int x] st h nx := e_79_99 nr_n
theorem e_79_99i : Df d 79 99 [l0, l1, l2, l3, l4, .int p] (.int x :: st) h nx = Df d 79 101 [l0, l1, l2, l3, l4, .int x] st h nx := e_79_99 (nr_i p)
theorem e_79_99r : Df d 79 99 [l0, l1, l2, l3, l4, .ref c] (.int x :: st) h nx = Df d 79 101 [l0, l1, l2, l3, l4, .int x] st h nx := e_79_99 (nr_r c)
theorem e_80_32n : Df d 80 32 [l0, l1, l2, .null] (.int x :: st) h nx = Df d 80 33 [l0, l1, l2, .int x] st h nx := e_80_32 nr_n
theorem e_80_32i : Df d 80 32 [l0, l1, l2, .int p] (.int x :: st) h nx = Df d 80 33 [l0, l1, l2, .int x] st h nx := e_80_32 (nr_i p)
theorem e_80_32r : Df d 80 32 [l0, l1, l2, .ref c] (.int x :: st) h nx = Df d 80 33 [l0, l1, l2, .int x] st h nx := e_80_32 (nr_r c)
theorem e_82_27n : Df d 82 27 [l0, l1, .null, l3] (.int x :: st) h nx = Df d 82 28 [l0, l1, .int x, l3] st h nx := e_82_27 nr_n
theorem e_82_27i : Df d 82 27 [l0, l1, .int p, l3] (.int x :: st) h nx = Df d 82 28 [l0, l1, .int x, l3] st h nx := e_82_27 (nr_i p)
theorem e_82_27r : Df d 82 27 [l0, l1, .ref c, l3] (.int x :: st) h nx = Df d 82 28 [l0, l1, .int x, l3] st h nx := e_82_27 (nr_r c)
theorem e_82_29n : Df d 82 29 [l0, l1, l2, .null] (.int x :: st) h nx = Df d 82 30 [l0, l1, l2, .int x] st h nx := e_82_29 nr_n
theorem e_82_29i : Df d 82 29 [l0, l1, l2, .int p] (.int x :: st) h nx = Df d 82 30 [l0, l1, l2, .int x] st h nx := e_82_29 (nr_i p)
theorem e_82_29r : Df d 82 29 [l0, l1, l2, .ref c] (.int x :: st) h nx = Df d 82 30 [l0, l1, l2, .int x] st h nx := e_82_29 (nr_r c)
theorem e_83_7n : Df d 83 7 [l0, l1, .null] (.int x :: st) h nx = Df d 83 8 [l0, l1, .int x] st h nx := e_83_7 nr_n
theorem e_83_7i : Df d 83 7 [l0, l1, .int p] (.int x :: st) h nx = Df d 83 8 [l0, l1, .int x] st h nx := e_83_7 (nr_i p)
theorem e_83_7r : Df d 83 7 [l0, l1, .ref c] (.int x :: st) h nx = Df d 83 8 [l0, l1, .int x] st h nx := e_83_7 (nr_r c)
theorem e_84_20n : Df d 84 20 [l0, l1, .null] (.int x :: st) h nx = Df d 84 21 [l0, l1, .int x] st h nx := e_84_20 nr_n
theorem e_84_20i : Df d 84 20 [l0, l1, .int p] (.int x :: st) h nx = Df d 84 21 [l0, l1, .int x] st h nx := e_84_20 (nr_i p)
theorem e_84_20r : Df d 84 20 [l0, l1, .ref c] (.int x :: st) h nx = Df d 84 21 [l0, l1, .int x] st h nx := e_84_20 (nr_r c)
theorem e_85_1n : Df d 85 1 [l0, l1, l2, .null] (.int x :: st) h nx = Df d 85 2 [l0, l1, l2, .int x] st h nx := e_85_1 nr_n
theorem e_85_1i : Df d 85 1 [l0, l1, l2, .int p] (.int x :: st) h nx = Df d 85 2 [l0, l1, l2, .int x] st h nx := e_85_1 (nr_i p)
theorem e_85_1r : Df d 85 1 [l0, l1, l2, .ref c] (.int x :: st) h nx = Df d 85 2 [l0, l1, l2, .int x] st h nx := e_85_1 (nr_r c)
theorem e_89_1n : Df d 89 1 [l0, l1, .null] (.int x :: st) h nx = Df d 89 2 [l0, l1, .int x] st h nx := e_89_1 nr_n
theorem e_89_1i : Df d 89 1 [l0, l1, .int p] (.int x :: st) h nx = Df d 89 2 [l0, l1, .int x] st h nx := e_89_1 (nr_i p)
theorem e_89_1r : Df d 89 1 [l0, l1, .ref c] (.int x :: st) h nx = Df d 89 2 [l0, l1, .int x] st h nx := e_89_1 (nr_r c)
theorem e_90_30n : Df d 90 30 [l0, l1, l2, .null] (.int x :: st) h nx = Df d 90 31 [l0, l1, l2, .int x] st h nx := e_90_30 nr_n
theorem e_90_30i : Df d 90 30 [l0, l1, l2, .int p] (.int x :: st) h nx = Df d 90 31 [l0, l1, l2, .int x] st h nx := e_90_30 (nr_i p)
theorem e_90_30r : Df d 90 30 [l0, l1, l2, .ref c] (.int x :: st) h nx = Df d 90 31 [l0, l1, l2, .int x] st h nx := e_90_30 (nr_r c)
theorem e_91_41n : Df d 91 41 [l0, l1, l2, l3, .null] (.int x :: st) h nx = Df d 91 43 [l0, l1, l2, l3, .int x] st h nx := e_91_41 nr_n
theorem e_91_41i : Df d 91 41 [l0, l1, l2, l3, .int p] (.int x :: st) h nx = Df d 91 43 [l0, l1, l2, l3, .int x] st h nx := e_91_41 (nr_i p)
theorem e_91_41r : Df d 91 41 [l0, l1, l2, l3, .ref c] (.int x :: st) h nx = Df d 91 43 [l0, l1, l2, l3, .int x] st h nx := e_91_41 (nr_r c)
theorem e_92_40n : Df d 92 40 [l0, l1, .null, l3] (.int x :: st) h nx = Df d 92 41 [l0, l1, .int x, l3] st h nx := e_92_40 nr_n
theorem e_92_40i : Df d 92 40 [l0, l1, .int p, l3] (.int x :: st) h nx = Df d 92 41 [l0, l1, .int x, l3] st h nx := e_92_40 (nr_i p)
theorem e_92_40r : Df d 92 40 [l0, l1, .ref c, l3] (.int x :: st) h nx = Df d 92 41 [l0, l1, .int x, l3] st h nx := e_92_40 (nr_r c)
theorem e_92_53n : Df d 92 53 [l0, l1, l2, .null] (.int x :: st) h nx = Df d 92 54 [l0, l1, l2, .int x] st h nx := e_92_53 nr_n
theorem e_92_53i : Df d 92 53 [l0, l1, l2, .int p] (.int x :: st) h nx = Df d 92 54 [l0, l1, l2, .int x] st h nx := e_92_53 (nr_i p)
theorem e_92_53r : Df d 92 53 [l0, l1, l2, .ref c] (.int x :: st) h nx = Df d 92 54 [l0, l1, l2, .int x] st h nx := e_92_53 (nr_r c)
theorem e_93_14n : Df d 93 14 [l0, l1, .null] (.int x :: st) h nx = Df d 93 15 [l0, l1, .int x] st h nx := e_93_14 nr_n
theorem e_93_14i : Df d 93 14 [l0, l1, .int p] (.int x :: st) h nx = Df d 93 15 [l0, l1, .int x] st h nx := e_93_14 (nr_i p)
theorem e_93_14r : Df d 93 14 [l0, l1, .ref c] (.int x :: st) h nx = Df d 93 15 [l0, l1, .int x] st h nx := e_93_14 (nr_r c)
theorem e_94_25n : Df d 94 25 [l0, l1, .null, l3] (.int x :: st) h nx = Df d 94 26 [l0, l1, .int x, l3] st h nx := e_94_25 nr_n
theorem e_94_25i : Df d 94 25 [l0, l1, .int p, l3] (.int x :: st) h nx = Df d 94 26 [l0, l1, .int x, l3] st h nx := e_94_25 (nr_i p)
theorem e_94_25r : Df d 94 25 [l0, l1, .ref c, l3] (.int x :: st) h nx = Df d 94 26 [l0, l1, .int x, l3] st h nx := e_94_25 (nr_r c)
theorem e_94_27n : Df d 94 27 [l0, l1, l2, .null] (.int x :: st) h nx = Df d 94 28 [l0, l1, l2, .int x] st h nx := e_94_27 nr_n
theorem e_94_27i : Df d 94 27 [l0, l1, l2, .int p] (.int x :: st) h nx = Df d 94 28 [l0, l1, l2, .int x] st h nx := e_94_27 (nr_i p)
theorem e_94_27r : Df d 94 27 [l0, l1, l2, .ref c] (.int x :: st) h nx = Df d 94 28 [l0, l1, l2, .int x] st h nx := e_94_27 (nr_r c)
theorem e_94_56n : Df d 94 56 [l0, l1, .null, l3] (.int x :: st) h nx = Df d 94 57 [l0, l1, .int x, l3] st h nx := e_94_56 nr_n
theorem e_94_56i : Df d 94 56 [l0, l1, .int p, l3] (.int x :: st) h nx = Df d 94 57 [l0, l1, .int x, l3] st h nx := e_94_56 (nr_i p)
theorem e_94_56r : Df d 94 56 [l0, l1, .ref c, l3] (.int x :: st) h nx = Df d 94 57 [l0, l1, .int x, l3] st h nx := e_94_56 (nr_r c)
theorem e_95_54n : Df d 95 54 [l0, l1, l2, l3, .null] (.int x :: st) h nx = Df d 95 56 [l0, l1, l2, l3, .int x] st h nx := e_95_54 nr_n
theorem e_95_54i : Df d 95 54 [l0, l1, l2, l3, .int p] (.int x :: st) h nx = Df d 95 56 [l0, l1, l2, l3, .int x] st h nx := e_95_54 (nr_i p)
theorem e_95_54r : Df d 95 54 [l0, l1, l2, l3, .ref c] (.int x :: st) h nx = Df d 95 56 [l0, l1, l2, l3, .int x] st h nx := e_95_54 (nr_r c)
theorem e_97_25n : Df d 97 25 [l0, l1, l2, l3, .null, l5] (.int x :: st) h nx = Df d 97 27 [l0, l1, l2, l3, .int x, l5] st h nx := e_97_25 nr_n
theorem e_97_25i : Df d 97 25 [l0, l1, l2, l3, .int p, l5] (.int x :: st) h nx = Df d 97 27 [l0, l1, l2, l3, .int x, l5] st h nx := e_97_25 (nr_i p)
theorem e_97_25r : Df d 97 25 [l0, l1, l2, l3, .ref c, l5] (.int x :: st) h nx = Df d 97 27 [l0, l1, l2, l3, .int x, l5] st h nx := e_97_25 (nr_r c)
theorem e_97_28n : Df d 97 28 [l0, l1, l2, l3, l4, .null] (.int x :: st) h nx = Df d 97 30 [l0, l1, l2, l3, l4, .int x] st h nx := e_97_28 nr_n
theorem e_97_28i : Df d 97 28 [l0, l1, l2, l3, l4, .int p] (.int x :: st) h nx = Df d 97 30 [l0, l1, l2, l3, l4, .int x] st h nx := e_97_28 (nr_i p)
theorem e_97_28r : Df d 97 28 [l0, l1, l2, l3, l4, .ref c] (.int x :: st) h nx = Df d 97 30 [l0, l1, l2, l3, l4, .int x] st h nx := e_97_28 (nr_r c)
theorem e_97_87n : Df d 97 87 [l0, l1, l2, l3, .null, l5] (.int x :: st) h nx = Df d 97 89 [l0, l1, l2, l3, .int x, l5] st h nx := e_97_87 nr_n
theorem e_97_87i : Df d 97 87 [l0, l1, l2, l3, .int p, l5] (.int x :: st) h nx = Df d 97 89 [l0, l1, l2, l3, .int x, l5] st h nx := e_97_87 (nr_i p)
theorem e_97_87r : Df d 97 87 [l0, l1, l2, l3, .ref c, l5] (.int x :: st) h nx = Df d 97 89 [l0, l1, l2, l3, .int x, l5] st h nx := e_97_87 (nr_r c)
theorem e_98_15n : Df d 98 15 [l0, .null] (.int x :: st) h nx = Df d 98 16 [l0, .int x] st h nx := e_98_15 nr_n
theorem e_98_15i : Df d 98 15 [l0, .int p] (.int x :: st) h nx = Df d 98 16 [l0, .int x] st h nx := e_98_15 (nr_i p)
theorem e_98_15r : Df d 98 15 [l0, .ref c] (.int x :: st) h nx = Df d 98 16 [l0, .int x] st h nx := e_98_15 (nr_r c)
theorem e_99_23n : Df d 99 23 [l0, l1, .null, l3] (.ref a :: st) h nx = Df d 99 24 [l0, l1, .ref a, l3] st h nx := e_99_23 nr_n
theorem e_99_23i : Df d 99 23 [l0, l1, .int p, l3] (.ref a :: st) h nx = Df d 99 24 [l0, l1, .ref a, l3] st h nx := e_99_23 (nr_i p)
theorem e_99_23r : Df d 99 23 [l0, l1, .ref c, l3] (.ref a :: st) h nx = Df d 99 24 [l0, l1, .ref a, l3] st h nx := e_99_23 (nr_r c)
theorem e_99_39n : Df d 99 39 [l0, l1, l2, .null] (.int x :: st) h nx = Df d 99 40 [l0, l1, l2, .int x] st h nx := e_99_39 nr_n
theorem e_99_39i : Df d 99 39 [l0, l1, l2, .int p] (.int x :: st) h nx = Df d 99 40 [l0, l1, l2, .int x] st h nx := e_99_39 (nr_i p)
theorem e_99_39r : Df d 99 39 [l0, l1, l2, .ref c] (.int x :: st) h nx = Df d 99 40 [l0, l1, l2, .int x] st h nx := e_99_39 (nr_r c)
theorem e_102_7n : Df d 102 7 [l0, .null] (.int x :: st) h nx = Df d 102 8 [l0, .int x] st h nx := e_102_7 nr_n
theorem e_102_7i : Df d 102 7 [l0, .int p] (.int x :: st) h nx = Df d 102 8 [l0, .int x] st h nx := e_102_7 (nr_i p)
theorem e_102_7r : Df d 102 7 [l0, .ref c] (.int x :: st) h nx = Df d 102 8 [l0, .int x] st h nx := e_102_7 (nr_r c)
theorem e_102_75i : Df d 102 75 [l0, l1] (.int p :: st) h nx = Df d 102 76 [l0, l1] (.int p :: .int p :: st) h nx := e_102_75 rfl
theorem e_102_75r : Df d 102 75 [l0, l1] (.ref c :: st) h nx = Df d 102 76 [l0, l1] (.ref c :: .ref c :: st) h nx := e_102_75 rfl
theorem e_103_38n : Df d 103 38 [l0, l1, l2, .null] (.ref a :: st) h nx = Df d 103 39 [l0, l1, l2, .ref a] st h nx := e_103_38 nr_n
theorem e_103_38i : Df d 103 38 [l0, l1, l2, .int p] (.ref a :: st) h nx = Df d 103 39 [l0, l1, l2, .ref a] st h nx := e_103_38 (nr_i p)
theorem e_103_38r : Df d 103 38 [l0, l1, l2, .ref c] (.ref a :: st) h nx = Df d 103 39 [l0, l1, l2, .ref a] st h nx := e_103_38 (nr_r c)
theorem e_105_53n : Df d 105 53 [l0, l1, l2, l3, .null] (.int x :: st) h nx = Df d 105 55 [l0, l1, l2, l3, .int x] st h nx := e_105_53 nr_n
theorem e_105_53i : Df d 105 53 [l0, l1, l2, l3, .int p] (.int x :: st) h nx = Df d 105 55 [l0, l1, l2, l3, .int x] st h nx := e_105_53 (nr_i p)
theorem e_105_53r : Df d 105 53 [l0, l1, l2, l3, .ref c] (.int x :: st) h nx = Df d 105 55 [l0, l1, l2, l3, .int x] st h nx := e_105_53 (nr_r c)
theorem e_106_16n : Df d 106 16 [l0, l1, l2, l3, .null] (.ref a :: st) h nx = Df d 106 18 [l0, l1, l2, l3, .ref a] st h nx := e_106_16 nr_n
theorem e_106_16i : Df d 106 16 [l0, l1, l2, l3, .int p] (.ref a :: st) h nx = Df d 106 18 [l0, l1, l2, l3, .ref a] st h nx := e_106_16 (nr_i p)
theorem e_106_16r : Df d 106 16 [l0, l1, l2, l3, .ref c] (.ref a :: st) h nx = Df d 106 18 [l0, l1, l2, l3, .ref a] st h nx := e_106_16 (nr_r c)
theorem e_107_16n : Df d 107 16 [l0, l1, .null, l3, l4, l5] (.ref a :: st) h nx = Df d 107 17 [l0, l1, .ref a, l3, l4, l5] st h nx := e_107_16 nr_n
theorem e_107_16i : Df d 107 16 [l0, l1, .int p, l3, l4, l5] (.ref a :: st) h nx = Df d 107 17 [l0, l1, .ref a, l3, l4, l5] st h nx := e_107_16 (nr_i p)
theorem e_107_16r : Df d 107 16 [l0, l1, .ref c, l3, l4, l5] (.ref a :: st) h nx = Df d 107 17 [l0, l1, .ref a, l3, l4, l5] st h nx := e_107_16 (nr_r c)
theorem e_107_29n : Df d 107 29 [l0, l1, l2, .null, l4, l5] (.int x :: st) h nx = Df d 107 30 [l0, l1, l2, .int x, l4, l5] st h nx := e_107_29 nr_n
theorem e_107_29i : Df d 107 29 [l0, l1, l2, .int p, l4, l5] (.int x :: st) h nx = Df d 107 30 [l0, l1, l2, .int x, l4, l5] st h nx := e_107_29 (nr_i p)
theorem e_107_29r : Df d 107 29 [l0, l1, l2, .ref c, l4, l5] (.int x :: st) h nx = Df d 107 30 [l0, l1, l2, .int x, l4, l5] st h nx := e_107_29 (nr_r c)
theorem e_107_31n : Df d 107 31 [l0, l1, l2, l3, .null, l5] (.int x :: st) h nx = Df d 107 33 [l0, l1, l2, l3, .int x, l5] st h nx := e_107_31 nr_n
theorem e_107_31i : Df d 107 31 [l0, l1, l2, l3, .int p, l5] (.int x :: st) h nx = Df d 107 33 [l0, l1, l2, l3, .int x, l5] st h nx := e_107_31 (nr_i p)
theorem e_107_31r : Df d 107 31 [l0, l1, l2, l3, .ref c, l5] (.int x :: st) h nx = Df d 107 33 [l0, l1, l2, l3, .int x, l5] st h nx := e_107_31 (nr_r c)
theorem e_107_62n : Df d 107 62 [l0, l1, l2, l3, l4, .null] (.int x :: st) h nx = Df d 107 64 [l0, l1, l2, l3, l4, .int x] st h nx := e_107_62 nr_n
theorem e_107_62i : Df d 107 62 [l0, l1, l2, l3, l4, .int p] (.int x :: st) h nx = Df d 107 64 [l0, l1, l2, l3, l4, .int x] st h nx := e_107_62 (nr_i p)
theorem e_107_62r : Df d 107 62 [l0, l1, l2, l3, l4, .ref c] (.int x :: st) h nx = Df d 107 64 [l0, l1, l2, l3, l4, .int x] st h nx := e_107_62 (nr_r c)
theorem e_108_16n : Df d 108 16 [l0, l1, .null, l3] (.ref a :: st) h nx = Df d 108 17 [l0, l1, .ref a, l3] st h nx := e_108_16 nr_n
theorem e_108_16i : Df d 108 16 [l0, l1, .int p, l3] (.ref a :: st) h nx = Df d 108 17 [l0, l1, .ref a, l3] st h nx := e_108_16 (nr_i p)
theorem e_108_16r : Df d 108 16 [l0, l1, .ref c, l3] (.ref a :: st) h nx = Df d 108 17 [l0, l1, .ref a, l3] st h nx := e_108_16 (nr_r c)
theorem e_108_29n : Df d 108 29 [l0, l1, l2, .null] (.int x :: st) h nx = Df d 108 30 [l0, l1, l2, .int x] st h nx := e_108_29 nr_n
theorem e_108_29i : Df d 108 29 [l0, l1, l2, .int p] (.int x :: st) h nx = Df d 108 30 [l0, l1, l2, .int x] st h nx := e_108_29 (nr_i p)
theorem e_108_29r : Df d 108 29 [l0, l1, l2, .ref c] (.int x :: st) h nx = Df d 108 30 [l0, l1, l2, .int x] st h nx := e_108_29 (nr_r c)
theorem e_109_23n : Df d 109 23 [l0, l1, l2, l3, l4, l5, .null, l7] (.ref a :: st) h nx = Df d 109 25 [l0, l1, l2, l3, l4, l5, .ref a, l7] st h nx := e_109_23 nr_n
theorem e_109_23i : Df d 109 23 [l0, l1, l2, l3, l4, l5, .int p, l7] (.ref a :: st) h nx = Df d 109 25 [l0, l1, l2, l3, l4, l5, .ref a, l7] st h nx := e_109_23 (nr_i p)
theorem e_109_23r : Df d 109 23 [l0, l1, l2, l3, l4, l5, .ref c, l7] (.ref a :: st) h nx = Df d 109 25 [l0, l1, l2, l3, l4, l5, .ref a, l7] st h nx := e_109_23 (nr_r c)
theorem e_109_31n : Df d 109 31 [l0, l1, l2, l3, l4, l5, l6, .null] (.ref a :: st) h nx = Df d 109 33 [l0, l1, l2, l3, l4, l5, l6, .ref a] st h nx := e_109_31 nr_n
theorem e_109_31i : Df d 109 31 [l0, l1, l2, l3, l4, l5, l6, .int p] (.ref a :: st) h nx = Df d 109 33 [l0, l1, l2, l3, l4, l5, l6, .ref a] st h nx := e_109_31 (nr_i p)
theorem e_109_31r : Df d 109 31 [l0, l1, l2, l3, l4, l5, l6, .ref c] (.ref a :: st) h nx = Df d 109 33 [l0, l1, l2, l3, l4, l5, l6, .ref a] st h nx := e_109_31 (nr_r c)
theorem e_110_77n : Df d 110 77 [l0, l1, l2, l3, .null, l5] (.ref a :: st) h nx = Df d 110 79 [l0, l1, l2, l3, .ref a, l5] st h nx := e_110_77 nr_n
theorem e_110_77i : Df d 110 77 [l0, l1, l2, l3, .int p, l5] (.ref a :: st) h nx = Df d 110 79 [l0, l1, l2, l3, .ref a, l5] st h nx := e_110_77 (nr_i p)
theorem e_110_77r : Df d 110 77 [l0, l1, l2, l3, .ref c, l5] (.ref a :: st) h nx = Df d 110 79 [l0, l1, l2, l3, .ref a, l5] st h nx := e_110_77 (nr_r c)
theorem e_110_84n : Df d 110 84 [l0, l1, l2, l3, l4, .null] (.int x :: st) h nx = Df d 110 86 [l0, l1, l2, l3, l4, .int x] st h nx := e_110_84 nr_n
theorem e_110_84i : Df d 110 84 [l0, l1, l2, l3, l4, .int p] (.int x :: st) h nx = Df d 110 86 [l0, l1, l2, l3, l4, .int x] st h nx := e_110_84 (nr_i p)
theorem e_110_84r : Df d 110 84 [l0, l1, l2, l3, l4, .ref c] (.int x :: st) h nx = Df d 110 86 [l0, l1, l2, l3, l4, .int x] st h nx := e_110_84 (nr_r c)
theorem e_112_23n : Df d 112 23 [l0, l1, l2, .null] (.ref a :: st) h nx = Df d 112 24 [l0, l1, l2, .ref a] st h nx := e_112_23 nr_n
theorem e_112_23i : Df d 112 23 [l0, l1, l2, .int p] (.ref a :: st) h nx = Df d 112 24 [l0, l1, l2, .ref a] st h nx := e_112_23 (nr_i p)
theorem e_112_23r : Df d 112 23 [l0, l1, l2, .ref c] (.ref a :: st) h nx = Df d 112 24 [l0, l1, l2, .ref a] st h nx := e_112_23 (nr_r c)
theorem e_113_16n : Df d 113 16 [l0, l1, l2, .null] (.ref a :: st) h nx = Df d 113 17 [l0, l1, l2, .ref a] st h nx := e_113_16 nr_n
theorem e_113_16i : Df d 113 16 [l0, l1, l2, .int p] (.ref a :: st) h nx = Df d 113 17 [l0, l1, l2, .ref a] st h nx := e_113_16 (nr_i p)
theorem e_113_16r : Df d 113 16 [l0, l1, l2, .ref c] (.ref a :: st) h nx = Df d 113 17 [l0, l1, l2, .ref a] st h nx := e_113_16 (nr_r c)
theorem e_114_16n : Df d 114 16 [l0, l1, l2, .null] (.ref a :: st) h nx = Df d 114 17 [l0, l1, l2, .ref a] st h nx := e_114_16 nr_n
theorem e_114_16i : Df d 114 16 [l0, l1, l2, .int p] (.ref a :: st) h nx = Df d 114 17 [l0, l1, l2, .ref a] st h nx := e_114_16 (nr_i p)
theorem e_114_16r : Df d 114 16 [l0, l1, l2, .ref c] (.ref a :: st) h nx = Df d 114 17 [l0, l1, l2, .ref a] st h nx := e_114_16 (nr_r c)
theorem e_115_23i : Df d 115 23 [l0, l1] (.int p :: st) h nx = Df d 115 24 [l0, l1] (.int p :: .int p :: st) h nx := e_115_23 rfl
theorem e_115_23r : Df d 115 23 [l0, l1] (.ref c :: st) h nx = Df d 115 24 [l0, l1] (.ref c :: .ref c :: st) h nx := e_115_23 rfl
theorem e_116_4n : Df d 116 4 [l0, l1, .null, l3, l4] (.int x :: st) h nx = Df d 116 5 [l0, l1, .int x, l3, l4] st h nx := e_116_4 nr_n
theorem e_116_4i : Df d 116 4 [l0, l1, .int p, l3, l4] (.int x :: st) h nx = Df d 116 5 [l0, l1, .int x, l3, l4] st h nx := e_116_4 (nr_i p)
theorem e_116_4r : Df d 116 4 [l0, l1, .ref c, l3, l4] (.int x :: st) h nx = Df d 116 5 [l0, l1, .int x, l3, l4] st h nx := e_116_4 (nr_r c)
theorem e_116_60n : Df d 116 60 [l0, l1, l2, .null, l4] (.int x :: st) h nx = Df d 116 61 [l0, l1, l2, .int x, l4] st h nx := e_116_60 nr_n
theorem e_116_60i : Df d 116 60 [l0, l1, l2, .int p, l4] (.int x :: st) h nx = Df d 116 61 [l0, l1, l2, .int x, l4] st h nx := e_116_60 (nr_i p)
theorem e_116_60r : Df d 116 60 [l0, l1, l2, .ref c, l4] (.int x :: st) h nx = Df d 116 61 [l0, l1, l2, .int x, l4] st h nx := e_116_60 (nr_r c)
theorem e_116_62n : Df d 116 62 [l0, l1, l2, l3, .null] (.int x :: st) h nx = Df d 116 64 [l0, l1, l2, l3, .int x] st h nx := e_116_62 nr_n
theorem e_116_62i : Df d 116 62 [l0, l1, l2, l3, .int p] (.int x :: st) h nx = Df d 116 64 [l0, l1, l2, l3, .int x] st h nx := e_116_62 (nr_i p)
theorem e_116_62r : Df d 116 62 [l0, l1, l2, l3, .ref c] (.int x :: st) h nx = Df d 116 64 [l0, l1, l2, l3, .int x] st h nx := e_116_62 (nr_r c)
theorem e_121_52i : Df d 121 52 [l0] (.int p :: st) h nx = Df d 121 53 [l0] (.int p :: .int p :: st) h nx := e_121_52 rfl
theorem e_121_52r : Df d 121 52 [l0] (.ref c :: st) h nx = Df d 121 53 [l0] (.ref c :: .ref c :: st) h nx := e_121_52 rfl
theorem e_121_57i : Df d 121 57 [l0] (.int p :: st) h nx = Df d 121 58 [l0] (.int p :: .int p :: st) h nx := e_121_57 rfl
theorem e_121_57r : Df d 121 57 [l0] (.ref c :: st) h nx = Df d 121 58 [l0] (.ref c :: .ref c :: st) h nx := e_121_57 rfl
theorem e_121_62i : Df d 121 62 [l0] (.int p :: st) h nx = Df d 121 63 [l0] (.int p :: .int p :: st) h nx := e_121_62 rfl
theorem e_121_62r : Df d 121 62 [l0] (.ref c :: st) h nx = Df d 121 63 [l0] (.ref c :: .ref c :: st) h nx := e_121_62 rfl
theorem e_121_67i : Df d 121 67 [l0] (.int p :: st) h nx = Df d 121 68 [l0] (.int p :: .int p :: st) h nx := e_121_67 rfl
theorem e_121_67r : Df d 121 67 [l0] (.ref c :: st) h nx = Df d 121 68 [l0] (.ref c :: .ref c :: st) h nx := e_121_67 rfl
theorem e_121_72i : Df d 121 72 [l0] (.int p :: st) h nx = Df d 121 73 [l0] (.int p :: .int p :: st) h nx := e_121_72 rfl
theorem e_121_72r : Df d 121 72 [l0] (.ref c :: st) h nx = Df d 121 73 [l0] (.ref c :: .ref c :: st) h nx := e_121_72 rfl
theorem e_121_77i : Df d 121 77 [l0] (.int p :: st) h nx = Df d 121 78 [l0] (.int p :: .int p :: st) h nx := e_121_77 rfl
theorem e_121_77r : Df d 121 77 [l0] (.ref c :: st) h nx = Df d 121 78 [l0] (.ref c :: .ref c :: st) h nx := e_121_77 rfl
theorem e_121_82i : Df d 121 82 [l0] (.int p :: st) h nx = Df d 121 83 [l0] (.int p :: .int p :: st) h nx := e_121_82 rfl
theorem e_121_82r : Df d 121 82 [l0] (.ref c :: st) h nx = Df d 121 83 [l0] (.ref c :: .ref c :: st) h nx := e_121_82 rfl
theorem e_121_88i : Df d 121 88 [l0] (.int p :: st) h nx = Df d 121 89 [l0] (.int p :: .int p :: st) h nx := e_121_88 rfl
theorem e_121_88r : Df d 121 88 [l0] (.ref c :: st) h nx = Df d 121 89 [l0] (.ref c :: .ref c :: st) h nx := e_121_88 rfl
theorem e_121_94i : Df d 121 94 [l0] (.int p :: st) h nx = Df d 121 95 [l0] (.int p :: .int p :: st) h nx := e_121_94 rfl
theorem e_121_94r : Df d 121 94 [l0] (.ref c :: st) h nx = Df d 121 95 [l0] (.ref c :: .ref c :: st) h nx := e_121_94 rfl
theorem e_121_100i : Df d 121 100 [l0] (.int p :: st) h nx = Df d 121 101 [l0] (.int p :: .int p :: st) h nx := e_121_100 rfl
theorem e_121_100r : Df d 121 100 [l0] (.ref c :: st) h nx = Df d 121 101 [l0] (.ref c :: .ref c :: st) h nx := e_121_100 rfl
theorem e_121_106i : Df d 121 106 [l0] (.int p :: st) h nx = Df d 121 107 [l0] (.int p :: .int p :: st) h nx := e_121_106 rfl
theorem e_121_106r : Df d 121 106 [l0] (.ref c :: st) h nx = Df d 121 107 [l0] (.ref c :: .ref c :: st) h nx := e_121_106 rfl
theorem e_121_112i : Df d 121 112 [l0] (.int p :: st) h nx = Df d 121 113 [l0] (.int p :: .int p :: st) h nx := e_121_112 rfl
theorem e_121_112r : Df d 121 112 [l0] (.ref c :: st) h nx = Df d 121 113 [l0] (.ref c :: .ref c :: st) h nx := e_121_112 rfl
theorem e_121_118i : Df d 121 118 [l0] (.int p :: st) h nx = Df d 121 119 [l0] (.int p :: .int p :: st) h nx := e_121_118 rfl
theorem e_121_118r : Df d 121 118 [l0] (.ref c :: st) h nx = Df d 121 119 [l0] (.ref c :: .ref c :: st) h nx := e_121_118 rfl
theorem e_121_131i : Df d 121 131 [l0] (.int p :: st) h nx = Df d 121 132 [l0] (.int p :: .int p :: st) h nx := e_121_131 rfl
theorem e_121_131r : Df d 121 131 [l0] (.ref c :: st) h nx = Df d 121 132 [l0] (.ref c :: .ref c :: st) h nx := e_121_131 rfl
theorem e_121_135i : Df d 121 135 [l0] (.int p :: st) h nx = Df d 121 136 [l0] (.int p :: .int p :: st) h nx := e_121_135 rfl
theorem e_121_135r : Df d 121 135 [l0] (.ref c :: st) h nx = Df d 121 136 [l0] (.ref c :: .ref c :: st) h nx := e_121_135 rfl
theorem e_121_140i : Df d 121 140 [l0] (.int p :: st) h nx = Df d 121 141 [l0] (.int p :: .int p :: st) h nx := e_121_140 rfl
theorem e_121_140r : Df d 121 140 [l0] (.ref c :: st) h nx = Df d 121 141 [l0] (.ref c :: .ref c :: st) h nx := e_121_140 rfl
theorem e_121_145i : Df d 121 145 [l0] (.int p :: st) h nx = Df d 121 146 [l0] (.int p :: .int p :: st) h nx := e_121_145 rfl
theorem e_121_145r : Df d 121 145 [l0] (.ref c :: st) h nx = Df d 121 146 [l0] (.ref c :: .ref c :: st) h nx := e_121_145 rfl
theorem e_121_196i : Df d 121 196 [l0] (.int p :: st) h nx = Df d 121 197 [l0] (.int p :: .int p :: st) h nx := e_121_196 rfl
theorem e_121_196r : Df d 121 196 [l0] (.ref c :: st) h nx = Df d 121 197 [l0] (.ref c :: .ref c :: st) h nx := e_121_196 rfl
theorem e_121_200i : Df d 121 200 [l0] (.int p :: st) h nx = Df d 121 201 [l0] (.int p :: .int p :: st) h nx := e_121_200 rfl
theorem e_121_200r : Df d 121 200 [l0] (.ref c :: st) h nx = Df d 121 201 [l0] (.ref c :: .ref c :: st) h nx := e_121_200 rfl
theorem e_121_204i : Df d 121 204 [l0] (.int p :: st) h nx = Df d 121 205 [l0] (.int p :: .int p :: st) h nx := e_121_204 rfl
theorem e_121_204r : Df d 121 204 [l0] (.ref c :: st) h nx = Df d 121 205 [l0] (.ref c :: .ref c :: st) h nx := e_121_204 rfl
theorem e_121_208i : Df d 121 208 [l0] (.int p :: st) h nx = Df d 121 209 [l0] (.int p :: .int p :: st) h nx := e_121_208 rfl
theorem e_121_208r : Df d 121 208 [l0] (.ref c :: st) h nx = Df d 121 209 [l0] (.ref c :: .ref c :: st) h nx := e_121_208 rfl
theorem e_124_6n : Df d 124 6 [l0, l1, l2, l3, .null, l5] (.int x :: st) h nx = Df d 124 8 [l0, l1, l2, l3, .int x, l5] st h nx := e_124_6 nr_n
theorem e_124_6i : Df d 124 6 [l0, l1, l2, l3, .int p, l5] (.int x :: st) h nx = Df d 124 8 [l0, l1, l2, l3, .int x, l5] st h nx := e_124_6 (nr_i p)
theorem e_124_6r : Df d 124 6 [l0, l1, l2, l3, .ref c, l5] (.int x :: st) h nx = Df d 124 8 [l0, l1, l2, l3, .int x, l5] st h nx := e_124_6 (nr_r c)
theorem e_124_13i : Df d 124 13 [l0, l1, l2, l3, l4, l5] (.int p :: .ref c :: st) h nx = Df d 124 14 [l0, l1, l2, l3, l4, l5] (.int p :: .ref c :: .int p :: .ref c :: st) h nx := e_124_13 rfl rfl
theorem e_124_19n : Df d 124 19 [l0, l1, l2, l3, l4, .null] (.int x :: st) h nx = Df d 124 21 [l0, l1, l2, l3, l4, .int x] st h nx := e_124_19 nr_n
theorem e_124_19i : Df d 124 19 [l0, l1, l2, l3, l4, .int p] (.int x :: st) h nx = Df d 124 21 [l0, l1, l2, l3, l4, .int x] st h nx := e_124_19 (nr_i p)
theorem e_124_19r : Df d 124 19 [l0, l1, l2, l3, l4, .ref c] (.int x :: st) h nx = Df d 124 21 [l0, l1, l2, l3, l4, .int x] st h nx := e_124_19 (nr_r c)
theorem e_129_5n : Df d 129 5 [l0, l1, .null, l3] (.int x :: st) h nx = Df d 129 6 [l0, l1, .int x, l3] st h nx := e_129_5 nr_n
theorem e_129_5i : Df d 129 5 [l0, l1, .int p, l3] (.int x :: st) h nx = Df d 129 6 [l0, l1, .int x, l3] st h nx := e_129_5 (nr_i p)
theorem e_129_5r : Df d 129 5 [l0, l1, .ref c, l3] (.int x :: st) h nx = Df d 129 6 [l0, l1, .int x, l3] st h nx := e_129_5 (nr_r c)
theorem e_129_68n : Df d 129 68 [l0, l1, l2, .null] (.int x :: st) h nx = Df d 129 69 [l0, l1, l2, .int x] st h nx := e_129_68 nr_n
theorem e_129_68i : Df d 129 68 [l0, l1, l2, .int p] (.int x :: st) h nx = Df d 129 69 [l0, l1, l2, .int x] st h nx := e_129_68 (nr_i p)
theorem e_129_68r : Df d 129 68 [l0, l1, l2, .ref c] (.int x :: st) h nx = Df d 129 69 [l0, l1, l2, .int x] st h nx := e_129_68 (nr_r c)
theorem e_130_9n : Df d 130 9 [l0, l1, .null] (.int x :: st) h nx = Df d 130 10 [l0, l1, .int x] st h nx := e_130_9 nr_n
theorem e_130_9i : Df d 130 9 [l0, l1, .int p] (.int x :: st) h nx = Df d 130 10 [l0, l1, .int x] st h nx := e_130_9 (nr_i p)
theorem e_130_9r : Df d 130 9 [l0, l1, .ref c] (.int x :: st) h nx = Df d 130 10 [l0, l1, .int x] st h nx := e_130_9 (nr_r c)
theorem e_131_1n : Df d 131 1 [l0, l1, .null, l3, l4, l5] (.int x :: st) h nx = Df d 131 2 [l0, l1, .int x, l3, l4, l5] st h nx := e_131_1 nr_n
theorem e_131_1i : Df d 131 1 [l0, l1, .int p, l3, l4, l5] (.int x :: st) h nx = Df d 131 2 [l0, l1, .int x, l3, l4, l5] st h nx := e_131_1 (nr_i p)
theorem e_131_1r : Df d 131 1 [l0, l1, .ref c, l3, l4, l5] (.int x :: st) h nx = Df d 131 2 [l0, l1, .int x, l3, l4, l5] st h nx := e_131_1 (nr_r c)
theorem e_131_17n : Df d 131 17 [l0, l1, l2, .null, l4, l5] (.int x :: st) h nx = Df d 131 18 [l0, l1, l2, .int x, l4, l5] st h nx := e_131_17 nr_n
theorem e_131_17i : Df d 131 17 [l0, l1, l2, .int p, l4, l5] (.int x :: st) h nx = Df d 131 18 [l0, l1, l2, .int x, l4, l5] st h nx := e_131_17 (nr_i p)
theorem e_131_17r : Df d 131 17 [l0, l1, l2, .ref c, l4, l5] (.int x :: st) h nx = Df d 131 18 [l0, l1, l2, .int x, l4, l5] st h nx := e_131_17 (nr_r c)
theorem e_131_19n : Df d 131 19 [l0, l1, l2, l3, .null, l5] (.int x :: st) h nx = Df d 131 21 [l0, l1, l2, l3, .int x, l5] st h nx := e_131_19 nr_n
theorem e_131_19i : Df d 131 19 [l0, l1, l2, l3, .int p, l5] (.int x :: st) h nx = Df d 131 21 [l0, l1, l2, l3, .int x, l5] st h nx := e_131_19 (nr_i p)
theorem e_131_19r : Df d 131 19 [l0, l1, l2, l3, .ref c, l5] (.int x :: st) h nx = Df d 131 21 [l0, l1, l2, l3, .int x, l5] st h nx := e_131_19 (nr_r c)
theorem e_131_42n : Df d 131 42 [l0, l1, l2, l3, l4, .null] (.int x :: st) h nx = Df d 131 44 [l0, l1, l2, l3, l4, .int x] st h nx := e_131_42 nr_n
theorem e_131_42i : Df d 131 42 [l0, l1, l2, l3, l4, .int p] (.int x :: st) h nx = Df d 131 44 [l0, l1, l2, l3, l4, .int x] st h nx := e_131_42 (nr_i p)
theorem e_131_42r : Df d 131 42 [l0, l1, l2, l3, l4, .ref c] (.int x :: st) h nx = Df d 131 44 [l0, l1, l2, l3, l4, .int x] st h nx := e_131_42 (nr_r c)
theorem e_136_7n : Df d 136 7 [l0, .null, l2] (.int x :: st) h nx = Df d 136 8 [l0, .int x, l2] st h nx := e_136_7 nr_n
theorem e_136_7i : Df d 136 7 [l0, .int p, l2] (.int x :: st) h nx = Df d 136 8 [l0, .int x, l2] st h nx := e_136_7 (nr_i p)
theorem e_136_7r : Df d 136 7 [l0, .ref c, l2] (.int x :: st) h nx = Df d 136 8 [l0, .int x, l2] st h nx := e_136_7 (nr_r c)
theorem e_136_9n : Df d 136 9 [l0, l1, .null] (.int x :: st) h nx = Df d 136 10 [l0, l1, .int x] st h nx := e_136_9 nr_n
theorem e_136_9i : Df d 136 9 [l0, l1, .int p] (.int x :: st) h nx = Df d 136 10 [l0, l1, .int x] st h nx := e_136_9 (nr_i p)
theorem e_136_9r : Df d 136 9 [l0, l1, .ref c] (.int x :: st) h nx = Df d 136 10 [l0, l1, .int x] st h nx := e_136_9 (nr_r c)
theorem e_137_33n : Df d 137 33 [l0, l1, .null] (.int x :: st) h nx = Df d 137 34 [l0, l1, .int x] st h nx := e_137_33 nr_n
theorem e_137_33i : Df d 137 33 [l0, l1, .int p] (.int x :: st) h nx = Df d 137 34 [l0, l1, .int x] st h nx := e_137_33 (nr_i p)
theorem e_137_33r : Df d 137 33 [l0, l1, .ref c] (.int x :: st) h nx = Df d 137 34 [l0, l1, .int x] st h nx := e_137_33 (nr_r c)
theorem e_138_6n : Df d 138 6 [l0, l1, .null] (.int x :: st) h nx = Df d 138 7 [l0, l1, .int x] st h nx := e_138_6 nr_n
theorem e_138_6i : Df d 138 6 [l0, l1, .int p] (.int x :: st) h nx = Df d 138 7 [l0, l1, .int x] st h nx := e_138_6 (nr_i p)
theorem e_138_6r : Df d 138 6 [l0, l1, .ref c] (.int x :: st) h nx = Df d 138 7 [l0, l1, .int x] st h nx := e_138_6 (nr_r c)
theorem e_142_6n : Df d 142 6 [l0, l1, l2, .null] (.int x :: st) h nx = Df d 142 7 [l0, l1, l2, .int x] st h nx := e_142_6 nr_n
theorem e_142_6i : Df d 142 6 [l0, l1, l2, .int p] (.int x :: st) h nx = Df d 142 7 [l0, l1, l2, .int x] st h nx := e_142_6 (nr_i p)
theorem e_142_6r : Df d 142 6 [l0, l1, l2, .ref c] (.int x :: st) h nx = Df d 142 7 [l0, l1, l2, .int x] st h nx := e_142_6 (nr_r c)
theorem e_146_20n : Df d 146 20 [l0, l1, l2, .null, l4] (.int x :: st) h nx = Df d 146 21 [l0, l1, l2, .int x, l4] st h nx := e_146_20 nr_n
theorem e_146_20i : Df d 146 20 [l0, l1, l2, .int p, l4] (.int x :: st) h nx = Df d 146 21 [l0, l1, l2, .int x, l4] st h nx := e_146_20 (nr_i p)
theorem e_146_20r : Df d 146 20 [l0, l1, l2, .ref c, l4] (.int x :: st) h nx = Df d 146 21 [l0, l1, l2, .int x, l4] st h nx := e_146_20 (nr_r c)
theorem e_146_53n : Df d 146 53 [l0, l1, l2, l3, .null] (.int x :: st) h nx = Df d 146 55 [l0, l1, l2, l3, .int x] st h nx := e_146_53 nr_n
theorem e_146_53i : Df d 146 53 [l0, l1, l2, l3, .int p] (.int x :: st) h nx = Df d 146 55 [l0, l1, l2, l3, .int x] st h nx := e_146_53 (nr_i p)
theorem e_146_53r : Df d 146 53 [l0, l1, l2, l3, .ref c] (.int x :: st) h nx = Df d 146 55 [l0, l1, l2, l3, .int x] st h nx := e_146_53 (nr_r c)
theorem e_147_14n : Df d 147 14 [l0, l1, .null, l3, l4, l5] (.int x :: st) h nx = Df d 147 15 [l0, l1, .int x, l3, l4, l5] st h nx := e_147_14 nr_n
theorem e_147_14i : Df d 147 14 [l0, l1, .int p, l3, l4, l5] (.int x :: st) h nx = Df d 147 15 [l0, l1, .int x, l3, l4, l5] st h nx := e_147_14 (nr_i p)
theorem e_147_14r : Df d 147 14 [l0, l1, .ref c, l3, l4, l5] (.int x :: st) h nx = Df d 147 15 [l0, l1, .int x, l3, l4, l5] st h nx := e_147_14 (nr_r c)
theorem e_147_38n : Df d 147 38 [l0, l1, l2, .null, l4, l5] (.int x :: st) h nx = Df d 147 39 [l0, l1, l2, .int x, l4, l5] st h nx := e_147_38 nr_n
theorem e_147_38i : Df d 147 38 [l0, l1, l2, .int p, l4, l5] (.int x :: st) h nx = Df d 147 39 [l0, l1, l2, .int x, l4, l5] st h nx := e_147_38 (nr_i p)
theorem e_147_38r : Df d 147 38 [l0, l1, l2, .ref c, l4, l5] (.int x :: st) h nx = Df d 147 39 [l0, l1, l2, .int x, l4, l5] st h nx := e_147_38 (nr_r c)
theorem e_147_46n : Df d 147 46 [l0, l1, l2, l3, .null, l5] (.int x :: st) h nx = Df d 147 48 [l0, l1, l2, l3, .int x, l5] st h nx := e_147_46 nr_n
theorem e_147_46i : Df d 147 46 [l0, l1, l2, l3, .int p, l5] (.int x :: st) h nx = Df d 147 48 [l0, l1, l2, l3, .int x, l5] st h nx := e_147_46 (nr_i p)
theorem e_147_46r : Df d 147 46 [l0, l1, l2, l3, .ref c, l5] (.int x :: st) h nx = Df d 147 48 [l0, l1, l2, l3, .int x, l5] st h nx := e_147_46 (nr_r c)
theorem e_147_62n : Df d 147 62 [l0, l1, l2, l3, l4, .null] (.int x :: st) h nx = Df d 147 64 [l0, l1, l2, l3, l4, .int x] st h nx := e_147_62 nr_n
theorem e_147_62i : Df d 147 62 [l0, l1, l2, l3, l4, .int p] (.int x :: st) h nx = Df d 147 64 [l0, l1, l2, l3, l4, .int x] st h nx := e_147_62 (nr_i p)
theorem e_147_62r : Df d 147 62 [l0, l1, l2, l3, l4, .ref c] (.int x :: st) h nx = Df d 147 64 [l0, l1, l2, l3, l4, .int x] st h nx := e_147_62 (nr_r c)
theorem e_150_20n : Df d 150 20 [l0, l1, .null] (.int x :: st) h nx = Df d 150 21 [l0, l1, .int x] st h nx := e_150_20 nr_n
theorem e_150_20i : Df d 150 20 [l0, l1, .int p] (.int x :: st) h nx = Df d 150 21 [l0, l1, .int x] st h nx := e_150_20 (nr_i p)
theorem e_150_20r : Df d 150 20 [l0, l1, .ref c] (.int x :: st) h nx = Df d 150 21 [l0, l1, .int x] st h nx := e_150_20 (nr_r c)
theorem e_151_1n : Df d 151 1 [l0, l1, .null] (.int x :: st) h nx = Df d 151 2 [l0, l1, .int x] st h nx := e_151_1 nr_n
theorem e_151_1i : Df d 151 1 [l0, l1, .int p] (.int x :: st) h nx = Df d 151 2 [l0, l1, .int x] st h nx := e_151_1 (nr_i p)
theorem e_151_1r : Df d 151 1 [l0, l1, .ref c] (.int x :: st) h nx = Df d 151 2 [l0, l1, .int x] st h nx := e_151_1 (nr_r c)
theorem e_152_17n : Df d 152 17 [l0, .null, l2] (.int x :: st) h nx = Df d 152 18 [l0, .int x, l2] st h nx := e_152_17 nr_n
theorem e_152_17i : Df d 152 17 [l0, .int p, l2] (.int x :: st) h nx = Df d 152 18 [l0, .int x, l2] st h nx := e_152_17 (nr_i p)
theorem e_152_17r : Df d 152 17 [l0, .ref c, l2] (.int x :: st) h nx = Df d 152 18 [l0, .int x, l2] st h nx := e_152_17 (nr_r c)
theorem e_152_35n : Df d 152 35 [l0, l1, .null] (.int x :: st) h nx = Df d 152 36 [l0, l1, .int x] st h nx := e_152_35 nr_n
theorem e_152_35i : Df d 152 35 [l0, l1, .int p] (.int x :: st) h nx = Df d 152 36 [l0, l1, .int x] st h nx := e_152_35 (nr_i p)
theorem e_152_35r : Df d 152 35 [l0, l1, .ref c] (.int x :: st) h nx = Df d 152 36 [l0, l1, .int x] st h nx := e_152_35 (nr_r c)
theorem e_152_66n : Df d 152 66 [l0, l1, .null] (.int x :: st) h nx = Df d 152 67 [l0, l1, .int x] st h nx := e_152_66 nr_n
theorem e_152_66i : Df d 152 66 [l0, l1, .int p] (.int x :: st) h nx = Df d 152 67 [l0, l1, .int x] st h nx := e_152_66 (nr_i p)
theorem e_152_66r : Df d 152 66 [l0, l1, .ref c] (.int x :: st) h nx = Df d 152 67 [l0, l1, .int x] st h nx := e_152_66 (nr_r c)
theorem e_152_105i : Df d 152 105 [l0, l1, l2] (.int p :: .ref c :: st) h nx = Df d 152 106 [l0, l1, l2] (.int p :: .ref c :: .int p :: .ref c :: st) h nx := e_152_105 rfl rfl
theorem e_153_1n : Df d 153 1 [l0, .null, l2] (.int x :: st) h nx = Df d 153 2 [l0, .int x, l2] st h nx := e_153_1 nr_n
theorem e_153_1i : Df d 153 1 [l0, .int p, l2] (.int x :: st) h nx = Df d 153 2 [l0, .int x, l2] st h nx := e_153_1 (nr_i p)
theorem e_153_1r : Df d 153 1 [l0, .ref c, l2] (.int x :: st) h nx = Df d 153 2 [l0, .int x, l2] st h nx := e_153_1 (nr_r c)
theorem e_153_3n : Df d 153 3 [l0, l1, .null] (.int x :: st) h nx = Df d 153 4 [l0, l1, .int x] st h nx := e_153_3 nr_n
theorem e_153_3i : Df d 153 3 [l0, l1, .int p] (.int x :: st) h nx = Df d 153 4 [l0, l1, .int x] st h nx := e_153_3 (nr_i p)
theorem e_153_3r : Df d 153 3 [l0, l1, .ref c] (.int x :: st) h nx = Df d 153 4 [l0, l1, .int x] st h nx := e_153_3 (nr_r c)
theorem e_153_42n : Df d 153 42 [l0, .null, l2] (.int x :: st) h nx = Df d 153 43 [l0, .int x, l2] st h nx := e_153_42 nr_n
theorem e_153_42i : Df d 153 42 [l0, .int p, l2] (.int x :: st) h nx = Df d 153 43 [l0, .int x, l2] st h nx := e_153_42 (nr_i p)
theorem e_153_42r : Df d 153 42 [l0, .ref c, l2] (.int x :: st) h nx = Df d 153 43 [l0, .int x, l2] st h nx := e_153_42 (nr_r c)
theorem e_155_19n : Df d 155 19 [l0, l1, .null] (.int x :: st) h nx = Df d 155 20 [l0, l1, .int x] st h nx := e_155_19 nr_n
theorem e_155_19i : Df d 155 19 [l0, l1, .int p] (.int x :: st) h nx = Df d 155 20 [l0, l1, .int x] st h nx := e_155_19 (nr_i p)
theorem e_155_19r : Df d 155 19 [l0, l1, .ref c] (.int x :: st) h nx = Df d 155 20 [l0, l1, .int x] st h nx := e_155_19 (nr_r c)
theorem e_155_38n : Df d 155 38 [l0, l1, .null] (.int x :: st) h nx = Df d 155 39 [l0, l1, .int x] st h nx := e_155_38 nr_n
theorem e_155_38i : Df d 155 38 [l0, l1, .int p] (.int x :: st) h nx = Df d 155 39 [l0, l1, .int x] st h nx := e_155_38 (nr_i p)
theorem e_155_38r : Df d 155 38 [l0, l1, .ref c] (.int x :: st) h nx = Df d 155 39 [l0, l1, .int x] st h nx := e_155_38 (nr_r c)
theorem e_155_45i : Df d 155 45 [l0, l1, l2] (.int p :: .ref c :: st) h nx = Df d 155 46 [l0, l1, l2] (.int p :: .ref c :: .int p :: .ref c :: st) h nx := e_155_45 rfl rfl
theorem e_156_10n : Df d 156 10 [l0, l1, .null, l3] (.int x :: st) h nx = Df d 156 11 [l0, l1, .int x, l3] st h nx := e_156_10 nr_n
theorem e_156_10i : Df d 156 10 [l0, l1, .int p, l3] (.int x :: st) h nx = Df d 156 11 [l0, l1, .int x, l3] st h nx := e_156_10 (nr_i p)
theorem e_156_10r : Df d 156 10 [l0, l1, .ref c, l3] (.int x :: st) h nx = Df d 156 11 [l0, l1, .int x, l3] st h nx := e_156_10 (nr_r c)
theorem e_156_34i : Df d 156 34 [l0, l1, l2, l3] (.int p :: .ref c :: st) h nx = Df d 156 35 [l0, l1, l2, l3] (.int p :: .ref c :: .int p :: .ref c :: st) h nx := e_156_34 rfl rfl
theorem e_156_66n : Df d 156 66 [l0, l1, l2, .null] (.int x :: st) h nx = Df d 156 67 [l0, l1, l2, .int x] st h nx := e_156_66 nr_n
theorem e_156_66i : Df d 156 66 [l0, l1, l2, .int p] (.int x :: st) h nx = Df d 156 67 [l0, l1, l2, .int x] st h nx := e_156_66 (nr_i p)
theorem e_156_66r : Df d 156 66 [l0, l1, l2, .ref c] (.int x :: st) h nx = Df d 156 67 [l0, l1, l2, .int x] st h nx := e_156_66 (nr_r c)
theorem e_156_72i : Df d 156 72 [l0, l1, l2, l3] (.int p :: .ref c :: st) h nx = Df d 156 73 [l0, l1, l2, l3] (.int p :: .ref c :: .int p :: .ref c :: st) h nx := e_156_72 rfl rfl
theorem e_158_51n : Df d 158 51 [l0, l1, .null, l3] (.int x :: st) h nx = Df d 158 52 [l0, l1, .int x, l3] st h nx := e_158_51 nr_n
theorem e_158_51i : Df d 158 51 [l0, l1, .int p, l3] (.int x :: st) h nx = Df d 158 52 [l0, l1, .int x, l3] st h nx := e_158_51 (nr_i p)
theorem e_158_51r : Df d 158 51 [l0, l1, .ref c, l3] (.int x :: st) h nx = Df d 158 52 [l0, l1, .int x, l3] st h nx := e_158_51 (nr_r c)
theorem e_158_67n : Df d 158 67 [l0, l1, l2, .null] (.int x :: st) h nx = Df d 158 68 [l0, l1, l2, .int x] st h nx := e_158_67 nr_n
theorem e_158_67i : Df d 158 67 [l0, l1, l2, .int p] (.int x :: st) h nx = Df d 158 68 [l0, l1, l2, .int x] st h nx := e_158_67 (nr_i p)
theorem e_158_67r : Df d 158 67 [l0, l1, l2, .ref c] (.int x :: st) h nx = Df d 158 68 [l0, l1, l2, .int x] st h nx := e_158_67 (nr_r c)
theorem e_159_1n : Df d 159 1 [l0, .null, l2] (.int x :: st) h nx = Df d 159 2 [l0, .int x, l2] st h nx := e_159_1 nr_n
theorem e_159_1i : Df d 159 1 [l0, .int p, l2] (.int x :: st) h nx = Df d 159 2 [l0, .int x, l2] st h nx := e_159_1 (nr_i p)
theorem e_159_1r : Df d 159 1 [l0, .ref c, l2] (.int x :: st) h nx = Df d 159 2 [l0, .int x, l2] st h nx := e_159_1 (nr_r c)
theorem e_159_3n : Df d 159 3 [l0, l1, .null] (.int x :: st) h nx = Df d 159 4 [l0, l1, .int x] st h nx := e_159_3 nr_n
theorem e_159_3i : Df d 159 3 [l0, l1, .int p] (.int x :: st) h nx = Df d 159 4 [l0, l1, .int x] st h nx := e_159_3 (nr_i p)
theorem e_159_3r : Df d 159 3 [l0, l1, .ref c] (.int x :: st) h nx = Df d 159 4 [l0, l1, .int x] st h nx := e_159_3 (nr_r c)
theorem e_159_51i : Df d 159 51 [l0, l1, l2] (.int p :: .ref c :: st) h nx = Df d 159 52 [l0, l1, l2] (.int p :: .ref c :: .int p :: .ref c :: st) h nx := e_159_51 rfl rfl
theorem e_159_64n : Df d 159 64 [l0, .null, l2] (.int x :: st) h nx = Df d 159 65 [l0, .int x, l2] st h nx := e_159_64 nr_n
theorem e_159_64i : Df d 159 64 [l0, .int p, l2] (.int x :: st) h nx = Df d 159 65 [l0, .int x, l2] st h nx := e_159_64 (nr_i p)
theorem e_159_64r : Df d 159 64 [l0, .ref c, l2] (.int x :: st) h nx = Df d 159 65 [l0, .int x, l2] st h nx := e_159_64 (nr_r c)
theorem e_159_82n : Df d 159 82 [l0, l1, .null] (.int x :: st) h nx = Df d 159 83 [l0, l1, .int x] st h nx := e_159_82 nr_n
theorem e_159_82i : Df d 159 82 [l0, l1, .int p] (.int x :: st) h nx = Df d 159 83 [l0, l1, .int x] st h nx := e_159_82 (nr_i p)
theorem e_159_82r : Df d 159 82 [l0, l1, .ref c] (.int x :: st) h nx = Df d 159 83 [l0, l1, .int x] st h nx := e_159_82 (nr_r c)
theorem e_160_87n : Df d 160 87 [l0, l1, .null, l3] (.int x :: st) h nx = Df d 160 88 [l0, l1, .int x, l3] st h nx := e_160_87 nr_n
theorem e_160_87i : Df d 160 87 [l0, l1, .int p, l3] (.int x :: st) h nx = Df d 160 88 [l0, l1, .int x, l3] st h nx := e_160_87 (nr_i p)
theorem e_160_87r : Df d 160 87 [l0, l1, .ref c, l3] (.int x :: st) h nx = Df d 160 88 [l0, l1, .int x, l3] st h nx := e_160_87 (nr_r c)
theorem e_160_89n : Df d 160 89 [l0, l1, l2, .null] (.int x :: st) h nx = Df d 160 90 [l0, l1, l2, .int x] st h nx := e_160_89 nr_n
theorem e_160_89i : Df d 160 89 [l0, l1, l2, .int p] (.int x :: st) h nx = Df d 160 90 [l0, l1, l2, .int x] st h nx := e_160_89 (nr_i p)
theorem e_160_89r : Df d 160 89 [l0, l1, l2, .ref c] (.int x :: st) h nx = Df d 160 90 [l0, l1, l2, .int x] st h nx := e_160_89 (nr_r c)
theorem e_160_117n : Df d 160 117 [l0, l1, .null, l3] (.int x :: st) h nx = Df d 160 118 [l0, l1, .int x, l3] st h nx := e_160_117 nr_n
theorem e_160_117i : Df d 160 117 [l0, l1, .int p, l3] (.int x :: st) h nx = Df d 160 118 [l0, l1, .int x, l3] st h nx := e_160_117 (nr_i p)
theorem e_160_117r : Df d 160 117 [l0, l1, .ref c, l3] (.int x :: st) h nx = Df d 160 118 [l0, l1, .int x, l3] st h nx := e_160_117 (nr_r c)
theorem e_162_1n : Df d 162 1 [l0, .null, l2] (.int x :: st) h nx = Df d 162 2 [l0, .int x, l2] st h nx := e_162_1 nr_n
theorem e_162_1i : Df d 162 1 [l0, .int p, l2] (.int x :: st) h nx = Df d 162 2 [l0, .int x, l2] st h nx := e_162_1 (nr_i p)
theorem e_162_1r : Df d 162 1 [l0, .ref c, l2] (.int x :: st) h nx = Df d 162 2 [l0, .int x, l2] st h nx := e_162_1 (nr_r c)
theorem e_162_3n : Df d 162 3 [l0, l1, .null] (.int x :: st) h nx = Df d 162 4 [l0, l1, .int x] st h nx := e_162_3 nr_n
theorem e_162_3i : Df d 162 3 [l0, l1, .int p] (.int x :: st) h nx = Df d 162 4 [l0, l1, .int x] st h nx := e_162_3 (nr_i p)
theorem e_162_3r : Df d 162 3 [l0, l1, .ref c] (.int x :: st) h nx = Df d 162 4 [l0, l1, .int x] st h nx := e_162_3 (nr_r c)
theorem e_162_31n : Df d 162 31 [l0, .null, l2] (.int x :: st) h nx = Df d 162 32 [l0, .int x, l2] st h nx := e_162_31 nr_n
theorem e_162_31i : Df d 162 31 [l0, .int p, l2] (.int x :: st) h nx = Df d 162 32 [l0, .int x, l2] st h nx := e_162_31 (nr_i p)
theorem e_162_31r : Df d 162 31 [l0, .ref c, l2] (.int x :: st) h nx = Df d 162 32 [l0, .int x, l2] st h nx := e_162_31 (nr_r c)
theorem e_163_1n : Df d 163 1 [l0, .null, l2] (.int x :: st) h nx = Df d 163 2 [l0, .int x, l2] st h nx := e_163_1 nr_n
theorem e_163_1i : Df d 163 1 [l0, .int p, l2] (.int x :: st) h nx = Df d 163 2 [l0, .int x, l2] st h nx := e_163_1 (nr_i p)
theorem e_163_1r : Df d 163 1 [l0, .ref c, l2] (.int x :: st) h nx = Df d 163 2 [l0, .int x, l2] st h nx := e_163_1 (nr_r c)
theorem e_163_3n : Df d 163 3 [l0, l1, .null] (.int x :: st) h nx = Df d 163 4 [l0, l1, .int x] st h nx := e_163_3 nr_n
theorem e_163_3i : Df d 163 3 [l0, l1, .int p] (.int x :: st) h nx = Df d 163 4 [l0, l1, .int x] st h nx := e_163_3 (nr_i p)
theorem e_163_3r : Df d 163 3 [l0, l1, .ref c] (.int x :: st) h nx = Df d 163 4 [l0, l1, .int x] st h nx := e_163_3 (nr_r c)
theorem e_163_34n : Df d 163 34 [l0, .null, l2] (.int x :: st) h nx = Df d 163 35 [l0, .int x, l2] st h nx := e_163_34 nr_n
theorem e_163_34i : Df d 163 34 [l0, .int p, l2] (.int x :: st) h nx = Df d 163 35 [l0, .int x, l2] st h nx := e_163_34 (nr_i p)
theorem e_163_34r : Df d 163 34 [l0, .ref c, l2] (.int x :: st) h nx = Df d 163 35 [l0, .int x, l2] st h nx := e_163_34 (nr_r c)
theorem e_164_90n : Df d 164 90 [l0, l1, l2, .null] (.int x :: st) h nx = Df d 164 91 [l0, l1, l2, .int x] st h nx := e_164_90 nr_n
theorem e_164_90i : Df d 164 90 [l0, l1, l2, .int p] (.int x :: st) h nx = Df d 164 91 [l0, l1, l2, .int x] st h nx := e_164_90 (nr_i p)
theorem e_164_90r : Df d 164 90 [l0, l1, l2, .ref c] (.int x :: st) h nx = Df d 164 91 [l0, l1, l2, .int x] st h nx := e_164_90 (nr_r c)
theorem e_165_1n : Df d 165 1 [l0, .null] (.int x :: st) h nx = Df d 165 2 [l0, .int x] st h nx := e_165_1 nr_n
theorem e_165_1i : Df d 165 1 [l0, .int p] (.int x :: st) h nx = Df d 165 2 [l0, .int x] st h nx := e_165_1 (nr_i p)
theorem e_165_1r : Df d 165 1 [l0, .ref c] (.int x :: st) h nx = Df d 165 2 [l0, .int x] st h nx := e_165_1 (nr_r c)
theorem e_166_1n : Df d 166 1 [l0, .null] (.int x :: st) h nx = Df d 166 2 [l0, .int x] st h nx := e_166_1 nr_n
theorem e_166_1i : Df d 166 1 [l0, .int p] (.int x :: st) h nx = Df d 166 2 [l0, .int x] st h nx := e_166_1 (nr_i p)
theorem e_166_1r : Df d 166 1 [l0, .ref c] (.int x :: st) h nx = Df d 166 2 [l0, .int x] st h nx := e_166_1 (nr_r c)
theorem e_167_11n : Df d 167 11 [l0, .null, l2, l3] (.int x :: st) h nx = Df d 167 12 [l0, .int x, l2, l3] st h nx := e_167_11 nr_n
theorem e_167_11i : Df d 167 11 [l0, .int p, l2, l3] (.int x :: st) h nx = Df d 167 12 [l0, .int x, l2, l3] st h nx := e_167_11 (nr_i p)
theorem e_167_11r : Df d 167 11 [l0, .ref c, l2, l3] (.int x :: st) h nx = Df d 167 12 [l0, .int x, l2, l3] st h nx := e_167_11 (nr_r c)
theorem e_167_13n : Df d 167 13 [l0, l1, .null, l3] (.int x :: st) h nx = Df d 167 14 [l0, l1, .int x, l3] st h nx := e_167_13 nr_n
theorem e_167_13i : Df d 167 13 [l0, l1, .int p, l3] (.int x :: st) h nx = Df d 167 14 [l0, l1, .int x, l3] st h nx := e_167_13 (nr_i p)
theorem e_167_13r : Df d 167 13 [l0, l1, .ref c, l3] (.int x :: st) h nx = Df d 167 14 [l0, l1, .int x, l3] st h nx := e_167_13 (nr_r c)
theorem e_167_59n : Df d 167 59 [l0, l1, l2, .null] (.int x :: st) h nx = Df d 167 60 [l0, l1, l2, .int x] st h nx := e_167_59 nr_n
theorem e_167_59i : Df d 167 59 [l0, l1, l2, .int p] (.int x :: st) h nx = Df d 167 60 [l0, l1, l2, .int x] st h nx := e_167_59 (nr_i p)
theorem e_167_59r : Df d 167 59 [l0, l1, l2, .ref c] (.int x :: st) h nx = Df d 167 60 [l0, l1, l2, .int x] st h nx := e_167_59 (nr_r c)
theorem e_168_27n : Df d 168 27 [l0, l1, l2, .null, l4, l5, l6] (.int x :: st) h nx = Df d 168 28 [l0, l1, l2, .int x, l4, l5, l6] st h nx := e_168_27 nr_n
theorem e_168_27i : Df d 168 27 [l0, l1, l2, .int p, l4, l5, l6] (.int x :: st) h nx = Df d 168 28 [l0, l1, l2, .int x, l4, l5, l6] st h nx := e_168_27 (nr_i p)
theorem e_168_27r : Df d 168 27 [l0, l1, l2, .ref c, l4, l5, l6] (.int x :: st) h nx = Df d 168 28 [l0, l1, l2, .int x, l4, l5, l6] st h nx := e_168_27 (nr_r c)
theorem e_168_30n : Df d 168 30 [l0, l1, l2, l3, .null, l5, l6] (.int x :: st) h nx = Df d 168 32 [l0, l1, l2, l3, .int x, l5, l6] st h nx := e_168_30 nr_n
theorem e_168_30i : Df d 168 30 [l0, l1, l2, l3, .int p, l5, l6] (.int x :: st) h nx = Df d 168 32 [l0, l1, l2, l3, .int x, l5, l6] st h nx := e_168_30 (nr_i p)
theorem e_168_30r : Df d 168 30 [l0, l1, l2, l3, .ref c, l5, l6] (.int x :: st) h nx = Df d 168 32 [l0, l1, l2, l3, .int x, l5, l6] st h nx := e_168_30 (nr_r c)
theorem e_168_33n : Df d 168 33 [l0, l1, l2, l3, l4, .null, l6] (.int x :: st) h nx = Df d 168 35 [l0, l1, l2, l3, l4, .int x, l6] st h nx := e_168_33 nr_n
theorem e_168_33i : Df d 168 33 [l0, l1, l2, l3, l4, .int p, l6] (.int x :: st) h nx = Df d 168 35 [l0, l1, l2, l3, l4, .int x, l6] st h nx := e_168_33 (nr_i p)
theorem e_168_33r : Df d 168 33 [l0, l1, l2, l3, l4, .ref c, l6] (.int x :: st) h nx = Df d 168 35 [l0, l1, l2, l3, l4, .int x, l6] st h nx := e_168_33 (nr_r c)
theorem e_168_83n : Df d 168 83 [l0, l1, l2, l3, l4, l5, .null] (.int x :: st) h nx = Df d 168 85 [l0, l1, l2, l3, l4, l5, .int x] st h nx := e_168_83 nr_n
theorem e_168_83i : Df d 168 83 [l0, l1, l2, l3, l4, l5, .int p] (.int x :: st) h nx = Df d 168 85 [l0, l1, l2, l3, l4, l5, .int x] st h nx := e_168_83 (nr_i p)
theorem e_168_83r : Df d 168 83 [l0, l1, l2, l3, l4, l5, .ref c] (.int x :: st) h nx = Df d 168 85 [l0, l1, l2, l3, l4, l5, .int x] st h nx := e_168_83 (nr_r c)
theorem e_168_98n : Df d 168 98 [l0, l1, l2, .null, l4, l5, l6] (.int x :: st) h nx = Df d 168 99 [l0, l1, l2, .int x, l4, l5, l6] st h nx := e_168_98 nr_n
theorem e_168_98i : Df d 168 98 [l0, l1, l2, .int p, l4, l5, l6] (.int x :: st) h nx = Df d 168 99 [l0, l1, l2, .int x, l4, l5, l6] st h nx := e_168_98 (nr_i p)
theorem e_168_98r : Df d 168 98 [l0, l1, l2, .ref c, l4, l5, l6] (.int x :: st) h nx = Df d 168 99 [l0, l1, l2, .int x, l4, l5, l6] st h nx := e_168_98 (nr_r c)
theorem e_168_113n : Df d 168 113 [l0, l1, l2, l3, .null, l5, l6] (.int x :: st) h nx = Df d 168 115 [l0, l1, l2, l3, .int x, l5, l6] st h nx := e_168_113 nr_n
theorem e_168_113i : Df d 168 113 [l0, l1, l2, l3, .int p, l5, l6] (.int x :: st) h nx = Df d 168 115 [l0, l1, l2, l3, .int x, l5, l6] st h nx := e_168_113 (nr_i p)
theorem e_168_113r : Df d 168 113 [l0, l1, l2, l3, .ref c, l5, l6] (.int x :: st) h nx = Df d 168 115 [l0, l1, l2, l3, .int x, l5, l6] st h nx := e_168_113 (nr_r c)
theorem e_169_12n : Df d 169 12 [l0, l1, .null] (.int x :: st) h nx = Df d 169 13 [l0, l1, .int x] st h nx := e_169_12 nr_n
theorem e_169_12i : Df d 169 12 [l0, l1, .int p] (.int x :: st) h nx = Df d 169 13 [l0, l1, .int x] st h nx := e_169_12 (nr_i p)
theorem e_169_12r : Df d 169 12 [l0, l1, .ref c] (.int x :: st) h nx = Df d 169 13 [l0, l1, .int x] st h nx := e_169_12 (nr_r c)
theorem e_170_35n : Df d 170 35 [l0, l1, l2, l3, .null, l5, l6, l7] (.int x :: st) h nx = Df d 170 37 [l0, l1, l2, l3, .int x, l5, l6, l7] st h nx := e_170_35 nr_n
theorem e_170_35i : Df d 170 35 [l0, l1, l2, l3, .int p, l5, l6, l7] (.int x :: st) h nx = Df d 170 37 [l0, l1, l2, l3, .int x, l5, l6, l7] st h nx := e_170_35 (nr_i p)
theorem e_170_35r : Df d 170 35 [l0, l1, l2, l3, .ref c, l5, l6, l7] (.int x :: st) h nx = Df d 170 37 [l0, l1, l2, l3, .int x, l5, l6, l7] st h nx := e_170_35 (nr_r c)
theorem e_170_39n : Df d 170 39 [l0, l1, l2, l3, l4, .null, l6, l7] (.int x :: st) h nx = Df d 170 41 [l0, l1, l2, l3, l4, .int x, l6, l7] st h nx := e_170_39 nr_n
theorem e_170_39i : Df d 170 39 [l0, l1, l2, l3, l4, .int p, l6, l7] (.int x :: st) h nx = Df d 170 41 [l0, l1, l2, l3, l4, .int x, l6, l7] st h nx := e_170_39 (nr_i p)
theorem e_170_39r : Df d 170 39 [l0, l1, l2, l3, l4, .ref c, l6, l7] (.int x :: st) h nx = Df d 170 41 [l0, l1, l2, l3, l4, .int x, l6, l7] st h nx := e_170_39 (nr_r c)
theorem e_170_42n : Df d 170 42 [l0, l1, l2, l3, l4, l5, .null, l7] (.int x :: st) h nx = Df d 170 44 [l0, l1, l2, l3, l4, l5, .int x, l7] st h nx := e_170_42 nr_n
theorem e_170_42i : Df d 170 42 [l0, l1, l2, l3, l4, l5, .int p, l7] (.int x :: st) h nx = Df d 170 44 [l0, l1, l2, l3, l4, l5, .int x, l7] st h nx := e_170_42 (nr_i p)
theorem e_170_42r : Df d 170 42 [l0, l1, l2, l3, l4, l5, .ref c, l7] (.int x :: st) h nx = Df d 170 44 [l0, l1, l2, l3, l4, l5, .int x, l7] st h nx := e_170_42 (nr_r c)
theorem e_170_64n : Df d 170 64 [l0, l1, l2, l3, l4, l5, l6, .null] (.int x :: st) h nx = Df d 170 66 [l0, l1, l2, l3, l4, l5, l6, .int x] st h nx := e_170_64 nr_n
theorem e_170_64i : Df d 170 64 [l0, l1, l2, l3, l4, l5, l6, .int p] (.int x :: st) h nx = Df d 170 66 [l0, l1, l2, l3, l4, l5, l6, .int x] st h nx := e_170_64 (nr_i p)
theorem e_170_64r : Df d 170 64 [l0, l1, l2, l3, l4, l5, l6, .ref c] (.int x :: st) h nx = Df d 170 66 [l0, l1, l2, l3, l4, l5, l6, .int x] st h nx := e_170_64 (nr_r c)
theorem e_170_80n : Df d 170 80 [l0, l1, l2, l3, .null, l5, l6, l7] (.int x :: st) h nx = Df d 170 82 [l0, l1, l2, l3, .int x, l5, l6, l7] st h nx := e_170_80 nr_n
theorem e_170_80i : Df d 170 80 [l0, l1, l2, l3, .int p, l5, l6, l7] (.int x :: st) h nx = Df d 170 82 [l0, l1, l2, l3, .int x, l5, l6, l7] st h nx := e_170_80 (nr_i p)
theorem e_170_80r : Df d 170 80 [l0, l1, l2, l3, .ref c, l5, l6, l7] (.int x :: st) h nx = Df d 170 82 [l0, l1, l2, l3, .int x, l5, l6, l7] st h nx := e_170_80 (nr_r c)
theorem e_170_96n : Df d 170 96 [l0, l1, l2, l3, l4, .null, l6, l7] (.int x :: st) h nx = Df d 170 98 [l0, l1, l2, l3, l4, .int x, l6, l7] st h nx := e_170_96 nr_n
theorem e_170_96i : Df d 170 96 [l0, l1, l2, l3, l4, .int p, l6, l7] (.int x :: st) h nx = Df d 170 98 [l0, l1, l2, l3, l4, .int x, l6, l7] st h nx := e_170_96 (nr_i p)
theorem e_170_96r : Df d 170 96 [l0, l1, l2, l3, l4, .ref c, l6, l7] (.int x :: st) h nx = Df d 170 98 [l0, l1, l2, l3, l4, .int x, l6, l7] st h nx := e_170_96 (nr_r c)
theorem e_171_22n : Df d 171 22 [l0, l1, .null] (.int x :: st) h nx = Df d 171 23 [l0, l1, .int x] st h nx := e_171_22 nr_n
theorem e_171_22i : Df d 171 22 [l0, l1, .int p] (.int x :: st) h nx = Df d 171 23 [l0, l1, .int x] st h nx := e_171_22 (nr_i p)
theorem e_171_22r : Df d 171 22 [l0, l1, .ref c] (.int x :: st) h nx = Df d 171 23 [l0, l1, .int x] st h nx := e_171_22 (nr_r c)
theorem e_172_18n : Df d 172 18 [l0, l1, .null, l3, l4] (.int x :: st) h nx = Df d 172 19 [l0, l1, .int x, l3, l4] st h nx := e_172_18 nr_n
theorem e_172_18i : Df d 172 18 [l0, l1, .int p, l3, l4] (.int x :: st) h nx = Df d 172 19 [l0, l1, .int x, l3, l4] st h nx := e_172_18 (nr_i p)
theorem e_172_18r : Df d 172 18 [l0, l1, .ref c, l3, l4] (.int x :: st) h nx = Df d 172 19 [l0, l1, .int x, l3, l4] st h nx := e_172_18 (nr_r c)
theorem e_172_20n : Df d 172 20 [l0, l1, l2, .null, l4] (.int x :: st) h nx = Df d 172 21 [l0, l1, l2, .int x, l4] st h nx := e_172_20 nr_n
theorem e_172_20i : Df d 172 20 [l0, l1, l2, .int p, l4] (.int x :: st) h nx = Df d 172 21 [l0, l1, l2, .int x, l4] st h nx := e_172_20 (nr_i p)
theorem e_172_20r : Df d 172 20 [l0, l1, l2, .ref c, l4] (.int x :: st) h nx = Df d 172 21 [l0, l1, l2, .int x, l4] st h nx := e_172_20 (nr_r c)
theorem e_172_32n : Df d 172 32 [l0, l1, l2, l3, .null] (.int x :: st) h nx = Df d 172 34 [l0, l1, l2, l3, .int x] st h nx := e_172_32 nr_n
theorem e_172_32i : Df d 172 32 [l0, l1, l2, l3, .int p] (.int x :: st) h nx = Df d 172 34 [l0, l1, l2, l3, .int x] st h nx := e_172_32 (nr_i p)
theorem e_172_32r : Df d 172 32 [l0, l1, l2, l3, .ref c] (.int x :: st) h nx = Df d 172 34 [l0, l1, l2, l3, .int x] st h nx := e_172_32 (nr_r c)
theorem e_172_98n : Df d 172 98 [l0, l1, .null, l3, l4] (.int x :: st) h nx = Df d 172 99 [l0, l1, .int x, l3, l4] st h nx := e_172_98 nr_n
theorem e_172_98i : Df d 172 98 [l0, l1, .int p, l3, l4] (.int x :: st) h nx = Df d 172 99 [l0, l1, .int x, l3, l4] st h nx := e_172_98 (nr_i p)
theorem e_172_98r : Df d 172 98 [l0, l1, .ref c, l3, l4] (.int x :: st) h nx = Df d 172 99 [l0, l1, .int x, l3, l4] st h nx := e_172_98 (nr_r c)
theorem e_173_18n : Df d 173 18 [l0, l1, .null, l3] (.int x :: st) h nx = Df d 173 19 [l0, l1, .int x, l3] st h nx := e_173_18 nr_n
theorem e_173_18i : Df d 173 18 [l0, l1, .int p, l3] (.int x :: st) h nx = Df d 173 19 [l0, l1, .int x, l3] st h nx := e_173_18 (nr_i p)
theorem e_173_18r : Df d 173 18 [l0, l1, .ref c, l3] (.int x :: st) h nx = Df d 173 19 [l0, l1, .int x, l3] st h nx := e_173_18 (nr_r c)
theorem e_173_20n : Df d 173 20 [l0, l1, l2, .null] (.int x :: st) h nx = Df d 173 21 [l0, l1, l2, .int x] st h nx := e_173_20 nr_n
theorem e_173_20i : Df d 173 20 [l0, l1, l2, .int p] (.int x :: st) h nx = Df d 173 21 [l0, l1, l2, .int x] st h nx := e_173_20 (nr_i p)
theorem e_173_20r : Df d 173 20 [l0, l1, l2, .ref c] (.int x :: st) h nx = Df d 173 21 [l0, l1, l2, .int x] st h nx := e_173_20 (nr_r c)
theorem e_173_41n : Df d 173 41 [l0, l1, .null, l3] (.int x :: st) h nx = Df d 173 42 [l0, l1, .int x, l3] st h nx := e_173_41 nr_n
theorem e_173_41i : Df d 173 41 [l0, l1, .int p, l3] (.int x :: st) h nx = Df d 173 42 [l0, l1, .int x, l3] st h nx := e_173_41 (nr_i p)
theorem e_173_41r : Df d 173 41 [l0, l1, .ref c, l3] (.int x :: st) h nx = Df d 173 42 [l0, l1, .int x, l3] st h nx := e_173_41 (nr_r c)
theorem e_174_44n : Df d 174 44 [l0, l1, l2, l3, .null, l5, l6, l7, l8, l9] (.int x :: st) h nx = Df d 174 46 [l0, l1, l2, l3, .int x, l5, l6, l7, l8, l9] st h nx := e_174_44 nr_n
theorem e_174_44i : Df d 174 44 [l0, l1, l2, l3, .int p, l5, l6, l7, l8, l9] (.int x :: st) h nx = Df d 174 46 [l0, l1, l2, l3, .int x, l5, l6, l7, l8, l9] st h nx := e_174_44 (nr_i p)
theorem e_174_44r : Df d 174 44 [l0, l1, l2, l3, .ref c, l5, l6, l7, l8, l9] (.int x :: st) h nx = Df d 174 46 [l0, l1, l2, l3, .int x, l5, l6, l7, l8, l9] st h nx := e_174_44 (nr_r c)
theorem e_174_53n : Df d 174 53 [l0, l1, l2, l3, l4, .null, .null, l7, l8, l9] (.long xl :: st) h nx = Df d 174 55 [l0, l1, l2, l3, l4, .long xl, .retAddr 0, l7, l8, l9] st h nx := e_174_53 nr_n nl_n
theorem e_174_53l : Df d 174 53 [l0, l1, l2, l3, l4, .long yl, .retAddr 0, l7, l8, l9] (.long xl :: st) h nx = Df d 174 55 [l0, l1, l2, l3, l4, .long xl, .retAddr 0, l7, l8, l9] st h nx := e_174_53 (nr_l yl) rfl
theorem e_174_56n : Df d 174 56 [l0, l1, l2, l3, l4, l5, l6, .null, l8, l9] (.int x :: st) h nx = Df d 174 58 [l0, l1, l2, l3, l4, l5, l6, .int x, l8, l9] st h nx := e_174_56 nr_n
theorem e_174_56i : Df d 174 56 [l0, l1, l2, l3, l4, l5, l6, .int p, l8, l9] (.int x :: st) h nx = Df d 174 58 [l0, l1, l2, l3, l4, l5, l6, .int x, l8, l9] st h nx := e_174_56 (nr_i p)
theorem e_174_56r : Df d 174 56 [l0, l1, l2, l3, l4, l5, l6, .ref c, l8, l9] (.int x :: st) h nx = Df d 174 58 [l0, l1, l2, l3, l4, l5, l6, .int x, l8, l9] st h nx := e_174_56 (nr_r c)
theorem e_174_73n : Df d 174 73 [l0, l1, l2, l3, l4, l5, l6, l7, .null, .null] (.long xl :: st) h nx = Df d 174 75 [l0, l1, l2, l3, l4, l5, l6, l7, .long xl, .retAddr 0] st h nx := e_174_73 nr_n nl_n
theorem e_174_73l : Df d 174 73 [l0, l1, l2, l3, l4, l5, l6, l7, .long yl, .retAddr 0] (.long xl :: st) h nx = Df d 174 75 [l0, l1, l2, l3, l4, l5, l6, l7, .long xl, .retAddr 0] st h nx := e_174_73 (nr_l yl) rfl
theorem e_174_90n : Df d 174 90 [l0, l1, l2, l3, .null, l5, l6, l7, l8, l9] (.int x :: st) h nx = Df d 174 92 [l0, l1, l2, l3, .int x, l5, l6, l7, l8, l9] st h nx := e_174_90 nr_n
theorem e_174_90i : Df d 174 90 [l0, l1, l2, l3, .int p, l5, l6, l7, l8, l9] (.int x :: st) h nx = Df d 174 92 [l0, l1, l2, l3, .int x, l5, l6, l7, l8, l9] st h nx := e_174_90 (nr_i p)
theorem e_174_90r : Df d 174 90 [l0, l1, l2, l3, .ref c, l5, l6, l7, l8, l9] (.int x :: st) h nx = Df d 174 92 [l0, l1, l2, l3, .int x, l5, l6, l7, l8, l9] st h nx := e_174_90 (nr_r c)
theorem e_174_107n : Df d 174 107 [l0, l1, l2, l3, l4, .null, .null, l7, l8, l9] (.long xl :: st) h nx = Df d 174 109 [l0, l1, l2, l3, l4, .long xl, .retAddr 0, l7, l8, l9] st h nx := e_174_107 nr_n nl_n
theorem e_174_107l : Df d 174 107 [l0, l1, l2, l3, l4, .long yl, .retAddr 0, l7, l8, l9] (.long xl :: st) h nx = Df d 174 109 [l0, l1, l2, l3, l4, .long xl, .retAddr 0, l7, l8, l9] st h nx := e_174_107 (nr_l yl) rfl
theorem e_176_8n : Df d 176 8 [l0, l1, l2, l3, .null, .null, l6, l7, l8, l9] (.long xl :: st) h nx = Df d 176 10 [l0, l1, l2, l3, .long xl, .retAddr 0, l6, l7, l8, l9] st h nx := e_176_8 nr_n nl_n
theorem e_176_8l : Df d 176 8 [l0, l1, l2, l3, .long yl, .retAddr 0, l6, l7, l8, l9] (.long xl :: st) h nx = Df d 176 10 [l0, l1, l2, l3, .long xl, .retAddr 0, l6, l7, l8, l9] st h nx := e_176_8 (nr_l yl) rfl
theorem e_176_11n : Df d 176 11 [l0, l1, l2, l3, l4, l5, .null, l7, l8, l9] (.int x :: st) h nx = Df d 176 13 [l0, l1, l2, l3, l4, l5, .int x, l7, l8, l9] st h nx := e_176_11 nr_n
theorem e_176_11i : Df d 176 11 [l0, l1, l2, l3, l4, l5, .int p, l7, l8, l9] (.int x :: st) h nx = Df d 176 13 [l0, l1, l2, l3, l4, l5, .int x, l7, l8, l9] st h nx := e_176_11 (nr_i p)
theorem e_176_11r : Df d 176 11 [l0, l1, l2, l3, l4, l5, .ref c, l7, l8, l9] (.int x :: st) h nx = Df d 176 13 [l0, l1, l2, l3, l4, l5, .int x, l7, l8, l9] st h nx := e_176_11 (nr_r c)
theorem e_176_36n : Df d 176 36 [l0, l1, l2, l3, l4, l5, l6, .null, l8, l9] (.int x :: st) h nx = Df d 176 38 [l0, l1, l2, l3, l4, l5, l6, .int x, l8, l9] st h nx := e_176_36 nr_n
theorem e_176_36i : Df d 176 36 [l0, l1, l2, l3, l4, l5, l6, .int p, l8, l9] (.int x :: st) h nx = Df d 176 38 [l0, l1, l2, l3, l4, l5, l6, .int x, l8, l9] st h nx := e_176_36 (nr_i p)
theorem e_176_36r : Df d 176 36 [l0, l1, l2, l3, l4, l5, l6, .ref c, l8, l9] (.int x :: st) h nx = Df d 176 38 [l0, l1, l2, l3, l4, l5, l6, .int x, l8, l9] st h nx := e_176_36 (nr_r c)
theorem e_176_49n : Df d 176 49 [l0, l1, l2, l3, l4, l5, l6, l7, .null, .null] (.long xl :: st) h nx = Df d 176 51 [l0, l1, l2, l3, l4, l5, l6, l7, .long xl, .retAddr 0] st h nx := e_176_49 nr_n nl_n
theorem e_176_49l : Df d 176 49 [l0, l1, l2, l3, l4, l5, l6, l7, .long yl, .retAddr 0] (.long xl :: st) h nx = Df d 176 51 [l0, l1, l2, l3, l4, l5, l6, l7, .long xl, .retAddr 0] st h nx := e_176_49 (nr_l yl) rfl
theorem e_176_80n : Df d 176 80 [l0, l1, l2, l3, .null, .null, l6, l7, l8, l9] (.long xl :: st) h nx = Df d 176 82 [l0, l1, l2, l3, .long xl, .retAddr 0, l6, l7, l8, l9] st h nx := e_176_80 nr_n nl_n
theorem e_176_80l : Df d 176 80 [l0, l1, l2, l3, .long yl, .retAddr 0, l6, l7, l8, l9] (.long xl :: st) h nx = Df d 176 82 [l0, l1, l2, l3, .long xl, .retAddr 0, l6, l7, l8, l9] st h nx := e_176_80 (nr_l yl) rfl
theorem e_177_5n : Df d 177 5 [l0, .null] (.int x :: st) h nx = Df d 177 6 [l0, .int x] st h nx := e_177_5 nr_n
theorem e_177_5i : Df d 177 5 [l0, .int p] (.int x :: st) h nx = Df d 177 6 [l0, .int x] st h nx := e_177_5 (nr_i p)
theorem e_177_5r : Df d 177 5 [l0, .ref c] (.int x :: st) h nx = Df d 177 6 [l0, .int x] st h nx := e_177_5 (nr_r c)
theorem e_178_16n : Df d 178 16 [l0, l1, .null] (.int x :: st) h nx = Df d 178 17 [l0, l1, .int x] st h nx := e_178_16 nr_n
theorem e_178_16i : Df d 178 16 [l0, l1, .int p] (.int x :: st) h nx = Df d 178 17 [l0, l1, .int x] st h nx := e_178_16 (nr_i p)
theorem e_178_16r : Df d 178 16 [l0, l1, .ref c] (.int x :: st) h nx = Df d 178 17 [l0, l1, .int x] st h nx := e_178_16 (nr_r c)
theorem e_179_16n : Df d 179 16 [l0, l1, l2, l3, .null, l5] (.int x :: st) h nx = Df d 179 18 [l0, l1, l2, l3, .int x, l5] st h nx := e_179_16 nr_n
theorem e_179_16i : Df d 179 16 [l0, l1, l2, l3, .int p, l5] (.int x :: st) h nx = Df d 179 18 [l0, l1, l2, l3, .int x, l5] st h nx := e_179_16 (nr_i p)
theorem e_179_16r : Df d 179 16 [l0, l1, l2, l3, .ref c, l5] (.int x :: st) h nx = Df d 179 18 [l0, l1, l2, l3, .int x, l5] st h nx := e_179_16 (nr_r c)
theorem e_179_47n : Df d 179 47 [l0, l1, l2, l3, l4, .null] (.int x :: st) h nx = Df d 179 49 [l0, l1, l2, l3, l4, .int x] st h nx := e_179_47 nr_n
theorem e_179_47i : Df d 179 47 [l0, l1, l2, l3, l4, .int p] (.int x :: st) h nx = Df d 179 49 [l0, l1, l2, l3, l4, .int x] st h nx := e_179_47 (nr_i p)
theorem e_179_47r : Df d 179 47 [l0, l1, l2, l3, l4, .ref c] (.int x :: st) h nx = Df d 179 49 [l0, l1, l2, l3, l4, .int x] st h nx := e_179_47 (nr_r c)
theorem e_179_85i : Df d 179 85 [l0, l1, l2, l3, l4, l5] (.int p :: st) h nx = Df d 179 86 [l0, l1, l2, l3, l4, l5] (.int p :: .int p :: st) h nx := e_179_85 rfl
theorem e_179_85r : Df d 179 85 [l0, l1, l2, l3, l4, l5] (.ref c :: st) h nx = Df d 179 86 [l0, l1, l2, l3, l4, l5] (.ref c :: .ref c :: st) h nx := e_179_85 rfl
theorem e_181_33n : Df d 181 33 [l0, .null, l2, l3] (.int x :: st) h nx = Df d 181 34 [l0, .int x, l2, l3] st h nx := e_181_33 nr_n
theorem e_181_33i : Df d 181 33 [l0, .int p, l2, l3] (.int x :: st) h nx = Df d 181 34 [l0, .int x, l2, l3] st h nx := e_181_33 (nr_i p)
theorem e_181_33r : Df d 181 33 [l0, .ref c, l2, l3] (.int x :: st) h nx = Df d 181 34 [l0, .int x, l2, l3] st h nx := e_181_33 (nr_r c)
theorem e_181_73n : Df d 181 73 [l0, l1, .null, l3] (.int x :: st) h nx = Df d 181 74 [l0, l1, .int x, l3] st h nx := e_181_73 nr_n
theorem e_181_73i : Df d 181 73 [l0, l1, .int p, l3] (.int x :: st) h nx = Df d 181 74 [l0, l1, .int x, l3] st h nx := e_181_73 (nr_i p)
theorem e_181_73r : Df d 181 73 [l0, l1, .ref c, l3] (.int x :: st) h nx = Df d 181 74 [l0, l1, .int x, l3] st h nx := e_181_73 (nr_r c)
theorem e_181_116n : Df d 181 116 [l0, l1, l2, .null] (.int x :: st) h nx = Df d 181 117 [l0, l1, l2, .int x] st h nx := e_181_116 nr_n
theorem e_181_116i : Df d 181 116 [l0, l1, l2, .int p] (.int x :: st) h nx = Df d 181 117 [l0, l1, l2, .int x] st h nx := e_181_116 (nr_i p)
theorem e_181_116r : Df d 181 116 [l0, l1, l2, .ref c] (.int x :: st) h nx = Df d 181 117 [l0, l1, l2, .int x] st h nx := e_181_116 (nr_r c)
theorem e_181_157i : Df d 181 157 [l0, l1, l2, l3] (.int p :: .ref c :: st) h nx = Df d 181 158 [l0, l1, l2, l3] (.int p :: .ref c :: .int p :: .ref c :: st) h nx := e_181_157 rfl rfl
theorem e_182_26i : Df d 182 26 [l0, l1] (.int p :: st) h nx = Df d 182 27 [l0, l1] (.int p :: .int p :: st) h nx := e_182_26 rfl
theorem e_182_26r : Df d 182 26 [l0, l1] (.ref c :: st) h nx = Df d 182 27 [l0, l1] (.ref c :: .ref c :: st) h nx := e_182_26 rfl
theorem e_182_62n : Df d 182 62 [l0, .null] (.int x :: st) h nx = Df d 182 63 [l0, .int x] st h nx := e_182_62 nr_n
theorem e_182_62i : Df d 182 62 [l0, .int p] (.int x :: st) h nx = Df d 182 63 [l0, .int x] st h nx := e_182_62 (nr_i p)
theorem e_182_62r : Df d 182 62 [l0, .ref c] (.int x :: st) h nx = Df d 182 63 [l0, .int x] st h nx := e_182_62 (nr_r c)
theorem e_182_105i : Df d 182 105 [l0, l1] (.int p :: st) h nx = Df d 182 106 [l0, l1] (.int p :: .int p :: st) h nx := e_182_105 rfl
theorem e_182_105r : Df d 182 105 [l0, l1] (.ref c :: st) h nx = Df d 182 106 [l0, l1] (.ref c :: .ref c :: st) h nx := e_182_105 rfl
theorem e_182_226i : Df d 182 226 [l0, l1] (.int p :: st) h nx = Df d 182 227 [l0, l1] (.int p :: .int p :: st) h nx := e_182_226 rfl
theorem e_182_226r : Df d 182 226 [l0, l1] (.ref c :: st) h nx = Df d 182 227 [l0, l1] (.ref c :: .ref c :: st) h nx := e_182_226 rfl
theorem e_182_294i : Df d 182 294 [l0, l1] (.int p :: st) h nx = Df d 182 295 [l0, l1] (.int p :: .int p :: st) h nx := e_182_294 rfl
theorem e_182_294r : Df d 182 294 [l0, l1] (.ref c :: st) h nx = Df d 182 295 [l0, l1] (.ref c :: .ref c :: st) h nx := e_182_294 rfl
theorem e_185_11n : Df d 185 11 [l0, .null, l2, l3, l4] (.int x :: st) h nx = Df d 185 12 [l0, .int x, l2, l3, l4] st h nx := e_185_11 nr_n
theorem e_185_11i : Df d 185 11 [l0, .int p, l2, l3, l4] (.int x :: st) h nx = Df d 185 12 [l0, .int x, l2, l3, l4] st h nx := e_185_11 (nr_i p)
theorem e_185_11r : Df d 185 11 [l0, .ref c, l2, l3, l4] (.int x :: st) h nx = Df d 185 12 [l0, .int x, l2, l3, l4] st h nx := e_185_11 (nr_r c)
theorem e_185_32n : Df d 185 32 [l0, l1, .null, l3, l4] (.int x :: st) h nx = Df d 185 33 [l0, l1, .int x, l3, l4] st h nx := e_185_32 nr_n
theorem e_185_32i : Df d 185 32 [l0, l1, .int p, l3, l4] (.int x :: st) h nx = Df d 185 33 [l0, l1, .int x, l3, l4] st h nx := e_185_32 (nr_i p)
theorem e_185_32r : Df d 185 32 [l0, l1, .ref c, l3, l4] (.int x :: st) h nx = Df d 185 33 [l0, l1, .int x, l3, l4] st h nx := e_185_32 (nr_r c)
theorem e_185_51n : Df d 185 51 [l0, l1, l2, .null, l4] (.int x :: st) h nx = Df d 185 52 [l0, l1, l2, .int x, l4] st h nx := e_185_51 nr_n
theorem e_185_51i : Df d 185 51 [l0, l1, l2, .int p, l4] (.int x :: st) h nx = Df d 185 52 [l0, l1, l2, .int x, l4] st h nx := e_185_51 (nr_i p)
theorem e_185_51r : Df d 185 51 [l0, l1, l2, .ref c, l4] (.int x :: st) h nx = Df d 185 52 [l0, l1, l2, .int x, l4] st h nx := e_185_51 (nr_r c)
theorem e_185_53n : Df d 185 53 [l0, l1, l2, l3, .null] (.int x :: st) h nx = Df d 185 55 [l0, l1, l2, l3, .int x] st h nx := e_185_53 nr_n
theorem e_185_53i : Df d 185 53 [l0, l1, l2, l3, .int p] (.int x :: st) h nx = Df d 185 55 [l0, l1, l2, l3, .int x] st h nx := e_185_53 (nr_i p)
theorem e_185_53r : Df d 185 53 [l0, l1, l2, l3, .ref c] (.int x :: st) h nx = Df d 185 55 [l0, l1, l2, l3, .int x] st h nx := e_185_53 (nr_r c)
theorem e_185_99n : Df d 185 99 [l0, l1, l2, .null, l4] (.int x :: st) h nx = Df d 185 100 [l0, l1, l2, .int x, l4] st h nx := e_185_99 nr_n
theorem e_185_99i : Df d 185 99 [l0, l1, l2, .int p, l4] (.int x :: st) h nx = Df d 185 100 [l0, l1, l2, .int x, l4] st h nx := e_185_99 (nr_i p)
theorem e_185_99r : Df d 185 99 [l0, l1, l2, .ref c, l4] (.int x :: st) h nx = Df d 185 100 [l0, l1, l2, .int x, l4] st h nx := e_185_99 (nr_r c)
theorem e_186_1n : Df d 186 1 [l0, .null, l2, l3, l4] (.int x :: st) h nx = Df d 186 2 [l0, .int x, l2, l3, l4] st h nx := e_186_1 nr_n
theorem e_186_1i : Df d 186 1 [l0, .int p, l2, l3, l4] (.int x :: st) h nx = Df d 186 2 [l0, .int x, l2, l3, l4] st h nx := e_186_1 (nr_i p)
theorem e_186_1r : Df d 186 1 [l0, .ref c, l2, l3, l4] (.int x :: st) h nx = Df d 186 2 [l0, .int x, l2, l3, l4] st h nx := e_186_1 (nr_r c)
theorem e_186_3n : Df d 186 3 [l0, l1, .null, l3, l4] (.int x :: st) h nx = Df d 186 4 [l0, l1, .int x, l3, l4] st h nx := e_186_3 nr_n
theorem e_186_3i : Df d 186 3 [l0, l1, .int p, l3, l4] (.int x :: st) h nx = Df d 186 4 [l0, l1, .int x, l3, l4] st h nx := e_186_3 (nr_i p)
theorem e_186_3r : Df d 186 3 [l0, l1, .ref c, l3, l4] (.int x :: st) h nx = Df d 186 4 [l0, l1, .int x, l3, l4] st h nx := e_186_3 (nr_r c)
theorem e_186_5n : Df d 186 5 [l0, l1, l2, .null, l4] (.int x :: st) h nx = Df d 186 6 [l0, l1, l2, .int x, l4] st h nx := e_186_5 nr_n
theorem e_186_5i : Df d 186 5 [l0, l1, l2, .int p, l4] (.int x :: st) h nx = Df d 186 6 [l0, l1, l2, .int x, l4] st h nx := e_186_5 (nr_i p)
theorem e_186_5r : Df d 186 5 [l0, l1, l2, .ref c, l4] (.int x :: st) h nx = Df d 186 6 [l0, l1, l2, .int x, l4] st h nx := e_186_5 (nr_r c)
theorem e_186_78i : Df d 186 78 [l0, l1, l2, l3, l4] (.int p :: st) h nx = Df d 186 79 [l0, l1, l2, l3, l4] (.int p :: .int p :: st) h nx := e_186_78 rfl
theorem e_186_78r : Df d 186 78 [l0, l1, l2, l3, l4] (.ref c :: st) h nx = Df d 186 79 [l0, l1, l2, l3, l4] (.ref c :: .ref c :: st) h nx := e_186_78 rfl
theorem e_186_132i : Df d 186 132 [l0, l1, l2, l3, l4] (.int p :: st) h nx = Df d 186 133 [l0, l1, l2, l3, l4] (.int p :: .int p :: st) h nx := e_186_132 rfl
theorem e_186_132r : Df d 186 132 [l0, l1, l2, l3, l4] (.ref c :: st) h nx = Df d 186 133 [l0, l1, l2, l3, l4] (.ref c :: .ref c :: st) h nx := e_186_132 rfl
theorem e_186_166n : Df d 186 166 [l0, l1, l2, .null, l4] (.int x :: st) h nx = Df d 186 167 [l0, l1, l2, .int x, l4] st h nx := e_186_166 nr_n
theorem e_186_166i : Df d 186 166 [l0, l1, l2, .int p, l4] (.int x :: st) h nx = Df d 186 167 [l0, l1, l2, .int x, l4] st h nx := e_186_166 (nr_i p)
theorem e_186_166r : Df d 186 166 [l0, l1, l2, .ref c, l4] (.int x :: st) h nx = Df d 186 167 [l0, l1, l2, .int x, l4] st h nx := e_186_166 (nr_r c)
theorem e_186_176n : Df d 186 176 [l0, l1, .null, l3, l4] (.int x :: st) h nx = Df d 186 177 [l0, l1, .int x, l3, l4] st h nx := e_186_176 nr_n
theorem e_186_176i : Df d 186 176 [l0, l1, .int p, l3, l4] (.int x :: st) h nx = Df d 186 177 [l0, l1, .int x, l3, l4] st h nx := e_186_176 (nr_i p)
theorem e_186_176r : Df d 186 176 [l0, l1, .ref c, l3, l4] (.int x :: st) h nx = Df d 186 177 [l0, l1, .int x, l3, l4] st h nx := e_186_176 (nr_r c)
theorem e_186_207i : Df d 186 207 [l0, l1, l2, l3, l4] (.int p :: st) h nx = Df d 186 208 [l0, l1, l2, l3, l4] (.int p :: .int p :: st) h nx := e_186_207 rfl
theorem e_186_207r : Df d 186 207 [l0, l1, l2, l3, l4] (.ref c :: st) h nx = Df d 186 208 [l0, l1, l2, l3, l4] (.ref c :: .ref c :: st) h nx := e_186_207 rfl
theorem e_186_229n : Df d 186 229 [l0, l1, .null, l3, l4] (.int x :: st) h nx = Df d 186 230 [l0, l1, .int x, l3, l4] st h nx := e_186_229 nr_n
theorem e_186_229i : Df d 186 229 [l0, l1, .int p, l3, l4] (.int x :: st) h nx = Df d 186 230 [l0, l1, .int x, l3, l4] st h nx := e_186_229 (nr_i p)
theorem e_186_229r : Df d 186 229 [l0, l1, .ref c, l3, l4] (.int x :: st) h nx = Df d 186 230 [l0, l1, .int x, l3, l4] st h nx := e_186_229 (nr_r c)
theorem e_186_241n : Df d 186 241 [l0, l1, l2, l3, .null] (.int x :: st) h nx = Df d 186 243 [l0, l1, l2, l3, .int x] st h nx := e_186_241 nr_n
theorem e_186_241i : Df d 186 241 [l0, l1, l2, l3, .int p] (.int x :: st) h nx = Df d 186 243 [l0, l1, l2, l3, .int x] st h nx := e_186_241 (nr_i p)
theorem e_186_241r : Df d 186 241 [l0, l1, l2, l3, .ref c] (.int x :: st) h nx = Df d 186 243 [l0, l1, l2, l3, .int x] st h nx := e_186_241 (nr_r c)
theorem e_186_327i : Df d 186 327 [l0, l1, l2, l3, l4] (.int p :: st) h nx = Df d 186 328 [l0, l1, l2, l3, l4] (.int p :: .int p :: st) h nx := e_186_327 rfl
theorem e_186_327r : Df d 186 327 [l0, l1, l2, l3, l4] (.ref c :: st) h nx = Df d 186 328 [l0, l1, l2, l3, l4] (.ref c :: .ref c :: st) h nx := e_186_327 rfl
theorem e_186_337n : Df d 186 337 [l0, l1, l2, .null, l4] (.int x :: st) h nx = Df d 186 338 [l0, l1, l2, .int x, l4] st h nx := e_186_337 nr_n
theorem e_186_337i : Df d 186 337 [l0, l1, l2, .int p, l4] (.int x :: st) h nx = Df d 186 338 [l0, l1, l2, .int x, l4] st h nx := e_186_337 (nr_i p)
theorem e_186_337r : Df d 186 337 [l0, l1, l2, .ref c, l4] (.int x :: st) h nx = Df d 186 338 [l0, l1, l2, .int x, l4] st h nx := e_186_337 (nr_r c)
theorem e_187_37n : Df d 187 37 [l0, .null] (.int x :: st) h nx = Df d 187 38 [l0, .int x] st h nx := e_187_37 nr_n
theorem e_187_37i : Df d 187 37 [l0, .int p] (.int x :: st) h nx = Df d 187 38 [l0, .int x] st h nx := e_187_37 (nr_i p)
theorem e_187_37r : Df d 187 37 [l0, .ref c] (.int x :: st) h nx = Df d 187 38 [l0, .int x] st h nx := e_187_37 (nr_r c)
theorem e_187_89i : Df d 187 89 [l0, l1] (.int p :: st) h nx = Df d 187 90 [l0, l1] (.int p :: .int p :: st) h nx := e_187_89 rfl
theorem e_187_89r : Df d 187 89 [l0, l1] (.ref c :: st) h nx = Df d 187 90 [l0, l1] (.ref c :: .ref c :: st) h nx := e_187_89 rfl
theorem e_187_99i : Df d 187 99 [l0, l1] (.int p :: st) h nx = Df d 187 100 [l0, l1] (.int p :: .int p :: st) h nx := e_187_99 rfl
theorem e_187_99r : Df d 187 99 [l0, l1] (.ref c :: st) h nx = Df d 187 100 [l0, l1] (.ref c :: .ref c :: st) h nx := e_187_99 rfl
theorem e_189_42i : Df d 189 42 [l0, l1] (.int p :: st) h nx = Df d 189 43 [l0, l1] (.int p :: .int p :: st) h nx := e_189_42 rfl
theorem e_189_42r : Df d 189 42 [l0, l1] (.ref c :: st) h nx = Df d 189 43 [l0, l1] (.ref c :: .ref c :: st) h nx := e_189_42 rfl
theorem e_189_70i : Df d 189 70 [l0, l1] (.int p :: st) h nx = Df d 189 71 [l0, l1] (.int p :: .int p :: st) h nx := e_189_70 rfl
theorem e_189_70r : Df d 189 70 [l0, l1] (.ref c :: st) h nx = Df d 189 71 [l0, l1] (.ref c :: .ref c :: st) h nx := e_189_70 rfl
theorem e_191_1n : Df d 191 1 [l0, .null, l2] (.int x :: st) h nx = Df d 191 2 [l0, .int x, l2] st h nx := e_191_1 nr_n
theorem e_191_1i : Df d 191 1 [l0, .int p, l2] (.int x :: st) h nx = Df d 191 2 [l0, .int x, l2] st h nx := e_191_1 (nr_i p)
theorem e_191_1r : Df d 191 1 [l0, .ref c, l2] (.int x :: st) h nx = Df d 191 2 [l0, .int x, l2] st h nx := e_191_1 (nr_r c)
theorem e_191_3n : Df d 191 3 [l0, l1, .null] (.int x :: st) h nx = Df d 191 4 [l0, l1, .int x] st h nx := e_191_3 nr_n
theorem e_191_3i : Df d 191 3 [l0, l1, .int p] (.int x :: st) h nx = Df d 191 4 [l0, l1, .int x] st h nx := e_191_3 (nr_i p)
theorem e_191_3r : Df d 191 3 [l0, l1, .ref c] (.int x :: st) h nx = Df d 191 4 [l0, l1, .int x] st h nx := e_191_3 (nr_r c)
theorem e_191_30n : Df d 191 30 [l0, .null, l2] (.int x :: st) h nx = Df d 191 31 [l0, .int x, l2] st h nx := e_191_30 nr_n
theorem e_191_30i : Df d 191 30 [l0, .int p, l2] (.int x :: st) h nx = Df d 191 31 [l0, .int x, l2] st h nx := e_191_30 (nr_i p)
theorem e_191_30r : Df d 191 30 [l0, .ref c, l2] (.int x :: st) h nx = Df d 191 31 [l0, .int x, l2] st h nx := e_191_30 (nr_r c)
theorem e_194_17n : Df d 194 17 [l0, l1, .null] (.int x :: st) h nx = Df d 194 18 [l0, l1, .int x] st h nx := e_194_17 nr_n
theorem e_194_17i : Df d 194 17 [l0, l1, .int p] (.int x :: st) h nx = Df d 194 18 [l0, l1, .int x] st h nx := e_194_17 (nr_i p)
theorem e_194_17r : Df d 194 17 [l0, l1, .ref c] (.int x :: st) h nx = Df d 194 18 [l0, l1, .int x] st h nx := e_194_17 (nr_r c)
theorem e_195_64n : Df d 195 64 [l0, l1, l2, l3, .null] (.int x :: st) h nx = Df d 195 66 [l0, l1, l2, l3, .int x] st h nx := e_195_64 nr_n
theorem e_195_64i : Df d 195 64 [l0, l1, l2, l3, .int p] (.int x :: st) h nx = Df d 195 66 [l0, l1, l2, l3, .int x] st h nx := e_195_64 (nr_i p)
theorem e_195_64r : Df d 195 64 [l0, l1, l2, l3, .ref c] (.int x :: st) h nx = Df d 195 66 [l0, l1, l2, l3, .int x] st h nx := e_195_64 (nr_r c)
theorem e_197_23n : Df d 197 23 [l0, l1, .null, l3, l4, l5] (.int x :: st) h nx = Df d 197 24 [l0, l1, .int x, l3, l4, l5] st h nx := e_197_23 nr_n
theorem e_197_23i : Df d 197 23 [l0, l1, .int p, l3, l4, l5] (.int x :: st) h nx = Df d 197 24 [l0, l1, .int x, l3, l4, l5] st h nx := e_197_23 (nr_i p)
theorem e_197_23r : Df d 197 23 [l0, l1, .ref c, l3, l4, l5] (.int x :: st) h nx = Df d 197 24 [l0, l1, .int x, l3, l4, l5] st h nx := e_197_23 (nr_r c)
theorem e_197_25n : Df d 197 25 [l0, l1, l2, .null, l4, l5] (.int x :: st) h nx = Df d 197 26 [l0, l1, l2, .int x, l4, l5] st h nx := e_197_25 nr_n
theorem e_197_25i : Df d 197 25 [l0, l1, l2, .int p, l4, l5] (.int x :: st) h nx = Df d 197 26 [l0, l1, l2, .int x, l4, l5] st h nx := e_197_25 (nr_i p)
theorem e_197_25r : Df d 197 25 [l0, l1, l2, .ref c, l4, l5] (.int x :: st) h nx = Df d 197 26 [l0, l1, l2, .int x, l4, l5] st h nx := e_197_25 (nr_r c)
theorem e_197_47n : Df d 197 47 [l0, l1, l2, l3, .null, l5] (.int x :: st) h nx = Df d 197 49 [l0, l1, l2, l3, .int x, l5] st h nx := e_197_47 nr_n
theorem e_197_47i : Df d 197 47 [l0, l1, l2, l3, .int p, l5] (.int x :: st) h nx = Df d 197 49 [l0, l1, l2, l3, .int x, l5] st h nx := e_197_47 (nr_i p)
theorem e_197_47r : Df d 197 47 [l0, l1, l2, l3, .ref c, l5] (.int x :: st) h nx = Df d 197 49 [l0, l1, l2, l3, .int x, l5] st h nx := e_197_47 (nr_r c)
theorem e_197_76n : Df d 197 76 [l0, l1, l2, l3, l4, .null] (.int x :: st) h nx = Df d 197 78 [l0, l1, l2, l3, l4, .int x] st h nx := e_197_76 nr_n
theorem e_197_76i : Df d 197 76 [l0, l1, l2, l3, l4, .int p] (.int x :: st) h nx = Df d 197 78 [l0, l1, l2, l3, l4, .int x] st h nx := e_197_76 (nr_i p)
theorem e_197_76r : Df d 197 76 [l0, l1, l2, l3, l4, .ref c] (.int x :: st) h nx = Df d 197 78 [l0, l1, l2, l3, l4, .int x] st h nx := e_197_76 (nr_r c)
theorem e_197_100n : Df d 197 100 [l0, l1, .null, l3, l4, l5] (.int x :: st) h nx = Df d 197 101 [l0, l1, .int x, l3, l4, l5] st h nx := e_197_100 nr_n
theorem e_197_100i : Df d 197 100 [l0, l1, .int p, l3, l4, l5] (.int x :: st) h nx = Df d 197 101 [l0, l1, .int x, l3, l4, l5] st h nx := e_197_100 (nr_i p)
theorem e_197_100r : Df d 197 100 [l0, l1, .ref c, l3, l4, l5] (.int x :: st) h nx = Df d 197 101 [l0, l1, .int x, l3, l4, l5] st h nx := e_197_100 (nr_r c)
theorem e_198_23n : Df d 198 23 [l0, l1, .null, l3] (.int x :: st) h nx = Df d 198 24 [l0, l1, .int x, l3] st h nx := e_198_23 nr_n
theorem e_198_23i : Df d 198 23 [l0, l1, .int p, l3] (.int x :: st) h nx = Df d 198 24 [l0, l1, .int x, l3] st h nx := e_198_23 (nr_i p)
theorem e_198_23r : Df d 198 23 [l0, l1, .ref c, l3] (.int x :: st) h nx = Df d 198 24 [l0, l1, .int x, l3] st h nx := e_198_23 (nr_r c)
theorem e_198_45n : Df d 198 45 [l0, l1, l2, .null] (.int x :: st) h nx = Df d 198 46 [l0, l1, l2, .int x] st h nx := e_198_45 nr_n
theorem e_198_45i : Df d 198 45 [l0, l1, l2, .int p] (.int x :: st) h nx = Df d 198 46 [l0, l1, l2, .int x] st h nx := e_198_45 (nr_i p)
theorem e_198_45r : Df d 198 45 [l0, l1, l2, .ref c] (.int x :: st) h nx = Df d 198 46 [l0, l1, l2, .int x] st h nx := e_198_45 (nr_r c)
theorem e_199_102n : Df d 199 102 [l0, l1, l2, l3, l4, l5, .null] (.int x :: st) h nx = Df d 199 104 [l0, l1, l2, l3, l4, l5, .int x] st h nx := e_199_102 nr_n
theorem e_199_102i : Df d 199 102 [l0, l1, l2, l3, l4, l5, .int p] (.int x :: st) h nx = Df d 199 104 [l0, l1, l2, l3, l4, l5, .int x] st h nx := e_199_102 (nr_i p)
theorem e_199_102r : Df d 199 102 [l0, l1, l2, l3, l4, l5, .ref c] (.int x :: st) h nx = Df d 199 104 [l0, l1, l2, l3, l4, l5, .int x] st h nx := e_199_102 (nr_r c)
theorem e_199_139n : Df d 199 139 [l0, l1, l2, l3, l4, l5, .null] (.int x :: st) h nx = Df d 199 141 [l0, l1, l2, l3, l4, l5, .int x] st h nx := e_199_139 nr_n
theorem e_199_139i : Df d 199 139 [l0, l1, l2, l3, l4, l5, .int p] (.int x :: st) h nx = Df d 199 141 [l0, l1, l2, l3, l4, l5, .int x] st h nx := e_199_139 (nr_i p)
theorem e_199_139r : Df d 199 139 [l0, l1, l2, l3, l4, l5, .ref c] (.int x :: st) h nx = Df d 199 141 [l0, l1, l2, l3, l4, l5, .int x] st h nx := e_199_139 (nr_r c)
theorem e_200_67n : Df d 200 67 [l0, l1, l2, l3, .null, l5] (.int x :: st) h nx = Df d 200 69 [l0, l1, l2, l3, .int x, l5] st h nx := e_200_67 nr_n
theorem e_200_67i : Df d 200 67 [l0, l1, l2, l3, .int p, l5] (.int x :: st) h nx = Df d 200 69 [l0, l1, l2, l3, .int x, l5] st h nx := e_200_67 (nr_i p)
theorem e_200_67r : Df d 200 67 [l0, l1, l2, l3, .ref c, l5] (.int x :: st) h nx = Df d 200 69 [l0, l1, l2, l3, .int x, l5] st h nx := e_200_67 (nr_r c)
theorem e_200_132n : Df d 200 132 [l0, l1, l2, l3, l4, .null] (.int x :: st) h nx = Df d 200 134 [l0, l1, l2, l3, l4, .int x] st h nx := e_200_132 nr_n
theorem e_200_132i : Df d 200 132 [l0, l1, l2, l3, l4, .int p] (.int x :: st) h nx = Df d 200 134 [l0, l1, l2, l3, l4, .int x] st h nx := e_200_132 (nr_i p)
theorem e_200_132r : Df d 200 132 [l0, l1, l2, l3, l4, .ref c] (.int x :: st) h nx = Df d 200 134 [l0, l1, l2, l3, l4, .int x] st h nx := e_200_132 (nr_r c)
theorem e_203_66n : Df d 203 66 [l0, l1, l2, .null] (.int x :: st) h nx = Df d 203 67 [l0, l1, l2, .int x] st h nx := e_203_66 nr_n
theorem e_203_66i : Df d 203 66 [l0, l1, l2, .int p] (.int x :: st) h nx = Df d 203 67 [l0, l1, l2, .int x] st h nx := e_203_66 (nr_i p)
theorem e_203_66r : Df d 203 66 [l0, l1, l2, .ref c] (.int x :: st) h nx = Df d 203 67 [l0, l1, l2, .int x] st h nx := e_203_66 (nr_r c)
theorem e_205_23i : Df d 205 23 [l0, l1] (.int p :: st) h nx = Df d 205 24 [l0, l1] (.int p :: .int p :: st) h nx := e_205_23 rfl
theorem e_205_23r : Df d 205 23 [l0, l1] (.ref c :: st) h nx = Df d 205 24 [l0, l1] (.ref c :: .ref c :: st) h nx := e_205_23 rfl
theorem e_206_4n : Df d 206 4 [l0, l1, .null, l3, l4, l5] (.int x :: st) h nx = Df d 206 5 [l0, l1, .int x, l3, l4, l5] st h nx := e_206_4 nr_n
theorem e_206_4i : Df d 206 4 [l0, l1, .int p, l3, l4, l5] (.int x :: st) h nx = Df d 206 5 [l0, l1, .int x, l3, l4, l5] st h nx := e_206_4 (nr_i p)
theorem e_206_4r : Df d 206 4 [l0, l1, .ref c, l3, l4, l5] (.int x :: st) h nx = Df d 206 5 [l0, l1, .int x, l3, l4, l5] st h nx := e_206_4 (nr_r c)
theorem e_206_73n : Df d 206 73 [l0, l1, l2, .null, l4, l5] (.int x :: st) h nx = Df d 206 74 [l0, l1, l2, .int x, l4, l5] st h nx := e_206_73 nr_n
theorem e_206_73i : Df d 206 73 [l0, l1, l2, .int p, l4, l5] (.int x :: st) h nx = Df d 206 74 [l0, l1, l2, .int x, l4, l5] st h nx := e_206_73 (nr_i p)
theorem e_206_73r : Df d 206 73 [l0, l1, l2, .ref c, l4, l5] (.int x :: st) h nx = Df d 206 74 [l0, l1, l2, .int x, l4, l5] st h nx := e_206_73 (nr_r c)
theorem e_206_75n : Df d 206 75 [l0, l1, l2, l3, .null, l5] (.int x :: st) h nx = Df d 206 77 [l0, l1, l2, l3, .int x, l5] st h nx := e_206_75 nr_n
theorem e_206_75i : Df d 206 75 [l0, l1, l2, l3, .int p, l5] (.int x :: st) h nx = Df d 206 77 [l0, l1, l2, l3, .int x, l5] st h nx := e_206_75 (nr_i p)
theorem e_206_75r : Df d 206 75 [l0, l1, l2, l3, .ref c, l5] (.int x :: st) h nx = Df d 206 77 [l0, l1, l2, l3, .int x, l5] st h nx := e_206_75 (nr_r c)
theorem e_206_78n : Df d 206 78 [l0, l1, l2, l3, l4, .null] (.int x :: st) h nx = Df d 206 80 [l0, l1, l2, l3, l4, .int x] st h nx := e_206_78 nr_n
theorem e_206_78i : Df d 206 78 [l0, l1, l2, l3, l4, .int p] (.int x :: st) h nx = Df d 206 80 [l0, l1, l2, l3, l4, .int x] st h nx := e_206_78 (nr_i p)
theorem e_206_78r : Df d 206 78 [l0, l1, l2, l3, l4, .ref c] (.int x :: st) h nx = Df d 206 80 [l0, l1, l2, l3, l4, .int x] st h nx := e_206_78 (nr_r c)
theorem e_206_132n : Df d 206 132 [l0, l1, l2, l3, .null, l5] (.int x :: st) h nx = Df d 206 134 [l0, l1, l2, l3, .int x, l5] st h nx := e_206_132 nr_n
theorem e_206_132i : Df d 206 132 [l0, l1, l2, l3, .int p, l5] (.int x :: st) h nx = Df d 206 134 [l0, l1, l2, l3, .int x, l5] st h nx := e_206_132 (nr_i p)
theorem e_206_132r : Df d 206 132 [l0, l1, l2, l3, .ref c, l5] (.int x :: st) h nx = Df d 206 134 [l0, l1, l2, l3, .int x, l5] st h nx := e_206_132 (nr_r c)
theorem e_206_173n : Df d 206 173 [l0, l1, l2, l3, .null, l5] (.int x :: st) h nx = Df d 206 175 [l0, l1, l2, l3, .int x, l5] st h nx := e_206_173 nr_n
theorem e_206_173i : Df d 206 173 [l0, l1, l2, l3, .int p, l5] (.int x :: st) h nx = Df d 206 175 [l0, l1, l2, l3, .int x, l5] st h nx := e_206_173 (nr_i p)
theorem e_206_173r : Df d 206 173 [l0, l1, l2, l3, .ref c, l5] (.int x :: st) h nx = Df d 206 175 [l0, l1, l2, l3, .int x, l5] st h nx := e_206_173 (nr_r c)
theorem e_207_1n : Df d 207 1 [l0, l1, .null] (.int x :: st) h nx = Df d 207 2 [l0, l1, .int x] st h nx := e_207_1 nr_n
theorem e_207_1i : Df d 207 1 [l0, l1, .int p] (.int x :: st) h nx = Df d 207 2 [l0, l1, .int x] st h nx := e_207_1 (nr_i p)
theorem e_207_1r : Df d 207 1 [l0, l1, .ref c] (.int x :: st) h nx = Df d 207 2 [l0, l1, .int x] st h nx := e_207_1 (nr_r c)
theorem e_213_3n : Df d 213 3 [l0, l1, .null] (.int x :: st) h nx = Df d 213 4 [l0, l1, .int x] st h nx := e_213_3 nr_n
theorem e_213_3i : Df d 213 3 [l0, l1, .int p] (.int x :: st) h nx = Df d 213 4 [l0, l1, .int x] st h nx := e_213_3 (nr_i p)
theorem e_213_3r : Df d 213 3 [l0, l1, .ref c] (.int x :: st) h nx = Df d 213 4 [l0, l1, .int x] st h nx := e_213_3 (nr_r c)
theorem e_226_3i : Df d 226 3 [l0, l1, l2, l3] (.int p :: st) h nx = Df d 226 4 [l0, l1, l2, l3] (.int p :: .int p :: st) h nx := e_226_3 rfl
theorem e_226_3r : Df d 226 3 [l0, l1, l2, l3] (.ref c :: st) h nx = Df d 226 4 [l0, l1, l2, l3] (.ref c :: .ref c :: st) h nx := e_226_3 rfl
theorem e_226_7n : Df d 226 7 [l0, .null, l2, l3] (.ref a :: st) h nx = Df d 226 8 [l0, .ref a, l2, l3] st h nx := e_226_7 nr_n
theorem e_226_7i : Df d 226 7 [l0, .int p, l2, l3] (.ref a :: st) h nx = Df d 226 8 [l0, .ref a, l2, l3] st h nx := e_226_7 (nr_i p)
theorem e_226_7r : Df d 226 7 [l0, .ref c, l2, l3] (.ref a :: st) h nx = Df d 226 8 [l0, .ref a, l2, l3] st h nx := e_226_7 (nr_r c)
theorem e_226_11i : Df d 226 11 [l0, l1, l2, l3] (.int p :: st) h nx = Df d 226 12 [l0, l1, l2, l3] (.int p :: .int p :: st) h nx := e_226_11 rfl
theorem e_226_11r : Df d 226 11 [l0, l1, l2, l3] (.ref c :: st) h nx = Df d 226 12 [l0, l1, l2, l3] (.ref c :: .ref c :: st) h nx := e_226_11 rfl
theorem e_226_15n : Df d 226 15 [l0, l1, .null, l3] (.ref a :: st) h nx = Df d 226 16 [l0, l1, .ref a, l3] st h nx := e_226_15 nr_n
theorem e_226_15i : Df d 226 15 [l0, l1, .int p, l3] (.ref a :: st) h nx = Df d 226 16 [l0, l1, .ref a, l3] st h nx := e_226_15 (nr_i p)
theorem e_226_15r : Df d 226 15 [l0, l1, .ref c, l3] (.ref a :: st) h nx = Df d 226 16 [l0, l1, .ref a, l3] st h nx := e_226_15 (nr_r c)
theorem e_226_17n : Df d 226 17 [l0, l1, l2, .null] (.int x :: st) h nx = Df d 226 18 [l0, l1, l2, .int x] st h nx := e_226_17 nr_n
theorem e_226_17i : Df d 226 17 [l0, l1, l2, .int p] (.int x :: st) h nx = Df d 226 18 [l0, l1, l2, .int x] st h nx := e_226_17 (nr_i p)
theorem e_226_17r : Df d 226 17 [l0, l1, l2, .ref c] (.int x :: st) h nx = Df d 226 18 [l0, l1, l2, .int x] st h nx := e_226_17 (nr_r c)
end EE
