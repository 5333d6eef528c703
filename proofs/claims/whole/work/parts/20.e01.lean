section EE
variable {d : Nat} {l0 l1 l2 l3 l4 l5 l6 l7 l8 l9 l10 l11 : Value} {st : List Value} {h : AH} {nx : AN} {x y z : Int32} {xl yl : Int64} {a b : Nat} {s0 s1 s2 s3 s4 s5 v0 v1 v2 v3 v4 v5 : Value}
theorem mc_35 : mC 35 = prog_5_method_4_code := rfl
theorem mo_35 : mO 35 = 3 := rfl
theorem ml_35 : mL 35 = 4 := rfl
theorem mr_35 : mR 35 = (some .int) := rfl
theorem ma_35 : mA 35 = 4 := rfl
theorem e_35_0 : Df d 35 0 [.int x, l1, l2, l3] st h nx = Df d 35 1 [.int x, l1, l2, l3] (.int x :: st) h nx := D_iload_n (ins_of mc_35 (pc := 0) (x := (.iload_n 0, 1)) (by decide +kernel)) rfl
theorem e_35_1 : Df d 35 1 [l0, l1, l2, l3] st h nx = Df d 35 4 [l0, l1, l2, l3] (.int 10000 :: st) h nx := D_sipush (ins_of mc_35 (pc := 1) (x := (.sipush 10000, 3)) (by decide +kernel)) (by decide)
theorem e_35_4 : Df d 35 4 [l0, l1, l2, l3] (.int y :: .int x :: st) h nx = Df d 35 5 [l0, l1, l2, l3] (.int (x - y) :: st) h nx := D_isub (ins_of mc_35 (pc := 4) (x := (.isub, 1)) (by decide +kernel))
theorem e_35_5 : Df d 35 5 [l0, l1, l2, l3] (.int x :: st) h nx = if x = 0 then Df d 35 32 [l0, l1, l2, l3] st h nx else if x = 1 then Df d 35 34 [l0, l1, l2, l3] st h nx else Df d 35 36 [l0, l1, l2, l3] st h nx := by
  have hi := (ins_of mc_35 (pc := 5) (x := (.lookupswitch 31 #[(0, 27), (1, 29)], 27)) (by decide +kernel))
  by_cases q0 : x = 0
  · subst q0
    rw [if_pos rfl]
    exact D_lsw hi (by decide) (off := 27) (by decide) (by decide)
  rw [if_neg q0]
  by_cases q1 : x = 1
  · subst q1
    rw [if_pos rfl]
    exact D_lsw hi (by decide) (off := 29) (by decide) (by decide)
  rw [if_neg q1]
  refine D_lsw hi (by decide) (off := 31) ?_ (by decide)
  show Op.lookupswitch.offset [(0, 27), (1, 29)] 31 x.toInt = 31
  rw [lv_osw (k := 0) q0 (by decide)]
  rw [lv_osw (k := 1) q1 (by decide)]
  rfl
theorem e_35_32 : Df d 35 32 [l0, .int x, l2, l3] st h nx = Df d 35 33 [l0, .int x, l2, l3] (.int x :: st) h nx := D_iload_n (ins_of mc_35 (pc := 32) (x := (.iload_n 1, 1)) (by decide +kernel)) rfl
theorem e_35_33 : Df d 35 33 [l0, l1, l2, l3] [.int x] h nx = some (some (.int x), h, nx) := D_ireturn (ins_of mc_35 (pc := 33) (x := (.ireturn, 1)) (by decide +kernel)) mr_35
theorem e_35_34 : Df d 35 34 [l0, l1, .int x, l3] st h nx = Df d 35 35 [l0, l1, .int x, l3] (.int x :: st) h nx := D_iload_n (ins_of mc_35 (pc := 34) (x := (.iload_n 2, 1)) (by decide +kernel)) rfl
theorem e_35_35 : Df d 35 35 [l0, l1, l2, l3] [.int x] h nx = some (some (.int x), h, nx) := D_ireturn (ins_of mc_35 (pc := 35) (x := (.ireturn, 1)) (by decide +kernel)) mr_35
theorem e_35_36 : Df d 35 36 [l0, l1, l2, .int x] st h nx = Df d 35 37 [l0, l1, l2, .int x] (.int x :: st) h nx := D_iload_n (ins_of mc_35 (pc := 36) (x := (.iload_n 3, 1)) (by decide +kernel)) rfl
theorem e_35_37 : Df d 35 37 [l0, l1, l2, l3] [.int x] h nx = some (some (.int x), h, nx) := D_ireturn (ins_of mc_35 (pc := 37) (x := (.ireturn, 1)) (by decide +kernel)) mr_35
theorem mc_36 : mC 36 = prog_5_method_5_code := rfl
theorem mo_36 : mO 36 = 3 := rfl
theorem ml_36 : mL 36 = 3 := rfl
theorem mr_36 : mR 36 = (some .int) := rfl
theorem ma_36 : mA 36 = 3 := rfl
theorem e_36_0 : Df d 36 0 [.int x, l1, l2] st h nx = Df d 36 1 [.int x, l1, l2] (.int x :: st) h nx := D_iload_n (ins_of mc_36 (pc := 0) (x := (.iload_n 0, 1)) (by decide +kernel)) rfl
theorem e_36_1 : Df d 36 1 [l0, l1, l2] (.int x :: st) h nx = if x = 38 then Df d 36 90 [l0, l1, l2] st h nx else if x = 42 then Df d 36 145 [l0, l1, l2] st h nx else if x = 43 then Df d 36 137 [l0, l1, l2] st h nx else if x = 45 then Df d 36 141 [l0, l1, l2] st h nx else if x = 60 then Df d 36 104 [l0, l1, l2] st h nx else if x = 61 then Df d 36 115 [l0, l1, l2] st h nx else if x = 62 then Df d 36 126 [l0, l1, l2] st h nx else if x = 124 then Df d 36 76 [l0, l1, l2] st h nx else Df d 36 149 [l0, l1, l2] st h nx := by
  have hi := (ins_of mc_36 (pc := 1) (x := (.lookupswitch 148 #[(38, 89), (42, 144), (43, 136), (45, 140), (60, 103), (61, 114), (62, 125), (124, 75)], 75)) (by decide +kernel))
  by_cases q0 : x = 38
  · subst q0
    rw [if_pos rfl]
    exact D_lsw hi (by decide) (off := 89) (by decide) (by decide)
  rw [if_neg q0]
  by_cases q1 : x = 42
  · subst q1
    rw [if_pos rfl]
    exact D_lsw hi (by decide) (off := 144) (by decide) (by decide)
  rw [if_neg q1]
  by_cases q2 : x = 43
  · subst q2
    rw [if_pos rfl]
    exact D_lsw hi (by decide) (off := 136) (by decide) (by decide)
  rw [if_neg q2]
  by_cases q3 : x = 45
  · subst q3
    rw [if_pos rfl]
    exact D_lsw hi (by decide) (off := 140) (by decide) (by decide)
  rw [if_neg q3]
  by_cases q4 : x = 60
  · subst q4
    rw [if_pos rfl]
    exact D_lsw hi (by decide) (off := 103) (by decide) (by decide)
  rw [if_neg q4]
  by_cases q5 : x = 61
  · subst q5
    rw [if_pos rfl]
    exact D_lsw hi (by decide) (off := 114) (by decide) (by decide)
  rw [if_neg q5]
  by_cases q6 : x = 62
  · subst q6
    rw [if_pos rfl]
    exact D_lsw hi (by decide) (off := 125) (by decide) (by decide)
  rw [if_neg q6]
  by_cases q7 : x = 124
  · subst q7
    rw [if_pos rfl]
    exact D_lsw hi (by decide) (off := 75) (by decide) (by decide)
  rw [if_neg q7]
  refine D_lsw hi (by decide) (off := 148) ?_ (by decide)
  show Op.lookupswitch.offset [(38, 89), (42, 144), (43, 136), (45, 140), (60, 103), (61, 114), (62, 125), (124, 75)] 148 x.toInt = 148
  rw [lv_osw (k := 38) q0 (by decide)]
  rw [lv_osw (k := 42) q1 (by decide)]
  rw [lv_osw (k := 43) q2 (by decide)]
  rw [lv_osw (k := 45) q3 (by decide)]
  rw [lv_osw (k := 60) q4 (by decide)]
  rw [lv_osw (k := 61) q5 (by decide)]
  rw [lv_osw (k := 62) q6 (by decide)]
  rw [lv_osw (k := 124) q7 (by decide)]
  rfl
theorem e_36_76 : Df d 36 76 [l0, .int x, l2] st h nx = Df d 36 77 [l0, .int x, l2] (.int x :: st) h nx := D_iload_n (ins_of mc_36 (pc := 76) (x := (.iload_n 1, 1)) (by decide +kernel)) rfl
theorem e_36_77 : Df d 36 77 [l0, l1, l2] (.int x :: st) h nx = if x = 0 then Df d 36 80 [l0, l1, l2] st h nx else Df d 36 84 [l0, l1, l2] st h nx := D_if_ne (ins_of mc_36 (pc := 77) (x := (.ifCond .ne 7, 3)) (by decide +kernel)) (by decide)
theorem e_36_80 : Df d 36 80 [l0, l1, .int x] st h nx = Df d 36 81 [l0, l1, .int x] (.int x :: st) h nx := D_iload_n (ins_of mc_36 (pc := 80) (x := (.iload_n 2, 1)) (by decide +kernel)) rfl
theorem e_36_81 : Df d 36 81 [l0, l1, l2] (.int x :: st) h nx = if x = 0 then Df d 36 88 [l0, l1, l2] st h nx else Df d 36 84 [l0, l1, l2] st h nx := D_if_eq (ins_of mc_36 (pc := 81) (x := (.ifCond .eq 7, 3)) (by decide +kernel)) (by decide)
theorem e_36_84 : Df d 36 84 [l0, l1, l2] st h nx = Df d 36 85 [l0, l1, l2] (.int 1 :: st) h nx := D_iconst (ins_of mc_36 (pc := 84) (x := (.iconst 1, 1)) (by decide +kernel)) (by decide)
theorem e_36_85 : Df d 36 85 [l0, l1, l2] st h nx = Df d 36 89 [l0, l1, l2] st h nx := D_goto (ins_of mc_36 (pc := 85) (x := (.goto 4, 3)) (by decide +kernel)) (by decide)
theorem e_36_88 : Df d 36 88 [l0, l1, l2] st h nx = Df d 36 89 [l0, l1, l2] (.int 0 :: st) h nx := D_iconst (ins_of mc_36 (pc := 88) (x := (.iconst 0, 1)) (by decide +kernel)) (by decide)
theorem e_36_89 : Df d 36 89 [l0, l1, l2] [.int x] h nx = some (some (.int x), h, nx) := D_ireturn (ins_of mc_36 (pc := 89) (x := (.ireturn, 1)) (by decide +kernel)) mr_36
theorem e_36_90 : Df d 36 90 [l0, .int x, l2] st h nx = Df d 36 91 [l0, .int x, l2] (.int x :: st) h nx := D_iload_n (ins_of mc_36 (pc := 90) (x := (.iload_n 1, 1)) (by decide +kernel)) rfl
theorem e_36_91 : Df d 36 91 [l0, l1, l2] (.int x :: st) h nx = if x = 0 then Df d 36 102 [l0, l1, l2] st h nx else Df d 36 94 [l0, l1, l2] st h nx := D_if_eq (ins_of mc_36 (pc := 91) (x := (.ifCond .eq 11, 3)) (by decide +kernel)) (by decide)
theorem e_36_94 : Df d 36 94 [l0, l1, .int x] st h nx = Df d 36 95 [l0, l1, .int x] (.int x :: st) h nx := D_iload_n (ins_of mc_36 (pc := 94) (x := (.iload_n 2, 1)) (by decide +kernel)) rfl
theorem e_36_95 : Df d 36 95 [l0, l1, l2] (.int x :: st) h nx = if x = 0 then Df d 36 102 [l0, l1, l2] st h nx else Df d 36 98 [l0, l1, l2] st h nx := D_if_eq (ins_of mc_36 (pc := 95) (x := (.ifCond .eq 7, 3)) (by decide +kernel)) (by decide)
theorem e_36_98 : Df d 36 98 [l0, l1, l2] st h nx = Df d 36 99 [l0, l1, l2] (.int 1 :: st) h nx := D_iconst (ins_of mc_36 (pc := 98) (x := (.iconst 1, 1)) (by decide +kernel)) (by decide)
theorem e_36_99 : Df d 36 99 [l0, l1, l2] st h nx = Df d 36 103 [l0, l1, l2] st h nx := D_goto (ins_of mc_36 (pc := 99) (x := (.goto 4, 3)) (by decide +kernel)) (by decide)
theorem e_36_102 : Df d 36 102 [l0, l1, l2] st h nx = Df d 36 103 [l0, l1, l2] (.int 0 :: st) h nx := D_iconst (ins_of mc_36 (pc := 102) (x := (.iconst 0, 1)) (by decide +kernel)) (by decide)
theorem e_36_103 : Df d 36 103 [l0, l1, l2] [.int x] h nx = some (some (.int x), h, nx) := D_ireturn (ins_of mc_36 (pc := 103) (x := (.ireturn, 1)) (by decide +kernel)) mr_36
theorem e_36_104 : Df d 36 104 [l0, .int x, l2] st h nx = Df d 36 105 [l0, .int x, l2] (.int x :: st) h nx := D_iload_n (ins_of mc_36 (pc := 104) (x := (.iload_n 1, 1)) (by decide +kernel)) rfl
theorem e_36_105 : Df d 36 105 [l0, l1, .int x] st h nx = Df d 36 106 [l0, l1, .int x] (.int x :: st) h nx := D_iload_n (ins_of mc_36 (pc := 105) (x := (.iload_n 2, 1)) (by decide +kernel)) rfl
theorem e_36_106 : Df d 36 106 [l0, l1, l2] (.int y :: .int x :: st) h nx = if y ≤ x then Df d 36 113 [l0, l1, l2] st h nx else Df d 36 109 [l0, l1, l2] st h nx := D_icmp_ge (ins_of mc_36 (pc := 106) (x := (.if_icmp .ge 7, 3)) (by decide +kernel)) (by decide)
theorem e_36_109 : Df d 36 109 [l0, l1, l2] st h nx = Df d 36 110 [l0, l1, l2] (.int 1 :: st) h nx := D_iconst (ins_of mc_36 (pc := 109) (x := (.iconst 1, 1)) (by decide +kernel)) (by decide)
theorem e_36_110 : Df d 36 110 [l0, l1, l2] st h nx = Df d 36 114 [l0, l1, l2] st h nx := D_goto (ins_of mc_36 (pc := 110) (x := (.goto 4, 3)) (by decide +kernel)) (by decide)
theorem e_36_113 : Df d 36 113 [l0, l1, l2] st h nx = Df d 36 114 [l0, l1, l2] (.int 0 :: st) h nx := D_iconst (ins_of mc_36 (pc := 113) (x := (.iconst 0, 1)) (by decide +kernel)) (by decide)
theorem e_36_114 : Df d 36 114 [l0, l1, l2] [.int x] h nx = some (some (.int x), h, nx) := D_ireturn (ins_of mc_36 (pc := 114) (x := (.ireturn, 1)) (by decide +kernel)) mr_36
theorem e_36_115 : Df d 36 115 [l0, .int x, l2] st h nx = Df d 36 116 [l0, .int x, l2] (.int x :: st) h nx := D_iload_n (ins_of mc_36 (pc := 115) (x := (.iload_n 1, 1)) (by decide +kernel)) rfl
theorem e_36_116 : Df d 36 116 [l0, l1, .int x] st h nx = Df d 36 117 [l0, l1, .int x] (.int x :: st) h nx := D_iload_n (ins_of mc_36 (pc := 116) (x := (.iload_n 2, 1)) (by decide +kernel)) rfl
theorem e_36_117 : Df d 36 117 [l0, l1, l2] (.int y :: .int x :: st) h nx = if x = y then Df d 36 120 [l0, l1, l2] st h nx else Df d 36 124 [l0, l1, l2] st h nx := D_icmp_ne (ins_of mc_36 (pc := 117) (x := (.if_icmp .ne 7, 3)) (by decide +kernel)) (by decide)
theorem e_36_120 : Df d 36 120 [l0, l1, l2] st h nx = Df d 36 121 [l0, l1, l2] (.int 1 :: st) h nx := D_iconst (ins_of mc_36 (pc := 120) (x := (.iconst 1, 1)) (by decide +kernel)) (by decide)
theorem e_36_121 : Df d 36 121 [l0, l1, l2] st h nx = Df d 36 125 [l0, l1, l2] st h nx := D_goto (ins_of mc_36 (pc := 121) (x := (.goto 4, 3)) (by decide +kernel)) (by decide)
theorem e_36_124 : Df d 36 124 [l0, l1, l2] st h nx = Df d 36 125 [l0, l1, l2] (.int 0 :: st) h nx := D_iconst (ins_of mc_36 (pc := 124) (x := (.iconst 0, 1)) (by decide +kernel)) (by decide)
theorem e_36_125 : Df d 36 125 [l0, l1, l2] [.int x] h nx = some (some (.int x), h, nx) := D_ireturn (ins_of mc_36 (pc := 125) (x := (.ireturn, 1)) (by decide +kernel)) mr_36
theorem e_36_126 : Df d 36 126 [l0, .int x, l2] st h nx = Df d 36 127 [l0, .int x, l2] (.int x :: st) h nx := D_iload_n (ins_of mc_36 (pc := 126) (x := (.iload_n 1, 1)) (by decide +kernel)) rfl
theorem e_36_127 : Df d 36 127 [l0, l1, .int x] st h nx = Df d 36 128 [l0, l1, .int x] (.int x :: st) h nx := D_iload_n (ins_of mc_36 (pc := 127) (x := (.iload_n 2, 1)) (by decide +kernel)) rfl
theorem e_36_128 : Df d 36 128 [l0, l1, l2] (.int y :: .int x :: st) h nx = if x ≤ y then Df d 36 135 [l0, l1, l2] st h nx else Df d 36 131 [l0, l1, l2] st h nx := D_icmp_le (ins_of mc_36 (pc := 128) (x := (.if_icmp .le 7, 3)) (by decide +kernel)) (by decide)
theorem e_36_131 : Df d 36 131 [l0, l1, l2] st h nx = Df d 36 132 [l0, l1, l2] (.int 1 :: st) h nx := D_iconst (ins_of mc_36 (pc := 131) (x := (.iconst 1, 1)) (by decide +kernel)) (by decide)
theorem e_36_132 : Df d 36 132 [l0, l1, l2] st h nx = Df d 36 136 [l0, l1, l2] st h nx := D_goto (ins_of mc_36 (pc := 132) (x := (.goto 4, 3)) (by decide +kernel)) (by decide)
theorem e_36_135 : Df d 36 135 [l0, l1, l2] st h nx = Df d 36 136 [l0, l1, l2] (.int 0 :: st) h nx := D_iconst (ins_of mc_36 (pc := 135) (x := (.iconst 0, 1)) (by decide +kernel)) (by decide)
theorem e_36_136 : Df d 36 136 [l0, l1, l2] [.int x] h nx = some (some (.int x), h, nx) := D_ireturn (ins_of mc_36 (pc := 136) (x := (.ireturn, 1)) (by decide +kernel)) mr_36
theorem e_36_137 : Df d 36 137 [l0, .int x, l2] st h nx = Df d 36 138 [l0, .int x, l2] (.int x :: st) h nx := D_iload_n (ins_of mc_36 (pc := 137) (x := (.iload_n 1, 1)) (by decide +kernel)) rfl
theorem e_36_138 : Df d 36 138 [l0, l1, .int x] st h nx = Df d 36 139 [l0, l1, .int x] (.int x :: st) h nx := D_iload_n (ins_of mc_36 (pc := 138) (x := (.iload_n 2, 1)) (by decide +kernel)) rfl
theorem e_36_139 : Df d 36 139 [l0, l1, l2] (.int y :: .int x :: st) h nx = Df d 36 140 [l0, l1, l2] (.int (x + y) :: st) h nx := D_iadd (ins_of mc_36 (pc := 139) (x := (.iadd, 1)) (by decide +kernel))
theorem e_36_140 : Df d 36 140 [l0, l1, l2] [.int x] h nx = some (some (.int x), h, nx) := D_ireturn (ins_of mc_36 (pc := 140) (x := (.ireturn, 1)) (by decide +kernel)) mr_36
theorem e_36_141 : Df d 36 141 [l0, .int x, l2] st h nx = Df d 36 142 [l0, .int x, l2] (.int x :: st) h nx := D_iload_n (ins_of mc_36 (pc := 141) (x := (.iload_n 1, 1)) (by decide +kernel)) rfl
theorem e_36_142 : Df d 36 142 [l0, l1, .int x] st h nx = Df d 36 143 [l0, l1, .int x] (.int x :: st) h nx := D_iload_n (ins_of mc_36 (pc := 142) (x := (.iload_n 2, 1)) (by decide +kernel)) rfl
theorem e_36_143 : Df d 36 143 [l0, l1, l2] (.int y :: .int x :: st) h nx = Df d 36 144 [l0, l1, l2] (.int (x - y) :: st) h nx := D_isub (ins_of mc_36 (pc := 143) (x := (.isub, 1)) (by decide +kernel))
theorem e_36_144 : Df d 36 144 [l0, l1, l2] [.int x] h nx = some (some (.int x), h, nx) := D_ireturn (ins_of mc_36 (pc := 144) (x := (.ireturn, 1)) (by decide +kernel)) mr_36
theorem e_36_145 : Df d 36 145 [l0, .int x, l2] st h nx = Df d 36 146 [l0, .int x, l2] (.int x :: st) h nx := D_iload_n (ins_of mc_36 (pc := 145) (x := (.iload_n 1, 1)) (by decide +kernel)) rfl
theorem e_36_146 : Df d 36 146 [l0, l1, .int x] st h nx = Df d 36 147 [l0, l1, .int x] (.int x :: st) h nx := D_iload_n (ins_of mc_36 (pc := 146) (x := (.iload_n 2, 1)) (by decide +kernel)) rfl
theorem e_36_147 : Df d 36 147 [l0, l1, l2] (.int y :: .int x :: st) h nx = Df d 36 148 [l0, l1, l2] (.int (x * y) :: st) h nx := D_imul (ins_of mc_36 (pc := 147) (x := (.imul, 1)) (by decide +kernel))
theorem e_36_148 : Df d 36 148 [l0, l1, l2] [.int x] h nx = some (some (.int x), h, nx) := D_ireturn (ins_of mc_36 (pc := 148) (x := (.ireturn, 1)) (by decide +kernel)) mr_36
theorem e_36_149 : Df d 36 149 [l0, l1, .int x] st h nx = Df d 36 150 [l0, l1, .int x] (.int x :: st) h nx := D_iload_n (ins_of mc_36 (pc := 149) (x := (.iload_n 2, 1)) (by decide +kernel)) rfl
theorem e_36_150 : Df d 36 150 [l0, l1, l2] (.int x :: st) h nx = if x = 0 then Df d 36 153 [l0, l1, l2] st h nx else Df d 36 157 [l0, l1, l2] st h nx := D_if_ne (ins_of mc_36 (pc := 150) (x := (.ifCond .ne 7, 3)) (by decide +kernel)) (by decide)
theorem e_36_153 : Df d 36 153 [l0, l1, l2] st h nx = Df d 36 154 [l0, l1, l2] (.int 0 :: st) h nx := D_iconst (ins_of mc_36 (pc := 153) (x := (.iconst 0, 1)) (by decide +kernel)) (by decide)
theorem e_36_154 : Df d 36 154 [l0, l1, l2] st h nx = Df d 36 160 [l0, l1, l2] st h nx := D_goto (ins_of mc_36 (pc := 154) (x := (.goto 6, 3)) (by decide +kernel)) (by decide)
theorem e_36_157 : Df d 36 157 [l0, .int x, l2] st h nx = Df d 36 158 [l0, .int x, l2] (.int x :: st) h nx := D_iload_n (ins_of mc_36 (pc := 157) (x := (.iload_n 1, 1)) (by decide +kernel)) rfl
theorem e_36_158 : Df d 36 158 [l0, l1, .int x] st h nx = Df d 36 159 [l0, l1, .int x] (.int x :: st) h nx := D_iload_n (ins_of mc_36 (pc := 158) (x := (.iload_n 2, 1)) (by decide +kernel)) rfl
theorem e_36_159 : Df d 36 159 [l0, l1, l2] (.int y :: .int x :: st) h nx = if y = 0 then none else Df d 36 160 [l0, l1, l2] (.int (x / y) :: st) h nx := D_idiv (ins_of mc_36 (pc := 159) (x := (.idiv, 1)) (by decide +kernel))
theorem e_36_160 : Df d 36 160 [l0, l1, l2] [.int x] h nx = some (some (.int x), h, nx) := D_ireturn (ins_of mc_36 (pc := 160) (x := (.ireturn, 1)) (by decide +kernel)) mr_36
theorem mc_37 : mC 37 = prog_6_method_1_code := rfl
theorem mo_37 : mO 37 = 4 := rfl
theorem ml_37 : mL 37 = 1 := rfl
theorem mr_37 : mR 37 = none := rfl
theorem ma_37 : mA 37 = 0 := rfl
theorem e_37_0 : Df d 37 0 [.ref a] st h nx = Df d 37 1 [.ref a] (.ref a :: st) h nx := D_aload_n (ins_of mc_37 (pc := 0) (x := (.aload_n 0, 1)) (by decide +kernel)) rfl
theorem e_37_1 : Df d 37 1 [l0] [.ref a] h nx = Df d 37 4 [l0] [] h nx := D_objinit (k1 := 0) (ins_of mc_37 (pc := 1) (x := (.invokespecial 3, 3)) (by decide +kernel)) mo_37 (by decide +kernel) (Nat.le_of_ble_eq_true rfl)
theorem e_37_4 : Df d 37 4 [.ref a] st h nx = Df d 37 5 [.ref a] (.ref a :: st) h nx := D_aload_n (ins_of mc_37 (pc := 4) (x := (.aload_n 0, 1)) (by decide +kernel)) rfl
theorem e_37_5 : Df d 37 5 [l0] st h nx = Df d 37 8 [l0] (.ref (16 + nx.1) :: st) (put h (16 + nx.1) (.inr (2, dfl 2))) (nx.1 + 1, nx.2 + 4) := D_new (ins_of mc_37 (pc := 5) (x := (.new 9, 3)) (by decide +kernel)) mo_37 (by decide +kernel)
theorem e_37_8 (hv : v0.category = 1) : Df d 37 8 [l0] (v0 :: st) h nx = Df d 37 9 [l0] (v0 :: v0 :: st) h nx := D_dup (ins_of mc_37 (pc := 8) (x := (.dup, 1)) (by decide +kernel)) hv
theorem e_37_9 : Df d 37 9 [l0] [.ref a, s0, s1] h nx = cn d 37 12 [l0] [s0, s1] (Dn d 26 [.ref a] h nx) := D_special (k1 := 26) (kd := 4) (ins_of mc_37 (pc := 9) (x := (.invokespecial 11, 3)) (by decide +kernel)) mo_37 (by decide +kernel) (by decide) rfl rfl (Nat.le_of_ble_eq_true rfl) rfl
theorem e_37_12 : Df d 37 12 [l0] (.ref b :: .ref a :: st) h nx = (pF h a 4 0 (.ref b)).bind fun h => Df d 37 15 [l0] st h nx := D_putfield (ins_of mc_37 (pc := 12) (x := (.putfield 12, 3)) (by decide +kernel)) mo_37 (by decide +kernel) rfl (Or.inr ⟨by decide +kernel, rfl⟩)
theorem e_37_15 : Df d 37 15 [.ref a] st h nx = Df d 37 16 [.ref a] (.ref a :: st) h nx := D_aload_n (ins_of mc_37 (pc := 15) (x := (.aload_n 0, 1)) (by decide +kernel)) rfl
theorem e_37_16 : Df d 37 16 [l0] st h nx = Df d 37 17 [l0] (.int 0 :: st) h nx := D_iconst (ins_of mc_37 (pc := 16) (x := (.iconst 0, 1)) (by decide +kernel)) (by decide)
theorem e_37_17 : Df d 37 17 [l0] (.int x :: .ref a :: st) h nx = (pF h a 4 1 (.int x)).bind fun h => Df d 37 20 [l0] st h nx := D_putfield (ins_of mc_37 (pc := 17) (x := (.putfield 18, 3)) (by decide +kernel)) mo_37 (by decide +kernel) rfl (Or.inl rfl)
theorem e_37_20 : Df d 37 20 [.ref a] st h nx = Df d 37 21 [.ref a] (.ref a :: st) h nx := D_aload_n (ins_of mc_37 (pc := 20) (x := (.aload_n 0, 1)) (by decide +kernel)) rfl
theorem e_37_21 : Df d 37 21 [l0] st h nx = Df d 37 22 [l0] (.int 0 :: st) h nx := D_iconst (ins_of mc_37 (pc := 21) (x := (.iconst 0, 1)) (by decide +kernel)) (by decide)
theorem e_37_22 : Df d 37 22 [l0] (.int x :: .ref a :: st) h nx = (pF h a 4 2 (.int x)).bind fun h => Df d 37 25 [l0] st h nx := D_putfield (ins_of mc_37 (pc := 22) (x := (.putfield 22, 3)) (by decide +kernel)) mo_37 (by decide +kernel) rfl (Or.inl rfl)
theorem e_37_25 : Df d 37 25 [.ref a] st h nx = Df d 37 26 [.ref a] (.ref a :: st) h nx := D_aload_n (ins_of mc_37 (pc := 25) (x := (.aload_n 0, 1)) (by decide +kernel)) rfl
theorem e_37_26 : Df d 37 26 [l0] st h nx = Df d 37 28 [l0] (.int 96 :: st) h nx := D_bipush (ins_of mc_37 (pc := 26) (x := (.bipush 96, 2)) (by decide +kernel)) (by decide)
theorem e_37_28 : Df d 37 28 [l0] (.int x :: st) h nx = if x < 0 ∨ 10000 < x.toNatClampNeg then none else Df d 37 30 [l0] (.ref (16 + nx.1) :: st) (put h (16 + nx.1) (.inl (0, x.toNatClampNeg, .inl fun _ => 0))) (nx.1 + 1, nx.2 + x.toNatClampNeg) := D_newint (ins_of mc_37 (pc := 28) (x := (.newarray .int, 2)) (by decide +kernel))
theorem e_37_30 : Df d 37 30 [l0] (.ref b :: .ref a :: st) h nx = (pF h a 4 3 (.ref b)).bind fun h => Df d 37 33 [l0] st h nx := D_putfield (ins_of mc_37 (pc := 30) (x := (.putfield 25, 3)) (by decide +kernel)) mo_37 (by decide +kernel) rfl (Or.inr ⟨by decide +kernel, rfl⟩)
theorem e_37_33 : Df d 37 33 [.ref a] st h nx = Df d 37 34 [.ref a] (.ref a :: st) h nx := D_aload_n (ins_of mc_37 (pc := 33) (x := (.aload_n 0, 1)) (by decide +kernel)) rfl
theorem e_37_34 : Df d 37 34 [l0] st h nx = Df d 37 35 [l0] (.int 0 :: st) h nx := D_iconst (ins_of mc_37 (pc := 34) (x := (.iconst 0, 1)) (by decide +kernel)) (by decide)
theorem e_37_35 : Df d 37 35 [l0] (.int x :: .ref a :: st) h nx = (pF h a 4 4 (.int x)).bind fun h => Df d 37 38 [l0] st h nx := D_putfield (ins_of mc_37 (pc := 35) (x := (.putfield 29, 3)) (by decide +kernel)) mo_37 (by decide +kernel) rfl (Or.inl rfl)
theorem e_37_38 : Df d 37 38 [.ref a] st h nx = Df d 37 39 [.ref a] (.ref a :: st) h nx := D_aload_n (ins_of mc_37 (pc := 38) (x := (.aload_n 0, 1)) (by decide +kernel)) rfl
theorem e_37_39 : Df d 37 39 [l0] st h nx = Df d 37 42 [l0] (.int 260 :: st) h nx := D_sipush (ins_of mc_37 (pc := 39) (x := (.sipush 260, 3)) (by decide +kernel)) (by decide)
theorem e_37_42 : Df d 37 42 [l0] (.int x :: .ref a :: st) h nx = (pF h a 4 5 (.int x)).bind fun h => Df d 37 45 [l0] st h nx := D_putfield (ins_of mc_37 (pc := 42) (x := (.putfield 32, 3)) (by decide +kernel)) mo_37 (by decide +kernel) rfl (Or.inl rfl)
theorem e_37_45 : Df d 37 45 [l0] [] h nx = some (none, h, nx) := D_return (ins_of mc_37 (pc := 45) (x := (.return_, 1)) (by decide +kernel)) mr_37
theorem mc_38 : mC 38 = prog_6_method_2_code := rfl
theorem mo_38 : mO 38 = 4 := rfl
theorem ml_38 : mL 38 = 3 := rfl
theorem mr_38 : mR 38 = none := rfl
theorem ma_38 : mA 38 = 1 := rfl
theorem e_38_0 : Df d 38 0 [l0, l1, l2] st h nx = Df d 38 2 [l0, l1, l2] (.int 24 :: st) h nx := D_bipush (ins_of mc_38 (pc := 0) (x := (.bipush 24, 2)) (by decide +kernel)) (by decide)
theorem e_38_2 (hn : nr l2 = true) : Df d 38 2 [l0, l1, l2] (.int x :: st) h nx = Df d 38 3 [l0, l1, .int x] st h nx := D_istore_n (ins_of mc_38 (pc := 2) (x := (.istore_n 2, 1)) (by decide +kernel)) rfl hn rfl
theorem e_38_3 : Df d 38 3 [l0, l1, .int x] st h nx = Df d 38 4 [l0, l1, .int x] (.int x :: st) h nx := D_iload_n (ins_of mc_38 (pc := 3) (x := (.iload_n 2, 1)) (by decide +kernel)) rfl
theorem e_38_4 : Df d 38 4 [l0, l1, l2] (.int x :: st) h nx = if x < 0 then Df d 38 48 [l0, l1, l2] st h nx else Df d 38 7 [l0, l1, l2] st h nx := D_if_lt (ins_of mc_38 (pc := 4) (x := (.ifCond .lt 44, 3)) (by decide +kernel)) (by decide)
theorem e_38_7 : Df d 38 7 [.ref a, l1, l2] st h nx = Df d 38 8 [.ref a, l1, l2] (.ref a :: st) h nx := D_aload_n (ins_of mc_38 (pc := 7) (x := (.aload_n 0, 1)) (by decide +kernel)) rfl
theorem e_38_8 : Df d 38 8 [l0, l1, l2] (.ref a :: st) h nx = (gF h a 4 1).bind fun v => Df d 38 11 [l0, l1, l2] (v :: st) h nx := D_getfield (ins_of mc_38 (pc := 8) (x := (.getfield 18, 3)) (by decide +kernel)) mo_38 (by decide +kernel)
theorem e_38_11 : Df d 38 11 [l0, l1, l2] st h nx = Df d 38 13 [l0, l1, l2] (.int 96 :: st) h nx := D_bipush (ins_of mc_38 (pc := 11) (x := (.bipush 96, 2)) (by decide +kernel)) (by decide)
theorem e_38_13 : Df d 38 13 [l0, l1, l2] (.int y :: .int x :: st) h nx = if y ≤ x then Df d 38 48 [l0, l1, l2] st h nx else Df d 38 16 [l0, l1, l2] st h nx := D_icmp_ge (ins_of mc_38 (pc := 13) (x := (.if_icmp .ge 35, 3)) (by decide +kernel)) (by decide)
theorem e_38_16 : Df d 38 16 [.ref a, l1, l2] st h nx = Df d 38 17 [.ref a, l1, l2] (.ref a :: st) h nx := D_aload_n (ins_of mc_38 (pc := 16) (x := (.aload_n 0, 1)) (by decide +kernel)) rfl
theorem e_38_17 : Df d 38 17 [l0, l1, l2] (.ref a :: st) h nx = (gF h a 4 3).bind fun v => Df d 38 20 [l0, l1, l2] (v :: st) h nx := D_getfield (ins_of mc_38 (pc := 17) (x := (.getfield 25, 3)) (by decide +kernel)) mo_38 (by decide +kernel)
theorem e_38_20 : Df d 38 20 [.ref a, l1, l2] st h nx = Df d 38 21 [.ref a, l1, l2] (.ref a :: st) h nx := D_aload_n (ins_of mc_38 (pc := 20) (x := (.aload_n 0, 1)) (by decide +kernel)) rfl
theorem e_38_21 : Df d 38 21 [l0, l1, l2] (.ref a :: st) h nx = (gF h a 4 1).bind fun v => Df d 38 24 [l0, l1, l2] (v :: st) h nx := D_getfield (ins_of mc_38 (pc := 21) (x := (.getfield 18, 3)) (by decide +kernel)) mo_38 (by decide +kernel)
theorem e_38_24 : Df d 38 24 [l0, .int x, l2] st h nx = Df d 38 25 [l0, .int x, l2] (.int x :: st) h nx := D_iload_n (ins_of mc_38 (pc := 24) (x := (.iload_n 1, 1)) (by decide +kernel)) rfl
theorem e_38_25 : Df d 38 25 [l0, l1, .int x] st h nx = Df d 38 26 [l0, l1, .int x] (.int x :: st) h nx := D_iload_n (ins_of mc_38 (pc := 25) (x := (.iload_n 2, 1)) (by decide +kernel)) rfl
theorem e_38_26 : Df d 38 26 [l0, l1, l2] (.int y :: .int x :: st) h nx = Df d 38 27 [l0, l1, l2] (.int (x.toUInt32 >>> (y.toUInt32 &&& Int32.toUInt32 31)).toInt32 :: st) h nx := D_iushr (ins_of mc_38 (pc := 26) (x := (.iushr, 1)) (by decide +kernel))
theorem e_38_27 : Df d 38 27 [l0, l1, l2] st h nx = Df d 38 30 [l0, l1, l2] (.int 255 :: st) h nx := D_sipush (ins_of mc_38 (pc := 27) (x := (.sipush 255, 3)) (by decide +kernel)) (by decide)
theorem e_38_30 : Df d 38 30 [l0, l1, l2] (.int y :: .int x :: st) h nx = Df d 38 31 [l0, l1, l2] (.int (x &&& y) :: st) h nx := D_iand (ins_of mc_38 (pc := 30) (x := (.iand, 1)) (by decide +kernel))
theorem e_38_31 : Df d 38 31 [l0, l1, l2] (.int y :: .int x :: .ref a :: st) h nx = (wI h a x 0 y).bind fun h => Df d 38 32 [l0, l1, l2] st h nx := D_iastore (ins_of mc_38 (pc := 31) (x := (.iastore, 1)) (by decide +kernel))
theorem e_38_32 : Df d 38 32 [.ref a, l1, l2] st h nx = Df d 38 33 [.ref a, l1, l2] (.ref a :: st) h nx := D_aload_n (ins_of mc_38 (pc := 32) (x := (.aload_n 0, 1)) (by decide +kernel)) rfl
theorem e_38_33 (hv : v0.category = 1) : Df d 38 33 [l0, l1, l2] (v0 :: st) h nx = Df d 38 34 [l0, l1, l2] (v0 :: v0 :: st) h nx := D_dup (ins_of mc_38 (pc := 33) (x := (.dup, 1)) (by decide +kernel)) hv
theorem e_38_34 : Df d 38 34 [l0, l1, l2] (.ref a :: st) h nx = (gF h a 4 1).bind fun v => Df d 38 37 [l0, l1, l2] (v :: st) h nx := D_getfield (ins_of mc_38 (pc := 34) (x := (.getfield 18, 3)) (by decide +kernel)) mo_38 (by decide +kernel)
theorem e_38_37 : Df d 38 37 [l0, l1, l2] st h nx = Df d 38 38 [l0, l1, l2] (.int 1 :: st) h nx := D_iconst (ins_of mc_38 (pc := 37) (x := (.iconst 1, 1)) (by decide +kernel)) (by decide)
theorem e_38_38 : Df d 38 38 [l0, l1, l2] (.int y :: .int x :: st) h nx = Df d 38 39 [l0, l1, l2] (.int (x + y) :: st) h nx := D_iadd (ins_of mc_38 (pc := 38) (x := (.iadd, 1)) (by decide +kernel))
theorem e_38_39 : Df d 38 39 [l0, l1, l2] (.int x :: .ref a :: st) h nx = (pF h a 4 1 (.int x)).bind fun h => Df d 38 42 [l0, l1, l2] st h nx := D_putfield (ins_of mc_38 (pc := 39) (x := (.putfield 18, 3)) (by decide +kernel)) mo_38 (by decide +kernel) rfl (Or.inl rfl)
theorem e_38_42 : Df d 38 42 [l0, l1, .int x] st h nx = Df d 38 45 [l0, l1, .int (x + (-8))] st h nx := D_iinc (ins_of mc_38 (pc := 42) (x := (.iinc 2 (-8), 3)) (by decide +kernel)) rfl (by decide) rfl
theorem e_38_45 : Df d 38 45 [l0, l1, l2] st h nx = Df d 38 3 [l0, l1, l2] st h nx := D_goto (ins_of mc_38 (pc := 45) (x := (.goto (-42), 3)) (by decide +kernel)) (by decide)
theorem e_38_48 : Df d 38 48 [l0, l1, l2] [] h nx = some (none, h, nx) := D_return (ins_of mc_38 (pc := 48) (x := (.return_, 1)) (by decide +kernel)) mr_38
theorem mc_39 : mC 39 = prog_6_method_3_code := rfl
theorem mo_39 : mO 39 = 4 := rfl
theorem ml_39 : mL 39 = 1 := rfl
theorem mr_39 : mR 39 = (some .boolean) := rfl
theorem ma_39 : mA 39 = 0 := rfl
theorem e_39_0 : Df d 39 0 [.ref a] st h nx = Df d 39 1 [.ref a] (.ref a :: st) h nx := D_aload_n (ins_of mc_39 (pc := 0) (x := (.aload_n 0, 1)) (by decide +kernel)) rfl
theorem e_39_1 : Df d 39 1 [l0] (.ref a :: st) h nx = (gF h a 4 0).bind fun v => Df d 39 4 [l0] (v :: st) h nx := D_getfield (ins_of mc_39 (pc := 1) (x := (.getfield 12, 3)) (by decide +kernel)) mo_39 (by decide +kernel)
theorem e_39_4 : Df d 39 4 [l0] [.ref a] h nx = if ck h a 2 = true then cn d 39 7 [l0] [] (Dn d 27 [.ref a] h nx) else none := D_virtual (k1 := 27) (ins_of mc_39 (pc := 4) (x := (.invokevirtual 35, 3)) (by decide +kernel)) mo_39 (by decide +kernel) (by decide) rfl rfl (by decide) rfl (Nat.le_of_ble_eq_true rfl) rfl
theorem e_39_7 : Df d 39 7 [.ref a] st h nx = Df d 39 8 [.ref a] (.ref a :: st) h nx := D_aload_n (ins_of mc_39 (pc := 7) (x := (.aload_n 0, 1)) (by decide +kernel)) rfl
theorem e_39_8 : Df d 39 8 [l0] st h nx = Df d 39 9 [l0] (.int 0 :: st) h nx := D_iconst (ins_of mc_39 (pc := 8) (x := (.iconst 0, 1)) (by decide +kernel)) (by decide)
theorem e_39_9 : Df d 39 9 [l0] (.int x :: .ref a :: st) h nx = (pF h a 4 4 (.int x)).bind fun h => Df d 39 12 [l0] st h nx := D_putfield (ins_of mc_39 (pc := 9) (x := (.putfield 29, 3)) (by decide +kernel)) mo_39 (by decide +kernel) rfl (Or.inl rfl)
theorem e_39_12 : Df d 39 12 [.ref a] st h nx = Df d 39 13 [.ref a] (.ref a :: st) h nx := D_aload_n (ins_of mc_39 (pc := 12) (x := (.aload_n 0, 1)) (by decide +kernel)) rfl
theorem e_39_13 : Df d 39 13 [l0] st h nx = Df d 39 16 [l0] (.int 260 :: st) h nx := D_sipush (ins_of mc_39 (pc := 13) (x := (.sipush 260, 3)) (by decide +kernel)) (by decide)
theorem e_39_16 : Df d 39 16 [l0] (.int x :: .ref a :: st) h nx = (pF h a 4 5 (.int x)).bind fun h => Df d 39 19 [l0] st h nx := D_putfield (ins_of mc_39 (pc := 16) (x := (.putfield 32, 3)) (by decide +kernel)) mo_39 (by decide +kernel) rfl (Or.inl rfl)
theorem e_39_19 : Df d 39 19 [.ref a] st h nx = Df d 39 20 [.ref a] (.ref a :: st) h nx := D_aload_n (ins_of mc_39 (pc := 19) (x := (.aload_n 0, 1)) (by decide +kernel)) rfl
theorem e_39_20 : Df d 39 20 [l0] [.ref a] h nx = if ck h a 4 = true then cn d 39 23 [l0] [] (Dn d 40 [.ref a] h nx) else none := D_virtual (k1 := 40) (ins_of mc_39 (pc := 20) (x := (.invokevirtual 38, 3)) (by decide +kernel)) mo_39 (by decide +kernel) (by decide) rfl rfl (by decide) rfl (Nat.le_of_ble_eq_true rfl) rfl
theorem e_39_23 : Df d 39 23 [.ref a] st h nx = Df d 39 24 [.ref a] (.ref a :: st) h nx := D_aload_n (ins_of mc_39 (pc := 23) (x := (.aload_n 0, 1)) (by decide +kernel)) rfl
theorem e_39_24 : Df d 39 24 [l0] [.ref a] h nx = if ck h a 4 = true then cn d 39 27 [l0] [] (Dn d 44 [.ref a] h nx) else none := D_virtual (k1 := 44) (ins_of mc_39 (pc := 24) (x := (.invokevirtual 41, 3)) (by decide +kernel)) mo_39 (by decide +kernel) (by decide) rfl rfl (by decide) rfl (Nat.le_of_ble_eq_true rfl) rfl
theorem e_39_27 : Df d 39 27 [l0] (.int x :: st) h nx = if x = 0 then Df d 39 30 [l0] st h nx else Df d 39 32 [l0] st h nx := D_if_ne (ins_of mc_39 (pc := 27) (x := (.ifCond .ne 5, 3)) (by decide +kernel)) (by decide)
theorem e_39_30 : Df d 39 30 [l0] st h nx = Df d 39 31 [l0] (.int 0 :: st) h nx := D_iconst (ins_of mc_39 (pc := 30) (x := (.iconst 0, 1)) (by decide +kernel)) (by decide)
theorem e_39_31 : Df d 39 31 [l0] [.int x] h nx = if nR .boolean x = true then some (some (.int x), h, nx) else none := D_zreturn (ins_of mc_39 (pc := 31) (x := (.ireturn, 1)) (by decide +kernel)) mr_39
theorem e_39_32 : Df d 39 32 [.ref a] st h nx = Df d 39 33 [.ref a] (.ref a :: st) h nx := D_aload_n (ins_of mc_39 (pc := 32) (x := (.aload_n 0, 1)) (by decide +kernel)) rfl
theorem e_39_33 : Df d 39 33 [l0] [.ref a] h nx = if ck h a 4 = true then cn d 39 36 [l0] [] (Dn d 40 [.ref a] h nx) else none := D_virtual (k1 := 40) (ins_of mc_39 (pc := 33) (x := (.invokevirtual 38, 3)) (by decide +kernel)) mo_39 (by decide +kernel) (by decide) rfl rfl (by decide) rfl (Nat.le_of_ble_eq_true rfl) rfl
theorem e_39_36 : Df d 39 36 [.ref a] st h nx = Df d 39 37 [.ref a] (.ref a :: st) h nx := D_aload_n (ins_of mc_39 (pc := 36) (x := (.aload_n 0, 1)) (by decide +kernel)) rfl
theorem e_39_37 : Df d 39 37 [l0] st h nx = Df d 39 38 [l0] (.int 0 :: st) h nx := D_iconst (ins_of mc_39 (pc := 37) (x := (.iconst 0, 1)) (by decide +kernel)) (by decide)
theorem e_39_38 : Df d 39 38 [l0] st h nx = Df d 39 39 [l0] (.int 0 :: st) h nx := D_iconst (ins_of mc_39 (pc := 38) (x := (.iconst 0, 1)) (by decide +kernel)) (by decide)
theorem e_39_39 : Df d 39 39 [l0] st h nx = Df d 39 40 [l0] (.int 0 :: st) h nx := D_iconst (ins_of mc_39 (pc := 39) (x := (.iconst 0, 1)) (by decide +kernel)) (by decide)
theorem e_39_40 : Df d 39 40 [l0] [v2, v1, v0, .ref a] h nx = if ck h a 4 = true then cn d 39 43 [l0] [] (Dn d 47 [.ref a, v0, v1, v2] h nx) else none := D_virtual (k1 := 47) (ins_of mc_39 (pc := 40) (x := (.invokevirtual 45, 3)) (by decide +kernel)) mo_39 (by decide +kernel) (by decide) rfl rfl (by decide) rfl (Nat.le_of_ble_eq_true rfl) rfl
theorem e_39_43 : Df d 39 43 [l0] (.int x :: st) h nx = if x = 0 then Df d 39 60 [l0] st h nx else Df d 39 46 [l0] st h nx := D_if_eq (ins_of mc_39 (pc := 43) (x := (.ifCond .eq 17, 3)) (by decide +kernel)) (by decide)
theorem e_39_46 : Df d 39 46 [.ref a] st h nx = Df d 39 47 [.ref a] (.ref a :: st) h nx := D_aload_n (ins_of mc_39 (pc := 46) (x := (.aload_n 0, 1)) (by decide +kernel)) rfl
theorem e_39_47 : Df d 39 47 [l0] (.ref a :: st) h nx = (gF h a 4 5).bind fun v => Df d 39 50 [l0] (v :: st) h nx := D_getfield (ins_of mc_39 (pc := 47) (x := (.getfield 32, 3)) (by decide +kernel)) mo_39 (by decide +kernel)
theorem e_39_50 : Df d 39 50 [l0] st h nx = Df d 39 53 [l0] (.int 258 :: st) h nx := D_sipush (ins_of mc_39 (pc := 50) (x := (.sipush 258, 3)) (by decide +kernel)) (by decide)
theorem e_39_53 : Df d 39 53 [l0] (.int y :: .int x :: st) h nx = if x = y then Df d 39 56 [l0] st h nx else Df d 39 60 [l0] st h nx := D_icmp_ne (ins_of mc_39 (pc := 53) (x := (.if_icmp .ne 7, 3)) (by decide +kernel)) (by decide)
theorem e_39_56 : Df d 39 56 [l0] st h nx = Df d 39 57 [l0] (.int 1 :: st) h nx := D_iconst (ins_of mc_39 (pc := 56) (x := (.iconst 1, 1)) (by decide +kernel)) (by decide)
theorem e_39_57 : Df d 39 57 [l0] st h nx = Df d 39 61 [l0] st h nx := D_goto (ins_of mc_39 (pc := 57) (x := (.goto 4, 3)) (by decide +kernel)) (by decide)
theorem e_39_60 : Df d 39 60 [l0] st h nx = Df d 39 61 [l0] (.int 0 :: st) h nx := D_iconst (ins_of mc_39 (pc := 60) (x := (.iconst 0, 1)) (by decide +kernel)) (by decide)
theorem e_39_61 : Df d 39 61 [l0] [.int x] h nx = if nR .boolean x = true then some (some (.int x), h, nx) else none := D_zreturn (ins_of mc_39 (pc := 61) (x := (.ireturn, 1)) (by decide +kernel)) mr_39
theorem mc_40 : mC 40 = prog_6_method_4_code := rfl
theorem mo_40 : mO 40 = 4 := rfl
theorem ml_40 : mL 40 = 3 := rfl
theorem mr_40 : mR 40 = none := rfl
theorem ma_40 : mA 40 = 0 := rfl
theorem e_40_0 : Df d 40 0 [.ref a, l1, l2] st h nx = Df d 40 1 [.ref a, l1, l2] (.ref a :: st) h nx := D_aload_n (ins_of mc_40 (pc := 0) (x := (.aload_n 0, 1)) (by decide +kernel)) rfl
theorem e_40_1 : Df d 40 1 [l0, l1, l2] [.ref a] h nx = if ck h a 4 = true then cn d 40 4 [l0, l1, l2] [] (Dn d 41 [.ref a] h nx) else none := D_virtual (k1 := 41) (ins_of mc_40 (pc := 1) (x := (.invokevirtual 49, 3)) (by decide +kernel)) mo_40 (by decide +kernel) (by decide) rfl rfl (by decide) rfl (Nat.le_of_ble_eq_true rfl) rfl
theorem e_40_4 (hn : nr l1 = true) : Df d 40 4 [l0, l1, l2] (.int x :: st) h nx = Df d 40 5 [l0, .int x, l2] st h nx := D_istore_n (ins_of mc_40 (pc := 4) (x := (.istore_n 1, 1)) (by decide +kernel)) rfl hn rfl
theorem e_40_5 : Df d 40 5 [.ref a, l1, l2] st h nx = Df d 40 6 [.ref a, l1, l2] (.ref a :: st) h nx := D_aload_n (ins_of mc_40 (pc := 5) (x := (.aload_n 0, 1)) (by decide +kernel)) rfl
theorem e_40_6 : Df d 40 6 [l0, l1, l2] (.ref a :: st) h nx = (gF h a 4 4).bind fun v => Df d 40 9 [l0, l1, l2] (v :: st) h nx := D_getfield (ins_of mc_40 (pc := 6) (x := (.getfield 29, 3)) (by decide +kernel)) mo_40 (by decide +kernel)
theorem e_40_9 (hn : nr l2 = true) : Df d 40 9 [l0, l1, l2] (.int x :: st) h nx = Df d 40 10 [l0, l1, .int x] st h nx := D_istore_n (ins_of mc_40 (pc := 9) (x := (.istore_n 2, 1)) (by decide +kernel)) rfl hn rfl
theorem e_40_10 : Df d 40 10 [.ref a, l1, l2] st h nx = Df d 40 11 [.ref a, l1, l2] (.ref a :: st) h nx := D_aload_n (ins_of mc_40 (pc := 10) (x := (.aload_n 0, 1)) (by decide +kernel)) rfl
theorem e_40_11 : Df d 40 11 [.ref a, l1, l2] st h nx = Df d 40 12 [.ref a, l1, l2] (.ref a :: st) h nx := D_aload_n (ins_of mc_40 (pc := 11) (x := (.aload_n 0, 1)) (by decide +kernel)) rfl
theorem e_40_12 : Df d 40 12 [l0, l1, .int x] st h nx = Df d 40 13 [l0, l1, .int x] (.int x :: st) h nx := D_iload_n (ins_of mc_40 (pc := 12) (x := (.iload_n 2, 1)) (by decide +kernel)) rfl
theorem e_40_13 : Df d 40 13 [l0, l1, l2] st h nx = Df d 40 15 [l0, l1, l2] (.int 32 :: st) h nx := D_bipush (ins_of mc_40 (pc := 13) (x := (.bipush 32, 2)) (by decide +kernel)) (by decide)
theorem e_40_15 : Df d 40 15 [l0, l1, l2] st h nx = Df d 40 17 [l0, l1, l2] (.int 32 :: st) h nx := D_bipush (ins_of mc_40 (pc := 15) (x := (.bipush 32, 2)) (by decide +kernel)) (by decide)
theorem e_40_17 : Df d 40 17 [l0, l1, l2] [v2, v1, v0, .ref a, s0] h nx = if ck h a 4 = true then cn d 40 20 [l0, l1, l2] [s0] (Dn d 42 [.ref a, v0, v1, v2] h nx) else none := D_virtual (k1 := 42) (ins_of mc_40 (pc := 17) (x := (.invokevirtual 52, 3)) (by decide +kernel)) mo_40 (by decide +kernel) (by decide) rfl rfl (by decide) rfl (Nat.le_of_ble_eq_true rfl) rfl
theorem e_40_20 : Df d 40 20 [l0, l1, l2] (.int x :: .ref a :: st) h nx = (pF h a 4 2 (.int x)).bind fun h => Df d 40 23 [l0, l1, l2] st h nx := D_putfield (ins_of mc_40 (pc := 20) (x := (.putfield 22, 3)) (by decide +kernel)) mo_40 (by decide +kernel) rfl (Or.inl rfl)
theorem e_40_23 : Df d 40 23 [.ref a, l1, l2] st h nx = Df d 40 24 [.ref a, l1, l2] (.ref a :: st) h nx := D_aload_n (ins_of mc_40 (pc := 23) (x := (.aload_n 0, 1)) (by decide +kernel)) rfl
theorem e_40_24 : Df d 40 24 [.ref a, l1, l2] st h nx = Df d 40 25 [.ref a, l1, l2] (.ref a :: st) h nx := D_aload_n (ins_of mc_40 (pc := 24) (x := (.aload_n 0, 1)) (by decide +kernel)) rfl
theorem e_40_25 : Df d 40 25 [l0, l1, l2] (.ref a :: st) h nx = (gF h a 4 2).bind fun v => Df d 40 28 [l0, l1, l2] (v :: st) h nx := D_getfield (ins_of mc_40 (pc := 25) (x := (.getfield 22, 3)) (by decide +kernel)) mo_40 (by decide +kernel)
theorem e_40_28 : Df d 40 28 [l0, l1, l2] st h nx = Df d 40 29 [l0, l1, l2] (.int 1 :: st) h nx := D_iconst (ins_of mc_40 (pc := 28) (x := (.iconst 1, 1)) (by decide +kernel)) (by decide)
theorem e_40_29 : Df d 40 29 [l0, l1, l2] (.int y :: .int x :: st) h nx = Df d 40 30 [l0, l1, l2] (.int (x + y) :: st) h nx := D_iadd (ins_of mc_40 (pc := 29) (x := (.iadd, 1)) (by decide +kernel))
theorem e_40_30 : Df d 40 30 [l0, l1, l2] (.int x :: .ref a :: st) h nx = (pF h a 4 4 (.int x)).bind fun h => Df d 40 33 [l0, l1, l2] st h nx := D_putfield (ins_of mc_40 (pc := 30) (x := (.putfield 29, 3)) (by decide +kernel)) mo_40 (by decide +kernel) rfl (Or.inl rfl)
theorem e_40_33 : Df d 40 33 [.ref a, l1, l2] st h nx = Df d 40 34 [.ref a, l1, l2] (.ref a :: st) h nx := D_aload_n (ins_of mc_40 (pc := 33) (x := (.aload_n 0, 1)) (by decide +kernel)) rfl
theorem e_40_34 : Df d 40 34 [l0, l1, l2] (.ref a :: st) h nx = (gF h a 4 2).bind fun v => Df d 40 37 [l0, l1, l2] (v :: st) h nx := D_getfield (ins_of mc_40 (pc := 34) (x := (.getfield 22, 3)) (by decide +kernel)) mo_40 (by decide +kernel)
theorem e_40_37 : Df d 40 37 [.ref a, l1, l2] st h nx = Df d 40 38 [.ref a, l1, l2] (.ref a :: st) h nx := D_aload_n (ins_of mc_40 (pc := 37) (x := (.aload_n 0, 1)) (by decide +kernel)) rfl
theorem e_40_38 : Df d 40 38 [l0, l1, l2] (.ref a :: st) h nx = (gF h a 4 1).bind fun v => Df d 40 41 [l0, l1, l2] (v :: st) h nx := D_getfield (ins_of mc_40 (pc := 38) (x := (.getfield 18, 3)) (by decide +kernel)) mo_40 (by decide +kernel)
theorem e_40_41 : Df d 40 41 [l0, l1, l2] (.int y :: .int x :: st) h nx = if x < y then Df d 40 62 [l0, l1, l2] st h nx else Df d 40 44 [l0, l1, l2] st h nx := D_icmp_lt (ins_of mc_40 (pc := 41) (x := (.if_icmp .lt 21, 3)) (by decide +kernel)) (by decide)
theorem e_40_44 : Df d 40 44 [.ref a, l1, l2] st h nx = Df d 40 45 [.ref a, l1, l2] (.ref a :: st) h nx := D_aload_n (ins_of mc_40 (pc := 44) (x := (.aload_n 0, 1)) (by decide +kernel)) rfl
theorem e_40_45 : Df d 40 45 [l0, l1, l2] st h nx = Df d 40 48 [l0, l1, l2] (.int 258 :: st) h nx := D_sipush (ins_of mc_40 (pc := 45) (x := (.sipush 258, 3)) (by decide +kernel)) (by decide)
theorem e_40_48 : Df d 40 48 [l0, l1, l2] (.int x :: .ref a :: st) h nx = (pF h a 4 5 (.int x)).bind fun h => Df d 40 51 [l0, l1, l2] st h nx := D_putfield (ins_of mc_40 (pc := 48) (x := (.putfield 32, 3)) (by decide +kernel)) mo_40 (by decide +kernel) rfl (Or.inl rfl)
theorem e_40_51 : Df d 40 51 [.ref a, l1, l2] st h nx = Df d 40 52 [.ref a, l1, l2] (.ref a :: st) h nx := D_aload_n (ins_of mc_40 (pc := 51) (x := (.aload_n 0, 1)) (by decide +kernel)) rfl
theorem e_40_52 : Df d 40 52 [.ref a, l1, l2] st h nx = Df d 40 53 [.ref a, l1, l2] (.ref a :: st) h nx := D_aload_n (ins_of mc_40 (pc := 52) (x := (.aload_n 0, 1)) (by decide +kernel)) rfl
theorem e_40_53 : Df d 40 53 [l0, l1, l2] (.ref a :: st) h nx = (gF h a 4 1).bind fun v => Df d 40 56 [l0, l1, l2] (v :: st) h nx := D_getfield (ins_of mc_40 (pc := 53) (x := (.getfield 18, 3)) (by decide +kernel)) mo_40 (by decide +kernel)
theorem e_40_56 : Df d 40 56 [l0, l1, l2] (.int x :: .ref a :: st) h nx = (pF h a 4 4 (.int x)).bind fun h => Df d 40 59 [l0, l1, l2] st h nx := D_putfield (ins_of mc_40 (pc := 56) (x := (.putfield 29, 3)) (by decide +kernel)) mo_40 (by decide +kernel) rfl (Or.inl rfl)
theorem e_40_59 : Df d 40 59 [l0, l1, l2] st h nx = Df d 40 157 [l0, l1, l2] st h nx := D_goto (ins_of mc_40 (pc := 59) (x := (.goto 98, 3)) (by decide +kernel)) (by decide)
theorem e_40_62 : Df d 40 62 [.ref a, l1, l2] st h nx = Df d 40 63 [.ref a, l1, l2] (.ref a :: st) h nx := D_aload_n (ins_of mc_40 (pc := 62) (x := (.aload_n 0, 1)) (by decide +kernel)) rfl
theorem e_40_63 : Df d 40 63 [.ref a, l1, l2] st h nx = Df d 40 64 [.ref a, l1, l2] (.ref a :: st) h nx := D_aload_n (ins_of mc_40 (pc := 63) (x := (.aload_n 0, 1)) (by decide +kernel)) rfl
theorem e_40_64 : Df d 40 64 [l0, l1, l2] (.ref a :: st) h nx = (gF h a 4 2).bind fun v => Df d 40 67 [l0, l1, l2] (v :: st) h nx := D_getfield (ins_of mc_40 (pc := 64) (x := (.getfield 22, 3)) (by decide +kernel)) mo_40 (by decide +kernel)
theorem e_40_67 : Df d 40 67 [l0, l1, l2] st h nx = Df d 40 69 [l0, l1, l2] (.int 97 :: st) h nx := D_bipush (ins_of mc_40 (pc := 67) (x := (.bipush 97, 2)) (by decide +kernel)) (by decide)
theorem e_40_69 : Df d 40 69 [l0, l1, l2] st h nx = Df d 40 71 [l0, l1, l2] (.int 122 :: st) h nx := D_bipush (ins_of mc_40 (pc := 69) (x := (.bipush 122, 2)) (by decide +kernel)) (by decide)
theorem e_40_71 : Df d 40 71 [l0, l1, l2] [v2, v1, v0, .ref a] h nx = if ck h a 4 = true then cn d 40 74 [l0, l1, l2] [] (Dn d 43 [.ref a, v0, v1, v2] h nx) else none := D_virtual (k1 := 43) (ins_of mc_40 (pc := 71) (x := (.invokevirtual 56, 3)) (by decide +kernel)) mo_40 (by decide +kernel) (by decide) rfl rfl (by decide) rfl (Nat.le_of_ble_eq_true rfl) rfl
theorem e_40_74 : Df d 40 74 [l0, l1, l2] (.int x :: st) h nx = if x = 0 then Df d 40 103 [l0, l1, l2] st h nx else Df d 40 77 [l0, l1, l2] st h nx := D_if_eq (ins_of mc_40 (pc := 74) (x := (.ifCond .eq 29, 3)) (by decide +kernel)) (by decide)
theorem e_40_77 : Df d 40 77 [.ref a, l1, l2] st h nx = Df d 40 78 [.ref a, l1, l2] (.ref a :: st) h nx := D_aload_n (ins_of mc_40 (pc := 77) (x := (.aload_n 0, 1)) (by decide +kernel)) rfl
theorem e_40_78 : Df d 40 78 [l0, l1, l2] st h nx = Df d 40 81 [l0, l1, l2] (.int 256 :: st) h nx := D_sipush (ins_of mc_40 (pc := 78) (x := (.sipush 256, 3)) (by decide +kernel)) (by decide)
theorem e_40_81 : Df d 40 81 [l0, l1, l2] (.int x :: .ref a :: st) h nx = (pF h a 4 5 (.int x)).bind fun h => Df d 40 84 [l0, l1, l2] st h nx := D_putfield (ins_of mc_40 (pc := 81) (x := (.putfield 32, 3)) (by decide +kernel)) mo_40 (by decide +kernel) rfl (Or.inl rfl)
theorem e_40_84 : Df d 40 84 [.ref a, l1, l2] st h nx = Df d 40 85 [.ref a, l1, l2] (.ref a :: st) h nx := D_aload_n (ins_of mc_40 (pc := 84) (x := (.aload_n 0, 1)) (by decide +kernel)) rfl
theorem e_40_85 : Df d 40 85 [.ref a, l1, l2] st h nx = Df d 40 86 [.ref a, l1, l2] (.ref a :: st) h nx := D_aload_n (ins_of mc_40 (pc := 85) (x := (.aload_n 0, 1)) (by decide +kernel)) rfl
theorem e_40_86 : Df d 40 86 [.ref a, l1, l2] st h nx = Df d 40 87 [.ref a, l1, l2] (.ref a :: st) h nx := D_aload_n (ins_of mc_40 (pc := 86) (x := (.aload_n 0, 1)) (by decide +kernel)) rfl
theorem e_40_87 : Df d 40 87 [l0, l1, l2] (.ref a :: st) h nx = (gF h a 4 2).bind fun v => Df d 40 90 [l0, l1, l2] (v :: st) h nx := D_getfield (ins_of mc_40 (pc := 87) (x := (.getfield 22, 3)) (by decide +kernel)) mo_40 (by decide +kernel)
theorem e_40_90 : Df d 40 90 [l0, l1, l2] st h nx = Df d 40 92 [l0, l1, l2] (.int 97 :: st) h nx := D_bipush (ins_of mc_40 (pc := 90) (x := (.bipush 97, 2)) (by decide +kernel)) (by decide)
theorem e_40_92 : Df d 40 92 [l0, l1, l2] st h nx = Df d 40 94 [l0, l1, l2] (.int 122 :: st) h nx := D_bipush (ins_of mc_40 (pc := 92) (x := (.bipush 122, 2)) (by decide +kernel)) (by decide)
theorem e_40_94 : Df d 40 94 [l0, l1, l2] [v2, v1, v0, .ref a, s0] h nx = if ck h a 4 = true then cn d 40 97 [l0, l1, l2] [s0] (Dn d 42 [.ref a, v0, v1, v2] h nx) else none := D_virtual (k1 := 42) (ins_of mc_40 (pc := 94) (x := (.invokevirtual 52, 3)) (by decide +kernel)) mo_40 (by decide +kernel) (by decide) rfl rfl (by decide) rfl (Nat.le_of_ble_eq_true rfl) rfl
theorem e_40_97 : Df d 40 97 [l0, l1, l2] (.int x :: .ref a :: st) h nx = (pF h a 4 4 (.int x)).bind fun h => Df d 40 100 [l0, l1, l2] st h nx := D_putfield (ins_of mc_40 (pc := 97) (x := (.putfield 29, 3)) (by decide +kernel)) mo_40 (by decide +kernel) rfl (Or.inl rfl)
theorem e_40_100 : Df d 40 100 [l0, l1, l2] st h nx = Df d 40 157 [l0, l1, l2] st h nx := D_goto (ins_of mc_40 (pc := 100) (x := (.goto 57, 3)) (by decide +kernel)) (by decide)
theorem e_40_103 : Df d 40 103 [.ref a, l1, l2] st h nx = Df d 40 104 [.ref a, l1, l2] (.ref a :: st) h nx := D_aload_n (ins_of mc_40 (pc := 103) (x := (.aload_n 0, 1)) (by decide +kernel)) rfl
theorem e_40_104 : Df d 40 104 [.ref a, l1, l2] st h nx = Df d 40 105 [.ref a, l1, l2] (.ref a :: st) h nx := D_aload_n (ins_of mc_40 (pc := 104) (x := (.aload_n 0, 1)) (by decide +kernel)) rfl
theorem e_40_105 : Df d 40 105 [l0, l1, l2] (.ref a :: st) h nx = (gF h a 4 2).bind fun v => Df d 40 108 [l0, l1, l2] (v :: st) h nx := D_getfield (ins_of mc_40 (pc := 105) (x := (.getfield 22, 3)) (by decide +kernel)) mo_40 (by decide +kernel)
theorem e_40_108 : Df d 40 108 [l0, l1, l2] st h nx = Df d 40 110 [l0, l1, l2] (.int 48 :: st) h nx := D_bipush (ins_of mc_40 (pc := 108) (x := (.bipush 48, 2)) (by decide +kernel)) (by decide)
theorem e_40_110 : Df d 40 110 [l0, l1, l2] st h nx = Df d 40 112 [l0, l1, l2] (.int 57 :: st) h nx := D_bipush (ins_of mc_40 (pc := 110) (x := (.bipush 57, 2)) (by decide +kernel)) (by decide)
theorem e_40_112 : Df d 40 112 [l0, l1, l2] [v2, v1, v0, .ref a] h nx = if ck h a 4 = true then cn d 40 115 [l0, l1, l2] [] (Dn d 43 [.ref a, v0, v1, v2] h nx) else none := D_virtual (k1 := 43) (ins_of mc_40 (pc := 112) (x := (.invokevirtual 56, 3)) (by decide +kernel)) mo_40 (by decide +kernel) (by decide) rfl rfl (by decide) rfl (Nat.le_of_ble_eq_true rfl) rfl
theorem e_40_115 : Df d 40 115 [l0, l1, l2] (.int x :: st) h nx = if x = 0 then Df d 40 144 [l0, l1, l2] st h nx else Df d 40 118 [l0, l1, l2] st h nx := D_if_eq (ins_of mc_40 (pc := 115) (x := (.ifCond .eq 29, 3)) (by decide +kernel)) (by decide)
theorem e_40_118 : Df d 40 118 [.ref a, l1, l2] st h nx = Df d 40 119 [.ref a, l1, l2] (.ref a :: st) h nx := D_aload_n (ins_of mc_40 (pc := 118) (x := (.aload_n 0, 1)) (by decide +kernel)) rfl
theorem e_40_119 : Df d 40 119 [l0, l1, l2] st h nx = Df d 40 122 [l0, l1, l2] (.int 257 :: st) h nx := D_sipush (ins_of mc_40 (pc := 119) (x := (.sipush 257, 3)) (by decide +kernel)) (by decide)
theorem e_40_122 : Df d 40 122 [l0, l1, l2] (.int x :: .ref a :: st) h nx = (pF h a 4 5 (.int x)).bind fun h => Df d 40 125 [l0, l1, l2] st h nx := D_putfield (ins_of mc_40 (pc := 122) (x := (.putfield 32, 3)) (by decide +kernel)) mo_40 (by decide +kernel) rfl (Or.inl rfl)
theorem e_40_125 : Df d 40 125 [.ref a, l1, l2] st h nx = Df d 40 126 [.ref a, l1, l2] (.ref a :: st) h nx := D_aload_n (ins_of mc_40 (pc := 125) (x := (.aload_n 0, 1)) (by decide +kernel)) rfl
theorem e_40_126 : Df d 40 126 [.ref a, l1, l2] st h nx = Df d 40 127 [.ref a, l1, l2] (.ref a :: st) h nx := D_aload_n (ins_of mc_40 (pc := 126) (x := (.aload_n 0, 1)) (by decide +kernel)) rfl
theorem e_40_127 : Df d 40 127 [.ref a, l1, l2] st h nx = Df d 40 128 [.ref a, l1, l2] (.ref a :: st) h nx := D_aload_n (ins_of mc_40 (pc := 127) (x := (.aload_n 0, 1)) (by decide +kernel)) rfl
theorem e_40_128 : Df d 40 128 [l0, l1, l2] (.ref a :: st) h nx = (gF h a 4 2).bind fun v => Df d 40 131 [l0, l1, l2] (v :: st) h nx := D_getfield (ins_of mc_40 (pc := 128) (x := (.getfield 22, 3)) (by decide +kernel)) mo_40 (by decide +kernel)
theorem e_40_131 : Df d 40 131 [l0, l1, l2] st h nx = Df d 40 133 [l0, l1, l2] (.int 48 :: st) h nx := D_bipush (ins_of mc_40 (pc := 131) (x := (.bipush 48, 2)) (by decide +kernel)) (by decide)
theorem e_40_133 : Df d 40 133 [l0, l1, l2] st h nx = Df d 40 135 [l0, l1, l2] (.int 57 :: st) h nx := D_bipush (ins_of mc_40 (pc := 133) (x := (.bipush 57, 2)) (by decide +kernel)) (by decide)
theorem e_40_135 : Df d 40 135 [l0, l1, l2] [v2, v1, v0, .ref a, s0] h nx = if ck h a 4 = true then cn d 40 138 [l0, l1, l2] [s0] (Dn d 42 [.ref a, v0, v1, v2] h nx) else none := D_virtual (k1 := 42) (ins_of mc_40 (pc := 135) (x := (.invokevirtual 52, 3)) (by decide +kernel)) mo_40 (by decide +kernel) (by decide) rfl rfl (by decide) rfl (Nat.le_of_ble_eq_true rfl) rfl
theorem e_40_138 : Df d 40 138 [l0, l1, l2] (.int x :: .ref a :: st) h nx = (pF h a 4 4 (.int x)).bind fun h => Df d 40 141 [l0, l1, l2] st h nx := D_putfield (ins_of mc_40 (pc := 138) (x := (.putfield 29, 3)) (by decide +kernel)) mo_40 (by decide +kernel) rfl (Or.inl rfl)
theorem e_40_141 : Df d 40 141 [l0, l1, l2] st h nx = Df d 40 157 [l0, l1, l2] st h nx := D_goto (ins_of mc_40 (pc := 141) (x := (.goto 16, 3)) (by decide +kernel)) (by decide)
theorem e_40_144 : Df d 40 144 [.ref a, l1, l2] st h nx = Df d 40 145 [.ref a, l1, l2] (.ref a :: st) h nx := D_aload_n (ins_of mc_40 (pc := 144) (x := (.aload_n 0, 1)) (by decide +kernel)) rfl
theorem e_40_145 : Df d 40 145 [.ref a, l1, l2] st h nx = Df d 40 146 [.ref a, l1, l2] (.ref a :: st) h nx := D_aload_n (ins_of mc_40 (pc := 145) (x := (.aload_n 0, 1)) (by decide +kernel)) rfl
theorem e_40_146 : Df d 40 146 [l0, l1, l2] (.ref a :: st) h nx = (gF h a 4 3).bind fun v => Df d 40 149 [l0, l1, l2] (v :: st) h nx := D_getfield (ins_of mc_40 (pc := 146) (x := (.getfield 25, 3)) (by decide +kernel)) mo_40 (by decide +kernel)
theorem e_40_149 : Df d 40 149 [.ref a, l1, l2] st h nx = Df d 40 150 [.ref a, l1, l2] (.ref a :: st) h nx := D_aload_n (ins_of mc_40 (pc := 149) (x := (.aload_n 0, 1)) (by decide +kernel)) rfl
theorem e_40_150 : Df d 40 150 [l0, l1, l2] (.ref a :: st) h nx = (gF h a 4 2).bind fun v => Df d 40 153 [l0, l1, l2] (v :: st) h nx := D_getfield (ins_of mc_40 (pc := 150) (x := (.getfield 22, 3)) (by decide +kernel)) mo_40 (by decide +kernel)
theorem e_40_153 : Df d 40 153 [l0, l1, l2] (.int x :: .ref a :: st) h nx = (rX h a x).bind fun v => Df d 40 154 [l0, l1, l2] (.int v :: st) h nx := D_iaload (ins_of mc_40 (pc := 153) (x := (.iaload, 1)) (by decide +kernel))
theorem e_40_154 : Df d 40 154 [l0, l1, l2] (.int x :: .ref a :: st) h nx = (pF h a 4 5 (.int x)).bind fun h => Df d 40 157 [l0, l1, l2] st h nx := D_putfield (ins_of mc_40 (pc := 154) (x := (.putfield 32, 3)) (by decide +kernel)) mo_40 (by decide +kernel) rfl (Or.inl rfl)
theorem e_40_157 : Df d 40 157 [l0, .int x, l2] st h nx = Df d 40 158 [l0, .int x, l2] (.int x :: st) h nx := D_iload_n (ins_of mc_40 (pc := 157) (x := (.iload_n 1, 1)) (by decide +kernel)) rfl
theorem e_40_158 : Df d 40 158 [l0, l1, l2] (.int x :: st) h nx = if x = 0 then Df d 40 183 [l0, l1, l2] st h nx else Df d 40 161 [l0, l1, l2] st h nx := D_if_eq (ins_of mc_40 (pc := 158) (x := (.ifCond .eq 25, 3)) (by decide +kernel)) (by decide)
theorem e_40_161 : Df d 40 161 [.ref a, l1, l2] st h nx = Df d 40 162 [.ref a, l1, l2] (.ref a :: st) h nx := D_aload_n (ins_of mc_40 (pc := 161) (x := (.aload_n 0, 1)) (by decide +kernel)) rfl
theorem e_40_162 : Df d 40 162 [l0, l1, l2] [.ref a] h nx = if ck h a 4 = true then cn d 40 165 [l0, l1, l2] [] (Dn d 41 [.ref a] h nx) else none := D_virtual (k1 := 41) (ins_of mc_40 (pc := 162) (x := (.invokevirtual 49, 3)) (by decide +kernel)) mo_40 (by decide +kernel) (by decide) rfl rfl (by decide) rfl (Nat.le_of_ble_eq_true rfl) rfl
theorem e_40_165 : Df d 40 165 [l0, l1, l2] (.int x :: st) h nx = if x = 0 then Df d 40 183 [l0, l1, l2] st h nx else Df d 40 168 [l0, l1, l2] st h nx := D_if_eq (ins_of mc_40 (pc := 165) (x := (.ifCond .eq 18, 3)) (by decide +kernel)) (by decide)
theorem e_40_168 : Df d 40 168 [.ref a, l1, l2] st h nx = Df d 40 169 [.ref a, l1, l2] (.ref a :: st) h nx := D_aload_n (ins_of mc_40 (pc := 168) (x := (.aload_n 0, 1)) (by decide +kernel)) rfl
theorem e_40_169 : Df d 40 169 [l0, l1, l2] (.ref a :: st) h nx = (gF h a 4 2).bind fun v => Df d 40 172 [l0, l1, l2] (v :: st) h nx := D_getfield (ins_of mc_40 (pc := 169) (x := (.getfield 22, 3)) (by decide +kernel)) mo_40 (by decide +kernel)
theorem e_40_172 : Df d 40 172 [l0, l1, .int x] st h nx = Df d 40 173 [l0, l1, .int x] (.int x :: st) h nx := D_iload_n (ins_of mc_40 (pc := 172) (x := (.iload_n 2, 1)) (by decide +kernel)) rfl
theorem e_40_173 : Df d 40 173 [l0, l1, l2] (.int y :: .int x :: st) h nx = if x = y then Df d 40 176 [l0, l1, l2] st h nx else Df d 40 183 [l0, l1, l2] st h nx := D_icmp_ne (ins_of mc_40 (pc := 173) (x := (.if_icmp .ne 10, 3)) (by decide +kernel)) (by decide)
theorem e_40_176 : Df d 40 176 [.ref a, l1, l2] st h nx = Df d 40 177 [.ref a, l1, l2] (.ref a :: st) h nx := D_aload_n (ins_of mc_40 (pc := 176) (x := (.aload_n 0, 1)) (by decide +kernel)) rfl
theorem e_40_177 : Df d 40 177 [l0, l1, l2] st h nx = Df d 40 180 [l0, l1, l2] (.int 259 :: st) h nx := D_sipush (ins_of mc_40 (pc := 177) (x := (.sipush 259, 3)) (by decide +kernel)) (by decide)
theorem e_40_180 : Df d 40 180 [l0, l1, l2] (.int x :: .ref a :: st) h nx = (pF h a 4 5 (.int x)).bind fun h => Df d 40 183 [l0, l1, l2] st h nx := D_putfield (ins_of mc_40 (pc := 180) (x := (.putfield 32, 3)) (by decide +kernel)) mo_40 (by decide +kernel) rfl (Or.inl rfl)
theorem e_40_183 : Df d 40 183 [l0, l1, l2] [] h nx = some (none, h, nx) := D_return (ins_of mc_40 (pc := 183) (x := (.return_, 1)) (by decide +kernel)) mr_40
theorem mc_41 : mC 41 = prog_6_method_5_code := rfl
theorem mo_41 : mO 41 = 4 := rfl
theorem ml_41 : mL 41 = 1 := rfl
theorem mr_41 : mR 41 = (some .boolean) := rfl
theorem ma_41 : mA 41 = 0 := rfl
theorem e_41_0 : Df d 41 0 [.ref a] st h nx = Df d 41 1 [.ref a] (.ref a :: st) h nx := D_aload_n (ins_of mc_41 (pc := 0) (x := (.aload_n 0, 1)) (by decide +kernel)) rfl
theorem e_41_1 : Df d 41 1 [l0] (.ref a :: st) h nx = (gF h a 4 5).bind fun v => Df d 41 4 [l0] (v :: st) h nx := D_getfield (ins_of mc_41 (pc := 1) (x := (.getfield 32, 3)) (by decide +kernel)) mo_41 (by decide +kernel)
theorem e_41_4 : Df d 41 4 [l0] st h nx = Df d 41 7 [l0] (.int 256 :: st) h nx := D_sipush (ins_of mc_41 (pc := 4) (x := (.sipush 256, 3)) (by decide +kernel)) (by decide)
theorem e_41_7 : Df d 41 7 [l0] (.int y :: .int x :: st) h nx = if x = y then Df d 41 20 [l0] st h nx else Df d 41 10 [l0] st h nx := D_icmp_eq (ins_of mc_41 (pc := 7) (x := (.if_icmp .eq 13, 3)) (by decide +kernel)) (by decide)
theorem e_41_10 : Df d 41 10 [.ref a] st h nx = Df d 41 11 [.ref a] (.ref a :: st) h nx := D_aload_n (ins_of mc_41 (pc := 10) (x := (.aload_n 0, 1)) (by decide +kernel)) rfl
theorem e_41_11 : Df d 41 11 [l0] (.ref a :: st) h nx = (gF h a 4 5).bind fun v => Df d 41 14 [l0] (v :: st) h nx := D_getfield (ins_of mc_41 (pc := 11) (x := (.getfield 32, 3)) (by decide +kernel)) mo_41 (by decide +kernel)
theorem e_41_14 : Df d 41 14 [l0] st h nx = Df d 41 17 [l0] (.int 257 :: st) h nx := D_sipush (ins_of mc_41 (pc := 14) (x := (.sipush 257, 3)) (by decide +kernel)) (by decide)
theorem e_41_17 : Df d 41 17 [l0] (.int y :: .int x :: st) h nx = if x = y then Df d 41 20 [l0] st h nx else Df d 41 24 [l0] st h nx := D_icmp_ne (ins_of mc_41 (pc := 17) (x := (.if_icmp .ne 7, 3)) (by decide +kernel)) (by decide)
theorem e_41_20 : Df d 41 20 [l0] st h nx = Df d 41 21 [l0] (.int 1 :: st) h nx := D_iconst (ins_of mc_41 (pc := 20) (x := (.iconst 1, 1)) (by decide +kernel)) (by decide)
theorem e_41_21 : Df d 41 21 [l0] st h nx = Df d 41 25 [l0] st h nx := D_goto (ins_of mc_41 (pc := 21) (x := (.goto 4, 3)) (by decide +kernel)) (by decide)
theorem e_41_24 : Df d 41 24 [l0] st h nx = Df d 41 25 [l0] (.int 0 :: st) h nx := D_iconst (ins_of mc_41 (pc := 24) (x := (.iconst 0, 1)) (by decide +kernel)) (by decide)
theorem e_41_25 : Df d 41 25 [l0] [.int x] h nx = if nR .boolean x = true then some (some (.int x), h, nx) else none := D_zreturn (ins_of mc_41 (pc := 25) (x := (.ireturn, 1)) (by decide +kernel)) mr_41
theorem mc_42 : mC 42 = prog_6_method_7_code := rfl
theorem mo_42 : mO 42 = 4 := rfl
theorem ml_42 : mL 42 = 5 := rfl
theorem mr_42 : mR 42 = (some .int) := rfl
theorem ma_42 : mA 42 = 3 := rfl
theorem e_42_0 : Df d 42 0 [l0, .int x, l2, l3, l4] st h nx = Df d 42 1 [l0, .int x, l2, l3, l4] (.int x :: st) h nx := D_iload_n (ins_of mc_42 (pc := 0) (x := (.iload_n 1, 1)) (by decide +kernel)) rfl
theorem e_42_1 (hn : nr l4 = true) : Df d 42 1 [l0, l1, l2, l3, l4] (.int x :: st) h nx = Df d 42 3 [l0, l1, l2, l3, .int x] st h nx := D_istore (ins_of mc_42 (pc := 1) (x := (.istore 4, 2)) (by decide +kernel)) rfl hn rfl
theorem e_42_3 : Df d 42 3 [l0, l1, l2, l3, .int x] st h nx = Df d 42 5 [l0, l1, l2, l3, .int x] (.int x :: st) h nx := D_iload (ins_of mc_42 (pc := 3) (x := (.iload 4, 2)) (by decide +kernel)) rfl
theorem e_42_5 : Df d 42 5 [.ref a, l1, l2, l3, l4] st h nx = Df d 42 6 [.ref a, l1, l2, l3, l4] (.ref a :: st) h nx := D_aload_n (ins_of mc_42 (pc := 5) (x := (.aload_n 0, 1)) (by decide +kernel)) rfl
theorem e_42_6 : Df d 42 6 [l0, l1, l2, l3, l4] (.ref a :: st) h nx = (gF h a 4 1).bind fun v => Df d 42 9 [l0, l1, l2, l3, l4] (v :: st) h nx := D_getfield (ins_of mc_42 (pc := 6) (x := (.getfield 18, 3)) (by decide +kernel)) mo_42 (by decide +kernel)
theorem e_42_9 : Df d 42 9 [l0, l1, l2, l3, l4] (.int y :: .int x :: st) h nx = if y ≤ x then Df d 42 29 [l0, l1, l2, l3, l4] st h nx else Df d 42 12 [l0, l1, l2, l3, l4] st h nx := D_icmp_ge (ins_of mc_42 (pc := 9) (x := (.if_icmp .ge 20, 3)) (by decide +kernel)) (by decide)
theorem e_42_12 : Df d 42 12 [.ref a, l1, l2, l3, l4] st h nx = Df d 42 13 [.ref a, l1, l2, l3, l4] (.ref a :: st) h nx := D_aload_n (ins_of mc_42 (pc := 12) (x := (.aload_n 0, 1)) (by decide +kernel)) rfl
theorem e_42_13 : Df d 42 13 [l0, l1, l2, l3, .int x] st h nx = Df d 42 15 [l0, l1, l2, l3, .int x] (.int x :: st) h nx := D_iload (ins_of mc_42 (pc := 13) (x := (.iload 4, 2)) (by decide +kernel)) rfl
theorem e_42_15 : Df d 42 15 [l0, l1, .int x, l3, l4] st h nx = Df d 42 16 [l0, l1, .int x, l3, l4] (.int x :: st) h nx := D_iload_n (ins_of mc_42 (pc := 15) (x := (.iload_n 2, 1)) (by decide +kernel)) rfl
theorem e_42_16 : Df d 42 16 [l0, l1, l2, .int x, l4] st h nx = Df d 42 17 [l0, l1, l2, .int x, l4] (.int x :: st) h nx := D_iload_n (ins_of mc_42 (pc := 16) (x := (.iload_n 3, 1)) (by decide +kernel)) rfl
theorem e_42_17 : Df d 42 17 [l0, l1, l2, l3, l4] [v2, v1, v0, .ref a] h nx = if ck h a 4 = true then cn d 42 20 [l0, l1, l2, l3, l4] [] (Dn d 43 [.ref a, v0, v1, v2] h nx) else none := D_virtual (k1 := 43) (ins_of mc_42 (pc := 17) (x := (.invokevirtual 56, 3)) (by decide +kernel)) mo_42 (by decide +kernel) (by decide) rfl rfl (by decide) rfl (Nat.le_of_ble_eq_true rfl) rfl
theorem e_42_20 : Df d 42 20 [l0, l1, l2, l3, l4] (.int x :: st) h nx = if x = 0 then Df d 42 29 [l0, l1, l2, l3, l4] st h nx else Df d 42 23 [l0, l1, l2, l3, l4] st h nx := D_if_eq (ins_of mc_42 (pc := 20) (x := (.ifCond .eq 9, 3)) (by decide +kernel)) (by decide)
theorem e_42_23 : Df d 42 23 [l0, l1, l2, l3, .int x] st h nx = Df d 42 26 [l0, l1, l2, l3, .int (x + 1)] st h nx := D_iinc (ins_of mc_42 (pc := 23) (x := (.iinc 4 1, 3)) (by decide +kernel)) rfl (by decide) rfl
theorem e_42_26 : Df d 42 26 [l0, l1, l2, l3, l4] st h nx = Df d 42 3 [l0, l1, l2, l3, l4] st h nx := D_goto (ins_of mc_42 (pc := 26) (x := (.goto (-23), 3)) (by decide +kernel)) (by decide)
theorem e_42_29 : Df d 42 29 [l0, l1, l2, l3, .int x] st h nx = Df d 42 31 [l0, l1, l2, l3, .int x] (.int x :: st) h nx := D_iload (ins_of mc_42 (pc := 29) (x := (.iload 4, 2)) (by decide +kernel)) rfl
theorem e_42_31 : Df d 42 31 [l0, l1, l2, l3, l4] [.int x] h nx = some (some (.int x), h, nx) := D_ireturn (ins_of mc_42 (pc := 31) (x := (.ireturn, 1)) (by decide +kernel)) mr_42
theorem mc_43 : mC 43 = prog_6_method_6_code := rfl
theorem mo_43 : mO 43 = 4 := rfl
theorem ml_43 : mL 43 = 4 := rfl
theorem mr_43 : mR 43 = (some .boolean) := rfl
theorem ma_43 : mA 43 = 3 := rfl
theorem e_43_0 : Df d 43 0 [l0, .int x, l2, l3] st h nx = Df d 43 1 [l0, .int x, l2, l3] (.int x :: st) h nx := D_iload_n (ins_of mc_43 (pc := 0) (x := (.iload_n 1, 1)) (by decide +kernel)) rfl
theorem e_43_1 : Df d 43 1 [l0, l1, l2, l3] (.int x :: st) h nx = if x < 0 then Df d 43 42 [l0, l1, l2, l3] st h nx else Df d 43 4 [l0, l1, l2, l3] st h nx := D_if_lt (ins_of mc_43 (pc := 1) (x := (.ifCond .lt 41, 3)) (by decide +kernel)) (by decide)
theorem e_43_4 : Df d 43 4 [l0, .int x, l2, l3] st h nx = Df d 43 5 [l0, .int x, l2, l3] (.int x :: st) h nx := D_iload_n (ins_of mc_43 (pc := 4) (x := (.iload_n 1, 1)) (by decide +kernel)) rfl
theorem e_43_5 : Df d 43 5 [.ref a, l1, l2, l3] st h nx = Df d 43 6 [.ref a, l1, l2, l3] (.ref a :: st) h nx := D_aload_n (ins_of mc_43 (pc := 5) (x := (.aload_n 0, 1)) (by decide +kernel)) rfl
theorem e_43_6 : Df d 43 6 [l0, l1, l2, l3] (.ref a :: st) h nx = (gF h a 4 1).bind fun v => Df d 43 9 [l0, l1, l2, l3] (v :: st) h nx := D_getfield (ins_of mc_43 (pc := 6) (x := (.getfield 18, 3)) (by decide +kernel)) mo_43 (by decide +kernel)
theorem e_43_9 : Df d 43 9 [l0, l1, l2, l3] (.int y :: .int x :: st) h nx = if y ≤ x then Df d 43 42 [l0, l1, l2, l3] st h nx else Df d 43 12 [l0, l1, l2, l3] st h nx := D_icmp_ge (ins_of mc_43 (pc := 9) (x := (.if_icmp .ge 33, 3)) (by decide +kernel)) (by decide)
theorem e_43_12 : Df d 43 12 [l0, .int x, l2, l3] st h nx = Df d 43 13 [l0, .int x, l2, l3] (.int x :: st) h nx := D_iload_n (ins_of mc_43 (pc := 12) (x := (.iload_n 1, 1)) (by decide +kernel)) rfl
theorem e_43_13 : Df d 43 13 [l0, l1, l2, l3] st h nx = Df d 43 15 [l0, l1, l2, l3] (.int 96 :: st) h nx := D_bipush (ins_of mc_43 (pc := 13) (x := (.bipush 96, 2)) (by decide +kernel)) (by decide)
theorem e_43_15 : Df d 43 15 [l0, l1, l2, l3] (.int y :: .int x :: st) h nx = if y ≤ x then Df d 43 42 [l0, l1, l2, l3] st h nx else Df d 43 18 [l0, l1, l2, l3] st h nx := D_icmp_ge (ins_of mc_43 (pc := 15) (x := (.if_icmp .ge 27, 3)) (by decide +kernel)) (by decide)
theorem e_43_18 : Df d 43 18 [.ref a, l1, l2, l3] st h nx = Df d 43 19 [.ref a, l1, l2, l3] (.ref a :: st) h nx := D_aload_n (ins_of mc_43 (pc := 18) (x := (.aload_n 0, 1)) (by decide +kernel)) rfl
theorem e_43_19 : Df d 43 19 [l0, l1, l2, l3] (.ref a :: st) h nx = (gF h a 4 3).bind fun v => Df d 43 22 [l0, l1, l2, l3] (v :: st) h nx := D_getfield (ins_of mc_43 (pc := 19) (x := (.getfield 25, 3)) (by decide +kernel)) mo_43 (by decide +kernel)
theorem e_43_22 : Df d 43 22 [l0, .int x, l2, l3] st h nx = Df d 43 23 [l0, .int x, l2, l3] (.int x :: st) h nx := D_iload_n (ins_of mc_43 (pc := 22) (x := (.iload_n 1, 1)) (by decide +kernel)) rfl
theorem e_43_23 : Df d 43 23 [l0, l1, l2, l3] (.int x :: .ref a :: st) h nx = (rX h a x).bind fun v => Df d 43 24 [l0, l1, l2, l3] (.int v :: st) h nx := D_iaload (ins_of mc_43 (pc := 23) (x := (.iaload, 1)) (by decide +kernel))
theorem e_43_24 : Df d 43 24 [l0, l1, .int x, l3] st h nx = Df d 43 25 [l0, l1, .int x, l3] (.int x :: st) h nx := D_iload_n (ins_of mc_43 (pc := 24) (x := (.iload_n 2, 1)) (by decide +kernel)) rfl
theorem e_43_25 : Df d 43 25 [l0, l1, l2, l3] (.int y :: .int x :: st) h nx = if x < y then Df d 43 42 [l0, l1, l2, l3] st h nx else Df d 43 28 [l0, l1, l2, l3] st h nx := D_icmp_lt (ins_of mc_43 (pc := 25) (x := (.if_icmp .lt 17, 3)) (by decide +kernel)) (by decide)
theorem e_43_28 : Df d 43 28 [.ref a, l1, l2, l3] st h nx = Df d 43 29 [.ref a, l1, l2, l3] (.ref a :: st) h nx := D_aload_n (ins_of mc_43 (pc := 28) (x := (.aload_n 0, 1)) (by decide +kernel)) rfl
theorem e_43_29 : Df d 43 29 [l0, l1, l2, l3] (.ref a :: st) h nx = (gF h a 4 3).bind fun v => Df d 43 32 [l0, l1, l2, l3] (v :: st) h nx := D_getfield (ins_of mc_43 (pc := 29) (x := (.getfield 25, 3)) (by decide +kernel)) mo_43 (by decide +kernel)
theorem e_43_32 : Df d 43 32 [l0, .int x, l2, l3] st h nx = Df d 43 33 [l0, .int x, l2, l3] (.int x :: st) h nx := D_iload_n (ins_of mc_43 (pc := 32) (x := (.iload_n 1, 1)) (by decide +kernel)) rfl
theorem e_43_33 : Df d 43 33 [l0, l1, l2, l3] (.int x :: .ref a :: st) h nx = (rX h a x).bind fun v => Df d 43 34 [l0, l1, l2, l3] (.int v :: st) h nx := D_iaload (ins_of mc_43 (pc := 33) (x := (.iaload, 1)) (by decide +kernel))
theorem e_43_34 : Df d 43 34 [l0, l1, l2, .int x] st h nx = Df d 43 35 [l0, l1, l2, .int x] (.int x :: st) h nx := D_iload_n (ins_of mc_43 (pc := 34) (x := (.iload_n 3, 1)) (by decide +kernel)) rfl
theorem e_43_35 : Df d 43 35 [l0, l1, l2, l3] (.int y :: .int x :: st) h nx = if y < x then Df d 43 42 [l0, l1, l2, l3] st h nx else Df d 43 38 [l0, l1, l2, l3] st h nx := D_icmp_gt (ins_of mc_43 (pc := 35) (x := (.if_icmp .gt 7, 3)) (by decide +kernel)) (by decide)
theorem e_43_38 : Df d 43 38 [l0, l1, l2, l3] st h nx = Df d 43 39 [l0, l1, l2, l3] (.int 1 :: st) h nx := D_iconst (ins_of mc_43 (pc := 38) (x := (.iconst 1, 1)) (by decide +kernel)) (by decide)
theorem e_43_39 : Df d 43 39 [l0, l1, l2, l3] st h nx = Df d 43 43 [l0, l1, l2, l3] st h nx := D_goto (ins_of mc_43 (pc := 39) (x := (.goto 4, 3)) (by decide +kernel)) (by decide)
theorem e_43_42 : Df d 43 42 [l0, l1, l2, l3] st h nx = Df d 43 43 [l0, l1, l2, l3] (.int 0 :: st) h nx := D_iconst (ins_of mc_43 (pc := 42) (x := (.iconst 0, 1)) (by decide +kernel)) (by decide)
theorem e_43_43 : Df d 43 43 [l0, l1, l2, l3] [.int x] h nx = if nR .boolean x = true then some (some (.int x), h, nx) else none := D_zreturn (ins_of mc_43 (pc := 43) (x := (.ireturn, 1)) (by decide +kernel)) mr_43
theorem mc_44 : mC 44 = prog_6_method_8_code := rfl
theorem mo_44 : mO 44 = 4 := rfl
theorem ml_44 : mL 44 = 2 := rfl
theorem mr_44 : mR 44 = (some .boolean) := rfl
theorem ma_44 : mA 44 = 0 := rfl
theorem e_44_0 : Df d 44 0 [.ref a, l1] st h nx = Df d 44 1 [.ref a, l1] (.ref a :: st) h nx := D_aload_n (ins_of mc_44 (pc := 0) (x := (.aload_n 0, 1)) (by decide +kernel)) rfl
theorem e_44_1 : Df d 44 1 [l0, l1] (.ref a :: st) h nx = (gF h a 4 5).bind fun v => Df d 44 4 [l0, l1] (v :: st) h nx := D_getfield (ins_of mc_44 (pc := 1) (x := (.getfield 32, 3)) (by decide +kernel)) mo_44 (by decide +kernel)
theorem e_44_4 : Df d 44 4 [l0, l1] st h nx = Df d 44 7 [l0, l1] (.int 256 :: st) h nx := D_sipush (ins_of mc_44 (pc := 4) (x := (.sipush 256, 3)) (by decide +kernel)) (by decide)
theorem e_44_7 : Df d 44 7 [l0, l1] (.int y :: .int x :: st) h nx = if x = y then Df d 44 12 [l0, l1] st h nx else Df d 44 10 [l0, l1] st h nx := D_icmp_eq (ins_of mc_44 (pc := 7) (x := (.if_icmp .eq 5, 3)) (by decide +kernel)) (by decide)
theorem e_44_10 : Df d 44 10 [l0, l1] st h nx = Df d 44 11 [l0, l1] (.int 0 :: st) h nx := D_iconst (ins_of mc_44 (pc := 10) (x := (.iconst 0, 1)) (by decide +kernel)) (by decide)
theorem e_44_11 : Df d 44 11 [l0, l1] [.int x] h nx = if nR .boolean x = true then some (some (.int x), h, nx) else none := D_zreturn (ins_of mc_44 (pc := 11) (x := (.ireturn, 1)) (by decide +kernel)) mr_44
theorem e_44_12 : Df d 44 12 [l0, l1] st h nx = Df d 44 13 [l0, l1] (.int 0 :: st) h nx := D_iconst (ins_of mc_44 (pc := 12) (x := (.iconst 0, 1)) (by decide +kernel)) (by decide)
theorem e_44_13 (hn : nr l1 = true) : Df d 44 13 [l0, l1] (.int x :: st) h nx = Df d 44 14 [l0, .int x] st h nx := D_istore_n (ins_of mc_44 (pc := 13) (x := (.istore_n 1, 1)) (by decide +kernel)) rfl hn rfl
theorem e_44_14 : Df d 44 14 [l0, .int x] st h nx = Df d 44 15 [l0, .int x] (.int x :: st) h nx := D_iload_n (ins_of mc_44 (pc := 14) (x := (.iload_n 1, 1)) (by decide +kernel)) rfl
theorem e_44_15 : Df d 44 15 [l0, l1] st h nx = Df d 44 16 [l0, l1] (.int 3 :: st) h nx := D_iconst (ins_of mc_44 (pc := 15) (x := (.iconst 3, 1)) (by decide +kernel)) (by decide)
theorem e_44_16 : Df d 44 16 [l0, l1] (.int y :: .int x :: st) h nx = if y ≤ x then Df d 44 46 [l0, l1] st h nx else Df d 44 19 [l0, l1] st h nx := D_icmp_ge (ins_of mc_44 (pc := 16) (x := (.if_icmp .ge 30, 3)) (by decide +kernel)) (by decide)
theorem e_44_19 : Df d 44 19 [.ref a, l1] st h nx = Df d 44 20 [.ref a, l1] (.ref a :: st) h nx := D_aload_n (ins_of mc_44 (pc := 19) (x := (.aload_n 0, 1)) (by decide +kernel)) rfl
theorem e_44_20 : Df d 44 20 [l0, .int x] st h nx = Df d 44 21 [l0, .int x] (.int x :: st) h nx := D_iload_n (ins_of mc_44 (pc := 20) (x := (.iload_n 1, 1)) (by decide +kernel)) rfl
theorem e_44_21 : Df d 44 21 [l0, l1] [v0, s0] h nx = cn d 44 24 [l0, l1] [s0] (Dn d 45 [v0] h nx) := D_static (k1 := 45) (kd := 1) (ins_of mc_44 (pc := 21) (x := (.invokestatic 59, 3)) (by decide +kernel)) mo_44 (by decide +kernel) (by decide) rfl (Nat.le_of_ble_eq_true rfl) rfl (Nat.le_of_ble_eq_true rfl) rfl
theorem e_44_24 : Df d 44 24 [l0, l1] [v0, .ref a] h nx = if ck h a 4 = true then cn d 44 27 [l0, l1] [] (Dn d 46 [.ref a, v0] h nx) else none := D_virtual (k1 := 46) (ins_of mc_44 (pc := 24) (x := (.invokevirtual 63, 3)) (by decide +kernel)) mo_44 (by decide +kernel) (by decide) rfl rfl (by decide) rfl (Nat.le_of_ble_eq_true rfl) rfl
theorem e_44_27 : Df d 44 27 [l0, l1] (.int x :: st) h nx = if x = 0 then Df d 44 40 [l0, l1] st h nx else Df d 44 30 [l0, l1] st h nx := D_if_eq (ins_of mc_44 (pc := 27) (x := (.ifCond .eq 13, 3)) (by decide +kernel)) (by decide)
theorem e_44_30 : Df d 44 30 [.ref a, l1] st h nx = Df d 44 31 [.ref a, l1] (.ref a :: st) h nx := D_aload_n (ins_of mc_44 (pc := 30) (x := (.aload_n 0, 1)) (by decide +kernel)) rfl
theorem e_44_31 : Df d 44 31 [l0, l1] (.ref a :: st) h nx = (gF h a 4 0).bind fun v => Df d 44 34 [l0, l1] (v :: st) h nx := D_getfield (ins_of mc_44 (pc := 31) (x := (.getfield 12, 3)) (by decide +kernel)) mo_44 (by decide +kernel)
theorem e_44_34 : Df d 44 34 [l0, .int x] st h nx = Df d 44 35 [l0, .int x] (.int x :: st) h nx := D_iload_n (ins_of mc_44 (pc := 34) (x := (.iload_n 1, 1)) (by decide +kernel)) rfl
theorem e_44_35 : Df d 44 35 [l0, l1] (.int x :: .ref a :: st) h nx = (pF h a 2 2 (.int x)).bind fun h => Df d 44 38 [l0, l1] st h nx := D_putfield (ins_of mc_44 (pc := 35) (x := (.putfield 67, 3)) (by decide +kernel)) mo_44 (by decide +kernel) rfl (Or.inl rfl)
theorem e_44_38 : Df d 44 38 [l0, l1] st h nx = Df d 44 39 [l0, l1] (.int 1 :: st) h nx := D_iconst (ins_of mc_44 (pc := 38) (x := (.iconst 1, 1)) (by decide +kernel)) (by decide)
theorem e_44_39 : Df d 44 39 [l0, l1] [.int x] h nx = if nR .boolean x = true then some (some (.int x), h, nx) else none := D_zreturn (ins_of mc_44 (pc := 39) (x := (.ireturn, 1)) (by decide +kernel)) mr_44
theorem e_44_40 : Df d 44 40 [l0, .int x] st h nx = Df d 44 43 [l0, .int (x + 1)] st h nx := D_iinc (ins_of mc_44 (pc := 40) (x := (.iinc 1 1, 3)) (by decide +kernel)) rfl (by decide) rfl
theorem e_44_43 : Df d 44 43 [l0, l1] st h nx = Df d 44 14 [l0, l1] st h nx := D_goto (ins_of mc_44 (pc := 43) (x := (.goto (-29), 3)) (by decide +kernel)) (by decide)
theorem e_44_46 : Df d 44 46 [l0, l1] st h nx = Df d 44 47 [l0, l1] (.int 0 :: st) h nx := D_iconst (ins_of mc_44 (pc := 46) (x := (.iconst 0, 1)) (by decide +kernel)) (by decide)
theorem e_44_47 : Df d 44 47 [l0, l1] [.int x] h nx = if nR .boolean x = true then some (some (.int x), h, nx) else none := D_zreturn (ins_of mc_44 (pc := 47) (x := (.ireturn, 1)) (by decide +kernel)) mr_44
theorem mc_45 : mC 45 = prog_6_method_9_code := rfl
theorem mo_45 : mO 45 = 4 := rfl
theorem ml_45 : mL 45 = 1 := rfl
theorem mr_45 : mR 45 = (some ((.object "java/lang/String"))) := rfl
theorem ma_45 : mA 45 = 1 := rfl
theorem e_45_0 : Df d 45 0 [.int x] st h nx = Df d 45 1 [.int x] (.int x :: st) h nx := D_iload_n (ins_of mc_45 (pc := 0) (x := (.iload_n 0, 1)) (by decide +kernel)) rfl
theorem e_45_1 : Df d 45 1 [l0] (.int x :: st) h nx = if x = 0 then Df d 45 28 [l0] st h nx else if x = 1 then Df d 45 31 [l0] st h nx else Df d 45 34 [l0] st h nx := by
  have hi := (ins_of mc_45 (pc := 1) (x := (.lookupswitch 33 #[(0, 27), (1, 30)], 27)) (by decide +kernel))
  by_cases q0 : x = 0
  · subst q0
    rw [if_pos rfl]
    exact D_lsw hi (by decide) (off := 27) (by decide) (by decide)
  rw [if_neg q0]
  by_cases q1 : x = 1
  · subst q1
    rw [if_pos rfl]
    exact D_lsw hi (by decide) (off := 30) (by decide) (by decide)
  rw [if_neg q1]
  refine D_lsw hi (by decide) (off := 33) ?_ (by decide)
  show Op.lookupswitch.offset [(0, 27), (1, 30)] 33 x.toInt = 33
  rw [lv_osw (k := 0) q0 (by decide)]
  rw [lv_osw (k := 1) q1 (by decide)]
  rfl
theorem e_45_28 : Df d 45 28 [l0] st h nx = Df d 45 30 [l0] (.ref 4 :: st) h nx := D_ldcs (ins_of mc_45 (pc := 28) (x := (.ldc 70, 2)) (by decide +kernel)) mo_45 (by decide +kernel) (by decide +kernel)
theorem e_45_30 : Df d 45 30 [l0] [.ref a] h nx = some (some (.ref a), h, nx) := D_areturn (ins_of mc_45 (pc := 30) (x := (.areturn, 1)) (by decide +kernel)) mr_45 rfl
theorem e_45_31 : Df d 45 31 [l0] st h nx = Df d 45 33 [l0] (.ref 5 :: st) h nx := D_ldcs (ins_of mc_45 (pc := 31) (x := (.ldc 72, 2)) (by decide +kernel)) mo_45 (by decide +kernel) (by decide +kernel)
theorem e_45_33 : Df d 45 33 [l0] [.ref a] h nx = some (some (.ref a), h, nx) := D_areturn (ins_of mc_45 (pc := 33) (x := (.areturn, 1)) (by decide +kernel)) mr_45 rfl
theorem e_45_34 : Df d 45 34 [l0] st h nx = Df d 45 36 [l0] (.ref 6 :: st) h nx := D_ldcs (ins_of mc_45 (pc := 34) (x := (.ldc 74, 2)) (by decide +kernel)) mo_45 (by decide +kernel) (by decide +kernel)
theorem e_45_36 : Df d 45 36 [l0] [.ref a] h nx = some (some (.ref a), h, nx) := D_areturn (ins_of mc_45 (pc := 36) (x := (.areturn, 1)) (by decide +kernel)) mr_45 rfl
theorem mc_46 : mC 46 = prog_6_method_11_code := rfl
theorem mo_46 : mO 46 = 4 := rfl
theorem ml_46 : mL 46 = 3 := rfl
theorem mr_46 : mR 46 = (some .boolean) := rfl
theorem ma_46 : mA 46 = 1 := rfl
theorem e_46_0 : Df d 46 0 [.ref a, l1, l2] st h nx = Df d 46 1 [.ref a, l1, l2] (.ref a :: st) h nx := D_aload_n (ins_of mc_46 (pc := 0) (x := (.aload_n 0, 1)) (by decide +kernel)) rfl
theorem e_46_1 : Df d 46 1 [l0, l1, l2] (.ref a :: st) h nx = (gF h a 4 4).bind fun v => Df d 46 4 [l0, l1, l2] (v :: st) h nx := D_getfield (ins_of mc_46 (pc := 1) (x := (.getfield 29, 3)) (by decide +kernel)) mo_46 (by decide +kernel)
theorem e_46_4 : Df d 46 4 [.ref a, l1, l2] st h nx = Df d 46 5 [.ref a, l1, l2] (.ref a :: st) h nx := D_aload_n (ins_of mc_46 (pc := 4) (x := (.aload_n 0, 1)) (by decide +kernel)) rfl
theorem e_46_5 : Df d 46 5 [l0, l1, l2] (.ref a :: st) h nx = (gF h a 4 2).bind fun v => Df d 46 8 [l0, l1, l2] (v :: st) h nx := D_getfield (ins_of mc_46 (pc := 5) (x := (.getfield 22, 3)) (by decide +kernel)) mo_46 (by decide +kernel)
theorem e_46_8 : Df d 46 8 [l0, l1, l2] (.int y :: .int x :: st) h nx = Df d 46 9 [l0, l1, l2] (.int (x - y) :: st) h nx := D_isub (ins_of mc_46 (pc := 8) (x := (.isub, 1)) (by decide +kernel))
theorem e_46_9 : Df d 46 9 [l0, .ref a, l2] st h nx = Df d 46 10 [l0, .ref a, l2] (.ref a :: st) h nx := D_aload_n (ins_of mc_46 (pc := 9) (x := (.aload_n 1, 1)) (by decide +kernel)) rfl
theorem e_46_10 : Df d 46 10 [l0, l1, l2] [.ref a, s0] h nx = if isS a = true then cn d 46 13 [l0, l1, l2] [s0] (Dn d 215 [.ref a] h nx) else none := D_string (k1 := 215) (ins_of mc_46 (pc := 10) (x := (.invokevirtual 82, 3)) (by decide +kernel)) mo_46 (by decide +kernel) (by decide) rfl rfl (Nat.le_of_ble_eq_true rfl) rfl
theorem e_46_13 : Df d 46 13 [l0, l1, l2] (.int y :: .int x :: st) h nx = if x = y then Df d 46 18 [l0, l1, l2] st h nx else Df d 46 16 [l0, l1, l2] st h nx := D_icmp_eq (ins_of mc_46 (pc := 13) (x := (.if_icmp .eq 5, 3)) (by decide +kernel)) (by decide)
theorem e_46_16 : Df d 46 16 [l0, l1, l2] st h nx = Df d 46 17 [l0, l1, l2] (.int 0 :: st) h nx := D_iconst (ins_of mc_46 (pc := 16) (x := (.iconst 0, 1)) (by decide +kernel)) (by decide)
theorem e_46_17 : Df d 46 17 [l0, l1, l2] [.int x] h nx = if nR .boolean x = true then some (some (.int x), h, nx) else none := D_zreturn (ins_of mc_46 (pc := 17) (x := (.ireturn, 1)) (by decide +kernel)) mr_46
theorem e_46_18 : Df d 46 18 [l0, l1, l2] st h nx = Df d 46 19 [l0, l1, l2] (.int 0 :: st) h nx := D_iconst (ins_of mc_46 (pc := 18) (x := (.iconst 0, 1)) (by decide +kernel)) (by decide)
theorem e_46_19 (hn : nr l2 = true) : Df d 46 19 [l0, l1, l2] (.int x :: st) h nx = Df d 46 20 [l0, l1, .int x] st h nx := D_istore_n (ins_of mc_46 (pc := 19) (x := (.istore_n 2, 1)) (by decide +kernel)) rfl hn rfl
theorem e_46_20 : Df d 46 20 [l0, l1, .int x] st h nx = Df d 46 21 [l0, l1, .int x] (.int x :: st) h nx := D_iload_n (ins_of mc_46 (pc := 20) (x := (.iload_n 2, 1)) (by decide +kernel)) rfl
theorem e_46_21 : Df d 46 21 [l0, .ref a, l2] st h nx = Df d 46 22 [l0, .ref a, l2] (.ref a :: st) h nx := D_aload_n (ins_of mc_46 (pc := 21) (x := (.aload_n 1, 1)) (by decide +kernel)) rfl
theorem e_46_22 : Df d 46 22 [l0, l1, l2] [.ref a, s0] h nx = if isS a = true then cn d 46 25 [l0, l1, l2] [s0] (Dn d 215 [.ref a] h nx) else none := D_string (k1 := 215) (ins_of mc_46 (pc := 22) (x := (.invokevirtual 82, 3)) (by decide +kernel)) mo_46 (by decide +kernel) (by decide) rfl rfl (Nat.le_of_ble_eq_true rfl) rfl
theorem e_46_25 : Df d 46 25 [l0, l1, l2] (.int y :: .int x :: st) h nx = if y ≤ x then Df d 46 59 [l0, l1, l2] st h nx else Df d 46 28 [l0, l1, l2] st h nx := D_icmp_ge (ins_of mc_46 (pc := 25) (x := (.if_icmp .ge 34, 3)) (by decide +kernel)) (by decide)
theorem e_46_28 : Df d 46 28 [.ref a, l1, l2] st h nx = Df d 46 29 [.ref a, l1, l2] (.ref a :: st) h nx := D_aload_n (ins_of mc_46 (pc := 28) (x := (.aload_n 0, 1)) (by decide +kernel)) rfl
theorem e_46_29 : Df d 46 29 [.ref a, l1, l2] st h nx = Df d 46 30 [.ref a, l1, l2] (.ref a :: st) h nx := D_aload_n (ins_of mc_46 (pc := 29) (x := (.aload_n 0, 1)) (by decide +kernel)) rfl
theorem e_46_30 : Df d 46 30 [l0, l1, l2] (.ref a :: st) h nx = (gF h a 4 2).bind fun v => Df d 46 33 [l0, l1, l2] (v :: st) h nx := D_getfield (ins_of mc_46 (pc := 30) (x := (.getfield 22, 3)) (by decide +kernel)) mo_46 (by decide +kernel)
theorem e_46_33 : Df d 46 33 [l0, l1, .int x] st h nx = Df d 46 34 [l0, l1, .int x] (.int x :: st) h nx := D_iload_n (ins_of mc_46 (pc := 33) (x := (.iload_n 2, 1)) (by decide +kernel)) rfl
theorem e_46_34 : Df d 46 34 [l0, l1, l2] (.int y :: .int x :: st) h nx = Df d 46 35 [l0, l1, l2] (.int (x + y) :: st) h nx := D_iadd (ins_of mc_46 (pc := 34) (x := (.iadd, 1)) (by decide +kernel))
theorem e_46_35 : Df d 46 35 [l0, .ref a, l2] st h nx = Df d 46 36 [l0, .ref a, l2] (.ref a :: st) h nx := D_aload_n (ins_of mc_46 (pc := 35) (x := (.aload_n 1, 1)) (by decide +kernel)) rfl
theorem e_46_36 : Df d 46 36 [l0, l1, .int x] st h nx = Df d 46 37 [l0, l1, .int x] (.int x :: st) h nx := D_iload_n (ins_of mc_46 (pc := 36) (x := (.iload_n 2, 1)) (by decide +kernel)) rfl
theorem e_46_37 : Df d 46 37 [l0, l1, l2] [v0, .ref a, s0, s1] h nx = if isS a = true then cn d 46 40 [l0, l1, l2] [s0, s1] (Dn d 217 [.ref a, v0] h nx) else none := D_string (k1 := 217) (ins_of mc_46 (pc := 37) (x := (.invokevirtual 87, 3)) (by decide +kernel)) mo_46 (by decide +kernel) (by decide) rfl rfl (Nat.le_of_ble_eq_true rfl) rfl
theorem e_46_40 : Df d 46 40 [l0, .ref a, l2] st h nx = Df d 46 41 [l0, .ref a, l2] (.ref a :: st) h nx := D_aload_n (ins_of mc_46 (pc := 40) (x := (.aload_n 1, 1)) (by decide +kernel)) rfl
theorem e_46_41 : Df d 46 41 [l0, l1, .int x] st h nx = Df d 46 42 [l0, l1, .int x] (.int x :: st) h nx := D_iload_n (ins_of mc_46 (pc := 41) (x := (.iload_n 2, 1)) (by decide +kernel)) rfl
theorem e_46_42 : Df d 46 42 [l0, l1, l2] [v0, .ref a, s0, s1, s2] h nx = if isS a = true then cn d 46 45 [l0, l1, l2] [s0, s1, s2] (Dn d 217 [.ref a, v0] h nx) else none := D_string (k1 := 217) (ins_of mc_46 (pc := 42) (x := (.invokevirtual 87, 3)) (by decide +kernel)) mo_46 (by decide +kernel) (by decide) rfl rfl (Nat.le_of_ble_eq_true rfl) rfl
theorem e_46_45 : Df d 46 45 [l0, l1, l2] [v2, v1, v0, .ref a] h nx = if ck h a 4 = true then cn d 46 48 [l0, l1, l2] [] (Dn d 43 [.ref a, v0, v1, v2] h nx) else none := D_virtual (k1 := 43) (ins_of mc_46 (pc := 45) (x := (.invokevirtual 56, 3)) (by decide +kernel)) mo_46 (by decide +kernel) (by decide) rfl rfl (by decide) rfl (Nat.le_of_ble_eq_true rfl) rfl
theorem e_46_48 : Df d 46 48 [l0, l1, l2] (.int x :: st) h nx = if x = 0 then Df d 46 51 [l0, l1, l2] st h nx else Df d 46 53 [l0, l1, l2] st h nx := D_if_ne (ins_of mc_46 (pc := 48) (x := (.ifCond .ne 5, 3)) (by decide +kernel)) (by decide)
theorem e_46_51 : Df d 46 51 [l0, l1, l2] st h nx = Df d 46 52 [l0, l1, l2] (.int 0 :: st) h nx := D_iconst (ins_of mc_46 (pc := 51) (x := (.iconst 0, 1)) (by decide +kernel)) (by decide)
theorem e_46_52 : Df d 46 52 [l0, l1, l2] [.int x] h nx = if nR .boolean x = true then some (some (.int x), h, nx) else none := D_zreturn (ins_of mc_46 (pc := 52) (x := (.ireturn, 1)) (by decide +kernel)) mr_46
theorem e_46_53 : Df d 46 53 [l0, l1, .int x] st h nx = Df d 46 56 [l0, l1, .int (x + 1)] st h nx := D_iinc (ins_of mc_46 (pc := 53) (x := (.iinc 2 1, 3)) (by decide +kernel)) rfl (by decide) rfl
theorem e_46_56 : Df d 46 56 [l0, l1, l2] st h nx = Df d 46 20 [l0, l1, l2] st h nx := D_goto (ins_of mc_46 (pc := 56) (x := (.goto (-36), 3)) (by decide +kernel)) (by decide)
theorem e_46_59 : Df d 46 59 [l0, l1, l2] st h nx = Df d 46 60 [l0, l1, l2] (.int 1 :: st) h nx := D_iconst (ins_of mc_46 (pc := 59) (x := (.iconst 1, 1)) (by decide +kernel)) (by decide)
theorem e_46_60 : Df d 46 60 [l0, l1, l2] [.int x] h nx = if nR .boolean x = true then some (some (.int x), h, nx) else none := D_zreturn (ins_of mc_46 (pc := 60) (x := (.ireturn, 1)) (by decide +kernel)) mr_46
theorem mc_47 : mC 47 = prog_6_method_12_code := rfl
theorem mo_47 : mO 47 = 4 := rfl
theorem ml_47 : mL 47 = 7 := rfl
theorem mr_47 : mR 47 = (some .boolean) := rfl
theorem ma_47 : mA 47 = 3 := rfl
theorem e_47_0 : Df d 47 0 [l0, .int x, l2, l3, l4, l5, l6] st h nx = Df d 47 1 [l0, .int x, l2, l3, l4, l5, l6] (.int x :: st) h nx := D_iload_n (ins_of mc_47 (pc := 0) (x := (.iload_n 1, 1)) (by decide +kernel)) rfl
theorem e_47_1 : Df d 47 1 [l0, l1, l2, l3, l4, l5, l6] st h nx = Df d 47 2 [l0, l1, l2, l3, l4, l5, l6] (.int 4 :: st) h nx := D_iconst (ins_of mc_47 (pc := 1) (x := (.iconst 4, 1)) (by decide +kernel)) (by decide)
theorem e_47_2 : Df d 47 2 [l0, l1, l2, l3, l4, l5, l6] (.int y :: .int x :: st) h nx = if x ≤ y then Df d 47 12 [l0, l1, l2, l3, l4, l5, l6] st h nx else Df d 47 5 [l0, l1, l2, l3, l4, l5, l6] st h nx := D_icmp_le (ins_of mc_47 (pc := 2) (x := (.if_icmp .le 10, 3)) (by decide +kernel)) (by decide)
theorem e_47_5 : Df d 47 5 [.ref a, l1, l2, l3, l4, l5, l6] st h nx = Df d 47 6 [.ref a, l1, l2, l3, l4, l5, l6] (.ref a :: st) h nx := D_aload_n (ins_of mc_47 (pc := 5) (x := (.aload_n 0, 1)) (by decide +kernel)) rfl
theorem e_47_6 : Df d 47 6 [l0, l1, .int x, l3, l4, l5, l6] st h nx = Df d 47 7 [l0, l1, .int x, l3, l4, l5, l6] (.int x :: st) h nx := D_iload_n (ins_of mc_47 (pc := 6) (x := (.iload_n 2, 1)) (by decide +kernel)) rfl
theorem e_47_7 : Df d 47 7 [l0, l1, l2, .int x, l4, l5, l6] st h nx = Df d 47 8 [l0, l1, l2, .int x, l4, l5, l6] (.int x :: st) h nx := D_iload_n (ins_of mc_47 (pc := 7) (x := (.iload_n 3, 1)) (by decide +kernel)) rfl
theorem e_47_8 : Df d 47 8 [l0, l1, l2, l3, l4, l5, l6] [v1, v0, .ref a] h nx = if ck h a 4 = true then cn d 47 11 [l0, l1, l2, l3, l4, l5, l6] [] (Dn d 48 [.ref a, v0, v1] h nx) else none := D_virtual (k1 := 48) (ins_of mc_47 (pc := 8) (x := (.invokevirtual 91, 3)) (by decide +kernel)) mo_47 (by decide +kernel) (by decide) rfl rfl (by decide) rfl (Nat.le_of_ble_eq_true rfl) rfl
theorem e_47_11 : Df d 47 11 [l0, l1, l2, l3, l4, l5, l6] [.int x] h nx = if nR .boolean x = true then some (some (.int x), h, nx) else none := D_zreturn (ins_of mc_47 (pc := 11) (x := (.ireturn, 1)) (by decide +kernel)) mr_47
theorem e_47_12 : Df d 47 12 [.ref a, l1, l2, l3, l4, l5, l6] st h nx = Df d 47 13 [.ref a, l1, l2, l3, l4, l5, l6] (.ref a :: st) h nx := D_aload_n (ins_of mc_47 (pc := 12) (x := (.aload_n 0, 1)) (by decide +kernel)) rfl
theorem e_47_13 : Df d 47 13 [l0, .int x, l2, l3, l4, l5, l6] st h nx = Df d 47 14 [l0, .int x, l2, l3, l4, l5, l6] (.int x :: st) h nx := D_iload_n (ins_of mc_47 (pc := 13) (x := (.iload_n 1, 1)) (by decide +kernel)) rfl
theorem e_47_14 : Df d 47 14 [l0, l1, l2, l3, l4, l5, l6] st h nx = Df d 47 15 [l0, l1, l2, l3, l4, l5, l6] (.int 1 :: st) h nx := D_iconst (ins_of mc_47 (pc := 14) (x := (.iconst 1, 1)) (by decide +kernel)) (by decide)
theorem e_47_15 : Df d 47 15 [l0, l1, l2, l3, l4, l5, l6] (.int y :: .int x :: st) h nx = Df d 47 16 [l0, l1, l2, l3, l4, l5, l6] (.int (x + y) :: st) h nx := D_iadd (ins_of mc_47 (pc := 15) (x := (.iadd, 1)) (by decide +kernel))
theorem e_47_16 : Df d 47 16 [l0, l1, .int x, l3, l4, l5, l6] st h nx = Df d 47 17 [l0, l1, .int x, l3, l4, l5, l6] (.int x :: st) h nx := D_iload_n (ins_of mc_47 (pc := 16) (x := (.iload_n 2, 1)) (by decide +kernel)) rfl
theorem e_47_17 : Df d 47 17 [l0, l1, l2, .int x, l4, l5, l6] st h nx = Df d 47 18 [l0, l1, l2, .int x, l4, l5, l6] (.int x :: st) h nx := D_iload_n (ins_of mc_47 (pc := 17) (x := (.iload_n 3, 1)) (by decide +kernel)) rfl
theorem e_47_18 : Df d 47 18 [l0, l1, l2, l3, l4, l5, l6] [v2, v1, v0, .ref a] h nx = if ck h a 4 = true then cn d 47 21 [l0, l1, l2, l3, l4, l5, l6] [] (Dn d 47 [.ref a, v0, v1, v2] h nx) else none := D_virtual (k1 := 47) (ins_of mc_47 (pc := 18) (x := (.invokevirtual 45, 3)) (by decide +kernel)) mo_47 (by decide +kernel) (by decide) rfl rfl (by decide) rfl (Nat.le_of_ble_eq_true rfl) rfl
theorem e_47_21 : Df d 47 21 [l0, l1, l2, l3, l4, l5, l6] (.int x :: st) h nx = if x = 0 then Df d 47 24 [l0, l1, l2, l3, l4, l5, l6] st h nx else Df d 47 26 [l0, l1, l2, l3, l4, l5, l6] st h nx := D_if_ne (ins_of mc_47 (pc := 21) (x := (.ifCond .ne 5, 3)) (by decide +kernel)) (by decide)
theorem e_47_24 : Df d 47 24 [l0, l1, l2, l3, l4, l5, l6] st h nx = Df d 47 25 [l0, l1, l2, l3, l4, l5, l6] (.int 0 :: st) h nx := D_iconst (ins_of mc_47 (pc := 24) (x := (.iconst 0, 1)) (by decide +kernel)) (by decide)
theorem e_47_25 : Df d 47 25 [l0, l1, l2, l3, l4, l5, l6] [.int x] h nx = if nR .boolean x = true then some (some (.int x), h, nx) else none := D_zreturn (ins_of mc_47 (pc := 25) (x := (.ireturn, 1)) (by decide +kernel)) mr_47
theorem e_47_26 : Df d 47 26 [l0, .int x, l2, l3, l4, l5, l6] st h nx = Df d 47 27 [l0, .int x, l2, l3, l4, l5, l6] (.int x :: st) h nx := D_iload_n (ins_of mc_47 (pc := 26) (x := (.iload_n 1, 1)) (by decide +kernel)) rfl
theorem e_47_27 : Df d 47 27 [l0, l1, l2, l3, l4, l5, l6] st h nx = Df d 47 28 [l0, l1, l2, l3, l4, l5, l6] (.int 2 :: st) h nx := D_iconst (ins_of mc_47 (pc := 27) (x := (.iconst 2, 1)) (by decide +kernel)) (by decide)
theorem e_47_28 : Df d 47 28 [l0, l1, l2, l3, l4, l5, l6] (.int y :: .int x :: st) h nx = if x = y then Df d 47 31 [l0, l1, l2, l3, l4, l5, l6] st h nx else Df d 47 35 [l0, l1, l2, l3, l4, l5, l6] st h nx := D_icmp_ne (ins_of mc_47 (pc := 28) (x := (.if_icmp .ne 7, 3)) (by decide +kernel)) (by decide)
theorem e_47_31 : Df d 47 31 [l0, l1, l2, l3, l4, l5, l6] st h nx = Df d 47 32 [l0, l1, l2, l3, l4, l5, l6] (.int 1 :: st) h nx := D_iconst (ins_of mc_47 (pc := 31) (x := (.iconst 1, 1)) (by decide +kernel)) (by decide)
theorem e_47_32 : Df d 47 32 [l0, l1, l2, l3, l4, l5, l6] st h nx = Df d 47 37 [l0, l1, l2, l3, l4, l5, l6] st h nx := D_goto (ins_of mc_47 (pc := 32) (x := (.goto 5, 3)) (by decide +kernel)) (by decide)
theorem e_47_35 : Df d 47 35 [l0, l1, l2, l3, l4, l5, l6] st h nx = Df d 47 37 [l0, l1, l2, l3, l4, l5, l6] (.int 96 :: st) h nx := D_bipush (ins_of mc_47 (pc := 35) (x := (.bipush 96, 2)) (by decide +kernel)) (by decide)
theorem e_47_37 (hn : nr l4 = true) : Df d 47 37 [l0, l1, l2, l3, l4, l5, l6] (.int x :: st) h nx = Df d 47 39 [l0, l1, l2, l3, .int x, l5, l6] st h nx := D_istore (ins_of mc_47 (pc := 37) (x := (.istore 4, 2)) (by decide +kernel)) rfl hn rfl
theorem e_47_39 : Df d 47 39 [l0, l1, l2, l3, l4, l5, l6] st h nx = Df d 47 40 [l0, l1, l2, l3, l4, l5, l6] (.int 0 :: st) h nx := D_iconst (ins_of mc_47 (pc := 39) (x := (.iconst 0, 1)) (by decide +kernel)) (by decide)
theorem e_47_40 (hn : nr l5 = true) : Df d 47 40 [l0, l1, l2, l3, l4, l5, l6] (.int x :: st) h nx = Df d 47 42 [l0, l1, l2, l3, l4, .int x, l6] st h nx := D_istore (ins_of mc_47 (pc := 40) (x := (.istore 5, 2)) (by decide +kernel)) rfl hn rfl
theorem e_47_42 : Df d 47 42 [l0, l1, l2, l3, l4, .int x, l6] st h nx = Df d 47 44 [l0, l1, l2, l3, l4, .int x, l6] (.int x :: st) h nx := D_iload (ins_of mc_47 (pc := 42) (x := (.iload 5, 2)) (by decide +kernel)) rfl
theorem e_47_44 : Df d 47 44 [l0, l1, l2, l3, .int x, l5, l6] st h nx = Df d 47 46 [l0, l1, l2, l3, .int x, l5, l6] (.int x :: st) h nx := D_iload (ins_of mc_47 (pc := 44) (x := (.iload 4, 2)) (by decide +kernel)) rfl
theorem e_47_46 : Df d 47 46 [l0, l1, l2, l3, l4, l5, l6] (.int y :: .int x :: st) h nx = if y ≤ x then Df d 47 99 [l0, l1, l2, l3, l4, l5, l6] st h nx else Df d 47 49 [l0, l1, l2, l3, l4, l5, l6] st h nx := D_icmp_ge (ins_of mc_47 (pc := 46) (x := (.if_icmp .ge 53, 3)) (by decide +kernel)) (by decide)
theorem e_47_49 : Df d 47 49 [l0, .int x, l2, l3, l4, l5, l6] st h nx = Df d 47 50 [l0, .int x, l2, l3, l4, l5, l6] (.int x :: st) h nx := D_iload_n (ins_of mc_47 (pc := 49) (x := (.iload_n 1, 1)) (by decide +kernel)) rfl
theorem e_47_50 : Df d 47 50 [.ref a, l1, l2, l3, l4, l5, l6] st h nx = Df d 47 51 [.ref a, l1, l2, l3, l4, l5, l6] (.ref a :: st) h nx := D_aload_n (ins_of mc_47 (pc := 50) (x := (.aload_n 0, 1)) (by decide +kernel)) rfl
theorem e_47_51 : Df d 47 51 [l0, l1, l2, l3, l4, l5, l6] (.ref a :: st) h nx = (gF h a 4 5).bind fun v => Df d 47 54 [l0, l1, l2, l3, l4, l5, l6] (v :: st) h nx := D_getfield (ins_of mc_47 (pc := 51) (x := (.getfield 32, 3)) (by decide +kernel)) mo_47 (by decide +kernel)
theorem e_47_54 : Df d 47 54 [l0, l1, l2, l3, l4, l5, l6] [v1, v0] h nx = cn d 47 57 [l0, l1, l2, l3, l4, l5, l6] [] (Dn d 54 [v0, v1] h nx) := D_static (k1 := 54) (kd := 1) (ins_of mc_47 (pc := 54) (x := (.invokestatic 95, 3)) (by decide +kernel)) mo_47 (by decide +kernel) (by decide) rfl (Nat.le_of_ble_eq_true rfl) rfl (Nat.le_of_ble_eq_true rfl) rfl
theorem e_47_57 : Df d 47 57 [l0, l1, l2, l3, l4, l5, l6] (.int x :: st) h nx = if x = 0 then Df d 47 99 [l0, l1, l2, l3, l4, l5, l6] st h nx else Df d 47 60 [l0, l1, l2, l3, l4, l5, l6] st h nx := D_if_eq (ins_of mc_47 (pc := 57) (x := (.ifCond .eq 42, 3)) (by decide +kernel)) (by decide)
theorem e_47_60 : Df d 47 60 [.ref a, l1, l2, l3, l4, l5, l6] st h nx = Df d 47 61 [.ref a, l1, l2, l3, l4, l5, l6] (.ref a :: st) h nx := D_aload_n (ins_of mc_47 (pc := 60) (x := (.aload_n 0, 1)) (by decide +kernel)) rfl
theorem e_47_61 : Df d 47 61 [l0, l1, l2, l3, l4, l5, l6] (.ref a :: st) h nx = (gF h a 4 5).bind fun v => Df d 47 64 [l0, l1, l2, l3, l4, l5, l6] (v :: st) h nx := D_getfield (ins_of mc_47 (pc := 61) (x := (.getfield 32, 3)) (by decide +kernel)) mo_47 (by decide +kernel)
theorem e_47_64 (hn : nr l6 = true) : Df d 47 64 [l0, l1, l2, l3, l4, l5, l6] (.int x :: st) h nx = Df d 47 66 [l0, l1, l2, l3, l4, l5, .int x] st h nx := D_istore (ins_of mc_47 (pc := 64) (x := (.istore 6, 2)) (by decide +kernel)) rfl hn rfl
theorem e_47_66 : Df d 47 66 [.ref a, l1, l2, l3, l4, l5, l6] st h nx = Df d 47 67 [.ref a, l1, l2, l3, l4, l5, l6] (.ref a :: st) h nx := D_aload_n (ins_of mc_47 (pc := 66) (x := (.aload_n 0, 1)) (by decide +kernel)) rfl
theorem e_47_67 : Df d 47 67 [l0, l1, l2, l3, l4, l5, l6] [.ref a] h nx = if ck h a 4 = true then cn d 47 70 [l0, l1, l2, l3, l4, l5, l6] [] (Dn d 40 [.ref a] h nx) else none := D_virtual (k1 := 40) (ins_of mc_47 (pc := 67) (x := (.invokevirtual 38, 3)) (by decide +kernel)) mo_47 (by decide +kernel) (by decide) rfl rfl (by decide) rfl (Nat.le_of_ble_eq_true rfl) rfl
theorem e_47_70 : Df d 47 70 [.ref a, l1, l2, l3, l4, l5, l6] st h nx = Df d 47 71 [.ref a, l1, l2, l3, l4, l5, l6] (.ref a :: st) h nx := D_aload_n (ins_of mc_47 (pc := 70) (x := (.aload_n 0, 1)) (by decide +kernel)) rfl
theorem e_47_71 : Df d 47 71 [l0, .int x, l2, l3, l4, l5, l6] st h nx = Df d 47 72 [l0, .int x, l2, l3, l4, l5, l6] (.int x :: st) h nx := D_iload_n (ins_of mc_47 (pc := 71) (x := (.iload_n 1, 1)) (by decide +kernel)) rfl
theorem e_47_72 : Df d 47 72 [l0, l1, l2, l3, l4, l5, l6] st h nx = Df d 47 73 [l0, l1, l2, l3, l4, l5, l6] (.int 1 :: st) h nx := D_iconst (ins_of mc_47 (pc := 72) (x := (.iconst 1, 1)) (by decide +kernel)) (by decide)
theorem e_47_73 : Df d 47 73 [l0, l1, l2, l3, l4, l5, l6] (.int y :: .int x :: st) h nx = Df d 47 74 [l0, l1, l2, l3, l4, l5, l6] (.int (x + y) :: st) h nx := D_iadd (ins_of mc_47 (pc := 73) (x := (.iadd, 1)) (by decide +kernel))
theorem e_47_74 : Df d 47 74 [l0, l1, .int x, l3, l4, l5, l6] st h nx = Df d 47 75 [l0, l1, .int x, l3, l4, l5, l6] (.int x :: st) h nx := D_iload_n (ins_of mc_47 (pc := 74) (x := (.iload_n 2, 1)) (by decide +kernel)) rfl
theorem e_47_75 : Df d 47 75 [l0, l1, l2, .int x, l4, l5, l6] st h nx = Df d 47 76 [l0, l1, l2, .int x, l4, l5, l6] (.int x :: st) h nx := D_iload_n (ins_of mc_47 (pc := 75) (x := (.iload_n 3, 1)) (by decide +kernel)) rfl
theorem e_47_76 : Df d 47 76 [l0, l1, l2, l3, l4, l5, l6] [v2, v1, v0, .ref a] h nx = if ck h a 4 = true then cn d 47 79 [l0, l1, l2, l3, l4, l5, l6] [] (Dn d 47 [.ref a, v0, v1, v2] h nx) else none := D_virtual (k1 := 47) (ins_of mc_47 (pc := 76) (x := (.invokevirtual 45, 3)) (by decide +kernel)) mo_47 (by decide +kernel) (by decide) rfl rfl (by decide) rfl (Nat.le_of_ble_eq_true rfl) rfl
theorem e_47_79 : Df d 47 79 [l0, l1, l2, l3, l4, l5, l6] (.int x :: st) h nx = if x = 0 then Df d 47 82 [l0, l1, l2, l3, l4, l5, l6] st h nx else Df d 47 84 [l0, l1, l2, l3, l4, l5, l6] st h nx := D_if_ne (ins_of mc_47 (pc := 79) (x := (.ifCond .ne 5, 3)) (by decide +kernel)) (by decide)
theorem e_47_82 : Df d 47 82 [l0, l1, l2, l3, l4, l5, l6] st h nx = Df d 47 83 [l0, l1, l2, l3, l4, l5, l6] (.int 0 :: st) h nx := D_iconst (ins_of mc_47 (pc := 82) (x := (.iconst 0, 1)) (by decide +kernel)) (by decide)
theorem e_47_83 : Df d 47 83 [l0, l1, l2, l3, l4, l5, l6] [.int x] h nx = if nR .boolean x = true then some (some (.int x), h, nx) else none := D_zreturn (ins_of mc_47 (pc := 83) (x := (.ireturn, 1)) (by decide +kernel)) mr_47
theorem e_47_84 : Df d 47 84 [.ref a, l1, l2, l3, l4, l5, l6] st h nx = Df d 47 85 [.ref a, l1, l2, l3, l4, l5, l6] (.ref a :: st) h nx := D_aload_n (ins_of mc_47 (pc := 84) (x := (.aload_n 0, 1)) (by decide +kernel)) rfl
theorem e_47_85 : Df d 47 85 [l0, l1, l2, l3, l4, l5, l6] (.ref a :: st) h nx = (gF h a 4 0).bind fun v => Df d 47 88 [l0, l1, l2, l3, l4, l5, l6] (v :: st) h nx := D_getfield (ins_of mc_47 (pc := 85) (x := (.getfield 12, 3)) (by decide +kernel)) mo_47 (by decide +kernel)
theorem e_47_88 : Df d 47 88 [l0, l1, l2, l3, l4, l5, .int x] st h nx = Df d 47 90 [l0, l1, l2, l3, l4, l5, .int x] (.int x :: st) h nx := D_iload (ins_of mc_47 (pc := 88) (x := (.iload 6, 2)) (by decide +kernel)) rfl
theorem e_47_90 : Df d 47 90 [l0, l1, l2, l3, l4, l5, l6] [v0, .ref a] h nx = if ck h a 2 = true then cn d 47 93 [l0, l1, l2, l3, l4, l5, l6] [] (Dn d 30 [.ref a, v0] h nx) else none := D_virtual (k1 := 30) (ins_of mc_47 (pc := 90) (x := (.invokevirtual 98, 3)) (by decide +kernel)) mo_47 (by decide +kernel) (by decide) rfl rfl (by decide) rfl (Nat.le_of_ble_eq_true rfl) rfl
theorem e_47_93 : Df d 47 93 [l0, l1, l2, l3, l4, .int x, l6] st h nx = Df d 47 96 [l0, l1, l2, l3, l4, .int (x + 1), l6] st h nx := D_iinc (ins_of mc_47 (pc := 93) (x := (.iinc 5 1, 3)) (by decide +kernel)) rfl (by decide) rfl
theorem e_47_96 : Df d 47 96 [l0, l1, l2, l3, l4, l5, l6] st h nx = Df d 47 42 [l0, l1, l2, l3, l4, l5, l6] st h nx := D_goto (ins_of mc_47 (pc := 96) (x := (.goto (-54), 3)) (by decide +kernel)) (by decide)
theorem e_47_99 : Df d 47 99 [l0, l1, l2, l3, l4, l5, l6] st h nx = Df d 47 100 [l0, l1, l2, l3, l4, l5, l6] (.int 1 :: st) h nx := D_iconst (ins_of mc_47 (pc := 99) (x := (.iconst 1, 1)) (by decide +kernel)) (by decide)
theorem e_47_100 : Df d 47 100 [l0, l1, l2, l3, l4, l5, l6] [.int x] h nx = if nR .boolean x = true then some (some (.int x), h, nx) else none := D_zreturn (ins_of mc_47 (pc := 100) (x := (.ireturn, 1)) (by decide +kernel)) mr_47
theorem mc_48 : mC 48 = prog_6_method_14_code := rfl
theorem mo_48 : mO 48 = 4 := rfl
theorem ml_48 : mL 48 = 3 := rfl
theorem mr_48 : mR 48 = (some .boolean) := rfl
theorem ma_48 : mA 48 = 2 := rfl
theorem e_48_0 : Df d 48 0 [.ref a, l1, l2] st h nx = Df d 48 1 [.ref a, l1, l2] (.ref a :: st) h nx := D_aload_n (ins_of mc_48 (pc := 0) (x := (.aload_n 0, 1)) (by decide +kernel)) rfl
theorem e_48_1 : Df d 48 1 [l0, l1, l2] (.ref a :: st) h nx = (gF h a 4 5).bind fun v => Df d 48 4 [l0, l1, l2] (v :: st) h nx := D_getfield (ins_of mc_48 (pc := 1) (x := (.getfield 32, 3)) (by decide +kernel)) mo_48 (by decide +kernel)
theorem e_48_4 : Df d 48 4 [l0, l1, l2] (.int x :: st) h nx = if x = 33 then Df d 48 58 [l0, l1, l2] st h nx else if x = 40 then Df d 48 81 [l0, l1, l2] st h nx else if x = 256 then Df d 48 53 [l0, l1, l2] st h nx else if x = 257 then Df d 48 48 [l0, l1, l2] st h nx else Df d 48 104 [l0, l1, l2] st h nx := by
  have hi := (ins_of mc_48 (pc := 4) (x := (.lookupswitch 100 #[(33, 54), (40, 77), (256, 49), (257, 44)], 44)) (by decide +kernel))
  by_cases q0 : x = 33
  · subst q0
    rw [if_pos rfl]
    exact D_lsw hi (by decide) (off := 54) (by decide) (by decide)
  rw [if_neg q0]
  by_cases q1 : x = 40
  · subst q1
    rw [if_pos rfl]
    exact D_lsw hi (by decide) (off := 77) (by decide) (by decide)
  rw [if_neg q1]
  by_cases q2 : x = 256
  · subst q2
    rw [if_pos rfl]
    exact D_lsw hi (by decide) (off := 49) (by decide) (by decide)
  rw [if_neg q2]
  by_cases q3 : x = 257
  · subst q3
    rw [if_pos rfl]
    exact D_lsw hi (by decide) (off := 44) (by decide) (by decide)
  rw [if_neg q3]
  refine D_lsw hi (by decide) (off := 100) ?_ (by decide)
  show Op.lookupswitch.offset [(33, 54), (40, 77), (256, 49), (257, 44)] 100 x.toInt = 100
  rw [lv_osw (k := 33) q0 (by decide)]
  rw [lv_osw (k := 40) q1 (by decide)]
  rw [lv_osw (k := 256) q2 (by decide)]
  rw [lv_osw (k := 257) q3 (by decide)]
  rfl
theorem e_48_48 : Df d 48 48 [.ref a, l1, l2] st h nx = Df d 48 49 [.ref a, l1, l2] (.ref a :: st) h nx := D_aload_n (ins_of mc_48 (pc := 48) (x := (.aload_n 0, 1)) (by decide +kernel)) rfl
theorem e_48_49 : Df d 48 49 [l0, l1, l2] [.ref a] h nx = if ck h a 4 = true then cn d 48 52 [l0, l1, l2] [] (Dn d 49 [.ref a] h nx) else none := D_virtual (k1 := 49) (ins_of mc_48 (pc := 49) (x := (.invokevirtual 102, 3)) (by decide +kernel)) mo_48 (by decide +kernel) (by decide) rfl rfl (by decide) rfl (Nat.le_of_ble_eq_true rfl) rfl
theorem e_48_52 : Df d 48 52 [l0, l1, l2] [.int x] h nx = if nR .boolean x = true then some (some (.int x), h, nx) else none := D_zreturn (ins_of mc_48 (pc := 52) (x := (.ireturn, 1)) (by decide +kernel)) mr_48
theorem e_48_53 : Df d 48 53 [.ref a, l1, l2] st h nx = Df d 48 54 [.ref a, l1, l2] (.ref a :: st) h nx := D_aload_n (ins_of mc_48 (pc := 53) (x := (.aload_n 0, 1)) (by decide +kernel)) rfl
theorem e_48_54 : Df d 48 54 [l0, l1, l2] [.ref a] h nx = if ck h a 4 = true then cn d 48 57 [l0, l1, l2] [] (Dn d 50 [.ref a] h nx) else none := D_virtual (k1 := 50) (ins_of mc_48 (pc := 54) (x := (.invokevirtual 105, 3)) (by decide +kernel)) mo_48 (by decide +kernel) (by decide) rfl rfl (by decide) rfl (Nat.le_of_ble_eq_true rfl) rfl
theorem e_48_57 : Df d 48 57 [l0, l1, l2] [.int x] h nx = if nR .boolean x = true then some (some (.int x), h, nx) else none := D_zreturn (ins_of mc_48 (pc := 57) (x := (.ireturn, 1)) (by decide +kernel)) mr_48
theorem e_48_58 : Df d 48 58 [l0, l1, .int x] st h nx = Df d 48 59 [l0, l1, .int x] (.int x :: st) h nx := D_iload_n (ins_of mc_48 (pc := 58) (x := (.iload_n 2, 1)) (by decide +kernel)) rfl
theorem e_48_59 : Df d 48 59 [l0, l1, l2] st h nx = Df d 48 61 [l0, l1, l2] (.int 8 :: st) h nx := D_bipush (ins_of mc_48 (pc := 59) (x := (.bipush 8, 2)) (by decide +kernel)) (by decide)
theorem e_48_61 : Df d 48 61 [l0, l1, l2] (.int y :: .int x :: st) h nx = if y ≤ x then Df d 48 79 [l0, l1, l2] st h nx else Df d 48 64 [l0, l1, l2] st h nx := D_icmp_ge (ins_of mc_48 (pc := 61) (x := (.if_icmp .ge 18, 3)) (by decide +kernel)) (by decide)
theorem e_48_64 : Df d 48 64 [.ref a, l1, l2] st h nx = Df d 48 65 [.ref a, l1, l2] (.ref a :: st) h nx := D_aload_n (ins_of mc_48 (pc := 64) (x := (.aload_n 0, 1)) (by decide +kernel)) rfl
theorem e_48_65 : Df d 48 65 [l0, .int x, l2] st h nx = Df d 48 66 [l0, .int x, l2] (.int x :: st) h nx := D_iload_n (ins_of mc_48 (pc := 65) (x := (.iload_n 1, 1)) (by decide +kernel)) rfl
theorem e_48_66 : Df d 48 66 [l0, l1, .int x] st h nx = Df d 48 67 [l0, l1, .int x] (.int x :: st) h nx := D_iload_n (ins_of mc_48 (pc := 66) (x := (.iload_n 2, 1)) (by decide +kernel)) rfl
theorem e_48_67 : Df d 48 67 [l0, l1, l2] st h nx = Df d 48 68 [l0, l1, l2] (.int 1 :: st) h nx := D_iconst (ins_of mc_48 (pc := 67) (x := (.iconst 1, 1)) (by decide +kernel)) (by decide)
theorem e_48_68 : Df d 48 68 [l0, l1, l2] (.int y :: .int x :: st) h nx = Df d 48 69 [l0, l1, l2] (.int (x + y) :: st) h nx := D_iadd (ins_of mc_48 (pc := 68) (x := (.iadd, 1)) (by decide +kernel))
theorem e_48_69 : Df d 48 69 [l0, l1, l2] [v1, v0, .ref a] h nx = if ck h a 4 = true then cn d 48 72 [l0, l1, l2] [] (Dn d 52 [.ref a, v0, v1] h nx) else none := D_virtual (k1 := 52) (ins_of mc_48 (pc := 69) (x := (.invokevirtual 108, 3)) (by decide +kernel)) mo_48 (by decide +kernel) (by decide) rfl rfl (by decide) rfl (Nat.le_of_ble_eq_true rfl) rfl
theorem e_48_72 : Df d 48 72 [l0, l1, l2] (.int x :: st) h nx = if x = 0 then Df d 48 79 [l0, l1, l2] st h nx else Df d 48 75 [l0, l1, l2] st h nx := D_if_eq (ins_of mc_48 (pc := 72) (x := (.ifCond .eq 7, 3)) (by decide +kernel)) (by decide)
theorem e_48_75 : Df d 48 75 [l0, l1, l2] st h nx = Df d 48 76 [l0, l1, l2] (.int 1 :: st) h nx := D_iconst (ins_of mc_48 (pc := 75) (x := (.iconst 1, 1)) (by decide +kernel)) (by decide)
theorem e_48_76 : Df d 48 76 [l0, l1, l2] st h nx = Df d 48 80 [l0, l1, l2] st h nx := D_goto (ins_of mc_48 (pc := 76) (x := (.goto 4, 3)) (by decide +kernel)) (by decide)
theorem e_48_79 : Df d 48 79 [l0, l1, l2] st h nx = Df d 48 80 [l0, l1, l2] (.int 0 :: st) h nx := D_iconst (ins_of mc_48 (pc := 79) (x := (.iconst 0, 1)) (by decide +kernel)) (by decide)
theorem e_48_80 : Df d 48 80 [l0, l1, l2] [.int x] h nx = if nR .boolean x = true then some (some (.int x), h, nx) else none := D_zreturn (ins_of mc_48 (pc := 80) (x := (.ireturn, 1)) (by decide +kernel)) mr_48
theorem e_48_81 : Df d 48 81 [l0, .int x, l2] st h nx = Df d 48 82 [l0, .int x, l2] (.int x :: st) h nx := D_iload_n (ins_of mc_48 (pc := 81) (x := (.iload_n 1, 1)) (by decide +kernel)) rfl
theorem e_48_82 : Df d 48 82 [l0, l1, l2] st h nx = Df d 48 84 [l0, l1, l2] (.int 8 :: st) h nx := D_bipush (ins_of mc_48 (pc := 82) (x := (.bipush 8, 2)) (by decide +kernel)) (by decide)
theorem e_48_84 : Df d 48 84 [l0, l1, l2] (.int y :: .int x :: st) h nx = if y ≤ x then Df d 48 102 [l0, l1, l2] st h nx else Df d 48 87 [l0, l1, l2] st h nx := D_icmp_ge (ins_of mc_48 (pc := 84) (x := (.if_icmp .ge 18, 3)) (by decide +kernel)) (by decide)
theorem e_48_87 : Df d 48 87 [.ref a, l1, l2] st h nx = Df d 48 88 [.ref a, l1, l2] (.ref a :: st) h nx := D_aload_n (ins_of mc_48 (pc := 87) (x := (.aload_n 0, 1)) (by decide +kernel)) rfl
theorem e_48_88 : Df d 48 88 [l0, .int x, l2] st h nx = Df d 48 89 [l0, .int x, l2] (.int x :: st) h nx := D_iload_n (ins_of mc_48 (pc := 88) (x := (.iload_n 1, 1)) (by decide +kernel)) rfl
theorem e_48_89 : Df d 48 89 [l0, l1, l2] st h nx = Df d 48 90 [l0, l1, l2] (.int 1 :: st) h nx := D_iconst (ins_of mc_48 (pc := 89) (x := (.iconst 1, 1)) (by decide +kernel)) (by decide)
theorem e_48_90 : Df d 48 90 [l0, l1, l2] (.int y :: .int x :: st) h nx = Df d 48 91 [l0, l1, l2] (.int (x + y) :: st) h nx := D_iadd (ins_of mc_48 (pc := 90) (x := (.iadd, 1)) (by decide +kernel))
theorem e_48_91 : Df d 48 91 [l0, l1, .int x] st h nx = Df d 48 92 [l0, l1, .int x] (.int x :: st) h nx := D_iload_n (ins_of mc_48 (pc := 91) (x := (.iload_n 2, 1)) (by decide +kernel)) rfl
theorem e_48_92 : Df d 48 92 [l0, l1, l2] [v1, v0, .ref a] h nx = if ck h a 4 = true then cn d 48 95 [l0, l1, l2] [] (Dn d 53 [.ref a, v0, v1] h nx) else none := D_virtual (k1 := 53) (ins_of mc_48 (pc := 92) (x := (.invokevirtual 111, 3)) (by decide +kernel)) mo_48 (by decide +kernel) (by decide) rfl rfl (by decide) rfl (Nat.le_of_ble_eq_true rfl) rfl
theorem e_48_95 : Df d 48 95 [l0, l1, l2] (.int x :: st) h nx = if x = 0 then Df d 48 102 [l0, l1, l2] st h nx else Df d 48 98 [l0, l1, l2] st h nx := D_if_eq (ins_of mc_48 (pc := 95) (x := (.ifCond .eq 7, 3)) (by decide +kernel)) (by decide)
theorem e_48_98 : Df d 48 98 [l0, l1, l2] st h nx = Df d 48 99 [l0, l1, l2] (.int 1 :: st) h nx := D_iconst (ins_of mc_48 (pc := 98) (x := (.iconst 1, 1)) (by decide +kernel)) (by decide)
theorem e_48_99 : Df d 48 99 [l0, l1, l2] st h nx = Df d 48 103 [l0, l1, l2] st h nx := D_goto (ins_of mc_48 (pc := 99) (x := (.goto 4, 3)) (by decide +kernel)) (by decide)
theorem e_48_102 : Df d 48 102 [l0, l1, l2] st h nx = Df d 48 103 [l0, l1, l2] (.int 0 :: st) h nx := D_iconst (ins_of mc_48 (pc := 102) (x := (.iconst 0, 1)) (by decide +kernel)) (by decide)
theorem e_48_103 : Df d 48 103 [l0, l1, l2] [.int x] h nx = if nR .boolean x = true then some (some (.int x), h, nx) else none := D_zreturn (ins_of mc_48 (pc := 103) (x := (.ireturn, 1)) (by decide +kernel)) mr_48
theorem e_48_104 : Df d 48 104 [l0, l1, l2] st h nx = Df d 48 105 [l0, l1, l2] (.int 0 :: st) h nx := D_iconst (ins_of mc_48 (pc := 104) (x := (.iconst 0, 1)) (by decide +kernel)) (by decide)
theorem e_48_105 : Df d 48 105 [l0, l1, l2] [.int x] h nx = if nR .boolean x = true then some (some (.int x), h, nx) else none := D_zreturn (ins_of mc_48 (pc := 105) (x := (.ireturn, 1)) (by decide +kernel)) mr_48
theorem mc_49 : mC 49 = prog_6_method_15_code := rfl
theorem mo_49 : mO 49 = 4 := rfl
theorem ml_49 : mL 49 = 3 := rfl
theorem mr_49 : mR 49 = (some .boolean) := rfl
theorem ma_49 : mA 49 = 0 := rfl
theorem e_49_0 : Df d 49 0 [.ref a, l1, l2] st h nx = Df d 49 1 [.ref a, l1, l2] (.ref a :: st) h nx := D_aload_n (ins_of mc_49 (pc := 0) (x := (.aload_n 0, 1)) (by decide +kernel)) rfl
theorem e_49_1 : Df d 49 1 [l0, l1, l2] (.ref a :: st) h nx = (gF h a 4 4).bind fun v => Df d 49 4 [l0, l1, l2] (v :: st) h nx := D_getfield (ins_of mc_49 (pc := 1) (x := (.getfield 29, 3)) (by decide +kernel)) mo_49 (by decide +kernel)
theorem e_49_4 : Df d 49 4 [.ref a, l1, l2] st h nx = Df d 49 5 [.ref a, l1, l2] (.ref a :: st) h nx := D_aload_n (ins_of mc_49 (pc := 4) (x := (.aload_n 0, 1)) (by decide +kernel)) rfl
theorem e_49_5 : Df d 49 5 [l0, l1, l2] (.ref a :: st) h nx = (gF h a 4 2).bind fun v => Df d 49 8 [l0, l1, l2] (v :: st) h nx := D_getfield (ins_of mc_49 (pc := 5) (x := (.getfield 22, 3)) (by decide +kernel)) mo_49 (by decide +kernel)
theorem e_49_8 : Df d 49 8 [l0, l1, l2] (.int y :: .int x :: st) h nx = Df d 49 9 [l0, l1, l2] (.int (x - y) :: st) h nx := D_isub (ins_of mc_49 (pc := 8) (x := (.isub, 1)) (by decide +kernel))
theorem e_49_9 : Df d 49 9 [l0, l1, l2] st h nx = Df d 49 10 [l0, l1, l2] (.int 4 :: st) h nx := D_iconst (ins_of mc_49 (pc := 9) (x := (.iconst 4, 1)) (by decide +kernel)) (by decide)
theorem e_49_10 : Df d 49 10 [l0, l1, l2] (.int y :: .int x :: st) h nx = if x ≤ y then Df d 49 15 [l0, l1, l2] st h nx else Df d 49 13 [l0, l1, l2] st h nx := D_icmp_le (ins_of mc_49 (pc := 10) (x := (.if_icmp .le 5, 3)) (by decide +kernel)) (by decide)
theorem e_49_13 : Df d 49 13 [l0, l1, l2] st h nx = Df d 49 14 [l0, l1, l2] (.int 0 :: st) h nx := D_iconst (ins_of mc_49 (pc := 13) (x := (.iconst 0, 1)) (by decide +kernel)) (by decide)
theorem e_49_14 : Df d 49 14 [l0, l1, l2] [.int x] h nx = if nR .boolean x = true then some (some (.int x), h, nx) else none := D_zreturn (ins_of mc_49 (pc := 14) (x := (.ireturn, 1)) (by decide +kernel)) mr_49
theorem e_49_15 : Df d 49 15 [l0, l1, l2] st h nx = Df d 49 16 [l0, l1, l2] (.int 0 :: st) h nx := D_iconst (ins_of mc_49 (pc := 15) (x := (.iconst 0, 1)) (by decide +kernel)) (by decide)
theorem e_49_16 (hn : nr l1 = true) : Df d 49 16 [l0, l1, l2] (.int x :: st) h nx = Df d 49 17 [l0, .int x, l2] st h nx := D_istore_n (ins_of mc_49 (pc := 16) (x := (.istore_n 1, 1)) (by decide +kernel)) rfl hn rfl
theorem e_49_17 : Df d 49 17 [.ref a, l1, l2] st h nx = Df d 49 18 [.ref a, l1, l2] (.ref a :: st) h nx := D_aload_n (ins_of mc_49 (pc := 17) (x := (.aload_n 0, 1)) (by decide +kernel)) rfl
theorem e_49_18 : Df d 49 18 [l0, l1, l2] (.ref a :: st) h nx = (gF h a 4 2).bind fun v => Df d 49 21 [l0, l1, l2] (v :: st) h nx := D_getfield (ins_of mc_49 (pc := 18) (x := (.getfield 22, 3)) (by decide +kernel)) mo_49 (by decide +kernel)
theorem e_49_21 (hn : nr l2 = true) : Df d 49 21 [l0, l1, l2] (.int x :: st) h nx = Df d 49 22 [l0, l1, .int x] st h nx := D_istore_n (ins_of mc_49 (pc := 21) (x := (.istore_n 2, 1)) (by decide +kernel)) rfl hn rfl
theorem e_49_22 : Df d 49 22 [l0, l1, .int x] st h nx = Df d 49 23 [l0, l1, .int x] (.int x :: st) h nx := D_iload_n (ins_of mc_49 (pc := 22) (x := (.iload_n 2, 1)) (by decide +kernel)) rfl
theorem e_49_23 : Df d 49 23 [.ref a, l1, l2] st h nx = Df d 49 24 [.ref a, l1, l2] (.ref a :: st) h nx := D_aload_n (ins_of mc_49 (pc := 23) (x := (.aload_n 0, 1)) (by decide +kernel)) rfl
theorem e_49_24 : Df d 49 24 [l0, l1, l2] (.ref a :: st) h nx = (gF h a 4 4).bind fun v => Df d 49 27 [l0, l1, l2] (v :: st) h nx := D_getfield (ins_of mc_49 (pc := 24) (x := (.getfield 29, 3)) (by decide +kernel)) mo_49 (by decide +kernel)
theorem e_49_27 : Df d 49 27 [l0, l1, l2] (.int y :: .int x :: st) h nx = if y ≤ x then Df d 49 57 [l0, l1, l2] st h nx else Df d 49 30 [l0, l1, l2] st h nx := D_icmp_ge (ins_of mc_49 (pc := 27) (x := (.if_icmp .ge 30, 3)) (by decide +kernel)) (by decide)
theorem e_49_30 : Df d 49 30 [l0, l1, .int x] st h nx = Df d 49 31 [l0, l1, .int x] (.int x :: st) h nx := D_iload_n (ins_of mc_49 (pc := 30) (x := (.iload_n 2, 1)) (by decide +kernel)) rfl
theorem e_49_31 : Df d 49 31 [l0, l1, l2] st h nx = Df d 49 33 [l0, l1, l2] (.int 96 :: st) h nx := D_bipush (ins_of mc_49 (pc := 31) (x := (.bipush 96, 2)) (by decide +kernel)) (by decide)
theorem e_49_33 : Df d 49 33 [l0, l1, l2] (.int y :: .int x :: st) h nx = if y ≤ x then Df d 49 57 [l0, l1, l2] st h nx else Df d 49 36 [l0, l1, l2] st h nx := D_icmp_ge (ins_of mc_49 (pc := 33) (x := (.if_icmp .ge 24, 3)) (by decide +kernel)) (by decide)
theorem e_49_36 : Df d 49 36 [l0, .int x, l2] st h nx = Df d 49 37 [l0, .int x, l2] (.int x :: st) h nx := D_iload_n (ins_of mc_49 (pc := 36) (x := (.iload_n 1, 1)) (by decide +kernel)) rfl
theorem e_49_37 : Df d 49 37 [l0, l1, l2] st h nx = Df d 49 39 [l0, l1, l2] (.int 10 :: st) h nx := D_bipush (ins_of mc_49 (pc := 37) (x := (.bipush 10, 2)) (by decide +kernel)) (by decide)
theorem e_49_39 : Df d 49 39 [l0, l1, l2] (.int y :: .int x :: st) h nx = Df d 49 40 [l0, l1, l2] (.int (x * y) :: st) h nx := D_imul (ins_of mc_49 (pc := 39) (x := (.imul, 1)) (by decide +kernel))
theorem e_49_40 : Df d 49 40 [.ref a, l1, l2] st h nx = Df d 49 41 [.ref a, l1, l2] (.ref a :: st) h nx := D_aload_n (ins_of mc_49 (pc := 40) (x := (.aload_n 0, 1)) (by decide +kernel)) rfl
theorem e_49_41 : Df d 49 41 [l0, l1, l2] (.ref a :: st) h nx = (gF h a 4 3).bind fun v => Df d 49 44 [l0, l1, l2] (v :: st) h nx := D_getfield (ins_of mc_49 (pc := 41) (x := (.getfield 25, 3)) (by decide +kernel)) mo_49 (by decide +kernel)
theorem e_49_44 : Df d 49 44 [l0, l1, .int x] st h nx = Df d 49 45 [l0, l1, .int x] (.int x :: st) h nx := D_iload_n (ins_of mc_49 (pc := 44) (x := (.iload_n 2, 1)) (by decide +kernel)) rfl
theorem e_49_45 : Df d 49 45 [l0, l1, l2] (.int x :: .ref a :: st) h nx = (rX h a x).bind fun v => Df d 49 46 [l0, l1, l2] (.int v :: st) h nx := D_iaload (ins_of mc_49 (pc := 45) (x := (.iaload, 1)) (by decide +kernel))
theorem e_49_46 : Df d 49 46 [l0, l1, l2] (.int y :: .int x :: st) h nx = Df d 49 47 [l0, l1, l2] (.int (x + y) :: st) h nx := D_iadd (ins_of mc_49 (pc := 46) (x := (.iadd, 1)) (by decide +kernel))
theorem e_49_47 : Df d 49 47 [l0, l1, l2] st h nx = Df d 49 49 [l0, l1, l2] (.int 48 :: st) h nx := D_bipush (ins_of mc_49 (pc := 47) (x := (.bipush 48, 2)) (by decide +kernel)) (by decide)
theorem e_49_49 : Df d 49 49 [l0, l1, l2] (.int y :: .int x :: st) h nx = Df d 49 50 [l0, l1, l2] (.int (x - y) :: st) h nx := D_isub (ins_of mc_49 (pc := 49) (x := (.isub, 1)) (by decide +kernel))
theorem e_49_50 (hn : nr l1 = true) : Df d 49 50 [l0, l1, l2] (.int x :: st) h nx = Df d 49 51 [l0, .int x, l2] st h nx := D_istore_n (ins_of mc_49 (pc := 50) (x := (.istore_n 1, 1)) (by decide +kernel)) rfl hn rfl
theorem e_49_51 : Df d 49 51 [l0, l1, .int x] st h nx = Df d 49 54 [l0, l1, .int (x + 1)] st h nx := D_iinc (ins_of mc_49 (pc := 51) (x := (.iinc 2 1, 3)) (by decide +kernel)) rfl (by decide) rfl
theorem e_49_54 : Df d 49 54 [l0, l1, l2] st h nx = Df d 49 22 [l0, l1, l2] st h nx := D_goto (ins_of mc_49 (pc := 54) (x := (.goto (-32), 3)) (by decide +kernel)) (by decide)
theorem e_49_57 : Df d 49 57 [.ref a, l1, l2] st h nx = Df d 49 58 [.ref a, l1, l2] (.ref a :: st) h nx := D_aload_n (ins_of mc_49 (pc := 57) (x := (.aload_n 0, 1)) (by decide +kernel)) rfl
theorem e_49_58 : Df d 49 58 [l0, l1, l2] (.ref a :: st) h nx = (gF h a 4 0).bind fun v => Df d 49 61 [l0, l1, l2] (v :: st) h nx := D_getfield (ins_of mc_49 (pc := 58) (x := (.getfield 12, 3)) (by decide +kernel)) mo_49 (by decide +kernel)
theorem e_49_61 : Df d 49 61 [l0, .int x, l2] st h nx = Df d 49 62 [l0, .int x, l2] (.int x :: st) h nx := D_iload_n (ins_of mc_49 (pc := 61) (x := (.iload_n 1, 1)) (by decide +kernel)) rfl
theorem e_49_62 : Df d 49 62 [l0, l1, l2] [v0, .ref a] h nx = if ck h a 2 = true then cn d 49 65 [l0, l1, l2] [] (Dn d 28 [.ref a, v0] h nx) else none := D_virtual (k1 := 28) (ins_of mc_49 (pc := 62) (x := (.invokevirtual 114, 3)) (by decide +kernel)) mo_49 (by decide +kernel) (by decide) rfl rfl (by decide) rfl (Nat.le_of_ble_eq_true rfl) rfl
theorem e_49_65 : Df d 49 65 [.ref a, l1, l2] st h nx = Df d 49 66 [.ref a, l1, l2] (.ref a :: st) h nx := D_aload_n (ins_of mc_49 (pc := 65) (x := (.aload_n 0, 1)) (by decide +kernel)) rfl
theorem e_49_66 : Df d 49 66 [l0, l1, l2] [.ref a] h nx = if ck h a 4 = true then cn d 49 69 [l0, l1, l2] [] (Dn d 40 [.ref a] h nx) else none := D_virtual (k1 := 40) (ins_of mc_49 (pc := 66) (x := (.invokevirtual 38, 3)) (by decide +kernel)) mo_49 (by decide +kernel) (by decide) rfl rfl (by decide) rfl (Nat.le_of_ble_eq_true rfl) rfl
theorem e_49_69 : Df d 49 69 [l0, l1, l2] st h nx = Df d 49 70 [l0, l1, l2] (.int 1 :: st) h nx := D_iconst (ins_of mc_49 (pc := 69) (x := (.iconst 1, 1)) (by decide +kernel)) (by decide)
theorem e_49_70 : Df d 49 70 [l0, l1, l2] [.int x] h nx = if nR .boolean x = true then some (some (.int x), h, nx) else none := D_zreturn (ins_of mc_49 (pc := 70) (x := (.ireturn, 1)) (by decide +kernel)) mr_49
theorem mc_50 : mC 50 = prog_6_method_16_code := rfl
theorem mo_50 : mO 50 = 4 := rfl
theorem ml_50 : mL 50 = 3 := rfl
theorem mr_50 : mR 50 = (some .boolean) := rfl
theorem ma_50 : mA 50 = 0 := rfl
theorem e_50_0 : Df d 50 0 [.ref a, l1, l2] st h nx = Df d 50 1 [.ref a, l1, l2] (.ref a :: st) h nx := D_aload_n (ins_of mc_50 (pc := 0) (x := (.aload_n 0, 1)) (by decide +kernel)) rfl
theorem e_50_1 : Df d 50 1 [l0, l1, l2] (.ref a :: st) h nx = (gF h a 4 0).bind fun v => Df d 50 4 [l0, l1, l2] (v :: st) h nx := D_getfield (ins_of mc_50 (pc := 1) (x := (.getfield 12, 3)) (by decide +kernel)) mo_50 (by decide +kernel)
theorem e_50_4 : Df d 50 4 [l0, l1, l2] (.ref a :: st) h nx = (gF h a 2 2).bind fun v => Df d 50 7 [l0, l1, l2] (v :: st) h nx := D_getfield (ins_of mc_50 (pc := 4) (x := (.getfield 67, 3)) (by decide +kernel)) mo_50 (by decide +kernel)
theorem e_50_7 : Df d 50 7 [l0, l1, l2] [v0] h nx = cn d 50 10 [l0, l1, l2] [] (Dn d 51 [v0] h nx) := D_static (k1 := 51) (kd := 1) (ins_of mc_50 (pc := 7) (x := (.invokestatic 117, 3)) (by decide +kernel)) mo_50 (by decide +kernel) (by decide) rfl (Nat.le_of_ble_eq_true rfl) rfl (Nat.le_of_ble_eq_true rfl) rfl
theorem e_50_10 (hn : nr l1 = true) : Df d 50 10 [l0, l1, l2] (.ref a :: st) h nx = Df d 50 11 [l0, .ref a, l2] st h nx := D_astore_n (ins_of mc_50 (pc := 10) (x := (.astore_n 1, 1)) (by decide +kernel)) rfl hn rfl
theorem e_50_11 : Df d 50 11 [l0, l1, l2] st h nx = Df d 50 12 [l0, l1, l2] (.int 0 :: st) h nx := D_iconst (ins_of mc_50 (pc := 11) (x := (.iconst 0, 1)) (by decide +kernel)) (by decide)
theorem e_50_12 (hn : nr l2 = true) : Df d 50 12 [l0, l1, l2] (.int x :: st) h nx = Df d 50 13 [l0, l1, .int x] st h nx := D_istore_n (ins_of mc_50 (pc := 12) (x := (.istore_n 2, 1)) (by decide +kernel)) rfl hn rfl
theorem e_50_13 : Df d 50 13 [l0, l1, .int x] st h nx = Df d 50 14 [l0, l1, .int x] (.int x :: st) h nx := D_iload_n (ins_of mc_50 (pc := 13) (x := (.iload_n 2, 1)) (by decide +kernel)) rfl
theorem e_50_14 : Df d 50 14 [l0, .ref a, l2] st h nx = Df d 50 15 [l0, .ref a, l2] (.ref a :: st) h nx := D_aload_n (ins_of mc_50 (pc := 14) (x := (.aload_n 1, 1)) (by decide +kernel)) rfl
theorem e_50_15 : Df d 50 15 [l0, l1, l2] [.ref a, s0] h nx = if isS a = true then cn d 50 18 [l0, l1, l2] [s0] (Dn d 215 [.ref a] h nx) else none := D_string (k1 := 215) (ins_of mc_50 (pc := 15) (x := (.invokevirtual 82, 3)) (by decide +kernel)) mo_50 (by decide +kernel) (by decide) rfl rfl (Nat.le_of_ble_eq_true rfl) rfl
theorem e_50_18 : Df d 50 18 [l0, l1, l2] (.int y :: .int x :: st) h nx = if y ≤ x then Df d 50 79 [l0, l1, l2] st h nx else Df d 50 21 [l0, l1, l2] st h nx := D_icmp_ge (ins_of mc_50 (pc := 18) (x := (.if_icmp .ge 61, 3)) (by decide +kernel)) (by decide)
theorem e_50_21 : Df d 50 21 [.ref a, l1, l2] st h nx = Df d 50 22 [.ref a, l1, l2] (.ref a :: st) h nx := D_aload_n (ins_of mc_50 (pc := 21) (x := (.aload_n 0, 1)) (by decide +kernel)) rfl
theorem e_50_22 : Df d 50 22 [l0, l1, l2] (.ref a :: st) h nx = (gF h a 4 4).bind fun v => Df d 50 25 [l0, l1, l2] (v :: st) h nx := D_getfield (ins_of mc_50 (pc := 22) (x := (.getfield 29, 3)) (by decide +kernel)) mo_50 (by decide +kernel)
theorem e_50_25 : Df d 50 25 [.ref a, l1, l2] st h nx = Df d 50 26 [.ref a, l1, l2] (.ref a :: st) h nx := D_aload_n (ins_of mc_50 (pc := 25) (x := (.aload_n 0, 1)) (by decide +kernel)) rfl
theorem e_50_26 : Df d 50 26 [l0, l1, l2] (.ref a :: st) h nx = (gF h a 4 2).bind fun v => Df d 50 29 [l0, l1, l2] (v :: st) h nx := D_getfield (ins_of mc_50 (pc := 26) (x := (.getfield 22, 3)) (by decide +kernel)) mo_50 (by decide +kernel)
theorem e_50_29 : Df d 50 29 [l0, l1, l2] (.int y :: .int x :: st) h nx = Df d 50 30 [l0, l1, l2] (.int (x - y) :: st) h nx := D_isub (ins_of mc_50 (pc := 29) (x := (.isub, 1)) (by decide +kernel))
theorem e_50_30 : Df d 50 30 [l0, l1, l2] st h nx = Df d 50 31 [l0, l1, l2] (.int 1 :: st) h nx := D_iconst (ins_of mc_50 (pc := 30) (x := (.iconst 1, 1)) (by decide +kernel)) (by decide)
theorem e_50_31 : Df d 50 31 [l0, l1, l2] (.int y :: .int x :: st) h nx = if x = y then Df d 50 34 [l0, l1, l2] st h nx else Df d 50 73 [l0, l1, l2] st h nx := D_icmp_ne (ins_of mc_50 (pc := 31) (x := (.if_icmp .ne 42, 3)) (by decide +kernel)) (by decide)
theorem e_50_34 : Df d 50 34 [.ref a, l1, l2] st h nx = Df d 50 35 [.ref a, l1, l2] (.ref a :: st) h nx := D_aload_n (ins_of mc_50 (pc := 34) (x := (.aload_n 0, 1)) (by decide +kernel)) rfl
theorem e_50_35 : Df d 50 35 [.ref a, l1, l2] st h nx = Df d 50 36 [.ref a, l1, l2] (.ref a :: st) h nx := D_aload_n (ins_of mc_50 (pc := 35) (x := (.aload_n 0, 1)) (by decide +kernel)) rfl
theorem e_50_36 : Df d 50 36 [l0, l1, l2] (.ref a :: st) h nx = (gF h a 4 2).bind fun v => Df d 50 39 [l0, l1, l2] (v :: st) h nx := D_getfield (ins_of mc_50 (pc := 36) (x := (.getfield 22, 3)) (by decide +kernel)) mo_50 (by decide +kernel)
theorem e_50_39 : Df d 50 39 [l0, .ref a, l2] st h nx = Df d 50 40 [l0, .ref a, l2] (.ref a :: st) h nx := D_aload_n (ins_of mc_50 (pc := 39) (x := (.aload_n 1, 1)) (by decide +kernel)) rfl
theorem e_50_40 : Df d 50 40 [l0, l1, .int x] st h nx = Df d 50 41 [l0, l1, .int x] (.int x :: st) h nx := D_iload_n (ins_of mc_50 (pc := 40) (x := (.iload_n 2, 1)) (by decide +kernel)) rfl
theorem e_50_41 : Df d 50 41 [l0, l1, l2] [v0, .ref a, s0, s1] h nx = if isS a = true then cn d 50 44 [l0, l1, l2] [s0, s1] (Dn d 217 [.ref a, v0] h nx) else none := D_string (k1 := 217) (ins_of mc_50 (pc := 41) (x := (.invokevirtual 87, 3)) (by decide +kernel)) mo_50 (by decide +kernel) (by decide) rfl rfl (Nat.le_of_ble_eq_true rfl) rfl
theorem e_50_44 : Df d 50 44 [l0, .ref a, l2] st h nx = Df d 50 45 [l0, .ref a, l2] (.ref a :: st) h nx := D_aload_n (ins_of mc_50 (pc := 44) (x := (.aload_n 1, 1)) (by decide +kernel)) rfl
theorem e_50_45 : Df d 50 45 [l0, l1, .int x] st h nx = Df d 50 46 [l0, l1, .int x] (.int x :: st) h nx := D_iload_n (ins_of mc_50 (pc := 45) (x := (.iload_n 2, 1)) (by decide +kernel)) rfl
theorem e_50_46 : Df d 50 46 [l0, l1, l2] [v0, .ref a, s0, s1, s2] h nx = if isS a = true then cn d 50 49 [l0, l1, l2] [s0, s1, s2] (Dn d 217 [.ref a, v0] h nx) else none := D_string (k1 := 217) (ins_of mc_50 (pc := 46) (x := (.invokevirtual 87, 3)) (by decide +kernel)) mo_50 (by decide +kernel) (by decide) rfl rfl (Nat.le_of_ble_eq_true rfl) rfl
theorem e_50_49 : Df d 50 49 [l0, l1, l2] [v2, v1, v0, .ref a] h nx = if ck h a 4 = true then cn d 50 52 [l0, l1, l2] [] (Dn d 43 [.ref a, v0, v1, v2] h nx) else none := D_virtual (k1 := 43) (ins_of mc_50 (pc := 49) (x := (.invokevirtual 56, 3)) (by decide +kernel)) mo_50 (by decide +kernel) (by decide) rfl rfl (by decide) rfl (Nat.le_of_ble_eq_true rfl) rfl
theorem e_50_52 : Df d 50 52 [l0, l1, l2] (.int x :: st) h nx = if x = 0 then Df d 50 73 [l0, l1, l2] st h nx else Df d 50 55 [l0, l1, l2] st h nx := D_if_eq (ins_of mc_50 (pc := 52) (x := (.ifCond .eq 21, 3)) (by decide +kernel)) (by decide)
theorem e_50_55 : Df d 50 55 [.ref a, l1, l2] st h nx = Df d 50 56 [.ref a, l1, l2] (.ref a :: st) h nx := D_aload_n (ins_of mc_50 (pc := 55) (x := (.aload_n 0, 1)) (by decide +kernel)) rfl
theorem e_50_56 : Df d 50 56 [l0, l1, l2] (.ref a :: st) h nx = (gF h a 4 0).bind fun v => Df d 50 59 [l0, l1, l2] (v :: st) h nx := D_getfield (ins_of mc_50 (pc := 56) (x := (.getfield 12, 3)) (by decide +kernel)) mo_50 (by decide +kernel)
theorem e_50_59 : Df d 50 59 [l0, l1, l2] st h nx = Df d 50 62 [l0, l1, l2] (.int 10000 :: st) h nx := D_sipush (ins_of mc_50 (pc := 59) (x := (.sipush 10000, 3)) (by decide +kernel)) (by decide)
theorem e_50_62 : Df d 50 62 [l0, l1, .int x] st h nx = Df d 50 63 [l0, l1, .int x] (.int x :: st) h nx := D_iload_n (ins_of mc_50 (pc := 62) (x := (.iload_n 2, 1)) (by decide +kernel)) rfl
theorem e_50_63 : Df d 50 63 [l0, l1, l2] (.int y :: .int x :: st) h nx = Df d 50 64 [l0, l1, l2] (.int (x + y) :: st) h nx := D_iadd (ins_of mc_50 (pc := 63) (x := (.iadd, 1)) (by decide +kernel))
theorem e_50_64 : Df d 50 64 [l0, l1, l2] [v0, .ref a] h nx = if ck h a 2 = true then cn d 50 67 [l0, l1, l2] [] (Dn d 28 [.ref a, v0] h nx) else none := D_virtual (k1 := 28) (ins_of mc_50 (pc := 64) (x := (.invokevirtual 114, 3)) (by decide +kernel)) mo_50 (by decide +kernel) (by decide) rfl rfl (by decide) rfl (Nat.le_of_ble_eq_true rfl) rfl
theorem e_50_67 : Df d 50 67 [.ref a, l1, l2] st h nx = Df d 50 68 [.ref a, l1, l2] (.ref a :: st) h nx := D_aload_n (ins_of mc_50 (pc := 67) (x := (.aload_n 0, 1)) (by decide +kernel)) rfl
theorem e_50_68 : Df d 50 68 [l0, l1, l2] [.ref a] h nx = if ck h a 4 = true then cn d 50 71 [l0, l1, l2] [] (Dn d 40 [.ref a] h nx) else none := D_virtual (k1 := 40) (ins_of mc_50 (pc := 68) (x := (.invokevirtual 38, 3)) (by decide +kernel)) mo_50 (by decide +kernel) (by decide) rfl rfl (by decide) rfl (Nat.le_of_ble_eq_true rfl) rfl
theorem e_50_71 : Df d 50 71 [l0, l1, l2] st h nx = Df d 50 72 [l0, l1, l2] (.int 1 :: st) h nx := D_iconst (ins_of mc_50 (pc := 71) (x := (.iconst 1, 1)) (by decide +kernel)) (by decide)
theorem e_50_72 : Df d 50 72 [l0, l1, l2] [.int x] h nx = if nR .boolean x = true then some (some (.int x), h, nx) else none := D_zreturn (ins_of mc_50 (pc := 72) (x := (.ireturn, 1)) (by decide +kernel)) mr_50
theorem e_50_73 : Df d 50 73 [l0, l1, .int x] st h nx = Df d 50 76 [l0, l1, .int (x + 1)] st h nx := D_iinc (ins_of mc_50 (pc := 73) (x := (.iinc 2 1, 3)) (by decide +kernel)) rfl (by decide) rfl
theorem e_50_76 : Df d 50 76 [l0, l1, l2] st h nx = Df d 50 13 [l0, l1, l2] st h nx := D_goto (ins_of mc_50 (pc := 76) (x := (.goto (-63), 3)) (by decide +kernel)) (by decide)
theorem e_50_79 : Df d 50 79 [l0, l1, l2] st h nx = Df d 50 80 [l0, l1, l2] (.int 0 :: st) h nx := D_iconst (ins_of mc_50 (pc := 79) (x := (.iconst 0, 1)) (by decide +kernel)) (by decide)
theorem e_50_80 : Df d 50 80 [l0, l1, l2] [.int x] h nx = if nR .boolean x = true then some (some (.int x), h, nx) else none := D_zreturn (ins_of mc_50 (pc := 80) (x := (.ireturn, 1)) (by decide +kernel)) mr_50
theorem mc_51 : mC 51 = prog_6_method_10_code := rfl
theorem mo_51 : mO 51 = 4 := rfl
theorem ml_51 : mL 51 = 1 := rfl
theorem mr_51 : mR 51 = (some ((.object "java/lang/String"))) := rfl
theorem ma_51 : mA 51 = 1 := rfl
theorem e_51_0 : Df d 51 0 [.int x] st h nx = Df d 51 1 [.int x] (.int x :: st) h nx := D_iload_n (ins_of mc_51 (pc := 0) (x := (.iload_n 0, 1)) (by decide +kernel)) rfl
theorem e_51_1 : Df d 51 1 [l0] (.int x :: st) h nx = if x = 0 then Df d 51 28 [l0] st h nx else if x = 1 then Df d 51 31 [l0] st h nx else Df d 51 34 [l0] st h nx := by
  have hi := (ins_of mc_51 (pc := 1) (x := (.lookupswitch 33 #[(0, 27), (1, 30)], 27)) (by decide +kernel))
  by_cases q0 : x = 0
  · subst q0
    rw [if_pos rfl]
    exact D_lsw hi (by decide) (off := 27) (by decide) (by decide)
  rw [if_neg q0]
  by_cases q1 : x = 1
  · subst q1
    rw [if_pos rfl]
    exact D_lsw hi (by decide) (off := 30) (by decide) (by decide)
  rw [if_neg q1]
  refine D_lsw hi (by decide) (off := 33) ?_ (by decide)
  show Op.lookupswitch.offset [(0, 27), (1, 30)] 33 x.toInt = 33
  rw [lv_osw (k := 0) q0 (by decide)]
  rw [lv_osw (k := 1) q1 (by decide)]
  rfl
theorem e_51_28 : Df d 51 28 [l0] st h nx = Df d 51 30 [l0] (.ref 7 :: st) h nx := D_ldcs (ins_of mc_51 (pc := 28) (x := (.ldc 76, 2)) (by decide +kernel)) mo_51 (by decide +kernel) (by decide +kernel)
theorem e_51_30 : Df d 51 30 [l0] [.ref a] h nx = some (some (.ref a), h, nx) := D_areturn (ins_of mc_51 (pc := 30) (x := (.areturn, 1)) (by decide +kernel)) mr_51 rfl
theorem e_51_31 : Df d 51 31 [l0] st h nx = Df d 51 33 [l0] (.ref 8 :: st) h nx := D_ldcs (ins_of mc_51 (pc := 31) (x := (.ldc 78, 2)) (by decide +kernel)) mo_51 (by decide +kernel) (by decide +kernel)
theorem e_51_33 : Df d 51 33 [l0] [.ref a] h nx = some (some (.ref a), h, nx) := D_areturn (ins_of mc_51 (pc := 33) (x := (.areturn, 1)) (by decide +kernel)) mr_51 rfl
theorem e_51_34 : Df d 51 34 [l0] st h nx = Df d 51 36 [l0] (.ref 9 :: st) h nx := D_ldcs (ins_of mc_51 (pc := 34) (x := (.ldc 80, 2)) (by decide +kernel)) mo_51 (by decide +kernel) (by decide +kernel)
theorem e_51_36 : Df d 51 36 [l0] [.ref a] h nx = some (some (.ref a), h, nx) := D_areturn (ins_of mc_51 (pc := 36) (x := (.areturn, 1)) (by decide +kernel)) mr_51 rfl
theorem mc_52 : mC 52 = prog_6_method_17_code := rfl
theorem mo_52 : mO 52 = 4 := rfl
theorem ml_52 : mL 52 = 3 := rfl
theorem mr_52 : mR 52 = (some .boolean) := rfl
theorem ma_52 : mA 52 = 2 := rfl
theorem e_52_0 : Df d 52 0 [.ref a, l1, l2] st h nx = Df d 52 1 [.ref a, l1, l2] (.ref a :: st) h nx := D_aload_n (ins_of mc_52 (pc := 0) (x := (.aload_n 0, 1)) (by decide +kernel)) rfl
theorem e_52_1 : Df d 52 1 [l0, l1, l2] [.ref a] h nx = if ck h a 4 = true then cn d 52 4 [l0, l1, l2] [] (Dn d 40 [.ref a] h nx) else none := D_virtual (k1 := 40) (ins_of mc_52 (pc := 1) (x := (.invokevirtual 38, 3)) (by decide +kernel)) mo_52 (by decide +kernel) (by decide) rfl rfl (by decide) rfl (Nat.le_of_ble_eq_true rfl) rfl
theorem e_52_4 : Df d 52 4 [.ref a, l1, l2] st h nx = Df d 52 5 [.ref a, l1, l2] (.ref a :: st) h nx := D_aload_n (ins_of mc_52 (pc := 4) (x := (.aload_n 0, 1)) (by decide +kernel)) rfl
theorem e_52_5 : Df d 52 5 [l0, .int x, l2] st h nx = Df d 52 6 [l0, .int x, l2] (.int x :: st) h nx := D_iload_n (ins_of mc_52 (pc := 5) (x := (.iload_n 1, 1)) (by decide +kernel)) rfl
theorem e_52_6 : Df d 52 6 [l0, l1, .int x] st h nx = Df d 52 7 [l0, l1, .int x] (.int x :: st) h nx := D_iload_n (ins_of mc_52 (pc := 6) (x := (.iload_n 2, 1)) (by decide +kernel)) rfl
theorem e_52_7 : Df d 52 7 [l0, l1, l2] [v1, v0, .ref a] h nx = if ck h a 4 = true then cn d 52 10 [l0, l1, l2] [] (Dn d 48 [.ref a, v0, v1] h nx) else none := D_virtual (k1 := 48) (ins_of mc_52 (pc := 7) (x := (.invokevirtual 91, 3)) (by decide +kernel)) mo_52 (by decide +kernel) (by decide) rfl rfl (by decide) rfl (Nat.le_of_ble_eq_true rfl) rfl
theorem e_52_10 : Df d 52 10 [l0, l1, l2] (.int x :: st) h nx = if x = 0 then Df d 52 13 [l0, l1, l2] st h nx else Df d 52 15 [l0, l1, l2] st h nx := D_if_ne (ins_of mc_52 (pc := 10) (x := (.ifCond .ne 5, 3)) (by decide +kernel)) (by decide)
theorem e_52_13 : Df d 52 13 [l0, l1, l2] st h nx = Df d 52 14 [l0, l1, l2] (.int 0 :: st) h nx := D_iconst (ins_of mc_52 (pc := 13) (x := (.iconst 0, 1)) (by decide +kernel)) (by decide)
theorem e_52_14 : Df d 52 14 [l0, l1, l2] [.int x] h nx = if nR .boolean x = true then some (some (.int x), h, nx) else none := D_zreturn (ins_of mc_52 (pc := 14) (x := (.ireturn, 1)) (by decide +kernel)) mr_52
theorem e_52_15 : Df d 52 15 [.ref a, l1, l2] st h nx = Df d 52 16 [.ref a, l1, l2] (.ref a :: st) h nx := D_aload_n (ins_of mc_52 (pc := 15) (x := (.aload_n 0, 1)) (by decide +kernel)) rfl
theorem e_52_16 : Df d 52 16 [l0, l1, l2] (.ref a :: st) h nx = (gF h a 4 0).bind fun v => Df d 52 19 [l0, l1, l2] (v :: st) h nx := D_getfield (ins_of mc_52 (pc := 16) (x := (.getfield 12, 3)) (by decide +kernel)) mo_52 (by decide +kernel)
theorem e_52_19 : Df d 52 19 [l0, l1, l2] st h nx = Df d 52 21 [l0, l1, l2] (.int 33 :: st) h nx := D_bipush (ins_of mc_52 (pc := 19) (x := (.bipush 33, 2)) (by decide +kernel)) (by decide)
theorem e_52_21 : Df d 52 21 [l0, l1, l2] [v0, .ref a] h nx = if ck h a 2 = true then cn d 52 24 [l0, l1, l2] [] (Dn d 30 [.ref a, v0] h nx) else none := D_virtual (k1 := 30) (ins_of mc_52 (pc := 21) (x := (.invokevirtual 98, 3)) (by decide +kernel)) mo_52 (by decide +kernel) (by decide) rfl rfl (by decide) rfl (Nat.le_of_ble_eq_true rfl) rfl
theorem e_52_24 : Df d 52 24 [l0, l1, l2] st h nx = Df d 52 25 [l0, l1, l2] (.int 1 :: st) h nx := D_iconst (ins_of mc_52 (pc := 24) (x := (.iconst 1, 1)) (by decide +kernel)) (by decide)
theorem e_52_25 : Df d 52 25 [l0, l1, l2] [.int x] h nx = if nR .boolean x = true then some (some (.int x), h, nx) else none := D_zreturn (ins_of mc_52 (pc := 25) (x := (.ireturn, 1)) (by decide +kernel)) mr_52
theorem mc_53 : mC 53 = prog_6_method_18_code := rfl
theorem mo_53 : mO 53 = 4 := rfl
theorem ml_53 : mL 53 = 3 := rfl
theorem mr_53 : mR 53 = (some .boolean) := rfl
theorem ma_53 : mA 53 = 2 := rfl
theorem e_53_0 : Df d 53 0 [.ref a, l1, l2] st h nx = Df d 53 1 [.ref a, l1, l2] (.ref a :: st) h nx := D_aload_n (ins_of mc_53 (pc := 0) (x := (.aload_n 0, 1)) (by decide +kernel)) rfl
theorem e_53_1 : Df d 53 1 [l0, l1, l2] [.ref a] h nx = if ck h a 4 = true then cn d 53 4 [l0, l1, l2] [] (Dn d 40 [.ref a] h nx) else none := D_virtual (k1 := 40) (ins_of mc_53 (pc := 1) (x := (.invokevirtual 38, 3)) (by decide +kernel)) mo_53 (by decide +kernel) (by decide) rfl rfl (by decide) rfl (Nat.le_of_ble_eq_true rfl) rfl
theorem e_53_4 : Df d 53 4 [.ref a, l1, l2] st h nx = Df d 53 5 [.ref a, l1, l2] (.ref a :: st) h nx := D_aload_n (ins_of mc_53 (pc := 4) (x := (.aload_n 0, 1)) (by decide +kernel)) rfl
theorem e_53_5 : Df d 53 5 [l0, l1, l2] st h nx = Df d 53 6 [l0, l1, l2] (.int 0 :: st) h nx := D_iconst (ins_of mc_53 (pc := 5) (x := (.iconst 0, 1)) (by decide +kernel)) (by decide)
theorem e_53_6 : Df d 53 6 [l0, .int x, l2] st h nx = Df d 53 7 [l0, .int x, l2] (.int x :: st) h nx := D_iload_n (ins_of mc_53 (pc := 6) (x := (.iload_n 1, 1)) (by decide +kernel)) rfl
theorem e_53_7 : Df d 53 7 [l0, l1, .int x] st h nx = Df d 53 8 [l0, l1, .int x] (.int x :: st) h nx := D_iload_n (ins_of mc_53 (pc := 7) (x := (.iload_n 2, 1)) (by decide +kernel)) rfl
theorem e_53_8 : Df d 53 8 [l0, l1, l2] [v2, v1, v0, .ref a] h nx = if ck h a 4 = true then cn d 53 11 [l0, l1, l2] [] (Dn d 47 [.ref a, v0, v1, v2] h nx) else none := D_virtual (k1 := 47) (ins_of mc_53 (pc := 8) (x := (.invokevirtual 45, 3)) (by decide +kernel)) mo_53 (by decide +kernel) (by decide) rfl rfl (by decide) rfl (Nat.le_of_ble_eq_true rfl) rfl
theorem e_53_11 : Df d 53 11 [l0, l1, l2] (.int x :: st) h nx = if x = 0 then Df d 53 23 [l0, l1, l2] st h nx else Df d 53 14 [l0, l1, l2] st h nx := D_if_eq (ins_of mc_53 (pc := 11) (x := (.ifCond .eq 12, 3)) (by decide +kernel)) (by decide)
theorem e_53_14 : Df d 53 14 [.ref a, l1, l2] st h nx = Df d 53 15 [.ref a, l1, l2] (.ref a :: st) h nx := D_aload_n (ins_of mc_53 (pc := 14) (x := (.aload_n 0, 1)) (by decide +kernel)) rfl
theorem e_53_15 : Df d 53 15 [l0, l1, l2] (.ref a :: st) h nx = (gF h a 4 5).bind fun v => Df d 53 18 [l0, l1, l2] (v :: st) h nx := D_getfield (ins_of mc_53 (pc := 15) (x := (.getfield 32, 3)) (by decide +kernel)) mo_53 (by decide +kernel)
theorem e_53_18 : Df d 53 18 [l0, l1, l2] st h nx = Df d 53 20 [l0, l1, l2] (.int 41 :: st) h nx := D_bipush (ins_of mc_53 (pc := 18) (x := (.bipush 41, 2)) (by decide +kernel)) (by decide)
theorem e_53_20 : Df d 53 20 [l0, l1, l2] (.int y :: .int x :: st) h nx = if x = y then Df d 53 25 [l0, l1, l2] st h nx else Df d 53 23 [l0, l1, l2] st h nx := D_icmp_eq (ins_of mc_53 (pc := 20) (x := (.if_icmp .eq 5, 3)) (by decide +kernel)) (by decide)
theorem e_53_23 : Df d 53 23 [l0, l1, l2] st h nx = Df d 53 24 [l0, l1, l2] (.int 0 :: st) h nx := D_iconst (ins_of mc_53 (pc := 23) (x := (.iconst 0, 1)) (by decide +kernel)) (by decide)
theorem e_53_24 : Df d 53 24 [l0, l1, l2] [.int x] h nx = if nR .boolean x = true then some (some (.int x), h, nx) else none := D_zreturn (ins_of mc_53 (pc := 24) (x := (.ireturn, 1)) (by decide +kernel)) mr_53
theorem e_53_25 : Df d 53 25 [.ref a, l1, l2] st h nx = Df d 53 26 [.ref a, l1, l2] (.ref a :: st) h nx := D_aload_n (ins_of mc_53 (pc := 25) (x := (.aload_n 0, 1)) (by decide +kernel)) rfl
theorem e_53_26 : Df d 53 26 [l0, l1, l2] [.ref a] h nx = if ck h a 4 = true then cn d 53 29 [l0, l1, l2] [] (Dn d 40 [.ref a] h nx) else none := D_virtual (k1 := 40) (ins_of mc_53 (pc := 26) (x := (.invokevirtual 38, 3)) (by decide +kernel)) mo_53 (by decide +kernel) (by decide) rfl rfl (by decide) rfl (Nat.le_of_ble_eq_true rfl) rfl
theorem e_53_29 : Df d 53 29 [l0, l1, l2] st h nx = Df d 53 30 [l0, l1, l2] (.int 1 :: st) h nx := D_iconst (ins_of mc_53 (pc := 29) (x := (.iconst 1, 1)) (by decide +kernel)) (by decide)
theorem e_53_30 : Df d 53 30 [l0, l1, l2] [.int x] h nx = if nR .boolean x = true then some (some (.int x), h, nx) else none := D_zreturn (ins_of mc_53 (pc := 30) (x := (.ireturn, 1)) (by decide +kernel)) mr_53
theorem mc_54 : mC 54 = prog_6_method_13_code := rfl
theorem mo_54 : mO 54 = 4 := rfl
theorem ml_54 : mL 54 = 2 := rfl
theorem mr_54 : mR 54 = (some .boolean) := rfl
theorem ma_54 : mA 54 = 2 := rfl
theorem e_54_0 : Df d 54 0 [.int x, l1] st h nx = Df d 54 1 [.int x, l1] (.int x :: st) h nx := D_iload_n (ins_of mc_54 (pc := 0) (x := (.iload_n 0, 1)) (by decide +kernel)) rfl
theorem e_54_1 : Df d 54 1 [l0, l1] (.int x :: st) h nx = if x = 0 then Df d 54 32 [l0, l1] st h nx else if x = 1 then Df d 54 44 [l0, l1] st h nx else if x = 2 then Df d 54 56 [l0, l1] st h nx else if x = 3 then Df d 54 80 [l0, l1] st h nx else Df d 54 98 [l0, l1] st h nx := by
  have hi := (ins_of mc_54 (pc := 1) (x := (.tableswitch 97 0 3 #[31, 43, 55, 79], 31)) (by decide +kernel))
  by_cases q0 : x = 0
  · subst q0
    rw [if_pos rfl]
    exact D_tswI (off := 31) hi (by decide) (by decide) (by decide)
  rw [if_neg q0]
  by_cases q1 : x = 1
  · subst q1
    rw [if_pos rfl]
    exact D_tswI (off := 43) hi (by decide) (by decide) (by decide)
  rw [if_neg q1]
  by_cases q2 : x = 2
  · subst q2
    rw [if_pos rfl]
    exact D_tswI (off := 55) hi (by decide) (by decide) (by decide)
  rw [if_neg q2]
  by_cases q3 : x = 3
  · subst q3
    rw [if_pos rfl]
    exact D_tswI (off := 79) hi (by decide) (by decide) (by decide)
  rw [if_neg q3]
  have r0 : x.toInt ≠ 0 := fun z => q0 (Int32.toInt_inj.mp (z.trans (by decide)))
  have r1 : x.toInt ≠ 1 := fun z => q1 (Int32.toInt_inj.mp (z.trans (by decide)))
  have r2 : x.toInt ≠ 2 := fun z => q2 (Int32.toInt_inj.mp (z.trans (by decide)))
  have r3 : x.toInt ≠ 3 := fun z => q3 (Int32.toInt_inj.mp (z.trans (by decide)))
  exact D_tswO hi (by omega) (by decide)
theorem e_54_32 : Df d 54 32 [l0, .int x] st h nx = Df d 54 33 [l0, .int x] (.int x :: st) h nx := D_iload_n (ins_of mc_54 (pc := 32) (x := (.iload_n 1, 1)) (by decide +kernel)) rfl
theorem e_54_33 : Df d 54 33 [l0, l1] st h nx = Df d 54 35 [l0, l1] (.int 124 :: st) h nx := D_bipush (ins_of mc_54 (pc := 33) (x := (.bipush 124, 2)) (by decide +kernel)) (by decide)
theorem e_54_35 : Df d 54 35 [l0, l1] (.int y :: .int x :: st) h nx = if x = y then Df d 54 38 [l0, l1] st h nx else Df d 54 42 [l0, l1] st h nx := D_icmp_ne (ins_of mc_54 (pc := 35) (x := (.if_icmp .ne 7, 3)) (by decide +kernel)) (by decide)
theorem e_54_38 : Df d 54 38 [l0, l1] st h nx = Df d 54 39 [l0, l1] (.int 1 :: st) h nx := D_iconst (ins_of mc_54 (pc := 38) (x := (.iconst 1, 1)) (by decide +kernel)) (by decide)
theorem e_54_39 : Df d 54 39 [l0, l1] st h nx = Df d 54 43 [l0, l1] st h nx := D_goto (ins_of mc_54 (pc := 39) (x := (.goto 4, 3)) (by decide +kernel)) (by decide)
theorem e_54_42 : Df d 54 42 [l0, l1] st h nx = Df d 54 43 [l0, l1] (.int 0 :: st) h nx := D_iconst (ins_of mc_54 (pc := 42) (x := (.iconst 0, 1)) (by decide +kernel)) (by decide)
theorem e_54_43 : Df d 54 43 [l0, l1] [.int x] h nx = if nR .boolean x = true then some (some (.int x), h, nx) else none := D_zreturn (ins_of mc_54 (pc := 43) (x := (.ireturn, 1)) (by decide +kernel)) mr_54
theorem e_54_44 : Df d 54 44 [l0, .int x] st h nx = Df d 54 45 [l0, .int x] (.int x :: st) h nx := D_iload_n (ins_of mc_54 (pc := 44) (x := (.iload_n 1, 1)) (by decide +kernel)) rfl
theorem e_54_45 : Df d 54 45 [l0, l1] st h nx = Df d 54 47 [l0, l1] (.int 38 :: st) h nx := D_bipush (ins_of mc_54 (pc := 45) (x := (.bipush 38, 2)) (by decide +kernel)) (by decide)
theorem e_54_47 : Df d 54 47 [l0, l1] (.int y :: .int x :: st) h nx = if x = y then Df d 54 50 [l0, l1] st h nx else Df d 54 54 [l0, l1] st h nx := D_icmp_ne (ins_of mc_54 (pc := 47) (x := (.if_icmp .ne 7, 3)) (by decide +kernel)) (by decide)
theorem e_54_50 : Df d 54 50 [l0, l1] st h nx = Df d 54 51 [l0, l1] (.int 1 :: st) h nx := D_iconst (ins_of mc_54 (pc := 50) (x := (.iconst 1, 1)) (by decide +kernel)) (by decide)
theorem e_54_51 : Df d 54 51 [l0, l1] st h nx = Df d 54 55 [l0, l1] st h nx := D_goto (ins_of mc_54 (pc := 51) (x := (.goto 4, 3)) (by decide +kernel)) (by decide)
theorem e_54_54 : Df d 54 54 [l0, l1] st h nx = Df d 54 55 [l0, l1] (.int 0 :: st) h nx := D_iconst (ins_of mc_54 (pc := 54) (x := (.iconst 0, 1)) (by decide +kernel)) (by decide)
theorem e_54_55 : Df d 54 55 [l0, l1] [.int x] h nx = if nR .boolean x = true then some (some (.int x), h, nx) else none := D_zreturn (ins_of mc_54 (pc := 55) (x := (.ireturn, 1)) (by decide +kernel)) mr_54
theorem e_54_56 : Df d 54 56 [l0, .int x] st h nx = Df d 54 57 [l0, .int x] (.int x :: st) h nx := D_iload_n (ins_of mc_54 (pc := 56) (x := (.iload_n 1, 1)) (by decide +kernel)) rfl
theorem e_54_57 : Df d 54 57 [l0, l1] st h nx = Df d 54 59 [l0, l1] (.int 60 :: st) h nx := D_bipush (ins_of mc_54 (pc := 57) (x := (.bipush 60, 2)) (by decide +kernel)) (by decide)
theorem e_54_59 : Df d 54 59 [l0, l1] (.int y :: .int x :: st) h nx = if x = y then Df d 54 74 [l0, l1] st h nx else Df d 54 62 [l0, l1] st h nx := D_icmp_eq (ins_of mc_54 (pc := 59) (x := (.if_icmp .eq 15, 3)) (by decide +kernel)) (by decide)
theorem e_54_62 : Df d 54 62 [l0, .int x] st h nx = Df d 54 63 [l0, .int x] (.int x :: st) h nx := D_iload_n (ins_of mc_54 (pc := 62) (x := (.iload_n 1, 1)) (by decide +kernel)) rfl
theorem e_54_63 : Df d 54 63 [l0, l1] st h nx = Df d 54 65 [l0, l1] (.int 61 :: st) h nx := D_bipush (ins_of mc_54 (pc := 63) (x := (.bipush 61, 2)) (by decide +kernel)) (by decide)
theorem e_54_65 : Df d 54 65 [l0, l1] (.int y :: .int x :: st) h nx = if x = y then Df d 54 74 [l0, l1] st h nx else Df d 54 68 [l0, l1] st h nx := D_icmp_eq (ins_of mc_54 (pc := 65) (x := (.if_icmp .eq 9, 3)) (by decide +kernel)) (by decide)
theorem e_54_68 : Df d 54 68 [l0, .int x] st h nx = Df d 54 69 [l0, .int x] (.int x :: st) h nx := D_iload_n (ins_of mc_54 (pc := 68) (x := (.iload_n 1, 1)) (by decide +kernel)) rfl
theorem e_54_69 : Df d 54 69 [l0, l1] st h nx = Df d 54 71 [l0, l1] (.int 62 :: st) h nx := D_bipush (ins_of mc_54 (pc := 69) (x := (.bipush 62, 2)) (by decide +kernel)) (by decide)
theorem e_54_71 : Df d 54 71 [l0, l1] (.int y :: .int x :: st) h nx = if x = y then Df d 54 74 [l0, l1] st h nx else Df d 54 78 [l0, l1] st h nx := D_icmp_ne (ins_of mc_54 (pc := 71) (x := (.if_icmp .ne 7, 3)) (by decide +kernel)) (by decide)
theorem e_54_74 : Df d 54 74 [l0, l1] st h nx = Df d 54 75 [l0, l1] (.int 1 :: st) h nx := D_iconst (ins_of mc_54 (pc := 74) (x := (.iconst 1, 1)) (by decide +kernel)) (by decide)
theorem e_54_75 : Df d 54 75 [l0, l1] st h nx = Df d 54 79 [l0, l1] st h nx := D_goto (ins_of mc_54 (pc := 75) (x := (.goto 4, 3)) (by decide +kernel)) (by decide)
theorem e_54_78 : Df d 54 78 [l0, l1] st h nx = Df d 54 79 [l0, l1] (.int 0 :: st) h nx := D_iconst (ins_of mc_54 (pc := 78) (x := (.iconst 0, 1)) (by decide +kernel)) (by decide)
theorem e_54_79 : Df d 54 79 [l0, l1] [.int x] h nx = if nR .boolean x = true then some (some (.int x), h, nx) else none := D_zreturn (ins_of mc_54 (pc := 79) (x := (.ireturn, 1)) (by decide +kernel)) mr_54
theorem e_54_80 : Df d 54 80 [l0, .int x] st h nx = Df d 54 81 [l0, .int x] (.int x :: st) h nx := D_iload_n (ins_of mc_54 (pc := 80) (x := (.iload_n 1, 1)) (by decide +kernel)) rfl
theorem e_54_81 : Df d 54 81 [l0, l1] st h nx = Df d 54 83 [l0, l1] (.int 43 :: st) h nx := D_bipush (ins_of mc_54 (pc := 81) (x := (.bipush 43, 2)) (by decide +kernel)) (by decide)
theorem e_54_83 : Df d 54 83 [l0, l1] (.int y :: .int x :: st) h nx = if x = y then Df d 54 92 [l0, l1] st h nx else Df d 54 86 [l0, l1] st h nx := D_icmp_eq (ins_of mc_54 (pc := 83) (x := (.if_icmp .eq 9, 3)) (by decide +kernel)) (by decide)
theorem e_54_86 : Df d 54 86 [l0, .int x] st h nx = Df d 54 87 [l0, .int x] (.int x :: st) h nx := D_iload_n (ins_of mc_54 (pc := 86) (x := (.iload_n 1, 1)) (by decide +kernel)) rfl
theorem e_54_87 : Df d 54 87 [l0, l1] st h nx = Df d 54 89 [l0, l1] (.int 45 :: st) h nx := D_bipush (ins_of mc_54 (pc := 87) (x := (.bipush 45, 2)) (by decide +kernel)) (by decide)
theorem e_54_89 : Df d 54 89 [l0, l1] (.int y :: .int x :: st) h nx = if x = y then Df d 54 92 [l0, l1] st h nx else Df d 54 96 [l0, l1] st h nx := D_icmp_ne (ins_of mc_54 (pc := 89) (x := (.if_icmp .ne 7, 3)) (by decide +kernel)) (by decide)
theorem e_54_92 : Df d 54 92 [l0, l1] st h nx = Df d 54 93 [l0, l1] (.int 1 :: st) h nx := D_iconst (ins_of mc_54 (pc := 92) (x := (.iconst 1, 1)) (by decide +kernel)) (by decide)
theorem e_54_93 : Df d 54 93 [l0, l1] st h nx = Df d 54 97 [l0, l1] st h nx := D_goto (ins_of mc_54 (pc := 93) (x := (.goto 4, 3)) (by decide +kernel)) (by decide)
theorem e_54_96 : Df d 54 96 [l0, l1] st h nx = Df d 54 97 [l0, l1] (.int 0 :: st) h nx := D_iconst (ins_of mc_54 (pc := 96) (x := (.iconst 0, 1)) (by decide +kernel)) (by decide)
theorem e_54_97 : Df d 54 97 [l0, l1] [.int x] h nx = if nR .boolean x = true then some (some (.int x), h, nx) else none := D_zreturn (ins_of mc_54 (pc := 97) (x := (.ireturn, 1)) (by decide +kernel)) mr_54
theorem e_54_98 : Df d 54 98 [l0, .int x] st h nx = Df d 54 99 [l0, .int x] (.int x :: st) h nx := D_iload_n (ins_of mc_54 (pc := 98) (x := (.iload_n 1, 1)) (by decide +kernel)) rfl
theorem e_54_99 : Df d 54 99 [l0, l1] st h nx = Df d 54 101 [l0, l1] (.int 42 :: st) h nx := D_bipush (ins_of mc_54 (pc := 99) (x := (.bipush 42, 2)) (by decide +kernel)) (by decide)
theorem e_54_101 : Df d 54 101 [l0, l1] (.int y :: .int x :: st) h nx = if x = y then Df d 54 110 [l0, l1] st h nx else Df d 54 104 [l0, l1] st h nx := D_icmp_eq (ins_of mc_54 (pc := 101) (x := (.if_icmp .eq 9, 3)) (by decide +kernel)) (by decide)
theorem e_54_104 : Df d 54 104 [l0, .int x] st h nx = Df d 54 105 [l0, .int x] (.int x :: st) h nx := D_iload_n (ins_of mc_54 (pc := 104) (x := (.iload_n 1, 1)) (by decide +kernel)) rfl
theorem e_54_105 : Df d 54 105 [l0, l1] st h nx = Df d 54 107 [l0, l1] (.int 47 :: st) h nx := D_bipush (ins_of mc_54 (pc := 105) (x := (.bipush 47, 2)) (by decide +kernel)) (by decide)
theorem e_54_107 : Df d 54 107 [l0, l1] (.int y :: .int x :: st) h nx = if x = y then Df d 54 110 [l0, l1] st h nx else Df d 54 114 [l0, l1] st h nx := D_icmp_ne (ins_of mc_54 (pc := 107) (x := (.if_icmp .ne 7, 3)) (by decide +kernel)) (by decide)
theorem e_54_110 : Df d 54 110 [l0, l1] st h nx = Df d 54 111 [l0, l1] (.int 1 :: st) h nx := D_iconst (ins_of mc_54 (pc := 110) (x := (.iconst 1, 1)) (by decide +kernel)) (by decide)
theorem e_54_111 : Df d 54 111 [l0, l1] st h nx = Df d 54 115 [l0, l1] st h nx := D_goto (ins_of mc_54 (pc := 111) (x := (.goto 4, 3)) (by decide +kernel)) (by decide)
theorem e_54_114 : Df d 54 114 [l0, l1] st h nx = Df d 54 115 [l0, l1] (.int 0 :: st) h nx := D_iconst (ins_of mc_54 (pc := 114) (x := (.iconst 0, 1)) (by decide +kernel)) (by decide)
theorem e_54_115 : Df d 54 115 [l0, l1] [.int x] h nx = if nR .boolean x = true then some (some (.int x), h, nx) else none := D_zreturn (ins_of mc_54 (pc := 115) (x := (.ireturn, 1)) (by decide +kernel)) mr_54
theorem mc_55 : mC 55 = prog_7_method_1_code := rfl
theorem mo_55 : mO 55 = 5 := rfl
theorem ml_55 : mL 55 = 1 := rfl
theorem mr_55 : mR 55 = none := rfl
theorem ma_55 : mA 55 = 0 := rfl
theorem e_55_0 : Df d 55 0 [.ref a] st h nx = Df d 55 1 [.ref a] (.ref a :: st) h nx := D_aload_n (ins_of mc_55 (pc := 0) (x := (.aload_n 0, 1)) (by decide +kernel)) rfl
theorem e_55_1 : Df d 55 1 [l0] [.ref a] h nx = Df d 55 4 [l0] [] h nx := D_objinit (k1 := 0) (ins_of mc_55 (pc := 1) (x := (.invokespecial 3, 3)) (by decide +kernel)) mo_55 (by decide +kernel) (Nat.le_of_ble_eq_true rfl)
theorem e_55_4 : Df d 55 4 [.ref a] st h nx = Df d 55 5 [.ref a] (.ref a :: st) h nx := D_aload_n (ins_of mc_55 (pc := 4) (x := (.aload_n 0, 1)) (by decide +kernel)) rfl
theorem e_55_5 : Df d 55 5 [l0] st h nx = Df d 55 7 [l0] (.int 24 :: st) h nx := D_bipush (ins_of mc_55 (pc := 5) (x := (.bipush 24, 2)) (by decide +kernel)) (by decide)
theorem e_55_7 : Df d 55 7 [l0] (.int x :: st) h nx = if x < 0 ∨ 10000 < x.toNatClampNeg then none else Df d 55 9 [l0] (.ref (16 + nx.1) :: st) (put h (16 + nx.1) (.inl (0, x.toNatClampNeg, .inl fun _ => 0))) (nx.1 + 1, nx.2 + x.toNatClampNeg) := D_newint (ins_of mc_55 (pc := 7) (x := (.newarray .int, 2)) (by decide +kernel))
theorem e_55_9 : Df d 55 9 [l0] (.ref b :: .ref a :: st) h nx = (pF h a 5 0 (.ref b)).bind fun h => Df d 55 12 [l0] st h nx := D_putfield (ins_of mc_55 (pc := 9) (x := (.putfield 9, 3)) (by decide +kernel)) mo_55 (by decide +kernel) rfl (Or.inr ⟨by decide +kernel, rfl⟩)
theorem e_55_12 : Df d 55 12 [.ref a] st h nx = Df d 55 13 [.ref a] (.ref a :: st) h nx := D_aload_n (ins_of mc_55 (pc := 12) (x := (.aload_n 0, 1)) (by decide +kernel)) rfl
theorem e_55_13 : Df d 55 13 [l0] st h nx = Df d 55 14 [l0] (.int (-1) :: st) h nx := D_iconst (ins_of mc_55 (pc := 13) (x := (.iconst (-1), 1)) (by decide +kernel)) (by decide)
theorem e_55_14 : Df d 55 14 [l0] (.int x :: .ref a :: st) h nx = (pF h a 5 1 (.int x)).bind fun h => Df d 55 17 [l0] st h nx := D_putfield (ins_of mc_55 (pc := 14) (x := (.putfield 15, 3)) (by decide +kernel)) mo_55 (by decide +kernel) rfl (Or.inl rfl)
theorem e_55_17 : Df d 55 17 [.ref a] st h nx = Df d 55 18 [.ref a] (.ref a :: st) h nx := D_aload_n (ins_of mc_55 (pc := 17) (x := (.aload_n 0, 1)) (by decide +kernel)) rfl
theorem e_55_18 : Df d 55 18 [l0] st h nx = Df d 55 19 [l0] (.int 0 :: st) h nx := D_iconst (ins_of mc_55 (pc := 18) (x := (.iconst 0, 1)) (by decide +kernel)) (by decide)
theorem e_55_19 : Df d 55 19 [l0] (.int x :: .ref a :: st) h nx = (pF h a 5 2 (.int x)).bind fun h => Df d 55 22 [l0] st h nx := D_putfield (ins_of mc_55 (pc := 19) (x := (.putfield 19, 3)) (by decide +kernel)) mo_55 (by decide +kernel) rfl (Or.inl rfl)
theorem e_55_22 : Df d 55 22 [l0] [] h nx = some (none, h, nx) := D_return (ins_of mc_55 (pc := 22) (x := (.return_, 1)) (by decide +kernel)) mr_55
theorem mc_56 : mC 56 = prog_7_method_5_code := rfl
theorem mo_56 : mO 56 = 5 := rfl
theorem ml_56 : mL 56 = 2 := rfl
theorem mr_56 : mR 56 = (some .boolean) := rfl
theorem ma_56 : mA 56 = 1 := rfl
theorem e_56_0 : Df d 56 0 [.ref a, l1] st h nx = Df d 56 1 [.ref a, l1] (.ref a :: st) h nx := D_aload_n (ins_of mc_56 (pc := 0) (x := (.aload_n 0, 1)) (by decide +kernel)) rfl
theorem e_56_1 : Df d 56 1 [l0, .int x] st h nx = Df d 56 2 [l0, .int x] (.int x :: st) h nx := D_iload_n (ins_of mc_56 (pc := 1) (x := (.iload_n 1, 1)) (by decide +kernel)) rfl
theorem e_56_2 : Df d 56 2 [l0, l1] [v0, .ref a] h nx = if ck h a 5 = true then cn d 56 5 [l0, l1] [] (Dn d 57 [.ref a, v0] h nx) else none := D_virtual (k1 := 57) (ins_of mc_56 (pc := 2) (x := (.invokevirtual 28, 3)) (by decide +kernel)) mo_56 (by decide +kernel) (by decide) rfl rfl (by decide) rfl (Nat.le_of_ble_eq_true rfl) rfl
theorem e_56_5 : Df d 56 5 [l0, l1] (.int x :: st) h nx = if x = 0 then Df d 56 23 [l0, l1] st h nx else Df d 56 8 [l0, l1] st h nx := D_if_eq (ins_of mc_56 (pc := 5) (x := (.ifCond .eq 18, 3)) (by decide +kernel)) (by decide)
theorem e_56_8 : Df d 56 8 [.ref a, l1] st h nx = Df d 56 9 [.ref a, l1] (.ref a :: st) h nx := D_aload_n (ins_of mc_56 (pc := 8) (x := (.aload_n 0, 1)) (by decide +kernel)) rfl
theorem e_56_9 : Df d 56 9 [l0, l1] (.ref a :: st) h nx = (gF h a 5 0).bind fun v => Df d 56 12 [l0, l1] (v :: st) h nx := D_getfield (ins_of mc_56 (pc := 9) (x := (.getfield 9, 3)) (by decide +kernel)) mo_56 (by decide +kernel)
theorem e_56_12 : Df d 56 12 [l0, .int x] st h nx = Df d 56 13 [l0, .int x] (.int x :: st) h nx := D_iload_n (ins_of mc_56 (pc := 12) (x := (.iload_n 1, 1)) (by decide +kernel)) rfl
theorem e_56_13 : Df d 56 13 [l0, l1] (.int x :: .ref a :: st) h nx = (rX h a x).bind fun v => Df d 56 14 [l0, l1] (.int v :: st) h nx := D_iaload (ins_of mc_56 (pc := 13) (x := (.iaload, 1)) (by decide +kernel))
theorem e_56_14 : Df d 56 14 [l0, l1] st h nx = Df d 56 16 [l0, l1] (.int (-1000000005) :: st) h nx := D_ldc (ins_of mc_56 (pc := 14) (x := (.ldc 32, 2)) (by decide +kernel)) mo_56 (by decide +kernel)
theorem e_56_16 : Df d 56 16 [l0, l1] (.int y :: .int x :: st) h nx = if x = y then Df d 56 23 [l0, l1] st h nx else Df d 56 19 [l0, l1] st h nx := D_icmp_eq (ins_of mc_56 (pc := 16) (x := (.if_icmp .eq 7, 3)) (by decide +kernel)) (by decide)
theorem e_56_19 : Df d 56 19 [l0, l1] st h nx = Df d 56 20 [l0, l1] (.int 1 :: st) h nx := D_iconst (ins_of mc_56 (pc := 19) (x := (.iconst 1, 1)) (by decide +kernel)) (by decide)
theorem e_56_20 : Df d 56 20 [l0, l1] st h nx = Df d 56 24 [l0, l1] st h nx := D_goto (ins_of mc_56 (pc := 20) (x := (.goto 4, 3)) (by decide +kernel)) (by decide)
theorem e_56_23 : Df d 56 23 [l0, l1] st h nx = Df d 56 24 [l0, l1] (.int 0 :: st) h nx := D_iconst (ins_of mc_56 (pc := 23) (x := (.iconst 0, 1)) (by decide +kernel)) (by decide)
theorem e_56_24 : Df d 56 24 [l0, l1] [.int x] h nx = if nR .boolean x = true then some (some (.int x), h, nx) else none := D_zreturn (ins_of mc_56 (pc := 24) (x := (.ireturn, 1)) (by decide +kernel)) mr_56
theorem mc_57 : mC 57 = prog_7_method_4_code := rfl
theorem mo_57 : mO 57 = 5 := rfl
theorem ml_57 : mL 57 = 2 := rfl
theorem mr_57 : mR 57 = (some .boolean) := rfl
theorem ma_57 : mA 57 = 1 := rfl
theorem e_57_0 : Df d 57 0 [l0, .int x] st h nx = Df d 57 1 [l0, .int x] (.int x :: st) h nx := D_iload_n (ins_of mc_57 (pc := 0) (x := (.iload_n 1, 1)) (by decide +kernel)) rfl
theorem e_57_1 : Df d 57 1 [l0, l1] (.int x :: st) h nx = if x < 0 then Df d 57 22 [l0, l1] st h nx else Df d 57 4 [l0, l1] st h nx := D_if_lt (ins_of mc_57 (pc := 1) (x := (.ifCond .lt 21, 3)) (by decide +kernel)) (by decide)
theorem e_57_4 : Df d 57 4 [l0, .int x] st h nx = Df d 57 5 [l0, .int x] (.int x :: st) h nx := D_iload_n (ins_of mc_57 (pc := 4) (x := (.iload_n 1, 1)) (by decide +kernel)) rfl
theorem e_57_5 : Df d 57 5 [.ref a, l1] st h nx = Df d 57 6 [.ref a, l1] (.ref a :: st) h nx := D_aload_n (ins_of mc_57 (pc := 5) (x := (.aload_n 0, 1)) (by decide +kernel)) rfl
theorem e_57_6 : Df d 57 6 [l0, l1] (.ref a :: st) h nx = (gF h a 5 2).bind fun v => Df d 57 9 [l0, l1] (v :: st) h nx := D_getfield (ins_of mc_57 (pc := 6) (x := (.getfield 19, 3)) (by decide +kernel)) mo_57 (by decide +kernel)
theorem e_57_9 : Df d 57 9 [l0, l1] (.int y :: .int x :: st) h nx = if y ≤ x then Df d 57 22 [l0, l1] st h nx else Df d 57 12 [l0, l1] st h nx := D_icmp_ge (ins_of mc_57 (pc := 9) (x := (.if_icmp .ge 13, 3)) (by decide +kernel)) (by decide)
theorem e_57_12 : Df d 57 12 [l0, .int x] st h nx = Df d 57 13 [l0, .int x] (.int x :: st) h nx := D_iload_n (ins_of mc_57 (pc := 12) (x := (.iload_n 1, 1)) (by decide +kernel)) rfl
theorem e_57_13 : Df d 57 13 [l0, l1] st h nx = Df d 57 15 [l0, l1] (.int 24 :: st) h nx := D_bipush (ins_of mc_57 (pc := 13) (x := (.bipush 24, 2)) (by decide +kernel)) (by decide)
theorem e_57_15 : Df d 57 15 [l0, l1] (.int y :: .int x :: st) h nx = if y ≤ x then Df d 57 22 [l0, l1] st h nx else Df d 57 18 [l0, l1] st h nx := D_icmp_ge (ins_of mc_57 (pc := 15) (x := (.if_icmp .ge 7, 3)) (by decide +kernel)) (by decide)
theorem e_57_18 : Df d 57 18 [l0, l1] st h nx = Df d 57 19 [l0, l1] (.int 1 :: st) h nx := D_iconst (ins_of mc_57 (pc := 18) (x := (.iconst 1, 1)) (by decide +kernel)) (by decide)
theorem e_57_19 : Df d 57 19 [l0, l1] st h nx = Df d 57 23 [l0, l1] st h nx := D_goto (ins_of mc_57 (pc := 19) (x := (.goto 4, 3)) (by decide +kernel)) (by decide)
theorem e_57_22 : Df d 57 22 [l0, l1] st h nx = Df d 57 23 [l0, l1] (.int 0 :: st) h nx := D_iconst (ins_of mc_57 (pc := 22) (x := (.iconst 0, 1)) (by decide +kernel)) (by decide)
theorem e_57_23 : Df d 57 23 [l0, l1] [.int x] h nx = if nR .boolean x = true then some (some (.int x), h, nx) else none := D_zreturn (ins_of mc_57 (pc := 23) (x := (.ireturn, 1)) (by decide +kernel)) mr_57
theorem mc_58 : mC 58 = prog_7_method_2_code := rfl
theorem mo_58 : mO 58 = 5 := rfl
theorem ml_58 : mL 58 = 4 := rfl
theorem mr_58 : mR 58 = none := rfl
theorem ma_58 : mA 58 = 2 := rfl
theorem e_58_0 : Df d 58 0 [.ref a, l1, l2, l3] st h nx = Df d 58 1 [.ref a, l1, l2, l3] (.ref a :: st) h nx := D_aload_n (ins_of mc_58 (pc := 0) (x := (.aload_n 0, 1)) (by decide +kernel)) rfl
theorem e_58_1 : Df d 58 1 [l0, .int x, l2, l3] st h nx = Df d 58 2 [l0, .int x, l2, l3] (.int x :: st) h nx := D_iload_n (ins_of mc_58 (pc := 1) (x := (.iload_n 1, 1)) (by decide +kernel)) rfl
theorem e_58_2 : Df d 58 2 [l0, l1, l2, l3] (.int x :: .ref a :: st) h nx = (pF h a 5 1 (.int x)).bind fun h => Df d 58 5 [l0, l1, l2, l3] st h nx := D_putfield (ins_of mc_58 (pc := 2) (x := (.putfield 15, 3)) (by decide +kernel)) mo_58 (by decide +kernel) rfl (Or.inl rfl)
theorem e_58_5 : Df d 58 5 [.ref a, l1, l2, l3] st h nx = Df d 58 6 [.ref a, l1, l2, l3] (.ref a :: st) h nx := D_aload_n (ins_of mc_58 (pc := 5) (x := (.aload_n 0, 1)) (by decide +kernel)) rfl
theorem e_58_6 : Df d 58 6 [l0, l1, .int x, l3] st h nx = Df d 58 7 [l0, l1, .int x, l3] (.int x :: st) h nx := D_iload_n (ins_of mc_58 (pc := 6) (x := (.iload_n 2, 1)) (by decide +kernel)) rfl
theorem e_58_7 : Df d 58 7 [l0, l1, l2, l3] (.int x :: .ref a :: st) h nx = (pF h a 5 2 (.int x)).bind fun h => Df d 58 10 [l0, l1, l2, l3] st h nx := D_putfield (ins_of mc_58 (pc := 7) (x := (.putfield 19, 3)) (by decide +kernel)) mo_58 (by decide +kernel) rfl (Or.inl rfl)
theorem e_58_10 : Df d 58 10 [l0, l1, l2, l3] st h nx = Df d 58 11 [l0, l1, l2, l3] (.int 0 :: st) h nx := D_iconst (ins_of mc_58 (pc := 10) (x := (.iconst 0, 1)) (by decide +kernel)) (by decide)
theorem e_58_11 (hn : nr l3 = true) : Df d 58 11 [l0, l1, l2, l3] (.int x :: st) h nx = Df d 58 12 [l0, l1, l2, .int x] st h nx := D_istore_n (ins_of mc_58 (pc := 11) (x := (.istore_n 3, 1)) (by decide +kernel)) rfl hn rfl
theorem e_58_12 : Df d 58 12 [l0, l1, l2, .int x] st h nx = Df d 58 13 [l0, l1, l2, .int x] (.int x :: st) h nx := D_iload_n (ins_of mc_58 (pc := 12) (x := (.iload_n 3, 1)) (by decide +kernel)) rfl
theorem e_58_13 : Df d 58 13 [l0, l1, l2, l3] st h nx = Df d 58 15 [l0, l1, l2, l3] (.int 24 :: st) h nx := D_bipush (ins_of mc_58 (pc := 13) (x := (.bipush 24, 2)) (by decide +kernel)) (by decide)
theorem e_58_15 : Df d 58 15 [l0, l1, l2, l3] (.int y :: .int x :: st) h nx = if y ≤ x then Df d 58 31 [l0, l1, l2, l3] st h nx else Df d 58 18 [l0, l1, l2, l3] st h nx := D_icmp_ge (ins_of mc_58 (pc := 15) (x := (.if_icmp .ge 16, 3)) (by decide +kernel)) (by decide)
theorem e_58_18 : Df d 58 18 [.ref a, l1, l2, l3] st h nx = Df d 58 19 [.ref a, l1, l2, l3] (.ref a :: st) h nx := D_aload_n (ins_of mc_58 (pc := 18) (x := (.aload_n 0, 1)) (by decide +kernel)) rfl
theorem e_58_19 : Df d 58 19 [l0, l1, l2, l3] (.ref a :: st) h nx = (gF h a 5 0).bind fun v => Df d 58 22 [l0, l1, l2, l3] (v :: st) h nx := D_getfield (ins_of mc_58 (pc := 19) (x := (.getfield 9, 3)) (by decide +kernel)) mo_58 (by decide +kernel)
theorem e_58_22 : Df d 58 22 [l0, l1, l2, .int x] st h nx = Df d 58 23 [l0, l1, l2, .int x] (.int x :: st) h nx := D_iload_n (ins_of mc_58 (pc := 22) (x := (.iload_n 3, 1)) (by decide +kernel)) rfl
theorem e_58_23 : Df d 58 23 [l0, l1, l2, l3] st h nx = Df d 58 24 [l0, l1, l2, l3] (.int 0 :: st) h nx := D_iconst (ins_of mc_58 (pc := 23) (x := (.iconst 0, 1)) (by decide +kernel)) (by decide)
theorem e_58_24 : Df d 58 24 [l0, l1, l2, l3] (.int y :: .int x :: .ref a :: st) h nx = (wI h a x 0 y).bind fun h => Df d 58 25 [l0, l1, l2, l3] st h nx := D_iastore (ins_of mc_58 (pc := 24) (x := (.iastore, 1)) (by decide +kernel))
theorem e_58_25 : Df d 58 25 [l0, l1, l2, .int x] st h nx = Df d 58 28 [l0, l1, l2, .int (x + 1)] st h nx := D_iinc (ins_of mc_58 (pc := 25) (x := (.iinc 3 1, 3)) (by decide +kernel)) rfl (by decide) rfl
theorem e_58_28 : Df d 58 28 [l0, l1, l2, l3] st h nx = Df d 58 12 [l0, l1, l2, l3] st h nx := D_goto (ins_of mc_58 (pc := 28) (x := (.goto (-16), 3)) (by decide +kernel)) (by decide)
theorem e_58_31 : Df d 58 31 [l0, l1, l2, l3] [] h nx = some (none, h, nx) := D_return (ins_of mc_58 (pc := 31) (x := (.return_, 1)) (by decide +kernel)) mr_58
theorem mc_59 : mC 59 = prog_7_method_6_code := rfl
theorem mo_59 : mO 59 = 5 := rfl
theorem ml_59 : mL 59 = 3 := rfl
theorem mr_59 : mR 59 = (some .boolean) := rfl
theorem ma_59 : mA 59 = 2 := rfl
theorem e_59_0 : Df d 59 0 [l0, .int x, l2] st h nx = Df d 59 1 [l0, .int x, l2] (.int x :: st) h nx := D_iload_n (ins_of mc_59 (pc := 0) (x := (.iload_n 1, 1)) (by decide +kernel)) rfl
theorem e_59_1 : Df d 59 1 [l0, l1, l2] (.int x :: st) h nx = if x < 0 then Df d 59 30 [l0, l1, l2] st h nx else Df d 59 4 [l0, l1, l2] st h nx := D_if_lt (ins_of mc_59 (pc := 1) (x := (.ifCond .lt 29, 3)) (by decide +kernel)) (by decide)
theorem e_59_4 : Df d 59 4 [l0, l1, .int x] st h nx = Df d 59 5 [l0, l1, .int x] (.int x :: st) h nx := D_iload_n (ins_of mc_59 (pc := 4) (x := (.iload_n 2, 1)) (by decide +kernel)) rfl
theorem e_59_5 : Df d 59 5 [l0, l1, l2] (.int x :: st) h nx = if x < 0 then Df d 59 30 [l0, l1, l2] st h nx else Df d 59 8 [l0, l1, l2] st h nx := D_if_lt (ins_of mc_59 (pc := 5) (x := (.ifCond .lt 25, 3)) (by decide +kernel)) (by decide)
theorem e_59_8 : Df d 59 8 [l0, l1, .int x] st h nx = Df d 59 9 [l0, l1, .int x] (.int x :: st) h nx := D_iload_n (ins_of mc_59 (pc := 8) (x := (.iload_n 2, 1)) (by decide +kernel)) rfl
theorem e_59_9 : Df d 59 9 [.ref a, l1, l2] st h nx = Df d 59 10 [.ref a, l1, l2] (.ref a :: st) h nx := D_aload_n (ins_of mc_59 (pc := 9) (x := (.aload_n 0, 1)) (by decide +kernel)) rfl
theorem e_59_10 : Df d 59 10 [l0, l1, l2] (.ref a :: st) h nx = (gF h a 5 2).bind fun v => Df d 59 13 [l0, l1, l2] (v :: st) h nx := D_getfield (ins_of mc_59 (pc := 10) (x := (.getfield 19, 3)) (by decide +kernel)) mo_59 (by decide +kernel)
theorem e_59_13 : Df d 59 13 [l0, l1, l2] (.int y :: .int x :: st) h nx = if y < x then Df d 59 30 [l0, l1, l2] st h nx else Df d 59 16 [l0, l1, l2] st h nx := D_icmp_gt (ins_of mc_59 (pc := 13) (x := (.if_icmp .gt 17, 3)) (by decide +kernel)) (by decide)
theorem e_59_16 : Df d 59 16 [l0, .int x, l2] st h nx = Df d 59 17 [l0, .int x, l2] (.int x :: st) h nx := D_iload_n (ins_of mc_59 (pc := 16) (x := (.iload_n 1, 1)) (by decide +kernel)) rfl
theorem e_59_17 : Df d 59 17 [.ref a, l1, l2] st h nx = Df d 59 18 [.ref a, l1, l2] (.ref a :: st) h nx := D_aload_n (ins_of mc_59 (pc := 17) (x := (.aload_n 0, 1)) (by decide +kernel)) rfl
theorem e_59_18 : Df d 59 18 [l0, l1, l2] (.ref a :: st) h nx = (gF h a 5 2).bind fun v => Df d 59 21 [l0, l1, l2] (v :: st) h nx := D_getfield (ins_of mc_59 (pc := 18) (x := (.getfield 19, 3)) (by decide +kernel)) mo_59 (by decide +kernel)
theorem e_59_21 : Df d 59 21 [l0, l1, .int x] st h nx = Df d 59 22 [l0, l1, .int x] (.int x :: st) h nx := D_iload_n (ins_of mc_59 (pc := 21) (x := (.iload_n 2, 1)) (by decide +kernel)) rfl
theorem e_59_22 : Df d 59 22 [l0, l1, l2] (.int y :: .int x :: st) h nx = Df d 59 23 [l0, l1, l2] (.int (x - y) :: st) h nx := D_isub (ins_of mc_59 (pc := 22) (x := (.isub, 1)) (by decide +kernel))
theorem e_59_23 : Df d 59 23 [l0, l1, l2] (.int y :: .int x :: st) h nx = if y < x then Df d 59 30 [l0, l1, l2] st h nx else Df d 59 26 [l0, l1, l2] st h nx := D_icmp_gt (ins_of mc_59 (pc := 23) (x := (.if_icmp .gt 7, 3)) (by decide +kernel)) (by decide)
theorem e_59_26 : Df d 59 26 [l0, l1, l2] st h nx = Df d 59 27 [l0, l1, l2] (.int 1 :: st) h nx := D_iconst (ins_of mc_59 (pc := 26) (x := (.iconst 1, 1)) (by decide +kernel)) (by decide)
theorem e_59_27 : Df d 59 27 [l0, l1, l2] st h nx = Df d 59 31 [l0, l1, l2] st h nx := D_goto (ins_of mc_59 (pc := 27) (x := (.goto 4, 3)) (by decide +kernel)) (by decide)
theorem e_59_30 : Df d 59 30 [l0, l1, l2] st h nx = Df d 59 31 [l0, l1, l2] (.int 0 :: st) h nx := D_iconst (ins_of mc_59 (pc := 30) (x := (.iconst 0, 1)) (by decide +kernel)) (by decide)
theorem e_59_31 : Df d 59 31 [l0, l1, l2] [.int x] h nx = if nR .boolean x = true then some (some (.int x), h, nx) else none := D_zreturn (ins_of mc_59 (pc := 31) (x := (.ireturn, 1)) (by decide +kernel)) mr_59
theorem mc_60 : mC 60 = prog_7_method_3_code := rfl
theorem mo_60 : mO 60 = 5 := rfl
theorem ml_60 : mL 60 = 2 := rfl
theorem mr_60 : mR 60 = none := rfl
theorem ma_60 : mA 60 = 1 := rfl
theorem e_60_0 : Df d 60 0 [l0, .ref a] st h nx = Df d 60 1 [l0, .ref a] (.ref a :: st) h nx := D_aload_n (ins_of mc_60 (pc := 0) (x := (.aload_n 1, 1)) (by decide +kernel)) rfl
theorem e_60_1 : Df d 60 1 [l0, l1] (.ref a :: st) h nx = (gF h a 5 0).bind fun v => Df d 60 4 [l0, l1] (v :: st) h nx := D_getfield (ins_of mc_60 (pc := 1) (x := (.getfield 9, 3)) (by decide +kernel)) mo_60 (by decide +kernel)
theorem e_60_4 : Df d 60 4 [l0, l1] st h nx = Df d 60 5 [l0, l1] (.int 0 :: st) h nx := D_iconst (ins_of mc_60 (pc := 4) (x := (.iconst 0, 1)) (by decide +kernel)) (by decide)
theorem e_60_5 : Df d 60 5 [.ref a, l1] st h nx = Df d 60 6 [.ref a, l1] (.ref a :: st) h nx := D_aload_n (ins_of mc_60 (pc := 5) (x := (.aload_n 0, 1)) (by decide +kernel)) rfl
theorem e_60_6 : Df d 60 6 [l0, l1] (.ref a :: st) h nx = (gF h a 5 0).bind fun v => Df d 60 9 [l0, l1] (v :: st) h nx := D_getfield (ins_of mc_60 (pc := 6) (x := (.getfield 9, 3)) (by decide +kernel)) mo_60 (by decide +kernel)
theorem e_60_9 : Df d 60 9 [l0, l1] st h nx = Df d 60 10 [l0, l1] (.int 0 :: st) h nx := D_iconst (ins_of mc_60 (pc := 9) (x := (.iconst 0, 1)) (by decide +kernel)) (by decide)
theorem e_60_10 : Df d 60 10 [l0, l1] st h nx = Df d 60 12 [l0, l1] (.int 24 :: st) h nx := D_bipush (ins_of mc_60 (pc := 10) (x := (.bipush 24, 2)) (by decide +kernel)) (by decide)
theorem e_60_12 : Df d 60 12 [l0, l1] [.int z, .int y, .ref b, .int x, .ref a] h nx = (cpA h a b x y z).bind fun h => Df d 60 15 [l0, l1] [] h nx := D_arraycopy (k1 := 0) (ins_of mc_60 (pc := 12) (x := (.invokestatic 22, 3)) (by decide +kernel)) mo_60 (by decide +kernel) (Nat.le_of_ble_eq_true rfl)
theorem e_60_15 : Df d 60 15 [.ref a, l1] st h nx = Df d 60 16 [.ref a, l1] (.ref a :: st) h nx := D_aload_n (ins_of mc_60 (pc := 15) (x := (.aload_n 0, 1)) (by decide +kernel)) rfl
theorem e_60_16 : Df d 60 16 [l0, .ref a] st h nx = Df d 60 17 [l0, .ref a] (.ref a :: st) h nx := D_aload_n (ins_of mc_60 (pc := 16) (x := (.aload_n 1, 1)) (by decide +kernel)) rfl
theorem e_60_17 : Df d 60 17 [l0, l1] (.ref a :: st) h nx = (gF h a 5 1).bind fun v => Df d 60 20 [l0, l1] (v :: st) h nx := D_getfield (ins_of mc_60 (pc := 17) (x := (.getfield 15, 3)) (by decide +kernel)) mo_60 (by decide +kernel)
theorem e_60_20 : Df d 60 20 [l0, l1] (.int x :: .ref a :: st) h nx = (pF h a 5 1 (.int x)).bind fun h => Df d 60 23 [l0, l1] st h nx := D_putfield (ins_of mc_60 (pc := 20) (x := (.putfield 15, 3)) (by decide +kernel)) mo_60 (by decide +kernel) rfl (Or.inl rfl)
theorem e_60_23 : Df d 60 23 [.ref a, l1] st h nx = Df d 60 24 [.ref a, l1] (.ref a :: st) h nx := D_aload_n (ins_of mc_60 (pc := 23) (x := (.aload_n 0, 1)) (by decide +kernel)) rfl
theorem e_60_24 : Df d 60 24 [l0, .ref a] st h nx = Df d 60 25 [l0, .ref a] (.ref a :: st) h nx := D_aload_n (ins_of mc_60 (pc := 24) (x := (.aload_n 1, 1)) (by decide +kernel)) rfl
theorem e_60_25 : Df d 60 25 [l0, l1] (.ref a :: st) h nx = (gF h a 5 2).bind fun v => Df d 60 28 [l0, l1] (v :: st) h nx := D_getfield (ins_of mc_60 (pc := 25) (x := (.getfield 19, 3)) (by decide +kernel)) mo_60 (by decide +kernel)
theorem e_60_28 : Df d 60 28 [l0, l1] (.int x :: .ref a :: st) h nx = (pF h a 5 2 (.int x)).bind fun h => Df d 60 31 [l0, l1] st h nx := D_putfield (ins_of mc_60 (pc := 28) (x := (.putfield 19, 3)) (by decide +kernel)) mo_60 (by decide +kernel) rfl (Or.inl rfl)
theorem e_60_31 : Df d 60 31 [l0, l1] [] h nx = some (none, h, nx) := D_return (ins_of mc_60 (pc := 31) (x := (.return_, 1)) (by decide +kernel)) mr_60
theorem mc_61 : mC 61 = prog_8_method_1_code := rfl
theorem mo_61 : mO 61 = 6 := rfl
theorem ml_61 : mL 61 = 1 := rfl
theorem mr_61 : mR 61 = none := rfl
theorem ma_61 : mA 61 = 0 := rfl
theorem e_61_0 : Df d 61 0 [.ref a] st h nx = Df d 61 1 [.ref a] (.ref a :: st) h nx := D_aload_n (ins_of mc_61 (pc := 0) (x := (.aload_n 0, 1)) (by decide +kernel)) rfl
theorem e_61_1 : Df d 61 1 [l0] [.ref a] h nx = Df d 61 4 [l0] [] h nx := D_objinit (k1 := 0) (ins_of mc_61 (pc := 1) (x := (.invokespecial 3, 3)) (by decide +kernel)) mo_61 (by decide +kernel) (Nat.le_of_ble_eq_true rfl)
theorem e_61_4 : Df d 61 4 [.ref a] st h nx = Df d 61 5 [.ref a] (.ref a :: st) h nx := D_aload_n (ins_of mc_61 (pc := 4) (x := (.aload_n 0, 1)) (by decide +kernel)) rfl
theorem e_61_5 : Df d 61 5 [l0] st h nx = Df d 61 8 [l0] (.ref (16 + nx.1) :: st) (put h (16 + nx.1) (.inr (7, dfl 7))) (nx.1 + 1, nx.2 + 6) := D_new (ins_of mc_61 (pc := 5) (x := (.new 9, 3)) (by decide +kernel)) mo_61 (by decide +kernel)
theorem e_61_8 (hv : v0.category = 1) : Df d 61 8 [l0] (v0 :: st) h nx = Df d 61 9 [l0] (v0 :: v0 :: st) h nx := D_dup (ins_of mc_61 (pc := 8) (x := (.dup, 1)) (by decide +kernel)) hv
theorem e_61_9 : Df d 61 9 [l0] [.ref a, s0, s1] h nx = cn d 61 12 [l0] [s0, s1] (Dn d 62 [.ref a] h nx) := D_special (k1 := 62) (kd := 4) (ins_of mc_61 (pc := 9) (x := (.invokespecial 11, 3)) (by decide +kernel)) mo_61 (by decide +kernel) (by decide) rfl rfl (Nat.le_of_ble_eq_true rfl) rfl
theorem e_61_12 : Df d 61 12 [l0] (.ref b :: .ref a :: st) h nx = (pF h a 6 0 (.ref b)).bind fun h => Df d 61 15 [l0] st h nx := D_putfield (ins_of mc_61 (pc := 12) (x := (.putfield 12, 3)) (by decide +kernel)) mo_61 (by decide +kernel) rfl (Or.inr ⟨by decide +kernel, rfl⟩)
theorem e_61_15 : Df d 61 15 [.ref a] st h nx = Df d 61 16 [.ref a] (.ref a :: st) h nx := D_aload_n (ins_of mc_61 (pc := 15) (x := (.aload_n 0, 1)) (by decide +kernel)) rfl
theorem e_61_16 : Df d 61 16 [l0] st h nx = Df d 61 19 [l0] (.ref (16 + nx.1) :: st) (put h (16 + nx.1) (.inr (5, dfl 5))) (nx.1 + 1, nx.2 + 3) := D_new (ins_of mc_61 (pc := 16) (x := (.new 18, 3)) (by decide +kernel)) mo_61 (by decide +kernel)
theorem e_61_19 (hv : v0.category = 1) : Df d 61 19 [l0] (v0 :: st) h nx = Df d 61 20 [l0] (v0 :: v0 :: st) h nx := D_dup (ins_of mc_61 (pc := 19) (x := (.dup, 1)) (by decide +kernel)) hv
theorem e_61_20 : Df d 61 20 [l0] [.ref a, s0, s1] h nx = cn d 61 23 [l0] [s0, s1] (Dn d 55 [.ref a] h nx) := D_special (k1 := 55) (kd := 4) (ins_of mc_61 (pc := 20) (x := (.invokespecial 20, 3)) (by decide +kernel)) mo_61 (by decide +kernel) (by decide) rfl rfl (Nat.le_of_ble_eq_true rfl) rfl
theorem e_61_23 : Df d 61 23 [l0] (.ref b :: .ref a :: st) h nx = (pF h a 6 1 (.ref b)).bind fun h => Df d 61 26 [l0] st h nx := D_putfield (ins_of mc_61 (pc := 23) (x := (.putfield 21, 3)) (by decide +kernel)) mo_61 (by decide +kernel) rfl (Or.inr ⟨by decide +kernel, rfl⟩)
theorem e_61_26 : Df d 61 26 [.ref a] st h nx = Df d 61 27 [.ref a] (.ref a :: st) h nx := D_aload_n (ins_of mc_61 (pc := 26) (x := (.aload_n 0, 1)) (by decide +kernel)) rfl
theorem e_61_27 : Df d 61 27 [l0] st h nx = Df d 61 28 [l0] (.int 0 :: st) h nx := D_iconst (ins_of mc_61 (pc := 27) (x := (.iconst 0, 1)) (by decide +kernel)) (by decide)
theorem e_61_28 : Df d 61 28 [l0] (.int x :: .ref a :: st) h nx = (pF h a 6 2 (.int x)).bind fun h => Df d 61 31 [l0] st h nx := D_putfield (ins_of mc_61 (pc := 28) (x := (.putfield 25, 3)) (by decide +kernel)) mo_61 (by decide +kernel) rfl (Or.inl rfl)
theorem e_61_31 : Df d 61 31 [.ref a] st h nx = Df d 61 32 [.ref a] (.ref a :: st) h nx := D_aload_n (ins_of mc_61 (pc := 31) (x := (.aload_n 0, 1)) (by decide +kernel)) rfl
theorem e_61_32 : Df d 61 32 [l0] st h nx = Df d 61 33 [l0] (.int 0 :: st) h nx := D_iconst (ins_of mc_61 (pc := 32) (x := (.iconst 0, 1)) (by decide +kernel)) (by decide)
theorem e_61_33 : Df d 61 33 [l0] (.int x :: .ref a :: st) h nx = (pF h a 6 3 (.int x)).bind fun h => Df d 61 36 [l0] st h nx := D_putfield (ins_of mc_61 (pc := 33) (x := (.putfield 29, 3)) (by decide +kernel)) mo_61 (by decide +kernel) rfl (Or.inl rfl)
theorem e_61_36 : Df d 61 36 [l0] [] h nx = some (none, h, nx) := D_return (ins_of mc_61 (pc := 36) (x := (.return_, 1)) (by decide +kernel)) mr_61
theorem mc_62 : mC 62 = prog_9_method_1_code := rfl
theorem mo_62 : mO 62 = 7 := rfl
theorem ml_62 : mL 62 = 1 := rfl
theorem mr_62 : mR 62 = none := rfl
theorem ma_62 : mA 62 = 0 := rfl
theorem e_62_0 : Df d 62 0 [.ref a] st h nx = Df d 62 1 [.ref a] (.ref a :: st) h nx := D_aload_n (ins_of mc_62 (pc := 0) (x := (.aload_n 0, 1)) (by decide +kernel)) rfl
theorem e_62_1 : Df d 62 1 [l0] [.ref a] h nx = Df d 62 4 [l0] [] h nx := D_objinit (k1 := 0) (ins_of mc_62 (pc := 1) (x := (.invokespecial 3, 3)) (by decide +kernel)) mo_62 (by decide +kernel) (Nat.le_of_ble_eq_true rfl)
theorem e_62_4 : Df d 62 4 [.ref a] st h nx = Df d 62 5 [.ref a] (.ref a :: st) h nx := D_aload_n (ins_of mc_62 (pc := 4) (x := (.aload_n 0, 1)) (by decide +kernel)) rfl
theorem e_62_5 : Df d 62 5 [l0] st h nx = Df d 62 6 [l0] (.int 0 :: st) h nx := D_iconst (ins_of mc_62 (pc := 5) (x := (.iconst 0, 1)) (by decide +kernel)) (by decide)
theorem e_62_6 : Df d 62 6 [l0] (.int x :: .ref a :: st) h nx = (pF h a 7 0 (.int x)).bind fun h => Df d 62 9 [l0] st h nx := D_putfield (ins_of mc_62 (pc := 6) (x := (.putfield 9, 3)) (by decide +kernel)) mo_62 (by decide +kernel) rfl (Or.inl rfl)
theorem e_62_9 : Df d 62 9 [.ref a] st h nx = Df d 62 10 [.ref a] (.ref a :: st) h nx := D_aload_n (ins_of mc_62 (pc := 9) (x := (.aload_n 0, 1)) (by decide +kernel)) rfl
theorem e_62_10 : Df d 62 10 [l0] st h nx = Df d 62 11 [l0] (.int 0 :: st) h nx := D_iconst (ins_of mc_62 (pc := 10) (x := (.iconst 0, 1)) (by decide +kernel)) (by decide)
theorem e_62_11 : Df d 62 11 [l0] (.int x :: .ref a :: st) h nx = (pF h a 7 1 (.int x)).bind fun h => Df d 62 14 [l0] st h nx := D_putfield (ins_of mc_62 (pc := 11) (x := (.putfield 15, 3)) (by decide +kernel)) mo_62 (by decide +kernel) rfl (Or.inl rfl)
theorem e_62_14 : Df d 62 14 [.ref a] st h nx = Df d 62 15 [.ref a] (.ref a :: st) h nx := D_aload_n (ins_of mc_62 (pc := 14) (x := (.aload_n 0, 1)) (by decide +kernel)) rfl
theorem e_62_15 : Df d 62 15 [l0] st h nx = Df d 62 16 [l0] (.int 0 :: st) h nx := D_iconst (ins_of mc_62 (pc := 15) (x := (.iconst 0, 1)) (by decide +kernel)) (by decide)
theorem e_62_16 : Df d 62 16 [l0] (.int x :: .ref a :: st) h nx = (pF h a 7 2 (.int x)).bind fun h => Df d 62 19 [l0] st h nx := D_putfield (ins_of mc_62 (pc := 16) (x := (.putfield 18, 3)) (by decide +kernel)) mo_62 (by decide +kernel) rfl (Or.inl rfl)
theorem e_62_19 : Df d 62 19 [.ref a] st h nx = Df d 62 20 [.ref a] (.ref a :: st) h nx := D_aload_n (ins_of mc_62 (pc := 19) (x := (.aload_n 0, 1)) (by decide +kernel)) rfl
theorem e_62_20 : Df d 62 20 [l0] st h nx = Df d 62 22 [l0] (.int 24 :: st) h nx := D_bipush (ins_of mc_62 (pc := 20) (x := (.bipush 24, 2)) (by decide +kernel)) (by decide)
theorem e_62_22 : Df d 62 22 [l0] (.int x :: .ref a :: st) h nx = (pF h a 7 3 (.int x)).bind fun h => Df d 62 25 [l0] st h nx := D_putfield (ins_of mc_62 (pc := 22) (x := (.putfield 21, 3)) (by decide +kernel)) mo_62 (by decide +kernel) rfl (Or.inl rfl)
theorem e_62_25 : Df d 62 25 [.ref a] st h nx = Df d 62 26 [.ref a] (.ref a :: st) h nx := D_aload_n (ins_of mc_62 (pc := 25) (x := (.aload_n 0, 1)) (by decide +kernel)) rfl
theorem e_62_26 : Df d 62 26 [l0] st h nx = Df d 62 27 [l0] (.int 0 :: st) h nx := D_iconst (ins_of mc_62 (pc := 26) (x := (.iconst 0, 1)) (by decide +kernel)) (by decide)
theorem e_62_27 : Df d 62 27 [l0] (.int x :: .ref a :: st) h nx = (pF h a 7 4 (.int x)).bind fun h => Df d 62 30 [l0] st h nx := D_putfield (ins_of mc_62 (pc := 27) (x := (.putfield 24, 3)) (by decide +kernel)) mo_62 (by decide +kernel) rfl (Or.inl rfl)
theorem e_62_30 : Df d 62 30 [.ref a] st h nx = Df d 62 31 [.ref a] (.ref a :: st) h nx := D_aload_n (ins_of mc_62 (pc := 30) (x := (.aload_n 0, 1)) (by decide +kernel)) rfl
theorem e_62_31 : Df d 62 31 [l0] st h nx = Df d 62 32 [l0] (.int 1 :: st) h nx := D_iconst (ins_of mc_62 (pc := 31) (x := (.iconst 1, 1)) (by decide +kernel)) (by decide)
theorem e_62_32 : Df d 62 32 [l0] (.int x :: .ref a :: st) h nx = if x = 0 ∨ x = 1 then (pF h a 7 5 (.int x)).bind fun h => Df d 62 35 [l0] st h nx else none := D_putbool (ins_of mc_62 (pc := 32) (x := (.putfield 27, 3)) (by decide +kernel)) mo_62 (by decide +kernel) rfl (Or.inl rfl)
theorem e_62_35 : Df d 62 35 [l0] [] h nx = some (none, h, nx) := D_return (ins_of mc_62 (pc := 35) (x := (.return_, 1)) (by decide +kernel)) mr_62
theorem mc_63 : mC 63 = prog_9_method_2_code := rfl
theorem mo_63 : mO 63 = 7 := rfl
theorem ml_63 : mL 63 = 4 := rfl
theorem mr_63 : mR 63 = none := rfl
theorem ma_63 : mA 63 = 3 := rfl
theorem e_63_0 : Df d 63 0 [.ref a, l1, l2, l3] st h nx = Df d 63 1 [.ref a, l1, l2, l3] (.ref a :: st) h nx := D_aload_n (ins_of mc_63 (pc := 0) (x := (.aload_n 0, 1)) (by decide +kernel)) rfl
theorem e_63_1 : Df d 63 1 [l0, .int x, l2, l3] st h nx = Df d 63 2 [l0, .int x, l2, l3] (.int x :: st) h nx := D_iload_n (ins_of mc_63 (pc := 1) (x := (.iload_n 1, 1)) (by decide +kernel)) rfl
theorem e_63_2 : Df d 63 2 [l0, l1, l2, l3] (.int x :: .ref a :: st) h nx = (pF h a 7 0 (.int x)).bind fun h => Df d 63 5 [l0, l1, l2, l3] st h nx := D_putfield (ins_of mc_63 (pc := 2) (x := (.putfield 9, 3)) (by decide +kernel)) mo_63 (by decide +kernel) rfl (Or.inl rfl)
theorem e_63_5 : Df d 63 5 [.ref a, l1, l2, l3] st h nx = Df d 63 6 [.ref a, l1, l2, l3] (.ref a :: st) h nx := D_aload_n (ins_of mc_63 (pc := 5) (x := (.aload_n 0, 1)) (by decide +kernel)) rfl
theorem e_63_6 : Df d 63 6 [l0, l1, l2, l3] st h nx = Df d 63 7 [l0, l1, l2, l3] (.int 0 :: st) h nx := D_iconst (ins_of mc_63 (pc := 6) (x := (.iconst 0, 1)) (by decide +kernel)) (by decide)
theorem e_63_7 : Df d 63 7 [l0, l1, l2, l3] (.int x :: .ref a :: st) h nx = (pF h a 7 1 (.int x)).bind fun h => Df d 63 10 [l0, l1, l2, l3] st h nx := D_putfield (ins_of mc_63 (pc := 7) (x := (.putfield 15, 3)) (by decide +kernel)) mo_63 (by decide +kernel) rfl (Or.inl rfl)
theorem e_63_10 : Df d 63 10 [.ref a, l1, l2, l3] st h nx = Df d 63 11 [.ref a, l1, l2, l3] (.ref a :: st) h nx := D_aload_n (ins_of mc_63 (pc := 10) (x := (.aload_n 0, 1)) (by decide +kernel)) rfl
theorem e_63_11 : Df d 63 11 [l0, l1, .int x, l3] st h nx = Df d 63 12 [l0, l1, .int x, l3] (.int x :: st) h nx := D_iload_n (ins_of mc_63 (pc := 11) (x := (.iload_n 2, 1)) (by decide +kernel)) rfl
theorem e_63_12 : Df d 63 12 [l0, l1, l2, l3] (.int x :: .ref a :: st) h nx = (pF h a 7 2 (.int x)).bind fun h => Df d 63 15 [l0, l1, l2, l3] st h nx := D_putfield (ins_of mc_63 (pc := 12) (x := (.putfield 18, 3)) (by decide +kernel)) mo_63 (by decide +kernel) rfl (Or.inl rfl)
theorem e_63_15 : Df d 63 15 [.ref a, l1, l2, l3] st h nx = Df d 63 16 [.ref a, l1, l2, l3] (.ref a :: st) h nx := D_aload_n (ins_of mc_63 (pc := 15) (x := (.aload_n 0, 1)) (by decide +kernel)) rfl
theorem e_63_16 : Df d 63 16 [l0, l1, l2, .int x] st h nx = Df d 63 17 [l0, l1, l2, .int x] (.int x :: st) h nx := D_iload_n (ins_of mc_63 (pc := 16) (x := (.iload_n 3, 1)) (by decide +kernel)) rfl
theorem e_63_17 : Df d 63 17 [l0, l1, l2, l3] (.int x :: .ref a :: st) h nx = (pF h a 7 3 (.int x)).bind fun h => Df d 63 20 [l0, l1, l2, l3] st h nx := D_putfield (ins_of mc_63 (pc := 17) (x := (.putfield 21, 3)) (by decide +kernel)) mo_63 (by decide +kernel) rfl (Or.inl rfl)
theorem e_63_20 : Df d 63 20 [.ref a, l1, l2, l3] st h nx = Df d 63 21 [.ref a, l1, l2, l3] (.ref a :: st) h nx := D_aload_n (ins_of mc_63 (pc := 20) (x := (.aload_n 0, 1)) (by decide +kernel)) rfl
theorem e_63_21 : Df d 63 21 [l0, l1, l2, l3] st h nx = Df d 63 22 [l0, l1, l2, l3] (.int 0 :: st) h nx := D_iconst (ins_of mc_63 (pc := 21) (x := (.iconst 0, 1)) (by decide +kernel)) (by decide)
theorem e_63_22 : Df d 63 22 [l0, l1, l2, l3] (.int x :: .ref a :: st) h nx = (pF h a 7 4 (.int x)).bind fun h => Df d 63 25 [l0, l1, l2, l3] st h nx := D_putfield (ins_of mc_63 (pc := 22) (x := (.putfield 24, 3)) (by decide +kernel)) mo_63 (by decide +kernel) rfl (Or.inl rfl)
theorem e_63_25 : Df d 63 25 [.ref a, l1, l2, l3] st h nx = Df d 63 26 [.ref a, l1, l2, l3] (.ref a :: st) h nx := D_aload_n (ins_of mc_63 (pc := 25) (x := (.aload_n 0, 1)) (by decide +kernel)) rfl
theorem e_63_26 : Df d 63 26 [l0, l1, l2, l3] st h nx = Df d 63 27 [l0, l1, l2, l3] (.int 1 :: st) h nx := D_iconst (ins_of mc_63 (pc := 26) (x := (.iconst 1, 1)) (by decide +kernel)) (by decide)
theorem e_63_27 : Df d 63 27 [l0, l1, l2, l3] (.int x :: .ref a :: st) h nx = if x = 0 ∨ x = 1 then (pF h a 7 5 (.int x)).bind fun h => Df d 63 30 [l0, l1, l2, l3] st h nx else none := D_putbool (ins_of mc_63 (pc := 27) (x := (.putfield 27, 3)) (by decide +kernel)) mo_63 (by decide +kernel) rfl (Or.inl rfl)
theorem e_63_30 : Df d 63 30 [l0, l1, l2, l3] [] h nx = some (none, h, nx) := D_return (ins_of mc_63 (pc := 30) (x := (.return_, 1)) (by decide +kernel)) mr_63
theorem mc_64 : mC 64 = prog_9_method_5_code := rfl
theorem mo_64 : mO 64 = 7 := rfl
theorem ml_64 : mL 64 = 1 := rfl
theorem mr_64 : mR 64 = (some .int) := rfl
theorem ma_64 : mA 64 = 0 := rfl
theorem e_64_0 : Df d 64 0 [.ref a] st h nx = Df d 64 1 [.ref a] (.ref a :: st) h nx := D_aload_n (ins_of mc_64 (pc := 0) (x := (.aload_n 0, 1)) (by decide +kernel)) rfl
theorem e_64_1 : Df d 64 1 [l0] (.ref a :: st) h nx = (gF h a 7 0).bind fun v => Df d 64 4 [l0] (v :: st) h nx := D_getfield (ins_of mc_64 (pc := 1) (x := (.getfield 9, 3)) (by decide +kernel)) mo_64 (by decide +kernel)
theorem e_64_4 : Df d 64 4 [l0] (.int x :: st) h nx = if x = 1 then Df d 64 40 [l0] st h nx else if x = 2 then Df d 64 44 [l0] st h nx else if x = 3 then Df d 64 42 [l0] st h nx else if x = 4 then Df d 64 47 [l0] st h nx else if x = 5 then Df d 64 50 [l0] st h nx else Df d 64 53 [l0] st h nx := by
  have hi := (ins_of mc_64 (pc := 4) (x := (.tableswitch 49 1 5 #[36, 40, 38, 43, 46], 36)) (by decide +kernel))
  by_cases q0 : x = 1
  · subst q0
    rw [if_pos rfl]
    exact D_tswI (off := 36) hi (by decide) (by decide) (by decide)
  rw [if_neg q0]
  by_cases q1 : x = 2
  · subst q1
    rw [if_pos rfl]
    exact D_tswI (off := 40) hi (by decide) (by decide) (by decide)
  rw [if_neg q1]
  by_cases q2 : x = 3
  · subst q2
    rw [if_pos rfl]
    exact D_tswI (off := 38) hi (by decide) (by decide) (by decide)
  rw [if_neg q2]
  by_cases q3 : x = 4
  · subst q3
    rw [if_pos rfl]
    exact D_tswI (off := 43) hi (by decide) (by decide) (by decide)
  rw [if_neg q3]
  by_cases q4 : x = 5
  · subst q4
    rw [if_pos rfl]
    exact D_tswI (off := 46) hi (by decide) (by decide) (by decide)
  rw [if_neg q4]
  have r0 : x.toInt ≠ 1 := fun z => q0 (Int32.toInt_inj.mp (z.trans (by decide)))
  have r1 : x.toInt ≠ 2 := fun z => q1 (Int32.toInt_inj.mp (z.trans (by decide)))
  have r2 : x.toInt ≠ 3 := fun z => q2 (Int32.toInt_inj.mp (z.trans (by decide)))
  have r3 : x.toInt ≠ 4 := fun z => q3 (Int32.toInt_inj.mp (z.trans (by decide)))
  have r4 : x.toInt ≠ 5 := fun z => q4 (Int32.toInt_inj.mp (z.trans (by decide)))
  exact D_tswO hi (by omega) (by decide)
theorem e_64_40 : Df d 64 40 [l0] st h nx = Df d 64 41 [l0] (.int 4 :: st) h nx := D_iconst (ins_of mc_64 (pc := 40) (x := (.iconst 4, 1)) (by decide +kernel)) (by decide)
theorem e_64_41 : Df d 64 41 [l0] [.int x] h nx = some (some (.int x), h, nx) := D_ireturn (ins_of mc_64 (pc := 41) (x := (.ireturn, 1)) (by decide +kernel)) mr_64
theorem e_64_42 : Df d 64 42 [l0] st h nx = Df d 64 43 [l0] (.int 4 :: st) h nx := D_iconst (ins_of mc_64 (pc := 42) (x := (.iconst 4, 1)) (by decide +kernel)) (by decide)
theorem e_64_43 : Df d 64 43 [l0] [.int x] h nx = some (some (.int x), h, nx) := D_ireturn (ins_of mc_64 (pc := 43) (x := (.ireturn, 1)) (by decide +kernel)) mr_64
theorem e_64_44 : Df d 64 44 [l0] st h nx = Df d 64 46 [l0] (.int 6 :: st) h nx := D_bipush (ins_of mc_64 (pc := 44) (x := (.bipush 6, 2)) (by decide +kernel)) (by decide)
theorem e_64_46 : Df d 64 46 [l0] [.int x] h nx = some (some (.int x), h, nx) := D_ireturn (ins_of mc_64 (pc := 46) (x := (.ireturn, 1)) (by decide +kernel)) mr_64
theorem e_64_47 : Df d 64 47 [l0] st h nx = Df d 64 49 [l0] (.int 7 :: st) h nx := D_bipush (ins_of mc_64 (pc := 47) (x := (.bipush 7, 2)) (by decide +kernel)) (by decide)
theorem e_64_49 : Df d 64 49 [l0] [.int x] h nx = some (some (.int x), h, nx) := D_ireturn (ins_of mc_64 (pc := 49) (x := (.ireturn, 1)) (by decide +kernel)) mr_64
theorem e_64_50 : Df d 64 50 [l0] st h nx = Df d 64 52 [l0] (.int 9 :: st) h nx := D_bipush (ins_of mc_64 (pc := 50) (x := (.bipush 9, 2)) (by decide +kernel)) (by decide)
theorem e_64_52 : Df d 64 52 [l0] [.int x] h nx = some (some (.int x), h, nx) := D_ireturn (ins_of mc_64 (pc := 52) (x := (.ireturn, 1)) (by decide +kernel)) mr_64
theorem e_64_53 : Df d 64 53 [l0] st h nx = Df d 64 54 [l0] (.int 5 :: st) h nx := D_iconst (ins_of mc_64 (pc := 53) (x := (.iconst 5, 1)) (by decide +kernel)) (by decide)
theorem e_64_54 : Df d 64 54 [l0] [.int x] h nx = some (some (.int x), h, nx) := D_ireturn (ins_of mc_64 (pc := 54) (x := (.ireturn, 1)) (by decide +kernel)) mr_64
theorem mc_65 : mC 65 = prog_9_method_6_code := rfl
theorem mo_65 : mO 65 = 7 := rfl
theorem ml_65 : mL 65 = 1 := rfl
theorem mr_65 : mR 65 = (some .int) := rfl
theorem ma_65 : mA 65 = 0 := rfl
theorem e_65_0 : Df d 65 0 [.ref a] st h nx = Df d 65 1 [.ref a] (.ref a :: st) h nx := D_aload_n (ins_of mc_65 (pc := 0) (x := (.aload_n 0, 1)) (by decide +kernel)) rfl
theorem e_65_1 : Df d 65 1 [l0] (.ref a :: st) h nx = (gF h a 7 0).bind fun v => Df d 65 4 [l0] (v :: st) h nx := D_getfield (ins_of mc_65 (pc := 1) (x := (.getfield 9, 3)) (by decide +kernel)) mo_65 (by decide +kernel)
theorem e_65_4 : Df d 65 4 [l0] (.int x :: st) h nx = if x = 1 then Df d 65 40 [l0] st h nx else if x = 2 then Df d 65 58 [l0] st h nx else if x = 3 then Df d 65 48 [l0] st h nx else if x = 4 then Df d 65 66 [l0] st h nx else if x = 5 then Df d 65 76 [l0] st h nx else Df d 65 78 [l0] st h nx := by
  have hi := (ins_of mc_65 (pc := 4) (x := (.tableswitch 74 1 5 #[36, 54, 44, 62, 72], 36)) (by decide +kernel))
  by_cases q0 : x = 1
  · subst q0
    rw [if_pos rfl]
    exact D_tswI (off := 36) hi (by decide) (by decide) (by decide)
  rw [if_neg q0]
  by_cases q1 : x = 2
  · subst q1
    rw [if_pos rfl]
    exact D_tswI (off := 54) hi (by decide) (by decide) (by decide)
  rw [if_neg q1]
  by_cases q2 : x = 3
  · subst q2
    rw [if_pos rfl]
    exact D_tswI (off := 44) hi (by decide) (by decide) (by decide)
  rw [if_neg q2]
  by_cases q3 : x = 4
  · subst q3
    rw [if_pos rfl]
    exact D_tswI (off := 62) hi (by decide) (by decide) (by decide)
  rw [if_neg q3]
  by_cases q4 : x = 5
  · subst q4
    rw [if_pos rfl]
    exact D_tswI (off := 72) hi (by decide) (by decide) (by decide)
  rw [if_neg q4]
  have r0 : x.toInt ≠ 1 := fun z => q0 (Int32.toInt_inj.mp (z.trans (by decide)))
  have r1 : x.toInt ≠ 2 := fun z => q1 (Int32.toInt_inj.mp (z.trans (by decide)))
  have r2 : x.toInt ≠ 3 := fun z => q2 (Int32.toInt_inj.mp (z.trans (by decide)))
  have r3 : x.toInt ≠ 4 := fun z => q3 (Int32.toInt_inj.mp (z.trans (by decide)))
  have r4 : x.toInt ≠ 5 := fun z => q4 (Int32.toInt_inj.mp (z.trans (by decide)))
  exact D_tswO hi (by omega) (by decide)
theorem e_65_40 : Df d 65 40 [.ref a] st h nx = Df d 65 41 [.ref a] (.ref a :: st) h nx := D_aload_n (ins_of mc_65 (pc := 40) (x := (.aload_n 0, 1)) (by decide +kernel)) rfl
theorem e_65_41 : Df d 65 41 [l0] (.ref a :: st) h nx = (gF h a 7 2).bind fun v => Df d 65 44 [l0] (v :: st) h nx := D_getfield (ins_of mc_65 (pc := 41) (x := (.getfield 18, 3)) (by decide +kernel)) mo_65 (by decide +kernel)
theorem e_65_44 : Df d 65 44 [l0] st h nx = Df d 65 46 [l0] (.int 8 :: st) h nx := D_bipush (ins_of mc_65 (pc := 44) (x := (.bipush 8, 2)) (by decide +kernel)) (by decide)
theorem e_65_46 : Df d 65 46 [l0] (.int y :: .int x :: st) h nx = Df d 65 47 [l0] (.int (x + y) :: st) h nx := D_iadd (ins_of mc_65 (pc := 46) (x := (.iadd, 1)) (by decide +kernel))
theorem e_65_47 : Df d 65 47 [l0] [.int x] h nx = some (some (.int x), h, nx) := D_ireturn (ins_of mc_65 (pc := 47) (x := (.ireturn, 1)) (by decide +kernel)) mr_65
theorem e_65_48 : Df d 65 48 [l0] st h nx = Df d 65 49 [l0] (.int 2 :: st) h nx := D_iconst (ins_of mc_65 (pc := 48) (x := (.iconst 2, 1)) (by decide +kernel)) (by decide)
theorem e_65_49 : Df d 65 49 [.ref a] st h nx = Df d 65 50 [.ref a] (.ref a :: st) h nx := D_aload_n (ins_of mc_65 (pc := 49) (x := (.aload_n 0, 1)) (by decide +kernel)) rfl
theorem e_65_50 : Df d 65 50 [l0] (.ref a :: st) h nx = (gF h a 7 2).bind fun v => Df d 65 53 [l0] (v :: st) h nx := D_getfield (ins_of mc_65 (pc := 50) (x := (.getfield 18, 3)) (by decide +kernel)) mo_65 (by decide +kernel)
theorem e_65_53 : Df d 65 53 [l0] st h nx = Df d 65 55 [l0] (.int 8 :: st) h nx := D_bipush (ins_of mc_65 (pc := 53) (x := (.bipush 8, 2)) (by decide +kernel)) (by decide)
theorem e_65_55 : Df d 65 55 [l0] (.int y :: .int x :: st) h nx = Df d 65 56 [l0] (.int (x + y) :: st) h nx := D_iadd (ins_of mc_65 (pc := 55) (x := (.iadd, 1)) (by decide +kernel))
theorem e_65_56 : Df d 65 56 [l0] (.int y :: .int x :: st) h nx = Df d 65 57 [l0] (.int (x * y) :: st) h nx := D_imul (ins_of mc_65 (pc := 56) (x := (.imul, 1)) (by decide +kernel))
theorem e_65_57 : Df d 65 57 [l0] [.int x] h nx = some (some (.int x), h, nx) := D_ireturn (ins_of mc_65 (pc := 57) (x := (.ireturn, 1)) (by decide +kernel)) mr_65
theorem e_65_58 : Df d 65 58 [l0] st h nx = Df d 65 60 [l0] (.int 99 :: st) h nx := D_bipush (ins_of mc_65 (pc := 58) (x := (.bipush 99, 2)) (by decide +kernel)) (by decide)
theorem e_65_60 : Df d 65 60 [.ref a] st h nx = Df d 65 61 [.ref a] (.ref a :: st) h nx := D_aload_n (ins_of mc_65 (pc := 60) (x := (.aload_n 0, 1)) (by decide +kernel)) rfl
theorem e_65_61 : Df d 65 61 [l0] (.ref a :: st) h nx = (gF h a 7 2).bind fun v => Df d 65 64 [l0] (v :: st) h nx := D_getfield (ins_of mc_65 (pc := 61) (x := (.getfield 18, 3)) (by decide +kernel)) mo_65 (by decide +kernel)
theorem e_65_64 : Df d 65 64 [l0] (.int y :: .int x :: st) h nx = Df d 65 65 [l0] (.int (x - y) :: st) h nx := D_isub (ins_of mc_65 (pc := 64) (x := (.isub, 1)) (by decide +kernel))
theorem e_65_65 : Df d 65 65 [l0] [.int x] h nx = some (some (.int x), h, nx) := D_ireturn (ins_of mc_65 (pc := 65) (x := (.ireturn, 1)) (by decide +kernel)) mr_65
theorem e_65_66 : Df d 65 66 [l0] st h nx = Df d 65 68 [l0] (.int 99 :: st) h nx := D_bipush (ins_of mc_65 (pc := 66) (x := (.bipush 99, 2)) (by decide +kernel)) (by decide)
theorem e_65_68 : Df d 65 68 [.ref a] st h nx = Df d 65 69 [.ref a] (.ref a :: st) h nx := D_aload_n (ins_of mc_65 (pc := 68) (x := (.aload_n 0, 1)) (by decide +kernel)) rfl
theorem e_65_69 : Df d 65 69 [l0] (.ref a :: st) h nx = (gF h a 7 2).bind fun v => Df d 65 72 [l0] (v :: st) h nx := D_getfield (ins_of mc_65 (pc := 69) (x := (.getfield 18, 3)) (by decide +kernel)) mo_65 (by decide +kernel)
theorem e_65_72 : Df d 65 72 [l0] (.int y :: .int x :: st) h nx = Df d 65 73 [l0] (.int (x - y) :: st) h nx := D_isub (ins_of mc_65 (pc := 72) (x := (.isub, 1)) (by decide +kernel))
theorem e_65_73 : Df d 65 73 [l0] st h nx = Df d 65 74 [l0] (.int 3 :: st) h nx := D_iconst (ins_of mc_65 (pc := 73) (x := (.iconst 3, 1)) (by decide +kernel)) (by decide)
theorem e_65_74 : Df d 65 74 [l0] (.int y :: .int x :: st) h nx = Df d 65 75 [l0] (.int (x - y) :: st) h nx := D_isub (ins_of mc_65 (pc := 74) (x := (.isub, 1)) (by decide +kernel))
theorem e_65_75 : Df d 65 75 [l0] [.int x] h nx = some (some (.int x), h, nx) := D_ireturn (ins_of mc_65 (pc := 75) (x := (.ireturn, 1)) (by decide +kernel)) mr_65
theorem e_65_76 : Df d 65 76 [l0] st h nx = Df d 65 77 [l0] (.int 4 :: st) h nx := D_iconst (ins_of mc_65 (pc := 76) (x := (.iconst 4, 1)) (by decide +kernel)) (by decide)
theorem e_65_77 : Df d 65 77 [l0] [.int x] h nx = some (some (.int x), h, nx) := D_ireturn (ins_of mc_65 (pc := 77) (x := (.ireturn, 1)) (by decide +kernel)) mr_65
theorem e_65_78 : Df d 65 78 [.ref a] st h nx = Df d 65 79 [.ref a] (.ref a :: st) h nx := D_aload_n (ins_of mc_65 (pc := 78) (x := (.aload_n 0, 1)) (by decide +kernel)) rfl
theorem e_65_79 : Df d 65 79 [l0] (.ref a :: st) h nx = (gF h a 7 2).bind fun v => Df d 65 82 [l0] (v :: st) h nx := D_getfield (ins_of mc_65 (pc := 79) (x := (.getfield 18, 3)) (by decide +kernel)) mo_65 (by decide +kernel)
theorem e_65_82 : Df d 65 82 [l0] [.int x] h nx = some (some (.int x), h, nx) := D_ireturn (ins_of mc_65 (pc := 82) (x := (.ireturn, 1)) (by decide +kernel)) mr_65
theorem mc_66 : mC 66 = prog_9_method_4_code := rfl
theorem mo_66 : mO 66 = 7 := rfl
theorem ml_66 : mL 66 = 2 := rfl
theorem mr_66 : mR 66 = (some .boolean) := rfl
theorem ma_66 : mA 66 = 1 := rfl
theorem e_66_0 : Df d 66 0 [l0, .int x] st h nx = Df d 66 1 [l0, .int x] (.int x :: st) h nx := D_iload_n (ins_of mc_66 (pc := 0) (x := (.iload_n 1, 1)) (by decide +kernel)) rfl
theorem e_66_1 : Df d 66 1 [.ref a, l1] st h nx = Df d 66 2 [.ref a, l1] (.ref a :: st) h nx := D_aload_n (ins_of mc_66 (pc := 1) (x := (.aload_n 0, 1)) (by decide +kernel)) rfl
theorem e_66_2 : Df d 66 2 [l0, l1] (.ref a :: st) h nx = (gF h a 7 0).bind fun v => Df d 66 5 [l0, l1] (v :: st) h nx := D_getfield (ins_of mc_66 (pc := 2) (x := (.getfield 9, 3)) (by decide +kernel)) mo_66 (by decide +kernel)
theorem e_66_5 : Df d 66 5 [l0, l1] (.int y :: .int x :: st) h nx = if x = y then Df d 66 38 [l0, l1] st h nx else Df d 66 8 [l0, l1] st h nx := D_icmp_eq (ins_of mc_66 (pc := 5) (x := (.if_icmp .eq 33, 3)) (by decide +kernel)) (by decide)
theorem e_66_8 : Df d 66 8 [l0, .int x] st h nx = Df d 66 9 [l0, .int x] (.int x :: st) h nx := D_iload_n (ins_of mc_66 (pc := 8) (x := (.iload_n 1, 1)) (by decide +kernel)) rfl
theorem e_66_9 : Df d 66 9 [l0, l1] (.int x :: st) h nx = if x = 0 then Df d 66 38 [l0, l1] st h nx else Df d 66 12 [l0, l1] st h nx := D_if_eq (ins_of mc_66 (pc := 9) (x := (.ifCond .eq 29, 3)) (by decide +kernel)) (by decide)
theorem e_66_12 : Df d 66 12 [.ref a, l1] st h nx = Df d 66 13 [.ref a, l1] (.ref a :: st) h nx := D_aload_n (ins_of mc_66 (pc := 12) (x := (.aload_n 0, 1)) (by decide +kernel)) rfl
theorem e_66_13 : Df d 66 13 [l0, l1] (.ref a :: st) h nx = (gF h a 7 0).bind fun v => Df d 66 16 [l0, l1] (v :: st) h nx := D_getfield (ins_of mc_66 (pc := 13) (x := (.getfield 9, 3)) (by decide +kernel)) mo_66 (by decide +kernel)
theorem e_66_16 : Df d 66 16 [l0, l1] st h nx = Df d 66 17 [l0, l1] (.int 3 :: st) h nx := D_iconst (ins_of mc_66 (pc := 16) (x := (.iconst 3, 1)) (by decide +kernel)) (by decide)
theorem e_66_17 : Df d 66 17 [l0, l1] (.int y :: .int x :: st) h nx = if x = y then Df d 66 20 [l0, l1] st h nx else Df d 66 25 [l0, l1] st h nx := D_icmp_ne (ins_of mc_66 (pc := 17) (x := (.if_icmp .ne 8, 3)) (by decide +kernel)) (by decide)
theorem e_66_20 : Df d 66 20 [l0, .int x] st h nx = Df d 66 21 [l0, .int x] (.int x :: st) h nx := D_iload_n (ins_of mc_66 (pc := 20) (x := (.iload_n 1, 1)) (by decide +kernel)) rfl
theorem e_66_21 : Df d 66 21 [l0, l1] st h nx = Df d 66 22 [l0, l1] (.int 1 :: st) h nx := D_iconst (ins_of mc_66 (pc := 21) (x := (.iconst 1, 1)) (by decide +kernel)) (by decide)
theorem e_66_22 : Df d 66 22 [l0, l1] (.int y :: .int x :: st) h nx = if x = y then Df d 66 38 [l0, l1] st h nx else Df d 66 25 [l0, l1] st h nx := D_icmp_eq (ins_of mc_66 (pc := 22) (x := (.if_icmp .eq 16, 3)) (by decide +kernel)) (by decide)
theorem e_66_25 : Df d 66 25 [.ref a, l1] st h nx = Df d 66 26 [.ref a, l1] (.ref a :: st) h nx := D_aload_n (ins_of mc_66 (pc := 25) (x := (.aload_n 0, 1)) (by decide +kernel)) rfl
theorem e_66_26 : Df d 66 26 [l0, l1] (.ref a :: st) h nx = (gF h a 7 0).bind fun v => Df d 66 29 [l0, l1] (v :: st) h nx := D_getfield (ins_of mc_66 (pc := 26) (x := (.getfield 9, 3)) (by decide +kernel)) mo_66 (by decide +kernel)
theorem e_66_29 : Df d 66 29 [l0, l1] st h nx = Df d 66 30 [l0, l1] (.int 4 :: st) h nx := D_iconst (ins_of mc_66 (pc := 29) (x := (.iconst 4, 1)) (by decide +kernel)) (by decide)
theorem e_66_30 : Df d 66 30 [l0, l1] (.int y :: .int x :: st) h nx = if x = y then Df d 66 33 [l0, l1] st h nx else Df d 66 42 [l0, l1] st h nx := D_icmp_ne (ins_of mc_66 (pc := 30) (x := (.if_icmp .ne 12, 3)) (by decide +kernel)) (by decide)
theorem e_66_33 : Df d 66 33 [l0, .int x] st h nx = Df d 66 34 [l0, .int x] (.int x :: st) h nx := D_iload_n (ins_of mc_66 (pc := 33) (x := (.iload_n 1, 1)) (by decide +kernel)) rfl
theorem e_66_34 : Df d 66 34 [l0, l1] st h nx = Df d 66 35 [l0, l1] (.int 2 :: st) h nx := D_iconst (ins_of mc_66 (pc := 34) (x := (.iconst 2, 1)) (by decide +kernel)) (by decide)
theorem e_66_35 : Df d 66 35 [l0, l1] (.int y :: .int x :: st) h nx = if x = y then Df d 66 38 [l0, l1] st h nx else Df d 66 42 [l0, l1] st h nx := D_icmp_ne (ins_of mc_66 (pc := 35) (x := (.if_icmp .ne 7, 3)) (by decide +kernel)) (by decide)
theorem e_66_38 : Df d 66 38 [l0, l1] st h nx = Df d 66 39 [l0, l1] (.int 1 :: st) h nx := D_iconst (ins_of mc_66 (pc := 38) (x := (.iconst 1, 1)) (by decide +kernel)) (by decide)
theorem e_66_39 : Df d 66 39 [l0, l1] st h nx = Df d 66 43 [l0, l1] st h nx := D_goto (ins_of mc_66 (pc := 39) (x := (.goto 4, 3)) (by decide +kernel)) (by decide)
theorem e_66_42 : Df d 66 42 [l0, l1] st h nx = Df d 66 43 [l0, l1] (.int 0 :: st) h nx := D_iconst (ins_of mc_66 (pc := 42) (x := (.iconst 0, 1)) (by decide +kernel)) (by decide)
theorem e_66_43 : Df d 66 43 [l0, l1] [.int x] h nx = if nR .boolean x = true then some (some (.int x), h, nx) else none := D_zreturn (ins_of mc_66 (pc := 43) (x := (.ireturn, 1)) (by decide +kernel)) mr_66
theorem mc_67 : mC 67 = prog_9_method_8_code := rfl
theorem mo_67 : mO 67 = 7 := rfl
theorem ml_67 : mL 67 = 4 := rfl
theorem mr_67 : mR 67 = (some .int) := rfl
theorem ma_67 : mA 67 = 1 := rfl
theorem e_67_0 : Df d 67 0 [l0, .int x, l2, l3] st h nx = Df d 67 1 [l0, .int x, l2, l3] (.int x :: st) h nx := D_iload_n (ins_of mc_67 (pc := 0) (x := (.iload_n 1, 1)) (by decide +kernel)) rfl
theorem e_67_1 (hn : nr l2 = true) : Df d 67 1 [l0, l1, l2, l3] (.int x :: st) h nx = Df d 67 2 [l0, l1, .int x, l3] st h nx := D_istore_n (ins_of mc_67 (pc := 1) (x := (.istore_n 2, 1)) (by decide +kernel)) rfl hn rfl
theorem e_67_2 : Df d 67 2 [l0, l1, l2, l3] st h nx = Df d 67 3 [l0, l1, l2, l3] (.int 0 :: st) h nx := D_iconst (ins_of mc_67 (pc := 2) (x := (.iconst 0, 1)) (by decide +kernel)) (by decide)
theorem e_67_3 (hn : nr l3 = true) : Df d 67 3 [l0, l1, l2, l3] (.int x :: st) h nx = Df d 67 4 [l0, l1, l2, .int x] st h nx := D_istore_n (ins_of mc_67 (pc := 3) (x := (.istore_n 3, 1)) (by decide +kernel)) rfl hn rfl
theorem e_67_4 : Df d 67 4 [l0, l1, l2, .int x] st h nx = Df d 67 5 [l0, l1, l2, .int x] (.int x :: st) h nx := D_iload_n (ins_of mc_67 (pc := 4) (x := (.iload_n 3, 1)) (by decide +kernel)) rfl
theorem e_67_5 : Df d 67 5 [l0, l1, l2, l3] st h nx = Df d 67 7 [l0, l1, l2, l3] (.int 99 :: st) h nx := D_bipush (ins_of mc_67 (pc := 5) (x := (.bipush 99, 2)) (by decide +kernel)) (by decide)
theorem e_67_7 : Df d 67 7 [l0, l1, l2, l3] (.int y :: .int x :: st) h nx = if y ≤ x then Df d 67 34 [l0, l1, l2, l3] st h nx else Df d 67 10 [l0, l1, l2, l3] st h nx := D_icmp_ge (ins_of mc_67 (pc := 7) (x := (.if_icmp .ge 27, 3)) (by decide +kernel)) (by decide)
theorem e_67_10 : Df d 67 10 [l0, l1, .int x, l3] st h nx = Df d 67 11 [l0, l1, .int x, l3] (.int x :: st) h nx := D_iload_n (ins_of mc_67 (pc := 10) (x := (.iload_n 2, 1)) (by decide +kernel)) rfl
theorem e_67_11 : Df d 67 11 [l0, l1, l2, l3] (.int x :: st) h nx = if x ≤ 0 then Df d 67 34 [l0, l1, l2, l3] st h nx else Df d 67 14 [l0, l1, l2, l3] st h nx := D_if_le (ins_of mc_67 (pc := 11) (x := (.ifCond .le 23, 3)) (by decide +kernel)) (by decide)
theorem e_67_14 : Df d 67 14 [.ref a, l1, l2, l3] st h nx = Df d 67 15 [.ref a, l1, l2, l3] (.ref a :: st) h nx := D_aload_n (ins_of mc_67 (pc := 14) (x := (.aload_n 0, 1)) (by decide +kernel)) rfl
theorem e_67_15 : Df d 67 15 [l0, l1, l2, l3] (.ref a :: st) h nx = (gF h a 7 1).bind fun v => Df d 67 18 [l0, l1, l2, l3] (v :: st) h nx := D_getfield (ins_of mc_67 (pc := 15) (x := (.getfield 15, 3)) (by decide +kernel)) mo_67 (by decide +kernel)
theorem e_67_18 : Df d 67 18 [l0, l1, l2, l3] (.int x :: st) h nx = if x ≤ 0 then Df d 67 34 [l0, l1, l2, l3] st h nx else Df d 67 21 [l0, l1, l2, l3] st h nx := D_if_le (ins_of mc_67 (pc := 18) (x := (.ifCond .le 16, 3)) (by decide +kernel)) (by decide)
theorem e_67_21 : Df d 67 21 [.ref a, l1, l2, l3] st h nx = Df d 67 22 [.ref a, l1, l2, l3] (.ref a :: st) h nx := D_aload_n (ins_of mc_67 (pc := 21) (x := (.aload_n 0, 1)) (by decide +kernel)) rfl
theorem e_67_22 : Df d 67 22 [l0, l1, l2, l3] [.ref a] h nx = if ck h a 7 = true then cn d 67 25 [l0, l1, l2, l3] [] (Dn d 68 [.ref a] h nx) else none := D_virtual (k1 := 68) (ins_of mc_67 (pc := 22) (x := (.invokevirtual 41, 3)) (by decide +kernel)) mo_67 (by decide +kernel) (by decide) rfl rfl (by decide) rfl (Nat.le_of_ble_eq_true rfl) rfl
theorem e_67_25 : Df d 67 25 [l0, l1, .int x, l3] st h nx = Df d 67 28 [l0, l1, .int (x + (-1)), l3] st h nx := D_iinc (ins_of mc_67 (pc := 25) (x := (.iinc 2 (-1), 3)) (by decide +kernel)) rfl (by decide) rfl
theorem e_67_28 : Df d 67 28 [l0, l1, l2, .int x] st h nx = Df d 67 31 [l0, l1, l2, .int (x + 1)] st h nx := D_iinc (ins_of mc_67 (pc := 28) (x := (.iinc 3 1, 3)) (by decide +kernel)) rfl (by decide) rfl
theorem e_67_31 : Df d 67 31 [l0, l1, l2, l3] st h nx = Df d 67 4 [l0, l1, l2, l3] st h nx := D_goto (ins_of mc_67 (pc := 31) (x := (.goto (-27), 3)) (by decide +kernel)) (by decide)
theorem e_67_34 : Df d 67 34 [l0, l1, l2, l3] st h nx = Df d 67 35 [l0, l1, l2, l3] (.int 0 :: st) h nx := D_iconst (ins_of mc_67 (pc := 34) (x := (.iconst 0, 1)) (by decide +kernel)) (by decide)
theorem e_67_35 : Df d 67 35 [l0, l1, .int x, l3] st h nx = Df d 67 36 [l0, l1, .int x, l3] (.int x :: st) h nx := D_iload_n (ins_of mc_67 (pc := 35) (x := (.iload_n 2, 1)) (by decide +kernel)) rfl
theorem e_67_36 : Df d 67 36 [l0, l1, l2, l3] st h nx = Df d 67 38 [l0, l1, l2, l3] (.int 30 :: st) h nx := D_bipush (ins_of mc_67 (pc := 36) (x := (.bipush 30, 2)) (by decide +kernel)) (by decide)
theorem e_67_38 : Df d 67 38 [.ref a, l1, l2, l3] st h nx = Df d 67 39 [.ref a, l1, l2, l3] (.ref a :: st) h nx := D_aload_n (ins_of mc_67 (pc := 38) (x := (.aload_n 0, 1)) (by decide +kernel)) rfl
theorem e_67_39 : Df d 67 39 [l0, l1, l2, l3] (.ref a :: st) h nx = (gF h a 7 2).bind fun v => Df d 67 42 [l0, l1, l2, l3] (v :: st) h nx := D_getfield (ins_of mc_67 (pc := 39) (x := (.getfield 18, 3)) (by decide +kernel)) mo_67 (by decide +kernel)
theorem e_67_42 : Df d 67 42 [l0, l1, l2, l3] (.int y :: .int x :: st) h nx = Df d 67 43 [l0, l1, l2, l3] (.int (x - y) :: st) h nx := D_isub (ins_of mc_67 (pc := 42) (x := (.isub, 1)) (by decide +kernel))
theorem e_67_43 : Df d 67 43 [l0, l1, l2, l3] [v1, v0, s0] h nx = cn d 67 46 [l0, l1, l2, l3] [s0] (Dn d 211 [v0, v1] h nx) := D_static (k1 := 211) (kd := 1) (ins_of mc_67 (pc := 43) (x := (.invokestatic 44, 3)) (by decide +kernel)) mo_67 (by decide +kernel) (by decide) rfl (Nat.le_of_ble_eq_true rfl) rfl (Nat.le_of_ble_eq_true rfl) rfl
theorem e_67_46 : Df d 67 46 [l0, l1, l2, l3] [v1, v0] h nx = cn d 67 49 [l0, l1, l2, l3] [] (Dn d 212 [v0, v1] h nx) := D_static (k1 := 212) (kd := 1) (ins_of mc_67 (pc := 46) (x := (.invokestatic 35, 3)) (by decide +kernel)) mo_67 (by decide +kernel) (by decide) rfl (Nat.le_of_ble_eq_true rfl) rfl (Nat.le_of_ble_eq_true rfl) rfl
theorem e_67_49 (hn : nr l3 = true) : Df d 67 49 [l0, l1, l2, l3] (.int x :: st) h nx = Df d 67 50 [l0, l1, l2, .int x] st h nx := D_istore_n (ins_of mc_67 (pc := 49) (x := (.istore_n 3, 1)) (by decide +kernel)) rfl hn rfl
theorem e_67_50 : Df d 67 50 [.ref a, l1, l2, l3] st h nx = Df d 67 51 [.ref a, l1, l2, l3] (.ref a :: st) h nx := D_aload_n (ins_of mc_67 (pc := 50) (x := (.aload_n 0, 1)) (by decide +kernel)) rfl
theorem e_67_51 (hv : v0.category = 1) : Df d 67 51 [l0, l1, l2, l3] (v0 :: st) h nx = Df d 67 52 [l0, l1, l2, l3] (v0 :: v0 :: st) h nx := D_dup (ins_of mc_67 (pc := 51) (x := (.dup, 1)) (by decide +kernel)) hv
theorem e_67_52 : Df d 67 52 [l0, l1, l2, l3] (.ref a :: st) h nx = (gF h a 7 2).bind fun v => Df d 67 55 [l0, l1, l2, l3] (v :: st) h nx := D_getfield (ins_of mc_67 (pc := 52) (x := (.getfield 18, 3)) (by decide +kernel)) mo_67 (by decide +kernel)
theorem e_67_55 : Df d 67 55 [l0, l1, l2, .int x] st h nx = Df d 67 56 [l0, l1, l2, .int x] (.int x :: st) h nx := D_iload_n (ins_of mc_67 (pc := 55) (x := (.iload_n 3, 1)) (by decide +kernel)) rfl
theorem e_67_56 : Df d 67 56 [l0, l1, l2, l3] (.int y :: .int x :: st) h nx = Df d 67 57 [l0, l1, l2, l3] (.int (x + y) :: st) h nx := D_iadd (ins_of mc_67 (pc := 56) (x := (.iadd, 1)) (by decide +kernel))
theorem e_67_57 : Df d 67 57 [l0, l1, l2, l3] (.int x :: .ref a :: st) h nx = (pF h a 7 2 (.int x)).bind fun h => Df d 67 60 [l0, l1, l2, l3] st h nx := D_putfield (ins_of mc_67 (pc := 57) (x := (.putfield 18, 3)) (by decide +kernel)) mo_67 (by decide +kernel) rfl (Or.inl rfl)
theorem e_67_60 : Df d 67 60 [l0, l1, .int x, l3] st h nx = Df d 67 61 [l0, l1, .int x, l3] (.int x :: st) h nx := D_iload_n (ins_of mc_67 (pc := 60) (x := (.iload_n 2, 1)) (by decide +kernel)) rfl
theorem e_67_61 : Df d 67 61 [l0, l1, l2, .int x] st h nx = Df d 67 62 [l0, l1, l2, .int x] (.int x :: st) h nx := D_iload_n (ins_of mc_67 (pc := 61) (x := (.iload_n 3, 1)) (by decide +kernel)) rfl
theorem e_67_62 : Df d 67 62 [l0, l1, l2, l3] (.int y :: .int x :: st) h nx = Df d 67 63 [l0, l1, l2, l3] (.int (x - y) :: st) h nx := D_isub (ins_of mc_67 (pc := 62) (x := (.isub, 1)) (by decide +kernel))
theorem e_67_63 : Df d 67 63 [l0, l1, l2, l3] [.int x] h nx = some (some (.int x), h, nx) := D_ireturn (ins_of mc_67 (pc := 63) (x := (.ireturn, 1)) (by decide +kernel)) mr_67
theorem mc_68 : mC 68 = prog_9_method_7_code := rfl
theorem mo_68 : mO 68 = 7 := rfl
theorem ml_68 : mL 68 = 1 := rfl
theorem mr_68 : mR 68 = none := rfl
theorem ma_68 : mA 68 = 0 := rfl
theorem e_68_0 : Df d 68 0 [.ref a] st h nx = Df d 68 1 [.ref a] (.ref a :: st) h nx := D_aload_n (ins_of mc_68 (pc := 0) (x := (.aload_n 0, 1)) (by decide +kernel)) rfl
theorem e_68_1 : Df d 68 1 [l0] st h nx = Df d 68 2 [l0] (.int 0 :: st) h nx := D_iconst (ins_of mc_68 (pc := 1) (x := (.iconst 0, 1)) (by decide +kernel)) (by decide)
theorem e_68_2 : Df d 68 2 [.ref a] st h nx = Df d 68 3 [.ref a] (.ref a :: st) h nx := D_aload_n (ins_of mc_68 (pc := 2) (x := (.aload_n 0, 1)) (by decide +kernel)) rfl
theorem e_68_3 : Df d 68 3 [l0] (.ref a :: st) h nx = (gF h a 7 1).bind fun v => Df d 68 6 [l0] (v :: st) h nx := D_getfield (ins_of mc_68 (pc := 3) (x := (.getfield 15, 3)) (by decide +kernel)) mo_68 (by decide +kernel)
theorem e_68_6 : Df d 68 6 [.ref a] st h nx = Df d 68 7 [.ref a] (.ref a :: st) h nx := D_aload_n (ins_of mc_68 (pc := 6) (x := (.aload_n 0, 1)) (by decide +kernel)) rfl
theorem e_68_7 : Df d 68 7 [l0] [.ref a, s0, s1, s2] h nx = if ck h a 7 = true then cn d 68 10 [l0] [s0, s1, s2] (Dn d 64 [.ref a] h nx) else none := D_virtual (k1 := 64) (ins_of mc_68 (pc := 7) (x := (.invokevirtual 31, 3)) (by decide +kernel)) mo_68 (by decide +kernel) (by decide) rfl rfl (by decide) rfl (Nat.le_of_ble_eq_true rfl) rfl
theorem e_68_10 : Df d 68 10 [l0] (.int y :: .int x :: st) h nx = Df d 68 11 [l0] (.int (x - y) :: st) h nx := D_isub (ins_of mc_68 (pc := 10) (x := (.isub, 1)) (by decide +kernel))
theorem e_68_11 : Df d 68 11 [l0] [v1, v0, s0] h nx = cn d 68 14 [l0] [s0] (Dn d 212 [v0, v1] h nx) := D_static (k1 := 212) (kd := 1) (ins_of mc_68 (pc := 11) (x := (.invokestatic 35, 3)) (by decide +kernel)) mo_68 (by decide +kernel) (by decide) rfl (Nat.le_of_ble_eq_true rfl) rfl (Nat.le_of_ble_eq_true rfl) rfl
theorem e_68_14 : Df d 68 14 [l0] (.int x :: .ref a :: st) h nx = (pF h a 7 1 (.int x)).bind fun h => Df d 68 17 [l0] st h nx := D_putfield (ins_of mc_68 (pc := 14) (x := (.putfield 15, 3)) (by decide +kernel)) mo_68 (by decide +kernel) rfl (Or.inl rfl)
theorem e_68_17 : Df d 68 17 [l0] [] h nx = some (none, h, nx) := D_return (ins_of mc_68 (pc := 17) (x := (.return_, 1)) (by decide +kernel)) mr_68
theorem mc_69 : mC 69 = prog_9_method_9_code := rfl
theorem mo_69 : mO 69 = 7 := rfl
theorem ml_69 : mL 69 = 5 := rfl
theorem mr_69 : mR 69 = none := rfl
theorem ma_69 : mA 69 = 2 := rfl
theorem e_69_0 : Df d 69 0 [.ref a, l1, l2, l3, l4] st h nx = Df d 69 1 [.ref a, l1, l2, l3, l4] (.ref a :: st) h nx := D_aload_n (ins_of mc_69 (pc := 0) (x := (.aload_n 0, 1)) (by decide +kernel)) rfl
theorem e_69_1 : Df d 69 1 [l0, l1, l2, l3, l4] st h nx = Df d 69 3 [l0, l1, l2, l3, l4] (.int 99 :: st) h nx := D_bipush (ins_of mc_69 (pc := 1) (x := (.bipush 99, 2)) (by decide +kernel)) (by decide)
theorem e_69_3 : Df d 69 3 [.ref a, l1, l2, l3, l4] st h nx = Df d 69 4 [.ref a, l1, l2, l3, l4] (.ref a :: st) h nx := D_aload_n (ins_of mc_69 (pc := 3) (x := (.aload_n 0, 1)) (by decide +kernel)) rfl
theorem e_69_4 : Df d 69 4 [l0, l1, l2, l3, l4] (.ref a :: st) h nx = (gF h a 7 1).bind fun v => Df d 69 7 [l0, l1, l2, l3, l4] (v :: st) h nx := D_getfield (ins_of mc_69 (pc := 4) (x := (.getfield 15, 3)) (by decide +kernel)) mo_69 (by decide +kernel)
theorem e_69_7 : Df d 69 7 [l0, .int x, l2, l3, l4] st h nx = Df d 69 8 [l0, .int x, l2, l3, l4] (.int x :: st) h nx := D_iload_n (ins_of mc_69 (pc := 7) (x := (.iload_n 1, 1)) (by decide +kernel)) rfl
theorem e_69_8 : Df d 69 8 [l0, l1, l2, l3, l4] (.int y :: .int x :: st) h nx = Df d 69 9 [l0, l1, l2, l3, l4] (.int (x + y) :: st) h nx := D_iadd (ins_of mc_69 (pc := 8) (x := (.iadd, 1)) (by decide +kernel))
theorem e_69_9 : Df d 69 9 [l0, l1, l2, l3, l4] [v1, v0, s0] h nx = cn d 69 12 [l0, l1, l2, l3, l4] [s0] (Dn d 211 [v0, v1] h nx) := D_static (k1 := 211) (kd := 1) (ins_of mc_69 (pc := 9) (x := (.invokestatic 44, 3)) (by decide +kernel)) mo_69 (by decide +kernel) (by decide) rfl (Nat.le_of_ble_eq_true rfl) rfl (Nat.le_of_ble_eq_true rfl) rfl
theorem e_69_12 : Df d 69 12 [l0, l1, l2, l3, l4] (.int x :: .ref a :: st) h nx = (pF h a 7 1 (.int x)).bind fun h => Df d 69 15 [l0, l1, l2, l3, l4] st h nx := D_putfield (ins_of mc_69 (pc := 12) (x := (.putfield 15, 3)) (by decide +kernel)) mo_69 (by decide +kernel) rfl (Or.inl rfl)
theorem e_69_15 : Df d 69 15 [.ref a, l1, l2, l3, l4] st h nx = Df d 69 16 [.ref a, l1, l2, l3, l4] (.ref a :: st) h nx := D_aload_n (ins_of mc_69 (pc := 15) (x := (.aload_n 0, 1)) (by decide +kernel)) rfl
theorem e_69_16 : Df d 69 16 [l0, l1, l2, l3, l4] (.ref a :: st) h nx = (gF h a 7 1).bind fun v => Df d 69 19 [l0, l1, l2, l3, l4] (v :: st) h nx := D_getfield (ins_of mc_69 (pc := 16) (x := (.getfield 15, 3)) (by decide +kernel)) mo_69 (by decide +kernel)
theorem e_69_19 : Df d 69 19 [l0, l1, l2, l3, l4] st h nx = Df d 69 21 [l0, l1, l2, l3, l4] (.int 20 :: st) h nx := D_bipush (ins_of mc_69 (pc := 19) (x := (.bipush 20, 2)) (by decide +kernel)) (by decide)
theorem e_69_21 : Df d 69 21 [l0, l1, l2, l3, l4] (.int y :: .int x :: st) h nx = if x < y then Df d 69 62 [l0, l1, l2, l3, l4] st h nx else Df d 69 24 [l0, l1, l2, l3, l4] st h nx := D_icmp_lt (ins_of mc_69 (pc := 21) (x := (.if_icmp .lt 41, 3)) (by decide +kernel)) (by decide)
theorem e_69_24 : Df d 69 24 [l0, l1, .int x, l3, l4] st h nx = Df d 69 25 [l0, l1, .int x, l3, l4] (.int x :: st) h nx := D_iload_n (ins_of mc_69 (pc := 24) (x := (.iload_n 2, 1)) (by decide +kernel)) rfl
theorem e_69_25 : Df d 69 25 [.ref a, l1, l2, l3, l4] st h nx = Df d 69 26 [.ref a, l1, l2, l3, l4] (.ref a :: st) h nx := D_aload_n (ins_of mc_69 (pc := 25) (x := (.aload_n 0, 1)) (by decide +kernel)) rfl
theorem e_69_26 : Df d 69 26 [l0, l1, l2, l3, l4] (.ref a :: st) h nx = (gF h a 7 2).bind fun v => Df d 69 29 [l0, l1, l2, l3, l4] (v :: st) h nx := D_getfield (ins_of mc_69 (pc := 26) (x := (.getfield 18, 3)) (by decide +kernel)) mo_69 (by decide +kernel)
theorem e_69_29 : Df d 69 29 [l0, l1, l2, l3, l4] [v1, v0] h nx = cn d 69 32 [l0, l1, l2, l3, l4] [] (Dn d 211 [v0, v1] h nx) := D_static (k1 := 211) (kd := 1) (ins_of mc_69 (pc := 29) (x := (.invokestatic 44, 3)) (by decide +kernel)) mo_69 (by decide +kernel) (by decide) rfl (Nat.le_of_ble_eq_true rfl) rfl (Nat.le_of_ble_eq_true rfl) rfl
theorem e_69_32 (hn : nr l3 = true) : Df d 69 32 [l0, l1, l2, l3, l4] (.int x :: st) h nx = Df d 69 33 [l0, l1, l2, .int x, l4] st h nx := D_istore_n (ins_of mc_69 (pc := 32) (x := (.istore_n 3, 1)) (by decide +kernel)) rfl hn rfl
theorem e_69_33 : Df d 69 33 [l0, l1, l2, l3, l4] st h nx = Df d 69 34 [l0, l1, l2, l3, l4] (.int 0 :: st) h nx := D_iconst (ins_of mc_69 (pc := 33) (x := (.iconst 0, 1)) (by decide +kernel)) (by decide)
theorem e_69_34 (hn : nr l4 = true) : Df d 69 34 [l0, l1, l2, l3, l4] (.int x :: st) h nx = Df d 69 36 [l0, l1, l2, l3, .int x] st h nx := D_istore (ins_of mc_69 (pc := 34) (x := (.istore 4, 2)) (by decide +kernel)) rfl hn rfl
theorem e_69_36 : Df d 69 36 [l0, l1, l2, l3, .int x] st h nx = Df d 69 38 [l0, l1, l2, l3, .int x] (.int x :: st) h nx := D_iload (ins_of mc_69 (pc := 36) (x := (.iload 4, 2)) (by decide +kernel)) rfl
theorem e_69_38 : Df d 69 38 [l0, l1, l2, .int x, l4] st h nx = Df d 69 39 [l0, l1, l2, .int x, l4] (.int x :: st) h nx := D_iload_n (ins_of mc_69 (pc := 38) (x := (.iload_n 3, 1)) (by decide +kernel)) rfl
theorem e_69_39 : Df d 69 39 [l0, l1, l2, l3, l4] (.int y :: .int x :: st) h nx = if y ≤ x then Df d 69 52 [l0, l1, l2, l3, l4] st h nx else Df d 69 42 [l0, l1, l2, l3, l4] st h nx := D_icmp_ge (ins_of mc_69 (pc := 39) (x := (.if_icmp .ge 13, 3)) (by decide +kernel)) (by decide)
theorem e_69_42 : Df d 69 42 [.ref a, l1, l2, l3, l4] st h nx = Df d 69 43 [.ref a, l1, l2, l3, l4] (.ref a :: st) h nx := D_aload_n (ins_of mc_69 (pc := 42) (x := (.aload_n 0, 1)) (by decide +kernel)) rfl
theorem e_69_43 : Df d 69 43 [l0, l1, l2, l3, l4] [.ref a] h nx = if ck h a 7 = true then cn d 69 46 [l0, l1, l2, l3, l4] [] (Dn d 68 [.ref a] h nx) else none := D_virtual (k1 := 68) (ins_of mc_69 (pc := 43) (x := (.invokevirtual 41, 3)) (by decide +kernel)) mo_69 (by decide +kernel) (by decide) rfl rfl (by decide) rfl (Nat.le_of_ble_eq_true rfl) rfl
theorem e_69_46 : Df d 69 46 [l0, l1, l2, l3, .int x] st h nx = Df d 69 49 [l0, l1, l2, l3, .int (x + 1)] st h nx := D_iinc (ins_of mc_69 (pc := 46) (x := (.iinc 4 1, 3)) (by decide +kernel)) rfl (by decide) rfl
theorem e_69_49 : Df d 69 49 [l0, l1, l2, l3, l4] st h nx = Df d 69 36 [l0, l1, l2, l3, l4] st h nx := D_goto (ins_of mc_69 (pc := 49) (x := (.goto (-13), 3)) (by decide +kernel)) (by decide)
theorem e_69_52 : Df d 69 52 [.ref a, l1, l2, l3, l4] st h nx = Df d 69 53 [.ref a, l1, l2, l3, l4] (.ref a :: st) h nx := D_aload_n (ins_of mc_69 (pc := 52) (x := (.aload_n 0, 1)) (by decide +kernel)) rfl
theorem e_69_53 (hv : v0.category = 1) : Df d 69 53 [l0, l1, l2, l3, l4] (v0 :: st) h nx = Df d 69 54 [l0, l1, l2, l3, l4] (v0 :: v0 :: st) h nx := D_dup (ins_of mc_69 (pc := 53) (x := (.dup, 1)) (by decide +kernel)) hv
theorem e_69_54 : Df d 69 54 [l0, l1, l2, l3, l4] (.ref a :: st) h nx = (gF h a 7 2).bind fun v => Df d 69 57 [l0, l1, l2, l3, l4] (v :: st) h nx := D_getfield (ins_of mc_69 (pc := 54) (x := (.getfield 18, 3)) (by decide +kernel)) mo_69 (by decide +kernel)
theorem e_69_57 : Df d 69 57 [l0, l1, l2, .int x, l4] st h nx = Df d 69 58 [l0, l1, l2, .int x, l4] (.int x :: st) h nx := D_iload_n (ins_of mc_69 (pc := 57) (x := (.iload_n 3, 1)) (by decide +kernel)) rfl
theorem e_69_58 : Df d 69 58 [l0, l1, l2, l3, l4] (.int y :: .int x :: st) h nx = Df d 69 59 [l0, l1, l2, l3, l4] (.int (x - y) :: st) h nx := D_isub (ins_of mc_69 (pc := 58) (x := (.isub, 1)) (by decide +kernel))
theorem e_69_59 : Df d 69 59 [l0, l1, l2, l3, l4] (.int x :: .ref a :: st) h nx = (pF h a 7 2 (.int x)).bind fun h => Df d 69 62 [l0, l1, l2, l3, l4] st h nx := D_putfield (ins_of mc_69 (pc := 59) (x := (.putfield 18, 3)) (by decide +kernel)) mo_69 (by decide +kernel) rfl (Or.inl rfl)
theorem e_69_62 : Df d 69 62 [l0, l1, l2, l3, l4] [] h nx = some (none, h, nx) := D_return (ins_of mc_69 (pc := 62) (x := (.return_, 1)) (by decide +kernel)) mr_69
theorem mc_70 : mC 70 = prog_9_method_3_code := rfl
theorem mo_70 : mO 70 = 7 := rfl
theorem ml_70 : mL 70 = 2 := rfl
theorem mr_70 : mR 70 = none := rfl
theorem ma_70 : mA 70 = 1 := rfl
theorem e_70_0 : Df d 70 0 [.ref a, l1] st h nx = Df d 70 1 [.ref a, l1] (.ref a :: st) h nx := D_aload_n (ins_of mc_70 (pc := 0) (x := (.aload_n 0, 1)) (by decide +kernel)) rfl
theorem e_70_1 : Df d 70 1 [l0, .ref a] st h nx = Df d 70 2 [l0, .ref a] (.ref a :: st) h nx := D_aload_n (ins_of mc_70 (pc := 1) (x := (.aload_n 1, 1)) (by decide +kernel)) rfl
theorem e_70_2 : Df d 70 2 [l0, l1] (.ref a :: st) h nx = (gF h a 7 0).bind fun v => Df d 70 5 [l0, l1] (v :: st) h nx := D_getfield (ins_of mc_70 (pc := 2) (x := (.getfield 9, 3)) (by decide +kernel)) mo_70 (by decide +kernel)
theorem e_70_5 : Df d 70 5 [l0, l1] (.int x :: .ref a :: st) h nx = (pF h a 7 0 (.int x)).bind fun h => Df d 70 8 [l0, l1] st h nx := D_putfield (ins_of mc_70 (pc := 5) (x := (.putfield 9, 3)) (by decide +kernel)) mo_70 (by decide +kernel) rfl (Or.inl rfl)
theorem e_70_8 : Df d 70 8 [.ref a, l1] st h nx = Df d 70 9 [.ref a, l1] (.ref a :: st) h nx := D_aload_n (ins_of mc_70 (pc := 8) (x := (.aload_n 0, 1)) (by decide +kernel)) rfl
theorem e_70_9 : Df d 70 9 [l0, .ref a] st h nx = Df d 70 10 [l0, .ref a] (.ref a :: st) h nx := D_aload_n (ins_of mc_70 (pc := 9) (x := (.aload_n 1, 1)) (by decide +kernel)) rfl
theorem e_70_10 : Df d 70 10 [l0, l1] (.ref a :: st) h nx = (gF h a 7 1).bind fun v => Df d 70 13 [l0, l1] (v :: st) h nx := D_getfield (ins_of mc_70 (pc := 10) (x := (.getfield 15, 3)) (by decide +kernel)) mo_70 (by decide +kernel)
theorem e_70_13 : Df d 70 13 [l0, l1] (.int x :: .ref a :: st) h nx = (pF h a 7 1 (.int x)).bind fun h => Df d 70 16 [l0, l1] st h nx := D_putfield (ins_of mc_70 (pc := 13) (x := (.putfield 15, 3)) (by decide +kernel)) mo_70 (by decide +kernel) rfl (Or.inl rfl)
theorem e_70_16 : Df d 70 16 [.ref a, l1] st h nx = Df d 70 17 [.ref a, l1] (.ref a :: st) h nx := D_aload_n (ins_of mc_70 (pc := 16) (x := (.aload_n 0, 1)) (by decide +kernel)) rfl
theorem e_70_17 : Df d 70 17 [l0, .ref a] st h nx = Df d 70 18 [l0, .ref a] (.ref a :: st) h nx := D_aload_n (ins_of mc_70 (pc := 17) (x := (.aload_n 1, 1)) (by decide +kernel)) rfl
theorem e_70_18 : Df d 70 18 [l0, l1] (.ref a :: st) h nx = (gF h a 7 2).bind fun v => Df d 70 21 [l0, l1] (v :: st) h nx := D_getfield (ins_of mc_70 (pc := 18) (x := (.getfield 18, 3)) (by decide +kernel)) mo_70 (by decide +kernel)
theorem e_70_21 : Df d 70 21 [l0, l1] (.int x :: .ref a :: st) h nx = (pF h a 7 2 (.int x)).bind fun h => Df d 70 24 [l0, l1] st h nx := D_putfield (ins_of mc_70 (pc := 21) (x := (.putfield 18, 3)) (by decide +kernel)) mo_70 (by decide +kernel) rfl (Or.inl rfl)
theorem e_70_24 : Df d 70 24 [.ref a, l1] st h nx = Df d 70 25 [.ref a, l1] (.ref a :: st) h nx := D_aload_n (ins_of mc_70 (pc := 24) (x := (.aload_n 0, 1)) (by decide +kernel)) rfl
theorem e_70_25 : Df d 70 25 [l0, .ref a] st h nx = Df d 70 26 [l0, .ref a] (.ref a :: st) h nx := D_aload_n (ins_of mc_70 (pc := 25) (x := (.aload_n 1, 1)) (by decide +kernel)) rfl
theorem e_70_26 : Df d 70 26 [l0, l1] (.ref a :: st) h nx = (gF h a 7 3).bind fun v => Df d 70 29 [l0, l1] (v :: st) h nx := D_getfield (ins_of mc_70 (pc := 26) (x := (.getfield 21, 3)) (by decide +kernel)) mo_70 (by decide +kernel)
theorem e_70_29 : Df d 70 29 [l0, l1] (.int x :: .ref a :: st) h nx = (pF h a 7 3 (.int x)).bind fun h => Df d 70 32 [l0, l1] st h nx := D_putfield (ins_of mc_70 (pc := 29) (x := (.putfield 21, 3)) (by decide +kernel)) mo_70 (by decide +kernel) rfl (Or.inl rfl)
theorem e_70_32 : Df d 70 32 [.ref a, l1] st h nx = Df d 70 33 [.ref a, l1] (.ref a :: st) h nx := D_aload_n (ins_of mc_70 (pc := 32) (x := (.aload_n 0, 1)) (by decide +kernel)) rfl
theorem e_70_33 : Df d 70 33 [l0, .ref a] st h nx = Df d 70 34 [l0, .ref a] (.ref a :: st) h nx := D_aload_n (ins_of mc_70 (pc := 33) (x := (.aload_n 1, 1)) (by decide +kernel)) rfl
theorem e_70_34 : Df d 70 34 [l0, l1] (.ref a :: st) h nx = (gF h a 7 4).bind fun v => Df d 70 37 [l0, l1] (v :: st) h nx := D_getfield (ins_of mc_70 (pc := 34) (x := (.getfield 24, 3)) (by decide +kernel)) mo_70 (by decide +kernel)
theorem e_70_37 : Df d 70 37 [l0, l1] (.int x :: .ref a :: st) h nx = (pF h a 7 4 (.int x)).bind fun h => Df d 70 40 [l0, l1] st h nx := D_putfield (ins_of mc_70 (pc := 37) (x := (.putfield 24, 3)) (by decide +kernel)) mo_70 (by decide +kernel) rfl (Or.inl rfl)
theorem e_70_40 : Df d 70 40 [.ref a, l1] st h nx = Df d 70 41 [.ref a, l1] (.ref a :: st) h nx := D_aload_n (ins_of mc_70 (pc := 40) (x := (.aload_n 0, 1)) (by decide +kernel)) rfl
theorem e_70_41 : Df d 70 41 [l0, .ref a] st h nx = Df d 70 42 [l0, .ref a] (.ref a :: st) h nx := D_aload_n (ins_of mc_70 (pc := 41) (x := (.aload_n 1, 1)) (by decide +kernel)) rfl
theorem e_70_42 : Df d 70 42 [l0, l1] (.ref a :: st) h nx = (gF h a 7 5).bind fun v => Df d 70 45 [l0, l1] (v :: st) h nx := D_getfield (ins_of mc_70 (pc := 42) (x := (.getfield 27, 3)) (by decide +kernel)) mo_70 (by decide +kernel)
theorem e_70_45 : Df d 70 45 [l0, l1] (.int x :: .ref a :: st) h nx = if x = 0 ∨ x = 1 then (pF h a 7 5 (.int x)).bind fun h => Df d 70 48 [l0, l1] st h nx else none := D_putbool (ins_of mc_70 (pc := 45) (x := (.putfield 27, 3)) (by decide +kernel)) mo_70 (by decide +kernel) rfl (Or.inl rfl)
theorem e_70_48 : Df d 70 48 [l0, l1] [] h nx = some (none, h, nx) := D_return (ins_of mc_70 (pc := 48) (x := (.return_, 1)) (by decide +kernel)) mr_70
end EE
