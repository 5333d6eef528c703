/-! public methods over the whole heap: walkers, cells -/
section P2
variable {d : Nat} {h : AH} {nx : AN} {b lb i j s n c t g : Nat} {S : CS} {L : LT} {K : Nat → Int32} {D E : DT} {x y z u : Int32} {l1 l2 l3 l4 l5 : Value} {w : Nat → Int32}
/-- an answer: a number, a state behind it -/
def an (x : Int32) (h : AH) (S : CS) (nx : AN) : Option (Option Value × AH × AN) := some (some (.int x), CH h S, nx)
theorem N_join (hs : (zN S).2.2 2 = nI s) (hs10 : s ≤ 10) : Dn (d + 2) 5 [.ref 17, .int x, .int y, .int z] (CH h S) nx = if s = 10 then some (some (.int (-1000000003)), CH h S, nx) else some (some (.int (nI s)), CH h (sN S (jn (zN S) s x y z)), nx) := by
  have e := c_join (d := d) (h := CH h S) (b := 17) (D := zN S) (nx := nx) (x := x) (y := y) (z := z) hs hs10
  rwa [← N_CH, CH_N] at e
theorem P_walker (hs : (zN S).2.2 2 = nI s) (hs10 : s ≤ 10) : Dn (d + 3) 72 [.ref 16, .int x, .int y, .int z] (CH h S) nx = if (0 ≤ x ∧ x ≤ 5) ∧ (0 ≤ y ∧ y ≤ 30) ∧ (0 ≤ z ∧ z ≤ 24) then (if s = 10 then an (-1000000003) h S nx else an (nI s) h (sN S (jn (zN S) s x y z)) nx) else an (-1000000001) h S nx := by
  simp only [n_72, e_72_0, e_72_1, e_72_4, e_72_7, e_72_8, e_72_9, e_72_11, e_72_14, e_72_17, e_72_18, e_72_19, e_72_21, e_72_24, e_72_27, e_72_29, e_72_30, e_72_31, e_72_34, e_72_35, e_72_36, e_72_37, e_72_40, c_isKind, c_within, cn_s, pi_if, gO0, kNc, if_true, Option.bind_some, N_join hs hs10]
  by_cases h1 : 0 ≤ x ∧ x ≤ 5
  · by_cases h2 : 0 ≤ y ∧ y ≤ 30
    · by_cases h3 : 0 ≤ z ∧ z ≤ 24
      · have ha : (0 ≤ x ∧ x ≤ 5) ∧ (0 ≤ y ∧ y ≤ 30) ∧ (0 ≤ z ∧ z ≤ 24) := ⟨h1, h2, h3⟩
        rw [if_pos h1, if_pos h2, if_pos h3, if_pos ha]
        by_cases h4 : s = 10
        · rw [if_pos h4, if_pos h4]
          simp only [cn_s, e_72_0, e_72_1, e_72_4, e_72_7, e_72_8, e_72_9, e_72_11, e_72_14, e_72_17, e_72_18, e_72_19, e_72_21, e_72_24, e_72_27, e_72_29, e_72_30, e_72_31, e_72_34, e_72_35, e_72_36, e_72_37, e_72_40]
          rfl
        · rw [if_neg h4, if_neg h4]
          simp only [cn_s, e_72_0, e_72_1, e_72_4, e_72_7, e_72_8, e_72_9, e_72_11, e_72_14, e_72_17, e_72_18, e_72_19, e_72_21, e_72_24, e_72_27, e_72_29, e_72_30, e_72_31, e_72_34, e_72_35, e_72_36, e_72_37, e_72_40]
          rfl
      · rw [if_pos h1, if_pos h2, if_neg h3, if_neg (fun q => h3 q.2.2)]
        rfl
    · rw [if_pos h1, if_neg h2, if_neg (fun q => h2 q.2.1)]
      rfl
  · rw [if_neg h1, if_neg (fun q => h1 q.1)]
    rfl
theorem P_seed : Dn (d + 1) 83 [.ref 16, .int x] (CH h S) nx = an ((zN S).2.2 11) h (sN S (dq (zN S) 11 x)) nx := by
  simp only [n_83, e_83_0, e_83_1, e_83_4, e_83_7n, e_83_7i, e_83_7r, e_83_8, e_83_9, e_83_12, e_83_13, e_83_16, e_83_17, gO0, gN11, qN11, Option.bind_some]
  rfl
theorem P_as (hs : (zN S).2.2 2 = nI s) (hs10 : s ≤ 10) : Dn (d + 3) 77 [.ref 16, .int x, .int y] (CH h S) nx = if (0 ≤ x ∧ x < nI s) ∧ (0 ≤ y ∧ y ≤ 5) then an (if isu ((zN S).2.1 x.toNatClampNeg 0) y then (zN S).2.1 x.toNatClampNeg 2 else -1000000012) h S nx else an (-1000000001) h S nx := by
  by_cases h1 : 0 ≤ x ∧ x < nI s
  · by_cases h2 : 0 ≤ y ∧ y ≤ 5
    · rw [if_pos ⟨h1, h2⟩]
      obtain ⟨i, hi, rfl⟩ := idx h1 (by omega)
      have hi10 : i < 10 := by omega
      rw [cl_nI (by omega)]
      simp only [n_77, e_77_0, e_77_1, e_77_4, e_77_5, e_77_8, e_77_11, e_77_12, e_77_15, e_77_18, e_77_20, e_77_21, e_77_22, e_77_25, e_77_28, e_77_29, e_77_30n, e_77_30i, e_77_30r, e_77_31, e_77_32, e_77_33, e_77_36, e_77_39, e_77_40, e_77_43, e_77_46, e_77_48, c_isKind, cn_s, pi_if, gO0, gN1, rNr hi10, kNc, kNw hi10, gNw2 hi10, N_isOf hi10, N_has hs hs10, if_true, Option.bind_some]
      rw [if_pos h1, if_pos h2]
      by_cases h3 : isu ((zN S).2.1 i 0) y
      · rw [if_pos h3, if_pos h3]; rfl
      · rw [if_neg h3, if_neg h3]; rfl
    · rw [if_neg (fun q => h2 q.2)]
      simp only [n_77, e_77_0, e_77_1, e_77_4, e_77_5, e_77_8, e_77_11, e_77_12, e_77_15, e_77_18, e_77_20, c_isKind, cn_s, pi_if, gO0, kNc, N_has hs hs10, if_true, Option.bind_some]
      rw [if_pos h1, if_neg h2]; rfl
  · rw [if_neg (fun q => h1 q.1)]
    simp only [n_77, e_77_0, e_77_1, e_77_4, e_77_5, e_77_8, e_77_11, e_77_12, e_77_15, e_77_18, e_77_20, c_isKind, cn_s, pi_if, gO0, kNc, N_has hs hs10, if_true, Option.bind_some]
    rw [if_neg h1]; rfl
theorem P_turns (hs : (zN S).2.2 2 = nI s) (hs10 : s ≤ 10) : Dn (d + 3) 78 [.ref 16, .int x, .int y] (CH h S) nx = if (0 ≤ x ∧ x < nI s) ∧ (0 ≤ y ∧ y ≤ 5) then an ((zN S).2.1 x.toNatClampNeg 0) h (sN S (dW (zN S) x.toNatClampNeg (upd ((zN S).2.1 x.toNatClampNeg) 0 y))) nx else an (-1000000001) h S nx := by
  by_cases h1 : 0 ≤ x ∧ x < nI s
  · by_cases h2 : 0 ≤ y ∧ y ≤ 5
    · rw [if_pos ⟨h1, h2⟩]
      obtain ⟨i, hi, rfl⟩ := idx h1 (by omega)
      have hi10 : i < 10 := by omega
      rw [cl_nI (by omega)]
      simp only [n_78, e_78_0, e_78_1, e_78_4, e_78_5, e_78_8, e_78_11, e_78_12, e_78_15, e_78_18, e_78_20, e_78_21, e_78_22, e_78_25, e_78_28, e_78_29, e_78_30n, e_78_30i, e_78_30r, e_78_31, e_78_32, e_78_35n, e_78_35i, e_78_35r, e_78_37, e_78_38, e_78_39, e_78_42, e_78_44, c_isKind, cn_s, pi_if, gO0, gN1, rNr hi10, kNc, gNw0 hi10, qNw0 hi10, N_has hs hs10, if_true, Option.bind_some]
      rw [if_pos h1, if_pos h2]
      rfl
    · rw [if_neg (fun q => h2 q.2)]
      simp only [n_78, e_78_0, e_78_1, e_78_4, e_78_5, e_78_8, e_78_11, e_78_12, e_78_15, e_78_18, e_78_20, c_isKind, cn_s, pi_if, gO0, kNc, N_has hs hs10, if_true, Option.bind_some]
      rw [if_pos h1, if_neg h2]; rfl
  · rw [if_neg (fun q => h1 q.1)]
    simp only [n_78, e_78_0, e_78_1, e_78_4, e_78_5, e_78_8, e_78_11, e_78_12, e_78_15, e_78_18, e_78_20, c_isKind, cn_s, pi_if, gO0, kNc, N_has hs hs10, if_true, Option.bind_some]
    rw [if_neg h1]; rfl
theorem idxle {m : Nat} (hx : 0 ≤ x ∧ x ≤ nI m) (hm : m < 2147483647) : ∃ i, i ≤ m ∧ x = nI i := by
  have h1 : x < nI (m + 1) := Int32.lt_of_le_of_lt hx.2 (nI_lt (by omega) (by omega))
  obtain ⟨i, hi, e⟩ := idx ⟨hx.1, h1⟩ (by omega)
  exact ⟨i, by omega, e⟩
theorem P_water : Dn (d + 2) 80 [.ref 16, .int x, .int y] (CH h S) nx = if (0 ≤ x ∧ x ≤ 23) ∧ (0 ≤ y ∧ y ≤ 99) then an ((zN S).1 x.toNatClampNeg) h (sN S (dwt (zN S) x.toNatClampNeg y)) nx else an (-1000000001) h S nx := by
  by_cases h1 : 0 ≤ x ∧ x ≤ 23
  · by_cases h2 : 0 ≤ y ∧ y ≤ 99
    · rw [if_pos ⟨h1, h2⟩]
      obtain ⟨i, hi, rfl⟩ := idxle (m := 23) h1 (by omega)
      have hi10 : i < 24 := by omega
      rw [cl_nI (by omega)]
      simp only [n_80, e_80_0, e_80_1, e_80_2, e_80_4, e_80_7, e_80_10, e_80_11, e_80_12, e_80_14, e_80_17, e_80_20, e_80_22, e_80_23, e_80_24, e_80_27, e_80_30, e_80_31, e_80_32n, e_80_32i, e_80_32r, e_80_33, e_80_34, e_80_37, e_80_40, e_80_41, e_80_42, e_80_43, e_80_44, c_within, cn_s, pi_if, gO0, gN0, rNx hi10, wNx hi10, kNc, if_true, Option.bind_some]
      rw [if_pos h1, if_pos h2]
      rfl
    · rw [if_neg (fun q => h2 q.2)]
      simp only [n_80, e_80_0, e_80_1, e_80_2, e_80_4, e_80_7, e_80_10, e_80_11, e_80_12, e_80_14, e_80_17, e_80_20, e_80_22, e_80_23, c_within, cn_s, pi_if, if_true, Option.bind_some]
      rw [if_pos h1, if_neg h2]; rfl
  · rw [if_neg (fun q => h1 q.1)]
    simp only [n_80, e_80_0, e_80_1, e_80_2, e_80_4, e_80_7, e_80_10, e_80_11, e_80_12, e_80_14, e_80_17, e_80_20, e_80_22, e_80_23, c_within, cn_s, pi_if, if_true, Option.bind_some]
    rw [if_neg h1]; rfl
theorem P_band (hs : (zN S).2.2 2 = nI s) (hs10 : s ≤ 10) : Dn (d + 2) 86 [.ref 16, .int x] (CH h S) nx = an (if x = 0 then (zN S).2.2 3 else if x = 1 then (if oi (ldr (zN S).2.1 s) = -1 then -1000000005 else oi (ldr (zN S).2.1 s)) else if x = 2 then (zN S).2.2 8 else if x = 3 then (zN S).2.2 9 else if x = 4 then lvg (zN S).2.1 s else if x = 5 then tht (zN S).2.1 s else if x = 6 then wls (zN S).1 24 else -1000000001) h S nx := by
  simp only [n_86, e_86_0, e_86_1, e_86_44, e_86_45, e_86_48, e_86_51, e_86_52, e_86_53, e_86_56, e_86_59, e_86_60, e_86_63, e_86_65, e_86_68, e_86_69, e_86_72, e_86_75, e_86_76, e_86_77, e_86_80, e_86_83, e_86_84, e_86_85, e_86_88, e_86_91, e_86_92, e_86_93, e_86_96, e_86_99, e_86_100, e_86_101, e_86_104, e_86_107, e_86_108, e_86_109, e_86_112, e_86_115, e_86_116, e_86_118, cn_s, gO0, gN3, gN8, gN9, kNc, N_leader hs hs10, N_living hs hs10, N_tht hs hs10, N_wells, if_true, Option.bind_some]
  unfold an
  repeat' split
  all_goals first | rfl | contradiction
theorem P_count : Dn (d + 1) 120 [.ref 16, .int x] (CH h S) nx = an (if x = 0 then (zN S).2.2 2 else if x = 1 then (zN S).2.2 10 else if x = 2 then (zN S).2.2 4 else if x = 3 then (zN S).2.2 5 else if x = 4 then (zN S).2.2 6 else if x = 5 then (zN S).2.2 7 else if x = 6 then (zN S).2.2 12 else if x = 7 then zO S 9 else if x = 8 then (zR S).1 1 else if x = 9 then (zN S).2.2 11 else -1000000001) h S nx := by
  have g1 : gF (CH h S) 88 4 1 = some (.int ((zR S).1 1)) := rfl
  simp only [n_120, e_120_0, e_120_1, e_120_56, e_120_57, e_120_60, e_120_63, e_120_64, e_120_65, e_120_68, e_120_71, e_120_72, e_120_73, e_120_76, e_120_79, e_120_80, e_120_81, e_120_84, e_120_87, e_120_88, e_120_89, e_120_92, e_120_95, e_120_96, e_120_97, e_120_100, e_120_103, e_120_104, e_120_105, e_120_108, e_120_111, e_120_112, e_120_113, e_120_116, e_120_117, e_120_118, e_120_121, e_120_124, e_120_125, e_120_126, e_120_129, e_120_132, e_120_133, e_120_135, gO0, gO5, gO9, gN2, gN4, gN5, gN6, gN7, gN10, gN11, gN12, g1, Option.bind_some]
  unfold an
  repeat' split
  all_goals first | rfl | contradiction
end P2
