/-! the model's public methods: copy, lay, ask, item, rest -/
/-- a slot as the model holds it -/
def rP1 (q : (Nat → Int32) × (Nat → Int32) × (Nat → Int32)) (M : MS) (i : Nat) : Prop := M.2 139 i = q.2.2 3 ∧ (q.2.2 3 = 0 ∨ q.2.2 3 = 1 ∨ q.2.2 3 = 2 ∨ q.2.2 3 = 3) ∧ (q.2.2 3 = 1 → M.2 140 i = q.1 0 ∧ M.2 141 i = wth (q.1 0) (q.1 2)) ∧ (q.2.2 3 = 2 → M.2 140 i = q.2.2 2 ∧ ∀ k, k < 24 → M.2 142 (24 * i + k) = q.2.1 k) ∧ (q.2.2 3 = 3 → M.2 140 i = q.2.2 4) ∧ ∃ m, q.2.2 2 = nI m ∧ m ≤ 24
def rSl (Sl : SlT) (M : MS) : Prop := ∀ i, i < 5 → rP1 (Sl i) M i
section MS3
variable {d : Nat} {h : AH} {nx : AN} {M M' : MS} {D N : DT} {s H i j c a k n g t m b : Nat} {x y z u v : Int32} {a0 f w : Nat → Int32} {K : (Nat → Int32) × (Nat → Int32)} {l1 l2 l3 l4 l5 l6 : Value} {L : LT} {Sh : ShT} {Sl : SlT} {as : List Nat}
theorem hrP_iff (h0 : 0 ≤ y) (h1 : 0 ≤ v) (hm : m ≤ 24) : hrP y v (nI m) ↔ y ≤ nI m - v := by
  constructor
  · exact fun q => q.2.2.2
  · intro q
    refine ⟨h0, h1, ?_, q⟩
    have e0 : (0 : Int32).toInt = 0 := by decide
    have hv := Int32.toInt_lt v
    rw [Int32.le_iff_toInt_le, e0] at h0 h1
    rw [Int32.le_iff_toInt_le, Int32.toInt_sub, nI_toInt (by omega), Int.bmod_eq_of_le (by omega) (by omega)] at q
    rw [Int32.le_iff_toInt_le, nI_toInt (by omega)]
    omega
theorem move_loop (hi : i < 4) (ha : a + n ≤ 24) (r : Nat) : ∀ (k : Nat), k + r = n → Df d 199 104 [.ref 123, .int (nI i), .int (nI a), l3, l4, .int (nI n), .int (nI k)] [] (MX h (sA M 143 (cpo 0 k (fun q => M.2 138 (24 * i + a + q)) f)) K D s a0) nx = Df d 199 138 [.ref 123, .int (nI i), .int (nI a), l3, l4, .int (nI n), .int (nI n)] [] (MX h (sA M 143 (cpo 0 n (fun q => M.2 138 (24 * i + a + q)) f)) K D s a0) nx := by
  induction r with
  | zero =>
    intro k hk
    obtain rfl : k = n := by omega
    rw [e_199_104]
    simp only [e_199_106, e_199_108]
    rw [if_pos (nI_le (Nat.le_refl _) (by omega))]
  | succ r ih =>
    intro k hk
    have e138 : (sA M 143 (cpo 0 k (fun q => M.2 138 (24 * i + a + q)) f)).2 138 = M.2 138 := sA_o (by omega)
    have w := wx143 (h := h) (M := sA M 143 (cpo 0 k (fun q => M.2 138 (24 * i + a + q)) f)) (K := K) (D := D) (s := s) (a0 := a0) (i := k) (x := M.2 138 (24 * i + a + k)) (by omega)
    have cs := cpo_s (k := k) (f := fun q => M.2 138 (24 * i + a + q)) (w := f) (b := 0)
    rw [Nat.zero_add] at cs
    rw [sA_2, sA_s, cs] at w
    rw [e_199_104]
    simp only [e_199_106, e_199_108, e_199_111, e_199_112, e_199_115, e_199_117, e_199_118, e_199_121, e_199_123, e_199_124, e_199_125, e_199_126, e_199_127, e_199_129, e_199_130, e_199_131, e_199_132, e_199_135, gX26, gX31, ix24, nI_p, rx138 (show 24 * i + a + k < 96 by omega), e138, w, Option.bind_some, nI_1]
    rw [if_neg (nI_ge (by omega) (by omega))]
    exact ih (k + 1) (by omega)
theorem place_loop (hj : j < 4) (hb : b + n ≤ 24) (hf : ∀ q, q < n → M.2 143 q = f q) (r : Nat) : ∀ (k : Nat), k + r = n → Df d 199 141 [.ref 123, l1, l2, .int (nI j), .int (nI b), .int (nI n), .int (nI k)] [] (MX h (sA M 138 (cpo (24 * j + b) k f w)) K D s a0) nx = am (nI n) h (sA M 138 (cpo (24 * j + b) n f w)) K D s a0 nx := by
  induction r with
  | zero =>
    intro k hk
    obtain rfl : k = n := by omega
    rw [e_199_141]
    simp only [e_199_143, e_199_145, e_199_176, e_199_178]
    rw [if_pos (nI_le (Nat.le_refl _) (by omega))]
    rfl
  | succ r ih =>
    intro k hk
    have e143 : (sA M 138 (cpo (24 * j + b) k f w)).2 143 = M.2 143 := sA_o (by omega)
    have wr := wx138 (h := h) (M := sA M 138 (cpo (24 * j + b) k f w)) (K := K) (D := D) (s := s) (a0 := a0) (i := 24 * j + b + k) (x := f k) (by omega)
    rw [sA_2, sA_s, cpo_s] at wr
    rw [e_199_141]
    simp only [e_199_143, e_199_145, e_199_148, e_199_149, e_199_152, e_199_154, e_199_155, e_199_156, e_199_158, e_199_159, e_199_161, e_199_162, e_199_163, e_199_166, e_199_168, e_199_169, e_199_170, e_199_173, gX26, gX31, ix24, nI_p, rx143 (show k < 24 by omega), e143, hf k (by omega), wr, Option.bind_some, nI_1]
    rw [if_neg (nI_ge (by omega) (by omega))]
    exact ih (k + 1) (by omega)
theorem Q_copy (hS : rSh Sh M) : ∃ M', frM [138, 143] M M' ∧ (Dn (d + 3) 199 [.ref 123, .int x, .int y, .int z, .int u, .int v] (MX h M K D s a0) nx = if (0 ≤ x ∧ x ≤ 3) ∧ (0 ≤ z ∧ z ≤ 3) then (match cyF (Sh x.toNatClampNeg) (Sh z.toNatClampNeg) y u v with
    | some r => am r h M K D s a0 nx
    | none => am v h M' K D s a0 nx) else am (-1000000001) h M K D s a0 nx) ∧ ((0 ≤ x ∧ x ≤ 3) ∧ (0 ≤ z ∧ z ≤ 3) → cyF (Sh x.toNatClampNeg) (Sh z.toNatClampNeg) y u v = none → rSh (upH Sh z.toNatClampNeg (va_cpy (Sh x.toNatClampNeg).1 (Sh z.toNatClampNeg).1 y.toNatClampNeg u.toNatClampNeg v.toNatClampNeg, (Sh z.toNatClampNeg).2)) M') := by
  by_cases h1 : 0 ≤ x ∧ x ≤ 3
  · by_cases h2 : 0 ≤ z ∧ z ≤ 3
    · obtain ⟨i, hi, rfl⟩ := idxle (m := 3) h1 (by omega)
      obtain ⟨j, hj, rfl⟩ := idxle (m := 3) h2 (by omega)
      have hi4 : i < 4 := by omega
      have hj4 : j < 4 := by omega
      rw [cl_nI (by omega), cl_nI (by omega)]
      obtain ⟨b1, b2, b3, ⟨m, b4, hm⟩, b5⟩ := hS i hi4
      obtain ⟨p1, p2, p3, ⟨m2, p4, hm2⟩, p5⟩ := hS j hj4
      obtain ⟨g1, g2⟩ := sort_ge b2
      obtain ⟨q1, q2⟩ := sort_ge p2
      have hcc : (0 ≤ nI i ∧ nI i ≤ 3) ∧ (0 ≤ nI j ∧ nI j ≤ 3) := ⟨h1, h2⟩
      have pre : Dn (d + 3) 199 [.ref 123, .int (nI i), .int y, .int (nI j), .int u, .int v] (MX h M K D s a0) nx = if (Sh i).2 1 = -1 ∨ (Sh j).2 1 = -1 then am (-1000000011) h M K D s a0 nx else if (Sh i).2 1 = (Sh j).2 1 then (if hrP y v ((Sh i).2 2) ∧ hrP u v ((Sh j).2 2) then Df (d + 2) 199 101 [.ref 123, .int (nI i), .int y, .int (nI j), .int u, .int v, .null] [] (MX h M K D s a0) nx else am (-1000000013) h M K D s a0 nx) else am (-1000000012) h M K D s a0 nx := by
        simp only [n_199, e_199_0, e_199_1, e_199_4, e_199_7, e_199_8, e_199_11, e_199_14, e_199_16, e_199_17, e_199_18, e_199_21, e_199_22, e_199_23, e_199_26, e_199_27, e_199_30, e_199_31, e_199_32, e_199_35, e_199_37, e_199_38, e_199_39, e_199_42, e_199_43, e_199_44, e_199_45, e_199_48, e_199_49, e_199_50, e_199_53, e_199_55, e_199_56, e_199_57, e_199_60, e_199_62, e_199_65, e_199_67, e_199_70, e_199_71, e_199_72, e_199_75, e_199_76, e_199_77, e_199_79, e_199_80, e_199_83, e_199_85, e_199_86, e_199_89, e_199_90, e_199_91, e_199_93, e_199_94, e_199_97, e_199_100, c_misSheet, cn_s, pi_if, gX24, gX25, rx136 hi4, rx136 hj4, rx137 hi4, rx137 hj4, b1, p1, b3, p3, Option.bind_some]
        rw [if_pos h1, if_pos h2]
        by_cases c1 : (Sh i).2 1 = -1
        · rw [if_pos (g2.mpr c1), if_pos (Or.inl c1)]; rfl
        rw [if_neg (fun q => c1 (g2.mp q))]
        by_cases c2 : (Sh j).2 1 = -1
        · rw [if_neg (fun q => q1.mp q c2), if_pos (Or.inr c2)]; rfl
        have c12 : ¬ ((Sh i).2 1 = -1 ∨ (Sh j).2 1 = -1) := fun q => q.elim c1 c2
        rw [if_pos (q1.mpr c2), if_neg c12]
        by_cases c3 : (Sh i).2 1 = (Sh j).2 1
        · rw [if_pos c3, if_pos c3, b4, p4]
          by_cases d1 : y < 0
          · have : ¬ (hrP y v (nI m) ∧ hrP u v (nI m2)) := fun q => (by have := q.1.1; rw [← i_nlt] at this; exact this d1)
            rw [if_pos d1, if_neg this]; rfl
          have d1' : 0 ≤ y := by rw [← i_nlt]; exact d1
          rw [if_neg d1]
          by_cases d2 : u < 0
          · have : ¬ (hrP y v (nI m) ∧ hrP u v (nI m2)) := fun q => (by have := q.2.1; rw [← i_nlt] at this; exact this d2)
            rw [if_pos d2, if_neg this]; rfl
          have d2' : 0 ≤ u := by rw [← i_nlt]; exact d2
          rw [if_neg d2]
          by_cases d3 : v < 0
          · have : ¬ (hrP y v (nI m) ∧ hrP u v (nI m2)) := fun q => (by have := q.2.2.1; rw [← i_nlt] at this; exact this d3)
            rw [if_pos d3, if_neg this]; rfl
          have d3' : 0 ≤ v := by rw [← i_nlt]; exact d3
          rw [if_neg d3]
          by_cases d4 : nI m - v < y
          · have : ¬ (hrP y v (nI m) ∧ hrP u v (nI m2)) := fun q => (by have := q.1.2.2.2; rw [← i_nlt] at this; exact this d4)
            rw [if_pos d4, if_neg this]; rfl
          have d4' := (hrP_iff d1' d3' hm).mpr (by rw [← i_nlt]; exact d4)
          rw [if_neg d4]
          by_cases d5 : u ≤ nI m2 - v
          · have : hrP y v (nI m) ∧ hrP u v (nI m2) := ⟨d4', (hrP_iff d2' d3' hm2).mpr d5⟩
            rw [if_pos d5, if_pos this]
          · have : ¬ (hrP y v (nI m) ∧ hrP u v (nI m2)) := fun q => d5 q.2.2.2.2
            rw [if_neg d5, if_neg this]; rfl
        · rw [if_neg c3, if_neg c3]; rfl
      by_cases hc : cyF (Sh i) (Sh j) y u v = none
      · have hcond : ¬ ((Sh i).2 1 = -1 ∨ (Sh j).2 1 = -1) ∧ (Sh i).2 1 = (Sh j).2 1 ∧ hrP y v ((Sh i).2 2) ∧ hrP u v ((Sh j).2 2) := by
          unfold cyF at hc
          by_cases c1 : (Sh i).2 1 = -1 ∨ (Sh j).2 1 = -1
          · rw [if_pos c1] at hc; cases hc
          rw [if_neg c1] at hc
          by_cases c2 : (Sh i).2 1 = (Sh j).2 1
          · rw [if_pos c2] at hc
            by_cases c3 : hrP y v ((Sh i).2 2) ∧ hrP u v ((Sh j).2 2)
            · exact ⟨c1, c2, c3⟩
            · rw [if_neg c3] at hc; cases hc
          · rw [if_neg c2] at hc; cases hc
        obtain ⟨k1, k2, k3⟩ := hcond
        have k3' := k3
        rw [b4, p4] at k3'
        obtain ⟨a, n, rfl, rfl, ha⟩ := hr_nat hm k3'.1
        obtain ⟨b, n', rfl, e, hb⟩ := hr_nat hm2 k3'.2
        have e : n = n' := (nI_eq (by omega) (by omega)).mp e
        subst e
        rw [cl_nI (by omega), cl_nI (by omega), cl_nI (by omega)]
        let M1 := sA M 143 (cpo 0 n (fun q => M.2 138 (24 * i + a + q)) (M.2 143))
        have hM1 : M1 = sA M 143 (cpo 0 n (fun q => M.2 138 (24 * i + a + q)) (M.2 143)) := rfl
        have lp1 := move_loop (d := d + 2) (h := h) (nx := nx) (M := M) (K := K) (D := D) (s := s) (a0 := a0) (f := M.2 143) (l3 := .int (nI j)) (l4 := .int (nI b)) hi4 (show a + n ≤ 24 by omega) n 0 (by omega)
        rw [cpo_0, sA_id, ← hM1, show nI 0 = 0 from rfl] at lp1
        have lp2 := place_loop (d := d + 2) (h := h) (nx := nx) (M := M1) (K := K) (D := D) (s := s) (a0 := a0) (f := fun q => M.2 138 (24 * i + a + q)) (w := M1.2 138) (l1 := .int (nI i)) (l2 := .int (nI a)) hj4 (show b + n ≤ 24 by omega) (fun q hq => by
          rw [hM1, sA_s]
          unfold cpo
          rw [if_pos (by omega), Nat.sub_zero]) n 0 (by omega)
        rw [cpo_0, sA_id, show nI 0 = 0 from rfl] at lp2
        refine ⟨sA M1 138 (cpo (24 * j + b) n (fun q => M.2 138 (24 * i + a + q)) (M1.2 138)), (frM.refl.sA (by simp)).sA (by simp), ?_, fun _ _ => ?_⟩
        · rw [if_pos hcc, hc, pre, if_neg k1, if_pos k2, if_pos k3]
          simp only [e_199_101, e_199_102n, e_199_102i, e_199_102r]
          rw [lp1]
          simp only [e_199_138, e_199_139n, e_199_139i, e_199_139r]
          exact lp2
        · intro q hq
          obtain ⟨r1, r2, r3, r4, r5⟩ := hS q hq
          have a136 : (sA M1 138 (cpo (24 * j + b) n (fun q => M.2 138 (24 * i + a + q)) (M1.2 138))).2 136 = M.2 136 := by rw [sA_o (by omega), hM1, sA_o (by omega)]
          have a137 : (sA M1 138 (cpo (24 * j + b) n (fun q => M.2 138 (24 * i + a + q)) (M1.2 138))).2 137 = M.2 137 := by rw [sA_o (by omega), hM1, sA_o (by omega)]
          have a138 : (sA M1 138 (cpo (24 * j + b) n (fun q => M.2 138 (24 * i + a + q)) (M1.2 138))).2 138 = cpo (24 * j + b) n (fun q => M.2 138 (24 * i + a + q)) (M.2 138) := by rw [sA_s, hM1, sA_o (by omega)]
          unfold rS1
          rw [a136, a137, a138]
          by_cases e : q = j
          · subst e
            rw [upH_s]
            refine ⟨r1, r2, r3, r4, fun k hk => ?_⟩
            dsimp only
            unfold cpo va_cpy
            by_cases e2 : b ≤ k ∧ k < b + n
            · rw [if_pos (by omega), if_pos e2]
              have := b5 (a + (k - b)) (by omega)
              dsimp only
              rw [show 24 * i + a + (24 * q + k - (24 * q + b)) = 24 * i + (a + (k - b)) by omega]
              exact this
            · rw [if_neg (by omega), if_neg e2]
              exact r5 k hk
          · rw [show upH Sh j (va_cpy (Sh i).1 (Sh j).1 a b n, (Sh j).2) q = Sh q from if_neg e]
            refine ⟨r1, r2, r3, r4, fun k hk => ?_⟩
            rw [show cpo (24 * j + b) n (fun q => M.2 138 (24 * i + a + q)) (M.2 138) (24 * q + k) = M.2 138 (24 * q + k) from if_neg (by omega)]
            exact r5 k hk
      · refine ⟨M, frM.refl, ?_, fun _ q => absurd q hc⟩
        rw [if_pos hcc, pre]
        unfold cyF at hc ⊢
        by_cases c1 : (Sh i).2 1 = -1 ∨ (Sh j).2 1 = -1
        · rw [if_pos c1, if_pos c1]
        rw [if_neg c1] at hc ⊢
        rw [if_neg c1]
        by_cases c2 : (Sh i).2 1 = (Sh j).2 1
        · rw [if_pos c2] at hc ⊢
          rw [if_pos c2]
          by_cases c3 : hrP y v ((Sh i).2 2) ∧ hrP u v ((Sh j).2 2)
          · rw [if_pos c3] at hc; exact absurd rfl hc
          · rw [if_neg c3, if_neg c3]
        · rw [if_neg c2, if_neg c2]
    · refine ⟨M, frM.refl, ?_, fun q => absurd q.2 h2⟩
      rw [if_neg (fun q => h2 q.2)]
      simp only [n_199, e_199_0, e_199_1, e_199_4, e_199_7, e_199_8, e_199_11, e_199_14, e_199_16, c_misSheet, cn_s, pi_if]
      rw [if_pos h1, if_neg h2]; rfl
  · refine ⟨M, frM.refl, ?_, fun q => absurd q.1 h1⟩
    rw [if_neg (fun q => h1 q.1)]
    simp only [n_199, e_199_0, e_199_1, e_199_4, e_199_7, e_199_8, e_199_11, e_199_14, e_199_16, c_misSheet, cn_s, pi_if]
    rw [if_neg h1]; rfl
theorem gX27 : gF (MX h M K D s a0) 123 9 27 = some (.ref 139) := rfl
theorem gX28 : gF (MX h M K D s a0) 123 9 28 = some (.ref 140) := rfl
theorem gX29 : gF (MX h M K D s a0) 123 9 29 = some (.ref 141) := rfl
theorem gX30 : gF (MX h M K D s a0) 123 9 30 = some (.ref 142) := rfl
theorem rx139 (hi : i < 5) : rX (MX h M K D s a0) 139 (nI i) = some (M.2 139 i) := rxM (by omega) (by omega) rfl (show i < 5 from hi) (by decide)
theorem rx140 (hi : i < 5) : rX (MX h M K D s a0) 140 (nI i) = some (M.2 140 i) := rxM (by omega) (by omega) rfl (show i < 5 from hi) (by decide)
theorem rx141 (hi : i < 5) : rX (MX h M K D s a0) 141 (nI i) = some (M.2 141 i) := rxM (by omega) (by omega) rfl (show i < 5 from hi) (by decide)
theorem rx142 (hi : i < 120) : rX (MX h M K D s a0) 142 (nI i) = some (M.2 142 i) := rxM (by omega) (by omega) rfl (show i < 120 from hi) (by decide)
theorem wx139 (hi : i < 5) : wI (MX h M K D s a0) 139 (nI i) 0 x = some (MX h (sA M 139 (upd (M.2 139) i x)) K D s a0) := wxM (by omega) (by omega) rfl (show i < 5 from hi) (by decide)
theorem wx140 (hi : i < 5) : wI (MX h M K D s a0) 140 (nI i) 0 x = some (MX h (sA M 140 (upd (M.2 140) i x)) K D s a0) := wxM (by omega) (by omega) rfl (show i < 5 from hi) (by decide)
theorem wx141 (hi : i < 5) : wI (MX h M K D s a0) 141 (nI i) 0 x = some (MX h (sA M 141 (upd (M.2 141) i x)) K D s a0) := wxM (by omega) (by omega) rfl (show i < 5 from hi) (by decide)
theorem wx142 (hi : i < 120) : wI (MX h M K D s a0) 142 (nI i) 0 x = some (MX h (sA M 142 (upd (M.2 142) i x)) K D s a0) := wxM (by omega) (by omega) rfl (show i < 120 from hi) (by decide)
theorem Q_ask (hP : rSl Sl M) : Dn (d + 3) 202 [.ref 123, .int x, .int y] (MX h M K D s a0) nx = am (if (0 ≤ x ∧ x ≤ 4) ∧ (0 ≤ y ∧ y ≤ 5) then (if (Sl x.toNatClampNeg).2.2 3 = 0 then -1000000011 else if (Sl x.toNatClampNeg).2.2 3 = 1 then (if isu ((Sl x.toNatClampNeg).1 0) y then wth ((Sl x.toNatClampNeg).1 0) ((Sl x.toNatClampNeg).1 2) else -1000000012) else -1000000012) else -1000000001) h M K D s a0 nx := by
  by_cases h1 : 0 ≤ x ∧ x ≤ 4
  · obtain ⟨i, hi, rfl⟩ := idxle (m := 4) h1 (by omega)
    have hi5 : i < 5 := by omega
    rw [cl_nI (by omega)]
    obtain ⟨b1, b2, b3, b4, b5, b6⟩ := hP i hi5
    simp only [n_202, e_202_0, e_202_1, e_202_4, e_202_7, e_202_8, e_202_9, e_202_10, e_202_13, e_202_16, e_202_18, e_202_19, e_202_20, e_202_23, e_202_24, e_202_25, e_202_28, e_202_30, e_202_31, e_202_32, e_202_35, e_202_36, e_202_37, e_202_38, e_202_41, e_202_42, e_202_45, e_202_46, e_202_47, e_202_48, e_202_51, e_202_54, e_202_55, e_202_58, e_202_59, e_202_60, e_202_63, e_202_65, c_misSlot, c_min_in, c_isUnder, cn_s, pi_if, gX27, gX28, gX29, rx139 hi5, rx140 hi5, rx141 hi5, b1, Option.bind_some]
    by_cases h2 : 0 ≤ y ∧ y ≤ 5
    · rw [if_pos h1, if_pos h2, if_pos (show (0 ≤ nI i ∧ nI i ≤ 4) ∧ (0 ≤ y ∧ y ≤ 5) from ⟨h1, h2⟩)]
      by_cases c0 : (Sl i).2.2 3 = 0
      · rw [if_pos c0, if_pos c0]; rfl
      rw [if_neg c0, if_neg c0]
      by_cases c1 : (Sl i).2.2 3 = 1
      · obtain ⟨e1, e2⟩ := b3 c1
        rw [if_pos c1, if_pos c1, e1, e2]
        by_cases c2 : isu ((Sl i).1 0) y
        · rw [if_pos c2, if_pos c2]; rfl
        · rw [if_neg c2, if_neg c2]; rfl
      · rw [if_neg c1, if_neg c1]; rfl
    · rw [if_pos h1, if_neg h2, if_neg (fun q => h2 q.2)]; rfl
  · rw [if_neg (fun q => h1 q.1)]
    simp only [n_202, e_202_0, e_202_1, e_202_4, e_202_16, e_202_18, c_misSlot, cn_s, pi_if]
    rw [if_neg h1]; rfl
theorem Q_item (hP : rSl Sl M) : Dn (d + 3) 203 [.ref 123, .int x, .int y] (MX h M K D s a0) nx = am (if 0 ≤ x ∧ x ≤ 4 then itF (Sl x.toNatClampNeg) y else -1000000001) h M K D s a0 nx := by
  by_cases h1 : 0 ≤ x ∧ x ≤ 4
  · obtain ⟨i, hi, rfl⟩ := idxle (m := 4) h1 (by omega)
    have hi5 : i < 5 := by omega
    rw [cl_nI (by omega), if_pos h1]
    obtain ⟨b1, b2, b3, b4, b5, m, b6, hm⟩ := hP i hi5
    unfold itF
    by_cases c0 : (Sl i).2.2 3 = 0
    · rw [if_pos c0]
      simp only [n_203, e_203_0, e_203_1, e_203_4, e_203_7, e_203_9, e_203_10, e_203_11, e_203_14, e_203_15, e_203_16, e_203_19, e_203_21, c_misSlot, cn_s, pi_if, gX27, rx139 hi5, b1, Option.bind_some]
      rw [if_pos h1, if_pos c0]; rfl
    rw [if_neg c0]
    by_cases c2 : (Sl i).2.2 3 = 2
    · obtain ⟨e1, e2⟩ := b4 c2
      rw [if_pos c2, b6]
      by_cases c3 : 0 ≤ y ∧ y < nI m
      · rw [if_pos c3]
        obtain ⟨k, hk, rfl⟩ := idx c3 (by omega)
        rw [cl_nI (by omega)]
        simp only [n_203, e_203_0, e_203_1, e_203_4, e_203_7, e_203_9, e_203_10, e_203_11, e_203_14, e_203_15, e_203_16, e_203_19, e_203_21, e_203_22, e_203_23, e_203_26, e_203_27, e_203_28, e_203_29, e_203_32, e_203_34, e_203_35, e_203_36, e_203_37, e_203_38, e_203_41, e_203_42, e_203_43, e_203_44, e_203_45, e_203_48, e_203_51, e_203_54, e_203_55, e_203_56, e_203_59, e_203_61, e_203_62, e_203_63, e_203_64, e_203_65, e_203_66n, e_203_66i, e_203_66r, e_203_67, e_203_68, e_203_70, e_203_73, e_203_75, e_203_78, e_203_79, c_misSlot, c_min_in, cn_s, pi_if, gX27, gX28, gX30, rx139 hi5, rx140 hi5, b1, e1, b6, in_size hm, ix24, rx142 (show 24 * i + k < 120 by omega), e2 k (by omega), Option.bind_some]
        rw [if_pos h1, if_neg c0, if_pos c2, if_pos c3]
        by_cases c4 : (Sl i).2.1 k = -1000000005
        · rw [if_pos c4, if_pos c4]; rfl
        · rw [if_neg c4, if_neg c4]; rfl
      · rw [if_neg c3]
        simp only [n_203, e_203_0, e_203_1, e_203_4, e_203_7, e_203_9, e_203_10, e_203_11, e_203_14, e_203_15, e_203_16, e_203_19, e_203_21, e_203_22, e_203_23, e_203_26, e_203_27, e_203_28, e_203_29, e_203_32, e_203_34, e_203_35, e_203_36, e_203_37, e_203_38, e_203_41, e_203_42, e_203_43, e_203_44, e_203_45, e_203_48, e_203_51, e_203_54, c_misSlot, c_min_in, cn_s, pi_if, gX27, gX28, rx139 hi5, rx140 hi5, b1, e1, b6, in_size hm, Option.bind_some]
        rw [if_pos h1, if_neg c0, if_pos c2, if_neg c3]; rfl
    · rw [if_neg c2]
      simp only [n_203, e_203_0, e_203_1, e_203_4, e_203_7, e_203_9, e_203_10, e_203_11, e_203_14, e_203_15, e_203_16, e_203_19, e_203_21, e_203_22, e_203_23, e_203_26, e_203_27, e_203_28, e_203_29, e_203_32, e_203_34, c_misSlot, cn_s, pi_if, gX27, rx139 hi5, b1, Option.bind_some]
      rw [if_pos h1, if_neg c0, if_neg c2]; rfl
  · rw [if_neg h1]
    simp only [n_203, e_203_0, e_203_1, e_203_4, e_203_7, e_203_9, c_misSlot, cn_s, pi_if]
    rw [if_neg h1]; rfl
theorem rem_m1 (x : Int32) : x - x / (-1) * (-1) = 0 := by
  have e : x / (-1) = -x := by
    apply Int32.toInt_inj.mp
    have e1 : (-1 : Int32).toInt = -1 := by decide
    rw [Int32.toInt_div, e1, Int.tdiv_neg, Int.tdiv_one, Int32.toInt_neg]
  rw [e, Int32.mul_neg, Int32.mul_one, Int32.neg_neg, Int32.sub_self]
theorem Q_rest (hP : rSl Sl M) : Dn (d + 3) 204 [.ref 123, .int x, .int y] (MX h M K D s a0) nx = am (if 0 ≤ x ∧ x ≤ 4 then (if (Sl x.toNatClampNeg).2.2 3 = 0 then -1000000011 else if (Sl x.toNatClampNeg).2.2 3 = 3 then (if y = 0 then -1000000002 else (Sl x.toNatClampNeg).2.2 4 - (Sl x.toNatClampNeg).2.2 4 / y * y) else -1000000012) else -1000000001) h M K D s a0 nx := by
  by_cases h1 : 0 ≤ x ∧ x ≤ 4
  · obtain ⟨i, hi, rfl⟩ := idxle (m := 4) h1 (by omega)
    have hi5 : i < 5 := by omega
    rw [cl_nI (by omega), if_pos h1]
    obtain ⟨b1, b2, b3, b4, b5, b6⟩ := hP i hi5
    simp only [n_204, e_204_0, e_204_1, e_204_4, e_204_7, e_204_9, e_204_10, e_204_11, e_204_14, e_204_15, e_204_16, e_204_19, e_204_21, e_204_22, e_204_23, e_204_26, e_204_27, e_204_28, e_204_29, e_204_32, e_204_34, e_204_35, e_204_36, e_204_39, e_204_42, e_204_45, e_204_46, e_204_47, e_204_50, e_204_51, e_204_54, e_204_55, e_204_58, e_204_59, e_204_60, e_204_61, e_204_62, c_misSlot, cn_s, pi_if, gX27, gX28, rx139 hi5, rx140 hi5, b1, Option.bind_some]
    rw [if_pos h1]
    by_cases c0 : (Sl i).2.2 3 = 0
    · rw [if_pos c0, if_pos c0]; rfl
    rw [if_neg c0, if_neg c0]
    by_cases c3 : (Sl i).2.2 3 = 3
    · rw [if_pos c3, if_pos c3, b5 c3]
      by_cases cy : y = 0
      · rw [if_pos cy, if_pos cy]; rfl
      rw [if_neg cy, if_neg cy]
      by_cases c1 : y = -1
      · subst c1
        rw [if_pos rfl, rem_m1]; rfl
      · rw [if_neg c1, if_neg cy]; rfl
    · rw [if_neg c3, if_neg c3]; rfl
  · rw [if_neg h1]
    simp only [n_204, e_204_0, e_204_1, e_204_4, e_204_7, e_204_9, c_misSlot, cn_s, pi_if]
    rw [if_neg h1]; rfl
end MS3
