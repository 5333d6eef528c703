/-! the model's public methods: walkers, cells, hours -/
/-- the model's heap with any row as now -/
def MG (h : AH) (M : MS) (K : (Nat → Int32) × (Nat → Int32)) (g : Nat → Int32) : AH := MH h (M.1, fun a => if a = 124 then g else if a = 134 then K.1 else if a = 135 then K.2 else M.2 a)
def am (x : Int32) (h : AH) (M : MS) (K : (Nat → Int32) × (Nat → Int32)) (D : DT) (s : Nat) (a0 : Nat → Int32) (nx : AN) : Option (Option Value × AH × AN) := some (some (.int x), MX h M K D s a0, nx)
def zer (s : Nat) : Nat → Nat → (Nat → Int32) → Nat → Int32
  | 0, _, a => a
  | n + 1, k, a => zer s n (k + 1) (upd a (35 + 6 * s + k) 0)
section MB
variable {d : Nat} {h : AH} {nx : AN} {M : MS} {D : DT} {s H i j c a k n g t m : Nat} {x y z u v : Int32} {a0 f w F K1 : Nat → Int32} {K : (Nat → Int32) × (Nat → Int32)} {l1 l2 l3 l4 l5 : Value} {L : LT}
theorem MX_MG : MX h M K D s a0 = MG h M K (enc D s a0) := rfl
theorem c_mbecomes (hk : k < 1467) {D' : DT} (e : upd (enc D s a0) k x = enc D' s a0) : Dn (d + 1) 142 [.ref 123, .int (nI k), .int x] (MX h M K D s a0) nx = some (some (.int (enc D s a0 k)), MX h M K D' s a0, nx) := by
  simp only [n_142, e_142_0, e_142_1, e_142_4, e_142_5, e_142_6n, e_142_6i, e_142_6r, e_142_7, e_142_8, e_142_11, e_142_12, e_142_13, e_142_14, e_142_15, gX0, rX_n hk, X_set hk e, Option.bind_some]
theorem Q_seed : Dn (d + 2) 149 [.ref 123, .int x] (MX h M K D s a0) nx = am (D.2.2 11) h M K (dq D 11 x) s a0 nx := by
  have e := c_mbecomes (d := d) (h := h) (nx := nx) (M := M) (K := K) (D := D) (s := s) (a0 := a0) (x := x) (k := 0) (by omega) (up_q (by omega))
  simp only [n_149, e_149_0, e_149_1, e_149_2, e_149_3, e_149_6, kX, if_true]
  rw [show (0 : Int32) = nI 0 from rfl, e]
  simp only [e_149_6, cn_s]
  rfl
theorem c_isUnder : Dn (d + 1) 140 [.int x, .int y] h nx = some (some (.int (pi (isu x y))), h, nx) := by
  simp only [n_140, e_140_0, e_140_1, e_140_4, e_140_5, e_140_6, e_140_9, e_140_10, e_140_11, e_140_14, e_140_15, e_140_16, e_140_19, e_140_20, e_140_21, e_140_24, e_140_25, e_140_26, e_140_29, e_140_30, e_140_33, e_140_34, nR_b0, nR_b1, if_true]
  by_cases h1 : y = 0
  · simp [h1, pi, isu]
  by_cases h2 : x = y
  · simp [h1, h2, pi, isu]
  have h2' : ¬ y = x := fun e => h2 e.symm
  by_cases h3 : y = 1
  · by_cases h4 : x = 3
    · simp [h3, h4, pi, isu]
    · subst h3; simp [h2, h2', h4, pi, isu]
  by_cases h5 : y = 2
  · by_cases h6 : x = 4
    · simp [h5, h6, pi, isu]
    · subst h5; simp [h2, h2', h6, pi, isu]
  simp [h1, h2, h2', h3, h5, pi, isu]
theorem Q_as (hD : dI D s) : Dn (d + 3) 139 [.ref 123, .int x, .int y] (MX h M K D s a0) nx = if (0 ≤ x ∧ x < nI s) ∧ (0 ≤ y ∧ y ≤ 5) then am (if isu (D.2.1 x.toNatClampNeg 0) y then D.2.1 x.toNatClampNeg 2 else -1000000012) h M K D s a0 nx else am (-1000000001) h M K D s a0 nx := by
  have hs := hD.2.1
  by_cases h1 : 0 ≤ x ∧ x < nI s
  · obtain ⟨i, hi, rfl⟩ := idx h1 (by omega)
    rw [cl_nI (by omega)]
    simp only [n_139, e_139_0, e_139_1, e_139_2, e_139_5, e_139_8, e_139_9, e_139_10, e_139_11, e_139_14, e_139_17, e_139_19, e_139_20, e_139_21, e_139_22, e_139_23, e_139_26, e_139_27, e_139_30, e_139_33, e_139_34, e_139_35, e_139_36, e_139_39, e_139_42, e_139_44, kX, if_true, c_isWalker hD.1 hs, c_min_in, cn_s, pi_if, c_of0 hi hs, c_of2 hi hs, c_isUnder]
    by_cases h2 : 0 ≤ y ∧ y ≤ 5
    · by_cases h3 : isu (D.2.1 i 0) y
      · rw [if_pos h1, if_pos h2, if_pos h3, if_pos ⟨h1, h2⟩, if_pos h3]; rfl
      · rw [if_pos h1, if_pos h2, if_neg h3, if_pos ⟨h1, h2⟩, if_neg h3]; rfl
    · rw [if_pos h1, if_neg h2, if_neg (fun q => h2 q.2)]; rfl
  · rw [if_neg (fun q => h1 q.1)]
    simp only [n_139, e_139_0, e_139_1, e_139_2, e_139_5, e_139_17, e_139_19, kX, if_true, c_isWalker hD.1 hs, cn_s, pi_if]
    rw [if_neg h1]; rfl
theorem ix_w0 (i : Nat) : (35 : Int32) + 6 * nI i = nI (35 + 6 * i + 0) := by
  show nI 35 + nI 6 * nI i = _
  rw [show nI 6 * nI i = nI (6 * i) from (Int32.ofNat_mul 6 i).symm, nI_add]
  rfl
theorem Q_turns (hD : dI D s) : Dn (d + 3) 141 [.ref 123, .int x, .int y] (MX h M K D s a0) nx = if (0 ≤ x ∧ x < nI s) ∧ (0 ≤ y ∧ y ≤ 5) then am (D.2.1 x.toNatClampNeg 0) h M K (dW D x.toNatClampNeg (upd (D.2.1 x.toNatClampNeg) 0 y)) s a0 nx else am (-1000000001) h M K D s a0 nx := by
  have hs := hD.2.1
  by_cases h1 : 0 ≤ x ∧ x < nI s
  · obtain ⟨i, hi, rfl⟩ := idx h1 (by omega)
    rw [cl_nI (by omega)]
    have e := c_mbecomes (d := d + 1) (h := h) (nx := nx) (M := M) (K := K) (D := D) (s := s) (a0 := a0) (x := y) (k := 35 + 6 * i + 0) (by omega) (up_w hi (by omega))
    rw [en_w hi (by omega)] at e
    simp only [n_141, e_141_0, e_141_1, e_141_2, e_141_5, e_141_8, e_141_9, e_141_10, e_141_11, e_141_14, e_141_17, e_141_18, e_141_20, e_141_22, e_141_23, e_141_24, e_141_25, e_141_26, e_141_29, e_141_32, e_141_34, kX, if_true, c_isWalker hD.1 hs, c_min_in, cn_s, pi_if, ix_w0, e]
    by_cases h2 : 0 ≤ y ∧ y ≤ 5
    · rw [if_pos h1, if_pos h2, if_pos ⟨h1, h2⟩]; rfl
    · rw [if_pos h1, if_neg h2, if_neg (fun q => h2 q.2)]; rfl
  · rw [if_neg (fun q => h1 q.1)]
    simp only [n_141, e_141_0, e_141_1, e_141_2, e_141_5, e_141_32, e_141_34, kX, if_true, c_isWalker hD.1 hs, cn_s, pi_if]
    rw [if_neg h1]; rfl
theorem Q_set (hD : dI D s) : Dn (d + 3) 143 [.ref 123, .int x, .int y, .int z] (MX h M K D s a0) nx = if (0 ≤ x ∧ x < nI s) ∧ (1 ≤ y ∧ y ≤ 3) ∧ (0 ≤ z ∧ z ≤ seHi y) then am (D.2.1 x.toNatClampNeg (seQ y)) h M K (dW D x.toNatClampNeg (upd (D.2.1 x.toNatClampNeg) (seQ y) z)) s a0 nx else am (-1000000001) h M K D s a0 nx := by
  have hs := hD.2.1
  by_cases h1 : 0 ≤ x ∧ x < nI s
  · obtain ⟨i, hi, rfl⟩ := idx h1 (by omega)
    rw [cl_nI (by omega)]
    by_cases h2 : 1 ≤ y ∧ y ≤ 3
    · obtain ⟨j, hj1, hj3, rfl⟩ := idx1 (m := 3) h2 (by omega)
      have e := c_mbecomes (d := d + 1) (h := h) (nx := nx) (M := M) (K := K) (D := D) (s := s) (a0 := a0) (x := z) (k := 35 + 6 * i + j) (by omega) (up_w hi (by omega))
      rw [en_w hi (by omega)] at e
      have hq : seQ (nI j) = j := by
        match j, hj1, hj3 with
        | 1, _, _ => rfl
        | 2, _, _ => rfl
        | 3, _, _ => rfl
      have hh : (if nI j = 1 then (99 : Int32) else if nI j = 2 then 30 else 24) = seHi (nI j) := rfl
      rw [hq]
      have st : Dn (d + 3) 143 [.ref 123, .int (nI i), .int (nI j), .int z] (MX h M K D s a0) nx = if 0 ≤ z ∧ z ≤ seHi (nI j) then am (D.2.1 i j) h M K (dW D i (upd (D.2.1 i) j z)) s a0 nx else am (-1000000001) h M K D s a0 nx := by
        rw [← hh]
        simp only [n_143, e_143_0, e_143_1, e_143_2, e_143_5, e_143_8, e_143_9, e_143_10, e_143_11, e_143_14, e_143_17, e_143_18, e_143_19, e_143_20, e_143_21, e_143_24, e_143_26, e_143_29, e_143_30, e_143_31, e_143_34, e_143_36, e_143_39, e_143_41, e_143_44, e_143_47, e_143_49, e_143_50, e_143_51, e_143_53, e_143_55, e_143_56, e_143_57, e_143_58, e_143_59, e_143_60, e_143_61, e_143_64, kX, if_true, c_isWalker hD.1 hs, c_min_in, cn_s, pi_if, ix_w, e]
        rw [if_pos h1, if_pos h2]
        by_cases c1 : nI j = 1
        · rw [if_pos c1, if_pos c1]; rfl
        rw [if_neg c1, if_neg c1]
        by_cases c2 : nI j = 2
        · rw [if_pos c2, if_pos c2]; rfl
        · rw [if_neg c2, if_neg c2]; rfl
      rw [st]
      by_cases h3 : 0 ≤ z ∧ z ≤ seHi (nI j)
      · rw [if_pos h3, if_pos ⟨h1, h2, h3⟩]
      · rw [if_neg h3, if_neg (fun q => h3 q.2.2)]
    · rw [if_neg (fun q => h2 q.2.1)]
      simp only [n_143, e_143_0, e_143_1, e_143_2, e_143_5, e_143_8, e_143_9, e_143_10, e_143_11, e_143_14, e_143_47, e_143_49, kX, if_true, c_isWalker hD.1 hs, c_min_in, cn_s, pi_if]
      rw [if_pos h1, if_neg h2]; rfl
  · rw [if_neg (fun q => h1 q.1)]
    simp only [n_143, e_143_0, e_143_1, e_143_2, e_143_5, e_143_47, e_143_49, kX, if_true, c_isWalker hD.1 hs, cn_s, pi_if]
    rw [if_neg h1]; rfl
theorem Q_water : Dn (d + 3) 144 [.ref 123, .int x, .int y] (MX h M K D s a0) nx = if (0 ≤ x ∧ x ≤ 23) ∧ (0 ≤ y ∧ y ≤ 99) then am (D.1 x.toNatClampNeg) h M K (dwt D x.toNatClampNeg y) s a0 nx else am (-1000000001) h M K D s a0 nx := by
  by_cases h1 : 0 ≤ x ∧ x ≤ 23
  · obtain ⟨c, hc, rfl⟩ := idxle (m := 23) h1 (by omega)
    have hc24 : c < 24 := by omega
    rw [cl_nI (by omega)]
    have e := c_mbecomes (d := d + 1) (h := h) (nx := nx) (M := M) (K := K) (D := D) (s := s) (a0 := a0) (x := y) (k := 11 + c) (by omega) (up_c hc24)
    rw [en_c hc24] at e
    simp only [n_144, e_144_0, e_144_1, e_144_4, e_144_7, e_144_8, e_144_9, e_144_11, e_144_14, e_144_17, e_144_18, e_144_20, e_144_21, e_144_22, e_144_23, e_144_26, e_144_29, e_144_31, kX, if_true, c_misCell, c_min_in, cn_s, pi_if, show (11 : Int32) + nI c = nI (11 + c) from nI_add 11 c, e]
    by_cases h2 : 0 ≤ y ∧ y ≤ 99
    · rw [if_pos h1, if_pos h2, if_pos ⟨h1, h2⟩]; rfl
    · rw [if_pos h1, if_neg h2, if_neg (fun q => h2 q.2)]; rfl
  · rw [if_neg (fun q => h1 q.1)]
    simp only [n_144, e_144_0, e_144_1, e_144_4, e_144_29, e_144_31, c_misCell, cn_s, pi_if]
    rw [if_neg h1]; rfl
theorem Q_rule : Dn (d + 2) 146 [.ref 123, .int x, .int y] (MX h M K D s a0) nx = if (0 ≤ x ∧ x ≤ 4) ∧ (ruLo x ≤ y ∧ y ≤ ruHi x) then am (D.2.2 (ruQ x)) h M K (dq D (ruQ x) y) s a0 nx else am (-1000000001) h M K D s a0 nx := by
  have c3 : ∀ l4 : Value, nr l4 = true → Df (d + 1) 146 21 [.ref 123, .int x, .int y, .int (ruLo x), l4] [] (MX h M K D s a0) nx = if (0 ≤ x ∧ x ≤ 4) ∧ (ruLo x ≤ y ∧ y ≤ ruHi x) then am (D.2.2 (ruQ x)) h M K (dq D (ruQ x) y) s a0 nx else am (-1000000001) h M K D s a0 nx := by
    intro l4 h4
    have c5 : ∀ u : Int32, (0 ≤ x ∧ x ≤ 4 → u = ruHi x) → Df (d + 1) 146 53 [.ref 123, .int x, .int y, .int (ruLo x), l4] [.int u] (MX h M K D s a0) nx = if (0 ≤ x ∧ x ≤ 4) ∧ (ruLo x ≤ y ∧ y ≤ ruHi x) then am (D.2.2 (ruQ x)) h M K (dq D (ruQ x) y) s a0 nx else am (-1000000001) h M K D s a0 nx := by
      intro u hu
      rw [e_146_53 h4]
      by_cases h1 : 0 ≤ x ∧ x ≤ 4
      · rw [hu h1]
        obtain ⟨i, hi, rfl⟩ := idxle (m := 4) h1 (by omega)
        have hq : enq (3 + i) = ruQ (nI i) := by
          have hi5 : i < 5 := by omega
          match i, hi5 with
          | 0, _ => rfl
          | 1, _ => rfl
          | 2, _ => rfl
          | 3, _ => rfl
          | 4, _ => rfl
        have e := c_mbecomes (d := d) (h := h) (nx := nx) (M := M) (K := K) (D := D) (s := s) (a0 := a0) (x := y) (k := 3 + i) (by omega) (up_q (by omega))
        rw [en_q (by omega), hq] at e
        simp only [e_146_55, e_146_56, e_146_57, e_146_58, e_146_61, e_146_64, e_146_65, e_146_66, e_146_68, e_146_71, e_146_74, e_146_75, e_146_76, e_146_77, e_146_78, e_146_79, e_146_82, e_146_85, e_146_87, kX, if_true, c_min_in, cn_s, pi_if, show (3 : Int32) + nI i = nI (3 + i) from nI_add 3 i, e]
        rw [if_pos h1]
        by_cases h2 : ruLo (nI i) ≤ y ∧ y ≤ ruHi (nI i)
        · rw [if_pos h2, if_pos ⟨h1, h2⟩]; rfl
        · rw [if_neg h2, if_neg (fun q => h2 q.2)]; rfl
      · rw [if_neg (fun q => h1 q.1)]
        simp only [e_146_55, e_146_56, e_146_57, e_146_58, e_146_61, e_146_85, e_146_87, c_min_in, cn_s, pi_if]
        rw [if_neg h1]; rfl
    simp only [e_146_21, e_146_22, e_146_23, e_146_26, e_146_28, e_146_31, e_146_32, e_146_33, e_146_36, e_146_38, e_146_41, e_146_42, e_146_43, e_146_46, e_146_48, e_146_51]
    by_cases h2 : x < 2
    · rw [if_neg (show ¬ 2 ≤ x by rw [i_nle]; exact h2)]
      refine c5 9 (fun q => ?_)
      obtain ⟨i, hi, rfl⟩ := idxle (m := 4) q (by omega)
      have hi2 : i < 2 := (nI_ltI (b := 2) (by omega) (by omega)).mp h2
      match i, hi2 with
      | 0, _ => rfl
      | 1, _ => rfl
    rw [if_pos (show 2 ≤ x by rw [← i_nlt]; exact h2)]
    by_cases h3 : x = 2
    · rw [if_pos h3]; exact c5 100 (fun _ => by rw [h3]; rfl)
    rw [if_neg h3]
    by_cases h5 : x = 3
    · rw [if_pos h5]; exact c5 99 (fun _ => by rw [h5]; rfl)
    · rw [if_neg h5]
      refine c5 23 (fun q => ?_)
      unfold ruHi
      rw [if_neg (fun e => h2 (by rw [e]; decide)), if_neg (fun e => h2 (by rw [e]; decide)), if_neg h3, if_neg h5]
  simp only [n_146, e_146_0, e_146_1, e_146_2, e_146_5, e_146_6, e_146_9, e_146_10, e_146_11, e_146_14, e_146_16, e_146_19]
  by_cases h1 : x = 1
  · rw [if_pos h1]
    simp only [e_146_20n, e_146_20i, e_146_20r]
    have := c3 .null nr_n
    rw [show ruLo x = 1 by rw [h1]; rfl] at this
    rw [show ruLo x = 1 by rw [h1]; rfl]
    exact this
  rw [if_neg h1]
  by_cases h3 : x = 3
  · rw [if_pos h3]
    simp only [e_146_20n, e_146_20i, e_146_20r]
    have := c3 .null nr_n
    rw [show ruLo x = 20 by rw [h3]; rfl] at this
    rw [show ruLo x = 20 by rw [h3]; rfl]
    exact this
  · rw [if_neg h3]
    simp only [e_146_20n, e_146_20i, e_146_20r]
    have e0 : ruLo x = 0 := by unfold ruLo; rw [if_neg h1, if_neg h3]
    have := c3 .null nr_n
    rw [e0] at this
    rw [e0]
    exact this
end MB
