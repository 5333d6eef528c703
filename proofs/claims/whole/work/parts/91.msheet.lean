/-! the model's public methods: sheets -/
/-- only these rows differ -/
def frM (as : List Nat) (M M' : MS) : Prop := M'.1 = M.1 ∧ ∀ a, a ∉ as → M'.2 a = M.2 a
abbrev shV (v : Int32) : Prop := v = -1000000005 ∨ (-99999 ≤ v ∧ v ≤ 99999)
/-- a sheet as the model holds it -/
def rS1 (A : (Nat → Int32) × (Nat → Int32)) (M : MS) (i : Nat) : Prop := M.2 136 i = A.2 1 ∧ (A.2 1 = -1 ∨ A.2 1 = 0 ∨ A.2 1 = 1) ∧ M.2 137 i = A.2 2 ∧ (∃ m, A.2 2 = nI m ∧ m ≤ 24) ∧ ∀ k, k < 24 → M.2 138 (24 * i + k) = A.1 k ∧ shV (A.1 k)
def rSh (Sh : ShT) (M : MS) : Prop := ∀ i, i < 4 → rS1 (Sh i) M i
section MS1
variable {d : Nat} {h : AH} {nx : AN} {M M' : MS} {D N : DT} {s H i j c a k n g t m : Nat} {x y z u v : Int32} {a0 f w : Nat → Int32} {K : (Nat → Int32) × (Nat → Int32)} {l1 l2 l3 l4 l5 : Value} {L : LT} {Sh : ShT} {as : List Nat}
theorem frM.refl : frM as M M := ⟨rfl, fun _ _ => rfl⟩
theorem frM.sA (hf : frM as M M') (ha : a ∈ as) : frM as M (sA M' a f) := ⟨hf.1, fun b hb => by
  have e : b ≠ a := fun q => hb (q ▸ ha)
  show updW M'.2 a f b = M.2 b
  rw [show updW M'.2 a f b = M'.2 b from if_neg e]; exact hf.2 b hb⟩
theorem gX24 : gF (MX h M K D s a0) 123 9 24 = some (.ref 136) := rfl
theorem gX25 : gF (MX h M K D s a0) 123 9 25 = some (.ref 137) := rfl
theorem gX26 : gF (MX h M K D s a0) 123 9 26 = some (.ref 138) := rfl
theorem gX31 : gF (MX h M K D s a0) 123 9 31 = some (.ref 143) := rfl
theorem rx136 (hi : i < 4) : rX (MX h M K D s a0) 136 (nI i) = some (M.2 136 i) := rxM (by omega) (by omega) rfl (show i < 4 from hi) (by decide)
theorem rx137 (hi : i < 4) : rX (MX h M K D s a0) 137 (nI i) = some (M.2 137 i) := rxM (by omega) (by omega) rfl (show i < 4 from hi) (by decide)
theorem rx138 (hi : i < 96) : rX (MX h M K D s a0) 138 (nI i) = some (M.2 138 i) := rxM (by omega) (by omega) rfl (show i < 96 from hi) (by decide)
theorem rx143 (hi : i < 24) : rX (MX h M K D s a0) 143 (nI i) = some (M.2 143 i) := rxM (by omega) (by omega) rfl (show i < 24 from hi) (by decide)
theorem wx136 (hi : i < 4) : wI (MX h M K D s a0) 136 (nI i) 0 x = some (MX h (sA M 136 (upd (M.2 136) i x)) K D s a0) := wxM (by omega) (by omega) rfl (show i < 4 from hi) (by decide)
theorem wx137 (hi : i < 4) : wI (MX h M K D s a0) 137 (nI i) 0 x = some (MX h (sA M 137 (upd (M.2 137) i x)) K D s a0) := wxM (by omega) (by omega) rfl (show i < 4 from hi) (by decide)
theorem wx138 (hi : i < 96) : wI (MX h M K D s a0) 138 (nI i) 0 x = some (MX h (sA M 138 (upd (M.2 138) i x)) K D s a0) := wxM (by omega) (by omega) rfl (show i < 96 from hi) (by decide)
theorem wx143 (hi : i < 24) : wI (MX h M K D s a0) 143 (nI i) 0 x = some (MX h (sA M 143 (upd (M.2 143) i x)) K D s a0) := wxM (by omega) (by omega) rfl (show i < 24 from hi) (by decide)
theorem ix24 (i k : Nat) : (24 : Int32) * nI i + nI k = nI (24 * i + k) := by
  rw [show (24 : Int32) * nI i = nI (24 * i) from (Int32.ofNat_mul 24 i).symm, nI_add]
/-- cells from b on, so many as f has them -/
def cpo (b n : Nat) (f g : Nat → Int32) : Nat → Int32 := fun k => if b ≤ k ∧ k < b + n then f (k - b) else g k
theorem cpo_0 {b : Nat} : cpo b 0 f w = w := by funext k; unfold cpo; rw [if_neg (by omega)]
theorem cpo_s {b : Nat} : upd (cpo b k f w) (b + k) (f k) = cpo b (k + 1) f w := by
  funext j
  unfold upd cpo
  by_cases e : j = b + k
  · rw [if_pos e, if_pos (by omega), show j - b = k by omega]
  · rw [if_neg e]
    by_cases e2 : b ≤ j ∧ j < b + k
    · rw [if_pos e2, if_pos (by omega)]
    · rw [if_neg e2, if_neg (by omega)]
theorem msheet_loop (hi : i < 4) (n : Nat) : ∀ (k : Nat), k + n = 24 → Df d 195 66 [.ref 123, .int (nI i), l2, l3, .int (nI k)] [] (MX h (sA M 138 (cpo (24 * i) k (fun _ => 0) f)) K D s a0) nx = am (M.2 137 i) h (sA M 138 (cpo (24 * i) 24 (fun _ => 0) f)) K D s a0 nx := by
  induction n with
  | zero =>
    intro k hk
    obtain rfl : k = 24 := by omega
    rw [e_195_66]
    simp only [e_195_68, e_195_70, e_195_92, e_195_93, e_195_96, e_195_97, e_195_98, gX25, rx137 hi, Option.bind_some]
    rw [if_pos (by decide)]
    rfl
  | succ n ih =>
    intro k hk
    have w := wx138 (h := h) (M := sA M 138 (cpo (24 * i) k (fun _ => 0) f)) (K := K) (D := D) (s := s) (a0 := a0) (i := 24 * i + k) (x := 0) (by omega)
    rw [sA_2, sA_s, cpo_s (f := fun _ => 0)] at w
    rw [e_195_66]
    simp only [e_195_68, e_195_70, e_195_73, e_195_74, e_195_77, e_195_79, e_195_80, e_195_81, e_195_83, e_195_84, e_195_85, e_195_86, e_195_89, gX26, ix24, w, Option.bind_some, nI_1]
    rw [if_neg (show ¬ (24 : Int32) ≤ nI k from nI_ge (b := 24) (by omega) (by omega))]
    exact ih (k + 1) (by omega)
theorem y_neg (h2 : -1 ≤ y ∧ y ≤ 1) : (y < 0 ↔ y = -1) ∧ (0 ≤ y ↔ ¬ y = -1) := by
  have e1 : (-1 : Int32).toInt = -1 := by decide
  have e0 : (0 : Int32).toInt = 0 := by decide
  rw [Int32.le_iff_toInt_le, e1] at h2
  have key : y < 0 ↔ y = -1 := by
    rw [Int32.lt_iff_toInt_lt, e0, ← Int32.toInt_inj, e1]
    omega
  exact ⟨key, by rw [← key, i_nlt]⟩
theorem Q_sheet (hS : rSh Sh M) : ∃ M', frM [136, 137, 138] M M' ∧ (Dn (d + 3) 195 [.ref 123, .int x, .int y, .int z] (MX h M K D s a0) nx = if (0 ≤ x ∧ x ≤ 3) ∧ (-1 ≤ y ∧ y ≤ 1) ∧ (y = -1 ∨ z ≤ 24) then (if ¬ y = -1 ∧ z < 0 then am (-1000000014) h M K D s a0 nx else am (if y = -1 then 0 else z) h M' K D s a0 nx) else am (-1000000001) h M K D s a0 nx) ∧ ((0 ≤ x ∧ x ≤ 3) ∧ (-1 ≤ y ∧ y ≤ 1) ∧ (y = -1 ∨ z ≤ 24) → ¬ (¬ y = -1 ∧ z < 0) → rSh (upH Sh x.toNatClampNeg (cpk 24 (fun _ => 0) (Sh x.toNatClampNeg).1, upd (upd (Sh x.toNatClampNeg).2 1 y) 2 (if y = -1 then 0 else z))) M') := by
  by_cases h1 : 0 ≤ x ∧ x ≤ 3
  · obtain ⟨i, hi, rfl⟩ := idxle (m := 3) h1 (by omega)
    have hi4 : i < 4 := by omega
    rw [cl_nI (by omega)]
    by_cases h2 : -1 ≤ y ∧ y ≤ 1
    · obtain ⟨n1, n2⟩ := y_neg h2
      let M1 := sA (sA M 136 (upd (M.2 136) i y)) 137 (upd (M.2 137) i (if y = -1 then 0 else z))
      have hM1 : M1 = sA (sA M 136 (upd (M.2 136) i y)) 137 (upd (M.2 137) i (if y = -1 then 0 else z)) := rfl
      have e137 : (sA M 136 (upd (M.2 136) i y)).2 137 = M.2 137 := sA_o (by omega)
      have v137 : M1.2 137 i = if y = -1 then 0 else z := by rw [hM1, sA_s]; exact if_pos rfl
      have lp := msheet_loop (d := d + 2) (h := h) (nx := nx) (M := M1) (K := K) (D := D) (s := s) (a0 := a0) (f := M1.2 138) (l2 := .int y) (l3 := .int z) hi4 24 0 rfl
      rw [cpo_0, sA_id, v137, show nI 0 = 0 from rfl] at lp
      refine ⟨sA M1 138 (cpo (24 * i) 24 (fun _ => 0) (M1.2 138)), ((frM.refl.sA (by simp)).sA (by simp)).sA (by simp), ?_, ?_⟩
      · have st : Dn (d + 3) 195 [.ref 123, .int (nI i), .int y, .int z] (MX h M K D s a0) nx = if y = -1 ∨ z ≤ 24 then (if ¬ y = -1 ∧ z < 0 then am (-1000000014) h M K D s a0 nx else am (if y = -1 then 0 else z) h (sA M1 138 (cpo (24 * i) 24 (fun _ => 0) (M1.2 138))) K D s a0 nx) else am (-1000000001) h M K D s a0 nx := by
          have w137 := wx137 (h := h) (M := sA M 136 (upd (M.2 136) i y)) (K := K) (D := D) (s := s) (a0 := a0) (x := if y = -1 then 0 else z) hi4
          rw [e137, ← hM1] at w137
          have tl : Df (d + 2) 195 41 [.ref 123, .int (nI i), .int y, .int z, .null] [] (MX h M K D s a0) nx = am (if y = -1 then 0 else z) h (sA M1 138 (cpo (24 * i) 24 (fun _ => 0) (M1.2 138))) K D s a0 nx := by
            simp only [e_195_41, e_195_42, e_195_45, e_195_46, e_195_47, e_195_48, e_195_49, e_195_52, e_195_53, e_195_54, e_195_57, e_195_58, e_195_61, gX24, gX25, wx136 hi4, Option.bind_some]
            by_cases c : y = -1
            · rw [if_pos c] at w137 ⊢
              rw [if_neg (fun q => n2.mp q c)]
              simp only [e_195_62, e_195_63, e_195_64n, e_195_64i, e_195_64r, w137, Option.bind_some]
              rw [if_pos c] at lp
              exact lp
            · rw [if_neg c] at w137 ⊢
              rw [if_pos (n2.mpr c)]
              simp only [e_195_62, e_195_63, e_195_64n, e_195_64i, e_195_64r, w137, Option.bind_some]
              rw [if_neg c] at lp
              exact lp
          simp only [n_195, e_195_0, e_195_1, e_195_4, e_195_7, e_195_8, e_195_9, e_195_10, e_195_13, e_195_16, e_195_17, e_195_20, e_195_21, e_195_23, e_195_26, e_195_28, e_195_29, e_195_30, e_195_33, e_195_34, e_195_37, e_195_40, c_misSheet, c_min_in, cn_s, pi_if, tl]
          rw [if_pos h1, if_pos h2]
          by_cases c : y = -1
          · have c0 : y < 0 := n1.mpr c
            simp [c, c0, am]
          · have c0 : ¬ y < 0 := fun q => c (n1.mp q)
            simp only [c0, c, if_false, false_or, not_false_eq_true, true_and]
            by_cases c1 : z ≤ 24
            · rw [if_pos c1, if_pos c1]
              by_cases c2 : 0 ≤ z
              · rw [if_pos c2, if_neg (show ¬ z < 0 by rw [i_nlt]; exact c2)]
              · rw [if_neg c2, if_pos (show z < 0 by rw [← i_nle]; exact c2)]; rfl
            · rw [if_neg c1, if_neg c1]; rfl
        rw [st]
        by_cases c : y = -1 ∨ z ≤ 24
        · have cc : (0 ≤ nI i ∧ nI i ≤ 3) ∧ (-1 ≤ y ∧ y ≤ 1) ∧ (y = -1 ∨ z ≤ 24) := ⟨h1, h2, c⟩
          rw [if_pos c, if_pos cc]
        · have cc : ¬ ((0 ≤ nI i ∧ nI i ≤ 3) ∧ (-1 ≤ y ∧ y ≤ 1) ∧ (y = -1 ∨ z ≤ 24)) := fun q => c q.2.2
          rw [if_neg c, if_neg cc]
      · intro hcc hn q hq
        have a136 : (sA M1 138 (cpo (24 * i) 24 (fun _ => 0) (M1.2 138))).2 136 = upd (M.2 136) i y := by
          rw [sA_o (by omega), hM1, sA_o (by omega), sA_s]
        have a137 : (sA M1 138 (cpo (24 * i) 24 (fun _ => 0) (M1.2 138))).2 137 = upd (M.2 137) i (if y = -1 then 0 else z) := by
          rw [sA_o (by omega), hM1, sA_s]
        have a138 : (sA M1 138 (cpo (24 * i) 24 (fun _ => 0) (M1.2 138))).2 138 = cpo (24 * i) 24 (fun _ => 0) (M.2 138) := by
          rw [sA_s, hM1, sA_o (by omega), sA_o (by omega)]
        unfold rS1
        rw [a136, a137, a138]
        by_cases e : q = i
        · subst e
          rw [upH_s]
          refine ⟨by simp [upd], ?_, by simp [upd], ?_, fun k hk => ?_⟩
          · show y = -1 ∨ y = 0 ∨ y = 1
            obtain ⟨p, hp, e⟩ : ∃ p, p ≤ 2 ∧ y + 1 = nI p := by
              refine idxle (m := 2) (x := y + 1) ⟨?_, ?_⟩ (by omega) |>.elim fun p hp => ⟨p, hp.1, hp.2⟩
              · have e1 : (-1 : Int32).toInt = -1 := by decide
                have e3 : (1 : Int32).toInt = 1 := by decide
                have hh := h2
                rw [Int32.le_iff_toInt_le, Int32.le_iff_toInt_le, e1, e3] at hh
                rw [Int32.le_iff_toInt_le, Int32.toInt_add, e3, Int.bmod_eq_of_le (by omega) (by omega), show (0 : Int32).toInt = 0 from by decide]
                omega
              · have e1 : (-1 : Int32).toInt = -1 := by decide
                have e3 : (1 : Int32).toInt = 1 := by decide
                have hh := h2
                rw [Int32.le_iff_toInt_le, Int32.le_iff_toInt_le, e1, e3] at hh
                rw [Int32.le_iff_toInt_le, Int32.toInt_add, e3, Int.bmod_eq_of_le (by omega) (by omega), nI_toInt (by omega)]
                omega
            have e2 : y = nI p - 1 := by rw [← e, Int32.add_sub_cancel]
            rcases (show p = 0 ∨ p = 1 ∨ p = 2 by omega) with rfl | rfl | rfl
            · exact Or.inl (by rw [e2]; decide)
            · exact Or.inr (Or.inl (by rw [e2]; decide))
            · exact Or.inr (Or.inr (by rw [e2]; decide))
          · show ∃ m, (if y = -1 then 0 else z) = nI m ∧ m ≤ 24
            by_cases c : y = -1
            · rw [if_pos c]; exact ⟨0, rfl, by omega⟩
            · rw [if_neg c]
              have hz : z ≤ 24 := hcc.2.2.resolve_left c
              have hz0 : 0 ≤ z := by rw [← i_nlt]; exact fun q => hn ⟨c, q⟩
              obtain ⟨m, hm, e⟩ := idxle (m := 24) ⟨hz0, hz⟩ (by omega)
              exact ⟨m, e, hm⟩
          · have e1 : cpo (24 * q) 24 (fun _ => 0) (M.2 138) (24 * q + k) = 0 := if_pos (by omega)
            have e2 : cpk 24 (fun _ => 0) (Sh q).1 k = 0 := if_pos hk
            rw [e1]
            dsimp only
            rw [e2]
            exact ⟨rfl, Or.inr ⟨by decide, by decide⟩⟩
        · obtain ⟨b1, b2, b3, b4, b5⟩ := hS q hq
          rw [show upH Sh i (cpk 24 (fun _ => 0) (Sh i).1, upd (upd (Sh i).2 1 y) 2 (if y = -1 then 0 else z)) q = Sh q from if_neg e, show upd (M.2 136) i y q = M.2 136 q from if_neg e, show upd (M.2 137) i (if y = -1 then 0 else z) q = M.2 137 q from if_neg e]
          refine ⟨b1, b2, b3, b4, fun k hk => ?_⟩
          rw [show cpo (24 * i) 24 (fun _ => 0) (M.2 138) (24 * q + k) = M.2 138 (24 * q + k) from if_neg (by omega)]
          exact b5 k hk
    · refine ⟨M, frM.refl, ?_, fun q => absurd q.2.1 h2⟩
      rw [if_neg (fun q => h2 q.2.1)]
      simp only [n_195, e_195_0, e_195_1, e_195_4, e_195_7, e_195_8, e_195_9, e_195_10, e_195_13, e_195_26, e_195_28, c_misSheet, c_min_in, cn_s, pi_if]
      rw [if_pos h1, if_neg h2]; rfl
  · refine ⟨M, frM.refl, ?_, fun q => absurd q.1 h1⟩
    rw [if_neg (fun q => h1 q.1)]
    simp only [n_195, e_195_0, e_195_1, e_195_4, e_195_26, e_195_28, c_misSheet, cn_s, pi_if]
    rw [if_neg h1]; rfl
end MS1
