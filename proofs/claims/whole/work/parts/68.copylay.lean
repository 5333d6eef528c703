/-! copy, lay -/
def upP (Sl : SlT) (i : Nat) (v : (Nat → Int32) × (Nat → Int32) × (Nat → Int32)) : SlT := fun k => if k = i then v else Sl k
section S12
variable {d : Nat} {h H : AH} {nx : AN} {i j s n c t g p m a b : Nat} {S : CS} {D E : DT} {x y z u v : Int32} {f q w : Nat → Int32} {l1 l2 l3 l4 l5 : Value} {e0 : va_E}
abbrev hrP (x y q : Int32) : Prop := 0 ≤ x ∧ 0 ≤ y ∧ y ≤ q ∧ x ≤ q - y
theorem c_hasRow (hz : gF H a 5 2 = some (.int u)) : Dn (d + 1) 59 [.ref a, .int x, .int y] H nx = some (some (.int (pi (hrP x y u))), H, nx) := by
  simp only [n_59, e_59_0, e_59_1, e_59_4, e_59_5, e_59_8, e_59_9, e_59_10, e_59_13, e_59_16, e_59_17, e_59_18, e_59_21, e_59_22, e_59_23, e_59_26, e_59_27, e_59_30, e_59_31, hz, nR_b0, nR_b1, if_true, Option.bind_some]
  by_cases h1 : x < 0
  · have h2 : ¬ 0 ≤ x := by rw [i_nle]; exact h1
    simp [h1, h2, pi, hrP]
  have h1' : 0 ≤ x := by rw [← i_nlt]; exact h1
  by_cases h3 : y < 0
  · have h2 : ¬ 0 ≤ y := by rw [i_nle]; exact h3
    simp [h1, h1', h3, h2, pi, hrP]
  have h3' : 0 ≤ y := by rw [← i_nlt]; exact h3
  by_cases h4 : u < y
  · have h2 : ¬ y ≤ u := by rw [i_nle]; exact h4
    simp [h1, h1', h3, h3', h4, h2, pi, hrP]
  have h4' : y ≤ u := by rw [← i_nlt]; exact h4
  by_cases h5 : u - y < x
  · have h2 : ¬ x ≤ u - y := by rw [i_nle]; exact h5
    simp [h1, h1', h3, h3', h4, h4', h5, h2, pi, hrP]
  have h5' : x ≤ u - y := by rw [← i_nlt]; exact h5
  simp [h1, h1', h3, h3', h4, h4', h5, h5', pi, hrP]
theorem hr_nat (hm : m ≤ 24) (hx : hrP x y (nI m)) : ∃ a b, x = nI a ∧ y = nI b ∧ a + b ≤ m := by
  obtain ⟨h1, h2, h3, h4⟩ := hx
  obtain ⟨b, hb, rfl⟩ := idxle ⟨h2, h3⟩ (by omega)
  rw [nI_sub hb] at h4
  obtain ⟨a, ha, rfl⟩ := idxle ⟨h1, h4⟩ (by omega)
  exact ⟨a, b, rfl, rfl, by omega⟩
theorem cpH (hi : i < 4) (hj : j < 4) (ha : a + n ≤ 24) (hb : b + n ≤ 24) : cpA (CH h S) (96 + 2 * i) (96 + 2 * j) (nI a) (nI b) (nI n) = some (CH h (sH S (upH (zH S) j (va_cpy (zH S i).1 (zH S j).1 a b n, (zH S j).2)))) := by
  unfold cpA
  rw [CH_sp hi, CH_sp hj]
  dsimp only
  rw [if_pos ⟨⟨rfl, rfl⟩, ⟨nI_pos (by omega), nI_pos (by omega), nI_pos (by omega)⟩, by rw [cl_nI (by omega), cl_nI (by omega)]; exact ha, by rw [cl_nI (by omega), cl_nI (by omega)]; exact hb⟩, cl_nI (by omega), cl_nI (by omega), cl_nI (by omega), put_sp hj]
/-- COPY: the answer, if it isn't done -/
def cyF (A B : (Nat → Int32) × (Nat → Int32)) (y u v : Int32) : Option Int32 := if A.2 1 = -1 ∨ B.2 1 = -1 then some (-1000000011) else if A.2 1 = B.2 1 then (if hrP y v (A.2 2) ∧ hrP u v (B.2 2) then none else some (-1000000013)) else some (-1000000012)
theorem P_copy (hZ : zOK S) : Dn (d + 3) 109 [.ref 16, .int x, .int y, .int z, .int u, .int v] (CH h S) nx = if (0 ≤ x ∧ x ≤ 3) ∧ (0 ≤ z ∧ z ≤ 3) then (match cyF (zH S x.toNatClampNeg) (zH S z.toNatClampNeg) y u v with
    | some r => an r h S nx
    | none => an v h (sH S (upH (zH S) z.toNatClampNeg (va_cpy (zH S x.toNatClampNeg).1 (zH S z.toNatClampNeg).1 y.toNatClampNeg u.toNatClampNeg v.toNatClampNeg, (zH S z.toNatClampNeg).2))) nx) else an (-1000000001) h S nx := by
  by_cases h1 : (0 ≤ x ∧ x ≤ 3) ∧ (0 ≤ z ∧ z ≤ 3)
  · rw [if_pos h1]
    obtain ⟨i, hi, rfl⟩ := idxle (m := 3) h1.1 (by omega)
    obtain ⟨j, hj, rfl⟩ := idxle (m := 3) h1.2 (by omega)
    have hi4 : i < 4 := by omega
    have hj4 : j < 4 := by omega
    rw [cl_nI (by omega), cl_nI (by omega)]
    obtain ⟨m, hm, hz⟩ := hZ.1 i hi4
    obtain ⟨m2, hm2, hz2⟩ := hZ.1 j hj4
    have r1 := c_hasRow (d := d + 1) (H := CH h S) (nx := nx) (x := y) (y := v) (gH2 (h := h) (S := S) hi4)
    have r2 := c_hasRow (d := d + 1) (H := CH h S) (nx := nx) (x := u) (y := v) (gH2 (h := h) (S := S) hj4)
    simp only [n_109, e_109_0, e_109_1, e_109_4, e_109_7, e_109_8, e_109_11, e_109_14, e_109_16, e_109_17, e_109_18, e_109_21, e_109_22, e_109_23n, e_109_23i, e_109_23r, e_109_25, e_109_26, e_109_29, e_109_30, e_109_31n, e_109_31i, e_109_31r, e_109_33, e_109_35, e_109_38, e_109_39, e_109_42, e_109_44, e_109_47, e_109_48, e_109_51, e_109_53, e_109_54, e_109_56, e_109_59, e_109_61, e_109_64, e_109_67, e_109_69, e_109_70, e_109_72, e_109_73, e_109_75, e_109_78, e_109_81, e_109_83, e_109_85, e_109_87, e_109_90, e_109_93, e_109_96, e_109_97, e_109_99, e_109_102, e_109_103, e_109_105, e_109_108, e_109_110, c_isSheet, cn_s, pi_if, gO6, rHr hi4, rHr hj4, gH0 hi4, gH0 hj4, gH1 hi4, gH1 hj4, kH hi4, kH hj4, if_true, r1, r2, Option.bind_some]
    rw [if_pos h1.1, if_pos h1.2]
    unfold cyF
    by_cases h2 : (zH S i).2 1 = -1
    · rw [if_pos h2, if_pos (Or.inl h2)]; rfl
    rw [if_neg h2]
    by_cases h3 : (zH S j).2 1 = -1
    · rw [if_pos h3, if_pos (Or.inr h3)]; rfl
    have hc : ¬ ((zH S i).2 1 = -1 ∨ (zH S j).2 1 = -1) := fun q => q.elim h2 h3
    rw [if_neg h3, if_neg hc]
    by_cases h4 : (zH S i).2 1 = (zH S j).2 1
    · rw [if_pos h4, if_pos h4]
      by_cases h5 : hrP y v ((zH S i).2 2)
      · rw [if_pos h5]
        by_cases h6 : hrP u v ((zH S j).2 2)
        · rw [if_pos h6, if_pos ⟨h5, h6⟩]
          rw [hz] at h5
          rw [hz2] at h6
          obtain ⟨a, n, rfl, rfl, ha⟩ := hr_nat hm h5
          obtain ⟨b, n', rfl, e, hb⟩ := hr_nat hm2 h6
          have e : n = n' := by
            have := h5.2.2.1
            have hn : n ≤ 24 := by omega
            have hn' : n' ≤ 24 := by omega
            exact (nI_eq (by omega) (by omega)).mp e
          subst e
          simp only [e_109_112, e_109_115, e_109_117, cpH hi4 hj4 (show a + n ≤ 24 by omega) (show b + n ≤ 24 by omega), Option.bind_some]
          rw [cl_nI (by omega), cl_nI (by omega), cl_nI (by omega)]
          rfl
        · rw [if_neg h6, if_neg (fun q => h6 q.2)]; rfl
      · rw [if_neg h5, if_neg (fun q => h5 q.1)]; rfl
    · rw [if_neg h4, if_neg h4]; rfl
  · rw [if_neg h1]
    simp only [n_109, e_109_0, e_109_1, e_109_4, e_109_7, e_109_8, e_109_11, e_109_14, e_109_16, c_isSheet, cn_s, pi_if]
    by_cases h2 : 0 ≤ x ∧ x ≤ 3
    · rw [if_pos h2, if_neg (fun q => h1 ⟨h2, q⟩)]; rfl
    · rw [if_neg h2]; rfl
theorem CH_inP (ha : 103 ≤ a ∧ a < 123) : CH h S a = sc (zP S) a := by
  unfold CH
  rw [seg_o (by omega), seg_o (by omega), seg_o (by omega), seg_o (by omega), seg_o (by omega), seg_o (by omega), seg_o (by omega), seg_o (by omega), seg_o (by omega), seg_o (by omega), seg_o (by omega), seg_o (by omega), seg_o (by omega), seg_o (by omega), seg_at (by omega)]
theorem put_P (ha : 103 ≤ a ∧ a < 123) {Sl : SlT} (h1 : sc Sl a = e0) (h2 : ∀ b, 103 ≤ b → b < 123 → b ≠ a → sc Sl b = sc (zP S) b) : put (CH h S) a e0 = CH h (sP S Sl) := by
  rw [← CH_sc]
  funext b
  by_cases e : b = a
  · subst e
    rw [put_same, seg_at ha, h1]
  · rw [put_ne _ _ e]
    by_cases hb : 103 ≤ b ∧ b < 123
    · rw [seg_at hb, CH_inP hb, h2 b hb.1 hb.2 e]
    · rw [seg_o hb]
theorem upP_s {Sl : SlT} {v : (Nat → Int32) × (Nat → Int32) × (Nat → Int32)} : upP Sl i v i = v := if_pos rfl
theorem upP_2 {Sl : SlT} {v w : (Nat → Int32) × (Nat → Int32) × (Nat → Int32)} : upP (upP Sl i v) i w = upP Sl i w := by
  funext k; unfold upP; by_cases e : k = i
  · rw [if_pos e, if_pos e]
  · rw [if_neg e, if_neg e, if_neg e]
theorem sc_o {Sl : SlT} {v : (Nat → Int32) × (Nat → Int32) × (Nat → Int32)} (hb : (b - 103) / 4 ≠ i) : sc (upP Sl i v) b = sc Sl b := by
  unfold sc upP
  rw [if_neg hb]
theorem put_P0 (hi : i < 5) (hq : ∀ k, k = 1 ∨ k = 2 → q k = (zP S i).2.2 k) : put (CH h S) (103 + 4 * i) (slO (103 + 4 * i) q) = CH h (sP S (upP (zP S) i ((zP S i).1, (zP S i).2.1, q))) := by
  refine put_P (by omega) ?_ ?_
  · unfold sc
    rw [if_pos (by omega), show (103 + 4 * i - 103) / 4 = i by omega, upP_s]
  · intro b hb1 hb2 hne
    by_cases e : (b - 103) / 4 = i
    · unfold sc
      have e1 : ¬ (b - 103) % 4 = 0 := by omega
      rw [e, upP_s, if_neg e1, if_neg e1]
      dsimp only
      unfold shO
      rw [hq 1 (Or.inl rfl), hq 2 (Or.inr rfl)]
    · exact sc_o e
theorem put_P1 (hi : i < 5) : put (CH h S) (104 + 4 * i) (wkC w) = CH h (sP S (upP (zP S) i (w, (zP S i).2))) := by
  refine put_P (by omega) ?_ ?_
  · unfold sc
    rw [if_neg (by omega), if_pos (by omega), show (104 + 4 * i - 103) / 4 = i by omega, upP_s]
  · intro b hb1 hb2 hne
    by_cases e : (b - 103) / 4 = i
    · unfold sc
      have e1 : ¬ (b - 103) % 4 = 1 := by omega
      rw [e, upP_s, if_neg e1, if_neg e1]
    · exact sc_o e
theorem put_P2 (hi : i < 5) (hq : ∀ k, k = 3 ∨ k = 4 → q k = (zP S i).2.2 k) : put (CH h S) (105 + 4 * i) (shO (106 + 4 * i) q) = CH h (sP S (upP (zP S) i ((zP S i).1, (zP S i).2.1, q))) := by
  refine put_P (by omega) ?_ ?_
  · unfold sc
    rw [if_neg (by omega), if_neg (by omega), if_pos (by omega), show (105 + 4 * i - 103) / 4 = i by omega, upP_s, show 105 + 4 * i + 1 = 106 + 4 * i by omega]
  · intro b hb1 hb2 hne
    by_cases e : (b - 103) / 4 = i
    · unfold sc
      have e1 : ¬ (b - 103) % 4 = 2 := by omega
      rw [e, upP_s, if_neg e1, if_neg e1]
      dsimp only
      unfold slO
      rw [hq 3 (Or.inl rfl), hq 4 (Or.inr rfl)]
    · exact sc_o e
theorem put_P3 (hi : i < 5) : put (CH h S) (106 + 4 * i) (.inl (0, 24, .inl f)) = CH h (sP S (upP (zP S) i ((zP S i).1, f, (zP S i).2.2))) := by
  refine put_P (by omega) ?_ ?_
  · unfold sc
    rw [if_neg (by omega), if_neg (by omega), if_neg (by omega), show (106 + 4 * i - 103) / 4 = i by omega, upP_s]
  · intro b hb1 hb2 hne
    by_cases e : (b - 103) / 4 = i
    · unfold sc
      rw [e, upP_s]
      by_cases e0 : (b - 103) % 4 = 0
      · rw [if_pos e0, if_pos e0]
      rw [if_neg e0, if_neg e0]
      by_cases e1 : (b - 103) % 4 = 1
      · rw [if_pos e1, if_pos e1]
      rw [if_neg e1, if_neg e1, if_pos (by omega), if_pos (by omega)]
    · exact sc_o e
theorem qP2 (hi : i < 5) : pF (CH h S) (103 + 4 * i) 6 2 (.int x) = some (CH h (sP S (upP (zP S) i ((zP S i).1, (zP S i).2.1, upd (zP S i).2.2 3 x)))) := by
  have e : pF (CH h S) (103 + 4 * i) 6 2 (.int x) = some (put (CH h S) (103 + 4 * i) (slO (103 + 4 * i) (upd (zP S i).2.2 3 x))) := by
    unfold pF
    rw [CH_sl hi]
    rfl
  rw [e, put_P0 hi (fun k hk => by rcases hk with rfl | rfl <;> rfl)]
theorem qP3 (hi : i < 5) : pF (CH h S) (103 + 4 * i) 6 3 (.int x) = some (CH h (sP S (upP (zP S) i ((zP S i).1, (zP S i).2.1, upd (zP S i).2.2 4 x)))) := by
  have e : pF (CH h S) (103 + 4 * i) 6 3 (.int x) = some (put (CH h S) (103 + 4 * i) (slO (103 + 4 * i) (upd (zP S i).2.2 4 x))) := by
    unfold pF
    rw [CH_sl hi]
    rfl
  rw [e, put_P0 hi (fun k hk => by rcases hk with rfl | rfl <;> rfl)]
theorem qV1 (hi : i < 5) : pF (CH h S) (105 + 4 * i) 5 1 (.int x) = some (CH h (sP S (upP (zP S) i ((zP S i).1, (zP S i).2.1, upd (zP S i).2.2 1 x)))) := by
  have e : pF (CH h S) (105 + 4 * i) 5 1 (.int x) = some (put (CH h S) (105 + 4 * i) (shO (106 + 4 * i) (upd (zP S i).2.2 1 x))) := by
    unfold pF
    rw [CH_ss hi]
    rfl
  rw [e, put_P2 hi (fun k hk => by rcases hk with rfl | rfl <;> rfl)]
theorem qV2 (hi : i < 5) : pF (CH h S) (105 + 4 * i) 5 2 (.int x) = some (CH h (sP S (upP (zP S) i ((zP S i).1, (zP S i).2.1, upd (zP S i).2.2 2 x)))) := by
  have e : pF (CH h S) (105 + 4 * i) 5 2 (.int x) = some (put (CH h S) (105 + 4 * i) (shO (106 + 4 * i) (upd (zP S i).2.2 2 x))) := by
    unfold pF
    rw [CH_ss hi]
    rfl
  rw [e, put_P2 hi (fun k hk => by rcases hk with rfl | rfl <;> rfl)]
theorem zPs {X : SlT} : zP (sP S X) = X := rfl
theorem sPs {X Y : SlT} : sP (sP S X) Y = sP S Y := rfl
theorem zHP {X : SlT} : zH (sP S X) = zH S := rfl
theorem zNP {X : SlT} : zN (sP S X) = zN S := rfl
theorem V_becomes (hi : i < 5) (hj : j < 10) (hv : (zN S).2.1 j 5 = 0 ∨ (zN S).2.1 j 5 = 1) : Dn (d + 1) 70 [.ref (104 + 4 * i), .ref (20 + j)] (CH h S) nx = some (none, CH h (sP S (upP (zP S) i ((zN S).2.1 j, (zP S i).2))), nx) := by
  have e := c_wbecomes (d := d) (h := CH h S) (nx := nx) (a := 104 + 4 * i) (b := 20 + j) (v := (zN S).2.1 j) (w := (zP S i).1) (by omega) hv
  have e1 : put (CH h S) (20 + j) (wkC ((zN S).2.1 j)) = CH h S := by
    have := w_put (h := CH h S) (b := 17) (D := zN S) hj
    rw [← N_CH] at this
    exact this
  rw [e1, sw_put hi, put_P1 hi] at e
  exact e
theorem V_sheet (hi : i < 5) (hj : j < 4) : Dn (d + 1) 60 [.ref (105 + 4 * i), .ref (95 + 2 * j)] (CH h S) nx = some (none, CH h (sP S (upP (zP S) i ((zP S i).1, va_cpy (zH S j).1 (zP S i).2.1 0 0 24, upd (upd (zP S i).2.2 1 ((zH S j).2 1)) 2 ((zH S j).2 2)))), nx) := by
  have e : cpA (CH h S) (96 + 2 * j) (106 + 4 * i) 0 0 24 = some (CH h (sP S (upP (zP S) i ((zP S i).1, va_cpy (zH S j).1 (zP S i).2.1 0 0 24, (zP S i).2.2)))) := by
    unfold cpA
    rw [CH_sp hj, CH_sq hi]
    dsimp only
    rw [if_pos ⟨⟨rfl, rfl⟩, ⟨by decide, by decide, by decide⟩, by decide, by decide⟩, show (0 : Int32).toNatClampNeg = 0 from rfl, show (24 : Int32).toNatClampNeg = 24 from rfl, put_P3 hi]
  have e1 := qV1 (h := h) (S := sP S (upP (zP S) i ((zP S i).1, va_cpy (zH S j).1 (zP S i).2.1 0 0 24, (zP S i).2.2))) (x := (zH S j).2 1) hi
  rw [zPs, upP_s, upP_2, sPs] at e1
  dsimp only at e1
  have e2 := qV2 (h := h) (S := sP S (upP (zP S) i ((zP S i).1, va_cpy (zH S j).1 (zP S i).2.1 0 0 24, upd (zP S i).2.2 1 ((zH S j).2 1)))) (x := (zH S j).2 2) hi
  rw [zPs, upP_s, upP_2, sPs] at e2
  dsimp only at e2
  simp only [n_60, e_60_0, e_60_1, e_60_4, e_60_5, e_60_6, e_60_9, e_60_10, e_60_12, e_60_15, e_60_16, e_60_17, e_60_20, e_60_23, e_60_24, e_60_25, e_60_28, e_60_31, gH0 hj, gV0 hi, e, gH1 hj, gH2 hj, zHP, e1, e2, Option.bind_some]
/-- LAY: what the slot is then -/
def lyF (q : (Nat → Int32) × (Nat → Int32) × (Nat → Int32)) (y z : Int32) (w : Nat → Int32) (A : (Nat → Int32) × (Nat → Int32)) : (Nat → Int32) × (Nat → Int32) × (Nat → Int32) :=
  if y = 1 then (w, q.2.1, upd q.2.2 3 y) else if y = 2 then (q.1, va_cpy A.1 q.2.1 0 0 24, upd (upd (upd q.2.2 3 y) 1 (A.2 1)) 2 (A.2 2)) else if y = 3 then (q.1, q.2.1, upd (upd q.2.2 3 y) 4 z) else (q.1, q.2.1, upd q.2.2 3 y)
theorem lay_tail (hi : i < 5) (h4 : nr l4 = true) (h5 : nr l5 = true) (hw : y = 1 → ∃ j, z = nI j ∧ j < 10 ∧ ((zN S).2.1 j 5 = 0 ∨ (zN S).2.1 j 5 = 1)) (hA : y = 2 → ∃ j, z = nI j ∧ j < 4) : Df (d + 2) 110 71 [.ref 16, .int (nI i), .int y, .int z, .null, .null] [] (CH h S) nx = an ((zP S i).2.2 3) h (sP S (upP (zP S) i (lyF (zP S i) y z ((zN S).2.1 z.toNatClampNeg) (zH S z.toNatClampNeg)))) nx := by
  unfold lyF
  by_cases h1 : y = 1
  · subst h1
    obtain ⟨j, rfl, hj, hv⟩ := hw rfl
    have e1 := V_becomes (d := d + 1) (h := h) (nx := nx) (S := sP S (upP (zP S) i ((zP S i).1, (zP S i).2.1, upd (zP S i).2.2 3 1))) hi hj hv
    rw [zPs, upP_s, upP_2, sPs, zNP] at e1
    dsimp only at e1
    simp only [e_110_71, e_110_72, e_110_75, e_110_76, e_110_77n, e_110_77i, e_110_77r, e_110_79, e_110_81, e_110_84n, e_110_84i, e_110_84r, e_110_86, e_110_88, e_110_89, e_110_92, e_110_93, e_110_94, e_110_97, e_110_99, e_110_102, e_110_103, e_110_106, e_110_109, e_110_110, e_110_111, e_110_114, e_110_117, e_110_118, e_110_119, e_110_122, e_110_124, e_110_127, e_110_128, e_110_131, e_110_132, e_110_133, e_110_136, e_110_139, e_110_140, e_110_141, e_110_144, e_110_146, e_110_147, e_110_150, e_110_152, gO0, gO7, rPr hi, gP0 hi, gP2 hi, qP2 hi, gN1, rNr hj, kPw hi, if_true, e1, cn_v, Option.bind_some]
    rw [cl_nI (by omega)]; rfl
  by_cases h2 : y = 2
  · subst h2
    obtain ⟨j, rfl, hj⟩ := hA rfl
    have e1 := V_sheet (d := d + 1) (h := h) (nx := nx) (S := sP S (upP (zP S) i ((zP S i).1, (zP S i).2.1, upd (zP S i).2.2 3 2))) hi hj
    rw [zPs, upP_s, upP_2, sPs, zHP] at e1
    dsimp only at e1
    have hb : ¬ (2 : Int32) = 1 := by decide
    simp only [e_110_71, e_110_72, e_110_75, e_110_76, e_110_77n, e_110_77i, e_110_77r, e_110_79, e_110_81, e_110_84n, e_110_84i, e_110_84r, e_110_86, e_110_88, e_110_89, e_110_92, e_110_93, e_110_94, e_110_97, e_110_99, e_110_102, e_110_103, e_110_106, e_110_109, e_110_110, e_110_111, e_110_114, e_110_117, e_110_118, e_110_119, e_110_122, e_110_124, e_110_127, e_110_128, e_110_131, e_110_132, e_110_133, e_110_136, e_110_139, e_110_140, e_110_141, e_110_144, e_110_146, e_110_147, e_110_150, e_110_152, gO6, gO7, rPr hi, gP1 hi, gP2 hi, qP2 hi, rHr hj, kV hi, if_true, hb, if_false, e1, cn_v, Option.bind_some]
    rw [cl_nI (by omega)]; rfl
  by_cases h3 : y = 3
  · subst h3
    have e1 := qP3 (h := h) (S := sP S (upP (zP S) i ((zP S i).1, (zP S i).2.1, upd (zP S i).2.2 3 3))) (x := z) hi
    rw [zPs, upP_s, upP_2, sPs] at e1
    dsimp only at e1
    simp only [e_110_71, e_110_72, e_110_75, e_110_76, e_110_77n, e_110_77i, e_110_77r, e_110_79, e_110_81, e_110_84n, e_110_84i, e_110_84r, e_110_86, e_110_88, e_110_89, e_110_92, e_110_93, e_110_94, e_110_97, e_110_99, e_110_102, e_110_103, e_110_106, e_110_109, e_110_110, e_110_111, e_110_114, e_110_117, e_110_118, e_110_119, e_110_122, e_110_124, e_110_127, e_110_128, e_110_131, e_110_132, e_110_133, e_110_136, e_110_139, e_110_140, e_110_141, e_110_144, e_110_146, e_110_147, e_110_150, e_110_152, gO7, rPr hi, gP2 hi, qP2 hi, h1, h2, if_true, if_false, e1, Option.bind_some]
    rfl
  · simp only [e_110_71, e_110_72, e_110_75, e_110_76, e_110_77n, e_110_77i, e_110_77r, e_110_79, e_110_81, e_110_84n, e_110_84i, e_110_84r, e_110_86, e_110_88, e_110_89, e_110_92, e_110_93, e_110_94, e_110_97, e_110_99, e_110_102, e_110_103, e_110_106, e_110_109, e_110_110, e_110_111, e_110_114, e_110_117, e_110_118, e_110_119, e_110_122, e_110_124, e_110_127, e_110_128, e_110_131, e_110_132, e_110_133, e_110_136, e_110_139, e_110_140, e_110_141, e_110_144, e_110_146, e_110_147, e_110_150, e_110_152, gO7, rPr hi, gP2 hi, qP2 hi, h1, h2, h3, if_false, Option.bind_some]
    rfl
theorem P_lay (hG : cG S s t) : Dn (d + 3) 110 [.ref 16, .int x, .int y, .int z] (CH h S) nx = if ((0 ≤ x ∧ x ≤ 4) ∧ (0 ≤ y ∧ y ≤ 3)) ∧ (y = 1 → 0 ≤ z ∧ z < nI s) ∧ (y = 2 → 0 ≤ z ∧ z ≤ 3) then (if y = 2 ∧ (zH S z.toNatClampNeg).2 1 = -1 then an (-1000000011) h S nx else an ((zP S x.toNatClampNeg).2.2 3) h (sP S (upP (zP S) x.toNatClampNeg (lyF (zP S x.toNatClampNeg) y z ((zN S).2.1 z.toNatClampNeg) (zH S z.toNatClampNeg)))) nx) else an (-1000000001) h S nx := by
  have hs := hG.1.1
  have hs10 := hG.1.2.1
  by_cases h1 : 0 ≤ x ∧ x ≤ 4
  · obtain ⟨i, hi, rfl⟩ := idxle (m := 4) h1 (by omega)
    have hi5 : i < 5 := by omega
    rw [cl_nI (by omega)]
    by_cases h2 : 0 ≤ y ∧ y ≤ 3
    · by_cases h3 : y = 1
      · subst h3
        have hb : ¬ (1 : Int32) = 2 := by decide
        by_cases h4 : 0 ≤ z ∧ z < nI s
        · rw [if_pos ⟨⟨h1, h2⟩, fun _ => h4, fun q => absurd q hb⟩, if_neg (fun q => hb q.1)]
          obtain ⟨j, hj, rfl⟩ := idx h4 (by omega)
          refine Eq.trans ?_ (lay_tail (d := d) (l4 := .null) (l5 := .null) hi5 nr_n nr_n (fun _ => ⟨j, rfl, by omega, hG.1.2.2.2.2 j hj⟩) (fun q => absurd q hb))
          simp only [n_110, e_110_0, e_110_1, e_110_4, e_110_7, e_110_8, e_110_9, e_110_10, e_110_13, e_110_16, e_110_18, e_110_19, e_110_20, e_110_21, e_110_24, e_110_25, e_110_28, e_110_29, e_110_32, e_110_35, e_110_36, e_110_37, e_110_40, e_110_41, e_110_44, e_110_47, e_110_49, e_110_50, e_110_51, e_110_52, e_110_55, e_110_56, e_110_59, e_110_60, e_110_61, e_110_64, e_110_65, e_110_68, e_110_70, c_isSlot, c_within, cn_s, pi_if, gO0, kNc, if_true, N_has hs hs10, hb, if_false, Option.bind_some]
          rw [if_pos h1, if_pos h2, if_pos h4]
        · rw [if_neg (fun q => h4 (q.2.1 rfl))]
          simp only [n_110, e_110_0, e_110_1, e_110_4, e_110_7, e_110_8, e_110_9, e_110_10, e_110_13, e_110_16, e_110_18, e_110_19, e_110_20, e_110_21, e_110_24, e_110_25, e_110_28, e_110_29, e_110_32, e_110_35, e_110_36, e_110_37, e_110_40, e_110_41, e_110_44, e_110_47, e_110_49, e_110_50, e_110_51, e_110_52, e_110_55, e_110_56, e_110_59, e_110_60, e_110_61, e_110_64, e_110_65, e_110_68, e_110_70, c_isSlot, c_within, cn_s, pi_if, gO0, kNc, if_true, N_has hs hs10, hb, if_false, Option.bind_some]
          rw [if_pos h1, if_pos h2, if_neg h4]; rfl
      by_cases h5 : y = 2
      · subst h5
        by_cases h4 : 0 ≤ z ∧ z ≤ 3
        · obtain ⟨j, hj, rfl⟩ := idxle (m := 3) h4 (by omega)
          have hj4 : j < 4 := by omega
          rw [if_pos ⟨⟨h1, h2⟩, fun q => absurd q h3, fun _ => h4⟩, cl_nI (show j < 2147483648 by omega)]
          simp only [n_110, e_110_0, e_110_1, e_110_4, e_110_7, e_110_8, e_110_9, e_110_10, e_110_13, e_110_16, e_110_18, e_110_19, e_110_20, e_110_21, e_110_24, e_110_25, e_110_28, e_110_29, e_110_32, e_110_35, e_110_36, e_110_37, e_110_40, e_110_41, e_110_44, e_110_47, e_110_49, e_110_50, e_110_51, e_110_52, e_110_55, e_110_56, e_110_59, e_110_60, e_110_61, e_110_64, e_110_65, e_110_68, e_110_70, c_isSlot, c_within, c_isSheet, cn_s, pi_if, gO6, rHr hj4, gH1 hj4, h3, if_true, if_false, Option.bind_some, true_and]
          rw [if_pos h1, if_pos h2, if_pos h4]
          by_cases h6 : (zH S j).2 1 = -1
          · rw [if_pos h6, if_pos h6]; rfl
          · rw [if_neg h6, if_neg h6]
            have e := lay_tail (d := d) (h := h) (nx := nx) (S := S) (y := 2) (z := nI j) (l4 := .null) (l5 := .null) hi5 nr_n nr_n (fun q => absurd q h3) (fun _ => ⟨j, rfl, hj4⟩)
            rw [cl_nI (show j < 2147483648 by omega)] at e
            exact e
        · rw [if_neg (fun q => h4 (q.2.2 rfl))]
          simp only [n_110, e_110_0, e_110_1, e_110_4, e_110_7, e_110_8, e_110_9, e_110_10, e_110_13, e_110_16, e_110_18, e_110_19, e_110_20, e_110_21, e_110_24, e_110_25, e_110_28, e_110_29, e_110_32, e_110_35, e_110_36, e_110_37, e_110_40, e_110_41, e_110_44, e_110_47, e_110_49, c_isSlot, c_within, c_isSheet, cn_s, pi_if, h3, if_true, if_false]
          rw [if_pos h1, if_pos h2, if_neg h4]; rfl
      · rw [if_pos ⟨⟨h1, h2⟩, fun q => absurd q h3, fun q => absurd q h5⟩, if_neg (fun q => h5 q.1)]
        simp only [n_110, e_110_0, e_110_1, e_110_4, e_110_7, e_110_8, e_110_9, e_110_10, e_110_13, e_110_16, e_110_18, e_110_19, e_110_20, e_110_21, e_110_24, e_110_25, e_110_28, e_110_29, e_110_32, e_110_35, e_110_36, e_110_37, e_110_40, e_110_41, e_110_44, e_110_47, e_110_49, e_110_50, e_110_51, e_110_52, e_110_55, e_110_56, e_110_59, e_110_60, e_110_61, e_110_64, e_110_65, e_110_68, e_110_70, c_isSlot, c_within, cn_s, pi_if, h3, h5, if_false]
        rw [if_pos h1, if_pos h2]
        exact lay_tail (l4 := .null) (l5 := .null) hi5 nr_n nr_n (fun q => absurd q h3) (fun q => absurd q h5)
    · rw [if_neg (fun q => h2 q.1.2)]
      simp only [n_110, e_110_0, e_110_1, e_110_4, e_110_7, e_110_8, e_110_9, e_110_10, e_110_13, e_110_16, e_110_18, c_isSlot, c_within, cn_s, pi_if]
      rw [if_pos h1, if_neg h2]; rfl
  · rw [if_neg (fun q => h1 q.1.1)]
    simp only [n_110, e_110_0, e_110_1, e_110_4, e_110_16, e_110_18, c_isSlot, cn_s, pi_if]
    rw [if_neg h1]; rfl
end S12
