/-! numbers within bounds; what every desert keeps, with bounds -/
def wJ (w : Nat → Int32) : Prop := (∃ m, w 1 = nI m ∧ m ≤ 99) ∧ ∃ m, w 2 = nI m ∧ m ≤ 30
def ndd (W : Nat → Nat → Int32) : Nat → Nat
  | 0 => 0
  | n + 1 => ndd W n + (if W n 5 = 0 then 1 else 0)
def dJ (D : DT) (s H : Nat) : Prop := dI D s ∧ (∀ i, i < s → wJ (D.2.1 i)) ∧ (∀ c, c < 24 → ∃ m, D.1 c = nI m ∧ m ≤ 99) ∧ (∃ m, D.2.2 4 = nI m ∧ m ≤ 9) ∧ (∃ m, D.2.2 5 = nI m ∧ m ≤ 9) ∧ D.2.2 10 = nI H ∧ D.2.2 8 = nI (ndd D.2.1 s)
section NU
variable {a b m k n : Nat} {x y z : Int32} {w : Nat → Int32}
theorem nI_div (ha : a < 2147483648) (hb : b < 2147483648) (h0 : 0 < b) : nI a / nI b = nI (a / b) := by
  apply Int32.toInt_inj.mp
  have e1 : (nI a).toInt = a := nI_toInt (by omega)
  have e2 : (nI b).toInt = b := nI_toInt (by omega)
  have e4 : a / b ≤ a := Nat.div_le_self a b
  have e5 : (a : Int).tdiv b = ((a / b : Nat) : Int) := (Int.ofNat_tdiv a b).symm
  rw [Int32.toInt_div, e1, e2, e5]
  generalize a / b = q at e4
  have e3 : (nI q).toInt = q := nI_toInt (by omega)
  rw [e3]
  exact Int.bmod_eq_of_le (by omega) (by omega)
theorem nI_rem (ha : a < 2147483648) (hb : b < 2147483648) (h0 : 0 < b) : nI a - nI a / nI b * nI b = nI (a % b) := by
  rw [nI_div ha hb h0, show nI (a / b) * nI b = nI (a / b * b) from (Int32.ofNat_mul (a / b) b).symm, nI_sub (Nat.div_mul_le_self a b)]
  congr 1
  have := Nat.mod_add_div a b
  rw [Nat.mul_comm] at this
  omega
theorem dr8_nI (z : Int32) : ∃ m, dr8 z = nI m ∧ m < 16777216 := by
  refine ⟨(dr8 z).toBitVec.toNat, ?_, ?_⟩
  · apply Int32.toBitVec_inj.mp
    simp [nI]
  · have e : (dr8 z).toBitVec = z.toBitVec >>> 8 := by
      unfold dr8
      rfl
    rw [e, BitVec.toNat_ushiftRight, Nat.shiftRight_eq_div_pow]
    have := z.toBitVec.isLt
    omega
theorem dr_rem {b : Nat} (hb : b < 2147483648) (h0 : 0 < b) (z : Int32) : ∃ m, dr8 z - dr8 z / nI b * nI b = nI m ∧ m < b := by
  obtain ⟨m, e, hm⟩ := dr8_nI z
  rw [e, nI_rem (by omega) hb h0]
  exact ⟨m % b, rfl, Nat.mod_lt _ h0⟩
theorem hld_nI (hk : k < 2147483648) (hb : b < 2147483648) : hld (nI k) 0 (nI b) = nI (min k b) := by
  unfold hld
  rw [if_neg (nI_pos (by omega))]
  by_cases h : b < k
  · rw [if_pos (nI_lt h (by omega)), Nat.min_eq_right (by omega)]
  · rw [if_neg (show ¬ nI b < nI k by rw [i_nlt]; exact nI_le (by omega) (by omega)), Nat.min_eq_left (by omega)]
theorem mn_nI (hk : k < 2147483648) (hb : b < 2147483648) : (if nI k < nI b then nI k else nI b) = nI (min k b) := by
  rw [min_nI hb hk, Nat.min_comm]
theorem hld_bd (b : Nat) (hb : b < 2147483647) (x : Int32) : ∃ m, hld x 0 (nI b) = nI m ∧ m ≤ b := by
  unfold hld
  by_cases h1 : x < 0
  · rw [if_pos h1]; exact ⟨0, rfl, by omega⟩
  rw [if_neg h1]
  by_cases h2 : nI b < x
  · rw [if_pos h2]; exact ⟨b, rfl, by omega⟩
  · rw [if_neg h2]
    rw [i_nlt] at h1 h2
    obtain ⟨i, hi, rfl⟩ := idxle ⟨h1, h2⟩ hb
    exact ⟨i, rfl, hi⟩
theorem slk_c (k : Int32) : ∃ q, (slk k = nI q ∧ 4 ≤ q ∧ q ≤ 9) := by
  unfold slk
  repeat' split
  · exact ⟨4, rfl, by omega, by omega⟩
  · exact ⟨6, rfl, by omega, by omega⟩
  · exact ⟨4, rfl, by omega, by omega⟩
  · exact ⟨7, rfl, by omega, by omega⟩
  · exact ⟨9, rfl, by omega, by omega⟩
  · exact ⟨5, rfl, by omega, by omega⟩
theorem cup_tab : ∀ q, q < 10 → ∀ m, m < 100 → hld (nI m - nI q) 0 99 = nI (m - q) ∧ (if 0 < nI m - nI q then nI m - nI q else 0) = nI (m - q) := by decide +kernel
/-- a cup, as the class and as the model drink it -/
theorem cup_nI (h1 : w 1 = nI m) (hm : m ≤ 99) : ∃ q, 4 ≤ q ∧ cup w = upd w 1 (nI (m - q)) ∧ hld (w 1 - slk (w 0)) 0 99 = nI (m - q) := by
  obtain ⟨q, e, h4, h9⟩ := slk_c (w 0)
  have t := cup_tab q (by omega) m (by omega)
  refine ⟨q, h4, ?_, ?_⟩
  · unfold cup
    rw [h1, e, t.2]
  · rw [h1, e, t.1]
theorem cup_eq (h : wJ w) : upd w 1 (hld (w 1 - slk (w 0)) 0 99) = cup w := by
  obtain ⟨⟨m, h1, hm⟩, _⟩ := h
  obtain ⟨q, _, e1, e2⟩ := cup_nI h1 hm
  rw [e1, e2]
theorem cup_J (h : wJ w) : wJ (cup w) := by
  obtain ⟨⟨m, h1, hm⟩, h2⟩ := h
  obtain ⟨q, _, e1, e2⟩ := cup_nI h1 hm
  rw [e1]
  exact ⟨⟨m - q, rfl, by omega⟩, h2⟩
theorem drL_J : ∀ (n : Nat) (w : Nat → Int32) (l : Nat), wJ w → wJ (drL n w (nI l)).1 ∧ (∃ l', (drL n w (nI l)).2 = nI l' ∧ l' ≤ l) ∧ (drL n w (nI l)).1 2 = w 2
  | 0, w, l, hw => ⟨hw, ⟨l, rfl, Nat.le_refl _⟩, rfl⟩
  | n + 1, w, l, hw => by
    unfold drL
    by_cases h1 : nI l ≤ 0
    · rw [if_pos h1]; exact ⟨hw, ⟨l, rfl, Nat.le_refl _⟩, rfl⟩
    rw [if_neg h1]
    by_cases h2 : w 1 ≤ 0
    · rw [if_pos h2]; exact ⟨hw, ⟨l, rfl, Nat.le_refl _⟩, rfl⟩
    rw [if_neg h2]
    have hl : 0 < l := by
      rcases Nat.eq_zero_or_pos l with h | h
      · subst h; exact absurd (by decide) h1
      · exact h
    obtain ⟨l', rfl⟩ : ∃ l', l = l' + 1 := ⟨l - 1, by omega⟩
    have e : nI (l' + 1) + -1 = nI l' := pk_m1 l'
    rw [e]
    have ih := drL_J n (cup w) l' (cup_J hw)
    refine ⟨ih.1, ?_, ih.2.2.trans (cup_3 w).2.2.2.1⟩
    obtain ⟨l2, e2, h3⟩ := ih.2.1
    exact ⟨l2, e2, by omega⟩
theorem fil_nI {p l : Nat} (h2 : w 2 = nI p) (hp : p ≤ 30) (hl : l < 1000) : fil w (nI l) = nI (min l (30 - p)) ∧ hld (nI l) 0 (30 - w 2) = nI (min l (30 - p)) := by
  have e : (30 : Int32) - nI p = nI (30 - p) := nI_sub (a := 30) hp
  constructor
  · unfold fil
    rw [h2, e, mn_nI (k := 30 - p) (b := l) (by omega) (by omega), Nat.min_comm]
    have hr : min l (30 - p) < 1000 := by omega
    generalize min l (30 - p) = r at hr
    by_cases h0 : 0 < nI r
    · rw [if_pos h0]
    · rw [if_neg h0]
      rw [i_nlt] at h0
      have h0 : nI r ≤ nI 0 := h0
      have h1 := (nI_leI (by omega) (by omega)).mp h0
      rw [show r = 0 by omega]; rfl
  · rw [h2, e, hld_nI (by omega) (by omega)]
theorem drF_J {l : Nat} (hw : wJ w) (hl : l ≤ 99) : wJ (drF w (nI l)).1 ∧ ∃ l', (drF w (nI l)).2 = nI l' ∧ l' ≤ l := by
  obtain ⟨h1, ⟨l', e1, h2⟩, h3⟩ := drL_J 99 w l hw
  obtain ⟨_, p, hp, hp30⟩ := hw
  unfold drF
  generalize drL 99 w (nI l) = r at *
  have f := fil_nI (w := r.1) (p := p) (l := l') (h3.trans hp) hp30 (by omega)
  unfold drk
  rw [e1, f.1, h3, hp]
  refine ⟨⟨?_, ?_⟩, ?_⟩
  · exact h1.1
  · exact ⟨p + min l' (30 - p), nI_add _ _, by omega⟩
  · exact ⟨l' - min l' (30 - p), nI_sub (by omega), by omega⟩
theorem cupN_J : ∀ (n : Nat) (w : Nat → Int32), wJ w → wJ (cupN n w) ∧ cupN n w 2 = w 2
  | 0, w, h => ⟨h, rfl⟩
  | n + 1, w, h => by
    have := cupN_J n (cup w) (cup_J h)
    exact ⟨this.1, this.2.trans (cup_3 w).2.2.2.1⟩
theorem thB_J {p q : Nat} (hw : wJ w) (hp : p ≤ 50) (hq : q ≤ 9) : wJ (thB w (nI p) (nI q)) := by
  obtain ⟨⟨m, h1, hm⟩, ⟨k, h2, hk⟩⟩ := hw
  unfold thB
  have e : (if w 1 + nI p < 99 then w 1 + nI p else (99 : Int32)) = nI (min (m + p) 99) := by
    rw [h1, nI_add]
    exact mn_nI (b := 99) (by omega) (by omega)
  rw [e]
  dsimp only
  have hw1 : wJ (upd w 1 (nI (min (m + p) 99))) := ⟨⟨_, rfl, by omega⟩, ⟨k, h2, hk⟩⟩
  have h22 : upd w 1 (nI (min (m + p) 99)) 2 = nI k := h2
  generalize upd w 1 (nI (min (m + p) 99)) = w1 at hw1 h22
  by_cases c : w1 1 < 20
  · rw [if_pos c]; exact hw1
  · rw [if_neg c, h22, mn_nI (by omega) (by omega), cl_nI (by omega)]
    have f := cupN_J (min k q) w1 hw1
    generalize cupN (min k q) w1 = w2 at f
    rw [f.2, h22, nI_sub (by omega)]
    exact ⟨f.1.1, ⟨k - min k q, rfl, by omega⟩⟩
theorem pln_nI {L : LT} {q : Nat → Int32} (h4 : q 4 = nI m) (hm : m ≤ 9) : ∃ p, pln L n q w = nI p ∧ p ≤ 40 := by
  unfold pln
  cases lat L.2 0 n with
  | none => exact ⟨m + 1, by rw [h4]; exact nI_1 m, by omega⟩
  | some j => exact hld_bd 40 (by omega) _
theorem thr_nI {L : LT} {q : Nat → Int32} {H : Nat} (h4 : q 4 = nI m) (hm : m ≤ 9) (h10 : q 10 = nI H) (hH : H < 2147483648) : ∃ p, thrF L n q w = nI p ∧ p ≤ 42 := by
  obtain ⟨p, e, hp⟩ := pln_nI (L := L) (n := n) (w := w) h4 hm
  unfold thrF
  rw [e]
  have d2 : nI p / 2 = nI (p / 2) := nI_div (b := 2) (by omega) (by omega) (by omega)
  repeat' split
  · exact ⟨p + 2, nI_add p 2, by omega⟩
  · exact ⟨p / 2, d2, by omega⟩
  · refine ⟨p + 1, ?_, by omega⟩
    rw [show nI p + 2 = nI (p + 2) from nI_add p 2]
    exact nI_sub (a := p + 2) (b := 1) (by omega)
  · have r2 : nI H - nI H / 2 * 2 = nI (H % 2) := nI_rem (b := 2) hH (by omega) (by omega)
    rw [d2, h10, r2]
    exact ⟨p / 2 + H % 2, nI_add _ _, by omega⟩
  · exact ⟨1, rfl, by omega⟩
  · exact ⟨p, rfl, by omega⟩
end NU
section DJ
variable {D : DT} {s H i j k n m c t : Nat} {w : Nat → Int32} {x : Int32} {L : LT}
theorem ndd_w {W : Nat → Nat → Int32} (e : w 5 = W k 5) : ∀ s, ndd (updW W k w) s = ndd W s
  | 0 => rfl
  | s + 1 => by
    unfold ndd
    rw [ndd_w e s]
    by_cases h : s = k
    · subst h
      rw [show updW W s w s = w from if_pos rfl, e]
    · rw [show updW W k w s = W s from if_neg h]
theorem ndd_le {W : Nat → Nat → Int32} : ∀ s, ndd W s ≤ s
  | 0 => Nat.le_refl _
  | s + 1 => by
    have := ndd_le (W := W) s
    unfold ndd
    split <;> omega
theorem ndd_d {W : Nat → Nat → Int32} (h5 : ¬ W k 5 = 0) (h0 : w 5 = 0) : ∀ s, ndd (updW W k w) s = ndd W s + (if k < s then 1 else 0)
  | 0 => by simp [ndd]
  | s + 1 => by
    unfold ndd
    rw [ndd_d h5 h0 s]
    by_cases h : s = k
    · subst h
      rw [show updW W s w s = w from if_pos rfl, if_pos h0, if_neg (by omega), if_neg h5, if_pos (by omega)]
    · rw [show updW W k w s = W s from if_neg h]
      by_cases h2 : k < s
      · rw [if_pos h2, if_pos (show k < s + 1 by omega)]; omega
      · rw [if_neg h2, if_neg (show ¬ k < s + 1 by omega)]; omega
theorem dJ.wk (hD : dJ D s H) (k : Nat) (hw : k < s → wJ w) (h3 : w 3 = D.2.1 k 3) (h5 : w 5 = D.2.1 k 5) : dJ (dW D k w) s H := by
  obtain ⟨a1, a2, a3, a4, a5, a6, a7⟩ := hD
  refine ⟨⟨a1.1, a1.2.1, a1.2.2.1, fun i hi => ?_, fun i hi => ?_⟩, fun i hi => ?_, a3, a4, a5, a6, ?_⟩
  · show ∃ g, updW D.2.1 k w i 3 = _ ∧ _
    by_cases e : i = k
    · subst e
      rw [show updW D.2.1 i w i = w from if_pos rfl, h3]; exact a1.2.2.2.1 i hi
    · rw [show updW D.2.1 k w i = D.2.1 i from if_neg e]; exact a1.2.2.2.1 i hi
  · show updW D.2.1 k w i 5 = 0 ∨ updW D.2.1 k w i 5 = 1
    by_cases e : i = k
    · subst e
      rw [show updW D.2.1 i w i = w from if_pos rfl, h5]; exact a1.2.2.2.2 i hi
    · rw [show updW D.2.1 k w i = D.2.1 i from if_neg e]; exact a1.2.2.2.2 i hi
  · show wJ (updW D.2.1 k w i)
    by_cases e : i = k
    · subst e
      rw [show updW D.2.1 i w i = w from if_pos rfl]; exact hw hi
    · rw [show updW D.2.1 k w i = D.2.1 i from if_neg e]; exact a2 i hi
  · show D.2.2 8 = nI (ndd (updW D.2.1 k w) s)
    rw [ndd_w h5]; exact a7
theorem dJ.wt (hD : dJ D s H) (hm : m ≤ 99) (c : Nat) : dJ (dwt D c (nI m)) s H := by
  obtain ⟨a1, a2, a3, a4, a5, a6, a7⟩ := hD
  refine ⟨a1, a2, fun b hb => ?_, a4, a5, a6, a7⟩
  show ∃ m', upd D.1 c (nI m) b = nI m' ∧ m' ≤ 99
  by_cases e : b = c
  · rw [show upd D.1 c (nI m) b = nI m from if_pos e]; exact ⟨m, rfl, hm⟩
  · rw [show upd D.1 c (nI m) b = D.1 b from if_neg e]; exact a3 b hb
theorem dJ.q (hD : dJ D s H) {f : Nat} (hf : f = 6 ∨ f = 7 ∨ f = 9 ∨ f = 11 ∨ f = 12) (x : Int32) : dJ (dq D f x) s H := by
  obtain ⟨a1, a2, a3, a4, a5, a6, a7⟩ := hD
  have hne : ∀ g, g = 4 ∨ g = 5 ∨ g = 8 ∨ g = 10 → upd D.2.2 f x g = D.2.2 g := fun g hg => if_neg (by omega)
  refine ⟨a1.q (by omega) (by omega) x, a2, a3, ?_, ?_, ?_, ?_⟩
  · show ∃ m, upd D.2.2 f x 4 = _ ∧ _
    rw [hne 4 (by omega)]; exact a4
  · show ∃ m, upd D.2.2 f x 5 = _ ∧ _
    rw [hne 5 (by omega)]; exact a5
  · show upd D.2.2 f x 10 = _
    rw [hne 10 (by omega)]; exact a6
  · show upd D.2.2 f x 8 = _
    rw [hne 8 (by omega)]; exact a7
theorem dJ.heat (hD : dJ D s H) (hm : m ≤ 9) : dJ (dq D 4 (nI m)) s H := by
  obtain ⟨a1, a2, a3, a4, a5, a6, a7⟩ := hD
  exact ⟨a1.q (by omega) (by omega) _, a2, a3, ⟨m, rfl, hm⟩, a5, a6, a7⟩
theorem dJ.cell (hD : dJ D s H) (hc : c < 24) : dJ (dq D 3 (nI c)) s H := by
  obtain ⟨a1, a2, a3, a4, a5, a6, a7⟩ := hD
  exact ⟨a1.cell hc, a2, a3, a4, a5, a6, a7⟩
theorem dJ.hour (hD : dJ D s H) (n : Nat) : dJ (dq D 10 (nI n)) s n := by
  obtain ⟨a1, a2, a3, a4, a5, a6, a7⟩ := hD
  exact ⟨a1.q (by omega) (by omega) _, a2, a3, a4, a5, rfl, a7⟩
theorem daF_J : ∀ (n k : Nat) (D : DT), k + n ≤ s → dJ D s H → dJ (daF n k D) s H
  | 0, _, D, _, hD => hD
  | n + 1, k, D, hk, hD => by
    unfold daF
    split
    · exact daF_J n (k + 1) D (by omega) hD
    · obtain ⟨c, hc, hc24⟩ := hD.1.2.2.1
      rw [hc, cl_nI (by omega)]
      obtain ⟨l, hl, hl99⟩ := hD.2.2.1 c hc24
      rw [hl]
      have f := drF_J (hD.2.1 k (by omega)) hl99
      obtain ⟨l', e, h2⟩ := f.2
      rw [e]
      exact daF_J n (k + 1) _ (by omega) ((hD.wk k (fun _ => f.1) (drF_k _ _).1 (drF_k _ _).2).wt (by omega) c)
theorem tsF_J (hH : H < 2147483648) : ∀ (n k : Nat) (D : DT), k + n ≤ s → dJ D s H → dJ (tsF L t n k D) s H
  | 0, _, D, _, hD => hD
  | n + 1, k, D, hk, hD => by
    unfold tsF
    split
    · exact tsF_J hH n (k + 1) D (by omega) hD
    · obtain ⟨m, h4, hm⟩ := hD.2.2.2.1
      obtain ⟨y, h5, hy⟩ := hD.2.2.2.2.1
      obtain ⟨p, e, hp⟩ := thr_nI (L := L) (n := t) (w := D.2.1 k) h4 hm hD.2.2.2.2.2.1 hH
      rw [e, h5]
      exact tsF_J hH n (k + 1) _ (by omega) (hD.wk k (fun h => thB_J (hD.2.1 k h) (by omega) hy) (thB_k _ _ _).1 (thB_k _ _ _).2)
theorem lose_J (hD : dJ D s H) (hk : k < s) (h5 : ¬ D.2.1 k 5 = 0) : dJ (dW (dq (dW D k (upd (D.2.1 k) 5 0)) 8 (D.2.2 8 + 1)) k (upd (upd (D.2.1 k) 5 0) 2 0)) s H := by
  obtain ⟨a1, a2, a3, a4, a5, a6, a7⟩ := hD
  have e0 : (dW (dq (dW D k (upd (D.2.1 k) 5 0)) 8 (D.2.2 8 + 1)) k (upd (upd (D.2.1 k) 5 0) 2 0)).2.1 = updW D.2.1 k (upd (upd (D.2.1 k) 5 0) 2 0) := by
    show updW (updW D.2.1 k _) k _ = _
    rw [updW_2]
  have e1 : dI (dW (dq (dW D k (upd (D.2.1 k) 5 0)) 8 (D.2.2 8 + 1)) k (upd (upd (D.2.1 k) 5 0) 2 0)) s := ((a1.wk (w := upd (D.2.1 k) 5 0) k rfl (Or.inl rfl)).q (f := 8) (by decide) (by decide) (D.2.2 8 + 1)).wk (w := upd (upd (D.2.1 k) 5 0) 2 0) k (by rw [dWq]; rfl) (Or.inl rfl)
  refine ⟨e1, ?_, a3, a4, a5, a6, ?_⟩
  · intro i hi
    rw [e0]
    by_cases e : i = k
    · subst e
      rw [updW_s]
      exact ⟨(a2 i hi).1, ⟨0, rfl, by omega⟩⟩
    · rw [show updW D.2.1 k (upd (upd (D.2.1 k) 5 0) 2 0) i = D.2.1 i from if_neg e]; exact a2 i hi
  · rw [e0, ndd_d h5 rfl, if_pos hk]
    show D.2.2 8 + 1 = _
    rw [a7]
    exact nI_1 _
theorem lsF_J : ∀ (n k m : Nat) (D : DT), k + n ≤ s → dJ D s H → dJ (lsF n k (D, nI m)).1 s H ∧ ∃ m', (lsF n k (D, nI m)).2 = nI m' ∧ m' ≤ m + 30 * n
  | 0, _, m, D, _, hD => ⟨hD, ⟨m, rfl, by omega⟩⟩
  | n + 1, k, m, D, hk, hD => by
    unfold lsF
    by_cases h1 : D.2.1 k 5 = 0
    · rw [if_pos h1]
      have f := lsF_J n (k + 1) m D (by omega) hD
      obtain ⟨m', e, h⟩ := f.2
      exact ⟨f.1, ⟨m', e, by omega⟩⟩
    rw [if_neg h1]
    by_cases h2 : D.2.1 k 1 < D.2.2 7
    · rw [if_pos h2]
      have f := lsF_J n (k + 1) m D (by omega) hD
      obtain ⟨m', e, h⟩ := f.2
      exact ⟨f.1, ⟨m', e, by omega⟩⟩
    · rw [if_neg h2]
      obtain ⟨p, e, hp⟩ := (hD.2.1 k (by omega)).2
      rw [e, nI_add]
      have f := lsF_J n (k + 1) (m + p) _ (by omega) (lose_J hD (by omega) h1)
      obtain ⟨m', e, h⟩ := f.2
      exact ⟨f.1, ⟨m', e, by omega⟩⟩
theorem heir_J (hD : dJ D s H) (hm : m ≤ 1000) : dJ (heir D s (nI m)) s H := by
  unfold heir
  cases e : ldr D.2.1 s with
  | none => exact hD
  | some j =>
    dsimp only
    obtain ⟨h1, ⟨p, h2, hp⟩⟩ := hD.2.1 j (ldr_lt e)
    have e2 : (if D.2.1 j 2 + nI m < 30 then D.2.1 j 2 + nI m else (30 : Int32)) = nI (min (p + m) 30) := by
      rw [h2, nI_add]
      exact mn_nI (b := 30) (by omega) (by omega)
    rw [e2]
    exact hD.wk j (fun _ => ⟨h1, ⟨_, rfl, by omega⟩⟩) rfl rfl
theorem hrB_J (hH : H < 2147483648) (hD : dJ D s H) : dJ (hrB L t s D) s H := by
  have h1 := daF_J s 0 D (by omega) hD
  have h2 := tsF_J (L := L) (t := t) hH s 0 _ (by omega) h1
  have h3 := lsF_J s 0 0 _ (by omega) h2
  unfold hrB
  have e0 : (0 : Int32) = nI 0 := rfl
  rw [e0]
  obtain ⟨m', e, h⟩ := h3.2
  rw [e]
  have := hD.1.2.1
  exact heir_J h3.1 (by omega)
theorem folF_J (hD : dJ D s H) (hj : j < s) : dJ (folF D j) s H := by
  obtain ⟨c, hc, hc24⟩ := hD.1.2.2.1
  have h1 : dJ (dq (dW D j (upd (D.2.1 j) 4 (D.2.1 j 4 + 1))) 11 (nxz (D.2.2 11))) s H := (hD.wk (w := upd (D.2.1 j) 4 (D.2.1 j 4 + 1)) j (fun h => hD.2.1 j h) rfl rfl).q (by omega) _
  have hg := goF_cases D.1 (D.2.1 j 0) (D.2.2 3).toNatClampNeg (D.2.1 j 3).toNatClampNeg
  have hg2 : -goF D.1 (D.2.1 j 0) (D.2.2 3).toNatClampNeg (D.2.1 j 3).toNatClampNeg = 0 ∨ -goF D.1 (D.2.1 j 0) (D.2.2 3).toNatClampNeg (D.2.1 j 3).toNatClampNeg = 1 ∨ -goF D.1 (D.2.1 j 0) (D.2.2 3).toNatClampNeg (D.2.1 j 3).toNatClampNeg = -1 := by
    rcases hg with e | e | e <;> rw [e] <;> decide
  unfold folF
  dsimp only
  split
  · obtain ⟨c', e1, e2⟩ := fm_cell hc24 hg2
    rw [hc] at e1 ⊢
    rw [e1]
    exact (h1.q (f := 9) (by omega) _).cell e2
  · obtain ⟨c', e1, e2⟩ := fm_cell hc24 hg
    rw [hc] at e1 ⊢
    rw [e1]
    exact h1.cell e2
theorem hrA_J (hD : dJ D s H) : dJ (hrA D) s H := by
  unfold hrA
  obtain ⟨m, e, hm⟩ := dr_rem (b := 10) (by omega) (by omega) (nxz (D.2.2 11))
  have e : dr8 (nxz (D.2.2 11)) - dr8 (nxz (D.2.2 11)) / 10 * 10 = nI m := e
  rw [e]
  exact (hD.q (by omega) _).heat (by omega)
theorem hrF_J (led : Prop) [Decidable led] (hH : H < 2147483648) (hD : dJ D s H) : dJ (hrF L t s led D) s (H + 1) := by
  have h1 := hrA_J hD
  unfold hrF
  dsimp only
  generalize hrA D = D1 at h1
  have fin : ∀ D2 : DT, dJ D2 s H → dJ (dq D2 10 (D2.2.2 10 + 1)) s (H + 1) := fun D2 h2 => by
    rw [h2.2.2.2.2.2.1, nI_1]
    exact h2.hour (H + 1)
  cases e : ldr D1.2.1 s with
  | none => exact fin _ h1
  | some j =>
    dsimp only
    by_cases hl : led
    · rw [if_pos hl]; exact fin _ (hrB_J hH (folF_J h1 (ldr_lt e)))
    · rw [if_neg hl]; exact fin _ (hrB_J hH h1)
theorem hrs_J : ∀ (n : Nat) (D : DT) (H : Nat), H + n < 2147483648 → dJ D s H → dJ (hrs L t s n D) s (H + n)
  | 0, D, H, _, hD => hD
  | n + 1, D, H, hH, hD => by
    unfold hrs
    have := hrs_J n _ (H + 1) (by omega) (hrF_J (L := L) (t := t) True (by omega) hD)
    rwa [show H + 1 + n = H + (n + 1) by omega] at this
theorem hrn_J : ∀ (n : Nat) (D : DT) (H : Nat), H + n < 2147483648 → dJ D s H → dJ (hrn L t s n D) s (H + n)
  | 0, D, H, _, hD => hD
  | n + 1, D, H, hH, hD => by
    unfold hrn
    have := hrn_J n _ (H + 1) (by omega) (hrF_J (L := L) (t := t) False (by omega) hD)
    rwa [show H + 1 + n = H + (n + 1) by omega] at this
end DJ
