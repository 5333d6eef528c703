/-! the model: what is only thought -/
/-- who is dead stays so -/
def ddP (D D' : DT) : Prop := ∀ i, D.2.1 i 5 = 0 → D'.2.1 i 5 = 0
section ME
variable {d : Nat} {h : AH} {nx : AN} {M : MS} {D N T D' D2 : DT} {s H i j c a k n g t m : Nat} {x y z u v : Int32} {a0 f w F K1 b : Nat → Int32} {K : (Nat → Int32) × (Nat → Int32)} {l1 l2 l3 l4 l5 : Value} {L : LT}
theorem ddP.refl (D : DT) : ddP D D := fun _ h => h
theorem ddP.trans (h1 : ddP D D') (h2 : ddP D' D2) : ddP D D2 := fun i h => h2 i (h1 i h)
theorem ddP.wk (k : Nat) (h5 : D.2.1 k 5 = 0 → w 5 = 0) : ddP D (dW D k w) := by
  intro i hi
  show updW D.2.1 k w i 5 = 0
  by_cases e : i = k
  · subst e
    rw [show updW D.2.1 i w i = w from if_pos rfl]; exact h5 hi
  · rw [show updW D.2.1 k w i = D.2.1 i from if_neg e]; exact hi
theorem ndd_mono {W W' : Nat → Nat → Int32} (hw : ∀ i, W i 5 = 0 → W' i 5 = 0) : ∀ n, ndd W n ≤ ndd W' n
  | 0 => Nat.le_refl _
  | n + 1 => by
    have := ndd_mono hw n
    unfold ndd
    by_cases h1 : W n 5 = 0
    · rw [if_pos h1, if_pos (hw n h1)]; omega
    · rw [if_neg h1]; omega
theorem daF_dd : ∀ (n k : Nat) (D : DT), ddP D (daF n k D)
  | 0, _, D => ddP.refl D
  | n + 1, k, D => by
    unfold daF
    split
    · exact daF_dd n (k + 1) D
    · refine ddP.trans (D' := dW D k (drF (D.2.1 k) (D.1 (D.2.2 3).toNatClampNeg)).1) (ddP.wk k (fun h => by rw [(drF_k _ _).2]; exact h)) ?_
      exact daF_dd n (k + 1) (dwt (dW D k (drF (D.2.1 k) (D.1 (D.2.2 3).toNatClampNeg)).1) (D.2.2 3).toNatClampNeg (drF (D.2.1 k) (D.1 (D.2.2 3).toNatClampNeg)).2)
theorem tsF_dd : ∀ (n k : Nat) (D : DT), ddP D (tsF L t n k D)
  | 0, _, D => ddP.refl D
  | n + 1, k, D => by
    unfold tsF
    split
    · exact tsF_dd n (k + 1) D
    · exact (ddP.wk k (fun h => by rw [(thB_k _ _ _).2]; exact h)).trans (tsF_dd n (k + 1) _)
theorem lsF_dd : ∀ (n k : Nat) (D : DT) (x : Int32), ddP D (lsF n k (D, x)).1
  | 0, _, D, _ => ddP.refl D
  | n + 1, k, D, x => by
    unfold lsF
    split
    · exact lsF_dd n (k + 1) D x
    split
    · exact lsF_dd n (k + 1) D x
    · refine ddP.trans ?_ (lsF_dd n (k + 1) _ _)
      refine ddP.trans (D' := dW D k (upd (D.2.1 k) 5 0)) (ddP.wk k (fun _ => rfl)) ?_
      exact ddP.wk (D := dq (dW D k (upd (D.2.1 k) 5 0)) 8 (D.2.2 8 + 1)) (w := upd (upd (D.2.1 k) 5 0) 2 0) k (fun _ => rfl)
theorem heir_dd : ddP D (heir D s x) := by
  unfold heir
  cases ldr D.2.1 s with
  | none => exact ddP.refl D
  | some j => exact ddP.wk j (fun h => h)
theorem hrB_dd : ddP D (hrB L t s D) := (daF_dd s 0 D).trans ((tsF_dd s 0 _).trans ((lsF_dd s 0 _ 0).trans heir_dd))
theorem folF_dd : ddP D (folF D j) := by
  have h1 : ddP D (dW D j (upd (D.2.1 j) 4 (D.2.1 j 4 + 1))) := ddP.wk j (fun h => h)
  intro i hi
  have := h1 i hi
  unfold folF
  dsimp only
  split
  · exact this
  · exact this
theorem hrF_dd (led : Prop) [Decidable led] : ddP D (hrF L t s led D) := by
  have h1 : ddP D (hrA D) := fun i h => h
  unfold hrF
  dsimp only
  generalize hrA D = D1 at h1
  cases e : ldr D1.2.1 s with
  | none => exact fun i h => h1 i h
  | some j =>
    dsimp only
    by_cases hl : led
    · rw [if_pos hl]
      have := h1.trans (folF_dd.trans (hrB_dd (L := L) (t := t) (s := s) (D := folF D1 j)))
      exact fun i h => this i h
    · rw [if_neg hl]
      have := h1.trans (hrB_dd (L := L) (t := t) (s := s) (D := D1))
      exact fun i h => this i h
theorem hr_deaths (led : Prop) [Decidable led] (hH : H < 2147483648) (hD : dJ D s H) : ¬ (hrF L t s led D).2.2 8 < D.2.2 8 := by
  have h1 := hrF_J (L := L) (t := t) led hH hD
  have h2 := ndd_mono (hrF_dd (L := L) (t := t) (s := s) (D := D) led) s
  have h3 := ndd_le (W := (hrF L t s led D).2.1) s
  have h4 := hD.1.2.1
  rw [h1.2.2.2.2.2.2, hD.2.2.2.2.2.2, i_nlt]
  exact nI_le h2 (by omega)
theorem rxM (ha : 124 < a ∧ a < 145) (hne : a ≠ 134 ∧ a ≠ 135) (hc : mcls a = 0) (hk : k < mlen a) (hl : mlen a < 2147483648) : rX (MX h M K D s a0) a (nI k) = some (M.2 a k) := by
  unfold MX
  rw [rM (by omega) hc hk hl]
  dsimp only
  rw [if_neg (by omega), if_neg hne.1, if_neg hne.2]
theorem sAX (ha : 124 < a ∧ a < 145) (hne : a ≠ 134 ∧ a ≠ 135) : MH h (sA (M.1, fun a => if a = 124 then f else if a = 134 then K.1 else if a = 135 then K.2 else M.2 a) a w) = MH h ((sA M a w).1, fun b => if b = 124 then f else if b = 134 then K.1 else if b = 135 then K.2 else (sA M a w).2 b) := by
  congr 1
  unfold sA
  dsimp only
  congr 1
  funext q
  unfold updW
  by_cases e : q = a
  · subst e
    rw [if_pos rfl, if_pos rfl, if_neg (by omega), if_neg hne.1, if_neg hne.2]
  · rw [if_neg e, if_neg e]
theorem wxM (ha : 124 < a ∧ a < 145) (hne : a ≠ 134 ∧ a ≠ 135) (hc : mcls a = 0) (hk : k < mlen a) (hl : mlen a < 2147483648) : wI (MX h M K D s a0) a (nI k) 0 x = some (MX h (sA M a (upd (M.2 a) k x)) K D s a0) := by
  unfold MX
  rw [wM (by omega) hc hk hl]
  dsimp only
  rw [if_neg (by omega), if_neg hne.1, if_neg hne.2, sAX ha hne]
theorem sA_2 : sA (sA M a f) a w = sA M a w := by
  unfold sA
  dsimp only
  rw [updW_2]
theorem sA_s : (sA M a f).2 a = f := updW_s _ _ _
theorem sA_o (hk : k ≠ a) : (sA M a f).2 k = M.2 k := if_neg hk
theorem gX5 : gF (MX h M K D s a0) 123 9 5 = some (.ref 127) := rfl
theorem thinks_loop (n : Nat) : ∀ (k : Nat), k + n = 95 → Df d 165 2 [.ref 123, .int (nI k)] [] (MX h (sA M 127 (cpk k (enc D s a0) f)) K D s a0) nx = some (none, MX h (sA M 127 (cpk 95 (enc D s a0) f)) K D s a0, nx) := by
  induction n with
  | zero =>
    intro k hk
    obtain rfl : k = 95 := by omega
    rw [e_165_2]
    simp only [e_165_3, e_165_5, e_165_8, e_165_9, e_165_12, e_165_13, e_165_14, e_165_17, e_165_18, e_165_19, e_165_20, e_165_23, e_165_26]
    rw [if_pos (by decide)]
  | succ n ih =>
    intro k hk
    have w := wxM (h := h) (M := sA M 127 (cpk k (enc D s a0) f)) (K := K) (D := D) (s := s) (a0 := a0) (a := 127) (k := k) (x := enc D s a0 k) (by omega) (by omega) rfl (show k < 95 by omega) (by decide)
    rw [sA_2, sA_s, cpk_s] at w
    rw [e_165_2]
    simp only [e_165_3, e_165_5, e_165_8, e_165_9, e_165_12, e_165_13, e_165_14, e_165_17, e_165_18, e_165_19, e_165_20, e_165_23, gX0, gX5, rX_n (show k < 1467 by omega), w, Option.bind_some, nI_1]
    rw [if_neg (show ¬ (95 : Int32) ≤ nI k from nI_ge (b := 95) (by omega) (by omega))]
    exact ih (k + 1) (by omega)
/-- the model, with before as it thinks -/
def mBf (M : MS) (N : DT) (s : Nat) (a0 : Nat → Int32) : MS := sA M 127 (cpk 95 (enc N s a0) (M.2 127))
theorem sA_id : sA M a (M.2 a) = M := by
  unfold sA
  rw [show updW M.2 a (M.2 a) = M.2 from by funext k; unfold updW; by_cases e : k = a <;> simp [e]]
theorem c_thinks : Dn (d + 1) 165 [.ref 123] (MX h M K D s a0) nx = some (none, MX h (mBf M D s a0) K D s a0, nx) := by
  have l := thinks_loop (d := d) (h := h) (nx := nx) (M := M) (K := K) (D := D) (s := s) (a0 := a0) (f := M.2 127) 95 0 rfl
  rw [cpk_0, sA_id] at l
  simp only [n_165, e_165_0, e_165_1n, e_165_1i, e_165_1r]
  exact l
theorem rG {gg : Nat → Int32} (ha : 124 < a ∧ a < 145) (hne : a ≠ 134 ∧ a ≠ 135) (hc : mcls a = 0) (hk : k < mlen a) (hl : mlen a < 2147483648) : rX (MG h M K gg) a (nI k) = some (M.2 a k) := by
  unfold MG
  rw [rM (by omega) hc hk hl]
  dsimp only
  rw [if_neg (by omega), if_neg hne.1, if_neg hne.2]
theorem rGn {gg : Nat → Int32} (hk : k < 1467) : rX (MG h M K gg) 124 (nI k) = some (gg k) := rM (h := h) (a := 124) (by omega) rfl (by show k < 1467; exact hk) (by decide)
theorem wGn {gg : Nat → Int32} (hk : k < 1467) : wI (MG h M K gg) 124 (nI k) 0 x = some (MG h M K (upd gg k x)) := by
  unfold MG
  rw [wM (a := 124) (by omega) rfl (show k < 1467 from hk) (by decide)]
  refine congrArg (fun q => some (MH h q)) ?_
  unfold sA
  dsimp only
  rw [if_pos rfl]
  congr 1
  funext b
  unfold updW
  by_cases e3 : b = 124
  · rw [if_pos e3, if_pos e3]
  · rw [if_neg e3, if_neg e3]
    dsimp only
    rw [if_neg e3]
theorem gG0 {gg : Nat → Int32} : gF (MG h M K gg) 123 9 0 = some (.ref 124) := rfl
theorem gG5 {gg : Nat → Int32} : gF (MG h M K gg) 123 9 5 = some (.ref 127) := rfl
theorem qG4 {gg : Nat → Int32} : pF (MG h M K gg) 123 9 4 (.int x) = some (MG h (sF M 4 x) K gg) := by
  have e : pF (MG h M K gg) 123 9 4 (.int x) = some (put (MG h M K gg) 123 (mOb (upd M.1 4 x))) := rfl
  rw [e]
  unfold MG
  rw [put_MO]
  rfl
theorem puts_loop {gg : Nat → Int32} (n : Nat) : ∀ (k : Nat), k + n = 95 → Df d 166 2 [.ref 123, .int (nI k)] [] (MG h M K (cpk k (M.2 127) gg)) nx = some (none, MG h (sF M 4 0) K (cpk 95 (M.2 127) gg), nx) := by
  induction n with
  | zero =>
    intro k hk
    obtain rfl : k = 95 := by omega
    rw [e_166_2]
    simp only [e_166_3, e_166_5, e_166_8, e_166_9, e_166_12, e_166_13, e_166_14, e_166_17, e_166_18, e_166_19, e_166_20, e_166_23, e_166_26, e_166_27, e_166_28, e_166_31, qG4, true_or, if_true, Option.bind_some]
    rw [if_pos (by decide)]
  | succ n ih =>
    intro k hk
    rw [e_166_2]
    simp only [e_166_3, e_166_5, e_166_8, e_166_9, e_166_12, e_166_13, e_166_14, e_166_17, e_166_18, e_166_19, e_166_20, e_166_23, gG0, gG5, rG (M := M) (K := K) (h := h) (a := 127) (k := k) (by omega) (by omega) rfl (show k < 95 by omega) (by decide), wGn (show k < 1467 by omega), cpk_s, Option.bind_some, nI_1]
    rw [if_neg (show ¬ (95 : Int32) ≤ nI k from nI_ge (b := 95) (by omega) (by omega))]
    exact ih (k + 1) (by omega)
theorem cpk_enc (hs : s ≤ 10) (hb : ∀ k, k < 95 → b k = enc N s a0 k) : cpk 95 b (enc D s a0) = enc N s a0 := by
  funext k
  unfold cpk
  by_cases e : k < 95
  · rw [if_pos e, hb k e]
  · rw [if_neg e, en_o (by omega) hs, en_o (by omega) hs]
theorem c_putsBack (hs : s ≤ 10) (hb : ∀ k, k < 95 → M.2 127 k = enc N s a0 k) : Dn (d + 1) 166 [.ref 123] (MX h M K D s a0) nx = some (none, MX h (sF M 4 0) K N s a0, nx) := by
  have l := puts_loop (d := d) (h := h) (nx := nx) (M := M) (K := K) (gg := enc D s a0) 95 0 rfl
  rw [cpk_0, cpk_enc hs hb] at l
  simp only [n_166, e_166_0, e_166_1n, e_166_1i, e_166_1r]
  exact l
theorem mBf_b : ∀ k, k < 95 → (mBf M N s a0).2 127 k = enc N s a0 k := by
  intro k hk
  unfold mBf
  rw [sA_s]
  exact if_pos hk
theorem sF_id (e : M.1 j = x) : sF M j x = M := by
  unfold sF
  rw [show upd M.1 j x = M.1 from by funext k; unfold upd; by_cases q : k = j <;> simp [q, ← e]]
theorem mBf_4 : (mBf M N s a0).1 = M.1 := rfl
theorem c_deathsBehind (hM : M.1 4 = 0) (hb : ∀ k, k < 95 → M.2 127 k = enc N s a0 k) (hT : TR L t a0) (hL : okL L t) (hm : m < 2147483648) (hD : dJ D s H) (hH : H + m < 2147483648) (h12 : D.2.2 12 = nI t) : ∃ K', Dn (d + 7) 169 [.ref 123, .int (nI m)] (MX h M K D s a0) nx = some (some (.int ((hrs L t s m D).2.2 8)), MX h M K' N s a0, nx) := by
  obtain ⟨K', e⟩ := c_goesOn (d := d) (h := h) (nx := nx) (K := K) hM hT hL hm hD hH h12
  refine ⟨K', ?_⟩
  simp only [n_169, e_169_0, e_169_1, e_169_2, e_169_5, e_169_6, e_169_9, e_169_11, e_169_12n, e_169_12i, e_169_12r, e_169_13, e_169_14, e_169_17, e_169_18, kX, if_true, e, cn_v, cn_s, gX0, rx8, c_putsBack hD.1.2.1 hb, sF_id hM, Option.bind_some]
theorem c_deathsHeld (hM : M.1 4 = 1) (hb : ∀ k, k < 95 → M.2 127 k = enc N s a0 k) (hT : TR L t a0) (hL : okL L t) (hm : m < 2147483648) (hD : dJ D s H) (hH : H + m < 2147483648) (h12 : D.2.2 12 = nI t) : ∃ K', Dn (d + 7) 169 [.ref 123, .int (nI m)] (MX h M K D s a0) nx = some (some (.int ((hrn L t s m D).2.2 8)), MX h (sF M 4 0) K' N s a0, nx) := by
  obtain ⟨K', e⟩ := c_held1 (d := d) (h := h) (nx := nx) (K := K) hM hT hL hm hD hH h12
  refine ⟨K', ?_⟩
  simp only [n_169, e_169_0, e_169_1, e_169_2, e_169_5, e_169_6, e_169_9, e_169_11, e_169_12n, e_169_12i, e_169_12r, e_169_13, e_169_14, e_169_17, e_169_18, kX, if_true, e, cn_v, cn_s, gX0, rx8, c_putsBack hD.1.2.1 hb, Option.bind_some]
theorem ndd_ext {W W' : Nat → Nat → Int32} : ∀ n, (∀ i, i < n → W i 5 = W' i 5) → ndd W n = ndd W' n
  | 0, _ => rfl
  | n + 1, h => by
    unfold ndd
    rw [ndd_ext n (fun i hi => h i (by omega)), h n (by omega)]
theorem bec_J (hN : dJ N s H) : dJ (bec T N s) s H := by
  obtain ⟨a1, a2, a3, a4, a5, a6, a7⟩ := hN
  refine ⟨bec_dI a1, fun i hi => ?_, fun c hc => ?_, ?_, ?_, ?_, ?_⟩
  · rw [bec_w hi]; exact a2 i hi
  · rw [bec_c hc]; exact a3 c hc
  · rw [bec_q (by omega) (by omega)]; exact a4
  · rw [bec_q (by omega) (by omega)]; exact a5
  · rw [bec_q (by omega) (by omega)]; exact a6
  · rw [bec_q (by omega) (by omega), a7]
    congr 1
    exact ndd_ext s (fun i hi => by rw [bec_w hi])
theorem enc_bec : enc (bec T N s) s a0 = enc N s a0 := by
  funext k
  by_cases hk : k < 11
  · have hq : 2 ≤ enq k ∧ enq k < 13 := by
      revert k
      decide
    rw [en_q hk, en_q hk, bec_q hq.1 hq.2]
  · rw [en_11 (by omega), en_11 (by omega)]
    by_cases h1 : k < 35
    · rw [if_pos h1, if_pos h1, bec_c (by omega)]
    · rw [if_neg h1, if_neg h1]
      by_cases h2 : k < 35 + 6 * s
      · rw [if_pos h2, if_pos h2, bec_w (by omega)]
      · rw [if_neg h2, if_neg h2]
theorem MX_bec : MX h M K N s a0 = MX h M K (bec T N s) s a0 := by rw [MX_MG, MX_MG, enc_bec]
theorem bec_t (h12 : N.2.2 12 = nI t) : (bec T N s).2.2 12 = nI t := by rw [bec_q (by omega) (by omega)]; exact h12
end ME
