/-! a desert of the class at the address b: its object, its water, its row of walkers, ten walkers -/
abbrev DT : Type := (Nat → Int32) × (Nat → Nat → Int32) × (Nat → Int32)
def dO (b : Nat) (q : Nat → Int32) : va_E := .inr (1, [.ref (b + 1), .ref (b + 2), .int (q 2), .int (q 3), .int (q 4), .int (q 5), .int (q 6), .int (q 7), .int (q 8), .int (q 9), .int (q 10), .int (q 11), .int (q 12)])
def dR (b : Nat) : va_E := .inl (3, 10, .inr (.inr (.inr (.inr fun i => if i < 10 then some (b + 3 + i) else none))))
def putD (h : AH) (b : Nat) (D : DT) : AH := fun a => if a = b then dO b D.2.2 else if a = b + 1 then .inl (0, 24, .inl D.1) else if a = b + 2 then dR b else if b + 3 ≤ a ∧ a < b + 13 then wkC (D.2.1 (a - (b + 3))) else h a
def updW (W : Nat → Nat → Int32) (i : Nat) (w : Nat → Int32) : Nat → Nat → Int32 := fun j => if j = i then w else W j
def dq (D : DT) (j : Nat) (x : Int32) : DT := (D.1, D.2.1, upd D.2.2 j x)
def dwt (D : DT) (j : Nat) (x : Int32) : DT := (upd D.1 j x, D.2.1, D.2.2)
def dW (D : DT) (i : Nat) (w : Nat → Int32) : DT := (D.1, updW D.2.1 i w, D.2.2)
section PD
variable {h : AH} {b i a : Nat} {D : DT} {x y : Int32} {w : Nat → Int32}
theorem pD_b : putD h b D b = dO b D.2.2 := by simp [putD]
theorem pD_1 : putD h b D (b + 1) = .inl (0, 24, .inl D.1) := by simp [putD]
theorem pD_2 : putD h b D (b + 2) = dR b := by simp [putD]
theorem pD_w (hi : i < 10) : putD h b D (b + 3 + i) = wkC (D.2.1 i) := by
  unfold putD
  rw [if_neg (by omega), if_neg (by omega), if_neg (by omega), if_pos (by omega), show b + 3 + i - (b + 3) = i by omega]
theorem pD_o (hi : a < b ∨ b + 13 ≤ a) : putD h b D a = h a := by
  unfold putD
  rw [if_neg (by omega), if_neg (by omega), if_neg (by omega), if_neg (by omega)]
theorem putD_put (h1 : a < b ∨ b + 13 ≤ a) (c : va_E) : putD (put h a c) b D = put (putD h b D) a c := by
  funext q
  by_cases e : q = a
  · subst e
    rw [pD_o h1, put_same, put_same]
  · rw [put_ne _ _ e]
    by_cases e2 : q < b ∨ b + 13 ≤ q
    · rw [pD_o e2, pD_o e2, put_ne _ _ e]
    · unfold putD
      repeat' split
      all_goals first | rfl | omega
theorem put_w (hi : i < 10) : put (putD h b D) (b + 3 + i) (wkC w) = putD h b (dW D i w) := by
  funext q
  by_cases e : q = b + 3 + i
  · subst e
    rw [put_same, pD_w hi]
    simp [dW, updW]
  · rw [put_ne _ _ e]
    unfold putD dW updW
    dsimp only
    split
    · rfl
    split
    · rfl
    split
    · rfl
    split
    · rw [if_neg (by omega)]
    · rfl
theorem w_put (hi : i < 10) : put (putD h b D) (b + 3 + i) (wkC (D.2.1 i)) = putD h b D := put_id (pD_w hi)
theorem putD_putD (D' : DT) : putD (putD h b D) b D' = putD h b D' := by
  funext q
  unfold putD
  repeat' split
  all_goals rfl
theorem kD : ck (putD h b D) b 1 = true := by simp [ck, pD_b, dO]
theorem kDw (hi : i < 10) : ck (putD h b D) (b + 3 + i) 7 = true := by simp [ck, pD_w hi, wkC]
theorem gD0 : gF (putD h b D) b 1 0 = some (.ref (b + 1)) := by simp [gF, pD_b, dO]
theorem gD1 : gF (putD h b D) b 1 1 = some (.ref (b + 2)) := by simp [gF, pD_b, dO]

theorem gD2 : gF (putD h b D) b 1 2 = some (.int (D.2.2 2)) := by simp [gF, pD_b, dO]
theorem gD3 : gF (putD h b D) b 1 3 = some (.int (D.2.2 3)) := by simp [gF, pD_b, dO]
theorem gD4 : gF (putD h b D) b 1 4 = some (.int (D.2.2 4)) := by simp [gF, pD_b, dO]
theorem gD5 : gF (putD h b D) b 1 5 = some (.int (D.2.2 5)) := by simp [gF, pD_b, dO]
theorem gD6 : gF (putD h b D) b 1 6 = some (.int (D.2.2 6)) := by simp [gF, pD_b, dO]
theorem gD7 : gF (putD h b D) b 1 7 = some (.int (D.2.2 7)) := by simp [gF, pD_b, dO]
theorem gD8 : gF (putD h b D) b 1 8 = some (.int (D.2.2 8)) := by simp [gF, pD_b, dO]
theorem gD9 : gF (putD h b D) b 1 9 = some (.int (D.2.2 9)) := by simp [gF, pD_b, dO]
theorem gD10 : gF (putD h b D) b 1 10 = some (.int (D.2.2 10)) := by simp [gF, pD_b, dO]
theorem gD11 : gF (putD h b D) b 1 11 = some (.int (D.2.2 11)) := by simp [gF, pD_b, dO]
theorem gD12 : gF (putD h b D) b 1 12 = some (.int (D.2.2 12)) := by simp [gF, pD_b, dO]
theorem put_q (q' : Nat → Int32) : put (putD h b D) b (dO b q') = putD h b (D.1, D.2.1, q') := by
  funext q
  by_cases e : q = b
  · subst e
    rw [put_same, pD_b]
  · rw [put_ne _ _ e]
    unfold putD
    rw [if_neg e, if_neg e]
theorem qD2 : pF (putD h b D) b 1 2 (.int x) = some (putD h b (dq D 2 x)) := by
  have e : (.inr (1, ([.ref (b + 1), .ref (b + 2), .int (D.2.2 2), .int (D.2.2 3), .int (D.2.2 4), .int (D.2.2 5), .int (D.2.2 6), .int (D.2.2 7), .int (D.2.2 8), .int (D.2.2 9), .int (D.2.2 10), .int (D.2.2 11), .int (D.2.2 12)] : List Value).set 2 (.int x)) : va_E) = dO b (upd D.2.2 2 x) := by simp [dO, upd]
  unfold pF
  rw [pD_b]
  simp only [dO]
  rw [if_pos ⟨trivial, Nat.le_of_ble_eq_true rfl⟩, e, put_q]
  rfl
theorem qD3 : pF (putD h b D) b 1 3 (.int x) = some (putD h b (dq D 3 x)) := by
  have e : (.inr (1, ([.ref (b + 1), .ref (b + 2), .int (D.2.2 2), .int (D.2.2 3), .int (D.2.2 4), .int (D.2.2 5), .int (D.2.2 6), .int (D.2.2 7), .int (D.2.2 8), .int (D.2.2 9), .int (D.2.2 10), .int (D.2.2 11), .int (D.2.2 12)] : List Value).set 3 (.int x)) : va_E) = dO b (upd D.2.2 3 x) := by simp [dO, upd]
  unfold pF
  rw [pD_b]
  simp only [dO]
  rw [if_pos ⟨trivial, Nat.le_of_ble_eq_true rfl⟩, e, put_q]
  rfl
theorem qD4 : pF (putD h b D) b 1 4 (.int x) = some (putD h b (dq D 4 x)) := by
  have e : (.inr (1, ([.ref (b + 1), .ref (b + 2), .int (D.2.2 2), .int (D.2.2 3), .int (D.2.2 4), .int (D.2.2 5), .int (D.2.2 6), .int (D.2.2 7), .int (D.2.2 8), .int (D.2.2 9), .int (D.2.2 10), .int (D.2.2 11), .int (D.2.2 12)] : List Value).set 4 (.int x)) : va_E) = dO b (upd D.2.2 4 x) := by simp [dO, upd]
  unfold pF
  rw [pD_b]
  simp only [dO]
  rw [if_pos ⟨trivial, Nat.le_of_ble_eq_true rfl⟩, e, put_q]
  rfl
theorem qD5 : pF (putD h b D) b 1 5 (.int x) = some (putD h b (dq D 5 x)) := by
  have e : (.inr (1, ([.ref (b + 1), .ref (b + 2), .int (D.2.2 2), .int (D.2.2 3), .int (D.2.2 4), .int (D.2.2 5), .int (D.2.2 6), .int (D.2.2 7), .int (D.2.2 8), .int (D.2.2 9), .int (D.2.2 10), .int (D.2.2 11), .int (D.2.2 12)] : List Value).set 5 (.int x)) : va_E) = dO b (upd D.2.2 5 x) := by simp [dO, upd]
  unfold pF
  rw [pD_b]
  simp only [dO]
  rw [if_pos ⟨trivial, Nat.le_of_ble_eq_true rfl⟩, e, put_q]
  rfl
theorem qD6 : pF (putD h b D) b 1 6 (.int x) = some (putD h b (dq D 6 x)) := by
  have e : (.inr (1, ([.ref (b + 1), .ref (b + 2), .int (D.2.2 2), .int (D.2.2 3), .int (D.2.2 4), .int (D.2.2 5), .int (D.2.2 6), .int (D.2.2 7), .int (D.2.2 8), .int (D.2.2 9), .int (D.2.2 10), .int (D.2.2 11), .int (D.2.2 12)] : List Value).set 6 (.int x)) : va_E) = dO b (upd D.2.2 6 x) := by simp [dO, upd]
  unfold pF
  rw [pD_b]
  simp only [dO]
  rw [if_pos ⟨trivial, Nat.le_of_ble_eq_true rfl⟩, e, put_q]
  rfl
theorem qD7 : pF (putD h b D) b 1 7 (.int x) = some (putD h b (dq D 7 x)) := by
  have e : (.inr (1, ([.ref (b + 1), .ref (b + 2), .int (D.2.2 2), .int (D.2.2 3), .int (D.2.2 4), .int (D.2.2 5), .int (D.2.2 6), .int (D.2.2 7), .int (D.2.2 8), .int (D.2.2 9), .int (D.2.2 10), .int (D.2.2 11), .int (D.2.2 12)] : List Value).set 7 (.int x)) : va_E) = dO b (upd D.2.2 7 x) := by simp [dO, upd]
  unfold pF
  rw [pD_b]
  simp only [dO]
  rw [if_pos ⟨trivial, Nat.le_of_ble_eq_true rfl⟩, e, put_q]
  rfl
theorem qD8 : pF (putD h b D) b 1 8 (.int x) = some (putD h b (dq D 8 x)) := by
  have e : (.inr (1, ([.ref (b + 1), .ref (b + 2), .int (D.2.2 2), .int (D.2.2 3), .int (D.2.2 4), .int (D.2.2 5), .int (D.2.2 6), .int (D.2.2 7), .int (D.2.2 8), .int (D.2.2 9), .int (D.2.2 10), .int (D.2.2 11), .int (D.2.2 12)] : List Value).set 8 (.int x)) : va_E) = dO b (upd D.2.2 8 x) := by simp [dO, upd]
  unfold pF
  rw [pD_b]
  simp only [dO]
  rw [if_pos ⟨trivial, Nat.le_of_ble_eq_true rfl⟩, e, put_q]
  rfl
theorem qD9 : pF (putD h b D) b 1 9 (.int x) = some (putD h b (dq D 9 x)) := by
  have e : (.inr (1, ([.ref (b + 1), .ref (b + 2), .int (D.2.2 2), .int (D.2.2 3), .int (D.2.2 4), .int (D.2.2 5), .int (D.2.2 6), .int (D.2.2 7), .int (D.2.2 8), .int (D.2.2 9), .int (D.2.2 10), .int (D.2.2 11), .int (D.2.2 12)] : List Value).set 9 (.int x)) : va_E) = dO b (upd D.2.2 9 x) := by simp [dO, upd]
  unfold pF
  rw [pD_b]
  simp only [dO]
  rw [if_pos ⟨trivial, Nat.le_of_ble_eq_true rfl⟩, e, put_q]
  rfl
theorem qD10 : pF (putD h b D) b 1 10 (.int x) = some (putD h b (dq D 10 x)) := by
  have e : (.inr (1, ([.ref (b + 1), .ref (b + 2), .int (D.2.2 2), .int (D.2.2 3), .int (D.2.2 4), .int (D.2.2 5), .int (D.2.2 6), .int (D.2.2 7), .int (D.2.2 8), .int (D.2.2 9), .int (D.2.2 10), .int (D.2.2 11), .int (D.2.2 12)] : List Value).set 10 (.int x)) : va_E) = dO b (upd D.2.2 10 x) := by simp [dO, upd]
  unfold pF
  rw [pD_b]
  simp only [dO]
  rw [if_pos ⟨trivial, Nat.le_of_ble_eq_true rfl⟩, e, put_q]
  rfl
theorem qD11 : pF (putD h b D) b 1 11 (.int x) = some (putD h b (dq D 11 x)) := by
  have e : (.inr (1, ([.ref (b + 1), .ref (b + 2), .int (D.2.2 2), .int (D.2.2 3), .int (D.2.2 4), .int (D.2.2 5), .int (D.2.2 6), .int (D.2.2 7), .int (D.2.2 8), .int (D.2.2 9), .int (D.2.2 10), .int (D.2.2 11), .int (D.2.2 12)] : List Value).set 11 (.int x)) : va_E) = dO b (upd D.2.2 11 x) := by simp [dO, upd]
  unfold pF
  rw [pD_b]
  simp only [dO]
  rw [if_pos ⟨trivial, Nat.le_of_ble_eq_true rfl⟩, e, put_q]
  rfl
theorem qD12 : pF (putD h b D) b 1 12 (.int x) = some (putD h b (dq D 12 x)) := by
  have e : (.inr (1, ([.ref (b + 1), .ref (b + 2), .int (D.2.2 2), .int (D.2.2 3), .int (D.2.2 4), .int (D.2.2 5), .int (D.2.2 6), .int (D.2.2 7), .int (D.2.2 8), .int (D.2.2 9), .int (D.2.2 10), .int (D.2.2 11), .int (D.2.2 12)] : List Value).set 12 (.int x)) : va_E) = dO b (upd D.2.2 12 x) := by simp [dO, upd]
  unfold pF
  rw [pD_b]
  simp only [dO]
  rw [if_pos ⟨trivial, Nat.le_of_ble_eq_true rfl⟩, e, put_q]
  rfl
theorem gDw0 (hi : i < 10) : gF (putD h b D) (b + 3 + i) 7 0 = some (.int (D.2.1 i 0)) := by rw [← w_put hi]; exact gw0
theorem qDw0 (hi : i < 10) : pF (putD h b D) (b + 3 + i) 7 0 (.int x) = some (putD h b (dW D i (upd (D.2.1 i) 0 x))) := by
  have e := pw0 (h := putD h b D) (a := b + 3 + i) (w := D.2.1 i) (x := x)
  rw [w_put hi, put_w hi] at e
  exact e
theorem gDw1 (hi : i < 10) : gF (putD h b D) (b + 3 + i) 7 1 = some (.int (D.2.1 i 1)) := by rw [← w_put hi]; exact gw1
theorem qDw1 (hi : i < 10) : pF (putD h b D) (b + 3 + i) 7 1 (.int x) = some (putD h b (dW D i (upd (D.2.1 i) 1 x))) := by
  have e := pw1 (h := putD h b D) (a := b + 3 + i) (w := D.2.1 i) (x := x)
  rw [w_put hi, put_w hi] at e
  exact e
theorem gDw2 (hi : i < 10) : gF (putD h b D) (b + 3 + i) 7 2 = some (.int (D.2.1 i 2)) := by rw [← w_put hi]; exact gw2
theorem qDw2 (hi : i < 10) : pF (putD h b D) (b + 3 + i) 7 2 (.int x) = some (putD h b (dW D i (upd (D.2.1 i) 2 x))) := by
  have e := pw2 (h := putD h b D) (a := b + 3 + i) (w := D.2.1 i) (x := x)
  rw [w_put hi, put_w hi] at e
  exact e
theorem gDw3 (hi : i < 10) : gF (putD h b D) (b + 3 + i) 7 3 = some (.int (D.2.1 i 3)) := by rw [← w_put hi]; exact gw3
theorem qDw3 (hi : i < 10) : pF (putD h b D) (b + 3 + i) 7 3 (.int x) = some (putD h b (dW D i (upd (D.2.1 i) 3 x))) := by
  have e := pw3 (h := putD h b D) (a := b + 3 + i) (w := D.2.1 i) (x := x)
  rw [w_put hi, put_w hi] at e
  exact e
theorem gDw4 (hi : i < 10) : gF (putD h b D) (b + 3 + i) 7 4 = some (.int (D.2.1 i 4)) := by rw [← w_put hi]; exact gw4
theorem qDw4 (hi : i < 10) : pF (putD h b D) (b + 3 + i) 7 4 (.int x) = some (putD h b (dW D i (upd (D.2.1 i) 4 x))) := by
  have e := pw4 (h := putD h b D) (a := b + 3 + i) (w := D.2.1 i) (x := x)
  rw [w_put hi, put_w hi] at e
  exact e
theorem gDw5 (hi : i < 10) : gF (putD h b D) (b + 3 + i) 7 5 = some (.int (D.2.1 i 5)) := by rw [← w_put hi]; exact gw5
theorem qDw5 (hi : i < 10) : pF (putD h b D) (b + 3 + i) 7 5 (.int x) = some (putD h b (dW D i (upd (D.2.1 i) 5 x))) := by
  have e := pw5 (h := putD h b D) (a := b + 3 + i) (w := D.2.1 i) (x := x)
  rw [w_put hi, put_w hi] at e
  exact e
theorem rDx : rX (putD h b D) (b + 1) x = if ib x 24 = true then some (D.1 x.toNatClampNeg) else none := by
  unfold rX rI
  rw [pD_1]
  by_cases q : ib x 24 = true <;> simp [q]
theorem wDx : wI (putD h b D) (b + 1) x 0 y = if ib x 24 = true then some (putD h b (dwt D x.toNatClampNeg y)) else none := by
  unfold wI
  rw [pD_1]
  by_cases q : ib x 24 = true
  · simp only [q, and_self, if_true]
    congr 1
    funext a
    by_cases e : a = b + 1
    · subst e
      rw [put_same, pD_1]
      rfl
    · rw [put_ne _ _ e]
      unfold putD dwt
      dsimp only
      split
      · rfl
      · rfl
  · simp [q]
theorem rDr : rR (putD h b D) (b + 2) x = if ib x 10 = true then some (b + 3 + x.toNatClampNeg) else none := by
  unfold rR
  rw [pD_2]
  unfold dR
  by_cases q : ib x 10 = true
  · have h1 := ib_in q
    have h2 : x.toNatClampNeg < 10 := Nat.not_le.mp fun z => h1 (Or.inr z)
    simp [q, h2]
  · simp [q]
theorem ib_nI {n k : Nat} (hn : n < k) (hk : k < 2147483648) : ib (nI n) k = true := by
  unfold ib
  exact decide_eq_true (vp_in_nI hn (by omega))
theorem cl_nI {n : Nat} (hn : n < 2147483648) : (nI n).toNatClampNeg = n := nI_clamp (by omega)
theorem rDrn {n : Nat} (hn : n < 10) : rR (putD h b D) (b + 2) (nI n) = some (b + 3 + n) := by
  rw [rDr, if_pos (ib_nI hn (by omega)), cl_nI (by omega)]
theorem rDxn {n : Nat} (hn : n < 24) : rX (putD h b D) (b + 1) (nI n) = some (D.1 n) := by
  rw [rDx, if_pos (ib_nI hn (by omega)), cl_nI (by omega)]
theorem wDxn {n : Nat} (hn : n < 24) : wI (putD h b D) (b + 1) (nI n) 0 y = some (putD h b (dwt D n y)) := by
  rw [wDx, if_pos (ib_nI hn (by omega)), cl_nI (by omega)]
end PD
section D1
variable {d : Nat} {h : AH} {nx : AN} {b i : Nat} {D : DT} {x y z : Int32}
theorem c_Wslakes (hi : i < 10) : Dn (d + 1) 64 [.ref (b + 3 + i)] (putD h b D) nx = some (some (.int (slk (D.2.1 i 0))), putD h b D, nx) := by
  have e := c_slakes (d := d) (h := putD h b D) (nx := nx) (a := b + 3 + i) (w := D.2.1 i)
  rw [w_put hi] at e
  exact e
theorem c_Wworth (hi : i < 10) : Dn (d + 1) 65 [.ref (b + 3 + i)] (putD h b D) nx = some (some (.int (wth (D.2.1 i 0) (D.2.1 i 2))), putD h b D, nx) := by
  have e := c_worth (d := d) (h := putD h b D) (nx := nx) (a := b + 3 + i) (w := D.2.1 i)
  rw [w_put hi] at e
  exact e
theorem c_WisOf (hi : i < 10) : Dn (d + 1) 66 [.ref (b + 3 + i), .int x] (putD h b D) nx = some (some (.int (pi (isu (D.2.1 i 0) x))), putD h b D, nx) := by
  have e := c_isOf (d := d) (h := putD h b D) (nx := nx) (a := b + 3 + i) (w := D.2.1 i) (x := x)
  rw [w_put hi] at e
  exact e
theorem c_WdrinkFrom (hi : i < 10) : Dn (d + 4) 67 [.ref (b + 3 + i), .int x] (putD h b D) nx = some (some (.int (drF (D.2.1 i) x).2), putD h b (dW D i (drF (D.2.1 i) x).1), nx) := by
  have e := c_drinkFrom (d := d) (h := putD h b D) (nx := nx) (a := b + 3 + i) (w := D.2.1 i) (x := x)
  rw [w_put hi, put_w hi] at e
  exact e
theorem c_WthirstBy (hi : i < 10) : Dn (d + 4) 69 [.ref (b + 3 + i), .int x, .int y] (putD h b D) nx = some (none, putD h b (dW D i (thB (D.2.1 i) x y)), nx) := by
  have e := c_thirstBy (d := d) (h := putD h b D) (nx := nx) (a := b + 3 + i) (w := D.2.1 i) (x := x) (y := y)
  rw [w_put hi, put_w hi] at e
  exact e
theorem c_Wstarts (hi : i < 10) : Dn (d + 1) 63 [.ref (b + 3 + i), .int x, .int y, .int z] (putD h b D) nx = some (none, putD h b (dW D i (upd (upd (upd (upd (upd (upd (D.2.1 i) 0 x) 1 0) 2 y) 3 z) 4 0) 5 1)), nx) := by
  have e := c_wstarts (d := d) (h := putD h b D) (nx := nx) (a := b + 3 + i) (w := D.2.1 i) (x := x) (y := y) (z := z)
  rw [w_put hi, put_w hi] at e
  exact e
/-- the draw's next number, and what it gives -/
def nxz (z : Int32) : Int32 := z * 1103515245 + 12345
def dr8 (z : Int32) : Int32 := (z.toUInt32 >>> ((8 : Int32).toUInt32 &&& Int32.toUInt32 31)).toInt32
theorem c_draw : Dn (d + 1) 13 [.ref b] (putD h b D) nx = some (some (.int (dr8 (nxz (D.2.2 11)))), putD h b (dq D 11 (nxz (D.2.2 11))), nx) := by
  simp only [n_13, e_13_0, e_13_1, e_13_2, e_13_5, e_13_7, e_13_8, e_13_11, e_13_12, e_13_15, e_13_16, e_13_19, e_13_21, e_13_22, gD11, qD11, Option.bind_some, dr8, nxz, dq, upd, if_true]
theorem c_has (hs : D.2.2 2 = nI i) (hi : i ≤ 10) : Dn (d + 1) 6 [.ref b, .int x] (putD h b D) nx = some (some (.int (pi (0 ≤ x ∧ x < nI i))), putD h b D, nx) := by
  simp only [n_6, e_6_0, e_6_1, e_6_4, e_6_5, e_6_6, e_6_9, e_6_12, e_6_13, e_6_15, e_6_18, e_6_19, e_6_22, e_6_23, gD2, hs, Option.bind_some, nR_b0, nR_b1, if_true]
  by_cases h1 : x < 0
  · have h2 : ¬ 0 ≤ x := by rw [i_nle]; exact h1
    simp [h1, h2, pi]
  · have h2 : 0 ≤ x := by rw [← i_nlt]; exact h1
    by_cases h3 : nI i ≤ x
    · have h4 : ¬ x < nI i := by rw [i_nlt]; exact h3
      simp [h1, h2, h3, h4, pi]
    · have h4 : x < nI i := by rw [← i_nle]; exact h3
      have h5 : x < 10 := by
        have h6 : nI i ≤ 10 := by show nI i ≤ nI 10; exact nI_le hi (by omega)
        exact Int32.lt_of_lt_of_le h4 h6
      have h7 : ¬ 10 ≤ x := by rw [i_nle]; exact h5
      simp [h1, h2, h3, h4, h7, pi]
theorem c_ruleBecomes : Dn (d + 1) 11 [.ref b, .int x, .int y] (putD h b D) nx = (if x = 0 then some (some (.int (D.2.2 4)), putD h b (dq D 4 y), nx) else if x = 1 then some (some (.int (D.2.2 5)), putD h b (dq D 5 y), nx) else if x = 2 then some (some (.int (D.2.2 6)), putD h b (dq D 6 y), nx) else if x = 3 then some (some (.int (D.2.2 7)), putD h b (dq D 7 y), nx) else some (some (.int (D.2.2 3)), putD h b (dq D 3 y), nx)) := by
  simp only [n_11, e_11_0, e_11_1, e_11_32, e_11_33, e_11_36n, e_11_36i, e_11_36r, e_11_37, e_11_38, e_11_39, e_11_42, e_11_45, e_11_46, e_11_49n, e_11_49i, e_11_49r, e_11_50, e_11_51, e_11_52, e_11_55, e_11_58, e_11_59, e_11_62n, e_11_62i, e_11_62r, e_11_63, e_11_64, e_11_65, e_11_68, e_11_71, e_11_72, e_11_75n, e_11_75i, e_11_75r, e_11_76, e_11_77, e_11_78, e_11_81, e_11_84, e_11_85, e_11_88n, e_11_88i, e_11_88r, e_11_89, e_11_90, e_11_91, e_11_94, e_11_95, gD3, gD4, gD5, gD6, gD7, qD3, qD4, qD5, qD6, qD7, Option.bind_some]
end D1
