/-! what the class does over its whole heap: reading, hours that pass -/
abbrev zN (S : CS) : DT := S.1
abbrev zI (S : CS) : DT := S.2.1
abbrev zT (S : CS) : DT := S.2.2.1
abbrev zB (S : CS) : Nat → Int32 := S.2.2.2.1
abbrev zL (S : CS) : LT := S.2.2.2.2.1
abbrev zK (S : CS) : Nat → Int32 := S.2.2.2.2.2.1
abbrev zR (S : CS) : RT := S.2.2.2.2.2.2.1
abbrev zW (S : CS) : Nat → Int32 := S.2.2.2.2.2.2.2.1
abbrev zO (S : CS) : Nat → Int32 := S.2.2.2.2.2.2.2.2.1
abbrev zH (S : CS) : ShT := S.2.2.2.2.2.2.2.2.2.1
abbrev zP (S : CS) : SlT := S.2.2.2.2.2.2.2.2.2.2
def sK (S : CS) (K : Nat → Int32) : CS := sL S (zL S) K
section TL
variable {d : Nat} {h : AH} {nx : AN} {b lb i j s n c t : Nat} {S : CS} {L : LT} {K : Nat → Int32} {D E : DT} {x y z u : Int32} {l1 l2 l3 l4 l5 : Value} {w : Nat → Int32}
theorem kT : ck (CH h S) 16 8 = true := rfl
theorem gO0 : gF (CH h S) 16 8 0 = some (.ref 17) := rfl
theorem gO1 : gF (CH h S) 16 8 1 = some (.ref 30) := rfl
theorem gO2 : gF (CH h S) 16 8 2 = some (.ref 43) := rfl
theorem gO3 : gF (CH h S) 16 8 3 = some (.ref 56) := rfl
theorem gO4 : gF (CH h S) 16 8 4 = some (.ref 57) := rfl
theorem gO5 : gF (CH h S) 16 8 5 = some (.ref 88) := rfl
theorem gO6 : gF (CH h S) 16 8 6 = some (.ref 92) := rfl
theorem gO7 : gF (CH h S) 16 8 7 = some (.ref 93) := rfl
theorem gO8 : gF (CH h S) 16 8 8 = some (.ref 94) := rfl
theorem gO9 : gF (CH h S) 16 8 9 = some (.int (zO S 9)) := rfl
theorem gO10 : gF (CH h S) 16 8 10 = some (.int (zO S 10)) := rfl
theorem kNc : ck (CH h S) 17 1 = true := rfl
theorem gN0 : gF (CH h S) 17 1 0 = some (.ref 18) := rfl
theorem gN1 : gF (CH h S) 17 1 1 = some (.ref 19) := rfl
theorem gN2 : gF (CH h S) 17 1 2 = some (.int ((zN S).2.2 2)) := rfl
theorem gN3 : gF (CH h S) 17 1 3 = some (.int ((zN S).2.2 3)) := rfl
theorem gN4 : gF (CH h S) 17 1 4 = some (.int ((zN S).2.2 4)) := rfl
theorem gN5 : gF (CH h S) 17 1 5 = some (.int ((zN S).2.2 5)) := rfl
theorem gN6 : gF (CH h S) 17 1 6 = some (.int ((zN S).2.2 6)) := rfl
theorem gN7 : gF (CH h S) 17 1 7 = some (.int ((zN S).2.2 7)) := rfl
theorem gN8 : gF (CH h S) 17 1 8 = some (.int ((zN S).2.2 8)) := rfl
theorem gN9 : gF (CH h S) 17 1 9 = some (.int ((zN S).2.2 9)) := rfl
theorem gN10 : gF (CH h S) 17 1 10 = some (.int ((zN S).2.2 10)) := rfl
theorem gN11 : gF (CH h S) 17 1 11 = some (.int ((zN S).2.2 11)) := rfl
theorem gN12 : gF (CH h S) 17 1 12 = some (.int ((zN S).2.2 12)) := rfl
theorem rNx (hi : i < 24) : rX (CH h S) 18 (nI i) = some ((zN S).1 i) := by rw [N_CH]; exact rDxn (b := 17) hi
theorem rNr (hi : i < 10) : rR (CH h S) 19 (nI i) = some (20 + i) := by rw [N_CH]; exact rDrn (b := 17) hi
theorem kNw (hi : i < 10) : ck (CH h S) (20 + i) 7 = true := by rw [N_CH]; exact kDw (b := 17) hi
theorem gNw0 (hi : i < 10) : gF (CH h S) (20 + i) 7 0 = some (.int ((zN S).2.1 i 0)) := by rw [N_CH]; exact gDw0 (b := 17) hi
theorem gNw1 (hi : i < 10) : gF (CH h S) (20 + i) 7 1 = some (.int ((zN S).2.1 i 1)) := by rw [N_CH]; exact gDw1 (b := 17) hi
theorem gNw2 (hi : i < 10) : gF (CH h S) (20 + i) 7 2 = some (.int ((zN S).2.1 i 2)) := by rw [N_CH]; exact gDw2 (b := 17) hi
theorem gNw3 (hi : i < 10) : gF (CH h S) (20 + i) 7 3 = some (.int ((zN S).2.1 i 3)) := by rw [N_CH]; exact gDw3 (b := 17) hi
theorem gNw4 (hi : i < 10) : gF (CH h S) (20 + i) 7 4 = some (.int ((zN S).2.1 i 4)) := by rw [N_CH]; exact gDw4 (b := 17) hi
theorem gNw5 (hi : i < 10) : gF (CH h S) (20 + i) 7 5 = some (.int ((zN S).2.1 i 5)) := by rw [N_CH]; exact gDw5 (b := 17) hi
theorem kIc : ck (CH h S) 30 1 = true := rfl
theorem gI0 : gF (CH h S) 30 1 0 = some (.ref 31) := rfl
theorem gI1 : gF (CH h S) 30 1 1 = some (.ref 32) := rfl
theorem gI2 : gF (CH h S) 30 1 2 = some (.int ((zI S).2.2 2)) := rfl
theorem gI3 : gF (CH h S) 30 1 3 = some (.int ((zI S).2.2 3)) := rfl
theorem gI4 : gF (CH h S) 30 1 4 = some (.int ((zI S).2.2 4)) := rfl
theorem gI5 : gF (CH h S) 30 1 5 = some (.int ((zI S).2.2 5)) := rfl
theorem gI6 : gF (CH h S) 30 1 6 = some (.int ((zI S).2.2 6)) := rfl
theorem gI7 : gF (CH h S) 30 1 7 = some (.int ((zI S).2.2 7)) := rfl
theorem gI8 : gF (CH h S) 30 1 8 = some (.int ((zI S).2.2 8)) := rfl
theorem gI9 : gF (CH h S) 30 1 9 = some (.int ((zI S).2.2 9)) := rfl
theorem gI10 : gF (CH h S) 30 1 10 = some (.int ((zI S).2.2 10)) := rfl
theorem gI11 : gF (CH h S) 30 1 11 = some (.int ((zI S).2.2 11)) := rfl
theorem gI12 : gF (CH h S) 30 1 12 = some (.int ((zI S).2.2 12)) := rfl
theorem rIx (hi : i < 24) : rX (CH h S) 31 (nI i) = some ((zI S).1 i) := by rw [I_CH]; exact rDxn (b := 30) hi
theorem rIr (hi : i < 10) : rR (CH h S) 32 (nI i) = some (33 + i) := by rw [I_CH]; exact rDrn (b := 30) hi
theorem kIw (hi : i < 10) : ck (CH h S) (33 + i) 7 = true := by rw [I_CH]; exact kDw (b := 30) hi
theorem gIw0 (hi : i < 10) : gF (CH h S) (33 + i) 7 0 = some (.int ((zI S).2.1 i 0)) := by rw [I_CH]; exact gDw0 (b := 30) hi
theorem gIw1 (hi : i < 10) : gF (CH h S) (33 + i) 7 1 = some (.int ((zI S).2.1 i 1)) := by rw [I_CH]; exact gDw1 (b := 30) hi
theorem gIw2 (hi : i < 10) : gF (CH h S) (33 + i) 7 2 = some (.int ((zI S).2.1 i 2)) := by rw [I_CH]; exact gDw2 (b := 30) hi
theorem gIw3 (hi : i < 10) : gF (CH h S) (33 + i) 7 3 = some (.int ((zI S).2.1 i 3)) := by rw [I_CH]; exact gDw3 (b := 30) hi
theorem gIw4 (hi : i < 10) : gF (CH h S) (33 + i) 7 4 = some (.int ((zI S).2.1 i 4)) := by rw [I_CH]; exact gDw4 (b := 30) hi
theorem gIw5 (hi : i < 10) : gF (CH h S) (33 + i) 7 5 = some (.int ((zI S).2.1 i 5)) := by rw [I_CH]; exact gDw5 (b := 30) hi
theorem kTc : ck (CH h S) 43 1 = true := rfl
theorem gT0 : gF (CH h S) 43 1 0 = some (.ref 44) := rfl
theorem gT1 : gF (CH h S) 43 1 1 = some (.ref 45) := rfl
theorem gT2 : gF (CH h S) 43 1 2 = some (.int ((zT S).2.2 2)) := rfl
theorem gT3 : gF (CH h S) 43 1 3 = some (.int ((zT S).2.2 3)) := rfl
theorem gT4 : gF (CH h S) 43 1 4 = some (.int ((zT S).2.2 4)) := rfl
theorem gT5 : gF (CH h S) 43 1 5 = some (.int ((zT S).2.2 5)) := rfl
theorem gT6 : gF (CH h S) 43 1 6 = some (.int ((zT S).2.2 6)) := rfl
theorem gT7 : gF (CH h S) 43 1 7 = some (.int ((zT S).2.2 7)) := rfl
theorem gT8 : gF (CH h S) 43 1 8 = some (.int ((zT S).2.2 8)) := rfl
theorem gT9 : gF (CH h S) 43 1 9 = some (.int ((zT S).2.2 9)) := rfl
theorem gT10 : gF (CH h S) 43 1 10 = some (.int ((zT S).2.2 10)) := rfl
theorem gT11 : gF (CH h S) 43 1 11 = some (.int ((zT S).2.2 11)) := rfl
theorem gT12 : gF (CH h S) 43 1 12 = some (.int ((zT S).2.2 12)) := rfl
theorem rTx (hi : i < 24) : rX (CH h S) 44 (nI i) = some ((zT S).1 i) := by rw [T_CH]; exact rDxn (b := 43) hi
theorem rTr (hi : i < 10) : rR (CH h S) 45 (nI i) = some (46 + i) := by rw [T_CH]; exact rDrn (b := 43) hi
theorem kTw (hi : i < 10) : ck (CH h S) (46 + i) 7 = true := by rw [T_CH]; exact kDw (b := 43) hi
theorem gTw0 (hi : i < 10) : gF (CH h S) (46 + i) 7 0 = some (.int ((zT S).2.1 i 0)) := by rw [T_CH]; exact gDw0 (b := 43) hi
theorem gTw1 (hi : i < 10) : gF (CH h S) (46 + i) 7 1 = some (.int ((zT S).2.1 i 1)) := by rw [T_CH]; exact gDw1 (b := 43) hi
theorem gTw2 (hi : i < 10) : gF (CH h S) (46 + i) 7 2 = some (.int ((zT S).2.1 i 2)) := by rw [T_CH]; exact gDw2 (b := 43) hi
theorem gTw3 (hi : i < 10) : gF (CH h S) (46 + i) 7 3 = some (.int ((zT S).2.1 i 3)) := by rw [T_CH]; exact gDw3 (b := 43) hi
theorem gTw4 (hi : i < 10) : gF (CH h S) (46 + i) 7 4 = some (.int ((zT S).2.1 i 4)) := by rw [T_CH]; exact gDw4 (b := 43) hi
theorem gTw5 (hi : i < 10) : gF (CH h S) (46 + i) 7 5 = some (.int ((zT S).2.1 i 5)) := by rw [T_CH]; exact gDw5 (b := 43) hi
/-- hours that pass, one by one -/
def hrs (L : LT) (t s : Nat) : Nat → DT → DT
  | 0, D => D
  | n + 1, D => hrs L t s n (hrF L t s True D)
theorem hrs_k : ∀ (n : Nat) (D : DT), dI D s → dI (hrs L t s n D) s ∧ (hrs L t s n D).2.2 12 = D.2.2 12
  | 0, D, q => ⟨q, rfl⟩
  | n + 1, D, q => by
    have h1 := hrF_k (L := L) (t := t) True q
    have h2 := hrs_k n _ h1.1
    exact ⟨h2.1, h2.2.trans h1.2⟩
theorem pi_T : pi True = 1 := rfl
theorem pi_F : pi False = 0 := rfl
theorem hours_loop {m : Nat} (hm : m < 2147483648) (hg : ∀ K D, gF (putD (putL h lb L K) b D) 16 8 4 = some (.ref lb)) (ho : b + 13 ≤ lb ∨ lb + 31 ≤ b) (hL : okL L t) (n : Nat) : ∀ (k : Nat) (D : DT) (K : Nat → Int32), D.2.2 12 = nI t → dI D s → k + n = m → ∃ K', Df (d + 6) 85 2 [.ref 16, .ref b, .int (nI m), .int (nI k)] [] (putD (putL h lb L K) b D) nx = some (none, putD (putL h lb L K') b (hrs L t s n D), nx) := by
  induction n with
  | zero =>
    intro k D K ht hD hk
    obtain rfl : k = m := by omega
    refine ⟨K, ?_⟩
    rw [e_85_2]
    simp only [e_85_0, e_85_1n, e_85_1i, e_85_1r, e_85_3, e_85_4, e_85_7, e_85_8, e_85_9, e_85_12, e_85_13, e_85_16, e_85_19, e_85_22]
    rw [if_pos (nI_le (Nat.le_refl _) (by omega))]
    rfl
  | succ n ih =>
    intro k D K ht hD hk
    obtain ⟨K1, e1⟩ := c_passHour (d := d) (h := h) (nx := nx) (K := K) ho hL ht hD True
    have hk2 := hrF_k (L := L) (t := t) True hD
    obtain ⟨K2, e2⟩ := ih (k + 1) (hrF L t s True D) K1 (hk2.2.trans ht) hk2.1 (by omega)
    rw [pi_T] at e1
    refine ⟨K2, ?_⟩
    rw [e_85_2]
    simp only [e_85_0, e_85_1n, e_85_1i, e_85_1r, e_85_3, e_85_4, e_85_7, e_85_8, e_85_9, e_85_12, e_85_13, e_85_16, e_85_19, e_85_22, hg, Option.bind_some, kD, if_true, e1, cn_v, nI_1]
    rw [if_neg (nI_ge (by omega) (by omega))]
    exact e2
theorem c_passHours {m : Nat} (hm : m < 2147483648) (hg : ∀ K D, gF (putD (putL h lb L K) b D) 16 8 4 = some (.ref lb)) (ho : b + 13 ≤ lb ∨ lb + 31 ≤ b) (hL : okL L t) (ht : D.2.2 12 = nI t) (hD : dI D s) : ∃ K', Dn (d + 7) 85 [.ref 16, .ref b, .int (nI m)] (putD (putL h lb L K) b D) nx = some (none, putD (putL h lb L K') b (hrs L t s m D), nx) := by
  obtain ⟨K', e⟩ := hours_loop (d := d) (nx := nx) hm hg ho hL m 0 D K ht hD (Nat.zero_add _)
  refine ⟨K', ?_⟩
  simp only [n_85, e_85_0, e_85_1n, e_85_1i, e_85_1r]
  exact e
theorem putNL (K : Nat → Int32) (D : DT) : putD (putL (CH h S) 57 (zL S) K) 17 D = CH h (sN (sK S K) D) := by rw [CH_L, CH_N]; rfl
theorem N_hour (hL : okL (zL S) t) (ht : D.2.2 12 = nI t) (hD : dI D s) (led : Prop) [Decidable led] : ∃ K', Dn (d + 6) 14 [.ref 17, .ref 57, .int (pi led)] (CH h (sN (sK S K) D)) nx = some (none, CH h (sN (sK S K') (hrF (zL S) t s led D)), nx) := by
  obtain ⟨K', e⟩ := c_passHour (d := d) (h := CH h S) (nx := nx) (K := K) (b := 17) (lb := 57) (by omega) hL ht hD led
  refine ⟨K', ?_⟩
  simp only [putNL] at e
  exact e
theorem N_hours {m : Nat} (hm : m < 2147483648) (hL : okL (zL S) t) (ht : D.2.2 12 = nI t) (hD : dI D s) : ∃ K', Dn (d + 7) 85 [.ref 16, .ref 17, .int (nI m)] (CH h (sN (sK S K) D)) nx = some (none, CH h (sN (sK S K') (hrs (zL S) t s m D)), nx) := by
  obtain ⟨K', e⟩ := c_passHours (d := d) (h := CH h S) (nx := nx) (K := K) (b := 17) (lb := 57) hm (fun K D => by rw [putNL]; rfl) (by omega) hL ht hD
  refine ⟨K', ?_⟩
  simp only [putNL] at e
  exact e
theorem putTL (K : Nat → Int32) (D : DT) : putD (putL (CH h S) 57 (zL S) K) 43 D = CH h (sT (sK S K) D) := by rw [CH_L, CH_T]; rfl
theorem T_hour (hL : okL (zL S) t) (ht : D.2.2 12 = nI t) (hD : dI D s) (led : Prop) [Decidable led] : ∃ K', Dn (d + 6) 14 [.ref 43, .ref 57, .int (pi led)] (CH h (sT (sK S K) D)) nx = some (none, CH h (sT (sK S K') (hrF (zL S) t s led D)), nx) := by
  obtain ⟨K', e⟩ := c_passHour (d := d) (h := CH h S) (nx := nx) (K := K) (b := 43) (lb := 57) (by omega) hL ht hD led
  refine ⟨K', ?_⟩
  simp only [putTL] at e
  exact e
theorem T_hours {m : Nat} (hm : m < 2147483648) (hL : okL (zL S) t) (ht : D.2.2 12 = nI t) (hD : dI D s) : ∃ K', Dn (d + 7) 85 [.ref 16, .ref 43, .int (nI m)] (CH h (sT (sK S K) D)) nx = some (none, CH h (sT (sK S K') (hrs (zL S) t s m D)), nx) := by
  obtain ⟨K', e⟩ := c_passHours (d := d) (h := CH h S) (nx := nx) (K := K) (b := 43) (lb := 57) hm (fun K D => by rw [putTL]; rfl) (by omega) hL ht hD
  refine ⟨K', ?_⟩
  simp only [putTL] at e
  exact e
end TL
