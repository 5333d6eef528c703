/-! the model in the heap: its object at 123, its rows at 124 .. 144 -/
abbrev MS : Type := (Nat → Int32) × (Nat → Nat → Int32)
def mlen (a : Nat) : Nat := if a < 127 then 1467 else if a = 127 then 95 else if a = 128 then 96 else if a = 129 then 13 else if a = 130 then 4 else if a = 131 then 96 else if a = 132 then 96 else if a = 133 then 10 else if a = 134 then 96 else if a < 138 then 4 else if a = 138 then 96 else if a < 142 then 5 else if a = 142 then 120 else if a = 143 then 24 else 60
def mcls (a : Nat) : Nat := if a = 129 then 2 else if a = 133 then 1 else 0
def mOb (F : Nat → Int32) : va_E := .inr (9, [.ref 124, .ref 125, .ref 126, .int (F 3), .int (F 4), .ref 127, .ref 128, .int (F 7), .int (F 8), .int (F 9), .int (F 10), .int (F 11), .int (F 12), .int (F 13), .ref 129, .ref 130, .ref 131, .int (F 17), .int (F 18), .ref 132, .int (F 20), .ref 133, .ref 134, .ref 135, .ref 136, .ref 137, .ref 138, .ref 139, .ref 140, .ref 141, .ref 142, .ref 143, .ref 144, .int (F 33)])
def MH (h : AH) (M : MS) : AH := fun a => if a = 123 then mOb M.1 else if 124 ≤ a ∧ a < 145 then .inl (mcls a, mlen a, .inl (M.2 a)) else h a
def sA (M : MS) (a : Nat) (f : Nat → Int32) : MS := (M.1, updW M.2 a f)
def sF (M : MS) (j : Nat) (x : Int32) : MS := (upd M.1 j x, M.2)
/-- all that an image keeps but texts, as the model holds it; behind the s walkers, and from 95 on, what stood there -/
def enc (D : DT) (s : Nat) (a0 : Nat → Int32) (k : Nat) : Int32 := if k = 0 then D.2.2 11 else if k = 1 then D.2.2 2 else if k = 2 then D.2.2 10 else if k = 3 then D.2.2 4 else if k = 4 then D.2.2 5 else if k = 5 then D.2.2 6 else if k = 6 then D.2.2 7 else if k = 7 then D.2.2 3 else if k = 8 then D.2.2 8 else if k = 9 then D.2.2 9 else if k = 10 then D.2.2 12 else if k < 35 then D.1 (k - 11) else if k < 35 + 6 * s then (if (k - 35) % 6 = 5 then 1 - D.2.1 ((k - 35) / 6) 5 else D.2.1 ((k - 35) / 6) ((k - 35) % 6)) else a0 k
def MX (h : AH) (M : MS) (K : (Nat → Int32) × (Nat → Int32)) (D : DT) (s : Nat) (a0 : Nat → Int32) : AH := MH h (M.1, fun a => if a = 124 then enc D s a0 else if a = 134 then K.1 else if a = 135 then K.2 else M.2 a)
section MM
variable {d : Nat} {h : AH} {nx : AN} {M : MS} {D : DT} {s i j c a k n : Nat} {x y z : Int32} {a0 f : Nat → Int32} {K : (Nat → Int32) × (Nat → Int32)}
theorem MH_in (ha : 124 ≤ a ∧ a < 145) : MH h M a = .inl (mcls a, mlen a, .inl (M.2 a)) := by
  unfold MH
  rw [if_neg (by omega), if_pos ha]
theorem put_M (ha : 124 ≤ a ∧ a < 145) : put (MH h M) a (.inl (mcls a, mlen a, .inl f)) = MH h (sA M a f) := by
  funext q
  by_cases e : q = a
  · subst e
    rw [put_same, MH_in ha]
    simp [sA, updW]
  · rw [put_ne _ _ e]
    unfold MH sA
    dsimp only
    rw [show updW M.2 a f q = M.2 q from if_neg e]
theorem put_MO {F : Nat → Int32} : put (MH h M) 123 (mOb F) = MH h (F, M.2) := by
  funext q
  by_cases e : q = 123
  · subst e
    rw [put_same]; rfl
  · rw [put_ne _ _ e]
    unfold MH
    rw [if_neg e, if_neg e]
theorem kM : ck (MH h M) 123 9 = true := rfl
theorem rM (ha : 124 ≤ a ∧ a < 145) (hc : mcls a = 0) (hk : k < mlen a) (hl : mlen a < 2147483648) : rX (MH h M) a (nI k) = some (M.2 a k) := rA (by rw [MH_in ha, hc]) hk hl
theorem wM (ha : 124 ≤ a ∧ a < 145) (hc : mcls a = 0) (hk : k < mlen a) (hl : mlen a < 2147483648) : wI (MH h M) a (nI k) 0 x = some (MH h (sA M a (upd (M.2 a) k x))) := by
  rw [wA (n := mlen a) (g := M.2 a) (by rw [MH_in ha, hc]) hk hl, ← put_M ha, hc]
/-! now, as enc has it -/
theorem kX : ck (MX h M K D s a0) 123 9 = true := rfl
theorem gX0 : gF (MX h M K D s a0) 123 9 0 = some (.ref 124) := rfl
theorem gX4 : gF (MX h M K D s a0) 123 9 4 = some (.int (M.1 4)) := rfl
theorem gX22 : gF (MX h M K D s a0) 123 9 22 = some (.ref 134) := rfl
theorem gX23 : gF (MX h M K D s a0) 123 9 23 = some (.ref 135) := rfl
theorem rX_n (hk : k < 1467) : rX (MX h M K D s a0) 124 (nI k) = some (enc D s a0 k) := rM (h := h) (a := 124) (by omega) rfl (by show k < 1467; exact hk) (by decide)
theorem X_set (hk : k < 1467) {D' : DT} (e : upd (enc D s a0) k x = enc D' s a0) : wI (MX h M K D s a0) 124 (nI k) 0 x = some (MX h M K D' s a0) := by
  unfold MX
  rw [wM (a := 124) (by omega) rfl (show k < 1467 from hk) (by decide)]
  have e2 : (sA (M.1, fun a => if a = 124 then enc D s a0 else if a = 134 then K.1 else if a = 135 then K.2 else M.2 a) 124 (upd (enc D s a0) k x)) = (M.1, fun a => if a = 124 then enc D' s a0 else if a = 134 then K.1 else if a = 135 then K.2 else M.2 a) := by
    unfold sA
    rw [e]
    congr 1
    funext b
    unfold updW
    by_cases e3 : b = 124
    · rw [if_pos e3, if_pos e3]
    · rw [if_neg e3, if_neg e3]
      dsimp only
      rw [if_neg e3]
  exact congrArg (fun q => some (MH h q)) e2
theorem en_c (hc : c < 24) : enc D s a0 (11 + c) = D.1 c := by
  unfold enc
  rw [if_neg (by omega), if_neg (by omega), if_neg (by omega), if_neg (by omega), if_neg (by omega), if_neg (by omega), if_neg (by omega), if_neg (by omega), if_neg (by omega), if_neg (by omega), if_neg (by omega), if_pos (by omega), show 11 + c - 11 = c by omega]
theorem en_w (hi : i < s) (hj : j < 5) : enc D s a0 (35 + 6 * i + j) = D.2.1 i j := by
  unfold enc
  rw [if_neg (by omega), if_neg (by omega), if_neg (by omega), if_neg (by omega), if_neg (by omega), if_neg (by omega), if_neg (by omega), if_neg (by omega), if_neg (by omega), if_neg (by omega), if_neg (by omega), if_neg (by omega), if_pos (by omega), if_neg (by omega), show (35 + 6 * i + j - 35) / 6 = i by omega, show (35 + 6 * i + j - 35) % 6 = j by omega]
theorem en_5 (hi : i < s) : enc D s a0 (35 + 6 * i + 5) = 1 - D.2.1 i 5 := by
  unfold enc
  rw [if_neg (by omega), if_neg (by omega), if_neg (by omega), if_neg (by omega), if_neg (by omega), if_neg (by omega), if_neg (by omega), if_neg (by omega), if_neg (by omega), if_neg (by omega), if_neg (by omega), if_neg (by omega), if_pos (by omega), if_pos (by omega), show (35 + 6 * i + 5 - 35) / 6 = i by omega]
theorem en_o (hk : 95 ≤ k) (hs : s ≤ 10) : enc D s a0 k = a0 k := by
  unfold enc
  rw [if_neg (by omega), if_neg (by omega), if_neg (by omega), if_neg (by omega), if_neg (by omega), if_neg (by omega), if_neg (by omega), if_neg (by omega), if_neg (by omega), if_neg (by omega), if_neg (by omega), if_neg (by omega), if_neg (by omega)]
theorem en_11 (hk : 11 ≤ k) : enc D s a0 k = if k < 35 then D.1 (k - 11) else if k < 35 + 6 * s then (if (k - 35) % 6 = 5 then 1 - D.2.1 ((k - 35) / 6) 5 else D.2.1 ((k - 35) / 6) ((k - 35) % 6)) else a0 k := by
  unfold enc
  rw [if_neg (by omega), if_neg (by omega), if_neg (by omega), if_neg (by omega), if_neg (by omega), if_neg (by omega), if_neg (by omega), if_neg (by omega), if_neg (by omega), if_neg (by omega), if_neg (by omega)]
theorem en_big (hk : 11 ≤ k) {q : Nat → Int32} : enc (D.1, D.2.1, q) s a0 k = enc D s a0 k := by
  rw [en_11 hk, en_11 hk]
/-- which field of the class each of the first eleven is -/
def enq (k : Nat) : Nat := if k = 0 then 11 else if k = 1 then 2 else if k = 2 then 10 else if k = 3 then 4 else if k = 4 then 5 else if k = 5 then 6 else if k = 6 then 7 else if k = 7 then 3 else if k = 8 then 8 else if k = 9 then 9 else 12
theorem en_q (hk : k < 11) : enc D s a0 k = D.2.2 (enq k) := by
  match k, hk with
  | 0, _ => rfl
  | 1, _ => rfl
  | 2, _ => rfl
  | 3, _ => rfl
  | 4, _ => rfl
  | 5, _ => rfl
  | 6, _ => rfl
  | 7, _ => rfl
  | 8, _ => rfl
  | 9, _ => rfl
  | 10, _ => rfl
theorem enq_inj : ∀ k, k < 11 → ∀ j, j < 11 → enq k = enq j → k = j := by decide
theorem up_q (hk : k < 11) : upd (enc D s a0) k x = enc (dq D (enq k) x) s a0 := by
  funext b
  by_cases e : b = k
  · subst e
    rw [en_q hk]
    simp [upd, dq]
  · rw [show upd (enc D s a0) k x b = enc D s a0 b from if_neg e]
    by_cases hb : b < 11
    · rw [en_q hb, en_q hb]
      show D.2.2 (enq b) = upd D.2.2 (enq k) x (enq b)
      rw [show upd D.2.2 (enq k) x (enq b) = D.2.2 (enq b) from if_neg (fun q => e (enq_inj b hb k hk q))]
    · exact (en_big (by omega)).symm
theorem en_mid (hk : 11 ≤ k ∧ k < 35) : enc D s a0 k = D.1 (k - 11) := by
  have := en_c (D := D) (s := s) (a0 := a0) (c := k - 11) (by omega)
  rwa [show 11 + (k - 11) = k by omega] at this
theorem up_c (hc : c < 24) : upd (enc D s a0) (11 + c) x = enc (dwt D c x) s a0 := by
  funext b
  by_cases e : b = 11 + c
  · subst e
    rw [en_c hc]
    simp [upd, dwt]
  · rw [show upd (enc D s a0) (11 + c) x b = enc D s a0 b from if_neg e]
    by_cases hb : b < 11
    · rw [en_q hb, en_q hb]; rfl
    · by_cases hb2 : b < 35
      · rw [en_mid (by omega), en_mid (by omega)]
        show D.1 (b - 11) = upd D.1 c x (b - 11)
        rw [show upd D.1 c x (b - 11) = D.1 (b - 11) from if_neg (by omega)]
      · rw [en_11 (by omega), en_11 (by omega), if_neg hb2, if_neg hb2]
        rfl
theorem en_hi (hk : 35 ≤ k) : enc D s a0 k = if k < 35 + 6 * s then (if (k - 35) % 6 = 5 then 1 - D.2.1 ((k - 35) / 6) 5 else D.2.1 ((k - 35) / 6) ((k - 35) % 6)) else a0 k := by
  unfold enc
  rw [if_neg (by omega), if_neg (by omega), if_neg (by omega), if_neg (by omega), if_neg (by omega), if_neg (by omega), if_neg (by omega), if_neg (by omega), if_neg (by omega), if_neg (by omega), if_neg (by omega), if_neg (by omega)]
theorem up_w (hi : i < s) (hj : j < 5) : upd (enc D s a0) (35 + 6 * i + j) x = enc (dW D i (upd (D.2.1 i) j x)) s a0 := by
  funext b
  by_cases e : b = 35 + 6 * i + j
  · subst e
    rw [en_w hi hj]
    simp [upd, dW, updW]
  · rw [show upd (enc D s a0) (35 + 6 * i + j) x b = enc D s a0 b from if_neg e]
    by_cases hb : b < 11
    · rw [en_q hb, en_q hb]; rfl
    · by_cases hb2 : b < 35
      · rw [en_mid (by omega), en_mid (by omega)]; rfl
      · rw [en_hi (by omega), en_hi (by omega)]
        by_cases h1 : b < 35 + 6 * s
        · rw [if_pos h1, if_pos h1]
          show _ = (if (b - 35) % 6 = 5 then 1 - updW D.2.1 i (upd (D.2.1 i) j x) ((b - 35) / 6) 5 else updW D.2.1 i (upd (D.2.1 i) j x) ((b - 35) / 6) ((b - 35) % 6))
          by_cases h2 : (b - 35) / 6 = i
          · rw [h2, show updW D.2.1 i (upd (D.2.1 i) j x) i = upd (D.2.1 i) j x from if_pos rfl, show upd (D.2.1 i) j x 5 = D.2.1 i 5 from if_neg (by omega)]
            by_cases h3 : (b - 35) % 6 = 5
            · rw [if_pos h3, if_pos h3]
            · rw [if_neg h3, if_neg h3, show upd (D.2.1 i) j x ((b - 35) % 6) = D.2.1 i ((b - 35) % 6) from if_neg (by omega)]
          · rw [show updW D.2.1 i (upd (D.2.1 i) j x) ((b - 35) / 6) = D.2.1 ((b - 35) / 6) from if_neg h2]
        · rw [if_neg h1, if_neg h1]
theorem up_5 (hi : i < s) : upd (enc D s a0) (35 + 6 * i + 5) 1 = enc (dW D i (upd (D.2.1 i) 5 0)) s a0 := by
  funext b
  by_cases e : b = 35 + 6 * i + 5
  · subst e
    rw [en_5 hi]
    simp [upd, dW, updW]
  · rw [show upd (enc D s a0) (35 + 6 * i + 5) 1 b = enc D s a0 b from if_neg e]
    by_cases hb : b < 11
    · rw [en_q hb, en_q hb]; rfl
    · by_cases hb2 : b < 35
      · rw [en_mid (by omega), en_mid (by omega)]; rfl
      · rw [en_hi (by omega), en_hi (by omega)]
        by_cases h1 : b < 35 + 6 * s
        · rw [if_pos h1, if_pos h1]
          show _ = (if (b - 35) % 6 = 5 then 1 - updW D.2.1 i (upd (D.2.1 i) 5 0) ((b - 35) / 6) 5 else updW D.2.1 i (upd (D.2.1 i) 5 0) ((b - 35) / 6) ((b - 35) % 6))
          by_cases h2 : (b - 35) / 6 = i
          · rw [h2, show updW D.2.1 i (upd (D.2.1 i) 5 0) i = upd (D.2.1 i) 5 0 from if_pos rfl, if_neg (by omega), if_neg (by omega), show upd (D.2.1 i) 5 0 ((b - 35) % 6) = D.2.1 i ((b - 35) % 6) from if_neg (by omega)]
          · rw [show updW D.2.1 i (upd (D.2.1 i) 5 0) ((b - 35) / 6) = D.2.1 ((b - 35) / 6) from if_neg h2]
        · rw [if_neg h1, if_neg h1]
/-! reads and writes by the place as it is written in the code -/
theorem rx0 : rX (MX h M K D s a0) 124 0 = some (D.2.2 11) := rX_n (k := 0) (by omega)
theorem rx1 : rX (MX h M K D s a0) 124 1 = some (D.2.2 2) := rX_n (k := 1) (by omega)
theorem rx2 : rX (MX h M K D s a0) 124 2 = some (D.2.2 10) := rX_n (k := 2) (by omega)
theorem rx3 : rX (MX h M K D s a0) 124 3 = some (D.2.2 4) := rX_n (k := 3) (by omega)
theorem rx4 : rX (MX h M K D s a0) 124 4 = some (D.2.2 5) := rX_n (k := 4) (by omega)
theorem rx5 : rX (MX h M K D s a0) 124 5 = some (D.2.2 6) := rX_n (k := 5) (by omega)
theorem rx6 : rX (MX h M K D s a0) 124 6 = some (D.2.2 7) := rX_n (k := 6) (by omega)
theorem rx7 : rX (MX h M K D s a0) 124 7 = some (D.2.2 3) := rX_n (k := 7) (by omega)
theorem rx8 : rX (MX h M K D s a0) 124 8 = some (D.2.2 8) := rX_n (k := 8) (by omega)
theorem rx9 : rX (MX h M K D s a0) 124 9 = some (D.2.2 9) := rX_n (k := 9) (by omega)
theorem rx10 : rX (MX h M K D s a0) 124 10 = some (D.2.2 12) := rX_n (k := 10) (by omega)
theorem wx0 : wI (MX h M K D s a0) 124 0 0 x = some (MX h M K (dq D 11 x) s a0) := X_set (k := 0) (by omega) (up_q (by omega))
theorem wx1 : wI (MX h M K D s a0) 124 1 0 x = some (MX h M K (dq D 2 x) s a0) := X_set (k := 1) (by omega) (up_q (by omega))
theorem wx2 : wI (MX h M K D s a0) 124 2 0 x = some (MX h M K (dq D 10 x) s a0) := X_set (k := 2) (by omega) (up_q (by omega))
theorem wx3 : wI (MX h M K D s a0) 124 3 0 x = some (MX h M K (dq D 4 x) s a0) := X_set (k := 3) (by omega) (up_q (by omega))
theorem wx7 : wI (MX h M K D s a0) 124 7 0 x = some (MX h M K (dq D 3 x) s a0) := X_set (k := 7) (by omega) (up_q (by omega))
theorem wx8 : wI (MX h M K D s a0) 124 8 0 x = some (MX h M K (dq D 8 x) s a0) := X_set (k := 8) (by omega) (up_q (by omega))
theorem wx9 : wI (MX h M K D s a0) 124 9 0 x = some (MX h M K (dq D 9 x) s a0) := X_set (k := 9) (by omega) (up_q (by omega))
theorem wx10 : wI (MX h M K D s a0) 124 10 0 x = some (MX h M K (dq D 12 x) s a0) := X_set (k := 10) (by omega) (up_q (by omega))
theorem rxc (hc : c < 24) : rX (MX h M K D s a0) 124 (nI (11 + c)) = some (D.1 c) := by rw [rX_n (by omega), en_c hc]
theorem wxc (hc : c < 24) : wI (MX h M K D s a0) 124 (nI (11 + c)) 0 x = some (MX h M K (dwt D c x) s a0) := X_set (by omega) (up_c hc)
theorem ix_w (i j : Nat) : (35 : Int32) + 6 * nI i + nI j = nI (35 + 6 * i + j) := by
  show nI 35 + nI 6 * nI i + nI j = _
  rw [show nI 6 * nI i = nI (6 * i) from (Int32.ofNat_mul 6 i).symm, nI_add, nI_add]
theorem c_of (hi : i < s) (hs : s ≤ 10) (hj : j < 5) : Dn (d + 1) 128 [.ref 123, .int (nI i), .int (nI j)] (MX h M K D s a0) nx = some (some (.int (D.2.1 i j)), MX h M K D s a0, nx) := by
  simp only [n_128, e_128_0, e_128_1, e_128_4, e_128_6, e_128_8, e_128_9, e_128_10, e_128_11, e_128_12, e_128_13, e_128_14, gX0, ix_w, rX_n (show 35 + 6 * i + j < 1467 by omega), en_w hi hj, Option.bind_some]
theorem c_of0 (hi : i < s) (hs : s ≤ 10) : Dn (d + 1) 128 [.ref 123, .int (nI i), .int 0] (MX h M K D s a0) nx = some (some (.int (D.2.1 i 0)), MX h M K D s a0, nx) := c_of (j := 0) hi hs (by omega)
theorem c_of1 (hi : i < s) (hs : s ≤ 10) : Dn (d + 1) 128 [.ref 123, .int (nI i), .int 1] (MX h M K D s a0) nx = some (some (.int (D.2.1 i 1)), MX h M K D s a0, nx) := c_of (j := 1) hi hs (by omega)
theorem c_of2 (hi : i < s) (hs : s ≤ 10) : Dn (d + 1) 128 [.ref 123, .int (nI i), .int 2] (MX h M K D s a0) nx = some (some (.int (D.2.1 i 2)), MX h M K D s a0, nx) := c_of (j := 2) hi hs (by omega)
theorem c_of3 (hi : i < s) (hs : s ≤ 10) : Dn (d + 1) 128 [.ref 123, .int (nI i), .int 3] (MX h M K D s a0) nx = some (some (.int (D.2.1 i 3)), MX h M K D s a0, nx) := c_of (j := 3) hi hs (by omega)
theorem c_of4 (hi : i < s) (hs : s ≤ 10) : Dn (d + 1) 128 [.ref 123, .int (nI i), .int 4] (MX h M K D s a0) nx = some (some (.int (D.2.1 i 4)), MX h M K D s a0, nx) := c_of (j := 4) hi hs (by omega)
theorem c_of5 (hi : i < s) (hs : s ≤ 10) : Dn (d + 1) 128 [.ref 123, .int (nI i), .int 5] (MX h M K D s a0) nx = some (some (.int (1 - D.2.1 i 5)), MX h M K D s a0, nx) := by
  rw [show (5 : Int32) = nI 5 from rfl]
  simp only [n_128, e_128_0, e_128_1, e_128_4, e_128_6, e_128_8, e_128_9, e_128_10, e_128_11, e_128_12, e_128_13, e_128_14, gX0, ix_w, rX_n (show 35 + 6 * i + 5 < 1467 by omega), en_5 hi, Option.bind_some]
theorem c_put (hi : i < s) (hs : s ≤ 10) (hj : j < 5) : Dn (d + 1) 125 [.ref 123, .int (nI i), .int (nI j), .int x] (MX h M K D s a0) nx = some (none, MX h M K (dW D i (upd (D.2.1 i) j x)) s a0, nx) := by
  simp only [n_125, e_125_0, e_125_1, e_125_4, e_125_6, e_125_8, e_125_9, e_125_10, e_125_11, e_125_12, e_125_13, e_125_14, e_125_15, gX0, ix_w, X_set (show 35 + 6 * i + j < 1467 by omega) (up_w hi hj), Option.bind_some]
theorem c_put1 (hi : i < s) (hs : s ≤ 10) : Dn (d + 1) 125 [.ref 123, .int (nI i), .int 1, .int x] (MX h M K D s a0) nx = some (none, MX h M K (dW D i (upd (D.2.1 i) 1 x)) s a0, nx) := c_put (j := 1) hi hs (by omega)
theorem c_put2 (hi : i < s) (hs : s ≤ 10) : Dn (d + 1) 125 [.ref 123, .int (nI i), .int 2, .int x] (MX h M K D s a0) nx = some (none, MX h M K (dW D i (upd (D.2.1 i) 2 x)) s a0, nx) := c_put (j := 2) hi hs (by omega)
theorem c_put3 (hi : i < s) (hs : s ≤ 10) : Dn (d + 1) 125 [.ref 123, .int (nI i), .int 3, .int x] (MX h M K D s a0) nx = some (none, MX h M K (dW D i (upd (D.2.1 i) 3 x)) s a0, nx) := c_put (j := 3) hi hs (by omega)
theorem c_put4 (hi : i < s) (hs : s ≤ 10) : Dn (d + 1) 125 [.ref 123, .int (nI i), .int 4, .int x] (MX h M K D s a0) nx = some (none, MX h M K (dW D i (upd (D.2.1 i) 4 x)) s a0, nx) := c_put (j := 4) hi hs (by omega)
theorem c_put5 (hi : i < s) (hs : s ≤ 10) : Dn (d + 1) 125 [.ref 123, .int (nI i), .int 5, .int 1] (MX h M K D s a0) nx = some (none, MX h M K (dW D i (upd (D.2.1 i) 5 0)) s a0, nx) := by
  rw [show (5 : Int32) = nI 5 from rfl]
  simp only [n_125, e_125_0, e_125_1, e_125_4, e_125_6, e_125_8, e_125_9, e_125_10, e_125_11, e_125_12, e_125_13, e_125_14, e_125_15, gX0, ix_w, X_set (show 35 + 6 * i + 5 < 1467 by omega) (up_5 hi), Option.bind_some]
theorem c_lives (hi : i < s) (hs : s ≤ 10) (hv : D.2.1 i 5 = 0 ∨ D.2.1 i 5 = 1) : Dn (d + 2) 154 [.ref 123, .int (nI i)] (MX h M K D s a0) nx = some (some (.int (pi (¬ D.2.1 i 5 = 0))), MX h M K D s a0, nx) := by
  simp only [n_154, e_154_0, e_154_1, e_154_2, e_154_3, e_154_6, e_154_9, e_154_10, e_154_13, e_154_14, kX, if_true, c_of5 hi hs, cn_s, nR_b0, nR_b1]
  rcases hv with e | e <;> rw [e] <;> rfl
theorem c_isWalker (hn : D.2.2 2 = nI s) (hs : s ≤ 10) : Dn (d + 2) 127 [.ref 123, .int x] (MX h M K D s a0) nx = some (some (.int (pi (0 ≤ x ∧ x < nI s))), MX h M K D s a0, nx) := by
  simp only [n_127, e_127_0, e_127_1, e_127_2, e_127_3, e_127_6, e_127_7, e_127_8, e_127_9, e_127_10, e_127_13, gX0, rx1, hn, c_min_in, cn_s, nR_pi, if_true, Option.bind_some]
  have e : (x ≤ nI s - 1) = (x < nI s) := by
    apply propext
    cases s with
    | zero =>
      have e1 : nI 0 - 1 = -1 := by decide
      rw [e1, show nI 0 = 0 from rfl, Int32.le_iff_toInt_le, Int32.lt_iff_toInt_lt]
      have e2 : (-1 : Int32).toInt = -1 := by decide
      have e3 : (0 : Int32).toInt = 0 := by decide
      omega
    | succ s =>
      rw [nI_pred, Int32.le_iff_toInt_le, Int32.lt_iff_toInt_lt, nI_toInt (by omega), nI_toInt (by omega)]
      omega
  simp only [e]
end MM
