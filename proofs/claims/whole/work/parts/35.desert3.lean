/-! more of a desert: sets and sums, who joins, which way -/
section D3
variable {d : Nat} {h : AH} {nx : AN} {b i s c : Nat} {D : DT} {x y z : Int32} {l1 l2 l3 l4 l5 : Value}
def lvg (W : Nat → Nat → Int32) : Nat → Int32
  | 0 => 0
  | n + 1 => lvg W n ||| (if W n 5 = 0 then 0 else (1 : Int32) <<< (nI n &&& 31))
def tht (W : Nat → Nat → Int32) : Nat → Int32
  | 0 => 0
  | n + 1 => tht W n + (if W n 5 = 0 then 0 else W n 1)
def wls (w : Nat → Int32) : Nat → Int32
  | 0 => 0
  | n + 1 => wls w n ||| (if w n ≤ 0 then 0 else (1 : Int32) <<< (nI n &&& 31))
theorem living_loop (hs : D.2.2 2 = nI s) (hs10 : s ≤ 10) (n : Nat) : ∀ (k : Nat), k + n = s → Df d 20 4 [.ref b, .int (lvg D.2.1 k), .int (nI k)] [] (putD h b D) nx = some (some (.int (lvg D.2.1 s)), putD h b D, nx) := by
  induction n with
  | zero =>
    intro k hk
    obtain rfl : k = s := by omega
    simp only [e_20_4, e_20_5, e_20_6, e_20_9, e_20_40, e_20_41, gD2, hs, Option.bind_some]
    rw [if_pos (nI_le (Nat.le_refl _) (by omega))]
  | succ n ih =>
    intro k hk
    have hk10 : k < 10 := by omega
    rw [e_20_4]
    simp only [e_20_0, e_20_1n, e_20_1i, e_20_1r, e_20_2, e_20_3n, e_20_3i, e_20_3r, e_20_5, e_20_6, e_20_9, e_20_12, e_20_13, e_20_14, e_20_17, e_20_18, e_20_19, e_20_22, e_20_25, e_20_26, e_20_27, e_20_28, e_20_31, e_20_32, e_20_33n, e_20_33i, e_20_33r, e_20_34, e_20_37, e_20_40, e_20_41, gD2, gD1, hs, rDrn hk10, gDw5 hk10, Option.bind_some, nI_1]
    rw [if_neg (nI_ge (by omega) (by omega))]
    have ih := ih (k + 1) (by omega)
    by_cases h1 : D.2.1 k 5 = 0
    · rw [if_pos h1]
      simp only [lvg, h1, if_true] at ih
      exact ih
    · rw [if_neg h1]
      simp only [lvg, h1, if_false] at ih
      exact ih
theorem c_living (hs : D.2.2 2 = nI s) (hs10 : s ≤ 10) : Dn (d + 1) 20 [.ref b] (putD h b D) nx = some (some (.int (lvg D.2.1 s)), putD h b D, nx) := by
  simp only [n_20, e_20_0, e_20_1n, e_20_1i, e_20_1r, e_20_2, e_20_3n, e_20_3i, e_20_3r]
  exact living_loop hs hs10 s 0 (Nat.zero_add _)
theorem tht_loop (hs : D.2.2 2 = nI s) (hs10 : s ≤ 10) (n : Nat) : ∀ (k : Nat), k + n = s → Df d 21 4 [.ref b, .int (tht D.2.1 k), .int (nI k)] [] (putD h b D) nx = some (some (.int (tht D.2.1 s)), putD h b D, nx) := by
  induction n with
  | zero =>
    intro k hk
    obtain rfl : k = s := by omega
    rw [e_21_4]
    simp only [e_21_0, e_21_1n, e_21_1i, e_21_1r, e_21_2, e_21_3n, e_21_3i, e_21_3r, e_21_5, e_21_6, e_21_9, e_21_12, e_21_13, e_21_14, e_21_17, e_21_18, e_21_19, e_21_22, e_21_25, e_21_26, e_21_29, e_21_30, e_21_31, e_21_34, e_21_37, e_21_38, e_21_39n, e_21_39i, e_21_39r, e_21_40, e_21_43, e_21_46, e_21_47, gD2, hs, Option.bind_some]
    rw [if_pos (nI_le (Nat.le_refl _) (by omega))]
  | succ n ih =>
    intro k hk
    have hk10 : k < 10 := by omega
    rw [e_21_4]
    simp only [e_21_0, e_21_1n, e_21_1i, e_21_1r, e_21_2, e_21_3n, e_21_3i, e_21_3r, e_21_5, e_21_6, e_21_9, e_21_12, e_21_13, e_21_14, e_21_17, e_21_18, e_21_19, e_21_22, e_21_25, e_21_26, e_21_29, e_21_30, e_21_31, e_21_34, e_21_37, e_21_38, e_21_39n, e_21_39i, e_21_39r, e_21_40, e_21_43, e_21_46, e_21_47, gD2, gD1, hs, rDrn hk10, gDw5 hk10, gDw1 hk10, Option.bind_some, nI_1]
    rw [if_neg (nI_ge (by omega) (by omega))]
    have ih := ih (k + 1) (by omega)
    by_cases h1 : D.2.1 k 5 = 0
    · rw [if_pos h1]
      simp only [tht, h1, if_true] at ih
      exact ih
    · rw [if_neg h1]
      simp only [tht, h1, if_false] at ih
      exact ih
theorem c_thirstTogether (hs : D.2.2 2 = nI s) (hs10 : s ≤ 10) : Dn (d + 1) 21 [.ref b] (putD h b D) nx = some (some (.int (tht D.2.1 s)), putD h b D, nx) := by
  simp only [n_21, e_21_0, e_21_1n, e_21_1i, e_21_1r, e_21_2, e_21_3n, e_21_3i, e_21_3r]
  exact tht_loop hs hs10 s 0 (Nat.zero_add _)
theorem wells_loop (n : Nat) : ∀ (k : Nat), k + n = 24 → Df d 22 4 [.ref b, .int (wls D.1 k), .int (nI k)] [] (putD h b D) nx = some (some (.int (wls D.1 24)), putD h b D, nx) := by
  induction n with
  | zero =>
    intro k hk
    obtain rfl : k = 24 := by omega
    rw [e_22_4]
    simp only [e_22_0, e_22_1n, e_22_1i, e_22_1r, e_22_2, e_22_3n, e_22_3i, e_22_3r, e_22_5, e_22_7, e_22_10, e_22_11, e_22_12, e_22_15, e_22_16, e_22_17, e_22_20, e_22_21, e_22_22, e_22_23, e_22_26, e_22_27, e_22_28n, e_22_28i, e_22_28r, e_22_29, e_22_32, e_22_35, e_22_36]
    rw [if_pos (by decide)]
  | succ n ih =>
    intro k hk
    have hk24 : k < 24 := by omega
    rw [e_22_4]
    simp only [e_22_0, e_22_1n, e_22_1i, e_22_1r, e_22_2, e_22_3n, e_22_3i, e_22_3r, e_22_5, e_22_7, e_22_10, e_22_11, e_22_12, e_22_15, e_22_16, e_22_17, e_22_20, e_22_21, e_22_22, e_22_23, e_22_26, e_22_27, e_22_28n, e_22_28i, e_22_28r, e_22_29, e_22_32, e_22_35, e_22_36, gD0, rDxn hk24, Option.bind_some, nI_1]
    rw [if_neg (by rw [le_nI _ (by omega)]; show ¬ 24 ≤ k; omega)]
    have ih := ih (k + 1) (by omega)
    by_cases h1 : D.1 k ≤ 0
    · rw [if_pos h1]
      simp only [wls, h1, if_true] at ih
      exact ih
    · rw [if_neg h1]
      simp only [wls, h1, if_false] at ih
      exact ih
theorem c_wells : Dn (d + 1) 22 [.ref b] (putD h b D) nx = some (some (.int (wls D.1 24)), putD h b D, nx) := by
  simp only [n_22, e_22_0, e_22_1n, e_22_1i, e_22_1r, e_22_2, e_22_3n, e_22_3i, e_22_3r]
  exact wells_loop 24 0 rfl
/-- skins shared out -/
def shF (x : Int32) : Nat → Nat → DT → DT
  | 0, _, D => D
  | n + 1, k, D => shF x n (k + 1) (if D.2.1 k 5 = 0 then D else dW D k (upd (D.2.1 k) 2 x))
theorem shareOut_loop (hs10 : s ≤ 10) (n : Nat) : ∀ (k : Nat) (D : DT), D.2.2 2 = nI s → k + n = s → Df d 25 2 [.ref b, .int x, .int (nI k)] [] (putD h b D) nx = some (none, putD h b (shF x n k D), nx) := by
  induction n with
  | zero =>
    intro k D hs hk
    obtain rfl : k = s := by omega
    rw [e_25_2]
    simp only [e_25_0, e_25_1n, e_25_1i, e_25_1r, e_25_3, e_25_4, e_25_7, e_25_10, e_25_11, e_25_14, e_25_15, e_25_16, e_25_19, e_25_22, e_25_23, e_25_26, e_25_27, e_25_28, e_25_29, e_25_32, e_25_35, e_25_38, gD2, hs, Option.bind_some]
    rw [if_pos (nI_le (Nat.le_refl _) (by omega))]
    rfl
  | succ n ih =>
    intro k D hs hk
    have hk10 : k < 10 := by omega
    rw [e_25_2]
    simp only [e_25_0, e_25_1n, e_25_1i, e_25_1r, e_25_3, e_25_4, e_25_7, e_25_10, e_25_11, e_25_14, e_25_15, e_25_16, e_25_19, e_25_22, e_25_23, e_25_26, e_25_27, e_25_28, e_25_29, e_25_32, e_25_35, e_25_38, gD2, gD1, hs, rDrn hk10, gDw5 hk10, qDw2 hk10, Option.bind_some, nI_1]
    rw [if_neg (nI_ge (by omega) (by omega))]
    unfold shF
    by_cases h1 : D.2.1 k 5 = 0
    · rw [if_pos h1, if_pos h1]
      exact ih (k + 1) D hs (by omega)
    · rw [if_neg h1, if_neg h1]
      exact ih (k + 1) _ hs (by omega)
theorem c_shareOut (hs : D.2.2 2 = nI s) (hs10 : s ≤ 10) : Dn (d + 1) 25 [.ref b, .int x] (putD h b D) nx = some (none, putD h b (shF x s 0 D), nx) := by
  simp only [n_25, e_25_0, e_25_1n, e_25_1i, e_25_1r]
  exact shareOut_loop hs10 s 0 D hs (Nat.zero_add _)
/-- one more walker, behind the last -/
def jn (D : DT) (s : Nat) (x y z : Int32) : DT := dq (dW D s (upd (upd (upd (upd (upd (upd (D.2.1 s) 0 x) 1 0) 2 y) 3 z) 4 0) 5 1)) 2 (nI (s + 1))
theorem c_join (hs : D.2.2 2 = nI s) (hs10 : s ≤ 10) : Dn (d + 2) 5 [.ref b, .int x, .int y, .int z] (putD h b D) nx = if s = 10 then some (some (.int (-1000000003)), putD h b D, nx) else some (some (.int (nI s)), putD h b (jn D s x y z), nx) := by
  by_cases h10 : s = 10
  · subst h10
    simp only [n_5, e_5_0, e_5_1, e_5_4, e_5_6, e_5_9, e_5_11, gD2, hs, Option.bind_some]
    rw [if_neg (by decide)]
    rfl
  · have hs9 : s < 10 := by omega
    rw [if_neg h10]
    have e1 : (dW D s (upd (upd (upd (upd (upd (upd (D.2.1 s) 0 x) 1 0) 2 y) 3 z) 4 0) 5 1)).2.2 2 = nI s := hs
    simp only [n_5, e_5_0, e_5_1, e_5_4, e_5_6, e_5_9, e_5_11, e_5_12, e_5_13, e_5_16, e_5_17, e_5_20, e_5_21, e_5_22, e_5_23, e_5_24, e_5_27, e_5_28i, e_5_28r, e_5_29, e_5_32, e_5_33, e_5_34, e_5_37, e_5_38, e_5_41, e_5_42, e_5_43, gD2, gD1, hs, e1, rDrn hs9, kDw hs9, c_Wstarts hs9, cn_v, if_true, qD2, Option.bind_some]
    rw [if_pos (show nI s < 10 from nI_lt (b := 10) hs9 (by omega))]
    have e2 : (dq (dW D s (upd (upd (upd (upd (upd (upd (D.2.1 s) 0 x) 1 0) 2 y) 3 z) 4 0) 5 1)) 2 (nI s + 1)).2.2 2 = nI (s + 1) := by
      rw [nI_1]
      simp [dq, upd]
    rw [e2, nI_pred, nI_1]
    rfl
theorem c_thirstOf (hs : D.2.2 2 = nI s) (hs10 : s ≤ 10) (hi : i < s) : Dn (d + 2) 24 [.ref b, .int (nI i)] (putD h b D) nx = some (some (.int (D.2.1 i 1)), putD h b D, nx) := by
  have hi10 : i < 10 := by omega
  have e : 0 ≤ nI i ∧ nI i < nI s := ⟨nI_pos' (by omega), nI_lt hi (by omega)⟩
  simp only [n_24, e_24_0, e_24_1, e_24_2, e_24_5, e_24_8, e_24_9, e_24_12, e_24_13, e_24_14, e_24_17, e_24_20, e_24_22, kD, c_has hs hs10, cn_s, if_true, pi_if, e, gD1, rDrn hi10, gDw1 hi10, Option.bind_some, and_self]
/-- Math.floorMod -/
def fmC (x y : Int32) : Int32 := if 0 ≤ x ^^^ y then x - x / y * y else if x - x / y * y = 0 then x - x / y * y else x - x / y * y + y
theorem c_floorMod (hy : ¬ y = 0) : Dn (d + 1) 213 [.int x, .int y] h nx = some (some (.int (fmC x y)), h, nx) := by
  simp only [n_213, e_213_0, e_213_1, e_213_2, e_213_3n, e_213_3i, e_213_3r, e_213_4, e_213_5, e_213_6, e_213_7, e_213_10, e_213_11, e_213_14, e_213_15, e_213_16, e_213_17, e_213_18, e_213_19, hy, if_false, fmC]
  by_cases h1 : 0 ≤ x ^^^ y
  · simp only [h1, if_true]
  · simp only [h1, if_false]
    by_cases h3 : x - x / y * y = 0
    · simp only [h3, if_true]
    · simp only [h3, if_false]
theorem fm_tab : ∀ g, g < 25 → ∀ c, c < 24 → fmC (nI g - nI c) 24 = nI ((g + 24 - c) % 24) := by decide +kernel
theorem fm_add : ∀ c, c < 24 → ∀ f, f < 13 → fmC (nI c + nI f) 24 = nI ((c + f) % 24) := by decide +kernel
theorem fm_sub : ∀ c, c < 24 → ∀ f, f < 13 → fmC (nI c - nI f) 24 = nI ((c + 24 - f) % 24) := by decide +kernel
/-- the nearer way to a cell g, from c; 24: no cell -/
def wayN (c g : Nat) : Int32 := if g = 24 then 1 else if (g + 24 - c) % 24 = 0 then 0 else if (g + 24 - c) % 24 ≤ 12 then 1 else -1
theorem c_wayTo {g : Nat} (hc : D.2.2 3 = nI c) (hc24 : c < 24) (hg : g < 25) : Dn (d + 2) 10 [.ref b, .int (nI g)] (putD h b D) nx = some (some (.int (wayN c g)), putD h b D, nx) := by
  simp only [n_10, e_10_0, e_10_1, e_10_3, e_10_6, e_10_7, e_10_8, e_10_9, e_10_10, e_10_13, e_10_14, e_10_16, e_10_19n, e_10_19i, e_10_19r, e_10_20, e_10_21, e_10_24, e_10_25, e_10_26, e_10_27, e_10_29, e_10_32, e_10_33, e_10_36, e_10_37, gD3, hc, Option.bind_some, c_floorMod (show ¬ (24 : Int32) = 0 by decide), cn_s, fm_tab g hg c hc24, wayN]
  by_cases h1 : g = 24
  · subst h1
    rw [if_pos (by rfl), if_pos rfl]
  · have e1 : ¬ nI g = 24 := by
      intro q
      have : nI g = nI 24 := q
      rw [nI_eq (by omega) (by omega)] at this
      exact h1 this
    rw [if_neg e1, if_neg h1]
    generalize hm : (g + 24 - c) % 24 = m
    have hm24 : m < 24 := by omega
    by_cases h2 : m = 0
    · subst h2
      rw [if_pos (by rfl), if_pos rfl]
    · rw [if_neg (nI_ne0 (by omega) (by omega)), if_neg h2]
      by_cases h3 : m ≤ 12
      · rw [if_neg (show ¬ (12 : Int32) < nI m by rw [i_nlt]; exact nI_le (b := 12) h3 (by omega)), if_pos h3]
      · rw [if_pos (show (12 : Int32) < nI m from nI_lt (a := 12) (by omega) (by omega)), if_neg h3]
/-- the nearer way to the nearest well, looked for from f on -/
def wellF (w : Nat → Int32) (c : Nat) : Nat → Nat → Int32
  | 0, _ => 1
  | n + 1, f => if w ((c + f) % 24) ≤ 0 then (if w ((c + 24 - f) % 24) ≤ 0 then wellF w c n (f + 1) else -1) else if f = 0 then 0 else 1
theorem well_loop (hc : D.2.2 3 = nI c) (hc24 : c < 24) (n : Nat) : ∀ (f : Nat), f + n = 13 → Df (d + 1) 9 2 [.ref b, .int (nI f)] [] (putD h b D) nx = some (some (.int (wellF D.1 c n f)), putD h b D, nx) := by
  induction n with
  | zero =>
    intro f hf
    obtain rfl : f = 13 := by omega
    rw [e_9_2]
    simp only [e_9_0, e_9_1n, e_9_1i, e_9_1r, e_9_3, e_9_5, e_9_8, e_9_9, e_9_12, e_9_13, e_9_16, e_9_17, e_9_18, e_9_20, e_9_23, e_9_24, e_9_27, e_9_28, e_9_31, e_9_32, e_9_35, e_9_36, e_9_37, e_9_38, e_9_41, e_9_42, e_9_45, e_9_46, e_9_47, e_9_49, e_9_52, e_9_53, e_9_56, e_9_57, e_9_58, e_9_61, e_9_64, e_9_65]
    rw [if_pos (by decide)]
    rfl
  | succ n ih =>
    intro f hf
    have hf13 : f < 13 := by omega
    have m1 : (c + f) % 24 < 24 := Nat.mod_lt _ (by omega)
    have m2 : (c + 24 - f) % 24 < 24 := Nat.mod_lt _ (by omega)
    rw [e_9_2]
    simp only [e_9_0, e_9_1n, e_9_1i, e_9_1r, e_9_3, e_9_5, e_9_8, e_9_9, e_9_12, e_9_13, e_9_16, e_9_17, e_9_18, e_9_20, e_9_23, e_9_24, e_9_27, e_9_28, e_9_31, e_9_32, e_9_35, e_9_36, e_9_37, e_9_38, e_9_41, e_9_42, e_9_45, e_9_46, e_9_47, e_9_49, e_9_52, e_9_53, e_9_56, e_9_57, e_9_58, e_9_61, e_9_64, e_9_65, gD0, gD3, hc, Option.bind_some, c_floorMod (show ¬ (24 : Int32) = 0 by decide), cn_s, fm_add c hc24 f hf13, fm_sub c hc24 f hf13, rDxn m1, rDxn m2, nI_1]
    rw [if_neg (show ¬ (12 : Int32) < nI f by rw [i_nlt]; exact nI_le (b := 12) (by omega) (by omega))]
    unfold wellF
    by_cases h1 : D.1 ((c + f) % 24) ≤ 0
    · rw [if_pos h1, if_pos h1]
      by_cases h2 : D.1 ((c + 24 - f) % 24) ≤ 0
      · rw [if_pos h2, if_pos h2]
        exact ih (f + 1) (by omega)
      · rw [if_neg h2, if_neg h2]
    · rw [if_neg h1, if_neg h1]
      by_cases h3 : f = 0
      · subst h3
        rw [if_pos (by rfl), if_pos rfl]
      · rw [if_neg (nI_ne0 (by omega) (by omega)), if_neg h3]
theorem c_wayToWell (hc : D.2.2 3 = nI c) (hc24 : c < 24) : Dn (d + 2) 9 [.ref b] (putD h b D) nx = some (some (.int (wellF D.1 c 13 0)), putD h b D, nx) := by
  simp only [n_9, e_9_0, e_9_1n, e_9_1i, e_9_1r]
  exact well_loop hc hc24 13 0 rfl
/-- GOES: by kind, by what it knows (g), from the cell c -/
def goF (w : Nat → Int32) (k : Int32) (c g : Nat) : Int32 := if k = 3 then (if g = 24 then wellF w c 13 0 else wayN c g) else if k = 4 then -wayN c g else if k = 5 then 1 else wayN c g
theorem c_goes {g : Nat} (hc : D.2.2 3 = nI c) (hc24 : c < 24) (hi : i < 10) (hk : D.2.1 i 3 = nI g) (hg : g < 25) : Dn (d + 3) 8 [.ref b, .ref (b + 3 + i)] (putD h b D) nx = some (some (.int (goF D.1 (D.2.1 i 0) c g)), putD h b D, nx) := by
  simp only [n_8, e_8_0, e_8_1, e_8_4, e_8_32, e_8_33, e_8_36, e_8_38, e_8_41, e_8_42, e_8_45, e_8_48, e_8_49, e_8_50, e_8_53, e_8_56, e_8_57, e_8_58, e_8_59, e_8_62, e_8_65, e_8_66, e_8_67, e_8_68, e_8_69, e_8_70, e_8_71, e_8_74, e_8_77, gDw0 hi, gDw3 hi, hk, kD, if_true, c_wayTo hc hc24 hg, c_wayToWell hc hc24, cn_s, Option.bind_some, goF]
  by_cases h1 : D.2.1 i 0 = 3
  · rw [if_pos h1, if_pos h1]
    by_cases h2 : g = 24
    · subst h2
      rw [if_pos (by rfl), if_pos rfl]
    · have e1 : ¬ nI g = 24 := by
        intro q
        have : nI g = nI 24 := q
        rw [nI_eq (by omega) (by omega)] at this
        exact h2 this
      rw [if_neg e1, if_neg h2]
  rw [if_neg h1, if_neg h1]
  repeat' split
  all_goals rfl
end D3
