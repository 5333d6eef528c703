/-! the reader: keys, names, numbers -/
/-- whether letters stand from a place on -/
def stM (B : Nat → Int32) : List Nat → Nat → Bool
  | [], _ => true
  | c :: w, k => decide (B k = nI c) && stM B w (k + 1)
def rky (B : Nat → Int32) (p a : Nat) : Option Nat := if a = p + 6 ∧ stM B (strT 4) p = true then some 0 else if a = p + 3 ∧ stM B (strT 5) p = true then some 1 else if a = p + 4 ∧ stM B (strT 6) p = true then some 2 else none
def nmS (ky : Int32) : Nat := if ky = 0 then 7 else if ky = 1 then 8 else 9
def nmF (B : Nat → Int32) (p : Nat) : List Nat → Nat → Option Nat
  | [], _ => none
  | c :: w, i => if B p = nI c then some i else nmF B p w (i + 1)
def numF (B : Nat → Int32) : Nat → Nat → Int32 → Int32
  | 0, _, x => x
  | f + 1, k, x => numF B f (k + 1) (x * 10 + B k - 48)
section RE
variable {d : Nat} {h : AH} {nx : AN} {n p a N o k j s : Nat} {S : CS} {q ky x y z u : Int32} {st B : Nat → Int32} {l1 l2 l3 l4 l5 : Value}
theorem c_len (hs : isS s = true) : Dn (d + 9) 215 [.ref s] h nx = some (some (.int (nI (strT s).length)), h, nx) := by
  simp only [Dn, kLen, true_or, if_true, show 8 ≤ d + 8 by omega, am_str, hs, and_self]
  rfl
theorem c_chr (hs : isS s = true) (hk : k < (strT s).length) (hk2 : (strT s).length < 100) : Dn (d + 9) 217 [.ref s, .int (nI k)] h nx = some (some (.int (nI ((strT s).getD k 0))), h, nx) := by
  have e : ib (nI k) (strT s).length = true := ib_nI hk (by omega)
  simp only [Dn, kChr, or_true, if_true, show 8 ≤ d + 8 by omega, am_str, hs, e, and_self, cl_nI (show k < 2147483648 by omega)]
  rfl
theorem inb_eq {c : Int32} (hk : k < n) : inb B n k c c = (B k = c) := propext ⟨fun h => Int32.le_antisymm h.2.2 h.2.1, fun h => ⟨hk, by rw [h]; exact Int32.le_refl _, by rw [h]; exact Int32.le_refl _⟩⟩
theorem stands_loop (hs : isS s = true) (hs6 : (strT s).length < 100) (hn : n ≤ 96) (ha : p + (strT s).length ≤ n) (w : List Nat) : ∀ (i : Nat), (strT s).drop i = w → i ≤ (strT s).length → Df (d + 9) 46 20 [.ref 88, .ref s, .int (nI i)] [] (RP h S n B p a q N ky o st) nx = some (some (.int (pi (stM B w (p + i) = true))), RP h S n B p a q N ky o st, nx) := by
  induction w with
  | nil =>
    intro i hw hi
    have hl : (strT s).length ≤ i := List.drop_eq_nil_iff.mp hw
    rw [e_46_20]
    simp only [e_46_21, e_46_22, e_46_25, e_46_59, e_46_60, hs, if_true, c_len hs, cn_s, nR_b1]
    rw [if_pos (nI_le hl (by omega))]
    simp [stM, pi]
  | cons c w ih =>
    intro i hw hi
    have hl : i < (strT s).length := by
      have e := congrArg List.length hw
      simp at e
      omega
    have hg : (strT s).getD i 0 = c := by
      have e : (strT s)[i]? = some c := by
        have := congrArg (fun l => l[0]?) hw
        simpa using this
      simp [e]
    have hw2 : (strT s).drop (i + 1) = w := by
      have := congrArg (List.drop 1) hw
      simpa [List.drop_drop] using this
    have e1 : inb B n (p + i) (nI c) (nI c) = (B (p + i) = nI c) := inb_eq (by omega)
    rw [e_46_20]
    simp only [e_46_21, e_46_22, e_46_25, e_46_28, e_46_29, e_46_30, e_46_33, e_46_34, e_46_35, e_46_36, e_46_37, e_46_40, e_46_41, e_46_42, e_46_45, e_46_48, e_46_51, e_46_52, e_46_53, e_46_56, hs, kR, if_true, c_len hs, c_chr hs hl hs6, hg, gR2, cn_s, nR_b0, nI_p, c_isIn hn (show p + i < 1000 by omega), pi_if, Option.bind_some, nI_1]
    rw [if_neg (nI_ge hl (by omega))]
    have ih := ih (i + 1) hw2 hl
    unfold stM
    by_cases h1 : B (p + i) = nI c
    · rw [if_pos (by rw [e1]; exact h1), ih]
      simp [h1, Nat.add_assoc]
    · rw [if_neg (by rw [e1]; exact h1)]
      simp [h1, pi]
theorem c_stands (hs : isS s = true) (hs6 : (strT s).length < 100) (hn : n ≤ 96) (hpa : p ≤ a) (ha : a ≤ n) : Dn (d + 10) 46 [.ref 88, .ref s] (RP h S n B p a q N ky o st) nx = some (some (.int (pi (a = p + (strT s).length ∧ stM B (strT s) p = true))), RP h S n B p a q N ky o st, nx) := by
  by_cases h1 : a = p + (strT s).length
  · simp only [n_46, e_46_0, e_46_1, e_46_4, e_46_5, e_46_8, e_46_9, e_46_10, e_46_13, e_46_16, e_46_17, e_46_18, e_46_19n, e_46_19i, e_46_19r, gR2, gR4, hs, if_true, c_len hs, cn_s, nI_sub hpa, Option.bind_some]
    rw [if_pos (by rw [h1, show p + (strT s).length - p = (strT s).length by omega])]
    have e := stands_loop (d := d) (h := h) (nx := nx) (S := S) (p := p) (a := a) (B := B) (q := q) (N := N) (ky := ky) (o := o) (st := st) hs hs6 hn (by omega) (strT s) 0 (by simp) (by omega)
    rw [show nI 0 = 0 from rfl] at e
    rw [e]
    simp [h1]
  · simp only [n_46, e_46_0, e_46_1, e_46_4, e_46_5, e_46_8, e_46_9, e_46_10, e_46_13, e_46_16, e_46_17, gR2, gR4, hs, if_true, c_len hs, cn_s, nI_sub hpa, nR_b0, Option.bind_some]
    rw [if_neg (fun e => h1 (by have := (nI_eq (by omega) (by omega)).mp e; omega))]
    simp [h1, pi]
theorem c_wordOf (hk : j < 3) : Dn (d + 1) 45 [.int (nI j)] h nx = some (some (.ref (4 + j)), h, nx) := by
  match j, hk with
  | 0, _ => simp only [n_45, e_45_0, e_45_1, e_45_28, e_45_30, e_45_31, e_45_33, e_45_34, e_45_36]; rfl
  | 1, _ => simp only [n_45, e_45_0, e_45_1, e_45_28, e_45_30, e_45_31, e_45_33, e_45_34, e_45_36]; rfl
  | 2, _ => simp only [n_45, e_45_0, e_45_1, e_45_28, e_45_30, e_45_31, e_45_33, e_45_34, e_45_36]; rfl
theorem c_namesOf : Dn (d + 1) 51 [.int ky] h nx = some (some (.ref (nmS ky)), h, nx) := by
  simp only [n_51, e_51_0, e_51_1, e_51_28, e_51_30, e_51_31, e_51_33, e_51_34, e_51_36, nmS]
  by_cases h1 : ky = 0
  · simp [h1]
  · by_cases h2 : ky = 1
    · simp [h1, h2]
    · simp [h1, h2]
theorem c_readKey (hn : n ≤ 96) (hpa : p ≤ a) (ha : a ≤ n) : Dn (d + 11) 44 [.ref 88] (RP h S n B p a q N ky o st) nx = if q = 256 then (match rky B p a with | some k => some (some (.int 1), RP h S n B p a q N (nI k) o st, nx) | none => some (some (.int 0), RP h S n B p a q N ky o st, nx)) else some (some (.int 0), RP h S n B p a q N ky o st, nx) := by
  by_cases h0 : q = 256
  · rw [if_pos h0]
    have one : ∀ j, j < 3 → Df (d + 10) 44 14 [.ref 88, .int (nI j)] [] (RP h S n B p a q N ky o st) nx = if a = p + (strT (4 + j)).length ∧ stM B (strT (4 + j)) p = true then some (some (.int 1), RP h S n B p a q N (nI j) o st, nx) else Df (d + 10) 44 14 [.ref 88, .int (nI (j + 1))] [] (RP h S n B p a q N ky o st) nx := by
      intro j hj
      have hs : isS (4 + j) = true := by unfold isS; simp; omega
      have hs6 : (strT (4 + j)).length < 100 := by
        match j, hj with
        | 0, _ => decide
        | 1, _ => decide
        | 2, _ => decide
      rw [e_44_14]
      simp only [e_44_15, e_44_16, e_44_19, e_44_20, e_44_21, e_44_24, e_44_27, e_44_30, e_44_31, e_44_34, e_44_35, e_44_38, e_44_39, e_44_40, e_44_43, gR0, kR, if_true, c_wordOf hj, c_stands hs hs6 hn hpa ha, cn_s, pi_if, qRl2, nR_b1, Option.bind_some, nI_1]
      rw [if_neg (show ¬ (3 : Int32) ≤ nI j from nI_ge (b := 3) hj (by omega))]
    have e3 : Df (d + 10) 44 14 [.ref 88, .int (nI 3)] [] (RP h S n B p a q N ky o st) nx = some (some (.int 0), RP h S n B p a q N ky o st, nx) := by
      rw [e_44_14]
      simp only [e_44_15, e_44_16, e_44_19, e_44_20, e_44_21, e_44_24, e_44_27, e_44_30, e_44_31, e_44_34, e_44_35, e_44_38, e_44_39, e_44_40, e_44_43, e_44_46, e_44_47, nR_b0, if_true]
      rw [if_pos (by decide)]
    simp only [n_44, e_44_0, e_44_1, e_44_4, e_44_7, e_44_10, e_44_11, e_44_12, e_44_13n, e_44_13i, e_44_13r, gR5, Option.bind_some]
    rw [if_pos h0, show (0 : Int32) = nI 0 from rfl, one 0 (by omega), one 1 (by omega), one 2 (by omega), e3]
    unfold rky
    show (if a = p + 6 ∧ stM B (strT 4) p = true then _ else if a = p + 3 ∧ stM B (strT 5) p = true then _ else if a = p + 4 ∧ stM B (strT 6) p = true then _ else _) = _
    by_cases c1 : a = p + 6 ∧ stM B (strT 4) p = true
    · rw [if_pos c1, if_pos c1]
    rw [if_neg c1, if_neg c1]
    by_cases c2 : a = p + 3 ∧ stM B (strT 5) p = true
    · rw [if_pos c2, if_pos c2]
    rw [if_neg c2, if_neg c2]
    by_cases c3 : a = p + 4 ∧ stM B (strT 6) p = true
    · rw [if_pos c3, if_pos c3]
    · rw [if_neg c3, if_neg c3]; rfl
  · rw [if_neg h0]
    simp only [n_44, e_44_0, e_44_1, e_44_4, e_44_7, e_44_10, e_44_11, gR5, Option.bind_some, nR_b0, if_true]
    rw [if_neg h0]
theorem c_addStep (hN : N < 96) : Dn (d + 1) 29 [.ref 89, .int x] (RP h S n B p a q N ky o st) nx = some (none, RP h S n B p a q (N + 1) ky o (upd st N x), nx) := by
  simp only [n_29, e_29_0, e_29_1, e_29_4, e_29_6, e_29_9, e_29_10, e_29_13, e_29_14, e_29_17, e_29_18, e_29_19, e_29_20i, e_29_20r, e_29_21, e_29_24, e_29_25, e_29_26, e_29_29, gRl0, gRl1, wRs hN, qRl1, nI_1, Option.bind_some]
  rw [if_neg (show ¬ (96 : Int32) ≤ nI N from nI_ge (b := 96) hN (by omega))]
theorem c_addOperand (hN : N < 96) : Dn (d + 2) 28 [.ref 89, .int x] (RP h S n B p a q N ky o st) nx = some (none, RP h S n B p a q (N + 1) ky (o + 1) (upd st N x), nx) := by
  simp only [n_28, e_28_0, e_28_1, e_28_2, e_28_5, e_28_6i, e_28_6r, e_28_7, e_28_10, e_28_11, e_28_12, e_28_15, kRl, if_true, c_addStep hN, cn_v, gRl3, qRl3, nI_1, Option.bind_some]
theorem c_addSign (hN : N < 96) : Dn (d + 2) 30 [.ref 89, .int x] (RP h S n B p a q N ky o st) nx = some (none, RP h S n B p a q (N + 1) ky o (upd st N (-x)), nx) := by
  simp only [n_30, e_30_0, e_30_1, e_30_2, e_30_3, e_30_6, kRl, if_true, c_addStep hN, cn_v]
theorem num_loop (hn : n ≤ 96) (ha : a ≤ n) (f : Nat) : ∀ (k : Nat) (x : Int32), k + f = a → N < 96 → Df (d + 3) 49 22 [.ref 88, .int x, .int (nI k)] [] (RP h S n B p a q N ky o st) nx = some (some (.int 1), RP h S n B (stP B n a) (stA B n a) (stQ B n a q) (N + 1) ky (o + 1) (upd st N (numF B f k x)), nx) := by
  induction f with
  | zero =>
    intro k x hk hN
    obtain rfl : k = a := by omega
    rw [e_49_22]
    simp only [e_49_23, e_49_24, e_49_27, e_49_57, e_49_58, e_49_61, e_49_62, e_49_65, e_49_66, e_49_69, e_49_70, gR0, gR4, kR, kRl, if_true, c_addOperand hN, c_step hn ha, cn_v, nR_b1, Option.bind_some]
    rw [if_pos (nI_le (Nat.le_refl _) (by omega))]
    rfl
  | succ f ih =>
    intro k x hk hN
    rw [e_49_22]
    simp only [e_49_23, e_49_24, e_49_27, e_49_30, e_49_31, e_49_33, e_49_36, e_49_37, e_49_39, e_49_40, e_49_41, e_49_44, e_49_45, e_49_46, e_49_47, e_49_49, e_49_50n, e_49_50i, e_49_50r, e_49_51, e_49_54, gR3, gR4, rRb (show k < 96 by omega), Option.bind_some, nI_1]
    rw [if_neg (nI_ge (by omega) (by omega)), if_neg (show ¬ (96 : Int32) ≤ nI k from nI_ge (b := 96) (by omega) (by omega))]
    exact ih (k + 1) _ (by omega) hN
theorem c_readNumber (hn : n ≤ 96) (hpa : p ≤ a) (ha : a ≤ n) (hN : N < 96) : Dn (d + 4) 49 [.ref 88] (RP h S n B p a q N ky o st) nx = if a - p ≤ 4 then some (some (.int 1), RP h S n B (stP B n a) (stA B n a) (stQ B n a q) (N + 1) ky (o + 1) (upd st N (numF B (a - p) p 0)), nx) else some (some (.int 0), RP h S n B p a q N ky o st, nx) := by
  by_cases h1 : a - p ≤ 4
  · rw [if_pos h1]
    simp only [n_49, e_49_0, e_49_1, e_49_4, e_49_5, e_49_8, e_49_9, e_49_10, e_49_13, e_49_14, e_49_15, e_49_16n, e_49_16i, e_49_16r, e_49_17, e_49_18, e_49_21n, e_49_21i, e_49_21r, gR2, gR4, nI_sub hpa, Option.bind_some]
    rw [if_pos (show nI (a - p) ≤ 4 from nI_le (b := 4) h1 (by omega))]
    exact num_loop hn ha (a - p) p 0 (by omega) hN
  · rw [if_neg h1]
    simp only [n_49, e_49_0, e_49_1, e_49_4, e_49_5, e_49_8, e_49_9, e_49_10, e_49_13, e_49_14, gR2, gR4, nI_sub hpa, nR_b0, if_true, Option.bind_some]
    rw [if_neg (show ¬ nI (a - p) ≤ 4 from nI_ge (a := 4) (by omega) (by omega))]
theorem name_loop (hs : isS s = true) (hs6 : (strT s).length < 100) (hn : n ≤ 96) (hp : p < n) (hpa : p ≤ a) (ha : a ≤ n) (hN : N < 96) (w : List Nat) : ∀ (i : Nat), (strT s).drop i = w → i ≤ (strT s).length → Df (d + 9) 50 13 [.ref 88, .ref s, .int (nI i)] [] (RP h S n B p a q N ky o st) nx = match (if a = p + 1 then nmF B p w i else none) with | some k => some (some (.int 1), RP h S n B (stP B n a) (stA B n a) (stQ B n a q) (N + 1) ky (o + 1) (upd st N (10000 + nI k)), nx) | none => some (some (.int 0), RP h S n B p a q N ky o st, nx) := by
  induction w with
  | nil =>
    intro i hw hi
    have hl : (strT s).length ≤ i := List.drop_eq_nil_iff.mp hw
    rw [e_50_13]
    simp only [e_50_14, e_50_15, e_50_18, e_50_79, e_50_80, hs, if_true, c_len hs, cn_s, nR_b0]
    rw [if_pos (nI_le hl (by omega))]
    by_cases h1 : a = p + 1
    · rw [if_pos h1]; rfl
    · rw [if_neg h1]
  | cons c w ih =>
    intro i hw hi
    have hl : i < (strT s).length := by
      have e := congrArg List.length hw
      simp at e
      omega
    have hg : (strT s).getD i 0 = c := by
      have e : (strT s)[i]? = some c := by
        have := congrArg (fun l => l[0]?) hw
        simpa using this
      simp [e]
    have hw2 : (strT s).drop (i + 1) = w := by
      have := congrArg (List.drop 1) hw
      simpa [List.drop_drop] using this
    have ih := ih (i + 1) hw2 hl
    have e1 : inb B n p (nI c) (nI c) = (B p = nI c) := inb_eq hp
    rw [e_50_13]
    simp only [e_50_14, e_50_15, e_50_18, e_50_21, e_50_22, e_50_25, e_50_26, e_50_29, e_50_30, e_50_31, e_50_34, e_50_35, e_50_36, e_50_39, e_50_40, e_50_41, e_50_44, e_50_45, e_50_46, e_50_49, e_50_52, e_50_55, e_50_56, e_50_59, e_50_62, e_50_63, e_50_64, e_50_67, e_50_68, e_50_71, e_50_72, e_50_73, e_50_76, hs, kR, kRl, if_true, c_len hs, c_chr hs hl hs6, hg, gR0, gR2, gR4, cn_s, cn_v, nR_b1, nI_sub hpa, c_isIn hn (show p < 1000 by omega), c_addOperand hN, c_step hn ha, pi_if, Option.bind_some, nI_1]
    rw [if_neg (nI_ge hl (by omega))]
    by_cases h1 : a = p + 1
    · rw [if_pos (show nI (a - p) = 1 by rw [h1, show p + 1 - p = 1 by omega]; rfl)]
      rw [if_pos h1] at ih ⊢
      unfold nmF
      by_cases h2 : B p = nI c
      · rw [if_pos (by rw [e1]; exact h2), if_pos h2]
      · rw [if_neg (by rw [e1]; exact h2), if_neg h2]
        exact ih
    · rw [if_neg (show ¬ nI (a - p) = 1 from fun e => h1 (by have := (nI_eq (a := a - p) (b := 1) (by omega) (by omega)).mp e; omega))]
      rw [if_neg h1] at ih ⊢
      exact ih
theorem c_readName (hn : n ≤ 96) (hp : p < n) (hpa : p ≤ a) (ha : a ≤ n) (hN : N < 96) : Dn (d + 10) 50 [.ref 88] (RP h S n B p a q N ky o st) nx = match (if a = p + 1 then nmF B p (strT (nmS ky)) 0 else none) with | some k => some (some (.int 1), RP h S n B (stP B n a) (stA B n a) (stQ B n a q) (N + 1) ky (o + 1) (upd st N (10000 + nI k)), nx) | none => some (some (.int 0), RP h S n B p a q N ky o st, nx) := by
  have hs : isS (nmS ky) = true := by unfold nmS isS; split <;> (try split) <;> decide
  have hs6 : (strT (nmS ky)).length < 100 := by unfold nmS; split <;> (try split) <;> decide
  simp only [n_50, e_50_0, e_50_1, e_50_4, e_50_7, e_50_10n, e_50_10i, e_50_10r, e_50_11, e_50_12n, e_50_12i, e_50_12r, gR0, gRl2, c_namesOf, cn_s, Option.bind_some]
  exact name_loop hs hs6 hn hp hpa ha hN (strT (nmS ky)) 0 (by simp) (by omega)
end RE
