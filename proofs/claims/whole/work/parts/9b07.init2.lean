/-! the constructors: laws, reader, sheets, slots -/
def lw0 (a : Nat) : va_E := .inr (2, [.ref a, .int 0, .int 0, .int 0])
def s0 : Nat → Int32 := fun k => if k = 1 then -1 else 0
section IM
variable {d : Nat} {h : AH} {nx : AN} {a b c j k n q m : Nat} {v : Value} {e e1 e2 : va_E} {fs : List Value} {x : Int32}
theorem i_law (ha : 16 + n ≠ a) : Dn (d + 1) 26 [.ref a] (put h a (.inr (2, dfl 2))) (n, q) = some (none, put (put h a (lw0 (16 + n))) (16 + n) (r0 96), (n + 1, q + 96)) := by
  rw [show dfl 2 = [.null, .int 0, .int 0, .int 0] from rfl]
  simp only [n_26, e_26_0, e_26_1, e_26_4, e_26_5, e_26_7, e_26_9, e_26_12, e_26_13, e_26_14, e_26_17, e_26_18, e_26_19, e_26_22, e_26_23, e_26_24, e_26_27, show (96 : Int32).toNatClampNeg = 96 from rfl, show ¬ ((96 : Int32) < 0 ∨ 10000 < 96) by decide, if_false, pF_o ha, pF_s, Option.map_some, List.length_cons, List.length_nil, List.length_set, List.set_cons_succ, List.set_cons_zero, Nat.zero_add, Nat.reduceAdd, Nat.reduceLT, if_true, Option.bind_some]
  rfl
theorem i_sheet (ha : 16 + n ≠ a) : Dn (d + 1) 55 [.ref a] (put h a (.inr (5, dfl 5))) (n, q) = some (none, put (put h a (shO (16 + n) s0)) (16 + n) (r0 24), (n + 1, q + 24)) := by
  rw [show dfl 5 = [.null, .int 0, .int 0] from rfl]
  simp only [n_55, e_55_0, e_55_1, e_55_4, e_55_5, e_55_7, e_55_9, e_55_12, e_55_13, e_55_14, e_55_17, e_55_18, e_55_19, e_55_22, show (24 : Int32).toNatClampNeg = 24 from rfl, show ¬ ((24 : Int32) < 0 ∨ 10000 < 24) by decide, if_false, pF_o ha, pF_s, Option.map_some, List.length_cons, List.length_nil, List.length_set, List.set_cons_succ, List.set_cons_zero, Nat.zero_add, Nat.reduceAdd, Nat.reduceLT, if_true, Option.bind_some]
  rfl
theorem i_slot (hn : 16 + n = a + 1) : Dn (d + 2) 61 [.ref a] (put h a (.inr (6, dfl 6))) (n, q) = some (none, put (put (put (put h a (slO a fun _ => 0)) (a + 1) (wkC w0)) (a + 2) (shO (a + 3) s0)) (a + 3) (r0 24), (n + 3, q + 33)) := by
  rw [show dfl 6 = [.null, .null, .int 0, .int 0] from rfl]
  have hn2 : 16 + (n + 1) = a + 2 := by omega
  have hn3 : 16 + (n + 1 + 1) = a + 3 := by omega
  have i5 := i_sheet (d := d) (h := put (put h a (.inr (6, [.ref (a + 1), .null, .int 0, .int 0]))) (a + 1) (wkC w0)) (a := a + 2) (n := n + 1 + 1) (q := q + 6 + 3) (by omega)
  rw [hn3] at i5
  simp only [n_61, e_61_0, e_61_1, e_61_4, e_61_5, e_61_8i, e_61_8r, e_61_9, e_61_12, e_61_15, e_61_16, e_61_19i, e_61_19r, e_61_20, e_61_23, e_61_26, e_61_27, e_61_28, e_61_31, e_61_32, e_61_33, e_61_36, hn, hn2, i_walker, i5, cn_v, pF_o (show a + 1 ≠ a by omega), pF_o (show a + 2 ≠ a by omega), pF_o (show a + 3 ≠ a by omega), pF_s, Option.map_some, List.length_cons, List.length_nil, List.length_set, List.set_cons_succ, List.set_cons_zero, Nat.zero_add, Nat.reduceAdd, Nat.reduceLT, if_true, Option.bind_some]
  rfl
theorem i_reader (hn : 16 + n = a + 1) : Dn (d + 2) 37 [.ref a] (put h a (.inr (4, dfl 4))) (n, q) = some (none, put (put (put (put h a (.inr (4, [.ref (a + 1), .int 0, .int 0, .ref (a + 3), .int 0, .int 260]))) (a + 1) (lw0 (a + 2))) (a + 2) (r0 96)) (a + 3) (r0 96), (n + 3, q + 196)) := by
  rw [show dfl 4 = [.null, .int 0, .int 0, .null, .int 0, .int 0] from rfl]
  have hn2 : 16 + (n + 1) = a + 2 := by omega
  have hn3 : 16 + (n + 1 + 1) = a + 3 := by omega
  have i2 := i_law (d := d) (h := put h a (.inr (4, [.null, .int 0, .int 0, .null, .int 0, .int 0]))) (a := a + 1) (n := n + 1) (q := q + 4) (by omega)
  rw [hn2] at i2
  simp only [n_37, e_37_0, e_37_1, e_37_4, e_37_5, e_37_8i, e_37_8r, e_37_9, e_37_12, e_37_15, e_37_16, e_37_17, e_37_20, e_37_21, e_37_22, e_37_25, e_37_26, e_37_28, e_37_30, e_37_33, e_37_34, e_37_35, e_37_38, e_37_39, e_37_42, e_37_45, hn, hn3, i2, cn_v, show (96 : Int32).toNatClampNeg = 96 from rfl, show ¬ ((96 : Int32) < 0 ∨ 10000 < 96) by decide, if_false, pF_o (show a + 1 ≠ a by omega), pF_o (show a + 2 ≠ a by omega), pF_o (show a + 3 ≠ a by omega), pF_s, Option.map_some, List.length_cons, List.length_nil, List.length_set, List.set_cons_succ, List.set_cons_zero, Nat.zero_add, Nat.reduceAdd, Nat.reduceLT, if_true, Option.bind_some]
  rfl
theorem gLk0 : gF (pLk h b k) b 3 0 = some (.ref (b + 1)) := by
  unfold gF pLk
  rw [if_pos rfl]; rfl
theorem wR_L (hk : k < 14) : wR (put (put (pLk h b k) (b + 3 + 2 * k) (lw0 (b + 4 + 2 * k))) (b + 4 + 2 * k) (r0 96)) (b + 1) (nI k) (b + 3 + 2 * k) = some (pLk h b (k + 1)) := by
  unfold wR
  have e1 : put (put (pLk h b k) (b + 3 + 2 * k) (lw0 (b + 4 + 2 * k))) (b + 4 + 2 * k) (r0 96) (b + 1) = .inl (4, 14, .inr (.inr (.inr (.inr fun i => if i < k then some (b + 3 + 2 * i) else none)))) := by
    rw [put_ne _ _ (by omega), put_ne _ _ (by omega)]
    unfold pLk
    rw [if_neg (by omega), if_pos rfl]
  have e2 : ck (put (put (pLk h b k) (b + 3 + 2 * k) (lw0 (b + 4 + 2 * k))) (b + 4 + 2 * k) (r0 96)) (b + 3 + 2 * k) (aC 4) = true := by
    unfold ck
    rw [put_ne _ _ (by omega), put_same]; rfl
  rw [e1]
  dsimp only
  rw [if_pos ⟨⟨(show (3 : Nat) ≤ 4 ∧ (4 : Nat) < 7 by decide), ib_nI hk (by omega)⟩, e2⟩, cl_nI (by omega)]
  congr 1
  funext p
  by_cases c1 : p = b + 1
  · subst c1
    rw [put_same]
    unfold pLk
    rw [if_neg (by omega), if_pos rfl]
    congr 7
    funext i
    unfold va_up
    by_cases c2 : i = k
    · rw [if_pos c2, if_pos (by omega), c2]
    · rw [if_neg c2]
      dsimp only
      by_cases c3 : i < k
      · rw [if_pos c3, if_pos (by omega)]
      · rw [if_neg c3, if_neg (by omega)]
  · rw [put_ne _ _ c1]
    by_cases c2 : p = b + 4 + 2 * k
    · subst c2
      rw [put_same]
      unfold pLk
      rw [if_neg (by omega), if_neg (by omega), if_neg (by omega), if_pos (by omega), if_neg (by omega)]
    · rw [put_ne _ _ c2]
      by_cases c3 : p = b + 3 + 2 * k
      · subst c3
        rw [put_same]
        unfold pLk
        rw [if_neg (by omega), if_neg (by omega), if_neg (by omega), if_pos (by omega), if_pos (by omega), show (b + 3 + 2 * k - (b + 3)) / 2 = k by omega]
        rfl
      · rw [put_ne _ _ c3]
        unfold pLk
        by_cases c4 : p = b
        · rw [if_pos c4, if_pos c4]
        rw [if_neg c4, if_neg c4, if_neg c1, if_neg c1]
        by_cases c5 : p = b + 2
        · rw [if_pos c5, if_pos c5]
        rw [if_neg c5, if_neg c5]
        by_cases c6 : b + 3 ≤ p ∧ p < b + 3 + 2 * k
        · rw [if_pos c6, if_pos (show b + 3 ≤ p ∧ p < b + 3 + 2 * (k + 1) by omega)]
        · rw [if_neg c6, if_neg (by omega)]
theorem i_lloop (r : Nat) : ∀ (k n q : Nat), k + r = 14 → 16 + n = b + 3 + 2 * k → Df (d + 1) 32 23 [.ref b, .int (nI k)] [] (pLk h b k) (n, q) = some (none, pLk h b 14, (n + 2 * r, q + 100 * r)) := by
  induction r with
  | zero =>
    intro k n q hk hn
    obtain rfl : k = 14 := by omega
    rw [e_32_23]
    simp only [e_32_24, e_32_26, e_32_48]
    rw [if_pos (by decide)]
    rfl
  | succ r ih =>
    intro k n q hk hn
    have i2 := i_law (d := d) (h := pLk h b k) (a := b + 3 + 2 * k) (n := n + 1) (q := q + 4) (by omega)
    rw [show 16 + (n + 1) = b + 4 + 2 * k by omega] at i2
    rw [e_32_23]
    simp only [e_32_24, e_32_26, e_32_29, e_32_30, e_32_33, e_32_34, e_32_37i, e_32_37r, e_32_38, e_32_41, e_32_42, e_32_45, gLk0, hn, i2, cn_v, wR_L (show k < 14 by omega), nI_1, Option.bind_some]
    rw [if_neg (show ¬ (14 : Int32) ≤ nI k from nI_ge (b := 14) (by omega) (by omega)), ih (k + 1) (n + 1 + 1) (q + 4 + 96) (by omega) (by omega)]
    rw [show n + 1 + 1 + 2 * r = n + 2 * (r + 1) by omega, show q + 4 + 96 + 100 * r = q + 100 * (r + 1) by omega]
theorem pLk_14 : pLk h b 14 = putL h b (fun _ _ => 0, fun _ _ => 0) (fun _ => 0) := by
  funext a
  unfold pLk putL
  rfl
theorem pLk_0 : put (put (put h b (.inr (3, [.ref (b + 1), .ref (b + 2)]))) (b + 1) (.inl (4, 14, .inr (.inr (.inr (.inr fun _ => none)))))) (b + 2) (r0 96) = pLk h b 0 := by
  funext a
  unfold pLk put
  by_cases c1 : a = b
  · rw [if_neg (by omega), if_neg (by omega), if_pos c1, if_pos c1]
  by_cases c2 : a = b + 1
  · rw [if_neg (by omega), if_pos c2, if_neg c1, if_pos c2]
    congr 7
  by_cases c3 : a = b + 2
  · rw [if_pos c3, if_neg c1, if_neg c2, if_pos c3]
  · rw [if_neg c3, if_neg c2, if_neg c1, if_neg c1, if_neg c2, if_neg c3, if_neg (by omega)]
theorem i_laws (hn : 16 + n = b + 1) : Dn (d + 2) 32 [.ref b] (put h b (.inr (3, dfl 3))) (n, q) = some (none, putL h b (fun _ _ => 0, fun _ _ => 0) (fun _ => 0), (n + 30, q + 1510)) := by
  rw [show dfl 3 = [.null, .null] from rfl]
  have hn2 : 16 + (n + 1) = b + 2 := by omega
  have l := i_lloop (d := d) (h := h) (b := b) 14 0 (n + 2) (q + 110) (by omega) (by omega)
  rw [← pLk_0, pLk_14, show nI 0 = 0 from rfl] at l
  simp only [n_32, e_32_0, e_32_1, e_32_4, e_32_5, e_32_7, e_32_10, e_32_13, e_32_14, e_32_16, e_32_18, e_32_21, e_32_22n, e_32_22i, e_32_22r, hn, hn2, show (14 : Int32).toNatClampNeg = 14 from rfl, show (96 : Int32).toNatClampNeg = 96 from rfl, show ¬ ((14 : Int32) < 0 ∨ 10000 < 14) by decide, show ¬ ((96 : Int32) < 0 ∨ 10000 < 96) by decide, if_false, pF_o (show b + 1 ≠ b by omega), pF_o (show b + 2 ≠ b by omega), pF_s, Option.map_some, List.length_cons, List.length_nil, List.length_set, List.set_cons_succ, List.set_cons_zero, Nat.zero_add, Nat.reduceAdd, Nat.reduceLT, if_true, Option.bind_some]
  exact l
end IM
