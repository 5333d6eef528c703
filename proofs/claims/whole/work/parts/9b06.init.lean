/-! the constructors: the small ones -/
def w0 : Nat → Int32 := fun k => if k = 3 then 24 else if k = 5 then 1 else 0
def q0 : Nat → Int32 := fun k => if k = 4 then 3 else if k = 5 then 2 else if k = 7 then 60 else if k = 11 then 1 else 0
def D0 : DT := (fun _ => 0, fun _ => w0, q0)
def r0 (n : Nat) : va_E := .inl (0, n, .inl fun _ => 0)
def pDk (h : AH) (b k : Nat) : AH := fun a => if a = b then dO b q0 else if a = b + 1 then r0 24 else if a = b + 2 then .inl (3, 10, .inr (.inr (.inr (.inr fun i => if i < k then some (b + 3 + i) else none)))) else if b + 3 ≤ a ∧ a < b + 3 + k then wkC w0 else h a
def pLk (h : AH) (b k : Nat) : AH := fun a => if a = b then .inr (3, [.ref (b + 1), .ref (b + 2)]) else if a = b + 1 then .inl (4, 14, .inr (.inr (.inr (.inr fun i => if i < k then some (b + 3 + 2 * i) else none)))) else if a = b + 2 then r0 96 else if b + 3 ≤ a ∧ a < b + 3 + 2 * k then (if (a - (b + 3)) % 2 = 0 then lwC b ((a - (b + 3)) / 2) (fun _ => 0) else r0 96) else h a
section IN
variable {d : Nat} {h : AH} {nx : AN} {a b c j k n q m : Nat} {v : Value} {e e1 e2 : va_E} {fs : List Value} {x : Int32}
theorem pF_s : pF (put h a (.inr (c, fs))) a c j v = if j < fs.length then some (put h a (.inr (c, fs.set j v))) else none := by
  unfold pF
  rw [put_same]
  simp only [true_and, put_put]
theorem pF_o (hab : a ≠ b) : pF (put h a e) b c j v = (pF h b c j v).map (fun h' => put h' a e) := by
  unfold pF
  rw [put_ne _ _ (fun q => hab q.symm)]
  cases h b with
  | inl z => rfl
  | inr z =>
    dsimp only
    split
    · rename_i hc
      simp only [Option.map_some]
      congr 1
      funext q
      unfold put
      by_cases q1 : q = b
      · rw [if_pos q1, if_neg (fun w => hab (w.symm.trans q1)), if_pos q1]
      · rw [if_neg q1]
        by_cases q2 : q = a
        · rw [if_pos q2, if_pos q2]
        · rw [if_neg q2, if_neg q2, if_neg q1]
    · rfl
theorem i_walker : Dn (d + 1) 62 [.ref a] (put h a (.inr (7, dfl 7))) nx = some (none, put h a (wkC w0), nx) := by
  rw [show dfl 7 = [.int 0, .int 0, .int 0, .int 0, .int 0, .int 0] from rfl]
  simp only [n_62, e_62_0, e_62_1, e_62_4, e_62_5, e_62_6, e_62_9, e_62_10, e_62_11, e_62_14, e_62_15, e_62_16, e_62_19, e_62_20, e_62_22, e_62_25, e_62_26, e_62_27, e_62_30, e_62_31, e_62_32, e_62_35, pF_s, List.length_cons, List.length_nil, List.length_set, List.set_cons_succ, List.set_cons_zero, Nat.zero_add, Nat.reduceAdd, Nat.reduceLT, if_true, or_true, Option.bind_some]
  rfl
theorem i_best : Dn (d + 1) 0 [.ref a] (put h a (.inr (0, dfl 0))) nx = some (none, put h a (bO fun _ => -1000000005), nx) := by
  rw [show dfl 0 = [.int 0, .int 0] from rfl]
  simp only [n_0, e_0_0, e_0_1, e_0_4, e_0_5, e_0_7, e_0_10, e_0_11, e_0_13, e_0_16, pF_s, List.length_cons, List.length_nil, List.length_set, List.set_cons_succ, List.set_cons_zero, Nat.zero_add, Nat.reduceAdd, Nat.reduceLT, if_true, Option.bind_some]
  rfl
theorem gDk1 : gF (pDk h b k) b 1 1 = some (.ref (b + 2)) := by
  unfold gF pDk
  rw [if_pos rfl]; rfl
theorem wR_D (hk : k < 10) : wR (put (pDk h b k) (b + 3 + k) (wkC w0)) (b + 2) (nI k) (b + 3 + k) = some (pDk h b (k + 1)) := by
  unfold wR
  have e1 : put (pDk h b k) (b + 3 + k) (wkC w0) (b + 2) = .inl (3, 10, .inr (.inr (.inr (.inr fun i => if i < k then some (b + 3 + i) else none)))) := by
    rw [put_ne _ _ (by omega)]
    unfold pDk
    rw [if_neg (by omega), if_neg (by omega), if_pos rfl]
  have e2 : ck (put (pDk h b k) (b + 3 + k) (wkC w0)) (b + 3 + k) (aC 3) = true := by
    unfold ck
    rw [put_same]; rfl
  rw [e1]
  dsimp only
  rw [if_pos ⟨⟨(show (3 : Nat) ≤ 3 ∧ (3 : Nat) < 7 by decide), ib_nI hk (by omega)⟩, e2⟩, cl_nI (by omega)]
  congr 1
  funext p
  by_cases c1 : p = b + 2
  · subst c1
    rw [put_same]
    unfold pDk
    rw [if_neg (by omega), if_neg (by omega), if_pos rfl]
    congr 7
    funext i
    unfold va_up
    by_cases c2 : i = k
    · rw [if_pos c2, if_pos (by omega), c2]
    · rw [if_neg c2]
      dsimp only
      by_cases c3 : i < k
      · rw [if_pos c3, if_pos (by omega)]
      · rw [if_neg c3, if_neg (by omega)]
  · rw [put_ne _ _ c1]
    by_cases c2 : p = b + 3 + k
    · subst c2
      rw [put_same]
      unfold pDk
      rw [if_neg (by omega), if_neg (by omega), if_neg (by omega), if_pos (by omega)]
    · rw [put_ne _ _ c2]
      unfold pDk
      by_cases c3 : p = b
      · rw [if_pos c3, if_pos c3]
      rw [if_neg c3, if_neg c3]
      by_cases c4 : p = b + 1
      · rw [if_pos c4, if_pos c4]
      rw [if_neg c4, if_neg c4, if_neg c1, if_neg c1]
      by_cases c5 : b + 3 ≤ p ∧ p < b + 3 + k
      · rw [if_pos c5, if_pos (by omega)]
      · rw [if_neg c5, if_neg (by omega)]
theorem i_dloop (r : Nat) : ∀ (k n q : Nat), k + r = 10 → 16 + n = b + 3 + k → Df (d + 1) 4 79 [.ref b, .int (nI k)] [] (pDk h b k) (n, q) = some (none, pDk h b 10, (n + r, q + 6 * r)) := by
  induction r with
  | zero =>
    intro k n q hk hn
    obtain rfl : k = 10 := by omega
    rw [e_4_79]
    simp only [e_4_80, e_4_82, e_4_104]
    rw [if_pos (by decide)]
    rfl
  | succ r ih =>
    intro k n q hk hn
    rw [e_4_79]
    simp only [e_4_80, e_4_82, e_4_85, e_4_86, e_4_89, e_4_90, e_4_93i, e_4_93r, e_4_94, e_4_97, e_4_98, e_4_101, gDk1, hn, i_walker, cn_v, wR_D (show k < 10 by omega), nI_1, Option.bind_some]
    rw [if_neg (show ¬ (10 : Int32) ≤ nI k from nI_ge (b := 10) (by omega) (by omega)), ih (k + 1) (n + 1) (q + 6) (by omega) (by omega)]
    rw [show n + 1 + r = n + (r + 1) by omega, show q + 6 + 6 * r = q + 6 * (r + 1) by omega]
theorem pDk_10 : pDk h b 10 = putD h b D0 := by
  funext a
  unfold pDk putD
  rfl
theorem pDk_0 : put (put (put h b (dO b q0)) (b + 1) (r0 24)) (b + 2) (.inl (3, 10, .inr (.inr (.inr (.inr fun _ => none))))) = pDk h b 0 := by
  funext a
  unfold pDk put
  by_cases c1 : a = b
  · rw [if_neg (by omega), if_neg (by omega), if_pos c1, if_pos c1]
  by_cases c2 : a = b + 1
  · rw [if_neg (by omega), if_pos c2, if_neg c1, if_pos c2]
  by_cases c3 : a = b + 2
  · rw [if_pos c3, if_neg c1, if_neg c2, if_pos c3]
    congr 7
  · rw [if_neg c3, if_neg c2, if_neg c1, if_neg c1, if_neg c2, if_neg c3, if_neg (by omega)]
theorem i_desert (hn : 16 + n = b + 1) : Dn (d + 2) 4 [.ref b] (put h b (.inr (1, dfl 1))) (n, q) = some (none, putD h b D0, (n + 12, q + 94)) := by
  rw [show dfl 1 = [.null, .null, .int 0, .int 0, .int 0, .int 0, .int 0, .int 0, .int 0, .int 0, .int 0, .int 0, .int 0] from rfl]
  have hn2 : 16 + (n + 1) = b + 2 := by omega
  have l := i_dloop (d := d) (h := h) (b := b) 10 0 (n + 2) (q + 34) (by omega) (by omega)
  rw [← pDk_0, pDk_10, show nI 0 = 0 from rfl] at l
  simp only [n_4, e_4_0, e_4_1, e_4_4, e_4_5, e_4_7, e_4_9, e_4_12, e_4_13, e_4_15, e_4_18, e_4_21, e_4_22, e_4_23, e_4_26, e_4_27, e_4_28, e_4_31, e_4_32, e_4_33, e_4_36, e_4_37, e_4_38, e_4_41, e_4_42, e_4_43, e_4_46, e_4_47, e_4_49, e_4_52, e_4_53, e_4_54, e_4_57, e_4_58, e_4_59, e_4_62, e_4_63, e_4_64, e_4_67, e_4_68, e_4_69, e_4_72, e_4_73, e_4_74, e_4_77, e_4_78n, e_4_78i, e_4_78r, hn, hn2, show (24 : Int32).toNatClampNeg = 24 from rfl, show (10 : Int32).toNatClampNeg = 10 from rfl, show ¬ ((24 : Int32) < 0 ∨ 10000 < 24) by decide, show ¬ ((10 : Int32) < 0 ∨ 10000 < 10) by decide, if_false, pF_o (show b + 1 ≠ b by omega), pF_o (show b + 2 ≠ b by omega), pF_s, Option.map_some, List.length_cons, List.length_nil, List.length_set, List.set_cons_succ, List.set_cons_zero, Nat.zero_add, Nat.reduceAdd, Nat.reduceLT, if_true, Option.bind_some]
  exact l
end IN
