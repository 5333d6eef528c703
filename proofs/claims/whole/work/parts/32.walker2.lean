/-! counters -/
theorem cl_def (c : Int32) : c.toNatClampNeg = c.toInt.toNat := rfl
theorem le_nI (c : Int32) {k : Nat} (hk : k < 2147483648) : (c ≤ nI k) ↔ c.toNatClampNeg ≤ k := by
  rw [Int32.le_iff_toInt_le, nI_toInt (by omega), cl_def]
  omega
theorem nI_lt_of (c : Int32) {k : Nat} (hk : k < 2147483648) : (nI k < c) ↔ k < c.toNatClampNeg := by
  rw [Int32.lt_iff_toInt_lt, nI_toInt (by omega), cl_def]
  omega
theorem cl_lt (c : Int32) : c.toNatClampNeg < 2147483648 := by
  rw [cl_def]
  have := Int32.toInt_lt c
  omega
section W2
variable {d : Nat} {h : AH} {nx : AN} {a b : Nat} {w v : Nat → Int32} {x y z : Int32} {l1 l2 l3 l4 : Value}
/-- drinking from so many cups: at most n -/
def drL : Nat → (Nat → Int32) → Int32 → (Nat → Int32) × Int32
  | 0, w, l => (w, l)
  | n + 1, w, l => if l ≤ 0 then (w, l) else if w 1 ≤ 0 then (w, l) else drL n (cup w) (l + -1)
def fil (w : Nat → Int32) (l : Int32) : Int32 := if 0 < (if 30 - w 2 < l then 30 - w 2 else l) then (if 30 - w 2 < l then 30 - w 2 else l) else 0
/-- what a walker is, and what is left, behind drinkFrom -/
def drk (w : Nat → Int32) (l : Int32) : (Nat → Int32) × Int32 := (upd w 2 (w 2 + fil w l), l - fil w l)
theorem drinkFrom_tail : Df (d + 3) 67 34 [.ref a, l1, .int x, .int y] [] (put h a (wkC w)) nx = some (some (.int (drk w x).2), put h a (wkC (drk w x).1), nx) := by
  simp only [e_67_34, e_67_35, e_67_36, e_67_38, e_67_39, e_67_42, e_67_43, e_67_46, e_67_49n, e_67_49i, e_67_49r, e_67_50, e_67_51i, e_67_51r, e_67_52, e_67_55, e_67_56, e_67_57, e_67_60, e_67_61, e_67_62, e_67_63, gw2, c_min, c_max, cn_s, pw2, Option.bind_some, drk, fil]
theorem drinkFrom_loop (n : Nat) : ∀ (k : Nat) (w : Nat → Int32) (l : Int32), k + n = 99 → Df (d + 3) 67 4 [.ref a, l1, .int l, .int (nI k)] [] (put h a (wkC w)) nx = some (some (.int (drk (drL n w l).1 (drL n w l).2).2), put h a (wkC (drk (drL n w l).1 (drL n w l).2).1), nx) := by
  induction n with
  | zero =>
    intro k w l hk
    obtain rfl : k = 99 := by omega
    simp only [e_67_4, e_67_5, e_67_7]
    rw [if_pos (by decide)]
    exact drinkFrom_tail
  | succ n ih =>
    intro k w l hk
    rw [e_67_4]
    simp only [e_67_5, e_67_7, e_67_10, e_67_11, e_67_14, e_67_15, e_67_18, e_67_21, e_67_22, e_67_25, e_67_28, e_67_31, gw1, kw, c_drinkCup, cn_v, Option.bind_some, if_true]
    rw [if_neg (by rw [le_nI _ (by omega)]; show ¬ 99 ≤ k; omega)]
    simp only [drL]
    by_cases h1 : l ≤ 0
    · rw [if_pos h1, if_pos h1]
      exact drinkFrom_tail
    rw [if_neg h1, if_neg h1]
    by_cases h2 : w 1 ≤ 0
    · rw [if_pos h2, if_pos h2]
      exact drinkFrom_tail
    rw [if_neg h2, if_neg h2, nI_1]
    exact ih (k + 1) (cup w) (l + -1) (by omega)
def drF (w : Nat → Int32) (l : Int32) : (Nat → Int32) × Int32 := drk (drL 99 w l).1 (drL 99 w l).2
theorem c_drinkFrom : Dn (d + 4) 67 [.ref a, .int x] (put h a (wkC w)) nx = some (some (.int (drF w x).2), put h a (wkC (drF w x).1), nx) := by
  simp only [n_67, e_67_0, e_67_1n, e_67_1i, e_67_1r, e_67_2, e_67_3n, e_67_3i, e_67_3r]
  exact drinkFrom_loop 99 0 w x rfl
def cupN : Nat → (Nat → Int32) → (Nat → Int32)
  | 0, w => w
  | n + 1, w => cupN n (cup w)
/-- more thirst, then a sip -/
def thB (w : Nat → Int32) (x y : Int32) : Nat → Int32 :=
  let w1 := upd w 1 (if w 1 + x < 99 then w 1 + x else 99)
  if w1 1 < 20 then w1 else
    let c := if w1 2 < y then w1 2 else y
    let w2 := cupN c.toNatClampNeg w1
    upd w2 2 (w2 2 - c)
theorem thirstBy_loop (n : Nat) : ∀ (k : Nat) (w : Nat → Int32), z.toNatClampNeg = k + n → Df (d + 3) 69 36 [.ref a, l1, l2, .int z, .int (nI k)] [] (put h a (wkC w)) nx = some (none, put h a (wkC (upd (cupN n w) 2 ((cupN n w) 2 - z))), nx) := by
  have hz := cl_lt z
  induction n with
  | zero =>
    intro k w hk
    simp only [e_69_36, e_69_38, e_69_39, e_69_42, e_69_43, e_69_46, e_69_49, e_69_52, e_69_53i, e_69_53r, e_69_54, e_69_57, e_69_58, e_69_59, e_69_62, gw2, pw2, Option.bind_some]
    rw [if_pos (by rw [le_nI _ (by omega)]; omega)]
    rfl
  | succ n ih =>
    intro k w hk
    rw [e_69_36]
    simp only [e_69_38, e_69_39, e_69_42, e_69_43, e_69_46, e_69_49, kw, c_drinkCup, cn_v, if_true]
    rw [if_neg (by rw [le_nI _ (by omega)]; omega), nI_1]
    exact ih (k + 1) (cup w) (by omega)
theorem c_thirstBy : Dn (d + 4) 69 [.ref a, .int x, .int y] (put h a (wkC w)) nx = some (none, put h a (wkC (thB w x y)), nx) := by
  simp only [n_69, e_69_0, e_69_1, e_69_3, e_69_4, e_69_7, e_69_8, e_69_9, e_69_12, e_69_15, e_69_16, e_69_19, e_69_21, e_69_24, e_69_25, e_69_26, e_69_29, e_69_32n, e_69_32i, e_69_32r, e_69_33, e_69_34n, e_69_34i, e_69_34r, e_69_38, e_69_39, e_69_42, e_69_43, e_69_46, e_69_49, e_69_52, e_69_53i, e_69_53r, e_69_54, e_69_57, e_69_58, e_69_59, e_69_62, gw1, gw2, c_min, cn_s, pw1, Option.bind_some, thB]
  by_cases h1 : upd w 1 (if w 1 + x < 99 then w 1 + x else 99) 1 < 20
  · rw [if_pos h1, if_pos h1]
  · rw [if_neg h1, if_neg h1]
    exact thirstBy_loop _ 0 _ (Nat.zero_add _).symm
theorem wkC_all : wkC (upd (upd (upd (upd (upd (upd w 0 (v 0)) 1 (v 1)) 2 (v 2)) 3 (v 3)) 4 (v 4)) 5 (v 5)) = wkC v := by simp [wkC, upd]
theorem c_wbecomes (hab : a ≠ b) (hv : v 5 = 0 ∨ v 5 = 1) : Dn (d + 1) 70 [.ref a, .ref b] (put (put h b (wkC v)) a (wkC w)) nx = some (none, put (put h b (wkC v)) a (wkC v), nx) := by
  have hba : b ≠ a := fun q => hab q.symm
  simp only [n_70, e_70_0, e_70_1, e_70_2, e_70_5, e_70_8, e_70_9, e_70_10, e_70_13, e_70_16, e_70_17, e_70_18, e_70_21, e_70_24, e_70_25, e_70_26, e_70_29, e_70_32, e_70_33, e_70_34, e_70_37, e_70_40, e_70_41, e_70_42, e_70_45, e_70_48, gF_ne hba, gw0, gw1, gw2, gw3, gw4, gw5, pw0, pw1, pw2, pw3, pw4, pw5, Option.bind_some, hv, if_true, wkC_all]
end W2
