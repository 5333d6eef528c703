/-! a walker of the class: fields kind, thirst, skin, knows, led, lives -/
def wkC (w : Nat → Int32) : va_E := .inr (7, [.int (w 0), .int (w 1), .int (w 2), .int (w 3), .int (w 4), .int (w 5)])
theorem put_put (h : AH) (a : Nat) (c c' : va_E) : put (put h a c) a c' = put h a c' := by
  funext q
  unfold put
  by_cases e : q = a <;> simp [e]
theorem put_id {h : AH} {a : Nat} {c : va_E} (e : h a = c) : put h a c = h := by
  funext q
  unfold put
  by_cases x : q = a
  · subst x; simp [e]
  · simp [x]
theorem gF_ne {h : AH} {a b ci f : Nat} {c : va_E} (n : b ≠ a) : gF (put h a c) b ci f = gF h b ci f := by unfold gF; rw [put_ne h c n]
theorem ck_ne {h : AH} {a b ci : Nat} {c : va_E} (n : b ≠ a) : ck (put h a c) b ci = ck h b ci := by unfold ck; rw [put_ne h c n]
theorem rI_ne {h : AH} {a b t : Nat} {i : Int32} {c : va_E} (n : b ≠ a) : rI (put h a c) b i t = rI h b i t := by unfold rI; rw [put_ne h c n]
theorem rX_ne {h : AH} {a b : Nat} {i : Int32} {c : va_E} (n : b ≠ a) : rX (put h a c) b i = rX h b i := by unfold rX; rw [rI_ne n, rI_ne n]
theorem rR_ne {h : AH} {a b : Nat} {i : Int32} {c : va_E} (n : b ≠ a) : rR (put h a c) b i = rR h b i := by unfold rR; rw [put_ne h c n]
/-- SLAKES by kind -/
def slk (k : Int32) : Int32 := if k = 1 then 4 else if k = 2 then 6 else if k = 3 then 4 else if k = 4 then 7 else if k = 5 then 9 else 5
/-- WORTH by kind and skin -/
def wth (k s : Int32) : Int32 := if k = 1 then s + 8 else if k = 2 then 99 - s else if k = 3 then 2 * (s + 8) else if k = 4 then 99 - s - 3 else if k = 5 then 4 else s
/-- is one kind another, or under it -/
abbrev isu (k o : Int32) : Prop := o = k ∨ o = 0 ∨ (k = 3 ∧ o = 1) ∨ (k = 4 ∧ o = 2)
section W1
variable {d : Nat} {h : AH} {nx : AN} {a b : Nat} {w v : Nat → Int32} {x y z : Int32}
theorem gw0 : gF (put h a (wkC w)) a 7 0 = some (.int (w 0)) := by simp [gF, put, wkC]
theorem gw1 : gF (put h a (wkC w)) a 7 1 = some (.int (w 1)) := by simp [gF, put, wkC]
theorem gw2 : gF (put h a (wkC w)) a 7 2 = some (.int (w 2)) := by simp [gF, put, wkC]
theorem gw3 : gF (put h a (wkC w)) a 7 3 = some (.int (w 3)) := by simp [gF, put, wkC]
theorem gw4 : gF (put h a (wkC w)) a 7 4 = some (.int (w 4)) := by simp [gF, put, wkC]
theorem gw5 : gF (put h a (wkC w)) a 7 5 = some (.int (w 5)) := by simp [gF, put, wkC]
theorem kw : ck (put h a (wkC w)) a 7 = true := by simp [ck, put, wkC]
theorem pw0 : pF (put h a (wkC w)) a 7 0 (.int x) = some (put h a (wkC (upd w 0 x))) := by simp [pF, put_same, put_put, wkC, upd]
theorem pw1 : pF (put h a (wkC w)) a 7 1 (.int x) = some (put h a (wkC (upd w 1 x))) := by simp [pF, put_same, put_put, wkC, upd]
theorem pw2 : pF (put h a (wkC w)) a 7 2 (.int x) = some (put h a (wkC (upd w 2 x))) := by simp [pF, put_same, put_put, wkC, upd]
theorem pw3 : pF (put h a (wkC w)) a 7 3 (.int x) = some (put h a (wkC (upd w 3 x))) := by simp [pF, put_same, put_put, wkC, upd]
theorem pw4 : pF (put h a (wkC w)) a 7 4 (.int x) = some (put h a (wkC (upd w 4 x))) := by simp [pF, put_same, put_put, wkC, upd]
theorem pw5 : pF (put h a (wkC w)) a 7 5 (.int x) = some (put h a (wkC (upd w 5 x))) := by simp [pF, put_same, put_put, wkC, upd]
theorem c_slakes : Dn (d + 1) 64 [.ref a] (put h a (wkC w)) nx = some (some (.int (slk (w 0))), put h a (wkC w), nx) := by
  simp only [n_64, e_64_0, e_64_1, e_64_4, e_64_40, e_64_41, e_64_42, e_64_43, e_64_44, e_64_46, e_64_47, e_64_49, e_64_50, e_64_52, e_64_53, e_64_54, gw0, Option.bind_some, slk]
  repeat' split
  all_goals rfl
theorem c_worth : Dn (d + 1) 65 [.ref a] (put h a (wkC w)) nx = some (some (.int (wth (w 0) (w 2))), put h a (wkC w), nx) := by
  simp only [n_65, e_65_0, e_65_1, e_65_4, e_65_40, e_65_41, e_65_44, e_65_46, e_65_47, e_65_48, e_65_49, e_65_50, e_65_53, e_65_55, e_65_56, e_65_57, e_65_58, e_65_60, e_65_61, e_65_64, e_65_65, e_65_66, e_65_68, e_65_69, e_65_72, e_65_73, e_65_74, e_65_75, e_65_76, e_65_77, e_65_78, e_65_79, e_65_82, gw0, gw2, Option.bind_some, wth]
  repeat' split
  all_goals rfl
theorem c_isOf : Dn (d + 1) 66 [.ref a, .int x] (put h a (wkC w)) nx = some (some (.int (pi (isu (w 0) x))), put h a (wkC w), nx) := by
  simp only [n_66, e_66_0, e_66_1, e_66_2, e_66_5, e_66_8, e_66_9, e_66_12, e_66_13, e_66_16, e_66_17, e_66_20, e_66_21, e_66_22, e_66_25, e_66_26, e_66_29, e_66_30, e_66_33, e_66_34, e_66_35, e_66_38, e_66_39, e_66_42, e_66_43, gw0, Option.bind_some, nR_b0, nR_b1, if_true]
  by_cases h1 : x = w 0
  · simp [h1, pi, isu]
  by_cases h2 : x = 0
  · simp [h1, h2, pi, isu]
  by_cases h3 : w 0 = 3
  · by_cases h4 : x = 1 <;> simp [h1, h2, h3, h4, pi, isu] <;> simp_all
  · by_cases h4 : w 0 = 4
    · by_cases h5 : x = 2 <;> simp [h1, h2, h3, h4, h5, pi, isu] <;> simp_all
    · simp [h1, h2, h3, h4, pi, isu]
/-- a cup less thirst -/
def cup (w : Nat → Int32) : Nat → Int32 := upd w 1 (if 0 < w 1 - slk (w 0) then w 1 - slk (w 0) else 0)
theorem c_drinkCup : Dn (d + 2) 68 [.ref a] (put h a (wkC w)) nx = some (none, put h a (wkC (cup w)), nx) := by
  simp only [n_68, e_68_0, e_68_1, e_68_2, e_68_3, e_68_6, e_68_7, e_68_10, e_68_11, e_68_14, e_68_17, gw1, kw, c_slakes, c_max, cn_s, pw1, Option.bind_some, if_true, cup]
theorem c_wstarts : Dn (d + 1) 63 [.ref a, .int x, .int y, .int z] (put h a (wkC w)) nx = some (none, put h a (wkC (upd (upd (upd (upd (upd (upd w 0 x) 1 0) 2 y) 3 z) 4 0) 5 1)), nx) := by
  simp only [n_63, e_63_0, e_63_1, e_63_2, e_63_5, e_63_6, e_63_7, e_63_10, e_63_11, e_63_12, e_63_15, e_63_16, e_63_17, e_63_20, e_63_21, e_63_22, e_63_25, e_63_26, e_63_27, e_63_30, pw0, pw1, pw2, pw3, pw4, pw5, Option.bind_some]
  rfl
end W1
