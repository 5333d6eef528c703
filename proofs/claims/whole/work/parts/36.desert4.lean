/-! walkers by lot; a desert becomes as another -/
section D4
variable {d : Nat} {h : AH} {nx : AN} {b b2 a i s c ci f : Nat} {D E : DT} {x y z : Int32} {l1 l2 l3 l4 l5 : Value}
theorem gF_o (ho : a < b ∨ b + 13 ≤ a) : gF (putD h b D) a ci f = gF h a ci f := by unfold gF; rw [pD_o ho]
theorem ck_o (ho : a < b ∨ b + 13 ≤ a) : ck (putD h b D) a ci = ck h a ci := by unfold ck; rw [pD_o ho]
theorem rI_o (ho : a < b ∨ b + 13 ≤ a) {t : Nat} : rI (putD h b D) a x t = rI h a x t := by unfold rI; rw [pD_o ho]
theorem rX_o (ho : a < b ∨ b + 13 ≤ a) : rX (putD h b D) a x = rX h a x := by unfold rX; rw [rI_o ho, rI_o ho]
theorem rR_o (ho : a < b ∨ b + 13 ≤ a) : rR (putD h b D) a x = rR h a x := by unfold rR; rw [pD_o ho]
theorem aL_o (ho : a < b ∨ b + 13 ≤ a) : aL (putD h b D) a = aL h a := by unfold aL; rw [pD_o ho]
/-- a walker drawn -/
def jl (D : DT) (s : Nat) : DT :=
  let z1 := nxz (D.2.2 11)
  let z2 := nxz z1
  let z3 := nxz z2
  jn (dq (dq (dq D 11 z1) 11 z2) 11 z3) s (dr8 z1 - dr8 z1 / 6 * 6) (dr8 z2 - dr8 z2 / 31 * 31) (dr8 z3 - dr8 z3 / 25 * 25)
theorem c_joinByLot (hs : D.2.2 2 = nI s) (hs10 : s < 10) : Dn (d + 3) 12 [.ref b] (putD h b D) nx = some (none, putD h b (jl D s), nx) := by
  have e1 : ∀ z1 : Int32, (dq D 11 z1).2.2 11 = z1 := fun z1 => by simp [dq, upd]
  have e2 : ∀ z1 z2 : Int32, (dq (dq D 11 z1) 11 z2).2.2 11 = z2 := fun z1 z2 => by simp [dq, upd]
  have e3 : ∀ z1 z2 z3 : Int32, (dq (dq (dq D 11 z1) 11 z2) 11 z3).2.2 2 = nI s := fun z1 z2 z3 => by simp [dq, upd, hs]
  simp only [n_12, e_12_0, e_12_1, e_12_4, e_12_6, e_12_7n, e_12_7i, e_12_7r, e_12_8, e_12_9, e_12_12, e_12_14, e_12_15n, e_12_15i, e_12_15r, e_12_16, e_12_17, e_12_20, e_12_22, e_12_23n, e_12_23i, e_12_23r, e_12_24, e_12_25, e_12_26, e_12_27, e_12_28, e_12_31i, e_12_32, kD, c_draw, cn_s, if_true, e1, e2, show ¬ (6 : Int32) = 0 by decide, show ¬ (31 : Int32) = 0 by decide, show ¬ (25 : Int32) = 0 by decide, if_false, c_join (e3 _ _ _) (Nat.le_of_lt hs10), show ¬ s = 10 by omega]
  rfl
/-- the walkers of E come to D, from the k-th on -/
def bcW (E : DT) : Nat → Nat → DT → DT
  | 0, _, D => D
  | n + 1, k, D => bcW E n (k + 1) (dW D k (E.2.1 k))
def bcQ (D E : DT) : DT := dq (dq (dq (dq (dq (dq (dq (dq (dq (dq (dq D 2 (E.2.2 2)) 3 (E.2.2 3)) 4 (E.2.2 4)) 5 (E.2.2 5)) 6 (E.2.2 6)) 7 (E.2.2 7)) 8 (E.2.2 8)) 9 (E.2.2 9)) 10 (E.2.2 10)) 11 (E.2.2 11)) 12 (E.2.2 12)
/-- D becomes as E, which has s walkers -/
def bec (D E : DT) (s : Nat) : DT := bcQ (bcW E s 0 (va_cpy E.1 D.1 0 0 24, D.2.1, D.2.2)) E
theorem W_becomes (hd : b + 13 ≤ b2 ∨ b2 + 13 ≤ b) (hi : i < 10) (hv : E.2.1 i 5 = 0 ∨ E.2.1 i 5 = 1) : Dn (d + 1) 70 [.ref (b + 3 + i), .ref (b2 + 3 + i)] (putD (putD h b2 E) b D) nx = some (none, putD (putD h b2 E) b (dW D i (E.2.1 i)), nx) := by
  have e := c_wbecomes (d := d) (h := putD (putD h b2 E) b D) (nx := nx) (a := b + 3 + i) (b := b2 + 3 + i) (v := E.2.1 i) (w := D.2.1 i) (by omega) hv
  have e1 : put (putD (putD h b2 E) b D) (b2 + 3 + i) (wkC (E.2.1 i)) = putD (putD h b2 E) b D := put_id (by rw [pD_o (by omega), pD_w hi])
  rw [e1, w_put hi, put_w hi] at e
  exact e
theorem becomes_loop (hd : b + 13 ≤ b2 ∨ b2 + 13 ≤ b) (hs : E.2.2 2 = nI s) (hs10 : s ≤ 10) (hv : ∀ i, i < s → E.2.1 i 5 = 0 ∨ E.2.1 i 5 = 1) (n : Nat) : ∀ (k : Nat) (D : DT), k + n = s → Df (d + 1) 23 17 [.ref b, .ref b2, .int (nI k)] [] (putD (putD h b2 E) b D) nx = some (none, putD (putD h b2 E) b (bcQ (bcW E n k D) E), nx) := by
  have o0 : b2 < b ∨ b + 13 ≤ b2 := by omega
  have o2 : b2 + 2 < b ∨ b + 13 ≤ b2 + 2 := by omega
  induction n with
  | zero =>
    intro k D hk
    obtain rfl : k = s := by omega
    rw [e_23_17]
    simp only [e_23_0, e_23_1, e_23_4, e_23_5, e_23_6, e_23_9, e_23_10, e_23_12, e_23_15, e_23_16n, e_23_16i, e_23_16r, e_23_18, e_23_19, e_23_22, e_23_25, e_23_26, e_23_28, e_23_31, e_23_32, e_23_35, e_23_36, e_23_37, e_23_38, e_23_41, e_23_42, e_23_43, e_23_46, e_23_49, e_23_52, e_23_53, e_23_54, e_23_57, e_23_60, e_23_61, e_23_62, e_23_65, e_23_68, e_23_69, e_23_70, e_23_73, e_23_76, e_23_77, e_23_78, e_23_81, e_23_84, e_23_85, e_23_86, e_23_89, e_23_92, e_23_93, e_23_94, e_23_97, e_23_100, e_23_101, e_23_102, e_23_105, e_23_108, e_23_109, e_23_110, e_23_113, e_23_116, e_23_117, e_23_118, e_23_121, e_23_124, e_23_125, e_23_126, e_23_129, e_23_132, e_23_133, e_23_134, e_23_137, e_23_140, gF_o o0, gD2, gD3, gD4, gD5, gD6, gD7, gD8, gD9, gD10, gD11, gD12, qD2, qD3, qD4, qD5, qD6, qD7, qD8, qD9, qD10, qD11, qD12, Option.bind_some]
    rw [if_pos (by rw [hs]; exact nI_le (Nat.le_refl _) (by omega))]
    rfl
  | succ n ih =>
    intro k D hk
    have hk10 : k < 10 := by omega
    rw [e_23_17]
    simp only [e_23_18, e_23_19, e_23_22, e_23_25, e_23_26, e_23_28, e_23_31, e_23_32, e_23_35, e_23_36, e_23_37, e_23_38, e_23_41, e_23_42, e_23_43, e_23_46, e_23_49, gF_o o0, rR_o o2, gD1, gD2, rDrn hk10, kDw hk10, if_true, W_becomes hd hk10 (hv k (by omega)), cn_v, Option.bind_some, nI_1]
    rw [if_neg (by rw [hs]; exact nI_ge (by omega) (by omega)), if_neg (show ¬ (10 : Int32) ≤ nI k from nI_ge (b := 10) hk10 (by omega))]
    exact ih (k + 1) _ (by omega)
theorem c_dbecomes (hd : b + 13 ≤ b2 ∨ b2 + 13 ≤ b) (hs : E.2.2 2 = nI s) (hs10 : s ≤ 10) (hv : ∀ i, i < s → E.2.1 i 5 = 0 ∨ E.2.1 i 5 = 1) : Dn (d + 2) 23 [.ref b, .ref b2] (putD (putD h b2 E) b D) nx = some (none, putD (putD h b2 E) b (bec D E s), nx) := by
  have o0 : b2 < b ∨ b + 13 ≤ b2 := by omega
  have o1 : b2 + 1 < b ∨ b + 13 ≤ b2 + 1 := by omega
  have e : cpA (putD (putD h b2 E) b D) (b2 + 1) (b + 1) 0 0 24 = some (putD (putD h b2 E) b (va_cpy E.1 D.1 0 0 24, D.2.1, D.2.2)) := by
    unfold cpA
    rw [pD_o o1, pD_1, pD_1]
    dsimp only
    rw [if_pos ⟨⟨rfl, rfl⟩, ⟨by decide, by decide, by decide⟩, by decide, by decide⟩]
    congr 1
    funext q
    by_cases e : q = b + 1
    · subst e
      rw [put_same, pD_1]
      rfl
    · rw [put_ne _ _ e]
      unfold putD
      dsimp only
      repeat' split
      all_goals rfl
  simp only [n_23, e_23_0, e_23_1, e_23_4, e_23_5, e_23_6, e_23_9, e_23_10, e_23_12, e_23_15, e_23_16n, e_23_16i, e_23_16r, gF_o o0, gD0, e, Option.bind_some]
  exact becomes_loop hd hs hs10 hv s 0 _ (Nat.zero_add _)
end D4
