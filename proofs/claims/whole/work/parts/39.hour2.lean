/-! an hour, on -/
section HP
variable {d : Nat} {h : AH} {nx : AN} {b lb i j s n c : Nat} {L : LT} {K : Nat → Int32} {D : DT} {x y z u : Int32} {l1 l2 l3 l4 l5 : Value}
/-- those that are dead, from the k-th on; with the cups in their skins -/
def lsF : Nat → Nat → DT × Int32 → DT × Int32
  | 0, _, p => p
  | n + 1, k, (D, x) => lsF n (k + 1) (if D.2.1 k 5 = 0 then (D, x) else if D.2.1 k 1 < D.2.2 7 then (D, x) else (dW (dq (dW D k (upd (D.2.1 k) 5 0)) 8 (D.2.2 8 + 1)) k (upd (upd (D.2.1 k) 5 0) 2 0), x + D.2.1 k 2))
/-- the heir -/
def heir (D : DT) (s : Nat) (x : Int32) : DT := match ldr D.2.1 s with
  | none => D
  | some j => dW D j (upd (D.2.1 j) 2 (if D.2.1 j 2 + x < 30 then D.2.1 j 2 + x else 30))
theorem dWq (D : DT) (k : Nat) (w : Nat → Int32) (q : Nat) (x : Int32) : (dq (dW D k w) q x).2.1 k = w := by simp [dq, dW, updW]
theorem dWs (D : DT) (k : Nat) (w : Nat → Int32) : (dW D k w).2.1 k = w := by simp [dW, updW]
theorem lose_tail (hs : D.2.2 2 = nI s) (hs10 : s ≤ 10) {p : Int32} {l3 : Value} : Df (d + 1) 19 70 [.ref b, .int x, .int p, l3] [] (putD h b D) nx = some (none, putD h b (heir D s x), nx) := by
  unfold heir
  cases e : ldr D.2.1 s with
  | none =>
    simp only [e_19_70, e_19_71, e_19_74n, e_19_74i, e_19_74r, e_19_75, e_19_76, e_19_77, e_19_80, e_19_81, e_19_84, e_19_85, e_19_86, e_19_88, e_19_89, e_19_92, e_19_93, e_19_94, e_19_97, e_19_98, e_19_99, e_19_102, e_19_105, kD, if_true, c_leader hs hs10, e, cn_s, show oi none = -1 from rfl, if_true]
  | some j =>
    have hj := ldr_lt e
    have hj10 : j < 10 := by omega
    have e2 : ¬ oi (some j) = -1 := by
      intro q
      rw [← e] at q
      have := (oi_m1 hs10).mp q
      rw [e] at this
      cases this
    simp only [e_19_70, e_19_71, e_19_74n, e_19_74i, e_19_74r, e_19_75, e_19_76, e_19_77, e_19_80, e_19_81, e_19_84, e_19_85, e_19_86, e_19_88, e_19_89, e_19_92, e_19_93, e_19_94, e_19_97, e_19_98, e_19_99, e_19_102, e_19_105, kD, if_true, c_leader hs hs10, e, cn_s, gD1, oi_s, rDrn hj10, gDw2 hj10, qDw2 hj10, c_min, Option.bind_some]
    rw [if_neg (show ¬ nI j = -1 from e2)]
theorem lose_loop (hs10 : s ≤ 10) (n : Nat) : ∀ (k : Nat) (D : DT) (x : Int32) (l3 : Value), nr l3 = true → D.2.2 2 = nI s → k + n = s → Df (d + 1) 19 4 [.ref b, .int x, .int (nI k), l3] [] (putD h b D) nx = some (none, putD h b (heir (lsF n k (D, x)).1 s (lsF n k (D, x)).2), nx) := by
  induction n with
  | zero =>
    intro k D x l3 hl hs hk
    obtain rfl : k = s := by omega
    rw [e_19_4]
    simp only [e_19_5, e_19_6, e_19_9, gD2, hs, Option.bind_some]
    rw [if_pos (nI_le (Nat.le_refl _) (by omega))]
    exact lose_tail hs hs10
  | succ n ih =>
    intro k D x l3 hl hs hk
    have hk10 : k < 10 := by omega
    rw [e_19_4]
    simp only [e_19_5, e_19_6, e_19_9, e_19_12, e_19_13, e_19_16, e_19_17, gD1, gD2, hs, rDrn hk10, Option.bind_some]
    rw [if_neg (nI_ge (by omega) (by omega)), e_19_18 hl]
    simp only [e_19_19, e_19_20, e_19_23, e_19_26, e_19_27, e_19_30, e_19_31, e_19_34, e_19_37, e_19_38, e_19_39, e_19_42, e_19_43i, e_19_43r, e_19_44, e_19_47, e_19_48, e_19_49, e_19_52, e_19_53, e_19_54, e_19_57, e_19_58n, e_19_58i, e_19_58r, e_19_59, e_19_60, e_19_61, e_19_64, e_19_67, gDw5 hk10, gDw1 hk10, gD7, gD8, qDw5 hk10, qD8, gDw2 hk10, qDw2 hk10, Option.bind_some, nI_1, dWq, dWs, show (0 : Int32) = 0 ∨ (0 : Int32) = 1 from Or.inl rfl, if_true]
    unfold lsF
    by_cases h1 : D.2.1 k 5 = 0
    · rw [if_pos h1, if_pos h1]
      exact ih (k + 1) D x _ (nr_r _) hs (by omega)
    rw [if_neg h1, if_neg h1]
    by_cases h2 : D.2.1 k 1 < D.2.2 7
    · rw [if_pos h2, if_pos h2]
      exact ih (k + 1) D x _ (nr_r _) hs (by omega)
    · rw [if_neg h2, if_neg h2]
      exact ih (k + 1) _ _ _ (nr_r _) hs (by omega)
theorem c_loseDead (hs : D.2.2 2 = nI s) (hs10 : s ≤ 10) : Dn (d + 2) 19 [.ref b] (putD h b D) nx = some (none, putD h b (heir (lsF s 0 (D, 0)).1 s (lsF s 0 (D, 0)).2), nx) := by
  simp only [n_19, e_19_0, e_19_1n, e_19_1i, e_19_1r, e_19_2, e_19_3n, e_19_3i, e_19_3r]
  exact lose_loop hs10 s 0 D 0 _ nr_n hs (Nat.zero_add _)
/-- the j-th walker leads -/
def folF (D : DT) (j : Nat) : DT :=
  let D1 := dW D j (upd (D.2.1 j) 4 (D.2.1 j 4 + 1))
  let way := goF D.1 (D.2.1 j 0) (D.2.2 3).toNatClampNeg (D.2.1 j 3).toNatClampNeg
  let z1 := nxz (D.2.2 11)
  let D2 := dq D1 11 z1
  if dr8 z1 - dr8 z1 / 100 * 100 < D.2.2 6 then dq (dq D2 9 (D.2.2 9 + 1)) 3 (fmC (D.2.2 3 + -way) 24) else dq D2 3 (fmC (D.2.2 3 + way) 24)
theorem c_follow {g : Nat} (hs : D.2.2 2 = nI s) (hs10 : s ≤ 10) (hc : D.2.2 3 = nI c) (hc24 : c < 24) (e : ldr D.2.1 s = some j) (hk : D.2.1 j 3 = nI g) (hg : g < 25) : Dn (d + 4) 16 [.ref b] (putD h b D) nx = some (none, putD h b (folF D j), nx) := by
  have hj := ldr_lt e
  have hj10 : j < 10 := by omega
  have e2 : ¬ nI j = -1 := by
    intro q
    have q : oi (some j) = -1 := q
    rw [← e] at q
    have := (oi_m1 hs10).mp q
    rw [e] at this
    cases this
  have k1 : (dW D j (upd (D.2.1 j) 4 (D.2.1 j 4 + 1))).2.1 j 3 = nI g := by rw [dWs]; exact hk
  have k0 : (dW D j (upd (D.2.1 j) 4 (D.2.1 j 4 + 1))).2.1 j 0 = D.2.1 j 0 := by rw [dWs]; rfl
  have e3 : (D.2.2 3).toNatClampNeg = c := by rw [hc, cl_nI (by omega)]
  have e4 : (D.2.1 j 3).toNatClampNeg = g := by rw [hk, cl_nI (by omega)]
  simp only [n_16, e_16_0, e_16_1, e_16_4n, e_16_4i, e_16_4r, e_16_5, e_16_6, e_16_7, e_16_10, e_16_11, e_16_12, e_16_15, e_16_16, e_16_17i, e_16_17r, e_16_18, e_16_21, e_16_22, e_16_23, e_16_26, e_16_27, e_16_28, e_16_31, e_16_32, e_16_33, e_16_36n, e_16_36i, e_16_36r, e_16_37, e_16_38, e_16_41, e_16_43, e_16_44, e_16_45, e_16_48, e_16_51, e_16_52, e_16_53n, e_16_53i, e_16_53r, e_16_54, e_16_55i, e_16_55r, e_16_56, e_16_59, e_16_60, e_16_61, e_16_64, e_16_65, e_16_66, e_16_69, e_16_70, e_16_71, e_16_73, e_16_76, e_16_79, kD, if_true, c_leader hs hs10, e, oi_s, cn_s, e2, if_false, gD1, rDrn hj10, gDw4 hj10, qDw4 hj10, c_goes (D := dW D j (upd (D.2.1 j) 4 (D.2.1 j 4 + 1))) hc hc24 hj10 k1 hg, k0, c_draw, show ¬ (100 : Int32) = 0 by decide, gD6, gD9, qD9, gD3, qD3, c_floorMod (show ¬ (24 : Int32) = 0 by decide), Option.bind_some]
  unfold folF
  rw [e3, e4]
  by_cases h1 : dr8 (nxz (D.2.2 11)) - dr8 (nxz (D.2.2 11)) / 100 * 100 < D.2.2 6
  · have h2 : ¬ D.2.2 6 ≤ dr8 (nxz (D.2.2 11)) - dr8 (nxz (D.2.2 11)) / 100 * 100 := by rw [i_nle]; exact h1
    exact (if_neg h2).trans (congrArg (fun q => some (none, putD h b q, nx)) (if_pos h1).symm)
  · have h2 : D.2.2 6 ≤ dr8 (nxz (D.2.2 11)) - dr8 (nxz (D.2.2 11)) / 100 * 100 := by rw [← i_nlt]; exact h1
    exact (if_pos h2).trans (congrArg (fun q => some (none, putD h b q, nx)) (if_neg h1).symm)
end HP
