/-! loops over the walkers -/
section D2
variable {d : Nat} {h : AH} {nx : AN} {b i s : Nat} {D : DT} {x y z : Int32} {l1 l2 l3 l4 l5 : Value}
/-- who leads among the first n -/
def ldr (W : Nat → Nat → Int32) : Nat → Option Nat
  | 0 => none
  | n + 1 => if W n 5 = 0 then ldr W n else match ldr W n with
    | none => some n
    | some j => if W j 1 < W n 1 then some n else some j
def oi : Option Nat → Int32
  | none => -1
  | some j => nI j
theorem oi_s (j : Nat) : oi (some j) = nI j := rfl
theorem ldr_lt {W : Nat → Nat → Int32} : ∀ {n j : Nat}, ldr W n = some j → j < n
  | 0, j, h => by cases h
  | n + 1, j, h => by
    unfold ldr at h
    split at h
    · have := ldr_lt h; omega
    · split at h
      · cases h; omega
      · rename_i k hk
        have := ldr_lt hk
        split at h <;> cases h <;> omega
theorem oi_m1 {W : Nat → Nat → Int32} {n : Nat} (hn : n ≤ 10) : (oi (ldr W n) = -1) ↔ ldr W n = none := by
  cases e : ldr W n with
  | none => simp [oi]
  | some j =>
    have hj := ldr_lt e
    simp only [oi, reduceCtorEq, iff_false]
    intro q
    have := congrArg Int32.toInt q
    rw [nI_toInt (by omega)] at this
    have e2 : (-1 : Int32).toInt = -1 := by decide
    omega
theorem leader_loop (hs : D.2.2 2 = nI s) (hs10 : s ≤ 10) (n : Nat) : ∀ (k : Nat), k + n = s → Df d 15 4 [.ref b, .int (oi (ldr D.2.1 k)), .int (nI k)] [] (putD h b D) nx = some (some (.int (oi (ldr D.2.1 s))), putD h b D, nx) := by
  induction n with
  | zero =>
    intro k hk
    obtain rfl : k = s := by omega
    simp only [e_15_0, e_15_1n, e_15_1i, e_15_1r, e_15_2, e_15_3n, e_15_3i, e_15_3r, e_15_4, e_15_5, e_15_6, e_15_9, e_15_12, e_15_13, e_15_16, e_15_17, e_15_18, e_15_21, e_15_24, e_15_25, e_15_26, e_15_29, e_15_30, e_15_33, e_15_34, e_15_35, e_15_38, e_15_39, e_15_42, e_15_43, e_15_44, e_15_47, e_15_50, e_15_51n, e_15_51i, e_15_51r, e_15_52, e_15_55, e_15_58, e_15_59, gD2, hs, Option.bind_some]
    rw [if_pos (nI_le (Nat.le_refl _) (by omega))]
  | succ n ih =>
    intro k hk
    have hk10 : k < 10 := by omega
    rw [e_15_4]
    simp only [e_15_0, e_15_1n, e_15_1i, e_15_1r, e_15_2, e_15_3n, e_15_3i, e_15_3r, e_15_5, e_15_6, e_15_9, e_15_12, e_15_13, e_15_16, e_15_17, e_15_18, e_15_21, e_15_24, e_15_25, e_15_26, e_15_29, e_15_30, e_15_33, e_15_34, e_15_35, e_15_38, e_15_39, e_15_42, e_15_43, e_15_44, e_15_47, e_15_50, e_15_51n, e_15_51i, e_15_51r, e_15_52, e_15_55, e_15_58, e_15_59, gD2, gD1, hs, rDrn hk10, gDw5 hk10, gDw1 hk10, Option.bind_some]
    rw [if_neg (nI_ge (by omega) (by omega))]
    have ih := ih (k + 1) (by omega)
    by_cases h1 : D.2.1 k 5 = 0
    · rw [if_pos h1, nI_1]
      have e : ldr D.2.1 (k + 1) = ldr D.2.1 k := by simp [ldr, h1]
      rw [e] at ih
      exact ih
    · rw [if_neg h1]
      cases e : ldr D.2.1 k with
      | none =>
        have e1 : ldr D.2.1 (k + 1) = some k := by simp [ldr, h1, e]
        rw [e1] at ih
        rw [if_pos (by rfl), nI_1]
        exact ih
      | some j =>
        have hj := ldr_lt e
        have hj10 : j < 10 := by omega
        have e2 : ¬ oi (some j) = -1 := by
          intro q
          rw [← e] at q
          have := (oi_m1 (W := D.2.1) (n := k) (by omega)).mp q
          rw [e] at this
          cases this
        rw [if_neg e2]
        simp only [oi_s, e_15_0, e_15_1n, e_15_1i, e_15_1r, e_15_2, e_15_3n, e_15_3i, e_15_3r, e_15_5, e_15_6, e_15_9, e_15_12, e_15_13, e_15_16, e_15_17, e_15_18, e_15_21, e_15_24, e_15_25, e_15_26, e_15_29, e_15_30, e_15_33, e_15_34, e_15_35, e_15_38, e_15_39, e_15_42, e_15_43, e_15_44, e_15_47, e_15_50, e_15_51n, e_15_51i, e_15_51r, e_15_52, e_15_55, e_15_58, e_15_59, rDrn hj10, gDw1 hj10, Option.bind_some, nI_1]
        by_cases h2 : D.2.1 k 1 ≤ D.2.1 j 1
        · rw [if_pos h2]
          have e1 : ldr D.2.1 (k + 1) = some j := by
            have : ¬ D.2.1 j 1 < D.2.1 k 1 := by rw [i_nlt]; exact h2
            simp [ldr, h1, e, this]
          rw [e1] at ih
          exact ih
        · rw [if_neg h2]
          have e1 : ldr D.2.1 (k + 1) = some k := by
            have : D.2.1 j 1 < D.2.1 k 1 := by rw [← i_nle]; exact h2
            simp [ldr, h1, e, this]
          rw [e1] at ih
          exact ih
theorem c_leader (hs : D.2.2 2 = nI s) (hs10 : s ≤ 10) : Dn (d + 1) 15 [.ref b] (putD h b D) nx = some (some (.int (oi (ldr D.2.1 s))), putD h b D, nx) := by
  simp only [n_15, e_15_0, e_15_1n, e_15_1i, e_15_1r, e_15_2, e_15_3n, e_15_3i, e_15_3r]
  exact leader_loop hs hs10 s 0 (Nat.zero_add _)
end D2
