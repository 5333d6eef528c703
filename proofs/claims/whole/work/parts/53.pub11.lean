/-! public methods over the whole heap: rule, set -/
section P11
variable {d : Nat} {h : AH} {nx : AN} {b lb i j s n c t g : Nat} {S : CS} {L : LT} {K B : Nat → Int32} {D E : DT} {x y z u : Int32} {l1 l2 l3 l4 l5 : Value} {w : Nat → Int32}
def ruLo (x : Int32) : Int32 := if x = 1 then 1 else if x = 3 then 20 else 0
def ruHi (x : Int32) : Int32 := if x = 0 then 9 else if x = 1 then 9 else if x = 2 then 100 else if x = 3 then 99 else 23
def ruQ (x : Int32) : Nat := if x = 0 then 4 else if x = 1 then 5 else if x = 2 then 6 else if x = 3 then 7 else 3
theorem N_rule : Dn (d + 1) 11 [.ref 17, .int x, .int y] (CH h S) nx = some (some (.int ((zN S).2.2 (ruQ x))), CH h (sN S (dq (zN S) (ruQ x) y)), nx) := by
  have e := c_ruleBecomes (d := d) (h := CH h S) (nx := nx) (b := 17) (D := zN S) (x := x) (y := y)
  rw [← N_CH] at e
  rw [e]
  unfold ruQ
  by_cases h0 : x = 0
  · rw [if_pos h0, if_pos h0, CH_N]
  rw [if_neg h0, if_neg h0]
  by_cases h1 : x = 1
  · rw [if_pos h1, if_pos h1, CH_N]
  rw [if_neg h1, if_neg h1]
  by_cases h2 : x = 2
  · rw [if_pos h2, if_pos h2, CH_N]
  rw [if_neg h2, if_neg h2]
  by_cases h3 : x = 3
  · rw [if_pos h3, if_pos h3, CH_N]
  rw [if_neg h3, if_neg h3, CH_N]
theorem ru_rows (hx : xR h) (h1 : 0 ≤ x ∧ x ≤ 4) : rX (CH h S) 3 x = some (ruLo x) ∧ rX (CH h S) 2 x = some (ruHi x) := by
  obtain ⟨_, _, _, _, _, ⟨a0, a1, a2, a3, a4⟩, b0, b1, b2, b3, b4⟩ := xR_CH (S := S) hx
  obtain ⟨i, hi, rfl⟩ := idxle (m := 4) h1 (by omega)
  rcases i with _ | _ | _ | _ | _ | i
  · exact ⟨b0, a0⟩
  · exact ⟨b1, a1⟩
  · exact ⟨b2, a2⟩
  · exact ⟨b3, a3⟩
  · exact ⟨b4, a4⟩
  · omega
theorem P_rule (hx : xR h) : Dn (d + 2) 81 [.ref 16, .int x, .int y] (CH h S) nx = if (0 ≤ x ∧ x ≤ 4) ∧ (ruLo x ≤ y ∧ y ≤ ruHi x) then an ((zN S).2.2 (ruQ x)) h (sN S (dq (zN S) (ruQ x) y)) nx else an (-1000000001) h S nx := by
  have e5 : aL (CH h S) 2 = some 5 := (xR_CH (S := S) hx).2.2.2.2.1
  by_cases h1 : 0 ≤ x ∧ x ≤ 4
  · obtain ⟨r1, r2⟩ := ru_rows (S := S) hx h1
    by_cases h2 : ruLo x ≤ y ∧ y ≤ ruHi x
    · have ha : (0 ≤ x ∧ x ≤ 4) ∧ (ruLo x ≤ y ∧ y ≤ ruHi x) := ⟨h1, h2⟩
      rw [if_pos ha]
      simp only [n_81, e_81_0, e_81_1, e_81_2, e_81_5, e_81_6, e_81_7, e_81_8, e_81_11, e_81_14, e_81_15, e_81_18, e_81_19, e_81_20, e_81_23, e_81_24, e_81_25, e_81_28, e_81_31, e_81_33, e_81_34, e_81_35, e_81_38, e_81_39, e_81_40, e_81_43, cn_s, pi_if, c_within, gO0, kNc, if_true, e5, r1, r2, N_rule, Option.bind_some, show (5 : Int32) - 1 = 4 by decide]
      rw [if_pos h1, if_pos h2]; rfl
    · rw [if_neg (fun q => h2 q.2)]
      simp only [n_81, e_81_0, e_81_1, e_81_2, e_81_5, e_81_6, e_81_7, e_81_8, e_81_11, e_81_14, e_81_15, e_81_18, e_81_19, e_81_20, e_81_23, e_81_24, e_81_25, e_81_28, e_81_31, e_81_33, cn_s, pi_if, c_within, e5, r1, r2, Option.bind_some, show (5 : Int32) - 1 = 4 by decide]
      rw [if_pos h1, if_neg h2]; rfl
  · rw [if_neg (fun q => h1 q.1)]
    simp only [n_81, e_81_0, e_81_1, e_81_2, e_81_5, e_81_6, e_81_7, e_81_8, e_81_11, e_81_31, e_81_33, cn_s, pi_if, c_within, e5, Option.bind_some, show (5 : Int32) - 1 = 4 by decide]
    rw [if_neg h1]; rfl
end P11
