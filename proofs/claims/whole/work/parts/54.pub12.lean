/-! public methods over the whole heap: set -/
section P12
variable {d : Nat} {h : AH} {nx : AN} {b lb i j s n c t g : Nat} {S : CS} {L : LT} {K B : Nat → Int32} {D E : DT} {x y z u : Int32} {l1 l2 l3 l4 l5 : Value} {w : Nat → Int32}
def seHi (x : Int32) : Int32 := if x = 1 then 99 else if x = 2 then 30 else 24
def seQ (x : Int32) : Nat := if x = 1 then 1 else if x = 2 then 2 else 3
theorem se_rows (hx : xR h) (h1 : 1 ≤ x ∧ x ≤ 3) : rX (CH h S) 1 (x - 1) = some (seHi x) := by
  obtain ⟨_, a0, a1, a2, _⟩ := xR_CH (S := S) hx
  obtain ⟨i, hi1, hi, rfl⟩ := idx1 (m := 3) h1 (by omega)
  rcases i with _ | _ | _ | _ | i
  · omega
  · exact a0
  · exact a1
  · exact a2
  · omega
theorem P_set (hx : xR h) (hG : cG S s t) : Dn (d + 2) 79 [.ref 16, .int x, .int y, .int z] (CH h S) nx = if (0 ≤ x ∧ x < nI s) ∧ (1 ≤ y ∧ y ≤ 3) ∧ (0 ≤ z ∧ z ≤ seHi y) then an ((zN S).2.1 x.toNatClampNeg (seQ y)) h (sN S (dW (zN S) x.toNatClampNeg (upd ((zN S).2.1 x.toNatClampNeg) (seQ y) z))) nx else an (-1000000001) h S nx := by
  have hs := hG.1.1
  have hs10 := hG.1.2.1
  have e3 : aL (CH h S) 1 = some 3 := (xR_CH (S := S) hx).1
  by_cases h0 : 0 ≤ x ∧ x < nI s
  · by_cases h1 : 1 ≤ y ∧ y ≤ 3
    · have r1 := se_rows (S := S) hx h1
      by_cases h2 : 0 ≤ z ∧ z ≤ seHi y
      · obtain ⟨i, hi, rfl⟩ := idx h0 (by omega)
        have hi10 : i < 10 := by omega
        rw [cl_nI (by omega)]
        have ha : (0 ≤ nI i ∧ nI i < nI s) ∧ (1 ≤ y ∧ y ≤ 3) ∧ (0 ≤ z ∧ z ≤ seHi y) := ⟨h0, h1, h2⟩
        rw [if_pos ha]
        simp only [n_79, e_79_0, e_79_1, e_79_4, e_79_5, e_79_8, e_79_11, e_79_12, e_79_13, e_79_16, e_79_17, e_79_20, e_79_23, e_79_24, e_79_25, e_79_28, e_79_29, e_79_30, e_79_31, e_79_32, e_79_35, e_79_38, e_79_40, e_79_41, e_79_42, e_79_45, e_79_48, e_79_49, e_79_50n, e_79_50i, e_79_50r, e_79_52, e_79_53, e_79_54, e_79_57, e_79_59, e_79_62n, e_79_62i, e_79_62r, e_79_64, e_79_66, e_79_67, e_79_70, e_79_73, e_79_74, e_79_75, e_79_78, e_79_80, e_79_83n, e_79_83i, e_79_83r, e_79_85, e_79_87, e_79_88, e_79_91, e_79_94, e_79_96, e_79_99n, e_79_99i, e_79_99r, e_79_101, e_79_103, e_79_104, e_79_107, e_79_109, cn_s, pi_if, c_within, gO0, gN1, rNr hi10, kNc, N_has hs hs10, if_true, e3, r1, gNw1 hi10, gNw2 hi10, gNw3 hi10, qNw1 hi10, qNw2 hi10, qNw3 hi10, Option.bind_some]
        rw [if_pos h0, if_pos h1, if_pos h2]
        unfold seQ
        by_cases y1 : y = 1
        · rw [if_pos y1, if_pos y1]; rfl
        rw [if_neg y1, if_neg y1]
        by_cases y2 : y = 2
        · rw [if_pos y2, if_pos y2]; rfl
        rw [if_neg y2, if_neg y2]; rfl
      · rw [if_neg (fun q => h2 q.2.2)]
        simp only [n_79, e_79_0, e_79_1, e_79_4, e_79_5, e_79_8, e_79_11, e_79_12, e_79_13, e_79_16, e_79_17, e_79_20, e_79_23, e_79_24, e_79_25, e_79_28, e_79_29, e_79_30, e_79_31, e_79_32, e_79_35, e_79_38, e_79_40, cn_s, pi_if, c_within, gO0, kNc, N_has hs hs10, if_true, e3, r1, Option.bind_some]
        rw [if_pos h0, if_pos h1, if_neg h2]; rfl
    · rw [if_neg (fun q => h1 q.2.1)]
      simp only [n_79, e_79_0, e_79_1, e_79_4, e_79_5, e_79_8, e_79_11, e_79_12, e_79_13, e_79_16, e_79_17, e_79_20, e_79_38, e_79_40, cn_s, pi_if, c_within, gO0, kNc, N_has hs hs10, if_true, e3, Option.bind_some]
      rw [if_pos h0, if_neg h1]; rfl
  · rw [if_neg (fun q => h0 q.1)]
    simp only [n_79, e_79_0, e_79_1, e_79_4, e_79_5, e_79_8, e_79_11, e_79_12, e_79_13, e_79_16, e_79_17, e_79_20, e_79_38, e_79_40, cn_s, pi_if, c_within, gO0, kNc, N_has hs hs10, if_true, e3, Option.bind_some]
    rw [if_neg h0]; rfl
end P12
