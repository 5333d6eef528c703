/-! public methods over the whole heap: the best of many -/
section P6
variable {d : Nat} {h : AH} {nx : AN} {b lb i j s n c t g : Nat} {S : CS} {L : LT} {K B : Nat → Int32} {D E : DT} {x y z u : Int32} {l1 l2 l3 l4 l5 : Value} {w : Nat → Int32}
def sX (S : CS) (K : Nat → Int32) (D : DT) (B : Nat → Int32) : CS := sB (sT (sK S K) D) B
theorem sX_S : sX S (zK S) (zT S) (zB S) = S := rfl
/-- what Best keeps behind an offer -/
def ofF (B : Nat → Int32) (x y : Int32) : Nat → Int32 := if B 0 = -1000000005 ∨ y < B 1 then upd (upd B 0 x) 1 y else B
theorem q56_0 : pF (CH h S) 56 0 0 (.int x) = some (CH h (sB S (upd (zB S) 0 x))) := by
  have e : pF (CH h S) 56 0 0 (.int x) = some (put (CH h S) 56 (bO (upd (zB S) 0 x))) := rfl
  rw [e, CH_B]
theorem q56_1 : pF (CH h S) 56 0 1 (.int x) = some (CH h (sB S (upd (zB S) 1 x))) := by
  have e : pF (CH h S) 56 0 1 (.int x) = some (put (CH h S) 56 (bO (upd (zB S) 1 x))) := rfl
  rw [e, CH_B]
theorem g56_0 : gF (CH h S) 56 0 0 = some (.int (zB S 0)) := rfl
theorem g56_1 : gF (CH h S) 56 0 1 = some (.int (zB S 1)) := rfl
theorem k56 : ck (CH h S) 56 0 = true := rfl
theorem X_starts : Dn (d + 1) 1 [.ref 56] (CH h S) nx = some (none, CH h (sB S (upd (upd (zB S) 0 (-1000000005)) 1 (-1000000005))), nx) := by
  simp only [n_1, e_1_0, e_1_1, e_1_3, e_1_6, e_1_7, e_1_9, e_1_12, q56_0, q56_1, Option.bind_some]
  rfl
theorem X_offer : Dn (d + 1) 2 [.ref 56, .int x, .int y] (CH h S) nx = some (none, CH h (sB S (ofF (zB S) x y)), nx) := by
  simp only [n_2, e_2_0, e_2_1, e_2_4, e_2_6, e_2_9, e_2_10, e_2_11, e_2_14, e_2_17, e_2_18, e_2_19, e_2_22, e_2_23, e_2_24, e_2_27, q56_0, q56_1, g56_0, g56_1, Option.bind_some]
  unfold ofF
  by_cases h1 : zB S 0 = -1000000005
  · rw [if_pos h1, if_pos (Or.inl h1)]; rfl
  · rw [if_neg h1]
    by_cases h2 : y < zB S 1
    · rw [if_neg (by rw [i_nle]; exact h2), if_pos (Or.inr h2)]; rfl
    · rw [if_pos (by rw [i_nlt] at h2; exact h2), if_neg (fun q => q.elim h1 h2)]; rfl
theorem X_chosen : Dn (d + 1) 3 [.ref 56, .int x] (CH h S) nx = some (some (.int (if x = 0 then zB S 0 else zB S 1)), CH h S, nx) := by
  simp only [n_3, e_3_0, e_3_1, e_3_4, e_3_5, e_3_8, e_3_11, e_3_12, e_3_15, g56_0, g56_1, Option.bind_some]
  by_cases h1 : x = 0
  · rw [if_pos h1, if_pos h1]
  · rw [if_neg h1, if_neg h1]
theorem X_becomes (hG : cG S s t) : Dn (d + 2) 23 [.ref 43, .ref 17] (CH h (sX S K D B)) nx = some (none, CH h (sX S K (bec D (zN S) s) B), nx) := TN_becomes (S := sX S K D B) hG.1
theorem X_hours {m : Nat} (hm : m < 2147483648) (hG : cG S s t) (ht : D.2.2 12 = nI t) (hD : dI D s) : ∃ K', Dn (d + 7) 85 [.ref 16, .ref 43, .int (nI m)] (CH h (sX S K D B)) nx = some (none, CH h (sX S K' (hrs (zL S) t s m D) B), nx) := T_hours (S := sB S B) hm hG.2.2 ht hD
theorem X_death {m : Nat} (hm : m < 2147483647) (hG : cG S s t) (ht : D.2.2 12 = nI t) (hD : dI D s) : ∃ K', Dn (d + 7) 89 [.ref 16, .int (nI m)] (CH h (sX S K D B)) nx = some (some (.int (fdF (zL S) t s ((zN S).2.2 8) m 1 D).1), CH h (sX S K' (fdF (zL S) t s ((zN S).2.2 8) m 1 D).2 B), nx) := c_firstDeath (S := sB S B) hm hG.2.2 ht hD
theorem X_share (hD : dI D s) : Dn (d + 1) 25 [.ref 43, .int x] (CH h (sX S K D B)) nx = some (none, CH h (sX S K (shF x s 0 D) B), nx) := T_shareOut (S := sX S K D B) hD.1 hD.2.1
theorem X_q1 (hi : i < 10) : pF (CH h (sX S K D B)) (46 + i) 7 1 (.int x) = some (CH h (sX S K (dW D i (upd (D.2.1 i) 1 x)) B)) := qTw1 (S := sX S K D B) hi
theorem X_q3 (hi : i < 10) : pF (CH h (sX S K D B)) (46 + i) 7 3 (.int x) = some (CH h (sX S K (dW D i (upd (D.2.1 i) 3 x)) B)) := qTw3 (S := sX S K D B) hi
theorem X_off : Dn (d + 1) 2 [.ref 56, .int x, .int y] (CH h (sX S K D B)) nx = some (none, CH h (sX S K D (ofF B x y)), nx) := X_offer (S := sX S K D B)
theorem X_N2 : gF (CH h (sX S K D B)) 17 1 2 = some (.int ((zN S).2.2 2)) := rfl
theorem X_T8 : gF (CH h (sX S K D B)) 43 1 8 = some (.int (D.2.2 8)) := rfl
theorem X_w5 (hi : i < 10) : gF (CH h (sX S K D B)) (20 + i) 7 5 = some (.int ((zN S).2.1 i 5)) := gNw5 (S := sX S K D B) hi
theorem X_w1 (hi : i < 10) : gF (CH h (sX S K D B)) (20 + i) 7 1 = some (.int ((zN S).2.1 i 1)) := gNw1 (S := sX S K D B) hi
/-- ENOUGH: from k cups on -/
def enF (L : LT) (t s m : Nat) (N : DT) : Nat → Nat → DT → Int32 × DT
  | 0, _, D => (-1000000005, D)
  | n + 1, k, D => if (fdF L t s (N.2.2 8) m 1 (shF (nI k) s 0 (bec D N s))).1 = -1000000005 then (nI k, (fdF L t s (N.2.2 8) m 1 (shF (nI k) s 0 (bec D N s))).2) else enF L t s m N n (k + 1) (fdF L t s (N.2.2 8) m 1 (shF (nI k) s 0 (bec D N s))).2
theorem enough_loop {m : Nat} (hm : m < 2147483647) (hG : cG S s t) (n : Nat) : ∀ (k : Nat) (D : DT) (K : Nat → Int32), k + n = 31 → ∃ K', Df (d + 7) 93 15 [.ref 16, .int (nI m), .int (nI k)] [] (CH h (sX S K D B)) nx = an (enF (zL S) t s m (zN S) n k D).1 h (sX S K' (enF (zL S) t s m (zN S) n k D).2 B) nx := by
  induction n with
  | zero =>
    intro k D K hk
    obtain rfl : k = 31 := by omega
    refine ⟨K, ?_⟩
    rw [e_93_15]
    simp only [e_93_16, e_93_18, e_93_21, e_93_22, e_93_25, e_93_26, e_93_29, e_93_32, e_93_33, e_93_36, e_93_37, e_93_40, e_93_41, e_93_42, e_93_45, e_93_47, e_93_50, e_93_51, e_93_52, e_93_55, e_93_58, e_93_60]
    rw [if_pos (by decide)]
    rfl
  | succ n ih =>
    intro k D K hk
    have hb := bec_dI (D := D) hG.1
    have hsh := shF_k (s := s) (nI k) s 0 (bec D (zN S) s) (by omega) hb
    obtain ⟨K1, e1⟩ := X_death (d := d) (h := h) (nx := nx) (K := K) (S := S) (B := B) (D := shF (nI k) s 0 (bec D (zN S) s)) hm hG (by rw [hsh.2]; exact bec_12 hG) hsh.1
    have hle : ¬ (30 : Int32) < nI k := nI_nlt (b := k) (a := 30) (by omega) (by omega)
    by_cases h1 : (fdF (zL S) t s ((zN S).2.2 8) m 1 (shF (nI k) s 0 (bec D (zN S) s))).1 = -1000000005
    · refine ⟨K1, ?_⟩
      rw [e_93_15]
      simp only [e_93_16, e_93_18, e_93_21, e_93_22, e_93_25, e_93_26, e_93_29, e_93_32, e_93_33, e_93_36, e_93_37, e_93_40, e_93_41, e_93_42, e_93_45, e_93_47, e_93_50, e_93_51, e_93_52, e_93_55, e_93_58, e_93_60, gO0, gO2, kTc, kT, if_true, X_becomes hG, X_share hb, e1, cn_v, cn_s, Option.bind_some, nI_1]
      unfold enF
      rw [if_neg hle, if_pos h1, if_pos h1]
      rfl
    · obtain ⟨K2, e2⟩ := ih (k + 1) (fdF (zL S) t s ((zN S).2.2 8) m 1 (shF (nI k) s 0 (bec D (zN S) s))).2 K1 (by omega)
      refine ⟨K2, ?_⟩
      rw [e_93_15]
      simp only [e_93_16, e_93_18, e_93_21, e_93_22, e_93_25, e_93_26, e_93_29, e_93_32, e_93_33, e_93_36, e_93_37, e_93_40, e_93_41, e_93_42, e_93_45, e_93_47, e_93_50, e_93_51, e_93_52, e_93_55, e_93_58, e_93_60, gO0, gO2, kTc, kT, if_true, X_becomes hG, X_share hb, e1, cn_v, cn_s, Option.bind_some, nI_1]
      unfold enF
      rw [if_neg hle, if_neg h1, if_neg h1]
      exact e2
theorem P_enough (hG : cG S s t) : ∃ K' T', Dn (d + 8) 93 [.ref 16, .int x] (CH h S) nx = if 1 ≤ x ∧ x ≤ 40 then an (enF (zL S) t s x.toNatClampNeg (zN S) 31 0 (zT S)).1 h (sT (sK S K') T') nx else an (-1000000001) h S nx := by
  by_cases h1 : 1 ≤ x ∧ x ≤ 40
  · obtain ⟨i, hi1, hi, rfl⟩ := idx1 (m := 40) h1 (by omega)
    rw [cl_nI (by omega)]
    obtain ⟨K', e⟩ := enough_loop (d := d) (h := h) (nx := nx) (S := S) (B := zB S) (m := i) (by omega) hG 31 0 (zT S) (zK S) (by omega)
    refine ⟨K', (enF (zL S) t s i (zN S) 31 0 (zT S)).2, ?_⟩
    rw [if_pos h1]
    simp only [n_93, e_93_0, e_93_1, e_93_2, e_93_4, e_93_7, e_93_10, e_93_12, e_93_13, e_93_14n, e_93_14i, e_93_14r, c_within, cn_s, cn_v, pi_if]
    rw [if_pos h1]
    exact e
  · refine ⟨zK S, zT S, ?_⟩
    rw [if_neg h1]
    simp only [n_93, e_93_0, e_93_1, e_93_2, e_93_4, e_93_7, e_93_10, e_93_12, c_within, cn_s, pi_if]
    rw [if_neg h1]; rfl
end P6
