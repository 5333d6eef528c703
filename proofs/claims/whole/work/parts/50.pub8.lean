/-! public methods over the whole heap: tells -/
section P8
variable {d : Nat} {h : AH} {nx : AN} {b lb i j s n c t g : Nat} {S : CS} {L : LT} {K B : Nat → Int32} {D E : DT} {x y z u : Int32} {l1 l2 l3 l4 l5 : Value} {w : Nat → Int32}
/-- the i-th walker of N is told of cell k, and m hours pass -/
def teD (L : LT) (t s m i : Nat) (N : DT) (k : Nat) (D : DT) : DT := hrs L t s m (dW (bec D N s) i (upd ((bec D N s).2.1 i) 3 (nI k)))
def teF (L : LT) (t s m i : Nat) (N : DT) : Nat → Nat → DT × (Nat → Int32) → DT × (Nat → Int32)
  | 0, _, p => p
  | n + 1, k, p => teF L t s m i N n (k + 1) (teD L t s m i N k p.1, ofF p.2 (nI k) ((teD L t s m i N k p.1).2.2 8))
theorem tells_loop {m : Nat} (hm : m < 2147483647) (hG : cG S s t) (hi : i < s) (n : Nat) : ∀ (k : Nat) (D : DT) (B K : Nat → Int32), k + n = 24 → ∃ K', Df (d + 7) 91 43 [.ref 16, .int (nI i), .int (nI m), .int x, .int (nI k)] [] (CH h (sX S K D B)) nx = an (if x = 0 then (teF (zL S) t s m i (zN S) n k (D, B)).2 0 else (teF (zL S) t s m i (zN S) n k (D, B)).2 1) h (sX S K' (teF (zL S) t s m i (zN S) n k (D, B)).1 (teF (zL S) t s m i (zN S) n k (D, B)).2) nx := by
  have hs10 := hG.1.2.1
  have hi10 : i < 10 := by omega
  induction n with
  | zero =>
    intro k D B K hk
    obtain rfl : k = 24 := by omega
    refine ⟨K, ?_⟩
    rw [e_91_43]
    simp only [e_91_45, e_91_47, e_91_106, e_91_107, e_91_110, e_91_111, e_91_114, gO3, k56, if_true, X_chosen, cn_s, Option.bind_some]
    rw [if_pos (by decide)]
    rfl
  | succ n ih =>
    intro k D B K hk
    have hb := (bec_dI (D := D) hG.1).kn (g := k) (by omega) i
    have h12 : (dW (bec D (zN S) s) i (upd ((bec D (zN S) s).2.1 i) 3 (nI k))).2.2 12 = nI t := by rw [dW_q]; exact bec_12 hG
    obtain ⟨K1, e1⟩ := X_hours (d := d) (h := h) (nx := nx) (K := K) (S := S) (B := B) (m := m) (by omega) hG h12 hb
    have e3 : Dn (d + 7) 85 [.ref 16, .ref 43, .int (nI m)] (CH h (sX S K (dW (bec D (zN S) s) i (upd ((bec D (zN S) s).2.1 i) 3 (nI k))) B)) nx = some (none, CH h (sX S K1 (teD (zL S) t s m i (zN S) k D) B), nx) := e1
    obtain ⟨K2, e2⟩ := ih (k + 1) (teD (zL S) t s m i (zN S) k D) (ofF B (nI k) ((teD (zL S) t s m i (zN S) k D).2.2 8)) K1 (by omega)
    refine ⟨K2, ?_⟩
    rw [e_91_43]
    simp only [e_91_45, e_91_47, e_91_50, e_91_51, e_91_54, e_91_55, e_91_58, e_91_61, e_91_62, e_91_65, e_91_68, e_91_69, e_91_70, e_91_72, e_91_75, e_91_76, e_91_77, e_91_80, e_91_81, e_91_84, e_91_85, e_91_88, e_91_90, e_91_91, e_91_94, e_91_97, e_91_100, e_91_103, gO0, gO2, gO3, gT1, rTr hi10, X_q3 hi10, X_T8, kTc, kT, k56, if_true, X_becomes hG, e3, X_off, cn_v, cn_s, Option.bind_some, nI_1]
    rw [if_neg (show ¬ (24 : Int32) ≤ nI k from nI_ge (b := 24) (a := k) (by omega) (by omega))]
    exact e2
theorem P_tells (hG : cG S s t) : ∃ K' T' B', Dn (d + 8) 91 [.ref 16, .int x, .int y, .int z] (CH h S) nx = if (0 ≤ x ∧ x < nI s) ∧ (1 ≤ y ∧ y ≤ 40) ∧ (0 ≤ z ∧ z ≤ 1) then an (if z = 0 then (teF (zL S) t s y.toNatClampNeg x.toNatClampNeg (zN S) 24 0 (zT S, upd (upd (zB S) 0 (-1000000005)) 1 (-1000000005))).2 0 else (teF (zL S) t s y.toNatClampNeg x.toNatClampNeg (zN S) 24 0 (zT S, upd (upd (zB S) 0 (-1000000005)) 1 (-1000000005))).2 1) h (sX S K' T' B') nx else an (-1000000001) h S nx := by
  have hs := hG.1.1
  have hs10 := hG.1.2.1
  by_cases h0 : 0 ≤ x ∧ x < nI s
  · by_cases h1 : 1 ≤ y ∧ y ≤ 40
    · by_cases h2 : 0 ≤ z ∧ z ≤ 1
      · obtain ⟨j, hj, rfl⟩ := idx h0 (by omega)
        obtain ⟨i, hi1, hi, rfl⟩ := idx1 (m := 40) h1 (by omega)
        rw [cl_nI (by omega), cl_nI (by omega)]
        obtain ⟨K', e⟩ := tells_loop (d := d) (h := h) (nx := nx) (S := S) (x := z) (m := i) (i := j) (by omega) hG hj 24 0 (zT S) (upd (upd (zB S) 0 (-1000000005)) 1 (-1000000005)) (zK S) (by omega)
        refine ⟨K', (teF (zL S) t s i j (zN S) 24 0 (zT S, upd (upd (zB S) 0 (-1000000005)) 1 (-1000000005))).1, (teF (zL S) t s i j (zN S) 24 0 (zT S, upd (upd (zB S) 0 (-1000000005)) 1 (-1000000005))).2, ?_⟩
        have ha : (0 ≤ nI j ∧ nI j < nI s) ∧ (1 ≤ nI i ∧ nI i ≤ 40) ∧ (0 ≤ z ∧ z ≤ 1) := ⟨h0, h1, h2⟩
        rw [if_pos ha]
        simp only [n_91, e_91_0, e_91_1, e_91_4, e_91_5, e_91_8, e_91_11, e_91_12, e_91_13, e_91_15, e_91_18, e_91_21, e_91_22, e_91_23, e_91_24, e_91_27, e_91_30, e_91_32, e_91_33, e_91_34, e_91_37, e_91_40, e_91_41n, e_91_41i, e_91_41r, c_within, cn_s, cn_v, pi_if, gO0, gO3, kNc, k56, if_true, N_has hs hs10, X_starts, Option.bind_some]
        rw [if_pos h0, if_pos h1, if_pos h2]
        exact e
      · refine ⟨zK S, zT S, zB S, ?_⟩
        rw [if_neg (fun q => h2 q.2.2)]
        simp only [n_91, e_91_0, e_91_1, e_91_4, e_91_5, e_91_8, e_91_11, e_91_12, e_91_13, e_91_15, e_91_18, e_91_21, e_91_22, e_91_23, e_91_24, e_91_27, e_91_30, e_91_32, c_within, cn_s, pi_if, gO0, kNc, if_true, N_has hs hs10, Option.bind_some]
        rw [if_pos h0, if_pos h1, if_neg h2]; rfl
    · refine ⟨zK S, zT S, zB S, ?_⟩
      rw [if_neg (fun q => h1 q.2.1)]
      simp only [n_91, e_91_0, e_91_1, e_91_4, e_91_5, e_91_8, e_91_11, e_91_12, e_91_13, e_91_15, e_91_18, e_91_21, e_91_22, e_91_23, e_91_24, e_91_27, e_91_30, e_91_32, c_within, cn_s, pi_if, gO0, kNc, if_true, N_has hs hs10, Option.bind_some]
      rw [if_pos h0, if_neg h1]; rfl
  · refine ⟨zK S, zT S, zB S, ?_⟩
    rw [if_neg (fun q => h0 q.1)]
    simp only [n_91, e_91_0, e_91_1, e_91_4, e_91_5, e_91_8, e_91_11, e_91_12, e_91_13, e_91_15, e_91_18, e_91_21, e_91_22, e_91_23, e_91_24, e_91_27, e_91_30, e_91_32, c_within, cn_s, pi_if, gO0, kNc, if_true, N_has hs hs10, Option.bind_some]
    rw [if_neg h0]; rfl
end P8
