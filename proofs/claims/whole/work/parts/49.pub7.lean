/-! public methods over the whole heap: salted, tells -/
section P7
variable {d : Nat} {h : AH} {nx : AN} {b lb i j s n c t g : Nat} {S : CS} {L : LT} {K B : Nat → Int32} {D E : DT} {x y z u : Int32} {l1 l2 l3 l4 l5 : Value} {w : Nat → Int32}
theorem dW_q (D : DT) (k : Nat) (w : Nat → Int32) : (dW D k w).2.2 = D.2.2 := rfl
theorem dI.kn (hD : dI D s) (hg : g < 25) (k : Nat) : dI (dW D k (upd (D.2.1 k) 3 (nI g))) s := by
  obtain ⟨a1, a2, a3, a4, a5⟩ := hD
  refine ⟨a1, a2, a3, fun i hi => ?_, fun i hi => ?_⟩
  · show ∃ g', updW D.2.1 k _ i 3 = _ ∧ _
    by_cases e : i = k
    · subst e
      exact ⟨g, by rw [show updW D.2.1 i (upd (D.2.1 i) 3 (nI g)) i = upd (D.2.1 i) 3 (nI g) from if_pos rfl]; rfl, hg⟩
    · rw [show updW D.2.1 k (upd (D.2.1 k) 3 (nI g)) i = D.2.1 i from if_neg e]; exact a4 i hi
  · show updW D.2.1 k _ i 5 = 0 ∨ updW D.2.1 k _ i 5 = 1
    by_cases e : i = k
    · subst e
      rw [show updW D.2.1 i (upd (D.2.1 i) 3 (nI g)) i = upd (D.2.1 i) 3 (nI g) from if_pos rfl]; exact a5 i hi
    · rw [show updW D.2.1 k (upd (D.2.1 k) 3 (nI g)) i = D.2.1 i from if_neg e]; exact a5 i hi
/-- a walker of N is salted, and m hours pass -/
def saD (L : LT) (t s m : Nat) (N : DT) (k : Nat) (D : DT) : DT := hrs L t s m (dW (bec D N s) k (upd ((bec D N s).2.1 k) 1 (if N.2.1 k 1 + 30 < 99 then N.2.1 k 1 + 30 else 99)))
def saF (L : LT) (t s m : Nat) (N : DT) : Nat → Nat → DT × (Nat → Int32) → DT × (Nat → Int32)
  | 0, _, p => p
  | n + 1, k, p => saF L t s m N n (k + 1) (if N.2.1 k 5 = 0 then p else (saD L t s m N k p.1, ofF p.2 (nI k) ((saD L t s m N k p.1).2.2 8)))
theorem salted_loop {m : Nat} (hm : m < 2147483647) (hG : cG S s t) (n : Nat) : ∀ (k : Nat) (D : DT) (B K : Nat → Int32), k + n = s → ∃ K', Df (d + 7) 90 31 [.ref 16, .int (nI m), .int x, .int (nI k)] [] (CH h (sX S K D B)) nx = an (if x = 0 then (saF (zL S) t s m (zN S) n k (D, B)).2 0 else (saF (zL S) t s m (zN S) n k (D, B)).2 1) h (sX S K' (saF (zL S) t s m (zN S) n k (D, B)).1 (saF (zL S) t s m (zN S) n k (D, B)).2) nx := by
  have hs := hG.1.1
  have hs10 := hG.1.2.1
  induction n with
  | zero =>
    intro k D B K hk
    obtain rfl : k = s := by omega
    refine ⟨K, ?_⟩
    rw [e_90_31]
    simp only [e_90_32, e_90_33, e_90_36, e_90_39, e_90_130, e_90_131, e_90_134, e_90_135, e_90_138, gO0, gO3, X_N2, hs, k56, if_true, X_chosen, cn_s, Option.bind_some]
    rw [if_pos (nI_le (Nat.le_refl _) (by omega))]
    rfl
  | succ n ih =>
    intro k D B K hk
    have hk10 : k < 10 := by omega
    by_cases h1 : (zN S).2.1 k 5 = 0
    · obtain ⟨K2, e2⟩ := ih (k + 1) D B K (by omega)
      refine ⟨K2, ?_⟩
      rw [e_90_31]
      simp only [e_90_32, e_90_33, e_90_36, e_90_39, e_90_42, e_90_43, e_90_46, e_90_49, e_90_50, e_90_51, e_90_54, e_90_124, e_90_127, gO0, gN1, rNr hk10, X_w5 hk10, X_N2, hs, Option.bind_some, nI_1]
      rw [if_neg (nI_ge (by omega) (by omega)), if_pos h1]
      unfold saF
      rw [if_pos h1]
      exact e2
    · have hb := bec_dI (D := D) hG.1
      have hw : dI (dW (bec D (zN S) s) k (upd ((bec D (zN S) s).2.1 k) 1 (if (zN S).2.1 k 1 + 30 < 99 then (zN S).2.1 k 1 + 30 else 99))) s := hb.wk (w := upd ((bec D (zN S) s).2.1 k) 1 _) k rfl (hb.2.2.2.2 k (by omega))
      have h12 : (dW (bec D (zN S) s) k (upd ((bec D (zN S) s).2.1 k) 1 (if (zN S).2.1 k 1 + 30 < 99 then (zN S).2.1 k 1 + 30 else 99))).2.2 12 = nI t := by rw [dW_q]; exact bec_12 hG
      obtain ⟨K1, e1⟩ := X_hours (d := d) (h := h) (nx := nx) (K := K) (S := S) (B := B) (m := m) (by omega) hG h12 hw
      have e3 : Dn (d + 7) 85 [.ref 16, .ref 43, .int (nI m)] (CH h (sX S K (dW (bec D (zN S) s) k (upd ((bec D (zN S) s).2.1 k) 1 (if (zN S).2.1 k 1 + 30 < 99 then (zN S).2.1 k 1 + 30 else 99))) B)) nx = some (none, CH h (sX S K1 (saD (zL S) t s m (zN S) k D) B), nx) := e1
      obtain ⟨K2, e2⟩ := ih (k + 1) (saD (zL S) t s m (zN S) k D) (ofF B (nI k) ((saD (zL S) t s m (zN S) k D).2.2 8)) K1 (by omega)
      refine ⟨K2, ?_⟩
      rw [e_90_31]
      simp only [e_90_32, e_90_33, e_90_36, e_90_39, e_90_42, e_90_43, e_90_46, e_90_49, e_90_50, e_90_51, e_90_54, e_90_57, e_90_58, e_90_61, e_90_62, e_90_65, e_90_68, e_90_69, e_90_72, e_90_75, e_90_76, e_90_77, e_90_79, e_90_80, e_90_83, e_90_86, e_90_87, e_90_88, e_90_91, e_90_93, e_90_94, e_90_97, e_90_100, e_90_101, e_90_102, e_90_105, e_90_106, e_90_109, e_90_110, e_90_113, e_90_114, e_90_115, e_90_118, e_90_121, e_90_124, e_90_127, gO0, gO2, gO3, gN1, gT1, rNr hk10, rTr hk10, X_w5 hk10, X_w1 hk10, X_q1 hk10, X_N2, X_T8, hs, kTc, kT, k56, if_true, X_becomes hG, c_min, e3, X_off, cn_v, cn_s, Option.bind_some, nI_1]
      rw [if_neg (nI_ge (by omega) (by omega)), if_neg h1]
      unfold saF
      rw [if_neg h1]
      exact e2
theorem P_salted (hG : cG S s t) : ∃ K' T' B', Dn (d + 8) 90 [.ref 16, .int x, .int y] (CH h S) nx = if (1 ≤ x ∧ x ≤ 60) ∧ (0 ≤ y ∧ y ≤ 1) then an (if y = 0 then (saF (zL S) t s x.toNatClampNeg (zN S) s 0 (zT S, upd (upd (zB S) 0 (-1000000005)) 1 (-1000000005))).2 0 else (saF (zL S) t s x.toNatClampNeg (zN S) s 0 (zT S, upd (upd (zB S) 0 (-1000000005)) 1 (-1000000005))).2 1) h (sX S K' T' B') nx else an (-1000000001) h S nx := by
  by_cases h1 : 1 ≤ x ∧ x ≤ 60
  · by_cases h2 : 0 ≤ y ∧ y ≤ 1
    · obtain ⟨i, hi1, hi, rfl⟩ := idx1 (m := 60) h1 (by omega)
      rw [cl_nI (by omega)]
      obtain ⟨K', e⟩ := salted_loop (d := d) (h := h) (nx := nx) (S := S) (x := y) (m := i) (by omega) hG s 0 (zT S) (upd (upd (zB S) 0 (-1000000005)) 1 (-1000000005)) (zK S) (by omega)
      refine ⟨K', (saF (zL S) t s i (zN S) s 0 (zT S, upd (upd (zB S) 0 (-1000000005)) 1 (-1000000005))).1, (saF (zL S) t s i (zN S) s 0 (zT S, upd (upd (zB S) 0 (-1000000005)) 1 (-1000000005))).2, ?_⟩
      have ha : (1 ≤ nI i ∧ nI i ≤ 60) ∧ (0 ≤ y ∧ y ≤ 1) := ⟨h1, h2⟩
      rw [if_pos ha]
      simp only [n_90, e_90_0, e_90_1, e_90_2, e_90_4, e_90_7, e_90_10, e_90_11, e_90_12, e_90_13, e_90_16, e_90_19, e_90_21, e_90_22, e_90_23, e_90_26, e_90_29, e_90_30n, e_90_30i, e_90_30r, c_within, cn_s, cn_v, pi_if, gO3, k56, if_true, X_starts, Option.bind_some]
      rw [if_pos h1, if_pos h2]
      exact e
    · refine ⟨zK S, zT S, zB S, ?_⟩
      rw [if_neg (fun q => h2 q.2)]
      simp only [n_90, e_90_0, e_90_1, e_90_2, e_90_4, e_90_7, e_90_10, e_90_11, e_90_12, e_90_13, e_90_16, e_90_19, e_90_21, c_within, cn_s, pi_if]
      rw [if_pos h1, if_neg h2]; rfl
  · refine ⟨zK S, zT S, zB S, ?_⟩
    rw [if_neg (fun q => h1 q.1)]
    simp only [n_90, e_90_0, e_90_1, e_90_2, e_90_4, e_90_7, e_90_10, e_90_11, e_90_12, e_90_13, e_90_16, e_90_19, e_90_21, c_within, cn_s, pi_if]
    rw [if_neg h1]; rfl
end P7
