/-! public methods over the whole heap: what will be, second part -/
section P5
variable {d : Nat} {h : AH} {nx : AN} {b lb i j s n c t g : Nat} {S : CS} {L : LT} {K : Nat → Int32} {D E : DT} {x y z u : Int32} {l1 l2 l3 l4 l5 : Value} {w : Nat → Int32}
theorem shF_k (x : Int32) : ∀ (n k : Nat) (D : DT), k + n = s → dI D s → dI (shF x n k D) s ∧ (shF x n k D).2.2 = D.2.2
  | 0, _, D, _, hD => ⟨hD, rfl⟩
  | n + 1, k, D, hk, hD => by
    unfold shF
    by_cases e : D.2.1 k 5 = 0
    · rw [if_pos e]; exact shF_k x n (k + 1) D (by omega) hD
    · rw [if_neg e]
      have h1 : dI (dW D k (upd (D.2.1 k) 2 x)) s := hD.wk (w := upd (D.2.1 k) 2 x) k rfl (hD.2.2.2.2 k (by omega))
      have h2 := shF_k x n (k + 1) _ (by omega) h1
      exact ⟨h2.1, h2.2⟩
theorem P_behind (hG : cG S s t) : ∃ K' T', Dn (d + 8) 87 [.ref 16, .int x, .int y] (CH h S) nx = if (0 ≤ x ∧ x ≤ 100) ∧ (0 ≤ y ∧ y ≤ 2 + nI s) then an (if y = 0 then (hrs (zL S) t s x.toNatClampNeg (bec (zT S) (zN S) s)).2.2 3 else if y = 1 then (hrs (zL S) t s x.toNatClampNeg (bec (zT S) (zN S) s)).2.2 8 else if y = 2 then lvg (hrs (zL S) t s x.toNatClampNeg (bec (zT S) (zN S) s)).2.1 s else (hrs (zL S) t s x.toNatClampNeg (bec (zT S) (zN S) s)).2.1 (y - 3).toNatClampNeg 1) h (sT (sK S K') T') nx else an (-1000000001) h S nx := by
  have hs := hG.1.1
  have hs10 := hG.1.2.1
  by_cases h1 : 0 ≤ x ∧ x ≤ 100
  · by_cases h2 : 0 ≤ y ∧ y ≤ 2 + nI s
    · obtain ⟨i, hi, rfl⟩ := idxle (m := 100) h1 (by omega)
      rw [cl_nI (by omega)]
      have h2' : 0 ≤ y ∧ y ≤ nI (2 + s) := by rw [← nI_add]; exact h2
      obtain ⟨j, hj, rfl⟩ := idxle h2' (by omega)
      obtain ⟨K', e⟩ := T_hours (d := d) (h := h) (nx := nx) (S := S) (m := i) (K := zK S) (D := bec (zT S) (zN S) s) (by omega) hG.2.2 (bec_12 hG) (bec_dI hG.1)
      have e2 : Dn (d + 7) 85 [.ref 16, .ref 43, .int (nI i)] (CH h (sT S (bec (zT S) (zN S) s))) nx = _ := e
      have hk := hrs_k (L := zL S) (t := t) i _ (bec_dI (D := zT S) hG.1)
      generalize hrs (zL S) t s i (bec (zT S) (zN S) s) = T at e e2 hk ⊢
      refine ⟨K', T, ?_⟩
      have ha : (0 ≤ nI i ∧ nI i ≤ 100) ∧ (0 ≤ nI j ∧ nI j ≤ 2 + nI s) := ⟨h1, h2⟩
      have h3 : (zT (sT (sK S K') T)).2.2 2 = nI s := hk.1.1
      rw [if_pos ha]
      simp only [n_87, e_87_0, e_87_1, e_87_2, e_87_4, e_87_7, e_87_10, e_87_11, e_87_12, e_87_13, e_87_14, e_87_17, e_87_20, e_87_21, e_87_24, e_87_27, e_87_29, e_87_30, e_87_31, e_87_34, e_87_35, e_87_38, e_87_41, e_87_42, e_87_43, e_87_46, e_87_47, e_87_50, e_87_51, e_87_76, e_87_77, e_87_80, e_87_83, e_87_84, e_87_85, e_87_88, e_87_91, e_87_92, e_87_93, e_87_96, e_87_99, e_87_100, e_87_101, e_87_104, e_87_105, e_87_106, e_87_107, e_87_110, c_within, cn_s, cn_v, pi_if, gO0, gO2, gN2, hs, kTc, kT, if_true, TN_becomes hG.1, e2, gT3, gT8, T_living h3 hs10, Option.bind_some]
      rw [if_pos h1, if_pos h2]
      by_cases j0 : nI j = 0
      · rw [if_pos j0, if_pos j0]; rfl
      rw [if_neg j0, if_neg j0]
      by_cases j1 : nI j = 1
      · rw [if_pos j1, if_pos j1]; rfl
      rw [if_neg j1, if_neg j1]
      by_cases j2 : nI j = 2
      · rw [if_pos j2, if_pos j2]; rfl
      rw [if_neg j2, if_neg j2]
      have j3 : 3 ≤ j := by
        rcases j with _ | _ | _ | j
        · exact absurd rfl j0
        · exact absurd rfl j1
        · exact absurd rfl j2
        · omega
      have ej : nI j - 3 = nI (j - 3) := nI_sub (b := 3) j3
      rw [ej, cl_nI (by omega), T_thirstOf h3 hs10 (show j - 3 < s by omega)]
      rw [cn_s, e_87_110]
      rfl
    · refine ⟨zK S, zT S, ?_⟩
      rw [if_neg (fun q => h2 q.2)]
      simp only [n_87, e_87_0, e_87_1, e_87_2, e_87_4, e_87_7, e_87_10, e_87_11, e_87_12, e_87_13, e_87_14, e_87_17, e_87_20, e_87_21, e_87_24, e_87_27, e_87_29, c_within, cn_s, pi_if, gO0, gN2, hs, Option.bind_some]
      rw [if_pos h1, if_neg h2]; rfl
  · refine ⟨zK S, zT S, ?_⟩
    rw [if_neg (fun q => h1 q.1)]
    simp only [n_87, e_87_0, e_87_1, e_87_2, e_87_4, e_87_7, e_87_10, e_87_11, e_87_12, e_87_13, e_87_14, e_87_17, e_87_20, e_87_21, e_87_24, e_87_27, e_87_29, c_within, cn_s, pi_if, gO0, gN2, hs, Option.bind_some]
    rw [if_neg h1]; rfl
/-- cells of the leader's way -/
def shwF (L : LT) (t s : Nat) : Nat → Int32 → DT → Int32 × DT
  | 0, x, D => (x, D)
  | n + 1, x, D => shwF L t s n (x ||| ((1 : Int32) <<< ((hrF L t s True D).2.2 3 &&& 31))) (hrF L t s True D)
theorem shown_loop {m : Nat} (hm : m < 2147483647) (hL : okL (zL S) t) (n : Nat) : ∀ (k : Nat) (x : Int32) (D : DT) (K : Nat → Int32), D.2.2 12 = nI t → dI D s → k + n = m → ∃ K', Df (d + 6) 94 28 [.ref 16, .int (nI m), .int x, .int (nI k)] [] (CH h (sT (sK S K) D)) nx = an (shwF (zL S) t s n x D).1 h (sT (sK S K') (shwF (zL S) t s n x D).2) nx := by
  induction n with
  | zero =>
    intro k x D K ht hD hk
    obtain rfl : k = m := by omega
    refine ⟨K, ?_⟩
    rw [e_94_28]
    simp only [e_94_29, e_94_30, e_94_33, e_94_34, e_94_37, e_94_38, e_94_41, e_94_42, e_94_45, e_94_46, e_94_47, e_94_48, e_94_51, e_94_54, e_94_55, e_94_56n, e_94_56i, e_94_56r, e_94_57, e_94_60, e_94_63, e_94_64]
    rw [if_pos (nI_le (Nat.le_refl _) (by omega))]
    rfl
  | succ n ih =>
    intro k x D K ht hD hk
    obtain ⟨K1, e1⟩ := T_hour (d := d) (h := h) (nx := nx) (K := K) (S := S) hL ht hD True
    have hk2 := hrF_k (L := zL S) (t := t) True hD
    rw [pi_T] at e1
    obtain ⟨K2, e2⟩ := ih (k + 1) (x ||| ((1 : Int32) <<< ((hrF (zL S) t s True D).2.2 3 &&& 31))) (hrF (zL S) t s True D) K1 (hk2.2.trans ht) hk2.1 (by omega)
    refine ⟨K2, ?_⟩
    rw [e_94_28]
    simp only [e_94_29, e_94_30, e_94_33, e_94_34, e_94_37, e_94_38, e_94_41, e_94_42, e_94_45, e_94_46, e_94_47, e_94_48, e_94_51, e_94_54, e_94_55, e_94_56n, e_94_56i, e_94_56r, e_94_57, e_94_60, e_94_63, e_94_64, gO2, gO4, kTc, if_true, e1, cn_v, gT3, Option.bind_some, nI_1]
    rw [if_neg (nI_ge (by omega) (by omega))]
    exact e2
theorem P_shown (hG : cG S s t) : ∃ K' T', Dn (d + 7) 94 [.ref 16, .int x] (CH h S) nx = if 1 ≤ x ∧ x ≤ 100 then an (shwF (zL S) t s x.toNatClampNeg 0 (bec (zT S) (zN S) s)).1 h (sT (sK S K') T') nx else an (-1000000001) h S nx := by
  by_cases h1 : 1 ≤ x ∧ x ≤ 100
  · obtain ⟨i, hi1, hi, rfl⟩ := idx1 (m := 100) h1 (by omega)
    rw [cl_nI (by omega)]
    obtain ⟨K', e⟩ := shown_loop (d := d) (h := h) (nx := nx) (S := S) (m := i) (by omega) hG.2.2 i 0 0 (bec (zT S) (zN S) s) (zK S) (bec_12 hG) (bec_dI hG.1) (by omega)
    refine ⟨K', (shwF (zL S) t s i 0 (bec (zT S) (zN S) s)).2, ?_⟩
    rw [if_pos h1]
    simp only [n_94, e_94_0, e_94_1, e_94_2, e_94_4, e_94_7, e_94_10, e_94_12, e_94_13, e_94_14, e_94_17, e_94_18, e_94_21, e_94_24, e_94_25n, e_94_25i, e_94_25r, e_94_26, e_94_27n, e_94_27i, e_94_27r, c_within, cn_s, cn_v, pi_if, gO0, gO2, kTc, if_true, TN_becomes hG.1, Option.bind_some]
    rw [if_pos h1]
    exact e
  · refine ⟨zK S, zT S, ?_⟩
    rw [if_neg h1]
    simp only [n_94, e_94_0, e_94_1, e_94_2, e_94_4, e_94_7, e_94_10, e_94_12, c_within, cn_s, pi_if]
    rw [if_neg h1]; rfl
/-- hours that nobody leads -/
def hrn (L : LT) (t s : Nat) : Nat → DT → DT
  | 0, D => D
  | n + 1, D => hrn L t s n (hrF L t s False D)
theorem custom_loop {m : Nat} (hm : m < 2147483647) (hL : okL (zL S) t) (n : Nat) : ∀ (k : Nat) (D : DT) (K : Nat → Int32), D.2.2 12 = nI t → dI D s → k + n = m → ∃ K', Df (d + 6) 92 54 [.ref 16, .int (nI m), .int x, .int (nI k)] [] (CH h (sT (sK S K) D)) nx = an (x - (hrn (zL S) t s n D).2.2 8) h (sT (sK S K') (hrn (zL S) t s n D)) nx := by
  induction n with
  | zero =>
    intro k D K ht hD hk
    obtain rfl : k = m := by omega
    refine ⟨K, ?_⟩
    rw [e_92_54]
    simp only [e_92_55, e_92_56, e_92_59, e_92_60, e_92_63, e_92_64, e_92_67, e_92_68, e_92_71, e_92_74, e_92_77, e_92_78, e_92_79, e_92_82, e_92_85, e_92_86, gO2, gT8, Option.bind_some]
    rw [if_pos (nI_le (Nat.le_refl _) (by omega))]
    rfl
  | succ n ih =>
    intro k D K ht hD hk
    obtain ⟨K1, e1⟩ := T_hour (d := d) (h := h) (nx := nx) (K := K) (S := S) hL ht hD False
    have hk2 := hrF_k (L := zL S) (t := t) False hD
    rw [pi_F] at e1
    obtain ⟨K2, e2⟩ := ih (k + 1) (hrF (zL S) t s False D) K1 (hk2.2.trans ht) hk2.1 (by omega)
    refine ⟨K2, ?_⟩
    rw [e_92_54]
    simp only [e_92_55, e_92_56, e_92_59, e_92_60, e_92_63, e_92_64, e_92_67, e_92_68, e_92_71, e_92_74, gO2, gO4, kTc, if_true, e1, cn_v, Option.bind_some, nI_1]
    rw [if_neg (nI_ge (by omega) (by omega))]
    exact e2
theorem P_custom (hG : cG S s t) : ∃ K' T', Dn (d + 8) 92 [.ref 16, .int x] (CH h S) nx = if 1 ≤ x ∧ x ≤ 60 then an ((hrs (zL S) t s x.toNatClampNeg (bec (zT S) (zN S) s)).2.2 8 - (hrn (zL S) t s x.toNatClampNeg (bec (hrs (zL S) t s x.toNatClampNeg (bec (zT S) (zN S) s)) (zN S) s)).2.2 8) h (sT (sK S K') T') nx else an (-1000000001) h S nx := by
  by_cases h1 : 1 ≤ x ∧ x ≤ 60
  · obtain ⟨i, hi1, hi, rfl⟩ := idx1 (m := 60) h1 (by omega)
    rw [cl_nI (by omega)]
    obtain ⟨K1, e1⟩ := T_hours (d := d) (h := h) (nx := nx) (S := S) (m := i) (K := zK S) (D := bec (zT S) (zN S) s) (by omega) hG.2.2 (bec_12 hG) (bec_dI hG.1)
    have e2 : Dn (d + 7) 85 [.ref 16, .ref 43, .int (nI i)] (CH h (sT S (bec (zT S) (zN S) s))) nx = _ := e1
    generalize hrs (zL S) t s i (bec (zT S) (zN S) s) = T at e1 e2 ⊢
    obtain ⟨K', e⟩ := custom_loop (d := d + 1) (h := h) (nx := nx) (S := S) (m := i) (x := T.2.2 8) (by omega) hG.2.2 i 0 (bec T (zN S) s) K1 (bec_12 hG) (bec_dI hG.1) (by omega)
    refine ⟨K', hrn (zL S) t s i (bec T (zN S) s), ?_⟩
    have e3 := TN_becomes (d := d + 5) (h := h) (nx := nx) (S := sT (sK S K1) T) (s := s) hG.1
    rw [if_pos h1]
    simp only [n_92, e_92_0, e_92_1, e_92_2, e_92_4, e_92_7, e_92_10, e_92_12, e_92_13, e_92_14, e_92_17, e_92_18, e_92_21, e_92_24, e_92_25, e_92_26, e_92_29, e_92_30, e_92_33, e_92_34, e_92_37, e_92_40n, e_92_40i, e_92_40r, e_92_41, e_92_42, e_92_45, e_92_46, e_92_49, e_92_52, e_92_53n, e_92_53i, e_92_53r, c_within, cn_s, cn_v, pi_if, gO0, gO2, gT8, kTc, kT, if_true, TN_becomes hG.1, e2, e3, Option.bind_some]
    rw [if_pos h1]
    exact e
  · refine ⟨zK S, zT S, ?_⟩
    rw [if_neg h1]
    simp only [n_92, e_92_0, e_92_1, e_92_2, e_92_4, e_92_7, e_92_10, e_92_12, c_within, cn_s, pi_if]
    rw [if_neg h1]; rfl
end P5
