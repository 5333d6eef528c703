/-! public methods over the whole heap: what will be -/
section P4
variable {d : Nat} {h : AH} {nx : AN} {b lb i j s n c t g : Nat} {S : CS} {L : LT} {K : Nat → Int32} {D E : DT} {x y z u : Int32} {l1 l2 l3 l4 l5 : Value} {w : Nat → Int32}
theorem bcW_1 : ∀ (n k : Nat) (D : DT), (bcW E n k D).1 = D.1
  | 0, _, _ => rfl
  | n + 1, k, D => bcW_1 n (k + 1) _
theorem bcW_w : ∀ (n k : Nat) (D : DT) (i : Nat), (bcW E n k D).2.1 i = if k ≤ i ∧ i < k + n then E.2.1 i else D.2.1 i
  | 0, k, D, i => by rw [if_neg (by omega)]; rfl
  | n + 1, k, D, i => by
    show (bcW E n (k + 1) (dW D k (E.2.1 k))).2.1 i = _
    rw [bcW_w n (k + 1)]
    by_cases e : i = k
    · subst e
      rw [if_neg (by omega), if_pos (by omega)]
      exact if_pos rfl
    · by_cases e2 : k ≤ i ∧ i < k + (n + 1)
      · rw [if_pos e2, if_pos (by omega)]
      · rw [if_neg e2, if_neg (by omega)]
        exact if_neg e
theorem bec_w (hi : i < s) : (bec D E s).2.1 i = E.2.1 i := by
  show (bcW E s 0 _).2.1 i = _
  rw [bcW_w, if_pos (by omega)]
theorem bec_c (hc : c < 24) : (bec D E s).1 c = E.1 c := by
  show (bcW E s 0 _).1 c = _
  rw [bcW_1]
  show va_cpy E.1 D.1 0 0 24 c = _
  unfold va_cpy
  rw [if_pos (by omega), Nat.zero_add, Nat.sub_zero]
theorem bec_q (hj : 2 ≤ j) (hj2 : j < 13) : (bec D E s).2.2 j = E.2.2 j := by
  obtain ⟨k, rfl⟩ : ∃ k, j = k + 2 := ⟨j - 2, by omega⟩
  have : k < 11 := by omega
  rcases k with _ | _ | _ | _ | _ | _ | _ | _ | _ | _ | _ | k
  all_goals first | rfl | omega
theorem bec_dI (hE : dI E s) : dI (bec D E s) s := by
  obtain ⟨a1, a2, a3, a4, a5⟩ := hE
  refine ⟨?_, a2, ?_, fun i hi => ?_, fun i hi => ?_⟩
  · rw [bec_q (by omega) (by omega)]; exact a1
  · rw [bec_q (by omega) (by omega)]; exact a3
  · rw [bec_w hi]; exact a4 i hi
  · rw [bec_w hi]; exact a5 i hi
/-- what the class keeps between two calls, first part: the deserts and the laws -/
def cG (S : CS) (s t : Nat) : Prop := dI (zN S) s ∧ (zN S).2.2 12 = nI t ∧ okL (zL S) t
theorem bec_12 (hG : cG S s t) : (bec D (zN S) s).2.2 12 = nI t := by rw [bec_q (by omega) (by omega)]; exact hG.2.1
/-- when the first dies: hours of the thought, and where the thought ends -/
def fdF (L : LT) (t s : Nat) (q : Int32) : Nat → Nat → DT → Int32 × DT
  | 0, _, D => (-1000000005, D)
  | n + 1, k, D => if q < (hrF L t s True D).2.2 8 then (nI k, hrF L t s True D) else fdF L t s q n (k + 1) (hrF L t s True D)
theorem death_loop {m : Nat} (hm : m < 2147483647) (hL : okL (zL S) t) (n : Nat) : ∀ (k : Nat) (D : DT) (K : Nat → Int32), D.2.2 12 = nI t → dI D s → k + n = m + 1 → ∃ K', Df (d + 6) 89 2 [.ref 16, .int (nI m), .int (nI k)] [] (CH h (sT (sK S K) D)) nx = an (fdF (zL S) t s ((zN S).2.2 8) n k D).1 h (sT (sK S K') (fdF (zL S) t s ((zN S).2.2 8) n k D).2) nx := by
  induction n with
  | zero =>
    intro k D K ht hD hk
    obtain rfl : k = m + 1 := by omega
    refine ⟨K, ?_⟩
    rw [e_89_2]
    simp only [e_89_0, e_89_1n, e_89_1i, e_89_1r, e_89_3, e_89_4, e_89_7, e_89_8, e_89_11, e_89_12, e_89_15, e_89_16, e_89_19, e_89_20, e_89_23, e_89_26, e_89_27, e_89_30, e_89_33, e_89_36, e_89_37, e_89_38, e_89_41, e_89_44, e_89_46]
    rw [if_pos (nI_lt (by omega) (by omega))]
    rfl
  | succ n ih =>
    intro k D K ht hD hk
    obtain ⟨K1, e1⟩ := T_hour (d := d) (h := h) (nx := nx) (K := K) (S := S) hL ht hD True
    have hk2 := hrF_k (L := zL S) (t := t) True hD
    rw [pi_T] at e1
    by_cases h1 : (zN S).2.2 8 < (hrF (zL S) t s True D).2.2 8
    · refine ⟨K1, ?_⟩
      rw [e_89_2]
      simp only [e_89_0, e_89_1n, e_89_1i, e_89_1r, e_89_3, e_89_4, e_89_7, e_89_8, e_89_11, e_89_12, e_89_15, e_89_16, e_89_19, e_89_20, e_89_23, e_89_26, e_89_27, e_89_30, e_89_33, e_89_36, e_89_37, e_89_38, e_89_41, e_89_44, e_89_46, gO0, gO2, gO4, kTc, if_true, e1, cn_v, gT8, gN8, Option.bind_some, nI_1]
      unfold fdF
      rw [if_pos h1, if_neg (nI_nlt (by omega) (by omega)), if_neg (by rw [i_nle]; exact h1)]
      rfl
    · obtain ⟨K2, e2⟩ := ih (k + 1) (hrF (zL S) t s True D) K1 (hk2.2.trans ht) hk2.1 (by omega)
      refine ⟨K2, ?_⟩
      rw [e_89_2]
      simp only [e_89_0, e_89_1n, e_89_1i, e_89_1r, e_89_3, e_89_4, e_89_7, e_89_8, e_89_11, e_89_12, e_89_15, e_89_16, e_89_19, e_89_20, e_89_23, e_89_26, e_89_27, e_89_30, e_89_33, e_89_36, e_89_37, e_89_38, e_89_41, e_89_44, e_89_46, gO0, gO2, gO4, kTc, if_true, e1, cn_v, gT8, gN8, Option.bind_some, nI_1]
      unfold fdF
      rw [if_neg h1, if_neg (nI_nlt (by omega) (by omega)), if_pos (by rw [i_nlt] at h1; exact h1)]
      exact e2
theorem c_firstDeath {m : Nat} (hm : m < 2147483647) (hL : okL (zL S) t) (ht : D.2.2 12 = nI t) (hD : dI D s) : ∃ K', Dn (d + 7) 89 [.ref 16, .int (nI m)] (CH h (sT (sK S K) D)) nx = an (fdF (zL S) t s ((zN S).2.2 8) m 1 D).1 h (sT (sK S K') (fdF (zL S) t s ((zN S).2.2 8) m 1 D).2) nx := by
  obtain ⟨K', e⟩ := death_loop (d := d) (h := h) (nx := nx) (S := S) (m := m) hm hL m 1 D K ht hD (by omega)
  refine ⟨K', ?_⟩
  simp only [n_89, e_89_0, e_89_1n, e_89_1i, e_89_1r]
  exact e
theorem P_lasts (hG : cG S s t) : ∃ K' T', Dn (d + 8) 88 [.ref 16] (CH h S) nx = an (fdF (zL S) t s ((zN S).2.2 8) 200 1 (bec (zT S) (zN S) s)).1 h (sT (sK S K') T') nx := by
  obtain ⟨K', e⟩ := c_firstDeath (d := d) (h := h) (nx := nx) (S := S) (m := 200) (K := zK S) (D := bec (zT S) (zN S) s) (by omega) hG.2.2 (bec_12 hG) (bec_dI hG.1)
  refine ⟨K', (fdF (zL S) t s ((zN S).2.2 8) 200 1 (bec (zT S) (zN S) s)).2, ?_⟩
  have e2 : Dn (d + 7) 89 [.ref 16, .int 200] (CH h (sT S (bec (zT S) (zN S) s))) nx = _ := e
  simp only [n_88, e_88_0, e_88_1, e_88_4, e_88_5, e_88_8, e_88_11, e_88_12, e_88_15, e_88_18, gO0, gO2, kTc, kT, if_true, TN_becomes hG.1, cn_v, e2, Option.bind_some, an, cn_s]
end P4
