/-! public methods over the whole heap: told, deal, hours, images -/
section P3
variable {d : Nat} {h : AH} {nx : AN} {b lb i j s n c t g : Nat} {S : CS} {L : LT} {K : Nat → Int32} {D E : DT} {x y z u : Int32} {l1 l2 l3 l4 l5 : Value} {w : Nat → Int32}
theorem N_thirsts (hL : okL (zL S) t) (ht : (zN S).2.2 12 = nI t) (hi : i < 10) : ∃ K', Dn (d + 4) 7 [.ref 17, .ref (20 + i), .ref 57] (CH h S) nx = some (some (.int (thrF (zL S) t (zN S).2.2 ((zN S).2.1 i))), CH h (sK S K'), nx) := by
  obtain ⟨K', e⟩ := c_thirsts (d := d) (h := CH h S) (nx := nx) (K := zK S) (D := zN S) (b := 17) (lb := 57) (by omega) hL ht hi
  refine ⟨K', ?_⟩
  simp only [putNL] at e
  exact e
def toldF (L : LT) (t : Nat) (D : DT) (i : Nat) (x : Int32) : Int32 := if x = 0 then D.2.1 i 0 else if x = 1 then D.2.1 i 1 else if x = 2 then D.2.1 i 2 else if x = 3 then D.2.1 i 3 else if x = 4 then D.2.1 i 4 else if x = 5 then D.2.1 i 5 else if x = 6 then thrF L t D.2.2 (D.2.1 i) else if x = 7 then slk (D.2.1 i 0) else if x = 8 then goF D.1 (D.2.1 i 0) (D.2.2 3).toNatClampNeg (D.2.1 i 3).toNatClampNeg else if x = 9 then wth (D.2.1 i 0) (D.2.1 i 2) else -1000000001
/-- deals, one by one -/
def dlF : Nat → Nat → DT → DT
  | 0, _, D => D
  | n + 1, s, D => dlF n (s + 1) (jl D s)
theorem deal_loop {m : Nat} (n : Nat) : ∀ (k s : Nat) (S : CS), (zN S).2.2 2 = nI s → s + n ≤ 10 → k + n = m → m ≤ 10 → Df (d + 3) 82 30 [.ref 16, .int x, .int (nI m), .int (nI k)] [] (CH h S) nx = an (nI m) h (sN S (dlF n s (zN S))) nx := by
  induction n with
  | zero =>
    intro k s S hs hn hk hm
    obtain rfl : k = m := by omega
    rw [e_82_30]
    simp only [e_82_31, e_82_32, e_82_35, e_82_36, e_82_39, e_82_42, e_82_45, e_82_48, e_82_49]
    rw [if_pos (nI_le (Nat.le_refl _) (by omega))]
    rfl
  | succ n ih =>
    intro k s S hs hn hk hm
    rw [e_82_30]
    simp only [e_82_31, e_82_32, e_82_35, e_82_36, e_82_39, e_82_42, e_82_45, e_82_48, e_82_49, gO0, kNc, if_true, N_joinByLot hs (show s < 10 by omega), cn_v, Option.bind_some, nI_1]
    rw [if_neg (nI_ge (by omega) (by omega))]
    exact ih (k + 1) (s + 1) (sN S (jl (zN S) s)) rfl (by omega) (by omega) hm
theorem nI_sub {a b : Nat} (hab : b ≤ a) : nI a - nI b = nI (a - b) := by
  have e : nI (a - b) + nI b = nI a := by rw [nI_add, Nat.sub_add_cancel hab]
  rw [← e, Int32.add_sub_cancel]
theorem min_nI {a b : Nat} (ha : a < 2147483648) (hb : b < 2147483648) : (if nI b < nI a then nI b else nI a) = nI (min a b) := by
  by_cases e : b < a
  · rw [if_pos (nI_lt e (by omega)), Nat.min_eq_right (by omega)]
  · rw [if_neg (nI_nlt (by omega) (by omega)), Nat.min_eq_left (by omega)]
theorem idx1 {m : Nat} (hx : 1 ≤ x ∧ x ≤ nI m) (hm : m < 2147483647) : ∃ i, 1 ≤ i ∧ i ≤ m ∧ x = nI i := by
  obtain ⟨i, hi, e⟩ := idxle ⟨Int32.le_trans (by decide) hx.1, hx.2⟩ hm
  refine ⟨i, ?_, hi, e⟩
  cases i with
  | zero => rw [e] at hx; exact absurd hx.1 (by decide)
  | succ i => omega
theorem P_deal (hs : (zN S).2.2 2 = nI s) (hs10 : s ≤ 10) : Dn (d + 4) 82 [.ref 16, .int x] (CH h S) nx = if 1 ≤ x ∧ x ≤ 10 then an (nI (min x.toNatClampNeg (10 - s))) h (sN S (dlF (min x.toNatClampNeg (10 - s)) s (zN S))) nx else an (-1000000001) h S nx := by
  by_cases h1 : 1 ≤ x ∧ x ≤ 10
  · rw [if_pos h1]
    obtain ⟨i, hi1, hi, rfl⟩ := idx1 (m := 10) h1 (by omega)
    rw [cl_nI (by omega)]
    simp only [n_82, e_82_0, e_82_1, e_82_2, e_82_4, e_82_7, e_82_10, e_82_12, e_82_13, e_82_14, e_82_16, e_82_17, e_82_20, e_82_23, e_82_24, e_82_27n, e_82_27i, e_82_27r, e_82_28, e_82_29n, e_82_29i, e_82_29r, c_within, c_min, cn_s, pi_if, gO0, gN2, hs, Option.bind_some]
    rw [if_pos h1, show (10 : Int32) - nI s = nI (10 - s) from nI_sub (a := 10) hs10, min_nI (by omega) (by omega)]
    exact deal_loop (min i (10 - s)) 0 s S hs (by omega) (by omega) (by omega)
  · rw [if_neg h1]
    simp only [n_82, e_82_0, e_82_1, e_82_2, e_82_4, e_82_7, e_82_10, e_82_12, c_within, cn_s, pi_if]
    rw [if_neg h1]; rfl
theorem P_hours {H : Nat} (hL : okL (zL S) t) (ht : (zN S).2.2 12 = nI t) (hD : dI (zN S) s) (hH : (zN S).2.2 10 = nI H) (hH9 : H ≤ 9999) : ∃ K', Dn (d + 8) 84 [.ref 16, .int x] (CH h S) nx = if 1 ≤ x ∧ x ≤ 100 then an ((hrs (zL S) t s (min x.toNatClampNeg (9999 - H)) (zN S)).2.2 8 - (zN S).2.2 8) h (sN (sK S K') (hrs (zL S) t s (min x.toNatClampNeg (9999 - H)) (zN S))) nx else an (-1000000001) h S nx := by
  by_cases h1 : 1 ≤ x ∧ x ≤ 100
  · obtain ⟨i, hi1, hi, rfl⟩ := idx1 (m := 100) h1 (by omega)
    rw [cl_nI (by omega)]
    obtain ⟨K', e⟩ := N_hours (d := d) (h := h) (nx := nx) (K := zK S) (S := S) (D := zN S) (m := min i (9999 - H)) (by omega) hL ht hD
    refine ⟨K', ?_⟩
    rw [if_pos h1]
    simp only [n_84, e_84_0, e_84_1, e_84_2, e_84_4, e_84_7, e_84_10, e_84_12, e_84_13, e_84_14, e_84_17, e_84_20n, e_84_20i, e_84_20r, e_84_21, e_84_22, e_84_23, e_84_26, e_84_27, e_84_30, e_84_31, e_84_34, e_84_37, e_84_38, c_within, c_min, cn_s, pi_if, gO0, gN8, gN10, hH, Option.bind_some]
    rw [if_pos h1, show (9999 : Int32) - nI H = nI (9999 - H) from nI_sub (a := 9999) hH9, min_nI (by omega) (by omega)]
    have e2 : Dn (d + 7) 85 [.ref 16, .ref 17, .int (nI (min i (9999 - H)))] (CH h S) nx = _ := e
    simp only [e_84_41, e_84_44, e_84_45, e_84_48, e_84_51, e_84_52, e_84_53, kT, if_true, e2, cn_v, gO0, gN8, Option.bind_some]
    rfl
  · refine ⟨zK S, ?_⟩
    rw [if_neg h1]
    simp only [n_84, e_84_0, e_84_1, e_84_2, e_84_4, e_84_7, e_84_10, e_84_12, c_within, cn_s, pi_if]
    rw [if_neg h1]; rfl
theorem TN_becomes (hD : dI (zN S) s) : Dn (d + 2) 23 [.ref 43, .ref 17] (CH h S) nx = some (none, CH h (sT S (bec (zT S) (zN S) s)), nx) := by
  have e := c_dbecomes (d := d) (h := CH h S) (nx := nx) (b := 43) (b2 := 17) (D := zT S) (E := zN S) (by omega) hD.1 hD.2.1 hD.2.2.2.2
  rwa [← N_CH, ← T_CH, CH_T] at e
theorem TI_becomes (hD : dI (zI S) s) : Dn (d + 2) 23 [.ref 43, .ref 30] (CH h S) nx = some (none, CH h (sT S (bec (zT S) (zI S) s)), nx) := by
  have e := c_dbecomes (d := d) (h := CH h S) (nx := nx) (b := 43) (b2 := 30) (D := zT S) (E := zI S) (by omega) hD.1 hD.2.1 hD.2.2.2.2
  rwa [← I_CH, ← T_CH, CH_T] at e
theorem IN_becomes (hD : dI (zN S) s) : Dn (d + 2) 23 [.ref 30, .ref 17] (CH h S) nx = some (none, CH h (sI S (bec (zI S) (zN S) s)), nx) := by
  have e := c_dbecomes (d := d) (h := CH h S) (nx := nx) (b := 30) (b2 := 17) (D := zI S) (E := zN S) (by omega) hD.1 hD.2.1 hD.2.2.2.2
  rwa [← N_CH, ← I_CH, CH_I] at e
theorem NI_becomes (hD : dI (zI S) s) : Dn (d + 2) 23 [.ref 17, .ref 30] (CH h S) nx = some (none, CH h (sN S (bec (zN S) (zI S) s)), nx) := by
  have e := c_dbecomes (d := d) (h := CH h S) (nx := nx) (b := 17) (b2 := 30) (D := zN S) (E := zI S) (by omega) hD.1 hD.2.1 hD.2.2.2.2
  rwa [← I_CH, ← N_CH, CH_N] at e
theorem q16_10 : pF (CH h S) 16 8 10 (.int x) = some (CH h (sO S (upd (zO S) 10 x))) := by
  have e : pF (CH h S) 16 8 10 (.int x) = some (put (CH h S) 16 (tO (upd (zO S) 10 x))) := rfl
  rw [e, CH_O]
theorem q16_9 : pF (CH h S) 16 8 9 (.int x) = some (CH h (sO S (upd (zO S) 9 x))) := by
  have e : pF (CH h S) 16 8 9 (.int x) = some (put (CH h S) 16 (tO (upd (zO S) 9 x))) := rfl
  rw [e, CH_O]
theorem P_keep (hD : dI (zN S) s) : Dn (d + 3) 118 [.ref 16] (CH h S) nx = an ((zN S).2.2 2) h (sO (sI S (bec (zI S) (zN S) s)) (upd (zO S) 10 1)) nx := by
  simp only [n_118, e_118_0, e_118_1, e_118_4, e_118_5, e_118_8, e_118_11, e_118_12, e_118_13, e_118_16, e_118_17, e_118_20, e_118_23, gO0, gO1, kIc, if_true, IN_becomes hD, cn_v, q16_10, gN2, Option.bind_some, show ((1 : Int32) = 0 ∨ (1 : Int32) = 1) = True by decide]
  rfl
theorem P_back (hD : zO S 10 ≠ 0 → dI (zI S) s) : Dn (d + 3) 119 [.ref 16] (CH h S) nx = if zO S 10 = 0 then an (-1000000002) h S nx else an ((zI S).2.2 2) h (sN S (bec (zN S) (zI S) s)) nx := by
  by_cases h1 : zO S 10 = 0
  · rw [if_pos h1]
    simp only [n_119, e_119_0, e_119_1, e_119_4, e_119_7, e_119_10, gO10, Option.bind_some, h1, if_true]
    rfl
  · rw [if_neg h1]
    simp only [n_119, e_119_0, e_119_1, e_119_4, e_119_7, e_119_10, e_119_11, e_119_12, e_119_15, e_119_16, e_119_19, e_119_22, e_119_23, e_119_26, e_119_29, gO0, gO1, gO10, kNc, if_true, NI_becomes (hD h1), cn_v, gN2, Option.bind_some]
    rw [if_neg h1]
    rfl
theorem sK_K : sK S (zK S) = S := rfl
theorem P_told (hL : okL (zL S) t) (ht : (zN S).2.2 12 = nI t) (hD : dI (zN S) s) : ∃ K', Dn (d + 5) 75 [.ref 16, .int x, .int y] (CH h S) nx = if 0 ≤ x ∧ x < nI s then an (toldF (zL S) t (zN S) x.toNatClampNeg y) h (sK S K') nx else an (-1000000001) h S nx := by
  by_cases h1 : 0 ≤ x ∧ x < nI s
  · have hs10 := hD.2.1
    obtain ⟨i, hi, rfl⟩ := idx h1 (by omega)
    have hi10 : i < 10 := by omega
    rw [cl_nI (by omega)]
    obtain ⟨c, hc, hc24⟩ := hD.2.2.1
    obtain ⟨g, hg, hg25⟩ := hD.2.2.2.1 i hi
    obtain ⟨K', e⟩ := N_thirsts (d := d) (h := h) (nx := nx) hL ht hi10
    have ec : ((zN S).2.2 3).toNatClampNeg = c := by rw [hc, cl_nI (by omega)]
    have eg : ((zN S).2.1 i 3).toNatClampNeg = g := by rw [hg, cl_nI (by omega)]
    by_cases h6 : y = 6
    · subst h6
      refine ⟨K', ?_⟩
      rw [if_pos h1]
      simp only [n_75, e_75_0, e_75_1, e_75_4, e_75_5, e_75_8, e_75_11, e_75_13, e_75_14, e_75_15, e_75_18, e_75_21, e_75_22, e_75_23n, e_75_23i, e_75_23r, e_75_24, e_75_25, e_75_80, e_75_81, e_75_84, e_75_85, e_75_86, e_75_89, e_75_90, e_75_91, e_75_94, e_75_95, e_75_96, e_75_99, e_75_100, e_75_101, e_75_104, e_75_105, e_75_106, e_75_109, e_75_112, e_75_113, e_75_116, e_75_117, e_75_118, e_75_119, e_75_122, e_75_123, e_75_124, e_75_127, e_75_130, e_75_131, e_75_132, e_75_135, e_75_136, e_75_137, e_75_140, e_75_141, e_75_144, e_75_145, e_75_146, e_75_149, e_75_150, e_75_152, cn_s, pi_if, gO0, gO4, gN1, rNr hi10, kNc, N_has hD.1 hs10, if_true, Option.bind_some, e]
      rw [if_pos h1]
      rfl
    · refine ⟨zK S, ?_⟩
      rw [sK_K, if_pos h1]
      simp only [n_75, e_75_0, e_75_1, e_75_4, e_75_5, e_75_8, e_75_11, e_75_13, e_75_14, e_75_15, e_75_18, e_75_21, e_75_22, e_75_23n, e_75_23i, e_75_23r, e_75_24, e_75_25, e_75_80, e_75_81, e_75_84, e_75_85, e_75_86, e_75_89, e_75_90, e_75_91, e_75_94, e_75_95, e_75_96, e_75_99, e_75_100, e_75_101, e_75_104, e_75_105, e_75_106, e_75_109, e_75_112, e_75_113, e_75_116, e_75_117, e_75_118, e_75_119, e_75_122, e_75_123, e_75_124, e_75_127, e_75_130, e_75_131, e_75_132, e_75_135, e_75_136, e_75_137, e_75_140, e_75_141, e_75_144, e_75_145, e_75_146, e_75_149, e_75_150, e_75_152, cn_s, pi_if, gO0, gO4, gN1, rNr hi10, kNc, kNw hi10, gNw0 hi10, gNw1 hi10, gNw2 hi10, gNw3 hi10, gNw4 hi10, gNw5 hi10, N_slakes hi10, N_worth hi10, N_goes hc hc24 hi10 hg hg25, N_has hD.1 hs10, if_true, Option.bind_some]
      rw [if_pos h1]
      unfold an toldF
      rw [ec, eg]
      rcases hD.2.2.2.2 i hi with e5 | e5
      · rw [e5]
        repeat' split
        all_goals first | rfl | contradiction
      · rw [e5]
        repeat' split
        all_goals first | rfl | contradiction
  · refine ⟨zK S, ?_⟩
    rw [if_neg h1]
    simp only [n_75, e_75_0, e_75_1, e_75_4, e_75_5, e_75_8, e_75_11, e_75_13, cn_s, pi_if, gO0, kNc, N_has hD.1 hD.2.1, if_true, Option.bind_some]
    rw [if_neg h1]; rfl
end P3
