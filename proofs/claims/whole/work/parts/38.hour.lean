/-! an hour of a desert -/
def lwP (L : LT) (j : Nat) : List Int32 := (List.range (L.2 j 1).toNatClampNeg).map (L.1 j)
/-- the first n laws can be worked out -/
def okL (L : LT) (n : Nat) : Prop := n ≤ 14 ∧ ∀ j, j < n → ∃ N, L.2 j 1 = nI N ∧ N ≤ 96 ∧ wfC (lwP L j) 0
def pln (L : LT) (n : Nat) (q w : Nat → Int32) : Int32 := match lat L.2 0 n with
  | none => q 4 + 1
  | some j => hld ((ev (q 4) (w 2) (w 1) (lwP L j) []).getD 0 0) 0 40
/-- THIRSTS -/
def thrF (L : LT) (n : Nat) (q w : Nat → Int32) : Int32 := if w 0 = 1 then pln L n q w + 2 else if w 0 = 2 then pln L n q w / 2 else if w 0 = 3 then pln L n q w + 2 - 1 else if w 0 = 4 then pln L n q w / 2 + (q 10 - q 10 / 2 * 2) else if w 0 = 5 then 1 else pln L n q w
section HO
variable {d : Nat} {h : AH} {nx : AN} {b lb i j s n c : Nat} {L : LT} {K : Nat → Int32} {D : DT} {x y z u : Int32} {l1 l2 l3 l4 l5 : Value}
theorem c_latestD (ho : b + 13 ≤ lb ∨ lb + 31 ≤ b) (hn : n ≤ 14) : Dn (d + 2) 33 [.ref lb, .int x, .int (nI n)] (putD (putL h lb L K) b D) nx = some (some (.int (on (lat L.2 x n))), putD (putL h lb L K) b D, nx) := by
  rw [putDL ho]
  exact c_latest hn
theorem c_givesD (ho : b + 13 ≤ lb ∨ lb + 31 ≤ b) (hL : okL L n) (hj : j < n) : ∃ K', Dn (d + 2) 34 [.ref lb, .int (nI j), .int x, .int y, .int z] (putD (putL h lb L K) b D) nx = some (some (.int ((ev x y z (lwP L j) []).getD 0 0)), putD (putL h lb L K') b D, nx) := by
  obtain ⟨N, h1, h2, h3⟩ := hL.2 j hj
  have hN : (L.2 j 1).toNatClampNeg = N := by rw [h1, cl_nI (by omega)]
  obtain ⟨K', e⟩ := c_gives (d := d) (h := putD h b D) (nx := nx) (lb := lb) (K := K) (x := x) (y := y) (z := z) (show j < 14 by have := hL.1; omega) h1 h2 (lwP L j) (by unfold lwP; simp [hN]) (fun m hm => by unfold lwP; rw [hN]; simp [hm]) h3
  refine ⟨K', ?_⟩
  rw [putDL ho, putDL ho]
  exact e
theorem on_none (hn : n ≤ 14) : (on (lat L.2 x n) = -1000000005) ↔ lat L.2 x n = none := by
  cases e : lat L.2 x n with
  | none => simp [on]
  | some j =>
    have hj := lat_lt e
    simp only [on, reduceCtorEq, iff_false]
    intro q
    have := congrArg Int32.toInt q
    rw [nI_toInt (by omega)] at this
    have e2 : (-1000000005 : Int32).toInt = -1000000005 := by decide
    omega
theorem c_thirsts (ho : b + 13 ≤ lb ∨ lb + 31 ≤ b) (hL : okL L n) (hn : D.2.2 12 = nI n) (hi : i < 10) : ∃ K', Dn (d + 4) 7 [.ref b, .ref (b + 3 + i), .ref lb] (putD (putL h lb L K) b D) nx = some (some (.int (thrF L n D.2.2 (D.2.1 i))), putD (putL h lb L K') b D, nx) := by
  have kk : ∀ K, ck (putD (putL h lb L K) b D) lb 3 = true := fun K => by rw [ck_o (by omega)]; exact kL
  cases e : lat L.2 0 n with
  | none =>
    have e1 : pln L n D.2.2 (D.2.1 i) = D.2.2 4 + 1 := by unfold pln; rw [e]
    refine ⟨K, ?_⟩
    simp only [n_7, e_7_0, e_7_1, e_7_2, e_7_3, e_7_6, e_7_9n, e_7_9i, e_7_9r, e_7_10, e_7_11, e_7_13, e_7_16, e_7_17, e_7_20, e_7_21, e_7_22, e_7_25, e_7_26, e_7_27, e_7_28, e_7_31, e_7_32, e_7_35, e_7_36, e_7_39, e_7_42, e_7_43, e_7_45, e_7_48n, e_7_48i, e_7_48r, e_7_50, e_7_51, e_7_54, e_7_88, e_7_90, e_7_91, e_7_92, e_7_93, e_7_95, e_7_96, e_7_97, e_7_98, e_7_99, e_7_100, e_7_102, e_7_103, e_7_104, e_7_105, e_7_107, e_7_108, e_7_109, e_7_110, e_7_113, e_7_114, e_7_115, e_7_116, e_7_117, e_7_118, e_7_119, e_7_121, gD12, hn, kk, if_true, c_latestD ho hL.1, e, cn_s, Option.bind_some, show on none = -1000000005 from rfl, gD4, gDw0 hi, gD10, show ¬ (2 : Int32) = 0 by decide, if_false, thrF, e1]
    repeat' split
    all_goals rfl
  | some j =>
    have hj := lat_lt e
    obtain ⟨K', e2⟩ := c_givesD (d := d + 1) (h := h) (nx := nx) (K := K) (D := D) (x := D.2.2 4) (y := D.2.1 i 2) (z := D.2.1 i 1) ho hL hj
    have e1 : pln L n D.2.2 (D.2.1 i) = hld ((ev (D.2.2 4) (D.2.1 i 2) (D.2.1 i 1) (lwP L j) []).getD 0 0) 0 40 := by unfold pln; rw [e]
    have e3 : ¬ on (some j) = -1000000005 := by
      intro q
      rw [← e] at q
      have := (on_none hL.1).mp q
      rw [e] at this
      cases this
    refine ⟨K', ?_⟩
    simp only [n_7, e_7_0, e_7_1, e_7_2, e_7_3, e_7_6, e_7_9n, e_7_9i, e_7_9r, e_7_10, e_7_11, e_7_13, e_7_16, e_7_17, e_7_20, e_7_21, e_7_22, e_7_25, e_7_26, e_7_27, e_7_28, e_7_31, e_7_32, e_7_35, e_7_36, e_7_39, e_7_42, e_7_43, e_7_45, e_7_48n, e_7_48i, e_7_48r, e_7_50, e_7_51, e_7_54, e_7_88, e_7_90, e_7_91, e_7_92, e_7_93, e_7_95, e_7_96, e_7_97, e_7_98, e_7_99, e_7_100, e_7_102, e_7_103, e_7_104, e_7_105, e_7_107, e_7_108, e_7_109, e_7_110, e_7_113, e_7_114, e_7_115, e_7_116, e_7_117, e_7_118, e_7_119, e_7_121, gD12, hn, kk, if_true, c_latestD ho hL.1, e, cn_s, Option.bind_some, e3, gD4, gDw0 hi, gDw1 hi, gDw2 hi, gD10, show ¬ (2 : Int32) = 0 by decide, if_false, thrF, e1, show on (some j) = nI j from rfl, e2, c_held (show (0 : Int32) ≤ 40 by decide)]
    rw [if_neg (show ¬ nI j = -1000000005 from e3)]
    repeat' split
    all_goals rfl
/-- the walkers drink at the cell, from the k-th on -/
def daF : Nat → Nat → DT → DT
  | 0, _, D => D
  | n + 1, k, D => daF n (k + 1) (if D.2.1 k 5 = 0 then D else dwt (dW D k (drF (D.2.1 k) (D.1 (D.2.2 3).toNatClampNeg)).1) (D.2.2 3).toNatClampNeg (drF (D.2.1 k) (D.1 (D.2.2 3).toNatClampNeg)).2)
theorem drink_loop (hs10 : s ≤ 10) (hc24 : c < 24) (n : Nat) : ∀ (k : Nat) (D : DT), D.2.2 2 = nI s → D.2.2 3 = nI c → k + n = s → Df (d + 4) 17 2 [.ref b, .int (nI k)] [] (putD h b D) nx = some (none, putD h b (daF n k D), nx) := by
  induction n with
  | zero =>
    intro k D hs hc hk
    obtain rfl : k = s := by omega
    rw [e_17_2]
    simp only [e_17_0, e_17_1n, e_17_1i, e_17_1r, e_17_3, e_17_4, e_17_7, e_17_10, e_17_11, e_17_14, e_17_15, e_17_16, e_17_19, e_17_22, e_17_23, e_17_26, e_17_27, e_17_30, e_17_31, e_17_34, e_17_35, e_17_36, e_17_37, e_17_40, e_17_41, e_17_44, e_17_45, e_17_48, e_17_49, e_17_52, e_17_55, gD2, hs, Option.bind_some]
    rw [if_pos (nI_le (Nat.le_refl _) (by omega))]
    rfl
  | succ n ih =>
    intro k D hs hc hk
    have hk10 : k < 10 := by omega
    rw [e_17_2]
    simp only [e_17_0, e_17_1n, e_17_1i, e_17_1r, e_17_3, e_17_4, e_17_7, e_17_10, e_17_11, e_17_14, e_17_15, e_17_16, e_17_19, e_17_22, e_17_23, e_17_26, e_17_27, e_17_30, e_17_31, e_17_34, e_17_35, e_17_36, e_17_37, e_17_40, e_17_41, e_17_44, e_17_45, e_17_48, e_17_49, e_17_52, e_17_55, gD0, gD1, gD2, gD3, hs, hc, rDrn hk10, gDw5 hk10, kDw hk10, if_true, rDxn hc24, c_WdrinkFrom hk10, cn_s, wDxn hc24, Option.bind_some, nI_1]
    rw [if_neg (nI_ge (by omega) (by omega))]
    unfold daF
    have e : (D.2.2 3).toNatClampNeg = c := by rw [hc, cl_nI (by omega)]
    by_cases h1 : D.2.1 k 5 = 0
    · rw [if_pos h1, if_pos h1]
      exact ih (k + 1) D hs hc (by omega)
    · rw [if_neg h1, if_neg h1, e]
      exact ih (k + 1) _ hs hc (by omega)
theorem c_drinkAtWell (hs : D.2.2 2 = nI s) (hs10 : s ≤ 10) (hc : D.2.2 3 = nI c) (hc24 : c < 24) : Dn (d + 5) 17 [.ref b] (putD h b D) nx = some (none, putD h b (daF s 0 D), nx) := by
  simp only [n_17, e_17_0, e_17_1n, e_17_1i, e_17_1r]
  exact drink_loop hs10 hc24 s 0 D hs hc (Nat.zero_add _)
/-- thirst and sips, from the k-th walker on -/
def tsF (L : LT) (t : Nat) : Nat → Nat → DT → DT
  | 0, _, D => D
  | n + 1, k, D => tsF L t n (k + 1) (if D.2.1 k 5 = 0 then D else dW D k (thB (D.2.1 k) (thrF L t D.2.2 (D.2.1 k)) (D.2.2 5)))
theorem sip_loop {t : Nat} (ho : b + 13 ≤ lb ∨ lb + 31 ≤ b) (hL : okL L t) (hs10 : s ≤ 10) (n : Nat) : ∀ (k : Nat) (D : DT) (K : Nat → Int32), D.2.2 12 = nI t → D.2.2 2 = nI s → k + n = s → ∃ K', Df (d + 4) 18 2 [.ref b, .ref lb, .int (nI k)] [] (putD (putL h lb L K) b D) nx = some (none, putD (putL h lb L K') b (tsF L t n k D), nx) := by
  induction n with
  | zero =>
    intro k D K ht hs hk
    obtain rfl : k = s := by omega
    refine ⟨K, ?_⟩
    rw [e_18_2]
    simp only [e_18_0, e_18_1n, e_18_1i, e_18_1r, e_18_3, e_18_4, e_18_7, e_18_10, e_18_11, e_18_14, e_18_15, e_18_16, e_18_19, e_18_22, e_18_23, e_18_26, e_18_27, e_18_28, e_18_29, e_18_30, e_18_33, e_18_34, e_18_35, e_18_36, e_18_39, e_18_40, e_18_43, e_18_46, e_18_49, e_18_52, gD2, hs, Option.bind_some]
    rw [if_pos (nI_le (Nat.le_refl _) (by omega))]
    rfl
  | succ n ih =>
    intro k D K ht hs hk
    have hk10 : k < 10 := by omega
    obtain ⟨K1, e1⟩ := c_thirsts (d := d) (h := h) (nx := nx) (K := K) ho hL ht hk10
    by_cases h1 : D.2.1 k 5 = 0
    · obtain ⟨K2, e2⟩ := ih (k + 1) D K ht hs (by omega)
      refine ⟨K2, ?_⟩
      rw [e_18_2]
      simp only [e_18_0, e_18_1n, e_18_1i, e_18_1r, e_18_3, e_18_4, e_18_7, e_18_10, e_18_11, e_18_14, e_18_15, e_18_16, e_18_19, e_18_22, e_18_23, e_18_26, e_18_27, e_18_28, e_18_29, e_18_30, e_18_33, e_18_34, e_18_35, e_18_36, e_18_39, e_18_40, e_18_43, e_18_46, e_18_49, e_18_52, gD1, gD2, hs, rDrn hk10, gDw5 hk10, Option.bind_some, nI_1]
      rw [if_neg (nI_ge (by omega) (by omega)), if_pos h1]
      unfold tsF
      rw [if_pos h1]
      exact e2
    · obtain ⟨K2, e2⟩ := ih (k + 1) (dW D k (thB (D.2.1 k) (thrF L t D.2.2 (D.2.1 k)) (D.2.2 5))) K1 ht hs (by omega)
      refine ⟨K2, ?_⟩
      rw [e_18_2]
      simp only [e_18_0, e_18_1n, e_18_1i, e_18_1r, e_18_3, e_18_4, e_18_7, e_18_10, e_18_11, e_18_14, e_18_15, e_18_16, e_18_19, e_18_22, e_18_23, e_18_26, e_18_27, e_18_28, e_18_29, e_18_30, e_18_33, e_18_34, e_18_35, e_18_36, e_18_39, e_18_40, e_18_43, e_18_46, e_18_49, e_18_52, gD1, gD2, gD5, hs, rDrn hk10, gDw5 hk10, kD, kDw hk10, if_true, e1, cn_s, cn_v, c_WthirstBy hk10, Option.bind_some, nI_1]
      rw [if_neg (nI_ge (by omega) (by omega)), if_neg h1]
      unfold tsF
      rw [if_neg h1]
      exact e2
theorem c_thirstAndSip {t : Nat} (ho : b + 13 ≤ lb ∨ lb + 31 ≤ b) (hL : okL L t) (ht : D.2.2 12 = nI t) (hs : D.2.2 2 = nI s) (hs10 : s ≤ 10) : ∃ K', Dn (d + 5) 18 [.ref b, .ref lb] (putD (putL h lb L K) b D) nx = some (none, putD (putL h lb L K') b (tsF L t s 0 D), nx) := by
  obtain ⟨K', e⟩ := sip_loop (d := d) (h := h) (nx := nx) ho hL hs10 s 0 D K ht hs (Nat.zero_add _)
  refine ⟨K', ?_⟩
  simp only [n_18, e_18_0, e_18_1n, e_18_1i, e_18_1r]
  exact e
end HO
