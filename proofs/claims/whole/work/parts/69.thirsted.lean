/-! thirsted, feed -/
/-- differences from a sheet's places f, from the k-th on -/
def dfF (L : LT) (t s : Nat) (f : Nat → Int32) (j : Nat) : Nat → Nat → Int32 → DT → Int32 × DT
  | 0, _, x, D => (x, D)
  | n + 1, k, x, D => dfF L t s f j n (k + 1) (if f k = -1000000005 then x else x + (if 0 ≤ (if k = 0 then D else hrF L t s True D).2.1 j 1 - f k then (if k = 0 then D else hrF L t s True D).2.1 j 1 - f k else -((if k = 0 then D else hrF L t s True D).2.1 j 1 - f k))) (if k = 0 then D else hrF L t s True D)
def tdS (N : DT) (s j : Nat) (u : Int32) (D : DT) : DT := dW (bec D N s) j (upd ((bec D N s).2.1 j) 1 u)
def tdF (L : LT) (t s : Nat) (f : Nat → Int32) (j m : Nat) (N : DT) : Nat → Nat → DT × (Nat → Int32) → DT × (Nat → Int32)
  | 0, _, p => p
  | n + 1, k, (D, B) => tdF L t s f j m N n (k + 5) ((dfF L t s f j m 0 0 (tdS N s j (nI k) D)).2, ofF B (nI k) (dfF L t s f j m 0 0 (tdS N s j (nI k) D)).1)
def byt (x sh : Int32) : Int32 := (x.toUInt32 >>> (sh.toUInt32 &&& Int32.toUInt32 31)).toInt32 &&& 255
def fdB (B : Nat → Int32) (n : Nat) (x : Int32) : Nat → Int32 := upd (upd (upd (upd B n (byt x 24)) (n + 1) (byt x 16)) (n + 2) (byt x 8)) (n + 3) (byt x 0)
section S13
variable {d : Nat} {h H : AH} {nx : AN} {i j s n c t g p m a b : Nat} {S : CS} {D E : DT} {x y z u v : Int32} {f q w K B : Nat → Int32} {l1 l2 l3 l4 l5 : Value} {e0 : va_E}
theorem X_hour (hG : cG S s t) (ht : D.2.2 12 = nI t) (hD : dI D s) : ∃ K', Dn (d + 6) 14 [.ref 43, .ref 57, .int 1] (CH h (sX S K D B)) nx = some (none, CH h (sX S K' (hrF (zL S) t s True D) B), nx) := T_hour (S := sB S B) hG.2.2 ht hD True
theorem zHX : zH (sX S K D B) = zH S := rfl
theorem diff_loop (hG : cG S s t) (hi : i < 4) (hz : (zH S i).2 2 = nI m) (hm : m ≤ 24) (hj : j < s) (n : Nat) : ∀ (k : Nat) (x : Int32) (D : DT) (K : Nat → Int32), D.2.2 12 = nI t → dI D s → k + n = m → ∃ K', Df (d + 6) 97 30 [.ref 16, .ref (95 + 2 * i), .int (nI j), l3, .int x, .int (nI k)] [] (CH h (sX S K D B)) nx = an (dfF (zL S) t s (zH S i).1 j n k x D).1 h (sX S K' (dfF (zL S) t s (zH S i).1 j n k x D).2 B) nx := by
  have hs10 := hG.1.2.1
  induction n with
  | zero =>
    intro k x D K _ _ hk
    obtain rfl : k = m := by omega
    refine ⟨K, ?_⟩
    rw [e_97_30]
    simp only [e_97_32, e_97_33, e_97_36, e_97_95, e_97_97, gH2 hi, zHX, hz, Option.bind_some]
    rw [if_pos (nI_le (Nat.le_refl _) (by omega))]
    rfl
  | succ n ih =>
    intro k x D K ht hD hk
    have hk24 : k < 24 := by omega
    have key : ∀ (D : DT) (K : Nat → Int32), D.2.2 12 = nI t → dI D s → ∃ K', Df (d + 6) 97 56 [.ref 16, .ref (95 + 2 * i), .int (nI j), l3, .int x, .int (nI k)] [] (CH h (sX S K D B)) nx = an (dfF (zL S) t s (zH S i).1 j n (k + 1) (if (zH S i).1 k = -1000000005 then x else x + (if 0 ≤ D.2.1 j 1 - (zH S i).1 k then D.2.1 j 1 - (zH S i).1 k else -(D.2.1 j 1 - (zH S i).1 k))) D).1 h (sX S K' (dfF (zL S) t s (zH S i).1 j n (k + 1) (if (zH S i).1 k = -1000000005 then x else x + (if 0 ≤ D.2.1 j 1 - (zH S i).1 k then D.2.1 j 1 - (zH S i).1 k else -(D.2.1 j 1 - (zH S i).1 k))) D).2 B) nx := by
      intro D K ht hD
      have e1 : Dn (d + 6) 24 [.ref 43, .int (nI j)] (CH h (sX S K D B)) nx = some (some (.int (D.2.1 j 1)), CH h (sX S K D B), nx) := T_thirstOf (d := d + 4) (h := h) (nx := nx) (S := sX S K D B) hD.1 hD.2.1 hj
      obtain ⟨K', e2⟩ := ih (k + 1) (if (zH S i).1 k = -1000000005 then x else x + (if 0 ≤ D.2.1 j 1 - (zH S i).1 k then D.2.1 j 1 - (zH S i).1 k else -(D.2.1 j 1 - (zH S i).1 k))) D K ht hD (by omega)
      refine ⟨K', ?_⟩
      have eN : Dn (d + 6) 56 [.ref (95 + 2 * i), .int (nI k)] (CH h (sX S K D B)) nx = some (some (.int (pi (k < m ∧ ¬ (zH S i).1 k = -1000000005))), CH h (sX S K D B), nx) := H_num (d := d + 4) (S := sX S K D B) hi hz hm hk24
      rw [← e2]
      simp only [e_97_56, e_97_57, e_97_59, e_97_62, e_97_65, e_97_67, e_97_68, e_97_71, e_97_72, e_97_75, e_97_76, e_97_79, e_97_81, e_97_82, e_97_83, e_97_86, e_97_87n, e_97_87i, e_97_87r, e_97_89, e_97_92, gO2, kTc, kH hi, if_true, eN, cn_s, pi_if, e1, gH0 hi, rHx hi hk24, zHX, c_abs, Option.bind_some, nI_1]
      by_cases h1 : (zH S i).1 k = -1000000005
      · rw [if_neg (fun q => q.2 h1), if_pos h1]
      · rw [if_pos ⟨by omega, h1⟩, if_neg h1]
    rw [e_97_30]
    unfold dfF
    by_cases h0 : k = 0
    · subst h0
      simp only [if_true]
      obtain ⟨K', e⟩ := key D K ht hD
      refine ⟨K', ?_⟩
      rw [← e]
      simp only [e_97_32, e_97_33, e_97_36, e_97_39, e_97_41, gH2 hi, zHX, hz, Option.bind_some]
      rw [if_neg (nI_ge (by omega) (by omega)), if_pos (show nI 0 ≤ 0 from by decide)]
    · simp only [h0, if_false]
      obtain ⟨K1, e1⟩ := X_hour (d := d) (h := h) (nx := nx) (K := K) (B := B) hG ht hD
      have g := hrF_k (L := zL S) (t := t) True hD
      obtain ⟨K', e⟩ := key (hrF (zL S) t s True D) K1 (g.2.trans ht) g.1
      refine ⟨K', ?_⟩
      rw [← e]
      simp only [e_97_32, e_97_33, e_97_36, e_97_39, e_97_41, e_97_44, e_97_45, e_97_48, e_97_49, e_97_52, e_97_53, gH2 hi, zHX, hz, gO2, gO4, kTc, if_true, e1, cn_v, Option.bind_some]
      rw [if_neg (nI_ge (by omega) (by omega)), if_neg (show ¬ nI k ≤ 0 by rw [i_nle]; exact nI_lt (a := 0) (by omega) (by omega))]
theorem dI_th (hD : dI D s) (hj : j < s) (u : Int32) : dI (dW D j (upd (D.2.1 j) 1 u)) s := hD.wk (w := upd (D.2.1 j) 1 u) j rfl (hD.2.2.2.2 j hj)
theorem c_diff (hG : cG S s t) (hi : i < 4) (hz : (zH S i).2 2 = nI m) (hm : m ≤ 24) (hj : j < s) : ∃ K', Dn (d + 7) 97 [.ref 16, .ref (95 + 2 * i), .int (nI j), .int u] (CH h (sX S K D B)) nx = an (dfF (zL S) t s (zH S i).1 j m 0 0 (tdS (zN S) s j u D)).1 h (sX S K' (dfF (zL S) t s (zH S i).1 j m 0 0 (tdS (zN S) s j u D)).2 B) nx := by
  have hs10 := hG.1.2.1
  have hj10 : j < 10 := by omega
  have hD : dI (tdS (zN S) s j u D) s := dI_th (bec_dI hG.1) hj u
  have h12 : (tdS (zN S) s j u D).2.2 12 = nI t := by
    show (bec D (zN S) s).2.2 12 = nI t
    exact bec_12 hG
  obtain ⟨K', e⟩ := diff_loop (d := d) (h := h) (nx := nx) (B := B) (l3 := .int u) hG hi hz hm hj m 0 0 (tdS (zN S) s j u D) K h12 hD (by omega)
  refine ⟨K', ?_⟩
  rw [← e]
  simp only [n_97, e_97_0, e_97_1, e_97_4, e_97_5, e_97_8, e_97_11, e_97_12, e_97_15, e_97_18, e_97_19, e_97_20, e_97_21, e_97_24, e_97_25n, e_97_25i, e_97_25r, e_97_27, e_97_28n, e_97_28i, e_97_28r, gO0, gO2, kTc, if_true, X_becomes hG, cn_v, gT1, rTr hj10, X_q1 hj10, Option.bind_some, tdS, show nI 0 = 0 from rfl]
theorem zBX : zB (sX S K D B) = B := rfl
theorem thirsted_loop (hG : cG S s t) (hi : i < 4) (hz : (zH S i).2 2 = nI m) (hm : m ≤ 24) (hj : j < s) (n : Nat) : ∀ (k : Nat) (D : DT) (B K : Nat → Int32), k + 5 * n = 100 → ∃ K', Df (d + 7) 95 56 [.ref 16, .int (nI i), .int (nI j), .int x, .int (nI k)] [] (CH h (sX S K D B)) nx = an (if x = 0 then (tdF (zL S) t s (zH S i).1 j m (zN S) n k (D, B)).2 0 else (tdF (zL S) t s (zH S i).1 j m (zN S) n k (D, B)).2 1) h (sX S K' (tdF (zL S) t s (zH S i).1 j m (zN S) n k (D, B)).1 (tdF (zL S) t s (zH S i).1 j m (zN S) n k (D, B)).2) nx := by
  induction n with
  | zero =>
    intro k D B K hk
    obtain rfl : k = 100 := by omega
    refine ⟨K, ?_⟩
    rw [e_95_56]
    simp only [e_95_58, e_95_60, e_95_91, e_95_92, e_95_95, e_95_96, e_95_99, gO3, k56, if_true, X_chosen, cn_s, zBX, Option.bind_some]
    rw [if_pos (by decide)]
    rfl
  | succ n ih =>
    intro k D B K hk
    obtain ⟨K1, e1⟩ := c_diff (d := d) (h := h) (nx := nx) (K := K) (D := D) (B := B) (u := nI k) hG hi hz hm hj
    unfold an at e1
    obtain ⟨K', e2⟩ := ih (k + 5) (dfF (zL S) t s (zH S i).1 j m 0 0 (tdS (zN S) s j (nI k) D)).2 (ofF B (nI k) (dfF (zL S) t s (zH S i).1 j m 0 0 (tdS (zN S) s j (nI k) D)).1) K1 (by omega)
    refine ⟨K', ?_⟩
    unfold tdF
    rw [← e2, e_95_56]
    simp only [e_95_58, e_95_60, e_95_63, e_95_64, e_95_67, e_95_69, e_95_70, e_95_71, e_95_74, e_95_75, e_95_76, e_95_77, e_95_79, e_95_82, e_95_85, e_95_88, gO3, gO6, rHr hi, kT, k56, if_true, e1, X_off, cn_s, cn_v, Option.bind_some]
    rw [if_neg (show ¬ (95 : Int32) < nI k by rw [i_nlt]; exact nI_le (b := 95) (by omega) (by omega)), show nI k + 5 = nI (k + 5) from nI_add k 5]
theorem P_thirsted (hG : cG S s t) (hZ : zOK S) : ∃ K' T' B', Dn (d + 8) 95 [.ref 16, .int x, .int y, .int z] (CH h S) nx = if (0 ≤ x ∧ x ≤ 3) ∧ (0 ≤ y ∧ y < nI s) ∧ (0 ≤ z ∧ z ≤ 1) then (if (zH S x.toNatClampNeg).2 1 = -1 then an (-1000000011) h S nx else an (if z = 0 then (tdF (zL S) t s (zH S x.toNatClampNeg).1 y.toNatClampNeg ((zH S x.toNatClampNeg).2 2).toNatClampNeg (zN S) 20 0 (zT S, upd (upd (zB S) 0 (-1000000005)) 1 (-1000000005))).2 0 else (tdF (zL S) t s (zH S x.toNatClampNeg).1 y.toNatClampNeg ((zH S x.toNatClampNeg).2 2).toNatClampNeg (zN S) 20 0 (zT S, upd (upd (zB S) 0 (-1000000005)) 1 (-1000000005))).2 1) h (sX S K' T' B') nx) else an (-1000000001) h S nx := by
  have hs := hG.1.1
  have hs10 := hG.1.2.1
  by_cases h1 : 0 ≤ x ∧ x ≤ 3
  · obtain ⟨i, hi, rfl⟩ := idxle (m := 3) h1 (by omega)
    have hi4 : i < 4 := by omega
    by_cases h2 : 0 ≤ y ∧ y < nI s
    · obtain ⟨j, hj, rfl⟩ := idx h2 (by omega)
      rw [cl_nI (by omega), cl_nI (by omega)]
      by_cases h3 : 0 ≤ z ∧ z ≤ 1
      · by_cases h4 : (zH S i).2 1 = -1
        · refine ⟨zK S, zT S, zB S, ?_⟩
          rw [if_pos ⟨h1, h2, h3⟩, if_pos h4]
          simp only [n_95, e_95_0, e_95_1, e_95_4, e_95_7, e_95_8, e_95_11, e_95_12, e_95_15, e_95_18, e_95_19, e_95_20, e_95_21, e_95_24, e_95_27, e_95_29, e_95_30, e_95_31, e_95_34, e_95_35, e_95_36, e_95_39, e_95_40, e_95_43, e_95_45, c_isSheet, c_within, cn_s, pi_if, gO0, gO6, kNc, if_true, N_has hs hs10, rHr hi4, gH1 hi4, Option.bind_some]
          rw [if_pos h1, if_pos h2, if_pos h3, if_pos h4]; rfl
        · obtain ⟨m, hm, hz⟩ := hZ.1 i hi4
          rw [hz, cl_nI (by omega)]
          obtain ⟨K', e⟩ := thirsted_loop (d := d) (h := h) (nx := nx) (x := z) hG hi4 hz hm hj 20 0 (zT S) (upd (upd (zB S) 0 (-1000000005)) 1 (-1000000005)) (zK S) rfl
          refine ⟨K', (tdF (zL S) t s (zH S i).1 j m (zN S) 20 0 (zT S, upd (upd (zB S) 0 (-1000000005)) 1 (-1000000005))).1, (tdF (zL S) t s (zH S i).1 j m (zN S) 20 0 (zT S, upd (upd (zB S) 0 (-1000000005)) 1 (-1000000005))).2, ?_⟩
          rw [if_pos ⟨h1, h2, h3⟩, if_neg h4]
          refine Eq.trans ?_ e
          simp only [n_95, e_95_0, e_95_1, e_95_4, e_95_7, e_95_8, e_95_11, e_95_12, e_95_15, e_95_18, e_95_19, e_95_20, e_95_21, e_95_24, e_95_27, e_95_29, e_95_30, e_95_31, e_95_34, e_95_35, e_95_36, e_95_39, e_95_40, e_95_43, e_95_45, e_95_46, e_95_47, e_95_50, e_95_53, e_95_54n, e_95_54i, e_95_54r, c_isSheet, c_within, cn_s, cn_v, pi_if, gO0, gO3, gO6, kNc, k56, if_true, N_has hs hs10, rHr hi4, gH1 hi4, X_starts, Option.bind_some]
          rw [if_pos h1, if_pos h2, if_pos h3, if_neg h4]; rfl
      · refine ⟨zK S, zT S, zB S, ?_⟩
        rw [if_neg (fun q => h3 q.2.2)]
        simp only [n_95, e_95_0, e_95_1, e_95_4, e_95_7, e_95_8, e_95_11, e_95_12, e_95_15, e_95_18, e_95_19, e_95_20, e_95_21, e_95_24, e_95_27, e_95_29, c_isSheet, c_within, cn_s, pi_if, gO0, kNc, if_true, N_has hs hs10, Option.bind_some]
        rw [if_pos h1, if_pos h2, if_neg h3]; rfl
    · refine ⟨zK S, zT S, zB S, ?_⟩
      rw [if_neg (fun q => h2 q.2.1)]
      simp only [n_95, e_95_0, e_95_1, e_95_4, e_95_7, e_95_8, e_95_11, e_95_12, e_95_15, e_95_18, e_95_19, e_95_20, e_95_21, e_95_24, e_95_27, e_95_29, c_isSheet, c_within, cn_s, pi_if, gO0, kNc, if_true, N_has hs hs10, Option.bind_some]
      rw [if_pos h1, if_neg h2]; rfl
  · refine ⟨zK S, zT S, zB S, ?_⟩
    rw [if_neg (fun q => h1 q.1)]
    simp only [n_95, e_95_0, e_95_1, e_95_4, e_95_27, e_95_29, c_isSheet, cn_s, pi_if]
    rw [if_neg h1]; rfl
theorem w91 (hn : n < 96) : wI (CH h S) 91 (nI n) 0 x = some (CH h (sR S ((zR S).1, (zR S).2.1, (zR S).2.2.1, upd (zR S).2.2.2 n x))) := by
  rw [wA CH_91 hn (by omega), CH_y]
theorem g88_3 : gF (CH h S) 88 4 3 = some (.ref 91) := rfl
theorem k88 : ck (CH h S) 88 4 = true := rfl
theorem take_step (hl : (zR S).1 1 = nI n) (hn : n < 96) (hu : ¬ u < 0) : Df d 38 3 [.ref 88, .int x, .int u] [] (CH h S) nx = Df d 38 3 [.ref 88, .int x, .int (u + (-8))] [] (CH h (sR S (upd (zR S).1 1 (nI (n + 1)), (zR S).2.1, (zR S).2.2.1, upd (zR S).2.2.2 n (byt x u)))) nx := by
  have e := g88_1 (h := h) (S := sR S ((zR S).1, (zR S).2.1, (zR S).2.2.1, upd (zR S).2.2.2 n (byt x u)))
  rw [show (zR (sR S ((zR S).1, (zR S).2.1, (zR S).2.2.1, upd (zR S).2.2.2 n (byt x u)))).1 1 = nI n from hl] at e
  rw [e_38_3]
  simp only [e_38_4, e_38_7, e_38_8, e_38_11, e_38_13, e_38_16, e_38_17, e_38_20, e_38_21, e_38_24, e_38_25, e_38_26, e_38_27, e_38_30, e_38_31, g88_1, g88_3, hl, w91 hn, Option.bind_some]
  rw [if_neg hu, if_neg (show ¬ (96 : Int32) ≤ nI n from nI_ge (b := 96) hn (by omega))]
  rw [show ((x.toUInt32 >>> (u.toUInt32 &&& Int32.toUInt32 31)).toInt32 &&& 255) = byt x u from rfl]
  simp only [e_38_32]
  rw [e_38_33 rfl]
  simp only [e_38_34, e_38_37, e_38_38, e_38_39, e_38_42, e_38_45, e, q88_1, Option.bind_some, nI_1]
  rfl
theorem take_end (hu : u < 0) : Df d 38 3 [.ref 88, .int x, .int u] [] (CH h S) nx = some (none, CH h S, nx) := by
  rw [e_38_3]
  simp only [e_38_4, e_38_7, e_38_8, e_38_11, e_38_13, e_38_16, e_38_17, e_38_20, e_38_21, e_38_24, e_38_25, e_38_26, e_38_27, e_38_30, e_38_31, e_38_32, e_38_33i, e_38_33r, e_38_34, e_38_37, e_38_38, e_38_39, e_38_42, e_38_45, e_38_48]
  rw [if_pos hu]
theorem upd_2 (f : Nat → Int32) (k : Nat) (a b : Int32) : upd (upd f k a) k b = upd f k b := by
  funext j; unfold upd; by_cases e : j = k
  · rw [if_pos e, if_pos e]
  · rw [if_neg e, if_neg e, if_neg e]
theorem c_take (hl : (zR S).1 1 = nI n) (hn : n + 4 ≤ 96) : Dn (d + 1) 38 [.ref 88, .int x] (CH h S) nx = some (none, CH h (sR S (upd (zR S).1 1 (nI (n + 4)), (zR S).2.1, (zR S).2.2.1, fdB (zR S).2.2.2 n x)), nx) := by
  simp only [n_38, e_38_0, e_38_2n, e_38_2i, e_38_2r]
  rw [take_step hl (by omega) (by decide), show (24 : Int32) + -8 = 16 from by decide, take_step (n := n + 1) (by rfl) (by omega) (by decide), show (16 : Int32) + -8 = 8 from by decide, take_step (n := n + 2) (by rfl) (by omega) (by decide), show (8 : Int32) + -8 = 0 from by decide, take_step (n := n + 3) (by rfl) (by omega) (by decide), take_end (by decide)]
  dsimp only [zR, sR]
  rw [upd_2, upd_2, upd_2]
  rfl
theorem P_feed (hl : (zR S).1 1 = nI n) (hn : n ≤ 96) : Dn (d + 2) 100 [.ref 16, .int x, .int y, .int z] (CH h S) nx = if n + 12 ≤ 96 then an (nI (n + 12)) h (sR S (upd (zR S).1 1 (nI (n + 12)), (zR S).2.1, (zR S).2.2.1, fdB (fdB (fdB (zR S).2.2.2 n x) (n + 4) y) (n + 8) z)) nx else an (-1000000003) h S nx := by
  have e12 : nI n + 12 = nI (n + 12) := nI_add n 12
  by_cases h1 : n + 12 ≤ 96
  · rw [if_pos h1]
    have c1 := c_take (d := d) (h := h) (nx := nx) (x := x) hl (by omega)
    have c2 := c_take (d := d) (h := h) (nx := nx) (x := y) (n := n + 4) (S := sR S (upd (zR S).1 1 (nI (n + 4)), (zR S).2.1, (zR S).2.2.1, fdB (zR S).2.2.2 n x)) rfl (by omega)
    have c3 := c_take (d := d) (h := h) (nx := nx) (x := z) (n := n + 8) (S := sR S (upd (zR S).1 1 (nI (n + 8)), (zR S).2.1, (zR S).2.2.1, fdB (fdB (zR S).2.2.2 n x) (n + 4) y)) rfl (by omega)
    dsimp only [zR, sR] at c1 c2 c3
    rw [upd_2] at c2 c3
    simp only [n_100, e_100_0, e_100_1, e_100_4, e_100_7, e_100_9, e_100_10, e_100_12, e_100_15, e_100_17, e_100_18, e_100_19, e_100_22, e_100_23, gO5, g88_1, k88, if_true, hl, e12, Option.bind_some]
    rw [if_pos (show nI (n + 12) ≤ 96 from nI_le (b := 96) h1 (by omega))]
    dsimp only [zR, sR]
    rw [c1]
    simp only [e_100_26, e_100_27, e_100_30, e_100_31, cn_v, gO5, k88, if_true, Option.bind_some]
    rw [c2]
    simp only [e_100_34, e_100_35, e_100_38, e_100_39, cn_v, gO5, k88, if_true, Option.bind_some]
    rw [c3]
    simp only [e_100_42, e_100_43, e_100_46, e_100_49, cn_v, gO5, g88_1, Option.bind_some]
    rfl
  · rw [if_neg h1]
    simp only [n_100, e_100_0, e_100_1, e_100_4, e_100_7, e_100_9, e_100_10, e_100_12, e_100_15, e_100_17, gO5, g88_1, hl, e12, Option.bind_some]
    rw [if_neg (show ¬ nI (n + 12) ≤ 96 from nI_ge (a := 96) (by omega) (by omega))]
    rfl
end S13
