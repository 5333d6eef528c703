/-! sheet, textTold, pour, reads -/
def cpk (n : Nat) (f g : Nat → Int32) : Nat → Int32 := fun k => if k < n then f k else g k
theorem cpk_0 (f g : Nat → Int32) : cpk 0 f g = g := by funext k; simp [cpk]
theorem cpk_s (f g : Nat → Int32) (k : Nat) : upd (cpk k f g) k (f k) = cpk (k + 1) f g := by
  funext j
  unfold upd cpk
  by_cases e : j = k
  · subst e; rw [if_pos rfl, if_pos (by omega)]
  · rw [if_neg e]
    by_cases e2 : j < k
    · rw [if_pos e2, if_pos (by omega)]
    · rw [if_neg e2, if_neg (by omega)]
/-- what pouring makes of the wells, from the k-th cell on -/
def poF (f : Nat → Int32) (m : Nat) : Nat → Nat → DT × Int32 → DT × Int32
  | 0, _, p => p
  | n + 1, k, (D, x) => poF f m n (k + 1) (if k < m ∧ ¬ f k = -1000000005 then (dwt D k (hld (f k) 0 99), if D.1 k = hld (f k) 0 99 then x else x + 1) else (D, x))
def reF (f : Nat → Int32) (m s : Nat) (W : Nat → Nat → Int32) : Nat → Nat → Int32
  | 0, _ => -1000000005
  | n + 1, k => if (k < m ∧ ¬ f k = -1000000005) ∧ ¬ (k < s ∧ f k = W k 1) then nI k else reF f m s W n (k + 1)
section S11
variable {d : Nat} {h H : AH} {nx : AN} {i j s n c t g p m a : Nat} {S : CS} {D E : DT} {x y z u : Int32} {f q : Nat → Int32} {l1 l2 l3 l4 l5 : Value}
theorem cpk_z : upd (cpk n (fun _ => 0) f) n 0 = cpk (n + 1) (fun _ => 0) f := cpk_s _ _ _
theorem upH_s {Sh : ShT} {v : (Nat → Int32) × (Nat → Int32)} : upH Sh i v i = v := if_pos rfl
theorem upH_2 {Sh : ShT} {v w : (Nat → Int32) × (Nat → Int32)} : upH (upH Sh i v) i w = upH Sh i w := by
  funext k; unfold upH; by_cases e : k = i
  · rw [if_pos e, if_pos e]
  · rw [if_neg e, if_neg e, if_neg e]
theorem zHs {X : ShT} : zH (sH S X) = X := rfl
theorem sHs {X Y : ShT} : sH (sH S X) Y = sH S Y := rfl
theorem zNs : zN (sN S D) = D := rfl
theorem sNs : sN (sN S D) E = sN S E := rfl
theorem zHN : zH (sN S D) = zH S := rfl
theorem starts_loop (hi : i < 4) (n : Nat) : ∀ (k : Nat), k + n = 24 → Df d 58 12 [.ref (95 + 2 * i), l1, l2, .int (nI k)] [] (CH h (sH S (upH (zH S) i (cpk k (fun _ => 0) f, q)))) nx = some (none, CH h (sH S (upH (zH S) i (cpk 24 (fun _ => 0) f, q))), nx) := by
  induction n with
  | zero =>
    intro k hk
    obtain rfl : k = 24 := by omega
    rw [e_58_12]
    simp only [e_58_13, e_58_15, e_58_18, e_58_19, e_58_22, e_58_23, e_58_24, e_58_25, e_58_28, e_58_31]
    rw [if_pos (by decide)]
  | succ n ih =>
    intro k hk
    have hk24 : k < 24 := by omega
    have e := wHx (h := h) (S := sH S (upH (zH S) i (cpk k (fun _ => 0) f, q))) (x := 0) hi hk24
    rw [zHs, upH_s, upH_2, sHs] at e
    dsimp only at e
    rw [cpk_z] at e
    rw [e_58_12]
    simp only [e_58_13, e_58_15, e_58_18, e_58_19, e_58_22, e_58_23, e_58_24, e_58_25, e_58_28, e_58_31, gH0 hi, e, Option.bind_some, nI_1]
    rw [if_neg (show ¬ (24 : Int32) ≤ nI k from nI_ge (b := 24) hk24 (by omega))]
    exact ih (k + 1) (by omega)
theorem c_starts (hi : i < 4) : Dn (d + 1) 58 [.ref (95 + 2 * i), .int y, .int z] (CH h S) nx = some (none, CH h (sH S (upH (zH S) i (cpk 24 (fun _ => 0) (zH S i).1, upd (upd (zH S i).2 1 y) 2 z))), nx) := by
  have e2 := qH2 (h := h) (S := sH S (upH (zH S) i ((zH S i).1, upd (zH S i).2 1 y))) (x := z) hi
  rw [zHs, upH_s, upH_2, sHs] at e2
  dsimp only at e2
  simp only [n_58, e_58_0, e_58_1, e_58_2, e_58_5, e_58_6, e_58_7, e_58_10, e_58_11n, e_58_11i, e_58_11r, qH1 hi, e2, Option.bind_some]
  have e3 := starts_loop (d := d) (h := h) (nx := nx) (S := S) (f := (zH S i).1) (q := upd (upd (zH S i).2 1 y) 2 z) (l1 := .int y) (l2 := .int z) hi 24 0 rfl
  rw [cpk_0] at e3
  exact e3
theorem P_sheet : Dn (d + 3) 105 [.ref 16, .int x, .int y, .int z] (CH h S) nx = if (0 ≤ x ∧ x ≤ 3) ∧ (-1 ≤ y ∧ y ≤ 1) ∧ (y = -1 ∨ z ≤ 24) then (if ¬ y = -1 ∧ z < 0 then an (-1000000014) h S nx else an (if y = -1 then 0 else z) h (sH S (upH (zH S) x.toNatClampNeg (cpk 24 (fun _ => 0) (zH S x.toNatClampNeg).1, upd (upd (zH S x.toNatClampNeg).2 1 y) 2 (if y = -1 then 0 else z)))) nx) else an (-1000000001) h S nx := by
  by_cases h1 : 0 ≤ x ∧ x ≤ 3
  · obtain ⟨i, hi, rfl⟩ := idxle (m := 3) h1 (by omega)
    have hi4 : i < 4 := by omega
    rw [cl_nI (by omega)]
    simp only [n_105, e_105_0, e_105_1, e_105_4, e_105_7, e_105_8, e_105_9, e_105_10, e_105_13, e_105_16, e_105_17, e_105_18, e_105_21, e_105_22, e_105_24, e_105_27, e_105_29, e_105_30, e_105_31, e_105_32, e_105_35, e_105_36, e_105_39, e_105_42, e_105_43, e_105_44, e_105_45, e_105_48, e_105_49, e_105_52, e_105_53n, e_105_53i, e_105_53r, e_105_55, e_105_56, e_105_59, e_105_60, e_105_61, e_105_62, e_105_64, e_105_67, e_105_69, c_isSheet, c_within, cn_s, cn_v, pi_if, gO6, rHr hi4, kH hi4, if_true, c_starts hi4, Option.bind_some]
    by_cases h2 : -1 ≤ y ∧ y ≤ 1
    · by_cases h3 : y = -1
      · subst h3
        simp [h1, h2, an]
      · by_cases h4 : z ≤ 24
        · by_cases h5 : 0 ≤ z
          · have h6 : ¬ z < 0 := by rw [i_nlt]; exact h5
            simp [h1, h2, h3, h4, h5, h6, an]
          · have h6 : z < 0 := by rw [← i_nle]; exact h5
            simp [h1, h2, h3, h4, h5, h6, an]
        · simp [h1, h2, h3, h4, an]
    · simp [h1, h2, an]
  · rw [if_neg (fun q => h1 q.1)]
    simp only [n_105, e_105_0, e_105_1, e_105_4, e_105_27, e_105_29, c_isSheet, cn_s, pi_if]
    rw [if_neg h1]; rfl
theorem idxp (hx : 0 ≤ x ∧ x ≤ nI t - 1) (ht : t < 2147483647) : ∃ i, i < t ∧ x = nI i := by
  cases t with
  | zero =>
    exact absurd (Int32.le_trans hx.1 hx.2) (by decide)
  | succ t =>
    rw [nI_pred] at hx
    obtain ⟨i, hi, e⟩ := idxle hx (by omega)
    exact ⟨i, by omega, e⟩
theorem g57_0 : gF (CH h S) 57 3 0 = some (.ref 58) := rfl
theorem rKr (hi : i < 14) : rR (CH h S) 58 (nI i) = some (60 + 2 * i) := by rw [L_CH]; exact rLr (lb := 57) hi
theorem gK1 (hi : i < 14) : gF (CH h S) (60 + 2 * i) 2 1 = some (.int ((zL S).2 i 1)) := by rw [L_CH]; exact gLl1 (lb := 57) hi
theorem gK2 (hi : i < 14) : gF (CH h S) (60 + 2 * i) 2 2 = some (.int ((zL S).2 i 2)) := by rw [L_CH]; exact gLl2 (lb := 57) hi
theorem gK3 (hi : i < 14) : gF (CH h S) (60 + 2 * i) 2 3 = some (.int ((zL S).2 i 3)) := by rw [L_CH]; exact gLl3 (lb := 57) hi
theorem P_textTold (hG : cG S s t) : Dn (d + 2) 103 [.ref 16, .int x, .int y] (CH h S) nx = an (if (0 ≤ x ∧ x ≤ nI t - 1) ∧ (0 ≤ y ∧ y ≤ 1) then (if y = 0 then (zL S).2 x.toNatClampNeg 2 else (zL S).2 x.toNatClampNeg 3) else -1000000001) h S nx := by
  have ht := hG.2.1
  have h14 := hG.2.2.1
  by_cases h1 : 0 ≤ x ∧ x ≤ nI t - 1
  · obtain ⟨i, hi, rfl⟩ := idxp h1 (by omega)
    have hi14 : i < 14 := by omega
    rw [cl_nI (by omega)]
    simp only [n_103, e_103_0, e_103_1, e_103_2, e_103_3, e_103_6, e_103_9, e_103_10, e_103_11, e_103_14, e_103_17, e_103_18, e_103_19, e_103_20, e_103_23, e_103_26, e_103_28, e_103_29, e_103_30, e_103_33, e_103_36, e_103_37, e_103_38n, e_103_38i, e_103_38r, e_103_39, e_103_40, e_103_43, e_103_44, e_103_47, e_103_50, e_103_51, e_103_54, c_within, cn_s, pi_if, gO0, gO4, gN12, ht, g57_0, rKr hi14, gK2 hi14, gK3 hi14, Option.bind_some]
    by_cases h2 : 0 ≤ y ∧ y ≤ 1
    · by_cases h3 : y = 0
      · subst h3; simp [h1, an]
      · simp [h1, h2, h3, an]
    · simp [h1, h2, an]
  · rw [if_neg (fun q => h1 q.1)]
    simp only [n_103, e_103_0, e_103_1, e_103_2, e_103_3, e_103_6, e_103_9, e_103_10, e_103_11, e_103_14, e_103_17, e_103_18, e_103_19, e_103_20, e_103_23, e_103_26, e_103_28, c_within, cn_s, pi_if, gO0, gN12, ht, Option.bind_some]
    rw [if_neg h1]; rfl
theorem H_num (hi : i < 4) (hz : (zH S i).2 2 = nI m) (hm : m ≤ 24) (hk : n < 24) : Dn (d + 2) 56 [.ref (95 + 2 * i), .int (nI n)] (CH h S) nx = some (some (.int (pi (n < m ∧ ¬ (zH S i).1 n = -1000000005))), CH h S, nx) := by
  have e := H_hasNumber (d := d) (h := h) (nx := nx) (S := S) (x := nI n) hi hz hm
  rw [cl_nI (by omega)] at e
  have e2 : (0 ≤ nI n ∧ nI n < nI m) = (n < m) := propext ⟨fun q => (nI_ltI (by omega) (by omega)).mp q.2, fun q => ⟨nI_pos' (by omega), nI_lt q (by omega)⟩⟩
  simp only [e2] at e
  exact e
theorem pour_loop (hi : i < 4) (hz : (zH S i).2 2 = nI m) (hm : m ≤ 24) (n : Nat) : ∀ (k : Nat) (D : DT) (x : Int32) (l5 : Value), nr l5 = true → k + n = 24 → Df (d + 2) 107 33 [.ref 16, l1, .ref (95 + 2 * i), .int x, .int (nI k), l5] [] (CH h (sN S D)) nx = an (poF (zH S i).1 m n k (D, x)).2 h (sN S (poF (zH S i).1 m n k (D, x)).1) nx := by
  induction n with
  | zero =>
    intro k D x l5 _ hk
    obtain rfl : k = 24 := by omega
    rw [e_107_33]
    simp only [e_107_35, e_107_37, e_107_100, e_107_101]
    rw [if_pos (by decide)]
    rfl
  | succ n ih =>
    intro k D x l5 h5 hk
    have hk24 : k < 24 := by omega
    have eN : Dn (d + 2) 56 [.ref (95 + 2 * i), .int (nI k)] (CH h (sN S D)) nx = some (some (.int (pi (k < m ∧ ¬ (zH S i).1 k = -1000000005))), CH h (sN S D), nx) := H_num (S := sN S D) hi hz hm hk24
    rw [e_107_33]
    simp only [e_107_35, e_107_37, e_107_40, e_107_41, e_107_43, e_107_46, e_107_49, e_107_50, e_107_53, e_107_55, e_107_56, e_107_57, e_107_59, kH hi, if_true, eN, cn_s, pi_if, gH0 hi, rHx hi hk24, zHN, c_held (show (0 : Int32) ≤ 99 by decide), Option.bind_some]
    rw [if_neg (show ¬ (24 : Int32) ≤ nI k from nI_ge (b := 24) hk24 (by omega)), e_107_62 h5]
    simp only [e_107_64, e_107_65, e_107_68, e_107_71, e_107_73, e_107_74, e_107_76, e_107_79, e_107_82, e_107_83, e_107_86, e_107_89, e_107_91, e_107_93, e_107_94, e_107_97, gO0, gN0, rNx hk24, wNx hk24, zNs, sNs, Option.bind_some, nI_1]
    unfold poF
    by_cases h1 : k < m ∧ ¬ (zH S i).1 k = -1000000005
    · rw [if_pos h1, if_pos h1]
      by_cases h2 : D.1 k = hld ((zH S i).1 k) 0 99
      · rw [if_pos h2, if_pos h2]
        exact ih (k + 1) _ _ _ (nr_i _) (by omega)
      · rw [if_neg h2, if_neg h2]
        exact ih (k + 1) _ _ _ (nr_i _) (by omega)
    · rw [if_neg h1, if_neg h1]
      exact ih (k + 1) _ _ _ h5 (by omega)
theorem P_pour (hZ : zOK S) : Dn (d + 3) 107 [.ref 16, .int x] (CH h S) nx = if 0 ≤ x ∧ x ≤ 3 then (if (zH S x.toNatClampNeg).2 1 = -1 then an (-1000000011) h S nx else an (poF (zH S x.toNatClampNeg).1 ((zH S x.toNatClampNeg).2 2).toNatClampNeg 24 0 (zN S, 0)).2 h (sN S (poF (zH S x.toNatClampNeg).1 ((zH S x.toNatClampNeg).2 2).toNatClampNeg 24 0 (zN S, 0)).1) nx) else an (-1000000001) h S nx := by
  by_cases h1 : 0 ≤ x ∧ x ≤ 3
  · rw [if_pos h1]
    obtain ⟨i, hi, rfl⟩ := idxle (m := 3) h1 (by omega)
    have hi4 : i < 4 := by omega
    rw [cl_nI (by omega)]
    obtain ⟨m, hm, hz⟩ := hZ.1 i hi4
    simp only [n_107, e_107_0, e_107_1, e_107_4, e_107_7, e_107_9, e_107_10, e_107_11, e_107_14, e_107_15, e_107_16n, e_107_16i, e_107_16r, e_107_17, e_107_18, e_107_21, e_107_22, e_107_25, e_107_27, e_107_28, e_107_29n, e_107_29i, e_107_29r, e_107_30, e_107_31n, e_107_31i, e_107_31r, c_isSheet, cn_s, pi_if, gO6, rHr hi4, gH1 hi4, Option.bind_some]
    rw [if_pos h1]
    by_cases h2 : (zH S i).2 1 = -1
    · rw [if_pos h2, if_pos h2]; rfl
    · rw [if_neg h2, if_neg h2, hz, cl_nI (by omega)]
      exact pour_loop (S := S) hi4 hz hm 24 0 (zN S) 0 _ nr_n rfl
  · rw [if_neg h1]
    simp only [n_107, e_107_0, e_107_1, e_107_4, e_107_7, e_107_9, c_isSheet, cn_s, pi_if]
    rw [if_neg h1]; rfl
theorem reads_loop (hG : cG S s t) (hi : i < 4) (hz : (zH S i).2 2 = nI m) (hm : m ≤ 24) (n : Nat) : ∀ (k : Nat), k + n = 24 → Df (d + 2) 108 30 [.ref 16, l1, .ref (95 + 2 * i), .int (nI k)] [] (CH h S) nx = an (reF (zH S i).1 m s (zN S).2.1 n k) h S nx := by
  have hs := hG.1.1
  have hs10 := hG.1.2.1
  induction n with
  | zero =>
    intro k hk
    obtain rfl : k = 24 := by omega
    rw [e_108_30]
    simp only [e_108_31, e_108_33, e_108_36, e_108_37, e_108_38, e_108_41, e_108_44, e_108_45, e_108_48, e_108_49, e_108_52, e_108_55, e_108_56, e_108_59, e_108_60, e_108_61, e_108_62, e_108_65, e_108_66, e_108_69, e_108_72, e_108_73, e_108_74, e_108_77, e_108_80, e_108_82]
    rw [if_pos (by decide)]
    rfl
  | succ n ih =>
    intro k hk
    have hk24 : k < 24 := by omega
    rw [e_108_30]
    simp only [e_108_31, e_108_33, e_108_36, e_108_37, e_108_38, e_108_41, e_108_44, e_108_45, e_108_48, e_108_49, e_108_52, e_108_55, e_108_56, e_108_59, e_108_60, e_108_61, gO0, kNc, kH hi, if_true, H_num hi hz hm hk24, N_has hs hs10, cn_s, pi_if, gH0 hi, rHx hi hk24, Option.bind_some]
    rw [if_neg (show ¬ (24 : Int32) ≤ nI k from nI_ge (b := 24) hk24 (by omega))]
    have e74 : ∀ st, Df (d + 2) 108 74 [.ref 16, l1, .ref (95 + 2 * i), .int (nI k)] st (CH h S) nx = Df (d + 2) 108 30 [.ref 16, l1, .ref (95 + 2 * i), .int (nI (k + 1))] st (CH h S) nx := fun st => by
      simp only [e_108_74, e_108_77, nI_1]
    have e72 : Df (d + 2) 108 72 [.ref 16, l1, .ref (95 + 2 * i), .int (nI k)] [] (CH h S) nx = an (nI k) h S nx := by
      simp only [e_108_72, e_108_73]; rfl
    unfold reF
    by_cases h1 : k < m ∧ ¬ (zH S i).1 k = -1000000005
    · rw [if_pos h1]
      by_cases h2 : k < s
      · rw [if_pos ⟨nI_pos' (by omega), nI_lt h2 (by omega)⟩]
        simp only [e_108_62, e_108_65, e_108_66, e_108_69, gO0, kNc, if_true, N_thirstOf hs hs10 h2, cn_s, Option.bind_some]
        by_cases h3 : (zH S i).1 k = (zN S).2.1 k 1
        · rw [if_pos h3, if_neg (fun q => q.2 ⟨h2, h3⟩), e74]
          exact ih (k + 1) (by omega)
        · rw [if_neg h3, if_pos ⟨h1, fun q => h3 q.2⟩, e72]
      · rw [if_neg (fun q => h2 ((nI_ltI (by omega) (by omega)).mp q.2)), if_pos ⟨h1, fun q => h2 q.1⟩, e72]
    · rw [if_neg h1, if_neg (fun q => h1 q.1), e74]
      exact ih (k + 1) (by omega)
theorem P_reads (hG : cG S s t) (hZ : zOK S) : Dn (d + 3) 108 [.ref 16, .int x] (CH h S) nx = an (if 0 ≤ x ∧ x ≤ 3 then (if (zH S x.toNatClampNeg).2 1 = -1 then -1000000011 else reF (zH S x.toNatClampNeg).1 ((zH S x.toNatClampNeg).2 2).toNatClampNeg s (zN S).2.1 24 0) else -1000000001) h S nx := by
  by_cases h1 : 0 ≤ x ∧ x ≤ 3
  · rw [if_pos h1]
    obtain ⟨i, hi, rfl⟩ := idxle (m := 3) h1 (by omega)
    have hi4 : i < 4 := by omega
    rw [cl_nI (by omega)]
    obtain ⟨m, hm, hz⟩ := hZ.1 i hi4
    simp only [n_108, e_108_0, e_108_1, e_108_4, e_108_7, e_108_9, e_108_10, e_108_11, e_108_14, e_108_15, e_108_16n, e_108_16i, e_108_16r, e_108_17, e_108_18, e_108_21, e_108_22, e_108_25, e_108_27, e_108_28, e_108_29n, e_108_29i, e_108_29r, c_isSheet, cn_s, pi_if, gO6, rHr hi4, gH1 hi4, Option.bind_some]
    rw [if_pos h1]
    by_cases h2 : (zH S i).2 1 = -1
    · rw [if_pos h2, if_pos h2]; rfl
    · rw [if_neg h2, if_neg h2, hz, cl_nI (by omega)]
      exact reads_loop hG hi4 hz hm 24 0 rfl
  · rw [if_neg h1]
    simp only [n_108, e_108_0, e_108_1, e_108_4, e_108_7, e_108_9, c_isSheet, cn_s, pi_if]
    rw [if_neg h1]; rfl
end S11
