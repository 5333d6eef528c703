/-! the reader: levels and pieces over the bytecode -/
section RG
variable {d : Nat} {h : AH} {nx : AN} {n p a N o dn k j s m : Nat} {S : CS} {q ky x y z u : Int32} {st B : Nat → Int32} {P P' P2 : PS} {l1 l2 l3 l4 l5 l6 : Value} {g : PS → Bool × PS}
def lvOK (h : AH) (S : CS) (nx : AN) (n : Nat) (B : Nat → Int32) (ky : Int32) (g : PS → Bool × PS) (lv o dn d : Nat) : Prop := ∀ (P : PS) (st : Nat → Int32), wfP n P → P.2.2.2.1.length ≤ P.1 → SR st P.2.2.2.1 → ∃ st', SR st' (g P).2.2.2.2.1 ∧ Dn d 47 [.ref 88, .int (nI lv), .int (nI o), .int (nI dn)] (RQ h S n B ky P st) nx = some (some (.int (pi ((g P).1 = true))), RQ h S n B ky (g P).2 st', nx)
def pcOK (h : AH) (S : CS) (nx : AN) (n : Nat) (B : Nat → Int32) (ky : Int32) (g : PS → Bool × PS) (o dn d : Nat) : Prop := ∀ (P : PS) (st : Nat → Int32), wfP n P → P.2.2.2.1.length ≤ P.1 → SR st P.2.2.2.1 → ∃ st', SR st' (g P).2.2.2.2.1 ∧ Dn d 48 [.ref 88, .int (nI o), .int (nI dn)] (RQ h S n B ky P st) nx = some (some (.int (pi ((g P).1 = true))), RQ h S n B ky (g P).2 st', nx)
theorem pi_tt : pi (true = true) = 1 := rfl
theorem pi_ft : pi (false = true) = 0 := rfl
theorem level_loop {lv : Nat} (hl : lv < 5) (hn : n ≤ 96) (hmo : ∀ P, wfP n P → moP n P (g P).2) (hg : lvOK h S nx n B ky g (lv + 1) o dn (d + 14)) (hm : m < 1000) (rem : Nat) : ∀ (i : Nat) (P : PS) (st : Nat → Int32) (l6 : Value), nr l6 = true → i + rem = m → wfP n P → P.2.2.2.1.length ≤ P.1 → SR st P.2.2.2.1 → ∃ st', SR st' (lpL g B n lv rem P).2.2.2.2.1 ∧ Df (d + 14) 47 42 [.ref 88, .int (nI lv), .int (nI o), .int (nI dn), .int (nI m), .int (nI i), l6] [] (RQ h S n B ky P st) nx = some (some (.int (pi ((lpL g B n lv rem P).1 = true))), RQ h S n B ky (lpL g B n lv rem P).2 st', nx) := by
  induction rem with
  | zero =>
    intro i P st l6 h6 hi hP hC hS
    obtain rfl : i = m := by omega
    refine ⟨st, hS, ?_⟩
    rw [e_47_42]
    simp only [e_47_44, e_47_46, e_47_99, e_47_100, nR_b1, if_true]
    rw [if_pos (nI_le (Nat.le_refl _) (by omega))]
    rfl
  | succ rem ih =>
    intro i P st l6 h6 hi hP hC hS
    have w1 := stS_wf (B := B) hP
    unfold lpL
    by_cases h1 : jns lv P.2.2.1 = true
    · rw [if_pos h1]
      have w2 := stS_lt (B := B) hP (jns_258 h1)
      obtain ⟨st1, s1, e1⟩ := hg (stS B n P) st w1.1 (by show P.2.2.2.1.length ≤ _; omega) hS
      have m1 := hmo _ w1.1
      have hN : (g (stS B n P)).2.2.2.2.1.length < (g (stS B n P)).2.1 := by
        have := m1.2.2
        have e5 : (stS B n P).2.2.2.1.length = P.2.2.2.1.length := rfl
        omega
      have hn1 := m1.1.1
      by_cases h2 : (g (stS B n P)).1 = true
      · rw [if_pos h2]
        obtain ⟨st2, s2, e2⟩ := ih (i + 1) (adS (g (stS B n P)).2 P.2.2.1) (upd st1 (g (stS B n P)).2.2.2.2.1.length (-P.2.2.1)) (.int P.2.2.1) (nr_i _) (by omega) m1.1 (by show (g (stS B n P)).2.2.2.2.1.length + 1 ≤ (g (stS B n P)).2.1; omega) (SR_push s1)
        refine ⟨st2, s2, ?_⟩
        rw [← e2, e_47_42]
        simp only [e_47_44, e_47_46, e_47_49, e_47_50, e_47_51, e_47_54, e_47_57, e_47_60, e_47_61, gQ5, c_joins hl, cn_s, pi_if, Option.bind_some]
        rw [if_neg (nI_ge (by omega) (by omega)), if_pos h1, e_47_64 h6]
        simp only [e_47_66, e_47_67, e_47_70, e_47_71, e_47_72, e_47_73, e_47_74, e_47_75, e_47_76, e_47_79, e_47_82, e_47_83, e_47_84, e_47_85, e_47_88, e_47_90, e_47_93, e_47_96, gQ0, kQ, kQl, if_true, Q_step hn hP.2.1, cn_v, nI_1, e1, cn_s, pi_if, h2, Q_sign (show (g (stS B n P)).2.2.2.2.1.length < 96 by omega), Option.bind_some]
      · rw [if_neg h2]
        refine ⟨st1, s1, ?_⟩
        rw [e_47_42]
        simp only [e_47_44, e_47_46, e_47_49, e_47_50, e_47_51, e_47_54, e_47_57, e_47_60, e_47_61, gQ5, c_joins hl, cn_s, pi_if, Option.bind_some]
        rw [if_neg (nI_ge (by omega) (by omega)), if_pos h1, e_47_64 h6]
        simp only [e_47_66, e_47_67, e_47_70, e_47_71, e_47_72, e_47_73, e_47_74, e_47_75, e_47_76, e_47_79, e_47_82, e_47_83, gQ0, kQ, kQl, if_true, Q_step hn hP.2.1, cn_v, nI_1, e1, cn_s, pi_if, h2, if_false, nR_b0]
        rfl
    · rw [if_neg h1]
      refine ⟨st, hS, ?_⟩
      rw [e_47_42]
      simp only [e_47_44, e_47_46, e_47_49, e_47_50, e_47_51, e_47_54, e_47_57, e_47_99, e_47_100, gQ5, c_joins hl, cn_s, pi_if, nR_b1, if_true, Option.bind_some]
      rw [if_neg (nI_ge (by omega) (by omega)), if_neg h1]
      rfl
theorem level_one {lv f : Nat} (hl : lv < 5) (hn : n ≤ 96) (hg : lvOK h S nx n B ky (pL B n ky f (lv + 1) o dn) (lv + 1) o dn (d + 14)) : lvOK h S nx n B ky (pL B n ky (f + 1) lv o dn) lv o dn (d + 15) := by
  intro P st hP hC hS
  have m1 := pL_mo (B := B) (ky := ky) f (lv + 1) o dn P hP
  obtain ⟨st1, s1, e1⟩ := hg P st hP hC hS
  unfold pL
  rw [if_neg (show ¬ lv = 5 by omega)]
  by_cases h1 : (pL B n ky f (lv + 1) o dn P).1 = true
  · rw [if_pos h1]
    have hC1 : (pL B n ky f (lv + 1) o dn P).2.2.2.2.1.length ≤ (pL B n ky f (lv + 1) o dn P).2.1 := by have := m1.2.2; omega
    by_cases h2 : lv = 2
    · subst h2
      rw [if_pos rfl]
      obtain ⟨st2, s2, e2⟩ := level_loop (d := d) (m := 1) hl hn (fun P hP => pL_mo f (2 + 1) o dn P hP) hg (by omega) 1 0 _ st1 .null nr_n (by omega) m1.1 hC1 s1
      refine ⟨st2, s2, ?_⟩
      rw [← e2]
      simp only [n_47, e_47_0, e_47_1, e_47_2, e_47_5, e_47_6, e_47_7, e_47_8, e_47_11, e_47_12, e_47_13, e_47_14, e_47_15, e_47_16, e_47_17, e_47_18, e_47_21, e_47_24, e_47_25, e_47_26, e_47_27, e_47_28, e_47_31, e_47_32, e_47_35, e_47_37n, e_47_37i, e_47_37r, e_47_39, e_47_40n, e_47_40i, e_47_40r, kQ, if_true, nI_1, e1, cn_s, pi_if, h1]
      rw [if_pos (show nI 2 ≤ 4 by decide), if_pos (show nI 2 = 2 from rfl)]
      rfl
    · rw [if_neg h2]
      obtain ⟨st2, s2, e2⟩ := level_loop (d := d) (m := 96) hl hn (fun P hP => pL_mo f (lv + 1) o dn P hP) hg (by omega) 96 0 _ st1 .null nr_n (by omega) m1.1 hC1 s1
      refine ⟨st2, s2, ?_⟩
      rw [← e2]
      simp only [n_47, e_47_0, e_47_1, e_47_2, e_47_5, e_47_6, e_47_7, e_47_8, e_47_11, e_47_12, e_47_13, e_47_14, e_47_15, e_47_16, e_47_17, e_47_18, e_47_21, e_47_24, e_47_25, e_47_26, e_47_27, e_47_28, e_47_31, e_47_32, e_47_35, e_47_37n, e_47_37i, e_47_37r, e_47_39, e_47_40n, e_47_40i, e_47_40r, kQ, if_true, nI_1, e1, cn_s, pi_if, h1]
      rw [if_pos (show nI lv ≤ 4 from nI_le (b := 4) (by omega) (by omega)), if_neg (show ¬ nI lv = 2 from fun e => h2 ((nI_eq (b := 2) (by omega) (by omega)).mp e))]
      rfl
  · rw [if_neg h1]
    refine ⟨st1, s1, ?_⟩
    simp only [n_47, e_47_0, e_47_1, e_47_2, e_47_5, e_47_6, e_47_7, e_47_8, e_47_11, e_47_12, e_47_13, e_47_14, e_47_15, e_47_16, e_47_17, e_47_18, e_47_21, e_47_24, e_47_25, kQ, if_true, nI_1, e1, cn_s, pi_if, h1, if_false, nR_b0]
    rw [if_pos (show nI lv ≤ 4 from nI_le (b := 4) (by omega) (by omega))]
    rfl
theorem level_five (hg : pcOK h S nx n B ky g o dn d) : lvOK h S nx n B ky g 5 o dn (d + 1) := by
  intro P st hP hC hS
  obtain ⟨st1, s1, e1⟩ := hg P st hP hC hS
  refine ⟨st1, s1, ?_⟩
  simp only [n_47, e_47_0, e_47_1, e_47_2, e_47_5, e_47_6, e_47_7, e_47_8, e_47_11, kQ, if_true, e1, cn_s, nR_pi]
  rw [if_neg (show ¬ nI 5 ≤ 4 by decide)]
theorem Q_number (hn : n ≤ 96) (hP : wfP n P) (hN : P.2.2.2.1.length < 96) : Dn (d + 4) 49 [.ref 88] (RQ h S n B ky P st) nx = if P.2.1 - P.1 ≤ 4 then some (some (.int 1), RQ h S n B ky (stS B n (adO P (numF B (P.2.1 - P.1) P.1 0))) (upd st P.2.2.2.1.length (numF B (P.2.1 - P.1) P.1 0)), nx) else some (some (.int 0), RQ h S n B ky P st, nx) := c_readNumber hn hP.2.2.1 hP.2.1 hN
theorem Q_name (hn : n ≤ 96) (hP : wfP n P) (hp : P.1 < n) (hN : P.2.2.2.1.length < 96) : Dn (d + 10) 50 [.ref 88] (RQ h S n B ky P st) nx = match (if P.2.1 = P.1 + 1 then nmF B P.1 (strT (nmS ky)) 0 else none) with | some k => some (some (.int 1), RQ h S n B ky (stS B n (adO P (10000 + nI k))) (upd st P.2.2.2.1.length (10000 + nI k)), nx) | none => some (some (.int 0), RQ h S n B ky P st, nx) := c_readName hn hp hP.2.2.1 hP.2.1 hN
theorem piece_atom {f : Nat} (hn : n ≤ 96) (hP : wfP n P) (hC : P.2.2.2.1.length ≤ P.1) (hS : SR st P.2.2.2.1) (h33 : ¬ P.2.2.1 = 33) (h40 : ¬ P.2.2.1 = 40) : ∃ st', SR st' (pL B n ky (f + 1) 5 o dn P).2.2.2.2.1 ∧ Dn (d + 11) 48 [.ref 88, .int (nI o), .int (nI dn)] (RQ h S n B ky P st) nx = some (some (.int (pi ((pL B n ky (f + 1) 5 o dn P).1 = true))), RQ h S n B ky (pL B n ky (f + 1) 5 o dn P).2 st', nx) := by
  unfold pL
  rw [if_pos rfl, if_neg h33, if_neg h40]
  unfold pcA
  have hw := hP.2.2.2
  have hn2 := hP.2.1
  by_cases h1 : P.2.2.1 = 257
  · have hp : P.1 < n := by have := hw (by rw [h1]; decide); omega
    have hN : P.2.2.2.1.length < 96 := by omega
    rw [if_pos h1]
    by_cases h2 : P.2.1 - P.1 ≤ 4
    · rw [if_pos h2]
      refine ⟨upd st P.2.2.2.1.length (numF B (P.2.1 - P.1) P.1 0), SR_push hS, ?_⟩
      simp only [n_48, e_48_0, e_48_1, e_48_4, e_48_48, e_48_49, e_48_52, gQ5, h1, kQ, if_true, Q_number hn hP hN, h2, cn_s, nR_b1, Option.bind_some]
      simp [pi]
    · rw [if_neg h2]
      refine ⟨st, hS, ?_⟩
      simp only [n_48, e_48_0, e_48_1, e_48_4, e_48_48, e_48_49, e_48_52, gQ5, h1, kQ, if_true, Q_number hn hP hN, h2, if_false, cn_s, nR_b0, Option.bind_some]
      simp [pi]
  rw [if_neg h1]
  by_cases h2 : P.2.2.1 = 256
  · have hp : P.1 < n := by have := hw (by rw [h2]; decide); omega
    have hN : P.2.2.2.1.length < 96 := by omega
    have e := Q_name (d := d) (h := h) (nx := nx) (S := S) (B := B) (ky := ky) (st := st) hn hP hp hN
    rw [if_pos h2]
    generalize (if P.2.1 = P.1 + 1 then nmF B P.1 (strT (nmS ky)) 0 else none) = r at e ⊢
    cases r with
    | none =>
      refine ⟨st, hS, ?_⟩
      simp only [n_48, e_48_0, e_48_1, e_48_4, e_48_53, e_48_54, e_48_57, gQ5, h2, kQ, if_true, e, cn_s, nR_b0, Option.bind_some]
      simp [pi]
    | some k =>
      refine ⟨upd st P.2.2.2.1.length (10000 + nI k), SR_push hS, ?_⟩
      simp only [n_48, e_48_0, e_48_1, e_48_4, e_48_53, e_48_54, e_48_57, gQ5, h2, kQ, if_true, e, cn_s, nR_b1, Option.bind_some]
      simp [pi]
  · rw [if_neg h2]
    refine ⟨st, hS, ?_⟩
    simp only [n_48, e_48_0, e_48_1, e_48_4, e_48_104, e_48_105, gQ5, h1, h2, h33, h40, if_false, nR_b0, if_true, Option.bind_some]
    rfl
theorem piece_one {f : Nat} (hn : n ≤ 96) (ho : o ≤ 8) (hd : dn ≤ 8) (h1 : dn < 8 → pcOK h S nx n B ky (pL B n ky f 5 o (dn + 1)) o (dn + 1) (d + 12)) (h0 : o < 8 → lvOK h S nx n B ky (pL B n ky f 0 (o + 1) dn) 0 (o + 1) dn (d + 12)) : pcOK h S nx n B ky (pL B n ky (f + 1) 5 o dn) o dn (d + 14) := by
  intro P st hP hC hS
  have w1 := stS_wf (B := B) hP
  by_cases h33 : P.2.2.1 = 33
  · have w2 := stS_lt (B := B) hP (by rw [h33]; decide)
    unfold pL
    rw [if_pos rfl, if_pos h33]
    by_cases h2 : dn < 8
    · rw [if_pos h2]
      obtain ⟨st1, s1, e1⟩ := h1 h2 (stS B n P) st w1.1 (by show P.2.2.2.1.length ≤ _; omega) hS
      have m1 := pL_mo (B := B) (ky := ky) f 5 o (dn + 1) _ w1.1
      by_cases h3 : (pL B n ky f 5 o (dn + 1) (stS B n P)).1 = true
      · rw [if_pos h3]
        have hN : (pL B n ky f 5 o (dn + 1) (stS B n P)).2.2.2.2.1.length < 96 := by
          have := m1.2.2
          have e5 : (stS B n P).2.2.2.1.length = P.2.2.2.1.length := rfl
          have := m1.1.1
          omega
        refine ⟨upd st1 (pL B n ky f 5 o (dn + 1) (stS B n P)).2.2.2.2.1.length (-33), SR_push s1, ?_⟩
        have e2 : Dn (d + 13) 52 [.ref 88, .int (nI o), .int (nI (dn + 1))] (RQ h S n B ky P st) nx = some (some (.int 1), RQ h S n B ky (adS (pL B n ky f 5 o (dn + 1) (stS B n P)).2 33) (upd st1 (pL B n ky f 5 o (dn + 1) (stS B n P)).2.2.2.2.1.length (-33)), nx) := by
          simp only [n_52, e_52_0, e_52_1, e_52_4, e_52_5, e_52_6, e_52_7, e_52_10, e_52_13, e_52_14, e_52_15, e_52_16, e_52_19, e_52_21, e_52_24, e_52_25, kQ, kQl, gQ0, if_true, Q_step hn hP.2.1, cn_v, cn_s, e1, pi_if, h3, Q_sign hN, nR_b1, Option.bind_some]
        simp only [n_48, e_48_0, e_48_1, e_48_4, e_48_58, e_48_59, e_48_61, e_48_64, e_48_65, e_48_66, e_48_67, e_48_68, e_48_69, e_48_72, e_48_75, e_48_76, e_48_79, e_48_80, gQ5, h33, kQ, if_true, nI_1, e2, cn_s, nR_b1, Option.bind_some]
        rw [if_neg (show ¬ (8 : Int32) ≤ nI dn from nI_ge (b := 8) h2 (by omega))]
        rfl
      · rw [if_neg h3]
        refine ⟨st1, s1, ?_⟩
        have e2 : Dn (d + 13) 52 [.ref 88, .int (nI o), .int (nI (dn + 1))] (RQ h S n B ky P st) nx = some (some (.int 0), RQ h S n B ky (pL B n ky f 5 o (dn + 1) (stS B n P)).2 st1, nx) := by
          simp only [n_52, e_52_0, e_52_1, e_52_4, e_52_5, e_52_6, e_52_7, e_52_10, e_52_13, e_52_14, e_52_15, e_52_16, e_52_19, e_52_21, e_52_24, e_52_25, kQ, kQl, gQ0, if_true, Q_step hn hP.2.1, cn_v, cn_s, e1, pi_if, h3, Bool.false_eq_true, if_false, nR_b0, Option.bind_some]
        simp only [n_48, e_48_0, e_48_1, e_48_4, e_48_58, e_48_59, e_48_61, e_48_64, e_48_65, e_48_66, e_48_67, e_48_68, e_48_69, e_48_72, e_48_75, e_48_76, e_48_79, e_48_80, gQ5, h33, kQ, if_true, nI_1, e2, cn_s, nR_b0, Option.bind_some]
        rw [if_neg (show ¬ (8 : Int32) ≤ nI dn from nI_ge (b := 8) h2 (by omega))]
        rfl
    · rw [if_neg h2]
      refine ⟨st, hS, ?_⟩
      obtain rfl : dn = 8 := by omega
      simp only [n_48, e_48_0, e_48_1, e_48_4, e_48_58, e_48_59, e_48_61, e_48_79, e_48_80, gQ5, h33, if_true, nR_b0, Option.bind_some]
      rw [if_pos (by decide)]
      rfl
  by_cases h40 : P.2.2.1 = 40
  · have w2 := stS_lt (B := B) hP (by rw [h40]; decide)
    unfold pL
    rw [if_pos rfl, if_neg h33, if_pos h40]
    by_cases h2 : o < 8
    · rw [if_pos h2]
      obtain ⟨st1, s1, e1⟩ := h0 h2 (stS B n P) st w1.1 (by show P.2.2.2.1.length ≤ _; omega) hS
      have m1 := pL_mo (B := B) (ky := ky) f 0 (o + 1) dn _ w1.1
      have e1 : Dn (d + 12) 47 [.ref 88, .int 0, .int (nI (o + 1)), .int (nI dn)] (RQ h S n B ky (stS B n P) st) nx = some (some (.int (pi ((pL B n ky f 0 (o + 1) dn (stS B n P)).1 = true))), RQ h S n B ky (pL B n ky f 0 (o + 1) dn (stS B n P)).2 st1, nx) := e1
      refine ⟨st1, ?_, ?_⟩
      · split
        · split
          · exact s1
          · exact s1
        · exact s1
      · have e2 : Dn (d + 13) 53 [.ref 88, .int (nI (o + 1)), .int (nI dn)] (RQ h S n B ky P st) nx = if (pL B n ky f 0 (o + 1) dn (stS B n P)).1 = true then (if (pL B n ky f 0 (o + 1) dn (stS B n P)).2.2.2.1 = 41 then some (some (.int 1), RQ h S n B ky (stS B n (pL B n ky f 0 (o + 1) dn (stS B n P)).2) st1, nx) else some (some (.int 0), RQ h S n B ky (pL B n ky f 0 (o + 1) dn (stS B n P)).2 st1, nx)) else some (some (.int 0), RQ h S n B ky (pL B n ky f 0 (o + 1) dn (stS B n P)).2 st1, nx) := by
          simp only [n_53, e_53_0, e_53_1, e_53_4, e_53_5, e_53_6, e_53_7, e_53_8, e_53_11, e_53_14, e_53_15, e_53_18, e_53_20, e_53_23, e_53_24, e_53_25, e_53_26, e_53_29, e_53_30, kQ, gQ5, if_true, Q_step hn hP.2.1, Q_step hn m1.1.2.1, cn_v, cn_s, e1, pi_if, nR_b0, nR_b1, Option.bind_some]
        simp only [n_48, e_48_0, e_48_1, e_48_4, e_48_81, e_48_82, e_48_84, e_48_87, e_48_88, e_48_89, e_48_90, e_48_91, e_48_92, gQ5, h40, show ¬ (40 : Int32) = 33 by decide, if_false, kQ, if_true, nI_1, e2, Option.bind_some]
        rw [if_neg (show ¬ (8 : Int32) ≤ nI o from nI_ge (b := 8) h2 (by omega))]
        by_cases h3 : (pL B n ky f 0 (o + 1) dn (stS B n P)).1 = true
        · rw [if_pos h3, if_pos h3]
          by_cases h4 : (pL B n ky f 0 (o + 1) dn (stS B n P)).2.2.2.1 = 41
          · rw [if_pos h4, if_pos h4]
            simp only [e_48_95, e_48_98, e_48_99, e_48_102, e_48_103, cn_s, nR_b1, if_true]
            simp [pi]
          · rw [if_neg h4, if_neg h4]
            simp only [e_48_95, e_48_98, e_48_99, e_48_102, e_48_103, cn_s, nR_b0, if_true]
            simp [pi]
        · rw [if_neg h3, if_neg h3]
          simp only [e_48_95, e_48_98, e_48_99, e_48_102, e_48_103, cn_s, nR_b0, if_true]
          simp [pi]
    · rw [if_neg h2]
      refine ⟨st, hS, ?_⟩
      obtain rfl : o = 8 := by omega
      simp only [n_48, e_48_0, e_48_1, e_48_4, e_48_81, e_48_82, e_48_84, e_48_102, e_48_103, gQ5, h40, show ¬ (40 : Int32) = 33 by decide, if_false, if_true, nR_b0, Option.bind_some]
      rw [if_pos (by decide)]
      rfl
  · exact piece_atom (d := d + 3) hn hP hC hS h33 h40
theorem levels (hn : n ≤ 96) : ∀ (f : Nat), (∀ (lv o dn d : Nat), lv ≤ 5 → o ≤ 8 → dn ≤ 8 → (6 - lv) + 6 * (8 - o) + (8 - dn) ≤ f → 3 * f + 15 ≤ d → lvOK h S nx n B ky (pL B n ky f lv o dn) lv o dn d) ∧ (∀ (o dn d : Nat), o ≤ 8 → dn ≤ 8 → 1 + 6 * (8 - o) + (8 - dn) ≤ f → 3 * f + 14 ≤ d → pcOK h S nx n B ky (pL B n ky f 5 o dn) o dn d) := by
  intro f
  induction f with
  | zero => exact ⟨fun lv o dn d h1 h2 h3 h4 _ => by omega, fun o dn d h1 h2 h3 _ => by omega⟩
  | succ f ih =>
    have pc : ∀ (o dn d : Nat), o ≤ 8 → dn ≤ 8 → 1 + 6 * (8 - o) + (8 - dn) ≤ f + 1 → 3 * (f + 1) + 14 ≤ d → pcOK h S nx n B ky (pL B n ky (f + 1) 5 o dn) o dn d := by
      intro o dn d ho hd hf hd2
      obtain ⟨d', rfl⟩ : ∃ d', d = d' + 14 := ⟨d - 14, by omega⟩
      refine piece_one hn ho hd (fun q => ih.2 o (dn + 1) _ ho q (by omega) (by omega)) (fun q => ?_)
      by_cases hf1 : 3 * f + 15 ≤ d' + 12
      · exact ih.1 0 (o + 1) dn _ (by omega) q hd (by omega) hf1
      · omega
    refine ⟨?_, pc⟩
    intro lv o dn d hl ho hd hf hd2
    by_cases h5 : lv = 5
    · subst h5
      obtain ⟨d', rfl⟩ : ∃ d', d = d' + 1 := ⟨d - 1, by omega⟩
      exact level_five (pc o dn d' ho hd (by omega) (by omega))
    · obtain ⟨d', rfl⟩ : ∃ d', d = d' + 15 := ⟨d - 15, by omega⟩
      exact level_one (by omega) hn (ih.1 (lv + 1) o dn _ (by omega) ho hd (by omega) (by omega))
end RG
