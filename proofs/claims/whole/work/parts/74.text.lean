/-! text -/
def tx0 (B : Nat → Int32) (n : Nat) : PS := (stP B n 0, stA B n 0, stQ B n 0 260, [], 0)
/-- what reading the tape comes to: the key, if it is a TEXT, and where the reader stands then -/
def txF (B : Nat → Int32) (n : Nat) : Option Nat × PS := if (tx0 B n).2.2.1 = 256 then (match rky B (tx0 B n).1 (tx0 B n).2.1 with
    | some k => if (pL B n (nI k) 62 0 0 0 (stS B n (tx0 B n))).1 = true ∧ (pL B n (nI k) 62 0 0 0 (stS B n (tx0 B n))).2.2.2.1 = 258 then (some k, (pL B n (nI k) 62 0 0 0 (stS B n (tx0 B n))).2) else (none, (pL B n (nI k) 62 0 0 0 (stS B n (tx0 B n))).2)
    | none => (none, tx0 B n)) else (none, tx0 B n)
section TX
variable {d : Nat} {h : AH} {nx : AN} {n p a N o dn k j s m t i lb : Nat} {S : CS} {q ky x y z u : Int32} {st B f K rn ln : Nat → Int32} {P P' P2 : PS} {L : LT}
theorem ex_nI (x : Int32) : ∃ k, x = nI k := ⟨x.toBitVec.toNat, by
  apply Int32.toBitVec_inj.mp
  simp [nI]⟩
theorem CH_rq {rn' ln' : Nat → Int32} (h1 : rO rn = rO rn') (h2 : qO ln = qO ln') : CH h (sR S (rn, ln, st, B)) = CH h (sR S (rn', ln', st, B)) := by
  have e1 := CH_r (h := h) (S := sR S (rn, ln, st, B)) (x := rn')
  have e2 := CH_q (h := h) (S := sR S (rn', ln, st, B)) (x := ln')
  have e3 : put (CH h (sR S (rn, ln, st, B))) 88 (rO rn') = CH h (sR S (rn, ln, st, B)) := put_id (by rw [← h1]; rfl)
  have e4 : put (CH h (sR S (rn', ln, st, B))) 89 (qO ln') = CH h (sR S (rn', ln, st, B)) := put_id (by rw [← h2]; rfl)
  rw [e3] at e1
  rw [e4] at e2
  exact e1.trans e2
theorem wf_260 : wfP n (tx0 B n) := by
  have e1 := stP_le (B := B) (n := n) (a := 0) (by omega)
  have e2 := stT_le (B := B) e1.2
  exact ⟨e1.2, e2.1, e2.2.1, fun e => by
    have e : stQ B n 0 260 ≠ 258 := e
    exact stQ_258 e (by omega)⟩
theorem txF_wf : wfP n (txF B n).2 := by
  unfold txF
  by_cases h1 : (tx0 B n).2.2.1 = 256
  · rw [if_pos h1]
    cases rky B (tx0 B n).1 (tx0 B n).2.1 with
    | none => exact wf_260
    | some k =>
      dsimp only
      split
      · exact (pL_mo _ _ _ _ _ (stS_wf wf_260).1).1
      · exact (pL_mo _ _ _ _ _ (stS_wf wf_260).1).1
  · rw [if_neg h1]; exact wf_260
theorem c_lstarts : Dn (d + 1) 27 [.ref 89] (CH h S) nx = some (none, CH h (sR S ((zR S).1, upd (upd (upd (zR S).2.1 1 0) 2 0) 3 0, (zR S).2.2)), nx) := by
  simp only [n_27, e_27_0, e_27_1, e_27_2, e_27_5, e_27_6, e_27_7, e_27_10, e_27_11, e_27_12, e_27_15, q89_1, q89_2, q89_3, Option.bind_some]
  rfl
theorem k89 : ck (CH h S) 89 2 = true := rfl
theorem g88_0 : gF (CH h S) 88 4 0 = some (.ref 89) := rfl
theorem c_readText (hl : (zR S).1 1 = nI n) (hn : n ≤ 96) : ∃ ky st, SR st (txF (zR S).2.2.2 n).2.2.2.2.1 ∧ (∀ k, (txF (zR S).2.2.2 n).1 = some k → ky = nI k) ∧ Dn (d + 202) 39 [.ref 88] (CH h S) nx = some (some (.int (pi ((txF (zR S).2.2.2 n).1.isSome = true))), RQ h S n (zR S).2.2.2 ky (txF (zR S).2.2.2 n).2 st, nx) := by
  generalize hB : (zR S).2.2.2 = B
  obtain ⟨p0, hp0⟩ := ex_nI ((zR S).1 2)
  have e0 : CH h (sR S (upd (upd (zR S).1 4 0) 5 260, upd (upd (upd (zR S).2.1 1 0) 2 0) 3 0, (zR S).2.2.1, B)) = RP h S n B p0 0 260 0 0 0 (zR S).2.2.1 := by
    unfold RP
    refine CH_rq ?_ ?_
    · have a1 : upd (upd (zR S).1 4 0) 5 260 1 = nI n := hl
      have a2 : upd (upd (zR S).1 4 0) 5 260 2 = nI p0 := hp0
      unfold rO
      rw [a1, a2]
      rfl
    · rfl
  have e1 := c_step (d := d + 198) (h := h) (nx := nx) (S := S) (B := B) (p := p0) (q := 260) (N := 0) (ky := 0) (o := 0) (st := (zR S).2.2.1) hn (show 0 ≤ n by omega)
  have w0 := wf_260 (B := B) (n := n)
  have e2 := c_readKey (d := d + 190) (h := h) (nx := nx) (S := S) (B := B) (q := (tx0 B n).2.2.1) (N := 0) (ky := 0) (o := 0) (st := (zR S).2.2.1) hn w0.2.2.1 w0.2.1
  have pre : ∀ r : Option (Option Value × AH × AN), Dn (d + 201) 44 [.ref 88] (RP h S n B (stP B n 0) (stA B n 0) (stQ B n 0 260) 0 0 0 (zR S).2.2.1) nx = r → Dn (d + 202) 39 [.ref 88] (CH h S) nx = cn (d + 201) 39 27 [.ref 88] [] r := by
    intro r hr
    rw [← hr]
    simp only [n_39, e_39_0, e_39_1, e_39_4, e_39_7, e_39_8, e_39_9, e_39_12, e_39_13, e_39_16, g88_0, k89, if_true, c_lstarts, cn_v, q88_4, q88_5, Option.bind_some]
    have e5 : CH h (sR (sR (sR S ((zR S).1, upd (upd (upd (zR S).2.1 1 0) 2 0) 3 0, (zR S).2.2)) (upd (zR (sR S ((zR S).1, upd (upd (upd (zR S).2.1 1 0) 2 0) 3 0, (zR S).2.2))).1 4 0, (zR (sR S ((zR S).1, upd (upd (upd (zR S).2.1 1 0) 2 0) 3 0, (zR S).2.2))).2)) (upd (zR (sR (sR S ((zR S).1, upd (upd (upd (zR S).2.1 1 0) 2 0) 3 0, (zR S).2.2)) (upd (zR (sR S ((zR S).1, upd (upd (upd (zR S).2.1 1 0) 2 0) 3 0, (zR S).2.2))).1 4 0, (zR (sR S ((zR S).1, upd (upd (upd (zR S).2.1 1 0) 2 0) 3 0, (zR S).2.2))).2))).1 5 260, (zR (sR (sR S ((zR S).1, upd (upd (upd (zR S).2.1 1 0) 2 0) 3 0, (zR S).2.2)) (upd (zR (sR S ((zR S).1, upd (upd (upd (zR S).2.1 1 0) 2 0) 3 0, (zR S).2.2))).1 4 0, (zR (sR S ((zR S).1, upd (upd (upd (zR S).2.1 1 0) 2 0) 3 0, (zR S).2.2))).2))).2)) = RP h S n B p0 0 260 0 0 0 (zR S).2.2.1 := by
      rw [← e0, ← hB]
      rfl
    rw [e5]
    simp only [e_39_19, e_39_20, e_39_23, e_39_24, kR, if_true, e1, cn_v]
  unfold txF
  by_cases h1 : (tx0 B n).2.2.1 = 256
  · rw [if_pos h1]
    rw [if_pos h1] at e2
    cases hk : rky B (tx0 B n).1 (tx0 B n).2.1 with
    | none =>
      rw [hk] at e2
      refine ⟨0, (zR S).2.2.1, (fun m hm => by simp [tx0] at hm), (fun k e => by cases e), ?_⟩
      rw [pre _ e2]
      simp only [e_39_27, e_39_30, e_39_31, cn_s, nR_b0, if_true]
      rfl
    | some k =>
      rw [hk] at e2
      have e3 := Q_step (d := d + 198) (h := h) (nx := nx) (S := S) (B := B) (ky := nI k) (P := tx0 B n) (st := (zR S).2.2.1) hn w0.2.1
      have w1 := stS_wf (B := B) w0
      obtain ⟨st1, s1, e4⟩ := (levels (h := h) (S := S) (nx := nx) (B := B) (ky := nI k) hn 62).1 0 0 0 (d + 201) (by omega) (by omega) (by omega) (by omega) (by omega) (stS B n (tx0 B n)) (zR S).2.2.1 w1.1 (by simp [stS, tx0]) (fun m hm => by simp [stS, tx0] at hm)
      have e4 : Dn (d + 201) 47 [.ref 88, .int 0, .int 0, .int 0] (RQ h S n B (nI k) (stS B n (tx0 B n)) (zR S).2.2.1) nx = _ := e4
      refine ⟨nI k, st1, ?_, ?_, ?_⟩
      · dsimp only
        split
        · exact s1
        · exact s1
      · intro k' e
        dsimp only at e
        split at e
        · cases e; rfl
        · cases e
      · rw [pre _ e2]
        have hRQ : RP h S n B (tx0 B n).1 (tx0 B n).2.1 (tx0 B n).2.2.1 0 (nI k) 0 (zR S).2.2.1 = RQ h S n B (nI k) (tx0 B n) (zR S).2.2.1 := rfl
        dsimp only
        rw [hRQ]
        simp only [e_39_27, e_39_32, e_39_33, e_39_36, e_39_37, e_39_38, e_39_39, e_39_40, e_39_43, cn_s, cn_v, kQ, if_true, e3, e4, pi_if, show ¬ (1 : Int32) = 0 by decide, if_false]
        by_cases h2 : (pL B n (nI k) 62 0 0 0 (stS B n (tx0 B n))).1 = true
        · simp only [h2, if_true, true_and, e_39_46, e_39_47, e_39_50, e_39_53, e_39_56, e_39_57, e_39_60, e_39_61, gQ5, nR_b0, nR_b1, Option.bind_some]
          by_cases h3 : (pL B n (nI k) 62 0 0 0 (stS B n (tx0 B n))).2.2.2.1 = 258
          · rw [if_pos h3, if_pos h3]; rfl
          · rw [if_neg h3, if_neg h3]; rfl
        · simp only [h2, if_false, false_and, Bool.false_eq_true, e_39_60, e_39_61, nR_b0, if_true]
          rfl
  · rw [if_neg h1]
    rw [if_neg h1] at e2
    refine ⟨0, (zR S).2.2.1, (fun m hm => by simp [tx0] at hm), (fun k e => by cases e), ?_⟩
    rw [pre _ e2]
    simp only [e_39_27, e_39_30, e_39_31, cn_s, nR_b0, if_true]
    rfl
theorem putL_2 {w : Nat → Int32} (hi : i < 14) : put (putL h lb L K) (lb + 3 + 2 * i) (lwC lb i w) = putL h lb (L.1, updW L.2 i w) K := by
  funext q
  by_cases e : q = lb + 3 + 2 * i
  · subst e
    rw [put_same, pL_l hi]
    simp [updW]
  · rw [put_ne _ _ e]
    unfold putL
    by_cases e0 : q = lb
    · rw [if_pos e0, if_pos e0]
    rw [if_neg e0, if_neg e0]
    by_cases e1 : q = lb + 1
    · rw [if_pos e1, if_pos e1]
    rw [if_neg e1, if_neg e1]
    by_cases e2 : q = lb + 2
    · rw [if_pos e2, if_pos e2]
    rw [if_neg e2, if_neg e2]
    by_cases e3 : lb + 3 ≤ q ∧ q < lb + 31
    · rw [if_pos e3, if_pos e3]
      by_cases e4 : (q - (lb + 3)) % 2 = 0
      · have e5 : updW L.2 i w ((q - (lb + 3)) / 2) = L.2 ((q - (lb + 3)) / 2) := if_neg (by omega)
        rw [if_pos e4, if_pos e4]
        dsimp only
        rw [e5]
      · rw [if_neg e4, if_neg e4]
    · rw [if_neg e3, if_neg e3]
theorem putL_1 (hi : i < 14) : put (putL h lb L K) (lb + 4 + 2 * i) (.inl (0, 96, .inl f)) = putL h lb (updW L.1 i f, L.2) K := by
  funext q
  by_cases e : q = lb + 4 + 2 * i
  · subst e
    rw [put_same, pL_s hi]
    simp [updW]
  · rw [put_ne _ _ e]
    unfold putL
    by_cases e0 : q = lb
    · rw [if_pos e0, if_pos e0]
    rw [if_neg e0, if_neg e0]
    by_cases e1 : q = lb + 1
    · rw [if_pos e1, if_pos e1]
    rw [if_neg e1, if_neg e1]
    by_cases e2 : q = lb + 2
    · rw [if_pos e2, if_pos e2]
    rw [if_neg e2, if_neg e2]
    by_cases e3 : lb + 3 ≤ q ∧ q < lb + 31
    · rw [if_pos e3, if_pos e3]
      by_cases e4 : (q - (lb + 3)) % 2 = 0
      · rw [if_pos e4, if_pos e4]
      · have e5 : updW L.1 i f ((q - (lb + 3)) / 2) = L.1 ((q - (lb + 3)) / 2) := if_neg (by omega)
        rw [if_neg e4, if_neg e4]
        dsimp only
        rw [e5]
    · rw [if_neg e3, if_neg e3]
theorem CH_l2 {w : Nat → Int32} (hi : i < 14) : put (CH h S) (60 + 2 * i) (lwC 57 i w) = CH h (sL S ((zL S).1, updW (zL S).2 i w) (zK S)) := by
  have e := putL_2 (h := CH h S) (lb := 57) (L := zL S) (K := zK S) (w := w) hi
  rw [← L_CH, CH_L] at e
  exact e
theorem CH_l1 (hi : i < 14) : put (CH h S) (61 + 2 * i) (.inl (0, 96, .inl f)) = CH h (sL S (updW (zL S).1 i f, (zL S).2) (zK S)) := by
  have e := putL_1 (h := CH h S) (lb := 57) (L := zL S) (K := zK S) (f := f) hi
  rw [← L_CH, CH_L] at e
  exact e
theorem CH_60 (hi : i < 14) : CH h S (60 + 2 * i) = lwC 57 i ((zL S).2 i) := by
  rw [L_CH]; exact pL_l (lb := 57) hi
theorem CH_61 (hi : i < 14) : CH h S (61 + 2 * i) = .inl (0, 96, .inl ((zL S).1 i)) := by
  rw [L_CH]; exact pL_s (lb := 57) hi
theorem qK1 (hi : i < 14) : pF (CH h S) (60 + 2 * i) 2 1 (.int x) = some (CH h (sL S ((zL S).1, updW (zL S).2 i (upd ((zL S).2 i) 1 x)) (zK S))) := by
  have e : pF (CH h S) (60 + 2 * i) 2 1 (.int x) = some (put (CH h S) (60 + 2 * i) (lwC 57 i (upd ((zL S).2 i) 1 x))) := by
    unfold pF
    rw [CH_60 hi]
    rfl
  rw [e, CH_l2 hi]
theorem qK2 (hi : i < 14) : pF (CH h S) (60 + 2 * i) 2 2 (.int x) = some (CH h (sL S ((zL S).1, updW (zL S).2 i (upd ((zL S).2 i) 2 x)) (zK S))) := by
  have e : pF (CH h S) (60 + 2 * i) 2 2 (.int x) = some (put (CH h S) (60 + 2 * i) (lwC 57 i (upd ((zL S).2 i) 2 x))) := by
    unfold pF
    rw [CH_60 hi]
    rfl
  rw [e, CH_l2 hi]
theorem qK3 (hi : i < 14) : pF (CH h S) (60 + 2 * i) 2 3 (.int x) = some (CH h (sL S ((zL S).1, updW (zL S).2 i (upd ((zL S).2 i) 3 x)) (zK S))) := by
  have e : pF (CH h S) (60 + 2 * i) 2 3 (.int x) = some (put (CH h S) (60 + 2 * i) (lwC 57 i (upd ((zL S).2 i) 3 x))) := by
    unfold pF
    rw [CH_60 hi]
    rfl
  rw [e, CH_l2 hi]
theorem gK0 (hi : i < 14) : gF (CH h S) (60 + 2 * i) 2 0 = some (.ref (61 + 2 * i)) := by unfold gF; rw [CH_60 hi]; rfl
theorem g89_0 : gF (CH h S) 89 2 0 = some (.ref 90) := rfl
theorem g89_1 : gF (CH h S) 89 2 1 = some (.int ((zR S).2.1 1)) := rfl
theorem g89_2 : gF (CH h S) 89 2 2 = some (.int ((zR S).2.1 2)) := rfl
theorem g89_3 : gF (CH h S) 89 2 3 = some (.int ((zR S).2.1 3)) := rfl
theorem kK (hi : i < 14) : ck (CH h S) (60 + 2 * i) 2 = true := by unfold ck; rw [CH_60 hi]; rfl
theorem updW_2 (W : Nat → Nat → Int32) (i : Nat) (v w : Nat → Int32) : updW (updW W i v) i w = updW W i w := by
  funext k; unfold updW; by_cases e : k = i
  · rw [if_pos e, if_pos e]
  · rw [if_neg e, if_neg e, if_neg e]
theorem updW_s (W : Nat → Nat → Int32) (i : Nat) (v : Nat → Int32) : updW W i v i = v := if_pos rfl
/-- the laws with one more, at i -/
def lwU (L : LT) (i : Nat) (st : Nat → Int32) (x y z : Int32) : LT := (updW L.1 i (va_cpy st (L.1 i) 0 0 96), updW L.2 i (upd (upd (upd (L.2 i) 1 x) 2 y) 3 z))
theorem zLs {L' : LT} {K' : Nat → Int32} : zL (sL S L' K') = L' := rfl
theorem zKs {L' : LT} {K' : Nat → Int32} : zK (sL S L' K') = K' := rfl
theorem sLs {L' L2 : LT} {K' K2 : Nat → Int32} : sL (sL S L' K') L2 K2 = sL S L2 K2 := rfl
theorem zRL {L' : LT} {K' : Nat → Int32} : zR (sL S L' K') = zR S := rfl
theorem c_lbecomes (hi : i < 14) : Dn (d + 1) 31 [.ref (60 + 2 * i), .ref 89] (CH h S) nx = some (none, CH h (sL S (lwU (zL S) i (zR S).2.2.1 ((zR S).2.1 1) ((zR S).2.1 2) ((zR S).2.1 3)) (zK S)), nx) := by
  have e : cpA (CH h S) 90 (61 + 2 * i) 0 0 96 = some (CH h (sL S (updW (zL S).1 i (va_cpy (zR S).2.2.1 ((zL S).1 i) 0 0 96), (zL S).2) (zK S))) := by
    unfold cpA
    rw [CH_90, CH_61 hi]
    dsimp only
    rw [if_pos ⟨⟨rfl, rfl⟩, ⟨by decide, by decide, by decide⟩, by decide, by decide⟩, show (0 : Int32).toNatClampNeg = 0 from rfl, show (96 : Int32).toNatClampNeg = 96 from rfl, CH_l1 hi]
  simp only [n_31, e_31_0, e_31_1, e_31_4, e_31_5, e_31_6, e_31_9, e_31_10, e_31_12, e_31_15, e_31_16, e_31_17, e_31_20, e_31_23, e_31_24, e_31_25, e_31_28, e_31_31, e_31_32, e_31_33, e_31_36, e_31_39, gK0 hi, g89_0, e, g89_1, g89_2, g89_3, zRL, qK1 hi, qK2 hi, qK3 hi, zLs, zKs, sLs, updW_2, updW_s, Option.bind_some]
  rfl
theorem P_text (hG : cG S s t) (hl : (zR S).1 1 = nI n) (hn : n ≤ 96) : ∃ rn ln st, rn 1 = 0 ∧ SR st (txF (zR S).2.2.2 n).2.2.2.2.1 ∧ Dn (d + 203) 102 [.ref 16] (CH h S) nx = match (txF (zR S).2.2.2 n).1 with
    | none => an (-100 - nI (txF (zR S).2.2.2 n).2.1) h (sR S (rn, ln, st, (zR S).2.2.2)) nx
    | some k => if t = 14 then an (-1000000003) h (sR S (rn, ln, st, (zR S).2.2.2)) nx else an (nI t) h (sN (sL (sR S (rn, ln, st, (zR S).2.2.2)) (lwU (zL S) t st (nI (txF (zR S).2.2.2 n).2.2.2.2.1.length) (nI k) (nI (txF (zR S).2.2.2 n).2.2.2.2.2)) (zK S)) (dq (zN S) 12 (nI (t + 1)))) nx := by
  obtain ⟨ky, st, s1, hk, e1⟩ := c_readText (d := d) (h := h) (nx := nx) hl hn
  generalize txF (zR S).2.2.2 n = T at *
  have ht := hG.2.1
  have h14 := hG.2.2.1
  refine ⟨upd (rnE n T.2.1 T.2.2.1 T.2.2.2.1) 1 0, lnE T.2.2.2.2.1.length ky T.2.2.2.2.2, st, rfl, s1, ?_⟩
  have e2 : pF (RQ h S n (zR S).2.2.2 ky T.2 st) 88 4 1 (.int 0) = some (CH h (sR S (upd (rnE n T.2.1 T.2.2.1 T.2.2.2.1) 1 0, lnE T.2.2.2.2.1.length ky T.2.2.2.2.2, st, (zR S).2.2.2))) := by
    unfold RQ RP
    rw [q88_1]
    rfl
  have g5 : gF (CH h S) 16 8 5 = some (.ref 88) := rfl
  have g5' : ∀ P, gF (RQ h S n (zR S).2.2.2 ky P st) 16 8 5 = some (.ref 88) := fun P => rfl
  have g2 : ∀ {S : CS}, gF (CH h S) 88 4 2 = some (.int ((zR S).1 2)) := rfl
  have g0 : ∀ {S : CS}, gF (CH h S) 88 4 0 = some (.ref 89) := rfl
  cases hT : T.1 with
  | none =>
    rw [hT] at e1
    simp only [n_102, e_102_0, e_102_1, e_102_4, e_102_7n, e_102_7i, e_102_7r, e_102_8, e_102_9, e_102_12, e_102_13, e_102_16, e_102_17, e_102_20, e_102_22, e_102_23, e_102_26, e_102_29, e_102_30, g5, g5', k88, if_true, e1, cn_s, pi_if, e2, gO5, g2, Option.bind_some, show ((none : Option Nat).isSome = true) = False from by simp, if_false]
    rfl
  | some k =>
    rw [hT] at e1
    have hky := hk k hT
    subst hky
    dsimp only
    generalize hR : sR S (upd (rnE n T.2.1 T.2.2.1 T.2.2.2.1) 1 0, lnE T.2.2.2.2.1.length (nI k) T.2.2.2.2.2, st, (zR S).2.2.2) = S1 at *
    have ht1 : (zN S1).2.2 12 = nI t := by rw [← hR]; exact ht
    simp only [n_102, e_102_0, e_102_1, e_102_4, e_102_7n, e_102_7i, e_102_7r, e_102_8, e_102_9, e_102_12, e_102_13, e_102_16, e_102_17, e_102_31, e_102_32, e_102_35, e_102_38, e_102_40, g5, g5', k88, if_true, e1, cn_s, pi_if, e2, gO0, gN12, ht1, Option.bind_some, show ((some k : Option Nat).isSome = true) = True from by simp]
    by_cases h2 : t = 14
    · subst h2
      rw [if_pos rfl, if_neg (by decide)]
      simp only [e_102_43, e_102_45]
      rfl
    · have ht2 : t < 14 := by omega
      rw [if_neg h2, if_pos (show nI t < 14 from nI_lt (b := 14) ht2 (by omega))]
      have n12 : ∀ (L' : LT) (K' : Nat → Int32), gF (CH h (sL S1 L' K')) 17 1 12 = some (.int (nI t)) := fun L' K' => by rw [gN12]; exact congrArg (fun x => some (Value.int x)) ht1
      simp only [e_102_46, e_102_47, e_102_50, e_102_53, e_102_54, e_102_57, e_102_60, e_102_61, e_102_62, e_102_65, e_102_68, e_102_71, e_102_72, e_102_75i, e_102_75r, e_102_76, e_102_79, e_102_80, gO0, gO4, gO5, g57_0, gN12, ht1, n12, rKr ht2, g0, kK ht2, if_true, c_lbecomes ht2, cn_v, nI_1, Option.bind_some]
      simp only [e_102_81, e_102_84, e_102_85, e_102_88, e_102_91, e_102_92, e_102_93, qN12, gO0, gN12, Option.bind_some]
      have e9 : (zN (sN (sL S1 (lwU (zL S1) t (zR S1).2.2.1 ((zR S1).2.1 1) ((zR S1).2.1 2) ((zR S1).2.1 3)) (zK S1)) (dq (zN (sL S1 (lwU (zL S1) t (zR S1).2.2.1 ((zR S1).2.1 1) ((zR S1).2.1 2) ((zR S1).2.1 3)) (zK S1))) 12 (nI (t + 1))))).2.2 12 = nI (t + 1) := by simp [sN, dq, upd]
      rw [e9, nI_pred, ← hR]
      rfl
end TX
