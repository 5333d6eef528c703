/-! public methods over the whole heap: fine, trim, set, rule -/
section P10
variable {d : Nat} {h : AH} {nx : AN} {b lb i j s n c t g : Nat} {S : CS} {L : LT} {K B : Nat → Int32} {D E : DT} {x y z u : Int32} {l1 l2 l3 l4 l5 : Value} {w : Nat → Int32}
theorem P_fine (hG : cG S s t) : ∃ K', Dn (d + 3) 99 [.ref 16, .int x] (CH h S) nx = if 0 ≤ x ∧ x < nI s then an (match lat (zL S).2 2 t with | none => (zN S).2.1 x.toNatClampNeg 4 | some j => (ev ((zN S).2.1 x.toNatClampNeg 2) ((zN S).2.1 x.toNatClampNeg 4) 0 (lwP (zL S) j) []).getD 0 0) h (sK S K') nx else an (-1000000001) h S nx := by
  have hs := hG.1.1
  have hs10 := hG.1.2.1
  have ht := hG.2.2.1
  by_cases h0 : 0 ≤ x ∧ x < nI s
  · obtain ⟨i, hi, rfl⟩ := idx h0 (by omega)
    have hi10 : i < 10 := by omega
    rw [cl_nI (by omega)]
    cases e : lat (zL S).2 2 t with
    | none =>
      refine ⟨zK S, ?_⟩
      rw [if_pos h0]
      simp only [n_99, e_99_0, e_99_1, e_99_4, e_99_5, e_99_8, e_99_11, e_99_13, e_99_14, e_99_15, e_99_18, e_99_21, e_99_22, e_99_23n, e_99_23i, e_99_23r, e_99_24, e_99_25, e_99_28, e_99_29, e_99_30, e_99_33, e_99_36, e_99_39n, e_99_39i, e_99_39r, e_99_40, e_99_41, e_99_43, e_99_46, e_99_47, e_99_50, e_99_53, e_99_54, e_99_57, e_99_58, e_99_59, e_99_62, e_99_63, e_99_66, e_99_67, e_99_70, cn_s, pi_if, gO0, gO4, gN1, gN12, rNr hi10, gNw4 hi10, kNc, N_has hs hs10, hG.2.1, k57, if_true, X_latest ht, e, show on none = -1000000005 from rfl, Option.bind_some]
      rw [if_pos h0]
      rfl
    | some j =>
      have hne : ¬ on (some j) = -1000000005 := by
        intro q
        rw [← e] at q
        have := (on_none (L := zL S) (x := 2) ht).mp q
        rw [e] at this
        cases this
      obtain ⟨K', e2⟩ := X_gives (d := d) (h := h) (nx := nx) (x := (zN S).2.1 i 2) (y := (zN S).2.1 i 4) (z := 0) hG.2.2 (lat_lt e)
      refine ⟨K', ?_⟩
      have e3 : Dn (d + 2) 34 [.ref 57, .int (on (some j)), .int ((zN S).2.1 i 2), .int ((zN S).2.1 i 4), .int 0] (CH h S) nx = _ := e2
      rw [if_pos h0]
      simp only [n_99, e_99_0, e_99_1, e_99_4, e_99_5, e_99_8, e_99_11, e_99_13, e_99_14, e_99_15, e_99_18, e_99_21, e_99_22, e_99_23n, e_99_23i, e_99_23r, e_99_24, e_99_25, e_99_28, e_99_29, e_99_30, e_99_33, e_99_36, e_99_39n, e_99_39i, e_99_39r, e_99_40, e_99_41, e_99_43, e_99_46, e_99_47, e_99_50, e_99_53, e_99_54, e_99_57, e_99_58, e_99_59, e_99_62, e_99_63, e_99_66, e_99_67, e_99_70, cn_s, pi_if, gO0, gO4, gN1, gN12, rNr hi10, gNw2 hi10, gNw4 hi10, kNc, N_has hs hs10, hG.2.1, k57, if_true, X_latest ht, e, hne, if_false, e3, Option.bind_some]
      rw [if_pos h0]
      rfl
  · refine ⟨zK S, ?_⟩
    rw [if_neg h0]
    simp only [n_99, e_99_0, e_99_1, e_99_4, e_99_5, e_99_8, e_99_11, e_99_13, cn_s, pi_if, gO0, kNc, N_has hs hs10, if_true, Option.bind_some]
    rw [if_neg h0]; rfl
theorem q88_1 : pF (CH h S) 88 4 1 (.int x) = some (CH h (sR S (upd (zR S).1 1 x, (zR S).2))) := by
  have e : pF (CH h S) 88 4 1 (.int x) = some (put (CH h S) 88 (rO (upd (zR S).1 1 x))) := rfl
  rw [e, CH_r]
theorem g88_1 : gF (CH h S) 88 4 1 = some (.int ((zR S).1 1)) := rfl
theorem P_trim : Dn (d + 2) 101 [.ref 16, .int x] (CH h S) nx = if 0 ≤ x ∧ x ≤ (zR S).1 1 then an x h (sR S (upd (zR S).1 1 x, (zR S).2)) nx else an (-1000000001) h S nx := by
  simp only [n_101, e_101_0, e_101_1, e_101_2, e_101_3, e_101_6, e_101_9, e_101_12, e_101_15, e_101_17, e_101_18, e_101_19, e_101_22, e_101_23, e_101_26, e_101_27, cn_s, pi_if, c_within, gO5, g88_1, q88_1, Option.bind_some]
  by_cases h1 : 0 ≤ x ∧ x ≤ (zR S).1 1
  · rw [if_pos h1, if_pos h1]; rfl
  · rw [if_neg h1, if_neg h1]; rfl
/-- the class's own rows: what may be set and ruled, at most and at least -/
def xR (h : AH) : Prop := aL h 1 = some 3 ∧ rX h 1 0 = some 99 ∧ rX h 1 1 = some 30 ∧ rX h 1 2 = some 24 ∧ aL h 2 = some 5 ∧ (rX h 2 0 = some 9 ∧ rX h 2 1 = some 9 ∧ rX h 2 2 = some 100 ∧ rX h 2 3 = some 99 ∧ rX h 2 4 = some 23) ∧ rX h 3 0 = some 0 ∧ rX h 3 1 = some 1 ∧ rX h 3 2 = some 0 ∧ rX h 3 3 = some 20 ∧ rX h 3 4 = some 0
theorem xR_CH (hx : xR h) : xR (CH h S) := hx
end P10
