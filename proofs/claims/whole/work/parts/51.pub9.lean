/-! public methods over the whole heap: rows that wait, laws asked -/
section P9
variable {d : Nat} {h : AH} {nx : AN} {b lb i j s n c t g : Nat} {S : CS} {L : LT} {K B : Nat → Int32} {D E : DT} {x y z u : Int32} {l1 l2 l3 l4 l5 : Value} {w : Nat → Int32}
theorem w94 (hi : i < 60) : wI (CH h S) 94 (nI i) 0 x = some (CH h (sW S (upd (zW S) i x))) := by
  have e : wI (CH h S) 94 (nI i) 0 x = some (put (CH h S) 94 (.inl (0, 60, .inl (upd (zW S) (nI i).toNatClampNeg x)))) := by
    unfold wI
    rw [CH_94]
    dsimp only
    rw [if_pos ⟨rfl, ib_nI hi (by omega)⟩]
  rw [e, cl_nI (by omega), CH_W]
theorem P_tell (hw : zO S 9 = nI n) (hn : n ≤ 60) : Dn (d + 1) 115 [.ref 16, .int x] (CH h S) nx = if n = 60 then an (-1000000003) h S nx else an (nI (n + 1)) h (sO (sW S (upd (zW S) n x)) (upd (zO S) 9 (nI (n + 1)))) nx := by
  by_cases h1 : n = 60
  · subst h1
    rw [if_pos rfl]
    simp only [n_115, e_115_0, e_115_1, e_115_4, e_115_6, e_115_9, e_115_11, gO9, hw, Option.bind_some]
    rw [if_neg (by decide)]
    rfl
  · rw [if_neg h1]
    have e9 : zO (sW S (upd (zW S) n x)) 9 = nI n := hw
    simp only [n_115, e_115_0, e_115_1, e_115_4, e_115_6, e_115_9, e_115_11, e_115_12, e_115_13, e_115_16, e_115_17, e_115_20, e_115_21, e_115_22, e_115_23i, e_115_23r, e_115_24, e_115_27, e_115_28, e_115_29, e_115_32, e_115_33, e_115_36, gO8, gO9, hw, e9, w94 (show n < 60 by omega), q16_9, Option.bind_some, nI_1]
    rw [if_pos (show nI n < (60 : Int32) from nI_lt (b := 60) (by omega) (by omega))]
    rfl
theorem k57 : ck (CH h S) 57 3 = true := rfl
theorem X_latest (ht : t ≤ 14) : Dn (d + 2) 33 [.ref 57, .int x, .int (nI t)] (CH h S) nx = some (some (.int (on (lat (zL S).2 x t))), CH h S, nx) := by
  have e := c_latest (d := d) (h := CH h S) (nx := nx) (lb := 57) (L := zL S) (K := zK S) (x := x) ht
  rwa [← L_CH] at e
theorem X_gives (hL : okL (zL S) t) (hj : j < t) : ∃ K', Dn (d + 2) 34 [.ref 57, .int (nI j), .int x, .int y, .int z] (CH h S) nx = some (some (.int ((ev x y z (lwP (zL S) j) []).getD 0 0)), CH h (sK S K'), nx) := by
  obtain ⟨K', e⟩ := c_givesD (d := d) (h := CH h S) (nx := nx) (b := 17) (lb := 57) (D := zN S) (K := zK S) (x := x) (y := y) (z := z) (by omega) hL hj
  refine ⟨K', ?_⟩
  simp only [putNL] at e
  exact e
theorem P_why (hG : cG S s t) : Dn (d + 3) 104 [.ref 16, .int x] (CH h S) nx = an (if 0 ≤ x ∧ x ≤ 2 then on (lat (zL S).2 x t) else -1000000001) h S nx := by
  simp only [n_104, e_104_0, e_104_1, e_104_2, e_104_3, e_104_6, e_104_9, e_104_10, e_104_13, e_104_14, e_104_15, e_104_18, e_104_21, e_104_24, e_104_27, e_104_29, c_within, cn_s, pi_if, gO0, gO4, gN12, hG.2.1, k57, if_true, X_latest hG.2.2.1, Option.bind_some]
  by_cases h1 : 0 ≤ x ∧ x ≤ 2
  · rw [if_pos h1, if_pos h1]; rfl
  · rw [if_neg h1, if_neg h1]; rfl
theorem P_fee (hG : cG S s t) : ∃ K', Dn (d + 3) 98 [.ref 16] (CH h S) nx = an (match lat (zL S).2 1 t with | none => (zN S).2.2 8 | some j => (ev ((zN S).2.2 8) ((zN S).2.2 9) 0 (lwP (zL S) j) []).getD 0 0) h (sK S K') nx := by
  have ht := hG.2.2.1
  cases e : lat (zL S).2 1 t with
  | none =>
    refine ⟨zK S, ?_⟩
    simp only [n_98, e_98_0, e_98_1, e_98_4, e_98_5, e_98_6, e_98_9, e_98_12, e_98_15n, e_98_15i, e_98_15r, e_98_16, e_98_17, e_98_19, e_98_22, e_98_23, e_98_26, e_98_29, e_98_32, e_98_33, e_98_36, e_98_37, e_98_38, e_98_41, e_98_44, e_98_45, e_98_48, e_98_51, e_98_52, e_98_55, cn_s, gO0, gO4, gN12, gN8, hG.2.1, k57, if_true, X_latest ht, e, show on none = -1000000005 from rfl, Option.bind_some]
    rfl
  | some j =>
    have hne : ¬ on (some j) = -1000000005 := by
      intro q
      rw [← e] at q
      have := (on_none (L := zL S) (x := 1) ht).mp q
      rw [e] at this
      cases this
    obtain ⟨K', e2⟩ := X_gives (d := d) (h := h) (nx := nx) (x := (zN S).2.2 8) (y := (zN S).2.2 9) (z := 0) hG.2.2 (lat_lt e)
    refine ⟨K', ?_⟩
    have e3 : Dn (d + 2) 34 [.ref 57, .int (on (some j)), .int ((zN S).2.2 8), .int ((zN S).2.2 9), .int 0] (CH h S) nx = _ := e2
    simp only [n_98, e_98_0, e_98_1, e_98_4, e_98_5, e_98_6, e_98_9, e_98_12, e_98_15n, e_98_15i, e_98_15r, e_98_16, e_98_17, e_98_19, e_98_22, e_98_23, e_98_26, e_98_29, e_98_32, e_98_33, e_98_36, e_98_37, e_98_38, e_98_41, e_98_44, e_98_45, e_98_48, e_98_51, e_98_52, e_98_55, cn_s, gO0, gO4, gN12, gN8, gN9, hG.2.1, k57, if_true, X_latest ht, e, hne, if_false, e3, Option.bind_some]
    rfl
end P9
