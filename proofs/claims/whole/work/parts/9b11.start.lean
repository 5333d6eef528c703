/-! the law, whole -/
section SS
variable {d : Nat} {h : AH} {nx : AN} {xs : Nat → Int32} {i j k L : Nat} {x : Int32}
theorem enc_0 : enc D0 0 z0 = n0 := by
  funext k
  by_cases hk : k < 11
  · match k, hk with
    | 0, _ => rfl
    | 1, _ => rfl
    | 2, _ => rfl
    | 3, _ => rfl
    | 4, _ => rfl
    | 5, _ => rfl
    | 6, _ => rfl
    | 7, _ => rfl
    | 8, _ => rfl
    | 9, _ => rfl
    | 10, _ => rfl
  · rw [en_11 (by omega)]
    have e : n0 k = 0 := by
      unfold n0
      unfold upd
      rw [if_neg (by omega), if_neg (by omega), if_neg (by omega), if_neg (by omega)]
    rw [e]
    by_cases h1 : k < 35
    · rw [if_pos h1]; rfl
    · rw [if_neg h1, if_neg (by omega)]; rfl
theorem MX_0 : MH h M0 = MX h M0 (z0, z0) D0 0 z0 := by
  unfold MX
  rw [enc_0]
  congr 1
  show (z0, M0.2) = _
  congr 1
  funext a
  by_cases c : a = 124
  · subst c; rfl
  rw [if_neg c]
  by_cases c : a = 134
  · subst c; rfl
  rw [if_neg c]
  by_cases c : a = 135
  · subst c; rfl
  rw [if_neg c]
theorem RR_0 : RR S0 M0 0 0 0 z0 0 0 := by
  refine ⟨⟨⟨⟨rfl, by omega, ⟨0, rfl, by omega⟩, fun i hi => by omega, fun i hi => by omega⟩, fun i hi => by omega, fun c hc => ⟨0, rfl, by omega⟩, ⟨3, rfl, by omega⟩, ⟨2, rfl, by omega⟩, rfl, rfl⟩, by omega, rfl, fun j hj => by omega, ⟨by omega, fun j hj => by omega⟩⟩, rfl, ⟨rfl, rfl, by omega, fun k hk => by omega⟩, ⟨rfl, by omega, rfl, fun k hk => by omega, fun k hk => by omega⟩, ⟨rfl, fun h => absurd rfl h⟩, fun i hi => ?_, fun i hi => ?_, ?_⟩
  · have e : M0.2 136 i = -1 := by
      match i, hi with
      | 0, _ => rfl
      | 1, _ => rfl
      | 2, _ => rfl
      | 3, _ => rfl
    exact ⟨e, Or.inl rfl, rfl, ⟨0, rfl, by omega⟩, fun k hk => ⟨rfl, Or.inr ⟨(show (-99999 : Int32) ≤ 0 by decide), (show (0 : Int32) ≤ 99999 by decide)⟩⟩⟩
  · exact ⟨rfl, Or.inl rfl, fun e => absurd e (show ¬ (0 : Int32) = 1 by decide), fun e => absurd e (show ¬ (0 : Int32) = 2 by decide), fun e => absurd e (show ¬ (0 : Int32) = 3 by decide), ⟨0, rfl, by omega⟩⟩
  · refine ⟨fun j hj => ?_, fun j hj k hk => ?_⟩
    · match j, hj with
      | 0, _ => rfl
      | 1, _ => rfl
      | 2, _ => rfl
      | 3, _ => rfl
    · match j, hj with
      | 0, _ =>
        have hk : k < 6 := hk
        match k, hk with
        | 0, _ => rfl
        | 1, _ => rfl
        | 2, _ => rfl
        | 3, _ => rfl
        | 4, _ => rfl
        | 5, _ => rfl
      | 1, _ =>
        have hk : k < 3 := hk
        match k, hk with
        | 0, _ => rfl
        | 1, _ => rfl
        | 2, _ => rfl
      | 2, _ =>
        have hk : k < 4 := hk
        match k, hk with
        | 0, _ => rfl
        | 1, _ => rfl
        | 2, _ => rfl
        | 3, _ => rfl
/-- every script of at most 3072 ints: the law answers 1 -/
theorem law_all (hx : xR h) (h0s : h 0 = .inl (20, L, .inl xs)) (hL : L ≤ 3072) : ∃ hp, Dn (d + 204) 226 [.ref 0] h (0, 0) = some (some (.int 1), hp, (129, 7678)) := by
  obtain ⟨hp, e⟩ := law_loop (d := d) (nx := (129, 7678)) hx h0s hL (L + 1) 0 (MX (CH h S0) M0 (z0, z0) (zN S0) 0 z0) ⟨S0, M0, (z0, z0), 0, 0, 0, z0, 0, 0, RR_0, rfl⟩ (by omega) (by omega)
  refine ⟨hp, ?_⟩
  rw [show nI 0 = 0 from rfl] at e
  have i1 := i_tl (d := d + 200) (h := h) (q := 11)
  have i2 := i_model (d := d + 202) (h := CH h S0) (q := 2444)
  rw [MX_0] at i2
  simp only [n_226, e_226_0, e_226_3i, e_226_3r, e_226_4, e_226_7n, e_226_7i, e_226_7r, e_226_8, e_226_11i, e_226_11r, e_226_12, e_226_15n, e_226_15i, e_226_15r, e_226_16, e_226_17n, e_226_17i, e_226_17r, Nat.zero_add, Nat.add_zero, Nat.reduceAdd, i1, i2, cn_v]
  exact e
end SS
