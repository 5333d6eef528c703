/-! the law's run, as steps -/
theorem law_itr {d : Nat} {h : AH} {xs : Nat → Int32} {L : Nat} (hx : xR h) (h0s : h 0 = .inl (20, L, .inl xs)) (hL : L ≤ 3072) : ∃ n hp, am_itr (Dn (d + 203)) 226 n (0, am_entry 226 [.ref 0], [], h, (0, 0)) = some (some (.int 1), hp, (129, 7678)) := by
  obtain ⟨hp, q⟩ := law_all (d := d) hx h0s hL
  have q : (if 226 = kLen ∨ 226 = kChr then (if 8 ≤ d + 203 then am_str 226 [.ref 0] h (0, 0) else none) else if aok 226 [.ref 0] = true then am_lim (Dn (d + 203)) 226 (0, am_entry 226 [.ref 0], [], h, (0, 0)) else none) = some (some (.int 1), hp, (129, 7678)) := q
  rw [if_neg (by decide)] at q
  replace q := if_so q
  obtain ⟨-, q⟩ := q
  obtain ⟨n, q⟩ := am_lim_some.mp q
  exact ⟨n, hp, q⟩
