/-! Preconditions.checkIndex, within bounds -/
section SV
variable {l : Launch} {D : va_G} {ad dA : Nat → Nat} {sz d a i n : Nat} {h : AH} {nx : AN} {v : Value}
theorem br_no {c : Prop} [dc : Decidable c] {pc : Nat} {off : Int} {ls st : List Value} (hc : ¬ c) (hj : jok pc off = true) : br c dc pc off ls st h nx = some (.inl (pc + 3, ls, st, h, nx)) := by
  unfold br
  rw [if_pos hj, if_neg hc]; rfl
theorem br_yes {c : Prop} [dc : Decidable c] {pc : Nat} {off : Int} {ls st : List Value} (hc : c) (hj : jok pc off = true) : br c dc pc off ls st h nx = some (.inl (jmp pc off, ls, st, h, nx)) := by
  unfold br
  rw [if_pos hj, if_pos hc]; rfl
theorem LR_3 {x y : Int32} (hv : v = .null ∨ ∃ q, v = .ref q) : LR ad ((lg_sl [.int x, .int y, v] ++ List.replicate (mL 225 - (lg_sl [.int x, .int y, v]).length) Slot.unset).toArray) (mL 225) [.int x, .int y, .null] := by
  have e : lg_sl [.int x, .int y, v] = [.val (.int x), .val (.int y), .val v] := by
    rcases hv with rfl | ⟨q, rfl⟩ <;> rfl
  have hw := lv_entry [.int x, .int y, v] (n := mL 225) (by rw [e]; show 3 ≤ mL 225; decide)
  rw [e] at hw ⊢
  refine ⟨hw.1, hw.2.1, rfl, fun j w hw2 hvv => ?_, fun j w hw2 => ?_⟩
  · match j with
    | 0 => cases hw2; rfl
    | 1 => cases hw2; rfl
    | 2 => cases hw2; cases hvv
    | j + 3 => cases hw2
  · match j with
    | 0 => cases hw2
    | 1 => cases hw2
    | 2 => cases hw2
    | j + 3 => cases hw2
theorem s_prec (hv : v = .null ∨ ∃ q, v = .ref q) (hi : i < n) (hn : n < 100) : am_Kv l D ad dA sz (d + 1) 225 [.int (nI i), .int (nI n), v] h nx (some (.int (nI i)), h, nx) := by
  refine am_mev (by decide) (LR_3 hv) ⟨Nat.le_refl _, Nat.le_refl _⟩ ?_
  intro p e R s m A below meth c Q B ret
  have w17 : am_W p l e R s m A below meth c Q D ad dA sz 225 nx (17, [.int (nI i), .int (nI n), .null], [.int (nI i)], h, nx) := ret 17 1 .ireturn _ [.int (nI i)] h nx (by decide +kernel) ⟨rfl, rfl, rfl, Or.inl ⟨rfl, _, .int, rfl, rfl, by simp [nR, narrow], rfl⟩⟩
  have w16 : am_W p l e R s m A below meth c Q D ad dA sz 225 nx (16, [.int (nI i), .int (nI n), .null], [], h, nx) := sm_iload_n (call := fun _ _ _ _ => none) (len := 1) (q := 0) B (by decide +kernel) rfl w17
  have w6 : am_W p l e R s m A below meth c Q D ad dA sz 225 nx (6, [.int (nI i), .int (nI n), .null], [.int (nI n), .int (nI i)], h, nx) := sm_if_icmp (call := fun _ _ _ _ => none) (len := 3) (cd := .lt) (off := 10) (f := (16, [.int (nI i), .int (nI n), .null], [], h, nx)) B (by decide +kernel) (by show br (nI i < nI n) _ 6 10 _ _ h nx = _; exact br_yes (nI_lt hi (by omega)) rfl) w16
  have w5 : am_W p l e R s m A below meth c Q D ad dA sz 225 nx (5, [.int (nI i), .int (nI n), .null], [.int (nI i)], h, nx) := sm_iload_n (call := fun _ _ _ _ => none) (len := 1) (q := 1) B (by decide +kernel) rfl w6
  have w4 : am_W p l e R s m A below meth c Q D ad dA sz 225 nx (4, [.int (nI i), .int (nI n), .null], [], h, nx) := sm_iload_n (call := fun _ _ _ _ => none) (len := 1) (q := 0) B (by decide +kernel) rfl w5
  have w1 : am_W p l e R s m A below meth c Q D ad dA sz 225 nx (1, [.int (nI i), .int (nI n), .null], [.int (nI i)], h, nx) := sm_ifCond (call := fun _ _ _ _ => none) (len := 3) (cd := .lt) (off := 8) (f := (4, [.int (nI i), .int (nI n), .null], [], h, nx)) B (by decide +kernel) (by show br (nI i < 0) _ 1 8 _ _ h nx = _; exact br_no (nI_pos (by omega)) rfl) w4
  exact sm_iload_n (call := fun _ _ _ _ => none) (len := 1) (q := 0) B (by decide +kernel) rfl w1
end SV
