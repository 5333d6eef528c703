/-! sheets in the whole heap: writing -/
section S9
variable {d : Nat} {h H : AH} {nx : AN} {i j s n c t g p m a : Nat} {S : CS} {x y z u : Int32} {f q : Nat → Int32}
def upH (Sh : ShT) (i : Nat) (v : (Nat → Int32) × (Nat → Int32)) : ShT := fun k => if k = i then v else Sh k
theorem CH_inH (ha : 95 ≤ a ∧ a < 103) : CH h S a = hc (zH S) a := by
  unfold CH
  rw [seg_o (by omega), seg_o (by omega), seg_o (by omega), seg_o (by omega), seg_o (by omega), seg_o (by omega), seg_o (by omega), seg_o (by omega), seg_o (by omega), seg_o (by omega), seg_o (by omega), seg_o (by omega), seg_o (by omega), seg_at (by omega)]
theorem put_sp (hi : i < 4) : put (CH h S) (96 + 2 * i) (.inl (0, 24, .inl f)) = CH h (sH S (upH (zH S) i (f, (zH S i).2))) := by
  rw [← CH_hc]
  funext a
  by_cases e : a = 96 + 2 * i
  · subst e
    rw [put_same, seg_at (by omega)]
    unfold hc
    rw [if_neg (by omega), show (96 + 2 * i - 95) / 2 = i by omega]
    unfold upH
    rw [if_pos rfl]
  · rw [put_ne _ _ e]
    by_cases ha : 95 ≤ a ∧ a < 103
    · rw [seg_at ha, CH_inH ha]
      unfold hc upH
      by_cases e2 : (a - 95) % 2 = 0
      · rw [if_pos e2, if_pos e2]
        by_cases e3 : (a - 95) / 2 = i
        · rw [if_pos e3, e3]
        · rw [if_neg e3]
      · rw [if_neg e2, if_neg e2, if_neg (by omega)]
    · rw [seg_o ha]
theorem put_sh (hi : i < 4) : put (CH h S) (95 + 2 * i) (shO (96 + 2 * i) q) = CH h (sH S (upH (zH S) i ((zH S i).1, q))) := by
  rw [← CH_hc]
  funext a
  by_cases e : a = 95 + 2 * i
  · subst e
    rw [put_same, seg_at (by omega)]
    unfold hc
    rw [if_pos (by omega), show (95 + 2 * i - 95) / 2 = i by omega, show 95 + 2 * i + 1 = 96 + 2 * i by omega]
    unfold upH
    rw [if_pos rfl]
  · rw [put_ne _ _ e]
    by_cases ha : 95 ≤ a ∧ a < 103
    · rw [seg_at ha, CH_inH ha]
      unfold hc upH
      by_cases e2 : (a - 95) % 2 = 0
      · rw [if_pos e2, if_pos e2, if_neg (by omega)]
      · rw [if_neg e2, if_neg e2]
        by_cases e3 : (a - 95) / 2 = i
        · rw [if_pos e3, e3]
        · rw [if_neg e3]
    · rw [seg_o ha]
theorem wHx (hi : i < 4) (hj : j < 24) : wI (CH h S) (96 + 2 * i) (nI j) 0 x = some (CH h (sH S (upH (zH S) i (upd (zH S i).1 j x, (zH S i).2)))) := by
  have e : wI (CH h S) (96 + 2 * i) (nI j) 0 x = some (put (CH h S) (96 + 2 * i) (.inl (0, 24, .inl (upd (zH S i).1 (nI j).toNatClampNeg x)))) := by
    unfold wI
    rw [CH_sp hi]
    dsimp only
    rw [if_pos ⟨rfl, ib_nI hj (by omega)⟩]
  rw [e, cl_nI (by omega), put_sp hi]
theorem qH1 (hi : i < 4) : pF (CH h S) (95 + 2 * i) 5 1 (.int x) = some (CH h (sH S (upH (zH S) i ((zH S i).1, upd (zH S i).2 1 x)))) := by
  have e : pF (CH h S) (95 + 2 * i) 5 1 (.int x) = some (put (CH h S) (95 + 2 * i) (shO (96 + 2 * i) (upd (zH S i).2 1 x))) := by
    unfold pF
    rw [CH_sh hi]
    rfl
  rw [e, put_sh hi]
theorem qH2 (hi : i < 4) : pF (CH h S) (95 + 2 * i) 5 2 (.int x) = some (CH h (sH S (upH (zH S) i ((zH S i).1, upd (zH S i).2 2 x)))) := by
  have e : pF (CH h S) (95 + 2 * i) 5 2 (.int x) = some (put (CH h S) (95 + 2 * i) (shO (96 + 2 * i) (upd (zH S i).2 2 x))) := by
    unfold pF
    rw [CH_sh hi]
    rfl
  rw [e, put_sh hi]
end S9
