/-! sheets in the whole heap: reading -/
section S1
variable {d : Nat} {h : AH} {nx : AN} {i j s n c t g p m : Nat} {S : CS} {x y z u : Int32}
theorem CH_sh (hi : i < 4) : CH h S (95 + 2 * i) = shO (96 + 2 * i) (zH S i).2 := by
  rcases i with _ | _ | _ | _ | i
  · rfl
  · rfl
  · rfl
  · rfl
  · omega
theorem CH_sp (hi : i < 4) : CH h S (96 + 2 * i) = .inl (0, 24, .inl (zH S i).1) := by
  rcases i with _ | _ | _ | _ | i
  · rfl
  · rfl
  · rfl
  · rfl
  · omega
theorem rHr (hi : i < 4) : rR (CH h S) 92 (nI i) = some (95 + 2 * i) := by
  rcases i with _ | _ | _ | _ | i
  · rfl
  · rfl
  · rfl
  · rfl
  · omega
theorem gH0 (hi : i < 4) : gF (CH h S) (95 + 2 * i) 5 0 = some (.ref (96 + 2 * i)) := by unfold gF; rw [CH_sh hi]; rfl
theorem gH1 (hi : i < 4) : gF (CH h S) (95 + 2 * i) 5 1 = some (.int ((zH S i).2 1)) := by unfold gF; rw [CH_sh hi]; rfl
theorem gH2 (hi : i < 4) : gF (CH h S) (95 + 2 * i) 5 2 = some (.int ((zH S i).2 2)) := by unfold gF; rw [CH_sh hi]; rfl
theorem kH (hi : i < 4) : ck (CH h S) (95 + 2 * i) 5 = true := by unfold ck; rw [CH_sh hi]; rfl
theorem rHx (hi : i < 4) (hj : j < 24) : rX (CH h S) (96 + 2 * i) (nI j) = some ((zH S i).1 j) := by
  have e : rI (CH h S) (96 + 2 * i) (nI j) 0 = some ((zH S i).1 (nI j).toNatClampNeg) := by
    unfold rI
    rw [CH_sp hi]
    dsimp only
    rw [if_pos ⟨rfl, ib_nI hj (by omega)⟩]
  unfold rX
  rw [e, cl_nI (by omega)]
end S1
