/-! slots in the whole heap: reading -/
section S3
variable {d : Nat} {h : AH} {nx : AN} {i j s n c t g p m : Nat} {S : CS} {x y z u : Int32}
theorem CH_sl (hi : i < 5) : CH h S (103 + 4 * i) = slO (103 + 4 * i) (zP S i).2.2 := by
  rcases i with _ | _ | _ | _ | _ | i
  all_goals first | rfl | omega
theorem CH_sw (hi : i < 5) : CH h S (104 + 4 * i) = wkC (zP S i).1 := by
  rcases i with _ | _ | _ | _ | _ | i
  all_goals first | rfl | omega
theorem CH_ss (hi : i < 5) : CH h S (105 + 4 * i) = shO (106 + 4 * i) (zP S i).2.2 := by
  rcases i with _ | _ | _ | _ | _ | i
  all_goals first | rfl | omega
theorem CH_sq (hi : i < 5) : CH h S (106 + 4 * i) = .inl (0, 24, .inl (zP S i).2.1) := by
  rcases i with _ | _ | _ | _ | _ | i
  all_goals first | rfl | omega
theorem rPr (hi : i < 5) : rR (CH h S) 93 (nI i) = some (103 + 4 * i) := by
  rcases i with _ | _ | _ | _ | _ | i
  all_goals first | rfl | omega
theorem gP0 (hi : i < 5) : gF (CH h S) (103 + 4 * i) 6 0 = some (.ref (104 + 4 * i)) := by
  rcases i with _ | _ | _ | _ | _ | i
  all_goals first | rfl | omega
theorem gP1 (hi : i < 5) : gF (CH h S) (103 + 4 * i) 6 1 = some (.ref (105 + 4 * i)) := by
  rcases i with _ | _ | _ | _ | _ | i
  all_goals first | rfl | omega
theorem gP2 (hi : i < 5) : gF (CH h S) (103 + 4 * i) 6 2 = some (.int ((zP S i).2.2 3)) := by unfold gF; rw [CH_sl hi]; rfl
theorem gP3 (hi : i < 5) : gF (CH h S) (103 + 4 * i) 6 3 = some (.int ((zP S i).2.2 4)) := by unfold gF; rw [CH_sl hi]; rfl
end S3
