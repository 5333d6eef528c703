/-! public methods over the whole heap: check, whole -/
section P14
variable {d : Nat} {h : AH} {nx : AN} {b lb i j s n c t g p m : Nat} {S : CS} {L : LT} {K B : Nat → Int32} {D E : DT} {x y z u : Int32} {l1 l2 l3 l4 l5 : Value} {w : Nat → Int32}
/-- what the class keeps of its image: a desert, its texts, its hour -/
def cGI (S : CS) (s t H : Nat) : Prop := dI (zI S) s ∧ (zI S).2.2 12 = nI t ∧ okL (zL S) t ∧ (zI S).2.2 10 = nI H ∧ H ≤ 9999
theorem P_check {H : Nat} (hm : zO S 9 = nI m) (hm60 : m ≤ 60) (hI : zO S 10 ≠ 0 → cGI S s t H) : ∃ K' T', Dn (d + 7) 116 [.ref 16, .int x] (CH h S) nx = if 1 ≤ x ∧ x ≤ 30 then (if zO S 10 = 0 then an (-1000000002) h (sO S (upd (zO S) 9 0)) nx else an (ckF (zL S) t s m (zW S) (min x.toNatClampNeg (9999 - H)) 0 (bec (zT S) (zI S) s)).1 h (sO (sT (sK S K') T') (upd (zO S) 9 0)) nx) else an (-1000000001) h (sO S (upd (zO S) 9 0)) nx := by
  have g10 : gF (CH h (sO S (upd (zO S) 9 0))) 16 8 10 = some (.int (zO S 10)) := rfl
  by_cases h1 : 1 ≤ x ∧ x ≤ 30
  · by_cases h2 : zO S 10 = 0
    · refine ⟨zK S, zT S, ?_⟩
      rw [if_pos h1, if_pos h2]
      simp only [n_116, e_116_0, e_116_1, e_116_4n, e_116_4i, e_116_4r, e_116_5, e_116_6, e_116_7, e_116_10, e_116_11, e_116_12, e_116_14, e_116_17, e_116_20, e_116_22, e_116_23, e_116_24, e_116_27, e_116_30, e_116_33, gO9, hm, q16_9, g10, c_within, cn_s, pi_if, Option.bind_some]
      rw [if_pos h1, if_pos h2]; rfl
    · obtain ⟨hD, ht, hL, hH, hH9⟩ := hI h2
      obtain ⟨i, hi1, hi, rfl⟩ := idx1 (m := 30) h1 (by omega)
      rw [cl_nI (by omega)]
      have hb12 : (bec (zT S) (zI S) s).2.2 12 = nI t := by rw [bec_q (by omega) (by omega)]; exact ht
      obtain ⟨K', e⟩ := check_loop (d := d) (h := h) (nx := nx) (S := sO S (upd (zO S) 9 0)) (l1 := .int (nI i)) (u := min i (9999 - H)) (m := m) (by omega) hm60 hL (min i (9999 - H)) 0 (bec (zT S) (zI S) s) (zK S) hb12 (bec_dI hD) (by omega)
      have eb := TI_becomes (d := d + 4) (h := h) (nx := nx) (S := sO S (upd (zO S) 9 0)) (s := s) hD
      have g8 : gF (CH h (sT (sO S (upd (zO S) 9 0)) (bec (zT (sO S (upd (zO S) 9 0))) (zI (sO S (upd (zO S) 9 0))) s))) 30 1 10 = some (.int (nI H)) := by rw [← hH]; rfl
      refine ⟨K', (ckF (zL S) t s m (zW S) (min i (9999 - H)) 0 (bec (zT S) (zI S) s)).2, ?_⟩
      rw [if_pos h1, if_neg h2]
      simp only [n_116, e_116_0, e_116_1, e_116_4n, e_116_4i, e_116_4r, e_116_5, e_116_6, e_116_7, e_116_10, e_116_11, e_116_12, e_116_14, e_116_17, e_116_20, e_116_22, e_116_23, e_116_24, e_116_27, e_116_30, e_116_33, e_116_34, e_116_35, e_116_38, e_116_39, e_116_42, e_116_45, e_116_46, e_116_49, e_116_50, e_116_53, e_116_56, e_116_57, e_116_60n, e_116_60i, e_116_60r, e_116_61, e_116_62n, e_116_62i, e_116_62r, gO1, gO2, gO9, hm, q16_9, g10, g8, kTc, if_true, eb, c_within, c_min, cn_s, cn_v, pi_if, Option.bind_some]
      rw [if_pos h1, if_neg h2, show (9999 : Int32) - nI H = nI (9999 - H) from nI_sub (a := 9999) hH9, min_nI (by omega) (by omega)]
      exact e
  · refine ⟨zK S, zT S, ?_⟩
    rw [if_neg h1]
    simp only [n_116, e_116_0, e_116_1, e_116_4n, e_116_4i, e_116_4r, e_116_5, e_116_6, e_116_7, e_116_10, e_116_11, e_116_12, e_116_14, e_116_17, e_116_20, e_116_22, gO9, hm, q16_9, c_within, cn_s, pi_if, Option.bind_some]
    rw [if_neg h1]; rfl
end P14
