/-! public methods over the whole heap: check -/
section P13
variable {d : Nat} {h : AH} {nx : AN} {b lb i j s n c t g p : Nat} {S : CS} {L : LT} {K B : Nat → Int32} {D E : DT} {x y z u : Int32} {l1 l2 l3 l4 l5 : Value} {w : Nat → Int32}
theorem r94 (hi : i < 60) : rX (CH h S) 94 (nI i) = some (zW S i) := by
  have e : rI (CH h S) 94 (nI i) 0 = some (zW S (nI i).toNatClampNeg) := by
    unfold rI
    rw [CH_94]
    dsimp only
    rw [if_pos ⟨rfl, ib_nI hi (by omega)⟩]
  unfold rX
  rw [e, cl_nI (by omega)]
theorem c_waitedAt (hp : p < 60) (hn : n ≤ 60) : Dn (d + 1) 117 [.ref 16, .int (nI p), .int (nI n), .int x] (CH h S) nx = some (some (.int (pi (p < n ∧ zW S p = x))), CH h S, nx) := by
  simp only [n_117, e_117_0, e_117_1, e_117_4, e_117_5, e_117_6, e_117_9, e_117_10, e_117_12, e_117_15, e_117_16, e_117_19, e_117_20, e_117_21, e_117_22, e_117_25, e_117_26, e_117_29, e_117_30, gO8, r94 hp, Option.bind_some, nR_b0, nR_b1, if_true]
  rw [if_neg (nI_pos (by omega))]
  by_cases h1 : p < n
  · rw [if_neg (nI_ge h1 (by omega)), if_neg (show ¬ (60 : Int32) ≤ nI p from nI_ge (b := 60) (a := p) hp (by omega))]
    by_cases h2 : zW S p = x
    · rw [if_pos h2]; simp [pi, h1, h2]
    · rw [if_neg h2]; simp [pi, h2]
  · rw [if_pos (nI_le (by omega) (by omega))]; simp [pi, h1]
theorem nI_2 (k : Nat) : (2 : Int32) * nI k = nI (2 * k) := (Int32.ofNat_mul 2 k).symm
theorem nI_p (a k : Nat) : nI a + nI k = nI (a + k) := nI_add a k
/-- CHECK: hours that are gone through, one by one -/
def ckF (L : LT) (t s m : Nat) (W : Nat → Int32) : Nat → Nat → DT → Int32 × DT
  | 0, k, D => (if 2 * k < m then nI (1 + 2 * k) else 0, D)
  | r + 1, k, D => if 2 * k < m ∧ W (2 * k) = (hrF L t s True D).2.2 3 then (if 2 * k + 1 < m ∧ W (2 * k + 1) = tht (hrF L t s True D).2.1 s then ckF L t s m W r (k + 1) (hrF L t s True D) else (nI (2 + 2 * k), hrF L t s True D)) else (nI (1 + 2 * k), hrF L t s True D)
theorem check_loop {u m : Nat} (hu : u ≤ 30) (hm : m ≤ 60) (hL : okL (zL S) t) (n : Nat) : ∀ (k : Nat) (D : DT) (K : Nat → Int32), D.2.2 12 = nI t → dI D s → k + n = u → ∃ K', Df (d + 6) 116 64 [.ref 16, l1, .int (nI m), .int (nI u), .int (nI k)] [] (CH h (sT (sK S K) D)) nx = an (ckF (zL S) t s m (zW S) n k D).1 h (sT (sK S K') (ckF (zL S) t s m (zW S) n k D).2) nx := by
  induction n with
  | zero =>
    intro k D K ht hD hk
    obtain rfl : k = u := by omega
    refine ⟨K, ?_⟩
    rw [e_116_64]
    simp only [e_116_66, e_116_67, e_116_142, e_116_143, e_116_144, e_116_145, e_116_146, e_116_149, e_116_150, e_116_151, e_116_152, e_116_153, e_116_154, e_116_157, e_116_158, nI_2]
    rw [if_pos (nI_le (Nat.le_refl _) (by omega))]
    unfold ckF
    by_cases h1 : 2 * k < m
    · rw [if_pos h1, if_neg (nI_ge h1 (by omega)), show (1 : Int32) + nI (2 * k) = nI (1 + 2 * k) from nI_p 1 _]; rfl
    · rw [if_neg h1, if_pos (nI_le (by omega) (by omega))]; rfl
  | succ n ih =>
    intro k D K ht hD hk
    obtain ⟨K1, e1⟩ := T_hour (d := d) (h := h) (nx := nx) (K := K) (S := S) hL ht hD True
    have hk2 := hrF_k (L := zL S) (t := t) True hD
    rw [pi_T] at e1
    have w1 := c_waitedAt (d := d + 5) (h := h) (nx := nx) (S := sT (sK S K1) (hrF (zL S) t s True D)) (p := 2 * k) (n := m) (x := (hrF (zL S) t s True D).2.2 3) (by omega) hm
    have w2 := c_waitedAt (d := d + 5) (h := h) (nx := nx) (S := sT (sK S K1) (hrF (zL S) t s True D)) (p := 2 * k + 1) (n := m) (x := tht (hrF (zL S) t s True D).2.1 s) (by omega) hm
    have w3 := T_tht (d := d + 5) (h := h) (nx := nx) (S := sT (sK S K1) (hrF (zL S) t s True D)) hk2.1.1 hk2.1.2.1
    have g3 : gF (CH h (sT (sK S K1) (hrF (zL S) t s True D))) 43 1 3 = some (.int ((hrF (zL S) t s True D).2.2 3)) := rfl
    generalize hE : hrF (zL S) t s True D = E at e1 hk2 w1 w2 w3 g3
    obtain ⟨K2, e2⟩ := ih (k + 1) E K1 (hk2.2.trans ht) hk2.1 (by omega)
    have w1' : Dn (d + 6) 117 [.ref 16, .int (nI (2 * k)), .int (nI m), .int (E.2.2 3)] (CH h (sT (sK S K1) E)) nx = some (some (.int (pi (2 * k < m ∧ zW S (2 * k) = E.2.2 3))), CH h (sT (sK S K1) E), nx) := w1
    have w2' : Dn (d + 6) 117 [.ref 16, .int (nI (2 * k + 1)), .int (nI m), .int (tht E.2.1 s)] (CH h (sT (sK S K1) E)) nx = some (some (.int (pi (2 * k + 1 < m ∧ zW S (2 * k + 1) = tht E.2.1 s))), CH h (sT (sK S K1) E), nx) := w2
    have w3' : Dn (d + 6) 21 [.ref 43] (CH h (sT (sK S K1) E)) nx = some (some (.int (tht E.2.1 s)), CH h (sT (sK S K1) E), nx) := w3
    refine ⟨if (2 * k < m ∧ zW S (2 * k) = E.2.2 3) ∧ (2 * k + 1 < m ∧ zW S (2 * k + 1) = tht E.2.1 s) then K2 else K1, ?_⟩
    rw [e_116_64]
    simp only [e_116_66, e_116_67, e_116_70, e_116_71, e_116_74, e_116_75, e_116_78, e_116_79, e_116_82, e_116_83, e_116_84, e_116_86, e_116_87, e_116_88, e_116_89, e_116_92, e_116_95, e_116_98, e_116_101, e_116_102, e_116_103, e_116_105, e_116_106, e_116_107, e_116_108, e_116_109, e_116_110, e_116_112, e_116_113, e_116_114, e_116_115, e_116_116, e_116_117, e_116_120, e_116_123, e_116_126, e_116_129, e_116_130, e_116_131, e_116_133, e_116_134, e_116_135, e_116_136, e_116_139, gO2, gO4, kTc, kT, if_true, e1, cn_v, cn_s, g3, w1', w2', w3', pi_if, Option.bind_some, nI_1, nI_2]
    rw [if_neg (nI_ge (by omega) (by omega))]
    unfold ckF
    rw [hE]
    by_cases h1 : 2 * k < m ∧ zW S (2 * k) = E.2.2 3
    · rw [if_pos h1, if_pos h1]
      by_cases h2 : 2 * k + 1 < m ∧ zW S (2 * k + 1) = tht E.2.1 s
      · rw [if_pos h2, if_pos h2, if_pos ⟨h1, h2⟩]
        exact e2
      · rw [if_neg h2, if_neg h2, if_neg (fun q => h2 q.2), show (2 : Int32) + nI (2 * k) = nI (2 + 2 * k) from nI_p 2 _]
        rfl
    · rw [if_neg h1, if_neg h1, if_neg (fun q => h1 q.1), show (1 : Int32) + nI (2 * k) = nI (1 + 2 * k) from nI_p 1 _]
      rfl
end P13
