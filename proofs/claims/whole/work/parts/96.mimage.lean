/-! the model's public methods: keep, back, check -/
section MY
variable {d : Nat} {h : AH} {nx : AN} {M M' : MS} {D N I : DT} {s sI H i j c a k n g t m b tI HI : Nat} {x y z u v A B : Int32} {a0 b0 f w gg : Nat → Int32} {K : (Nat → Int32) × (Nat → Int32)} {l1 l2 l3 l4 l5 l6 : Value} {L : LT}
theorem wG (ha : 124 < a ∧ a < 145) (hne : a ≠ 134 ∧ a ≠ 135) (hc : mcls a = 0) (hk : k < mlen a) (hl : mlen a < 2147483648) : wI (MG h M K gg) a (nI k) 0 x = some (MG h (sA M a (upd (M.2 a) k x)) K gg) := by
  unfold MG
  rw [wM (by omega) hc hk hl]
  dsimp only
  rw [if_neg (by omega), if_neg hne.1, if_neg hne.2, sAX ha hne]
theorem copy_to (ha : a = 125 ∨ a = 126) (n : Nat) : ∀ (k : Nat), k + n = 1467 → Df d 207 2 [.ref a, .ref 124, .int (nI k)] [] (MG h M K (cpk k (M.2 a) gg)) nx = some (none, MG h M K (cpk 1467 (M.2 a) gg), nx) := by
  induction n with
  | zero =>
    intro k hk
    obtain rfl : k = 1467 := by omega
    rw [e_207_2]
    simp only [e_207_3, e_207_6, e_207_9, e_207_10, e_207_11, e_207_12, e_207_13, e_207_14, e_207_15, e_207_18, e_207_21]
    rw [if_pos (by decide)]
  | succ n ih =>
    intro k hk
    have hl : mlen a = 1467 := by rcases ha with rfl | rfl <;> rfl
    have hc : mcls a = 0 := by rcases ha with rfl | rfl <;> rfl
    rw [e_207_2]
    simp only [e_207_3, e_207_6, e_207_9, e_207_10, e_207_11, e_207_12, e_207_13, e_207_14, e_207_15, e_207_18, rG (M := M) (K := K) (h := h) (a := a) (k := k) (by omega) (by omega) hc (by omega) (by omega), wGn (show k < 1467 by omega), cpk_s, Option.bind_some, nI_1]
    rw [if_neg (show ¬ (1467 : Int32) ≤ nI k from nI_ge (b := 1467) (by omega) (by omega))]
    exact ih (k + 1) (by omega)
theorem copy_from (ha : a = 125 ∨ a = 126) (n : Nat) : ∀ (k : Nat), k + n = 1467 → Df d 207 2 [.ref 124, .ref a, .int (nI k)] [] (MG h (sA M a (cpk k gg f)) K gg) nx = some (none, MG h (sA M a (cpk 1467 gg f)) K gg, nx) := by
  induction n with
  | zero =>
    intro k hk
    obtain rfl : k = 1467 := by omega
    rw [e_207_2]
    simp only [e_207_3, e_207_6, e_207_9, e_207_10, e_207_11, e_207_12, e_207_13, e_207_14, e_207_15, e_207_18, e_207_21]
    rw [if_pos (by decide)]
  | succ n ih =>
    intro k hk
    have hl : mlen a = 1467 := by rcases ha with rfl | rfl <;> rfl
    have hc : mcls a = 0 := by rcases ha with rfl | rfl <;> rfl
    have wr := wG (h := h) (M := sA M a (cpk k gg f)) (K := K) (gg := gg) (a := a) (k := k) (x := gg k) (by omega) (by omega) hc (by omega) (by omega)
    rw [sA_2, sA_s, cpk_s] at wr
    rw [e_207_2]
    simp only [e_207_3, e_207_6, e_207_9, e_207_10, e_207_11, e_207_12, e_207_13, e_207_14, e_207_15, e_207_18, rGn (show k < 1467 by omega), wr, Option.bind_some, nI_1]
    rw [if_neg (show ¬ (1467 : Int32) ≤ nI k from nI_ge (b := 1467) (by omega) (by omega))]
    exact ih (k + 1) (by omega)
theorem c_copyTo (ha : a = 125 ∨ a = 126) : Dn (d + 1) 207 [.ref a, .ref 124] (MG h M K gg) nx = some (none, MG h M K (cpk 1467 (M.2 a) gg), nx) := by
  have l := copy_to (d := d) (h := h) (nx := nx) (M := M) (K := K) (gg := gg) ha 1467 0 rfl
  rw [cpk_0] at l
  simp only [n_207, e_207_0, e_207_1n, e_207_1i, e_207_1r]
  exact l
theorem c_copyFrom (ha : a = 125 ∨ a = 126) : Dn (d + 1) 207 [.ref 124, .ref a] (MG h M K gg) nx = some (none, MG h (sA M a (cpk 1467 gg (M.2 a))) K gg, nx) := by
  have l := copy_from (d := d) (h := h) (nx := nx) (M := M) (K := K) (gg := gg) (f := M.2 a) ha 1467 0 rfl
  rw [cpk_0, sA_id] at l
  simp only [n_207, e_207_0, e_207_1n, e_207_1i, e_207_1r]
  exact l
theorem rG1 : rX (MG h M K gg) 124 1 = some (gg 1) := rGn (k := 1) (by omega)
theorem rG2 : rX (MG h M K gg) 124 2 = some (gg 2) := rGn (k := 2) (by omega)
theorem Q_keep : Dn (d + 2) 208 [.ref 123] (MX h M K D s a0) nx = am (D.2.2 2) h (sF (sA M 125 (cpk 1467 (enc D s a0) (M.2 125))) 3 1) K D s a0 nx := by
  rw [MX_MG]
  simp only [n_208, e_208_0, e_208_1, e_208_4, e_208_5, e_208_8, e_208_11, e_208_12, e_208_13, e_208_16, e_208_17, e_208_20, e_208_21, e_208_22, gG0, gG1, c_copyFrom (Or.inl rfl), cn_v, qG3, or_true, if_true, rG1, Option.bind_some]
  rfl
/-- what the image row is -/
def mIm (M : MS) (L : LT) (I : DT) (sI tI HI : Nat) (b0 : Nat → Int32) : Prop := (∀ k, k < 1467 → M.2 125 k = enc I sI b0 k) ∧ TR L tI b0 ∧ okL L tI ∧ dJ I sI HI ∧ HI ≤ 9999 ∧ I.2.2 12 = nI tI
theorem im_now (hs : s ≤ 10) (hI : sI ≤ 10) (hi : ∀ k, k < 1467 → f k = enc I sI b0 k) : cpk 1467 f (enc N s a0) = enc I sI (cpk 1467 b0 a0) := by
  funext k
  unfold cpk
  by_cases e : k < 1467
  · rw [if_pos e, hi k e]
    by_cases hk : k < 11
    · rw [en_q hk, en_q hk]
    · rw [en_11 (by omega), en_11 (by omega), if_pos e]
  · rw [if_neg e, en_o (by omega) hs, en_o (by omega) hI, if_neg e]
theorem TR_cpk (h14 : t ≤ 14) (hT : TR L t b0) : TR L t (cpk 1467 b0 a0) := by
  intro j hj
  obtain ⟨ky, N, h1, h2, h3, h4, h5, h6, h7⟩ := hT j hj
  have e : ∀ k, k < 1467 → cpk 1467 b0 a0 k = b0 k := fun k hk => if_pos hk
  refine ⟨ky, N, h1, h2, h3, h4, ?_, ?_, fun k hk => ?_⟩
  · rw [e _ (by omega)]; exact h5
  · rw [e _ (by omega)]; exact h6
  · rw [e _ (by omega)]; exact h7 k hk
theorem Q_back (hs : s ≤ 10) (hI : M.1 3 ≠ 0 → mIm M L I sI tI HI b0) : Dn (d + 2) 209 [.ref 123] (MX h M K D s a0) nx = if M.1 3 = 0 then am (-1000000002) h M K D s a0 nx else am (I.2.2 2) h M K (bec D I sI) sI (cpk 1467 b0 a0) nx := by
  by_cases h1 : M.1 3 = 0
  · rw [if_pos h1]
    simp only [n_209, e_209_0, e_209_1, e_209_4, e_209_7, e_209_10, gX3, h1, if_true, Option.bind_some]
    rfl
  · rw [if_neg h1]
    obtain ⟨i1, i2, i3, i4, i5, i6⟩ := hI h1
    have e : MX h M K (bec D I sI) sI (cpk 1467 b0 a0) = MG h M K (cpk 1467 (M.2 125) (enc D s a0)) := by
      rw [← MX_bec, MX_MG, im_now hs i4.1.2.1 i1]
    unfold am
    rw [e, MX_MG]
    have e1 : cpk 1467 (M.2 125) (enc D s a0) 1 = I.2.2 2 := by
      rw [im_now hs i4.1.2.1 i1]; rfl
    simp only [n_209, e_209_0, e_209_1, e_209_4, e_209_7, e_209_10, e_209_11, e_209_12, e_209_15, e_209_16, e_209_19, e_209_22, e_209_23, e_209_26, e_209_27, e_209_28, gG0, gG1, gG3, h1, if_false, c_copyTo (Or.inl rfl), cn_v, rG1, e1, Option.bind_some]
theorem mcheck_tail (hs : s ≤ 10) (hI : sI ≤ 10) (hA : ∀ k, k < 1467 → M.2 126 k = enc N s a0 k) : Df (d + 1) 206 181 [.ref 123, l1, .int x, .int y, .int z, l5] [] (MX h M K D sI (cpk 1467 b0 a0)) nx = am (if z = x ∧ z = y then 0 else 1 + z) h M K N s a0 nx := by
  have e : cpk 1467 (M.2 126) (enc D sI (cpk 1467 b0 a0)) = enc N s a0 := by
    funext k
    unfold cpk
    by_cases e : k < 1467
    · rw [if_pos e, hA k e]
    · rw [if_neg e, en_o (by omega) hI, en_o (by omega) hs, if_neg e]
  unfold am
  rw [MX_MG, MX_MG, ← e]
  simp only [e_206_181, e_206_182, e_206_185, e_206_186, e_206_189, e_206_192, e_206_194, e_206_195, e_206_198, e_206_200, e_206_201, e_206_204, e_206_205, e_206_208, e_206_209, e_206_211, e_206_212, gG0, gG2, c_copyTo (Or.inr rfl), cn_v, Option.bind_some]
  by_cases c1 : z = x
  · by_cases c2 : z = y
    · rw [if_pos c1, if_pos c2, if_pos ⟨c1, c2⟩]
    · rw [if_pos c1, if_neg c2, if_neg (fun q => c2 q.2)]
  · rw [if_neg c1, if_neg (fun q => c1 q.1)]
theorem mcheck_loop {q : Nat} (hq : q ≤ 30) (hm : m ≤ 60) (hs : s ≤ 10) (hM : M.1 4 = 0) (hA : ∀ k, k < 1467 → M.2 126 k = enc N s a0 k) (hW : ∀ k, k < m → M.2 144 k = w k) (hT : TR L t (cpk 1467 b0 a0)) (hL : okL L t) (r : Nat) : ∀ (k H : Nat) (D : DT) (K : (Nat → Int32) × (Nat → Int32)), dJ D sI H → H + r < 2147483648 → D.2.2 12 = nI t → k + r = q → 2 * k ≤ m → ∃ K', Df (d + 5) 206 80 [.ref 123, l1, .int (nI m), .int (nI (2 * q)), .int (nI (2 * k)), .int (nI k)] [] (MX h M K D sI (cpk 1467 b0 a0)) nx = am (ckF L t sI m w r k D).1 h M K' N s a0 nx := by
  induction r with
  | zero =>
    intro k H D K hD hH h12 hk hkm
    obtain rfl : k = q := by omega
    refine ⟨K, ?_⟩
    rw [e_206_80]
    simp only [e_206_81, e_206_83, e_206_84, e_206_85, nI_2]
    rw [if_pos (nI_le (Nat.le_refl _) (by omega)), mcheck_tail (d := d + 4) hs hD.1.2.1 hA]
    unfold ckF
    dsimp only
    by_cases c : 2 * k < m
    · have hne : ¬ (nI (2 * k) = nI m ∧ nI (2 * k) = nI (2 * k)) := fun e => by have := (nI_eq (by omega) (by omega)).mp e.1; omega
      rw [if_neg hne, if_pos c, show (1 : Int32) + nI (2 * k) = nI (1 + 2 * k) from nI_add 1 _]
    · have he : nI (2 * k) = nI m ∧ nI (2 * k) = nI (2 * k) := ⟨by rw [show 2 * k = m by omega], rfl⟩
      rw [if_pos he, if_neg c]
  | succ r ih =>
    intro k H D K hD hH h12 hk hkm
    obtain ⟨K1, e1⟩ := c_mhour (d := d) (h := h) (nx := nx) (M := M) (K := K) True (by rw [if_pos trivial]; exact hM) hD (by omega) h12 hT hL
    have g1 := hrF_J (L := L) (t := t) True (by omega) hD
    have g2 : (hrF L t sI True D).2.2 12 = nI t := (hrF_k True hD.1).2.trans h12
    unfold ckF
    generalize hrF L t sI True D = E at e1 g1 g2
    have pre : Df (d + 5) 206 80 [.ref 123, l1, .int (nI m), .int (nI (2 * q)), .int (nI (2 * k)), .int (nI k)] [] (MX h M K D sI (cpk 1467 b0 a0)) nx = Df (d + 5) 206 101 [.ref 123, l1, .int (nI m), .int (nI (2 * q)), .int (nI (2 * k)), .int (nI k)] [] (MX h M K1 E sI (cpk 1467 b0 a0)) nx := by
      rw [e_206_80]
      simp only [e_206_81, e_206_83, e_206_84, e_206_85, e_206_88, e_206_90, e_206_91, e_206_93, e_206_94, e_206_97, e_206_98, nI_2, kX, if_true, e1, cn_v]
      rw [if_neg (nI_ge (by omega) (by omega))]
    have out : ∀ p, p = 2 * k ∨ p = 2 * k + 1 → Df (d + 5) 206 80 [.ref 123, l1, .int (nI m), .int (nI (2 * q)), .int (nI p), .int (nI (k + 1))] [] (MX h M K1 E sI (cpk 1467 b0 a0)) nx = am (nI (1 + p)) h M K1 N s a0 nx := by
      intro p hp
      rw [e_206_80]
      simp only [e_206_81, e_206_83, e_206_84, e_206_85, e_206_88, e_206_90, e_206_91, e_206_93, e_206_94, nI_2]
      have hne : ¬ nI p = nI (2 * (k + 1)) := fun e => by have := (nI_eq (by omega) (by omega)).mp e; omega
      rw [if_neg hne, ite_self, mcheck_tail (d := d + 4) hs g1.1.2.1 hA]
      have hn2 : ¬ (nI p = nI m ∧ nI p = nI (2 * q)) := fun e => by have := (nI_eq (by omega) (by omega)).mp e.2; omega
      rw [if_neg hn2, show (1 : Int32) + nI p = nI (1 + p) from nI_add 1 p]
    have snd : ∀ p, (p = 2 * k ∨ p = 2 * k + 1) → Df (d + 5) 206 134 [.ref 123, l1, .int (nI m), .int (nI (2 * q)), .int (nI p), .int (nI k)] [] (MX h M K1 E sI (cpk 1467 b0 a0)) nx = if p = 2 * k + 1 ∧ p < m ∧ w p = tht E.2.1 sI then Df (d + 5) 206 80 [.ref 123, l1, .int (nI m), .int (nI (2 * q)), .int (nI (p + 1)), .int (nI (k + 1))] [] (MX h M K1 E sI (cpk 1467 b0 a0)) nx else Df (d + 5) 206 80 [.ref 123, l1, .int (nI m), .int (nI (2 * q)), .int (nI p), .int (nI (k + 1))] [] (MX h M K1 E sI (cpk 1467 b0 a0)) nx := by
      intro p hp
      have z0 : ∀ st, Df (d + 5) 206 171 [.ref 123, l1, .int (nI m), .int (nI (2 * q)), .int (nI p), .int (nI k)] (.int (nI p) :: st) (MX h M K1 E sI (cpk 1467 b0 a0)) nx = Df (d + 5) 206 80 [.ref 123, l1, .int (nI m), .int (nI (2 * q)), .int (nI p), .int (nI (k + 1))] st (MX h M K1 E sI (cpk 1467 b0 a0)) nx := fun st => by
        simp only [e_206_171, e_206_172, e_206_173n, e_206_173i, e_206_173r, e_206_175, e_206_178, Int32.add_zero, nI_1]
      simp only [e_206_134, e_206_136, e_206_138, e_206_139, e_206_141, e_206_142, e_206_143, e_206_144, nI_2, nI_1]
      by_cases c1 : p = 2 * k + 1
      · rw [if_pos (show nI p = nI (2 * k + 1) by rw [c1])]
        simp only [e_206_147, e_206_149, e_206_150]
        by_cases c2 : p < m
        · rw [if_neg (nI_ge c2 (by omega))]
          have hw := hW p c2
          simp only [e_206_153, e_206_154, e_206_157, e_206_159, e_206_160, e_206_161, e_206_164, gX32, rx144 (show p < 60 by omega), hw, kX, if_true, c_mtht g1.1, cn_s, Option.bind_some]
          by_cases c3 : w p = tht E.2.1 sI
          · rw [if_pos c3, if_pos ⟨c1, c2, c3⟩]
            simp only [e_206_167, e_206_168, e_206_172, e_206_173n, e_206_173i, e_206_173r, e_206_175, e_206_178, nI_1]
          · rw [if_neg c3, if_neg (fun e => c3 e.2.2), z0]
        · rw [if_pos (nI_le (by omega) (by omega)), if_neg (fun e => c2 e.2.1), z0]
      · have hne : ¬ nI p = nI (2 * k + 1) := fun e => c1 ((nI_eq (by omega) (by omega)).mp e)
        rw [if_neg hne, if_neg (fun e => c1 e.1), z0]
    have fst : Df (d + 5) 206 101 [.ref 123, l1, .int (nI m), .int (nI (2 * q)), .int (nI (2 * k)), .int (nI k)] [] (MX h M K1 E sI (cpk 1467 b0 a0)) nx = if 2 * k < m ∧ w (2 * k) = E.2.2 3 then Df (d + 5) 206 134 [.ref 123, l1, .int (nI m), .int (nI (2 * q)), .int (nI (2 * k + 1)), .int (nI k)] [] (MX h M K1 E sI (cpk 1467 b0 a0)) nx else Df (d + 5) 206 134 [.ref 123, l1, .int (nI m), .int (nI (2 * q)), .int (nI (2 * k)), .int (nI k)] [] (MX h M K1 E sI (cpk 1467 b0 a0)) nx := by
      have z0 : ∀ st, Df (d + 5) 206 130 [.ref 123, l1, .int (nI m), .int (nI (2 * q)), .int (nI (2 * k)), .int (nI k)] (.int (nI (2 * k)) :: st) (MX h M K1 E sI (cpk 1467 b0 a0)) nx = Df (d + 5) 206 134 [.ref 123, l1, .int (nI m), .int (nI (2 * q)), .int (nI (2 * k)), .int (nI k)] st (MX h M K1 E sI (cpk 1467 b0 a0)) nx := fun st => by
        simp only [e_206_130, e_206_131, e_206_132n, e_206_132i, e_206_132r, Int32.add_zero]
      simp only [e_206_101, e_206_103, e_206_105, e_206_106]
      by_cases c2 : 2 * k < m
      · rw [if_neg (nI_ge c2 (by omega))]
        have hw := hW (2 * k) c2
        simp only [e_206_109, e_206_110, e_206_113, e_206_115, e_206_116, e_206_117, e_206_120, e_206_122, e_206_123, gX0, gX32, rx7, rx144 (show 2 * k < 60 by omega), hw, Option.bind_some]
        by_cases c3 : w (2 * k) = E.2.2 3
        · rw [if_pos c3, if_pos ⟨c2, c3⟩]
          simp only [e_206_126, e_206_127, e_206_131, e_206_132n, e_206_132i, e_206_132r, nI_1]
        · rw [if_neg c3, if_neg (fun e => c3 e.2), z0]
      · rw [if_pos (nI_le (by omega) (by omega)), if_neg (fun e => c2 e.1), z0]
    rw [pre, fst]
    by_cases c1 : 2 * k < m ∧ w (2 * k) = E.2.2 3
    · rw [if_pos c1, if_pos c1, snd (2 * k + 1) (Or.inr rfl)]
      by_cases c2 : 2 * k + 1 < m ∧ w (2 * k + 1) = tht E.2.1 sI
      · rw [if_pos ⟨rfl, c2⟩, if_pos c2]
        have := ih (k + 1) (H + 1) E K1 g1 (by omega) g2 (by omega) (by omega)
        rw [show 2 * (k + 1) = 2 * k + 1 + 1 by omega] at this
        exact this
      · rw [if_neg (fun e => c2 e.2), if_neg c2]
        refine ⟨K1, ?_⟩
        rw [out _ (Or.inr rfl), show 1 + (2 * k + 1) = 2 + 2 * k by omega]
    · rw [if_neg c1, if_neg c1, snd (2 * k) (Or.inl rfl), if_neg (fun e => by omega)]
      exact ⟨K1, out _ (Or.inl rfl)⟩
theorem Q_check (hM : M.1 4 = 0) (hs : s ≤ 10) (h33 : M.1 33 = nI m) (hm : m ≤ 60) (hW : ∀ k, k < m → M.2 144 k = w k) (hI : M.1 3 ≠ 0 → mIm M L I sI tI HI b0) (T : DT) : ∃ K' f, Dn (d + 6) 206 [.ref 123, .int x] (MX h M K N s a0) nx = if 1 ≤ x ∧ x ≤ 30 then (if M.1 3 = 0 then am (-1000000002) h (sF M 33 0) K N s a0 nx else am (ckF L tI sI m w (min x.toNatClampNeg (9999 - HI)) 0 (bec T I sI)).1 h (sA (sF M 33 0) 126 f) K' N s a0 nx) else am (-1000000001) h (sF M 33 0) K N s a0 nx := by
  by_cases h1 : 1 ≤ x ∧ x ≤ 30
  · by_cases h3 : M.1 3 = 0
    · refine ⟨K, fun _ => 0, ?_⟩
      rw [if_pos h1, if_pos h3]
      have e3 : (sF M 33 0).1 3 = 0 := h3
      simp only [n_206, e_206_0, e_206_1, e_206_4n, e_206_4i, e_206_4r, e_206_5, e_206_6, e_206_7, e_206_10, e_206_11, e_206_12, e_206_14, e_206_17, e_206_20, e_206_22, e_206_23, e_206_24, e_206_27, e_206_30, e_206_33, gX33, qX33, c_min_in, cn_s, pi_if, gX3, e3, if_true, Option.bind_some]
      rw [if_pos h1]; rfl
    · obtain ⟨i1, i2, i3, i4, i5, i6⟩ := hI h3
      obtain ⟨n, hn1, hn, rfl⟩ := idx1 (m := 30) h1 (by omega)
      rw [cl_nI (by omega)]
      let M1 := sA (sF M 33 0) 126 (cpk 1467 (enc N s a0) ((sF M 33 0).2 126))
      have hM1 : M1 = sA (sF M 33 0) 126 (cpk 1467 (enc N s a0) ((sF M 33 0).2 126)) := rfl
      have hA : ∀ k, k < 1467 → M1.2 126 k = enc N s a0 k := fun k hk => by rw [hM1, sA_s]; exact if_pos hk
      have h144 : M1.2 144 = M.2 144 := by rw [hM1, sA_o (by omega)]; rfl
      have h125 : M1.2 125 = M.2 125 := by rw [hM1, sA_o (by omega)]; rfl
      obtain ⟨K', e⟩ := mcheck_loop (d := d) (h := h) (nx := nx) (M := M1) (w := w) (l1 := .int (nI n)) (q := min n (9999 - HI)) (by omega) hm hs hM hA (fun k hk => by rw [h144]; exact hW k hk) (TR_cpk (a0 := a0) i3.1 i2) i3 (min n (9999 - HI)) 0 HI (bec T I sI) K (bec_J i4) (by omega) (bec_t i6) (by omega) (by omega)
      rw [← MX_bec] at e
      refine ⟨K', cpk 1467 (enc N s a0) ((sF M 33 0).2 126), ?_⟩
      rw [if_pos h1, if_neg h3, ← hM1]
      refine Eq.trans ?_ e
      have e3 : (sF M 33 0).1 3 ≠ 0 := h3
      have e3' : ¬ (sF M 33 0).1 3 = 0 := h3
      simp only [n_206, e_206_0, e_206_1, e_206_4n, e_206_4i, e_206_4r, e_206_5, e_206_6, e_206_7, e_206_10, e_206_11, e_206_12, e_206_14, e_206_17, e_206_20, e_206_22, e_206_23, e_206_24, e_206_27, gX33, h33, qX33, c_min_in, cn_s, pi_if, gX3, e3', if_false, Option.bind_some]
      rw [if_pos h1, MX_MG, MX_MG]
      have cf := c_copyFrom (d := d + 4) (h := h) (nx := nx) (M := sF M 33 0) (K := K) (gg := enc N s a0) (a := 126) (Or.inr rfl)
      rw [← hM1] at cf
      have ct := c_copyTo (d := d + 4) (h := h) (nx := nx) (M := M1) (K := K) (gg := enc N s a0) (a := 125) (Or.inl rfl)
      rw [h125, im_now hs i4.1.2.1 i1] at ct
      have r2 : rX (MG h M1 K (enc I sI (cpk 1467 b0 a0))) 124 2 = some (nI HI) := by
        rw [rG2]; exact congrArg some i4.2.2.2.2.2.1
      have e9 : (9999 : Int32) - nI HI = nI (9999 - HI) := nI_sub (a := 9999) i5
      have e10 : (2 : Int32) * hld (nI (9999 - HI)) 0 (nI n) = nI (2 * min n (9999 - HI)) := by rw [hld_nI (by omega) (by omega), nI_2, Nat.min_comm]
      simp only [e_206_34, e_206_35, e_206_38, e_206_39, e_206_42, e_206_45, e_206_46, e_206_49, e_206_50, e_206_53, e_206_56, e_206_57, e_206_60, e_206_61, e_206_64, e_206_65, e_206_66, e_206_67, e_206_68, e_206_69, e_206_72, e_206_73n, e_206_73i, e_206_73r, e_206_74, e_206_75n, e_206_75i, e_206_75r, e_206_77, e_206_78n, e_206_78i, e_206_78r, gG0, gG1, gG2, cf, ct, cn_v, cn_s, r2, e9, c_mwithin, e10, Option.bind_some]
      rfl
  · refine ⟨K, fun _ => 0, ?_⟩
    rw [if_neg h1]
    simp only [n_206, e_206_0, e_206_1, e_206_4n, e_206_4i, e_206_4r, e_206_5, e_206_6, e_206_7, e_206_10, e_206_11, e_206_12, e_206_14, e_206_17, e_206_20, e_206_22, gX33, qX33, c_min_in, cn_s, pi_if, Option.bind_some]
    rw [if_neg h1]; rfl
end MY
