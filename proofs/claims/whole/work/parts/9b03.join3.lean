/-! one line of a script: the rows, the image, the texts -/
section JC
variable {d : Nat} {h0 : AH} {nx : AN} {S : CS} {M M' : MS} {K : (Nat → Int32) × (Nat → Int32)} {a0 b0 cd st : Nat → Int32} {s t H n m k p g i N o : Nat} {x y z u v : Int32} {D : DT} {L : LT} {C : List Int32}
theorem byt_nI (x sh : Int32) : 0 ≤ byt x sh ∧ byt x sh ≤ 255 := by
  have : ∃ m, byt x sh = nI m ∧ m ≤ 255 := by
    refine ⟨(byt x sh).toBitVec.toNat, ?_, ?_⟩
    · apply Int32.toBitVec_inj.mp
      simp [nI]
    · have e : (byt x sh).toBitVec = ((x.toUInt32 >>> (sh.toUInt32 &&& Int32.toUInt32 31)).toInt32).toBitVec &&& 255#32 := rfl
      rw [e, BitVec.toNat_and]
      exact Nat.and_le_right
  obtain ⟨m, e, hm⟩ := this
  rw [e]
  exact ⟨nI_le (a := 0) (by omega) (by omega), nI_le (b := 255) hm (by omega)⟩
theorem sFA_o {a j : Nat} {f : Nat → Int32} (hk : k ≠ a) : (sF (sA M a f) j x).2 k = M.2 k := sA_o hk
theorem J_tell (hR : RR S M s t H a0 n m) : Jo (d + 203) h0 115 205 [.int x] S M K s a0 nx := by
  obtain ⟨r1, r2, r3, r4, r5, r6, r7, r8⟩ := hR
  have e := P_tell (d := d + 202) (h := MX h0 M K (zN S) s a0) (nx := nx) (S := S) (x := x) r3.2.1 r3.2.2.1
  have q := fun S' => Q_tell (d := d + 202) (h := CH h0 S') (nx := nx) (M := M) (K := K) (D := zN S) (s := s) (a0 := a0) (x := x) r3.1 r3.2.2.1
  by_cases c : m = 60
  · rw [if_pos c] at e
    have q := q S
    rw [if_pos c] at q
    exact ⟨_, S, M, K, s, a0, e, q, t, H, n, m, r1, r2, r3, r4, r5, r6, r7, r8⟩
  · rw [if_neg c] at e
    have q := q (sO (sW S (upd (zW S) m x)) (upd (zO S) 9 (nI (m + 1))))
    rw [if_neg c] at q
    have hm := r3.2.2.1
    refine ⟨_, _, _, K, s, a0, e, q, t, H, n, m + 1, r1, r2, ⟨rfl, rfl, by omega, fun k hk => ?_⟩, r4.fr rfl (sFA_o (by omega)), r5.fr (M' := sF (sA M 144 (upd (M.2 144) m x)) 33 (nI (m + 1))) rfl (sFA_o (by omega)), r6.fr (sFA_o (by omega)) (sFA_o (by omega)) (sFA_o (by omega)), r7.fr (sFA_o (by omega)) (sFA_o (by omega)) (sFA_o (by omega)) (sFA_o (by omega)), r8.fr (sFA_o (by omega)) (sFA_o (by omega))⟩
    show (sA M 144 (upd (M.2 144) m x)).2 144 k = upd (zW S) m x k
    rw [sA_s]
    by_cases ek : k = m
    · rw [show upd (M.2 144) m x k = x from if_pos ek, show upd (zW S) m x k = x from if_pos ek]
    · rw [show upd (M.2 144) m x k = M.2 144 k from if_neg ek, show upd (zW S) m x k = zW S k from if_neg ek]
      exact r3.2.2.2 k (by omega)
theorem J_trim (hR : RR S M s t H a0 n m) : Jo (d + 203) h0 101 180 [.int x] S M K s a0 nx := by
  obtain ⟨r1, r2, r3, r4, r5, r6, r7, r8⟩ := hR
  have e := P_trim (d := d + 201) (h := MX h0 M K (zN S) s a0) (nx := nx) (S := S) (x := x)
  have q := fun S' => Q_trim (d := d + 201) (h := CH h0 S') (nx := nx) (M := M) (K := K) (D := zN S) (s := s) (a0 := a0) (x := x)
  rw [r4.1] at e
  rw [r4.2.2.1] at q
  have hn := r4.2.1
  by_cases c : 0 ≤ x ∧ x ≤ nI n
  · rw [if_pos c] at e
    have q := q (sR S (upd (zR S).1 1 x, (zR S).2))
    rw [if_pos c] at q
    obtain ⟨k, hk, rfl⟩ := idxle c (by omega)
    exact ⟨_, _, _, K, s, a0, e, q, t, H, k, m, r1, r2, r3, ⟨rfl, by omega, rfl, fun j hj => r4.2.2.2.1 j (by omega), fun j hj => r4.2.2.2.2 j (by omega)⟩, r5, r6, r7, r8⟩
  · rw [if_neg c] at e
    have q := q S
    rw [if_neg c] at q
    exact ⟨_, S, M, K, s, a0, e, q, t, H, n, m, r1, r2, r3, r4, r5, r6, r7, r8⟩
theorem J_feed (hR : RR S M s t H a0 n m) : Jo (d + 203) h0 100 179 [.int x, .int y, .int z] S M K s a0 nx := by
  obtain ⟨r1, r2, r3, r4, r5, r6, r7, r8⟩ := hR
  have e := P_feed (d := d + 201) (h := MX h0 M K (zN S) s a0) (nx := nx) (S := S) (x := x) (y := y) (z := z) r4.1 r4.2.1
  have q := fun S' => Q_feed (d := d + 202) (h := CH h0 S') (nx := nx) (M := M) (K := K) (D := zN S) (s := s) (a0 := a0) (x := x) (y := y) (z := z) r4.2.2.1 r4.2.1
  by_cases c : n + 12 ≤ 96
  · rw [if_pos c] at e
    have q := q (sR S (upd (zR S).1 1 (nI (n + 12)), (zR S).2.1, (zR S).2.2.1, fdB (fdB (fdB (zR S).2.2.2 n x) (n + 4) y) (n + 8) z))
    rw [if_pos c] at q
    have fs := feed_same (x := x) (y := y) (z := z) r4.2.2.2.1
    refine ⟨_, _, _, K, s, a0, e, q, t, H, n + 12, m, r1, r2, r3.fr rfl (sFA_o (by omega)), ⟨rfl, c, rfl, fun k hk => ?_, fun k hk => ?_⟩, r5.fr (M' := sF (sA M 128 (cpo n 12 (fby x y z) (M.2 128))) 7 (nI (n + 12))) rfl (sFA_o (by omega)), r6.fr (sFA_o (by omega)) (sFA_o (by omega)) (sFA_o (by omega)), r7.fr (sFA_o (by omega)) (sFA_o (by omega)) (sFA_o (by omega)) (sFA_o (by omega)), r8.fr (sFA_o (by omega)) (sFA_o (by omega))⟩
    · show (sA M 128 (cpo n 12 (fby x y z) (M.2 128))).2 128 k = _
      rw [sA_s]
      exact fs k hk
    · show 0 ≤ fdB (fdB (fdB (zR S).2.2.2 n x) (n + 4) y) (n + 8) z k ∧ fdB (fdB (fdB (zR S).2.2.2 n x) (n + 4) y) (n + 8) z k ≤ 255
      rw [← fs k hk]
      unfold cpo
      by_cases ck : n ≤ k ∧ k < n + 12
      · rw [if_pos ck]
        exact byt_nI _ _
      · rw [if_neg ck, r4.2.2.2.1 k (by omega)]
        exact r4.2.2.2.2 k (by omega)
  · rw [if_neg c] at e
    have q := q S
    rw [if_neg c] at q
    exact ⟨_, S, M, K, s, a0, e, q, t, H, n, m, r1, r2, r3, r4, r5, r6, r7, r8⟩
theorem J_keep (hR : RR S M s t H a0 n m) : Jo (d + 203) h0 118 208 [] S M K s a0 nx := by
  obtain ⟨r1, r2, r3, r4, r5, r6, r7, r8⟩ := hR
  have e := P_keep (d := d + 200) (h := MX h0 M K (zN S) s a0) (nx := nx) (S := S) r1.1.1
  have q := Q_keep (d := d + 201) (h := CH h0 (sO (sI S (bec (zI S) (zN S) s)) (upd (zO S) 10 1))) (nx := nx) (M := M) (K := K) (D := zN S) (s := s) (a0 := a0)
  refine ⟨_, _, _, K, s, a0, e, q, t, H, n, m, r1, r2, r3.fr (M' := sF (sA M 125 (cpk 1467 (enc (zN S) s a0) (M.2 125))) 3 1) rfl (sFA_o (by omega)), r4.fr rfl (sFA_o (by omega)), ⟨rfl, fun _ => ⟨s, t, H, a0, ⟨fun k hk => ?_, r1.2.2.2.1, r1.2.2.2.2, bec_J r1.1, r1.2.1, bec_t r1.2.2.1⟩, Nat.le_refl _⟩⟩, r6.fr (sFA_o (by omega)) (sFA_o (by omega)) (sFA_o (by omega)), r7.fr (sFA_o (by omega)) (sFA_o (by omega)) (sFA_o (by omega)) (sFA_o (by omega)), r8.fr (sFA_o (by omega)) (sFA_o (by omega))⟩
  show (sA M 125 (cpk 1467 (enc (zN S) s a0) (M.2 125))).2 125 k = enc (bec (zI S) (zN S) s) s a0 k
  rw [sA_s, enc_bec]
  exact if_pos hk
theorem J_back (hR : RR S M s t H a0 n m) : Jo (d + 203) h0 119 209 [] S M K s a0 nx := by
  obtain ⟨r1, r2, r3, r4, r5, r6, r7, r8⟩ := hR
  by_cases c : M.1 3 = 0
  · have c' : zO S 10 = 0 := by rw [← r5.1]; exact c
    have e := P_back (d := d + 200) (h := MX h0 M K (zN S) s a0) (nx := nx) (S := S) (s := 0) (fun q => absurd c' q)
    have q := Q_back (d := d + 201) (h := CH h0 S) (nx := nx) (M := M) (K := K) (D := zN S) (s := s) (a0 := a0) (L := zL S) (I := zI S) (sI := 0) (tI := 0) (HI := 0) (b0 := a0) r1.1.1.2.1 (fun q => absurd c q)
    rw [if_pos c'] at e
    rw [if_pos c] at q
    exact ⟨_, S, M, K, s, a0, e, q, t, H, n, m, r1, r2, r3, r4, r5, r6, r7, r8⟩
  · have c' : ¬ zO S 10 = 0 := by rw [← r5.1]; exact c
    obtain ⟨sI, tI, HI, b0, hI, hle⟩ := r5.2 c
    obtain ⟨i1, i2, i3, i4, i5, i6⟩ := hI
    have e := P_back (d := d + 200) (h := MX h0 M K (zN S) s a0) (nx := nx) (S := S) (s := sI) (fun _ => i4.1)
    have q := Q_back (d := d + 201) (h := CH h0 (sN S (bec (zN S) (zI S) sI))) (nx := nx) (M := M) (K := K) (D := zN S) (s := s) (a0 := a0) (L := zL S) (I := zI S) (sI := sI) (tI := tI) (HI := HI) (b0 := b0) r1.1.1.2.1 (fun _ => ⟨i1, i2, i3, i4, i5, i6⟩)
    rw [if_neg c'] at e
    rw [if_neg c] at q
    exact ⟨_, _, M, K, sI, cpk 1467 b0 a0, e, q, tI, HI, n, m, ⟨bec_J i4, i5, bec_t i6, TR_cpk i3.1 i2, i3⟩, r2, r3, r4, ⟨r5.1, fun _ => ⟨sI, tI, HI, b0, ⟨i1, i2, i3, i4, i5, i6⟩, Nat.le_refl _⟩⟩, r6, r7, r8⟩
theorem J_check (hR : RR S M s t H a0 n m) : Jo (d + 203) h0 116 206 [.int x] S M K s a0 nx := by
  obtain ⟨r1, r2, r3, r4, r5, r6, r7, r8⟩ := hR
  have w0 : ∀ M' : MS, M'.1 33 = 0 → cWt (sO S (upd (zO S) 9 0)) M' 0 := fun M' h => ⟨h, rfl, by omega, fun k hk => by omega⟩
  by_cases c : M.1 3 = 0
  · have c' : zO S 10 = 0 := by rw [← r5.1]; exact c
    obtain ⟨K1, T1, e⟩ := P_check (d := d + 196) (h := MX h0 M K (zN S) s a0) (nx := nx) (S := S) (x := x) (s := 0) (t := 0) (H := 0) r3.2.1 r3.2.2.1 (fun q => absurd c' q)
    obtain ⟨K2, f, q⟩ := Q_check (d := d + 197) (h := CH h0 (sO S (upd (zO S) 9 0))) (nx := nx) (K := K) (N := zN S) (a0 := a0) (x := x) (L := zL S) (I := zI S) (sI := 0) (tI := 0) (HI := 0) (b0 := a0) (w := zW S) r2 r1.1.1.2.1 r3.1 r3.2.2.1 r3.2.2.2 (fun q => absurd c q) (zT S)
    have fin : RR (sO S (upd (zO S) 9 0)) (sF M 33 0) s t H a0 n 0 := ⟨r1, r2, w0 _ rfl, r4, r5, r6, r7, r8⟩
    by_cases c2 : 1 ≤ x ∧ x ≤ 30
    · rw [if_pos c2, if_pos c'] at e
      rw [if_pos c2, if_pos c] at q
      exact ⟨_, _, _, K, s, a0, e, q, t, H, n, 0, fin⟩
    · rw [if_neg c2] at e q
      exact ⟨_, _, _, K, s, a0, e, q, t, H, n, 0, fin⟩
  · have c' : ¬ zO S 10 = 0 := by rw [← r5.1]; exact c
    obtain ⟨sI, tI, HI, b0, hI, hle⟩ := r5.2 c
    obtain ⟨i1, i2, i3, i4, i5, i6⟩ := hI
    obtain ⟨K1, T1, e⟩ := P_check (d := d + 196) (h := MX h0 M K (zN S) s a0) (nx := nx) (S := S) (x := x) (s := sI) (t := tI) (H := HI) r3.2.1 r3.2.2.1 (fun _ => ⟨i4.1, i6, i3, i4.2.2.2.2.2.1, i5⟩)
    by_cases c2 : 1 ≤ x ∧ x ≤ 30
    · obtain ⟨K2, f, q⟩ := Q_check (d := d + 197) (h := CH h0 (sO (sT (sK S K1) T1) (upd (zO S) 9 0))) (nx := nx) (K := K) (N := zN S) (a0 := a0) (x := x) (L := zL S) (I := zI S) (sI := sI) (tI := tI) (HI := HI) (b0 := b0) (w := zW S) r2 r1.1.1.2.1 r3.1 r3.2.2.1 r3.2.2.2 (fun _ => ⟨i1, i2, i3, i4, i5, i6⟩) (zT S)
      rw [if_pos c2, if_neg c'] at e
      rw [if_pos c2, if_neg c] at q
      exact ⟨_, _, _, K2, s, a0, e, q, t, H, n, 0, r1, r2, w0 _ rfl, r4.fr rfl (sA_o (by omega)), r5.fr (M' := sA (sF M 33 0) 126 f) rfl (sA_o (by omega)), r6.fr (sA_o (by omega)) (sA_o (by omega)) (sA_o (by omega)), r7.fr (sA_o (by omega)) (sA_o (by omega)) (sA_o (by omega)) (sA_o (by omega)), r8.fr (sA_o (by omega)) (sA_o (by omega))⟩
    · obtain ⟨K2, f, q⟩ := Q_check (d := d + 197) (h := CH h0 (sO S (upd (zO S) 9 0))) (nx := nx) (K := K) (N := zN S) (a0 := a0) (x := x) (L := zL S) (I := zI S) (sI := sI) (tI := tI) (HI := HI) (b0 := b0) (w := zW S) r2 r1.1.1.2.1 r3.1 r3.2.2.1 r3.2.2.2 (fun _ => ⟨i1, i2, i3, i4, i5, i6⟩) (zT S)
      rw [if_neg c2] at e q
      exact ⟨_, _, _, K, s, a0, e, q, t, H, n, 0, r1, r2, w0 _ rfl, r4, r5, r6, r7, r8⟩
theorem lwU_lo (hi : i ≠ k) : (lwU L i st x y z).1 k = L.1 k ∧ (lwU L i st x y z).2 k = L.2 k := ⟨if_neg (fun e => hi e.symm), if_neg (fun e => hi e.symm)⟩
theorem TR_lo (hT : TR L t a0) (hi : t ≤ i) : TR (lwU L i st x y z) t a0 := by
  intro j hj
  obtain ⟨e1, e2⟩ := lwU_lo (L := L) (st := st) (x := x) (y := y) (z := z) (show i ≠ j by omega)
  rw [e1, e2]
  exact hT j hj
theorem okL_lo (hT : okL L t) (hi : t ≤ i) : okL (lwU L i st x y z) t := by
  refine ⟨hT.1, fun j hj => ?_⟩
  obtain ⟨e1, e2⟩ := lwU_lo (L := L) (st := st) (x := x) (y := y) (z := z) (show i ≠ j by omega)
  unfold lwP
  rw [e1, e2]
  exact hT.2 j hj
theorem cpT_at : ∀ (f k : Nat) (g : Nat → Int32) (j : Nat), cpT cd t f k g j = if 123 + 96 * t + k ≤ j ∧ j < 123 + 96 * t + k + f then cd (j - (123 + 96 * t)) else g j
  | 0, k, g, j => by
    rw [if_neg (by omega)]; rfl
  | f + 1, k, g, j => by
    show cpT cd t f (k + 1) (upd g (123 + 96 * t + k) (cd k)) j = _
    rw [cpT_at f (k + 1)]
    by_cases c : j = 123 + 96 * t + k
    · rw [if_neg (by omega), if_pos (by omega), show upd g (123 + 96 * t + k) (cd k) j = cd k from if_pos c, show j - (123 + 96 * t) = k by omega]
    · by_cases c2 : 123 + 96 * t + (k + 1) ≤ j ∧ j < 123 + 96 * t + (k + 1) + f
      · rw [if_pos c2, if_pos (by omega)]
      · rw [if_neg c2, if_neg (by omega), show upd g (123 + 96 * t + k) (cd k) j = g j from if_neg c]
theorem getD_map : ∀ (C : List Int32) (j : Nat), j < C.length → (C.map trc).getD j 0 = trc (C.getD j 0)
  | [], j, h => by simp at h
  | c :: C, 0, _ => rfl
  | c :: C, j + 1, h => getD_map C j (by simp at h; omega)
theorem getD_mem : ∀ (C : List Int32) (j : Nat), j < C.length → C.getD j 0 ∈ C
  | [], j, h => by simp at h
  | c :: C, 0, _ => by simp
  | c :: C, j + 1, h => by
    have := getD_mem C j (by simp at h; omega)
    show C.getD j 0 ∈ c :: C
    exact List.mem_cons_of_mem _ this
theorem TR_new (ht : t < 14) (hk : k < 3) (hC : C.length ≤ 96) (hs : SR st C) (hc : SR cd (C.map trc)) (hg : gdX k C.reverse) (hT : TR L t a0) : TR (lwU L t st (nI C.length) (nI k) (nI o)) (t + 1) (txA cd t C.length k o a0) := by
  intro j hj
  by_cases e : j = t
  · subst e
    refine ⟨k, C.length, hk, hC, ?_, ?_, ?_, ?_, fun p hp => ?_⟩
    · show updW L.2 j _ j 2 = _
      rw [updW_s]; rfl
    · show updW L.2 j _ j 1 = _
      rw [updW_s]; rfl
    · unfold txA
      rw [cpT_at, if_neg (by omega), show upd (upd a0 (95 + 2 * j) (nI (1000 * k + C.length))) (96 + 2 * j) (nI o) (95 + 2 * j) = upd a0 (95 + 2 * j) (nI (1000 * k + C.length)) (95 + 2 * j) from if_neg (by omega)]
      exact upd_s _ _ _
    · unfold txA
      rw [cpT_at, if_neg (by omega)]
      show _ = updW L.2 j _ j 3
      rw [updW_s]
      exact upd_s _ _ _
    · have e1 : (lwU L j st (nI C.length) (nI k) (nI o)).1 j p = st p := by
        show updW L.1 j _ j p = _
        rw [updW_s]
        unfold va_cpy
        rw [if_pos (by omega), show 0 + (p - 0) = p by omega]
      have e2 := hs p hp
      have e3 := hc p (by rw [List.length_map]; exact hp)
      rw [List.length_map, getD_map C _ (by omega)] at e3
      rw [e1]
      refine ⟨?_, ?_⟩
      · unfold txA
        rw [cpT_at, if_pos (by omega), show 123 + 96 * j + p - (123 + 96 * j) = p by omega, e2, e3]
      · rw [e2]
        exact hg.2 _ (List.mem_reverse.mpr (getD_mem C _ (by omega)))
  · obtain ⟨e1, e2⟩ := lwU_lo (L := L) (st := st) (x := nI C.length) (y := nI k) (z := nI o) (show t ≠ j by omega)
    rw [e1, e2]
    obtain ⟨ky, N, h1, h2, h3, h4, h5, h6, h7⟩ := hT j (by omega)
    have un : ∀ q, (q < 95 + 2 * t ∨ 123 ≤ q) → q < 123 + 96 * t → txA cd t C.length k o a0 q = a0 q := by
      intro q hq hq2
      unfold txA
      rw [cpT_at, if_neg (by omega), show upd (upd a0 (95 + 2 * t) (nI (1000 * k + C.length))) (96 + 2 * t) (nI o) q = upd a0 (95 + 2 * t) (nI (1000 * k + C.length)) q from if_neg (by omega)]
      exact if_neg (by omega)
    refine ⟨ky, N, h1, h2, h3, h4, ?_, ?_, fun p hp => ?_⟩
    · rw [un _ (by omega) (by omega)]; exact h5
    · rw [un _ (by omega) (by omega)]; exact h6
    · rw [un _ (by omega) (by omega)]; exact h7 p hp
theorem okL_new (ht : t < 14) (hC : C.length ≤ 96) (hs : SR st C) (hg : gdX k C.reverse) (hL : okL L t) : okL (lwU L t st (nI C.length) (nI k) (nI o)) (t + 1) := by
  refine ⟨by omega, fun j hj => ?_⟩
  by_cases e : j = t
  · subst e
    have e1 : (lwU L j st (nI C.length) (nI k) (nI o)).2 j 1 = nI C.length := by
      show updW L.2 j _ j 1 = _
      rw [updW_s]; rfl
    refine ⟨C.length, e1, hC, ?_⟩
    have e2 : lwP (lwU L j st (nI C.length) (nI k) (nI o)) j = C.reverse := by
      unfold lwP
      rw [e1, cl_nI (by omega), ← SR_list hs]
      apply List.map_congr_left
      intro p hp
      have hp : p < C.length := List.mem_range.mp hp
      show updW L.1 j _ j p = _
      rw [updW_s]
      unfold va_cpy
      rw [if_pos (by omega), show 0 + (p - 0) = p by omega]
    rw [e2]
    have := hg.1 [] 0 rfl
    rwa [List.append_nil] at this
  · obtain ⟨e1, e2⟩ := lwU_lo (L := L) (st := st) (x := nI C.length) (y := nI k) (z := nI o) (show t ≠ j by omega)
    unfold lwP
    rw [e1, e2]
    exact hL.2 j (by omega)
theorem J_text (hR : RR S M s t H a0 n m) : Jo (d + 203) h0 102 181 [] S M K s a0 nx := by
  have hG := hR.cG
  obtain ⟨r1, r2, r3, r4, r5, r6, r7, r8⟩ := hR
  obtain ⟨rn, ln, st, hr, hs, e⟩ := P_text (d := d) (h := MX h0 M K (zN S) s a0) (nx := nx) hG r4.1 r4.2.1
  have q := fun S' => Q_text (d := d + 198) (h := CH h0 S') (nx := nx) (K := K) (D := zN S) (a0 := a0) r8 r4.2 hG.1.2.1 hG.2.1 hG.2.2.1
  have tp0 : ∀ M' : MS, M'.1 7 = 0 → cTp (sR S (rn, ln, st, (zR S).2.2.2)) M' 0 := fun M' h => ⟨hr, by omega, h, fun k hk => by omega, fun k hk => by omega⟩
  have fin : ∀ M' : MS, frT M M' → M'.1 7 = 0 → RR (sR S (rn, ln, st, (zR S).2.2.2)) M' s t H a0 0 m := fun M' hf h7 => ⟨r1, by rw [hf.2.1]; exact r2, r3.fr hf.2.2.1 (hf.2.2.2 _ (by omega) (by omega) (by omega)), tp0 M' h7, r5.fr hf.1 (hf.2.2.2 _ (by omega) (by omega) (by omega)), r6.fr (hf.2.2.2 _ (by omega) (by omega) (by omega)) (hf.2.2.2 _ (by omega) (by omega) (by omega)) (hf.2.2.2 _ (by omega) (by omega) (by omega)), r7.fr (hf.2.2.2 _ (by omega) (by omega) (by omega)) (hf.2.2.2 _ (by omega) (by omega) (by omega)) (hf.2.2.2 _ (by omega) (by omega) (by omega)) (hf.2.2.2 _ (by omega) (by omega) (by omega)), r8.fr (hf.2.2.2 _ (by omega) (by omega) (by omega)) (hf.2.2.2 _ (by omega) (by omega) (by omega))⟩
  have good := fun k => txF_good (B := (zR S).2.2.2) (n := n) (k := k) r4.2.1 r4.2.2.2.2
  generalize txF (zR S).2.2.2 n = T at *
  cases hT : T.1 with
  | none =>
    rw [hT] at e
    obtain ⟨M', cd, hf, h7, _, q⟩ := q (sR S (rn, ln, st, (zR S).2.2.2))
    rw [hT] at q
    exact ⟨_, _, M', K, s, a0, e, q, t, H, 0, m, fin M' hf h7⟩
  | some k =>
    rw [hT] at e
    dsimp only at e
    by_cases c : t = 14
    · rw [if_pos c] at e
      obtain ⟨M', cd, hf, h7, _, q⟩ := q (sR S (rn, ln, st, (zR S).2.2.2))
      rw [hT] at q
      dsimp only at q
      rw [if_pos c] at q
      exact ⟨_, _, M', K, s, a0, e, q, t, H, 0, m, fin M' hf h7⟩
    · rw [if_neg c] at e
      obtain ⟨M', cd, hf, h7, hc, q⟩ := q (sN (sL (sR S (rn, ln, st, (zR S).2.2.2)) (lwU (zL S) t st (nI T.2.2.2.2.1.length) (nI k) (nI T.2.2.2.2.2)) (zK S)) (dq (zN S) 12 (nI (t + 1))))
      rw [hT] at q
      dsimp only at q
      rw [if_neg c] at q
      have ht : t < 14 := by have := hG.2.2.1; omega
      obtain ⟨g1, g2, g3⟩ := good k hT
      have f := fin M' hf h7
      obtain ⟨f1, f2, f3, f4, f5, f6, f7, f8⟩ := f
      refine ⟨_, _, M', K, s, _, e, q, t + 1, H, 0, m, ⟨r1.1.q (by omega) _, r1.2.1, rfl, TR_new ht g1 g3 hs (hc k hT) g2 r1.2.2.2.1, okL_new ht g3 hs g2 r1.2.2.2.2⟩, f2, f3, f4, ⟨f5.1, fun h3 => ?_⟩, f6, f7, f8⟩
      obtain ⟨sI, tI, HI, b0, hI, hle⟩ := f5.2 h3
      obtain ⟨i1, i2, i3, i4, i5, i6⟩ := hI
      exact ⟨sI, tI, HI, b0, ⟨i1, TR_lo i2 hle, okL_lo i3 hle, i4, i5, i6⟩, by omega⟩
end JC
