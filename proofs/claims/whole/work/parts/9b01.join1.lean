/-! one line of a script: what only asks, what only thinks -/
section JA
variable {d : Nat} {h0 : AH} {nx : AN} {S : CS} {M : MS} {K : (Nat → Int32) × (Nat → Int32)} {a0 : Nat → Int32} {s t H n m : Nat} {x y z u v : Int32}
theorem J_as (hR : RR S M s t H a0 n m) : Jo (d + 203) h0 77 139 [.int x, .int y] S M K s a0 nx := by
  have e := P_as (d := d + 200) (h := MX h0 M K (zN S) s a0) (nx := nx) (S := S) (x := x) (y := y) hR.cG.1.1 hR.cG.1.2.1
  have q := Q_as (d := d + 200) (h := CH h0 S) (nx := nx) (M := M) (K := K) (a0 := a0) (x := x) (y := y) hR.cG.1
  by_cases c : (0 ≤ x ∧ x < nI s) ∧ (0 ≤ y ∧ y ≤ 5)
  · rw [if_pos c] at e q
    exact ⟨_, S, M, K, s, a0, e, q, t, H, n, m, hR⟩
  · rw [if_neg c] at e q
    exact ⟨_, S, M, K, s, a0, e, q, t, H, n, m, hR⟩
theorem J_band (hR : RR S M s t H a0 n m) : Jo (d + 203) h0 86 160 [.int x] S M K s a0 nx :=
  ⟨_, S, M, K, s, a0, P_band (d := d + 201) (h := MX h0 M K (zN S) s a0) (nx := nx) (S := S) (x := x) hR.cG.1.1 hR.cG.1.2.1, Q_band (d := d + 199) (h := CH h0 S) (nx := nx) (M := M) (K := K) (a0 := a0) (x := x) hR.cG.1, t, H, n, m, hR⟩
theorem J_count (hR : RR S M s t H a0 n m) : Jo (d + 203) h0 120 210 [.int x] S M K s a0 nx := by
  have e := P_count (d := d + 202) (h := MX h0 M K (zN S) s a0) (nx := nx) (S := S) (x := x)
  have q := Q_count (d := d + 202) (h := CH h0 S) (nx := nx) (M := M) (K := K) (D := zN S) (s := s) (a0 := a0) (x := x)
  rw [hR.2.2.1.2.1, hR.2.2.2.1.1] at e
  rw [hR.2.2.1.1, hR.2.2.2.1.2.2.1] at q
  exact ⟨_, S, M, K, s, a0, e, q, t, H, n, m, hR⟩
theorem J_why (hR : RR S M s t H a0 n m) : Jo (d + 203) h0 104 194 [.int x] S M K s a0 nx :=
  ⟨_, S, M, K, s, a0, P_why (d := d + 200) (h := MX h0 M K (zN S) s a0) (nx := nx) (S := S) (x := x) hR.cG, Q_why (d := d + 201) (h := CH h0 S) (nx := nx) (M := M) (K := K) (a0 := a0) (x := x) hR.cG.1.2.1 hR.1.2.2.2.1 hR.cG.2.2.1 hR.cG.2.1, t, H, n, m, hR⟩
theorem J_textTold (hR : RR S M s t H a0 n m) : Jo (d + 203) h0 103 193 [.int x, .int y] S M K s a0 nx :=
  ⟨_, S, M, K, s, a0, P_textTold (d := d + 201) (h := MX h0 M K (zN S) s a0) (nx := nx) (S := S) (x := x) (y := y) hR.cG, Q_textTold (d := d + 201) (h := CH h0 S) (nx := nx) (M := M) (K := K) (a0 := a0) (x := x) (y := y) hR.cG.1.2.1 hR.1.2.2.2.1 hR.cG.2.2.1 hR.cG.2.1, t, H, n, m, hR⟩
theorem J_ask (hR : RR S M s t H a0 n m) : Jo (d + 203) h0 112 202 [.int x, .int y] S M K s a0 nx :=
  ⟨_, S, M, K, s, a0, P_ask (d := d + 200) (h := MX h0 M K (zN S) s a0) (nx := nx) (S := S) (x := x) (y := y), Q_ask (d := d + 200) (h := CH h0 S) (nx := nx) (M := M) (K := K) (a0 := a0) (x := x) (y := y) hR.2.2.2.2.2.2.1, t, H, n, m, hR⟩
theorem J_item (hR : RR S M s t H a0 n m) : Jo (d + 203) h0 113 203 [.int x, .int y] S M K s a0 nx :=
  ⟨_, S, M, K, s, a0, P_item (d := d + 200) (h := MX h0 M K (zN S) s a0) (nx := nx) (S := S) (x := x) (y := y) hR.zOK, Q_item (d := d + 200) (h := CH h0 S) (nx := nx) (M := M) (K := K) (a0 := a0) (x := x) (y := y) hR.2.2.2.2.2.2.1, t, H, n, m, hR⟩
theorem J_rest (hR : RR S M s t H a0 n m) : Jo (d + 203) h0 114 204 [.int x, .int y] S M K s a0 nx :=
  ⟨_, S, M, K, s, a0, P_rest (d := d + 200) (h := MX h0 M K (zN S) s a0) (nx := nx) (S := S) (x := x) (y := y), Q_rest (d := d + 200) (h := CH h0 S) (nx := nx) (M := M) (K := K) (a0 := a0) (x := x) (y := y) hR.2.2.2.2.2.2.1, t, H, n, m, hR⟩
theorem J_reads (hR : RR S M s t H a0 n m) : Jo (d + 203) h0 108 198 [.int x] S M K s a0 nx :=
  ⟨_, S, M, K, s, a0, P_reads (d := d + 200) (h := MX h0 M K (zN S) s a0) (nx := nx) (S := S) (x := x) hR.cG hR.zOK, Q_reads (d := d + 200) (h := CH h0 S) (nx := nx) (M := M) (K := K) (a0 := a0) (x := x) hR.cG.1 hR.2.2.2.2.2.1, t, H, n, m, hR⟩
theorem J_told (hR : RR S M s t H a0 n m) : Jo (d + 203) h0 75 126 [.int x, .int y] S M K s a0 nx := by
  obtain ⟨K1, e⟩ := P_told (d := d + 198) (h := MX h0 M K (zN S) s a0) (nx := nx) (S := S) (x := x) (y := y) hR.cG.2.2 hR.cG.2.1 hR.cG.1
  have hH := hR.1.2.1
  by_cases c : 0 ≤ x ∧ x < nI s
  · obtain ⟨K2, q⟩ := Q_told (d := d + 199) (h := CH h0 (sK S K1)) (nx := nx) (M := M) (K := K) (a0 := a0) (x := x) (y := y) hR.1.2.2.2.1 hR.cG.2.2 hR.1.1 (by omega) hR.cG.2.1
    rw [if_pos c] at e q
    exact ⟨_, sK S K1, M, K2, s, a0, e, q, t, H, n, m, hR⟩
  · obtain ⟨K2, q⟩ := Q_told (d := d + 199) (h := CH h0 S) (nx := nx) (M := M) (K := K) (a0 := a0) (x := x) (y := y) hR.1.2.2.2.1 hR.cG.2.2 hR.1.1 (by omega) hR.cG.2.1
    rw [if_neg c] at e q
    exact ⟨_, S, M, K, s, a0, e, q, t, H, n, m, hR⟩
theorem J_fee (hR : RR S M s t H a0 n m) : Jo (d + 203) h0 98 177 [] S M K s a0 nx := by
  obtain ⟨K1, e⟩ := P_fee (d := d + 200) (h := MX h0 M K (zN S) s a0) (nx := nx) (S := S) hR.cG
  obtain ⟨K2, q⟩ := Q_fee (d := d + 200) (h := CH h0 (sK S K1)) (nx := nx) (M := M) (K := K) (a0 := a0) hR.cG.1.2.1 hR.1.2.2.2.1 hR.cG.2.2 hR.cG.2.1
  exact ⟨_, sK S K1, M, K2, s, a0, e, q, t, H, n, m, hR⟩
theorem J_fine (hR : RR S M s t H a0 n m) : Jo (d + 203) h0 99 178 [.int x] S M K s a0 nx := by
  obtain ⟨K1, e⟩ := P_fine (d := d + 200) (h := MX h0 M K (zN S) s a0) (nx := nx) (S := S) (x := x) hR.cG
  by_cases c : 0 ≤ x ∧ x < nI s
  · obtain ⟨K2, q⟩ := Q_fine (d := d + 200) (h := CH h0 (sK S K1)) (nx := nx) (M := M) (K := K) (a0 := a0) (x := x) hR.cG.1 hR.1.2.2.2.1 hR.cG.2.2 hR.cG.2.1
    rw [if_pos c] at e q
    exact ⟨_, sK S K1, M, K2, s, a0, e, q, t, H, n, m, hR⟩
  · obtain ⟨K2, q⟩ := Q_fine (d := d + 200) (h := CH h0 S) (nx := nx) (M := M) (K := K) (a0 := a0) (x := x) hR.cG.1 hR.1.2.2.2.1 hR.cG.2.2 hR.cG.2.1
    rw [if_neg c] at e q
    exact ⟨_, S, M, K, s, a0, e, q, t, H, n, m, hR⟩
theorem J_behind (hR : RR S M s t H a0 n m) : Jo (d + 203) h0 87 164 [.int x, .int y] S M K s a0 nx := by
  obtain ⟨K1, T1, e⟩ := P_behind (d := d + 195) (h := MX h0 M K (zN S) s a0) (nx := nx) (S := S) (x := x) (y := y) hR.cG
  by_cases c : (0 ≤ x ∧ x ≤ 100) ∧ (0 ≤ y ∧ y ≤ 2 + nI s)
  · obtain ⟨K2, q⟩ := Q_behind (d := d + 196) (h := CH h0 (sT (sK S K1) T1)) (nx := nx) (K := K) (x := x) (y := y) (T := zT S) hR.mOK hR.1.2.1
    rw [if_pos c] at e q
    exact ⟨_, _, _, K2, s, a0, e, q, t, H, n, m, hR.bf⟩
  · obtain ⟨K2, q⟩ := Q_behind (d := d + 196) (h := CH h0 S) (nx := nx) (K := K) (x := x) (y := y) (T := zT S) hR.mOK hR.1.2.1
    rw [if_neg c] at e q
    exact ⟨_, S, M, K, s, a0, e, q, t, H, n, m, hR⟩
theorem J_lasts (hR : RR S M s t H a0 n m) : Jo (d + 203) h0 88 167 [] S M K s a0 nx := by
  obtain ⟨K1, T1, e⟩ := P_lasts (d := d + 195) (h := MX h0 M K (zN S) s a0) (nx := nx) (S := S) hR.cG
  obtain ⟨K2, q⟩ := Q_lasts (d := d + 197) (h := CH h0 (sT (sK S K1) T1)) (nx := nx) (K := K) (T := zT S) hR.mOK hR.1.2.1
  exact ⟨_, _, _, K2, s, a0, e, q, t, H, n, m, hR.bf⟩
theorem J_custom (hR : RR S M s t H a0 n m) : Jo (d + 203) h0 92 171 [.int x] S M K s a0 nx := by
  obtain ⟨K1, T1, e⟩ := P_custom (d := d + 195) (h := MX h0 M K (zN S) s a0) (nx := nx) (S := S) (x := x) hR.cG
  by_cases c : 1 ≤ x ∧ x ≤ 60
  · obtain ⟨K2, q⟩ := Q_custom (d := d + 195) (h := CH h0 (sT (sK S K1) T1)) (nx := nx) (K := K) (x := x) hR.mOK hR.1.2.1 (zT S) (hrs (zL S) t s x.toNatClampNeg (bec (zT S) (zN S) s))
    rw [if_pos c] at e q
    exact ⟨_, _, _, K2, s, a0, e, q, t, H, n, m, hR.bf⟩
  · obtain ⟨K2, q⟩ := Q_custom (d := d + 195) (h := CH h0 S) (nx := nx) (K := K) (x := x) hR.mOK hR.1.2.1 (zT S) (zT S)
    rw [if_neg c] at e q
    exact ⟨_, S, M, K, s, a0, e, q, t, H, n, m, hR⟩
theorem J_shown (hR : RR S M s t H a0 n m) : Jo (d + 203) h0 94 173 [.int x] S M K s a0 nx := by
  obtain ⟨K1, T1, e⟩ := P_shown (d := d + 196) (h := MX h0 M K (zN S) s a0) (nx := nx) (S := S) (x := x) hR.cG
  by_cases c : 1 ≤ x ∧ x ≤ 100
  · obtain ⟨K2, q⟩ := Q_shown (d := d + 197) (h := CH h0 (sT (sK S K1) T1)) (nx := nx) (K := K) (x := x) (T := zT S) hR.mOK hR.1.2.1
    rw [if_pos c] at e q
    exact ⟨_, _, _, K2, s, a0, e, q, t, H, n, m, hR.bf⟩
  · obtain ⟨K2, q⟩ := Q_shown (d := d + 197) (h := CH h0 S) (nx := nx) (K := K) (x := x) (T := zT S) hR.mOK hR.1.2.1
    rw [if_neg c] at e q
    exact ⟨_, S, M, K, s, a0, e, q, t, H, n, m, hR⟩
theorem J_enough (hR : RR S M s t H a0 n m) : Jo (d + 203) h0 93 172 [.int x] S M K s a0 nx := by
  obtain ⟨K1, T1, e⟩ := P_enough (d := d + 195) (h := MX h0 M K (zN S) s a0) (nx := nx) (S := S) (x := x) hR.cG
  by_cases c : 1 ≤ x ∧ x ≤ 40
  · obtain ⟨K2, q⟩ := Q_enough (d := d + 195) (h := CH h0 (sT (sK S K1) T1)) (nx := nx) (K := K) (x := x) (T := zT S) hR.mOK hR.1.2.1
    rw [if_pos c] at e q
    exact ⟨_, _, _, K2, s, a0, e, q, t, H, n, m, hR.bf⟩
  · obtain ⟨K2, q⟩ := Q_enough (d := d + 195) (h := CH h0 S) (nx := nx) (K := K) (x := x) (T := zT S) hR.mOK hR.1.2.1
    rw [if_neg c] at e q
    exact ⟨_, S, M, K, s, a0, e, q, t, H, n, m, hR⟩
theorem J_salted (hR : RR S M s t H a0 n m) : Jo (d + 203) h0 90 168 [.int x, .int y] S M K s a0 nx := by
  obtain ⟨K1, T1, B1, e⟩ := P_salted (d := d + 195) (h := MX h0 M K (zN S) s a0) (nx := nx) (S := S) (x := x) (y := y) hR.cG
  by_cases c : (1 ≤ x ∧ x ≤ 60) ∧ (0 ≤ y ∧ y ≤ 1)
  · obtain ⟨K2, q⟩ := Q_salted (d := d + 195) (h := CH h0 (sX S K1 T1 B1)) (nx := nx) (K := K) (x := x) (y := y) (T := zT S) (B := zB S) hR.mOK hR.1.2.1
    rw [if_pos c] at e q
    exact ⟨_, _, _, K2, s, a0, e, q, t, H, n, m, hR.bf⟩
  · obtain ⟨K2, q⟩ := Q_salted (d := d + 195) (h := CH h0 S) (nx := nx) (K := K) (x := x) (y := y) (T := zT S) (B := zB S) hR.mOK hR.1.2.1
    rw [if_neg c] at e q
    exact ⟨_, S, M, K, s, a0, e, q, t, H, n, m, hR⟩
theorem J_tells (hR : RR S M s t H a0 n m) : Jo (d + 203) h0 91 170 [.int x, .int y, .int z] S M K s a0 nx := by
  obtain ⟨K1, T1, B1, e⟩ := P_tells (d := d + 195) (h := MX h0 M K (zN S) s a0) (nx := nx) (S := S) (x := x) (y := y) (z := z) hR.cG
  by_cases c : (0 ≤ x ∧ x < nI s) ∧ (1 ≤ y ∧ y ≤ 40) ∧ (0 ≤ z ∧ z ≤ 1)
  · obtain ⟨K2, q⟩ := Q_tells (d := d + 195) (h := CH h0 (sX S K1 T1 B1)) (nx := nx) (K := K) (x := x) (y := y) (z := z) (T := zT S) (B := zB S) hR.mOK hR.1.2.1
    rw [if_pos c] at e q
    exact ⟨_, _, _, K2, s, a0, e, q, t, H, n, m, hR.bf⟩
  · obtain ⟨K2, q⟩ := Q_tells (d := d + 195) (h := CH h0 S) (nx := nx) (K := K) (x := x) (y := y) (z := z) (T := zT S) (B := zB S) hR.mOK hR.1.2.1
    rw [if_neg c] at e q
    exact ⟨_, S, M, K, s, a0, e, q, t, H, n, m, hR⟩
theorem J_thirsted (hR : RR S M s t H a0 n m) : Jo (d + 203) h0 95 174 [.int x, .int y, .int z] S M K s a0 nx := by
  obtain ⟨K1, T1, B1, e⟩ := P_thirsted (d := d + 195) (h := MX h0 M K (zN S) s a0) (nx := nx) (S := S) (x := x) (y := y) (z := z) hR.cG hR.zOK
  by_cases c : (0 ≤ x ∧ x ≤ 3) ∧ (0 ≤ y ∧ y < nI s) ∧ (0 ≤ z ∧ z ≤ 1)
  · rw [if_pos c] at e
    by_cases c2 : (zH S x.toNatClampNeg).2 1 = -1
    · obtain ⟨K2, q⟩ := Q_thirsted (d := d + 196) (h := CH h0 S) (nx := nx) (K := K) (x := x) (y := y) (z := z) (T := zT S) (B := zB S) hR.mOK hR.1.2.1 hR.2.2.2.2.2.1
      rw [if_pos c, if_pos c2] at q
      rw [if_pos c2] at e
      exact ⟨_, S, M, K, s, a0, e, q, t, H, n, m, hR⟩
    · obtain ⟨K2, q⟩ := Q_thirsted (d := d + 196) (h := CH h0 (sX S K1 T1 B1)) (nx := nx) (K := K) (x := x) (y := y) (z := z) (T := zT S) (B := zB S) hR.mOK hR.1.2.1 hR.2.2.2.2.2.1
      rw [if_pos c, if_neg c2] at q
      rw [if_neg c2] at e
      exact ⟨_, _, _, K2, s, a0, e, q, t, H, n, m, hR.bf⟩
  · obtain ⟨K2, q⟩ := Q_thirsted (d := d + 196) (h := CH h0 S) (nx := nx) (K := K) (x := x) (y := y) (z := z) (T := zT S) (B := zB S) hR.mOK hR.1.2.1 hR.2.2.2.2.2.1
    rw [if_neg c] at e q
    exact ⟨_, S, M, K, s, a0, e, q, t, H, n, m, hR⟩
end JA
