/-! one line of a script: what changes the desert, the sheets, the slots, the rows -/
section JB
variable {d : Nat} {h0 : AH} {nx : AN} {S : CS} {M M' : MS} {K : (Nat → Int32) × (Nat → Int32)} {a0 : Nat → Int32} {s t H n m k p g : Nat} {x y z u v : Int32} {D : DT} {L : LT}
theorem dJ.sip (hD : dJ D s H) (hm : m ≤ 9) : dJ (dq D 5 (nI m)) s H := by
  obtain ⟨a1, a2, a3, a4, a5, a6, a7⟩ := hD
  exact ⟨a1.q (by omega) (by omega) _, a2, a3, a4, ⟨m, rfl, hm⟩, a6, a7⟩
theorem dJ.join (hD : dJ D s H) (hs : s < 10) (hp : p ≤ 30) (hg : g < 25) : dJ (jn D s x (nI p) (nI g)) (s + 1) H := by
  obtain ⟨a1, a2, a3, a4, a5, a6, a7⟩ := hD
  have w0 : ∀ i, i < s → (jn D s x (nI p) (nI g)).2.1 i = D.2.1 i := fun i hi => if_neg (by omega)
  have w1 : (jn D s x (nI p) (nI g)).2.1 s = upd (upd (upd (upd (upd (upd (D.2.1 s) 0 x) 1 0) 2 (nI p)) 3 (nI g)) 4 0) 5 1 := if_pos rfl
  refine ⟨⟨rfl, by omega, a1.2.2.1, fun i hi => ?_, fun i hi => ?_⟩, fun i hi => ?_, a3, a4, a5, a6, ?_⟩
  · by_cases e : i = s
    · subst e; rw [w1]; exact ⟨g, rfl, hg⟩
    · rw [w0 i (by omega)]; exact a1.2.2.2.1 i (by omega)
  · by_cases e : i = s
    · subst e; rw [w1]; exact Or.inr rfl
    · rw [w0 i (by omega)]; exact a1.2.2.2.2 i (by omega)
  · by_cases e : i = s
    · subst e; rw [w1]; exact ⟨⟨0, rfl, by omega⟩, ⟨p, rfl, hp⟩⟩
    · rw [w0 i (by omega)]; exact a2 i (by omega)
  · show D.2.2 8 = nI (ndd (jn D s x (nI p) (nI g)).2.1 (s + 1))
    unfold ndd
    rw [w1, if_neg (show ¬ upd (upd (upd (upd (upd (upd (D.2.1 s) 0 x) 1 0) 2 (nI p)) 3 (nI g)) 4 0) 5 1 5 = 0 by show ¬ (1 : Int32) = 0; decide), ndd_ext s (fun i hi => by rw [w0 i hi]), a7]
    rfl
theorem dJ.lot (hD : dJ D s H) (hs : s < 10) : dJ (jl D s) (s + 1) H := by
  obtain ⟨z1, h1⟩ : ∃ z, nxz (D.2.2 11) = z := ⟨_, rfl⟩
  obtain ⟨z2, h2⟩ : ∃ z, nxz z1 = z := ⟨_, rfl⟩
  obtain ⟨z3, h3'⟩ : ∃ z, nxz z2 = z := ⟨_, rfl⟩
  obtain ⟨k6, e6⟩ : ∃ z, dr8 z1 - dr8 z1 / 6 * 6 = z := ⟨_, rfl⟩
  obtain ⟨k31, e31, l31⟩ := dr_rem (b := 31) (by omega) (by omega) z2
  obtain ⟨k25, e25, l25⟩ := dr_rem (b := 25) (by omega) (by omega) z3
  rw [jl_eq h1 h2 h3' e6 e31 e25]
  exact (((hD.q (by omega) z1).q (by omega) z2).q (by omega) z3).join hs (by omega) l25
theorem dJ.deal : ∀ (n s : Nat) (D : DT), dJ D s H → s + n ≤ 10 → dJ (dlF n s D) (s + n) H ∧ (dlF n s D).2.2 12 = D.2.2 12
  | 0, s, D, hD, _ => ⟨hD, rfl⟩
  | n + 1, s, D, hD, hs => by
    have := dJ.deal n (s + 1) (jl D s) (hD.lot (by omega)) (by omega)
    rw [show s + 1 + n = s + (n + 1) by omega] at this
    exact ⟨this.1, this.2.trans rfl⟩
theorem dJ.pour {f : Nat → Int32} : ∀ (n k : Nat) (q : DT × Int32), dJ q.1 s H → dJ (poF f m n k q).1 s H ∧ (poF f m n k q).1.2.2 12 = q.1.2.2 12
  | 0, k, q, hD => ⟨hD, rfl⟩
  | n + 1, k, (D, x), hD => by
    unfold poF
    by_cases c : k < m ∧ ¬ f k = -1000000005
    · rw [if_pos c]
      obtain ⟨p, e, hp⟩ := hld_bd 99 (by omega) (f k)
      have e : hld (f k) 0 99 = nI p := e
      rw [e]
      have := dJ.pour (f := f) n (k + 1) (dwt D k (nI p), if D.1 k = nI p then x else x + 1) (hD.wt hp k)
      exact ⟨this.1, this.2.trans rfl⟩
    · rw [if_neg c]
      exact dJ.pour n (k + 1) (D, x) hD
theorem J_seed (hR : RR S M s t H a0 n m) : Jo (d + 203) h0 83 149 [.int x] S M K s a0 nx :=
  ⟨_, _, M, K, s, a0, P_seed (d := d + 202) (h := MX h0 M K (zN S) s a0) (nx := nx) (S := S) (x := x), Q_seed (d := d + 201) (h := CH h0 (sN S (dq (zN S) 11 x))) (nx := nx) (M := M) (K := K) (D := zN S) (s := s) (a0 := a0) (x := x), t, H, n, m, hR.now (hR.1.1.q (by omega) x) hR.1.2.1 rfl (fun _ _ => rfl)⟩
theorem J_turns (hR : RR S M s t H a0 n m) : Jo (d + 203) h0 78 141 [.int x, .int y] S M K s a0 nx := by
  have e := P_turns (d := d + 200) (h := MX h0 M K (zN S) s a0) (nx := nx) (S := S) (x := x) (y := y) hR.cG.1.1 hR.cG.1.2.1
  have q := fun S' => Q_turns (d := d + 200) (h := CH h0 S') (nx := nx) (M := M) (K := K) (a0 := a0) (x := x) (y := y) hR.cG.1
  by_cases c : (0 ≤ x ∧ x < nI s) ∧ (0 ≤ y ∧ y ≤ 5)
  · rw [if_pos c] at e
    have q := q (sN S (dW (zN S) x.toNatClampNeg (upd ((zN S).2.1 x.toNatClampNeg) 0 y)))
    rw [if_pos c] at q
    exact ⟨_, _, M, K, s, a0, e, q, t, H, n, m, hR.now (hR.1.1.wk _ (fun h => hR.1.1.2.1 _ h) rfl rfl) hR.1.2.1 rfl (fun _ _ => rfl)⟩
  · rw [if_neg c] at e
    have q := q S
    rw [if_neg c] at q
    exact ⟨_, S, M, K, s, a0, e, q, t, H, n, m, hR⟩
theorem J_water (hR : RR S M s t H a0 n m) : Jo (d + 203) h0 80 144 [.int x, .int y] S M K s a0 nx := by
  have e := P_water (d := d + 201) (h := MX h0 M K (zN S) s a0) (nx := nx) (S := S) (x := x) (y := y)
  have q := fun S' => Q_water (d := d + 200) (h := CH h0 S') (nx := nx) (M := M) (K := K) (D := zN S) (s := s) (a0 := a0) (x := x) (y := y)
  by_cases c : (0 ≤ x ∧ x ≤ 23) ∧ (0 ≤ y ∧ y ≤ 99)
  · rw [if_pos c] at e
    have q := q (sN S (dwt (zN S) x.toNatClampNeg y))
    rw [if_pos c] at q
    obtain ⟨p, hp, rfl⟩ := idxle (m := 99) c.2 (by omega)
    exact ⟨_, _, M, K, s, a0, e, q, t, H, n, m, hR.now (hR.1.1.wt hp _) hR.1.2.1 rfl (fun _ _ => rfl)⟩
  · rw [if_neg c] at e
    have q := q S
    rw [if_neg c] at q
    exact ⟨_, S, M, K, s, a0, e, q, t, H, n, m, hR⟩
theorem J_set (hx : xR h0) (hR : RR S M s t H a0 n m) : Jo (d + 203) h0 79 143 [.int x, .int y, .int z] S M K s a0 nx := by
  have e := P_set (d := d + 201) (h := MX h0 M K (zN S) s a0) (nx := nx) (S := S) (x := x) (y := y) (z := z) (xR_X hx) hR.cG
  have q := fun S' => Q_set (d := d + 200) (h := CH h0 S') (nx := nx) (M := M) (K := K) (a0 := a0) (x := x) (y := y) (z := z) hR.cG.1
  by_cases c : (0 ≤ x ∧ x < nI s) ∧ (1 ≤ y ∧ y ≤ 3) ∧ (0 ≤ z ∧ z ≤ seHi y)
  · rw [if_pos c] at e
    have q := q (sN S (dW (zN S) x.toNatClampNeg (upd ((zN S).2.1 x.toNatClampNeg) (seQ y) z)))
    rw [if_pos c] at q
    refine ⟨_, _, M, K, s, a0, e, q, t, H, n, m, hR.now ?_ hR.1.2.1 rfl (fun _ _ => rfl)⟩
    have c3 := c.2.2
    unfold seHi at c3
    unfold seQ
    by_cases y1 : y = 1
    · rw [if_pos y1] at c3 ⊢
      obtain ⟨p, hp, rfl⟩ := idxle (m := 99) c3 (by omega)
      exact hR.1.1.th _ hp
    rw [if_neg y1] at c3 ⊢
    by_cases y2 : y = 2
    · rw [if_pos y2] at c3 ⊢
      obtain ⟨p, hp, rfl⟩ := idxle (m := 30) c3 (by omega)
      exact hR.1.1.wk _ (fun h => ⟨(hR.1.1.2.1 _ h).1, ⟨p, rfl, hp⟩⟩) rfl rfl
    · rw [if_neg y2] at c3 ⊢
      obtain ⟨p, hp, rfl⟩ := idxle (m := 24) c3 (by omega)
      exact hR.1.1.kn _ (by omega)
  · rw [if_neg c] at e
    have q := q S
    rw [if_neg c] at q
    exact ⟨_, S, M, K, s, a0, e, q, t, H, n, m, hR⟩
theorem J_rule (hx : xR h0) (hR : RR S M s t H a0 n m) : Jo (d + 203) h0 81 146 [.int x, .int y] S M K s a0 nx := by
  have e := P_rule (d := d + 201) (h := MX h0 M K (zN S) s a0) (nx := nx) (S := S) (x := x) (y := y) (xR_X hx)
  have q := fun S' => Q_rule (d := d + 201) (h := CH h0 S') (nx := nx) (M := M) (K := K) (D := zN S) (s := s) (a0 := a0) (x := x) (y := y)
  by_cases c : (0 ≤ x ∧ x ≤ 4) ∧ (ruLo x ≤ y ∧ y ≤ ruHi x)
  · rw [if_pos c] at e
    have q := q (sN S (dq (zN S) (ruQ x) y))
    rw [if_pos c] at q
    have hlo : 0 ≤ y := by
      refine Int32.le_trans ?_ c.2.1
      unfold ruLo
      repeat' split
      all_goals decide
    have c3 : 0 ≤ y ∧ y ≤ ruHi x := ⟨hlo, c.2.2⟩
    have h12 : (dq (zN S) (ruQ x) y).2.2 12 = (zN S).2.2 12 := by
      refine if_neg (fun q => ?_)
      unfold ruQ at q
      split at q
      · omega
      split at q
      · omega
      split at q
      · omega
      split at q <;> omega
    refine ⟨_, _, M, K, s, a0, e, q, t, H, n, m, hR.now ?_ hR.1.2.1 h12 (fun _ _ => rfl)⟩
    unfold ruHi at c3
    unfold ruQ
    by_cases y0 : x = 0
    · rw [if_pos y0] at c3 ⊢
      obtain ⟨p, hp, rfl⟩ := idxle (m := 9) c3 (by omega)
      exact hR.1.1.heat hp
    rw [if_neg y0] at c3 ⊢
    by_cases y1 : x = 1
    · rw [if_pos y1] at c3 ⊢
      obtain ⟨p, hp, rfl⟩ := idxle (m := 9) c3 (by omega)
      exact hR.1.1.sip hp
    rw [if_neg y1] at c3 ⊢
    by_cases y2 : x = 2
    · rw [if_pos y2]
      exact hR.1.1.q (by omega) _
    rw [if_neg y2] at c3 ⊢
    by_cases y3 : x = 3
    · rw [if_pos y3]
      exact hR.1.1.q (by omega) _
    · rw [if_neg y3] at c3 ⊢
      obtain ⟨p, hp, rfl⟩ := idxle (m := 23) c3 (by omega)
      exact hR.1.1.cell (by omega)
  · rw [if_neg c] at e
    have q := q S
    rw [if_neg c] at q
    exact ⟨_, S, M, K, s, a0, e, q, t, H, n, m, hR⟩
theorem J_walker (hR : RR S M s t H a0 n m) : Jo (d + 203) h0 72 122 [.int x, .int y, .int z] S M K s a0 nx := by
  have e := P_walker (d := d + 200) (h := MX h0 M K (zN S) s a0) (nx := nx) (S := S) (x := x) (y := y) (z := z) hR.cG.1.1 hR.cG.1.2.1
  have q := fun S' => Q_walker (d := d + 200) (h := CH h0 S') (nx := nx) (M := M) (K := K) (a0 := a0) (x := x) (y := y) (z := z) hR.cG.1
  by_cases c : (0 ≤ x ∧ x ≤ 5) ∧ (0 ≤ y ∧ y ≤ 30) ∧ (0 ≤ z ∧ z ≤ 24)
  · by_cases c2 : s = 10
    · rw [if_pos c, if_pos c2] at e
      have q := q S
      rw [if_pos c, if_pos c2] at q
      exact ⟨_, S, M, K, s, a0, e, q, t, H, n, m, hR⟩
    · rw [if_pos c, if_neg c2] at e
      have q := q (sN S (jn (zN S) s x y z))
      rw [if_pos c, if_neg c2] at q
      obtain ⟨p, hp, rfl⟩ := idxle (m := 30) c.2.1 (by omega)
      obtain ⟨g, hg, rfl⟩ := idxle (m := 24) c.2.2 (by omega)
      have hs := hR.cG.1.2.1
      exact ⟨_, _, M, K, s + 1, a0, e, q, t, H, n, m, hR.now (hR.1.1.join (by omega) hp (by omega)) hR.1.2.1 rfl (fun _ _ => rfl)⟩
  · rw [if_neg c] at e
    have q := q S
    rw [if_neg c] at q
    exact ⟨_, S, M, K, s, a0, e, q, t, H, n, m, hR⟩
theorem J_deal (hR : RR S M s t H a0 n m) : Jo (d + 203) h0 82 147 [.int x] S M K s a0 nx := by
  have e := P_deal (d := d + 199) (h := MX h0 M K (zN S) s a0) (nx := nx) (S := S) (x := x) hR.cG.1.1 hR.cG.1.2.1
  have q := fun S' => Q_deal (d := d + 200) (h := CH h0 S') (nx := nx) (M := M) (K := K) (a0 := a0) (x := x) hR.cG.1
  have hs := hR.cG.1.2.1
  by_cases c : 1 ≤ x ∧ x ≤ 10
  · rw [if_pos c] at e
    have q := q (sN S (dlF (min x.toNatClampNeg (10 - s)) s (zN S)))
    rw [if_pos c] at q
    have f := dJ.deal (min x.toNatClampNeg (10 - s)) s (zN S) hR.1.1 (by omega)
    exact ⟨_, _, M, K, _, a0, e, q, t, H, n, m, hR.now f.1 hR.1.2.1 f.2 (fun _ _ => rfl)⟩
  · rw [if_neg c] at e
    have q := q S
    rw [if_neg c] at q
    exact ⟨_, S, M, K, s, a0, e, q, t, H, n, m, hR⟩
theorem J_hours (hR : RR S M s t H a0 n m) : Jo (d + 203) h0 84 150 [.int x] S M K s a0 nx := by
  have hH := hR.1.2.1
  obtain ⟨K1, e⟩ := P_hours (d := d + 195) (h := MX h0 M K (zN S) s a0) (nx := nx) (S := S) (x := x) hR.cG.2.2 hR.cG.2.1 hR.cG.1 hR.1.1.2.2.2.2.2.1 hH
  by_cases c : 1 ≤ x ∧ x ≤ 100
  · obtain ⟨K2, q⟩ := Q_hours (d := d + 196) (h := CH h0 (sN (sK S K1) (hrs (zL S) t s (min x.toNatClampNeg (9999 - H)) (zN S)))) (nx := nx) (M := M) (K := K) (a0 := a0) (x := x) hR.2.1 hR.1.2.2.2.1 hR.cG.2.2 hR.1.1 hH hR.cG.2.1
    rw [if_pos c] at e q
    have f1 := hrs_J (L := zL S) (t := t) (min x.toNatClampNeg (9999 - H)) (zN S) H (by omega) hR.1.1
    have f2 := hrs_k (L := zL S) (t := t) (min x.toNatClampNeg (9999 - H)) (zN S) hR.1.1.1
    have hR' : RR (sK S K1) M s t H a0 n m := hR
    exact ⟨_, _, M, K2, s, a0, e, q, t, _, n, m, hR'.now f1 (by omega) f2.2 (fun _ _ => rfl)⟩
  · obtain ⟨K2, q⟩ := Q_hours (d := d + 196) (h := CH h0 S) (nx := nx) (M := M) (K := K) (a0 := a0) (x := x) hR.2.1 hR.1.2.2.2.1 hR.cG.2.2 hR.1.1 hH hR.cG.2.1
    rw [if_neg c] at e q
    exact ⟨_, S, M, K, s, a0, e, q, t, H, n, m, hR⟩
theorem J_pour (hR : RR S M s t H a0 n m) : Jo (d + 203) h0 107 197 [.int x] S M K s a0 nx := by
  have e := P_pour (d := d + 200) (h := MX h0 M K (zN S) s a0) (nx := nx) (S := S) (x := x) hR.zOK
  have q := fun S' => Q_pour (d := d + 200) (h := CH h0 S') (nx := nx) (M := M) (K := K) (D := zN S) (s := s) (a0 := a0) (x := x) hR.2.2.2.2.2.1
  by_cases c : 0 ≤ x ∧ x ≤ 3
  · by_cases c2 : (zH S x.toNatClampNeg).2 1 = -1
    · rw [if_pos c, if_pos c2] at e
      have q := q S
      rw [if_pos c, if_pos c2] at q
      exact ⟨_, S, M, K, s, a0, e, q, t, H, n, m, hR⟩
    · rw [if_pos c, if_neg c2] at e
      have q := q (sN S (poF (zH S x.toNatClampNeg).1 ((zH S x.toNatClampNeg).2 2).toNatClampNeg 24 0 (zN S, 0)).1)
      rw [if_pos c, if_neg c2] at q
      have f := dJ.pour (f := (zH S x.toNatClampNeg).1) (m := ((zH S x.toNatClampNeg).2 2).toNatClampNeg) 24 0 (zN S, 0) hR.1.1
      exact ⟨_, _, M, K, s, a0, e, q, t, H, n, m, hR.now f.1 hR.1.2.1 f.2 (fun _ _ => rfl)⟩
  · rw [if_neg c] at e
    have q := q S
    rw [if_neg c] at q
    exact ⟨_, S, M, K, s, a0, e, q, t, H, n, m, hR⟩
theorem RR.sh {Sh : ShT} {as : List Nat} (hR : RR S M s t H a0 n m) (hf : frM as M M') (ha : ∀ a, a ∈ as → a = 136 ∨ a = 137 ∨ a = 138 ∨ a = 143) (hS : rSh Sh M') : RR (sH S Sh) M' s t H a0 n m := by
  obtain ⟨r1, r2, r3, r4, r5, r6, r7, r8⟩ := hR
  have e : ∀ a, ¬ (a = 136 ∨ a = 137 ∨ a = 138 ∨ a = 143) → M'.2 a = M.2 a := fun a h => hf.2 a (fun q => h (ha a q))
  exact ⟨r1, by rw [hf.1]; exact r2, r3.fr (by rw [hf.1]) (e _ (by omega)), r4.fr (by rw [hf.1]) (e _ (by omega)), r5.fr (by rw [hf.1]) (e _ (by omega)), hS, r7.fr (e _ (by omega)) (e _ (by omega)) (e _ (by omega)) (e _ (by omega)), r8.fr (e _ (by omega)) (e _ (by omega))⟩
theorem RR.sl {Sl : SlT} {as : List Nat} (hR : RR S M s t H a0 n m) (hf : frM as M M') (ha : ∀ a, a ∈ as → a = 139 ∨ a = 140 ∨ a = 141 ∨ a = 142) (hS : rSl Sl M') : RR (sP S Sl) M' s t H a0 n m := by
  obtain ⟨r1, r2, r3, r4, r5, r6, r7, r8⟩ := hR
  have e : ∀ a, ¬ (a = 139 ∨ a = 140 ∨ a = 141 ∨ a = 142) → M'.2 a = M.2 a := fun a h => hf.2 a (fun q => h (ha a q))
  exact ⟨r1, by rw [hf.1]; exact r2, r3.fr (by rw [hf.1]) (e _ (by omega)), r4.fr (by rw [hf.1]) (e _ (by omega)), r5.fr (by rw [hf.1]) (e _ (by omega)), r6.fr (e _ (by omega)) (e _ (by omega)) (e _ (by omega)), hS, r8.fr (e _ (by omega)) (e _ (by omega))⟩
theorem J_sheet (hR : RR S M s t H a0 n m) : Jo (d + 203) h0 105 195 [.int x, .int y, .int z] S M K s a0 nx := by
  have e := P_sheet (d := d + 200) (h := MX h0 M K (zN S) s a0) (nx := nx) (S := S) (x := x) (y := y) (z := z)
  have q := fun S' => Q_sheet (d := d + 200) (h := CH h0 S') (nx := nx) (M := M) (K := K) (D := zN S) (s := s) (a0 := a0) (x := x) (y := y) (z := z) hR.2.2.2.2.2.1
  by_cases c : (0 ≤ x ∧ x ≤ 3) ∧ (-1 ≤ y ∧ y ≤ 1) ∧ (y = -1 ∨ z ≤ 24)
  · by_cases c2 : ¬ y = -1 ∧ z < 0
    · rw [if_pos c, if_pos c2] at e
      obtain ⟨M', _, q, _⟩ := q S
      rw [if_pos c, if_pos c2] at q
      exact ⟨_, S, M, K, s, a0, e, q, t, H, n, m, hR⟩
    · rw [if_pos c, if_neg c2] at e
      obtain ⟨M', hf, q, hS⟩ := q (sH S (upH (zH S) x.toNatClampNeg (cpk 24 (fun _ => 0) (zH S x.toNatClampNeg).1, upd (upd (zH S x.toNatClampNeg).2 1 y) 2 (if y = -1 then 0 else z))))
      rw [if_pos c, if_neg c2] at q
      exact ⟨_, _, M', K, s, a0, e, q, t, H, n, m, hR.sh hf (fun a ha => by simp at ha; omega) (hS c c2)⟩
  · rw [if_neg c] at e
    obtain ⟨M', _, q, _⟩ := q S
    rw [if_neg c] at q
    exact ⟨_, S, M, K, s, a0, e, q, t, H, n, m, hR⟩
theorem J_mark (hR : RR S M s t H a0 n m) : Jo (d + 203) h0 106 196 [.int x, .int y, .int z] S M K s a0 nx := by
  have e := P_mark (d := d + 200) (h := MX h0 M K (zN S) s a0) (nx := nx) (S := S) (x := x) (y := y) (z := z) hR.zOK
  have q := fun S' => Q_mark (d := d + 200) (h := CH h0 S') (nx := nx) (M := M) (K := K) (D := zN S) (s := s) (a0 := a0) (x := x) (y := y) (z := z) hR.2.2.2.2.2.1
  by_cases c : 0 ≤ x ∧ x ≤ 3
  · rw [if_pos c] at e
    obtain ⟨M', hf, q, hS⟩ := q (sH S (upH (zH S) x.toNatClampNeg (mkF (zH S x.toNatClampNeg) y z).2))
    rw [if_pos c] at q
    exact ⟨_, _, M', K, s, a0, e, q, t, H, n, m, hR.sh hf (fun a ha => by simp at ha; omega) (hS c)⟩
  · rw [if_neg c] at e
    obtain ⟨M', _, q, _⟩ := q S
    rw [if_neg c] at q
    exact ⟨_, S, M, K, s, a0, e, q, t, H, n, m, hR⟩
theorem J_copy (hR : RR S M s t H a0 n m) : Jo (d + 203) h0 109 199 [.int x, .int y, .int z, .int u, .int v] S M K s a0 nx := by
  have e := P_copy (d := d + 200) (h := MX h0 M K (zN S) s a0) (nx := nx) (S := S) (x := x) (y := y) (z := z) (u := u) (v := v) hR.zOK
  have q := fun S' => Q_copy (d := d + 200) (h := CH h0 S') (nx := nx) (M := M) (K := K) (D := zN S) (s := s) (a0 := a0) (x := x) (y := y) (z := z) (u := u) (v := v) hR.2.2.2.2.2.1
  by_cases c : (0 ≤ x ∧ x ≤ 3) ∧ (0 ≤ z ∧ z ≤ 3)
  · rw [if_pos c] at e
    cases c2 : cyF (zH S x.toNatClampNeg) (zH S z.toNatClampNeg) y u v with
    | some r =>
      rw [c2] at e
      obtain ⟨M', _, q, _⟩ := q S
      rw [if_pos c, c2] at q
      exact ⟨_, S, M, K, s, a0, e, q, t, H, n, m, hR⟩
    | none =>
      rw [c2] at e
      obtain ⟨M', hf, q, hS⟩ := q (sH S (upH (zH S) z.toNatClampNeg (va_cpy (zH S x.toNatClampNeg).1 (zH S z.toNatClampNeg).1 y.toNatClampNeg u.toNatClampNeg v.toNatClampNeg, (zH S z.toNatClampNeg).2)))
      rw [if_pos c, c2] at q
      exact ⟨_, _, M', K, s, a0, e, q, t, H, n, m, hR.sh hf (fun a ha => by simp at ha; omega) (hS c c2)⟩
  · rw [if_neg c] at e
    obtain ⟨M', _, q, _⟩ := q S
    rw [if_neg c] at q
    exact ⟨_, S, M, K, s, a0, e, q, t, H, n, m, hR⟩
theorem J_lay (hR : RR S M s t H a0 n m) : Jo (d + 203) h0 110 200 [.int x, .int y, .int z] S M K s a0 nx := by
  have e := P_lay (d := d + 200) (h := MX h0 M K (zN S) s a0) (nx := nx) (S := S) (x := x) (y := y) (z := z) hR.cG
  have q := fun S' => Q_lay (d := d + 200) (h := CH h0 S') (nx := nx) (M := M) (K := K) (a0 := a0) (x := x) (y := y) (z := z) hR.1.1 hR.2.2.2.2.2.1 hR.2.2.2.2.2.2.1
  by_cases c : ((0 ≤ x ∧ x ≤ 4) ∧ (0 ≤ y ∧ y ≤ 3)) ∧ (y = 1 → 0 ≤ z ∧ z < nI s) ∧ (y = 2 → 0 ≤ z ∧ z ≤ 3)
  · by_cases c2 : y = 2 ∧ (zH S z.toNatClampNeg).2 1 = -1
    · rw [if_pos c, if_pos c2] at e
      obtain ⟨M', _, q, _⟩ := q S
      rw [if_pos c, if_pos c2] at q
      exact ⟨_, S, M, K, s, a0, e, q, t, H, n, m, hR⟩
    · rw [if_pos c, if_neg c2] at e
      obtain ⟨M', hf, q, hS⟩ := q (sP S (upP (zP S) x.toNatClampNeg (lyF (zP S x.toNatClampNeg) y z ((zN S).2.1 z.toNatClampNeg) (zH S z.toNatClampNeg))))
      rw [if_pos c, if_neg c2] at q
      exact ⟨_, _, M', K, s, a0, e, q, t, H, n, m, hR.sl hf (fun a ha => by simp at ha; omega) (hS c c2)⟩
  · rw [if_neg c] at e
    obtain ⟨M', _, q, _⟩ := q S
    rw [if_neg c] at q
    exact ⟨_, S, M, K, s, a0, e, q, t, H, n, m, hR⟩
end JB
