/-! an hour, whole -/
/-- what every desert keeps: s walkers, a cell, what each knows, whether it lives -/
def dI (D : DT) (s : Nat) : Prop := D.2.2 2 = nI s ∧ s ≤ 10 ∧ (∃ c, D.2.2 3 = nI c ∧ c < 24) ∧ (∀ i, i < s → ∃ g, D.2.1 i 3 = nI g ∧ g < 25) ∧ ∀ i, i < s → D.2.1 i 5 = 0 ∨ D.2.1 i 5 = 1
section HQ
variable {d : Nat} {h : AH} {nx : AN} {b lb i j s n c t : Nat} {L : LT} {K : Nat → Int32} {D E : DT} {x y z u : Int32} {l1 l2 l3 l4 l5 : Value} {w : Nat → Int32}
theorem dI.q (hD : dI D s) {f : Nat} (h2 : f ≠ 2) (h3 : f ≠ 3) (x : Int32) : dI (dq D f x) s := by
  obtain ⟨a1, a2, a3, a4, a5⟩ := hD
  refine ⟨?_, a2, ?_, a4, a5⟩
  · show upd D.2.2 f x 2 = _
    rw [show upd D.2.2 f x 2 = D.2.2 2 from if_neg (fun q => h2 q.symm)]; exact a1
  · obtain ⟨c, c1, c2⟩ := a3
    refine ⟨c, ?_, c2⟩
    show upd D.2.2 f x 3 = _
    rw [show upd D.2.2 f x 3 = D.2.2 3 from if_neg (fun q => h3 q.symm)]; exact c1
theorem dI.wk (hD : dI D s) (k : Nat) (h3 : w 3 = D.2.1 k 3) (h5 : w 5 = 0 ∨ w 5 = 1) : dI (dW D k w) s := by
  obtain ⟨a1, a2, a3, a4, a5⟩ := hD
  refine ⟨a1, a2, a3, fun i hi => ?_, fun i hi => ?_⟩
  · show ∃ g, updW D.2.1 k w i 3 = _ ∧ _
    by_cases e : i = k
    · subst e
      rw [show updW D.2.1 i w i = w from if_pos rfl, h3]; exact a4 i hi
    · rw [show updW D.2.1 k w i = D.2.1 i from if_neg e]; exact a4 i hi
  · show updW D.2.1 k w i 5 = 0 ∨ updW D.2.1 k w i 5 = 1
    by_cases e : i = k
    · subst e
      rw [show updW D.2.1 i w i = w from if_pos rfl]; exact h5
    · rw [show updW D.2.1 k w i = D.2.1 i from if_neg e]; exact a5 i hi
theorem dI.wt (hD : dI D s) (k : Nat) (x : Int32) : dI (dwt D k x) s := hD
theorem dI.cell (hD : dI D s) {c : Nat} (hc : c < 24) : dI (dq D 3 (nI c)) s := by
  obtain ⟨a1, a2, a3, a4, a5⟩ := hD
  exact ⟨a1, a2, ⟨c, rfl, hc⟩, a4, a5⟩
theorem wayN_cases (c g : Nat) : wayN c g = 0 ∨ wayN c g = 1 ∨ wayN c g = -1 := by
  unfold wayN
  repeat' split
  all_goals simp
theorem wellF_cases (w : Nat → Int32) (c : Nat) : ∀ n f, wellF w c n f = 0 ∨ wellF w c n f = 1 ∨ wellF w c n f = -1
  | 0, _ => by simp [wellF]
  | n + 1, f => by
    unfold wellF
    repeat' split
    all_goals first | exact wellF_cases w c n (f + 1) | simp
theorem goF_cases (w : Nat → Int32) (k : Int32) (c g : Nat) : goF w k c g = 0 ∨ goF w k c g = 1 ∨ goF w k c g = -1 := by
  unfold goF
  repeat' split
  · exact wellF_cases w c 13 0
  · exact wayN_cases c g
  · rcases wayN_cases c g with e | e | e <;> rw [e] <;> decide
  · simp
  · exact wayN_cases c g
theorem fm_way : ∀ c, c < 24 → fmC (nI c + 0) 24 = nI c ∧ fmC (nI c + 1) 24 = nI ((c + 1) % 24) ∧ fmC (nI c + -1) 24 = nI ((c + 23) % 24) := by decide +kernel
theorem fm_cell (hc : c < 24) {w : Int32} (hw : w = 0 ∨ w = 1 ∨ w = -1) : ∃ c', fmC (nI c + w) 24 = nI c' ∧ c' < 24 := by
  obtain ⟨h1, h2, h3⟩ := fm_way c hc
  rcases hw with rfl | rfl | rfl
  · exact ⟨c, h1, hc⟩
  · exact ⟨_, h2, Nat.mod_lt _ (by omega)⟩
  · exact ⟨_, h3, Nat.mod_lt _ (by omega)⟩
theorem folF_dI (hD : dI D s) (hj : j < s) : dI (folF D j) s := by
  obtain ⟨c, hc, hc24⟩ := hD.2.2.1
  have h1 : dI (dq (dW D j (upd (D.2.1 j) 4 (D.2.1 j 4 + 1))) 11 (nxz (D.2.2 11))) s := (hD.wk (w := upd (D.2.1 j) 4 (D.2.1 j 4 + 1)) j rfl (by show D.2.1 j 5 = 0 ∨ D.2.1 j 5 = 1; exact hD.2.2.2.2 j hj)).q (f := 11) (by decide) (by decide) _
  have hg := goF_cases D.1 (D.2.1 j 0) (D.2.2 3).toNatClampNeg (D.2.1 j 3).toNatClampNeg
  have hg2 : -goF D.1 (D.2.1 j 0) (D.2.2 3).toNatClampNeg (D.2.1 j 3).toNatClampNeg = 0 ∨ -goF D.1 (D.2.1 j 0) (D.2.2 3).toNatClampNeg (D.2.1 j 3).toNatClampNeg = 1 ∨ -goF D.1 (D.2.1 j 0) (D.2.2 3).toNatClampNeg (D.2.1 j 3).toNatClampNeg = -1 := by
    rcases hg with e | e | e <;> rw [e] <;> decide
  unfold folF
  dsimp only
  split
  · obtain ⟨c', e1, e2⟩ := fm_cell hc24 hg2
    rw [hc] at e1 ⊢
    rw [e1]
    exact (h1.q (f := 9) (by decide) (by decide) _).cell e2
  · obtain ⟨c', e1, e2⟩ := fm_cell hc24 hg
    rw [hc] at e1 ⊢
    rw [e1]
    exact h1.cell e2
theorem cup_3 (w : Nat → Int32) : cup w 3 = w 3 ∧ cup w 5 = w 5 ∧ cup w 0 = w 0 ∧ cup w 2 = w 2 ∧ cup w 4 = w 4 := ⟨rfl, rfl, rfl, rfl, rfl⟩
theorem drL_k : ∀ (n : Nat) (w : Nat → Int32) (l : Int32), (drL n w l).1 3 = w 3 ∧ (drL n w l).1 5 = w 5
  | 0, w, l => ⟨rfl, rfl⟩
  | n + 1, w, l => by
    unfold drL
    repeat' split
    · exact ⟨rfl, rfl⟩
    · exact ⟨rfl, rfl⟩
    · exact drL_k n (cup w) (l + -1)
theorem drF_k (w : Nat → Int32) (l : Int32) : (drF w l).1 3 = w 3 ∧ (drF w l).1 5 = w 5 := by
  have h := drL_k 99 w l
  revert h
  unfold drF
  generalize drL 99 w l = p
  intro h
  exact ⟨h.1, h.2⟩
theorem cupN_k : ∀ (n : Nat) (w : Nat → Int32), cupN n w 3 = w 3 ∧ cupN n w 5 = w 5
  | 0, w => ⟨rfl, rfl⟩
  | n + 1, w => cupN_k n (cup w)
theorem thB_k (w : Nat → Int32) (x y : Int32) : thB w x y 3 = w 3 ∧ thB w x y 5 = w 5 := by
  unfold thB
  dsimp only
  have h3 : upd w 1 (if w 1 + x < 99 then w 1 + x else 99) 3 = w 3 := rfl
  have h5 : upd w 1 (if w 1 + x < 99 then w 1 + x else 99) 5 = w 5 := rfl
  revert h3 h5
  generalize upd w 1 (if w 1 + x < 99 then w 1 + x else 99) = w1
  intro h3 h5
  generalize (if w1 2 < y then w1 2 else y) = c
  by_cases q : w1 1 < 20
  · rw [if_pos q]; exact ⟨h3, h5⟩
  · rw [if_neg q]
    have h := cupN_k c.toNatClampNeg w1
    revert h
    generalize cupN c.toNatClampNeg w1 = w2
    intro h
    exact ⟨h.1.trans h3, h.2.trans h5⟩
theorem daF_k (L : LT) (t : Nat) : ∀ (n k : Nat) (D : DT), k + n ≤ s → dI D s → dI (daF n k D) s ∧ (daF n k D).2.2 12 = D.2.2 12
  | 0, _, D, _, hD => ⟨hD, rfl⟩
  | n + 1, k, D, hk, hD => by
    unfold daF
    split
    · exact daF_k L t n (k + 1) D (by omega) hD
    · exact daF_k L t n (k + 1) _ (by omega) ((hD.wk k (drF_k _ _).1 (by rw [(drF_k _ _).2]; exact hD.2.2.2.2 k (by omega))).wt _ _)
theorem tsF_k (L : LT) (t : Nat) : ∀ (n k : Nat) (D : DT), k + n ≤ s → dI D s → dI (tsF L t n k D) s ∧ (tsF L t n k D).2.2 12 = D.2.2 12
  | 0, _, D, _, hD => ⟨hD, rfl⟩
  | n + 1, k, D, hk, hD => by
    unfold tsF
    split
    · exact tsF_k L t n (k + 1) D (by omega) hD
    · exact tsF_k L t n (k + 1) _ (by omega) (hD.wk k (thB_k _ _ _).1 (by rw [(thB_k _ _ _).2]; exact hD.2.2.2.2 k (by omega)))
theorem lsF_k : ∀ (n k : Nat) (D : DT) (x : Int32), k + n ≤ s → dI D s → dI (lsF n k (D, x)).1 s ∧ (lsF n k (D, x)).1.2.2 12 = D.2.2 12
  | 0, _, D, _, _, hD => ⟨hD, rfl⟩
  | n + 1, k, D, x, hk, hD => by
    unfold lsF
    split
    · exact lsF_k n (k + 1) D x (by omega) hD
    split
    · exact lsF_k n (k + 1) D x (by omega) hD
    · refine lsF_k n (k + 1) _ _ (by omega) ?_
      exact ((hD.wk (w := upd (D.2.1 k) 5 0) k rfl (Or.inl rfl)).q (f := 8) (by decide) (by decide) (D.2.2 8 + 1)).wk (w := upd (upd (D.2.1 k) 5 0) 2 0) k (by rw [dWq]; rfl) (Or.inl rfl)
theorem heir_k (hD : dI D s) (x : Int32) : dI (heir D s x) s ∧ (heir D s x).2.2 12 = D.2.2 12 := by
  unfold heir
  cases e : ldr D.2.1 s with
  | none => exact ⟨hD, rfl⟩
  | some j => exact ⟨hD.wk (w := upd (D.2.1 j) 2 (if D.2.1 j 2 + x < 30 then D.2.1 j 2 + x else 30)) j rfl (hD.2.2.2.2 j (ldr_lt e)), rfl⟩
/-- behind the way -/
def hrB (L : LT) (t s : Nat) (D : DT) : DT := heir (lsF s 0 (tsF L t s 0 (daF s 0 D), 0)).1 s (lsF s 0 (tsF L t s 0 (daF s 0 D), 0)).2
theorem dq_12 (X : DT) (v : Int32) : (dq X 10 v).2.2 12 = X.2.2 12 := rfl
def hrA (D : DT) : DT := dq (dq D 11 (nxz (D.2.2 11))) 4 (dr8 (nxz (D.2.2 11)) - dr8 (nxz (D.2.2 11)) / 10 * 10)
/-- AN HOUR; led or not -/
def hrF (L : LT) (t s : Nat) (led : Prop) [Decidable led] (D : DT) : DT :=
  let D1 := hrA D
  let D2 := match ldr D1.2.1 s with
    | none => D1
    | some j => hrB L t s (if led then folF D1 j else D1)
  dq D2 10 (D2.2.2 10 + 1)
theorem hrA_k (hD : dI D s) : dI (hrA D) s ∧ (hrA D).2.2 12 = D.2.2 12 := ⟨(hD.q (f := 11) (by decide) (by decide) _).q (f := 4) (by decide) (by decide) _, rfl⟩
theorem folF_12 : (folF D j).2.2 12 = D.2.2 12 := by
  unfold folF
  dsimp only
  split <;> rfl
theorem hrB_k (hD : dI D s) : dI (hrB L t s D) s ∧ (hrB L t s D).2.2 12 = D.2.2 12 := by
  have h1 := daF_k L t s 0 D (by omega) hD
  have h2 := tsF_k L t s 0 _ (by omega) h1.1
  have h3 := lsF_k s 0 _ 0 (by omega) h2.1
  have h4 := heir_k h3.1 (lsF s 0 (tsF L t s 0 (daF s 0 D), 0)).2
  unfold hrB
  exact ⟨h4.1, h4.2.trans (h3.2.trans (h2.2.trans h1.2))⟩
theorem hrF_k (led : Prop) [Decidable led] (hD : dI D s) : dI (hrF L t s led D) s ∧ (hrF L t s led D).2.2 12 = D.2.2 12 := by
  have h1 := hrA_k hD
  unfold hrF
  dsimp only
  generalize hrA D = D1 at h1 ⊢
  cases e : ldr D1.2.1 s with
  | none =>
    dsimp only
    rw [dq_12]
    exact ⟨h1.1.q (f := 10) (by decide) (by decide) _, h1.2⟩
  | some j =>
    have hj := ldr_lt e
    dsimp only
    rw [dq_12]
    by_cases hl : led
    · rw [if_pos hl]
      have h2 := hrB_k (L := L) (t := t) (folF_dI h1.1 hj)
      exact ⟨h2.1.q (f := 10) (by decide) (by decide) _, h2.2.trans (folF_12.trans h1.2)⟩
    · rw [if_neg hl]
      have h2 := hrB_k (L := L) (t := t) h1.1
      exact ⟨h2.1.q (f := 10) (by decide) (by decide) _, h2.2.trans h1.2⟩
theorem c_passHour (ho : b + 13 ≤ lb ∨ lb + 31 ≤ b) (hL : okL L t) (ht : D.2.2 12 = nI t) (hD : dI D s) (led : Prop) [Decidable led] : ∃ K', Dn (d + 6) 14 [.ref b, .ref lb, .int (pi led)] (putD (putL h lb L K) b D) nx = some (none, putD (putL h lb L K') b (hrF L t s led D), nx) := by
  have h1 := hrA_k hD
  have hs := h1.1.1
  have hs10 := h1.1.2.1
  have e10 : ¬ (10 : Int32) = 0 := by decide
  have eA : dq (dq D 11 (nxz (D.2.2 11))) 4 (dr8 (nxz (D.2.2 11)) - dr8 (nxz (D.2.2 11)) / 10 * 10) = hrA D := rfl
  cases e : ldr (hrA D).2.1 s with
  | none =>
    refine ⟨K, ?_⟩
    simp only [n_14, e_14_0, e_14_1, e_14_2, e_14_5, e_14_7, e_14_8, e_14_11, e_14_12, e_14_15, e_14_16, e_14_19, e_14_20, e_14_23, e_14_24, e_14_27, e_14_28, e_14_31, e_14_32, e_14_33, e_14_36, e_14_37, e_14_40, e_14_41i, e_14_41r, e_14_42, e_14_45, e_14_46, e_14_47, e_14_50, kD, if_true, c_draw, cn_s, e10, if_false, qD4, Option.bind_some, eA, c_leader hs hs10, e, show oi none = -1 from rfl, gD10, qD10]
    unfold hrF
    simp only [e]
  | some j =>
    have hj := ldr_lt e
    have e2 : ¬ nI j = -1 := by
      intro q
      have q : oi (some j) = -1 := q
      rw [← e] at q
      have := (oi_m1 hs10).mp q
      rw [e] at this
      cases this
    obtain ⟨g, hg1, hg2⟩ := h1.1.2.2.2.1 j hj
    obtain ⟨c, hc, hc24⟩ := h1.1.2.2.1
    have key : ∀ D2 : DT, dI D2 s → D2.2.2 12 = nI t → ∃ K', Df (d + 5) 14 27 [.ref b, .ref lb, .int (pi led)] [] (putD (putL h lb L K) b D2) nx = some (none, putD (putL h lb L K') b (dq (hrB L t s D2) 10 ((hrB L t s D2).2.2 10 + 1)), nx) := by
      intro D2 hD2 ht2
      obtain ⟨c2, hc2, hc224⟩ := hD2.2.2.1
      have g1 := daF_k L t s 0 D2 (by omega) hD2
      obtain ⟨K', e3⟩ := c_thirstAndSip (d := d) (h := h) (nx := nx) (K := K) ho hL (g1.2.trans ht2) g1.1.1 g1.1.2.1
      have g2 := tsF_k L t s 0 _ (by omega) g1.1
      refine ⟨K', ?_⟩
      simp only [e_14_27, e_14_28, e_14_31, e_14_32, e_14_33, e_14_36, e_14_37, e_14_40, e_14_41i, e_14_41r, e_14_42, e_14_45, e_14_46, e_14_47, e_14_50, kD, if_true, c_drinkAtWell hD2.1 hD2.2.1 hc2 hc224, cn_v, e3, c_loseDead g2.1.1 g2.1.2.1, gD10, qD10, Option.bind_some]
      rfl
    by_cases hl : led
    · obtain ⟨K', e4⟩ := key (folF (hrA D) j) (folF_dI h1.1 hj) (folF_12.trans (h1.2.trans ht))
      refine ⟨K', ?_⟩
      simp only [n_14, e_14_0, e_14_1, e_14_2, e_14_5, e_14_7, e_14_8, e_14_11, e_14_12, e_14_15, e_14_16, e_14_19, e_14_20, e_14_23, e_14_24, kD, if_true, c_draw, cn_s, cn_v, e10, if_false, qD4, Option.bind_some, eA, c_leader hs hs10, e, oi_s, e2, pi_if, hl, c_follow hs hs10 hc hc24 e hg1 hg2]
      unfold hrF
      simp only [e, hl, if_true]
      simp only [hl] at e4
      exact e4
    · obtain ⟨K', e4⟩ := key (hrA D) h1.1 (h1.2.trans ht)
      refine ⟨K', ?_⟩
      simp only [n_14, e_14_0, e_14_1, e_14_2, e_14_5, e_14_7, e_14_8, e_14_11, e_14_12, e_14_15, e_14_16, e_14_19, e_14_20, e_14_23, e_14_24, kD, if_true, c_draw, cn_s, cn_v, e10, if_false, qD4, Option.bind_some, eA, c_leader hs hs10, e, oi_s, e2, pi_if, hl]
      unfold hrF
      simp only [e, hl, if_false]
      simp only [hl] at e4
      exact e4
end HQ
