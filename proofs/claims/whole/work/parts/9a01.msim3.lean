/-! class and model read a text alike -/
def topOK (r : Int32) : List Int32 → Prop
  | [] => True
  | w :: _ => w = -11 ∨ rnk w < r
def dgP (B : Nat → Int32) (P : PS) : Prop := P.2.2.1 = 257 → ∀ k, P.1 ≤ k → k < P.2.1 → 48 ≤ B k ∧ B k ≤ 57
def nts (k : Nat) : List Int32 := List.replicate k (-10)
def PostL (lv : Nat) (r : PS) (ts ts' : Nat → Int32) (o : Nat) (pend Cm' : List Int32) : Prop := (∀ w, w ∈ pend → w ≠ -11 ∧ w ≠ -10 ∧ ¬ rnk w < nI (lv + 1)) ∧ r.2.2.2.1.map trc = pend.reverse ++ Cm' ∧ (∀ j, j < o → ts' j = ts j) ∧ (ts' o = 0 ∨ ts' o = 1) ∧ (3 ≤ lv → ts' o = ts o) ∧ ∀ l', lv ≤ l' → l' < 5 → jns l' r.2.2.1 = true → l' = 2 ∧ ¬ ts' o = 0
section YU
variable {d : Nat} {h : AH} {nx : AN} {M : MS} {K : (Nat → Int32) × (Nat → Int32)} {g cd wt ts B : Nat → Int32} {nt fr N o w n a p k lv f : Nat} {tk vl en x y q r ky : Int32} {l1 l2 l3 l4 : Value} {C W W0 Cm pend : List Int32} {P P' : PS} {Res : Option AR → Prop}
theorem rnk_pos (x : Int32) : ¬ rnk x < 0 := by
  unfold rnk
  repeat' split
  all_goals decide
theorem stl_top (ht : topOK r W) : stl r W C = (W, C) := by
  cases W with
  | nil => rfl
  | cons a W =>
    have ht : a = -11 ∨ rnk a < r := ht
    unfold stl; rw [if_pos ht]
theorem stl_pend (ht : topOK r W) : ∀ (pend C : List Int32), (∀ w, w ∈ pend → w ≠ -11 ∧ ¬ rnk w < r) → stl r (pend ++ W) C = (W, pend.reverse ++ C)
  | [], C, _ => stl_top ht
  | a :: pend, C, hp => by
    have ha := hp a (by simp)
    show stl r (a :: (pend ++ W)) C = _
    unfold stl
    rw [if_neg (fun e => e.elim ha.1 ha.2), stl_pend ht pend (a :: C) (fun w hw => hp w (by simp [hw]))]
    simp
theorem stl_6 (ht : topOK 6 W) (k : Nat) : stl 6 (nts k ++ W) C = (W, nts k ++ C) := by
  have := stl_pend ht (nts k) C (fun w hw => by
    have : w = -10 := List.eq_of_mem_replicate hw
    rw [this]; decide)
  rw [this]
  unfold nts
  rw [List.reverse_replicate]
theorem cnt_nts (k : Nat) : cnt (nts k ++ W) = cnt W + k := by
  induction k with
  | zero => rfl
  | succ k ih =>
    show cnt (nts k ++ W) + (if (-10 : Int32) = -10 then 1 else 0) = _
    rw [ih, if_pos rfl]
    omega
theorem cnt_pend : ∀ (pend : List Int32), (∀ w, w ∈ pend → w ≠ -10) → cnt (pend ++ W) = cnt W
  | [], _ => rfl
  | a :: pend, hp => by
    show cnt (pend ++ W) + (if a = -10 then 1 else 0) = _
    rw [cnt_pend pend (fun w hw => hp w (by simp [hw])), if_neg (hp a (by simp))]
    rfl
theorem nts_s (k : Nat) (l : List Int32) : nts (k + 1) ++ l = nts k ++ (-10 :: l) := by
  induction k with
  | zero => rfl
  | succ k ih =>
    show -10 :: (nts (k + 1) ++ l) = -10 :: (nts k ++ (-10 :: l))
    rw [ih]
theorem jn_facts (hl : lv < 5) (hj : jns lv q = true) : ¬ sgn q = 0 ∧ rnk (sgn q) = nI (lv + 1) ∧ trc (-q) = sgn q ∧ sgn q ≠ -10 ∧ sgn q ≠ -11 ∧ ¬ q = 41 ∧ (¬ isW q ∧ ¬ q = 258 ∧ ¬ q = 259) := by
  match lv, hl with
  | 0, _ =>
    have : q = 124 := by simpa [jns] using hj
    subst this; decide
  | 1, _ =>
    have : q = 38 := by simpa [jns] using hj
    subst this; decide
  | 2, _ =>
    have : q = 60 ∨ q = 61 ∨ q = 62 := by simpa [jns] using hj
    rcases this with rfl | rfl | rfl <;> decide
  | 3, _ =>
    have : q = 43 ∨ q = 45 := by simpa [jns] using hj
    rcases this with rfl | rfl <;> decide
  | 4, _ =>
    have : q = 42 ∨ q = 47 := by simpa [jns] using hj
    rcases this with rfl | rfl <;> decide
theorem sg_jn (hq : ¬ sgn q = 0) : ∃ l', l' < 5 ∧ jns l' q = true := by
  unfold sgn at hq
  by_cases c1 : q = 38
  · exact ⟨1, by omega, by subst c1; rfl⟩
  rw [if_neg c1] at hq
  by_cases c2 : q = 42
  · exact ⟨4, by omega, by subst c2; rfl⟩
  rw [if_neg c2] at hq
  by_cases c3 : q = 43
  · exact ⟨3, by omega, by subst c3; rfl⟩
  rw [if_neg c3] at hq
  by_cases c4 : q = 45
  · exact ⟨3, by omega, by subst c4; rfl⟩
  rw [if_neg c4] at hq
  by_cases c5 : q = 47
  · exact ⟨4, by omega, by subst c5; rfl⟩
  rw [if_neg c5] at hq
  by_cases c6 : q = 60
  · exact ⟨2, by omega, by subst c6; rfl⟩
  rw [if_neg c6] at hq
  by_cases c7 : q = 61
  · exact ⟨2, by omega, by subst c7; rfl⟩
  rw [if_neg c7] at hq
  by_cases c8 : q = 62
  · exact ⟨2, by omega, by subst c8; rfl⟩
  rw [if_neg c8] at hq
  by_cases c9 : q = 124
  · exact ⟨0, by omega, by subst c9; rfl⟩
  · rw [if_neg c9] at hq; exact absurd rfl hq
theorem skp_in {lo hi : Int32} : ∀ (f k j : Nat), k ≤ j → j < skp B n lo hi f k → lo ≤ B j ∧ B j ≤ hi
  | 0, k, j, h1, h2 => by unfold skp at h2; omega
  | f + 1, k, j, h1, h2 => by
    unfold skp at h2
    by_cases c : inb B n k lo hi
    · rw [if_pos c] at h2
      by_cases e : j = k
      · rw [e]; exact c.2
      · exact skp_in f (k + 1) j (by omega) h2
    · rw [if_neg c] at h2; omega
theorem stS_dg (hb : ∀ k, k < n → 0 ≤ B k ∧ B k ≤ 255) : dgP B (stS B n P) := by
  intro hq k h1 h2
  have hq : stQ B n P.2.1 P.2.2.1 = 257 := hq
  have h1 : stP B n P.2.1 ≤ k := h1
  have h2 : k < (stT B n (stP B n P.2.1)).1 := h2
  have hT : (stT B n (stP B n P.2.1)).2 = 257 := by
    unfold stQ at hq
    split at hq
    · exact absurd hq (by decide)
    · exact hq
  unfold stT at hT h2
  by_cases c1 : n ≤ stP B n P.2.1
  · rw [if_pos c1] at hT; exact absurd hT (show ¬ (258 : Int32) = 257 by decide)
  rw [if_neg c1] at hT h2
  by_cases c2 : inb B n (stP B n P.2.1) 97 122
  · rw [if_pos c2] at hT; exact absurd hT (show ¬ (256 : Int32) = 257 by decide)
  rw [if_neg c2] at hT h2
  by_cases c3 : inb B n (stP B n P.2.1) 48 57
  · rw [if_pos c3] at h2
    exact skp_in 96 _ k h1 h2
  · rw [if_neg c3] at hT
    exact absurd hT (byte_ne (hb _ (by omega))).2.1
theorem dig (h1 : 48 ≤ x ∧ x ≤ 57) : ∃ e, e < 10 ∧ x = nI (48 + e) := by
  obtain ⟨i, hi, rfl⟩ := idxle (m := 57) (x := x) ⟨Int32.le_trans (by decide) h1.1, h1.2⟩ (by omega)
  have : 48 ≤ i := (nI_leI (a := 48) (by omega) (by omega)).mp h1.1
  exact ⟨i - 48, by omega, by rw [show 48 + (i - 48) = i by omega]⟩
theorem numF_nI : ∀ (f k y m : Nat), (∀ j, k ≤ j → j < k + f → 48 ≤ B j ∧ B j ≤ 57) → y < m → m * 10 ^ f ≤ 100000 → ∃ z, numF B f k (nI y) = nI z ∧ z < m * 10 ^ f
  | 0, k, y, m, _, hy, _ => ⟨y, rfl, by simpa using hy⟩
  | f + 1, k, y, m, hd, hy, hm => by
    obtain ⟨e, he, hB⟩ := dig (hd k (by omega) (by omega))
    have hm2 : m * 10 * 10 ^ f ≤ 100000 := by rw [Nat.mul_assoc, ← Nat.pow_succ']; exact hm
    have hp : 0 < 10 ^ f := Nat.pow_pos (by omega)
    have hm3 : m * 10 ≤ 100000 := Nat.le_trans (Nat.le_mul_of_pos_right _ hp) hm2
    obtain ⟨z, ez, hz⟩ := numF_nI f (k + 1) (y * 10 + e) (m * 10) (fun j h1 h2 => hd j (by omega) (by omega)) (by omega) hm2
    refine ⟨z, ?_, ?_⟩
    · rw [← ez]
      show numF B f (k + 1) (nI y * 10 + B k - 48) = _
      rw [hB, show nI y * 10 = nI (y * 10) from (Int32.ofNat_mul y 10).symm, nI_add, show nI (y * 10 + (48 + e)) - 48 = nI (y * 10 + (48 + e) - 48) from nI_sub (b := 48) (by omega), show y * 10 + (48 + e) - 48 = y * 10 + e by omega]
    · rw [Nat.pow_succ', ← Nat.mul_assoc]; exact hz
theorem nmF_lt {l : List Nat} {j : Nat} : ∀ (i : Nat), nmF B p l i = some j → j < i + l.length := by
  induction l with
  | nil => intro i e; cases e
  | cons c l ih =>
    intro i e
    unfold nmF at e
    by_cases q : B p = nI c
    · rw [if_pos q] at e; cases e; simp
    · rw [if_neg q] at e
      have := ih (i + 1) e
      simp; omega
theorem nmS_len (ky : Nat) (hk : ky < 3) : (strT (nmS (nI ky))).length = nms ky := by
  match ky, hk with
  | 0, _ => rfl
  | 1, _ => rfl
  | 2, _ => rfl
/-- what a NUMBER or a NAME comes to -/
theorem pcA_ok {kn : Nat} (hk : kn < 3) (hP : wfP n P) (hdg : dgP B P) (e : pcA B n (nI kn) P = some P') : ∃ m, m < 10000 + nms kn ∧ P' = stS B n (adO P (nI m)) := by
  unfold pcA at e
  by_cases h1 : P.2.2.1 = 257
  · rw [if_pos h1] at e
    by_cases h2 : P.2.1 - P.1 ≤ 4
    · rw [if_pos h2] at e
      cases e
      obtain ⟨z, ez, hz⟩ := numF_nI (B := B) (P.2.1 - P.1) P.1 0 1 (fun j h3 h4 => hdg h1 j h3 (by omega)) (by omega) (by
        have := Nat.pow_le_pow_right (n := 10) (by omega) h2
        omega)
      have hz2 : z < 10000 := by
        have := Nat.pow_le_pow_right (n := 10) (by omega) h2
        omega
      refine ⟨z, by omega, ?_⟩
      rw [← ez]
      rfl
    · rw [if_neg h2] at e; cases e
  rw [if_neg h1] at e
  by_cases h2 : P.2.2.1 = 256
  · rw [if_pos h2] at e
    by_cases h3 : P.2.1 = P.1 + 1
    · rw [if_pos h3] at e
      cases hr : nmF B P.1 (strT (nmS (nI kn))) 0 with
      | none => rw [hr] at e; cases e
      | some j =>
        rw [hr] at e
        cases e
        have := nmF_lt 0 hr
        rw [nmS_len kn hk] at this
        exact ⟨10000 + j, by omega, by rw [show (10000 : Int32) + nI j = nI (10000 + j) from nI_add 10000 j]⟩
    · rw [if_neg h3] at e; cases e
  · rw [if_neg h2] at e; cases e
def SimL (d : Nat) (h : AH) (M : MS) (K : (Nat → Int32) × (Nat → Int32)) (g : Nat → Int32) (nx : AN) (B : Nat → Int32) (Res : Option AR → Prop) (n : Nat) (ky : Int32) (f lv : Nat) : Prop := ∀ (P : PS) (W : List Int32) (o : Nat) (ts : Nat → Int32), wfP n P → dgP B P → P.2.2.2.1.length + W.length ≤ P.1 → o ≤ 8 → cnt W ≤ 8 → topOK (nI (lv + 1)) W → (lv ≤ 2 → ts o = 0) → (ts o = 0 ∨ ts o = 1) → (6 - lv) + 6 * (8 - o) + (8 - cnt W) ≤ f → ((pL B n ky f lv o (cnt W) P).1 = false → (∀ R, Bad h M K g nx (pL B n ky f lv o (cnt W) P).2.1 R → Res R) → Run d h M K g nx B Res P (P.2.2.2.1.map trc) W o ts 1) ∧ ((pL B n ky f lv o (cnt W) P).1 = true → (∀ pend Cm' ts', PostL lv (pL B n ky f lv o (cnt W) P).2 ts ts' o pend Cm' → Run d h M K g nx B Res (pL B n ky f lv o (cnt W) P).2 Cm' (pend ++ W) o ts' 0) → Run d h M K g nx B Res P (P.2.2.2.1.map trc) W o ts 1)
def SimP (d : Nat) (h : AH) (M : MS) (K : (Nat → Int32) × (Nat → Int32)) (g : Nat → Int32) (nx : AN) (B : Nat → Int32) (Res : Option AR → Prop) (n : Nat) (ky : Int32) (f : Nat) : Prop := ∀ (P : PS) (W : List Int32) (k o : Nat) (ts : Nat → Int32), wfP n P → dgP B P → P.2.2.2.1.length + k + W.length ≤ P.1 → o ≤ 8 → cnt W + k ≤ 8 → topOK 6 W → 1 + 6 * (8 - o) + (8 - (cnt W + k)) ≤ f → ((pL B n ky f 5 o (cnt W + k) P).1 = false → (∀ R, Bad h M K g nx (pL B n ky f 5 o (cnt W + k) P).2.1 R → Res R) → Run d h M K g nx B Res P (P.2.2.2.1.map trc) (nts k ++ W) o ts 1) ∧ ((pL B n ky f 5 o (cnt W + k) P).1 = true → (∀ ts', (∀ j, j ≤ o → ts' j = ts j) → Run d h M K g nx B Res (pL B n ky f 5 o (cnt W + k) P).2 (nts k ++ (pL B n ky f 5 o (cnt W + k) P).2.2.2.2.1.map trc) W o ts' 0) → Run d h M K g nx B Res P (P.2.2.2.1.map trc) (nts k ++ W) o ts 1)
theorem sim_five (hp : SimP d h M K g nx B Res n ky f) : SimL d h M K g nx B Res n ky f 5 := by
  intro P W o ts hP hdg hl ho hd ht _ hts hf
  have := hp P W 0 o ts hP hdg (by omega) ho (by omega) ht (by omega)
  refine ⟨fun e hR => this.1 e hR, fun e hR => this.2 e (fun ts' hj => ?_)⟩
  refine hR [] _ ts' ⟨fun w hw => by simp at hw, by simp; rfl, fun j hj2 => hj j (by omega), ?_, fun _ => hj o (Nat.le_refl _), fun l' h1 h2 => by omega⟩
  rw [hj o (Nat.le_refl _)]; exact hts
end YU
