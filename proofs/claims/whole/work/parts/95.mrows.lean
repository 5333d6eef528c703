/-! the model's public methods: tell, trim, feed, keep, back, check -/
section MR
variable {d : Nat} {h : AH} {nx : AN} {M M' : MS} {D N I : DT} {s sI H i j c a k n g t m b : Nat} {x y z u v A B : Int32} {a0 b0 f w gg : Nat → Int32} {K : (Nat → Int32) × (Nat → Int32)} {l1 l2 l3 l4 l5 l6 : Value} {L : LT}
theorem gX32 : gF (MX h M K D s a0) 123 9 32 = some (.ref 144) := rfl
theorem gX6 : gF (MX h M K D s a0) 123 9 6 = some (.ref 128) := rfl
theorem gX1 : gF (MX h M K D s a0) 123 9 1 = some (.ref 125) := rfl
theorem gX2 : gF (MX h M K D s a0) 123 9 2 = some (.ref 126) := rfl
theorem gX3 : gF (MX h M K D s a0) 123 9 3 = some (.int (M.1 3)) := rfl
theorem gG1 : gF (MG h M K gg) 123 9 1 = some (.ref 125) := rfl
theorem gG2 : gF (MG h M K gg) 123 9 2 = some (.ref 126) := rfl
theorem gG3 : gF (MG h M K gg) 123 9 3 = some (.int (M.1 3)) := rfl
theorem rx144 (hi : i < 60) : rX (MX h M K D s a0) 144 (nI i) = some (M.2 144 i) := rxM (by omega) (by omega) rfl (show i < 60 from hi) (by decide)
theorem wx144 (hi : i < 60) : wI (MX h M K D s a0) 144 (nI i) 0 x = some (MX h (sA M 144 (upd (M.2 144) i x)) K D s a0) := wxM (by omega) (by omega) rfl (show i < 60 from hi) (by decide)
theorem wx128 (hi : i < 96) : wI (MX h M K D s a0) 128 (nI i) 0 x = some (MX h (sA M 128 (upd (M.2 128) i x)) K D s a0) := wxM (by omega) (by omega) rfl (show i < 96 from hi) (by decide)
theorem qX33 : pF (MX h M K D s a0) 123 9 33 (.int x) = some (MX h (sF M 33 x) K D s a0) := by
  have e : pF (MX h M K D s a0) 123 9 33 (.int x) = some (put (MX h M K D s a0) 123 (mOb (upd M.1 33 x))) := rfl
  rw [e]
  unfold MX
  rw [put_MO]
  rfl
theorem qX7 : pF (MX h M K D s a0) 123 9 7 (.int x) = some (MX h (sF M 7 x) K D s a0) := by
  have e : pF (MX h M K D s a0) 123 9 7 (.int x) = some (put (MX h M K D s a0) 123 (mOb (upd M.1 7 x))) := rfl
  rw [e]
  unfold MX
  rw [put_MO]
  rfl
theorem qG3 : pF (MG h M K gg) 123 9 3 (.int x) = some (MG h (sF M 3 x) K gg) := by
  have e : pF (MG h M K gg) 123 9 3 (.int x) = some (put (MG h M K gg) 123 (mOb (upd M.1 3 x))) := rfl
  rw [e]
  unfold MG
  rw [put_MO]
  rfl
theorem Q_tell (hw : M.1 33 = nI n) (hn : n ≤ 60) : Dn (d + 1) 205 [.ref 123, .int x] (MX h M K D s a0) nx = if n = 60 then am (-1000000003) h M K D s a0 nx else am (nI (n + 1)) h (sF (sA M 144 (upd (M.2 144) n x)) 33 (nI (n + 1))) K D s a0 nx := by
  have e33 : ∀ f, (sA M 144 f).1 33 = nI n := fun f => hw
  by_cases h1 : n = 60
  · subst h1
    rw [if_pos rfl]
    simp only [n_205, e_205_0, e_205_1, e_205_4, e_205_6, e_205_9, e_205_11, gX33, hw, Option.bind_some]
    rw [if_pos (show nI 60 = 60 from rfl)]; rfl
  · rw [if_neg h1]
    have e2 : (sF (sA M 144 (upd (M.2 144) n x)) 33 (nI (n + 1))).1 33 = nI (n + 1) := upd_s M.1 33 (nI (n + 1))
    simp only [n_205, e_205_0, e_205_1, e_205_4, e_205_6, e_205_9, e_205_11, e_205_12, e_205_13, e_205_16, e_205_17, e_205_20, e_205_21, e_205_22, e_205_23i, e_205_23r, e_205_24, e_205_27, e_205_28, e_205_29, e_205_32, e_205_33, e_205_36, gX33, gX32, hw, wx144 (show n < 60 by omega), e33, qX33, nI_1, e2, Option.bind_some]
    rw [if_neg (show ¬ nI n = 60 from fun e => h1 ((nI_eq (b := 60) (by omega) (by omega)).mp e))]; rfl
theorem Q_trim : Dn (d + 2) 180 [.ref 123, .int x] (MX h M K D s a0) nx = if 0 ≤ x ∧ x ≤ M.1 7 then am x h (sF M 7 x) K D s a0 nx else am (-1000000001) h M K D s a0 nx := by
  simp only [n_180, e_180_0, e_180_1, e_180_2, e_180_3, e_180_6, e_180_9, e_180_12, e_180_14, e_180_15, e_180_16, e_180_17, e_180_20, e_180_21, cn_s, pi_if, c_min_in, gX7, qX7, Option.bind_some]
  by_cases h1 : 0 ≤ x ∧ x ≤ M.1 7
  · rw [if_pos h1, if_pos h1]; rfl
  · rw [if_neg h1, if_neg h1]; rfl
theorem bv_255 (w : BitVec 32) (n : Nat) (hn : n ≤ 24) : w.sshiftRight n &&& 255#32 = w >>> n &&& 255#32 := by
  apply BitVec.eq_of_getLsbD_eq
  intro i hi
  rw [BitVec.getLsbD_and, BitVec.getLsbD_and, BitVec.getLsbD_sshiftRight, BitVec.getLsbD_ushiftRight]
  by_cases h8 : i < 8
  · have e1 : decide (32 ≤ i) = false := by simp; omega
    have e2 : n + i < 32 := by omega
    simp [e1, e2]
  · have e : (255#32).getLsbD i = false := by
      rw [BitVec.getLsbD_ofNat, show (255 : Nat) = 2 ^ 8 - 1 from rfl, Nat.testBit_two_pow_sub_one]
      simp [h8]
    rw [e, Bool.and_false, Bool.and_false]
theorem byt_eq (x : Int32) : (x >>> (24 &&& 31)) &&& 255 = byt x 24 ∧ (x >>> (16 &&& 31)) &&& 255 = byt x 16 ∧ (x >>> (8 &&& 31)) &&& 255 = byt x 8 ∧ (x >>> (0 &&& 31)) &&& 255 = byt x 0 := by
  refine ⟨?_, ?_, ?_, ?_⟩
  · apply Int32.toBitVec_inj.mp
    exact bv_255 x.toBitVec 24 (by omega)
  · apply Int32.toBitVec_inj.mp
    exact bv_255 x.toBitVec 16 (by omega)
  · apply Int32.toBitVec_inj.mp
    exact bv_255 x.toBitVec 8 (by omega)
  · apply Int32.toBitVec_inj.mp
    exact bv_255 x.toBitVec 0 (by omega)
/-- the k-th of the twelve bytes -/
def fby (x y z : Int32) (k : Nat) : Int32 := byt (if k < 4 then x else if k < 8 then y else z) (nI (24 - 8 * (k % 4)))
theorem sh_tab : ∀ k, k < 12 → (24 : Int32) - 8 * (nI k - nI k / 4 * 4) = nI (24 - 8 * (k % 4)) := by decide +kernel
theorem byt_sh (hk : k < 12) (w : Int32) : (w >>> (nI (24 - 8 * (k % 4)) &&& 31)) &&& 255 = byt w (nI (24 - 8 * (k % 4))) := by
  have t := byt_eq w
  rcases (show k % 4 = 0 ∨ k % 4 = 1 ∨ k % 4 = 2 ∨ k % 4 = 3 by omega) with e | e | e | e <;> rw [e]
  · exact t.1
  · exact t.2.1
  · exact t.2.2.1
  · exact t.2.2.2
theorem mfeed_loop (h7 : M.1 7 = nI n) (hn : n + 12 ≤ 96) (r : Nat) : ∀ (k : Nat) (l5 : Value), nr l5 = true → k + r = 12 → Df d 179 18 [.ref 123, .int x, .int y, .int z, .int (nI k), l5] [] (MX h (sA M 128 (cpo n k (fby x y z) f)) K D s a0) nx = am (nI (n + 12)) h (sF (sA M 128 (cpo n 12 (fby x y z) f)) 7 (nI (n + 12))) K D s a0 nx := by
  induction r with
  | zero =>
    intro k l5 h5 hk
    obtain rfl : k = 12 := by omega
    have e7 : (sA M 128 (cpo n 12 (fby x y z) f)).1 7 = nI n := h7
    have e2 : (sF (sA M 128 (cpo n 12 (fby x y z) f)) 7 (nI (n + 12))).1 7 = nI (n + 12) := upd_s M.1 7 (nI (n + 12))
    rw [e_179_18]
    simp only [e_179_20, e_179_22, e_179_84, e_179_85i, e_179_85r, e_179_86, e_179_89, e_179_91, e_179_92, e_179_95, e_179_96, e_179_99, gX7, e7, show nI n + 12 = nI (n + 12) from nI_add n 12, qX7, e2, Option.bind_some]
    rw [if_pos (by decide)]
    rfl
  | succ r ih =>
    intro k l5 h5 hk
    have e7 : (sA M 128 (cpo n k (fby x y z) f)).1 7 = nI n := h7
    have wr := wx128 (h := h) (M := sA M 128 (cpo n k (fby x y z) f)) (K := K) (D := D) (s := s) (a0 := a0) (i := n + k) (x := fby x y z k) (by omega)
    rw [sA_2, sA_s, cpo_s] at wr
    have tl : ∀ w : Int32, byt w (nI (24 - 8 * (k % 4))) = fby x y z k → Df d 179 47 [.ref 123, .int x, .int y, .int z, .int (nI k), l5] [.int w] (MX h (sA M 128 (cpo n k (fby x y z) f)) K D s a0) nx = am (nI (n + 12)) h (sF (sA M 128 (cpo n 12 (fby x y z) f)) 7 (nI (n + 12))) K D s a0 nx := by
      intro w hw
      rw [e_179_47 h5]
      simp only [e_179_49, e_179_50, e_179_53, e_179_54, e_179_57, e_179_59, e_179_60, e_179_62, e_179_64, e_179_66, e_179_68, e_179_69, e_179_70, e_179_71, e_179_72, e_179_73, e_179_76, e_179_77, e_179_78, e_179_81, gX6, gX7, e7, nI_p, show ¬ (4 : Int32) = 0 by decide, if_false, sh_tab k (by omega), byt_sh (show k < 12 by omega), hw, wr, Option.bind_some, nI_1]
      exact ih (k + 1) (.int w) (nr_i _) (by omega)
    rw [e_179_18]
    simp only [e_179_20, e_179_22, e_179_25, e_179_27, e_179_28, e_179_31, e_179_32, e_179_35, e_179_37, e_179_39, e_179_42, e_179_43, e_179_46]
    rw [if_neg (show ¬ (12 : Int32) ≤ nI k from nI_ge (b := 12) (by omega) (by omega))]
    by_cases c1 : k < 4
    · rw [if_neg (show ¬ (4 : Int32) ≤ nI k from nI_ge (b := 4) c1 (by omega))]
      exact tl x (by unfold fby; rw [if_pos c1])
    rw [if_pos (show (4 : Int32) ≤ nI k from nI_le (a := 4) (by omega) (by omega))]
    by_cases c2 : k < 8
    · rw [if_neg (show ¬ (8 : Int32) ≤ nI k from nI_ge (b := 8) c2 (by omega))]
      exact tl y (by unfold fby; rw [if_neg c1, if_pos c2])
    · rw [if_pos (show (8 : Int32) ≤ nI k from nI_le (a := 8) (by omega) (by omega))]
      exact tl z (by unfold fby; rw [if_neg c1, if_neg c2])
theorem Q_feed (h7 : M.1 7 = nI n) (hn : n ≤ 96) : Dn (d + 1) 179 [.ref 123, .int x, .int y, .int z] (MX h M K D s a0) nx = if n + 12 ≤ 96 then am (nI (n + 12)) h (sF (sA M 128 (cpo n 12 (fby x y z) (M.2 128))) 7 (nI (n + 12))) K D s a0 nx else am (-1000000003) h M K D s a0 nx := by
  have e12 : nI n + 12 = nI (n + 12) := nI_add n 12
  by_cases h1 : n + 12 ≤ 96
  · rw [if_pos h1]
    have l := mfeed_loop (d := d) (h := h) (nx := nx) (K := K) (D := D) (s := s) (a0 := a0) (x := x) (y := y) (z := z) (f := M.2 128) h7 h1 12 0 .null nr_n rfl
    rw [cpo_0, sA_id] at l
    rw [← l]
    simp only [n_179, e_179_0, e_179_1, e_179_4, e_179_6, e_179_7, e_179_9, e_179_12, e_179_14, e_179_15, e_179_16n, e_179_16i, e_179_16r, gX7, h7, e12, Option.bind_some]
    rw [if_pos (show nI (n + 12) ≤ 96 from nI_le (b := 96) h1 (by omega))]; rfl
  · rw [if_neg h1]
    simp only [n_179, e_179_0, e_179_1, e_179_4, e_179_6, e_179_7, e_179_9, e_179_12, e_179_14, gX7, h7, e12, Option.bind_some]
    rw [if_neg (show ¬ nI (n + 12) ≤ 96 from nI_ge (a := 96) (by omega) (by omega))]; rfl
theorem fdB_at (B : Nat → Int32) (n : Nat) (x : Int32) (k : Nat) : fdB B n x k = if n ≤ k ∧ k < n + 4 then byt x (nI (24 - 8 * ((k - n) % 4))) else B k := by
  unfold fdB upd
  by_cases h1 : n ≤ k ∧ k < n + 4
  · rw [if_pos h1]
    rcases (show k = n ∨ k = n + 1 ∨ k = n + 2 ∨ k = n + 3 by omega) with rfl | rfl | rfl | rfl
    · rw [if_neg (by omega), if_neg (by omega), if_neg (by omega), if_pos rfl, Nat.sub_self]; rfl
    · rw [if_neg (by omega), if_neg (by omega), if_pos rfl, show n + 1 - n = 1 by omega]; rfl
    · rw [if_neg (by omega), if_pos rfl, show n + 2 - n = 2 by omega]; rfl
    · rw [if_pos rfl, show n + 3 - n = 3 by omega]; rfl
  · rw [if_neg h1, if_neg (by omega), if_neg (by omega), if_neg (by omega), if_neg (by omega)]
theorem feed_same {B : Nat → Int32} (hB : ∀ k, k < n → f k = B k) : ∀ k, k < n + 12 → cpo n 12 (fby x y z) f k = fdB (fdB (fdB B n x) (n + 4) y) (n + 8) z k := by
  intro k hk
  rw [fdB_at, fdB_at, fdB_at]
  unfold cpo
  by_cases h0 : k < n
  · rw [if_neg (by omega), if_neg (by omega), if_neg (by omega), if_neg (by omega), hB k h0]
  rw [if_pos (by omega)]
  unfold fby
  by_cases h1 : k < n + 4
  · rw [if_neg (show ¬ (n + 8 ≤ k ∧ k < n + 8 + 4) by omega), if_neg (show ¬ (n + 4 ≤ k ∧ k < n + 4 + 4) by omega), if_pos (show n ≤ k ∧ k < n + 4 by omega), if_pos (show k - n < 4 by omega)]
  · by_cases h2 : k < n + 8
    · rw [if_neg (show ¬ (n + 8 ≤ k ∧ k < n + 8 + 4) by omega), if_pos (show n + 4 ≤ k ∧ k < n + 4 + 4 by omega), if_neg (show ¬ k - n < 4 by omega), if_pos (show k - n < 8 by omega), show (k - n) % 4 = (k - (n + 4)) % 4 by omega]
    · rw [if_pos (show n + 8 ≤ k ∧ k < n + 8 + 4 by omega), if_neg (show ¬ k - n < 4 by omega), if_neg (show ¬ k - n < 8 by omega), show (k - n) % 4 = (k - (n + 8)) % 4 by omega]
end MR
