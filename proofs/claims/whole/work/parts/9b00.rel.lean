/-! class and model side by side -/
def cNw (S : CS) (s t H : Nat) (a0 : Nat → Int32) : Prop := dJ (zN S) s H ∧ H ≤ 9999 ∧ (zN S).2.2 12 = nI t ∧ TR (zL S) t a0 ∧ okL (zL S) t
def cWt (S : CS) (M : MS) (m : Nat) : Prop := M.1 33 = nI m ∧ zO S 9 = nI m ∧ m ≤ 60 ∧ ∀ k, k < m → M.2 144 k = zW S k
def cTp (S : CS) (M : MS) (n : Nat) : Prop := (zR S).1 1 = nI n ∧ tpR M (zR S).2.2.2 n
def cIm (S : CS) (M : MS) (t : Nat) : Prop := M.1 3 = zO S 10 ∧ (M.1 3 ≠ 0 → ∃ sI tI HI b0, mIm M (zL S) (zI S) sI tI HI b0 ∧ tI ≤ t)
def RR (S : CS) (M : MS) (s t H : Nat) (a0 : Nat → Int32) (n m : Nat) : Prop := cNw S s t H a0 ∧ M.1 4 = 0 ∧ cWt S M m ∧ cTp S M n ∧ cIm S M t ∧ rSh (zH S) M ∧ rSl (zP S) M ∧ kyOK M
section RL
variable {d : Nat} {h h' : AH} {nx : AN} {S S' : CS} {M M' : MS} {K : (Nat → Int32) × (Nat → Int32)} {a0 a1 : Nat → Int32} {s t H n m a k : Nat} {D : DT} {x : Int32}
theorem CH_in (ha : 16 ≤ a ∧ a < 123) : CH h S a = CH h' S a := by
  unfold CH seg
  by_cases c : 16 ≤ a ∧ a < 17
  · rw [if_pos c, if_pos c]
  rw [if_neg c, if_neg c]
  by_cases c : 17 ≤ a ∧ a < 30
  · rw [if_pos c, if_pos c]
  rw [if_neg c, if_neg c]
  by_cases c : 30 ≤ a ∧ a < 43
  · rw [if_pos c, if_pos c]
  rw [if_neg c, if_neg c]
  by_cases c : 43 ≤ a ∧ a < 56
  · rw [if_pos c, if_pos c]
  rw [if_neg c, if_neg c]
  by_cases c : 56 ≤ a ∧ a < 57
  · rw [if_pos c, if_pos c]
  rw [if_neg c, if_neg c]
  by_cases c : 57 ≤ a ∧ a < 88
  · rw [if_pos c, if_pos c]
  rw [if_neg c, if_neg c]
  by_cases c : 88 ≤ a ∧ a < 89
  · rw [if_pos c, if_pos c]
  rw [if_neg c, if_neg c]
  by_cases c : 89 ≤ a ∧ a < 90
  · rw [if_pos c, if_pos c]
  rw [if_neg c, if_neg c]
  by_cases c : 90 ≤ a ∧ a < 91
  · rw [if_pos c, if_pos c]
  rw [if_neg c, if_neg c]
  by_cases c : 91 ≤ a ∧ a < 92
  · rw [if_pos c, if_pos c]
  rw [if_neg c, if_neg c]
  by_cases c : 92 ≤ a ∧ a < 93
  · rw [if_pos c, if_pos c]
  rw [if_neg c, if_neg c]
  by_cases c : 93 ≤ a ∧ a < 94
  · rw [if_pos c, if_pos c]
  rw [if_neg c, if_neg c]
  by_cases c : 94 ≤ a ∧ a < 95
  · rw [if_pos c, if_pos c]
  rw [if_neg c, if_neg c]
  by_cases c : 95 ≤ a ∧ a < 103
  · rw [if_pos c, if_pos c]
  rw [if_neg c, if_neg c, if_pos (by omega), if_pos (by omega)]
theorem MH_out (ha : a < 123 ∨ 145 ≤ a) : MH h M a = h a := by
  unfold MH
  rw [if_neg (by omega), if_neg (by omega)]
theorem CM : CH (MH h M) S = MH (CH h S) M := by
  funext a
  by_cases c : 16 ≤ a ∧ a < 123
  · rw [MH_out (by omega)]
    exact CH_in c
  · rw [CH_out (by omega)]
    unfold MH
    by_cases c1 : a = 123
    · rw [if_pos c1, if_pos c1]
    rw [if_neg c1, if_neg c1]
    by_cases c2 : 124 ≤ a ∧ a < 145
    · rw [if_pos c2, if_pos c2]
    · rw [if_neg c2, if_neg c2, CH_out (by omega)]
theorem CX : CH (MX h M K D s a0) S = MX (CH h S) M K D s a0 := CM
theorem xR_X (hx : xR h) : xR (MX h M K D s a0) := hx
theorem TR.up {L : LT} (hT : TR L t a0) (e : ∀ k, 95 ≤ k → a1 k = a0 k) : TR L t a1 := by
  intro j hj
  obtain ⟨ky, N, h1, h2, h3, h4, h5, h6, h7⟩ := hT j hj
  refine ⟨ky, N, h1, h2, h3, h4, ?_, ?_, fun k hk => ?_⟩
  · rw [e _ (by omega)]; exact h5
  · rw [e _ (by omega)]; exact h6
  · rw [e _ (by omega)]; exact h7 k hk
theorem RR.cG (hR : RR S M s t H a0 n m) : cG S s t := ⟨hR.1.1.1, hR.1.2.2.1, hR.1.2.2.2.2⟩
theorem RR.mOK (hR : RR S M s t H a0 n m) : mOK M (zL S) (zN S) s t H a0 := ⟨hR.2.1, hR.1.2.2.2.1, hR.1.2.2.2.2, hR.1.1, hR.1.2.2.1⟩
theorem RR.zOK (hR : RR S M s t H a0 n m) : zOK S := by
  refine ⟨fun i hi => ?_, fun i hi => ?_⟩
  · obtain ⟨m, e, h⟩ := (hR.2.2.2.2.2.1 i hi).2.2.2.1
    exact ⟨m, h, e⟩
  · obtain ⟨m, e, h⟩ := (hR.2.2.2.2.2.2.1 i hi).2.2.2.2.2
    exact ⟨m, h, e⟩
theorem cWt.fr (h : cWt S M m) (e1 : M'.1 33 = M.1 33) (e2 : M'.2 144 = M.2 144) : cWt S M' m := by
  unfold cWt at *
  rw [e1, e2]; exact h
theorem cTp.fr (h : cTp S M n) (e1 : M'.1 7 = M.1 7) (e2 : M'.2 128 = M.2 128) : cTp S M' n := by
  unfold cTp tpR at *
  rw [e1, e2]; exact h
theorem cIm.fr (h : cIm S M t) (e1 : M'.1 3 = M.1 3) (e2 : M'.2 125 = M.2 125) : cIm S M' t := by
  unfold cIm mIm at *
  rw [e1, e2]; exact h
theorem rSh.fr {Sh : ShT} (h : rSh Sh M) (e1 : M'.2 136 = M.2 136) (e2 : M'.2 137 = M.2 137) (e3 : M'.2 138 = M.2 138) : rSh Sh M' := by
  unfold rSh rS1 at *
  rw [e1, e2, e3]; exact h
theorem rSl.fr {Sl : SlT} (h : rSl Sl M) (e1 : M'.2 139 = M.2 139) (e2 : M'.2 140 = M.2 140) (e3 : M'.2 141 = M.2 141) (e4 : M'.2 142 = M.2 142) : rSl Sl M' := by
  unfold rSl rP1 at *
  rw [e1, e2, e3, e4]; exact h
theorem kyOK.fr (h : kyOK M) (e1 : M'.2 129 = M.2 129) (e2 : M'.2 130 = M.2 130) : kyOK M' := by
  unfold kyOK at *
  rw [e1, e2]; exact h
theorem cIm.le (h : cIm S M t) {t' : Nat} (e : t ≤ t') : cIm S M t' := ⟨h.1, fun q => by
  obtain ⟨sI, tI, HI, b0, h1, h2⟩ := h.2 q
  exact ⟨sI, tI, HI, b0, h1, by omega⟩⟩
/-- rows that nobody asks for may change -/
theorem RR.fr (hR : RR S M s t H a0 n m) (e1 : M'.1 = M.1) (e2 : ∀ a, a ≠ 126 → a ≠ 127 → a ≠ 143 → M'.2 a = M.2 a) : RR S M' s t H a0 n m := by
  obtain ⟨r1, r2, r3, r4, r5, r6, r7, r8⟩ := hR
  exact ⟨r1, by rw [e1]; exact r2, r3.fr (by rw [e1]) (e2 _ (by omega) (by omega) (by omega)), r4.fr (by rw [e1]) (e2 _ (by omega) (by omega) (by omega)), r5.fr (by rw [e1]) (e2 _ (by omega) (by omega) (by omega)), r6.fr (e2 _ (by omega) (by omega) (by omega)) (e2 _ (by omega) (by omega) (by omega)) (e2 _ (by omega) (by omega) (by omega)), r7.fr (e2 _ (by omega) (by omega) (by omega)) (e2 _ (by omega) (by omega) (by omega)) (e2 _ (by omega) (by omega) (by omega)) (e2 _ (by omega) (by omega) (by omega)), r8.fr (e2 _ (by omega) (by omega) (by omega)) (e2 _ (by omega) (by omega) (by omega))⟩
theorem RR.bf (hR : RR S M s t H a0 n m) : RR S (mBf M (zN S) s a0) s t H a0 n m := hR.fr rfl (fun a _ h _ => sA_o h)
/-- a desert that has changed -/
theorem RR.now (hR : RR S M s t H a0 n m) {s' H' : Nat} {a1 : Nat → Int32} (hD : dJ D s' H') (hH : H' ≤ 9999) (h12 : D.2.2 12 = (zN S).2.2 12) (ha : ∀ k, 95 ≤ k → a1 k = a0 k) : RR (sN S D) M s' t H' a1 n m := by
  obtain ⟨r1, r2, r3, r4, r5, r6, r7, r8⟩ := hR
  exact ⟨⟨hD, hH, h12.trans r1.2.2.1, r1.2.2.2.1.up ha, r1.2.2.2.2⟩, r2, r3, r4, r5, r6, r7, r8⟩
end RL
/-- one line of a script: both answer alike, and stay alike -/
def Jo (d : Nat) (h0 : AH) (cm mm : Nat) (as : List Value) (S : CS) (M : MS) (K : (Nat → Int32) × (Nat → Int32)) (s : Nat) (a0 : Nat → Int32) (nx : AN) : Prop := ∃ v S' M' K' s' a0', Dn d cm (.ref 16 :: as) (CH (MX h0 M K (zN S) s a0) S) nx = an v (MX h0 M K (zN S) s a0) S' nx ∧ Dn d mm (.ref 123 :: as) (MX (CH h0 S') M K (zN S) s a0) nx = am v (CH h0 S') M' K' (zN S') s' a0' nx ∧ ∃ t' H' n' m', RR S' M' s' t' H' a0' n' m'
