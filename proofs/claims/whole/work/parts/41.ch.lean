/-! the whole heap of the class: its state by parts -/
abbrev RT : Type := (Nat → Int32) × (Nat → Int32) × (Nat → Int32) × (Nat → Int32)
abbrev ShT : Type := Nat → (Nat → Int32) × (Nat → Int32)
abbrev SlT : Type := Nat → (Nat → Int32) × (Nat → Int32) × (Nat → Int32)
/-- now, image, thought, best, laws, room to work in, reader, waiting, own numbers, sheets, slots -/
abbrev CS : Type := DT × DT × DT × (Nat → Int32) × LT × (Nat → Int32) × RT × (Nat → Int32) × (Nat → Int32) × ShT × SlT
def dc (b : Nat) (D : DT) (a : Nat) : va_E := if a = b then dO b D.2.2 else if a = b + 1 then .inl (0, 24, .inl D.1) else if a = b + 2 then dR b else wkC (D.2.1 (a - (b + 3)))
def lc (L : LT) (K : Nat → Int32) (a : Nat) : va_E := if a = 57 then .inr (3, [.ref 58, .ref 59]) else if a = 58 then .inl (4, 14, .inr (.inr (.inr (.inr fun i => if i < 14 then some (60 + 2 * i) else none)))) else if a = 59 then .inl (0, 96, .inl K) else if (a - 60) % 2 = 0 then lwC 57 ((a - 60) / 2) (L.2 ((a - 60) / 2)) else .inl (0, 96, .inl (L.1 ((a - 60) / 2)))
def tO (x : Nat → Int32) : va_E := .inr (8, [.ref 17, .ref 30, .ref 43, .ref 56, .ref 57, .ref 88, .ref 92, .ref 93, .ref 94, .int (x 9), .int (x 10)])
def bO (x : Nat → Int32) : va_E := .inr (0, [.int (x 0), .int (x 1)])
def rO (x : Nat → Int32) : va_E := .inr (4, [.ref 89, .int (x 1), .int (x 2), .ref 91, .int (x 4), .int (x 5)])
def qO (x : Nat → Int32) : va_E := .inr (2, [.ref 90, .int (x 1), .int (x 2), .int (x 3)])
def shO (p : Nat) (x : Nat → Int32) : va_E := .inr (5, [.ref p, .int (x 1), .int (x 2)])
def slO (p : Nat) (x : Nat → Int32) : va_E := .inr (6, [.ref (p + 1), .ref (p + 2), .int (x 3), .int (x 4)])
def hc (Sh : ShT) (a : Nat) : va_E := if (a - 95) % 2 = 0 then shO (a + 1) (Sh ((a - 95) / 2)).2 else .inl (0, 24, .inl (Sh ((a - 95) / 2)).1)
def sc (Sl : SlT) (a : Nat) : va_E := if (a - 103) % 4 = 0 then slO a (Sl ((a - 103) / 4)).2.2 else if (a - 103) % 4 = 1 then wkC (Sl ((a - 103) / 4)).1 else if (a - 103) % 4 = 2 then shO (a + 1) (Sl ((a - 103) / 4)).2.2 else .inl (0, 24, .inl (Sl ((a - 103) / 4)).2.1)
def seg (l u : Nat) (f : Nat → va_E) (h : AH) : AH := fun a => if l ≤ a ∧ a < u then f a else h a
theorem seg_comm {l1 u1 l2 u2 : Nat} {f g : Nat → va_E} {h : AH} (e : u2 ≤ l1 ∨ u1 ≤ l2) : seg l1 u1 f (seg l2 u2 g h) = seg l2 u2 g (seg l1 u1 f h) := by
  funext a
  unfold seg
  by_cases e1 : l1 ≤ a ∧ a < u1
  · rw [if_pos e1, if_neg (by omega), if_pos e1]
  · rw [if_neg e1]
    by_cases e2 : l2 ≤ a ∧ a < u2
    · rw [if_pos e2, if_pos e2]
    · rw [if_neg e2, if_neg e2, if_neg e1]
theorem seg_same {l u : Nat} {f g : Nat → va_E} {h : AH} : seg l u f (seg l u g h) = seg l u f h := by
  funext a
  unfold seg
  by_cases e1 : l ≤ a ∧ a < u
  · rw [if_pos e1, if_pos e1]
  · rw [if_neg e1, if_neg e1, if_neg e1]
theorem seg_at {l u a : Nat} {f : Nat → va_E} {h : AH} (e : l ≤ a ∧ a < u) : seg l u f h a = f a := if_pos e
theorem seg_o {l u a : Nat} {f : Nat → va_E} {h : AH} (e : ¬ (l ≤ a ∧ a < u)) : seg l u f h a = h a := if_neg e
theorem put_seg {h : AH} {a : Nat} {c : va_E} : put h a c = seg a (a + 1) (fun _ => c) h := by
  funext q
  unfold put seg
  by_cases e : q = a
  · rw [if_pos e, if_pos (by omega)]
  · rw [if_neg e, if_neg (by omega)]
def CH (h : AH) (S : CS) : AH := seg 16 17 (fun _ => tO S.2.2.2.2.2.2.2.2.1) (seg 17 30 (dc 17 S.1) (seg 30 43 (dc 30 S.2.1) (seg 43 56 (dc 43 S.2.2.1) (seg 56 57 (fun _ => bO S.2.2.2.1) (seg 57 88 (lc S.2.2.2.2.1 S.2.2.2.2.2.1) (seg 88 89 (fun _ => rO S.2.2.2.2.2.2.1.1) (seg 89 90 (fun _ => qO S.2.2.2.2.2.2.1.2.1) (seg 90 91 (fun _ => .inl (0, 96, .inl S.2.2.2.2.2.2.1.2.2.1)) (seg 91 92 (fun _ => .inl (0, 96, .inl S.2.2.2.2.2.2.1.2.2.2)) (seg 92 93 (fun _ => .inl (5, 4, .inr (.inr (.inr (.inr fun i => if i < 4 then some (95 + 2 * i) else none))))) (seg 93 94 (fun _ => .inl (6, 5, .inr (.inr (.inr (.inr fun i => if i < 5 then some (103 + 4 * i) else none))))) (seg 94 95 (fun _ => .inl (0, 60, .inl S.2.2.2.2.2.2.2.1)) (seg 95 103 (hc S.2.2.2.2.2.2.2.2.2.1) (seg 103 123 (sc S.2.2.2.2.2.2.2.2.2.2) h))))))))))))))
section CC
variable {h : AH} {S : CS} {D : DT} {L : LT} {K x : Nat → Int32}
def sN (S : CS) (D : DT) : CS := (D, S.2)
def sI (S : CS) (D : DT) : CS := (S.1, D, S.2.2)
def sT (S : CS) (D : DT) : CS := (S.1, S.2.1, D, S.2.2.2)
def sB (S : CS) (x : Nat → Int32) : CS := (S.1, S.2.1, S.2.2.1, x, S.2.2.2.2)
def sL (S : CS) (L : LT) (K : Nat → Int32) : CS := (S.1, S.2.1, S.2.2.1, S.2.2.2.1, L, K, S.2.2.2.2.2.2)
def sR (S : CS) (R : RT) : CS := (S.1, S.2.1, S.2.2.1, S.2.2.2.1, S.2.2.2.2.1, S.2.2.2.2.2.1, R, S.2.2.2.2.2.2.2)
def sW (S : CS) (x : Nat → Int32) : CS := (S.1, S.2.1, S.2.2.1, S.2.2.2.1, S.2.2.2.2.1, S.2.2.2.2.2.1, S.2.2.2.2.2.2.1, x, S.2.2.2.2.2.2.2.2)
def sO (S : CS) (x : Nat → Int32) : CS := (S.1, S.2.1, S.2.2.1, S.2.2.2.1, S.2.2.2.2.1, S.2.2.2.2.2.1, S.2.2.2.2.2.2.1, S.2.2.2.2.2.2.2.1, x, S.2.2.2.2.2.2.2.2.2)
def sH (S : CS) (x : ShT) : CS := (S.1, S.2.1, S.2.2.1, S.2.2.2.1, S.2.2.2.2.1, S.2.2.2.2.2.1, S.2.2.2.2.2.2.1, S.2.2.2.2.2.2.2.1, S.2.2.2.2.2.2.2.2.1, x, S.2.2.2.2.2.2.2.2.2.2)
def sP (S : CS) (x : SlT) : CS := (S.1, S.2.1, S.2.2.1, S.2.2.2.1, S.2.2.2.2.1, S.2.2.2.2.2.1, S.2.2.2.2.2.2.1, S.2.2.2.2.2.2.2.1, S.2.2.2.2.2.2.2.2.1, S.2.2.2.2.2.2.2.2.2.1, x)
theorem putD_dc {b : Nat} : putD h b D = seg b (b + 13) (dc b D) h := by
  funext a
  by_cases e : b ≤ a ∧ a < b + 13
  · rw [seg_at e]
    unfold putD dc
    by_cases e0 : a = b
    · rw [if_pos e0, if_pos e0]
    rw [if_neg e0, if_neg e0]
    by_cases e1 : a = b + 1
    · rw [if_pos e1, if_pos e1]
    rw [if_neg e1, if_neg e1]
    by_cases e2 : a = b + 2
    · rw [if_pos e2, if_pos e2]
    rw [if_neg e2, if_neg e2, if_pos (by omega)]
  · rw [seg_o e, pD_o (by omega)]
theorem putL_lc : putL h 57 L K = seg 57 88 (lc L K) h := by
  funext a
  by_cases e : 57 ≤ a ∧ a < 88
  · rw [seg_at e]
    unfold putL lc
    by_cases e0 : a = 57
    · rw [if_pos e0, if_pos e0]
    rw [if_neg e0, if_neg e0]
    by_cases e1 : a = 58
    · rw [if_pos e1, if_pos e1]
    rw [if_neg e1, if_neg e1]
    by_cases e2 : a = 59
    · rw [if_pos e2, if_pos e2]
    rw [if_neg e2, if_neg e2, if_pos (by omega)]
  · rw [seg_o e, pL_o (by omega)]
theorem CH_N : putD (CH h S) 17 D = CH h (sN S D) := by
  rw [putD_dc]
  unfold CH
  refine (seg_comm (by decide)).trans (congrArg (seg _ _ _) ?_)
  exact seg_same
theorem CH_I : putD (CH h S) 30 D = CH h (sI S D) := by
  rw [putD_dc]
  unfold CH
  refine (seg_comm (by decide)).trans (congrArg (seg _ _ _) ?_)
  refine (seg_comm (by decide)).trans (congrArg (seg _ _ _) ?_)
  exact seg_same
theorem CH_T : putD (CH h S) 43 D = CH h (sT S D) := by
  rw [putD_dc]
  unfold CH
  refine (seg_comm (by decide)).trans (congrArg (seg _ _ _) ?_)
  refine (seg_comm (by decide)).trans (congrArg (seg _ _ _) ?_)
  refine (seg_comm (by decide)).trans (congrArg (seg _ _ _) ?_)
  exact seg_same
theorem CH_L : putL (CH h S) 57 L K = CH h (sL S L K) := by
  rw [putL_lc]
  unfold CH
  refine (seg_comm (by decide)).trans (congrArg (seg _ _ _) ?_)
  refine (seg_comm (by decide)).trans (congrArg (seg _ _ _) ?_)
  refine (seg_comm (by decide)).trans (congrArg (seg _ _ _) ?_)
  refine (seg_comm (by decide)).trans (congrArg (seg _ _ _) ?_)
  refine (seg_comm (by decide)).trans (congrArg (seg _ _ _) ?_)
  exact seg_same
theorem CH_O : put (CH h S) 16 (tO x) = CH h (sO S x) := by
  rw [put_seg]
  unfold CH
  exact seg_same
theorem CH_B : put (CH h S) 56 (bO x) = CH h (sB S x) := by
  rw [put_seg]
  unfold CH
  refine (seg_comm (by decide)).trans (congrArg (seg _ _ _) ?_)
  refine (seg_comm (by decide)).trans (congrArg (seg _ _ _) ?_)
  refine (seg_comm (by decide)).trans (congrArg (seg _ _ _) ?_)
  refine (seg_comm (by decide)).trans (congrArg (seg _ _ _) ?_)
  exact seg_same
theorem CH_r : put (CH h S) 88 (rO x) = CH h (sR S (x, S.2.2.2.2.2.2.1.2)) := by
  rw [put_seg]
  unfold CH
  refine (seg_comm (by decide)).trans (congrArg (seg _ _ _) ?_)
  refine (seg_comm (by decide)).trans (congrArg (seg _ _ _) ?_)
  refine (seg_comm (by decide)).trans (congrArg (seg _ _ _) ?_)
  refine (seg_comm (by decide)).trans (congrArg (seg _ _ _) ?_)
  refine (seg_comm (by decide)).trans (congrArg (seg _ _ _) ?_)
  refine (seg_comm (by decide)).trans (congrArg (seg _ _ _) ?_)
  exact seg_same
theorem CH_q : put (CH h S) 89 (qO x) = CH h (sR S (S.2.2.2.2.2.2.1.1, x, S.2.2.2.2.2.2.1.2.2)) := by
  rw [put_seg]
  unfold CH
  refine (seg_comm (by decide)).trans (congrArg (seg _ _ _) ?_)
  refine (seg_comm (by decide)).trans (congrArg (seg _ _ _) ?_)
  refine (seg_comm (by decide)).trans (congrArg (seg _ _ _) ?_)
  refine (seg_comm (by decide)).trans (congrArg (seg _ _ _) ?_)
  refine (seg_comm (by decide)).trans (congrArg (seg _ _ _) ?_)
  refine (seg_comm (by decide)).trans (congrArg (seg _ _ _) ?_)
  refine (seg_comm (by decide)).trans (congrArg (seg _ _ _) ?_)
  exact seg_same
theorem CH_p : put (CH h S) 90 (.inl (0, 96, .inl x)) = CH h (sR S (S.2.2.2.2.2.2.1.1, S.2.2.2.2.2.2.1.2.1, x, S.2.2.2.2.2.2.1.2.2.2)) := by
  rw [put_seg]
  unfold CH
  refine (seg_comm (by decide)).trans (congrArg (seg _ _ _) ?_)
  refine (seg_comm (by decide)).trans (congrArg (seg _ _ _) ?_)
  refine (seg_comm (by decide)).trans (congrArg (seg _ _ _) ?_)
  refine (seg_comm (by decide)).trans (congrArg (seg _ _ _) ?_)
  refine (seg_comm (by decide)).trans (congrArg (seg _ _ _) ?_)
  refine (seg_comm (by decide)).trans (congrArg (seg _ _ _) ?_)
  refine (seg_comm (by decide)).trans (congrArg (seg _ _ _) ?_)
  refine (seg_comm (by decide)).trans (congrArg (seg _ _ _) ?_)
  exact seg_same
theorem CH_y : put (CH h S) 91 (.inl (0, 96, .inl x)) = CH h (sR S (S.2.2.2.2.2.2.1.1, S.2.2.2.2.2.2.1.2.1, S.2.2.2.2.2.2.1.2.2.1, x)) := by
  rw [put_seg]
  unfold CH
  refine (seg_comm (by decide)).trans (congrArg (seg _ _ _) ?_)
  refine (seg_comm (by decide)).trans (congrArg (seg _ _ _) ?_)
  refine (seg_comm (by decide)).trans (congrArg (seg _ _ _) ?_)
  refine (seg_comm (by decide)).trans (congrArg (seg _ _ _) ?_)
  refine (seg_comm (by decide)).trans (congrArg (seg _ _ _) ?_)
  refine (seg_comm (by decide)).trans (congrArg (seg _ _ _) ?_)
  refine (seg_comm (by decide)).trans (congrArg (seg _ _ _) ?_)
  refine (seg_comm (by decide)).trans (congrArg (seg _ _ _) ?_)
  refine (seg_comm (by decide)).trans (congrArg (seg _ _ _) ?_)
  exact seg_same
theorem CH_W : put (CH h S) 94 (.inl (0, 60, .inl x)) = CH h (sW S x) := by
  rw [put_seg]
  unfold CH
  refine (seg_comm (by decide)).trans (congrArg (seg _ _ _) ?_)
  refine (seg_comm (by decide)).trans (congrArg (seg _ _ _) ?_)
  refine (seg_comm (by decide)).trans (congrArg (seg _ _ _) ?_)
  refine (seg_comm (by decide)).trans (congrArg (seg _ _ _) ?_)
  refine (seg_comm (by decide)).trans (congrArg (seg _ _ _) ?_)
  refine (seg_comm (by decide)).trans (congrArg (seg _ _ _) ?_)
  refine (seg_comm (by decide)).trans (congrArg (seg _ _ _) ?_)
  refine (seg_comm (by decide)).trans (congrArg (seg _ _ _) ?_)
  refine (seg_comm (by decide)).trans (congrArg (seg _ _ _) ?_)
  refine (seg_comm (by decide)).trans (congrArg (seg _ _ _) ?_)
  refine (seg_comm (by decide)).trans (congrArg (seg _ _ _) ?_)
  refine (seg_comm (by decide)).trans (congrArg (seg _ _ _) ?_)
  exact seg_same
theorem CH_hc {Sh : ShT} : seg 95 103 (hc Sh) (CH h S) = CH h (sH S Sh) := by
  unfold CH
  refine (seg_comm (by decide)).trans (congrArg (seg _ _ _) ?_)
  refine (seg_comm (by decide)).trans (congrArg (seg _ _ _) ?_)
  refine (seg_comm (by decide)).trans (congrArg (seg _ _ _) ?_)
  refine (seg_comm (by decide)).trans (congrArg (seg _ _ _) ?_)
  refine (seg_comm (by decide)).trans (congrArg (seg _ _ _) ?_)
  refine (seg_comm (by decide)).trans (congrArg (seg _ _ _) ?_)
  refine (seg_comm (by decide)).trans (congrArg (seg _ _ _) ?_)
  refine (seg_comm (by decide)).trans (congrArg (seg _ _ _) ?_)
  refine (seg_comm (by decide)).trans (congrArg (seg _ _ _) ?_)
  refine (seg_comm (by decide)).trans (congrArg (seg _ _ _) ?_)
  refine (seg_comm (by decide)).trans (congrArg (seg _ _ _) ?_)
  refine (seg_comm (by decide)).trans (congrArg (seg _ _ _) ?_)
  refine (seg_comm (by decide)).trans (congrArg (seg _ _ _) ?_)
  exact seg_same
theorem CH_sc {Sl : SlT} : seg 103 123 (sc Sl) (CH h S) = CH h (sP S Sl) := by
  unfold CH
  refine (seg_comm (by decide)).trans (congrArg (seg _ _ _) ?_)
  refine (seg_comm (by decide)).trans (congrArg (seg _ _ _) ?_)
  refine (seg_comm (by decide)).trans (congrArg (seg _ _ _) ?_)
  refine (seg_comm (by decide)).trans (congrArg (seg _ _ _) ?_)
  refine (seg_comm (by decide)).trans (congrArg (seg _ _ _) ?_)
  refine (seg_comm (by decide)).trans (congrArg (seg _ _ _) ?_)
  refine (seg_comm (by decide)).trans (congrArg (seg _ _ _) ?_)
  refine (seg_comm (by decide)).trans (congrArg (seg _ _ _) ?_)
  refine (seg_comm (by decide)).trans (congrArg (seg _ _ _) ?_)
  refine (seg_comm (by decide)).trans (congrArg (seg _ _ _) ?_)
  refine (seg_comm (by decide)).trans (congrArg (seg _ _ _) ?_)
  refine (seg_comm (by decide)).trans (congrArg (seg _ _ _) ?_)
  refine (seg_comm (by decide)).trans (congrArg (seg _ _ _) ?_)
  refine (seg_comm (by decide)).trans (congrArg (seg _ _ _) ?_)
  exact seg_same
/-- what stands where -/
theorem CH_16 : CH h S 16 = tO S.2.2.2.2.2.2.2.2.1 := rfl
theorem CH_56 : CH h S 56 = bO S.2.2.2.1 := rfl
theorem CH_88 : CH h S 88 = rO S.2.2.2.2.2.2.1.1 := rfl
theorem CH_89 : CH h S 89 = qO S.2.2.2.2.2.2.1.2.1 := rfl
theorem CH_90 : CH h S 90 = .inl (0, 96, .inl S.2.2.2.2.2.2.1.2.2.1) := rfl
theorem CH_91 : CH h S 91 = .inl (0, 96, .inl S.2.2.2.2.2.2.1.2.2.2) := rfl
theorem CH_94 : CH h S 94 = .inl (0, 60, .inl S.2.2.2.2.2.2.2.1) := rfl
theorem CH_out {a : Nat} (ha : a < 16 ∨ 123 ≤ a) : CH h S a = h a := by
  unfold CH
  rw [seg_o (by omega), seg_o (by omega), seg_o (by omega), seg_o (by omega), seg_o (by omega), seg_o (by omega), seg_o (by omega), seg_o (by omega), seg_o (by omega), seg_o (by omega), seg_o (by omega), seg_o (by omega), seg_o (by omega), seg_o (by omega), seg_o (by omega)]
theorem N_CH : CH h S = putD (CH h S) 17 S.1 := CH_N.symm
theorem I_CH : CH h S = putD (CH h S) 30 S.2.1 := CH_I.symm
theorem T_CH : CH h S = putD (CH h S) 43 S.2.2.1 := CH_T.symm
theorem L_CH : CH h S = putL (CH h S) 57 S.2.2.2.2.1 S.2.2.2.2.2.1 := CH_L.symm
end CC
