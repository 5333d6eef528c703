/-! the abstract machine as equations -/
noncomputable def cn (d k pc : Nat) (ls rest : List Value) : Option AR → Option AR
  | none => none
  | some (v, h, nx) => Df d k pc ls (v.toList ++ rest) h nx
theorem cn_v {d k pc : Nat} {ls rest : List Value} {h : AH} {nx : AN} : cn d k pc ls rest (some (none, h, nx)) = Df d k pc ls rest h nx := rfl
theorem cn_s {d k pc : Nat} {ls rest : List Value} {h : AH} {nx : AN} {v : Value} : cn d k pc ls rest (some (some v, h, nx)) = Df d k pc ls (v :: rest) h nx := rfl
theorem cn_n {d k pc : Nat} {ls rest : List Value} : cn d k pc ls rest none = none := rfl
def nr : Value → Bool
  | .retAddr _ => false
  | _ => true
theorem nr_i (x : Int32) : nr (.int x) = true := rfl
theorem nr_r (a : Nat) : nr (.ref a) = true := rfl
theorem nr_n : nr .null = true := rfl
def nl : Value → Bool
  | .long _ => false
  | _ => true
theorem nl_i (x : Int32) : nl (.int x) = true := rfl
theorem nl_r (a : Nat) : nl (.ref a) = true := rfl
theorem nl_n : nl .null = true := rfl
theorem nr_l (x : Int64) : nr (.long x) = true := rfl
theorem ins_of {k pc : Nat} {cc : ByteArray} {x : Instr × Nat} (h1 : mC k = cc) (h2 : decode cc pc = .ok x) : ins k pc = some x := by
  unfold ins
  rw [h1, h2]
/-- an int of an array, ours or one that nobody writes -/
def rX (h : AH) (a : Nat) (i : Int32) : Option Int32 := match rI h a i 0 with
  | some x => some x
  | none => rI h a i 20
section DE
variable {d k pc : Nat} {ls st : List Value} {h : AH} {nx : AN}
theorem D_iconst {n : Int} {v : Int32} (hi : ins k pc = some (.iconst n, 1)) (hv : Int32.ofInt n = v) : Df d k pc ls st h nx = Df d k (pc + 1) ls (.int v :: st) h nx := by subst hv; exact Df_eq d k pc ls st h nx hi
theorem D_bipush {n : Int} {v : Int32} (hi : ins k pc = some (.bipush n, 2)) (hv : (Int8.ofInt n).toInt32 = v) : Df d k pc ls st h nx = Df d k (pc + 2) ls (.int v :: st) h nx := by subst hv; exact Df_eq d k pc ls st h nx hi
theorem D_sipush {n : Int} {v : Int32} (hi : ins k pc = some (.sipush n, 3)) (hv : (Int16.ofInt n).toInt32 = v) : Df d k pc ls st h nx = Df d k (pc + 3) ls (.int v :: st) h nx := by subst hv; exact Df_eq d k pc ls st h nx hi
theorem D_lconst {n : Fin 2} {v : Int64} (hi : ins k pc = some (.lconst n, 1)) (hv : Int64.ofNat (n : Nat) = v) : Df d k pc ls st h nx = Df d k (pc + 1) ls (.long v :: st) h nx := by subst hv; exact Df_eq d k pc ls st h nx hi
theorem D_ldc {ix o : Nat} {v : Int32} (hi : ins k pc = some (.ldc ix, 2)) (ho : mO k = o) (hk : lkK o ix = some v) : Df d k pc ls st h nx = Df d k (pc + 2) ls (.int v :: st) h nx := by
  rw [Df_eq d k pc ls st h nx hi]
  simp only [am_do, ho, hk]
  rfl
theorem D_ldcs {ix o a : Nat} (hi : ins k pc = some (.ldc ix, 2)) (ho : mO k = o) (hk : lkK o ix = none) (hs : lkS o ix = some a) : Df d k pc ls st h nx = Df d k (pc + 2) ls (.ref a :: st) h nx := by
  rw [Df_eq d k pc ls st h nx hi]
  simp only [am_do, ho, hk, hs]
  rfl
theorem D_ldc_w {ix o : Nat} {v : Int32} (hi : ins k pc = some (.ldc_w ix, 3)) (ho : mO k = o) (hk : lkK o ix = some v) : Df d k pc ls st h nx = Df d k (pc + 3) ls (.int v :: st) h nx := by
  rw [Df_eq d k pc ls st h nx hi]
  simp only [am_do, ho, hk]
  rfl
theorem D_iload_n {q : Fin 4} {x : Int32} (hi : ins k pc = some (.iload_n q, 1)) (hl : ls[(q : Nat)]? = some (.int x)) : Df d k pc ls st h nx = Df d k (pc + 1) ls (.int x :: st) h nx := by
  rw [Df_eq d k pc ls st h nx hi]
  simp only [am_do, ld, hl]
  rfl
theorem D_iload {q : Nat} {x : Int32} (hi : ins k pc = some (.iload q, 2)) (hl : ls[q]? = some (.int x)) : Df d k pc ls st h nx = Df d k (pc + 2) ls (.int x :: st) h nx := by
  rw [Df_eq d k pc ls st h nx hi]
  simp only [am_do, ld, hl]
  rfl
theorem D_aload_n {q : Fin 4} {x : Nat} (hi : ins k pc = some (.aload_n q, 1)) (hl : ls[(q : Nat)]? = some (.ref x)) : Df d k pc ls st h nx = Df d k (pc + 1) ls (.ref x :: st) h nx := by
  rw [Df_eq d k pc ls st h nx hi]
  simp only [am_do, ld, hl]
  rfl
theorem D_aload {q : Nat} {x : Nat} (hi : ins k pc = some (.aload q, 2)) (hl : ls[q]? = some (.ref x)) : Df d k pc ls st h nx = Df d k (pc + 2) ls (.ref x :: st) h nx := by
  rw [Df_eq d k pc ls st h nx hi]
  simp only [am_do, ld, hl]
  rfl
theorem D_lload {q : Nat} {x : Int64} (hi : ins k pc = some (.lload q, 2)) (hl : ls[q]? = some (.long x)) : Df d k pc ls st h nx = Df d k (pc + 2) ls (.long x :: st) h nx := by
  rw [Df_eq d k pc ls st h nx hi]
  simp only [am_do, ld, hl]
  rfl
theorem st1_eq {q : Nat} {w v : Value} (hl : ls[q]? = some w) (hw : nr w = true) : st1 ls q v = some (ls.set q v) := by
  unfold st1
  rw [hl]
  cases w <;> first | rfl | cases hw
theorem D_istore_n {q : Fin 4} {x : Int32} {w : Value} {ls' : List Value} (hi : ins k pc = some (.istore_n q, 1)) (hl : ls[(q : Nat)]? = some w) (hw : nr w = true) (hs : ls.set q (.int x) = ls') : Df d k pc ls (.int x :: st) h nx = Df d k (pc + 1) ls' st h nx := by
  rw [Df_eq d k pc ls _ h nx hi]
  simp only [am_do, i1, st1_eq hl hw, hs]
  rfl
theorem D_istore {q : Nat} {x : Int32} {w : Value} {ls' : List Value} (hi : ins k pc = some (.istore q, 2)) (hl : ls[q]? = some w) (hw : nr w = true) (hs : ls.set q (.int x) = ls') : Df d k pc ls (.int x :: st) h nx = Df d k (pc + 2) ls' st h nx := by
  rw [Df_eq d k pc ls _ h nx hi]
  simp only [am_do, i1, st1_eq hl hw, hs]
  rfl
theorem D_astore_n {q : Fin 4} {x : Nat} {w : Value} {ls' : List Value} (hi : ins k pc = some (.astore_n q, 1)) (hl : ls[(q : Nat)]? = some w) (hw : nr w = true) (hs : ls.set q (.ref x) = ls') : Df d k pc ls (.ref x :: st) h nx = Df d k (pc + 1) ls' st h nx := by
  rw [Df_eq d k pc ls _ h nx hi]
  simp only [am_do, st1_eq hl hw, hs]
  rfl
theorem D_astore {q : Nat} {x : Nat} {w : Value} {ls' : List Value} (hi : ins k pc = some (.astore q, 2)) (hl : ls[q]? = some w) (hw : nr w = true) (hs : ls.set q (.ref x) = ls') : Df d k pc ls (.ref x :: st) h nx = Df d k (pc + 2) ls' st h nx := by
  rw [Df_eq d k pc ls _ h nx hi]
  simp only [am_do, st1_eq hl hw, hs]
  rfl
theorem D_lstore {q : Nat} {x : Int64} {w w2 : Value} {ls' : List Value} (hi : ins k pc = some (.lstore q, 2)) (hl : ls[q]? = some w) (hl2 : ls[q + 1]? = some w2) (hw : nr w = true) (hw2 : nl w2 = true) (hs : (ls.set q (.long x)).set (q + 1) (.retAddr 0) = ls') : Df d k pc ls (.long x :: st) h nx = Df d k (pc + 2) ls' st h nx := by
  rw [Df_eq d k pc ls _ h nx hi]
  have e : st2 ls q (.long x) = some ls' := by
    unfold st2
    rw [hl, hl2, hs]
    cases w <;> cases w2 <;> first | rfl | (cases hw; done) | (cases hw2; done)
  simp only [am_do, e]
  rfl
theorem D_iinc {q : Nat} {n : Int} {x v : Int32} {ls' : List Value} (hi : ins k pc = some (.iinc q n, 3)) (hl : ls[q]? = some (.int x)) (hv : Int32.ofInt n = v) (hs : ls.set q (.int (x + v)) = ls') : Df d k pc ls st h nx = Df d k (pc + 3) ls' st h nx := by
  rw [Df_eq d k pc ls _ h nx hi]
  subst hv
  subst hs
  simp only [am_do, hl]
  rfl
theorem D_iadd {x y : Int32} (hi : ins k pc = some (.iadd, 1)) : Df d k pc ls (.int y :: .int x :: st) h nx = Df d k (pc + 1) ls (.int (x + y) :: st) h nx := Df_eq d k pc ls _ h nx hi
theorem D_isub {x y : Int32} (hi : ins k pc = some (.isub, 1)) : Df d k pc ls (.int y :: .int x :: st) h nx = Df d k (pc + 1) ls (.int (x - y) :: st) h nx := Df_eq d k pc ls _ h nx hi
theorem D_imul {x y : Int32} (hi : ins k pc = some (.imul, 1)) : Df d k pc ls (.int y :: .int x :: st) h nx = Df d k (pc + 1) ls (.int (x * y) :: st) h nx := Df_eq d k pc ls _ h nx hi
theorem D_iand {x y : Int32} (hi : ins k pc = some (.iand, 1)) : Df d k pc ls (.int y :: .int x :: st) h nx = Df d k (pc + 1) ls (.int (x &&& y) :: st) h nx := Df_eq d k pc ls _ h nx hi
theorem D_ior {x y : Int32} (hi : ins k pc = some (.ior, 1)) : Df d k pc ls (.int y :: .int x :: st) h nx = Df d k (pc + 1) ls (.int (x ||| y) :: st) h nx := Df_eq d k pc ls _ h nx hi
theorem D_ixor {x y : Int32} (hi : ins k pc = some (.ixor, 1)) : Df d k pc ls (.int y :: .int x :: st) h nx = Df d k (pc + 1) ls (.int (x ^^^ y) :: st) h nx := Df_eq d k pc ls _ h nx hi
theorem D_ishl {x y : Int32} (hi : ins k pc = some (.ishl, 1)) : Df d k pc ls (.int y :: .int x :: st) h nx = Df d k (pc + 1) ls (.int (x <<< (y &&& 31)) :: st) h nx := Df_eq d k pc ls _ h nx hi
theorem D_ishr {x y : Int32} (hi : ins k pc = some (.ishr, 1)) : Df d k pc ls (.int y :: .int x :: st) h nx = Df d k (pc + 1) ls (.int (x >>> (y &&& 31)) :: st) h nx := Df_eq d k pc ls _ h nx hi
theorem D_iushr {x y : Int32} (hi : ins k pc = some (.iushr, 1)) : Df d k pc ls (.int y :: .int x :: st) h nx = Df d k (pc + 1) ls (.int (x.toUInt32 >>> (y.toUInt32 &&& Int32.toUInt32 31)).toInt32 :: st) h nx := Df_eq d k pc ls _ h nx hi
theorem D_idiv {x y : Int32} (hi : ins k pc = some (.idiv, 1)) : Df d k pc ls (.int y :: .int x :: st) h nx = if y = 0 then none else Df d k (pc + 1) ls (.int (x / y) :: st) h nx := by
  rw [Df_eq d k pc ls _ h nx hi]
  simp only [am_do, i2]
  by_cases q : y = 0
  · simp only [q]; rfl
  · simp only [q]; rfl
theorem D_irem {x y : Int32} (hi : ins k pc = some (.irem, 1)) : Df d k pc ls (.int y :: .int x :: st) h nx = if y = 0 then none else Df d k (pc + 1) ls (.int (x - x / y * y) :: st) h nx := by
  rw [Df_eq d k pc ls _ h nx hi]
  simp only [am_do, i2]
  by_cases q : y = 0
  · simp only [q]; rfl
  · simp only [q]; rfl
theorem D_ineg {x : Int32} (hi : ins k pc = some (.ineg, 1)) : Df d k pc ls (.int x :: st) h nx = Df d k (pc + 1) ls (.int (-x) :: st) h nx := Df_eq d k pc ls _ h nx hi
theorem D_i2l {x : Int32} (hi : ins k pc = some (.i2l, 1)) : Df d k pc ls (.int x :: st) h nx = Df d k (pc + 1) ls (.long x.toInt64 :: st) h nx := Df_eq d k pc ls _ h nx hi
theorem D_i2s {x : Int32} (hi : ins k pc = some (.i2s, 1)) : Df d k pc ls (.int x :: st) h nx = Df d k (pc + 1) ls (.int x.toInt16.toInt32 :: st) h nx := Df_eq d k pc ls _ h nx hi
theorem D_l2i {x : Int64} (hi : ins k pc = some (.l2i, 1)) : Df d k pc ls (.long x :: st) h nx = Df d k (pc + 1) ls (.int x.toInt32 :: st) h nx := Df_eq d k pc ls _ h nx hi
theorem D_lneg {x : Int64} (hi : ins k pc = some (.lneg, 1)) : Df d k pc ls (.long x :: st) h nx = Df d k (pc + 1) ls (.long (-x) :: st) h nx := Df_eq d k pc ls _ h nx hi
theorem D_ladd {x y : Int64} (hi : ins k pc = some (.ladd, 1)) : Df d k pc ls (.long y :: .long x :: st) h nx = Df d k (pc + 1) ls (.long (x + y) :: st) h nx := Df_eq d k pc ls _ h nx hi
theorem D_lsub {x y : Int64} (hi : ins k pc = some (.lsub, 1)) : Df d k pc ls (.long y :: .long x :: st) h nx = Df d k (pc + 1) ls (.long (x - y) :: st) h nx := Df_eq d k pc ls _ h nx hi
theorem D_lcmp {x y : Int64} (hi : ins k pc = some (.lcmp, 1)) : Df d k pc ls (.long y :: .long x :: st) h nx = Df d k (pc + 1) ls (.int (lg_cmp x y) :: st) h nx := Df_eq d k pc ls _ h nx hi
theorem D_dup {v : Value} (hi : ins k pc = some (.dup, 1)) (hv : v.category = 1) : Df d k pc ls (v :: st) h nx = Df d k (pc + 1) ls (v :: v :: st) h nx := by
  rw [Df_eq d k pc ls _ h nx hi]
  simp only [am_do, hv]
  rfl
theorem D_pop {v : Value} (hi : ins k pc = some (.pop, 1)) (hv : v.category = 1) : Df d k pc ls (v :: st) h nx = Df d k (pc + 1) ls st h nx := by
  rw [Df_eq d k pc ls _ h nx hi]
  simp only [am_do, hv]
  rfl
theorem D_dup2 {v w : Value} (hi : ins k pc = some (.dup2, 1)) (hv : v.category = 1) (hw : w.category = 1) : Df d k pc ls (v :: w :: st) h nx = Df d k (pc + 1) ls (v :: w :: v :: w :: st) h nx := by
  rw [Df_eq d k pc ls _ h nx hi]
  simp only [am_do, hv, hw]
  rfl
theorem jok_of {off : Int} {t : Nat} (ht : (pc : Int) + off = (t : Int)) : jok pc off = true ∧ jmp pc off = t := by
  unfold jok jmp
  rw [ht]
  simp
theorem D_goto {off : Int} {t : Nat} (hi : ins k pc = some (.goto off, 3)) (ht : (pc : Int) + off = (t : Int)) : Df d k pc ls st h nx = Df d k t ls st h nx := by
  rw [Df_eq d k pc ls _ h nx hi]
  simp only [am_do, (jok_of ht).1, (jok_of ht).2]
  rfl
theorem fin_br {c : Prop} {dc : Decidable c} {off : Int} {t : Nat} (ht : (pc : Int) + off = (t : Int)) : fin d k (br c dc pc off ls st h nx) = if c then Df d k t ls st h nx else Df d k (pc + 3) ls st h nx := by
  unfold br
  rw [(jok_of ht).1, (jok_of ht).2]
  by_cases q : c
  · simp only [q]; rfl
  · simp only [q]; rfl
theorem D_if_eq {x : Int32} {off : Int} {t : Nat} (hi : ins k pc = some (.ifCond .eq off, 3)) (ht : (pc : Int) + off = (t : Int)) : Df d k pc ls (.int x :: st) h nx = if x = 0 then Df d k t ls st h nx else Df d k (pc + 3) ls st h nx := (Df_eq d k pc ls _ h nx hi).trans (fin_br ht)
theorem D_if_ne {x : Int32} {off : Int} {t : Nat} (hi : ins k pc = some (.ifCond .ne off, 3)) (ht : (pc : Int) + off = (t : Int)) : Df d k pc ls (.int x :: st) h nx = if x = 0 then Df d k (pc + 3) ls st h nx else Df d k t ls st h nx := by
  rw [show Df d k pc ls (.int x :: st) h nx = _ from (Df_eq d k pc ls _ h nx hi).trans (fin_br (c := ¬ x = 0) ht)]
  by_cases q : x = 0 <;> simp [q]
theorem D_if_lt {x : Int32} {off : Int} {t : Nat} (hi : ins k pc = some (.ifCond .lt off, 3)) (ht : (pc : Int) + off = (t : Int)) : Df d k pc ls (.int x :: st) h nx = if x < 0 then Df d k t ls st h nx else Df d k (pc + 3) ls st h nx := (Df_eq d k pc ls _ h nx hi).trans (fin_br ht)
theorem D_if_ge {x : Int32} {off : Int} {t : Nat} (hi : ins k pc = some (.ifCond .ge off, 3)) (ht : (pc : Int) + off = (t : Int)) : Df d k pc ls (.int x :: st) h nx = if 0 ≤ x then Df d k t ls st h nx else Df d k (pc + 3) ls st h nx := (Df_eq d k pc ls _ h nx hi).trans (fin_br ht)
theorem D_if_gt {x : Int32} {off : Int} {t : Nat} (hi : ins k pc = some (.ifCond .gt off, 3)) (ht : (pc : Int) + off = (t : Int)) : Df d k pc ls (.int x :: st) h nx = if 0 < x then Df d k t ls st h nx else Df d k (pc + 3) ls st h nx := (Df_eq d k pc ls _ h nx hi).trans (fin_br ht)
theorem D_if_le {x : Int32} {off : Int} {t : Nat} (hi : ins k pc = some (.ifCond .le off, 3)) (ht : (pc : Int) + off = (t : Int)) : Df d k pc ls (.int x :: st) h nx = if x ≤ 0 then Df d k t ls st h nx else Df d k (pc + 3) ls st h nx := (Df_eq d k pc ls _ h nx hi).trans (fin_br ht)
theorem D_icmp_eq {x y : Int32} {off : Int} {t : Nat} (hi : ins k pc = some (.if_icmp .eq off, 3)) (ht : (pc : Int) + off = (t : Int)) : Df d k pc ls (.int y :: .int x :: st) h nx = if x = y then Df d k t ls st h nx else Df d k (pc + 3) ls st h nx := (Df_eq d k pc ls _ h nx hi).trans (fin_br ht)
theorem D_icmp_ne {x y : Int32} {off : Int} {t : Nat} (hi : ins k pc = some (.if_icmp .ne off, 3)) (ht : (pc : Int) + off = (t : Int)) : Df d k pc ls (.int y :: .int x :: st) h nx = if x = y then Df d k (pc + 3) ls st h nx else Df d k t ls st h nx := by
  rw [show Df d k pc ls (.int y :: .int x :: st) h nx = _ from (Df_eq d k pc ls _ h nx hi).trans (fin_br (c := ¬ x = y) ht)]
  by_cases q : x = y <;> simp [q]
theorem D_icmp_lt {x y : Int32} {off : Int} {t : Nat} (hi : ins k pc = some (.if_icmp .lt off, 3)) (ht : (pc : Int) + off = (t : Int)) : Df d k pc ls (.int y :: .int x :: st) h nx = if x < y then Df d k t ls st h nx else Df d k (pc + 3) ls st h nx := (Df_eq d k pc ls _ h nx hi).trans (fin_br ht)
theorem D_icmp_ge {x y : Int32} {off : Int} {t : Nat} (hi : ins k pc = some (.if_icmp .ge off, 3)) (ht : (pc : Int) + off = (t : Int)) : Df d k pc ls (.int y :: .int x :: st) h nx = if y ≤ x then Df d k t ls st h nx else Df d k (pc + 3) ls st h nx := (Df_eq d k pc ls _ h nx hi).trans (fin_br ht)
theorem D_icmp_gt {x y : Int32} {off : Int} {t : Nat} (hi : ins k pc = some (.if_icmp .gt off, 3)) (ht : (pc : Int) + off = (t : Int)) : Df d k pc ls (.int y :: .int x :: st) h nx = if y < x then Df d k t ls st h nx else Df d k (pc + 3) ls st h nx := (Df_eq d k pc ls _ h nx hi).trans (fin_br ht)
theorem D_icmp_le {x y : Int32} {off : Int} {t : Nat} (hi : ins k pc = some (.if_icmp .le off, 3)) (ht : (pc : Int) + off = (t : Int)) : Df d k pc ls (.int y :: .int x :: st) h nx = if x ≤ y then Df d k t ls st h nx else Df d k (pc + 3) ls st h nx := (Df_eq d k pc ls _ h nx hi).trans (fin_br ht)
theorem D_tswO {dflt lo up : Int} {offs : Array Int} {len t : Nat} {x : Int32} (hi : ins k pc = some (.tableswitch dflt lo up offs, len)) (hx : x.toInt < lo ∨ up < x.toInt) (ht : (pc : Int) + dflt = (t : Int)) : Df d k pc ls (.int x :: st) h nx = Df d k t ls st h nx := by
  rw [Df_eq d k pc ls _ h nx hi]
  simp only [am_do, i1, hx, if_true, swt, (jok_of ht).1, (jok_of ht).2]
  rfl
theorem D_tswI {dflt lo up off : Int} {offs : Array Int} {len t : Nat} {x : Int32} (hi : ins k pc = some (.tableswitch dflt lo up offs, len)) (hx : ¬ (x.toInt < lo ∨ up < x.toInt)) (ho : offs[(x.toInt - lo).toNat]? = some off) (ht : (pc : Int) + off = (t : Int)) : Df d k pc ls (.int x :: st) h nx = Df d k t ls st h nx := by
  rw [Df_eq d k pc ls _ h nx hi]
  simp only [am_do, i1, hx, if_false, ho, swt, (jok_of ht).1, (jok_of ht).2]
  rfl
theorem D_lsw {dflt off : Int} {ps : Array (Int × Int)} {len t : Nat} {x : Int32} (hi : ins k pc = some (.lookupswitch dflt ps, len)) (hp : srt ps = true) (ho : Op.lookupswitch.offset ps.toList dflt x.toInt = off) (ht : (pc : Int) + off = (t : Int)) : Df d k pc ls (.int x :: st) h nx = Df d k t ls st h nx := by
  rw [Df_eq d k pc ls _ h nx hi]
  simp only [am_do, i1, hp, if_true, ho, swt, (jok_of ht).1, (jok_of ht).2]
  rfl
theorem D_getfield {ix o ci f a : Nat} (hi : ins k pc = some (.getfield ix, 3)) (ho : mO k = o) (hk : lkF o ix = some (ci, f)) : Df d k pc ls (.ref a :: st) h nx = (gF h a ci f).bind fun v => Df d k (pc + 3) ls (v :: st) h nx := by
  rw [Df_eq d k pc ls _ h nx hi]
  simp only [am_do, ho, hk]
  cases gF h a ci f <;> rfl
theorem D_putfield {ix o ci f a : Nat} {v : Value} (hi : ins k pc = some (.putfield ix, 3)) (ho : mO k = o) (hk : lkF o ix = some (ci, f)) (hv : okv (cY ci f) v = true) (hf : (cT ci f).2.2.2 = false ∨ ((mY k).name = "<init>" ∧ o = ci)) : Df d k pc ls (v :: .ref a :: st) h nx = (pF h a ci f v).bind fun h' => Df d k (pc + 3) ls st h' nx := by
  rw [Df_eq d k pc ls _ h nx hi]
  simp only [am_do, ho, hk, hv, hf, true_and, if_true]
  cases pF h a ci f v <;> rfl
theorem D_putbool {ix o ci f a : Nat} {x : Int32} (hi : ins k pc = some (.putfield ix, 3)) (ho : mO k = o) (hk : lkF o ix = some (ci, f)) (hv : cY ci f = .boolean) (hf : (cT ci f).2.2.2 = false ∨ ((mY k).name = "<init>" ∧ o = ci)) : Df d k pc ls (.int x :: .ref a :: st) h nx = if x = 0 ∨ x = 1 then (pF h a ci f (.int x)).bind fun h' => Df d k (pc + 3) ls st h' nx else none := by
  rw [Df_eq d k pc ls _ h nx hi]
  have e : (okv .boolean (.int x) = true) = (x = 0 ∨ x = 1) := by simp [okv]
  simp only [am_do, ho, hk, hv, hf, and_true, e]
  by_cases q : x = 0 ∨ x = 1
  · simp only [q, if_true]
    cases pF h a ci f (.int x) <;> rfl
  · simp only [q, if_false]
    rfl
theorem D_getstatic {ix o a : Nat} (hi : ins k pc = some (.getstatic ix, 3)) (ho : mO k = o) (hk : lkG o ix = some a) : Df d k pc ls st h nx = Df d k (pc + 3) ls (.ref a :: st) h nx := by
  rw [Df_eq d k pc ls _ h nx hi]
  simp only [am_do, ho, hk]
  rfl
theorem D_iaload {i : Int32} {a : Nat} (hi : ins k pc = some (.iaload, 1)) : Df d k pc ls (.int i :: .ref a :: st) h nx = (rX h a i).bind fun x => Df d k (pc + 1) ls (.int x :: st) h nx := by
  rw [Df_eq d k pc ls _ h nx hi]
  simp only [am_do, rX]
  cases rI h a i 0
  · cases rI h a i 20 <;> rfl
  · rfl
theorem D_baload {i : Int32} {a : Nat} (hi : ins k pc = some (.baload, 1)) : Df d k pc ls (.int i :: .ref a :: st) h nx = (rI h a i 1).bind fun x => Df d k (pc + 1) ls (.int x :: st) h nx := by
  rw [Df_eq d k pc ls _ h nx hi]
  simp only [am_do]
  cases rI h a i 1 <;> rfl
theorem D_caload {i : Int32} {a : Nat} (hi : ins k pc = some (.caload, 1)) : Df d k pc ls (.int i :: .ref a :: st) h nx = (rI h a i 2).bind fun x => Df d k (pc + 1) ls (.int x :: st) h nx := by
  rw [Df_eq d k pc ls _ h nx hi]
  simp only [am_do]
  cases rI h a i 2 <;> rfl
theorem D_aaload {i : Int32} {a : Nat} (hi : ins k pc = some (.aaload, 1)) : Df d k pc ls (.int i :: .ref a :: st) h nx = (rR h a i).bind fun x => Df d k (pc + 1) ls (.ref x :: st) h nx := by
  rw [Df_eq d k pc ls _ h nx hi]
  simp only [am_do]
  cases rR h a i <;> rfl
theorem D_iastore {i x : Int32} {a : Nat} (hi : ins k pc = some (.iastore, 1)) : Df d k pc ls (.int x :: .int i :: .ref a :: st) h nx = (wI h a i 0 x).bind fun h' => Df d k (pc + 1) ls st h' nx := by
  rw [Df_eq d k pc ls _ h nx hi]
  simp only [am_do]
  cases wI h a i 0 x <;> rfl
theorem D_bastore {i x : Int32} {a : Nat} (hi : ins k pc = some (.bastore, 1)) : Df d k pc ls (.int x :: .int i :: .ref a :: st) h nx = (wI h a i 1 (vp_nar .boolean x)).bind fun h' => Df d k (pc + 1) ls st h' nx := by
  rw [Df_eq d k pc ls _ h nx hi]
  simp only [am_do]
  cases wI h a i 1 (vp_nar .boolean x) <;> rfl
theorem D_castore {i x : Int32} {a : Nat} (hi : ins k pc = some (.castore, 1)) : Df d k pc ls (.int x :: .int i :: .ref a :: st) h nx = (wI h a i 2 (vp_nar .char x)).bind fun h' => Df d k (pc + 1) ls st h' nx := by
  rw [Df_eq d k pc ls _ h nx hi]
  simp only [am_do]
  cases wI h a i 2 (vp_nar .char x) <;> rfl
theorem D_aastore {i : Int32} {a x : Nat} (hi : ins k pc = some (.aastore, 1)) : Df d k pc ls (.ref x :: .int i :: .ref a :: st) h nx = (wR h a i x).bind fun h' => Df d k (pc + 1) ls st h' nx := by
  rw [Df_eq d k pc ls _ h nx hi]
  simp only [am_do]
  cases wR h a i x <;> rfl
theorem D_arraylength {a : Nat} (hi : ins k pc = some (.arraylength, 1)) : Df d k pc ls (.ref a :: st) h nx = (aL h a).bind fun x => Df d k (pc + 1) ls (.int x :: st) h nx := by
  rw [Df_eq d k pc ls _ h nx hi]
  simp only [am_do]
  cases aL h a <;> rfl
theorem D_newint {n : Int32} (hi : ins k pc = some (.newarray .int, 2)) : Df d k pc ls (.int n :: st) h nx = if n < 0 ∨ 10000 < n.toNatClampNeg then none else Df d k (pc + 2) ls (.ref (16 + nx.1) :: st) (put h (16 + nx.1) (.inl (0, n.toNatClampNeg, .inl fun _ => 0))) (nx.1 + 1, nx.2 + n.toNatClampNeg) := by
  rw [Df_eq d k pc ls _ h nx hi]
  simp only [am_do, i1]
  by_cases q : n < 0 ∨ 10000 < n.toNatClampNeg
  · simp only [q, if_true]; rfl
  · simp only [q, if_false]; rfl
theorem D_newbool {n : Int32} (hi : ins k pc = some (.newarray .boolean, 2)) : Df d k pc ls (.int n :: st) h nx = if n < 0 ∨ 10000 < n.toNatClampNeg then none else Df d k (pc + 2) ls (.ref (16 + nx.1) :: st) (put h (16 + nx.1) (.inl (1, n.toNatClampNeg, .inl fun _ => 0))) (nx.1 + 1, nx.2 + n.toNatClampNeg) := by
  rw [Df_eq d k pc ls _ h nx hi]
  simp only [am_do, i1]
  by_cases q : n < 0 ∨ 10000 < n.toNatClampNeg
  · simp only [q, if_true]; rfl
  · simp only [q, if_false]; rfl
theorem D_newchar {n : Int32} (hi : ins k pc = some (.newarray .char, 2)) : Df d k pc ls (.int n :: st) h nx = if n < 0 ∨ 10000 < n.toNatClampNeg then none else Df d k (pc + 2) ls (.ref (16 + nx.1) :: st) (put h (16 + nx.1) (.inl (2, n.toNatClampNeg, .inl fun _ => 0))) (nx.1 + 1, nx.2 + n.toNatClampNeg) := by
  rw [Df_eq d k pc ls _ h nx hi]
  simp only [am_do, i1]
  by_cases q : n < 0 ∨ 10000 < n.toNatClampNeg
  · simp only [q, if_true]; rfl
  · simp only [q, if_false]; rfl
theorem D_anewarray {n : Int32} {ix o ci t : Nat} (hi : ins k pc = some (.anewarray ix, 3)) (ho : mO k = o) (hk : lkC o ix = some ci) (ht : tcO ci = t) (ht7 : t < 7) : Df d k pc ls (.int n :: st) h nx = if n < 0 ∨ 10000 < n.toNatClampNeg then none else Df d k (pc + 3) ls (.ref (16 + nx.1) :: st) (put h (16 + nx.1) (.inl (t, n.toNatClampNeg, .inr (.inr (.inr (.inr fun _ => none)))))) (nx.1 + 1, nx.2 + n.toNatClampNeg) := by
  rw [Df_eq d k pc ls _ h nx hi]
  simp only [am_do, i1, ho, hk, ht]
  have e : (n < 0 ∨ 10000 < n.toNatClampNeg ∨ 7 ≤ t) = (n < 0 ∨ 10000 < n.toNatClampNeg) := by
    apply propext
    constructor
    · rintro (q | q | q)
      · exact Or.inl q
      · exact Or.inr q
      · omega
    · rintro (q | q)
      · exact Or.inl q
      · exact Or.inr (Or.inl q)
  simp only [e]
  by_cases q : n < 0 ∨ 10000 < n.toNatClampNeg
  · simp only [q, if_true]; rfl
  · simp only [q, if_false]; rfl
theorem D_new {ix o ci : Nat} (hi : ins k pc = some (.new ix, 3)) (ho : mO k = o) (hk : lkC o ix = some ci) : Df d k pc ls st h nx = Df d k (pc + 3) ls (.ref (16 + nx.1) :: st) (put h (16 + nx.1) (.inr (ci, dfl ci))) (nx.1 + 1, nx.2 + cN ci) := by
  rw [Df_eq d k pc ls _ h nx hi]
  simp only [am_do, ho, hk]
  rfl
theorem fin_aft {pc' : Nat} {rest : List Value} {o : Option AR} : fin d k (aft pc' ls rest o) = cn d k pc' ls rest o := by
  cases o with
  | none => rfl
  | some r => obtain ⟨v, h, nx⟩ := r; rfl
theorem D_virtual {ix o k1 n a c : Nat} {rest as : List Value} (hi : ins k pc = some (.invokevirtual ix, 3)) (ho : mO k = o) (hk : lkM o ix = some (0, k1)) (hk1 : ¬ (k1 = kLen ∨ k1 = kChr)) (hn : mA k1 = n) (hc : mO k1 = c) (hc10 : c < 10) (hd : st.drop n = .ref a :: rest) (hr : rest.length ≤ 4) (ha : (st.take n).reverse = as) : Df d k pc ls st h nx = if ck h a c = true then cn d k (pc + 3) ls rest (Dn d k1 (.ref a :: as) h nx) else none := by
  rw [Df_eq d k pc ls _ h nx hi]
  simp only [am_do, ho, hk, hk1, if_false, hn, hd, hc, hr, ha, hc10, and_true]
  by_cases q : ck h a c = true
  · simp only [q, if_true]; exact fin_aft
  · simp only [q, if_false]; rfl
theorem D_string {ix o k1 n a : Nat} {rest as : List Value} (hi : ins k pc = some (.invokevirtual ix, 3)) (ho : mO k = o) (hk : lkM o ix = some (0, k1)) (hk1 : k1 = kLen ∨ k1 = kChr) (hn : mA k1 = n) (hd : st.drop n = .ref a :: rest) (hr : rest.length ≤ 4) (ha : (st.take n).reverse = as) : Df d k pc ls st h nx = if isS a = true then cn d k (pc + 3) ls rest (Dn d k1 (.ref a :: as) h nx) else none := by
  rw [Df_eq d k pc ls _ h nx hi]
  simp only [am_do, ho, hk, hk1, if_true, hn, hd, hr, ha, and_true]
  by_cases q : isS a = true
  · simp only [q, if_true]; exact fin_aft
  · simp only [q]; rfl
theorem D_static {ix o k1 kd n : Nat} {rest as : List Value} (hi : ins k pc = some (.invokestatic ix, 3)) (ho : mO k = o) (hk : lkM o ix = some (kd, k1)) (hkd : kd = 1 ∨ kd = 2) (hn : mA k1 = n) (hl : n ≤ st.length) (hd : st.drop n = rest) (hr : rest.length ≤ 4) (ha : (st.take n).reverse = as) : Df d k pc ls st h nx = cn d k (pc + 3) ls rest (Dn d k1 as h nx) := by
  rw [Df_eq d k pc ls _ h nx hi]
  rcases hkd with rfl | rfl
  · simp only [am_do, ho, hk, hn, hd, hr, ha, hl, and_true, if_true]
    exact fin_aft
  · simp only [am_do, ho, hk, hn, hd, hr, ha, hl, and_true, if_true]
    exact fin_aft
theorem D_special {ix o k1 kd n a : Nat} {rest as : List Value} (hi : ins k pc = some (.invokespecial ix, 3)) (ho : mO k = o) (hk : lkM o ix = some (kd, k1)) (hkd : kd = 3 ∨ kd = 4) (hn : mA k1 = n) (hd : st.drop n = .ref a :: rest) (hr : rest.length ≤ 4) (ha : (st.take n).reverse = as) : Df d k pc ls st h nx = cn d k (pc + 3) ls rest (Dn d k1 (.ref a :: as) h nx) := by
  rw [Df_eq d k pc ls _ h nx hi]
  rcases hkd with rfl | rfl
  · simp only [am_do, ho, hk, hn, hd, hr, ha, if_true]
    exact fin_aft
  · simp only [am_do, ho, hk, hn, hd, hr, ha, if_true]
    exact fin_aft
theorem D_objinit {ix o k1 a : Nat} {rest : List Value} (hi : ins k pc = some (.invokespecial ix, 3)) (ho : mO k = o) (hk : lkM o ix = some (5, k1)) (hr : rest.length ≤ 4) : Df d k pc ls (.ref a :: rest) h nx = Df d k (pc + 3) ls rest h nx := by
  rw [Df_eq d k pc ls _ h nx hi]
  simp only [am_do, ho, hk, hr, if_true]
  rfl
theorem D_arraycopy {ix o k1 a a0 : Nat} {n dp sp : Int32} {rest : List Value} (hi : ins k pc = some (.invokestatic ix, 3)) (ho : mO k = o) (hk : lkM o ix = some (6, k1)) (hr : rest.length ≤ 4) : Df d k pc ls (.int n :: .int dp :: .ref a :: .int sp :: .ref a0 :: rest) h nx = (cpA h a0 a sp dp n).bind fun h' => Df d k (pc + 3) ls rest h' nx := by
  rw [Df_eq d k pc ls _ h nx hi]
  simp only [am_do, ho, hk, hr, if_true]
  cases cpA h a0 a sp dp n <;> rfl
theorem D_ireturn {v : Int32} (hi : ins k pc = some (.ireturn, 1)) (hr : mR k = some .int) : Df d k pc ls [.int v] h nx = some (some (.int v), h, nx) := by
  rw [Df_eq d k pc ls _ h nx hi]
  have e : nR .int v = true := decide_eq_true rfl
  simp only [am_do, hr, e, if_true]
  rfl
theorem D_zreturn {v : Int32} (hi : ins k pc = some (.ireturn, 1)) (hr : mR k = some .boolean) : Df d k pc ls [.int v] h nx = if nR .boolean v = true then some (some (.int v), h, nx) else none := by
  rw [Df_eq d k pc ls _ h nx hi]
  simp only [am_do, hr, if_true]
  by_cases q : nR .boolean v = true
  · simp only [q, if_true]; rfl
  · simp only [q]; rfl
theorem D_lreturn {v : Int64} (hi : ins k pc = some (.lreturn, 1)) (hr : mR k = some .long) : Df d k pc ls [.long v] h nx = some (some (.long v), h, nx) := by
  rw [Df_eq d k pc ls _ h nx hi]
  simp only [am_do, hr, if_true]
  rfl
theorem D_areturn {v : Nat} {ty : FieldType} (hi : ins k pc = some (.areturn, 1)) (hr : mR k = some ty) (ht : refTy ty = true) : Df d k pc ls [.ref v] h nx = some (some (.ref v), h, nx) := by
  rw [Df_eq d k pc ls _ h nx hi]
  simp only [am_do, hr, ht, if_true]
  rfl
theorem D_return (hi : ins k pc = some (.return_, 1)) (hr : mR k = none) : Df d k pc ls [] h nx = some (none, h, nx) := by
  rw [Df_eq d k pc ls _ h nx hi]
  simp only [am_do, hr, if_true]
  rfl
end DE
theorem nR_b0 : nR .boolean 0 = true := by decide
theorem nR_b1 : nR .boolean 1 = true := by decide
