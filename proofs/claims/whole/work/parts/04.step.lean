/-- one instruction -/
def am_do (call : Nat → List Value → AH → AN → Option AR) (k : Nat) (i : Instr) (len pc : Nat) (ls st : List Value) (h : AH) (nx : AN) : Option (AF ⊕ AR) := match i with
  | .iconst n => if len = 1 then to (pc + 1) ls (.int (Int32.ofInt n) :: st) h nx else none
  | .bipush n => if len = 2 then to (pc + 2) ls (.int (Int8.ofInt n).toInt32 :: st) h nx else none
  | .sipush n => if len = 3 then to (pc + 3) ls (.int (Int16.ofInt n).toInt32 :: st) h nx else none
  | .lconst n => if len = 1 then to (pc + 1) ls (.long (Int64.ofNat (n : Nat)) :: st) h nx else none
  | .iload_n q => if len = 1 then (match ld ls q 0 with | some v => to (pc + 1) ls (v :: st) h nx | none => none) else none
  | .iload q => if len = 2 then (match ld ls q 0 with | some v => to (pc + 2) ls (v :: st) h nx | none => none) else none
  | .aload_n q => if len = 1 then (match ld ls q 1 with | some v => to (pc + 1) ls (v :: st) h nx | none => none) else none
  | .aload q => if len = 2 then (match ld ls q 1 with | some v => to (pc + 2) ls (v :: st) h nx | none => none) else none
  | .lload q => if len = 2 then (match ld ls q 2 with | some v => to (pc + 2) ls (v :: st) h nx | none => none) else none
  | .istore_n q => if len = 1 then i1 st fun x r => (match st1 ls q (.int x) with | some ls' => to (pc + 1) ls' r h nx | none => none) else none
  | .istore q => if len = 2 then i1 st fun x r => (match st1 ls q (.int x) with | some ls' => to (pc + 2) ls' r h nx | none => none) else none
  | .astore_n q => if len = 1 then (match st with | .ref x :: r => (match st1 ls q (.ref x) with | some ls' => to (pc + 1) ls' r h nx | none => none) | _ => none) else none
  | .astore q => if len = 2 then (match st with | .ref x :: r => (match st1 ls q (.ref x) with | some ls' => to (pc + 2) ls' r h nx | none => none) | _ => none) else none
  | .lstore q => if len = 2 then (match st with | .long x :: r => (match st2 ls q (.long x) with | some ls' => to (pc + 2) ls' r h nx | none => none) | _ => none) else none
  | .iinc q n => if len = 3 then (match ls[q]? with | some (.int x) => to (pc + 3) (ls.set q (.int (x + Int32.ofInt n))) st h nx | _ => none) else none
  | .iadd => if len = 1 then i2 st fun x y r => to (pc + 1) ls (.int (x + y) :: r) h nx else none
  | .isub => if len = 1 then i2 st fun x y r => to (pc + 1) ls (.int (x - y) :: r) h nx else none
  | .imul => if len = 1 then i2 st fun x y r => to (pc + 1) ls (.int (x * y) :: r) h nx else none
  | .iand => if len = 1 then i2 st fun x y r => to (pc + 1) ls (.int (x &&& y) :: r) h nx else none
  | .ior => if len = 1 then i2 st fun x y r => to (pc + 1) ls (.int (x ||| y) :: r) h nx else none
  | .ixor => if len = 1 then i2 st fun x y r => to (pc + 1) ls (.int (x ^^^ y) :: r) h nx else none
  | .idiv => if len = 1 then i2 st fun x y r => (if y = 0 then none else to (pc + 1) ls (.int (x / y) :: r) h nx) else none
  | .irem => if len = 1 then i2 st fun x y r => (if y = 0 then none else to (pc + 1) ls (.int (x - x / y * y) :: r) h nx) else none
  | .ishl => if len = 1 then i2 st fun x y r => to (pc + 1) ls (.int (x <<< (y &&& 31)) :: r) h nx else none
  | .ishr => if len = 1 then i2 st fun x y r => to (pc + 1) ls (.int (x >>> (y &&& 31)) :: r) h nx else none
  | .iushr => if len = 1 then i2 st fun x y r => to (pc + 1) ls (.int (x.toUInt32 >>> (y.toUInt32 &&& Int32.toUInt32 31)).toInt32 :: r) h nx else none
  | .ineg => if len = 1 then i1 st fun x r => to (pc + 1) ls (.int (-x) :: r) h nx else none
  | .i2l => if len = 1 then i1 st fun x r => to (pc + 1) ls (.long x.toInt64 :: r) h nx else none
  | .i2s => if len = 1 then i1 st fun x r => to (pc + 1) ls (.int x.toInt16.toInt32 :: r) h nx else none
  | .l2i => if len = 1 then (match st with | .long x :: r => to (pc + 1) ls (.int x.toInt32 :: r) h nx | _ => none) else none
  | .lneg => if len = 1 then (match st with | .long x :: r => to (pc + 1) ls (.long (-x) :: r) h nx | _ => none) else none
  | .ladd => if len = 1 then l2 st fun x y r => to (pc + 1) ls (.long (x + y) :: r) h nx else none
  | .lsub => if len = 1 then l2 st fun x y r => to (pc + 1) ls (.long (x - y) :: r) h nx else none
  | .lcmp => if len = 1 then l2 st fun x y r => to (pc + 1) ls (.int (lg_cmp x y) :: r) h nx else none
  | .dup => if len = 1 then (match st with | v :: r => if v.category = 1 then to (pc + 1) ls (v :: v :: r) h nx else none | _ => none) else none
  | .pop => if len = 1 then (match st with | v :: r => if v.category = 1 then to (pc + 1) ls r h nx else none | _ => none) else none
  | .dup2 => if len = 1 then (match st with | v :: w :: r => if v.category = 1 ∧ w.category = 1 then to (pc + 1) ls (v :: w :: v :: w :: r) h nx else none | _ => none) else none
  | .goto off => if len = 3 then (if jok pc off = true then to (jmp pc off) ls st h nx else none) else none
  | .ifCond c off => if len = 3 then i1 st fun x r => (match c with
      | .eq => br (x = 0) inferInstance pc off ls r h nx
      | .ne => br (¬ x = 0) inferInstance pc off ls r h nx
      | .lt => br (x < 0) inferInstance pc off ls r h nx
      | .ge => br (0 ≤ x) inferInstance pc off ls r h nx
      | .gt => br (0 < x) inferInstance pc off ls r h nx
      | .le => br (x ≤ 0) inferInstance pc off ls r h nx) else none
  | .if_icmp c off => if len = 3 then i2 st fun x y r => (match c with
      | .eq => br (x = y) inferInstance pc off ls r h nx
      | .ne => br (¬ x = y) inferInstance pc off ls r h nx
      | .lt => br (x < y) inferInstance pc off ls r h nx
      | .ge => br (y ≤ x) inferInstance pc off ls r h nx
      | .gt => br (y < x) inferInstance pc off ls r h nx
      | .le => br (x ≤ y) inferInstance pc off ls r h nx) else none
  | .tableswitch dflt lo hi offs => i1 st fun x r => (if x.toInt < lo ∨ hi < x.toInt then swt pc ls r h nx (some dflt) else swt pc ls r h nx (offs[(x.toInt - lo).toNat]?))
  | .lookupswitch dflt ps => if srt ps = true then i1 st fun x r => swt pc ls r h nx (some (Op.lookupswitch.offset ps.toList dflt x.toInt)) else none
  | .getfield ix => if len = 3 then (match lkF (mO k) ix, st with
      | some (ci, f), .ref a :: r => (match gF h a ci f with | some v => to (pc + 3) ls (v :: r) h nx | none => none)
      | _, _ => none) else none
  | .putfield ix => if len = 3 then (match lkF (mO k) ix, st with
      | some (ci, f), v :: .ref a :: r => if okv (cY ci f) v = true ∧ ((cT ci f).2.2.2 = false ∨ ((mY k).name = "<init>" ∧ mO k = ci)) then (match pF h a ci f v with | some h' => to (pc + 3) ls r h' nx | none => none) else none
      | _, _ => none) else none
  | .getstatic ix => if len = 3 then (match lkG (mO k) ix with | some a => to (pc + 3) ls (.ref a :: st) h nx | none => none) else none
  | .ldc ix => if len = 2 then (match lkK (mO k) ix with
      | some v => to (pc + 2) ls (.int v :: st) h nx
      | none => (match lkS (mO k) ix with | some a => to (pc + 2) ls (.ref a :: st) h nx | none => none)) else none
  | .ldc_w ix => if len = 3 then (match lkK (mO k) ix with | some v => to (pc + 3) ls (.int v :: st) h nx | none => none) else none
  | .iaload => if len = 1 then (match st with | .int i :: .ref a :: r => (match rI h a i 0 with
      | some x => to (pc + 1) ls (.int x :: r) h nx
      | none => (match rI h a i 20 with | some x => to (pc + 1) ls (.int x :: r) h nx | none => none)) | _ => none) else none
  | .baload => if len = 1 then (match st with | .int i :: .ref a :: r => (match rI h a i 1 with | some x => to (pc + 1) ls (.int x :: r) h nx | none => none) | _ => none) else none
  | .caload => if len = 1 then (match st with | .int i :: .ref a :: r => (match rI h a i 2 with | some x => to (pc + 1) ls (.int x :: r) h nx | none => none) | _ => none) else none
  | .aaload => if len = 1 then (match st with | .int i :: .ref a :: r => (match rR h a i with | some x => to (pc + 1) ls (.ref x :: r) h nx | none => none) | _ => none) else none
  | .iastore => if len = 1 then (match st with | .int x :: .int i :: .ref a :: r => (match wI h a i 0 x with | some h' => to (pc + 1) ls r h' nx | none => none) | _ => none) else none
  | .bastore => if len = 1 then (match st with | .int x :: .int i :: .ref a :: r => (match wI h a i 1 (vp_nar .boolean x) with | some h' => to (pc + 1) ls r h' nx | none => none) | _ => none) else none
  | .castore => if len = 1 then (match st with | .int x :: .int i :: .ref a :: r => (match wI h a i 2 (vp_nar .char x) with | some h' => to (pc + 1) ls r h' nx | none => none) | _ => none) else none
  | .aastore => if len = 1 then (match st with | .ref x :: .int i :: .ref a :: r => (match wR h a i x with | some h' => to (pc + 1) ls r h' nx | none => none) | _ => none) else none
  | .arraylength => if len = 1 then (match st with | .ref a :: r => (match aL h a with | some x => to (pc + 1) ls (.int x :: r) h nx | none => none) | _ => none) else none
  | .newarray t => if len = 2 then i1 st fun n r => (if n < 0 ∨ 10000 < n.toNatClampNeg then none else
      (match t with
        | .int => to (pc + 2) ls (.ref (16 + nx.1) :: r) (put h (16 + nx.1) (.inl (0, n.toNatClampNeg, .inl fun _ => 0))) (nx.1 + 1, nx.2 + n.toNatClampNeg)
        | .boolean => to (pc + 2) ls (.ref (16 + nx.1) :: r) (put h (16 + nx.1) (.inl (1, n.toNatClampNeg, .inl fun _ => 0))) (nx.1 + 1, nx.2 + n.toNatClampNeg)
        | .char => to (pc + 2) ls (.ref (16 + nx.1) :: r) (put h (16 + nx.1) (.inl (2, n.toNatClampNeg, .inl fun _ => 0))) (nx.1 + 1, nx.2 + n.toNatClampNeg)
        | _ => none)) else none
  | .anewarray ix => if len = 3 then i1 st fun n r => (match lkC (mO k) ix with
      | some ci => if n < 0 ∨ 10000 < n.toNatClampNeg ∨ 7 ≤ tcO ci then none else to (pc + 3) ls (.ref (16 + nx.1) :: r) (put h (16 + nx.1) (.inl (tcO ci, n.toNatClampNeg, .inr (.inr (.inr (.inr fun _ => none)))))) (nx.1 + 1, nx.2 + n.toNatClampNeg)
      | none => none) else none
  | .new ix => if len = 3 then (match lkC (mO k) ix with
      | some ci => to (pc + 3) ls (.ref (16 + nx.1) :: st) (put h (16 + nx.1) (.inr (ci, dfl ci))) (nx.1 + 1, nx.2 + cN ci)
      | none => none) else none
  | .invokevirtual ix => if len = 3 then (match lkM (mO k) ix with
      | some (0, k') => if k' = kLen ∨ k' = kChr then (match st.drop (mA k') with
            | .ref a :: r => if isS a = true ∧ r.length ≤ 4 then aft (pc + 3) ls r (call k' (.ref a :: (st.take (mA k')).reverse) h nx) else none
            | _ => none)
          else (match st.drop (mA k') with
            | .ref a :: r => if (ck h a (mO k') = true ∧ mO k' < 10) ∧ r.length ≤ 4 then aft (pc + 3) ls r (call k' (.ref a :: (st.take (mA k')).reverse) h nx) else none
            | _ => none)
      | _ => none) else none
  | .invokestatic ix => if len = 3 then (match lkM (mO k) ix with
      | some (1, k') => if mA k' ≤ st.length ∧ (st.drop (mA k')).length ≤ 4 then aft (pc + 3) ls (st.drop (mA k')) (call k' (st.take (mA k')).reverse h nx) else none
      | some (2, k') => if mA k' ≤ st.length ∧ (st.drop (mA k')).length ≤ 4 then aft (pc + 3) ls (st.drop (mA k')) (call k' (st.take (mA k')).reverse h nx) else none
      | some (6, _) => (match st with
          | .int n :: .int dp :: .ref a :: .int sp :: .ref a0 :: r => if r.length ≤ 4 then (match cpA h a0 a sp dp n with | some h' => to (pc + 3) ls r h' nx | none => none) else none
          | _ => none)
      | _ => none) else none
  | .invokespecial ix => if len = 3 then (match lkM (mO k) ix with
      | some (5, _) => (match st with | .ref _ :: r => if r.length ≤ 4 then to (pc + 3) ls r h nx else none | _ => none)
      | some (3, k') => (match st.drop (mA k') with
          | .ref a :: r => if r.length ≤ 4 then aft (pc + 3) ls r (call k' (.ref a :: (st.take (mA k')).reverse) h nx) else none
          | _ => none)
      | some (4, k') => (match st.drop (mA k') with
          | .ref a :: r => if r.length ≤ 4 then aft (pc + 3) ls r (call k' (.ref a :: (st.take (mA k')).reverse) h nx) else none
          | _ => none)
      | _ => none) else none
  | .ireturn => if len = 1 then (match st, mR k with | [.int v], some ty => if nR ty v = true then rtn (some (.int v)) h nx else none | _, _ => none) else none
  | .lreturn => if len = 1 then (match st, mR k with | [.long v], some .long => rtn (some (.long v)) h nx | _, _ => none) else none
  | .areturn => if len = 1 then (match st, mR k with | [.ref v], some ty => if refTy ty = true then rtn (some (.ref v)) h nx else none | _, _ => none) else none
  | .return_ => if len = 1 then (match st, mR k with | [], none => rtn none h nx | _, _ => none) else none
  | _ => none
def am_step (call : Nat → List Value → AH → AN → Option AR) (k pc : Nat) (ls st : List Value) (h : AH) (nx : AN) : Option (AF ⊕ AR) := match ins k pc with
  | some (i, len) => am_do call k i len pc ls st h nx
  | none => none
def am_itr (call : Nat → List Value → AH → AN → Option AR) (k : Nat) : Nat → AF → Option AR
  | 0, _ => none
  | n + 1, (pc, ls, st, h, nx) => match am_step call k pc ls st h nx with
    | none => none
    | some (.inl f) => am_itr call k n f
    | some (.inr r) => some r
theorem am_itr_mono {call : Nat → List Value → AH → AN → Option AR} {k : Nat} : ∀ {n : Nat} {f : AF} {r : AR}, am_itr call k n f = some r → ∀ m, am_itr call k (n + m) f = some r
  | 0, _, _, h, _ => by simp [am_itr] at h
  | n + 1, (pc, ls, st, hh, nx), r, h, m => by
    rw [show n + 1 + m = (n + m) + 1 by omega]
    unfold am_itr at h ⊢
    cases hs : am_step call k pc ls st hh nx with
    | none => rw [hs] at h; simp at h
    | some x =>
      rw [hs] at h
      cases x with
      | inl f => exact am_itr_mono h m
      | inr r' => exact h
noncomputable def am_lim (call : Nat → List Value → AH → AN → Option AR) (k : Nat) (f : AF) : Option AR := Classical.epsilon fun o => (∃ n r, am_itr call k n f = some r ∧ o = some r) ∨ ((∀ n, am_itr call k n f = none) ∧ o = none)
theorem am_lim_ok (call : Nat → List Value → AH → AN → Option AR) (k : Nat) (f : AF) : (∃ n r, am_itr call k n f = some r ∧ am_lim call k f = some r) ∨ ((∀ n, am_itr call k n f = none) ∧ am_lim call k f = none) := by
  refine Classical.epsilon_spec (p := fun o => (∃ n r, am_itr call k n f = some r ∧ o = some r) ∨ ((∀ n, am_itr call k n f = none) ∧ o = none)) ?_
  by_cases hx : ∃ n r, am_itr call k n f = some r
  · obtain ⟨n, r, h⟩ := hx
    exact ⟨some r, Or.inl ⟨n, r, h, rfl⟩⟩
  · refine ⟨none, Or.inr ⟨fun n => ?_, rfl⟩⟩
    cases h : am_itr call k n f with
    | none => rfl
    | some r => exact absurd ⟨n, r, h⟩ hx
theorem am_lim_some {call : Nat → List Value → AH → AN → Option AR} {k : Nat} {f : AF} {r : AR} : am_lim call k f = some r ↔ ∃ n, am_itr call k n f = some r := by
  rcases am_lim_ok call k f with ⟨n, r', h1, h2⟩ | ⟨h1, h2⟩
  · constructor
    · intro h
      rw [h2] at h
      cases h
      exact ⟨n, h1⟩
    · rintro ⟨m, hm⟩
      have a := am_itr_mono h1 m
      have b := am_itr_mono hm n
      rw [Nat.add_comm m n, a] at b
      rw [h2]; exact b
  · constructor
    · intro h; rw [h2] at h; cases h
    · rintro ⟨m, hm⟩; rw [h1 m] at hm; cases hm
def am_get : Option Value → Value
  | some v => v
  | none => .null
def am_entry (k : Nat) (args : List Value) : List Value := args ++ List.replicate (mL k - args.length) .null
/-- String.length, String.charAt of the String constants -/
def am_str (k : Nat) (args : List Value) (h : AH) (nx : AN) : Option AR := match args with
  | [.ref a] => if k = kLen ∧ isS a = true then some (some (.int (Int32.ofNat (strT a).length)), h, nx) else none
  | [.ref a, .int i] => if k = kChr ∧ isS a = true ∧ ib i (strT a).length = true then some (some (.int (Int32.ofNat ((strT a).getD i.toNatClampNeg 0))), h, nx) else none
  | _ => none
def isIR : Value → Bool
  | .int _ => true
  | .ref _ => true
  | _ => false
def aok (k : Nat) (args : List Value) : Bool := decide (args.length ≤ mL k) && args.all isIR
noncomputable def Dn : Nat → Nat → List Value → AH → AN → Option AR
  | 0 => fun _ _ _ _ => none
  | d + 1 => fun k args h nx => if k = kLen ∨ k = kChr then (if 8 ≤ d then am_str k args h nx else none) else if aok k args = true then am_lim (Dn d) k (0, am_entry k args, [], h, nx) else none
noncomputable def Df (d k pc : Nat) (ls st : List Value) (h : AH) (nx : AN) : Option AR := am_lim (Dn d) k (pc, ls, st, h, nx)
noncomputable def fin (d k : Nat) : Option (AF ⊕ AR) → Option AR
  | none => none
  | some (.inl (pc, ls, st, h, nx)) => Df d k pc ls st h nx
  | some (.inr r) => some r
theorem am_lim_eq (call : Nat → List Value → AH → AN → Option AR) (k pc : Nat) (ls st : List Value) (h : AH) (nx : AN) : am_lim call k (pc, ls, st, h, nx) = match am_step call k pc ls st h nx with
    | none => none
    | some (.inl f) => am_lim call k f
    | some (.inr r) => some r := by
  apply Option.ext
  intro r
  rw [am_lim_some]
  cases hs : am_step call k pc ls st h nx with
  | none =>
    refine ⟨?_, fun h => by cases h⟩
    rintro ⟨n, hn⟩
    cases n with
    | zero => simp [am_itr] at hn
    | succ n => simp [am_itr, hs] at hn
  | some x =>
    cases x with
    | inl f =>
      show _ ↔ am_lim call k f = some r
      rw [am_lim_some]
      constructor
      · rintro ⟨n, hn⟩
        cases n with
        | zero => simp [am_itr] at hn
        | succ n => exact ⟨n, by simpa [am_itr, hs] using hn⟩
      · rintro ⟨n, hn⟩
        exact ⟨n + 1, by simpa [am_itr, hs] using hn⟩
    | inr r' =>
      constructor
      · rintro ⟨n, hn⟩
        cases n with
        | zero => simp [am_itr] at hn
        | succ n => simpa [am_itr, hs] using hn
      · intro hr
        exact ⟨1, by simpa [am_itr, hs] using hr⟩
theorem Df_eq (d k pc : Nat) (ls st : List Value) (h : AH) (nx : AN) {i : Instr} {len : Nat} (hi : ins k pc = some (i, len)) : Df d k pc ls st h nx = fin d k (am_do (Dn d) k i len pc ls st h nx) := by
  unfold Df
  rw [am_lim_eq]
  unfold am_step
  rw [hi]
  dsimp only
  cases am_do (Dn d) k i len pc ls st h nx with
  | none => rfl
  | some x =>
    cases x with
    | inl f => obtain ⟨a, b, c, e, g⟩ := f; rfl
    | inr r => rfl
theorem Dn_eq (d k : Nat) (args : List Value) (h : AH) (nx : AN) (hk : ¬ (k = kLen ∨ k = kChr)) (hl : aok k args = true) : Dn (d + 1) k args h nx = Df d k 0 (am_entry k args) [] h nx := by
  simp only [Dn, Df, hl, hk, if_true, if_false]
