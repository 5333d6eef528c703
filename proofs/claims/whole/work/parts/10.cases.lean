section SN
variable {p : Program} {l : Launch} {e : Env} {R : Room} {s : State} {m : MethodId} {args : Array Value} {below : List Frame} {meth : Method} {c : Code} {Q : State → Prop} {D : va_G} {ad dA : Nat → Nat} {sz k d : Nat} {n0 : AN} {call : Nat → List Value → AH → AN → Option AR} {pc len : Nat} {ls st : List Value} {h : AH} {nx : AN} {f : AF}

theorem am_sim {i : Instr} (B : am_B p R s m args meth c D ad dA sz k d n0) (hd : decode (mC k) pc = .ok (i, len)) (hs : am_do call k i len pc ls st h nx = some (.inl f)) (hr : f.2.2.2.2.1 ≤ n0.1 + R.cells ∧ f.2.2.2.2.2 ≤ n0.2 + R.slots) (hc : ∀ (k' : Nat) (as : List Value) (r : AR), k' < kLaw → call k' as h nx = some r → (nx.1 ≤ r.2.2.1 ∧ nx.2 ≤ r.2.2.2) ∧ am_K l D ad dA sz d k' as h nx r) (kk : am_W p l e R s m args below meth c Q D ad dA sz k n0 f) : am_W p l e R s m args below meth c Q D ad dA sz k n0 (pc, ls, st, h, nx) := by
  cases i with
  | iconst _ => exact sm_iconst B hd hs kk
  | bipush _ => exact sm_bipush B hd hs kk
  | sipush _ => exact sm_sipush B hd hs kk
  | lconst _ => exact sm_lconst B hd hs kk
  | iload_n _ => exact sm_iload_n B hd hs kk
  | iload _ => exact sm_iload B hd hs kk
  | aload_n _ => exact sm_aload_n B hd hs kk
  | aload _ => exact sm_aload B hd hs kk
  | lload _ => exact sm_lload B hd hs kk
  | istore_n _ => exact sm_istore_n B hd hs kk
  | istore _ => exact sm_istore B hd hs kk
  | astore_n _ => exact sm_astore_n B hd hs kk
  | astore _ => exact sm_astore B hd hs kk
  | lstore _ => exact sm_lstore B hd hs kk
  | iinc _ _ => exact sm_iinc B hd hs kk
  | iadd => exact sm_iadd B hd hs kk
  | isub => exact sm_isub B hd hs kk
  | imul => exact sm_imul B hd hs kk
  | iand => exact sm_iand B hd hs kk
  | ior => exact sm_ior B hd hs kk
  | ixor => exact sm_ixor B hd hs kk
  | ishl => exact sm_ishl B hd hs kk
  | ishr => exact sm_ishr B hd hs kk
  | iushr => exact sm_iushr B hd hs kk
  | idiv => exact sm_idiv B hd hs kk
  | irem => exact sm_irem B hd hs kk
  | ineg => exact sm_ineg B hd hs kk
  | i2l => exact sm_i2l B hd hs kk
  | i2s => exact sm_i2s B hd hs kk
  | l2i => exact sm_l2i B hd hs kk
  | lneg => exact sm_lneg B hd hs kk
  | ladd => exact sm_ladd B hd hs kk
  | lsub => exact sm_lsub B hd hs kk
  | lcmp => exact sm_lcmp B hd hs kk
  | dup => exact sm_dup B hd hs kk
  | pop => exact sm_pop B hd hs kk
  | dup2 => exact sm_dup2 B hd hs kk
  | goto _ => exact sm_goto B hd hs kk
  | ifCond _ _ => exact sm_ifCond B hd hs kk
  | if_icmp _ _ => exact sm_if_icmp B hd hs kk
  | tableswitch _ _ _ _ => exact sm_tableswitch B hd hs kk
  | lookupswitch _ _ => exact sm_lookupswitch B hd hs kk
  | getfield _ => exact sm_getfield B hd hs kk
  | putfield _ => exact sm_putfield B hd hs kk
  | getstatic _ => exact sm_getstatic B hd hs kk
  | ldc _ => exact sm_ldc B hd hs kk
  | ldc_w _ => exact sm_ldc_w B hd hs kk
  | iaload => exact sm_iaload B hd hs kk
  | baload => exact sm_baload B hd hs kk
  | caload => exact sm_caload B hd hs kk
  | aaload => exact sm_aaload B hd hs kk
  | iastore => exact sm_iastore B hd hs kk
  | bastore => exact sm_bastore B hd hs kk
  | castore => exact sm_castore B hd hs kk
  | aastore => exact sm_aastore B hd hs kk
  | arraylength => exact sm_arraylength B hd hs kk
  | new _ => exact sm_new B hd hs hr kk
  | newarray _ => exact sm_newarray B hd hs hr kk
  | anewarray _ => exact sm_anewarray B hd hs hr kk
  | invokevirtual _ => exact sm_invokevirtual B hd hs hr hc kk
  | invokestatic _ => exact sm_invokestatic B hd hs hr hc kk
  | invokespecial _ => exact sm_invokespecial B hd hs hr hc kk
  | ireturn =>
    exfalso
    replace hs := if_so hs
    obtain ⟨-, hs⟩ := hs
    split at hs <;> first | (cases hs; done) | (replace hs := if_so hs; obtain ⟨-, hs⟩ := hs; cases hs; done)
  | lreturn =>
    exfalso
    replace hs := if_so hs
    obtain ⟨-, hs⟩ := hs
    split at hs <;> first | (cases hs; done) | (replace hs := if_so hs; obtain ⟨-, hs⟩ := hs; cases hs; done)
  | areturn =>
    exfalso
    replace hs := if_so hs
    obtain ⟨-, hs⟩ := hs
    split at hs <;> first | (cases hs; done) | (replace hs := if_so hs; obtain ⟨-, hs⟩ := hs; cases hs; done)
  | return_ =>
    exfalso
    replace hs := if_so hs
    obtain ⟨-, hs⟩ := hs
    split at hs <;> first | (cases hs; done) | (replace hs := if_so hs; obtain ⟨-, hs⟩ := hs; cases hs; done)
  | _ => cases hs
end SN
theorem to_mono {pc : Nat} {ls st : List Value} {h : AH} {nx n1 : AN} {f : AF} (q : to pc ls st h n1 = some (.inl f)) (hn : nx.1 ≤ n1.1 ∧ nx.2 ≤ n1.2) : nx.1 ≤ f.2.2.2.2.1 ∧ nx.2 ≤ f.2.2.2.2.2 := by
  obtain rfl := to_inj q
  exact hn
theorem am_mono {call : Nat → List Value → AH → AN → Option AR} {k : Nat} {i : Instr} {len pc : Nat} {ls st : List Value} {h : AH} {nx : AN} {f : AF} (hc : ∀ (k' : Nat) (as : List Value) (r : AR), k' < kLaw → call k' as h nx = some r → nx.1 ≤ r.2.2.1 ∧ nx.2 ≤ r.2.2.2) (hs : am_do call k i len pc ls st h nx = some (.inl f)) : nx.1 ≤ f.2.2.2.2.1 ∧ nx.2 ≤ f.2.2.2.2.2 := by
  have rf : nx.1 ≤ nx.1 ∧ nx.2 ≤ nx.2 := ⟨Nat.le_refl _, Nat.le_refl _⟩
  cases i with
  | iconst _ =>
    simp only [am_do, i1, i2, l2, br, swt] at hs
    repeat' split at hs
    all_goals first
      | (cases hs; done)
      | exact to_mono hs rf
  | bipush _ =>
    simp only [am_do, i1, i2, l2, br, swt] at hs
    repeat' split at hs
    all_goals first
      | (cases hs; done)
      | exact to_mono hs rf
  | sipush _ =>
    simp only [am_do, i1, i2, l2, br, swt] at hs
    repeat' split at hs
    all_goals first
      | (cases hs; done)
      | exact to_mono hs rf
  | lconst _ =>
    simp only [am_do, i1, i2, l2, br, swt] at hs
    repeat' split at hs
    all_goals first
      | (cases hs; done)
      | exact to_mono hs rf
  | iload_n _ =>
    simp only [am_do, i1, i2, l2, br, swt] at hs
    repeat' split at hs
    all_goals first
      | (cases hs; done)
      | exact to_mono hs rf
  | iload _ =>
    simp only [am_do, i1, i2, l2, br, swt] at hs
    repeat' split at hs
    all_goals first
      | (cases hs; done)
      | exact to_mono hs rf
  | aload_n _ =>
    simp only [am_do, i1, i2, l2, br, swt] at hs
    repeat' split at hs
    all_goals first
      | (cases hs; done)
      | exact to_mono hs rf
  | aload _ =>
    simp only [am_do, i1, i2, l2, br, swt] at hs
    repeat' split at hs
    all_goals first
      | (cases hs; done)
      | exact to_mono hs rf
  | lload _ =>
    simp only [am_do, i1, i2, l2, br, swt] at hs
    repeat' split at hs
    all_goals first
      | (cases hs; done)
      | exact to_mono hs rf
  | istore_n _ =>
    simp only [am_do, i1, i2, l2, br, swt] at hs
    repeat' split at hs
    all_goals first
      | (cases hs; done)
      | exact to_mono hs rf
  | istore _ =>
    simp only [am_do, i1, i2, l2, br, swt] at hs
    repeat' split at hs
    all_goals first
      | (cases hs; done)
      | exact to_mono hs rf
  | astore_n _ =>
    simp only [am_do, i1, i2, l2, br, swt] at hs
    repeat' split at hs
    all_goals first
      | (cases hs; done)
      | exact to_mono hs rf
  | astore _ =>
    simp only [am_do, i1, i2, l2, br, swt] at hs
    repeat' split at hs
    all_goals first
      | (cases hs; done)
      | exact to_mono hs rf
  | lstore _ =>
    simp only [am_do, i1, i2, l2, br, swt] at hs
    repeat' split at hs
    all_goals first
      | (cases hs; done)
      | exact to_mono hs rf
  | iinc _ _ =>
    simp only [am_do, i1, i2, l2, br, swt] at hs
    repeat' split at hs
    all_goals first
      | (cases hs; done)
      | exact to_mono hs rf
  | iadd =>
    simp only [am_do, i1, i2, l2, br, swt] at hs
    repeat' split at hs
    all_goals first
      | (cases hs; done)
      | exact to_mono hs rf
  | isub =>
    simp only [am_do, i1, i2, l2, br, swt] at hs
    repeat' split at hs
    all_goals first
      | (cases hs; done)
      | exact to_mono hs rf
  | imul =>
    simp only [am_do, i1, i2, l2, br, swt] at hs
    repeat' split at hs
    all_goals first
      | (cases hs; done)
      | exact to_mono hs rf
  | iand =>
    simp only [am_do, i1, i2, l2, br, swt] at hs
    repeat' split at hs
    all_goals first
      | (cases hs; done)
      | exact to_mono hs rf
  | ior =>
    simp only [am_do, i1, i2, l2, br, swt] at hs
    repeat' split at hs
    all_goals first
      | (cases hs; done)
      | exact to_mono hs rf
  | ixor =>
    simp only [am_do, i1, i2, l2, br, swt] at hs
    repeat' split at hs
    all_goals first
      | (cases hs; done)
      | exact to_mono hs rf
  | ishl =>
    simp only [am_do, i1, i2, l2, br, swt] at hs
    repeat' split at hs
    all_goals first
      | (cases hs; done)
      | exact to_mono hs rf
  | ishr =>
    simp only [am_do, i1, i2, l2, br, swt] at hs
    repeat' split at hs
    all_goals first
      | (cases hs; done)
      | exact to_mono hs rf
  | iushr =>
    simp only [am_do, i1, i2, l2, br, swt] at hs
    repeat' split at hs
    all_goals first
      | (cases hs; done)
      | exact to_mono hs rf
  | idiv =>
    simp only [am_do, i1, i2, l2, br, swt] at hs
    repeat' split at hs
    all_goals first
      | (cases hs; done)
      | exact to_mono hs rf
  | irem =>
    simp only [am_do, i1, i2, l2, br, swt] at hs
    repeat' split at hs
    all_goals first
      | (cases hs; done)
      | exact to_mono hs rf
  | ineg =>
    simp only [am_do, i1, i2, l2, br, swt] at hs
    repeat' split at hs
    all_goals first
      | (cases hs; done)
      | exact to_mono hs rf
  | i2l =>
    simp only [am_do, i1, i2, l2, br, swt] at hs
    repeat' split at hs
    all_goals first
      | (cases hs; done)
      | exact to_mono hs rf
  | i2s =>
    simp only [am_do, i1, i2, l2, br, swt] at hs
    repeat' split at hs
    all_goals first
      | (cases hs; done)
      | exact to_mono hs rf
  | l2i =>
    simp only [am_do, i1, i2, l2, br, swt] at hs
    repeat' split at hs
    all_goals first
      | (cases hs; done)
      | exact to_mono hs rf
  | lneg =>
    simp only [am_do, i1, i2, l2, br, swt] at hs
    repeat' split at hs
    all_goals first
      | (cases hs; done)
      | exact to_mono hs rf
  | ladd =>
    simp only [am_do, i1, i2, l2, br, swt] at hs
    repeat' split at hs
    all_goals first
      | (cases hs; done)
      | exact to_mono hs rf
  | lsub =>
    simp only [am_do, i1, i2, l2, br, swt] at hs
    repeat' split at hs
    all_goals first
      | (cases hs; done)
      | exact to_mono hs rf
  | lcmp =>
    simp only [am_do, i1, i2, l2, br, swt] at hs
    repeat' split at hs
    all_goals first
      | (cases hs; done)
      | exact to_mono hs rf
  | dup =>
    simp only [am_do, i1, i2, l2, br, swt] at hs
    repeat' split at hs
    all_goals first
      | (cases hs; done)
      | exact to_mono hs rf
  | pop =>
    simp only [am_do, i1, i2, l2, br, swt] at hs
    repeat' split at hs
    all_goals first
      | (cases hs; done)
      | exact to_mono hs rf
  | dup2 =>
    simp only [am_do, i1, i2, l2, br, swt] at hs
    repeat' split at hs
    all_goals first
      | (cases hs; done)
      | exact to_mono hs rf
  | goto _ =>
    simp only [am_do, i1, i2, l2, br, swt] at hs
    repeat' split at hs
    all_goals first
      | (cases hs; done)
      | exact to_mono hs rf
  | ifCond _ _ =>
    simp only [am_do, i1, i2, l2, br, swt] at hs
    repeat' split at hs
    all_goals first
      | (cases hs; done)
      | exact to_mono hs rf
  | if_icmp _ _ =>
    simp only [am_do, i1, i2, l2, br, swt] at hs
    repeat' split at hs
    all_goals first
      | (cases hs; done)
      | exact to_mono hs rf
  | tableswitch _ _ _ _ =>
    simp only [am_do, i1, i2, l2, br, swt] at hs
    repeat' split at hs
    all_goals first
      | (cases hs; done)
      | exact to_mono hs rf
  | lookupswitch _ _ =>
    simp only [am_do, i1, i2, l2, br, swt] at hs
    repeat' split at hs
    all_goals first
      | (cases hs; done)
      | exact to_mono hs rf
  | getfield _ =>
    simp only [am_do, i1, i2, l2, br, swt] at hs
    repeat' split at hs
    all_goals first
      | (cases hs; done)
      | exact to_mono hs rf
  | putfield _ =>
    simp only [am_do, i1, i2, l2, br, swt] at hs
    repeat' split at hs
    all_goals first
      | (cases hs; done)
      | exact to_mono hs rf
  | getstatic _ =>
    simp only [am_do, i1, i2, l2, br, swt] at hs
    repeat' split at hs
    all_goals first
      | (cases hs; done)
      | exact to_mono hs rf
  | ldc _ =>
    simp only [am_do, i1, i2, l2, br, swt] at hs
    repeat' split at hs
    all_goals first
      | (cases hs; done)
      | exact to_mono hs rf
  | ldc_w _ =>
    simp only [am_do, i1, i2, l2, br, swt] at hs
    repeat' split at hs
    all_goals first
      | (cases hs; done)
      | exact to_mono hs rf
  | iaload =>
    simp only [am_do, i1, i2, l2, br, swt] at hs
    repeat' split at hs
    all_goals first
      | (cases hs; done)
      | exact to_mono hs rf
  | baload =>
    simp only [am_do, i1, i2, l2, br, swt] at hs
    repeat' split at hs
    all_goals first
      | (cases hs; done)
      | exact to_mono hs rf
  | caload =>
    simp only [am_do, i1, i2, l2, br, swt] at hs
    repeat' split at hs
    all_goals first
      | (cases hs; done)
      | exact to_mono hs rf
  | aaload =>
    simp only [am_do, i1, i2, l2, br, swt] at hs
    repeat' split at hs
    all_goals first
      | (cases hs; done)
      | exact to_mono hs rf
  | iastore =>
    simp only [am_do, i1, i2, l2, br, swt] at hs
    repeat' split at hs
    all_goals first
      | (cases hs; done)
      | exact to_mono hs rf
  | bastore =>
    simp only [am_do, i1, i2, l2, br, swt] at hs
    repeat' split at hs
    all_goals first
      | (cases hs; done)
      | exact to_mono hs rf
  | castore =>
    simp only [am_do, i1, i2, l2, br, swt] at hs
    repeat' split at hs
    all_goals first
      | (cases hs; done)
      | exact to_mono hs rf
  | aastore =>
    simp only [am_do, i1, i2, l2, br, swt] at hs
    repeat' split at hs
    all_goals first
      | (cases hs; done)
      | exact to_mono hs rf
  | arraylength =>
    simp only [am_do, i1, i2, l2, br, swt] at hs
    repeat' split at hs
    all_goals first
      | (cases hs; done)
      | exact to_mono hs rf
  | new _ =>
    simp only [am_do, i1, i2, l2, br, swt] at hs
    repeat' split at hs
    all_goals first
      | (cases hs; done)
      | exact to_mono hs ⟨Nat.le_add_right _ _, Nat.le_add_right _ _⟩
  | newarray _ =>
    simp only [am_do, i1, i2, l2, br, swt] at hs
    repeat' split at hs
    all_goals first
      | (cases hs; done)
      | exact to_mono hs ⟨Nat.le_add_right _ _, Nat.le_add_right _ _⟩
  | anewarray _ =>
    simp only [am_do, i1, i2, l2, br, swt] at hs
    repeat' split at hs
    all_goals first
      | (cases hs; done)
      | exact to_mono hs ⟨Nat.le_add_right _ _, Nat.le_add_right _ _⟩
  | invokevirtual ix =>
    simp only [am_do] at hs
    replace hs := if_so hs
    obtain ⟨-, hs⟩ := hs
    split at hs
    all_goals first
      | (cases hs; done)
      | (rename_i k1 hk
         obtain ⟨jl, jt, js, hmem, hck0⟩ := lkM_spec hk
         simp only [tM_ck, Bool.and_eq_true, decide_eq_true_eq] at hck0
         repeat' split at hs
         all_goals first
           | (cases hs; done)
           | exact to_mono hs rf
           | (obtain ⟨r0, e0, rfl⟩ := aft_some hs
              exact hc _ _ r0 (by first | exact hck0.2 | exact hck0.1.2 | exact hck0.1.1.2 | exact hck0.1.1.1.2) e0))
  | invokestatic ix =>
    simp only [am_do] at hs
    replace hs := if_so hs
    obtain ⟨-, hs⟩ := hs
    split at hs
    all_goals first
      | (cases hs; done)
      | (rename_i k1 hk
         obtain ⟨jl, jt, js, hmem, hck0⟩ := lkM_spec hk
         simp only [tM_ck, Bool.and_eq_true, decide_eq_true_eq] at hck0
         repeat' split at hs
         all_goals first
           | (cases hs; done)
           | exact to_mono hs rf
           | (obtain ⟨r0, e0, rfl⟩ := aft_some hs
              exact hc _ _ r0 (by first | exact hck0.2 | exact hck0.1.2 | exact hck0.1.1.2 | exact hck0.1.1.1.2) e0))
  | invokespecial ix =>
    simp only [am_do] at hs
    replace hs := if_so hs
    obtain ⟨-, hs⟩ := hs
    split at hs
    all_goals first
      | (cases hs; done)
      | (rename_i k1 hk
         obtain ⟨jl, jt, js, hmem, hck0⟩ := lkM_spec hk
         simp only [tM_ck, Bool.and_eq_true, decide_eq_true_eq] at hck0
         repeat' split at hs
         all_goals first
           | (cases hs; done)
           | exact to_mono hs rf
           | (obtain ⟨r0, e0, rfl⟩ := aft_some hs
              exact hc _ _ r0 (by first | exact hck0.2 | exact hck0.1.2 | exact hck0.1.1.2 | exact hck0.1.1.1.2) e0))
  | ireturn =>
    exfalso
    replace hs := if_so hs
    obtain ⟨-, hs⟩ := hs
    split at hs <;> first | (cases hs; done) | (replace hs := if_so hs; obtain ⟨-, hs⟩ := hs; cases hs; done)
  | lreturn =>
    exfalso
    replace hs := if_so hs
    obtain ⟨-, hs⟩ := hs
    split at hs <;> first | (cases hs; done) | (replace hs := if_so hs; obtain ⟨-, hs⟩ := hs; cases hs; done)
  | areturn =>
    exfalso
    replace hs := if_so hs
    obtain ⟨-, hs⟩ := hs
    split at hs <;> first | (cases hs; done) | (replace hs := if_so hs; obtain ⟨-, hs⟩ := hs; cases hs; done)
  | return_ =>
    exfalso
    replace hs := if_so hs
    obtain ⟨-, hs⟩ := hs
    split at hs <;> first | (cases hs; done) | (replace hs := if_so hs; obtain ⟨-, hs⟩ := hs; cases hs; done)
  | _ => cases hs
/-- a step that ends a method -/
def am_End (k : Nat) (i : Instr) (len : Nat) (st : List Value) (h : AH) (nx : AN) (r : AR) : Prop := len = 1 ∧ r.2.1 = h ∧ r.2.2 = nx ∧
  ((i = .ireturn ∧ ∃ v ty, st = [.int v] ∧ mR k = some ty ∧ nR ty v = true ∧ r.1 = some (.int v)) ∨ (i = .lreturn ∧ ∃ v, st = [.long v] ∧ mR k = some .long ∧ r.1 = some (.long v)) ∨ (i = .areturn ∧ ∃ v ty, st = [.ref v] ∧ mR k = some ty ∧ refTy ty = true ∧ r.1 = some (.ref v)) ∨ (i = .return_ ∧ st = [] ∧ mR k = none ∧ r.1 = none))
theorem to_nr {pc : Nat} {ls st : List Value} {h : AH} {n1 : AN} {r : AR} (q : to pc ls st h n1 = some (.inr r)) : False := by
  simp only [to, Option.some.injEq, reduceCtorEq] at q
theorem aft_nr {pc : Nat} {ls rest : List Value} {o : Option AR} {r : AR} (q : aft pc ls rest o = some (.inr r)) : False := by
  cases o with
  | none => cases q
  | some x => obtain ⟨v, h, nx⟩ := x; exact to_nr q
theorem am_end {call : Nat → List Value → AH → AN → Option AR} {k : Nat} {i : Instr} {len pc : Nat} {ls st : List Value} {h : AH} {nx : AN} {r : AR} (hs : am_do call k i len pc ls st h nx = some (.inr r)) : am_End k i len st h nx r := by
  cases i with
  | iconst _ =>
    exfalso
    simp only [am_do, i1, i2, l2, br, swt] at hs
    repeat' split at hs
    all_goals first
      | (cases hs; done)
      | exact to_nr hs
      | exact aft_nr hs
  | bipush _ =>
    exfalso
    simp only [am_do, i1, i2, l2, br, swt] at hs
    repeat' split at hs
    all_goals first
      | (cases hs; done)
      | exact to_nr hs
      | exact aft_nr hs
  | sipush _ =>
    exfalso
    simp only [am_do, i1, i2, l2, br, swt] at hs
    repeat' split at hs
    all_goals first
      | (cases hs; done)
      | exact to_nr hs
      | exact aft_nr hs
  | lconst _ =>
    exfalso
    simp only [am_do, i1, i2, l2, br, swt] at hs
    repeat' split at hs
    all_goals first
      | (cases hs; done)
      | exact to_nr hs
      | exact aft_nr hs
  | iload_n _ =>
    exfalso
    simp only [am_do, i1, i2, l2, br, swt] at hs
    repeat' split at hs
    all_goals first
      | (cases hs; done)
      | exact to_nr hs
      | exact aft_nr hs
  | iload _ =>
    exfalso
    simp only [am_do, i1, i2, l2, br, swt] at hs
    repeat' split at hs
    all_goals first
      | (cases hs; done)
      | exact to_nr hs
      | exact aft_nr hs
  | aload_n _ =>
    exfalso
    simp only [am_do, i1, i2, l2, br, swt] at hs
    repeat' split at hs
    all_goals first
      | (cases hs; done)
      | exact to_nr hs
      | exact aft_nr hs
  | aload _ =>
    exfalso
    simp only [am_do, i1, i2, l2, br, swt] at hs
    repeat' split at hs
    all_goals first
      | (cases hs; done)
      | exact to_nr hs
      | exact aft_nr hs
  | lload _ =>
    exfalso
    simp only [am_do, i1, i2, l2, br, swt] at hs
    repeat' split at hs
    all_goals first
      | (cases hs; done)
      | exact to_nr hs
      | exact aft_nr hs
  | istore_n _ =>
    exfalso
    simp only [am_do, i1, i2, l2, br, swt] at hs
    repeat' split at hs
    all_goals first
      | (cases hs; done)
      | exact to_nr hs
      | exact aft_nr hs
  | istore _ =>
    exfalso
    simp only [am_do, i1, i2, l2, br, swt] at hs
    repeat' split at hs
    all_goals first
      | (cases hs; done)
      | exact to_nr hs
      | exact aft_nr hs
  | astore_n _ =>
    exfalso
    simp only [am_do, i1, i2, l2, br, swt] at hs
    repeat' split at hs
    all_goals first
      | (cases hs; done)
      | exact to_nr hs
      | exact aft_nr hs
  | astore _ =>
    exfalso
    simp only [am_do, i1, i2, l2, br, swt] at hs
    repeat' split at hs
    all_goals first
      | (cases hs; done)
      | exact to_nr hs
      | exact aft_nr hs
  | lstore _ =>
    exfalso
    simp only [am_do, i1, i2, l2, br, swt] at hs
    repeat' split at hs
    all_goals first
      | (cases hs; done)
      | exact to_nr hs
      | exact aft_nr hs
  | iinc _ _ =>
    exfalso
    simp only [am_do, i1, i2, l2, br, swt] at hs
    repeat' split at hs
    all_goals first
      | (cases hs; done)
      | exact to_nr hs
      | exact aft_nr hs
  | iadd =>
    exfalso
    simp only [am_do, i1, i2, l2, br, swt] at hs
    repeat' split at hs
    all_goals first
      | (cases hs; done)
      | exact to_nr hs
      | exact aft_nr hs
  | isub =>
    exfalso
    simp only [am_do, i1, i2, l2, br, swt] at hs
    repeat' split at hs
    all_goals first
      | (cases hs; done)
      | exact to_nr hs
      | exact aft_nr hs
  | imul =>
    exfalso
    simp only [am_do, i1, i2, l2, br, swt] at hs
    repeat' split at hs
    all_goals first
      | (cases hs; done)
      | exact to_nr hs
      | exact aft_nr hs
  | iand =>
    exfalso
    simp only [am_do, i1, i2, l2, br, swt] at hs
    repeat' split at hs
    all_goals first
      | (cases hs; done)
      | exact to_nr hs
      | exact aft_nr hs
  | ior =>
    exfalso
    simp only [am_do, i1, i2, l2, br, swt] at hs
    repeat' split at hs
    all_goals first
      | (cases hs; done)
      | exact to_nr hs
      | exact aft_nr hs
  | ixor =>
    exfalso
    simp only [am_do, i1, i2, l2, br, swt] at hs
    repeat' split at hs
    all_goals first
      | (cases hs; done)
      | exact to_nr hs
      | exact aft_nr hs
  | ishl =>
    exfalso
    simp only [am_do, i1, i2, l2, br, swt] at hs
    repeat' split at hs
    all_goals first
      | (cases hs; done)
      | exact to_nr hs
      | exact aft_nr hs
  | ishr =>
    exfalso
    simp only [am_do, i1, i2, l2, br, swt] at hs
    repeat' split at hs
    all_goals first
      | (cases hs; done)
      | exact to_nr hs
      | exact aft_nr hs
  | iushr =>
    exfalso
    simp only [am_do, i1, i2, l2, br, swt] at hs
    repeat' split at hs
    all_goals first
      | (cases hs; done)
      | exact to_nr hs
      | exact aft_nr hs
  | idiv =>
    exfalso
    simp only [am_do, i1, i2, l2, br, swt] at hs
    repeat' split at hs
    all_goals first
      | (cases hs; done)
      | exact to_nr hs
      | exact aft_nr hs
  | irem =>
    exfalso
    simp only [am_do, i1, i2, l2, br, swt] at hs
    repeat' split at hs
    all_goals first
      | (cases hs; done)
      | exact to_nr hs
      | exact aft_nr hs
  | ineg =>
    exfalso
    simp only [am_do, i1, i2, l2, br, swt] at hs
    repeat' split at hs
    all_goals first
      | (cases hs; done)
      | exact to_nr hs
      | exact aft_nr hs
  | i2l =>
    exfalso
    simp only [am_do, i1, i2, l2, br, swt] at hs
    repeat' split at hs
    all_goals first
      | (cases hs; done)
      | exact to_nr hs
      | exact aft_nr hs
  | i2s =>
    exfalso
    simp only [am_do, i1, i2, l2, br, swt] at hs
    repeat' split at hs
    all_goals first
      | (cases hs; done)
      | exact to_nr hs
      | exact aft_nr hs
  | l2i =>
    exfalso
    simp only [am_do, i1, i2, l2, br, swt] at hs
    repeat' split at hs
    all_goals first
      | (cases hs; done)
      | exact to_nr hs
      | exact aft_nr hs
  | lneg =>
    exfalso
    simp only [am_do, i1, i2, l2, br, swt] at hs
    repeat' split at hs
    all_goals first
      | (cases hs; done)
      | exact to_nr hs
      | exact aft_nr hs
  | ladd =>
    exfalso
    simp only [am_do, i1, i2, l2, br, swt] at hs
    repeat' split at hs
    all_goals first
      | (cases hs; done)
      | exact to_nr hs
      | exact aft_nr hs
  | lsub =>
    exfalso
    simp only [am_do, i1, i2, l2, br, swt] at hs
    repeat' split at hs
    all_goals first
      | (cases hs; done)
      | exact to_nr hs
      | exact aft_nr hs
  | lcmp =>
    exfalso
    simp only [am_do, i1, i2, l2, br, swt] at hs
    repeat' split at hs
    all_goals first
      | (cases hs; done)
      | exact to_nr hs
      | exact aft_nr hs
  | dup =>
    exfalso
    simp only [am_do, i1, i2, l2, br, swt] at hs
    repeat' split at hs
    all_goals first
      | (cases hs; done)
      | exact to_nr hs
      | exact aft_nr hs
  | pop =>
    exfalso
    simp only [am_do, i1, i2, l2, br, swt] at hs
    repeat' split at hs
    all_goals first
      | (cases hs; done)
      | exact to_nr hs
      | exact aft_nr hs
  | dup2 =>
    exfalso
    simp only [am_do, i1, i2, l2, br, swt] at hs
    repeat' split at hs
    all_goals first
      | (cases hs; done)
      | exact to_nr hs
      | exact aft_nr hs
  | goto _ =>
    exfalso
    simp only [am_do, i1, i2, l2, br, swt] at hs
    repeat' split at hs
    all_goals first
      | (cases hs; done)
      | exact to_nr hs
      | exact aft_nr hs
  | ifCond _ _ =>
    exfalso
    simp only [am_do, i1, i2, l2, br, swt] at hs
    repeat' split at hs
    all_goals first
      | (cases hs; done)
      | exact to_nr hs
      | exact aft_nr hs
  | if_icmp _ _ =>
    exfalso
    simp only [am_do, i1, i2, l2, br, swt] at hs
    repeat' split at hs
    all_goals first
      | (cases hs; done)
      | exact to_nr hs
      | exact aft_nr hs
  | tableswitch _ _ _ _ =>
    exfalso
    simp only [am_do, i1, i2, l2, br, swt] at hs
    repeat' split at hs
    all_goals first
      | (cases hs; done)
      | exact to_nr hs
      | exact aft_nr hs
  | lookupswitch _ _ =>
    exfalso
    simp only [am_do, i1, i2, l2, br, swt] at hs
    repeat' split at hs
    all_goals first
      | (cases hs; done)
      | exact to_nr hs
      | exact aft_nr hs
  | getfield _ =>
    exfalso
    simp only [am_do, i1, i2, l2, br, swt] at hs
    repeat' split at hs
    all_goals first
      | (cases hs; done)
      | exact to_nr hs
      | exact aft_nr hs
  | putfield _ =>
    exfalso
    simp only [am_do, i1, i2, l2, br, swt] at hs
    repeat' split at hs
    all_goals first
      | (cases hs; done)
      | exact to_nr hs
      | exact aft_nr hs
  | getstatic _ =>
    exfalso
    simp only [am_do, i1, i2, l2, br, swt] at hs
    repeat' split at hs
    all_goals first
      | (cases hs; done)
      | exact to_nr hs
      | exact aft_nr hs
  | ldc _ =>
    exfalso
    simp only [am_do, i1, i2, l2, br, swt] at hs
    repeat' split at hs
    all_goals first
      | (cases hs; done)
      | exact to_nr hs
      | exact aft_nr hs
  | ldc_w _ =>
    exfalso
    simp only [am_do, i1, i2, l2, br, swt] at hs
    repeat' split at hs
    all_goals first
      | (cases hs; done)
      | exact to_nr hs
      | exact aft_nr hs
  | iaload =>
    exfalso
    simp only [am_do, i1, i2, l2, br, swt] at hs
    repeat' split at hs
    all_goals first
      | (cases hs; done)
      | exact to_nr hs
      | exact aft_nr hs
  | baload =>
    exfalso
    simp only [am_do, i1, i2, l2, br, swt] at hs
    repeat' split at hs
    all_goals first
      | (cases hs; done)
      | exact to_nr hs
      | exact aft_nr hs
  | caload =>
    exfalso
    simp only [am_do, i1, i2, l2, br, swt] at hs
    repeat' split at hs
    all_goals first
      | (cases hs; done)
      | exact to_nr hs
      | exact aft_nr hs
  | aaload =>
    exfalso
    simp only [am_do, i1, i2, l2, br, swt] at hs
    repeat' split at hs
    all_goals first
      | (cases hs; done)
      | exact to_nr hs
      | exact aft_nr hs
  | iastore =>
    exfalso
    simp only [am_do, i1, i2, l2, br, swt] at hs
    repeat' split at hs
    all_goals first
      | (cases hs; done)
      | exact to_nr hs
      | exact aft_nr hs
  | bastore =>
    exfalso
    simp only [am_do, i1, i2, l2, br, swt] at hs
    repeat' split at hs
    all_goals first
      | (cases hs; done)
      | exact to_nr hs
      | exact aft_nr hs
  | castore =>
    exfalso
    simp only [am_do, i1, i2, l2, br, swt] at hs
    repeat' split at hs
    all_goals first
      | (cases hs; done)
      | exact to_nr hs
      | exact aft_nr hs
  | aastore =>
    exfalso
    simp only [am_do, i1, i2, l2, br, swt] at hs
    repeat' split at hs
    all_goals first
      | (cases hs; done)
      | exact to_nr hs
      | exact aft_nr hs
  | arraylength =>
    exfalso
    simp only [am_do, i1, i2, l2, br, swt] at hs
    repeat' split at hs
    all_goals first
      | (cases hs; done)
      | exact to_nr hs
      | exact aft_nr hs
  | new _ =>
    exfalso
    simp only [am_do, i1, i2, l2, br, swt] at hs
    repeat' split at hs
    all_goals first
      | (cases hs; done)
      | exact to_nr hs
      | exact aft_nr hs
  | newarray _ =>
    exfalso
    simp only [am_do, i1, i2, l2, br, swt] at hs
    repeat' split at hs
    all_goals first
      | (cases hs; done)
      | exact to_nr hs
      | exact aft_nr hs
  | anewarray _ =>
    exfalso
    simp only [am_do, i1, i2, l2, br, swt] at hs
    repeat' split at hs
    all_goals first
      | (cases hs; done)
      | exact to_nr hs
      | exact aft_nr hs
  | invokevirtual _ =>
    exfalso
    simp only [am_do, i1, i2, l2, br, swt] at hs
    repeat' split at hs
    all_goals first
      | (cases hs; done)
      | exact to_nr hs
      | exact aft_nr hs
  | invokestatic _ =>
    exfalso
    simp only [am_do, i1, i2, l2, br, swt] at hs
    repeat' split at hs
    all_goals first
      | (cases hs; done)
      | exact to_nr hs
      | exact aft_nr hs
  | invokespecial _ =>
    exfalso
    simp only [am_do, i1, i2, l2, br, swt] at hs
    repeat' split at hs
    all_goals first
      | (cases hs; done)
      | exact to_nr hs
      | exact aft_nr hs
  | ireturn =>
    replace hs := if_so hs
    obtain ⟨rfl, hs⟩ := hs
    split at hs
    · rename_i v ty hm
      replace hs := if_so hs
      obtain ⟨hn, hs⟩ := hs
      cases hs
      exact ⟨rfl, rfl, rfl, Or.inl ⟨rfl, _, _, rfl, hm, hn, rfl⟩⟩
    · cases hs
  | lreturn =>
    replace hs := if_so hs
    obtain ⟨rfl, hs⟩ := hs
    split at hs
    · rename_i v hm
      cases hs
      exact ⟨rfl, rfl, rfl, Or.inr (Or.inl ⟨rfl, _, rfl, hm, rfl⟩)⟩
    · cases hs
  | areturn =>
    replace hs := if_so hs
    obtain ⟨rfl, hs⟩ := hs
    split at hs
    · rename_i v ty hm
      replace hs := if_so hs
      obtain ⟨hn, hs⟩ := hs
      cases hs
      exact ⟨rfl, rfl, rfl, Or.inr (Or.inr (Or.inl ⟨rfl, _, _, rfl, hm, hn, rfl⟩))⟩
    · cases hs
  | return_ =>
    replace hs := if_so hs
    obtain ⟨rfl, hs⟩ := hs
    split at hs
    · rename_i hm
      cases hs
      exact ⟨rfl, rfl, rfl, Or.inr (Or.inr (Or.inr ⟨rfl, rfl, hm, rfl⟩))⟩
    · cases hs
  | _ => cases hs
