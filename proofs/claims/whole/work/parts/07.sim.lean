/-! the simulation: what the abstract machine does, the model's machine does -/
theorem ins_dec {k pc : Nat} {x : Instr × Nat} (h : ins k pc = some x) : decode (mC k) pc = .ok x := by
  unfold ins at h
  cases hd : decode (mC k) pc with
  | ok y => rw [hd] at h; cases h; rfl
  | error y => rw [hd] at h; cases h
def am_B (p : Program) (R : Room) (s : State) (m : MethodId) (args : Array Value) (meth : Method) (c : Code) (D : va_G) (ad dA : Nat → Nat) (sz k d : Nat) (n0 : AN) : Prop :=
  p.tables.exec = Jvm.exec ∧ c.code = mC k ∧ c.maxLocals = mL k ∧ s.vm.findClass (oN (mO k)) = some m.cls ∧ (∀ w ∈ gw, w.before args s = true) ∧ am_C D ad dA sz s ∧ meth.name = (mY k).name ∧ d + 1 ≤ R.frames ∧ 64 * (d + 1) ≤ R.locals ∧ s.heap.size = sz + n0.1
def am_W (p : Program) (l : Launch) (e : Env) (R : Room) (s : State) (m : MethodId) (args : Array Value) (below : List Frame) (meth : Method) (c : Code) (Q : State → Prop) (D : va_G) (ad dA : Nat → Nat) (sz k : Nat) (n0 : AN) (f : AF) : Prop :=
  ∀ (cls : Array Slot) (H : Heap) (locs : List Loc) (cells slots : Nat), am_St D ad dA sz s (mL k) n0 f.2.1 f.2.2.2.1 f.2.2.2.2 cls H locs cells slots → W p l e R s m args below meth c H locs cells slots Q (F0 m f.1 cls (f.2.2.1.map (sv ad)))
theorem to_inj {pc : Nat} {ls st : List Value} {h : AH} {nx : AN} {f : AF} (q : to pc ls st h nx = some (.inl f)) : f = (pc, ls, st, h, nx) := by
  simp only [to, Option.some.injEq, Sum.inl.injEq] at q
  exact q.symm
theorem i1_some {st : List Value} {g : Int32 → List Value → Option (AF ⊕ AR)} {x : AF ⊕ AR} (q : i1 st g = some x) : ∃ y r, st = .int y :: r ∧ g y r = some x := by
  unfold i1 at q
  split at q
  · exact ⟨_, _, rfl, q⟩
  · cases q
theorem i2_some {st : List Value} {g : Int32 → Int32 → List Value → Option (AF ⊕ AR)} {x : AF ⊕ AR} (q : i2 st g = some x) : ∃ a b r, st = .int b :: .int a :: r ∧ g a b r = some x := by
  unfold i2 at q
  split at q
  · exact ⟨_, _, _, rfl, q⟩
  · cases q
theorem l2_some {st : List Value} {g : Int64 → Int64 → List Value → Option (AF ⊕ AR)} {x : AF ⊕ AR} (q : l2 st g = some x) : ∃ a b r, st = .long b :: .long a :: r ∧ g a b r = some x := by
  unfold l2 at q
  split at q
  · exact ⟨_, _, _, rfl, q⟩
  · cases q
theorem if_so {c : Prop} {dc : Decidable c} {α : Type} {a : Option α} {x : α} (q : (if c then a else none) = some x) : c ∧ a = some x := by
  by_cases h : c
  · exact ⟨h, by rw [if_pos h] at q; exact q⟩
  · rw [if_neg h] at q; cases q
theorem jok_jmp {pc : Nat} {off : Int} (h : jok pc off = true) : (pc : Int) + off = (jmp pc off : Int) := by
  have h1 : 0 ≤ (pc : Int) + off := of_decide_eq_true h
  unfold jmp
  omega
theorem ld_int {ls : List Value} {i : Nat} {v : Value} (h : ld ls i 0 = some v) : ∃ x, v = .int x ∧ ls[i]? = some (.int x) := by
  unfold ld at h
  split at h <;> first | (cases h; exact ⟨_, rfl, by assumption⟩) | (cases h; done) | (simp_all; done)
theorem ld_ref {ls : List Value} {i : Nat} {v : Value} (h : ld ls i 1 = some v) : ∃ x, v = .ref x ∧ ls[i]? = some (.ref x) := by
  unfold ld at h
  split at h <;> first | (cases h; exact ⟨_, rfl, by assumption⟩) | (cases h; done) | (simp_all; done)
theorem ld_long {ls : List Value} {i : Nat} {v : Value} (h : ld ls i 2 = some v) : ∃ x, v = .long x ∧ ls[i]? = some (.long x) := by
  unfold ld at h
  split at h <;> first | (cases h; exact ⟨_, rfl, by assumption⟩) | (cases h; done) | (simp_all; done)
theorem st1_some {ls ls' : List Value} {i : Nat} {v : Value} (h : st1 ls i v = some ls') : ls' = ls.set i v ∧ i < ls.length ∧ ∀ q, ls[i]? ≠ some (.retAddr q) := by
  unfold st1 at h
  split at h
  · cases h
  · rename_i w hw hn
    cases h
    exact ⟨rfl, (List.getElem?_eq_some_iff.mp hn).1, fun q e => hw q (Option.some.inj (hn.symm.trans e))⟩
  · cases h
theorem st2_some {ls ls' : List Value} {i : Nat} {v : Value} (h : st2 ls i v = some ls') : ls' = (ls.set i v).set (i + 1) (.retAddr 0) ∧ i + 1 < ls.length ∧ (∀ q, ls[i]? ≠ some (.retAddr q)) ∧ ∀ q, ls[i + 1]? ≠ some (.long q) := by
  unfold st2 at h
  split at h
  · cases h
  · cases h
  · rename_i a b w1 w2 h1 h2 q1 q2
    cases h
    exact ⟨rfl, (List.getElem?_eq_some_iff.mp q2).1, fun q e => h1 q (Option.some.inj (q1.symm.trans e)), fun q e => h2 q (Option.some.inj (q2.symm.trans e))⟩
  · cases h
section SM
variable {p : Program} {l : Launch} {e : Env} {R : Room} {s : State} {m : MethodId} {args : Array Value} {below : List Frame} {meth : Method} {c : Code} {Q : State → Prop} {D : va_G} {ad dA : Nat → Nat} {sz k d : Nat} {n0 : AN} {call : Nat → List Value → AH → AN → Option AR} {pc len : Nat} {ls st : List Value} {h : AH} {nx : AN} {f : AF}

theorem sm_iconst {n : Int} (B : am_B p R s m args meth c D ad dA sz k d n0) (hd : decode (mC k) pc = .ok (.iconst n, len)) (hs : am_do call k (.iconst n) len pc ls st h nx = some (.inl f)) (kk : am_W p l e R s m args below meth c Q D ad dA sz k n0 f) : am_W p l e R s m args below meth c Q D ad dA sz k n0 (pc, ls, st, h, nx) := by
  obtain ⟨hx, hb, hml, hown, hts, hC, hin, hfr, hlo, hs0⟩ := B
  intro cls H locs cells slots hS
  obtain ⟨hl, hP, hSS, hH, hc1, hc2⟩ := id hS
  replace hs := if_so hs
  obtain ⟨rfl, hs⟩ := hs
  obtain rfl := to_inj hs
  exact lv_iconst hx hb hd rfl (kk _ _ _ _ _ hS)
theorem sm_bipush {n : Int} (B : am_B p R s m args meth c D ad dA sz k d n0) (hd : decode (mC k) pc = .ok (.bipush n, len)) (hs : am_do call k (.bipush n) len pc ls st h nx = some (.inl f)) (kk : am_W p l e R s m args below meth c Q D ad dA sz k n0 f) : am_W p l e R s m args below meth c Q D ad dA sz k n0 (pc, ls, st, h, nx) := by
  obtain ⟨hx, hb, hml, hown, hts, hC, hin, hfr, hlo, hs0⟩ := B
  intro cls H locs cells slots hS
  obtain ⟨hl, hP, hSS, hH, hc1, hc2⟩ := id hS
  replace hs := if_so hs
  obtain ⟨rfl, hs⟩ := hs
  obtain rfl := to_inj hs
  exact lv_bipush hx hb hd rfl (kk _ _ _ _ _ hS)
theorem sm_sipush {n : Int} (B : am_B p R s m args meth c D ad dA sz k d n0) (hd : decode (mC k) pc = .ok (.sipush n, len)) (hs : am_do call k (.sipush n) len pc ls st h nx = some (.inl f)) (kk : am_W p l e R s m args below meth c Q D ad dA sz k n0 f) : am_W p l e R s m args below meth c Q D ad dA sz k n0 (pc, ls, st, h, nx) := by
  obtain ⟨hx, hb, hml, hown, hts, hC, hin, hfr, hlo, hs0⟩ := B
  intro cls H locs cells slots hS
  obtain ⟨hl, hP, hSS, hH, hc1, hc2⟩ := id hS
  replace hs := if_so hs
  obtain ⟨rfl, hs⟩ := hs
  obtain rfl := to_inj hs
  exact lv_sipush hx hb hd rfl (kk _ _ _ _ _ hS)
theorem sm_lconst {n : Fin 2} (B : am_B p R s m args meth c D ad dA sz k d n0) (hd : decode (mC k) pc = .ok (.lconst n, len)) (hs : am_do call k (.lconst n) len pc ls st h nx = some (.inl f)) (kk : am_W p l e R s m args below meth c Q D ad dA sz k n0 f) : am_W p l e R s m args below meth c Q D ad dA sz k n0 (pc, ls, st, h, nx) := by
  obtain ⟨hx, hb, hml, hown, hts, hC, hin, hfr, hlo, hs0⟩ := B
  intro cls H locs cells slots hS
  obtain ⟨hl, hP, hSS, hH, hc1, hc2⟩ := id hS
  replace hs := if_so hs
  obtain ⟨rfl, hs⟩ := hs
  obtain rfl := to_inj hs
  exact lv_lconst hx hb hd rfl (kk _ _ _ _ _ hS)
theorem sm_iload_n {q : Fin 4} (B : am_B p R s m args meth c D ad dA sz k d n0) (hd : decode (mC k) pc = .ok (.iload_n q, len)) (hs : am_do call k (.iload_n q) len pc ls st h nx = some (.inl f)) (kk : am_W p l e R s m args below meth c Q D ad dA sz k n0 f) : am_W p l e R s m args below meth c Q D ad dA sz k n0 (pc, ls, st, h, nx) := by
  obtain ⟨hx, hb, hml, hown, hts, hC, hin, hfr, hlo, hs0⟩ := B
  intro cls H locs cells slots hS
  obtain ⟨hl, hP, hSS, hH, hc1, hc2⟩ := id hS
  replace hs := if_so hs
  obtain ⟨rfl, hs⟩ := hs
  split at hs
  · rename_i v hv
    obtain ⟨x, rfl, hv3⟩ := ld_int hv
    obtain rfl := to_inj hs
    have hv2 := hl.at hv3 (by rfl)
    exact lv_iload_n hx hb hd rfl hv2 (kk _ _ _ _ _ hS)
  · cases hs
theorem sm_iload {q : Nat} (B : am_B p R s m args meth c D ad dA sz k d n0) (hd : decode (mC k) pc = .ok (.iload q, len)) (hs : am_do call k (.iload q) len pc ls st h nx = some (.inl f)) (kk : am_W p l e R s m args below meth c Q D ad dA sz k n0 f) : am_W p l e R s m args below meth c Q D ad dA sz k n0 (pc, ls, st, h, nx) := by
  obtain ⟨hx, hb, hml, hown, hts, hC, hin, hfr, hlo, hs0⟩ := B
  intro cls H locs cells slots hS
  obtain ⟨hl, hP, hSS, hH, hc1, hc2⟩ := id hS
  replace hs := if_so hs
  obtain ⟨rfl, hs⟩ := hs
  split at hs
  · rename_i v hv
    obtain ⟨x, rfl, hv3⟩ := ld_int hv
    obtain rfl := to_inj hs
    have hv2 := hl.at hv3 (by rfl)
    exact lv_iload hx hb hd hv2 (kk _ _ _ _ _ hS)
  · cases hs
theorem sm_aload_n {q : Fin 4} (B : am_B p R s m args meth c D ad dA sz k d n0) (hd : decode (mC k) pc = .ok (.aload_n q, len)) (hs : am_do call k (.aload_n q) len pc ls st h nx = some (.inl f)) (kk : am_W p l e R s m args below meth c Q D ad dA sz k n0 f) : am_W p l e R s m args below meth c Q D ad dA sz k n0 (pc, ls, st, h, nx) := by
  obtain ⟨hx, hb, hml, hown, hts, hC, hin, hfr, hlo, hs0⟩ := B
  intro cls H locs cells slots hS
  obtain ⟨hl, hP, hSS, hH, hc1, hc2⟩ := id hS
  replace hs := if_so hs
  obtain ⟨rfl, hs⟩ := hs
  split at hs
  · rename_i v hv
    obtain ⟨x, rfl, hv3⟩ := ld_ref hv
    obtain rfl := to_inj hs
    have hv2 := hl.at hv3 (by rfl)
    exact lv_aload_n hx hb hd rfl hv2 (kk _ _ _ _ _ hS)
  · cases hs
theorem sm_aload {q : Nat} (B : am_B p R s m args meth c D ad dA sz k d n0) (hd : decode (mC k) pc = .ok (.aload q, len)) (hs : am_do call k (.aload q) len pc ls st h nx = some (.inl f)) (kk : am_W p l e R s m args below meth c Q D ad dA sz k n0 f) : am_W p l e R s m args below meth c Q D ad dA sz k n0 (pc, ls, st, h, nx) := by
  obtain ⟨hx, hb, hml, hown, hts, hC, hin, hfr, hlo, hs0⟩ := B
  intro cls H locs cells slots hS
  obtain ⟨hl, hP, hSS, hH, hc1, hc2⟩ := id hS
  replace hs := if_so hs
  obtain ⟨rfl, hs⟩ := hs
  split at hs
  · rename_i v hv
    obtain ⟨x, rfl, hv3⟩ := ld_ref hv
    obtain rfl := to_inj hs
    have hv2 := hl.at hv3 (by rfl)
    exact lv_aload hx hb hd hv2 (kk _ _ _ _ _ hS)
  · cases hs
theorem sm_lload {q : Nat} (B : am_B p R s m args meth c D ad dA sz k d n0) (hd : decode (mC k) pc = .ok (.lload q, len)) (hs : am_do call k (.lload q) len pc ls st h nx = some (.inl f)) (kk : am_W p l e R s m args below meth c Q D ad dA sz k n0 f) : am_W p l e R s m args below meth c Q D ad dA sz k n0 (pc, ls, st, h, nx) := by
  obtain ⟨hx, hb, hml, hown, hts, hC, hin, hfr, hlo, hs0⟩ := B
  intro cls H locs cells slots hS
  obtain ⟨hl, hP, hSS, hH, hc1, hc2⟩ := id hS
  replace hs := if_so hs
  obtain ⟨rfl, hs⟩ := hs
  split at hs
  · rename_i v hv
    obtain ⟨x, rfl, hv3⟩ := ld_long hv
    obtain rfl := to_inj hs
    have hv2 := hl.at hv3 (by rfl)
    exact lv_lload hx hb hd hv2 (kk _ _ _ _ _ hS)
  · cases hs
theorem sm_istore_n {q : Fin 4} (B : am_B p R s m args meth c D ad dA sz k d n0) (hd : decode (mC k) pc = .ok (.istore_n q, len)) (hs : am_do call k (.istore_n q) len pc ls st h nx = some (.inl f)) (kk : am_W p l e R s m args below meth c Q D ad dA sz k n0 f) : am_W p l e R s m args below meth c Q D ad dA sz k n0 (pc, ls, st, h, nx) := by
  obtain ⟨hx, hb, hml, hown, hts, hC, hin, hfr, hlo, hs0⟩ := B
  intro cls H locs cells slots hS
  obtain ⟨hl, hP, hSS, hH, hc1, hc2⟩ := id hS
  replace hs := if_so hs
  obtain ⟨rfl, hs⟩ := hs
  replace hs := i1_some hs
  obtain ⟨x, r, rfl, hs⟩ := hs
  split at hs
  · rename_i ls1 hv
    obtain ⟨rfl, g1, g2⟩ := st1_some hv
    obtain rfl := to_inj hs
    exact lv_istore_n hx hb hd rfl hl.has (by rw [← hl.2.2.1]; exact g1) rfl (fun cls1 h1 => kk _ _ _ _ _ ⟨hl.put1 (by rw [← hl.2.2.1]; exact g1) rfl g2 h1, hP, hSS, hH, hc1, hc2⟩)
  · cases hs
theorem sm_istore {q : Nat} (B : am_B p R s m args meth c D ad dA sz k d n0) (hd : decode (mC k) pc = .ok (.istore q, len)) (hs : am_do call k (.istore q) len pc ls st h nx = some (.inl f)) (kk : am_W p l e R s m args below meth c Q D ad dA sz k n0 f) : am_W p l e R s m args below meth c Q D ad dA sz k n0 (pc, ls, st, h, nx) := by
  obtain ⟨hx, hb, hml, hown, hts, hC, hin, hfr, hlo, hs0⟩ := B
  intro cls H locs cells slots hS
  obtain ⟨hl, hP, hSS, hH, hc1, hc2⟩ := id hS
  replace hs := if_so hs
  obtain ⟨rfl, hs⟩ := hs
  replace hs := i1_some hs
  obtain ⟨x, r, rfl, hs⟩ := hs
  split at hs
  · rename_i ls1 hv
    obtain ⟨rfl, g1, g2⟩ := st1_some hv
    obtain rfl := to_inj hs
    exact lv_istore hx hb hd hl.has (by rw [← hl.2.2.1]; exact g1) rfl (fun cls1 h1 => kk _ _ _ _ _ ⟨hl.put1 (by rw [← hl.2.2.1]; exact g1) rfl g2 h1, hP, hSS, hH, hc1, hc2⟩)
  · cases hs
theorem sm_astore_n {q : Fin 4} (B : am_B p R s m args meth c D ad dA sz k d n0) (hd : decode (mC k) pc = .ok (.astore_n q, len)) (hs : am_do call k (.astore_n q) len pc ls st h nx = some (.inl f)) (kk : am_W p l e R s m args below meth c Q D ad dA sz k n0 f) : am_W p l e R s m args below meth c Q D ad dA sz k n0 (pc, ls, st, h, nx) := by
  obtain ⟨hx, hb, hml, hown, hts, hC, hin, hfr, hlo, hs0⟩ := B
  intro cls H locs cells slots hS
  obtain ⟨hl, hP, hSS, hH, hc1, hc2⟩ := id hS
  replace hs := if_so hs
  obtain ⟨rfl, hs⟩ := hs
  split at hs
  · rename_i x r
    split at hs
    · rename_i ls1 hv
      obtain ⟨rfl, g1, g2⟩ := st1_some hv
      obtain rfl := to_inj hs
      exact lv_astore_n hx hb hd rfl hl.has (by rw [← hl.2.2.1]; exact g1) rfl (fun cls1 h1 => kk _ _ _ _ _ ⟨hl.put1 (by rw [← hl.2.2.1]; exact g1) rfl g2 h1, hP, hSS, hH, hc1, hc2⟩)
    · cases hs
  · cases hs
theorem sm_astore {q : Nat} (B : am_B p R s m args meth c D ad dA sz k d n0) (hd : decode (mC k) pc = .ok (.astore q, len)) (hs : am_do call k (.astore q) len pc ls st h nx = some (.inl f)) (kk : am_W p l e R s m args below meth c Q D ad dA sz k n0 f) : am_W p l e R s m args below meth c Q D ad dA sz k n0 (pc, ls, st, h, nx) := by
  obtain ⟨hx, hb, hml, hown, hts, hC, hin, hfr, hlo, hs0⟩ := B
  intro cls H locs cells slots hS
  obtain ⟨hl, hP, hSS, hH, hc1, hc2⟩ := id hS
  replace hs := if_so hs
  obtain ⟨rfl, hs⟩ := hs
  split at hs
  · rename_i x r
    split at hs
    · rename_i ls1 hv
      obtain ⟨rfl, g1, g2⟩ := st1_some hv
      obtain rfl := to_inj hs
      exact lv_astore hx hb hd hl.has (by rw [← hl.2.2.1]; exact g1) rfl (fun cls1 h1 => kk _ _ _ _ _ ⟨hl.put1 (by rw [← hl.2.2.1]; exact g1) rfl g2 h1, hP, hSS, hH, hc1, hc2⟩)
    · cases hs
  · cases hs
theorem sm_lstore {q : Nat} (B : am_B p R s m args meth c D ad dA sz k d n0) (hd : decode (mC k) pc = .ok (.lstore q, len)) (hs : am_do call k (.lstore q) len pc ls st h nx = some (.inl f)) (kk : am_W p l e R s m args below meth c Q D ad dA sz k n0 f) : am_W p l e R s m args below meth c Q D ad dA sz k n0 (pc, ls, st, h, nx) := by
  obtain ⟨hx, hb, hml, hown, hts, hC, hin, hfr, hlo, hs0⟩ := B
  intro cls H locs cells slots hS
  obtain ⟨hl, hP, hSS, hH, hc1, hc2⟩ := id hS
  replace hs := if_so hs
  obtain ⟨rfl, hs⟩ := hs
  split at hs
  · rename_i x r
    split at hs
    · rename_i ls1 hv
      obtain ⟨rfl, g1, g2, g3⟩ := st2_some hv
      obtain rfl := to_inj hs
      exact lv_lstore hx hb hd hl.has (by rw [← hl.2.2.1]; exact g1) rfl (fun cls1 h1 => kk _ _ _ _ _ ⟨hl.put2 (by rw [← hl.2.2.1]; exact g1) g2 g3 h1, hP, hSS, hH, hc1, hc2⟩)
    · cases hs
  · cases hs
theorem sm_iinc {q : Nat} {n : Int} (B : am_B p R s m args meth c D ad dA sz k d n0) (hd : decode (mC k) pc = .ok (.iinc q n, len)) (hs : am_do call k (.iinc q n) len pc ls st h nx = some (.inl f)) (kk : am_W p l e R s m args below meth c Q D ad dA sz k n0 f) : am_W p l e R s m args below meth c Q D ad dA sz k n0 (pc, ls, st, h, nx) := by
  obtain ⟨hx, hb, hml, hown, hts, hC, hin, hfr, hlo, hs0⟩ := B
  intro cls H locs cells slots hS
  obtain ⟨hl, hP, hSS, hH, hc1, hc2⟩ := id hS
  replace hs := if_so hs
  obtain ⟨rfl, hs⟩ := hs
  split at hs
  · rename_i x hv
    obtain rfl := to_inj hs
    obtain ⟨j, hj⟩ := List.getElem?_of_mem (am_lv_mem (ad := ad).mpr ⟨_, hv, rfl, rfl⟩)
    have g1 : q < ls.length := (List.getElem?_eq_some_iff.mp hv).1
    exact lv_iinc hx hb hd hl.has hj rfl (by rw [← hl.2.2.1]; exact g1) rfl (fun cls1 h1 => kk _ _ _ _ _ ⟨hl.put1 (by rw [← hl.2.2.1]; exact g1) rfl (fun z e => by rw [hv] at e; cases e) h1, hP, hSS, hH, hc1, hc2⟩)
  · cases hs
theorem sm_iadd  (B : am_B p R s m args meth c D ad dA sz k d n0) (hd : decode (mC k) pc = .ok (.iadd, len)) (hs : am_do call k (.iadd) len pc ls st h nx = some (.inl f)) (kk : am_W p l e R s m args below meth c Q D ad dA sz k n0 f) : am_W p l e R s m args below meth c Q D ad dA sz k n0 (pc, ls, st, h, nx) := by
  obtain ⟨hx, hb, hml, hown, hts, hC, hin, hfr, hlo, hs0⟩ := B
  intro cls H locs cells slots hS
  obtain ⟨hl, hP, hSS, hH, hc1, hc2⟩ := id hS
  replace hs := if_so hs
  obtain ⟨rfl, hs⟩ := hs
  replace hs := i2_some hs
  obtain ⟨a, b, r, rfl, hs⟩ := hs
  obtain rfl := to_inj hs
  exact lv_iadd hx hb hd (kk _ _ _ _ _ hS)
theorem sm_isub  (B : am_B p R s m args meth c D ad dA sz k d n0) (hd : decode (mC k) pc = .ok (.isub, len)) (hs : am_do call k (.isub) len pc ls st h nx = some (.inl f)) (kk : am_W p l e R s m args below meth c Q D ad dA sz k n0 f) : am_W p l e R s m args below meth c Q D ad dA sz k n0 (pc, ls, st, h, nx) := by
  obtain ⟨hx, hb, hml, hown, hts, hC, hin, hfr, hlo, hs0⟩ := B
  intro cls H locs cells slots hS
  obtain ⟨hl, hP, hSS, hH, hc1, hc2⟩ := id hS
  replace hs := if_so hs
  obtain ⟨rfl, hs⟩ := hs
  replace hs := i2_some hs
  obtain ⟨a, b, r, rfl, hs⟩ := hs
  obtain rfl := to_inj hs
  exact lv_isub hx hb hd (kk _ _ _ _ _ hS)
theorem sm_imul  (B : am_B p R s m args meth c D ad dA sz k d n0) (hd : decode (mC k) pc = .ok (.imul, len)) (hs : am_do call k (.imul) len pc ls st h nx = some (.inl f)) (kk : am_W p l e R s m args below meth c Q D ad dA sz k n0 f) : am_W p l e R s m args below meth c Q D ad dA sz k n0 (pc, ls, st, h, nx) := by
  obtain ⟨hx, hb, hml, hown, hts, hC, hin, hfr, hlo, hs0⟩ := B
  intro cls H locs cells slots hS
  obtain ⟨hl, hP, hSS, hH, hc1, hc2⟩ := id hS
  replace hs := if_so hs
  obtain ⟨rfl, hs⟩ := hs
  replace hs := i2_some hs
  obtain ⟨a, b, r, rfl, hs⟩ := hs
  obtain rfl := to_inj hs
  exact lv_imul hx hb hd (kk _ _ _ _ _ hS)
theorem sm_iand  (B : am_B p R s m args meth c D ad dA sz k d n0) (hd : decode (mC k) pc = .ok (.iand, len)) (hs : am_do call k (.iand) len pc ls st h nx = some (.inl f)) (kk : am_W p l e R s m args below meth c Q D ad dA sz k n0 f) : am_W p l e R s m args below meth c Q D ad dA sz k n0 (pc, ls, st, h, nx) := by
  obtain ⟨hx, hb, hml, hown, hts, hC, hin, hfr, hlo, hs0⟩ := B
  intro cls H locs cells slots hS
  obtain ⟨hl, hP, hSS, hH, hc1, hc2⟩ := id hS
  replace hs := if_so hs
  obtain ⟨rfl, hs⟩ := hs
  replace hs := i2_some hs
  obtain ⟨a, b, r, rfl, hs⟩ := hs
  obtain rfl := to_inj hs
  exact lv_iand hx hb hd (kk _ _ _ _ _ hS)
theorem sm_ior  (B : am_B p R s m args meth c D ad dA sz k d n0) (hd : decode (mC k) pc = .ok (.ior, len)) (hs : am_do call k (.ior) len pc ls st h nx = some (.inl f)) (kk : am_W p l e R s m args below meth c Q D ad dA sz k n0 f) : am_W p l e R s m args below meth c Q D ad dA sz k n0 (pc, ls, st, h, nx) := by
  obtain ⟨hx, hb, hml, hown, hts, hC, hin, hfr, hlo, hs0⟩ := B
  intro cls H locs cells slots hS
  obtain ⟨hl, hP, hSS, hH, hc1, hc2⟩ := id hS
  replace hs := if_so hs
  obtain ⟨rfl, hs⟩ := hs
  replace hs := i2_some hs
  obtain ⟨a, b, r, rfl, hs⟩ := hs
  obtain rfl := to_inj hs
  exact lv_ior hx hb hd (kk _ _ _ _ _ hS)
theorem sm_ixor  (B : am_B p R s m args meth c D ad dA sz k d n0) (hd : decode (mC k) pc = .ok (.ixor, len)) (hs : am_do call k (.ixor) len pc ls st h nx = some (.inl f)) (kk : am_W p l e R s m args below meth c Q D ad dA sz k n0 f) : am_W p l e R s m args below meth c Q D ad dA sz k n0 (pc, ls, st, h, nx) := by
  obtain ⟨hx, hb, hml, hown, hts, hC, hin, hfr, hlo, hs0⟩ := B
  intro cls H locs cells slots hS
  obtain ⟨hl, hP, hSS, hH, hc1, hc2⟩ := id hS
  replace hs := if_so hs
  obtain ⟨rfl, hs⟩ := hs
  replace hs := i2_some hs
  obtain ⟨a, b, r, rfl, hs⟩ := hs
  obtain rfl := to_inj hs
  exact lv_ixor hx hb hd (kk _ _ _ _ _ hS)
theorem sm_ishl  (B : am_B p R s m args meth c D ad dA sz k d n0) (hd : decode (mC k) pc = .ok (.ishl, len)) (hs : am_do call k (.ishl) len pc ls st h nx = some (.inl f)) (kk : am_W p l e R s m args below meth c Q D ad dA sz k n0 f) : am_W p l e R s m args below meth c Q D ad dA sz k n0 (pc, ls, st, h, nx) := by
  obtain ⟨hx, hb, hml, hown, hts, hC, hin, hfr, hlo, hs0⟩ := B
  intro cls H locs cells slots hS
  obtain ⟨hl, hP, hSS, hH, hc1, hc2⟩ := id hS
  replace hs := if_so hs
  obtain ⟨rfl, hs⟩ := hs
  replace hs := i2_some hs
  obtain ⟨a, b, r, rfl, hs⟩ := hs
  obtain rfl := to_inj hs
  exact lv_ishl hx hb hd (kk _ _ _ _ _ hS)
theorem sm_ishr  (B : am_B p R s m args meth c D ad dA sz k d n0) (hd : decode (mC k) pc = .ok (.ishr, len)) (hs : am_do call k (.ishr) len pc ls st h nx = some (.inl f)) (kk : am_W p l e R s m args below meth c Q D ad dA sz k n0 f) : am_W p l e R s m args below meth c Q D ad dA sz k n0 (pc, ls, st, h, nx) := by
  obtain ⟨hx, hb, hml, hown, hts, hC, hin, hfr, hlo, hs0⟩ := B
  intro cls H locs cells slots hS
  obtain ⟨hl, hP, hSS, hH, hc1, hc2⟩ := id hS
  replace hs := if_so hs
  obtain ⟨rfl, hs⟩ := hs
  replace hs := i2_some hs
  obtain ⟨a, b, r, rfl, hs⟩ := hs
  obtain rfl := to_inj hs
  exact lv_ishr hx hb hd (kk _ _ _ _ _ hS)
theorem sm_iushr  (B : am_B p R s m args meth c D ad dA sz k d n0) (hd : decode (mC k) pc = .ok (.iushr, len)) (hs : am_do call k (.iushr) len pc ls st h nx = some (.inl f)) (kk : am_W p l e R s m args below meth c Q D ad dA sz k n0 f) : am_W p l e R s m args below meth c Q D ad dA sz k n0 (pc, ls, st, h, nx) := by
  obtain ⟨hx, hb, hml, hown, hts, hC, hin, hfr, hlo, hs0⟩ := B
  intro cls H locs cells slots hS
  obtain ⟨hl, hP, hSS, hH, hc1, hc2⟩ := id hS
  replace hs := if_so hs
  obtain ⟨rfl, hs⟩ := hs
  replace hs := i2_some hs
  obtain ⟨a, b, r, rfl, hs⟩ := hs
  obtain rfl := to_inj hs
  exact lv_iushr hx hb hd rfl (kk _ _ _ _ _ hS)
theorem sm_idiv  (B : am_B p R s m args meth c D ad dA sz k d n0) (hd : decode (mC k) pc = .ok (.idiv, len)) (hs : am_do call k (.idiv) len pc ls st h nx = some (.inl f)) (kk : am_W p l e R s m args below meth c Q D ad dA sz k n0 f) : am_W p l e R s m args below meth c Q D ad dA sz k n0 (pc, ls, st, h, nx) := by
  obtain ⟨hx, hb, hml, hown, hts, hC, hin, hfr, hlo, hs0⟩ := B
  intro cls H locs cells slots hS
  obtain ⟨hl, hP, hSS, hH, hc1, hc2⟩ := id hS
  replace hs := if_so hs
  obtain ⟨rfl, hs⟩ := hs
  replace hs := i2_some hs
  obtain ⟨a, b, r, rfl, hs⟩ := hs
  split at hs
  · cases hs
  · rename_i hne
    obtain rfl := to_inj hs
    exact lv_idiv hx hb hd hne (kk _ _ _ _ _ hS)
theorem sm_irem  (B : am_B p R s m args meth c D ad dA sz k d n0) (hd : decode (mC k) pc = .ok (.irem, len)) (hs : am_do call k (.irem) len pc ls st h nx = some (.inl f)) (kk : am_W p l e R s m args below meth c Q D ad dA sz k n0 f) : am_W p l e R s m args below meth c Q D ad dA sz k n0 (pc, ls, st, h, nx) := by
  obtain ⟨hx, hb, hml, hown, hts, hC, hin, hfr, hlo, hs0⟩ := B
  intro cls H locs cells slots hS
  obtain ⟨hl, hP, hSS, hH, hc1, hc2⟩ := id hS
  replace hs := if_so hs
  obtain ⟨rfl, hs⟩ := hs
  replace hs := i2_some hs
  obtain ⟨a, b, r, rfl, hs⟩ := hs
  split at hs
  · cases hs
  · rename_i hne
    obtain rfl := to_inj hs
    exact lv_irem hx hb hd hne (kk _ _ _ _ _ hS)
theorem sm_ineg  (B : am_B p R s m args meth c D ad dA sz k d n0) (hd : decode (mC k) pc = .ok (.ineg, len)) (hs : am_do call k (.ineg) len pc ls st h nx = some (.inl f)) (kk : am_W p l e R s m args below meth c Q D ad dA sz k n0 f) : am_W p l e R s m args below meth c Q D ad dA sz k n0 (pc, ls, st, h, nx) := by
  obtain ⟨hx, hb, hml, hown, hts, hC, hin, hfr, hlo, hs0⟩ := B
  intro cls H locs cells slots hS
  obtain ⟨hl, hP, hSS, hH, hc1, hc2⟩ := id hS
  replace hs := if_so hs
  obtain ⟨rfl, hs⟩ := hs
  replace hs := i1_some hs
  obtain ⟨a, r, rfl, hs⟩ := hs
  obtain rfl := to_inj hs
  exact lv_ineg hx hb hd (kk _ _ _ _ _ hS)
theorem sm_i2l  (B : am_B p R s m args meth c D ad dA sz k d n0) (hd : decode (mC k) pc = .ok (.i2l, len)) (hs : am_do call k (.i2l) len pc ls st h nx = some (.inl f)) (kk : am_W p l e R s m args below meth c Q D ad dA sz k n0 f) : am_W p l e R s m args below meth c Q D ad dA sz k n0 (pc, ls, st, h, nx) := by
  obtain ⟨hx, hb, hml, hown, hts, hC, hin, hfr, hlo, hs0⟩ := B
  intro cls H locs cells slots hS
  obtain ⟨hl, hP, hSS, hH, hc1, hc2⟩ := id hS
  replace hs := if_so hs
  obtain ⟨rfl, hs⟩ := hs
  replace hs := i1_some hs
  obtain ⟨a, r, rfl, hs⟩ := hs
  obtain rfl := to_inj hs
  exact lv_i2l hx hb hd rfl (kk _ _ _ _ _ hS)
theorem sm_i2s  (B : am_B p R s m args meth c D ad dA sz k d n0) (hd : decode (mC k) pc = .ok (.i2s, len)) (hs : am_do call k (.i2s) len pc ls st h nx = some (.inl f)) (kk : am_W p l e R s m args below meth c Q D ad dA sz k n0 f) : am_W p l e R s m args below meth c Q D ad dA sz k n0 (pc, ls, st, h, nx) := by
  obtain ⟨hx, hb, hml, hown, hts, hC, hin, hfr, hlo, hs0⟩ := B
  intro cls H locs cells slots hS
  obtain ⟨hl, hP, hSS, hH, hc1, hc2⟩ := id hS
  replace hs := if_so hs
  obtain ⟨rfl, hs⟩ := hs
  replace hs := i1_some hs
  obtain ⟨a, r, rfl, hs⟩ := hs
  obtain rfl := to_inj hs
  exact lv_i2s hx hb hd rfl (kk _ _ _ _ _ hS)
theorem sm_l2i  (B : am_B p R s m args meth c D ad dA sz k d n0) (hd : decode (mC k) pc = .ok (.l2i, len)) (hs : am_do call k (.l2i) len pc ls st h nx = some (.inl f)) (kk : am_W p l e R s m args below meth c Q D ad dA sz k n0 f) : am_W p l e R s m args below meth c Q D ad dA sz k n0 (pc, ls, st, h, nx) := by
  obtain ⟨hx, hb, hml, hown, hts, hC, hin, hfr, hlo, hs0⟩ := B
  intro cls H locs cells slots hS
  obtain ⟨hl, hP, hSS, hH, hc1, hc2⟩ := id hS
  replace hs := if_so hs
  obtain ⟨rfl, hs⟩ := hs
  split at hs
  · obtain rfl := to_inj hs
    exact lv_l2i hx hb hd rfl (kk _ _ _ _ _ hS)
  · cases hs
theorem sm_lneg  (B : am_B p R s m args meth c D ad dA sz k d n0) (hd : decode (mC k) pc = .ok (.lneg, len)) (hs : am_do call k (.lneg) len pc ls st h nx = some (.inl f)) (kk : am_W p l e R s m args below meth c Q D ad dA sz k n0 f) : am_W p l e R s m args below meth c Q D ad dA sz k n0 (pc, ls, st, h, nx) := by
  obtain ⟨hx, hb, hml, hown, hts, hC, hin, hfr, hlo, hs0⟩ := B
  intro cls H locs cells slots hS
  obtain ⟨hl, hP, hSS, hH, hc1, hc2⟩ := id hS
  replace hs := if_so hs
  obtain ⟨rfl, hs⟩ := hs
  split at hs
  · obtain rfl := to_inj hs
    exact lv_lneg hx hb hd (kk _ _ _ _ _ hS)
  · cases hs
theorem sm_ladd  (B : am_B p R s m args meth c D ad dA sz k d n0) (hd : decode (mC k) pc = .ok (.ladd, len)) (hs : am_do call k (.ladd) len pc ls st h nx = some (.inl f)) (kk : am_W p l e R s m args below meth c Q D ad dA sz k n0 f) : am_W p l e R s m args below meth c Q D ad dA sz k n0 (pc, ls, st, h, nx) := by
  obtain ⟨hx, hb, hml, hown, hts, hC, hin, hfr, hlo, hs0⟩ := B
  intro cls H locs cells slots hS
  obtain ⟨hl, hP, hSS, hH, hc1, hc2⟩ := id hS
  replace hs := if_so hs
  obtain ⟨rfl, hs⟩ := hs
  replace hs := l2_some hs
  obtain ⟨a, b, r, rfl, hs⟩ := hs
  obtain rfl := to_inj hs
  exact lv_ladd hx hb hd (kk _ _ _ _ _ hS)
theorem sm_lsub  (B : am_B p R s m args meth c D ad dA sz k d n0) (hd : decode (mC k) pc = .ok (.lsub, len)) (hs : am_do call k (.lsub) len pc ls st h nx = some (.inl f)) (kk : am_W p l e R s m args below meth c Q D ad dA sz k n0 f) : am_W p l e R s m args below meth c Q D ad dA sz k n0 (pc, ls, st, h, nx) := by
  obtain ⟨hx, hb, hml, hown, hts, hC, hin, hfr, hlo, hs0⟩ := B
  intro cls H locs cells slots hS
  obtain ⟨hl, hP, hSS, hH, hc1, hc2⟩ := id hS
  replace hs := if_so hs
  obtain ⟨rfl, hs⟩ := hs
  replace hs := l2_some hs
  obtain ⟨a, b, r, rfl, hs⟩ := hs
  obtain rfl := to_inj hs
  exact lv_lsub hx hb hd (kk _ _ _ _ _ hS)
theorem sm_lcmp  (B : am_B p R s m args meth c D ad dA sz k d n0) (hd : decode (mC k) pc = .ok (.lcmp, len)) (hs : am_do call k (.lcmp) len pc ls st h nx = some (.inl f)) (kk : am_W p l e R s m args below meth c Q D ad dA sz k n0 f) : am_W p l e R s m args below meth c Q D ad dA sz k n0 (pc, ls, st, h, nx) := by
  obtain ⟨hx, hb, hml, hown, hts, hC, hin, hfr, hlo, hs0⟩ := B
  intro cls H locs cells slots hS
  obtain ⟨hl, hP, hSS, hH, hc1, hc2⟩ := id hS
  replace hs := if_so hs
  obtain ⟨rfl, hs⟩ := hs
  replace hs := l2_some hs
  obtain ⟨a, b, r, rfl, hs⟩ := hs
  obtain rfl := to_inj hs
  exact W.lcmp hx hb hd (kk _ _ _ _ _ hS)
theorem sm_dup  (B : am_B p R s m args meth c D ad dA sz k d n0) (hd : decode (mC k) pc = .ok (.dup, len)) (hs : am_do call k (.dup) len pc ls st h nx = some (.inl f)) (kk : am_W p l e R s m args below meth c Q D ad dA sz k n0 f) : am_W p l e R s m args below meth c Q D ad dA sz k n0 (pc, ls, st, h, nx) := by
  obtain ⟨hx, hb, hml, hown, hts, hC, hin, hfr, hlo, hs0⟩ := B
  intro cls H locs cells slots hS
  obtain ⟨hl, hP, hSS, hH, hc1, hc2⟩ := id hS
  replace hs := if_so hs
  obtain ⟨rfl, hs⟩ := hs
  split at hs
  · replace hs := if_so hs
    obtain ⟨hv, hs⟩ := hs
    obtain rfl := to_inj hs
    exact lv_dup hx hb hd (by rw [sv_cat]; exact hv) (kk _ _ _ _ _ hS)
  · cases hs
theorem sm_pop  (B : am_B p R s m args meth c D ad dA sz k d n0) (hd : decode (mC k) pc = .ok (.pop, len)) (hs : am_do call k (.pop) len pc ls st h nx = some (.inl f)) (kk : am_W p l e R s m args below meth c Q D ad dA sz k n0 f) : am_W p l e R s m args below meth c Q D ad dA sz k n0 (pc, ls, st, h, nx) := by
  obtain ⟨hx, hb, hml, hown, hts, hC, hin, hfr, hlo, hs0⟩ := B
  intro cls H locs cells slots hS
  obtain ⟨hl, hP, hSS, hH, hc1, hc2⟩ := id hS
  replace hs := if_so hs
  obtain ⟨rfl, hs⟩ := hs
  split at hs
  · replace hs := if_so hs
    obtain ⟨hv, hs⟩ := hs
    obtain rfl := to_inj hs
    exact lv_pop hx hb hd (by rw [sv_cat]; exact hv) (kk _ _ _ _ _ hS)
  · cases hs
theorem sm_dup2  (B : am_B p R s m args meth c D ad dA sz k d n0) (hd : decode (mC k) pc = .ok (.dup2, len)) (hs : am_do call k (.dup2) len pc ls st h nx = some (.inl f)) (kk : am_W p l e R s m args below meth c Q D ad dA sz k n0 f) : am_W p l e R s m args below meth c Q D ad dA sz k n0 (pc, ls, st, h, nx) := by
  obtain ⟨hx, hb, hml, hown, hts, hC, hin, hfr, hlo, hs0⟩ := B
  intro cls H locs cells slots hS
  obtain ⟨hl, hP, hSS, hH, hc1, hc2⟩ := id hS
  replace hs := if_so hs
  obtain ⟨rfl, hs⟩ := hs
  split at hs
  · replace hs := if_so hs
    obtain ⟨hv, hs⟩ := hs
    obtain rfl := to_inj hs
    exact lv_dup2_11 hx hb hd (by rw [sv_cat]; exact hv.1) (by rw [sv_cat]; exact hv.2) (kk _ _ _ _ _ hS)
  · cases hs
theorem sm_goto {off : Int} (B : am_B p R s m args meth c D ad dA sz k d n0) (hd : decode (mC k) pc = .ok (.goto off, len)) (hs : am_do call k (.goto off) len pc ls st h nx = some (.inl f)) (kk : am_W p l e R s m args below meth c Q D ad dA sz k n0 f) : am_W p l e R s m args below meth c Q D ad dA sz k n0 (pc, ls, st, h, nx) := by
  obtain ⟨hx, hb, hml, hown, hts, hC, hin, hfr, hlo, hs0⟩ := B
  intro cls H locs cells slots hS
  obtain ⟨hl, hP, hSS, hH, hc1, hc2⟩ := id hS
  replace hs := if_so hs
  obtain ⟨rfl, hs⟩ := hs
  replace hs := if_so hs
  obtain ⟨hj, hs⟩ := hs
  obtain rfl := to_inj hs
  exact lv_goto hx hb hd (jok_jmp hj) (kk _ _ _ _ _ hS)
theorem sm_ifCond {cd : Jvm.ClassFile.Cond} {off : Int} (B : am_B p R s m args meth c D ad dA sz k d n0) (hd : decode (mC k) pc = .ok (.ifCond cd off, len)) (hs : am_do call k (.ifCond cd off) len pc ls st h nx = some (.inl f)) (kk : am_W p l e R s m args below meth c Q D ad dA sz k n0 f) : am_W p l e R s m args below meth c Q D ad dA sz k n0 (pc, ls, st, h, nx) := by
  obtain ⟨hx, hb, hml, hown, hts, hC, hin, hfr, hlo, hs0⟩ := B
  intro cls H locs cells slots hS
  obtain ⟨hl, hP, hSS, hH, hc1, hc2⟩ := id hS
  replace hs := if_so hs
  obtain ⟨rfl, hs⟩ := hs
  replace hs := i1_some hs
  obtain ⟨a, r, rfl, hs⟩ := hs
  cases cd with
  | eq =>
    replace hs := if_so hs
    obtain ⟨hj, hs⟩ := hs
    refine lv_if_eq hx hb hd (jok_jmp hj) (fun hc => ?_) (fun hc => ?_)
    · rw [if_pos hc] at hs
      obtain rfl := to_inj hs
      exact kk _ _ _ _ _ hS
    · rw [if_neg hc] at hs
      obtain rfl := to_inj hs
      exact kk _ _ _ _ _ hS
  | ne =>
    replace hs := if_so hs
    obtain ⟨hj, hs⟩ := hs
    refine lv_if_ne hx hb hd (jok_jmp hj) (fun hc => ?_) (fun hc => ?_)
    · rw [if_pos hc] at hs
      obtain rfl := to_inj hs
      exact kk _ _ _ _ _ hS
    · rw [if_neg (fun z => z hc)] at hs
      obtain rfl := to_inj hs
      exact kk _ _ _ _ _ hS
  | lt =>
    replace hs := if_so hs
    obtain ⟨hj, hs⟩ := hs
    refine lv_if_lt hx hb hd (jok_jmp hj) (fun hc => ?_) (fun hc => ?_)
    · rw [if_pos hc] at hs
      obtain rfl := to_inj hs
      exact kk _ _ _ _ _ hS
    · rw [if_neg hc] at hs
      obtain rfl := to_inj hs
      exact kk _ _ _ _ _ hS
  | ge =>
    replace hs := if_so hs
    obtain ⟨hj, hs⟩ := hs
    refine lv_if_ge hx hb hd (jok_jmp hj) (fun hc => ?_) (fun hc => ?_)
    · rw [if_pos hc] at hs
      obtain rfl := to_inj hs
      exact kk _ _ _ _ _ hS
    · rw [if_neg hc] at hs
      obtain rfl := to_inj hs
      exact kk _ _ _ _ _ hS
  | gt =>
    replace hs := if_so hs
    obtain ⟨hj, hs⟩ := hs
    refine lv_if_gt hx hb hd (jok_jmp hj) (fun hc => ?_) (fun hc => ?_)
    · rw [if_pos hc] at hs
      obtain rfl := to_inj hs
      exact kk _ _ _ _ _ hS
    · rw [if_neg hc] at hs
      obtain rfl := to_inj hs
      exact kk _ _ _ _ _ hS
  | le =>
    replace hs := if_so hs
    obtain ⟨hj, hs⟩ := hs
    refine lv_if_le hx hb hd (jok_jmp hj) (fun hc => ?_) (fun hc => ?_)
    · rw [if_pos hc] at hs
      obtain rfl := to_inj hs
      exact kk _ _ _ _ _ hS
    · rw [if_neg hc] at hs
      obtain rfl := to_inj hs
      exact kk _ _ _ _ _ hS
theorem sm_if_icmp {cd : Jvm.ClassFile.Cond} {off : Int} (B : am_B p R s m args meth c D ad dA sz k d n0) (hd : decode (mC k) pc = .ok (.if_icmp cd off, len)) (hs : am_do call k (.if_icmp cd off) len pc ls st h nx = some (.inl f)) (kk : am_W p l e R s m args below meth c Q D ad dA sz k n0 f) : am_W p l e R s m args below meth c Q D ad dA sz k n0 (pc, ls, st, h, nx) := by
  obtain ⟨hx, hb, hml, hown, hts, hC, hin, hfr, hlo, hs0⟩ := B
  intro cls H locs cells slots hS
  obtain ⟨hl, hP, hSS, hH, hc1, hc2⟩ := id hS
  replace hs := if_so hs
  obtain ⟨rfl, hs⟩ := hs
  replace hs := i2_some hs
  obtain ⟨a, b, r, rfl, hs⟩ := hs
  cases cd with
  | eq =>
    replace hs := if_so hs
    obtain ⟨hj, hs⟩ := hs
    refine lv_icmp_eq hx hb hd (jok_jmp hj) (fun hc => ?_) (fun hc => ?_)
    · rw [if_pos hc] at hs
      obtain rfl := to_inj hs
      exact kk _ _ _ _ _ hS
    · rw [if_neg hc] at hs
      obtain rfl := to_inj hs
      exact kk _ _ _ _ _ hS
  | ne =>
    replace hs := if_so hs
    obtain ⟨hj, hs⟩ := hs
    refine lv_icmp_ne hx hb hd (jok_jmp hj) (fun hc => ?_) (fun hc => ?_)
    · rw [if_pos hc] at hs
      obtain rfl := to_inj hs
      exact kk _ _ _ _ _ hS
    · rw [if_neg (fun z => z hc)] at hs
      obtain rfl := to_inj hs
      exact kk _ _ _ _ _ hS
  | lt =>
    replace hs := if_so hs
    obtain ⟨hj, hs⟩ := hs
    refine lv_icmp_lt hx hb hd (jok_jmp hj) (fun hc => ?_) (fun hc => ?_)
    · rw [if_pos hc] at hs
      obtain rfl := to_inj hs
      exact kk _ _ _ _ _ hS
    · rw [if_neg hc] at hs
      obtain rfl := to_inj hs
      exact kk _ _ _ _ _ hS
  | ge =>
    replace hs := if_so hs
    obtain ⟨hj, hs⟩ := hs
    refine lv_icmp_ge hx hb hd (jok_jmp hj) (fun hc => ?_) (fun hc => ?_)
    · rw [if_pos hc] at hs
      obtain rfl := to_inj hs
      exact kk _ _ _ _ _ hS
    · rw [if_neg hc] at hs
      obtain rfl := to_inj hs
      exact kk _ _ _ _ _ hS
  | gt =>
    replace hs := if_so hs
    obtain ⟨hj, hs⟩ := hs
    refine lv_icmp_gt hx hb hd (jok_jmp hj) (fun hc => ?_) (fun hc => ?_)
    · rw [if_pos hc] at hs
      obtain rfl := to_inj hs
      exact kk _ _ _ _ _ hS
    · rw [if_neg hc] at hs
      obtain rfl := to_inj hs
      exact kk _ _ _ _ _ hS
  | le =>
    replace hs := if_so hs
    obtain ⟨hj, hs⟩ := hs
    refine lv_icmp_le hx hb hd (jok_jmp hj) (fun hc => ?_) (fun hc => ?_)
    · rw [if_pos hc] at hs
      obtain rfl := to_inj hs
      exact kk _ _ _ _ _ hS
    · rw [if_neg hc] at hs
      obtain rfl := to_inj hs
      exact kk _ _ _ _ _ hS
theorem sm_tableswitch {dflt lo hi : Int} {offs : Array Int} (B : am_B p R s m args meth c D ad dA sz k d n0) (hd : decode (mC k) pc = .ok (.tableswitch dflt lo hi offs, len)) (hs : am_do call k (.tableswitch dflt lo hi offs) len pc ls st h nx = some (.inl f)) (kk : am_W p l e R s m args below meth c Q D ad dA sz k n0 f) : am_W p l e R s m args below meth c Q D ad dA sz k n0 (pc, ls, st, h, nx) := by
  obtain ⟨hx, hb, hml, hown, hts, hC, hin, hfr, hlo, hs0⟩ := B
  intro cls H locs cells slots hS
  obtain ⟨hl, hP, hSS, hH, hc1, hc2⟩ := id hS
  replace hs := i1_some hs
  obtain ⟨a, r, rfl, hs⟩ := hs
  split at hs
  · rename_i hc
    replace hs := if_so hs
    obtain ⟨hj, hs⟩ := hs
    obtain rfl := to_inj hs
    exact lv_tableOut hx hb hd hc (jok_jmp hj) (kk _ _ _ _ _ hS)
  · rename_i hc
    unfold swt at hs
    split at hs
    · rename_i off ho
      replace hs := if_so hs
      obtain ⟨hj, hs⟩ := hs
      obtain rfl := to_inj hs
      exact lv_tableIn hx hb hd (fun z => hc (Or.inl z)) (fun z => hc (Or.inr z)) ho (jok_jmp hj) (kk _ _ _ _ _ hS)
    · cases hs
theorem sm_lookupswitch {dflt : Int} {ps : Array (Int × Int)} (B : am_B p R s m args meth c D ad dA sz k d n0) (hd : decode (mC k) pc = .ok (.lookupswitch dflt ps, len)) (hs : am_do call k (.lookupswitch dflt ps) len pc ls st h nx = some (.inl f)) (kk : am_W p l e R s m args below meth c Q D ad dA sz k n0 f) : am_W p l e R s m args below meth c Q D ad dA sz k n0 (pc, ls, st, h, nx) := by
  obtain ⟨hx, hb, hml, hown, hts, hC, hin, hfr, hlo, hs0⟩ := B
  intro cls H locs cells slots hS
  obtain ⟨hl, hP, hSS, hH, hc1, hc2⟩ := id hS
  replace hs := if_so hs
  obtain ⟨hp, hs⟩ := hs
  replace hs := i1_some hs
  obtain ⟨a, r, rfl, hs⟩ := hs
  replace hs := if_so hs
  obtain ⟨hj, hs⟩ := hs
  obtain rfl := to_inj hs
  exact lv_lookup hx hb hd hp rfl (jok_jmp hj) (kk _ _ _ _ _ hS)
end SM
