/-! the abstract machine is sound -/
theorem am_itr_le {call : Nat → List Value → AH → AN → Option AR} (hc : ∀ (k' : Nat) (as : List Value) (h : AH) (nx : AN) (r : AR), k' < kLaw → call k' as h nx = some r → nx.1 ≤ r.2.2.1 ∧ nx.2 ≤ r.2.2.2) {k : Nat} : ∀ {n : Nat} {f : AF} {r : AR}, am_itr call k n f = some r → f.2.2.2.2.1 ≤ r.2.2.1 ∧ f.2.2.2.2.2 ≤ r.2.2.2
  | 0, _, _, h => by simp [am_itr] at h
  | n + 1, (pc, ls, st, hh, nx), r, h => by
    unfold am_itr at h
    cases hs : am_step call k pc ls st hh nx with
    | none => rw [hs] at h; simp at h
    | some x =>
      rw [hs] at h
      unfold am_step at hs
      cases hi : ins k pc with
      | none => rw [hi] at hs; cases hs
      | some y =>
        obtain ⟨i, len⟩ := y
        rw [hi] at hs
        cases x with
        | inl f =>
          have h1 := am_mono (fun k' as r => hc k' as hh nx r) hs
          have h2 := am_itr_le hc (show am_itr call k n f = some r from h)
          exact ⟨Nat.le_trans h1.1 h2.1, Nat.le_trans h1.2 h2.2⟩
        | inr r' =>
          have h : some r' = some r := h
          cases h
          obtain ⟨-, -, h3, -⟩ := am_end hs
          rw [h3]
          exact ⟨Nat.le_refl _, Nat.le_refl _⟩
section SO
variable {p : Program} {l : Launch} {e : Env} {R : Room} {s : State} {m : MethodId} {args : Array Value} {below : List Frame} {meth : Method} {c : Code} {Q : State → Prop} {D : va_G} {ad dA : Nat → Nat} {sz k d : Nat} {n0 : AN} {call : Nat → List Value → AH → AN → Option AR}
theorem am_walk {r : AR} (B : am_B p R s m args meth c D ad dA sz k d n0) (hc : ∀ (k' : Nat) (as : List Value) (h : AH) (nx : AN) (r : AR), k' < kLaw → call k' as h nx = some r → (nx.1 ≤ r.2.2.1 ∧ nx.2 ≤ r.2.2.2) ∧ am_K l D ad dA sz d k' as h nx r) (hr : r.2.2.1 ≤ n0.1 + R.cells ∧ r.2.2.2 ≤ n0.2 + R.slots)
    (hret : ∀ (pc len : Nat) (i : Instr) (ls st : List Value) (h : AH) (nx : AN), decode (mC k) pc = .ok (i, len) → am_End k i len st h nx r → am_W p l e R s m args below meth c Q D ad dA sz k n0 (pc, ls, st, h, nx)) : ∀ (n : Nat) (f : AF), am_itr call k n f = some r → am_W p l e R s m args below meth c Q D ad dA sz k n0 f := by
  intro n
  induction n with
  | zero => intro f h; simp [am_itr] at h
  | succ n ih =>
    intro f h
    obtain ⟨pc, ls, st, hh, nx⟩ := f
    unfold am_itr at h
    cases hs : am_step call k pc ls st hh nx with
    | none => rw [hs] at h; simp at h
    | some x =>
      rw [hs] at h
      unfold am_step at hs
      cases hi : ins k pc with
      | none => rw [hi] at hs; cases hs
      | some y =>
        obtain ⟨i, len⟩ := y
        rw [hi] at hs
        cases x with
        | inl f =>
          have h : am_itr call k n f = some r := h
          have h2 := am_itr_le (fun k' as h nx r a b => (hc k' as h nx r a b).1) h
          exact am_sim B (ins_dec hi) hs ⟨Nat.le_trans h2.1 hr.1, Nat.le_trans h2.2 hr.2⟩ (fun k' as r => hc k' as hh nx r) (ih f h)
        | inr r' =>
          have h : some r' = some r := h
          cases h
          exact hret pc len i ls st hh nx (ins_dec hi) (am_end hs)
end SO
theorem lg_sl_ir : ∀ (vs : List Value), vs.all isIR = true → ∀ ad : Nat → Nat, lg_sl (vs.map (sv ad)) = (vs.map (sv ad)).map Slot.val
  | [], _, _ => rfl
  | v :: vs, h, ad => by
    simp only [List.all_cons, Bool.and_eq_true] at h
    have ih := lg_sl_ir vs h.2 ad
    unfold lg_sl at ih ⊢
    simp only [List.map_cons, List.flatMap_cons]
    rw [ih]
    cases v <;> first | (cases h.1; done) | rfl
theorem am_LR0 (ad : Nat → Nat) {k : Nat} {args : List Value} (h : aok k args = true) : LR ad ((lg_sl (args.map (sv ad)) ++ List.replicate (mL k - (lg_sl (args.map (sv ad))).length) Slot.unset).toArray) (mL k) (am_entry k args) := by
  simp only [aok, Bool.and_eq_true, decide_eq_true_eq] at h
  have e := lg_sl_ir args h.2 ad
  have hl : (lg_sl (args.map (sv ad))).length = args.length := by rw [e]; simp
  have hw := lv_entry (args.map (sv ad)) (n := mL k) (by rw [hl]; exact h.1)
  refine ⟨hw.1, hw.2.1, ?_, fun j v hv hvv => ?_, fun j x hx => ?_⟩
  · unfold am_entry
    simp
    omega
  · unfold am_entry at hv
    by_cases hj : j < args.length
    · rw [List.getElem?_append_left hj] at hv
      rw [e]
      simp [List.getElem?_append, hj, hv]
      rw [(List.getElem?_eq_some_iff.mp hv).2]
    · rw [List.getElem?_append_right (by omega), List.getElem?_replicate] at hv
      split at hv
      · cases hv
        cases hvv
      · cases hv
  · unfold am_entry at hx
    by_cases hj : j < args.length
    · rw [List.getElem?_append_left hj] at hx
      have := List.all_eq_true.mp h.2 _ (List.mem_of_getElem? hx)
      cases this
    · rw [List.getElem?_append_right (by omega), List.getElem?_replicate] at hx
      split at hx
      · cases hx
      · cases hx
def am_StrOK : Prop := ∀ (l : Launch) (D : va_G) (ad dA : Nat → Nat) (sz d k : Nat) (args : List Value) (h : AH) (nx : AN) (r : AR), 8 ≤ d → (k = kLen ∨ k = kChr) → am_str k args h nx = some r → am_K l D ad dA sz (d + 1) k args h nx r
theorem am_str_nx {k : Nat} {args : List Value} {h : AH} {nx : AN} {r : AR} (q : am_str k args h nx = some r) : r.2.2 = nx := by
  unfold am_str at q
  split at q
  · replace q := if_so q
    obtain ⟨-, q⟩ := q
    cases q
    rfl
  · replace q := if_so q
    obtain ⟨-, q⟩ := q
    cases q
    rfl
  · cases q
set_option maxHeartbeats 4000000 in
theorem am_sound (hStr : am_StrOK) : ∀ (d k : Nat) (args : List Value) (h : AH) (nx : AN) (r : AR), k < kLaw → Dn d k args h nx = some r → (nx.1 ≤ r.2.2.1 ∧ nx.2 ≤ r.2.2.2) ∧ ∀ (l : Launch) (D : va_G) (ad dA : Nat → Nat) (sz : Nat), am_K l D ad dA sz d k args h nx r := by
  intro d
  induction d with
  | zero => intro k args h nx r _ q; cases q
  | succ d ih =>
    intro k args h nx r hk q
    have q : (if k = kLen ∨ k = kChr then (if 8 ≤ d then am_str k args h nx else none) else if aok k args = true then am_lim (Dn d) k (0, am_entry k args, [], h, nx) else none) = some r := q
    by_cases hks : k = kLen ∨ k = kChr
    · rw [if_pos hks] at q
      replace q := if_so q
      obtain ⟨h8, q⟩ := q
      have e := am_str_nx q
      exact ⟨by rw [e]; exact ⟨Nat.le_refl _, Nat.le_refl _⟩, fun l D ad dA sz => hStr l D ad dA sz d k args h nx r h8 hks q⟩
    · rw [if_neg hks] at q
      replace q := if_so q
      obtain ⟨hok, q⟩ := q
      obtain ⟨n, q⟩ := am_lim_some.mp q
      have hle := am_itr_le (fun k' as h nx r a b => (ih k' as h nx r a b).1) q
      have hle : nx.1 ≤ r.2.2.1 ∧ nx.2 ≤ r.2.2.2 := hle
      refine ⟨hle, fun l D ad dA sz => ?_⟩
      obtain ⟨mf1, mf2, mf3, mf4, mf5, mf6⟩ := m_facts hk
      unfold am_K
      refine va_MetF (cc := mC k) (maxL := mL k) (ret := mR k) mf6 rfl ?_
      intro p e s m args' below meth c s₁ Bd hml hv
      obtain ⟨rfl, hP, hz, hC, hH⟩ := hv
      have hx := Bd.exec
      have hb := Bd.bytes
      have hr := Bd.returns
      have hts0 := atoms_spec (ws := mW k) Bd.pre
      have hts : ∀ w ∈ gw, w.before (args.map (sv ad)).toArray s = true := fun w hw => hts0 w (List.mem_cons_of_mem _ hw)
      have hown : s.vm.findClass (mY k).cls = some m.cls := findClass_of_methodNamed Bd.named
      rw [mf2] at hown
      have hin : meth.name = (mY k).name := (name_of_methodNamed Bd.named Bd.method).1
      have hlocks := Bd.notSynchronized
      have B : am_B p (am_rm (d + 1) (r.2.2.1 - nx.1) (r.2.2.2 - nx.2)) s m (args.map (sv ad)).toArray meth c D ad dA sz k d nx := ⟨hx, hb, hml, hown, hts, hC, hin, Nat.le_refl _, Nat.le_refl _, hz⟩
      have hl := am_LR0 ad hok
      rw [lg_entry_eq]
      generalize (lg_sl (args.map (sv ad)) ++ List.replicate (mL k - (lg_sl (args.map (sv ad))).length) Slot.unset).toArray = cls at hl ⊢
      refine am_walk (call := Dn d) (r := r) B (fun k' as h nx r a b => ⟨(ih k' as h nx r a b).1, (ih k' as h nx r a b).2 l D ad dA sz⟩) ⟨by show _ ≤ nx.1 + (r.2.2.1 - nx.1); omega, by show _ ≤ nx.2 + (r.2.2.2 - nx.2); omega⟩ ?_ n (0, am_entry k args, [], h, nx) q cls s.heap [] 0 0 ⟨hl, hP, va_S.rf, hH, rfl, rfl⟩
      intro pc len i ls st h2 nx2 hd hend cls2 H locs cells slots hS
      obtain ⟨hl2, hP2, hSS, hH2, hc1, hc2⟩ := hS
      obtain ⟨rfl, hr1, hr2, hcase⟩ := hend
      have hc1 : nx.1 + cells = nx2.1 := hc1
      have hc2 : nx.2 + slots = nx2.2 := hc2
      have e1 : r.2.2.1 - nx.1 = cells := by rw [hr2]; omega
      have e2 : r.2.2.2 - nx.2 = slots := by rw [hr2]; omega
      rw [e1, e2]
      have hq : ∀ (o : Outcome), o = .returned (r.1.map (sv ad)) → ∀ t : State, t.heap = H → s.WarmedH t.vm → am_Qc D ad dA sz r (args.map (sv ad)).toArray s o t := by
        intro o ho t ht hW
        refine ⟨ho, ?_, ?_, hSS.F ht⟩
        · rw [ht, hr1, hr2]
          exact hP2
        · rw [hr1, hr2]
          exact hH2.moved hW.alike (fun q h1 h2 => by rw [ht]; exact hSS.2.1 q h1 h2)
      rcases hcase with ⟨rfl, v, ty, rfl, hR, hn, hv⟩ | ⟨rfl, v, rfl, hR, hv⟩ | ⟨rfl, v, ty, rfl, hR, hn, hv⟩ | ⟨rfl, rfl, hR, hv⟩
      · exact W.zret hx hb (hr.trans hR) (of_decide_eq_true hn) (hq _ (by rw [hv]; rfl)) hSS.2.2 hd
      · exact W.lret hx hb (hr.trans hR) (hq _ (by rw [hv]; rfl)) hSS.2.2 hd
      · refine W.aret (v := .ref (ad v)) hx hb (hr.trans hR) ?_ (Or.inr ⟨_, rfl⟩) (hq _ (by rw [hv]; rfl)) hSS.2.2 hd
        cases ty with
        | object nm => exact Or.inl ⟨nm, rfl⟩
        | array t => exact Or.inr ⟨t, rfl⟩
        | _ => cases hn
      · exact W.vret hx hb (hr.trans hR) (hq _ (by rw [hv]; rfl)) hSS.2.2 hd
