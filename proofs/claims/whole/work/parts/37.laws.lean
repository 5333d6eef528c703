/-! the laws of the class at the address lb: object, row, room to work in, then law and steps by turns -/
abbrev LT : Type := (Nat → Nat → Int32) × (Nat → Nat → Int32)
def lwC (lb i : Nat) (m : Nat → Int32) : va_E := .inr (2, [.ref (lb + 4 + 2 * i), .int (m 1), .int (m 2), .int (m 3)])
def putL (h : AH) (lb : Nat) (L : LT) (K : Nat → Int32) : AH := fun a => if a = lb then .inr (3, [.ref (lb + 1), .ref (lb + 2)]) else if a = lb + 1 then .inl (4, 14, .inr (.inr (.inr (.inr fun i => if i < 14 then some (lb + 3 + 2 * i) else none)))) else if a = lb + 2 then .inl (0, 96, .inl K)
  else if lb + 3 ≤ a ∧ a < lb + 31 then (if (a - (lb + 3)) % 2 = 0 then lwC lb ((a - (lb + 3)) / 2) (L.2 ((a - (lb + 3)) / 2)) else .inl (0, 96, .inl (L.1 ((a - (lb + 3)) / 2)))) else h a
section PL
variable {h : AH} {lb b i a m ci f : Nat} {L : LT} {K : Nat → Int32} {D : DT} {x y : Int32} {w : Nat → Int32}
theorem pL_0 : putL h lb L K lb = .inr (3, [.ref (lb + 1), .ref (lb + 2)]) := by simp [putL]
theorem pL_1 : putL h lb L K (lb + 1) = .inl (4, 14, .inr (.inr (.inr (.inr fun i => if i < 14 then some (lb + 3 + 2 * i) else none)))) := by simp [putL]
theorem pL_2 : putL h lb L K (lb + 2) = .inl (0, 96, .inl K) := by simp [putL]
theorem pL_l (hi : i < 14) : putL h lb L K (lb + 3 + 2 * i) = lwC lb i (L.2 i) := by
  unfold putL
  rw [if_neg (by omega), if_neg (by omega), if_neg (by omega), if_pos (by omega), if_pos (by omega), show (lb + 3 + 2 * i - (lb + 3)) / 2 = i by omega]
theorem pL_s (hi : i < 14) : putL h lb L K (lb + 4 + 2 * i) = .inl (0, 96, .inl (L.1 i)) := by
  unfold putL
  rw [if_neg (by omega), if_neg (by omega), if_neg (by omega), if_pos (by omega), if_neg (by omega), show (lb + 4 + 2 * i - (lb + 3)) / 2 = i by omega]
theorem pL_o (ho : a < lb ∨ lb + 31 ≤ a) : putL h lb L K a = h a := by
  unfold putL
  rw [if_neg (by omega), if_neg (by omega), if_neg (by omega), if_neg (by omega)]
theorem putL_K (K' : Nat → Int32) : put (putL h lb L K) (lb + 2) (.inl (0, 96, .inl K')) = putL h lb L K' := by
  funext q
  by_cases e : q = lb + 2
  · subst e
    rw [put_same, pL_2]
  · rw [put_ne _ _ e]
    unfold putL
    repeat' split
    all_goals first | rfl | omega
theorem putDL (ho : b + 13 ≤ lb ∨ lb + 31 ≤ b) : putD (putL h lb L K) b D = putL (putD h b D) lb L K := by
  funext q
  by_cases e : q < b ∨ b + 13 ≤ q
  · rw [pD_o e]
    by_cases e2 : q < lb ∨ lb + 31 ≤ q
    · rw [pL_o e2, pL_o e2, pD_o e]
    · unfold putL
      repeat' split
      all_goals first | rfl | omega
  · rw [pL_o (by omega)]
    unfold putD
    repeat' split
    all_goals first | rfl | omega
theorem kL : ck (putL h lb L K) lb 3 = true := by simp [ck, pL_0]
theorem gL0 : gF (putL h lb L K) lb 3 0 = some (.ref (lb + 1)) := by simp [gF, pL_0]
theorem gL1 : gF (putL h lb L K) lb 3 1 = some (.ref (lb + 2)) := by simp [gF, pL_0]
theorem gLl0 (hi : i < 14) : gF (putL h lb L K) (lb + 3 + 2 * i) 2 0 = some (.ref (lb + 4 + 2 * i)) := by simp [gF, pL_l hi, lwC]
theorem gLl1 (hi : i < 14) : gF (putL h lb L K) (lb + 3 + 2 * i) 2 1 = some (.int (L.2 i 1)) := by simp [gF, pL_l hi, lwC]
theorem gLl2 (hi : i < 14) : gF (putL h lb L K) (lb + 3 + 2 * i) 2 2 = some (.int (L.2 i 2)) := by simp [gF, pL_l hi, lwC]
theorem gLl3 (hi : i < 14) : gF (putL h lb L K) (lb + 3 + 2 * i) 2 3 = some (.int (L.2 i 3)) := by simp [gF, pL_l hi, lwC]
theorem rLr (hi : i < 14) : rR (putL h lb L K) (lb + 1) (nI i) = some (lb + 3 + 2 * i) := by
  unfold rR
  rw [pL_1]
  simp [ib_nI hi (by omega), cl_nI (show i < 2147483648 by omega), hi]
theorem rA {h : AH} {a n m : Nat} {g : Nat → Int32} (e : h a = .inl (0, n, .inl g)) (hm : m < n) (hn : n < 2147483648) : rX h a (nI m) = some (g m) := by
  unfold rX rI
  rw [e]
  simp [ib_nI hm hn, cl_nI (show m < 2147483648 by omega)]
theorem wA {h : AH} {a n m : Nat} {g : Nat → Int32} {x : Int32} (e : h a = .inl (0, n, .inl g)) (hm : m < n) (hn : n < 2147483648) : wI h a (nI m) 0 x = some (put h a (.inl (0, n, .inl (upd g m x)))) := by
  unfold wI
  rw [e]
  simp [ib_nI hm hn, cl_nI (show m < 2147483648 by omega)]
theorem rLs (hi : i < 14) (hm : m < 96) : rX (putL h lb L K) (lb + 4 + 2 * i) (nI m) = some (L.1 i m) := rA (pL_s hi) hm (by omega)
theorem rLk (hm : m < 96) : rX (putL h lb L K) (lb + 2) (nI m) = some (K m) := rA pL_2 hm (by omega)
theorem wLk (hm : m < 96) : wI (putL h lb L K) (lb + 2) (nI m) 0 x = some (putL h lb L (upd K m x)) := by rw [wA pL_2 hm (by omega), putL_K]
end PL
section L1
variable {d : Nat} {h : AH} {nx : AN} {lb i j n : Nat} {L : LT} {K : Nat → Int32} {x y z u : Int32} {l1 l2 l3 l4 l5 : Value}
/-- the last of the first n texts with a key -/
def lat (M : Nat → Nat → Int32) (x : Int32) : Nat → Option Nat
  | 0 => none
  | n + 1 => if M n 2 = x then some n else lat M x n
def on : Option Nat → Int32
  | none => -1000000005
  | some j => nI j
theorem lat_lt {M : Nat → Nat → Int32} : ∀ {n j : Nat}, lat M x n = some j → j < n
  | 0, j, h => by cases h
  | n + 1, j, h => by
    unfold lat at h
    split at h
    · cases h; omega
    · have := lat_lt h; omega
theorem latest_loop : ∀ (n : Nat), n ≤ 14 → Df d 33 9 [.ref lb, .int x, l2, .int (nI n - 1)] [] (putL h lb L K) nx = some (some (.int (on (lat L.2 x n))), putL h lb L K, nx) := by
  intro n
  induction n with
  | zero =>
    intro _
    rw [e_33_9]
    simp only [e_33_0, e_33_1, e_33_3, e_33_6, e_33_7, e_33_8n, e_33_8i, e_33_8r, e_33_10, e_33_13, e_33_14, e_33_17, e_33_18, e_33_19, e_33_22, e_33_23, e_33_26, e_33_27, e_33_28, e_33_31, e_33_34, e_33_36]
    rw [if_pos (by decide)]
    rfl
  | succ n ih =>
    intro hn
    have hn14 : n < 14 := by omega
    rw [nI_pred, e_33_9]
    simp only [e_33_0, e_33_1, e_33_3, e_33_6, e_33_7, e_33_8n, e_33_8i, e_33_8r, e_33_10, e_33_13, e_33_14, e_33_17, e_33_18, e_33_19, e_33_22, e_33_23, e_33_26, e_33_27, e_33_28, e_33_31, e_33_34, e_33_36, gL0, rLr hn14, gLl2 hn14, Option.bind_some]
    rw [if_neg (nI_pos (by omega))]
    unfold lat
    by_cases h1 : L.2 n 2 = x
    · rw [if_pos h1, if_pos h1]
      rfl
    · rw [if_neg h1, if_neg h1]
      have e : nI n + -1 = nI n - 1 := by
        rw [Int32.sub_eq_add_neg]
      rw [e]
      exact ih (by omega)
theorem c_latest (hn : n ≤ 14) : Dn (d + 2) 33 [.ref lb, .int x, .int (nI n)] (putL h lb L K) nx = some (some (.int (on (lat L.2 x n))), putL h lb L K, nx) := by
  simp only [n_33, e_33_0, e_33_1, e_33_3, e_33_6, e_33_7, e_33_8n, e_33_8i, e_33_8r, c_min, cn_s]
  have e : (if 14 < nI n then (14 : Int32) else nI n) = nI n := if_neg (show ¬ (14 : Int32) < nI n by rw [i_nlt]; exact nI_le (b := 14) hn (by omega))
  rw [e]
  exact latest_loop n hn
/-- what a sign makes of two numbers; the class's signs -/
def jnd (s x y : Int32) : Int32 := if s = 38 then pi (¬ x = 0 ∧ ¬ y = 0) else if s = 42 then x * y else if s = 43 then x + y else if s = 45 then x - y else if s = 60 then pi (x < y) else if s = 61 then pi (x = y) else if s = 62 then pi (y < x) else if s = 124 then pi (¬ x = 0 ∨ ¬ y = 0) else if y = 0 then 0 else x / y
theorem c_named : Dn (d + 1) 35 [.int u, .int x, .int y, .int z] h nx = some (some (.int (if u - 10000 = 0 then x else if u - 10000 = 1 then y else z)), h, nx) := by
  simp only [n_35, e_35_0, e_35_1, e_35_4, e_35_5, e_35_32, e_35_33, e_35_34, e_35_35, e_35_36, e_35_37]
  repeat' split
  all_goals rfl
theorem c_joined : Dn (d + 1) 36 [.int u, .int x, .int y] h nx = some (some (.int (jnd u x y)), h, nx) := by
  simp only [n_36, e_36_0, e_36_1, e_36_76, e_36_77, e_36_80, e_36_81, e_36_84, e_36_85, e_36_88, e_36_89, e_36_90, e_36_91, e_36_94, e_36_95, e_36_98, e_36_99, e_36_102, e_36_103, e_36_104, e_36_105, e_36_106, e_36_109, e_36_110, e_36_113, e_36_114, e_36_115, e_36_116, e_36_117, e_36_120, e_36_121, e_36_124, e_36_125, e_36_126, e_36_127, e_36_128, e_36_131, e_36_132, e_36_135, e_36_136, e_36_137, e_36_138, e_36_139, e_36_140, e_36_141, e_36_142, e_36_143, e_36_144, e_36_145, e_36_146, e_36_147, e_36_148, e_36_149, e_36_150, e_36_153, e_36_154, e_36_157, e_36_158, e_36_159, e_36_160, jnd]
  by_cases h1 : u = 38
  · simp only [h1, if_true]
    by_cases hx : x = 0 <;> by_cases hy : y = 0 <;> simp [pi, hx, hy]
  by_cases h2 : u = 42
  · simp [h2]
  by_cases h3 : u = 43
  · simp [h3]
  by_cases h4 : u = 45
  · simp [h4]
  by_cases h5 : u = 60
  · by_cases q : x < y
    · have q2 : ¬ y ≤ x := by rw [i_nle]; exact q
      simp [h5, pi, q, q2]
    · have q2 : y ≤ x := by rw [← i_nlt]; exact q
      simp [h5, pi, q, q2]
  by_cases h6 : u = 61
  · by_cases q : x = y <;> simp [h6, pi, q]
  by_cases h7 : u = 62
  · by_cases q : y < x
    · have q2 : ¬ x ≤ y := by rw [i_nle]; exact q
      simp [h7, pi, q, q2]
    · have q2 : x ≤ y := by rw [← i_nlt]; exact q
      simp [h7, pi, q, q2]
  by_cases h8 : u = 124
  · by_cases hx : x = 0 <;> by_cases hy : y = 0 <;> simp [h8, pi, hx, hy]
  by_cases hy : y = 0 <;> simp [h1, h2, h3, h4, h5, h6, h7, h8, hy]
/-- a step's number: itself, or what a name stands for -/
def vlu (x y z c : Int32) : Int32 := if 10000 ≤ c then (if c - 10000 = 0 then x else if c - 10000 = 1 then y else z) else c
/-- the steps worked out over a stack, its top first -/
def ev (x y z : Int32) : List Int32 → List Int32 → List Int32
  | [], st => st
  | c :: cs, st => if c < 0 then (if c = -33 then (match st with
      | u :: r => ev x y z cs ((if u = 0 then 1 else 0) :: r)
      | [] => [])
    else (match st with
      | v :: u :: r => ev x y z cs (jnd (-c) u v :: r)
      | _ => []))
    else ev x y z cs (vlu x y z c :: st)
/-- steps that never want what isn't there, and leave one number -/
def wfC : List Int32 → Nat → Prop
  | [], t => t = 1
  | c :: cs, t => if c < 0 then (if c = -33 then 1 ≤ t ∧ wfC cs t else 2 ≤ t ∧ wfC cs (t - 1)) else wfC cs (t + 1)
def SR (K : Nat → Int32) (st : List Int32) : Prop := ∀ m, m < st.length → K m = st.getD (st.length - 1 - m) 0
theorem SR_push {K : Nat → Int32} {st : List Int32} {v : Int32} (h : SR K st) : SR (upd K st.length v) (v :: st) := by
  intro m hm
  simp only [List.length_cons] at hm ⊢
  by_cases e : m = st.length
  · subst e
    simp [upd]
  · have h1 := h m (by omega)
    rw [show upd K st.length v m = K m from if_neg e, h1]
    rw [show st.length + 1 - 1 - m = (st.length - 1 - m) + 1 by omega]
    simp
theorem SR_pop {K : Nat → Int32} {st : List Int32} {v : Int32} (h : SR K (v :: st)) : SR K st := by
  intro m hm
  have h1 := h m (by simp; omega)
  rw [h1]
  simp only [List.length_cons]
  rw [show st.length + 1 - 1 - m = (st.length - 1 - m) + 1 by omega]
  simp
theorem SR_top {K : Nat → Int32} {st : List Int32} {v : Int32} (h : SR K (v :: st)) : K st.length = v := by
  have h1 := h st.length (by simp)
  rw [h1]
  simp
theorem gives_loop {N : Nat} (hj : j < 14) (hN : L.2 j 1 = nI N) (hN96 : N ≤ 96) (cs : List Int32) : ∀ (k : Nat) (st : List Int32) (K : Nat → Int32) (l8 : Value), nr l8 = true → k + cs.length = N → (∀ m, m < cs.length → L.1 j (k + m) = cs.getD m 0) → st.length ≤ k → wfC cs st.length → SR K st → ∃ K', Df (d + 1) 34 26 [.ref lb, l1, .int x, .int y, .int z, .ref (lb + 3 + 2 * j), .int (nI st.length), .int (nI k), l8] [] (putL h lb L K) nx = some (some (.int ((ev x y z cs st).getD 0 0)), putL h lb L K', nx) := by
  induction cs with
  | nil =>
    intro k st K l8 hl8 hk hP hst hw hS
    have hk : k = N := by simpa using hk
    subst hk
    have hw : st.length = 1 := hw
    refine ⟨K, ?_⟩
    rw [e_34_26]
    simp only [e_34_28, e_34_30, e_34_33, e_34_188, e_34_190, e_34_193, e_34_194, e_34_197, e_34_198, e_34_199, e_34_202, e_34_203, gLl1 hj, hN, gL1, Option.bind_some]
    rw [if_pos (nI_le (Nat.le_refl _) (by omega)), hw, if_neg (by decide)]
    have e : rX (putL h lb L K) (lb + 2) 0 = some (K 0) := rLk (m := 0) (by omega)
    rw [e]
    simp only [e_34_198, e_34_199, e_34_203, Option.bind_some, ev]
    have h0 := hS 0 (by omega)
    rw [hw] at h0
    rw [h0]
  | cons c cs ih =>
    intro k st K l8 hl8 hk hP hst hw hS
    have hk : k + (cs.length + 1) = N := hk
    have hk96 : k < 96 := by omega
    have hc : L.1 j k = c := by have := hP 0 (by simp); simpa using this
    have hP2 : ∀ m, m < cs.length → L.1 j (k + 1 + m) = cs.getD m 0 := by
      intro m hm
      have := hP (m + 1) (by simp; omega)
      rw [show k + 1 + m = k + (m + 1) by omega, this]
      simp
    have hs96 : st.length < 96 := by omega
    rw [e_34_26]
    simp only [e_34_28, e_34_30, e_34_33, e_34_36, e_34_38, e_34_40, e_34_43, e_34_45, e_34_48, e_34_50, gLl1 hj, gLl0 hj, hN, rLs hj hk96, hc, Option.bind_some]
    rw [if_neg (nI_ge (by omega) (by omega)), if_neg (show ¬ (96 : Int32) ≤ nI k from nI_ge (b := 96) hk96 (by omega)), e_34_51 hl8]
    by_cases h0 : c < 0
    · by_cases h33 : c = -33
      · subst h33
        simp only [wfC, h0, if_true] at hw
        cases st with
        | nil => simp at hw
        | cons u r =>
          have e1 : nI (u :: r).length - 1 = nI r.length := nI_pred r.length
          have hr96 : r.length < 96 := by simp at hs96; omega
          simp only [e_34_53, e_34_55, e_34_100, e_34_102, e_34_104, e_34_107, e_34_109, e_34_110, e_34_113, e_34_114, e_34_117, e_34_119, e_34_120, e_34_121, e_34_122, e_34_125, e_34_127, e_34_128, e_34_129, e_34_130, e_34_133, e_34_134, e_34_137, e_34_138, e_34_139, e_34_182, e_34_185, gL1, e1, rLk hr96, wLk hr96, SR_top hS, Option.bind_some, nI_1]
          rw [if_pos h0, if_pos trivial, if_neg (show ¬ nI (u :: r).length < 1 by rw [i_nlt]; exact nI_le (a := 1) (by simp) (by simp at hs96 ⊢; omega))]
          have key : ∀ v : Int32, SR (upd K r.length v) (v :: r) := fun v => SR_push (SR_pop hS)
          simp only [ev, h0, if_true]
          by_cases hu : u = 0
          · rw [if_pos hu, if_pos hu]
            exact ih (k + 1) (1 :: r) _ _ (nr_i _) (by omega) hP2 (by simp at hst ⊢; omega) hw.2 (key 1)
          · rw [if_neg hu, if_neg hu]
            exact ih (k + 1) (0 :: r) _ _ (nr_i _) (by omega) hP2 (by simp at hst ⊢; omega) hw.2 (key 0)
      · simp only [wfC, h0, h33, if_true, if_false] at hw
        match st, hw, hst, hS, hs96 with
        | [], hw, _, _, _ => simp at hw
        | [v], hw, _, _, _ => simp at hw
        | v :: u :: r, hw, hst, hS, hs96 =>
          have hr96 : r.length + 1 < 96 := by simp at hs96; omega
          have e1 : nI (v :: u :: r).length + -1 = nI (r.length + 1) := pk_m1 (r.length + 1)
          have e2 : nI (r.length + 1) - 1 = nI r.length := nI_pred r.length
          have t1 : K (r.length + 1) = v := SR_top hS
          have t2 : K r.length = u := SR_top (SR_pop hS)
          simp only [e_34_53, e_34_55, e_34_100, e_34_102, e_34_104, e_34_142, e_34_144, e_34_145, e_34_148, e_34_151, e_34_152, e_34_155, e_34_157, e_34_158, e_34_159, e_34_161, e_34_162, e_34_163, e_34_166, e_34_168, e_34_169, e_34_170, e_34_171, e_34_172, e_34_175, e_34_177, e_34_178, e_34_181, e_34_182, e_34_185, gL1, e1, e2, rLk hr96, rLk (show r.length < 96 by omega), wLk (show r.length < 96 by omega), t1, t2, c_joined, cn_s, Option.bind_some, nI_1]
          rw [if_pos h0, if_neg h33, if_neg (show ¬ nI (v :: u :: r).length < 2 by rw [i_nlt]; exact nI_le (a := 2) (by simp) (by simp at hs96 ⊢; omega))]
          simp only [ev, h0, h33, if_true, if_false]
          exact ih (k + 1) (jnd (-c) u v :: r) _ _ (nr_i _) (by omega) hP2 (by simp at hst ⊢; omega) (by simpa using hw.2) (SR_push (SR_pop (SR_pop hS)))
    · simp only [wfC, h0, if_false] at hw
      simp only [e_34_53, e_34_55, e_34_58, e_34_60, e_34_62, e_34_65, e_34_66, e_34_69, e_34_71, e_34_73, e_34_76, e_34_79, e_34_81, e_34_84, e_34_86, e_34_87, e_34_88, e_34_90, e_34_93, e_34_94, e_34_97, e_34_182, e_34_185, gL1, c_named, cn_s, wLk hs96, Option.bind_some, nI_1]
      rw [if_neg h0, if_neg (show ¬ (96 : Int32) ≤ nI st.length from nI_ge (b := 96) hs96 (by omega))]
      simp only [ev, h0, if_false]
      have e3 := ih (k + 1) (vlu x y z c :: st) (upd K st.length (vlu x y z c)) (.int c) (nr_i _) (by omega) hP2 (by simp; omega) hw (SR_push hS)
      by_cases h4 : 10000 ≤ c
      · rw [if_pos h4]
        simp only [vlu, h4, if_true] at e3 ⊢
        exact e3
      · rw [if_neg h4]
        simp only [vlu, h4, if_false] at e3 ⊢
        exact e3
theorem c_gives {N : Nat} (hj : j < 14) (hN : L.2 j 1 = nI N) (hN96 : N ≤ 96) (P : List Int32) (hP : P.length = N) (hS : ∀ m, m < N → L.1 j m = P.getD m 0) (hw : wfC P 0) : ∃ K', Dn (d + 2) 34 [.ref lb, .int (nI j), .int x, .int y, .int z] (putL h lb L K) nx = some (some (.int ((ev x y z P []).getD 0 0)), putL h lb L K', nx) := by
  obtain ⟨K', e⟩ := gives_loop (d := d) (h := h) (nx := nx) (lb := lb) (x := x) (y := y) (z := z) (l1 := .int (nI j)) hj hN hN96 P 0 [] K .null nr_n (by omega) (fun m hm => by rw [Nat.zero_add]; exact hS m (by omega)) (Nat.zero_le _) hw (fun m hm => by simp at hm)
  refine ⟨K', ?_⟩
  simp only [n_34, e_34_0, e_34_1, e_34_4, e_34_5, e_34_7, e_34_10, e_34_11, e_34_12, e_34_13, e_34_16, e_34_17, e_34_18n, e_34_18i, e_34_18r, e_34_20, e_34_21n, e_34_21i, e_34_21r, e_34_23, e_34_24n, e_34_24i, e_34_24r, gL0, rLr hj, Option.bind_some]
  rw [if_neg (nI_pos (by omega)), if_pos (show nI j < 14 from nI_lt (b := 14) hj (by omega))]
  exact e
end L1
