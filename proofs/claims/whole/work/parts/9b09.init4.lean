/-! the class's constructor, whole -/
def rn0 : Nat → Int32 := fun k => if k = 5 then 260 else 0
def S0 : CS := (D0, D0, D0, fun _ => -1000000005, (fun _ _ => 0, fun _ _ => 0), fun _ => 0, (rn0, fun _ => 0, fun _ => 0, fun _ => 0), fun _ => 0, fun _ => 0, Sh0, Sl0)
def tB (h : AH) : AH := put (put (put (put (put (put (put (putL (put (putD (putD (putD (put h 16 (tO fun _ => 0)) 17 D0) 30 D0) 43 D0) 56 (bO fun _ => -1000000005)) 57 (fun _ _ => 0, fun _ _ => 0) (fun _ => 0)) 88 (rO rn0)) 89 (qO fun _ => 0)) 90 (r0 96)) 91 (r0 96)) 92 (.inl (5, 4, .inr (.inr (.inr (.inr fun _ => none)))))) 93 (.inl (6, 5, .inr (.inr (.inr (.inr fun _ => none)))))) 94 (r0 60)
section IU
variable {d : Nat} {h : AH} {a n q : Nat}
theorem ts_o (h1 : a ≠ 92 ∧ (a < 95 ∨ 103 ≤ a)) : tsk h 4 a = h a := by
  unfold tsk
  rw [if_neg h1.1, if_neg (by omega)]
theorem tp_o (h1 : a ≠ 93 ∧ (a < 103 ∨ 123 ≤ a)) : tpk h 5 a = h a := by
  unfold tpk
  rw [if_neg h1.1, if_neg (by omega)]
theorem CH_0 : tpk (tsk (tB h) 4) 5 = CH h S0 := by
  funext a
  by_cases c0 : a < 16 ∨ 123 ≤ a
  · rw [tp_o (by omega), ts_o (by omega), CH_out c0]
    unfold tB
    rw [put_ne _ _ (by omega), put_ne _ _ (by omega), put_ne _ _ (by omega), put_ne _ _ (by omega), put_ne _ _ (by omega), put_ne _ _ (by omega), put_ne _ _ (by omega), pL_o (by omega), put_ne _ _ (by omega), pD_o (by omega), pD_o (by omega), pD_o (by omega), put_ne _ _ (by omega)]
  have c1 : 16 ≤ a := by omega
  have c2 : a < 123 := by omega
  unfold CH
  by_cases k1 : a < 17
  · rw [seg_at (by omega), show a = 16 by omega]
    rfl
  rw [seg_o (by omega)]
  by_cases k1 : a < 30
  · rw [seg_at (by omega), tp_o (by omega), ts_o (by omega)]
    unfold tB
    rw [put_ne _ _ (by omega), put_ne _ _ (by omega), put_ne _ _ (by omega), put_ne _ _ (by omega), put_ne _ _ (by omega), put_ne _ _ (by omega), put_ne _ _ (by omega), pL_o (by omega), put_ne _ _ (by omega), pD_o (by omega), pD_o (by omega), putD_dc, seg_at (by omega)]
    rfl
  rw [seg_o (by omega)]
  by_cases k2 : a < 43
  · rw [seg_at (by omega), tp_o (by omega), ts_o (by omega)]
    unfold tB
    rw [put_ne _ _ (by omega), put_ne _ _ (by omega), put_ne _ _ (by omega), put_ne _ _ (by omega), put_ne _ _ (by omega), put_ne _ _ (by omega), put_ne _ _ (by omega), pL_o (by omega), put_ne _ _ (by omega), pD_o (by omega), putD_dc, seg_at (by omega)]
    rfl
  rw [seg_o (by omega)]
  by_cases k3 : a < 56
  · rw [seg_at (by omega), tp_o (by omega), ts_o (by omega)]
    unfold tB
    rw [put_ne _ _ (by omega), put_ne _ _ (by omega), put_ne _ _ (by omega), put_ne _ _ (by omega), put_ne _ _ (by omega), put_ne _ _ (by omega), put_ne _ _ (by omega), pL_o (by omega), put_ne _ _ (by omega), putD_dc, seg_at (by omega)]
    rfl
  rw [seg_o (by omega)]
  by_cases k4 : a < 57
  · rw [seg_at (by omega), show a = 56 by omega]
    rfl
  rw [seg_o (by omega)]
  by_cases k5 : a < 88
  · rw [seg_at (by omega), tp_o (by omega), ts_o (by omega)]
    unfold tB
    rw [put_ne _ _ (by omega), put_ne _ _ (by omega), put_ne _ _ (by omega), put_ne _ _ (by omega), put_ne _ _ (by omega), put_ne _ _ (by omega), put_ne _ _ (by omega), putL_lc, seg_at (by omega)]
    rfl
  rw [seg_o (by omega)]
  by_cases k6 : a < 89
  · rw [seg_at (by omega), show a = 88 by omega]
    rfl
  rw [seg_o (by omega)]
  by_cases k7 : a < 90
  · rw [seg_at (by omega), show a = 89 by omega]
    rfl
  rw [seg_o (by omega)]
  by_cases k8 : a < 91
  · rw [seg_at (by omega), show a = 90 by omega]
    rfl
  rw [seg_o (by omega)]
  by_cases k9 : a < 92
  · rw [seg_at (by omega), show a = 91 by omega]
    rfl
  rw [seg_o (by omega)]
  by_cases m1 : a < 93
  · rw [seg_at (by omega), show a = 92 by omega]
    rfl
  rw [seg_o (by omega)]
  by_cases m2 : a < 94
  · rw [seg_at (by omega), show a = 93 by omega]
    rfl
  rw [seg_o (by omega)]
  by_cases m3 : a < 95
  · rw [seg_at (by omega), show a = 94 by omega]
    rfl
  rw [seg_o (by omega)]
  by_cases m4 : a < 103
  · rw [seg_at (by omega), tp_o (by omega)]
    unfold tsk
    rw [if_neg (by omega), if_pos (by omega)]
    rfl
  rw [seg_o (by omega), seg_at (by omega)]
  unfold tpk
  rw [if_neg (by omega), if_pos (by omega)]
  rfl
theorem ts_0 : tsk (tB h) 0 = tB h := by
  funext a
  unfold tsk
  by_cases c : a = 92
  · rw [if_pos c, c]
    rfl
  · rw [if_neg c, if_neg (by omega)]
theorem tp_0 : tpk (tsk (tB h) 4) 0 = tsk (tB h) 4 := by
  funext a
  unfold tpk
  by_cases c : a = 93
  · rw [if_pos c, c]
    rfl
  · rw [if_neg c, if_neg (by omega)]
theorem i_tl : Dn (d + 3) 71 [.ref 16] (put h 16 (.inr (8, dfl 8))) (1, q) = some (none, CH h S0, (107, q + 2399)) := by
  rw [show dfl 8 = [.null, .null, .null, .null, .null, .null, .null, .null, .null, .int 0, .int 0] from rfl]
  have ls := i_sloop (d := d) (h := tB h) (fs := [.ref 17, .ref 30, .ref 43, .ref 56, .ref 57, .ref 88, .ref 92, .ref 93, .ref 94, .int 0, .int 0]) rfl rfl 4 0 79 (q + 2106) (by omega) (by omega)
  have lp := i_ploop (d := d) (h := tsk (tB h) 4) (fs := [.ref 17, .ref 30, .ref 43, .ref 56, .ref 57, .ref 88, .ref 92, .ref 93, .ref 94, .int 0, .int 0]) rfl rfl 5 0 87 (q + 2214) (by omega) (by omega)
  rw [tp_0, CH_0, show nI 0 = 0 from rfl] at lp
  rw [ts_0, show nI 0 = 0 from rfl] at ls
  simp only [n_71, e_71_0, e_71_1, e_71_4, e_71_5, e_71_8i, e_71_8r, e_71_9, e_71_12, e_71_15, e_71_16, e_71_19i, e_71_19r, e_71_20, e_71_23, e_71_26, e_71_27, e_71_30i, e_71_30r, e_71_31, e_71_34, e_71_37, e_71_38, e_71_41i, e_71_41r, e_71_42, e_71_45, e_71_48, e_71_49, e_71_52i, e_71_52r, e_71_53, e_71_56, e_71_59, e_71_60, e_71_63i, e_71_63r, e_71_64, e_71_67, e_71_70, e_71_71, e_71_72, e_71_75, e_71_78, e_71_79, e_71_80, e_71_83, e_71_86, e_71_87, e_71_89, e_71_91, e_71_94, e_71_95, e_71_96, e_71_99, e_71_100, e_71_101, e_71_104, e_71_105n, e_71_105i, e_71_105r, i_desert, i_best, i_laws, i_reader, cn_v, show (4 : Int32).toNatClampNeg = 4 from rfl, show (5 : Int32).toNatClampNeg = 5 from rfl, show (60 : Int32).toNatClampNeg = 60 from rfl, show ¬ (4 : Int32) < 0 by decide, show ¬ (5 : Int32) < 0 by decide, show ¬ (60 : Int32) < 0 by decide, or_self, if_false, pF_o, pF_D, pF_L, pF_s, ne_eq, Nat.reduceEqDiff, not_false_eq_true, Option.map_some, List.length_cons, List.length_nil, List.length_set, List.set_cons_succ, List.set_cons_zero, Nat.zero_add, Nat.reduceAdd, Nat.reduceLT, Nat.reduceLeDiff, true_or, or_true, if_true, Option.bind_some]
  have ls' : ∀ z, z = q + 2106 → Df (d + 2) 71 106 [.ref 16, .int 0] [] (tB h) (79, z) = Df (d + 2) 71 130 [.ref 16, .int (nI 4)] [] (tsk (tB h) 4) (87, q + 2214) := fun z hz => by rw [hz]; exact ls
  refine Eq.trans (ls' _ (by omega)) ?_
  simp only [e_71_130, e_71_131n, e_71_131i, e_71_131r]
  exact lp
end IU
