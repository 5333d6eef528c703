/-! the model's constructor -/
def k0 : Nat → Int32 := upd (upd (upd (upd (upd (upd (upd (upd (upd (upd (upd (upd (upd (fun _ => 0) 0 116) 1 104) 2 105) 3 114) 4 115) 5 116) 6 102) 7 101) 8 101) 9 102) 10 105) 11 110) 12 101
def p0 : Nat → Int32 := upd (upd (upd (upd (fun _ => 0) 0 0) 1 6) 2 9) 3 13
def t0 : Nat → Int32 := upd (upd (upd (upd (fun _ => 0) 0 (-1)) 1 (-1)) 2 (-1)) 3 (-1)
def n0 : Nat → Int32 := upd (upd (upd (upd (fun _ => 0) 0 1) 3 3) 4 2) 6 60
def z0 : Nat → Int32 := fun _ => 0
def M0 : MS := (z0, fun a => if a = 124 then n0 else if a = 129 then k0 else if a = 130 then p0 else if a = 136 then t0 else z0)
section IV
variable {d : Nat} {h H : AH} {nx : AN} {a b c j k n q t : Nat} {e : va_E} {f : Nat → Int32} {x i : Int32} {fs : List Value}
theorem wI_s : wI (put h a (.inl (c, n, .inl f))) a i t x = if c = t ∧ ib i n = true then some (put h a (.inl (c, n, .inl (upd f i.toNatClampNeg x)))) else none := by
  unfold wI
  rw [put_same]
  dsimp only
  rw [put_put]
theorem wI_o (hab : a ≠ b) : wI (put h a e) b i t x = (wI h b i t x).map (fun h' => put h' a e) := by
  unfold wI
  rw [put_ne _ _ (fun q => hab q.symm)]
  cases h b with
  | inr z => rfl
  | inl z =>
    obtain ⟨c, n, y⟩ := z
    cases y with
    | inr y => rfl
    | inl y =>
      dsimp only
      split
      · simp only [Option.map_some]
        congr 1
        funext q
        unfold put
        by_cases q1 : q = b
        · rw [if_pos q1, if_neg (fun w => hab (w.symm.trans q1)), if_pos q1]
        · rw [if_neg q1]
          by_cases q2 : q = a
          · rw [if_pos q2, if_pos q2]
          · rw [if_neg q2, if_neg q2, if_neg q1]
      · rfl
theorem gF_s : gF (put h a (.inr (c, fs))) a c j = fs[j]? := by
  unfold gF
  rw [put_same]
  dsimp only
  rw [if_pos rfl]
theorem gP_o (hab : a ≠ b) : gF (put h a e) b c j = gF h b c j := by
  unfold gF
  rw [put_ne _ _ (fun q => hab q.symm)]
theorem pF_x {v : Value} (ha : a ≠ 123) (hl : fs.length = 34) (hj : j < 34) : pF (put (put H 123 (.inr (9, fs))) a e) 123 9 j v = some (put (put H a e) 123 (.inr (9, fs.set j v))) := by
  rw [pF_o ha, pF_s, hl, if_pos hj]
  simp only [Option.map_some]
  congr 1
  funext q
  unfold put
  by_cases q1 : q = 123
  · rw [if_neg (fun w => ha (w.symm.trans q1)), if_pos q1, if_pos q1]
  · rw [if_neg q1, if_neg q1]
theorem mrow_0 (ha : 16 + n ≠ 123) (hl : fs.length = 34) : Df d 121 4 [.ref 123] [] (put H 123 (.inr (9, fs))) (n, q) = Df d 121 13 [.ref 123] [] (put (put H (16 + n) (.inl (0, 1467, .inl z0))) 123 (.inr (9, fs.set 0 (.ref (16 + n))))) (n + 1, q + 1467) := by
  unfold z0
  simp only [e_121_4, e_121_5, e_121_8, e_121_10, show (1467 : Int32).toNatClampNeg = 1467 from rfl, show ¬ (1467 : Int32) < 0 by decide, wI_s, pF_x ha hl (show 0 < 34 by omega), Nat.reduceLT, or_self, and_self, if_false, if_true, Option.bind_some]
theorem mrow_1 (ha : 16 + n ≠ 123) (hl : fs.length = 34) : Df d 121 13 [.ref 123] [] (put H 123 (.inr (9, fs))) (n, q) = Df d 121 22 [.ref 123] [] (put (put H (16 + n) (.inl (0, 1467, .inl z0))) 123 (.inr (9, fs.set 1 (.ref (16 + n))))) (n + 1, q + 1467) := by
  unfold z0
  simp only [e_121_13, e_121_14, e_121_17, e_121_19, show (1467 : Int32).toNatClampNeg = 1467 from rfl, show ¬ (1467 : Int32) < 0 by decide, wI_s, pF_x ha hl (show 1 < 34 by omega), Nat.reduceLT, or_self, and_self, if_false, if_true, Option.bind_some]
theorem mrow_2 (ha : 16 + n ≠ 123) (hl : fs.length = 34) : Df d 121 22 [.ref 123] [] (put H 123 (.inr (9, fs))) (n, q) = Df d 121 31 [.ref 123] [] (put (put H (16 + n) (.inl (0, 1467, .inl z0))) 123 (.inr (9, fs.set 2 (.ref (16 + n))))) (n + 1, q + 1467) := by
  unfold z0
  simp only [e_121_22, e_121_23, e_121_26, e_121_28, show (1467 : Int32).toNatClampNeg = 1467 from rfl, show ¬ (1467 : Int32) < 0 by decide, wI_s, pF_x ha hl (show 2 < 34 by omega), Nat.reduceLT, or_self, and_self, if_false, if_true, Option.bind_some]
theorem mrow_3 (ha : 16 + n ≠ 123) (hl : fs.length = 34) : Df d 121 31 [.ref 123] [] (put H 123 (.inr (9, fs))) (n, q) = Df d 121 39 [.ref 123] [] (put (put H (16 + n) (.inl (0, 95, .inl z0))) 123 (.inr (9, fs.set 5 (.ref (16 + n))))) (n + 1, q + 95) := by
  unfold z0
  simp only [e_121_31, e_121_32, e_121_34, e_121_36, show (95 : Int32).toNatClampNeg = 95 from rfl, show ¬ (95 : Int32) < 0 by decide, wI_s, pF_x ha hl (show 5 < 34 by omega), Nat.reduceLT, or_self, and_self, if_false, if_true, Option.bind_some]
theorem mrow_4 (ha : 16 + n ≠ 123) (hl : fs.length = 34) : Df d 121 39 [.ref 123] [] (put H 123 (.inr (9, fs))) (n, q) = Df d 121 47 [.ref 123] [] (put (put H (16 + n) (.inl (0, 96, .inl z0))) 123 (.inr (9, fs.set 6 (.ref (16 + n))))) (n + 1, q + 96) := by
  unfold z0
  simp only [e_121_39, e_121_40, e_121_42, e_121_44, show (96 : Int32).toNatClampNeg = 96 from rfl, show ¬ (96 : Int32) < 0 by decide, wI_s, pF_x ha hl (show 6 < 34 by omega), Nat.reduceLT, or_self, and_self, if_false, if_true, Option.bind_some]
theorem mrow_5 (ha : 16 + n ≠ 123) (hl : fs.length = 34) : Df d 121 47 [.ref 123] [] (put H 123 (.inr (9, fs))) (n, q) = Df d 121 127 [.ref 123] [] (put (put H (16 + n) (.inl (2, 13, .inl k0))) 123 (.inr (9, fs.set 14 (.ref (16 + n))))) (n + 1, q + 13) := by
  unfold k0
  simp only [e_121_47, e_121_48, e_121_50, e_121_52i, e_121_52r, e_121_53, e_121_54, e_121_56, e_121_57i, e_121_57r, e_121_58, e_121_59, e_121_61, e_121_62i, e_121_62r, e_121_63, e_121_64, e_121_66, e_121_67i, e_121_67r, e_121_68, e_121_69, e_121_71, e_121_72i, e_121_72r, e_121_73, e_121_74, e_121_76, e_121_77i, e_121_77r, e_121_78, e_121_79, e_121_81, e_121_82i, e_121_82r, e_121_83, e_121_85, e_121_87, e_121_88i, e_121_88r, e_121_89, e_121_91, e_121_93, e_121_94i, e_121_94r, e_121_95, e_121_97, e_121_99, e_121_100i, e_121_100r, e_121_101, e_121_103, e_121_105, e_121_106i, e_121_106r, e_121_107, e_121_109, e_121_111, e_121_112i, e_121_112r, e_121_113, e_121_115, e_121_117, e_121_118i, e_121_118r, e_121_119, e_121_121, e_121_123, e_121_124, show (13 : Int32).toNatClampNeg = 13 from rfl, show ¬ (13 : Int32) < 0 by decide, show (0 : Int32).toNatClampNeg = 0 from rfl, show (1 : Int32).toNatClampNeg = 1 from rfl, show (2 : Int32).toNatClampNeg = 2 from rfl, show (3 : Int32).toNatClampNeg = 3 from rfl, show (4 : Int32).toNatClampNeg = 4 from rfl, show (5 : Int32).toNatClampNeg = 5 from rfl, show (6 : Int32).toNatClampNeg = 6 from rfl, show (7 : Int32).toNatClampNeg = 7 from rfl, show (8 : Int32).toNatClampNeg = 8 from rfl, show (9 : Int32).toNatClampNeg = 9 from rfl, show (10 : Int32).toNatClampNeg = 10 from rfl, show (11 : Int32).toNatClampNeg = 11 from rfl, show (12 : Int32).toNatClampNeg = 12 from rfl, show ib 0 13 = true from rfl, show ib 1 13 = true from rfl, show ib 2 13 = true from rfl, show ib 3 13 = true from rfl, show ib 4 13 = true from rfl, show ib 5 13 = true from rfl, show ib 6 13 = true from rfl, show ib 7 13 = true from rfl, show ib 8 13 = true from rfl, show ib 9 13 = true from rfl, show ib 10 13 = true from rfl, show ib 11 13 = true from rfl, show ib 12 13 = true from rfl, show vp_nar .char 101 = 101 from rfl, show vp_nar .char 102 = 102 from rfl, show vp_nar .char 104 = 104 from rfl, show vp_nar .char 105 = 105 from rfl, show vp_nar .char 110 = 110 from rfl, show vp_nar .char 114 = 114 from rfl, show vp_nar .char 115 = 115 from rfl, show vp_nar .char 116 = 116 from rfl, wI_s, pF_x ha hl (show 14 < 34 by omega), Nat.reduceLT, or_self, and_self, if_false, if_true, Option.bind_some]
theorem mrow_6 (ha : 16 + n ≠ 123) (hl : fs.length = 34) : Df d 121 127 [.ref 123] [] (put H 123 (.inr (9, fs))) (n, q) = Df d 121 153 [.ref 123] [] (put (put H (16 + n) (.inl (0, 4, .inl p0))) 123 (.inr (9, fs.set 15 (.ref (16 + n))))) (n + 1, q + 4) := by
  unfold p0
  simp only [e_121_127, e_121_128, e_121_129, e_121_131i, e_121_131r, e_121_132, e_121_133, e_121_134, e_121_135i, e_121_135r, e_121_136, e_121_137, e_121_139, e_121_140i, e_121_140r, e_121_141, e_121_142, e_121_144, e_121_145i, e_121_145r, e_121_146, e_121_147, e_121_149, e_121_150, show (4 : Int32).toNatClampNeg = 4 from rfl, show ¬ (4 : Int32) < 0 by decide, show (0 : Int32).toNatClampNeg = 0 from rfl, show (1 : Int32).toNatClampNeg = 1 from rfl, show (2 : Int32).toNatClampNeg = 2 from rfl, show (3 : Int32).toNatClampNeg = 3 from rfl, show ib 0 4 = true from rfl, show ib 1 4 = true from rfl, show ib 2 4 = true from rfl, show ib 3 4 = true from rfl, wI_s, pF_x ha hl (show 15 < 34 by omega), Nat.reduceLT, or_self, and_self, if_false, if_true, Option.bind_some]
theorem mrow_7 (ha : 16 + n ≠ 123) (hl : fs.length = 34) : Df d 121 153 [.ref 123] [] (put H 123 (.inr (9, fs))) (n, q) = Df d 121 161 [.ref 123] [] (put (put H (16 + n) (.inl (0, 96, .inl z0))) 123 (.inr (9, fs.set 16 (.ref (16 + n))))) (n + 1, q + 96) := by
  unfold z0
  simp only [e_121_153, e_121_154, e_121_156, e_121_158, show (96 : Int32).toNatClampNeg = 96 from rfl, show ¬ (96 : Int32) < 0 by decide, wI_s, pF_x ha hl (show 16 < 34 by omega), Nat.reduceLT, or_self, and_self, if_false, if_true, Option.bind_some]
theorem mrow_8 (ha : 16 + n ≠ 123) (hl : fs.length = 34) : Df d 121 161 [.ref 123] [] (put H 123 (.inr (9, fs))) (n, q) = Df d 121 169 [.ref 123] [] (put (put H (16 + n) (.inl (0, 96, .inl z0))) 123 (.inr (9, fs.set 19 (.ref (16 + n))))) (n + 1, q + 96) := by
  unfold z0
  simp only [e_121_161, e_121_162, e_121_164, e_121_166, show (96 : Int32).toNatClampNeg = 96 from rfl, show ¬ (96 : Int32) < 0 by decide, wI_s, pF_x ha hl (show 19 < 34 by omega), Nat.reduceLT, or_self, and_self, if_false, if_true, Option.bind_some]
theorem mrow_9 (ha : 16 + n ≠ 123) (hl : fs.length = 34) : Df d 121 169 [.ref 123] [] (put H 123 (.inr (9, fs))) (n, q) = Df d 121 177 [.ref 123] [] (put (put H (16 + n) (.inl (1, 10, .inl z0))) 123 (.inr (9, fs.set 21 (.ref (16 + n))))) (n + 1, q + 10) := by
  unfold z0
  simp only [e_121_169, e_121_170, e_121_172, e_121_174, show (10 : Int32).toNatClampNeg = 10 from rfl, show ¬ (10 : Int32) < 0 by decide, wI_s, pF_x ha hl (show 21 < 34 by omega), Nat.reduceLT, or_self, and_self, if_false, if_true, Option.bind_some]
theorem mrow_10 (ha : 16 + n ≠ 123) (hl : fs.length = 34) : Df d 121 177 [.ref 123] [] (put H 123 (.inr (9, fs))) (n, q) = Df d 121 185 [.ref 123] [] (put (put H (16 + n) (.inl (0, 96, .inl z0))) 123 (.inr (9, fs.set 22 (.ref (16 + n))))) (n + 1, q + 96) := by
  unfold z0
  simp only [e_121_177, e_121_178, e_121_180, e_121_182, show (96 : Int32).toNatClampNeg = 96 from rfl, show ¬ (96 : Int32) < 0 by decide, wI_s, pF_x ha hl (show 22 < 34 by omega), Nat.reduceLT, or_self, and_self, if_false, if_true, Option.bind_some]
theorem mrow_11 (ha : 16 + n ≠ 123) (hl : fs.length = 34) : Df d 121 185 [.ref 123] [] (put H 123 (.inr (9, fs))) (n, q) = Df d 121 192 [.ref 123] [] (put (put H (16 + n) (.inl (0, 4, .inl z0))) 123 (.inr (9, fs.set 23 (.ref (16 + n))))) (n + 1, q + 4) := by
  unfold z0
  simp only [e_121_185, e_121_186, e_121_187, e_121_189, show (4 : Int32).toNatClampNeg = 4 from rfl, show ¬ (4 : Int32) < 0 by decide, wI_s, pF_x ha hl (show 23 < 34 by omega), Nat.reduceLT, or_self, and_self, if_false, if_true, Option.bind_some]
theorem mrow_12 (ha : 16 + n ≠ 123) (hl : fs.length = 34) : Df d 121 192 [.ref 123] [] (put H 123 (.inr (9, fs))) (n, q) = Df d 121 215 [.ref 123] [] (put (put H (16 + n) (.inl (0, 4, .inl t0))) 123 (.inr (9, fs.set 24 (.ref (16 + n))))) (n + 1, q + 4) := by
  unfold t0
  simp only [e_121_192, e_121_193, e_121_194, e_121_196i, e_121_196r, e_121_197, e_121_198, e_121_199, e_121_200i, e_121_200r, e_121_201, e_121_202, e_121_203, e_121_204i, e_121_204r, e_121_205, e_121_206, e_121_207, e_121_208i, e_121_208r, e_121_209, e_121_210, e_121_211, e_121_212, show (4 : Int32).toNatClampNeg = 4 from rfl, show ¬ (4 : Int32) < 0 by decide, show (0 : Int32).toNatClampNeg = 0 from rfl, show (1 : Int32).toNatClampNeg = 1 from rfl, show (2 : Int32).toNatClampNeg = 2 from rfl, show (3 : Int32).toNatClampNeg = 3 from rfl, show ib 0 4 = true from rfl, show ib 1 4 = true from rfl, show ib 2 4 = true from rfl, show ib 3 4 = true from rfl, wI_s, pF_x ha hl (show 24 < 34 by omega), Nat.reduceLT, or_self, and_self, if_false, if_true, Option.bind_some]
theorem mrow_13 (ha : 16 + n ≠ 123) (hl : fs.length = 34) : Df d 121 215 [.ref 123] [] (put H 123 (.inr (9, fs))) (n, q) = Df d 121 222 [.ref 123] [] (put (put H (16 + n) (.inl (0, 4, .inl z0))) 123 (.inr (9, fs.set 25 (.ref (16 + n))))) (n + 1, q + 4) := by
  unfold z0
  simp only [e_121_215, e_121_216, e_121_217, e_121_219, show (4 : Int32).toNatClampNeg = 4 from rfl, show ¬ (4 : Int32) < 0 by decide, wI_s, pF_x ha hl (show 25 < 34 by omega), Nat.reduceLT, or_self, and_self, if_false, if_true, Option.bind_some]
theorem mrow_14 (ha : 16 + n ≠ 123) (hl : fs.length = 34) : Df d 121 222 [.ref 123] [] (put H 123 (.inr (9, fs))) (n, q) = Df d 121 230 [.ref 123] [] (put (put H (16 + n) (.inl (0, 96, .inl z0))) 123 (.inr (9, fs.set 26 (.ref (16 + n))))) (n + 1, q + 96) := by
  unfold z0
  simp only [e_121_222, e_121_223, e_121_225, e_121_227, show (96 : Int32).toNatClampNeg = 96 from rfl, show ¬ (96 : Int32) < 0 by decide, wI_s, pF_x ha hl (show 26 < 34 by omega), Nat.reduceLT, or_self, and_self, if_false, if_true, Option.bind_some]
theorem mrow_15 (ha : 16 + n ≠ 123) (hl : fs.length = 34) : Df d 121 230 [.ref 123] [] (put H 123 (.inr (9, fs))) (n, q) = Df d 121 237 [.ref 123] [] (put (put H (16 + n) (.inl (0, 5, .inl z0))) 123 (.inr (9, fs.set 27 (.ref (16 + n))))) (n + 1, q + 5) := by
  unfold z0
  simp only [e_121_230, e_121_231, e_121_232, e_121_234, show (5 : Int32).toNatClampNeg = 5 from rfl, show ¬ (5 : Int32) < 0 by decide, wI_s, pF_x ha hl (show 27 < 34 by omega), Nat.reduceLT, or_self, and_self, if_false, if_true, Option.bind_some]
theorem mrow_16 (ha : 16 + n ≠ 123) (hl : fs.length = 34) : Df d 121 237 [.ref 123] [] (put H 123 (.inr (9, fs))) (n, q) = Df d 121 244 [.ref 123] [] (put (put H (16 + n) (.inl (0, 5, .inl z0))) 123 (.inr (9, fs.set 28 (.ref (16 + n))))) (n + 1, q + 5) := by
  unfold z0
  simp only [e_121_237, e_121_238, e_121_239, e_121_241, show (5 : Int32).toNatClampNeg = 5 from rfl, show ¬ (5 : Int32) < 0 by decide, wI_s, pF_x ha hl (show 28 < 34 by omega), Nat.reduceLT, or_self, and_self, if_false, if_true, Option.bind_some]
theorem mrow_17 (ha : 16 + n ≠ 123) (hl : fs.length = 34) : Df d 121 244 [.ref 123] [] (put H 123 (.inr (9, fs))) (n, q) = Df d 121 251 [.ref 123] [] (put (put H (16 + n) (.inl (0, 5, .inl z0))) 123 (.inr (9, fs.set 29 (.ref (16 + n))))) (n + 1, q + 5) := by
  unfold z0
  simp only [e_121_244, e_121_245, e_121_246, e_121_248, show (5 : Int32).toNatClampNeg = 5 from rfl, show ¬ (5 : Int32) < 0 by decide, wI_s, pF_x ha hl (show 29 < 34 by omega), Nat.reduceLT, or_self, and_self, if_false, if_true, Option.bind_some]
theorem mrow_18 (ha : 16 + n ≠ 123) (hl : fs.length = 34) : Df d 121 251 [.ref 123] [] (put H 123 (.inr (9, fs))) (n, q) = Df d 121 259 [.ref 123] [] (put (put H (16 + n) (.inl (0, 120, .inl z0))) 123 (.inr (9, fs.set 30 (.ref (16 + n))))) (n + 1, q + 120) := by
  unfold z0
  simp only [e_121_251, e_121_252, e_121_254, e_121_256, show (120 : Int32).toNatClampNeg = 120 from rfl, show ¬ (120 : Int32) < 0 by decide, wI_s, pF_x ha hl (show 30 < 34 by omega), Nat.reduceLT, or_self, and_self, if_false, if_true, Option.bind_some]
theorem mrow_19 (ha : 16 + n ≠ 123) (hl : fs.length = 34) : Df d 121 259 [.ref 123] [] (put H 123 (.inr (9, fs))) (n, q) = Df d 121 267 [.ref 123] [] (put (put H (16 + n) (.inl (0, 24, .inl z0))) 123 (.inr (9, fs.set 31 (.ref (16 + n))))) (n + 1, q + 24) := by
  unfold z0
  simp only [e_121_259, e_121_260, e_121_262, e_121_264, show (24 : Int32).toNatClampNeg = 24 from rfl, show ¬ (24 : Int32) < 0 by decide, wI_s, pF_x ha hl (show 31 < 34 by omega), Nat.reduceLT, or_self, and_self, if_false, if_true, Option.bind_some]
theorem mrow_20 (ha : 16 + n ≠ 123) (hl : fs.length = 34) : Df d 121 267 [.ref 123] [] (put H 123 (.inr (9, fs))) (n, q) = Df d 121 275 [.ref 123] [] (put (put H (16 + n) (.inl (0, 60, .inl z0))) 123 (.inr (9, fs.set 32 (.ref (16 + n))))) (n + 1, q + 60) := by
  unfold z0
  simp only [e_121_267, e_121_268, e_121_270, e_121_272, show (60 : Int32).toNatClampNeg = 60 from rfl, show ¬ (60 : Int32) < 0 by decide, wI_s, pF_x ha hl (show 32 < 34 by omega), Nat.reduceLT, or_self, and_self, if_false, if_true, Option.bind_some]
theorem wI_x {f : Nat → Int32} (e0 : H 124 = .inl (0, 1467, .inl f)) (hi : ib i 1467 = true) : wI (put H 123 (.inr (9, fs))) 124 i 0 x = some (put (put H 124 (.inl (0, 1467, .inl (upd f i.toNatClampNeg x)))) 123 (.inr (9, fs))) := by
  rw [wI_o (by omega)]
  unfold wI
  rw [e0]
  dsimp only
  rw [if_pos ⟨rfl, hi⟩]
  rfl
theorem m_end (e0 : H 124 = .inl (0, 1467, .inl z0)) (hf : fs[0]? = some (.ref 124)) : Df d 121 275 [.ref 123] [] (put H 123 (.inr (9, fs))) nx = some (none, put (put H 124 (.inl (0, 1467, .inl n0))) 123 (.inr (9, fs)), nx) := by
  have g : ∀ H : AH, gF (put H 123 (.inr (9, fs))) 123 9 0 = some (.ref 124) := fun H => by rw [gF_s]; exact hf
  have w1 := wI_x (fs := fs) (i := 0) (x := 1) e0 rfl
  have w2 := wI_x (fs := fs) (i := 3) (x := 3) (put_same H 124 (.inl (0, 1467, .inl (upd z0 (0 : Int32).toNatClampNeg 1)))) rfl
  rw [put_put] at w2
  have w3 := wI_x (fs := fs) (i := 4) (x := 2) (put_same H 124 (.inl (0, 1467, .inl (upd (upd z0 (0 : Int32).toNatClampNeg 1) (3 : Int32).toNatClampNeg 3)))) rfl
  rw [put_put] at w3
  have w4 := wI_x (fs := fs) (i := 6) (x := 60) (put_same H 124 (.inl (0, 1467, .inl (upd (upd (upd z0 (0 : Int32).toNatClampNeg 1) (3 : Int32).toNatClampNeg 3) (4 : Int32).toNatClampNeg 2)))) rfl
  rw [put_put] at w4
  simp only [e_121_275, e_121_276, e_121_279, e_121_280, e_121_281, e_121_282, e_121_283, e_121_286, e_121_287, e_121_288, e_121_289, e_121_290, e_121_293, e_121_294, e_121_295, e_121_296, e_121_297, e_121_300, e_121_302, e_121_304, e_121_305, g, w1, w2, w3, w4, Option.bind_some]
  rfl
def mN (h : AH) : AH := put (put (put (put (put (put (put (put (put (put (put (put (put (put (put (put (put (put (put (put (put (h) 124 (.inl (0, 1467, .inl z0))) 125 (.inl (0, 1467, .inl z0))) 126 (.inl (0, 1467, .inl z0))) 127 (.inl (0, 95, .inl z0))) 128 (.inl (0, 96, .inl z0))) 129 (.inl (2, 13, .inl k0))) 130 (.inl (0, 4, .inl p0))) 131 (.inl (0, 96, .inl z0))) 132 (.inl (0, 96, .inl z0))) 133 (.inl (1, 10, .inl z0))) 134 (.inl (0, 96, .inl z0))) 135 (.inl (0, 4, .inl z0))) 136 (.inl (0, 4, .inl t0))) 137 (.inl (0, 4, .inl z0))) 138 (.inl (0, 96, .inl z0))) 139 (.inl (0, 5, .inl z0))) 140 (.inl (0, 5, .inl z0))) 141 (.inl (0, 5, .inl z0))) 142 (.inl (0, 120, .inl z0))) 143 (.inl (0, 24, .inl z0))) 144 (.inl (0, 60, .inl z0))
theorem MH_0 : put (put (mN h) 124 (.inl (0, 1467, .inl n0))) 123 (mOb z0) = MH h M0 := by
  funext a
  by_cases c0 : a < 123 ∨ 145 ≤ a
  · rw [MH_out c0, put_ne _ _ (by omega), put_ne _ _ (by omega)]
    unfold mN
    rw [put_ne _ _ (by omega), put_ne _ _ (by omega), put_ne _ _ (by omega), put_ne _ _ (by omega), put_ne _ _ (by omega), put_ne _ _ (by omega), put_ne _ _ (by omega), put_ne _ _ (by omega), put_ne _ _ (by omega), put_ne _ _ (by omega), put_ne _ _ (by omega), put_ne _ _ (by omega), put_ne _ _ (by omega), put_ne _ _ (by omega), put_ne _ _ (by omega), put_ne _ _ (by omega), put_ne _ _ (by omega), put_ne _ _ (by omega), put_ne _ _ (by omega), put_ne _ _ (by omega), put_ne _ _ (by omega)]
  by_cases c : a = 123
  · subst c; rfl
  by_cases c : a = 124
  · subst c; rfl
  by_cases c : a = 125
  · subst c; rfl
  by_cases c : a = 126
  · subst c; rfl
  by_cases c : a = 127
  · subst c; rfl
  by_cases c : a = 128
  · subst c; rfl
  by_cases c : a = 129
  · subst c; rfl
  by_cases c : a = 130
  · subst c; rfl
  by_cases c : a = 131
  · subst c; rfl
  by_cases c : a = 132
  · subst c; rfl
  by_cases c : a = 133
  · subst c; rfl
  by_cases c : a = 134
  · subst c; rfl
  by_cases c : a = 135
  · subst c; rfl
  by_cases c : a = 136
  · subst c; rfl
  by_cases c : a = 137
  · subst c; rfl
  by_cases c : a = 138
  · subst c; rfl
  by_cases c : a = 139
  · subst c; rfl
  by_cases c : a = 140
  · subst c; rfl
  by_cases c : a = 141
  · subst c; rfl
  by_cases c : a = 142
  · subst c; rfl
  by_cases c : a = 143
  · subst c; rfl
  by_cases c : a = 144
  · subst c; rfl
  omega
theorem i_model : Dn (d + 1) 121 [.ref 123] (put h 123 (.inr (9, dfl 9))) (108, q) = some (none, MH h M0, (129, q + 5234)) := by
  rw [show dfl 9 = [.null, .null, .null, .int 0, .int 0, .null, .null, .int 0, .int 0, .int 0, .int 0, .int 0, .int 0, .int 0, .null, .null, .null, .int 0, .int 0, .null, .int 0, .null, .null, .null, .null, .null, .null, .null, .null, .null, .null, .null, .null, .int 0] from rfl, ← MH_0, show q + 5234 = q + 1467 + 1467 + 1467 + 95 + 96 + 13 + 4 + 96 + 96 + 10 + 96 + 4 + 4 + 4 + 96 + 5 + 5 + 5 + 120 + 24 + 60 by omega]
  simp only [n_121, e_121_0, e_121_1]
  rw [mrow_0 (by omega) rfl]
  rw [mrow_1 (by omega) (by simp only [List.length_set]; rfl)]
  rw [mrow_2 (by omega) (by simp only [List.length_set]; rfl)]
  rw [mrow_3 (by omega) (by simp only [List.length_set]; rfl)]
  rw [mrow_4 (by omega) (by simp only [List.length_set]; rfl)]
  rw [mrow_5 (by omega) (by simp only [List.length_set]; rfl)]
  rw [mrow_6 (by omega) (by simp only [List.length_set]; rfl)]
  rw [mrow_7 (by omega) (by simp only [List.length_set]; rfl)]
  rw [mrow_8 (by omega) (by simp only [List.length_set]; rfl)]
  rw [mrow_9 (by omega) (by simp only [List.length_set]; rfl)]
  rw [mrow_10 (by omega) (by simp only [List.length_set]; rfl)]
  rw [mrow_11 (by omega) (by simp only [List.length_set]; rfl)]
  rw [mrow_12 (by omega) (by simp only [List.length_set]; rfl)]
  rw [mrow_13 (by omega) (by simp only [List.length_set]; rfl)]
  rw [mrow_14 (by omega) (by simp only [List.length_set]; rfl)]
  rw [mrow_15 (by omega) (by simp only [List.length_set]; rfl)]
  rw [mrow_16 (by omega) (by simp only [List.length_set]; rfl)]
  rw [mrow_17 (by omega) (by simp only [List.length_set]; rfl)]
  rw [mrow_18 (by omega) (by simp only [List.length_set]; rfl)]
  rw [mrow_19 (by omega) (by simp only [List.length_set]; rfl)]
  rw [mrow_20 (by omega) (by simp only [List.length_set]; rfl)]
  exact m_end rfl rfl
end IV
