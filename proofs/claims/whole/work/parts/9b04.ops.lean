/-! the law: its lines -/
def opT : List Nat := [208, 251, 284, 317, 350, 393, 426, 459, 482, 505, 528, 551, 584, 597, 630, 673, 696, 719, 742, 785, 798, 821, 864, 887, 900, 933, 956, 999, 1042, 1065, 1088, 1151, 1194, 1227, 1260, 1293, 1316, 1339, 1352, 1365]
def opO : Array Int := #[175, 218, 251, 284, 317, 360, 393, 426, 449, 472, 495, 518, 551, 564, 597, 640, 663, 686, 709, 752, 765, 788, 831, 854, 867, 900, 923, 966, 1009, 1032, 1055, 1118, 1161, 1194, 1227, 1260, 1283, 1306, 1319, 1332]
/-- both stand alike in the heap -/
def JR (h0 hp : AH) : Prop := ∃ S M K s t H a0 n m, RR S M s t H a0 n m ∧ hp = MX (CH h0 S) M K (zN S) s a0
section OP
variable {d : Nat} {h0 hp : AH} {nx : AN} {S : CS} {M : MS} {K : (Nat → Int32) × (Nat → Int32)} {a0 xs : Nat → Int32} {s t H n m i j k L : Nat} {x : Int32} {D : DT} {ls st : List Value}
theorem law_33 : Df d 226 33 ls (.int x :: st) h0 nx = fin d 226 (am_do (Dn d) 226 (.tableswitch 1355 0 39 opO) 175 33 ls (.int x :: st) h0 nx) := Df_eq d 226 33 ls _ h0 nx (ins_of mc_226 (pc := 33) (x := (.tableswitch 1355 0 39 opO, 175)) (by decide +kernel))
theorem op_tab' : ∀ j, j < 40 → opO[j]? = some (opO.getD j 0) ∧ jok 33 (opO.getD j 0) = true ∧ jmp 33 (opO.getD j 0) = opT.getD j 1388 := by decide +kernel
theorem op_tab : ∀ j, j < 40 → ∃ off, opO[j]? = some off ∧ jok 33 off = true ∧ jmp 33 off = opT.getD j 1388 := fun j hj => ⟨_, op_tab' j hj⟩
theorem law_sw (hj : j < 64) : Df d 226 33 ls (.int (nI j) :: st) h0 nx = Df d 226 (opT.getD j 1388) ls st h0 nx := by
  rw [law_33]
  have e : (nI j).toInt = j := nI_toInt (by omega)
  show fin d 226 (if (nI j).toInt < 0 ∨ 39 < (nI j).toInt then swt 33 ls st h0 nx (some 1355) else swt 33 ls st h0 nx (opO[((nI j).toInt - 0).toNat]?)) = _
  rw [e]
  by_cases c : j < 40
  · obtain ⟨off, e1, e2, e3⟩ := op_tab j c
    rw [if_neg (by omega), show ((j : Int) - 0).toNat = j by omega, e1]
    unfold swt
    dsimp only
    rw [if_pos e2, e3]
    rfl
  · rw [if_pos (by omega), List.getD_eq_getElem?_getD, List.getElem?_eq_none (show opT.length ≤ j by show 40 ≤ j; omega)]
    rfl
theorem rJ (h0s : h0 0 = .inl (20, L, .inl xs)) (hL : L < 2147483648) (hk : k < L) : rX (MX (CH h0 S) M K D s a0) 0 (nI k) = some (xs k) := by
  have e : MX (CH h0 S) M K D s a0 0 = .inl (20, L, .inl xs) := h0s
  unfold rX rI
  rw [e]
  simp [ib_nI hk hL, cl_nI (show k < 2147483648 by omega)]
theorem kJ : ck (MX (CH h0 S) M K D s a0) 16 8 = true := rfl
theorem op_0 (hx : xR h0) (h0s : h0 0 = .inl (20, L, .inl xs)) (hL : L < 2147483648) (hi : i + 6 ≤ L) (hR : RR S M s t H a0 n m) : ∃ hp, JR h0 hp ∧ Df (d + 203) 226 208 [.ref 0, .ref 16, .ref 123, .int (nI i)] [] (MX (CH h0 S) M K (zN S) s a0) nx = Df (d + 203) 226 1388 [.ref 0, .ref 16, .ref 123, .int (nI i)] [] hp nx := by
  obtain ⟨v, S', M', K', s', a0', e, q, t', H', n', m', hR'⟩ := J_walker (d := d) (h0 := h0) (nx := nx) (K := K) (x := xs (i + 1)) (y := xs (i + 2)) (z := xs (i + 3)) hR
  unfold an at e
  unfold am at q
  rw [CX, CX] at e
  refine ⟨_, ⟨S', M', K', s', t', H', a0', n', m', hR', rfl⟩, ?_⟩
  simp only [e_226_208, e_226_209, e_226_210, e_226_211, e_226_212, e_226_213, e_226_214, e_226_215, e_226_216, e_226_217, e_226_218, e_226_219, e_226_220, e_226_221, e_226_222, e_226_223, e_226_224, e_226_227, e_226_228, e_226_229, e_226_230, e_226_231, e_226_232, e_226_233, e_226_234, e_226_235, e_226_236, e_226_237, e_226_238, e_226_239, e_226_240, e_226_241, e_226_242, e_226_243, e_226_246, e_226_249, e_226_250, rJ h0s hL (show i + 1 < L by omega), rJ h0s hL (show i + 2 < L by omega), rJ h0s hL (show i + 3 < L by omega), nI_1, show nI i + 2 = nI (i + 2) from nI_add i 2, show nI i + 3 = nI (i + 3) from nI_add i 3, kJ, kX, if_true, e, q, cn_s, Option.bind_some]
theorem op_1 (hx : xR h0) (h0s : h0 0 = .inl (20, L, .inl xs)) (hL : L < 2147483648) (hi : i + 6 ≤ L) (hR : RR S M s t H a0 n m) : ∃ hp, JR h0 hp ∧ Df (d + 203) 226 251 [.ref 0, .ref 16, .ref 123, .int (nI i)] [] (MX (CH h0 S) M K (zN S) s a0) nx = Df (d + 203) 226 1388 [.ref 0, .ref 16, .ref 123, .int (nI i)] [] hp nx := by
  obtain ⟨v, S', M', K', s', a0', e, q, t', H', n', m', hR'⟩ := J_told (d := d) (h0 := h0) (nx := nx) (K := K) (x := xs (i + 1)) (y := xs (i + 2)) hR
  unfold an at e
  unfold am at q
  rw [CX, CX] at e
  refine ⟨_, ⟨S', M', K', s', t', H', a0', n', m', hR', rfl⟩, ?_⟩
  simp only [e_226_251, e_226_252, e_226_253, e_226_254, e_226_255, e_226_256, e_226_257, e_226_258, e_226_259, e_226_260, e_226_261, e_226_262, e_226_265, e_226_266, e_226_267, e_226_268, e_226_269, e_226_270, e_226_271, e_226_272, e_226_273, e_226_274, e_226_275, e_226_276, e_226_279, e_226_282, e_226_283, rJ h0s hL (show i + 1 < L by omega), rJ h0s hL (show i + 2 < L by omega), nI_1, show nI i + 2 = nI (i + 2) from nI_add i 2, kJ, kX, if_true, e, q, cn_s, Option.bind_some]
theorem op_2 (hx : xR h0) (h0s : h0 0 = .inl (20, L, .inl xs)) (hL : L < 2147483648) (hi : i + 6 ≤ L) (hR : RR S M s t H a0 n m) : ∃ hp, JR h0 hp ∧ Df (d + 203) 226 284 [.ref 0, .ref 16, .ref 123, .int (nI i)] [] (MX (CH h0 S) M K (zN S) s a0) nx = Df (d + 203) 226 1388 [.ref 0, .ref 16, .ref 123, .int (nI i)] [] hp nx := by
  obtain ⟨v, S', M', K', s', a0', e, q, t', H', n', m', hR'⟩ := J_as (d := d) (h0 := h0) (nx := nx) (K := K) (x := xs (i + 1)) (y := xs (i + 2)) hR
  unfold an at e
  unfold am at q
  rw [CX, CX] at e
  refine ⟨_, ⟨S', M', K', s', t', H', a0', n', m', hR', rfl⟩, ?_⟩
  simp only [e_226_284, e_226_285, e_226_286, e_226_287, e_226_288, e_226_289, e_226_290, e_226_291, e_226_292, e_226_293, e_226_294, e_226_295, e_226_298, e_226_299, e_226_300, e_226_301, e_226_302, e_226_303, e_226_304, e_226_305, e_226_306, e_226_307, e_226_308, e_226_309, e_226_312, e_226_315, e_226_316, rJ h0s hL (show i + 1 < L by omega), rJ h0s hL (show i + 2 < L by omega), nI_1, show nI i + 2 = nI (i + 2) from nI_add i 2, kJ, kX, if_true, e, q, cn_s, Option.bind_some]
theorem op_3 (hx : xR h0) (h0s : h0 0 = .inl (20, L, .inl xs)) (hL : L < 2147483648) (hi : i + 6 ≤ L) (hR : RR S M s t H a0 n m) : ∃ hp, JR h0 hp ∧ Df (d + 203) 226 317 [.ref 0, .ref 16, .ref 123, .int (nI i)] [] (MX (CH h0 S) M K (zN S) s a0) nx = Df (d + 203) 226 1388 [.ref 0, .ref 16, .ref 123, .int (nI i)] [] hp nx := by
  obtain ⟨v, S', M', K', s', a0', e, q, t', H', n', m', hR'⟩ := J_turns (d := d) (h0 := h0) (nx := nx) (K := K) (x := xs (i + 1)) (y := xs (i + 2)) hR
  unfold an at e
  unfold am at q
  rw [CX, CX] at e
  refine ⟨_, ⟨S', M', K', s', t', H', a0', n', m', hR', rfl⟩, ?_⟩
  simp only [e_226_317, e_226_318, e_226_319, e_226_320, e_226_321, e_226_322, e_226_323, e_226_324, e_226_325, e_226_326, e_226_327, e_226_328, e_226_331, e_226_332, e_226_333, e_226_334, e_226_335, e_226_336, e_226_337, e_226_338, e_226_339, e_226_340, e_226_341, e_226_342, e_226_345, e_226_348, e_226_349, rJ h0s hL (show i + 1 < L by omega), rJ h0s hL (show i + 2 < L by omega), nI_1, show nI i + 2 = nI (i + 2) from nI_add i 2, kJ, kX, if_true, e, q, cn_s, Option.bind_some]
theorem op_4 (hx : xR h0) (h0s : h0 0 = .inl (20, L, .inl xs)) (hL : L < 2147483648) (hi : i + 6 ≤ L) (hR : RR S M s t H a0 n m) : ∃ hp, JR h0 hp ∧ Df (d + 203) 226 350 [.ref 0, .ref 16, .ref 123, .int (nI i)] [] (MX (CH h0 S) M K (zN S) s a0) nx = Df (d + 203) 226 1388 [.ref 0, .ref 16, .ref 123, .int (nI i)] [] hp nx := by
  obtain ⟨v, S', M', K', s', a0', e, q, t', H', n', m', hR'⟩ := J_set (d := d) (h0 := h0) (nx := nx) (K := K) (x := xs (i + 1)) (y := xs (i + 2)) (z := xs (i + 3)) hx hR
  unfold an at e
  unfold am at q
  rw [CX, CX] at e
  refine ⟨_, ⟨S', M', K', s', t', H', a0', n', m', hR', rfl⟩, ?_⟩
  simp only [e_226_350, e_226_351, e_226_352, e_226_353, e_226_354, e_226_355, e_226_356, e_226_357, e_226_358, e_226_359, e_226_360, e_226_361, e_226_362, e_226_363, e_226_364, e_226_365, e_226_366, e_226_369, e_226_370, e_226_371, e_226_372, e_226_373, e_226_374, e_226_375, e_226_376, e_226_377, e_226_378, e_226_379, e_226_380, e_226_381, e_226_382, e_226_383, e_226_384, e_226_385, e_226_388, e_226_391, e_226_392, rJ h0s hL (show i + 1 < L by omega), rJ h0s hL (show i + 2 < L by omega), rJ h0s hL (show i + 3 < L by omega), nI_1, show nI i + 2 = nI (i + 2) from nI_add i 2, show nI i + 3 = nI (i + 3) from nI_add i 3, kJ, kX, if_true, e, q, cn_s, Option.bind_some]
theorem op_5 (hx : xR h0) (h0s : h0 0 = .inl (20, L, .inl xs)) (hL : L < 2147483648) (hi : i + 6 ≤ L) (hR : RR S M s t H a0 n m) : ∃ hp, JR h0 hp ∧ Df (d + 203) 226 393 [.ref 0, .ref 16, .ref 123, .int (nI i)] [] (MX (CH h0 S) M K (zN S) s a0) nx = Df (d + 203) 226 1388 [.ref 0, .ref 16, .ref 123, .int (nI i)] [] hp nx := by
  obtain ⟨v, S', M', K', s', a0', e, q, t', H', n', m', hR'⟩ := J_water (d := d) (h0 := h0) (nx := nx) (K := K) (x := xs (i + 1)) (y := xs (i + 2)) hR
  unfold an at e
  unfold am at q
  rw [CX, CX] at e
  refine ⟨_, ⟨S', M', K', s', t', H', a0', n', m', hR', rfl⟩, ?_⟩
  simp only [e_226_393, e_226_394, e_226_395, e_226_396, e_226_397, e_226_398, e_226_399, e_226_400, e_226_401, e_226_402, e_226_403, e_226_404, e_226_407, e_226_408, e_226_409, e_226_410, e_226_411, e_226_412, e_226_413, e_226_414, e_226_415, e_226_416, e_226_417, e_226_418, e_226_421, e_226_424, e_226_425, rJ h0s hL (show i + 1 < L by omega), rJ h0s hL (show i + 2 < L by omega), nI_1, show nI i + 2 = nI (i + 2) from nI_add i 2, kJ, kX, if_true, e, q, cn_s, Option.bind_some]
theorem op_6 (hx : xR h0) (h0s : h0 0 = .inl (20, L, .inl xs)) (hL : L < 2147483648) (hi : i + 6 ≤ L) (hR : RR S M s t H a0 n m) : ∃ hp, JR h0 hp ∧ Df (d + 203) 226 426 [.ref 0, .ref 16, .ref 123, .int (nI i)] [] (MX (CH h0 S) M K (zN S) s a0) nx = Df (d + 203) 226 1388 [.ref 0, .ref 16, .ref 123, .int (nI i)] [] hp nx := by
  obtain ⟨v, S', M', K', s', a0', e, q, t', H', n', m', hR'⟩ := J_rule (d := d) (h0 := h0) (nx := nx) (K := K) (x := xs (i + 1)) (y := xs (i + 2)) hx hR
  unfold an at e
  unfold am at q
  rw [CX, CX] at e
  refine ⟨_, ⟨S', M', K', s', t', H', a0', n', m', hR', rfl⟩, ?_⟩
  simp only [e_226_426, e_226_427, e_226_428, e_226_429, e_226_430, e_226_431, e_226_432, e_226_433, e_226_434, e_226_435, e_226_436, e_226_437, e_226_440, e_226_441, e_226_442, e_226_443, e_226_444, e_226_445, e_226_446, e_226_447, e_226_448, e_226_449, e_226_450, e_226_451, e_226_454, e_226_457, e_226_458, rJ h0s hL (show i + 1 < L by omega), rJ h0s hL (show i + 2 < L by omega), nI_1, show nI i + 2 = nI (i + 2) from nI_add i 2, kJ, kX, if_true, e, q, cn_s, Option.bind_some]
theorem op_7 (hx : xR h0) (h0s : h0 0 = .inl (20, L, .inl xs)) (hL : L < 2147483648) (hi : i + 6 ≤ L) (hR : RR S M s t H a0 n m) : ∃ hp, JR h0 hp ∧ Df (d + 203) 226 459 [.ref 0, .ref 16, .ref 123, .int (nI i)] [] (MX (CH h0 S) M K (zN S) s a0) nx = Df (d + 203) 226 1388 [.ref 0, .ref 16, .ref 123, .int (nI i)] [] hp nx := by
  obtain ⟨v, S', M', K', s', a0', e, q, t', H', n', m', hR'⟩ := J_deal (d := d) (h0 := h0) (nx := nx) (K := K) (x := xs (i + 1)) hR
  unfold an at e
  unfold am at q
  rw [CX, CX] at e
  refine ⟨_, ⟨S', M', K', s', t', H', a0', n', m', hR', rfl⟩, ?_⟩
  simp only [e_226_459, e_226_460, e_226_461, e_226_462, e_226_463, e_226_464, e_226_465, e_226_468, e_226_469, e_226_470, e_226_471, e_226_472, e_226_473, e_226_474, e_226_477, e_226_480, e_226_481, rJ h0s hL (show i + 1 < L by omega), nI_1, kJ, kX, if_true, e, q, cn_s, Option.bind_some]
theorem op_8 (hx : xR h0) (h0s : h0 0 = .inl (20, L, .inl xs)) (hL : L < 2147483648) (hi : i + 6 ≤ L) (hR : RR S M s t H a0 n m) : ∃ hp, JR h0 hp ∧ Df (d + 203) 226 482 [.ref 0, .ref 16, .ref 123, .int (nI i)] [] (MX (CH h0 S) M K (zN S) s a0) nx = Df (d + 203) 226 1388 [.ref 0, .ref 16, .ref 123, .int (nI i)] [] hp nx := by
  obtain ⟨v, S', M', K', s', a0', e, q, t', H', n', m', hR'⟩ := J_seed (d := d) (h0 := h0) (nx := nx) (K := K) (x := xs (i + 1)) hR
  unfold an at e
  unfold am at q
  rw [CX, CX] at e
  refine ⟨_, ⟨S', M', K', s', t', H', a0', n', m', hR', rfl⟩, ?_⟩
  simp only [e_226_482, e_226_483, e_226_484, e_226_485, e_226_486, e_226_487, e_226_488, e_226_491, e_226_492, e_226_493, e_226_494, e_226_495, e_226_496, e_226_497, e_226_500, e_226_503, e_226_504, rJ h0s hL (show i + 1 < L by omega), nI_1, kJ, kX, if_true, e, q, cn_s, Option.bind_some]
theorem op_9 (hx : xR h0) (h0s : h0 0 = .inl (20, L, .inl xs)) (hL : L < 2147483648) (hi : i + 6 ≤ L) (hR : RR S M s t H a0 n m) : ∃ hp, JR h0 hp ∧ Df (d + 203) 226 505 [.ref 0, .ref 16, .ref 123, .int (nI i)] [] (MX (CH h0 S) M K (zN S) s a0) nx = Df (d + 203) 226 1388 [.ref 0, .ref 16, .ref 123, .int (nI i)] [] hp nx := by
  obtain ⟨v, S', M', K', s', a0', e, q, t', H', n', m', hR'⟩ := J_hours (d := d) (h0 := h0) (nx := nx) (K := K) (x := xs (i + 1)) hR
  unfold an at e
  unfold am at q
  rw [CX, CX] at e
  refine ⟨_, ⟨S', M', K', s', t', H', a0', n', m', hR', rfl⟩, ?_⟩
  simp only [e_226_505, e_226_506, e_226_507, e_226_508, e_226_509, e_226_510, e_226_511, e_226_514, e_226_515, e_226_516, e_226_517, e_226_518, e_226_519, e_226_520, e_226_523, e_226_526, e_226_527, rJ h0s hL (show i + 1 < L by omega), nI_1, kJ, kX, if_true, e, q, cn_s, Option.bind_some]
theorem op_10 (hx : xR h0) (h0s : h0 0 = .inl (20, L, .inl xs)) (hL : L < 2147483648) (hi : i + 6 ≤ L) (hR : RR S M s t H a0 n m) : ∃ hp, JR h0 hp ∧ Df (d + 203) 226 528 [.ref 0, .ref 16, .ref 123, .int (nI i)] [] (MX (CH h0 S) M K (zN S) s a0) nx = Df (d + 203) 226 1388 [.ref 0, .ref 16, .ref 123, .int (nI i)] [] hp nx := by
  obtain ⟨v, S', M', K', s', a0', e, q, t', H', n', m', hR'⟩ := J_band (d := d) (h0 := h0) (nx := nx) (K := K) (x := xs (i + 1)) hR
  unfold an at e
  unfold am at q
  rw [CX, CX] at e
  refine ⟨_, ⟨S', M', K', s', t', H', a0', n', m', hR', rfl⟩, ?_⟩
  simp only [e_226_528, e_226_529, e_226_530, e_226_531, e_226_532, e_226_533, e_226_534, e_226_537, e_226_538, e_226_539, e_226_540, e_226_541, e_226_542, e_226_543, e_226_546, e_226_549, e_226_550, rJ h0s hL (show i + 1 < L by omega), nI_1, kJ, kX, if_true, e, q, cn_s, Option.bind_some]
theorem op_11 (hx : xR h0) (h0s : h0 0 = .inl (20, L, .inl xs)) (hL : L < 2147483648) (hi : i + 6 ≤ L) (hR : RR S M s t H a0 n m) : ∃ hp, JR h0 hp ∧ Df (d + 203) 226 551 [.ref 0, .ref 16, .ref 123, .int (nI i)] [] (MX (CH h0 S) M K (zN S) s a0) nx = Df (d + 203) 226 1388 [.ref 0, .ref 16, .ref 123, .int (nI i)] [] hp nx := by
  obtain ⟨v, S', M', K', s', a0', e, q, t', H', n', m', hR'⟩ := J_behind (d := d) (h0 := h0) (nx := nx) (K := K) (x := xs (i + 1)) (y := xs (i + 2)) hR
  unfold an at e
  unfold am at q
  rw [CX, CX] at e
  refine ⟨_, ⟨S', M', K', s', t', H', a0', n', m', hR', rfl⟩, ?_⟩
  simp only [e_226_551, e_226_552, e_226_553, e_226_554, e_226_555, e_226_556, e_226_557, e_226_558, e_226_559, e_226_560, e_226_561, e_226_562, e_226_565, e_226_566, e_226_567, e_226_568, e_226_569, e_226_570, e_226_571, e_226_572, e_226_573, e_226_574, e_226_575, e_226_576, e_226_579, e_226_582, e_226_583, rJ h0s hL (show i + 1 < L by omega), rJ h0s hL (show i + 2 < L by omega), nI_1, show nI i + 2 = nI (i + 2) from nI_add i 2, kJ, kX, if_true, e, q, cn_s, Option.bind_some]
theorem op_12 (hx : xR h0) (h0s : h0 0 = .inl (20, L, .inl xs)) (hL : L < 2147483648) (hi : i + 6 ≤ L) (hR : RR S M s t H a0 n m) : ∃ hp, JR h0 hp ∧ Df (d + 203) 226 584 [.ref 0, .ref 16, .ref 123, .int (nI i)] [] (MX (CH h0 S) M K (zN S) s a0) nx = Df (d + 203) 226 1388 [.ref 0, .ref 16, .ref 123, .int (nI i)] [] hp nx := by
  obtain ⟨v, S', M', K', s', a0', e, q, t', H', n', m', hR'⟩ := J_lasts (d := d) (h0 := h0) (nx := nx) (K := K)  hR
  unfold an at e
  unfold am at q
  rw [CX, CX] at e
  refine ⟨_, ⟨S', M', K', s', t', H', a0', n', m', hR', rfl⟩, ?_⟩
  simp only [e_226_584, e_226_585, e_226_588, e_226_589, e_226_592, e_226_595, e_226_596, kJ, kX, if_true, e, q, cn_s, Option.bind_some]
theorem op_13 (hx : xR h0) (h0s : h0 0 = .inl (20, L, .inl xs)) (hL : L < 2147483648) (hi : i + 6 ≤ L) (hR : RR S M s t H a0 n m) : ∃ hp, JR h0 hp ∧ Df (d + 203) 226 597 [.ref 0, .ref 16, .ref 123, .int (nI i)] [] (MX (CH h0 S) M K (zN S) s a0) nx = Df (d + 203) 226 1388 [.ref 0, .ref 16, .ref 123, .int (nI i)] [] hp nx := by
  obtain ⟨v, S', M', K', s', a0', e, q, t', H', n', m', hR'⟩ := J_salted (d := d) (h0 := h0) (nx := nx) (K := K) (x := xs (i + 1)) (y := xs (i + 2)) hR
  unfold an at e
  unfold am at q
  rw [CX, CX] at e
  refine ⟨_, ⟨S', M', K', s', t', H', a0', n', m', hR', rfl⟩, ?_⟩
  simp only [e_226_597, e_226_598, e_226_599, e_226_600, e_226_601, e_226_602, e_226_603, e_226_604, e_226_605, e_226_606, e_226_607, e_226_608, e_226_611, e_226_612, e_226_613, e_226_614, e_226_615, e_226_616, e_226_617, e_226_618, e_226_619, e_226_620, e_226_621, e_226_622, e_226_625, e_226_628, e_226_629, rJ h0s hL (show i + 1 < L by omega), rJ h0s hL (show i + 2 < L by omega), nI_1, show nI i + 2 = nI (i + 2) from nI_add i 2, kJ, kX, if_true, e, q, cn_s, Option.bind_some]
theorem op_14 (hx : xR h0) (h0s : h0 0 = .inl (20, L, .inl xs)) (hL : L < 2147483648) (hi : i + 6 ≤ L) (hR : RR S M s t H a0 n m) : ∃ hp, JR h0 hp ∧ Df (d + 203) 226 630 [.ref 0, .ref 16, .ref 123, .int (nI i)] [] (MX (CH h0 S) M K (zN S) s a0) nx = Df (d + 203) 226 1388 [.ref 0, .ref 16, .ref 123, .int (nI i)] [] hp nx := by
  obtain ⟨v, S', M', K', s', a0', e, q, t', H', n', m', hR'⟩ := J_tells (d := d) (h0 := h0) (nx := nx) (K := K) (x := xs (i + 1)) (y := xs (i + 2)) (z := xs (i + 3)) hR
  unfold an at e
  unfold am at q
  rw [CX, CX] at e
  refine ⟨_, ⟨S', M', K', s', t', H', a0', n', m', hR', rfl⟩, ?_⟩
  simp only [e_226_630, e_226_631, e_226_632, e_226_633, e_226_634, e_226_635, e_226_636, e_226_637, e_226_638, e_226_639, e_226_640, e_226_641, e_226_642, e_226_643, e_226_644, e_226_645, e_226_646, e_226_649, e_226_650, e_226_651, e_226_652, e_226_653, e_226_654, e_226_655, e_226_656, e_226_657, e_226_658, e_226_659, e_226_660, e_226_661, e_226_662, e_226_663, e_226_664, e_226_665, e_226_668, e_226_671, e_226_672, rJ h0s hL (show i + 1 < L by omega), rJ h0s hL (show i + 2 < L by omega), rJ h0s hL (show i + 3 < L by omega), nI_1, show nI i + 2 = nI (i + 2) from nI_add i 2, show nI i + 3 = nI (i + 3) from nI_add i 3, kJ, kX, if_true, e, q, cn_s, Option.bind_some]
theorem op_15 (hx : xR h0) (h0s : h0 0 = .inl (20, L, .inl xs)) (hL : L < 2147483648) (hi : i + 6 ≤ L) (hR : RR S M s t H a0 n m) : ∃ hp, JR h0 hp ∧ Df (d + 203) 226 673 [.ref 0, .ref 16, .ref 123, .int (nI i)] [] (MX (CH h0 S) M K (zN S) s a0) nx = Df (d + 203) 226 1388 [.ref 0, .ref 16, .ref 123, .int (nI i)] [] hp nx := by
  obtain ⟨v, S', M', K', s', a0', e, q, t', H', n', m', hR'⟩ := J_custom (d := d) (h0 := h0) (nx := nx) (K := K) (x := xs (i + 1)) hR
  unfold an at e
  unfold am at q
  rw [CX, CX] at e
  refine ⟨_, ⟨S', M', K', s', t', H', a0', n', m', hR', rfl⟩, ?_⟩
  simp only [e_226_673, e_226_674, e_226_675, e_226_676, e_226_677, e_226_678, e_226_679, e_226_682, e_226_683, e_226_684, e_226_685, e_226_686, e_226_687, e_226_688, e_226_691, e_226_694, e_226_695, rJ h0s hL (show i + 1 < L by omega), nI_1, kJ, kX, if_true, e, q, cn_s, Option.bind_some]
theorem op_16 (hx : xR h0) (h0s : h0 0 = .inl (20, L, .inl xs)) (hL : L < 2147483648) (hi : i + 6 ≤ L) (hR : RR S M s t H a0 n m) : ∃ hp, JR h0 hp ∧ Df (d + 203) 226 696 [.ref 0, .ref 16, .ref 123, .int (nI i)] [] (MX (CH h0 S) M K (zN S) s a0) nx = Df (d + 203) 226 1388 [.ref 0, .ref 16, .ref 123, .int (nI i)] [] hp nx := by
  obtain ⟨v, S', M', K', s', a0', e, q, t', H', n', m', hR'⟩ := J_enough (d := d) (h0 := h0) (nx := nx) (K := K) (x := xs (i + 1)) hR
  unfold an at e
  unfold am at q
  rw [CX, CX] at e
  refine ⟨_, ⟨S', M', K', s', t', H', a0', n', m', hR', rfl⟩, ?_⟩
  simp only [e_226_696, e_226_697, e_226_698, e_226_699, e_226_700, e_226_701, e_226_702, e_226_705, e_226_706, e_226_707, e_226_708, e_226_709, e_226_710, e_226_711, e_226_714, e_226_717, e_226_718, rJ h0s hL (show i + 1 < L by omega), nI_1, kJ, kX, if_true, e, q, cn_s, Option.bind_some]
theorem op_17 (hx : xR h0) (h0s : h0 0 = .inl (20, L, .inl xs)) (hL : L < 2147483648) (hi : i + 6 ≤ L) (hR : RR S M s t H a0 n m) : ∃ hp, JR h0 hp ∧ Df (d + 203) 226 719 [.ref 0, .ref 16, .ref 123, .int (nI i)] [] (MX (CH h0 S) M K (zN S) s a0) nx = Df (d + 203) 226 1388 [.ref 0, .ref 16, .ref 123, .int (nI i)] [] hp nx := by
  obtain ⟨v, S', M', K', s', a0', e, q, t', H', n', m', hR'⟩ := J_shown (d := d) (h0 := h0) (nx := nx) (K := K) (x := xs (i + 1)) hR
  unfold an at e
  unfold am at q
  rw [CX, CX] at e
  refine ⟨_, ⟨S', M', K', s', t', H', a0', n', m', hR', rfl⟩, ?_⟩
  simp only [e_226_719, e_226_720, e_226_721, e_226_722, e_226_723, e_226_724, e_226_725, e_226_728, e_226_729, e_226_730, e_226_731, e_226_732, e_226_733, e_226_734, e_226_737, e_226_740, e_226_741, rJ h0s hL (show i + 1 < L by omega), nI_1, kJ, kX, if_true, e, q, cn_s, Option.bind_some]
theorem op_18 (hx : xR h0) (h0s : h0 0 = .inl (20, L, .inl xs)) (hL : L < 2147483648) (hi : i + 6 ≤ L) (hR : RR S M s t H a0 n m) : ∃ hp, JR h0 hp ∧ Df (d + 203) 226 742 [.ref 0, .ref 16, .ref 123, .int (nI i)] [] (MX (CH h0 S) M K (zN S) s a0) nx = Df (d + 203) 226 1388 [.ref 0, .ref 16, .ref 123, .int (nI i)] [] hp nx := by
  obtain ⟨v, S', M', K', s', a0', e, q, t', H', n', m', hR'⟩ := J_thirsted (d := d) (h0 := h0) (nx := nx) (K := K) (x := xs (i + 1)) (y := xs (i + 2)) (z := xs (i + 3)) hR
  unfold an at e
  unfold am at q
  rw [CX, CX] at e
  refine ⟨_, ⟨S', M', K', s', t', H', a0', n', m', hR', rfl⟩, ?_⟩
  simp only [e_226_742, e_226_743, e_226_744, e_226_745, e_226_746, e_226_747, e_226_748, e_226_749, e_226_750, e_226_751, e_226_752, e_226_753, e_226_754, e_226_755, e_226_756, e_226_757, e_226_758, e_226_761, e_226_762, e_226_763, e_226_764, e_226_765, e_226_766, e_226_767, e_226_768, e_226_769, e_226_770, e_226_771, e_226_772, e_226_773, e_226_774, e_226_775, e_226_776, e_226_777, e_226_780, e_226_783, e_226_784, rJ h0s hL (show i + 1 < L by omega), rJ h0s hL (show i + 2 < L by omega), rJ h0s hL (show i + 3 < L by omega), nI_1, show nI i + 2 = nI (i + 2) from nI_add i 2, show nI i + 3 = nI (i + 3) from nI_add i 3, kJ, kX, if_true, e, q, cn_s, Option.bind_some]
theorem op_19 (hx : xR h0) (h0s : h0 0 = .inl (20, L, .inl xs)) (hL : L < 2147483648) (hi : i + 6 ≤ L) (hR : RR S M s t H a0 n m) : ∃ hp, JR h0 hp ∧ Df (d + 203) 226 785 [.ref 0, .ref 16, .ref 123, .int (nI i)] [] (MX (CH h0 S) M K (zN S) s a0) nx = Df (d + 203) 226 1388 [.ref 0, .ref 16, .ref 123, .int (nI i)] [] hp nx := by
  obtain ⟨v, S', M', K', s', a0', e, q, t', H', n', m', hR'⟩ := J_fee (d := d) (h0 := h0) (nx := nx) (K := K)  hR
  unfold an at e
  unfold am at q
  rw [CX, CX] at e
  refine ⟨_, ⟨S', M', K', s', t', H', a0', n', m', hR', rfl⟩, ?_⟩
  simp only [e_226_785, e_226_786, e_226_789, e_226_790, e_226_793, e_226_796, e_226_797, kJ, kX, if_true, e, q, cn_s, Option.bind_some]
theorem op_20 (hx : xR h0) (h0s : h0 0 = .inl (20, L, .inl xs)) (hL : L < 2147483648) (hi : i + 6 ≤ L) (hR : RR S M s t H a0 n m) : ∃ hp, JR h0 hp ∧ Df (d + 203) 226 798 [.ref 0, .ref 16, .ref 123, .int (nI i)] [] (MX (CH h0 S) M K (zN S) s a0) nx = Df (d + 203) 226 1388 [.ref 0, .ref 16, .ref 123, .int (nI i)] [] hp nx := by
  obtain ⟨v, S', M', K', s', a0', e, q, t', H', n', m', hR'⟩ := J_fine (d := d) (h0 := h0) (nx := nx) (K := K) (x := xs (i + 1)) hR
  unfold an at e
  unfold am at q
  rw [CX, CX] at e
  refine ⟨_, ⟨S', M', K', s', t', H', a0', n', m', hR', rfl⟩, ?_⟩
  simp only [e_226_798, e_226_799, e_226_800, e_226_801, e_226_802, e_226_803, e_226_804, e_226_807, e_226_808, e_226_809, e_226_810, e_226_811, e_226_812, e_226_813, e_226_816, e_226_819, e_226_820, rJ h0s hL (show i + 1 < L by omega), nI_1, kJ, kX, if_true, e, q, cn_s, Option.bind_some]
theorem op_21 (hx : xR h0) (h0s : h0 0 = .inl (20, L, .inl xs)) (hL : L < 2147483648) (hi : i + 6 ≤ L) (hR : RR S M s t H a0 n m) : ∃ hp, JR h0 hp ∧ Df (d + 203) 226 821 [.ref 0, .ref 16, .ref 123, .int (nI i)] [] (MX (CH h0 S) M K (zN S) s a0) nx = Df (d + 203) 226 1388 [.ref 0, .ref 16, .ref 123, .int (nI i)] [] hp nx := by
  obtain ⟨v, S', M', K', s', a0', e, q, t', H', n', m', hR'⟩ := J_feed (d := d) (h0 := h0) (nx := nx) (K := K) (x := xs (i + 1)) (y := xs (i + 2)) (z := xs (i + 3)) hR
  unfold an at e
  unfold am at q
  rw [CX, CX] at e
  refine ⟨_, ⟨S', M', K', s', t', H', a0', n', m', hR', rfl⟩, ?_⟩
  simp only [e_226_821, e_226_822, e_226_823, e_226_824, e_226_825, e_226_826, e_226_827, e_226_828, e_226_829, e_226_830, e_226_831, e_226_832, e_226_833, e_226_834, e_226_835, e_226_836, e_226_837, e_226_840, e_226_841, e_226_842, e_226_843, e_226_844, e_226_845, e_226_846, e_226_847, e_226_848, e_226_849, e_226_850, e_226_851, e_226_852, e_226_853, e_226_854, e_226_855, e_226_856, e_226_859, e_226_862, e_226_863, rJ h0s hL (show i + 1 < L by omega), rJ h0s hL (show i + 2 < L by omega), rJ h0s hL (show i + 3 < L by omega), nI_1, show nI i + 2 = nI (i + 2) from nI_add i 2, show nI i + 3 = nI (i + 3) from nI_add i 3, kJ, kX, if_true, e, q, cn_s, Option.bind_some]
theorem op_22 (hx : xR h0) (h0s : h0 0 = .inl (20, L, .inl xs)) (hL : L < 2147483648) (hi : i + 6 ≤ L) (hR : RR S M s t H a0 n m) : ∃ hp, JR h0 hp ∧ Df (d + 203) 226 864 [.ref 0, .ref 16, .ref 123, .int (nI i)] [] (MX (CH h0 S) M K (zN S) s a0) nx = Df (d + 203) 226 1388 [.ref 0, .ref 16, .ref 123, .int (nI i)] [] hp nx := by
  obtain ⟨v, S', M', K', s', a0', e, q, t', H', n', m', hR'⟩ := J_trim (d := d) (h0 := h0) (nx := nx) (K := K) (x := xs (i + 1)) hR
  unfold an at e
  unfold am at q
  rw [CX, CX] at e
  refine ⟨_, ⟨S', M', K', s', t', H', a0', n', m', hR', rfl⟩, ?_⟩
  simp only [e_226_864, e_226_865, e_226_866, e_226_867, e_226_868, e_226_869, e_226_870, e_226_873, e_226_874, e_226_875, e_226_876, e_226_877, e_226_878, e_226_879, e_226_882, e_226_885, e_226_886, rJ h0s hL (show i + 1 < L by omega), nI_1, kJ, kX, if_true, e, q, cn_s, Option.bind_some]
theorem op_23 (hx : xR h0) (h0s : h0 0 = .inl (20, L, .inl xs)) (hL : L < 2147483648) (hi : i + 6 ≤ L) (hR : RR S M s t H a0 n m) : ∃ hp, JR h0 hp ∧ Df (d + 203) 226 887 [.ref 0, .ref 16, .ref 123, .int (nI i)] [] (MX (CH h0 S) M K (zN S) s a0) nx = Df (d + 203) 226 1388 [.ref 0, .ref 16, .ref 123, .int (nI i)] [] hp nx := by
  obtain ⟨v, S', M', K', s', a0', e, q, t', H', n', m', hR'⟩ := J_text (d := d) (h0 := h0) (nx := nx) (K := K)  hR
  unfold an at e
  unfold am at q
  rw [CX, CX] at e
  refine ⟨_, ⟨S', M', K', s', t', H', a0', n', m', hR', rfl⟩, ?_⟩
  simp only [e_226_887, e_226_888, e_226_891, e_226_892, e_226_895, e_226_898, e_226_899, kJ, kX, if_true, e, q, cn_s, Option.bind_some]
theorem op_24 (hx : xR h0) (h0s : h0 0 = .inl (20, L, .inl xs)) (hL : L < 2147483648) (hi : i + 6 ≤ L) (hR : RR S M s t H a0 n m) : ∃ hp, JR h0 hp ∧ Df (d + 203) 226 900 [.ref 0, .ref 16, .ref 123, .int (nI i)] [] (MX (CH h0 S) M K (zN S) s a0) nx = Df (d + 203) 226 1388 [.ref 0, .ref 16, .ref 123, .int (nI i)] [] hp nx := by
  obtain ⟨v, S', M', K', s', a0', e, q, t', H', n', m', hR'⟩ := J_textTold (d := d) (h0 := h0) (nx := nx) (K := K) (x := xs (i + 1)) (y := xs (i + 2)) hR
  unfold an at e
  unfold am at q
  rw [CX, CX] at e
  refine ⟨_, ⟨S', M', K', s', t', H', a0', n', m', hR', rfl⟩, ?_⟩
  simp only [e_226_900, e_226_901, e_226_902, e_226_903, e_226_904, e_226_905, e_226_906, e_226_907, e_226_908, e_226_909, e_226_910, e_226_911, e_226_914, e_226_915, e_226_916, e_226_917, e_226_918, e_226_919, e_226_920, e_226_921, e_226_922, e_226_923, e_226_924, e_226_925, e_226_928, e_226_931, e_226_932, rJ h0s hL (show i + 1 < L by omega), rJ h0s hL (show i + 2 < L by omega), nI_1, show nI i + 2 = nI (i + 2) from nI_add i 2, kJ, kX, if_true, e, q, cn_s, Option.bind_some]
theorem op_25 (hx : xR h0) (h0s : h0 0 = .inl (20, L, .inl xs)) (hL : L < 2147483648) (hi : i + 6 ≤ L) (hR : RR S M s t H a0 n m) : ∃ hp, JR h0 hp ∧ Df (d + 203) 226 933 [.ref 0, .ref 16, .ref 123, .int (nI i)] [] (MX (CH h0 S) M K (zN S) s a0) nx = Df (d + 203) 226 1388 [.ref 0, .ref 16, .ref 123, .int (nI i)] [] hp nx := by
  obtain ⟨v, S', M', K', s', a0', e, q, t', H', n', m', hR'⟩ := J_why (d := d) (h0 := h0) (nx := nx) (K := K) (x := xs (i + 1)) hR
  unfold an at e
  unfold am at q
  rw [CX, CX] at e
  refine ⟨_, ⟨S', M', K', s', t', H', a0', n', m', hR', rfl⟩, ?_⟩
  simp only [e_226_933, e_226_934, e_226_935, e_226_936, e_226_937, e_226_938, e_226_939, e_226_942, e_226_943, e_226_944, e_226_945, e_226_946, e_226_947, e_226_948, e_226_951, e_226_954, e_226_955, rJ h0s hL (show i + 1 < L by omega), nI_1, kJ, kX, if_true, e, q, cn_s, Option.bind_some]
theorem op_26 (hx : xR h0) (h0s : h0 0 = .inl (20, L, .inl xs)) (hL : L < 2147483648) (hi : i + 6 ≤ L) (hR : RR S M s t H a0 n m) : ∃ hp, JR h0 hp ∧ Df (d + 203) 226 956 [.ref 0, .ref 16, .ref 123, .int (nI i)] [] (MX (CH h0 S) M K (zN S) s a0) nx = Df (d + 203) 226 1388 [.ref 0, .ref 16, .ref 123, .int (nI i)] [] hp nx := by
  obtain ⟨v, S', M', K', s', a0', e, q, t', H', n', m', hR'⟩ := J_sheet (d := d) (h0 := h0) (nx := nx) (K := K) (x := xs (i + 1)) (y := xs (i + 2)) (z := xs (i + 3)) hR
  unfold an at e
  unfold am at q
  rw [CX, CX] at e
  refine ⟨_, ⟨S', M', K', s', t', H', a0', n', m', hR', rfl⟩, ?_⟩
  simp only [e_226_956, e_226_957, e_226_958, e_226_959, e_226_960, e_226_961, e_226_962, e_226_963, e_226_964, e_226_965, e_226_966, e_226_967, e_226_968, e_226_969, e_226_970, e_226_971, e_226_972, e_226_975, e_226_976, e_226_977, e_226_978, e_226_979, e_226_980, e_226_981, e_226_982, e_226_983, e_226_984, e_226_985, e_226_986, e_226_987, e_226_988, e_226_989, e_226_990, e_226_991, e_226_994, e_226_997, e_226_998, rJ h0s hL (show i + 1 < L by omega), rJ h0s hL (show i + 2 < L by omega), rJ h0s hL (show i + 3 < L by omega), nI_1, show nI i + 2 = nI (i + 2) from nI_add i 2, show nI i + 3 = nI (i + 3) from nI_add i 3, kJ, kX, if_true, e, q, cn_s, Option.bind_some]
theorem op_27 (hx : xR h0) (h0s : h0 0 = .inl (20, L, .inl xs)) (hL : L < 2147483648) (hi : i + 6 ≤ L) (hR : RR S M s t H a0 n m) : ∃ hp, JR h0 hp ∧ Df (d + 203) 226 999 [.ref 0, .ref 16, .ref 123, .int (nI i)] [] (MX (CH h0 S) M K (zN S) s a0) nx = Df (d + 203) 226 1388 [.ref 0, .ref 16, .ref 123, .int (nI i)] [] hp nx := by
  obtain ⟨v, S', M', K', s', a0', e, q, t', H', n', m', hR'⟩ := J_mark (d := d) (h0 := h0) (nx := nx) (K := K) (x := xs (i + 1)) (y := xs (i + 2)) (z := xs (i + 3)) hR
  unfold an at e
  unfold am at q
  rw [CX, CX] at e
  refine ⟨_, ⟨S', M', K', s', t', H', a0', n', m', hR', rfl⟩, ?_⟩
  simp only [e_226_999, e_226_1000, e_226_1001, e_226_1002, e_226_1003, e_226_1004, e_226_1005, e_226_1006, e_226_1007, e_226_1008, e_226_1009, e_226_1010, e_226_1011, e_226_1012, e_226_1013, e_226_1014, e_226_1015, e_226_1018, e_226_1019, e_226_1020, e_226_1021, e_226_1022, e_226_1023, e_226_1024, e_226_1025, e_226_1026, e_226_1027, e_226_1028, e_226_1029, e_226_1030, e_226_1031, e_226_1032, e_226_1033, e_226_1034, e_226_1037, e_226_1040, e_226_1041, rJ h0s hL (show i + 1 < L by omega), rJ h0s hL (show i + 2 < L by omega), rJ h0s hL (show i + 3 < L by omega), nI_1, show nI i + 2 = nI (i + 2) from nI_add i 2, show nI i + 3 = nI (i + 3) from nI_add i 3, kJ, kX, if_true, e, q, cn_s, Option.bind_some]
theorem op_28 (hx : xR h0) (h0s : h0 0 = .inl (20, L, .inl xs)) (hL : L < 2147483648) (hi : i + 6 ≤ L) (hR : RR S M s t H a0 n m) : ∃ hp, JR h0 hp ∧ Df (d + 203) 226 1042 [.ref 0, .ref 16, .ref 123, .int (nI i)] [] (MX (CH h0 S) M K (zN S) s a0) nx = Df (d + 203) 226 1388 [.ref 0, .ref 16, .ref 123, .int (nI i)] [] hp nx := by
  obtain ⟨v, S', M', K', s', a0', e, q, t', H', n', m', hR'⟩ := J_pour (d := d) (h0 := h0) (nx := nx) (K := K) (x := xs (i + 1)) hR
  unfold an at e
  unfold am at q
  rw [CX, CX] at e
  refine ⟨_, ⟨S', M', K', s', t', H', a0', n', m', hR', rfl⟩, ?_⟩
  simp only [e_226_1042, e_226_1043, e_226_1044, e_226_1045, e_226_1046, e_226_1047, e_226_1048, e_226_1051, e_226_1052, e_226_1053, e_226_1054, e_226_1055, e_226_1056, e_226_1057, e_226_1060, e_226_1063, e_226_1064, rJ h0s hL (show i + 1 < L by omega), nI_1, kJ, kX, if_true, e, q, cn_s, Option.bind_some]
theorem op_29 (hx : xR h0) (h0s : h0 0 = .inl (20, L, .inl xs)) (hL : L < 2147483648) (hi : i + 6 ≤ L) (hR : RR S M s t H a0 n m) : ∃ hp, JR h0 hp ∧ Df (d + 203) 226 1065 [.ref 0, .ref 16, .ref 123, .int (nI i)] [] (MX (CH h0 S) M K (zN S) s a0) nx = Df (d + 203) 226 1388 [.ref 0, .ref 16, .ref 123, .int (nI i)] [] hp nx := by
  obtain ⟨v, S', M', K', s', a0', e, q, t', H', n', m', hR'⟩ := J_reads (d := d) (h0 := h0) (nx := nx) (K := K) (x := xs (i + 1)) hR
  unfold an at e
  unfold am at q
  rw [CX, CX] at e
  refine ⟨_, ⟨S', M', K', s', t', H', a0', n', m', hR', rfl⟩, ?_⟩
  simp only [e_226_1065, e_226_1066, e_226_1067, e_226_1068, e_226_1069, e_226_1070, e_226_1071, e_226_1074, e_226_1075, e_226_1076, e_226_1077, e_226_1078, e_226_1079, e_226_1080, e_226_1083, e_226_1086, e_226_1087, rJ h0s hL (show i + 1 < L by omega), nI_1, kJ, kX, if_true, e, q, cn_s, Option.bind_some]
theorem op_30 (hx : xR h0) (h0s : h0 0 = .inl (20, L, .inl xs)) (hL : L < 2147483648) (hi : i + 6 ≤ L) (hR : RR S M s t H a0 n m) : ∃ hp, JR h0 hp ∧ Df (d + 203) 226 1088 [.ref 0, .ref 16, .ref 123, .int (nI i)] [] (MX (CH h0 S) M K (zN S) s a0) nx = Df (d + 203) 226 1388 [.ref 0, .ref 16, .ref 123, .int (nI i)] [] hp nx := by
  obtain ⟨v, S', M', K', s', a0', e, q, t', H', n', m', hR'⟩ := J_copy (d := d) (h0 := h0) (nx := nx) (K := K) (x := xs (i + 1)) (y := xs (i + 2)) (z := xs (i + 3)) (u := xs (i + 4)) (v := xs (i + 5)) hR
  unfold an at e
  unfold am at q
  rw [CX, CX] at e
  refine ⟨_, ⟨S', M', K', s', t', H', a0', n', m', hR', rfl⟩, ?_⟩
  simp only [e_226_1088, e_226_1089, e_226_1090, e_226_1091, e_226_1092, e_226_1093, e_226_1094, e_226_1095, e_226_1096, e_226_1097, e_226_1098, e_226_1099, e_226_1100, e_226_1101, e_226_1102, e_226_1103, e_226_1104, e_226_1105, e_226_1106, e_226_1107, e_226_1108, e_226_1109, e_226_1110, e_226_1111, e_226_1112, e_226_1113, e_226_1114, e_226_1117, e_226_1118, e_226_1119, e_226_1120, e_226_1121, e_226_1122, e_226_1123, e_226_1124, e_226_1125, e_226_1126, e_226_1127, e_226_1128, e_226_1129, e_226_1130, e_226_1131, e_226_1132, e_226_1133, e_226_1134, e_226_1135, e_226_1136, e_226_1137, e_226_1138, e_226_1139, e_226_1140, e_226_1141, e_226_1142, e_226_1143, e_226_1146, e_226_1149, e_226_1150, rJ h0s hL (show i + 1 < L by omega), rJ h0s hL (show i + 2 < L by omega), rJ h0s hL (show i + 3 < L by omega), rJ h0s hL (show i + 4 < L by omega), rJ h0s hL (show i + 5 < L by omega), nI_1, show nI i + 2 = nI (i + 2) from nI_add i 2, show nI i + 3 = nI (i + 3) from nI_add i 3, show nI i + 4 = nI (i + 4) from nI_add i 4, show nI i + 5 = nI (i + 5) from nI_add i 5, kJ, kX, if_true, e, q, cn_s, Option.bind_some]
theorem op_31 (hx : xR h0) (h0s : h0 0 = .inl (20, L, .inl xs)) (hL : L < 2147483648) (hi : i + 6 ≤ L) (hR : RR S M s t H a0 n m) : ∃ hp, JR h0 hp ∧ Df (d + 203) 226 1151 [.ref 0, .ref 16, .ref 123, .int (nI i)] [] (MX (CH h0 S) M K (zN S) s a0) nx = Df (d + 203) 226 1388 [.ref 0, .ref 16, .ref 123, .int (nI i)] [] hp nx := by
  obtain ⟨v, S', M', K', s', a0', e, q, t', H', n', m', hR'⟩ := J_lay (d := d) (h0 := h0) (nx := nx) (K := K) (x := xs (i + 1)) (y := xs (i + 2)) (z := xs (i + 3)) hR
  unfold an at e
  unfold am at q
  rw [CX, CX] at e
  refine ⟨_, ⟨S', M', K', s', t', H', a0', n', m', hR', rfl⟩, ?_⟩
  simp only [e_226_1151, e_226_1152, e_226_1153, e_226_1154, e_226_1155, e_226_1156, e_226_1157, e_226_1158, e_226_1159, e_226_1160, e_226_1161, e_226_1162, e_226_1163, e_226_1164, e_226_1165, e_226_1166, e_226_1167, e_226_1170, e_226_1171, e_226_1172, e_226_1173, e_226_1174, e_226_1175, e_226_1176, e_226_1177, e_226_1178, e_226_1179, e_226_1180, e_226_1181, e_226_1182, e_226_1183, e_226_1184, e_226_1185, e_226_1186, e_226_1189, e_226_1192, e_226_1193, rJ h0s hL (show i + 1 < L by omega), rJ h0s hL (show i + 2 < L by omega), rJ h0s hL (show i + 3 < L by omega), nI_1, show nI i + 2 = nI (i + 2) from nI_add i 2, show nI i + 3 = nI (i + 3) from nI_add i 3, kJ, kX, if_true, e, q, cn_s, Option.bind_some]
theorem op_32 (hx : xR h0) (h0s : h0 0 = .inl (20, L, .inl xs)) (hL : L < 2147483648) (hi : i + 6 ≤ L) (hR : RR S M s t H a0 n m) : ∃ hp, JR h0 hp ∧ Df (d + 203) 226 1194 [.ref 0, .ref 16, .ref 123, .int (nI i)] [] (MX (CH h0 S) M K (zN S) s a0) nx = Df (d + 203) 226 1388 [.ref 0, .ref 16, .ref 123, .int (nI i)] [] hp nx := by
  obtain ⟨v, S', M', K', s', a0', e, q, t', H', n', m', hR'⟩ := J_ask (d := d) (h0 := h0) (nx := nx) (K := K) (x := xs (i + 1)) (y := xs (i + 2)) hR
  unfold an at e
  unfold am at q
  rw [CX, CX] at e
  refine ⟨_, ⟨S', M', K', s', t', H', a0', n', m', hR', rfl⟩, ?_⟩
  simp only [e_226_1194, e_226_1195, e_226_1196, e_226_1197, e_226_1198, e_226_1199, e_226_1200, e_226_1201, e_226_1202, e_226_1203, e_226_1204, e_226_1205, e_226_1208, e_226_1209, e_226_1210, e_226_1211, e_226_1212, e_226_1213, e_226_1214, e_226_1215, e_226_1216, e_226_1217, e_226_1218, e_226_1219, e_226_1222, e_226_1225, e_226_1226, rJ h0s hL (show i + 1 < L by omega), rJ h0s hL (show i + 2 < L by omega), nI_1, show nI i + 2 = nI (i + 2) from nI_add i 2, kJ, kX, if_true, e, q, cn_s, Option.bind_some]
theorem op_33 (hx : xR h0) (h0s : h0 0 = .inl (20, L, .inl xs)) (hL : L < 2147483648) (hi : i + 6 ≤ L) (hR : RR S M s t H a0 n m) : ∃ hp, JR h0 hp ∧ Df (d + 203) 226 1227 [.ref 0, .ref 16, .ref 123, .int (nI i)] [] (MX (CH h0 S) M K (zN S) s a0) nx = Df (d + 203) 226 1388 [.ref 0, .ref 16, .ref 123, .int (nI i)] [] hp nx := by
  obtain ⟨v, S', M', K', s', a0', e, q, t', H', n', m', hR'⟩ := J_item (d := d) (h0 := h0) (nx := nx) (K := K) (x := xs (i + 1)) (y := xs (i + 2)) hR
  unfold an at e
  unfold am at q
  rw [CX, CX] at e
  refine ⟨_, ⟨S', M', K', s', t', H', a0', n', m', hR', rfl⟩, ?_⟩
  simp only [e_226_1227, e_226_1228, e_226_1229, e_226_1230, e_226_1231, e_226_1232, e_226_1233, e_226_1234, e_226_1235, e_226_1236, e_226_1237, e_226_1238, e_226_1241, e_226_1242, e_226_1243, e_226_1244, e_226_1245, e_226_1246, e_226_1247, e_226_1248, e_226_1249, e_226_1250, e_226_1251, e_226_1252, e_226_1255, e_226_1258, e_226_1259, rJ h0s hL (show i + 1 < L by omega), rJ h0s hL (show i + 2 < L by omega), nI_1, show nI i + 2 = nI (i + 2) from nI_add i 2, kJ, kX, if_true, e, q, cn_s, Option.bind_some]
theorem op_34 (hx : xR h0) (h0s : h0 0 = .inl (20, L, .inl xs)) (hL : L < 2147483648) (hi : i + 6 ≤ L) (hR : RR S M s t H a0 n m) : ∃ hp, JR h0 hp ∧ Df (d + 203) 226 1260 [.ref 0, .ref 16, .ref 123, .int (nI i)] [] (MX (CH h0 S) M K (zN S) s a0) nx = Df (d + 203) 226 1388 [.ref 0, .ref 16, .ref 123, .int (nI i)] [] hp nx := by
  obtain ⟨v, S', M', K', s', a0', e, q, t', H', n', m', hR'⟩ := J_rest (d := d) (h0 := h0) (nx := nx) (K := K) (x := xs (i + 1)) (y := xs (i + 2)) hR
  unfold an at e
  unfold am at q
  rw [CX, CX] at e
  refine ⟨_, ⟨S', M', K', s', t', H', a0', n', m', hR', rfl⟩, ?_⟩
  simp only [e_226_1260, e_226_1261, e_226_1262, e_226_1263, e_226_1264, e_226_1265, e_226_1266, e_226_1267, e_226_1268, e_226_1269, e_226_1270, e_226_1271, e_226_1274, e_226_1275, e_226_1276, e_226_1277, e_226_1278, e_226_1279, e_226_1280, e_226_1281, e_226_1282, e_226_1283, e_226_1284, e_226_1285, e_226_1288, e_226_1291, e_226_1292, rJ h0s hL (show i + 1 < L by omega), rJ h0s hL (show i + 2 < L by omega), nI_1, show nI i + 2 = nI (i + 2) from nI_add i 2, kJ, kX, if_true, e, q, cn_s, Option.bind_some]
theorem op_35 (hx : xR h0) (h0s : h0 0 = .inl (20, L, .inl xs)) (hL : L < 2147483648) (hi : i + 6 ≤ L) (hR : RR S M s t H a0 n m) : ∃ hp, JR h0 hp ∧ Df (d + 203) 226 1293 [.ref 0, .ref 16, .ref 123, .int (nI i)] [] (MX (CH h0 S) M K (zN S) s a0) nx = Df (d + 203) 226 1388 [.ref 0, .ref 16, .ref 123, .int (nI i)] [] hp nx := by
  obtain ⟨v, S', M', K', s', a0', e, q, t', H', n', m', hR'⟩ := J_tell (d := d) (h0 := h0) (nx := nx) (K := K) (x := xs (i + 1)) hR
  unfold an at e
  unfold am at q
  rw [CX, CX] at e
  refine ⟨_, ⟨S', M', K', s', t', H', a0', n', m', hR', rfl⟩, ?_⟩
  simp only [e_226_1293, e_226_1294, e_226_1295, e_226_1296, e_226_1297, e_226_1298, e_226_1299, e_226_1302, e_226_1303, e_226_1304, e_226_1305, e_226_1306, e_226_1307, e_226_1308, e_226_1311, e_226_1314, e_226_1315, rJ h0s hL (show i + 1 < L by omega), nI_1, kJ, kX, if_true, e, q, cn_s, Option.bind_some]
theorem op_36 (hx : xR h0) (h0s : h0 0 = .inl (20, L, .inl xs)) (hL : L < 2147483648) (hi : i + 6 ≤ L) (hR : RR S M s t H a0 n m) : ∃ hp, JR h0 hp ∧ Df (d + 203) 226 1316 [.ref 0, .ref 16, .ref 123, .int (nI i)] [] (MX (CH h0 S) M K (zN S) s a0) nx = Df (d + 203) 226 1388 [.ref 0, .ref 16, .ref 123, .int (nI i)] [] hp nx := by
  obtain ⟨v, S', M', K', s', a0', e, q, t', H', n', m', hR'⟩ := J_check (d := d) (h0 := h0) (nx := nx) (K := K) (x := xs (i + 1)) hR
  unfold an at e
  unfold am at q
  rw [CX, CX] at e
  refine ⟨_, ⟨S', M', K', s', t', H', a0', n', m', hR', rfl⟩, ?_⟩
  simp only [e_226_1316, e_226_1317, e_226_1318, e_226_1319, e_226_1320, e_226_1321, e_226_1322, e_226_1325, e_226_1326, e_226_1327, e_226_1328, e_226_1329, e_226_1330, e_226_1331, e_226_1334, e_226_1337, e_226_1338, rJ h0s hL (show i + 1 < L by omega), nI_1, kJ, kX, if_true, e, q, cn_s, Option.bind_some]
theorem op_37 (hx : xR h0) (h0s : h0 0 = .inl (20, L, .inl xs)) (hL : L < 2147483648) (hi : i + 6 ≤ L) (hR : RR S M s t H a0 n m) : ∃ hp, JR h0 hp ∧ Df (d + 203) 226 1339 [.ref 0, .ref 16, .ref 123, .int (nI i)] [] (MX (CH h0 S) M K (zN S) s a0) nx = Df (d + 203) 226 1388 [.ref 0, .ref 16, .ref 123, .int (nI i)] [] hp nx := by
  obtain ⟨v, S', M', K', s', a0', e, q, t', H', n', m', hR'⟩ := J_keep (d := d) (h0 := h0) (nx := nx) (K := K)  hR
  unfold an at e
  unfold am at q
  rw [CX, CX] at e
  refine ⟨_, ⟨S', M', K', s', t', H', a0', n', m', hR', rfl⟩, ?_⟩
  simp only [e_226_1339, e_226_1340, e_226_1343, e_226_1344, e_226_1347, e_226_1350, e_226_1351, kJ, kX, if_true, e, q, cn_s, Option.bind_some]
theorem op_38 (hx : xR h0) (h0s : h0 0 = .inl (20, L, .inl xs)) (hL : L < 2147483648) (hi : i + 6 ≤ L) (hR : RR S M s t H a0 n m) : ∃ hp, JR h0 hp ∧ Df (d + 203) 226 1352 [.ref 0, .ref 16, .ref 123, .int (nI i)] [] (MX (CH h0 S) M K (zN S) s a0) nx = Df (d + 203) 226 1388 [.ref 0, .ref 16, .ref 123, .int (nI i)] [] hp nx := by
  obtain ⟨v, S', M', K', s', a0', e, q, t', H', n', m', hR'⟩ := J_back (d := d) (h0 := h0) (nx := nx) (K := K)  hR
  unfold an at e
  unfold am at q
  rw [CX, CX] at e
  refine ⟨_, ⟨S', M', K', s', t', H', a0', n', m', hR', rfl⟩, ?_⟩
  simp only [e_226_1352, e_226_1353, e_226_1356, e_226_1357, e_226_1360, e_226_1363, e_226_1364, kJ, kX, if_true, e, q, cn_s, Option.bind_some]
theorem op_39 (hx : xR h0) (h0s : h0 0 = .inl (20, L, .inl xs)) (hL : L < 2147483648) (hi : i + 6 ≤ L) (hR : RR S M s t H a0 n m) : ∃ hp, JR h0 hp ∧ Df (d + 203) 226 1365 [.ref 0, .ref 16, .ref 123, .int (nI i)] [] (MX (CH h0 S) M K (zN S) s a0) nx = Df (d + 203) 226 1388 [.ref 0, .ref 16, .ref 123, .int (nI i)] [] hp nx := by
  obtain ⟨v, S', M', K', s', a0', e, q, t', H', n', m', hR'⟩ := J_count (d := d) (h0 := h0) (nx := nx) (K := K) (x := xs (i + 1)) hR
  unfold an at e
  unfold am at q
  rw [CX, CX] at e
  refine ⟨_, ⟨S', M', K', s', t', H', a0', n', m', hR', rfl⟩, ?_⟩
  simp only [e_226_1365, e_226_1366, e_226_1367, e_226_1368, e_226_1369, e_226_1370, e_226_1371, e_226_1374, e_226_1375, e_226_1376, e_226_1377, e_226_1378, e_226_1379, e_226_1380, e_226_1383, e_226_1386, e_226_1387, rJ h0s hL (show i + 1 < L by omega), nI_1, kJ, kX, if_true, e, q, cn_s, Option.bind_some]
end OP
