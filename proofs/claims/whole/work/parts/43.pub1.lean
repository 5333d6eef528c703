/-! the class's calls over its whole heap, first part -/
section P1
variable {d : Nat} {h : AH} {nx : AN} {b lb i j s n c t g : Nat} {S : CS} {L : LT} {K : Nat → Int32} {D E : DT} {x y z u : Int32} {l1 l2 l3 l4 l5 : Value} {w : Nat → Int32}
theorem idx (hx : 0 ≤ x ∧ x < nI s) (hs : s < 2147483648) : ∃ i, i < s ∧ x = nI i := by
  refine ⟨x.toNatClampNeg, ?_, ?_⟩
  · have h1 : x.toInt < (nI s).toInt := by rw [← Int32.lt_iff_toInt_lt]; exact hx.2
    have h2 : (0 : Int32).toInt ≤ x.toInt := by rw [← Int32.le_iff_toInt_le]; exact hx.1
    rw [nI_toInt (by omega)] at h1
    rw [show (0 : Int32).toInt = 0 from rfl] at h2
    show x.toInt.toNat < s
    omega
  · have h2 : (0 : Int32).toInt ≤ x.toInt := by rw [← Int32.le_iff_toInt_le]; exact hx.1
    rw [show (0 : Int32).toInt = 0 from rfl] at h2
    apply Int32.toInt_inj.mp
    have h3 : x.toNatClampNeg < 2147483648 := cl_lt x
    rw [nI_toInt (by omega)]
    show x.toInt = ((x.toInt.toNat : Nat) : Int)
    omega
theorem N_has (hs : (zN S).2.2 2 = nI s) (hs10 : s ≤ 10) : Dn (d + 1) 6 [.ref 17, .int x] (CH h S) nx = some (some (.int (pi (0 ≤ x ∧ x < nI s))), CH h S, nx) := by
  have e := c_has (d := d) (h := CH h S) (b := 17) (D := zN S) (nx := nx) (x := x) hs hs10
  rwa [← N_CH] at e
theorem N_leader (hs : (zN S).2.2 2 = nI s) (hs10 : s ≤ 10) : Dn (d + 1) 15 [.ref 17] (CH h S) nx = some (some (.int (oi (ldr (zN S).2.1 s))), CH h S, nx) := by
  have e := c_leader (d := d) (h := CH h S) (b := 17) (D := zN S) (nx := nx) hs hs10
  rwa [← N_CH] at e
theorem N_living (hs : (zN S).2.2 2 = nI s) (hs10 : s ≤ 10) : Dn (d + 1) 20 [.ref 17] (CH h S) nx = some (some (.int (lvg (zN S).2.1 s)), CH h S, nx) := by
  have e := c_living (d := d) (h := CH h S) (b := 17) (D := zN S) (nx := nx) hs hs10
  rwa [← N_CH] at e
theorem N_tht (hs : (zN S).2.2 2 = nI s) (hs10 : s ≤ 10) : Dn (d + 1) 21 [.ref 17] (CH h S) nx = some (some (.int (tht (zN S).2.1 s)), CH h S, nx) := by
  have e := c_thirstTogether (d := d) (h := CH h S) (b := 17) (D := zN S) (nx := nx) hs hs10
  rwa [← N_CH] at e
theorem N_wells  : Dn (d + 1) 22 [.ref 17] (CH h S) nx = some (some (.int (wls (zN S).1 24)), CH h S, nx) := by
  have e := c_wells (d := d) (h := CH h S) (b := 17) (D := zN S) (nx := nx) 
  rwa [← N_CH] at e
theorem N_thirstOf (hs : (zN S).2.2 2 = nI s) (hs10 : s ≤ 10) (hi : i < s) : Dn (d + 2) 24 [.ref 17, .int (nI i)] (CH h S) nx = some (some (.int ((zN S).2.1 i 1)), CH h S, nx) := by
  have e := c_thirstOf (d := d) (h := CH h S) (b := 17) (D := zN S) (nx := nx) hs hs10 hi
  rwa [← N_CH] at e
theorem N_slakes (hi : i < 10) : Dn (d + 1) 64 [.ref (20 + i)] (CH h S) nx = some (some (.int (slk ((zN S).2.1 i 0))), CH h S, nx) := by
  have e := c_Wslakes (d := d) (h := CH h S) (b := 17) (D := zN S) (nx := nx) hi
  rwa [← N_CH] at e
theorem N_worth (hi : i < 10) : Dn (d + 1) 65 [.ref (20 + i)] (CH h S) nx = some (some (.int (wth ((zN S).2.1 i 0) ((zN S).2.1 i 2))), CH h S, nx) := by
  have e := c_Wworth (d := d) (h := CH h S) (b := 17) (D := zN S) (nx := nx) hi
  rwa [← N_CH] at e
theorem N_isOf (hi : i < 10) : Dn (d + 1) 66 [.ref (20 + i), .int x] (CH h S) nx = some (some (.int (pi (isu ((zN S).2.1 i 0) x))), CH h S, nx) := by
  have e := c_WisOf (d := d) (h := CH h S) (b := 17) (D := zN S) (nx := nx) (x := x) hi
  rwa [← N_CH] at e
theorem N_goes (hc : (zN S).2.2 3 = nI c) (hc24 : c < 24) (hi : i < 10) (hk : (zN S).2.1 i 3 = nI g) (hg : g < 25) : Dn (d + 3) 8 [.ref 17, .ref (20 + i)] (CH h S) nx = some (some (.int (goF (zN S).1 ((zN S).2.1 i 0) c g)), CH h S, nx) := by
  have e := c_goes (d := d) (h := CH h S) (b := 17) (D := zN S) (nx := nx) hc hc24 hi hk hg
  rwa [← N_CH] at e
theorem N_shareOut (hs : (zN S).2.2 2 = nI s) (hs10 : s ≤ 10) : Dn (d + 1) 25 [.ref 17, .int x] (CH h S) nx = some (none, CH h (sN S (shF x s 0 (zN S))), nx) := by
  have e := c_shareOut (d := d) (h := CH h S) (b := 17) (D := zN S) (nx := nx) (x := x) hs hs10
  rwa [← N_CH, CH_N] at e
theorem N_joinByLot (hs : (zN S).2.2 2 = nI s) (hs10 : s < 10) : Dn (d + 3) 12 [.ref 17] (CH h S) nx = some (none, CH h (sN S (jl (zN S) s)), nx) := by
  have e := c_joinByLot (d := d) (h := CH h S) (b := 17) (D := zN S) (nx := nx) hs hs10
  rwa [← N_CH, CH_N] at e
theorem qN2 : pF (CH h S) 17 1 2 (.int x) = some (CH h (sN S (dq (zN S) 2 x))) := by rw [N_CH, qD2, CH_N]
theorem qN3 : pF (CH h S) 17 1 3 (.int x) = some (CH h (sN S (dq (zN S) 3 x))) := by rw [N_CH, qD3, CH_N]
theorem qN4 : pF (CH h S) 17 1 4 (.int x) = some (CH h (sN S (dq (zN S) 4 x))) := by rw [N_CH, qD4, CH_N]
theorem qN5 : pF (CH h S) 17 1 5 (.int x) = some (CH h (sN S (dq (zN S) 5 x))) := by rw [N_CH, qD5, CH_N]
theorem qN6 : pF (CH h S) 17 1 6 (.int x) = some (CH h (sN S (dq (zN S) 6 x))) := by rw [N_CH, qD6, CH_N]
theorem qN7 : pF (CH h S) 17 1 7 (.int x) = some (CH h (sN S (dq (zN S) 7 x))) := by rw [N_CH, qD7, CH_N]
theorem qN8 : pF (CH h S) 17 1 8 (.int x) = some (CH h (sN S (dq (zN S) 8 x))) := by rw [N_CH, qD8, CH_N]
theorem qN9 : pF (CH h S) 17 1 9 (.int x) = some (CH h (sN S (dq (zN S) 9 x))) := by rw [N_CH, qD9, CH_N]
theorem qN10 : pF (CH h S) 17 1 10 (.int x) = some (CH h (sN S (dq (zN S) 10 x))) := by rw [N_CH, qD10, CH_N]
theorem qN11 : pF (CH h S) 17 1 11 (.int x) = some (CH h (sN S (dq (zN S) 11 x))) := by rw [N_CH, qD11, CH_N]
theorem qN12 : pF (CH h S) 17 1 12 (.int x) = some (CH h (sN S (dq (zN S) 12 x))) := by rw [N_CH, qD12, CH_N]
theorem qNw0 (hi : i < 10) : pF (CH h S) (20 + i) 7 0 (.int x) = some (CH h (sN S (dW (zN S) i (upd ((zN S).2.1 i) 0 x)))) := by
  have e := qDw0 (h := CH h S) (b := 17) (D := zN S) (x := x) hi
  rwa [← N_CH, CH_N] at e
theorem qNw1 (hi : i < 10) : pF (CH h S) (20 + i) 7 1 (.int x) = some (CH h (sN S (dW (zN S) i (upd ((zN S).2.1 i) 1 x)))) := by
  have e := qDw1 (h := CH h S) (b := 17) (D := zN S) (x := x) hi
  rwa [← N_CH, CH_N] at e
theorem qNw2 (hi : i < 10) : pF (CH h S) (20 + i) 7 2 (.int x) = some (CH h (sN S (dW (zN S) i (upd ((zN S).2.1 i) 2 x)))) := by
  have e := qDw2 (h := CH h S) (b := 17) (D := zN S) (x := x) hi
  rwa [← N_CH, CH_N] at e
theorem qNw3 (hi : i < 10) : pF (CH h S) (20 + i) 7 3 (.int x) = some (CH h (sN S (dW (zN S) i (upd ((zN S).2.1 i) 3 x)))) := by
  have e := qDw3 (h := CH h S) (b := 17) (D := zN S) (x := x) hi
  rwa [← N_CH, CH_N] at e
theorem qNw4 (hi : i < 10) : pF (CH h S) (20 + i) 7 4 (.int x) = some (CH h (sN S (dW (zN S) i (upd ((zN S).2.1 i) 4 x)))) := by
  have e := qDw4 (h := CH h S) (b := 17) (D := zN S) (x := x) hi
  rwa [← N_CH, CH_N] at e
theorem wNx (hi : i < 24) : wI (CH h S) 18 (nI i) 0 x = some (CH h (sN S (dwt (zN S) i x))) := by
  have e := wDxn (h := CH h S) (b := 17) (D := zN S) (y := x) hi
  rwa [← N_CH, CH_N] at e
theorem I_has (hs : (zI S).2.2 2 = nI s) (hs10 : s ≤ 10) : Dn (d + 1) 6 [.ref 30, .int x] (CH h S) nx = some (some (.int (pi (0 ≤ x ∧ x < nI s))), CH h S, nx) := by
  have e := c_has (d := d) (h := CH h S) (b := 30) (D := zI S) (nx := nx) (x := x) hs hs10
  rwa [← I_CH] at e
theorem I_leader (hs : (zI S).2.2 2 = nI s) (hs10 : s ≤ 10) : Dn (d + 1) 15 [.ref 30] (CH h S) nx = some (some (.int (oi (ldr (zI S).2.1 s))), CH h S, nx) := by
  have e := c_leader (d := d) (h := CH h S) (b := 30) (D := zI S) (nx := nx) hs hs10
  rwa [← I_CH] at e
theorem I_living (hs : (zI S).2.2 2 = nI s) (hs10 : s ≤ 10) : Dn (d + 1) 20 [.ref 30] (CH h S) nx = some (some (.int (lvg (zI S).2.1 s)), CH h S, nx) := by
  have e := c_living (d := d) (h := CH h S) (b := 30) (D := zI S) (nx := nx) hs hs10
  rwa [← I_CH] at e
theorem I_tht (hs : (zI S).2.2 2 = nI s) (hs10 : s ≤ 10) : Dn (d + 1) 21 [.ref 30] (CH h S) nx = some (some (.int (tht (zI S).2.1 s)), CH h S, nx) := by
  have e := c_thirstTogether (d := d) (h := CH h S) (b := 30) (D := zI S) (nx := nx) hs hs10
  rwa [← I_CH] at e
theorem I_wells  : Dn (d + 1) 22 [.ref 30] (CH h S) nx = some (some (.int (wls (zI S).1 24)), CH h S, nx) := by
  have e := c_wells (d := d) (h := CH h S) (b := 30) (D := zI S) (nx := nx) 
  rwa [← I_CH] at e
theorem I_thirstOf (hs : (zI S).2.2 2 = nI s) (hs10 : s ≤ 10) (hi : i < s) : Dn (d + 2) 24 [.ref 30, .int (nI i)] (CH h S) nx = some (some (.int ((zI S).2.1 i 1)), CH h S, nx) := by
  have e := c_thirstOf (d := d) (h := CH h S) (b := 30) (D := zI S) (nx := nx) hs hs10 hi
  rwa [← I_CH] at e
theorem I_slakes (hi : i < 10) : Dn (d + 1) 64 [.ref (33 + i)] (CH h S) nx = some (some (.int (slk ((zI S).2.1 i 0))), CH h S, nx) := by
  have e := c_Wslakes (d := d) (h := CH h S) (b := 30) (D := zI S) (nx := nx) hi
  rwa [← I_CH] at e
theorem I_worth (hi : i < 10) : Dn (d + 1) 65 [.ref (33 + i)] (CH h S) nx = some (some (.int (wth ((zI S).2.1 i 0) ((zI S).2.1 i 2))), CH h S, nx) := by
  have e := c_Wworth (d := d) (h := CH h S) (b := 30) (D := zI S) (nx := nx) hi
  rwa [← I_CH] at e
theorem I_isOf (hi : i < 10) : Dn (d + 1) 66 [.ref (33 + i), .int x] (CH h S) nx = some (some (.int (pi (isu ((zI S).2.1 i 0) x))), CH h S, nx) := by
  have e := c_WisOf (d := d) (h := CH h S) (b := 30) (D := zI S) (nx := nx) (x := x) hi
  rwa [← I_CH] at e
theorem I_goes (hc : (zI S).2.2 3 = nI c) (hc24 : c < 24) (hi : i < 10) (hk : (zI S).2.1 i 3 = nI g) (hg : g < 25) : Dn (d + 3) 8 [.ref 30, .ref (33 + i)] (CH h S) nx = some (some (.int (goF (zI S).1 ((zI S).2.1 i 0) c g)), CH h S, nx) := by
  have e := c_goes (d := d) (h := CH h S) (b := 30) (D := zI S) (nx := nx) hc hc24 hi hk hg
  rwa [← I_CH] at e
theorem I_shareOut (hs : (zI S).2.2 2 = nI s) (hs10 : s ≤ 10) : Dn (d + 1) 25 [.ref 30, .int x] (CH h S) nx = some (none, CH h (sI S (shF x s 0 (zI S))), nx) := by
  have e := c_shareOut (d := d) (h := CH h S) (b := 30) (D := zI S) (nx := nx) (x := x) hs hs10
  rwa [← I_CH, CH_I] at e
theorem I_joinByLot (hs : (zI S).2.2 2 = nI s) (hs10 : s < 10) : Dn (d + 3) 12 [.ref 30] (CH h S) nx = some (none, CH h (sI S (jl (zI S) s)), nx) := by
  have e := c_joinByLot (d := d) (h := CH h S) (b := 30) (D := zI S) (nx := nx) hs hs10
  rwa [← I_CH, CH_I] at e
theorem qI2 : pF (CH h S) 30 1 2 (.int x) = some (CH h (sI S (dq (zI S) 2 x))) := by rw [I_CH, qD2, CH_I]
theorem qI3 : pF (CH h S) 30 1 3 (.int x) = some (CH h (sI S (dq (zI S) 3 x))) := by rw [I_CH, qD3, CH_I]
theorem qI4 : pF (CH h S) 30 1 4 (.int x) = some (CH h (sI S (dq (zI S) 4 x))) := by rw [I_CH, qD4, CH_I]
theorem qI5 : pF (CH h S) 30 1 5 (.int x) = some (CH h (sI S (dq (zI S) 5 x))) := by rw [I_CH, qD5, CH_I]
theorem qI6 : pF (CH h S) 30 1 6 (.int x) = some (CH h (sI S (dq (zI S) 6 x))) := by rw [I_CH, qD6, CH_I]
theorem qI7 : pF (CH h S) 30 1 7 (.int x) = some (CH h (sI S (dq (zI S) 7 x))) := by rw [I_CH, qD7, CH_I]
theorem qI8 : pF (CH h S) 30 1 8 (.int x) = some (CH h (sI S (dq (zI S) 8 x))) := by rw [I_CH, qD8, CH_I]
theorem qI9 : pF (CH h S) 30 1 9 (.int x) = some (CH h (sI S (dq (zI S) 9 x))) := by rw [I_CH, qD9, CH_I]
theorem qI10 : pF (CH h S) 30 1 10 (.int x) = some (CH h (sI S (dq (zI S) 10 x))) := by rw [I_CH, qD10, CH_I]
theorem qI11 : pF (CH h S) 30 1 11 (.int x) = some (CH h (sI S (dq (zI S) 11 x))) := by rw [I_CH, qD11, CH_I]
theorem qI12 : pF (CH h S) 30 1 12 (.int x) = some (CH h (sI S (dq (zI S) 12 x))) := by rw [I_CH, qD12, CH_I]
theorem qIw0 (hi : i < 10) : pF (CH h S) (33 + i) 7 0 (.int x) = some (CH h (sI S (dW (zI S) i (upd ((zI S).2.1 i) 0 x)))) := by
  have e := qDw0 (h := CH h S) (b := 30) (D := zI S) (x := x) hi
  rwa [← I_CH, CH_I] at e
theorem qIw1 (hi : i < 10) : pF (CH h S) (33 + i) 7 1 (.int x) = some (CH h (sI S (dW (zI S) i (upd ((zI S).2.1 i) 1 x)))) := by
  have e := qDw1 (h := CH h S) (b := 30) (D := zI S) (x := x) hi
  rwa [← I_CH, CH_I] at e
theorem qIw2 (hi : i < 10) : pF (CH h S) (33 + i) 7 2 (.int x) = some (CH h (sI S (dW (zI S) i (upd ((zI S).2.1 i) 2 x)))) := by
  have e := qDw2 (h := CH h S) (b := 30) (D := zI S) (x := x) hi
  rwa [← I_CH, CH_I] at e
theorem qIw3 (hi : i < 10) : pF (CH h S) (33 + i) 7 3 (.int x) = some (CH h (sI S (dW (zI S) i (upd ((zI S).2.1 i) 3 x)))) := by
  have e := qDw3 (h := CH h S) (b := 30) (D := zI S) (x := x) hi
  rwa [← I_CH, CH_I] at e
theorem qIw4 (hi : i < 10) : pF (CH h S) (33 + i) 7 4 (.int x) = some (CH h (sI S (dW (zI S) i (upd ((zI S).2.1 i) 4 x)))) := by
  have e := qDw4 (h := CH h S) (b := 30) (D := zI S) (x := x) hi
  rwa [← I_CH, CH_I] at e
theorem wIx (hi : i < 24) : wI (CH h S) 31 (nI i) 0 x = some (CH h (sI S (dwt (zI S) i x))) := by
  have e := wDxn (h := CH h S) (b := 30) (D := zI S) (y := x) hi
  rwa [← I_CH, CH_I] at e
theorem T_has (hs : (zT S).2.2 2 = nI s) (hs10 : s ≤ 10) : Dn (d + 1) 6 [.ref 43, .int x] (CH h S) nx = some (some (.int (pi (0 ≤ x ∧ x < nI s))), CH h S, nx) := by
  have e := c_has (d := d) (h := CH h S) (b := 43) (D := zT S) (nx := nx) (x := x) hs hs10
  rwa [← T_CH] at e
theorem T_leader (hs : (zT S).2.2 2 = nI s) (hs10 : s ≤ 10) : Dn (d + 1) 15 [.ref 43] (CH h S) nx = some (some (.int (oi (ldr (zT S).2.1 s))), CH h S, nx) := by
  have e := c_leader (d := d) (h := CH h S) (b := 43) (D := zT S) (nx := nx) hs hs10
  rwa [← T_CH] at e
theorem T_living (hs : (zT S).2.2 2 = nI s) (hs10 : s ≤ 10) : Dn (d + 1) 20 [.ref 43] (CH h S) nx = some (some (.int (lvg (zT S).2.1 s)), CH h S, nx) := by
  have e := c_living (d := d) (h := CH h S) (b := 43) (D := zT S) (nx := nx) hs hs10
  rwa [← T_CH] at e
theorem T_tht (hs : (zT S).2.2 2 = nI s) (hs10 : s ≤ 10) : Dn (d + 1) 21 [.ref 43] (CH h S) nx = some (some (.int (tht (zT S).2.1 s)), CH h S, nx) := by
  have e := c_thirstTogether (d := d) (h := CH h S) (b := 43) (D := zT S) (nx := nx) hs hs10
  rwa [← T_CH] at e
theorem T_wells  : Dn (d + 1) 22 [.ref 43] (CH h S) nx = some (some (.int (wls (zT S).1 24)), CH h S, nx) := by
  have e := c_wells (d := d) (h := CH h S) (b := 43) (D := zT S) (nx := nx) 
  rwa [← T_CH] at e
theorem T_thirstOf (hs : (zT S).2.2 2 = nI s) (hs10 : s ≤ 10) (hi : i < s) : Dn (d + 2) 24 [.ref 43, .int (nI i)] (CH h S) nx = some (some (.int ((zT S).2.1 i 1)), CH h S, nx) := by
  have e := c_thirstOf (d := d) (h := CH h S) (b := 43) (D := zT S) (nx := nx) hs hs10 hi
  rwa [← T_CH] at e
theorem T_slakes (hi : i < 10) : Dn (d + 1) 64 [.ref (46 + i)] (CH h S) nx = some (some (.int (slk ((zT S).2.1 i 0))), CH h S, nx) := by
  have e := c_Wslakes (d := d) (h := CH h S) (b := 43) (D := zT S) (nx := nx) hi
  rwa [← T_CH] at e
theorem T_worth (hi : i < 10) : Dn (d + 1) 65 [.ref (46 + i)] (CH h S) nx = some (some (.int (wth ((zT S).2.1 i 0) ((zT S).2.1 i 2))), CH h S, nx) := by
  have e := c_Wworth (d := d) (h := CH h S) (b := 43) (D := zT S) (nx := nx) hi
  rwa [← T_CH] at e
theorem T_isOf (hi : i < 10) : Dn (d + 1) 66 [.ref (46 + i), .int x] (CH h S) nx = some (some (.int (pi (isu ((zT S).2.1 i 0) x))), CH h S, nx) := by
  have e := c_WisOf (d := d) (h := CH h S) (b := 43) (D := zT S) (nx := nx) (x := x) hi
  rwa [← T_CH] at e
theorem T_goes (hc : (zT S).2.2 3 = nI c) (hc24 : c < 24) (hi : i < 10) (hk : (zT S).2.1 i 3 = nI g) (hg : g < 25) : Dn (d + 3) 8 [.ref 43, .ref (46 + i)] (CH h S) nx = some (some (.int (goF (zT S).1 ((zT S).2.1 i 0) c g)), CH h S, nx) := by
  have e := c_goes (d := d) (h := CH h S) (b := 43) (D := zT S) (nx := nx) hc hc24 hi hk hg
  rwa [← T_CH] at e
theorem T_shareOut (hs : (zT S).2.2 2 = nI s) (hs10 : s ≤ 10) : Dn (d + 1) 25 [.ref 43, .int x] (CH h S) nx = some (none, CH h (sT S (shF x s 0 (zT S))), nx) := by
  have e := c_shareOut (d := d) (h := CH h S) (b := 43) (D := zT S) (nx := nx) (x := x) hs hs10
  rwa [← T_CH, CH_T] at e
theorem T_joinByLot (hs : (zT S).2.2 2 = nI s) (hs10 : s < 10) : Dn (d + 3) 12 [.ref 43] (CH h S) nx = some (none, CH h (sT S (jl (zT S) s)), nx) := by
  have e := c_joinByLot (d := d) (h := CH h S) (b := 43) (D := zT S) (nx := nx) hs hs10
  rwa [← T_CH, CH_T] at e
theorem qT2 : pF (CH h S) 43 1 2 (.int x) = some (CH h (sT S (dq (zT S) 2 x))) := by rw [T_CH, qD2, CH_T]
theorem qT3 : pF (CH h S) 43 1 3 (.int x) = some (CH h (sT S (dq (zT S) 3 x))) := by rw [T_CH, qD3, CH_T]
theorem qT4 : pF (CH h S) 43 1 4 (.int x) = some (CH h (sT S (dq (zT S) 4 x))) := by rw [T_CH, qD4, CH_T]
theorem qT5 : pF (CH h S) 43 1 5 (.int x) = some (CH h (sT S (dq (zT S) 5 x))) := by rw [T_CH, qD5, CH_T]
theorem qT6 : pF (CH h S) 43 1 6 (.int x) = some (CH h (sT S (dq (zT S) 6 x))) := by rw [T_CH, qD6, CH_T]
theorem qT7 : pF (CH h S) 43 1 7 (.int x) = some (CH h (sT S (dq (zT S) 7 x))) := by rw [T_CH, qD7, CH_T]
theorem qT8 : pF (CH h S) 43 1 8 (.int x) = some (CH h (sT S (dq (zT S) 8 x))) := by rw [T_CH, qD8, CH_T]
theorem qT9 : pF (CH h S) 43 1 9 (.int x) = some (CH h (sT S (dq (zT S) 9 x))) := by rw [T_CH, qD9, CH_T]
theorem qT10 : pF (CH h S) 43 1 10 (.int x) = some (CH h (sT S (dq (zT S) 10 x))) := by rw [T_CH, qD10, CH_T]
theorem qT11 : pF (CH h S) 43 1 11 (.int x) = some (CH h (sT S (dq (zT S) 11 x))) := by rw [T_CH, qD11, CH_T]
theorem qT12 : pF (CH h S) 43 1 12 (.int x) = some (CH h (sT S (dq (zT S) 12 x))) := by rw [T_CH, qD12, CH_T]
theorem qTw0 (hi : i < 10) : pF (CH h S) (46 + i) 7 0 (.int x) = some (CH h (sT S (dW (zT S) i (upd ((zT S).2.1 i) 0 x)))) := by
  have e := qDw0 (h := CH h S) (b := 43) (D := zT S) (x := x) hi
  rwa [← T_CH, CH_T] at e
theorem qTw1 (hi : i < 10) : pF (CH h S) (46 + i) 7 1 (.int x) = some (CH h (sT S (dW (zT S) i (upd ((zT S).2.1 i) 1 x)))) := by
  have e := qDw1 (h := CH h S) (b := 43) (D := zT S) (x := x) hi
  rwa [← T_CH, CH_T] at e
theorem qTw2 (hi : i < 10) : pF (CH h S) (46 + i) 7 2 (.int x) = some (CH h (sT S (dW (zT S) i (upd ((zT S).2.1 i) 2 x)))) := by
  have e := qDw2 (h := CH h S) (b := 43) (D := zT S) (x := x) hi
  rwa [← T_CH, CH_T] at e
theorem qTw3 (hi : i < 10) : pF (CH h S) (46 + i) 7 3 (.int x) = some (CH h (sT S (dW (zT S) i (upd ((zT S).2.1 i) 3 x)))) := by
  have e := qDw3 (h := CH h S) (b := 43) (D := zT S) (x := x) hi
  rwa [← T_CH, CH_T] at e
theorem qTw4 (hi : i < 10) : pF (CH h S) (46 + i) 7 4 (.int x) = some (CH h (sT S (dW (zT S) i (upd ((zT S).2.1 i) 4 x)))) := by
  have e := qDw4 (h := CH h S) (b := 43) (D := zT S) (x := x) hi
  rwa [← T_CH, CH_T] at e
theorem wTx (hi : i < 24) : wI (CH h S) 44 (nI i) 0 x = some (CH h (sT S (dwt (zT S) i x))) := by
  have e := wDxn (h := CH h S) (b := 43) (D := zT S) (y := x) hi
  rwa [← T_CH, CH_T] at e
end P1
