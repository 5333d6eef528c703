/-! slots: the walker in a slot -/
section S5
variable {d : Nat} {h : AH} {nx : AN} {i j s n c t g p m : Nat} {S : CS} {x y z u : Int32}
theorem sw_put (hi : i < 5) : put (CH h S) (104 + 4 * i) (wkC (zP S i).1) = CH h S := put_id (CH_sw hi)
theorem V_isOf (hi : i < 5) : Dn (d + 1) 66 [.ref (104 + 4 * i), .int x] (CH h S) nx = some (some (.int (pi (isu ((zP S i).1 0) x))), CH h S, nx) := by
  have e := c_isOf (d := d) (h := CH h S) (nx := nx) (a := 104 + 4 * i) (w := (zP S i).1) (x := x)
  rwa [sw_put hi] at e
theorem V_worth (hi : i < 5) : Dn (d + 1) 65 [.ref (104 + 4 * i)] (CH h S) nx = some (some (.int (wth ((zP S i).1 0) ((zP S i).1 2))), CH h S, nx) := by
  have e := c_worth (d := d) (h := CH h S) (nx := nx) (a := 104 + 4 * i) (w := (zP S i).1)
  rwa [sw_put hi] at e
end S5
