-- numbers: the machine's and ours
theorem am_t {x : Int} (h : am_R x) : (Int32.ofInt x).toInt = x := Int32.toInt_ofInt_of_le (by have := h.1; omega) (by have := h.2; omega)
theorem am_tJ {x : Int} (h : am_RJ x) : (Int64.ofInt x).toInt = x := Int64.toInt_ofInt_of_le (by have := h.1; omega) (by have := h.2; omega)
theorem am_lt32 {x y : Int} (hx : am_R x) (hy : am_R y) : Int32.ofInt x < Int32.ofInt y ↔ x < y := by rw [Int32.lt_iff_toInt_lt, am_t hx, am_t hy]
theorem am_le32 {x y : Int} (hx : am_R x) (hy : am_R y) : Int32.ofInt x ≤ Int32.ofInt y ↔ x ≤ y := by rw [Int32.le_iff_toInt_le, am_t hx, am_t hy]
theorem am_eq32 {x y : Int} (hx : am_R x) (hy : am_R y) : Int32.ofInt x = Int32.ofInt y ↔ x = y := ⟨fun h => by rw [← am_t hx, ← am_t hy, h], fun h => by rw [h]⟩
theorem am_lt64 {x y : Int} (hx : am_RJ x) (hy : am_RJ y) : Int64.ofInt x < Int64.ofInt y ↔ x < y := by rw [Int64.lt_iff_toInt_lt, am_tJ hx, am_tJ hy]
theorem am_eq64 {x y : Int} (hx : am_RJ x) (hy : am_RJ y) : Int64.ofInt x = Int64.ofInt y ↔ x = y := ⟨fun h => by rw [← am_tJ hx, ← am_tJ hy, h], fun h => by rw [h]⟩
theorem am_R0 : am_R 0 := ⟨by omega, by omega⟩
theorem am_div32 {x y : Int} (hx : am_R x) (hy : am_R y) : Int32.ofInt x / Int32.ofInt y = Int32.ofInt (x.tdiv y) := by
  apply Int32.toInt_inj.mp
  rw [Int32.toInt_div, am_t hx, am_t hy, Int32.toInt_ofInt]
theorem am_rem32 {x y : Int} (hx : am_R x) (hy : am_R y) : Int32.ofInt x - Int32.ofInt x / Int32.ofInt y * Int32.ofInt y = Int32.ofInt (x.tmod y) := by
  rw [am_div32 hx hy, ← Int32.ofInt_mul, ← Int32.ofInt_sub, Int.tmod_def, Int.mul_comm]
theorem am_ne0 {y : Int} (hy : am_R y) (h : y ≠ 0) : ¬ Int32.ofInt y = 0 := fun q => h ((am_eq32 hy am_R0).mp q)
theorem am_cl32 {i : Int} (h0 : 0 ≤ i) (h : i ≤ 2147483647) : (Int32.ofInt i).toNatClampNeg = i.toNat := Int32.toNatClampNeg_ofInt_of_le (by omega) (by omega)
theorem am_in {i : Int} {n : Nat} (h0 : 0 ≤ i) (h : i < n) (h2 : i ≤ 2147483647) : vp_in (Int32.ofInt i) n := by
  rw [vp_in_iff, am_t ⟨by omega, h2⟩]
  exact ⟨h0, h⟩
theorem am_l2i (x : Int) : (Int64.ofInt x).toInt32 = Int32.ofInt x := by
  apply Int32.toInt_inj.mp
  rw [Int64.toInt_toInt32, Int64.toInt_ofInt, Int32.toInt_ofInt]
  exact Int.bmod_bmod_of_dvd (by decide)
theorem am_i2l {x : Int} (h : am_R x) : (Int32.ofInt x).toInt64 = Int64.ofInt x := by
  apply Int64.toInt_inj.mp
  rw [Int32.toInt_toInt64, am_t h, am_tJ ⟨by have := h.1; omega, by have := h.2; omega⟩]
theorem am_toI (x : Int32) : am_R x.toInt := ⟨by have := x.le_toInt; omega, by have := x.toInt_lt; omega⟩
theorem am_back (x : Int32) : Int32.ofInt x.toInt = x := Int32.ofInt_toInt x
theorem am_backJ (x : Int64) : Int64.ofInt x.toInt = x := Int64.ofInt_toInt x
