/-! numbers: an int by its whole number -/
def zI (x : Int) : Int32 := Int32.ofInt x
def zL (x : Int) : Int64 := Int64.ofInt x
abbrev iR (x : Int) : Prop := -2147483648 ≤ x ∧ x < 2147483648
abbrev lR (x : Int) : Prop := -9223372036854775808 ≤ x ∧ x < 9223372036854775808
theorem zI_add (x y : Int) : zI x + zI y = zI (x + y) := (Int32.ofInt_add x y).symm
theorem zI_sub (x y : Int) : zI x - zI y = zI (x - y) := (Int32.ofInt_sub x y).symm
theorem zI_mul (x y : Int) : zI x * zI y = zI (x * y) := (Int32.ofInt_mul x y).symm
theorem zI_neg (x : Int) : -zI x = zI (-x) := (Int32.ofInt_neg x).symm
theorem zL_add (x y : Int) : zL x + zL y = zL (x + y) := (Int64.ofInt_add x y).symm
theorem zL_sub (x y : Int) : zL x - zL y = zL (x - y) := (Int64.ofInt_sub x y).symm
theorem zL_mul (x y : Int) : zL x * zL y = zL (x * y) := (Int64.ofInt_mul x y).symm
theorem zI_toInt {x : Int} (h : iR x) : (zI x).toInt = x := Int32.toInt_ofInt_of_le (by have := h.1; omega) (by have := h.2; omega)
theorem zL_toInt {x : Int} (h : lR x) : (zL x).toInt = x := Int64.toInt_ofInt_of_le (by have := h.1; omega) (by have := h.2; omega)
theorem zI_self (x : Int32) : zI x.toInt = x := Int32.ofInt_toInt x
theorem zL_self (x : Int64) : zL x.toInt = x := Int64.ofInt_toInt x
theorem iR_self (x : Int32) : iR x.toInt := ⟨by have := Int32.le_toInt x; simpa using this, by have := Int32.toInt_lt x; simpa using this⟩
theorem zI_lt {x y : Int} (hx : iR x) (hy : iR y) : zI x < zI y ↔ x < y := by rw [Int32.lt_iff_toInt_lt, zI_toInt hx, zI_toInt hy]
theorem zI_le {x y : Int} (hx : iR x) (hy : iR y) : zI x ≤ zI y ↔ x ≤ y := by rw [Int32.le_iff_toInt_le, zI_toInt hx, zI_toInt hy]
theorem zI_eq {x y : Int} (hx : iR x) (hy : iR y) : zI x = zI y ↔ x = y := by rw [← Int32.toInt_inj, zI_toInt hx, zI_toInt hy]
theorem zL_lt {x y : Int} (hx : lR x) (hy : lR y) : zL x < zL y ↔ x < y := by rw [Int64.lt_iff_toInt_lt, zL_toInt hx, zL_toInt hy]
theorem zL_eq {x y : Int} (hx : lR x) (hy : lR y) : zL x = zL y ↔ x = y := by rw [← Int64.toInt_inj, zL_toInt hx, zL_toInt hy]
theorem zI_0 : zI 0 = 0 := rfl
theorem zL_0 : zL 0 = 0 := rfl
theorem iR_0 : iR 0 := ⟨by decide, by decide⟩
theorem lR_0 : lR 0 := ⟨by decide, by decide⟩
theorem zI_clamp {n : Nat} (h : iR (n : Int)) : (zI (n : Int)).toNatClampNeg = n := by
  show (zI (n : Int)).toInt.toNat = n
  rw [zI_toInt h]; exact Int.toNat_natCast n
theorem zI_nneg {n : Nat} (h : iR (n : Int)) : ¬ zI (n : Int) < 0 := by
  rw [← zI_0, zI_lt h iR_0]; omega
theorem zI_nat (n : Nat) : zI (n : Int) = Int32.ofNat n := by
  show Int32.ofInt (n : Int) = Int32.ofNat n
  exact Int32.ofInt_eq_ofNat

