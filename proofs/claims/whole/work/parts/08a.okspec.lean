def sh1 (y : Int32) (n : Int32) : Int32 := (Int32.toUInt32 y >>> (Int32.toUInt32 n &&& Int32.toUInt32 31)).toInt32
def bc1 (x : Int32) : Int32 := x - (sh1 x 1 &&& 1431655765)
def bc2 (y : Int32) : Int32 := (y &&& 858993459) + (sh1 y 2 &&& 858993459)
def bc3 (y : Int32) : Int32 := (y + sh1 y 4) &&& 252645135
def bc4 (y : Int32) : Int32 := y + sh1 y 8
def bc5 (y : Int32) : Int32 := y + sh1 y 16
def bcF (x : Int32) : Int32 := bc5 (bc4 (bc3 (bc2 (bc1 x)))) &&& 63
theorem few_le {σ : HS} {b : Int32} {q n : Nat} (h : fewS σ b q = some n) : n ≤ q := by
  have := List.mem_range.mp (List.find?_range_eq_some.mp h).2.1
  omega
theorem pow32 {n : Nat} (h : n ≤ 4) : 0 + 2 ^ (n + 1) ≤ 32 := by
  have : 2 ^ (n + 1) ≤ 2 ^ 5 := Nat.pow_le_pow_right (by decide) (by omega)
  have h2 : (2 : Nat) ^ 5 = 32 := rfl
  omega
