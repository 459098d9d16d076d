/-! Numbers of the machine as whole numbers, where nothing wraps. -/
theorem nm_b64 {z : Int} (h1 : z.natAbs ≤ 9000000000000000000) : z.bmod (2 ^ 64) = z := by
  apply Int.bmod_eq_of_le <;> omega
theorem nm_b32 {z : Int} (h1 : z.natAbs ≤ 2000000000) : z.bmod (2 ^ 32) = z := by
  apply Int.bmod_eq_of_le <;> omega
theorem nm_mulb {x y : Int} {B C : Nat} (h1 : x.natAbs ≤ B) (h2 : y.natAbs ≤ C) : (x * y).natAbs ≤ B * C := by
  rw [Int.natAbs_mul]
  exact Nat.mul_le_mul h1 h2
theorem nm_addb {x y : Int} {B C : Nat} (h1 : x.natAbs ≤ B) (h2 : y.natAbs ≤ C) : (x + y).natAbs ≤ B + C := by omega
theorem nm_subb {x y : Int} {B C : Nat} (h1 : x.natAbs ≤ B) (h2 : y.natAbs ≤ C) : (x - y).natAbs ≤ B + C := by omega
theorem nm_lmul {x y : Int64} (h : (x.toInt * y.toInt).natAbs ≤ 9000000000000000000) : (x * y).toInt = x.toInt * y.toInt := by
  rw [Int64.toInt_mul, nm_b64 h]
theorem nm_ladd {x y : Int64} (h : (x.toInt + y.toInt).natAbs ≤ 9000000000000000000) : (x + y).toInt = x.toInt + y.toInt := by
  rw [Int64.toInt_add, nm_b64 h]
theorem nm_lsub {x y : Int64} (h : (x.toInt - y.toInt).natAbs ≤ 9000000000000000000) : (x - y).toInt = x.toInt - y.toInt := by
  rw [Int64.toInt_sub, nm_b64 h]
theorem nm_lneg {x : Int64} (h : x.toInt.natAbs ≤ 9000000000000000000) : (-x).toInt = -x.toInt := by
  rw [Int64.toInt_neg, nm_b64 (by omega)]
theorem nm_imul {x y : Int32} (h : (x.toInt * y.toInt).natAbs ≤ 2000000000) : (x * y).toInt = x.toInt * y.toInt := by
  rw [Int32.toInt_mul, nm_b32 h]
theorem nm_iadd {x y : Int32} (h : (x.toInt + y.toInt).natAbs ≤ 2000000000) : (x + y).toInt = x.toInt + y.toInt := by
  rw [Int32.toInt_add, nm_b32 h]
theorem nm_isub {x y : Int32} (h : (x.toInt - y.toInt).natAbs ≤ 2000000000) : (x - y).toInt = x.toInt - y.toInt := by
  rw [Int32.toInt_sub, nm_b32 h]
theorem nm_ineg {x : Int32} (h : x.toInt.natAbs ≤ 2000000000) : (-x).toInt = -x.toInt := by
  rw [Int32.toInt_neg, nm_b32 (by omega)]
theorem nm_i2l (x : Int32) : x.toInt64.toInt = x.toInt := Int32.toInt_toInt64 x
theorem nm_llt {x y : Int64} : x < y ↔ x.toInt < y.toInt := Int64.lt_iff_toInt_lt
theorem nm_lle {x y : Int64} : x ≤ y ↔ x.toInt ≤ y.toInt := Int64.le_iff_toInt_le
theorem nm_leq {x y : Int64} : x = y ↔ x.toInt = y.toInt := Int64.toInt_inj.symm
theorem nm_ilt {x y : Int32} : x < y ↔ x.toInt < y.toInt := Int32.lt_iff_toInt_lt
theorem nm_ile {x y : Int32} : x ≤ y ↔ x.toInt ≤ y.toInt := Int32.le_iff_toInt_le
theorem nm_ieq {x y : Int32} : x = y ↔ x.toInt = y.toInt := Int32.toInt_inj.symm
