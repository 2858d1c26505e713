/-! Long.bitCount: pure. -/
/-- the bits of a long, as a number -/
def nb (x : Int64) : Nat := x.toBitVec.toNat
theorem nb_lt (x : Int64) : nb x < 2 ^ 64 := x.toBitVec.isLt
theorem nb_and (x y : Int64) : nb (x &&& y) = nb x &&& nb y := by
  unfold nb
  rw [Int64.toBitVec_and, BitVec.toNat_and]
theorem nb_add {x y : Int64} (h : nb x + nb y < 2 ^ 64) : nb (x + y) = nb x + nb y := by
  unfold nb at h ⊢
  rw [Int64.toBitVec_add, BitVec.toNat_add]
  exact Nat.mod_eq_of_lt h
theorem nb_sub {x y : Int64} (h : nb y ≤ nb x) : nb (x - y) = nb x - nb y := by
  have h1 := nb_lt x
  have h2 := nb_lt y
  unfold nb at h h1 h2 ⊢
  rw [Int64.toBitVec_sub, BitVec.toNat_sub]
  omega
theorem nb_sr (x : Int64) (s : UInt64) (k : Nat) (hs : s.toNat % 64 = k) : nb ((x.toUInt64 >>> s).toInt64) = nb x / 2 ^ k := by
  show (x.toUInt64 >>> s).toNat = _
  rw [UInt64.toNat_shiftRight, hs, Nat.shiftRight_eq_div_pow]
  rfl
