/-! bits 6 -/
set_option maxRecDepth 20000 in
theorem q_127 : ∀ i, i < 32 → (127 : Int32).toBitVec.getLsbD i = decide (i < 7) := by decide +kernel
theorem l2i7 (x : Int64) {s : Nat} (hs : nb x % 128 = s) : x.toInt32 &&& 127 = Int32.ofNat s := by
  apply Int32.toBitVec_inj.1
  rw [Int32.toBitVec_and]
  apply BitVec.eq_of_getLsbD_eq
  intro i hi
  rw [BitVec.getLsbD_and, q_127 i hi]
  have e1 : x.toInt32.toBitVec.getLsbD i = x.toBitVec.getLsbD i := by
    show (x.toBitVec.signExtend 32).getLsbD i = _
    rw [BitVec.getLsbD_signExtend]
    have : i < 64 := by omega
    simp [hi, this]
  have e2 : (Int32.ofNat s).toBitVec.getLsbD i = Nat.testBit s i := by
    show (BitVec.ofNat 32 s).getLsbD i = _
    rw [BitVec.getLsbD_ofNat]
    simp [hi]
  have e3 : Nat.testBit s i = (decide (i < 7) && Nat.testBit (nb x) i) := by
    rw [← hs, show (128 : Nat) = 2 ^ 7 from rfl, Nat.testBit_mod_two_pow]
  rw [e1, e2, e3, show Nat.testBit (nb x) i = x.toBitVec.getLsbD i from rfl, Bool.and_comm]
