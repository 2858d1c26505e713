set_option maxRecDepth 20000 in
theorem q_sh_all : ∀ q, q < 263 → ∀ b, b < 64 → (Int32.ofNat (64 * q + b) >>> ((6 : Int32) &&& 31) = Int32.ofNat q ∧ (Int32.ofNat (64 * q + b) &&& 63).toInt64 &&& 63 = Int64.ofNat b) := by decide +kernel
set_option maxRecDepth 20000 in
theorem q_bit64 : ∀ b, b < 64 → ∀ c, c < 64 → (((1 : Int64) <<< Int64.ofNat b) &&& ((1 : Int64) <<< Int64.ofNat c) = if b = c then ((1 : Int64) <<< Int64.ofNat c) else 0) ∧ ¬ ((1 : Int64) <<< Int64.ofNat b) = 0 := by decide +kernel
