/-! bits 3 -/
def pcb (b : Nat) : Nat := q_cn (fun r => Nat.testBit b r) 8
def g1b (b : Nat) : Nat := b - (b / 2 &&& 85)
def g2b (y : Nat) : Nat := (y &&& 51) + (y / 4 &&& 51)
set_option maxRecDepth 20000 in
theorem g1b_all : ∀ b, b < 256 → (∀ t, t < 2 → (b / 2 + 128 * t) &&& 85 = b / 2 &&& 85) ∧ (b / 2 &&& 85) ≤ b ∧ g1b b < 256 := by decide +kernel
set_option maxRecDepth 20000 in
theorem g2b_all : ∀ y, y < 256 → (∀ t, t < 4 → (y / 4 + 64 * t) &&& 51 = y / 4 &&& 51) ∧ (y &&& 51) < 128 ∧ (y / 4 &&& 51) < 128 := by decide +kernel
set_option maxRecDepth 20000 in
theorem g4b_all : ∀ b, b < 256 → g2b (g1b b) % 16 ≤ 4 ∧ g2b (g1b b) / 16 ≤ 4 ∧ pcb b ≤ 8 ∧ ∀ t, t < 5 → (g2b (g1b b) + (g2b (g1b b) / 16 + 16 * t)) &&& 15 = pcb b := by decide +kernel
