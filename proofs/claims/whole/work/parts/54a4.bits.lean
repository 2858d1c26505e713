/-! bits 4 -/
def lb1 (x : Int64) : Int64 := x - (((x.toUInt64 >>> ((1 : Int32).toInt64.toUInt64 &&& Int64.toUInt64 63)).toInt64) &&& 6148914691236517205)
def lb2 (x : Int64) : Int64 := (x &&& 3689348814741910323) + (((x.toUInt64 >>> ((2 : Int32).toInt64.toUInt64 &&& Int64.toUInt64 63)).toInt64) &&& 3689348814741910323)
def lb4 (x : Int64) : Int64 := (x + ((x.toUInt64 >>> ((4 : Int32).toInt64.toUInt64 &&& Int64.toUInt64 63)).toInt64)) &&& 1085102592571150095
def lb8 (x : Int64) : Int64 := x + ((x.toUInt64 >>> ((8 : Int32).toInt64.toUInt64 &&& Int64.toUInt64 63)).toInt64)
def lb16 (x : Int64) : Int64 := x + ((x.toUInt64 >>> ((16 : Int32).toInt64.toUInt64 &&& Int64.toUInt64 63)).toInt64)
def lb32 (x : Int64) : Int64 := x + ((x.toUInt64 >>> ((32 : Int32).toInt64.toUInt64 &&& Int64.toUInt64 63)).toInt64)
theorem nx8_lt {b : Nat → Nat} {n : Nat} (hn : 0 < n) (hb : ∀ i, i < 8 → b i < n) {i : Nat} : nx8 b i < n := by
  unfold nx8
  split
  · exact hb _ (by omega)
  · exact hn
theorem lb1_by {x : Int64} {b : Nat → Nat} (hb : ∀ i, i < 8 → b i < 256) (hx : nb x = by8 b) : nb (lb1 x) = by8 (fun i => g1b (b i)) := by
  have e1 : nb (((x.toUInt64 >>> ((1 : Int32).toInt64.toUInt64 &&& Int64.toUInt64 63)).toInt64) &&& 6148914691236517205) = by8 (fun i => b i / 2 &&& 85) := by
    rw [nb_and, nb_sr x _ 1 (by decide +kernel), hx, by8_d2, show nb 6148914691236517205 = by8 (fun _ => 85) from by decide +kernel, by8_and (fun i hi => ?_) (by decide)]
    · exact by8_c (fun i hi => (g1b_all (b i) (hb i hi)).1 _ (by omega))
    · have := hb i hi
      omega
  have e2 := by8_sub (b := b) (c := fun i => b i / 2 &&& 85) (fun i hi => (g1b_all (b i) (hb i hi)).2.1)
  unfold lb1
  rw [nb_sub (by rw [e1, hx]; exact e2.1), e1, hx, e2.2]
  rfl
theorem lb2_by {x : Int64} {b : Nat → Nat} (hb : ∀ i, i < 8 → b i < 256) (hx : nb x = by8 b) : nb (lb2 x) = by8 (fun i => g2b (b i)) := by
  have e0 : nb (x &&& 3689348814741910323) = by8 (fun i => b i &&& 51) := by
    rw [nb_and, hx, show nb 3689348814741910323 = by8 (fun _ => 51) from by decide +kernel, by8_and hb (by decide)]
  have e1 : nb (((x.toUInt64 >>> ((2 : Int32).toInt64.toUInt64 &&& Int64.toUInt64 63)).toInt64) &&& 3689348814741910323) = by8 (fun i => b i / 4 &&& 51) := by
    rw [nb_and, nb_sr x _ 2 (by decide +kernel), hx, by8_d4, show nb 3689348814741910323 = by8 (fun _ => 51) from by decide +kernel, by8_and (fun i hi => ?_) (by decide)]
    · exact by8_c (fun i hi => (g2b_all (b i) (hb i hi)).1 _ (by omega))
    · have := hb i hi
      omega
  unfold lb2
  rw [nb_add, e0, e1, by8_add]
  · rfl
  · rw [e0, e1, by8_add]
    exact by8_lt (fun i hi => by have := g2b_all (b i) (hb i hi); omega)
theorem lb4_by {x : Int64} {b : Nat → Nat} (hb : ∀ i, i < 8 → b i < 256) (hx : nb x = by8 (fun i => g2b (g1b (b i)))) : nb (lb4 x) = by8 (fun i => pcb (b i)) := by
  have hz : ∀ i, i < 8 → g2b (g1b (b i)) % 16 ≤ 4 ∧ g2b (g1b (b i)) / 16 ≤ 4 := fun i hi => ⟨(g4b_all (b i) (hb i hi)).1, (g4b_all (b i) (hb i hi)).2.1⟩
  have hn : ∀ i, nx8 (fun i => g2b (g1b (b i))) i % 16 < 5 := by
    intro i
    unfold nx8
    split
    · have := hz (i + 1) (by omega)
      show g2b (g1b (b (i + 1))) % 16 < 5
      omega
    · decide
  have e1 : nb ((x.toUInt64 >>> ((4 : Int32).toInt64.toUInt64 &&& Int64.toUInt64 63)).toInt64) = by8 (fun i => g2b (g1b (b i)) / 16 + 16 * (nx8 (fun i => g2b (g1b (b i))) i % 16)) := by
    rw [nb_sr x _ 4 (by decide +kernel), hx, by8_d16]
  have hlt : ∀ i, i < 8 → g2b (g1b (b i)) + (g2b (g1b (b i)) / 16 + 16 * (nx8 (fun i => g2b (g1b (b i))) i % 16)) < 256 := by
    intro i hi
    have h1 := hz i hi
    have h2 := hn i
    omega
  have e2 : nb (x + ((x.toUInt64 >>> ((4 : Int32).toInt64.toUInt64 &&& Int64.toUInt64 63)).toInt64)) = by8 (fun i => g2b (g1b (b i)) + (g2b (g1b (b i)) / 16 + 16 * (nx8 (fun i => g2b (g1b (b i))) i % 16))) := by
    rw [nb_add, e1, hx, by8_add]
    rw [e1, hx, by8_add]
    exact by8_lt hlt
  unfold lb4
  rw [nb_and, e2, show nb 1085102592571150095 = by8 (fun _ => 15) from by decide +kernel, by8_and hlt (by decide)]
  exact by8_c (fun i hi => (g4b_all (b i) (hb i hi)).2.2.2 _ (hn i))
