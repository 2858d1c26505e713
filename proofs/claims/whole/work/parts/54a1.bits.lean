/-! bits 1 -/
def by8 (b : Nat → Nat) : Nat := b 0 + 256 * (b 1 + 256 * (b 2 + 256 * (b 3 + 256 * (b 4 + 256 * (b 5 + 256 * (b 6 + 256 * b 7))))))
theorem and_by {a m X M : Nat} (ha : a < 256) (hm : m < 256) : (a + 256 * X) &&& (m + 256 * M) = (a &&& m) + 256 * (X &&& M) := by
  have h1 := Nat.and_mod_two_pow (a := a + 256 * X) (b := m + 256 * M) (n := 8)
  have h2 := Nat.and_div_two_pow (a := a + 256 * X) (b := m + 256 * M) (n := 8)
  rw [show (a + 256 * X) % 2 ^ 8 = a by omega, show (m + 256 * M) % 2 ^ 8 = m by omega] at h1
  rw [show (a + 256 * X) / 2 ^ 8 = X by omega, show (m + 256 * M) / 2 ^ 8 = M by omega] at h2
  have h3 := Nat.div_add_mod ((a + 256 * X) &&& (m + 256 * M)) (2 ^ 8)
  rw [h1, h2] at h3
  rw [← h3, Nat.add_comm]
theorem by8_and {b : Nat → Nat} {c : Nat} (hb : ∀ i, i < 8 → b i < 256) (hc : c < 256) : by8 b &&& by8 (fun _ => c) = by8 (fun i => b i &&& c) := by
  unfold by8
  rw [and_by (hb 0 (by decide)) hc, and_by (hb 1 (by decide)) hc, and_by (hb 2 (by decide)) hc, and_by (hb 3 (by decide)) hc, and_by (hb 4 (by decide)) hc, and_by (hb 5 (by decide)) hc, and_by (hb 6 (by decide)) hc]
theorem by8_c {b c : Nat → Nat} (h : ∀ i, i < 8 → b i = c i) : by8 b = by8 c := by
  unfold by8
  rw [h 0 (by decide), h 1 (by decide), h 2 (by decide), h 3 (by decide), h 4 (by decide), h 5 (by decide), h 6 (by decide), h 7 (by decide)]
theorem by8_lt {b : Nat → Nat} (hb : ∀ i, i < 8 → b i < 256) : by8 b < 2 ^ 64 := by
  have h0 := hb 0 (by decide)
  have h1 := hb 1 (by decide)
  have h2 := hb 2 (by decide)
  have h3 := hb 3 (by decide)
  have h4 := hb 4 (by decide)
  have h5 := hb 5 (by decide)
  have h6 := hb 6 (by decide)
  have h7 := hb 7 (by decide)
  unfold by8
  omega
theorem ad_by (a X b Y : Nat) : (a + 256 * X) + (b + 256 * Y) = (a + b) + 256 * (X + Y) := by omega
theorem by8_add (b c : Nat → Nat) : by8 b + by8 c = by8 (fun i => b i + c i) := by
  unfold by8
  rw [ad_by, ad_by, ad_by, ad_by, ad_by, ad_by, ad_by]
theorem by8_sub {b c : Nat → Nat} (h : ∀ i, i < 8 → c i ≤ b i) : by8 c ≤ by8 b ∧ by8 b - by8 c = by8 (fun i => b i - c i) := by
  have e : by8 b = by8 c + by8 (fun i => b i - c i) := by
    rw [by8_add]
    exact by8_c (fun i hi => by have := h i hi; omega)
  rw [e]
  exact ⟨Nat.le_add_right _ _, Nat.add_sub_cancel_left _ _⟩
