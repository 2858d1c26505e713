/-! bits 5 -/
theorem sh8 {a Z : Nat} (ha : a < 256) : (a + 256 * Z) / 2 ^ 8 = Z := by omega
theorem sh16 {a b Z : Nat} (ha : a < 256) (hb : b < 256) : (a + 256 * (b + 256 * Z)) / 2 ^ 16 = Z := by
  rw [show (2 ^ 16 : Nat) = 2 ^ 8 * 2 ^ 8 from rfl, ← Nat.div_div_eq_div_mul, sh8 ha, sh8 hb]
theorem sh32 {a b c e Z : Nat} (ha : a < 256) (hb : b < 256) (hc : c < 256) (he : e < 256) : (a + 256 * (b + 256 * (c + 256 * (e + 256 * Z)))) / 2 ^ 32 = Z := by
  rw [show (2 ^ 32 : Nat) = 2 ^ 16 * 2 ^ 16 from rfl, ← Nat.div_div_eq_div_mul, sh16 ha hb, sh16 hc he]
theorem md128 {a b R Q : Nat} (h : a + b < 128) : (a + 256 * R + (b + 256 * Q)) % 128 = a + b := by omega
theorem ad_b7 (a X b : Nat) : (a + 256 * X) + b = (a + b) + 256 * X := by omega
theorem lt8 {a b c e f g i j : Nat} (ha : a < 256) (hb : b < 256) (hc : c < 256) (he : e < 256) (hf : f < 256) (hg : g < 256) (hi : i < 256) (hj : j < 256) : a + 256 * (b + 256 * (c + 256 * (e + 256 * (f + 256 * (g + 256 * (i + 256 * j)))))) < 2 ^ 64 := by omega
theorem lb32_by {x : Int64} {u : Nat → Nat} (hu : ∀ i, i < 8 → u i ≤ 8) (hx : nb x = by8 u) : nb (lb32 (lb16 (lb8 x))) % 128 = u 0 + u 1 + u 2 + u 3 + u 4 + u 5 + u 6 + u 7 := by
  have hx : nb x = u 0 + 256 * (u 1 + 256 * (u 2 + 256 * (u 3 + 256 * (u 4 + 256 * (u 5 + 256 * (u 6 + 256 * u 7)))))) := hx
  have h0 := hu 0 (by decide)
  have h1 := hu 1 (by decide)
  have h2 := hu 2 (by decide)
  have h3 := hu 3 (by decide)
  have h4 := hu 4 (by decide)
  have h5 := hu 5 (by decide)
  have h6 := hu 6 (by decide)
  have h7 := hu 7 (by decide)
  generalize u 0 = u0 at *
  generalize u 1 = u1 at *
  generalize u 2 = u2 at *
  generalize u 3 = u3 at *
  generalize u 4 = u4 at *
  generalize u 5 = u5 at *
  generalize u 6 = u6 at *
  generalize u 7 = u7 at *
  have c0 : u0 < 256 := Nat.lt_of_le_of_lt h0 (by decide)
  have c7 : u7 < 256 := Nat.lt_of_le_of_lt h7 (by decide)
  have t2 : ∀ {a b : Nat}, a ≤ 8 → b ≤ 8 → a + b < 256 := by
    intro a b p q
    clear hx h0 h1 h2 h3 h4 h5 h6 h7 hu c0 c7
    omega
  have t3 : ∀ {a b c : Nat}, a ≤ 8 → b ≤ 8 → c ≤ 8 → a + b + c < 256 := by
    intro a b c p q r
    clear hx h0 h1 h2 h3 h4 h5 h6 h7 hu c0 c7 t2
    omega
  have t4 : ∀ {a b c e : Nat}, a ≤ 8 → b ≤ 8 → c ≤ 8 → e ≤ 8 → a + b + (c + e) < 256 := by
    intro a b c e p q r s
    clear hx h0 h1 h2 h3 h4 h5 h6 h7 hu c0 c7 t2 t3
    omega
  have e0 : u0 + u1 + (u2 + u3) + (u4 + u5 + (u6 + u7)) < 128 := by
    clear hx t2 t3 t4 hu
    omega
  have e1 : u1 + u2 + (u3 + u4) + (u5 + u6 + u7) < 256 := by
    clear hx t2 t3 t4 hu e0
    omega
  have e2 : u2 + u3 + (u4 + u5) + (u6 + u7) < 256 := by
    clear hx t2 t3 t4 hu e0 e1
    omega
  have e3 : u3 + u4 + (u5 + u6) + u7 < 256 := by
    clear hx t2 t3 t4 hu e0 e1 e2
    omega
  have ef : u0 + u1 + (u2 + u3) + (u4 + u5 + (u6 + u7)) = u0 + u1 + u2 + u3 + u4 + u5 + u6 + u7 := by
    simp only [Nat.add_assoc]
  have t8 : nb x + nb x / 2 ^ 8 = (u0 + u1) + 256 * ((u1 + u2) + 256 * ((u2 + u3) + 256 * ((u3 + u4) + 256 * ((u4 + u5) + 256 * ((u5 + u6) + 256 * ((u6 + u7) + 256 * u7)))))) := by
    rw [hx, sh8 c0, ad_by, ad_by, ad_by, ad_by, ad_by, ad_by, ad_b7]
  have v8 : nb (lb8 x) = (u0 + u1) + 256 * ((u1 + u2) + 256 * ((u2 + u3) + 256 * ((u3 + u4) + 256 * ((u4 + u5) + 256 * ((u5 + u6) + 256 * ((u6 + u7) + 256 * u7)))))) := by
    unfold lb8
    rw [nb_add, nb_sr x _ 8 (by decide +kernel)]
    · exact t8
    · rw [nb_sr x _ 8 (by decide +kernel), t8]
      exact lt8 (t2 h0 h1) (t2 h1 h2) (t2 h2 h3) (t2 h3 h4) (t2 h4 h5) (t2 h5 h6) (t2 h6 h7) c7
  have t16 : nb (lb8 x) + nb (lb8 x) / 2 ^ 16 = (u0 + u1 + (u2 + u3)) + 256 * ((u1 + u2 + (u3 + u4)) + 256 * ((u2 + u3 + (u4 + u5)) + 256 * ((u3 + u4 + (u5 + u6)) + 256 * ((u4 + u5 + (u6 + u7)) + 256 * ((u5 + u6 + u7) + 256 * ((u6 + u7) + 256 * u7)))))) := by
    rw [v8, sh16 (t2 h0 h1) (t2 h1 h2), ad_by, ad_by, ad_by, ad_by, ad_by, ad_b7]
  have v16 : nb (lb16 (lb8 x)) = (u0 + u1 + (u2 + u3)) + 256 * ((u1 + u2 + (u3 + u4)) + 256 * ((u2 + u3 + (u4 + u5)) + 256 * ((u3 + u4 + (u5 + u6)) + 256 * ((u4 + u5 + (u6 + u7)) + 256 * ((u5 + u6 + u7) + 256 * ((u6 + u7) + 256 * u7)))))) := by
    unfold lb16
    rw [nb_add, nb_sr (lb8 x) _ 16 (by decide +kernel)]
    · exact t16
    · rw [nb_sr (lb8 x) _ 16 (by decide +kernel), t16]
      exact lt8 (t4 h0 h1 h2 h3) (t4 h1 h2 h3 h4) (t4 h2 h3 h4 h5) (t4 h3 h4 h5 h6) (t4 h4 h5 h6 h7) (t3 h5 h6 h7) (t2 h6 h7) c7
  have d32 : nb (lb16 (lb8 x)) / 2 ^ 32 = (u4 + u5 + (u6 + u7)) + 256 * ((u5 + u6 + u7) + 256 * ((u6 + u7) + 256 * u7)) := by
    rw [v16, sh32 (t4 h0 h1 h2 h3) (t4 h1 h2 h3 h4) (t4 h2 h3 h4 h5) (t4 h3 h4 h5 h6)]
  unfold lb32
  rw [nb_add, nb_sr (lb16 (lb8 x)) _ 32 (by decide +kernel)]
  · rw [d32, v16, md128 e0]
    exact ef
  · rw [nb_sr (lb16 (lb8 x)) _ 32 (by decide +kernel), d32, v16, ad_by, ad_by, ad_by, ad_b7]
    exact lt8 (Nat.lt_of_lt_of_le e0 (by decide)) e1 e2 e3 (t4 h4 h5 h6 h7) (t3 h5 h6 h7) (t2 h6 h7) c7
