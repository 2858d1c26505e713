/-! Calls that look at what is kept. -/
section Xl98dlooks
variable {xl : (Nat → Int32) × Nat}
theorem op_106 {D nc : Nat} {h : lm_H} (hD : 170 ≤ D) (hn : nc ≤ 10000) (H : INV xl nc h) : lm_call D 106 [.ref 0] h (lm_kI fun r h1 => lm_call D 172 [.ref 92] h1 (lm_kI fun r2 h2 => r = r2 ∧ INV xl (nc + 1) h2)) := by
  obtain ⟨d, rfl⟩ := q_dp hD
  obtain ⟨⟨hl, ht, hw, ⟨m1, m2, m3, m4⟩, m5, m6, m7, m8, m9⟩, _, tp, _, _, hY, _⟩ := INV_s H
  have J := INV_mono H
  exact e_106 hl (e_172 hl ⟨m3, J⟩)
theorem op_108 {D nc : Nat} {h : lm_H} (hD : 170 ≤ D) (hn : nc ≤ 10000) (H : INV xl nc h) : lm_call D 108 [.ref 0] h (lm_kI fun r h1 => lm_call D 194 [.ref 92] h1 (lm_kI fun r2 h2 => r = r2 ∧ INV xl (nc + 1) h2)) := by
  obtain ⟨d, rfl⟩ := q_dp hD
  obtain ⟨⟨hl, ht, hw, ⟨m1, m2, m3, m4⟩, m5, m6, m7, m8, m9⟩, _, tp, _, _, hY, _⟩ := INV_s H
  have J := INV_mono H
  exact e_108 hl (e_194 hl ⟨m2, J⟩)
theorem op_138 {D nc : Nat} {h : lm_H} (hD : 170 ≤ D) (hn : nc ≤ 10000) (H : INV xl nc h) : lm_call D 138 [.ref 0] h (lm_kI fun r h1 => lm_call D 261 [.ref 92] h1 (lm_kI fun r2 h2 => r = r2 ∧ INV xl (nc + 1) h2)) := by
  obtain ⟨d, rfl⟩ := q_dp hD
  obtain ⟨⟨hl, ht, hw, ⟨m1, m2, m3, m4⟩, m5, m6, m7, m8, m9⟩, _, tp, _, _, hY, _⟩ := INV_s H
  have J := INV_mono H
  exact e_138 hl (e_261 hl ⟨m1, J⟩)
theorem op_104 {D nc : Nat} {h : lm_H} (hD : 170 ≤ D) (hn : nc ≤ 10000) (H : INV xl nc h) (x : Int32) : lm_call D 104 [.ref 0, .int x] h (lm_kI fun r h1 => lm_call D 174 [.ref 92, .int x] h1 (lm_kI fun r2 h2 => r = r2 ∧ INV xl (nc + 1) h2)) := by
  obtain ⟨d, rfl⟩ := q_dp hD
  obtain ⟨⟨hl, ht, hw, ⟨m1, m2, m3, m4⟩, m5, m6, m7, m8, m9⟩, _, tp, _, _, hY, _⟩ := INV_s H
  have J := INV_mono H
  refine e_104 x hl ?_
  by_cases c1 : x < 0
  · rw [if_pos c1]
    refine e_174 x hl ?_
    rw [if_pos c1]
    exact ⟨rfl, J⟩
  rw [if_neg c1, m4]
  by_cases c2 : lm_i h 92 10 < x
  · rw [if_pos c2]
    refine e_174 x hl ?_
    rw [if_neg c1, if_pos c2]
    exact ⟨rfl, J⟩
  rw [if_neg c2]
  refine e_174 x (lm_Lay_si hl _ _ _) ?_
  simp only [pi_si, Nat.reduceEqDiff, if_true, if_false]
  rw [if_neg c1, if_neg c2]
  refine ⟨by first | rfl | trivial, INV_sm H (fr_s92 (fr_si (fr_refl _ _ _) (by decide) (by decide) _ _) (by decide) _) ⟨⟨m1, m2, m3, rfl⟩, m5, m6, m7, m8, m9⟩ ⟨?_, tp.2⟩⟩
  obtain ⟨N, N1, N2⟩ := tp.1
  obtain ⟨k, k1, rfl⟩ := q_ex c1
  rw [N2, q_lt (by omega) (by omega)] at c2
  exact ⟨k, by omega, rfl⟩
theorem op_137 {D nc : Nat} {h : lm_H} (hD : 170 ≤ D) (hn : nc ≤ 10000) (H : INV xl nc h) (x : Int32) : lm_call D 137 [.ref 0, .int x] h (lm_kI fun r h1 => lm_call D 260 [.ref 92, .int x] h1 (lm_kI fun r2 h2 => r = r2 ∧ INV xl (nc + 1) h2)) := by
  obtain ⟨d, rfl⟩ := q_dp hD
  obtain ⟨⟨hl, ht, hw, ⟨m1, m2, m3, m4⟩, m5, m6, m7, m8, m9⟩, _, tp, _, _, hY, _⟩ := INV_s H
  have J := INV_mono H
  refine e_137 x hl ?_
  by_cases c0 : x = 0
  · rw [if_pos c0]
    refine e_260 _ hl ?_
    rw [if_pos c0]
    exact ⟨ht.1.1, J⟩
  by_cases c1 : x = 1
  · rw [if_neg c0, if_pos c1]
    refine e_260 _ hl ?_
    rw [if_neg c0, if_pos c1]
    exact ⟨ht.1.2.1, J⟩
  by_cases c2 : x = 2
  · rw [if_neg c0, if_neg c1, if_pos c2]
    refine e_260 _ hl ?_
    rw [if_neg c0, if_neg c1, if_pos c2]
    exact ⟨ht.1.2.2.2.2.1, J⟩
  by_cases c3 : x = 3
  · rw [if_neg c0, if_neg c1, if_neg c2, if_pos c3]
    refine e_260 _ hl ?_
    rw [if_neg c0, if_neg c1, if_neg c2, if_pos c3]
    exact ⟨m4, J⟩
  by_cases c4 : x = 4
  · rw [if_neg c0, if_neg c1, if_neg c2, if_neg c3, if_pos c4]
    subst c4
    rw [if_neg (by decide), if_neg (by decide), show (4 : Int32) - 4 = Int32.ofNat 0 from by decide, q_in (by decide) (by decide), q_nat (by decide)]
    refine e_260 _ hl ?_
    rw [if_neg c0, if_neg c1, if_neg c2, if_neg c3, if_pos rfl]
    rw [show (4 : Int32) - 3 = Int32.ofNat 1 from by decide, q_in (by decide) (by decide), q_nat (by decide)]
    exact ⟨m5, J⟩
  by_cases c5 : x = 5
  · rw [if_neg c0, if_neg c1, if_neg c2, if_neg c3, if_neg c4, if_pos c5]
    subst c5
    rw [if_neg (by decide), if_neg (by decide), show (5 : Int32) - 4 = Int32.ofNat 1 from by decide, q_in (by decide) (by decide), q_nat (by decide)]
    refine e_260 _ hl ?_
    rw [if_neg c0, if_neg c1, if_neg c2, if_neg c3, if_neg c4, if_pos rfl]
    rw [show (5 : Int32) - 3 = Int32.ofNat 2 from by decide, q_in (by decide) (by decide), q_nat (by decide)]
    exact ⟨m6, J⟩
  by_cases c6 : x = 6
  · rw [if_neg c0, if_neg c1, if_neg c2, if_neg c3, if_neg c4, if_neg c5, if_pos c6]
    subst c6
    rw [if_neg (by decide), if_neg (by decide), show (6 : Int32) - 4 = Int32.ofNat 2 from by decide, q_in (by decide) (by decide), q_nat (by decide)]
    refine e_260 _ hl ?_
    rw [if_neg c0, if_neg c1, if_neg c2, if_neg c3, if_neg c4, if_neg c5, if_pos rfl]
    rw [show (6 : Int32) - 3 = Int32.ofNat 3 from by decide, q_in (by decide) (by decide), q_nat (by decide)]
    exact ⟨m7, J⟩
  by_cases c7 : x = 7
  · rw [if_neg c0, if_neg c1, if_neg c2, if_neg c3, if_neg c4, if_neg c5, if_neg c6, if_pos c7]
    subst c7
    rw [if_neg (by decide), if_neg (by decide), show (7 : Int32) - 4 = Int32.ofNat 3 from by decide, q_in (by decide) (by decide), q_nat (by decide)]
    refine e_260 _ hl ?_
    rw [if_neg c0, if_neg c1, if_neg c2, if_neg c3, if_neg c4, if_neg c5, if_neg c6, if_pos rfl]
    exact ⟨m8, J⟩
  by_cases c8 : x = 8
  · rw [if_neg c0, if_neg c1, if_neg c2, if_neg c3, if_neg c4, if_neg c5, if_neg c6, if_neg c7, if_pos c8]
    subst c8
    rw [if_neg (by decide), if_neg (by decide), show (8 : Int32) - 4 = Int32.ofNat 4 from by decide, q_in (by decide) (by decide), q_nat (by decide)]
    refine e_260 _ hl ?_
    rw [if_neg c0, if_neg c1, if_neg c2, if_neg c3, if_neg c4, if_neg c5, if_neg c6, if_neg c7, if_pos rfl]
    exact ⟨m9, J⟩
  by_cases c9 : x = 9
  · rw [if_neg c0, if_neg c1, if_neg c2, if_neg c3, if_neg c4, if_neg c5, if_neg c6, if_neg c7, if_neg c8, if_pos c9]
    refine e_260 _ hl ?_
    rw [if_neg c0, if_neg c1, if_neg c2, if_neg c3, if_neg c4, if_neg c5, if_neg c6, if_neg c7, if_neg c8, if_pos c9]
    exact ⟨ht.1.2.2.2.2.2, J⟩
  by_cases c10 : x = 10
  · rw [if_neg c0, if_neg c1, if_neg c2, if_neg c3, if_neg c4, if_neg c5, if_neg c6, if_neg c7, if_neg c8, if_neg c9, if_pos c10]
    refine e_260 _ hl ?_
    rw [if_neg c0, if_neg c1, if_neg c2, if_neg c3, if_neg c4, if_neg c5, if_neg c6, if_neg c7, if_neg c8, if_neg c9, if_pos c10]
    exact ⟨ht.1.2.2.1, J⟩
  rw [if_neg c0, if_neg c1, if_neg c2, if_neg c3, if_neg c4, if_neg c5, if_neg c6, if_neg c7, if_neg c8, if_neg c9, if_neg c10]
  by_cases e1 : x < 4
  · rw [if_pos e1]
    refine e_260 _ hl ?_
    rw [if_neg c0, if_neg c1, if_neg c2, if_neg c3, if_neg c4, if_neg c5, if_neg c6, if_neg c7, if_neg c8, if_neg c9, if_neg c10]
    exact ⟨rfl, J⟩
  rw [if_neg e1]
  have e2 : 8 < x := by
    simp only [p_lt, p_eq, Int32.reduceToInt] at *
    omega
  rw [if_pos e2]
  refine e_260 _ hl ?_
  rw [if_neg c0, if_neg c1, if_neg c2, if_neg c3, if_neg c4, if_neg c5, if_neg c6, if_neg c7, if_neg c8, if_neg c9, if_neg c10]
  exact ⟨rfl, J⟩
theorem nC_c {a : Nat} (ha : a ≤ 6) {x : Int32} (hx : x = Int32.ofNat a) : (x = 6 → -1 = nC a) ∧ (¬ x = 6 → x = nC a) := by
  subst hx
  unfold nC
  rw [q_e6 (by omega)]
  exact ⟨fun z => by rw [if_pos z], fun z => by rw [if_neg z]⟩
theorem nC_i {a b : Nat} (ha : a ≤ 6) (hb : b ≤ 6) : (nC a = nC b) = (a = b) := by
  refine propext ⟨fun q => ?_, fun q => by rw [q]⟩
  unfold nC at q
  by_cases c : a = 6
  · by_cases c2 : b = 6
    · omega
    · rw [if_pos c, if_neg c2] at q
      exact absurd q.symm (ne_m1 (by omega))
  · by_cases c2 : b = 6
    · rw [if_neg c, if_pos c2] at q
      exact absurd q (ne_m1 (by omega))
    · rw [if_neg c, if_neg c2, q_eq (by omega) (by omega)] at q
      exact q
theorem op_132 {D nc : Nat} {h : lm_H} (hD : 170 ≤ D) (hn : nc ≤ 10000) (H : INV xl nc h) (x y z : Int32) : lm_call D 132 [.ref 0, .int x, .int y, .int z] h (lm_kI fun r h1 => lm_call D 257 [.ref 92, .int x, .int y, .int z] h1 (lm_kI fun r2 h2 => r = r2 ∧ INV xl (nc + 1) h2)) := by
  obtain ⟨d, rfl⟩ := q_dp hD
  obtain ⟨⟨hl, ht, hw, ⟨m1, m2, m3, m4⟩, m5, m6, m7, m8, m9⟩, _, tp, _, _, hY, _⟩ := INV_s H
  have J := INV_mono H
  obtain ⟨N, n, N4, n5, Nz, y1, y2, y3, y4, y5, y6⟩ := hY
  refine e_132 x y z hl ?_
  rw [y1, y3]
  by_cases c1 : x < 0
  · rw [if_pos c1]
    refine e_257 _ _ _ hl ?_
    rw [if_pos c1]
    exact ⟨rfl, J⟩
  rw [if_neg c1]
  obtain ⟨i, i1, rfl⟩ := q_ex c1
  by_cases c2 : ¬ i < N
  · rw [if_neg (by rw [q_lt (by omega) (by omega)]; exact c2)]
    refine e_257 _ _ _ hl ?_
    rw [if_neg c1, y2, if_pos (by rw [q_m1 (by omega) (by omega)]; exact c2)]
    exact ⟨rfl, J⟩
  have c2 := Decidable.not_not.1 c2
  rw [if_pos (by rw [q_lt (by omega) (by omega)]; exact c2)]
  by_cases c3 : y < 0
  · rw [if_pos c3]
    refine e_257 _ _ _ hl ?_
    rw [if_neg c1, y2, if_neg (by rw [q_m1 (by omega) (by omega)]; exact fun q => q c2), if_pos c3]
    exact ⟨rfl, J⟩
  rw [if_neg c3]
  obtain ⟨j, j1, rfl⟩ := q_ex c3
  by_cases c4 : ¬ j < n
  · rw [if_neg (by rw [q_lt (by omega) (by omega)]; exact c4)]
    refine e_257 _ _ _ hl ?_
    rw [if_neg c1, y2, if_neg (by rw [q_m1 (by omega) (by omega)]; exact fun q => q c2), if_neg c3, y4, if_pos (by rw [q_m1 (by omega) (by omega)]; exact c4)]
    exact ⟨rfl, J⟩
  have c4 := Decidable.not_not.1 c4
  rw [if_pos (by rw [q_lt (by omega) (by omega)]; exact c4)]
  obtain ⟨a, b, a6, b6, r1, r2, r3, r4⟩ := y5 i c2 j c4
  have z01 : ¬ (0 : Int32) < 0 ∧ ¬ (1 : Int32) < 0 ∧ ¬ (1 : Int32) < 1 ∧ ¬ (1 : Int32) = 0 := by decide
  by_cases d0 : z = 0
  · subst d0
    rw [if_pos rfl, q_m5, q_add, q_in (by omega) (by decide), q_nat (by omega)]
    by_cases c6 : lm_i h 64 (i * 5 + j) = 6
    · rw [if_pos c6]
      refine e_257 _ _ _ hl ?_
      rw [if_neg c1, y2, if_neg (by rw [q_m1 (by omega) (by omega)]; exact fun q => q c2), if_neg c3, y4, if_neg (by rw [q_m1 (by omega) (by omega)]; exact fun q => q c4), if_neg z01.1, if_neg z01.2.1, if_pos rfl, q_5m, q_add, q_in (by omega) (by decide), q_nat (by omega)]
      exact ⟨by rw [r2]; exact (nC_c a6 r1).1 c6, J⟩
    · rw [if_neg c6]
      refine e_257 _ _ _ hl ?_
      rw [if_neg c1, y2, if_neg (by rw [q_m1 (by omega) (by omega)]; exact fun q => q c2), if_neg c3, y4, if_neg (by rw [q_m1 (by omega) (by omega)]; exact fun q => q c4), if_neg z01.1, if_neg z01.2.1, if_pos rfl, q_5m, q_add, q_in (by omega) (by decide), q_nat (by omega)]
      exact ⟨by rw [r2]; exact (nC_c a6 r1).2 c6, J⟩
  by_cases d1 : z = 1
  · subst d1
    rw [if_neg d0, if_pos rfl, q_m5, q_add, q_in (by omega) (by decide), q_nat (by omega)]
    by_cases c6 : lm_i h 65 (i * 5 + j) = 6
    · rw [if_pos c6]
      refine e_257 _ _ _ hl ?_
      rw [if_neg c1, y2, if_neg (by rw [q_m1 (by omega) (by omega)]; exact fun q => q c2), if_neg c3, y4, if_neg (by rw [q_m1 (by omega) (by omega)]; exact fun q => q c4), if_neg z01.2.1, if_neg z01.2.2.1, if_neg z01.2.2.2, q_5m, q_add, q_in (by omega) (by decide), q_nat (by omega)]
      exact ⟨by rw [r4]; exact (nC_c b6 r3).1 c6, J⟩
    · rw [if_neg c6]
      refine e_257 _ _ _ hl ?_
      rw [if_neg c1, y2, if_neg (by rw [q_m1 (by omega) (by omega)]; exact fun q => q c2), if_neg c3, y4, if_neg (by rw [q_m1 (by omega) (by omega)]; exact fun q => q c4), if_neg z01.2.1, if_neg z01.2.2.1, if_neg z01.2.2.2, q_5m, q_add, q_in (by omega) (by decide), q_nat (by omega)]
      exact ⟨by rw [r4]; exact (nC_c b6 r3).2 c6, J⟩
  rw [if_neg d0, if_neg d1]
  refine e_257 _ _ _ hl ?_
  rw [if_neg c1, y2, if_neg (by rw [q_m1 (by omega) (by omega)]; exact fun q => q c2), if_neg c3, y4, if_neg (by rw [q_m1 (by omega) (by omega)]; exact fun q => q c4)]
  by_cases e1 : z < 0
  · rw [if_pos e1]
    exact ⟨rfl, J⟩
  have e2 : 1 < z := by
    simp only [p_lt, p_eq, Int32.reduceToInt] at d0 d1 e1 ⊢
    omega
  rw [if_neg e1, if_pos e2]
  exact ⟨rfl, J⟩
theorem op_133 {D nc : Nat} {h : lm_H} (hD : 170 ≤ D) (hn : nc ≤ 10000) (H : INV xl nc h) (x : Int32) : lm_call D 133 [.ref 0, .int x] h (lm_kI fun r h1 => lm_call D 258 [.ref 92, .int x] h1 (lm_kI fun r2 h2 => r = r2 ∧ INV xl (nc + 1) h2)) := by
  obtain ⟨d, rfl⟩ := q_dp hD
  obtain ⟨⟨hl, ht, hw, ⟨m1, m2, m3, m4⟩, m5, m6, m7, m8, m9⟩, _, tp, _, _, hY, _⟩ := INV_s H
  have J := INV_mono H
  obtain ⟨N, n, N4, n5, Nz, y1, y2, y3, y4, y5, y6⟩ := hY
  refine e_133 x hl ?_
  rw [y3]
  have no : (N = 0 ∨ x < 0 ∨ Int32.ofNat n - 1 < x) → lm_call (d + 170) 258 [.ref 92, .int x] h (lm_kI fun r2 h2 => -1000000 = r2 ∧ INV xl (nc + 1) h2) := by
    intro q
    refine e_258 _ hl ?_
    rw [y2, y4]
    by_cases a1 : N = 0
    · rw [if_pos (by rw [a1]; rfl)]
      exact ⟨rfl, J⟩
    rw [if_neg (by rw [q_e0 (by omega)]; exact a1)]
    by_cases a2 : x < 0
    · rw [if_pos a2]
      exact ⟨rfl, J⟩
    rw [if_neg a2, if_pos (by rcases q with q | q | q; exact absurd q a1; exact absurd q a2; exact q)]
    exact ⟨rfl, J⟩
  by_cases c1 : x < 0
  · rw [if_pos c1]
    exact no (Or.inr (Or.inl c1))
  rw [if_neg c1]
  obtain ⟨j, j1, rfl⟩ := q_ex c1
  by_cases c2 : ¬ j < n
  · rw [if_neg (by rw [q_lt (by omega) (by omega)]; exact c2)]
    exact no (Or.inr (Or.inr (by rw [q_m1 (by omega) (by omega)]; exact c2)))
  have c2 := Decidable.not_not.1 c2
  rw [if_pos (by rw [q_lt (by omega) (by omega)]; exact c2), q_in (by omega) (by decide), q_nat (by omega), y6 j c2]
  refine e_258 _ hl ?_
  rw [y2, if_neg (by rw [q_e0 (by omega)]; omega), if_neg c1, y4, if_neg (by rw [q_m1 (by omega) (by omega)]; exact fun q => q c2)]
  have lp : ∀ r i : Nat, r + i = N → (lm_W ((d + 168) + 1) 258 28 [some (.ref 92), some (.int (Int32.ofNat j)), some (.int (gS (lm_i h 117) j i)), some (.int (Int32.ofNat i))] [] h (lm_kI (fun r2 h2 => gS (lm_i h 117) j N = r2 ∧ INV xl (nc + 1) h2))) := by
    intro r
    induction r with
    | zero =>
      intro i hi
      have : i = N := by omega
      subst this
      refine b_258_28 _ _ _ hl ?_
      rw [y2, if_neg (by rw [q_lt (by omega) (by omega)]; omega)]
      exact ⟨rfl, J⟩
    | succ r ih =>
      intro i hi
      refine b_258_28 _ _ _ hl ?_
      rw [y2, if_pos (by rw [q_lt (by omega) (by omega)]; omega), q_5m, q_add, q_in (by omega) (by decide), q_nat (by omega), q_a1]
      exact ih (i + 1) (by omega)
  exact lp N 0 (by omega)
/-- from when on a year's asks stay -/
def syT (P : Nat → Bool) : Nat → Nat
  | 0 => 0
  | i + 1 => if P i then syT P i else i + 1
/-- evenings i and i + 1 are asked alike -/
def eA (f : Nat → Int32) (n i : Nat) : Bool := decide (∀ j, j < n → f (i * 5 + j) = f ((i + 1) * 5 + j))
theorem cl_96 {D i n : Nat} {h : lm_H} {K : Int32 → lm_H → Prop} (hD : 1 ≤ D) (hl : lm_Lay h) (hi : i < 39) (h5 : n ≤ 5) (hn : lm_i h 58 5 = Int32.ofNat n) (hK : K (if eA (lm_i h 64) n i then 1 else 0) h) : lm_call D 96 [.ref 58, .int (Int32.ofNat i), .int (Int32.ofNat (i + 1))] h (lm_kI K) := by
  obtain ⟨d, rfl⟩ := q_dp hD
  refine e_96 _ _ hl ?_
  have lp : ∀ r j : Nat, r + j = n → (∀ a, a < j → lm_i h 64 (i * 5 + a) = lm_i h 64 ((i + 1) * 5 + a)) → (lm_W (d) 96 2 [some (.ref 58), some (.int (Int32.ofNat i)), some (.int (Int32.ofNat (i + 1))), some (.int (Int32.ofNat j))] [] h (lm_kI K)) := by
    intro r
    induction r with
    | zero =>
      intro j hj ha
      have : j = n := by omega
      subst this
      refine b_96_2 _ _ _ hl ?_
      rw [hn, if_neg (by rw [q_lt (by omega) (by omega)]; omega)]
      rw [if_pos (by unfold eA; exact decide_eq_true ha)] at hK
      exact hK
    | succ r ih =>
      intro j hj ha
      refine b_96_2 _ _ _ hl ?_
      rw [hn, if_pos (by rw [q_lt (by omega) (by omega)]; omega), q_m5, q_m5, q_add, q_add, q_in (by omega) (by decide), q_in (by omega) (by decide), q_nat (by omega), q_nat (by omega)]
      by_cases c : lm_i h 64 (i * 5 + j) = lm_i h 64 ((i + 1) * 5 + j)
      · rw [if_pos c, q_a1]
        refine ih (j + 1) (by omega) (fun a hA => ?_)
        by_cases e : a = j
        · subst e
          exact c
        · exact ha a (by omega)
      · rw [if_neg c]
        rw [if_neg (by unfold eA; intro q; exact c (of_decide_eq_true q j (by omega)))] at hK
        exact hK
  exact lp n 0 (by omega) (fun a ha => by omega)
theorem op_134 {D nc : Nat} {h : lm_H} (hD : 170 ≤ D) (hn : nc ≤ 10000) (H : INV xl nc h) : lm_call D 134 [.ref 0] h (lm_kI fun r h1 => lm_call D 259 [.ref 92] h1 (lm_kI fun r2 h2 => r = r2 ∧ INV xl (nc + 1) h2)) := by
  obtain ⟨d, rfl⟩ := q_dp hD
  obtain ⟨⟨hl, ht, hw, ⟨m1, m2, m3, m4⟩, m5, m6, m7, m8, m9⟩, _, tp, _, _, hY, _⟩ := INV_s H
  have J := INV_mono H
  obtain ⟨N, n, N4, n5, Nz, y1, y2, y3, y4, y5, y6⟩ := hY
  refine e_134 hl ?_
  rw [y1]
  by_cases c0 : N = 0
  · rw [if_pos (by rw [c0]; rfl)]
    refine e_259 hl ?_
    rw [y2, c0, if_neg (by decide)]
    refine b_259_17 _ _ hl ?_
    rw [if_pos rfl]
    exact ⟨rfl, J⟩
  rw [if_neg (by rw [q_e0 (by omega)]; exact c0), q_s1 (by omega)]
  have ee : ∀ i, i + 1 < N → ∀ j, j < n → (lm_i h 115 (5 * (i + 1) + j) = lm_i h 115 (5 * i + j)) = (lm_i h 64 (i * 5 + j) = lm_i h 64 ((i + 1) * 5 + j)) := by
    intro i hi j hj
    obtain ⟨a, b, a6, b6, r1, r2, r3, r4⟩ := y5 i (by omega) j hj
    obtain ⟨a', b', a6', b6', r1', r2', r3', r4'⟩ := y5 (i + 1) (by omega) j hj
    rw [r2, r2', r1, r1', nC_i a6' a6, q_eq (by omega) (by omega)]
    exact propext ⟨fun q => q.symm, fun q => q.symm⟩
  have ref : ∀ i, i < N → ∀ v, v = (if 0 < i then (1 : Int32) else 0) → lm_W (d + 169) 259 17 [some (.ref 92), some (.int (Int32.ofNat i)), some (.int v), none] [] h (lm_kI fun r2 h2 => Int32.ofNat (syT (eA (lm_i h 64) n) i) = r2 ∧ INV xl (nc + 1) h2) := by
    intro i
    induction i with
    | zero =>
      intro hi v hv
      rw [if_neg (by decide)] at hv
      refine b_259_17 _ _ hl ?_
      rw [if_pos hv]
      exact ⟨rfl, J⟩
    | succ i ih =>
      intro hi v hv
      rw [if_pos (by omega)] at hv
      subst hv
      refine b_259_17 _ _ hl ?_
      rw [if_neg (by decide)]
      have lp : ∀ r j : Nat, r + j = n → ∀ v, (v = 1 ∧ (∀ a, a < j → lm_i h 64 (i * 5 + a) = lm_i h 64 ((i + 1) * 5 + a))) ∨ (v = 0 ∧ eA (lm_i h 64) n i = false) → (lm_W ((d + 169)) 259 23 [some (.ref 92), some (.int (Int32.ofNat (i + 1))), some (.int v), some (.int (Int32.ofNat j))] [] h (lm_kI (fun r2 h2 => Int32.ofNat (syT (eA (lm_i h 64) n) (i + 1)) = r2 ∧ INV xl (nc + 1) h2))) := by
        intro r
        induction r with
        | zero =>
          intro j hj v hv
          have : j = n := by omega
          subst this
          refine b_259_23 _ _ _ hl ?_
          rw [y4, if_neg (by rw [q_lt (by omega) (by omega)]; omega)]
          rcases hv with ⟨rfl, ha⟩ | ⟨rfl, ha⟩
          · rw [if_neg (by decide), if_neg (by decide), q_s1 (by omega), Nat.add_sub_cancel]
            have e : syT (eA (lm_i h 64) j) (i + 1) = syT (eA (lm_i h 64) j) i := if_pos (by unfold eA; exact decide_eq_true ha)
            rw [e]
            by_cases c : 0 < i
            · rw [if_pos (by rw [q_0l (by omega)]; exact c)]
              exact ih (by omega) _ (by rw [if_pos c])
            · rw [if_neg (by rw [q_0l (by omega)]; exact c)]
              exact ih (by omega) _ (by rw [if_neg c])
          · rw [if_pos rfl, if_pos rfl]
            refine b_259_17 _ _ hl ?_
            rw [if_pos rfl]
            have e : syT (eA (lm_i h 64) j) (i + 1) = i + 1 := if_neg (by rw [ha]; decide)
            rw [e]
            exact ⟨rfl, J⟩
        | succ r ih2 =>
          intro j hj v hv
          refine b_259_23 _ _ _ hl ?_
          rw [y4, if_pos (by rw [q_lt (by omega) (by omega)]; omega)]
          rcases hv with ⟨rfl, ha⟩ | ⟨rfl, ha⟩
          · rw [if_neg (by decide), q_s1 (by omega), Nat.add_sub_cancel, q_5m, q_5m, q_add, q_add, q_in (by omega) (by decide), q_in (by omega) (by decide), q_nat (by omega), q_nat (by omega), q_a1 j]
            by_cases c : lm_i h 64 (i * 5 + j) = lm_i h 64 ((i + 1) * 5 + j)
            · rw [if_pos (by rw [ee i (by omega) j (by omega)]; exact c)]
              refine ih2 (j + 1) (by omega) _ (Or.inl ⟨rfl, fun a hA => ?_⟩)
              by_cases e : a = j
              · subst e
                exact c
              · exact ha a (by omega)
            · rw [if_neg (by rw [ee i (by omega) j (by omega)]; exact c)]
              exact ih2 (j + 1) (by omega) _ (Or.inr ⟨rfl, by unfold eA; exact decide_eq_false (fun q => c (q j (by omega)))⟩)
          · rw [if_pos rfl, q_a1 j]
            exact ih2 (j + 1) (by omega) _ (Or.inr ⟨rfl, ha⟩)
      exact lp n 0 (by omega) _ (Or.inl ⟨rfl, fun a ha => by omega⟩)
  have start : ∀ v, v = syT (eA (lm_i h 64) n) (N - 1) → lm_call (d + 170) 259 [.ref 92] h (lm_kI fun r2 h2 => Int32.ofNat v = r2 ∧ INV xl (nc + 1) h2) := by
    intro v hv
    subst hv
    refine e_259 hl ?_
    rw [y2, q_s1 (by omega)]
    by_cases c : 0 < N - 1
    · rw [if_pos (by rw [q_0l (by omega)]; exact c)]
      exact ref (N - 1) (by omega) _ (by rw [if_pos c])
    · rw [if_neg (by rw [q_0l (by omega)]; exact c)]
      exact ref (N - 1) (by omega) _ (by rw [if_neg c])
  have cls : ∀ i, i < N → syT (eA (lm_i h 64) n) i = syT (eA (lm_i h 64) n) (N - 1) → (lm_W ((d + 169)) 134 22 [some (.ref 0), some (.int (Int32.ofNat i))] [] h (lm_kI (fun r h1 => lm_call (d + 170) 259 [.ref 92] h1 (lm_kI fun r2 h2 => r = r2 ∧ INV xl (nc + 1) h2)))) := by
    intro i
    induction i with
    | zero =>
      intro hi e
      refine b_134_22 _ hl ?_
      rw [if_neg (by decide)]
      exact start 0 e
    | succ i ih =>
      intro hi e
      refine b_134_22 _ hl ?_
      rw [if_pos (by rw [q_0l (by omega)]; omega), q_s1 (by omega), Nat.add_sub_cancel]
      refine cl_96 (by omega) hl (by omega) n5 y3 ?_
      by_cases c : eA (lm_i h 64) n i = true
      · rw [if_pos c, if_neg (by decide)]
        refine ih (by omega) ?_
        rw [← e]
        exact (if_pos c).symm
      · rw [if_neg c, if_pos rfl]
        refine start (i + 1) ?_
        rw [← e]
        exact (if_neg c).symm
  exact cls (N - 1) (by omega) rfl
end Xl98dlooks
