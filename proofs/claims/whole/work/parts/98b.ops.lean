/-! Calls that change the town. -/
section Xl98bops
variable {xl : (Nat → Int32) × Nat}
theorem q_m1 {n k : Nat} (hn : n ≤ 400) (hk : k < 2147483648) : (Int32.ofNat n - 1 < Int32.ofNat k) = ¬ k < n := by
  have e := p_onI (k := n) (by omega)
  rw [lt_m1 (by rw [p_le, e]; simp only [Int32.reduceToInt]; omega) (by rw [p_le, e]; simp only [Int32.reduceToInt]; omega), q_lt hk (by omega)]
theorem op_98 {D nc : Nat} {h : lm_H} (hD : 170 ≤ D) (hn : nc ≤ 10000) (H : INV xl nc h) (x : Int32) : lm_call D 98 [.ref 0, .int x] h (lm_kI fun r h1 => lm_call D 164 [.ref 92, .int x] h1 (lm_kI fun r2 h2 => r = r2 ∧ INV xl (nc + 1) h2)) := by
  obtain ⟨d, rfl⟩ := q_dp hD
  obtain ⟨⟨hl, ht, hw, ⟨m1, m2, m3, m4⟩, m5, m6, m7, m8, m9⟩, _, tp, _⟩ := INV_s H
  obtain ⟨n, _, n2, n3⟩ := p_ix hw.1.1.1
  obtain ⟨m, _, g2, g3⟩ := p_ix hw.1.2.1.1
  have n5 := hw.1.1.2
  have g6 := hw.1.2.1.2
  simp only [p_le, Int32.reduceToInt] at n5 g6
  have t0 := ht.1.1
  have t1 := ht.1.2.1
  refine e_98 x hl ?_
  have l5 : (Int32.ofNat n < 5) = (n < 5) := q_lt (b := 5) (by omega) (by omega)
  have e5 : (Int32.ofNat n = 5) = (n = 5) := q_eq (b := 5) (by omega) (by omega)
  rw [t0, n2, q_nat (by omega)]
  by_cases c1 : x < 0
  · rw [if_pos c1]
    refine e_164 _ (lm_Lay_si (lm_Lay_si hl _ _ _) _ _ _) ?_
    simp only [pi_si, Nat.reduceEqDiff, if_true, if_false, n2, g2]
    rw [if_pos c1]
    exact ⟨by first | rfl | trivial, rfz H _ (Or.inl ⟨rfl, rfl⟩)⟩
  rw [if_neg c1]
  by_cases c2 : 9 < x
  · rw [if_pos c2]
    refine e_164 _ (lm_Lay_si (lm_Lay_si hl _ _ _) _ _ _) ?_
    simp only [pi_si, Nat.reduceEqDiff, if_true, if_false, n2, g2]
    rw [if_neg c1, if_pos c2]
    exact ⟨by first | rfl | trivial, rfz H _ (Or.inl ⟨rfl, rfl⟩)⟩
  rw [if_neg c2]
  by_cases c3 : ¬ (n < 5)
  · rw [if_neg (by rw [l5]; exact c3)]
    refine e_164 _ (lm_Lay_si (lm_Lay_si hl _ _ _) _ _ _) ?_
    simp only [pi_si, Nat.reduceEqDiff, if_true, if_false, n2, g2]
    rw [if_neg c1, if_neg c2, if_pos (by rw [e5]; omega)]
    exact ⟨by first | rfl | trivial, rfz H _ (Or.inr (Or.inr (Or.inr (Or.inl ⟨rfl, rfl⟩))))⟩
  have c3 := Decidable.not_not.1 c3
  rw [if_pos (by rw [l5]; exact c3), q_in c3 (by decide)]
  refine e_164 _ (lm_Lay_si (lm_Lay_si (lm_Lay_si hl _ _ _) _ _ _) _ _ _) ?_
  simp only [pi_si, Nat.reduceEqDiff, if_true, if_false, n2, g2]
  rw [if_neg c1, if_neg c2, if_neg (by rw [e5]; omega), q_0a, q_71, q_in (by omega) (by decide), q_in (by omega) (by decide), q_nat (by omega), q_nat (by omega), if_neg (by omega), if_neg (by omega), q_a1]
  have wz : wf2 (up (up (up (lm_i h 94) n x) (71 + n) (-1)) 81 (Int32.ofNat (n + 1))) := wf_hosts (wf_told (wf_street hw c3 ⟨Int32.not_lt.1 c1, Int32.not_lt.1 c2⟩) c3 ⟨by decide, by rw [up_ne (by omega), g2, p_lt, p_onI (by omega)]; simp only [Int32.reduceToInt]; omega⟩) c3 (by rw [up_ne (by omega), up_ne (by omega)]; exact n2) up_eq
  refine ⟨by rw [q_s1 (by omega)]; rfl, INV_gr H hn (fr_s92 (fr_s92 (fr_si (fr_si (fr_si (fr_si (fr_si (fr_si (fr_refl _ _ _) (by decide) (by decide) _ _) (by decide) (by decide) _ _) (by decide) (by decide) _ _) (by decide) (by decide) _ _) (by decide) (by decide) _ _) (by decide) (by decide) _ _) (by decide) _) (by decide) _) (tw_hosts (tw_t0 (tw_street ht c3) c3 (by rw [up_ne (by omega)]; omega)) c3 (by rw [up_ne (by omega), up_ne (by omega)]; exact n2) up_eq) wz ⟨⟨rfl, m2, m3, m4⟩, m5, m6, m7, m8, m9⟩ tp ?_ (fun j hj => ?_) rfl⟩
  · show up (up (up (lm_i h 94) n x) (71 + n) (-1)) 81 (Int32.ofNat (n + 1)) 85 = _
    simp (disch := omega) only [up_ne]
  · show up (up (up (lm_i h 94) n x) (71 + n) (-1)) 81 (Int32.ofNat (n + 1)) j = _
    simp (disch := omega) only [up_ne]
theorem op_99 {D nc : Nat} {h : lm_H} (hD : 170 ≤ D) (hn : nc ≤ 10000) (H : INV xl nc h) (x : Int32) : lm_call D 99 [.ref 0, .int x] h (lm_kI fun r h1 => lm_call D 165 [.ref 92, .int x] h1 (lm_kI fun r2 h2 => r = r2 ∧ INV xl (nc + 1) h2)) := by
  obtain ⟨d, rfl⟩ := q_dp hD
  obtain ⟨⟨hl, ht, hw, ⟨m1, m2, m3, m4⟩, m5, m6, m7, m8, m9⟩, _, tp, _⟩ := INV_s H
  obtain ⟨n, _, n2, n3⟩ := p_ix hw.1.1.1
  obtain ⟨m, _, g2, g3⟩ := p_ix hw.1.2.1.1
  have n5 := hw.1.1.2
  have g6 := hw.1.2.1.2
  simp only [p_le, Int32.reduceToInt] at n5 g6
  have t0 := ht.1.1
  have t1 := ht.1.2.1
  refine e_99 x hl ?_
  have l5 : (Int32.ofNat m < 6) = (m < 6) := q_lt (b := 6) (by omega) (by omega)
  have e5 : (Int32.ofNat m = 6) = (m = 6) := q_eq (b := 6) (by omega) (by omega)
  rw [t1, g2, q_nat (by omega)]
  by_cases c1 : x < 0
  · rw [if_pos c1]
    refine e_165 _ (lm_Lay_si (lm_Lay_si hl _ _ _) _ _ _) ?_
    simp only [pi_si, Nat.reduceEqDiff, if_true, if_false, n2, g2]
    rw [if_pos c1]
    exact ⟨by first | rfl | trivial, rfz H _ (Or.inl ⟨rfl, rfl⟩)⟩
  rw [if_neg c1]
  by_cases c2 : 9 < x
  · rw [if_pos c2]
    refine e_165 _ (lm_Lay_si (lm_Lay_si hl _ _ _) _ _ _) ?_
    simp only [pi_si, Nat.reduceEqDiff, if_true, if_false, n2, g2]
    rw [if_neg c1, if_pos c2]
    exact ⟨by first | rfl | trivial, rfz H _ (Or.inl ⟨rfl, rfl⟩)⟩
  rw [if_neg c2]
  by_cases c3 : ¬ (m < 6)
  · rw [if_neg (by rw [l5]; exact c3)]
    refine e_165 _ (lm_Lay_si (lm_Lay_si hl _ _ _) _ _ _) ?_
    simp only [pi_si, Nat.reduceEqDiff, if_true, if_false, n2, g2]
    rw [if_neg c1, if_neg c2, if_pos (by rw [e5]; omega)]
    exact ⟨by first | rfl | trivial, rfz H _ (Or.inr (Or.inr (Or.inr (Or.inl ⟨rfl, rfl⟩))))⟩
  have c3 := Decidable.not_not.1 c3
  rw [if_pos (by rw [l5]; exact c3), q_in c3 (by decide)]
  refine e_165 _ (lm_Lay_si (lm_Lay_si (lm_Lay_si hl _ _ _) _ _ _) _ _ _) ?_
  simp only [pi_si, Nat.reduceEqDiff, if_true, if_false, n2, g2]
  rw [if_neg c1, if_neg c2, if_neg (by rw [e5]; omega), q_5a, q_in (by omega) (by decide), q_nat (by omega), if_neg (by omega), q_a1]
  have wz : wf2 (up (up (lm_i h 94) (5 + m) x) 82 (Int32.ofNat (m + 1))) := wf_guests (wf_wit hw c3 ⟨Int32.not_lt.1 c1, Int32.not_lt.1 c2⟩) c3 (by rw [up_ne (by omega)]; exact g2)
  refine ⟨by first | rfl | trivial, INV_gr H hn (fr_s92 (fr_s92 (fr_si (fr_si (fr_si (fr_si (fr_si (fr_refl _ _ _) (by decide) (by decide) _ _) (by decide) (by decide) _ _) (by decide) (by decide) _ _) (by decide) (by decide) _ _) (by decide) (by decide) _ _) (by decide) _) (by decide) _) (tw_guests (tw_wit ht c3)) wz ⟨⟨rfl, m2, m3, m4⟩, m5, m6, m7, m8, m9⟩ tp ?_ (fun j hj => ?_) rfl⟩
  · show up (up (lm_i h 94) (5 + m) x) 82 (Int32.ofNat (m + 1)) 85 = _
    simp (disch := omega) only [up_ne]
  · show up (up (lm_i h 94) (5 + m) x) 82 (Int32.ofNat (m + 1)) j = _
    simp (disch := omega) only [up_ne]
theorem op_100 {D nc : Nat} {h : lm_H} (hD : 170 ≤ D) (hn : nc ≤ 10000) (H : INV xl nc h) (x y z : Int32) : lm_call D 100 [.ref 0, .int x, .int y, .int z] h (lm_kI fun r h1 => lm_call D 166 [.ref 92, .int x, .int y, .int z] h1 (lm_kI fun r2 h2 => r = r2 ∧ INV xl (nc + 1) h2)) := by
  obtain ⟨d, rfl⟩ := q_dp hD
  obtain ⟨⟨hl, ht, hw, ⟨m1, m2, m3, m4⟩, m5, m6, m7, m8, m9⟩, _, tp, _⟩ := INV_s H
  obtain ⟨n, _, n2, n3⟩ := p_ix hw.1.1.1
  obtain ⟨m, _, g2, g3⟩ := p_ix hw.1.2.1.1
  have n5 := hw.1.1.2
  have g6 := hw.1.2.1.2
  simp only [p_le, Int32.reduceToInt] at n5 g6
  have t0 := ht.1.1
  have t1 := ht.1.2.1
  refine e_100 x y z hl ?_
  rw [t0, n2, t1, g2]
  by_cases c1 : z < -99
  · rw [if_pos c1]
    refine e_166 _ _ _ (lm_Lay_si (lm_Lay_si hl _ _ _) _ _ _) ?_
    simp only [pi_si, Nat.reduceEqDiff, if_true, if_false, n2, g2]
    rw [if_pos c1]
    exact ⟨by first | rfl | trivial, rfz H _ (Or.inl ⟨rfl, rfl⟩)⟩
  rw [if_neg c1]
  by_cases c2 : 99 < z
  · rw [if_pos c2]
    refine e_166 _ _ _ (lm_Lay_si (lm_Lay_si hl _ _ _) _ _ _) ?_
    simp only [pi_si, Nat.reduceEqDiff, if_true, if_false, n2, g2]
    rw [if_neg c1, if_pos c2]
    exact ⟨by first | rfl | trivial, rfz H _ (Or.inl ⟨rfl, rfl⟩)⟩
  rw [if_neg c2]
  by_cases c3 : x < 0
  · rw [if_pos c3]
    refine e_166 _ _ _ (lm_Lay_si (lm_Lay_si hl _ _ _) _ _ _) ?_
    simp only [pi_si, Nat.reduceEqDiff, if_true, if_false, n2, g2]
    rw [if_neg c1, if_neg c2, if_pos c3]
    exact ⟨by first | rfl | trivial, rfz H _ (Or.inr (Or.inl ⟨rfl, rfl⟩))⟩
  rw [if_neg c3]
  obtain ⟨k, k1, rfl⟩ := q_ex c3
  by_cases c4 : ¬ (k < n)
  · rw [if_neg (by rw [q_lt (by omega) (by omega)]; exact c4)]
    refine e_166 _ _ _ (lm_Lay_si (lm_Lay_si hl _ _ _) _ _ _) ?_
    simp only [pi_si, Nat.reduceEqDiff, if_true, if_false, n2, g2]
    rw [if_neg c1, if_neg c2, if_neg c3, if_pos (by rw [q_m1 (by omega) (by omega)]; exact c4)]
    exact ⟨by first | rfl | trivial, rfz H _ (Or.inr (Or.inl ⟨rfl, rfl⟩))⟩
  have c4 := Decidable.not_not.1 c4
  rw [if_pos (by rw [q_lt (by omega) (by omega)]; exact c4)]
  by_cases c5 : y < 0
  · rw [if_pos c5]
    refine e_166 _ _ _ (lm_Lay_si (lm_Lay_si hl _ _ _) _ _ _) ?_
    simp only [pi_si, Nat.reduceEqDiff, if_true, if_false, n2, g2]
    rw [if_neg c1, if_neg c2, if_neg c3, if_neg (by rw [q_m1 (by omega) (by omega)]; exact fun z => z c4), if_pos c5]
    exact ⟨by first | rfl | trivial, rfz H _ (Or.inr (Or.inl ⟨rfl, rfl⟩))⟩
  rw [if_neg c5]
  obtain ⟨g, g1, rfl⟩ := q_ex c5
  by_cases c6 : ¬ (g < m)
  · rw [if_neg (by rw [q_lt (by omega) (by omega)]; exact c6)]
    refine e_166 _ _ _ (lm_Lay_si (lm_Lay_si hl _ _ _) _ _ _) ?_
    simp only [pi_si, Nat.reduceEqDiff, if_true, if_false, n2, g2]
    rw [if_neg c1, if_neg c2, if_neg c3, if_neg (by rw [q_m1 (by omega) (by omega)]; exact fun z => z c4), if_neg c5, if_pos (by rw [q_m1 (by omega) (by omega)]; exact c6)]
    exact ⟨by first | rfl | trivial, rfz H _ (Or.inr (Or.inl ⟨rfl, rfl⟩))⟩
  have c6 := Decidable.not_not.1 c6
  rw [if_pos (by rw [q_lt (by omega) (by omega)]; exact c6)]
  rw [q_m6, q_add, q_in (by omega) (by decide), q_in (by omega) (by decide), q_nat (by omega)]
  refine e_166 _ _ _ (lm_Lay_si (lm_Lay_si hl _ _ _) _ _ _) ?_
  simp only [pi_si, Nat.reduceEqDiff, if_true, if_false, n2, g2]
  rw [if_neg c1, if_neg c2, if_neg c3, if_neg (by rw [q_m1 (by omega) (by omega)]; exact fun z => z c4), if_neg c5, if_neg (by rw [q_m1 (by omega) (by omega)]; exact fun z => z c6), q_6m, q_11, q_add, q_in (by omega) (by decide), q_in (by omega) (by decide), q_nat (by omega), show 11 + 6 * k + g = 11 + (k * 6 + g) from by omega]
  have wz : wf2 (up (lm_i h 94) (11 + (k * 6 + g)) z) := wf_base hw (by omega) ⟨Int32.not_lt.1 c1, Int32.not_lt.1 c2⟩
  refine ⟨ht.2.2.2.1 (k * 6 + g) (by omega), INV_gr H hn (fr_s92 (fr_s92 (fr_si (fr_si (fr_si (fr_refl _ _ _) (by decide) (by decide) _ _) (by decide) (by decide) _ _) (by decide) (by decide) _ _) (by decide) _) (by decide) _) (tw_base ht (by omega)) wz ⟨⟨rfl, m2, m3, m4⟩, m5, m6, m7, m8, m9⟩ tp ?_ (fun j hj => ?_) rfl⟩
  · show up (lm_i h 94) (11 + (k * 6 + g)) z 85 = _
    simp (disch := omega) only [up_ne]
  · show up (lm_i h 94) (11 + (k * 6 + g)) z j = _
    simp (disch := omega) only [up_ne]
theorem op_130 {D nc : Nat} {h : lm_H} (hD : 170 ≤ D) (hn : nc ≤ 10000) (H : INV xl nc h) (x y : Int32) : lm_call D 130 [.ref 0, .int x, .int y] h (lm_kI fun r h1 => lm_call D 169 [.ref 92, .int x, .int y] h1 (lm_kI fun r2 h2 => r = r2 ∧ INV xl (nc + 1) h2)) := by
  obtain ⟨d, rfl⟩ := q_dp hD
  obtain ⟨⟨hl, ht, hw, ⟨m1, m2, m3, m4⟩, m5, m6, m7, m8, m9⟩, _, tp, _⟩ := INV_s H
  obtain ⟨n, _, n2, n3⟩ := p_ix hw.1.1.1
  obtain ⟨m, _, g2, g3⟩ := p_ix hw.1.2.1.1
  have n5 := hw.1.1.2
  have g6 := hw.1.2.1.2
  simp only [p_le, Int32.reduceToInt] at n5 g6
  have t0 := ht.1.1
  have l6 : 5 < y ↔ ¬ y < 6 := by simp only [p_lt, Int32.reduceToInt]; omega
  have t1 := ht.1.2.1
  refine e_130 x y hl ?_
  rw [t0, n2]
  by_cases c1 : y < 0
  · rw [if_pos c1]
    refine e_169 _ _ (lm_Lay_si (lm_Lay_si hl _ _ _) _ _ _) ?_
    simp only [pi_si, Nat.reduceEqDiff, if_true, if_false, n2, g2]
    rw [if_pos c1]
    exact ⟨by first | rfl | trivial, rfz H _ (Or.inl ⟨rfl, rfl⟩)⟩
  rw [if_neg c1]
  by_cases c2 : ¬ (y < 6)
  · rw [if_neg c2]
    refine e_169 _ _ (lm_Lay_si (lm_Lay_si hl _ _ _) _ _ _) ?_
    simp only [pi_si, Nat.reduceEqDiff, if_true, if_false, n2, g2]
    rw [if_neg c1, if_pos (l6.2 c2)]
    exact ⟨by first | rfl | trivial, rfz H _ (Or.inl ⟨rfl, rfl⟩)⟩
  have c2 := Decidable.not_not.1 c2
  rw [if_pos c2]
  by_cases c3 : x < 0
  · rw [if_pos c3]
    refine e_169 _ _ (lm_Lay_si (lm_Lay_si hl _ _ _) _ _ _) ?_
    simp only [pi_si, Nat.reduceEqDiff, if_true, if_false, n2, g2]
    rw [if_neg c1, if_neg (fun z => l6.1 z c2), if_pos c3]
    exact ⟨by first | rfl | trivial, rfz H _ (Or.inr (Or.inl ⟨rfl, rfl⟩))⟩
  rw [if_neg c3]
  obtain ⟨k, k1, rfl⟩ := q_ex c3
  by_cases c4 : ¬ (k < n)
  · rw [if_neg (by rw [q_lt (by omega) (by omega)]; exact c4)]
    refine e_169 _ _ (lm_Lay_si (lm_Lay_si hl _ _ _) _ _ _) ?_
    simp only [pi_si, Nat.reduceEqDiff, if_true, if_false, n2, g2]
    rw [if_neg c1, if_neg (fun z => l6.1 z c2), if_neg c3, if_pos (by rw [q_m1 (by omega) (by omega)]; exact c4)]
    exact ⟨by first | rfl | trivial, rfz H _ (Or.inr (Or.inl ⟨rfl, rfl⟩))⟩
  have c4 := Decidable.not_not.1 c4
  rw [if_pos (by rw [q_lt (by omega) (by omega)]; exact c4)]
  rw [q_in (by omega) (by decide), q_in (by omega) (by decide), q_nat (by omega)]
  refine e_169 _ _ (lm_Lay_si (lm_Lay_si hl _ _ _) _ _ _) ?_
  simp only [pi_si, Nat.reduceEqDiff, if_true, if_false, n2, g2]
  rw [if_neg c1, if_neg (fun z => l6.1 z c2), if_neg c3, if_neg (by rw [q_m1 (by omega) (by omega)]; exact fun z => z c4), q_76, q_in (by omega) (by decide), q_in (by omega) (by decide), q_nat (by omega)]
  have wz : wf2 (up (lm_i h 94) (76 + k) y) := wf_manner hw (by omega) ⟨Int32.not_lt.1 c1, Int32.not_lt.1 (fun z => l6.1 z c2)⟩
  refine ⟨ht.2.2.2.2.2.2 k (by omega), INV_gr H hn (fr_s92 (fr_s92 (fr_si (fr_si (fr_si (fr_refl _ _ _) (by decide) (by decide) _ _) (by decide) (by decide) _ _) (by decide) (by decide) _ _) (by decide) _) (by decide) _) (tw_manner ht (by omega)) wz ⟨⟨rfl, m2, m3, m4⟩, m5, m6, m7, m8, m9⟩ tp ?_ (fun j hj => ?_) rfl⟩
  · show up (lm_i h 94) (76 + k) y 85 = _
    simp (disch := omega) only [up_ne]
  · show up (lm_i h 94) (76 + k) y j = _
    simp (disch := omega) only [up_ne]
end Xl98bops
