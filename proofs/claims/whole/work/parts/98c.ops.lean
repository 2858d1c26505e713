/-! More calls that change the town: force, ask, terms, dice. -/
section Xl98cops
variable {xl : (Nat → Int32) × Nat}

theorem told_r {h : lm_H} {r : Nat → Int32} {k : Nat} (ht : iv_tw h 1 r) (hw : wf2 r) (hk : k < 5) (h81 : (k : Int) < (r 81).toInt) : (lm_i h 5 k = 6 → -1 = r (71 + k)) ∧ (¬ lm_i h 5 k = 6 → lm_i h 5 k = r (71 + k)) := by
  have q := ht.2.2.2.2.1 k hk
  by_cases c : r (71 + k) = -1
  · rw [if_neg (fun z => z.2 c)] at q
    exact ⟨fun _ => c.symm, fun z => absurd q z⟩
  · rw [if_pos ⟨h81, c⟩] at q
    refine ⟨fun z => ?_, fun _ => q⟩
    have h1 := hw.2.1 k hk h81
    have h2 := hw.1.2.1.2
    have q2 : lm_i h 5 k = r (71 + k) := q
    rw [← q2, z] at h1
    simp only [p_lt, p_le, Int32.reduceToInt] at h1 h2
    omega
/-- dice of a host, all, and all but one -/
def dS (r : Nat → Int32) (k : Nat) : Nat → Int32
  | 0 => 0
  | g + 1 => dS r k g + r (41 + (6 * k + g))
def dX (r : Nat → Int32) (k y : Nat) : Nat → Int32
  | 0 => 0
  | g + 1 => dX r k y g + if g = y then 0 else r (41 + (6 * k + g))
def dI (r : Nat → Int32) (k y : Nat) : Nat → Int
  | 0 => 0
  | g + 1 => dI r k y g + if g = y then 0 else (r (41 + (6 * k + g))).toInt
theorem dS_dX (r : Nat → Int32) (k y g : Nat) : dS r k g = dX r k y g + if y < g then r (41 + (6 * k + y)) else 0 := by
  induction g with
  | zero =>
    rw [if_neg (by omega)]
    rfl
  | succ g ih =>
    show dS r k g + _ = dX r k y g + _ + _
    rw [ih]
    by_cases c : g = y
    · subst c
      rw [if_neg (by omega), if_pos rfl, if_pos (by omega)]
    · rw [if_neg c]
      by_cases c2 : y < g
      · rw [if_pos c2, if_pos (by omega), Int32.add_assoc, Int32.add_comm (r (41 + (6 * k + y))), ← Int32.add_assoc]
      · rw [if_neg c2, if_neg (by omega), Int32.add_zero, Int32.add_zero]
theorem dX_I {r : Nat → Int32} {k y : Nat} (hw : ∀ g, g < 6 → 0 ≤ (r (41 + (6 * k + g))).toInt ∧ (r (41 + (6 * k + g))).toInt ≤ 10) : ∀ g, g ≤ 6 → (dX r k y g).toInt = dI r k y g ∧ 0 ≤ dI r k y g ∧ dI r k y g ≤ 10 * g := by
  intro g
  induction g with
  | zero => exact fun _ => ⟨rfl, Int.le_refl 0, by show (0 : Int) ≤ 10 * ((0 : Nat) : Int); omega⟩
  | succ g ih =>
    intro hg
    obtain ⟨a1, a2, a3⟩ := ih (by omega)
    have b := hw g (by omega)
    show (dX r k y g + _).toInt = dI r k y g + _ ∧ 0 ≤ dI r k y g + _ ∧ dI r k y g + _ ≤ _
    by_cases c : g = y
    · rw [if_pos c, if_pos c, Int32.add_zero, a1]
      omega
    · rw [if_neg c, if_neg c, p_tI_add (by omega) (by omega), a1]
      omega
theorem dI_up {r : Nat → Int32} {k y m : Nat} (hz : ∀ g, g < 6 → m ≤ g → r (41 + (6 * k + g)) = 0) : ∀ e, m + e ≤ 6 → dI r k y (m + e) = dI r k y m := by
  intro e
  induction e with
  | zero => exact fun _ => rfl
  | succ e ih =>
    intro he
    show dI r k y (m + e) + (if m + e = y then 0 else (r (41 + (6 * k + (m + e)))).toInt) = _
    rw [ih (by omega), hz (m + e) (by omega) (by omega)]
    have : (0 : Int32).toInt = 0 := rfl
    split <;> omega
theorem dice_sum {r : Nat → Int32} {k y m : Nat} {x : Int32} (hw : wf2 r) (hk : k < 5) (hy : y < m) (hm : m ≤ 6) (h82 : (r 82).toInt = m) (hx : 0 ≤ x ∧ x ≤ 10) (h : ¬ 10 < x + dX r k y m) : ∀ j : Nat, j < 5 → (up r (41 + (k * 6 + y)) x (41 + (6 * j + 0))).toInt + (up r (41 + (k * 6 + y)) x (41 + (6 * j + 1))).toInt + (up r (41 + (k * 6 + y)) x (41 + (6 * j + 2))).toInt + (up r (41 + (k * 6 + y)) x (41 + (6 * j + 3))).toInt + (up r (41 + (k * 6 + y)) x (41 + (6 * j + 4))).toInt + (up r (41 + (k * 6 + y)) x (41 + (6 * j + 5))).toInt ≤ 10 := by
  intro j hj
  by_cases c : j = k
  · subst c
    have b : ∀ g, g < 6 → 0 ≤ (r (41 + (6 * j + g))).toInt ∧ (r (41 + (6 * j + g))).toInt ≤ 10 := by
      intro g hg
      have := hw.1.2.2.2.2.2.2.2.2.2.1 (6 * j + g) (by omega)
      simp only [p_le, Int32.reduceToInt] at this
      exact this
    have d6 := dI_up (r := r) (k := j) (y := y) (m := m) (fun g hg h1 => hw.2.2.1 j g hj hg (by omega)) (6 - m) (by omega)
    rw [show m + (6 - m) = 6 from by omega] at d6
    obtain ⟨s1, s2, s3⟩ := dX_I (y := y) b m hm
    simp only [p_le, Int32.reduceToInt] at hx
    rw [p_lt, p_tI_add (by omega) (by omega), s1, ← d6] at h
    simp only [Int32.reduceToInt] at h
    have y6 : y = 0 ∨ y = 1 ∨ y = 2 ∨ y = 3 ∨ y = 4 ∨ y = 5 := by omega
    have u0 : up r (41 + (j * 6 + y)) x (41 + (6 * j + y)) = x := by
      rw [show 41 + (6 * j + y) = 41 + (j * 6 + y) from by omega]
      exact up_eq
    rcases y6 with rfl | rfl | rfl | rfl | rfl | rfl <;> rw [u0] <;> simp (disch := omega) only [up_ne] <;> simp only [dI, Nat.reduceEqDiff, if_true, if_false] at h <;> omega
  · have := hw.2.2.2 j hj
    simp (disch := omega) only [up_ne]
    exact this
theorem cl_52 {D k m : Nat} {h : lm_H} {K : Int32 → lm_H → Prop} {r : Nat → Int32} (hD : 2 ≤ D) (hl : lm_Lay h) (ht : iv_tw h 1 r) (hk : k < 5) (hm : m ≤ 6) (h82 : r 82 = Int32.ofNat m) (hK : K (dS r k m) h) : lm_call D 52 [.ref 1, .int (Int32.ofNat k)] h (lm_kI K) := by
  obtain ⟨d, rfl⟩ := q_dp hD
  refine e_52 _ hl ?_
  have t1 := ht.1.2.1
  have lp : ∀ e g : Nat, e + g = m → (lm_W (d + 1) 52 4 [some (.ref 1), some (.int (Int32.ofNat k)), some (.int (dS r k g)), some (.int (Int32.ofNat g))] [] h (lm_kI K)) := by
    intro e
    induction e with
    | zero =>
      intro g hg
      have : g = m := by omega
      subst this
      refine b_52_4 _ _ _ hl ?_
      rw [t1, h82, if_neg (by rw [q_lt (by omega) (by omega)]; omega)]
      exact hK
    | succ e ih =>
      intro g hg
      refine b_52_4 _ _ _ hl ?_
      rw [t1, h82, if_pos (by rw [q_lt (by omega) (by omega)]; omega), q_m6, q_add, q_in (by omega) (by decide), q_nat (by omega), q_a1]
      have e6 : lm_i h 6 (k * 6 + g) = r (41 + (6 * k + g)) := by
        rw [show 6 * k + g = k * 6 + g from by omega]
        exact ht.2.2.2.2.2.1 (k * 6 + g) (by omega)
      rw [e6]
      exact ih (g + 1) (by omega)
  exact lp m 0 (by omega)
theorem lp_170 {d k y m : Nat} {x : Int32} {h : lm_H} {K : Int32 → lm_H → Prop} (hl : lm_Lay h) (hk : k < 5) (hm : m ≤ 6) (hy : y < m) (h82 : lm_i h 94 82 = Int32.ofNat m)
    (hK : if 10 < x + dX (lm_i h 94) k y m then (K (-3) (lm_si (lm_si h 92 0 (-3)) 93 3 ((lm_i h 93 3) + 1))) else (K (lm_i h 94 (41 + (k * 6 + y))) (lm_si (lm_si (lm_si h 94 (41 + (k * 6 + y)) x) 92 0 0) 92 1 ((lm_i h 92 1) + 1)))) : (lm_W (d + 2) 170 45 [some (.ref 92), some (.int (Int32.ofNat k)), some (.int (Int32.ofNat y)), some (.int x), some (.int x), some (.int 0)] [] h (lm_kI K)) := by
  have lp : ∀ e g : Nat, e + g = m → (lm_W (d + 2) 170 45 [some (.ref 92), some (.int (Int32.ofNat k)), some (.int (Int32.ofNat y)), some (.int x), some (.int (x + dX (lm_i h 94) k y g)), some (.int (Int32.ofNat g))] [] h (lm_kI K)) := by
    intro e
    induction e with
    | zero =>
      intro g hg
      have : g = m := by omega
      subst this
      refine b_170_45 _ _ _ _ _ hl ?_
      rw [h82, if_neg (by rw [q_lt (by omega) (by omega)]; omega), q_6m, q_41, q_add, q_in (by omega) (by decide), q_in (by omega) (by decide), q_nat (by omega), show 41 + 6 * k + y = 41 + (k * 6 + y) from by omega]
      exact hK
    | succ e ih =>
      intro g hg
      refine b_170_45 _ _ _ _ _ hl ?_
      have i2 := ih (g + 1) (by omega)
      rw [h82, if_pos (by rw [q_lt (by omega) (by omega)]; omega), q_6m, q_41, q_add, q_in (by omega) (by decide), q_nat (by omega), q_a1]
      by_cases c : g = y
      · rw [if_pos (by rw [c]), Int32.add_zero]
        have e2 : dX (lm_i h 94) k y (g + 1) = dX (lm_i h 94) k y g := by
          show dX (lm_i h 94) k y g + _ = _
          rw [if_pos c, Int32.add_zero]
        rw [e2] at i2
        exact i2
      · rw [if_neg (by rw [q_eq (by omega) (by omega)]; exact c)]
        have e2 : x + dX (lm_i h 94) k y (g + 1) = x + dX (lm_i h 94) k y g + lm_i h 94 (41 + 6 * k + g) := by
          show x + (dX (lm_i h 94) k y g + _) = _
          rw [if_neg c, ← Int32.add_assoc, Nat.add_assoc]
        rw [e2] at i2
        exact i2
  have := lp m 0 (by omega)
  rw [show x + dX (lm_i h 94) k y 0 = x from Int32.add_zero x] at this
  exact this
theorem op_109 {D nc : Nat} {h : lm_H} (hD : 170 ≤ D) (hn : nc ≤ 10000) (H : INV xl nc h) (x : Int32) : lm_call D 109 [.ref 0, .int x] h (lm_kI fun r h1 => lm_call D 195 [.ref 92, .int x] h1 (lm_kI fun r2 h2 => r = r2 ∧ INV xl (nc + 1) h2)) := by
  obtain ⟨d, rfl⟩ := q_dp hD
  obtain ⟨⟨hl, ht, hw, ⟨m1, m2, m3, m4⟩, m5, m6, m7, m8, m9⟩, _, tp, _⟩ := INV_s H
  obtain ⟨n, _, n2, n3⟩ := p_ix hw.1.1.1
  obtain ⟨m, _, g2, g3⟩ := p_ix hw.1.2.1.1
  have n5 := hw.1.1.2
  have g6 := hw.1.2.1.2
  simp only [p_le, Int32.reduceToInt] at n5 g6
  have t0 := ht.1.1
  have t4 := ht.1.2.2.2.2.1
  have b0 := hw.1.2.2.2.2.1.1
  have b6 : lm_i h 94 85 ≤ 400 := Int32.le_trans hw.1.2.2.2.2.1.2 (by decide)
  have t1 := ht.1.2.1
  refine e_109 x hl ?_
  rw [t4]
  by_cases c1 : x < -1
  · rw [if_pos c1]
    refine e_195 _ (lm_Lay_si (lm_Lay_si hl _ _ _) _ _ _) ?_
    simp only [pi_si, Nat.reduceEqDiff, if_true, if_false, n2, g2]
    rw [if_pos c1]
    exact ⟨by first | rfl | trivial, rfz H _ (Or.inr (Or.inl ⟨rfl, rfl⟩))⟩
  rw [if_neg c1]
  by_cases c2 : ¬ (x < lm_i h 94 85)
  · rw [if_neg c2]
    refine e_195 _ (lm_Lay_si (lm_Lay_si hl _ _ _) _ _ _) ?_
    simp only [pi_si, Nat.reduceEqDiff, if_true, if_false, n2, g2]
    rw [if_neg c1, if_pos (by rw [lt_m1 b0 b6]; exact c2)]
    exact ⟨by first | rfl | trivial, rfz H _ (Or.inr (Or.inl ⟨rfl, rfl⟩))⟩
  have c2 := Decidable.not_not.1 c2
  rw [if_pos c2]
  refine e_195 _ (lm_Lay_si (lm_Lay_si hl _ _ _) _ _ _) ?_
  simp only [pi_si, Nat.reduceEqDiff, if_true, if_false, n2, g2]
  rw [if_neg c1, if_neg (by rw [lt_m1 b0 b6]; exact fun z => z c2)]
  have wz : wf2 (up (lm_i h 94) 86 x) := wf_force hw ⟨Int32.not_lt.1 c1, c2⟩
  refine ⟨ht.1.2.2.2.2.2, INV_gr H hn (fr_s92 (fr_s92 (fr_si (fr_si (fr_si (fr_refl _ _ _) (by decide) (by decide) _ _) (by decide) (by decide) _ _) (by decide) (by decide) _ _) (by decide) _) (by decide) _) (tw_force ht) wz ⟨⟨rfl, m2, m3, m4⟩, m5, m6, m7, m8, m9⟩ tp ?_ (fun j hj => ?_) rfl⟩
  · show up (lm_i h 94) 86 x 85 = _
    simp (disch := omega) only [up_ne]
  · show up (lm_i h 94) 86 x j = _
    simp (disch := omega) only [up_ne]
theorem op_110 {D nc : Nat} {h : lm_H} (hD : 170 ≤ D) (hn : nc ≤ 10000) (H : INV xl nc h) (x y : Int32) : lm_call D 110 [.ref 0, .int x, .int y] h (lm_kI fun r h1 => lm_call D 168 [.ref 92, .int x, .int y] h1 (lm_kI fun r2 h2 => r = r2 ∧ INV xl (nc + 1) h2)) := by
  obtain ⟨d, rfl⟩ := q_dp hD
  obtain ⟨⟨hl, ht, hw, ⟨m1, m2, m3, m4⟩, m5, m6, m7, m8, m9⟩, _, tp, _⟩ := INV_s H
  obtain ⟨n, _, n2, n3⟩ := p_ix hw.1.1.1
  obtain ⟨m, _, g2, g3⟩ := p_ix hw.1.2.1.1
  have n5 := hw.1.1.2
  have g6 := hw.1.2.1.2
  simp only [p_le, Int32.reduceToInt] at n5 g6
  have t0 := ht.1.1
  have t1 := ht.1.2.1
  refine e_110 x y hl ?_
  rw [t0, n2, t1, g2]
  by_cases c1 : x < 0
  · rw [if_pos c1]
    refine e_168 _ _ (lm_Lay_si (lm_Lay_si hl _ _ _) _ _ _) ?_
    simp only [pi_si, Nat.reduceEqDiff, if_true, if_false, n2, g2]
    rw [if_pos c1]
    exact ⟨by first | rfl | trivial, rfz H _ (Or.inr (Or.inl ⟨rfl, rfl⟩))⟩
  rw [if_neg c1]
  obtain ⟨k, k1, rfl⟩ := q_ex c1
  by_cases c2 : ¬ (k < n)
  · rw [if_neg (by rw [q_lt (by omega) (by omega)]; exact c2)]
    refine e_168 _ _ (lm_Lay_si (lm_Lay_si hl _ _ _) _ _ _) ?_
    simp only [pi_si, Nat.reduceEqDiff, if_true, if_false, n2, g2]
    rw [if_neg c1, if_pos (by rw [q_m1 (by omega) (by omega)]; exact c2)]
    exact ⟨by first | rfl | trivial, rfz H _ (Or.inr (Or.inl ⟨rfl, rfl⟩))⟩
  have c2 := Decidable.not_not.1 c2
  rw [if_pos (by rw [q_lt (by omega) (by omega)]; exact c2)]
  have tr := told_r ht hw (k := k) (by omega) (by omega)
  by_cases cy : y = -1
  · skip
    rw [if_pos cy, q_in (by omega) (by decide), if_pos cy, q_in (by omega) (by decide), q_nat (by omega)]
    by_cases c6 : lm_i h 5 k = 6
    · rw [if_pos c6]
      refine e_168 _ _ (lm_Lay_si (lm_Lay_si hl _ _ _) _ _ _) ?_
      simp only [pi_si, Nat.reduceEqDiff, if_true, if_false, n2, g2]
      rw [if_neg c1, if_neg (by rw [q_m1 (by omega) (by omega)]; exact fun z => z c2), if_pos cy, q_71, q_in (by omega) (by decide), q_in (by omega) (by decide), q_nat (by omega)]
      have wz : wf2 (up (lm_i h 94) (71 + k) y) := wf_told hw (by omega) (⟨by rw [cy]; decide, by rw [cy, g2, p_lt, p_onI (by omega)]; simp only [Int32.reduceToInt]; omega⟩)
      refine ⟨(tr.1 c6), INV_gr H hn (fr_s92 (fr_s92 (fr_si (fr_si (fr_si (fr_refl _ _ _) (by decide) (by decide) _ _) (by decide) (by decide) _ _) (by decide) (by decide) _ _) (by decide) _) (by decide) _) (tw_told ht (by omega) (by omega) (by rw [if_pos cy])) wz ⟨⟨rfl, m2, m3, m4⟩, m5, m6, m7, m8, m9⟩ tp ?_ (fun j hj => ?_) rfl⟩
      · show up (lm_i h 94) (71 + k) y 85 = _
        simp (disch := omega) only [up_ne]
      · show up (lm_i h 94) (71 + k) y j = _
        simp (disch := omega) only [up_ne]
    · rw [if_neg c6]
      refine e_168 _ _ (lm_Lay_si (lm_Lay_si hl _ _ _) _ _ _) ?_
      simp only [pi_si, Nat.reduceEqDiff, if_true, if_false, n2, g2]
      rw [if_neg c1, if_neg (by rw [q_m1 (by omega) (by omega)]; exact fun z => z c2), if_pos cy, q_71, q_in (by omega) (by decide), q_in (by omega) (by decide), q_nat (by omega)]
      have wz : wf2 (up (lm_i h 94) (71 + k) y) := wf_told hw (by omega) (⟨by rw [cy]; decide, by rw [cy, g2, p_lt, p_onI (by omega)]; simp only [Int32.reduceToInt]; omega⟩)
      refine ⟨(tr.2 c6), INV_gr H hn (fr_s92 (fr_s92 (fr_si (fr_si (fr_si (fr_refl _ _ _) (by decide) (by decide) _ _) (by decide) (by decide) _ _) (by decide) (by decide) _ _) (by decide) _) (by decide) _) (tw_told ht (by omega) (by omega) (by rw [if_pos cy])) wz ⟨⟨rfl, m2, m3, m4⟩, m5, m6, m7, m8, m9⟩ tp ?_ (fun j hj => ?_) rfl⟩
      · show up (lm_i h 94) (71 + k) y 85 = _
        simp (disch := omega) only [up_ne]
      · show up (lm_i h 94) (71 + k) y j = _
        simp (disch := omega) only [up_ne]
  rw [if_neg cy]
  by_cases c3 : y < 0
  · rw [if_pos c3]
    refine e_168 _ _ (lm_Lay_si (lm_Lay_si hl _ _ _) _ _ _) ?_
    simp only [pi_si, Nat.reduceEqDiff, if_true, if_false, n2, g2]
    rw [if_neg c1, if_neg (by rw [q_m1 (by omega) (by omega)]; exact fun z => z c2), if_neg cy, if_pos c3]
    exact ⟨by first | rfl | trivial, rfz H _ (Or.inr (Or.inl ⟨rfl, rfl⟩))⟩
  rw [if_neg c3]
  obtain ⟨g, g1, rfl⟩ := q_ex c3
  by_cases c4 : ¬ (g < m)
  · rw [if_neg (by rw [q_lt (by omega) (by omega)]; exact c4)]
    refine e_168 _ _ (lm_Lay_si (lm_Lay_si hl _ _ _) _ _ _) ?_
    simp only [pi_si, Nat.reduceEqDiff, if_true, if_false, n2, g2]
    rw [if_neg c1, if_neg (by rw [q_m1 (by omega) (by omega)]; exact fun z => z c2), if_neg cy, if_neg c3, if_pos (by rw [q_m1 (by omega) (by omega)]; exact c4)]
    exact ⟨by first | rfl | trivial, rfz H _ (Or.inr (Or.inl ⟨rfl, rfl⟩))⟩
  have c4 := Decidable.not_not.1 c4
  rw [if_pos (by rw [q_lt (by omega) (by omega)]; exact c4)]
  rw [q_in (by omega) (by decide), if_neg cy, q_in (by omega) (by decide), q_nat (by omega)]
  by_cases c6 : lm_i h 5 k = 6
  · rw [if_pos c6]
    refine e_168 _ _ (lm_Lay_si (lm_Lay_si hl _ _ _) _ _ _) ?_
    simp only [pi_si, Nat.reduceEqDiff, if_true, if_false, n2, g2]
    rw [if_neg c1, if_neg (by rw [q_m1 (by omega) (by omega)]; exact fun z => z c2), if_neg cy, if_neg c3, if_neg (by rw [q_m1 (by omega) (by omega)]; exact fun z => z c4), q_71, q_in (by omega) (by decide), q_in (by omega) (by decide), q_nat (by omega)]
    have wz : wf2 (up (lm_i h 94) (71 + k) (Int32.ofNat g)) := wf_told hw (by omega) (⟨by rw [p_le, p_onI (by omega)]; simp only [Int32.reduceToInt]; omega, by rw [g2, q_lt (by omega) (by omega)]; omega⟩)
    refine ⟨(tr.1 c6), INV_gr H hn (fr_s92 (fr_s92 (fr_si (fr_si (fr_si (fr_refl _ _ _) (by decide) (by decide) _ _) (by decide) (by decide) _ _) (by decide) (by decide) _ _) (by decide) _) (by decide) _) (tw_told ht (by omega) (by omega) (by rw [if_neg cy])) wz ⟨⟨rfl, m2, m3, m4⟩, m5, m6, m7, m8, m9⟩ tp ?_ (fun j hj => ?_) rfl⟩
    · show up (lm_i h 94) (71 + k) (Int32.ofNat g) 85 = _
      simp (disch := omega) only [up_ne]
    · show up (lm_i h 94) (71 + k) (Int32.ofNat g) j = _
      simp (disch := omega) only [up_ne]
  · rw [if_neg c6]
    refine e_168 _ _ (lm_Lay_si (lm_Lay_si hl _ _ _) _ _ _) ?_
    simp only [pi_si, Nat.reduceEqDiff, if_true, if_false, n2, g2]
    rw [if_neg c1, if_neg (by rw [q_m1 (by omega) (by omega)]; exact fun z => z c2), if_neg cy, if_neg c3, if_neg (by rw [q_m1 (by omega) (by omega)]; exact fun z => z c4), q_71, q_in (by omega) (by decide), q_in (by omega) (by decide), q_nat (by omega)]
    have wz : wf2 (up (lm_i h 94) (71 + k) (Int32.ofNat g)) := wf_told hw (by omega) (⟨by rw [p_le, p_onI (by omega)]; simp only [Int32.reduceToInt]; omega, by rw [g2, q_lt (by omega) (by omega)]; omega⟩)
    refine ⟨(tr.2 c6), INV_gr H hn (fr_s92 (fr_s92 (fr_si (fr_si (fr_si (fr_refl _ _ _) (by decide) (by decide) _ _) (by decide) (by decide) _ _) (by decide) (by decide) _ _) (by decide) _) (by decide) _) (tw_told ht (by omega) (by omega) (by rw [if_neg cy])) wz ⟨⟨rfl, m2, m3, m4⟩, m5, m6, m7, m8, m9⟩ tp ?_ (fun j hj => ?_) rfl⟩
    · show up (lm_i h 94) (71 + k) (Int32.ofNat g) 85 = _
      simp (disch := omega) only [up_ne]
    · show up (lm_i h 94) (71 + k) (Int32.ofNat g) j = _
      simp (disch := omega) only [up_ne]
theorem op_125 {D nc : Nat} {h : lm_H} (hD : 170 ≤ D) (hn : nc ≤ 10000) (H : INV xl nc h) (x y z : Int32) : lm_call D 125 [.ref 0, .int x, .int y, .int z] h (lm_kI fun r h1 => lm_call D 170 [.ref 92, .int x, .int y, .int z] h1 (lm_kI fun r2 h2 => r = r2 ∧ INV xl (nc + 1) h2)) := by
  obtain ⟨d, rfl⟩ := q_dp hD
  obtain ⟨⟨hl, ht, hw, ⟨m1, m2, m3, m4⟩, m5, m6, m7, m8, m9⟩, _, tp, _⟩ := INV_s H
  obtain ⟨n, _, n2, n3⟩ := p_ix hw.1.1.1
  obtain ⟨m, _, g2, g3⟩ := p_ix hw.1.2.1.1
  have n5 := hw.1.1.2
  have g6 := hw.1.2.1.2
  simp only [p_le, Int32.reduceToInt] at n5 g6
  have t0 := ht.1.1
  have t1 := ht.1.2.1
  refine e_125 x y z hl ?_
  rw [t0, n2, t1, g2]
  by_cases c1 : z < 0
  · rw [if_pos c1]
    refine e_170 _ _ _ (lm_Lay_si (lm_Lay_si hl _ _ _) _ _ _) ?_
    simp only [pi_si, Nat.reduceEqDiff, if_true, if_false, n2, g2]
    rw [if_pos c1]
    exact ⟨by first | rfl | trivial, rfz H _ (Or.inl ⟨rfl, rfl⟩)⟩
  rw [if_neg c1]
  by_cases c2 : 10 < z
  · rw [if_pos c2]
    refine e_170 _ _ _ (lm_Lay_si (lm_Lay_si hl _ _ _) _ _ _) ?_
    simp only [pi_si, Nat.reduceEqDiff, if_true, if_false, n2, g2]
    rw [if_neg c1, if_pos c2]
    exact ⟨by first | rfl | trivial, rfz H _ (Or.inl ⟨rfl, rfl⟩)⟩
  rw [if_neg c2]
  by_cases c3 : x < 0
  · rw [if_pos c3]
    refine e_170 _ _ _ (lm_Lay_si (lm_Lay_si hl _ _ _) _ _ _) ?_
    simp only [pi_si, Nat.reduceEqDiff, if_true, if_false, n2, g2]
    rw [if_neg c1, if_neg c2, if_pos c3]
    exact ⟨by first | rfl | trivial, rfz H _ (Or.inr (Or.inl ⟨rfl, rfl⟩))⟩
  rw [if_neg c3]
  obtain ⟨k, k1, rfl⟩ := q_ex c3
  by_cases c4 : ¬ (k < n)
  · rw [if_neg (by rw [q_lt (by omega) (by omega)]; exact c4)]
    refine e_170 _ _ _ (lm_Lay_si (lm_Lay_si hl _ _ _) _ _ _) ?_
    simp only [pi_si, Nat.reduceEqDiff, if_true, if_false, n2, g2]
    rw [if_neg c1, if_neg c2, if_neg c3, if_pos (by rw [q_m1 (by omega) (by omega)]; exact c4)]
    exact ⟨by first | rfl | trivial, rfz H _ (Or.inr (Or.inl ⟨rfl, rfl⟩))⟩
  have c4 := Decidable.not_not.1 c4
  rw [if_pos (by rw [q_lt (by omega) (by omega)]; exact c4)]
  by_cases c5 : y < 0
  · rw [if_pos c5]
    refine e_170 _ _ _ (lm_Lay_si (lm_Lay_si hl _ _ _) _ _ _) ?_
    simp only [pi_si, Nat.reduceEqDiff, if_true, if_false, n2, g2]
    rw [if_neg c1, if_neg c2, if_neg c3, if_neg (by rw [q_m1 (by omega) (by omega)]; exact fun z => z c4), if_pos c5]
    exact ⟨by first | rfl | trivial, rfz H _ (Or.inr (Or.inl ⟨rfl, rfl⟩))⟩
  rw [if_neg c5]
  obtain ⟨g, g1, rfl⟩ := q_ex c5
  by_cases c6 : ¬ (g < m)
  · rw [if_neg (by rw [q_lt (by omega) (by omega)]; exact c6)]
    refine e_170 _ _ _ (lm_Lay_si (lm_Lay_si hl _ _ _) _ _ _) ?_
    simp only [pi_si, Nat.reduceEqDiff, if_true, if_false, n2, g2]
    rw [if_neg c1, if_neg c2, if_neg c3, if_neg (by rw [q_m1 (by omega) (by omega)]; exact fun z => z c4), if_neg c5, if_pos (by rw [q_m1 (by omega) (by omega)]; exact c6)]
    exact ⟨by first | rfl | trivial, rfz H _ (Or.inr (Or.inl ⟨rfl, rfl⟩))⟩
  have c6 := Decidable.not_not.1 c6
  rw [if_pos (by rw [q_lt (by omega) (by omega)]; exact c6)]
  rw [q_m6, q_add, q_in (by omega) (by decide), q_nat (by omega)]
  refine cl_52 (by omega) hl ht (by omega) (by omega) g2 ?_
  have e6 : lm_i h 6 (k * 6 + g) = lm_i h 94 (41 + (6 * k + g)) := by
    rw [show 6 * k + g = k * 6 + g from by omega]
    exact ht.2.2.2.2.2.1 (k * 6 + g) (by omega)
  have es : dS (lm_i h 94) k m - lm_i h 6 (k * 6 + g) + z = z + dX (lm_i h 94) k g m := by
    rw [dS_dX _ k g m, if_pos (by omega), e6, Int32.add_sub_cancel, Int32.add_comm]
  rw [es]
  by_cases cs : 10 < z + dX (lm_i h 94) k g m
  · rw [if_pos cs]
    refine e_170 _ _ _ (lm_Lay_si (lm_Lay_si hl _ _ _) _ _ _) ?_
    simp only [pi_si, Nat.reduceEqDiff, if_true, if_false, n2, g2]
    rw [if_neg c1, if_neg c2, if_neg c3, if_neg (by rw [q_m1 (by omega) (by omega)]; exact fun z => z c4), if_neg c5, if_neg (by rw [q_m1 (by omega) (by omega)]; exact fun z => z c6)]
    refine lp_170 (lm_Lay_si (lm_Lay_si hl _ _ _) _ _ _) (by omega) (by omega) (by omega) g2 ?_
    rw [if_pos (by exact cs)]
    exact ⟨rfl, rfz H _ (Or.inr (Or.inr (Or.inl ⟨rfl, rfl⟩)))⟩
  rw [if_neg cs, q_in (by omega) (by decide)]
  refine e_170 _ _ _ (lm_Lay_si (lm_Lay_si hl _ _ _) _ _ _) ?_
  simp only [pi_si, Nat.reduceEqDiff, if_true, if_false, n2, g2]
  rw [if_neg c1, if_neg c2, if_neg c3, if_neg (by rw [q_m1 (by omega) (by omega)]; exact fun z => z c4), if_neg c5, if_neg (by rw [q_m1 (by omega) (by omega)]; exact fun z => z c6)]
  refine lp_170 (lm_Lay_si (lm_Lay_si hl _ _ _) _ _ _) (by omega) (by omega) (by omega) g2 ?_
  rw [if_neg (by exact cs)]
  have wz : wf2 (up (lm_i h 94) (41 + (k * 6 + g)) z) := wf_dice hw (by omega) ⟨Int32.not_lt.1 c1, Int32.not_lt.1 c2⟩ (fun j g hj hg c => by omega) (dice_sum hw (by omega) (by omega) (by omega) g3 ⟨Int32.not_lt.1 c1, Int32.not_lt.1 c2⟩ cs)
  refine ⟨ht.2.2.2.2.2.1 (k * 6 + g) (by omega), INV_gr H hn (fr_s92 (fr_s92 (fr_si (fr_si (fr_si (fr_refl _ _ _) (by decide) (by decide) _ _) (by decide) (by decide) _ _) (by decide) (by decide) _ _) (by decide) _) (by decide) _) (tw_dice ht (by omega)) wz ⟨⟨rfl, m2, m3, m4⟩, m5, m6, m7, m8, m9⟩ tp ?_ (fun j hj => ?_) rfl⟩
  · show up (lm_i h 94) (41 + (k * 6 + g)) z 85 = _
    simp (disch := omega) only [up_ne]
  · show up (lm_i h 94) (41 + (k * 6 + g)) z j = _
    simp (disch := omega) only [up_ne]
theorem op_102 {D nc : Nat} {h : lm_H} (hD : 170 ≤ D) (hn : nc ≤ 10000) (H : INV xl nc h) (x y : Int32) : lm_call D 102 [.ref 0, .int x, .int y] h (lm_kI fun r h1 => lm_call D 167 [.ref 92, .int x, .int y] h1 (lm_kI fun r2 h2 => r = r2 ∧ INV xl (nc + 1) h2)) := by
  obtain ⟨d, rfl⟩ := q_dp hD
  obtain ⟨⟨hl, ht, hw, ⟨m1, m2, m3, m4⟩, m5, m6, m7, m8, m9⟩, _, tp, _⟩ := INV_s H
  obtain ⟨n, _, n2, n3⟩ := p_ix hw.1.1.1
  obtain ⟨m, _, g2, g3⟩ := p_ix hw.1.2.1.1
  have n5 := hw.1.1.2
  have g6 := hw.1.2.1.2
  simp only [p_le, Int32.reduceToInt] at n5 g6
  have t0 := ht.1.1
  have n01 : ¬ (0 : Int32) = 1 := by decide
  have n10 : ¬ (1 : Int32) = 0 := by decide
  have z0 : ¬ (0 : Int32) < 0 := by decide
  have z1 : ¬ (1 : Int32) < 0 := by decide
  have z2 : ¬ (1 : Int32) < 1 := by decide
  have z3 : ¬ (1 : Int32) < 0 := by decide
  have t1 := ht.1.2.1
  refine e_102 x y hl ?_
  by_cases c0 : x = 0
  · subst c0
    rw [if_pos rfl]
    by_cases cl : y < 0
    · rw [if_pos cl, if_neg n01]
      refine e_167 _ _ (lm_Lay_si (lm_Lay_si hl _ _ _) _ _ _) ?_
      simp only [pi_si, Nat.reduceEqDiff, if_true, if_false, n2, g2]
      rw [if_neg z0, if_neg z1, if_pos cl]
      exact ⟨by first | rfl | trivial, rfz H _ (Or.inl ⟨rfl, rfl⟩)⟩
    rw [if_neg cl]
    by_cases cg : 2 < y
    · rw [if_pos cg, if_neg n01]
      refine e_167 _ _ (lm_Lay_si (lm_Lay_si hl _ _ _) _ _ _) ?_
      simp only [pi_si, Nat.reduceEqDiff, if_true, if_false, n2, g2]
      rw [if_neg z0, if_neg z1, if_neg cl, if_pos cg]
      exact ⟨by first | rfl | trivial, rfz H _ (Or.inl ⟨rfl, rfl⟩)⟩
    rw [if_neg cg]
    refine e_167 _ _ (lm_Lay_si (lm_Lay_si hl _ _ _) _ _ _) ?_
    simp only [pi_si, Nat.reduceEqDiff, if_true, if_false, n2, g2]
    rw [if_neg z0, if_neg z1, if_neg cl, if_neg cg, show (83 : Int32) + 0 = Int32.ofNat 83 from rfl, q_in (by decide) (by decide), q_in (by decide) (by decide), q_nat (by decide)]
    have wz : wf2 (up (lm_i h 94) 83 y) := wf_custom hw ⟨Int32.not_lt.1 cl, Int32.not_lt.1 cg⟩
    refine ⟨ht.1.2.2.1, INV_gr H hn (fr_s92 (fr_s92 (fr_si (fr_si (fr_si (fr_refl _ _ _) (by decide) (by decide) _ _) (by decide) (by decide) _ _) (by decide) (by decide) _ _) (by decide) _) (by decide) _) (tw_custom ht) wz ⟨⟨rfl, m2, m3, m4⟩, m5, m6, m7, m8, m9⟩ tp ?_ (fun j hj => ?_) rfl⟩
    · show up (lm_i h 94) 83 y 85 = _
      simp (disch := omega) only [up_ne]
    · show up (lm_i h 94) 83 y j = _
      simp (disch := omega) only [up_ne]
  rw [if_neg c0]
  by_cases c1 : x = 1
  · subst c1
    rw [if_pos rfl]
    by_cases cl : y < -99
    · rw [if_pos cl]
      refine e_167 _ _ (lm_Lay_si (lm_Lay_si hl _ _ _) _ _ _) ?_
      simp only [pi_si, Nat.reduceEqDiff, if_true, if_false, n2, g2]
      rw [if_neg z1, if_neg z2, if_neg n10, if_pos cl]
      exact ⟨by first | rfl | trivial, rfz H _ (Or.inl ⟨rfl, rfl⟩)⟩
    rw [if_neg cl]
    by_cases cg : 99 < y
    · rw [if_pos cg]
      refine e_167 _ _ (lm_Lay_si (lm_Lay_si hl _ _ _) _ _ _) ?_
      simp only [pi_si, Nat.reduceEqDiff, if_true, if_false, n2, g2]
      rw [if_neg z1, if_neg z2, if_neg n10, if_neg cl, if_pos cg]
      exact ⟨by first | rfl | trivial, rfz H _ (Or.inl ⟨rfl, rfl⟩)⟩
    rw [if_neg cg]
    refine e_167 _ _ (lm_Lay_si (lm_Lay_si hl _ _ _) _ _ _) ?_
    simp only [pi_si, Nat.reduceEqDiff, if_true, if_false, n2, g2]
    rw [if_neg z1, if_neg z2, if_neg n10, if_neg cl, if_neg cg, show (83 : Int32) + 1 = Int32.ofNat 84 from rfl, q_in (by decide) (by decide), q_in (by decide) (by decide), q_nat (by decide)]
    have wz : wf2 (up (lm_i h 94) 84 y) := wf_lone hw ⟨Int32.not_lt.1 cl, Int32.not_lt.1 cg⟩
    refine ⟨ht.1.2.2.2.1, INV_gr H hn (fr_s92 (fr_s92 (fr_si (fr_si (fr_si (fr_refl _ _ _) (by decide) (by decide) _ _) (by decide) (by decide) _ _) (by decide) (by decide) _ _) (by decide) _) (by decide) _) (tw_lone ht) wz ⟨⟨rfl, m2, m3, m4⟩, m5, m6, m7, m8, m9⟩ tp ?_ (fun j hj => ?_) rfl⟩
    · show up (lm_i h 94) 84 y 85 = _
      simp (disch := omega) only [up_ne]
    · show up (lm_i h 94) 84 y j = _
      simp (disch := omega) only [up_ne]
  rw [if_neg c1]
  by_cases cn : x < 0
  · skip
    refine e_167 _ _ (lm_Lay_si (lm_Lay_si hl _ _ _) _ _ _) ?_
    simp only [pi_si, Nat.reduceEqDiff, if_true, if_false, n2, g2]
    rw [if_pos cn]
    exact ⟨by first | rfl | trivial, rfz H _ (Or.inl ⟨rfl, rfl⟩)⟩
  have cb : 1 < x := by
    simp only [p_lt, p_eq, Int32.reduceToInt] at *
    omega
  refine e_167 _ _ (lm_Lay_si (lm_Lay_si hl _ _ _) _ _ _) ?_
  simp only [pi_si, Nat.reduceEqDiff, if_true, if_false, n2, g2]
  rw [if_neg cn, if_pos cb]
  exact ⟨by first | rfl | trivial, rfz H _ (Or.inl ⟨rfl, rfl⟩)⟩
end Xl98cops
