/-! What ties the class's cells to the reference's. -/
/-- the class's street at c, c + 1 .. and a row of the reference -/
def iv_tw (h : lm_H) (c : Nat) (r : Nat → Int32) : Prop :=
  (lm_i h c 0 = r 81 ∧ lm_i h c 1 = r 82 ∧ lm_i h c 2 = r 83 ∧ lm_i h c 3 = r 84 ∧ lm_i h c 4 = r 85 ∧ lm_i h c 5 = r 86) ∧
  (∀ k, k < 5 → lm_i h (c + 1) k = r k) ∧ (∀ k, k < 6 → lm_i h (c + 2) k = r (5 + k)) ∧ (∀ k, k < 30 → lm_i h (c + 3) k = r (11 + k)) ∧
  (∀ k, k < 5 → lm_i h (c + 4) k = if (k : Int) < (r 81).toInt ∧ ¬ r (71 + k) = -1 then r (71 + k) else 6) ∧
  (∀ k, k < 30 → lm_i h (c + 5) k = r (41 + k)) ∧ (∀ k, k < 5 → lm_i h (c + 6) k = r (76 + k))
/-- a row of the reference is a street -/
def iv_wf (r : Nat → Int32) : Prop :=
  (0 ≤ r 81 ∧ r 81 ≤ 5) ∧ (0 ≤ r 82 ∧ r 82 ≤ 6) ∧ (0 ≤ r 83 ∧ r 83 ≤ 2) ∧ (-99 ≤ r 84 ∧ r 84 ≤ 99) ∧ (0 ≤ r 85 ∧ r 85 ≤ 6) ∧ (-1 ≤ r 86 ∧ r 86 < r 85) ∧
  (∀ k, k < 5 → 0 ≤ r k ∧ r k ≤ 9) ∧ (∀ k, k < 6 → 0 ≤ r (5 + k) ∧ r (5 + k) ≤ 9) ∧ (∀ k, k < 30 → -99 ≤ r (11 + k) ∧ r (11 + k) ≤ 99) ∧ (∀ k, k < 30 → 0 ≤ r (41 + k) ∧ r (41 + k) ≤ 10) ∧
  (∀ k, k < 5 → -1 ≤ r (71 + k) ∧ (r (71 + k) < r 82 ∨ r (71 + k) = 0)) ∧ (∀ k, k < 5 → 0 ≤ r (76 + k) ∧ r (76 + k) ≤ 5)
/-- what was refused, and the like -/
def iv_ms (h : lm_H) : Prop :=
  (lm_i h 0 15 = lm_i h 92 0 ∧ lm_i h 0 16 = lm_i h 92 11 ∧ lm_i h 0 17 = lm_i h 92 6 ∧ lm_i h 11 1 = lm_i h 92 10) ∧
  (lm_i h 75 0 = lm_i h 93 1 ∧ lm_i h 75 1 = lm_i h 93 2 ∧ lm_i h 75 2 = lm_i h 93 3 ∧ lm_i h 75 3 = lm_i h 93 5 ∧ lm_i h 75 4 = lm_i h 93 6)
theorem op_force {d : Nat} {h : lm_H} (x : Int32) (hl : lm_Lay h) (ht : iv_tw h 1 (lm_i h 94)) (hw : iv_wf (lm_i h 94)) (hm : iv_ms h) :
    lm_call (d + 3) 109 [.ref 0, .int x] h (lm_kI fun r h1 => lm_call (d + 3) 195 [.ref 92, .int x] h1 (lm_kI fun r2 h2 => r = r2 ∧ lm_Lay h2 ∧ iv_tw h2 1 (lm_i h2 94) ∧ iv_wf (lm_i h2 94) ∧ iv_ms h2)) := by
  refine e_109 x hl ?_
  split
  · refine e_195 (d := d + 1) x (lm_Lay_si (lm_Lay_si hl _ _ _) _ _ _) ?_
    rw [if_pos (by assumption)]
    refine ⟨rfl, lm_Lay_si (lm_Lay_si (lm_Lay_si (lm_Lay_si hl _ _ _) _ _ _) _ _ _) _ _ _, ht, hw, ?_⟩
    simp only [iv_ms, pi_si] at hm ⊢
    grind
  · split
    · refine e_195 (d := d + 1) x (lm_Lay_si (lm_Lay_si hl _ _ _) _ _ _) ?_
      rw [if_neg (by assumption), if_neg (by simp only [iv_tw, iv_wf, pi_si] at ht hw ⊢; grind)]
      refine ⟨ht.1.2.2.2.2.2, lm_Lay_si (lm_Lay_si (lm_Lay_si (lm_Lay_si (lm_Lay_si hl _ _ _) _ _ _) _ _ _) _ _ _) _ _ _, ?_, ?_, ?_⟩
      · simp only [iv_tw, pi_si] at ht ⊢
        grind
      · simp only [iv_wf, pi_si, Nat.reduceEqDiff, if_true, if_false] at hw ⊢
        obtain ⟨⟨_, _, _, _, t4, _⟩, _⟩ := ht
        and_intros <;> grind
      · simp only [iv_ms, pi_si] at hm ⊢
        grind
    · refine e_195 (d := d + 1) x (lm_Lay_si (lm_Lay_si hl _ _ _) _ _ _) ?_
      rw [if_neg (by assumption), if_pos (by simp only [iv_tw, iv_wf, pi_si] at ht hw ⊢; grind)]
      refine ⟨rfl, lm_Lay_si (lm_Lay_si (lm_Lay_si (lm_Lay_si hl _ _ _) _ _ _) _ _ _) _ _ _, ht, hw, ?_⟩
      simp only [iv_ms, pi_si] at hm ⊢
      grind
