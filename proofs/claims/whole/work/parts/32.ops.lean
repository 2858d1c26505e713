theorem op_ask {d : Nat} {h : lm_H} (x y : Int32) (hl : lm_Lay h) (ht : iv_tw h 1 (lm_i h 94)) (hw : iv_wf (lm_i h 94)) (hm : iv_ms h) :
    lm_call (d + 3) 110 [.ref 0, .int x, .int y] h (lm_kI fun r h1 => lm_call (d + 3) 168 [.ref 92, .int x, .int y] h1 (lm_kI fun r2 h2 => r = r2 ∧ lm_Lay h2 ∧ iv_tw h2 1 (lm_i h2 94) ∧ iv_wf (lm_i h2 94) ∧ iv_ms h2)) := by
  have hH := hw.1
  have hG := hw.2.1
  have t0 := ht.1.1
  have t1 := ht.1.2.1
  have hR : ∀ r, (x < 0 ∨ ¬ x < lm_i h 94 81 ∨ ¬ y = -1 ∧ (y < 0 ∨ ¬ y < lm_i h 94 82)) → r = -2 → lm_call (d + 3) 168 [.ref 92, .int x, .int y] (lm_si (lm_si h 0 15 (-2)) 75 1 ((lm_i h 75 1) + 1)) (lm_kI fun r2 h2 => r = r2 ∧ lm_Lay h2 ∧ iv_tw h2 1 (lm_i h2 94) ∧ iv_wf (lm_i h2 94) ∧ iv_ms h2) := by
    intro r hc hr
    refine e_168 x y (lm_Lay_si (lm_Lay_si hl _ _ _) _ _ _) ?_
    have hK : r = -2 ∧ lm_Lay (lm_si (lm_si (lm_si (lm_si h 0 15 (-2)) 75 1 ((lm_i h 75 1) + 1)) 92 0 (-2)) 93 2 ((lm_i h 93 2) + 1)) ∧ iv_tw h 1 (lm_i h 94) ∧ iv_wf (lm_i h 94) ∧ iv_ms (lm_si (lm_si (lm_si (lm_si h 0 15 (-2)) 75 1 ((lm_i h 75 1) + 1)) 92 0 (-2)) 93 2 ((lm_i h 93 2) + 1)) := by
      refine ⟨hr, lm_Lay_si (lm_Lay_si (lm_Lay_si (lm_Lay_si hl _ _ _) _ _ _) _ _ _) _ _ _, ht, hw, ?_⟩
      simp only [iv_ms, pi_si] at hm ⊢
      grind
    simp only [pi_si, Nat.reduceEqDiff, if_false]
    by_cases c1 : x < 0
    · rw [if_pos c1]; exact hK
    · rw [if_neg c1]
      by_cases c2 : lm_i h 94 81 - 1 < x
      · rw [if_pos c2]; exact hK
      · rw [if_neg c2]
        rw [if_neg (by grind)]
        by_cases c3 : y < 0
        · rw [if_pos c3]; exact hK
        · rw [if_neg c3, if_pos (by grind)]; exact hK
  have hG2 : ∀ r v, 0 ≤ x → x < lm_i h 94 81 → (y = -1 ∧ v = 6 ∨ ¬ y = -1 ∧ 0 ≤ y ∧ y < lm_i h 94 82 ∧ v = y) → r = (if lm_i h 5 x.toNatClampNeg = 6 then -1 else lm_i h 5 x.toNatClampNeg) → lm_call (d + 3) 168 [.ref 92, .int x, .int y] (lm_si (lm_si h 5 x.toNatClampNeg v) 0 15 0) (lm_kI fun r2 h2 => r = r2 ∧ lm_Lay h2 ∧ iv_tw h2 1 (lm_i h2 94) ∧ iv_wf (lm_i h2 94) ∧ iv_ms h2) := by
    intro r v hx0 hx1 hv hr
    have hi : (71 + x).toNatClampNeg = 71 + x.toNatClampNeg := p_nadd (by grind)
    obtain ⟨k, hk, hk2, hk3⟩ := p_ix hx0
    have hk5 : k < 5 := by
      have := (p_lt).1 hx1
      have := (p_le).1 hH.2
      simp only [Int32.reduceToInt] at this
      omega
    refine e_168 x y (lm_Lay_si (lm_Lay_si hl _ _ _) _ _ _) ?_
    have hK : r = lm_i h 94 (71 + k) ∧ lm_Lay (lm_si (lm_si (lm_si (lm_si (lm_si h 5 k v) 0 15 0) 94 (71 + k) y) 92 0 0) 92 1 ((lm_i h 92 1) + 1)) ∧ iv_tw (lm_si (lm_si (lm_si (lm_si (lm_si h 5 k v) 0 15 0) 94 (71 + k) y) 92 0 0) 92 1 ((lm_i h 92 1) + 1)) 1 (lm_i (lm_si (lm_si (lm_si (lm_si (lm_si h 5 k v) 0 15 0) 94 (71 + k) y) 92 0 0) 92 1 ((lm_i h 92 1) + 1)) 94) ∧ iv_wf (lm_i (lm_si (lm_si (lm_si (lm_si (lm_si h 5 k v) 0 15 0) 94 (71 + k) y) 92 0 0) 92 1 ((lm_i h 92 1) + 1)) 94) ∧ iv_ms (lm_si (lm_si (lm_si (lm_si (lm_si h 5 k v) 0 15 0) 94 (71 + k) y) 92 0 0) 92 1 ((lm_i h 92 1) + 1)) := by
      refine ⟨?_, lm_Lay_si (lm_Lay_si (lm_Lay_si (lm_Lay_si (lm_Lay_si hl _ _ _) _ _ _) _ _ _) _ _ _) _ _ _, ?_, ?_, ?_⟩
      · have h1 := ht.2.2.2.2.1 k hk5
        have h2 := hw.2.2.2.2.2.2.2.2.2.2.1 k hk5
        have h3 := (p_lt).1 hx1
        rw [hr, hk]
        grind
      · have h3 := (p_lt).1 hx1
        clear hR
        simp only [iv_tw, pi_si, Nat.reduceEqDiff, Nat.reduceAdd, if_true, if_false] at ht ⊢
        obtain ⟨⟨_, _, _, _, _, _⟩, q1, q2, q3, q4, q5, q6⟩ := ht
        and_intros <;> grind
      · clear hR ht
        simp only [iv_wf, pi_si, Nat.reduceEqDiff, Nat.reduceAdd, if_true, if_false] at hw ⊢
        and_intros <;> grind
      · simp only [iv_ms, pi_si] at hm ⊢
        grind
    simp only [pi_si, Nat.reduceEqDiff, if_false, hk, hi]
    rw [if_neg (by grind), if_neg (by grind)]
    by_cases c : y = -1
    · rw [if_pos c]
      exact p_inI 4893 rfl (by grind) (p_inI 4893 rfl (by grind) hK)
    · rw [if_neg c, if_neg (by grind), if_neg (by grind)]
      exact p_inI 4893 rfl (by grind) (p_inI 4893 rfl (by grind) hK)
  refine e_110 x y hl ?_
  rw [t0, t1]
  by_cases c1 : x < 0
  · rw [if_pos c1]
    exact hR _ (Or.inl c1) rfl
  · rw [if_neg c1]
    by_cases c2 : x < lm_i h 94 81
    · rw [if_pos c2]
      by_cases c3 : y = -1
      · rw [if_pos c3, if_pos c3]
        refine p_inI 5 rfl (by grind) (p_inI 5 rfl (by grind) ?_)
        by_cases c4 : lm_i h 5 x.toNatClampNeg = 6
        · rw [if_pos c4]
          exact hG2 _ _ (by grind) c2 (Or.inl ⟨c3, rfl⟩) (by rw [if_pos c4])
        · rw [if_neg c4]
          exact hG2 _ _ (by grind) c2 (Or.inl ⟨c3, rfl⟩) (by rw [if_neg c4])
      · rw [if_neg c3, if_neg c3]
        by_cases c5 : y < 0
        · rw [if_pos c5]
          exact hR _ (Or.inr (Or.inr ⟨c3, Or.inl c5⟩)) rfl
        · rw [if_neg c5]
          by_cases c6 : y < lm_i h 94 82
          · rw [if_pos c6]
            refine p_inI 5 rfl (by grind) (p_inI 5 rfl (by grind) ?_)
            by_cases c4 : lm_i h 5 x.toNatClampNeg = 6
            · rw [if_pos c4]
              exact hG2 _ _ (by grind) c2 (Or.inr ⟨c3, by grind, c6, rfl⟩) (by rw [if_pos c4])
            · rw [if_neg c4]
              exact hG2 _ _ (by grind) c2 (Or.inr ⟨c3, by grind, c6, rfl⟩) (by rw [if_neg c4])
          · rw [if_neg c6]
            exact hR _ (Or.inr (Or.inr ⟨c3, Or.inr c6⟩)) rfl
    · rw [if_neg c2]
      exact hR _ (Or.inr (Or.inl c2)) rfl
