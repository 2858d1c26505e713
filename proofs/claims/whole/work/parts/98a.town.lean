/-! One change of a town at a time. -/
def up (r : Nat → Int32) (s : Nat) (v : Int32) (j : Nat) : Int32 := if j = s then v else r j
theorem up_ne {r : Nat → Int32} {s j : Nat} {v : Int32} (h : ¬ j = s) : up r s v j = r j := if_neg h
theorem up_eq {r : Nat → Int32} {s : Nat} {v : Int32} : up r s v s = v := if_pos rfl
theorem tw_street {h : lm_H} {r : Nat → Int32} {k : Nat} {x : Int32} (H : iv_tw h 1 r) (hk : k < 5) : iv_tw (lm_si h 2 k x) 1 (up r k x) := by
  obtain ⟨⟨a0, a1, a2, a3, a4, a5⟩, q1, q2, q3, q4, q5, q6⟩ := H
  refine ⟨⟨?_, ?_, ?_, ?_, ?_, ?_⟩, fun j hj => ?_, fun j hj => ?_, fun j hj => ?_, fun j hj => ?_, fun j hj => ?_, fun j hj => ?_⟩
  · simp (disch := omega) only [up_ne]
    exact a0
  · simp (disch := omega) only [up_ne]
    exact a1
  · simp (disch := omega) only [up_ne]
    exact a2
  · simp (disch := omega) only [up_ne]
    exact a3
  · simp (disch := omega) only [up_ne]
    exact a4
  · simp (disch := omega) only [up_ne]
    exact a5
  · show lm_i (lm_si h 2 k x) 2 j = _
    rw [pi_si, if_pos rfl]
    by_cases e : j = k
    · rw [if_pos e, e, up_eq]
    · rw [if_neg e, up_ne (by omega)]
      exact q1 j hj
  · simp (disch := omega) only [up_ne]
    exact q2 j hj
  · simp (disch := omega) only [up_ne]
    exact q3 j hj
  · simp (disch := omega) only [up_ne]
    exact q4 j hj
  · simp (disch := omega) only [up_ne]
    exact q5 j hj
  · simp (disch := omega) only [up_ne]
    exact q6 j hj
theorem tw_wit {h : lm_H} {r : Nat → Int32} {k : Nat} {x : Int32} (H : iv_tw h 1 r) (hk : k < 6) : iv_tw (lm_si h 3 k x) 1 (up r (5 + k) x) := by
  obtain ⟨⟨a0, a1, a2, a3, a4, a5⟩, q1, q2, q3, q4, q5, q6⟩ := H
  refine ⟨⟨?_, ?_, ?_, ?_, ?_, ?_⟩, fun j hj => ?_, fun j hj => ?_, fun j hj => ?_, fun j hj => ?_, fun j hj => ?_, fun j hj => ?_⟩
  · simp (disch := omega) only [up_ne]
    exact a0
  · simp (disch := omega) only [up_ne]
    exact a1
  · simp (disch := omega) only [up_ne]
    exact a2
  · simp (disch := omega) only [up_ne]
    exact a3
  · simp (disch := omega) only [up_ne]
    exact a4
  · simp (disch := omega) only [up_ne]
    exact a5
  · simp (disch := omega) only [up_ne]
    exact q1 j hj
  · show lm_i (lm_si h 3 k x) 3 j = _
    rw [pi_si, if_pos rfl]
    by_cases e : j = k
    · rw [if_pos e, e, up_eq]
    · rw [if_neg e, up_ne (by omega)]
      exact q2 j hj
  · simp (disch := omega) only [up_ne]
    exact q3 j hj
  · simp (disch := omega) only [up_ne]
    exact q4 j hj
  · simp (disch := omega) only [up_ne]
    exact q5 j hj
  · simp (disch := omega) only [up_ne]
    exact q6 j hj
theorem tw_base {h : lm_H} {r : Nat → Int32} {k : Nat} {x : Int32} (H : iv_tw h 1 r) (hk : k < 30) : iv_tw (lm_si h 4 k x) 1 (up r (11 + k) x) := by
  obtain ⟨⟨a0, a1, a2, a3, a4, a5⟩, q1, q2, q3, q4, q5, q6⟩ := H
  refine ⟨⟨?_, ?_, ?_, ?_, ?_, ?_⟩, fun j hj => ?_, fun j hj => ?_, fun j hj => ?_, fun j hj => ?_, fun j hj => ?_, fun j hj => ?_⟩
  · simp (disch := omega) only [up_ne]
    exact a0
  · simp (disch := omega) only [up_ne]
    exact a1
  · simp (disch := omega) only [up_ne]
    exact a2
  · simp (disch := omega) only [up_ne]
    exact a3
  · simp (disch := omega) only [up_ne]
    exact a4
  · simp (disch := omega) only [up_ne]
    exact a5
  · simp (disch := omega) only [up_ne]
    exact q1 j hj
  · simp (disch := omega) only [up_ne]
    exact q2 j hj
  · show lm_i (lm_si h 4 k x) 4 j = _
    rw [pi_si, if_pos rfl]
    by_cases e : j = k
    · rw [if_pos e, e, up_eq]
    · rw [if_neg e, up_ne (by omega)]
      exact q3 j hj
  · simp (disch := omega) only [up_ne]
    exact q4 j hj
  · simp (disch := omega) only [up_ne]
    exact q5 j hj
  · simp (disch := omega) only [up_ne]
    exact q6 j hj
theorem tw_dice {h : lm_H} {r : Nat → Int32} {k : Nat} {x : Int32} (H : iv_tw h 1 r) (hk : k < 30) : iv_tw (lm_si h 6 k x) 1 (up r (41 + k) x) := by
  obtain ⟨⟨a0, a1, a2, a3, a4, a5⟩, q1, q2, q3, q4, q5, q6⟩ := H
  refine ⟨⟨?_, ?_, ?_, ?_, ?_, ?_⟩, fun j hj => ?_, fun j hj => ?_, fun j hj => ?_, fun j hj => ?_, fun j hj => ?_, fun j hj => ?_⟩
  · simp (disch := omega) only [up_ne]
    exact a0
  · simp (disch := omega) only [up_ne]
    exact a1
  · simp (disch := omega) only [up_ne]
    exact a2
  · simp (disch := omega) only [up_ne]
    exact a3
  · simp (disch := omega) only [up_ne]
    exact a4
  · simp (disch := omega) only [up_ne]
    exact a5
  · simp (disch := omega) only [up_ne]
    exact q1 j hj
  · simp (disch := omega) only [up_ne]
    exact q2 j hj
  · simp (disch := omega) only [up_ne]
    exact q3 j hj
  · simp (disch := omega) only [up_ne]
    exact q4 j hj
  · show lm_i (lm_si h 6 k x) 6 j = _
    rw [pi_si, if_pos rfl]
    by_cases e : j = k
    · rw [if_pos e, e, up_eq]
    · rw [if_neg e, up_ne (by omega)]
      exact q5 j hj
  · simp (disch := omega) only [up_ne]
    exact q6 j hj
theorem tw_manner {h : lm_H} {r : Nat → Int32} {k : Nat} {x : Int32} (H : iv_tw h 1 r) (hk : k < 5) : iv_tw (lm_si h 7 k x) 1 (up r (76 + k) x) := by
  obtain ⟨⟨a0, a1, a2, a3, a4, a5⟩, q1, q2, q3, q4, q5, q6⟩ := H
  refine ⟨⟨?_, ?_, ?_, ?_, ?_, ?_⟩, fun j hj => ?_, fun j hj => ?_, fun j hj => ?_, fun j hj => ?_, fun j hj => ?_, fun j hj => ?_⟩
  · simp (disch := omega) only [up_ne]
    exact a0
  · simp (disch := omega) only [up_ne]
    exact a1
  · simp (disch := omega) only [up_ne]
    exact a2
  · simp (disch := omega) only [up_ne]
    exact a3
  · simp (disch := omega) only [up_ne]
    exact a4
  · simp (disch := omega) only [up_ne]
    exact a5
  · simp (disch := omega) only [up_ne]
    exact q1 j hj
  · simp (disch := omega) only [up_ne]
    exact q2 j hj
  · simp (disch := omega) only [up_ne]
    exact q3 j hj
  · simp (disch := omega) only [up_ne]
    exact q4 j hj
  · simp (disch := omega) only [up_ne]
    exact q5 j hj
  · show lm_i (lm_si h 7 k x) 7 j = _
    rw [pi_si, if_pos rfl]
    by_cases e : j = k
    · rw [if_pos e, e, up_eq]
    · rw [if_neg e, up_ne (by omega)]
      exact q6 j hj
theorem tw_guests {h : lm_H} {r : Nat → Int32} {x : Int32} (H : iv_tw h 1 r) : iv_tw (lm_si h 1 1 x) 1 (up r 82 x) := by
  obtain ⟨⟨a0, a1, a2, a3, a4, a5⟩, q1, q2, q3, q4, q5, q6⟩ := H
  refine ⟨⟨?_, ?_, ?_, ?_, ?_, ?_⟩, fun j hj => ?_, fun j hj => ?_, fun j hj => ?_, fun j hj => ?_, fun j hj => ?_, fun j hj => ?_⟩
  · simp (disch := omega) only [up_ne]
    exact a0
  · rw [up_eq]
    rfl
  · simp (disch := omega) only [up_ne]
    exact a2
  · simp (disch := omega) only [up_ne]
    exact a3
  · simp (disch := omega) only [up_ne]
    exact a4
  · simp (disch := omega) only [up_ne]
    exact a5
  · simp (disch := omega) only [up_ne]
    exact q1 j hj
  · simp (disch := omega) only [up_ne]
    exact q2 j hj
  · simp (disch := omega) only [up_ne]
    exact q3 j hj
  · simp (disch := omega) only [up_ne]
    exact q4 j hj
  · simp (disch := omega) only [up_ne]
    exact q5 j hj
  · simp (disch := omega) only [up_ne]
    exact q6 j hj
theorem tw_custom {h : lm_H} {r : Nat → Int32} {x : Int32} (H : iv_tw h 1 r) : iv_tw (lm_si h 1 2 x) 1 (up r 83 x) := by
  obtain ⟨⟨a0, a1, a2, a3, a4, a5⟩, q1, q2, q3, q4, q5, q6⟩ := H
  refine ⟨⟨?_, ?_, ?_, ?_, ?_, ?_⟩, fun j hj => ?_, fun j hj => ?_, fun j hj => ?_, fun j hj => ?_, fun j hj => ?_, fun j hj => ?_⟩
  · simp (disch := omega) only [up_ne]
    exact a0
  · simp (disch := omega) only [up_ne]
    exact a1
  · rw [up_eq]
    rfl
  · simp (disch := omega) only [up_ne]
    exact a3
  · simp (disch := omega) only [up_ne]
    exact a4
  · simp (disch := omega) only [up_ne]
    exact a5
  · simp (disch := omega) only [up_ne]
    exact q1 j hj
  · simp (disch := omega) only [up_ne]
    exact q2 j hj
  · simp (disch := omega) only [up_ne]
    exact q3 j hj
  · simp (disch := omega) only [up_ne]
    exact q4 j hj
  · simp (disch := omega) only [up_ne]
    exact q5 j hj
  · simp (disch := omega) only [up_ne]
    exact q6 j hj
theorem tw_lone {h : lm_H} {r : Nat → Int32} {x : Int32} (H : iv_tw h 1 r) : iv_tw (lm_si h 1 3 x) 1 (up r 84 x) := by
  obtain ⟨⟨a0, a1, a2, a3, a4, a5⟩, q1, q2, q3, q4, q5, q6⟩ := H
  refine ⟨⟨?_, ?_, ?_, ?_, ?_, ?_⟩, fun j hj => ?_, fun j hj => ?_, fun j hj => ?_, fun j hj => ?_, fun j hj => ?_, fun j hj => ?_⟩
  · simp (disch := omega) only [up_ne]
    exact a0
  · simp (disch := omega) only [up_ne]
    exact a1
  · simp (disch := omega) only [up_ne]
    exact a2
  · rw [up_eq]
    rfl
  · simp (disch := omega) only [up_ne]
    exact a4
  · simp (disch := omega) only [up_ne]
    exact a5
  · simp (disch := omega) only [up_ne]
    exact q1 j hj
  · simp (disch := omega) only [up_ne]
    exact q2 j hj
  · simp (disch := omega) only [up_ne]
    exact q3 j hj
  · simp (disch := omega) only [up_ne]
    exact q4 j hj
  · simp (disch := omega) only [up_ne]
    exact q5 j hj
  · simp (disch := omega) only [up_ne]
    exact q6 j hj
theorem tw_count {h : lm_H} {r : Nat → Int32} {x : Int32} (H : iv_tw h 1 r) : iv_tw (lm_si h 1 4 x) 1 (up r 85 x) := by
  obtain ⟨⟨a0, a1, a2, a3, a4, a5⟩, q1, q2, q3, q4, q5, q6⟩ := H
  refine ⟨⟨?_, ?_, ?_, ?_, ?_, ?_⟩, fun j hj => ?_, fun j hj => ?_, fun j hj => ?_, fun j hj => ?_, fun j hj => ?_, fun j hj => ?_⟩
  · simp (disch := omega) only [up_ne]
    exact a0
  · simp (disch := omega) only [up_ne]
    exact a1
  · simp (disch := omega) only [up_ne]
    exact a2
  · simp (disch := omega) only [up_ne]
    exact a3
  · rw [up_eq]
    rfl
  · simp (disch := omega) only [up_ne]
    exact a5
  · simp (disch := omega) only [up_ne]
    exact q1 j hj
  · simp (disch := omega) only [up_ne]
    exact q2 j hj
  · simp (disch := omega) only [up_ne]
    exact q3 j hj
  · simp (disch := omega) only [up_ne]
    exact q4 j hj
  · simp (disch := omega) only [up_ne]
    exact q5 j hj
  · simp (disch := omega) only [up_ne]
    exact q6 j hj
theorem tw_force {h : lm_H} {r : Nat → Int32} {x : Int32} (H : iv_tw h 1 r) : iv_tw (lm_si h 1 5 x) 1 (up r 86 x) := by
  obtain ⟨⟨a0, a1, a2, a3, a4, a5⟩, q1, q2, q3, q4, q5, q6⟩ := H
  refine ⟨⟨?_, ?_, ?_, ?_, ?_, ?_⟩, fun j hj => ?_, fun j hj => ?_, fun j hj => ?_, fun j hj => ?_, fun j hj => ?_, fun j hj => ?_⟩
  · simp (disch := omega) only [up_ne]
    exact a0
  · simp (disch := omega) only [up_ne]
    exact a1
  · simp (disch := omega) only [up_ne]
    exact a2
  · simp (disch := omega) only [up_ne]
    exact a3
  · simp (disch := omega) only [up_ne]
    exact a4
  · rw [up_eq]
    rfl
  · simp (disch := omega) only [up_ne]
    exact q1 j hj
  · simp (disch := omega) only [up_ne]
    exact q2 j hj
  · simp (disch := omega) only [up_ne]
    exact q3 j hj
  · simp (disch := omega) only [up_ne]
    exact q4 j hj
  · simp (disch := omega) only [up_ne]
    exact q5 j hj
  · simp (disch := omega) only [up_ne]
    exact q6 j hj
theorem tw_t0 {h : lm_H} {r : Nat → Int32} {k : Nat} (H : iv_tw h 1 r) (hk : k < 5) (h81 : (r 81).toInt ≤ k) : iv_tw h 1 (up r (71 + k) (-1)) := by
  obtain ⟨⟨a0, a1, a2, a3, a4, a5⟩, q1, q2, q3, q4, q5, q6⟩ := H
  refine ⟨⟨?_, ?_, ?_, ?_, ?_, ?_⟩, fun j hj => ?_, fun j hj => ?_, fun j hj => ?_, fun j hj => ?_, fun j hj => ?_, fun j hj => ?_⟩
  · simp (disch := omega) only [up_ne]
    exact a0
  · simp (disch := omega) only [up_ne]
    exact a1
  · simp (disch := omega) only [up_ne]
    exact a2
  · simp (disch := omega) only [up_ne]
    exact a3
  · simp (disch := omega) only [up_ne]
    exact a4
  · simp (disch := omega) only [up_ne]
    exact a5
  · simp (disch := omega) only [up_ne]
    exact q1 j hj
  · simp (disch := omega) only [up_ne]
    exact q2 j hj
  · simp (disch := omega) only [up_ne]
    exact q3 j hj
  · have q := q4 j hj
    rw [up_ne (j := 81) (by omega)]
    by_cases e : j = k
    · rw [if_neg (by omega)]
      rw [if_neg (by omega)] at q
      exact q
    · rw [up_ne (by omega)]
      exact q
  · simp (disch := omega) only [up_ne]
    exact q5 j hj
  · simp (disch := omega) only [up_ne]
    exact q6 j hj
theorem tw_told {h : lm_H} {r : Nat → Int32} {k : Nat} {x y : Int32} (H : iv_tw h 1 r) (hk : k < 5) (h81 : (k : Int) < (r 81).toInt) (hx : x = if y = -1 then 6 else y) : iv_tw (lm_si h 5 k x) 1 (up r (71 + k) y) := by
  obtain ⟨⟨a0, a1, a2, a3, a4, a5⟩, q1, q2, q3, q4, q5, q6⟩ := H
  refine ⟨⟨?_, ?_, ?_, ?_, ?_, ?_⟩, fun j hj => ?_, fun j hj => ?_, fun j hj => ?_, fun j hj => ?_, fun j hj => ?_, fun j hj => ?_⟩
  · simp (disch := omega) only [up_ne]
    exact a0
  · simp (disch := omega) only [up_ne]
    exact a1
  · simp (disch := omega) only [up_ne]
    exact a2
  · simp (disch := omega) only [up_ne]
    exact a3
  · simp (disch := omega) only [up_ne]
    exact a4
  · simp (disch := omega) only [up_ne]
    exact a5
  · simp (disch := omega) only [up_ne]
    exact q1 j hj
  · simp (disch := omega) only [up_ne]
    exact q2 j hj
  · simp (disch := omega) only [up_ne]
    exact q3 j hj
  · have q := q4 j hj
    rw [up_ne (j := 81) (by omega)]
    show lm_i (lm_si h 5 k x) 5 j = _
    rw [pi_si, if_pos rfl]
    by_cases e : j = k
    · subst e
      rw [if_pos rfl, up_eq, hx]
      by_cases c : y = -1
      · rw [if_pos c, if_neg (fun z => z.2 c)]
      · rw [if_neg c, if_pos ⟨h81, c⟩]
    · rw [if_neg e, up_ne (by omega)]
      exact q
  · simp (disch := omega) only [up_ne]
    exact q5 j hj
  · simp (disch := omega) only [up_ne]
    exact q6 j hj
theorem tw_hosts {h : lm_H} {r : Nat → Int32} {n : Nat} (H : iv_tw h 1 r) (hn : n < 5) (h81 : r 81 = Int32.ofNat n) (h71 : r (71 + n) = -1) : iv_tw (lm_si h 1 0 (Int32.ofNat (n + 1))) 1 (up r 81 (Int32.ofNat (n + 1))) := by
  have e0 : (Int32.ofNat n).toInt = n := p_onI (by omega)
  have e1 : (Int32.ofNat (n + 1)).toInt = (n + 1 : Nat) := p_onI (by omega)
  obtain ⟨⟨a0, a1, a2, a3, a4, a5⟩, q1, q2, q3, q4, q5, q6⟩ := H
  refine ⟨⟨?_, ?_, ?_, ?_, ?_, ?_⟩, fun j hj => ?_, fun j hj => ?_, fun j hj => ?_, fun j hj => ?_, fun j hj => ?_, fun j hj => ?_⟩
  · rw [up_eq]
    rfl
  · simp (disch := omega) only [up_ne]
    exact a1
  · simp (disch := omega) only [up_ne]
    exact a2
  · simp (disch := omega) only [up_ne]
    exact a3
  · simp (disch := omega) only [up_ne]
    exact a4
  · simp (disch := omega) only [up_ne]
    exact a5
  · simp (disch := omega) only [up_ne]
    exact q1 j hj
  · simp (disch := omega) only [up_ne]
    exact q2 j hj
  · simp (disch := omega) only [up_ne]
    exact q3 j hj
  · have q := q4 j hj
    rw [h81, e0] at q
    rw [up_eq, e1, up_ne (by omega)]
    by_cases e : j = n
    · subst e
      rw [if_neg (by omega)] at q
      rw [if_neg (fun z => z.2 h71)]
      exact q
    · by_cases c : j < n
      · simp only [show ((j : Int) < (n : Int)) = True from eq_true (by omega)] at q
        simp only [show ((j : Int) < ((n + 1 : Nat) : Int)) = True from eq_true (by omega)]
        exact q
      · rw [if_neg (by omega)] at q
        rw [if_neg (by omega)]
        exact q
  · simp (disch := omega) only [up_ne]
    exact q5 j hj
  · simp (disch := omega) only [up_ne]
    exact q6 j hj
theorem wf_street {r : Nat → Int32} {k : Nat} {x : Int32} (H : wf2 r) (hk : k < 5) (hx : 0 ≤ x ∧ x ≤ 9) : wf2 (up r k x) := by
  obtain ⟨⟨w1, w2, w3, w4, w5, w6, w7, w8, w9, w10, w11, w12⟩, d1, d2, d3⟩ := H
  refine ⟨⟨?_, ?_, ?_, ?_, ?_, ?_, fun j hj => ?_, fun j hj => ?_, fun j hj => ?_, fun j hj => ?_, fun j hj => ?_, fun j hj => ?_⟩, fun j hj => ?_, fun j g hj hg => ?_, fun j hj => ?_⟩
  · simp (disch := omega) only [up_ne]
    exact w1
  · simp (disch := omega) only [up_ne]
    exact w2
  · simp (disch := omega) only [up_ne]
    exact w3
  · simp (disch := omega) only [up_ne]
    exact w4
  · simp (disch := omega) only [up_ne]
    exact w5
  · simp (disch := omega) only [up_ne]
    exact w6
  · by_cases e : j = k
    · subst e
      rw [up_eq]
      exact hx
    · simp (disch := omega) only [up_ne]
      exact w7 j hj
  · simp (disch := omega) only [up_ne]
    exact w8 j hj
  · simp (disch := omega) only [up_ne]
    exact w9 j hj
  · simp (disch := omega) only [up_ne]
    exact w10 j hj
  · simp (disch := omega) only [up_ne]
    exact w11 j hj
  · simp (disch := omega) only [up_ne]
    exact w12 j hj
  · simp (disch := omega) only [up_ne]
    exact d1 j hj
  · simp (disch := omega) only [up_ne]
    exact d2 j g hj hg
  · simp (disch := omega) only [up_ne]
    exact d3 j hj
theorem wf_wit {r : Nat → Int32} {k : Nat} {x : Int32} (H : wf2 r) (hk : k < 6) (hx : 0 ≤ x ∧ x ≤ 9) : wf2 (up r (5 + k) x) := by
  obtain ⟨⟨w1, w2, w3, w4, w5, w6, w7, w8, w9, w10, w11, w12⟩, d1, d2, d3⟩ := H
  refine ⟨⟨?_, ?_, ?_, ?_, ?_, ?_, fun j hj => ?_, fun j hj => ?_, fun j hj => ?_, fun j hj => ?_, fun j hj => ?_, fun j hj => ?_⟩, fun j hj => ?_, fun j g hj hg => ?_, fun j hj => ?_⟩
  · simp (disch := omega) only [up_ne]
    exact w1
  · simp (disch := omega) only [up_ne]
    exact w2
  · simp (disch := omega) only [up_ne]
    exact w3
  · simp (disch := omega) only [up_ne]
    exact w4
  · simp (disch := omega) only [up_ne]
    exact w5
  · simp (disch := omega) only [up_ne]
    exact w6
  · simp (disch := omega) only [up_ne]
    exact w7 j hj
  · by_cases e : j = k
    · subst e
      rw [up_eq]
      exact hx
    · simp (disch := omega) only [up_ne]
      exact w8 j hj
  · simp (disch := omega) only [up_ne]
    exact w9 j hj
  · simp (disch := omega) only [up_ne]
    exact w10 j hj
  · simp (disch := omega) only [up_ne]
    exact w11 j hj
  · simp (disch := omega) only [up_ne]
    exact w12 j hj
  · simp (disch := omega) only [up_ne]
    exact d1 j hj
  · simp (disch := omega) only [up_ne]
    exact d2 j g hj hg
  · simp (disch := omega) only [up_ne]
    exact d3 j hj
theorem wf_base {r : Nat → Int32} {k : Nat} {x : Int32} (H : wf2 r) (hk : k < 30) (hx : -99 ≤ x ∧ x ≤ 99) : wf2 (up r (11 + k) x) := by
  obtain ⟨⟨w1, w2, w3, w4, w5, w6, w7, w8, w9, w10, w11, w12⟩, d1, d2, d3⟩ := H
  refine ⟨⟨?_, ?_, ?_, ?_, ?_, ?_, fun j hj => ?_, fun j hj => ?_, fun j hj => ?_, fun j hj => ?_, fun j hj => ?_, fun j hj => ?_⟩, fun j hj => ?_, fun j g hj hg => ?_, fun j hj => ?_⟩
  · simp (disch := omega) only [up_ne]
    exact w1
  · simp (disch := omega) only [up_ne]
    exact w2
  · simp (disch := omega) only [up_ne]
    exact w3
  · simp (disch := omega) only [up_ne]
    exact w4
  · simp (disch := omega) only [up_ne]
    exact w5
  · simp (disch := omega) only [up_ne]
    exact w6
  · simp (disch := omega) only [up_ne]
    exact w7 j hj
  · simp (disch := omega) only [up_ne]
    exact w8 j hj
  · by_cases e : j = k
    · subst e
      rw [up_eq]
      exact hx
    · simp (disch := omega) only [up_ne]
      exact w9 j hj
  · simp (disch := omega) only [up_ne]
    exact w10 j hj
  · simp (disch := omega) only [up_ne]
    exact w11 j hj
  · simp (disch := omega) only [up_ne]
    exact w12 j hj
  · simp (disch := omega) only [up_ne]
    exact d1 j hj
  · simp (disch := omega) only [up_ne]
    exact d2 j g hj hg
  · simp (disch := omega) only [up_ne]
    exact d3 j hj
theorem wf_manner {r : Nat → Int32} {k : Nat} {x : Int32} (H : wf2 r) (hk : k < 5) (hx : 0 ≤ x ∧ x ≤ 5) : wf2 (up r (76 + k) x) := by
  obtain ⟨⟨w1, w2, w3, w4, w5, w6, w7, w8, w9, w10, w11, w12⟩, d1, d2, d3⟩ := H
  refine ⟨⟨?_, ?_, ?_, ?_, ?_, ?_, fun j hj => ?_, fun j hj => ?_, fun j hj => ?_, fun j hj => ?_, fun j hj => ?_, fun j hj => ?_⟩, fun j hj => ?_, fun j g hj hg => ?_, fun j hj => ?_⟩
  · simp (disch := omega) only [up_ne]
    exact w1
  · simp (disch := omega) only [up_ne]
    exact w2
  · simp (disch := omega) only [up_ne]
    exact w3
  · simp (disch := omega) only [up_ne]
    exact w4
  · simp (disch := omega) only [up_ne]
    exact w5
  · simp (disch := omega) only [up_ne]
    exact w6
  · simp (disch := omega) only [up_ne]
    exact w7 j hj
  · simp (disch := omega) only [up_ne]
    exact w8 j hj
  · simp (disch := omega) only [up_ne]
    exact w9 j hj
  · simp (disch := omega) only [up_ne]
    exact w10 j hj
  · simp (disch := omega) only [up_ne]
    exact w11 j hj
  · by_cases e : j = k
    · subst e
      rw [up_eq]
      exact hx
    · simp (disch := omega) only [up_ne]
      exact w12 j hj
  · simp (disch := omega) only [up_ne]
    exact d1 j hj
  · simp (disch := omega) only [up_ne]
    exact d2 j g hj hg
  · simp (disch := omega) only [up_ne]
    exact d3 j hj
theorem wf_custom {r : Nat → Int32} {x : Int32} (H : wf2 r) (hx : 0 ≤ x ∧ x ≤ 2) : wf2 (up r 83 x) := by
  obtain ⟨⟨w1, w2, w3, w4, w5, w6, w7, w8, w9, w10, w11, w12⟩, d1, d2, d3⟩ := H
  refine ⟨⟨?_, ?_, ?_, ?_, ?_, ?_, fun j hj => ?_, fun j hj => ?_, fun j hj => ?_, fun j hj => ?_, fun j hj => ?_, fun j hj => ?_⟩, fun j hj => ?_, fun j g hj hg => ?_, fun j hj => ?_⟩
  · simp (disch := omega) only [up_ne]
    exact w1
  · simp (disch := omega) only [up_ne]
    exact w2
  · rw [up_eq]
    exact hx
  · simp (disch := omega) only [up_ne]
    exact w4
  · simp (disch := omega) only [up_ne]
    exact w5
  · simp (disch := omega) only [up_ne]
    exact w6
  · simp (disch := omega) only [up_ne]
    exact w7 j hj
  · simp (disch := omega) only [up_ne]
    exact w8 j hj
  · simp (disch := omega) only [up_ne]
    exact w9 j hj
  · simp (disch := omega) only [up_ne]
    exact w10 j hj
  · simp (disch := omega) only [up_ne]
    exact w11 j hj
  · simp (disch := omega) only [up_ne]
    exact w12 j hj
  · simp (disch := omega) only [up_ne]
    exact d1 j hj
  · simp (disch := omega) only [up_ne]
    exact d2 j g hj hg
  · simp (disch := omega) only [up_ne]
    exact d3 j hj
theorem wf_lone {r : Nat → Int32} {x : Int32} (H : wf2 r) (hx : -99 ≤ x ∧ x ≤ 99) : wf2 (up r 84 x) := by
  obtain ⟨⟨w1, w2, w3, w4, w5, w6, w7, w8, w9, w10, w11, w12⟩, d1, d2, d3⟩ := H
  refine ⟨⟨?_, ?_, ?_, ?_, ?_, ?_, fun j hj => ?_, fun j hj => ?_, fun j hj => ?_, fun j hj => ?_, fun j hj => ?_, fun j hj => ?_⟩, fun j hj => ?_, fun j g hj hg => ?_, fun j hj => ?_⟩
  · simp (disch := omega) only [up_ne]
    exact w1
  · simp (disch := omega) only [up_ne]
    exact w2
  · simp (disch := omega) only [up_ne]
    exact w3
  · rw [up_eq]
    exact hx
  · simp (disch := omega) only [up_ne]
    exact w5
  · simp (disch := omega) only [up_ne]
    exact w6
  · simp (disch := omega) only [up_ne]
    exact w7 j hj
  · simp (disch := omega) only [up_ne]
    exact w8 j hj
  · simp (disch := omega) only [up_ne]
    exact w9 j hj
  · simp (disch := omega) only [up_ne]
    exact w10 j hj
  · simp (disch := omega) only [up_ne]
    exact w11 j hj
  · simp (disch := omega) only [up_ne]
    exact w12 j hj
  · simp (disch := omega) only [up_ne]
    exact d1 j hj
  · simp (disch := omega) only [up_ne]
    exact d2 j g hj hg
  · simp (disch := omega) only [up_ne]
    exact d3 j hj
theorem wf_force {r : Nat → Int32} {x : Int32} (H : wf2 r) (hx : -1 ≤ x ∧ x < r 85) : wf2 (up r 86 x) := by
  obtain ⟨⟨w1, w2, w3, w4, w5, w6, w7, w8, w9, w10, w11, w12⟩, d1, d2, d3⟩ := H
  refine ⟨⟨?_, ?_, ?_, ?_, ?_, ?_, fun j hj => ?_, fun j hj => ?_, fun j hj => ?_, fun j hj => ?_, fun j hj => ?_, fun j hj => ?_⟩, fun j hj => ?_, fun j g hj hg => ?_, fun j hj => ?_⟩
  · simp (disch := omega) only [up_ne]
    exact w1
  · simp (disch := omega) only [up_ne]
    exact w2
  · simp (disch := omega) only [up_ne]
    exact w3
  · simp (disch := omega) only [up_ne]
    exact w4
  · simp (disch := omega) only [up_ne]
    exact w5
  · rw [up_eq, up_ne (by omega)]
    exact hx
  · simp (disch := omega) only [up_ne]
    exact w7 j hj
  · simp (disch := omega) only [up_ne]
    exact w8 j hj
  · simp (disch := omega) only [up_ne]
    exact w9 j hj
  · simp (disch := omega) only [up_ne]
    exact w10 j hj
  · simp (disch := omega) only [up_ne]
    exact w11 j hj
  · simp (disch := omega) only [up_ne]
    exact w12 j hj
  · simp (disch := omega) only [up_ne]
    exact d1 j hj
  · simp (disch := omega) only [up_ne]
    exact d2 j g hj hg
  · simp (disch := omega) only [up_ne]
    exact d3 j hj
theorem wf_told {r : Nat → Int32} {k : Nat} {y : Int32} (H : wf2 r) (hk : k < 5) (hx : -1 ≤ y ∧ y < r 82) : wf2 (up r (71 + k) y) := by
  obtain ⟨⟨w1, w2, w3, w4, w5, w6, w7, w8, w9, w10, w11, w12⟩, d1, d2, d3⟩ := H
  refine ⟨⟨?_, ?_, ?_, ?_, ?_, ?_, fun j hj => ?_, fun j hj => ?_, fun j hj => ?_, fun j hj => ?_, fun j hj => ?_, fun j hj => ?_⟩, fun j hj => ?_, fun j g hj hg => ?_, fun j hj => ?_⟩
  · simp (disch := omega) only [up_ne]
    exact w1
  · simp (disch := omega) only [up_ne]
    exact w2
  · simp (disch := omega) only [up_ne]
    exact w3
  · simp (disch := omega) only [up_ne]
    exact w4
  · simp (disch := omega) only [up_ne]
    exact w5
  · simp (disch := omega) only [up_ne]
    exact w6
  · simp (disch := omega) only [up_ne]
    exact w7 j hj
  · simp (disch := omega) only [up_ne]
    exact w8 j hj
  · simp (disch := omega) only [up_ne]
    exact w9 j hj
  · simp (disch := omega) only [up_ne]
    exact w10 j hj
  · rw [up_ne (j := 82) (by omega)]
    by_cases e : j = k
    · subst e
      rw [up_eq]
      exact ⟨hx.1, Or.inl hx.2⟩
    · rw [up_ne (by omega)]
      exact w11 j hj
  · simp (disch := omega) only [up_ne]
    exact w12 j hj
  · rw [up_ne (j := 82) (by omega), up_ne (j := 81) (by omega)]
    by_cases e : j = k
    · subst e
      rw [up_eq]
      exact fun _ => hx.2
    · rw [up_ne (by omega)]
      exact d1 j hj
  · simp (disch := omega) only [up_ne]
    exact d2 j g hj hg
  · simp (disch := omega) only [up_ne]
    exact d3 j hj
theorem wf_hosts {r : Nat → Int32} {n : Nat} (H : wf2 r) (hn : n < 5) (h81 : r 81 = Int32.ofNat n) (h71 : r (71 + n) = -1) : wf2 (up r 81 (Int32.ofNat (n + 1))) := by
  have e0 : (Int32.ofNat n).toInt = n := p_onI (by omega)
  have e1 : (Int32.ofNat (n + 1)).toInt = (n + 1 : Nat) := p_onI (by omega)
  have e2 : 0 ≤ Int32.ofNat (n + 1) ∧ Int32.ofNat (n + 1) ≤ 5 := by
    rw [p_le, p_le, e1]
    simp only [Int32.reduceToInt]
    omega
  obtain ⟨⟨w1, w2, w3, w4, w5, w6, w7, w8, w9, w10, w11, w12⟩, d1, d2, d3⟩ := H
  refine ⟨⟨?_, ?_, ?_, ?_, ?_, ?_, fun j hj => ?_, fun j hj => ?_, fun j hj => ?_, fun j hj => ?_, fun j hj => ?_, fun j hj => ?_⟩, fun j hj => ?_, fun j g hj hg => ?_, fun j hj => ?_⟩
  · rw [up_eq]
    exact e2
  · simp (disch := omega) only [up_ne]
    exact w2
  · simp (disch := omega) only [up_ne]
    exact w3
  · simp (disch := omega) only [up_ne]
    exact w4
  · simp (disch := omega) only [up_ne]
    exact w5
  · simp (disch := omega) only [up_ne]
    exact w6
  · simp (disch := omega) only [up_ne]
    exact w7 j hj
  · simp (disch := omega) only [up_ne]
    exact w8 j hj
  · simp (disch := omega) only [up_ne]
    exact w9 j hj
  · simp (disch := omega) only [up_ne]
    exact w10 j hj
  · simp (disch := omega) only [up_ne]
    exact w11 j hj
  · simp (disch := omega) only [up_ne]
    exact w12 j hj
  · rw [up_eq, e1, up_ne (by omega), up_ne (by omega)]
    intro c
    by_cases e : j = n
    · subst e
      rw [h71]
      have := w2.1
      simp only [p_le, p_lt, Int32.reduceToInt] at this ⊢
      omega
    · exact d1 j hj (by rw [h81, e0]; omega)
  · simp (disch := omega) only [up_ne]
    exact d2 j g hj hg
  · simp (disch := omega) only [up_ne]
    exact d3 j hj
theorem wf_guests {r : Nat → Int32} {m : Nat} (H : wf2 r) (hm : m < 6) (h82 : r 82 = Int32.ofNat m) : wf2 (up r 82 (Int32.ofNat (m + 1))) := by
  have e0 : (Int32.ofNat m).toInt = m := p_onI (by omega)
  have e1 : (Int32.ofNat (m + 1)).toInt = (m + 1 : Nat) := p_onI (by omega)
  have e2 : 0 ≤ Int32.ofNat (m + 1) ∧ Int32.ofNat (m + 1) ≤ 6 := by
    rw [p_le, p_le, e1]
    simp only [Int32.reduceToInt]
    omega
  have e3 : ∀ y : Int32, y < Int32.ofNat m → y < Int32.ofNat (m + 1) := by
    intro y hy
    rw [p_lt, e0] at hy
    rw [p_lt, e1]
    omega
  obtain ⟨⟨w1, w2, w3, w4, w5, w6, w7, w8, w9, w10, w11, w12⟩, d1, d2, d3⟩ := H
  refine ⟨⟨?_, ?_, ?_, ?_, ?_, ?_, fun j hj => ?_, fun j hj => ?_, fun j hj => ?_, fun j hj => ?_, fun j hj => ?_, fun j hj => ?_⟩, fun j hj => ?_, fun j g hj hg => ?_, fun j hj => ?_⟩
  · simp (disch := omega) only [up_ne]
    exact w1
  · rw [up_eq]
    exact e2
  · simp (disch := omega) only [up_ne]
    exact w3
  · simp (disch := omega) only [up_ne]
    exact w4
  · simp (disch := omega) only [up_ne]
    exact w5
  · simp (disch := omega) only [up_ne]
    exact w6
  · simp (disch := omega) only [up_ne]
    exact w7 j hj
  · simp (disch := omega) only [up_ne]
    exact w8 j hj
  · simp (disch := omega) only [up_ne]
    exact w9 j hj
  · simp (disch := omega) only [up_ne]
    exact w10 j hj
  · rw [up_eq, up_ne (by omega)]
    exact ⟨(w11 j hj).1, (w11 j hj).2.imp (fun z => e3 _ (by rw [← h82]; exact z)) id⟩
  · simp (disch := omega) only [up_ne]
    exact w12 j hj
  · rw [up_eq, up_ne (by omega), up_ne (by omega)]
    intro c
    exact e3 _ (by rw [← h82]; exact d1 j hj c)
  · rw [up_eq, e1, up_ne (by omega)]
    intro c
    exact d2 j g hj hg (by rw [h82, e0]; omega)
  · simp (disch := omega) only [up_ne]
    exact d3 j hj
theorem wf_dice {r : Nat → Int32} {k : Nat} {x : Int32} (H : wf2 r) (hk : k < 30) (hx : 0 ≤ x ∧ x ≤ 10) (hd2 : ∀ j g : Nat, j < 5 → g < 6 → (r 82).toInt ≤ g → ¬ 6 * j + g = k) (hd3 : ∀ j : Nat, j < 5 → (up r (41 + k) x (41 + (6 * j + 0))).toInt + (up r (41 + k) x (41 + (6 * j + 1))).toInt + (up r (41 + k) x (41 + (6 * j + 2))).toInt + (up r (41 + k) x (41 + (6 * j + 3))).toInt + (up r (41 + k) x (41 + (6 * j + 4))).toInt + (up r (41 + k) x (41 + (6 * j + 5))).toInt ≤ 10) : wf2 (up r (41 + k) x) := by
  obtain ⟨⟨w1, w2, w3, w4, w5, w6, w7, w8, w9, w10, w11, w12⟩, d1, d2, d3⟩ := H
  refine ⟨⟨?_, ?_, ?_, ?_, ?_, ?_, fun j hj => ?_, fun j hj => ?_, fun j hj => ?_, fun j hj => ?_, fun j hj => ?_, fun j hj => ?_⟩, fun j hj => ?_, fun j g hj hg => ?_, fun j hj => ?_⟩
  · simp (disch := omega) only [up_ne]
    exact w1
  · simp (disch := omega) only [up_ne]
    exact w2
  · simp (disch := omega) only [up_ne]
    exact w3
  · simp (disch := omega) only [up_ne]
    exact w4
  · simp (disch := omega) only [up_ne]
    exact w5
  · simp (disch := omega) only [up_ne]
    exact w6
  · simp (disch := omega) only [up_ne]
    exact w7 j hj
  · simp (disch := omega) only [up_ne]
    exact w8 j hj
  · simp (disch := omega) only [up_ne]
    exact w9 j hj
  · by_cases e : j = k
    · subst e
      rw [up_eq]
      exact hx
    · simp (disch := omega) only [up_ne]
      exact w10 j hj
  · simp (disch := omega) only [up_ne]
    exact w11 j hj
  · simp (disch := omega) only [up_ne]
    exact w12 j hj
  · simp (disch := omega) only [up_ne]
    exact d1 j hj
  · rw [up_ne (j := 82) (by omega)]
    intro c
    have := hd2 j g hj hg c
    rw [up_ne (by omega)]
    exact d2 j g hj hg c
  · exact hd3 j hj
