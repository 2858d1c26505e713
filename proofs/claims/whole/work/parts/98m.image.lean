/-! image and back: streets are copied. -/
theorem tw_mv {h h' : lm_H} {c c' : Nat} {r r' : Nat → Int32} (H : iv_tw h c r) (f0 : ∀ j, j < 6 → lm_i h' c' j = lm_i h c j) (f1 : ∀ j, j < 5 → lm_i h' (c' + 1) j = lm_i h (c + 1) j) (f2 : ∀ j, j < 6 → lm_i h' (c' + 2) j = lm_i h (c + 2) j) (f3 : ∀ j, j < 30 → lm_i h' (c' + 3) j = lm_i h (c + 3) j) (f4 : ∀ j, j < 5 → lm_i h' (c' + 4) j = lm_i h (c + 4) j) (f5 : ∀ j, j < 30 → lm_i h' (c' + 5) j = lm_i h (c + 5) j) (f6 : ∀ j, j < 5 → lm_i h' (c' + 6) j = lm_i h (c + 6) j) (e : ∀ j, j < 87 → r' j = r j) : iv_tw h' c' r' := by
  obtain ⟨⟨a0, a1, a2, a3, a4, a5⟩, q1, q2, q3, q4, q5, q6⟩ := H
  refine ⟨⟨?_, ?_, ?_, ?_, ?_, ?_⟩, fun j hj => ?_, fun j hj => ?_, fun j hj => ?_, fun j hj => ?_, fun j hj => ?_, fun j hj => ?_⟩
  · rw [f0 0 (by omega), e _ (by omega)]; exact a0
  · rw [f0 1 (by omega), e _ (by omega)]; exact a1
  · rw [f0 2 (by omega), e _ (by omega)]; exact a2
  · rw [f0 3 (by omega), e _ (by omega)]; exact a3
  · rw [f0 4 (by omega), e _ (by omega)]; exact a4
  · rw [f0 5 (by omega), e _ (by omega)]; exact a5
  · rw [f1 j hj, e _ (by omega)]; exact q1 j hj
  · rw [f2 j hj, e _ (by omega)]; exact q2 j hj
  · rw [f3 j hj, e _ (by omega)]; exact q3 j hj
  · rw [f4 j hj, e 81 (by omega), e (71 + j) (by omega)]; exact q4 j hj
  · rw [f5 j hj, e _ (by omega)]; exact q5 j hj
  · rw [f6 j hj, e _ (by omega)]; exact q6 j hj
theorem wf_mv {r r' : Nat → Int32} (H : wf2 r) (e : ∀ j, j < 87 → r' j = r j) : wf2 r' := by
  obtain ⟨⟨w1, w2, w3, w4, w5, w6, w7, w8, w9, w10, w11, w12⟩, d1, d2, d3⟩ := H
  have e81 := e 81 (by omega)
  have e82 := e 82 (by omega)
  refine ⟨⟨?_, ?_, ?_, ?_, ?_, ?_, fun j hj => ?_, fun j hj => ?_, fun j hj => ?_, fun j hj => ?_, fun j hj => ?_, fun j hj => ?_⟩, fun j hj => ?_, fun j g hj hg => ?_, fun j hj => ?_⟩
  · rw [e81]; exact w1
  · rw [e82]; exact w2
  · rw [e 83 (by omega)]; exact w3
  · rw [e 84 (by omega)]; exact w4
  · rw [e 85 (by omega)]; exact w5
  · rw [e 86 (by omega), e 85 (by omega)]; exact w6
  · rw [e j (by omega)]; exact w7 j hj
  · rw [e (5 + j) (by omega)]; exact w8 j hj
  · rw [e (11 + j) (by omega)]; exact w9 j hj
  · rw [e (41 + j) (by omega)]; exact w10 j hj
  · rw [e (71 + j) (by omega), e82]; exact w11 j hj
  · rw [e (76 + j) (by omega)]; exact w12 j hj
  · rw [e (71 + j) (by omega), e81, e82]; exact d1 j hj
  · rw [e (41 + (6 * j + g)) (by omega), e82]; exact d2 j g hj hg
  · rw [e (41 + (6 * j + 0)) (by omega), e (41 + (6 * j + 1)) (by omega), e (41 + (6 * j + 2)) (by omega), e (41 + (6 * j + 3)) (by omega), e (41 + (6 * j + 4)) (by omega), e (41 + (6 * j + 5)) (by omega)]; exact d3 j hj
theorem iL_mv {h h' : lm_H} {c c' : Nat} {r r' : Nat → Int32} (H : iL h c r) (ho : OC h h') (hc : ∀ t, t < 6 → lm_r h' c' t = lm_r h c t) (e : ∀ j, j < 4893 → r' j = r j) : iL h' c' r' := by
  refine ⟨fun t ht h1 => ?_, fun t ht b hb => ?_⟩
  · rw [e 85 (by omega)] at h1
    obtain ⟨ef, p, q, l, N, co, kk, nu, pl, ⟨a1, a2, a3, a4, a5, a6, a7, a8, a9, a10, a11⟩, b1, b2, b3, b4, b5⟩ := H.1 t ht h1
    obtain ⟨p1, p2, p3⟩ := ho p _ a2 a3 a4
    obtain ⟨q1, q2, q3⟩ := ho q _ a6 a7 a8
    have hN := b1.1
    refine ⟨ef, p, q, l, N, co, kk, nu, pl, ⟨by rw [hc t ht]; exact a1, a2, a3, p1, by rw [p3]; exact a5, a6, a7, q1, a9, by rw [q2]; exact a10, a11⟩, b1, by rw [e _ (by omega)]; exact b2, fun p hp => ?_, b4, b5⟩
    rw [e _ (by omega), e _ (by omega)]
    exact b3 p hp
  · rw [hc t ht] at hb
    obtain ⟨b1, b2, b3⟩ := H.2 t ht b hb
    exact ⟨b1, b2, (ho b _ b1 b2 b3).1⟩
/-- ints and refs of a copied street -/
def CP (T F : Nat) (h h' : lm_H) : Prop := lm_Lay h' ∧ h'.1 = h.1 ∧ (∀ a, (a < T ∨ T + 7 ≤ a) → lm_i h' a = lm_i h a) ∧ (∀ a, lm_l h' a = lm_l h a) ∧ (∀ a, ¬ a = T + 7 → lm_r h' a = lm_r h a) ∧ (∀ j, j < 6 → lm_r h' (T + 7) j = lm_r h (F + 7) j) ∧ (∀ j, j < 6 → lm_i h' T j = lm_i h F j) ∧ (∀ j, j < 5 → lm_i h' (T + 1) j = lm_i h (F + 1) j) ∧ (∀ j, j < 6 → lm_i h' (T + 2) j = lm_i h (F + 2) j) ∧ (∀ j, j < 30 → lm_i h' (T + 3) j = lm_i h (F + 3) j) ∧ (∀ j, j < 5 → lm_i h' (T + 4) j = lm_i h (F + 4) j) ∧ (∀ j, j < 30 → lm_i h' (T + 5) j = lm_i h (F + 5) j) ∧ (∀ j, j < 5 → lm_i h' (T + 6) j = lm_i h (F + 6) j)
theorem cpy0 (f g : Nat → Int32) {n j : Nat} (hj : j < n) : va_cpy f g 0 0 n j = f j := by
  show (if 0 ≤ j ∧ j < 0 + n then f (0 + (j - 0)) else g j) = f j
  rw [if_pos (by omega), Nat.sub_zero, Nat.zero_add]
theorem cl_530 {D : Nat} {h : lm_H} {K : lm_H → Prop} (hD : 1 ≤ D) (hl : lm_Lay h) (hr : ∀ t, t < 6 → ∀ b, lm_r h 8 t = some b → 119 ≤ b ∧ b < 1000000 ∧ lm_sh h b = some (0, 2)) (hK : ∀ h', CP 76 1 h h' → K h') : lm_call D 53 [.ref 76, .ref 1] h (lm_kV K) := by
  obtain ⟨d, rfl⟩ := q_dp hD
  refine e_530 hl ?_
  have base : CP 76 1 h h → True := fun _ => trivial
  generalize hz : (lm_row (lm_row (lm_row (lm_row (lm_row (lm_row (lm_si (lm_si (lm_si (lm_si (lm_si (lm_si h 76 0 (lm_i h 1 0)) 76 1 (lm_i h 1 1)) 76 2 (lm_i h 1 2)) 76 3 (lm_i h 1 3)) 76 4 (lm_i h 1 4)) 76 5 (lm_i h 1 5)) 77 (va_cpy (h.2.1 2) (h.2.1 77) 0 0 5)) 78 (va_cpy (h.2.1 3) (h.2.1 78) 0 0 6)) 79 (va_cpy (h.2.1 4) (h.2.1 79) 0 0 30)) 80 (va_cpy (h.2.1 5) (h.2.1 80) 0 0 5)) 81 (va_cpy (h.2.1 6) (h.2.1 81) 0 0 30)) 82 (va_cpy (h.2.1 7) (h.2.1 82) 0 0 5)) = h0
  have z1 : h0.1 = h.1 := by rw [← hz]; rfl
  have zr : lm_r h0 = lm_r h := by rw [← hz]; rfl
  have zl : lm_l h0 = lm_l h := by rw [← hz]; rfl
  have zi : ∀ a j, lm_i h0 a j = if a = 82 then va_cpy (h.2.1 7) (h.2.1 82) 0 0 5 j else if a = 81 then va_cpy (h.2.1 6) (h.2.1 81) 0 0 30 j else if a = 80 then va_cpy (h.2.1 5) (h.2.1 80) 0 0 5 j else if a = 79 then va_cpy (h.2.1 4) (h.2.1 79) 0 0 30 j else if a = 78 then va_cpy (h.2.1 3) (h.2.1 78) 0 0 6 j else if a = 77 then va_cpy (h.2.1 2) (h.2.1 77) 0 0 5 j else if a = 76 then (if j = 5 then lm_i h 1 5 else if j = 4 then lm_i h 1 4 else if j = 3 then lm_i h 1 3 else if j = 2 then lm_i h 1 2 else if j = 1 then lm_i h 1 1 else if j = 0 then lm_i h 1 0 else lm_i h 76 j) else lm_i h a j := by
    intro a j
    rw [← hz]
    simp only [pi_row, pi_si]
    by_cases c : a = 76
    · subst c
      simp only [Nat.reduceEqDiff, if_true, if_false]
    · simp only [if_neg c]
  have l0 : lm_Lay h0 := lm_Lay_refs hl z1 (fun a k r q _ => by rw [zr]; exact q)
  clear hz
  have lp : ∀ r x : Nat, r + x = 6 → ∀ z : lm_H, lm_Lay z → z.1 = h0.1 → lm_i z = lm_i h0 → lm_l z = lm_l h0 → (∀ a, ¬ a = 83 → lm_r z a = lm_r h a) → (∀ j, j < x → lm_r z 83 j = lm_r h 8 j) → (lm_W (d) 53 137 [some (.ref 76), some (.ref 1), some (.int (Int32.ofNat x))] [] z (lm_kV K)) := by
    intro r
    induction r with
    | zero =>
      intro x hx z a1 a2 a3 a4 a5 a6
      have : x = 6 := by omega
      subst this
      refine b_530_137 _ a1 ?_
      rw [if_neg (by decide)]
      have gi : ∀ a j, lm_i z a j = lm_i h0 a j := fun a j => by rw [a3]
      refine hK z ⟨a1, by rw [a2, z1], fun a ha => ?_, fun a => by rw [a4, zl], a5, a6, fun j hj => ?_, fun j hj => ?_, fun j hj => ?_, fun j hj => ?_, fun j hj => ?_, fun j hj => ?_, fun j hj => ?_⟩
      · funext j
        rw [gi, zi, if_neg (by omega), if_neg (by omega), if_neg (by omega), if_neg (by omega), if_neg (by omega), if_neg (by omega), if_neg (by omega)]
      · have h7 : j = 0 ∨ j = 1 ∨ j = 2 ∨ j = 3 ∨ j = 4 ∨ j = 5 := by omega
        rw [gi, zi]
        rcases h7 with rfl | rfl | rfl | rfl | rfl | rfl <;> simp only [Nat.reduceEqDiff, if_true, if_false]
      · rw [gi, zi]
        simp only [Nat.reduceAdd, Nat.reduceEqDiff, if_true, if_false]
        exact cpy0 _ _ hj
      · rw [gi, zi]
        simp only [Nat.reduceAdd, Nat.reduceEqDiff, if_true, if_false]
        exact cpy0 _ _ hj
      · rw [gi, zi]
        simp only [Nat.reduceAdd, Nat.reduceEqDiff, if_true, if_false]
        exact cpy0 _ _ hj
      · rw [gi, zi]
        simp only [Nat.reduceAdd, Nat.reduceEqDiff, if_true, if_false]
        exact cpy0 _ _ hj
      · rw [gi, zi]
        simp only [Nat.reduceAdd, Nat.reduceEqDiff, if_true, if_false]
        exact cpy0 _ _ hj
      · rw [gi, zi]
        simp only [Nat.reduceAdd, Nat.reduceEqDiff, if_true, if_false]
        exact cpy0 _ _ hj
    | succ r ih =>
      intro x hx z a1 a2 a3 a4 a5 a6
      refine b_530_137 _ a1 ?_
      rw [if_pos (by rw [show (6 : Int32) = Int32.ofNat 6 from rfl, q_lt (by omega) (by omega)]; omega), q_in (by omega) (by decide), q_in (by omega) (by decide), q_nat (by omega), q_a1]
      refine ⟨fun b hb => ?_, ?_⟩
      · rw [a5 8 (by decide)] at hb
        obtain ⟨b1, b2, b3⟩ := hr x (by omega) b hb
        unfold lm_sh at b3 ⊢
        rw [if_pos b2] at b3 ⊢
        rw [a2, z1]
        exact b3
      · refine ih (x + 1) (by omega) _ (lm_Lay_sr a1 rfl) a2 a3 a4 (fun a ha => ?_) (fun j hj => ?_)
        · funext j
          rw [pr_sr, if_neg ha, a5 a ha]
        · rw [pr_sr, if_pos rfl]
          by_cases e : j = x
          · subst e
            rw [if_pos rfl, a5 8 (by decide)]
          · rw [if_neg e]
            exact a6 j (by omega)
  exact lp 6 0 (by omega) h0 l0 rfl rfl rfl (fun a _ => by rw [zr]) (fun j hj => by omega)
theorem cl_531 {D : Nat} {h : lm_H} {K : lm_H → Prop} (hD : 1 ≤ D) (hl : lm_Lay h) (hr : ∀ t, t < 6 → ∀ b, lm_r h 8 t = some b → 119 ≤ b ∧ b < 1000000 ∧ lm_sh h b = some (0, 2)) (hK : ∀ h', CP 84 1 h h' → K h') : lm_call D 53 [.ref 84, .ref 1] h (lm_kV K) := by
  obtain ⟨d, rfl⟩ := q_dp hD
  refine e_531 hl ?_
  have base : CP 84 1 h h → True := fun _ => trivial
  generalize hz : (lm_row (lm_row (lm_row (lm_row (lm_row (lm_row (lm_si (lm_si (lm_si (lm_si (lm_si (lm_si h 84 0 (lm_i h 1 0)) 84 1 (lm_i h 1 1)) 84 2 (lm_i h 1 2)) 84 3 (lm_i h 1 3)) 84 4 (lm_i h 1 4)) 84 5 (lm_i h 1 5)) 85 (va_cpy (h.2.1 2) (h.2.1 85) 0 0 5)) 86 (va_cpy (h.2.1 3) (h.2.1 86) 0 0 6)) 87 (va_cpy (h.2.1 4) (h.2.1 87) 0 0 30)) 88 (va_cpy (h.2.1 5) (h.2.1 88) 0 0 5)) 89 (va_cpy (h.2.1 6) (h.2.1 89) 0 0 30)) 90 (va_cpy (h.2.1 7) (h.2.1 90) 0 0 5)) = h0
  have z1 : h0.1 = h.1 := by rw [← hz]; rfl
  have zr : lm_r h0 = lm_r h := by rw [← hz]; rfl
  have zl : lm_l h0 = lm_l h := by rw [← hz]; rfl
  have zi : ∀ a j, lm_i h0 a j = if a = 90 then va_cpy (h.2.1 7) (h.2.1 90) 0 0 5 j else if a = 89 then va_cpy (h.2.1 6) (h.2.1 89) 0 0 30 j else if a = 88 then va_cpy (h.2.1 5) (h.2.1 88) 0 0 5 j else if a = 87 then va_cpy (h.2.1 4) (h.2.1 87) 0 0 30 j else if a = 86 then va_cpy (h.2.1 3) (h.2.1 86) 0 0 6 j else if a = 85 then va_cpy (h.2.1 2) (h.2.1 85) 0 0 5 j else if a = 84 then (if j = 5 then lm_i h 1 5 else if j = 4 then lm_i h 1 4 else if j = 3 then lm_i h 1 3 else if j = 2 then lm_i h 1 2 else if j = 1 then lm_i h 1 1 else if j = 0 then lm_i h 1 0 else lm_i h 84 j) else lm_i h a j := by
    intro a j
    rw [← hz]
    simp only [pi_row, pi_si]
    by_cases c : a = 84
    · subst c
      simp only [Nat.reduceEqDiff, if_true, if_false]
    · simp only [if_neg c]
  have l0 : lm_Lay h0 := lm_Lay_refs hl z1 (fun a k r q _ => by rw [zr]; exact q)
  clear hz
  have lp : ∀ r x : Nat, r + x = 6 → ∀ z : lm_H, lm_Lay z → z.1 = h0.1 → lm_i z = lm_i h0 → lm_l z = lm_l h0 → (∀ a, ¬ a = 91 → lm_r z a = lm_r h a) → (∀ j, j < x → lm_r z 91 j = lm_r h 8 j) → (lm_W (d) 53 137 [some (.ref 84), some (.ref 1), some (.int (Int32.ofNat x))] [] z (lm_kV K)) := by
    intro r
    induction r with
    | zero =>
      intro x hx z a1 a2 a3 a4 a5 a6
      have : x = 6 := by omega
      subst this
      refine b_531_137 _ a1 ?_
      rw [if_neg (by decide)]
      have gi : ∀ a j, lm_i z a j = lm_i h0 a j := fun a j => by rw [a3]
      refine hK z ⟨a1, by rw [a2, z1], fun a ha => ?_, fun a => by rw [a4, zl], a5, a6, fun j hj => ?_, fun j hj => ?_, fun j hj => ?_, fun j hj => ?_, fun j hj => ?_, fun j hj => ?_, fun j hj => ?_⟩
      · funext j
        rw [gi, zi, if_neg (by omega), if_neg (by omega), if_neg (by omega), if_neg (by omega), if_neg (by omega), if_neg (by omega), if_neg (by omega)]
      · have h7 : j = 0 ∨ j = 1 ∨ j = 2 ∨ j = 3 ∨ j = 4 ∨ j = 5 := by omega
        rw [gi, zi]
        rcases h7 with rfl | rfl | rfl | rfl | rfl | rfl <;> simp only [Nat.reduceEqDiff, if_true, if_false]
      · rw [gi, zi]
        simp only [Nat.reduceAdd, Nat.reduceEqDiff, if_true, if_false]
        exact cpy0 _ _ hj
      · rw [gi, zi]
        simp only [Nat.reduceAdd, Nat.reduceEqDiff, if_true, if_false]
        exact cpy0 _ _ hj
      · rw [gi, zi]
        simp only [Nat.reduceAdd, Nat.reduceEqDiff, if_true, if_false]
        exact cpy0 _ _ hj
      · rw [gi, zi]
        simp only [Nat.reduceAdd, Nat.reduceEqDiff, if_true, if_false]
        exact cpy0 _ _ hj
      · rw [gi, zi]
        simp only [Nat.reduceAdd, Nat.reduceEqDiff, if_true, if_false]
        exact cpy0 _ _ hj
      · rw [gi, zi]
        simp only [Nat.reduceAdd, Nat.reduceEqDiff, if_true, if_false]
        exact cpy0 _ _ hj
    | succ r ih =>
      intro x hx z a1 a2 a3 a4 a5 a6
      refine b_531_137 _ a1 ?_
      rw [if_pos (by rw [show (6 : Int32) = Int32.ofNat 6 from rfl, q_lt (by omega) (by omega)]; omega), q_in (by omega) (by decide), q_in (by omega) (by decide), q_nat (by omega), q_a1]
      refine ⟨fun b hb => ?_, ?_⟩
      · rw [a5 8 (by decide)] at hb
        obtain ⟨b1, b2, b3⟩ := hr x (by omega) b hb
        unfold lm_sh at b3 ⊢
        rw [if_pos b2] at b3 ⊢
        rw [a2, z1]
        exact b3
      · refine ih (x + 1) (by omega) _ (lm_Lay_sr a1 rfl) a2 a3 a4 (fun a ha => ?_) (fun j hj => ?_)
        · funext j
          rw [pr_sr, if_neg ha, a5 a ha]
        · rw [pr_sr, if_pos rfl]
          by_cases e : j = x
          · subst e
            rw [if_pos rfl, a5 8 (by decide)]
          · rw [if_neg e]
            exact a6 j (by omega)
  exact lp 6 0 (by omega) h0 l0 rfl rfl rfl (fun a _ => by rw [zr]) (fun j hj => by omega)
theorem cl_53b0 {D : Nat} {h : lm_H} {K : lm_H → Prop} (hD : 1 ≤ D) (hl : lm_Lay h) (hr : ∀ t, t < 6 → ∀ b, lm_r h 83 t = some b → 119 ≤ b ∧ b < 1000000 ∧ lm_sh h b = some (0, 2)) (hK : ∀ h', CP 1 76 h h' → K h') : lm_call D 53 [.ref 1, .ref 76] h (lm_kV K) := by
  obtain ⟨d, rfl⟩ := q_dp hD
  refine e_53b0 hl ?_
  have base : CP 1 76 h h → True := fun _ => trivial
  generalize hz : (lm_row (lm_row (lm_row (lm_row (lm_row (lm_row (lm_si (lm_si (lm_si (lm_si (lm_si (lm_si h 1 0 (lm_i h 76 0)) 1 1 (lm_i h 76 1)) 1 2 (lm_i h 76 2)) 1 3 (lm_i h 76 3)) 1 4 (lm_i h 76 4)) 1 5 (lm_i h 76 5)) 2 (va_cpy (h.2.1 77) (h.2.1 2) 0 0 5)) 3 (va_cpy (h.2.1 78) (h.2.1 3) 0 0 6)) 4 (va_cpy (h.2.1 79) (h.2.1 4) 0 0 30)) 5 (va_cpy (h.2.1 80) (h.2.1 5) 0 0 5)) 6 (va_cpy (h.2.1 81) (h.2.1 6) 0 0 30)) 7 (va_cpy (h.2.1 82) (h.2.1 7) 0 0 5)) = h0
  have z1 : h0.1 = h.1 := by rw [← hz]; rfl
  have zr : lm_r h0 = lm_r h := by rw [← hz]; rfl
  have zl : lm_l h0 = lm_l h := by rw [← hz]; rfl
  have zi : ∀ a j, lm_i h0 a j = if a = 7 then va_cpy (h.2.1 82) (h.2.1 7) 0 0 5 j else if a = 6 then va_cpy (h.2.1 81) (h.2.1 6) 0 0 30 j else if a = 5 then va_cpy (h.2.1 80) (h.2.1 5) 0 0 5 j else if a = 4 then va_cpy (h.2.1 79) (h.2.1 4) 0 0 30 j else if a = 3 then va_cpy (h.2.1 78) (h.2.1 3) 0 0 6 j else if a = 2 then va_cpy (h.2.1 77) (h.2.1 2) 0 0 5 j else if a = 1 then (if j = 5 then lm_i h 76 5 else if j = 4 then lm_i h 76 4 else if j = 3 then lm_i h 76 3 else if j = 2 then lm_i h 76 2 else if j = 1 then lm_i h 76 1 else if j = 0 then lm_i h 76 0 else lm_i h 1 j) else lm_i h a j := by
    intro a j
    rw [← hz]
    simp only [pi_row, pi_si]
    by_cases c : a = 1
    · subst c
      simp only [Nat.reduceEqDiff, if_true, if_false]
    · simp only [if_neg c]
  have l0 : lm_Lay h0 := lm_Lay_refs hl z1 (fun a k r q _ => by rw [zr]; exact q)
  clear hz
  have lp : ∀ r x : Nat, r + x = 6 → ∀ z : lm_H, lm_Lay z → z.1 = h0.1 → lm_i z = lm_i h0 → lm_l z = lm_l h0 → (∀ a, ¬ a = 8 → lm_r z a = lm_r h a) → (∀ j, j < x → lm_r z 8 j = lm_r h 83 j) → (lm_W (d) 53 137 [some (.ref 1), some (.ref 76), some (.int (Int32.ofNat x))] [] z (lm_kV K)) := by
    intro r
    induction r with
    | zero =>
      intro x hx z a1 a2 a3 a4 a5 a6
      have : x = 6 := by omega
      subst this
      refine b_53b0_137 _ a1 ?_
      rw [if_neg (by decide)]
      have gi : ∀ a j, lm_i z a j = lm_i h0 a j := fun a j => by rw [a3]
      refine hK z ⟨a1, by rw [a2, z1], fun a ha => ?_, fun a => by rw [a4, zl], a5, a6, fun j hj => ?_, fun j hj => ?_, fun j hj => ?_, fun j hj => ?_, fun j hj => ?_, fun j hj => ?_, fun j hj => ?_⟩
      · funext j
        rw [gi, zi, if_neg (by omega), if_neg (by omega), if_neg (by omega), if_neg (by omega), if_neg (by omega), if_neg (by omega), if_neg (by omega)]
      · have h7 : j = 0 ∨ j = 1 ∨ j = 2 ∨ j = 3 ∨ j = 4 ∨ j = 5 := by omega
        rw [gi, zi]
        rcases h7 with rfl | rfl | rfl | rfl | rfl | rfl <;> simp only [Nat.reduceEqDiff, if_true, if_false]
      · rw [gi, zi]
        simp only [Nat.reduceAdd, Nat.reduceEqDiff, if_true, if_false]
        exact cpy0 _ _ hj
      · rw [gi, zi]
        simp only [Nat.reduceAdd, Nat.reduceEqDiff, if_true, if_false]
        exact cpy0 _ _ hj
      · rw [gi, zi]
        simp only [Nat.reduceAdd, Nat.reduceEqDiff, if_true, if_false]
        exact cpy0 _ _ hj
      · rw [gi, zi]
        simp only [Nat.reduceAdd, Nat.reduceEqDiff, if_true, if_false]
        exact cpy0 _ _ hj
      · rw [gi, zi]
        simp only [Nat.reduceAdd, Nat.reduceEqDiff, if_true, if_false]
        exact cpy0 _ _ hj
      · rw [gi, zi]
        simp only [Nat.reduceAdd, Nat.reduceEqDiff, if_true, if_false]
        exact cpy0 _ _ hj
    | succ r ih =>
      intro x hx z a1 a2 a3 a4 a5 a6
      refine b_53b0_137 _ a1 ?_
      rw [if_pos (by rw [show (6 : Int32) = Int32.ofNat 6 from rfl, q_lt (by omega) (by omega)]; omega), q_in (by omega) (by decide), q_in (by omega) (by decide), q_nat (by omega), q_a1]
      refine ⟨fun b hb => ?_, ?_⟩
      · rw [a5 83 (by decide)] at hb
        obtain ⟨b1, b2, b3⟩ := hr x (by omega) b hb
        unfold lm_sh at b3 ⊢
        rw [if_pos b2] at b3 ⊢
        rw [a2, z1]
        exact b3
      · refine ih (x + 1) (by omega) _ (lm_Lay_sr a1 rfl) a2 a3 a4 (fun a ha => ?_) (fun j hj => ?_)
        · funext j
          rw [pr_sr, if_neg ha, a5 a ha]
        · rw [pr_sr, if_pos rfl]
          by_cases e : j = x
          · subst e
            rw [if_pos rfl, a5 83 (by decide)]
          · rw [if_neg e]
            exact a6 j (by omega)
  exact lp 6 0 (by omega) h0 l0 rfl rfl rfl (fun a _ => by rw [zr]) (fun j hj => by omega)
theorem cl_53b1 {D : Nat} {h : lm_H} {K : lm_H → Prop} (hD : 1 ≤ D) (hl : lm_Lay h) (hr : ∀ t, t < 6 → ∀ b, lm_r h 91 t = some b → 119 ≤ b ∧ b < 1000000 ∧ lm_sh h b = some (0, 2)) (hK : ∀ h', CP 1 84 h h' → K h') : lm_call D 53 [.ref 1, .ref 84] h (lm_kV K) := by
  obtain ⟨d, rfl⟩ := q_dp hD
  refine e_53b1 hl ?_
  have base : CP 1 84 h h → True := fun _ => trivial
  generalize hz : (lm_row (lm_row (lm_row (lm_row (lm_row (lm_row (lm_si (lm_si (lm_si (lm_si (lm_si (lm_si h 1 0 (lm_i h 84 0)) 1 1 (lm_i h 84 1)) 1 2 (lm_i h 84 2)) 1 3 (lm_i h 84 3)) 1 4 (lm_i h 84 4)) 1 5 (lm_i h 84 5)) 2 (va_cpy (h.2.1 85) (h.2.1 2) 0 0 5)) 3 (va_cpy (h.2.1 86) (h.2.1 3) 0 0 6)) 4 (va_cpy (h.2.1 87) (h.2.1 4) 0 0 30)) 5 (va_cpy (h.2.1 88) (h.2.1 5) 0 0 5)) 6 (va_cpy (h.2.1 89) (h.2.1 6) 0 0 30)) 7 (va_cpy (h.2.1 90) (h.2.1 7) 0 0 5)) = h0
  have z1 : h0.1 = h.1 := by rw [← hz]; rfl
  have zr : lm_r h0 = lm_r h := by rw [← hz]; rfl
  have zl : lm_l h0 = lm_l h := by rw [← hz]; rfl
  have zi : ∀ a j, lm_i h0 a j = if a = 7 then va_cpy (h.2.1 90) (h.2.1 7) 0 0 5 j else if a = 6 then va_cpy (h.2.1 89) (h.2.1 6) 0 0 30 j else if a = 5 then va_cpy (h.2.1 88) (h.2.1 5) 0 0 5 j else if a = 4 then va_cpy (h.2.1 87) (h.2.1 4) 0 0 30 j else if a = 3 then va_cpy (h.2.1 86) (h.2.1 3) 0 0 6 j else if a = 2 then va_cpy (h.2.1 85) (h.2.1 2) 0 0 5 j else if a = 1 then (if j = 5 then lm_i h 84 5 else if j = 4 then lm_i h 84 4 else if j = 3 then lm_i h 84 3 else if j = 2 then lm_i h 84 2 else if j = 1 then lm_i h 84 1 else if j = 0 then lm_i h 84 0 else lm_i h 1 j) else lm_i h a j := by
    intro a j
    rw [← hz]
    simp only [pi_row, pi_si]
    by_cases c : a = 1
    · subst c
      simp only [Nat.reduceEqDiff, if_true, if_false]
    · simp only [if_neg c]
  have l0 : lm_Lay h0 := lm_Lay_refs hl z1 (fun a k r q _ => by rw [zr]; exact q)
  clear hz
  have lp : ∀ r x : Nat, r + x = 6 → ∀ z : lm_H, lm_Lay z → z.1 = h0.1 → lm_i z = lm_i h0 → lm_l z = lm_l h0 → (∀ a, ¬ a = 8 → lm_r z a = lm_r h a) → (∀ j, j < x → lm_r z 8 j = lm_r h 91 j) → (lm_W (d) 53 137 [some (.ref 1), some (.ref 84), some (.int (Int32.ofNat x))] [] z (lm_kV K)) := by
    intro r
    induction r with
    | zero =>
      intro x hx z a1 a2 a3 a4 a5 a6
      have : x = 6 := by omega
      subst this
      refine b_53b1_137 _ a1 ?_
      rw [if_neg (by decide)]
      have gi : ∀ a j, lm_i z a j = lm_i h0 a j := fun a j => by rw [a3]
      refine hK z ⟨a1, by rw [a2, z1], fun a ha => ?_, fun a => by rw [a4, zl], a5, a6, fun j hj => ?_, fun j hj => ?_, fun j hj => ?_, fun j hj => ?_, fun j hj => ?_, fun j hj => ?_, fun j hj => ?_⟩
      · funext j
        rw [gi, zi, if_neg (by omega), if_neg (by omega), if_neg (by omega), if_neg (by omega), if_neg (by omega), if_neg (by omega), if_neg (by omega)]
      · have h7 : j = 0 ∨ j = 1 ∨ j = 2 ∨ j = 3 ∨ j = 4 ∨ j = 5 := by omega
        rw [gi, zi]
        rcases h7 with rfl | rfl | rfl | rfl | rfl | rfl <;> simp only [Nat.reduceEqDiff, if_true, if_false]
      · rw [gi, zi]
        simp only [Nat.reduceAdd, Nat.reduceEqDiff, if_true, if_false]
        exact cpy0 _ _ hj
      · rw [gi, zi]
        simp only [Nat.reduceAdd, Nat.reduceEqDiff, if_true, if_false]
        exact cpy0 _ _ hj
      · rw [gi, zi]
        simp only [Nat.reduceAdd, Nat.reduceEqDiff, if_true, if_false]
        exact cpy0 _ _ hj
      · rw [gi, zi]
        simp only [Nat.reduceAdd, Nat.reduceEqDiff, if_true, if_false]
        exact cpy0 _ _ hj
      · rw [gi, zi]
        simp only [Nat.reduceAdd, Nat.reduceEqDiff, if_true, if_false]
        exact cpy0 _ _ hj
      · rw [gi, zi]
        simp only [Nat.reduceAdd, Nat.reduceEqDiff, if_true, if_false]
        exact cpy0 _ _ hj
    | succ r ih =>
      intro x hx z a1 a2 a3 a4 a5 a6
      refine b_53b1_137 _ a1 ?_
      rw [if_pos (by rw [show (6 : Int32) = Int32.ofNat 6 from rfl, q_lt (by omega) (by omega)]; omega), q_in (by omega) (by decide), q_in (by omega) (by decide), q_nat (by omega), q_a1]
      refine ⟨fun b hb => ?_, ?_⟩
      · rw [a5 91 (by decide)] at hb
        obtain ⟨b1, b2, b3⟩ := hr x (by omega) b hb
        unfold lm_sh at b3 ⊢
        rw [if_pos b2] at b3 ⊢
        rw [a2, z1]
        exact b3
      · refine ih (x + 1) (by omega) _ (lm_Lay_sr a1 rfl) a2 a3 a4 (fun a ha => ?_) (fun j hj => ?_)
        · funext j
          rw [pr_sr, if_neg ha, a5 a ha]
        · rw [pr_sr, if_pos rfl]
          by_cases e : j = x
          · subst e
            rw [if_pos rfl, a5 91 (by decide)]
          · rw [if_neg e]
            exact a6 j (by omega)
  exact lp 6 0 (by omega) h0 l0 rfl rfl rfl (fun a _ => by rw [zr]) (fun j hj => by omega)
