/-! law: the call. -/
section Xl98plaw
variable {xl : (Nat → Int32) × Nat}
abbrev SK2 : List Nat := [0, 11, 12, 13, 14, 15, 16, 17, 75, 93, 98, 99, 100, 101, 102]
abbrev TK2 : List Nat := [0, 6, 10, 11, 15, 16, 17, 18]
theorem INV_lw {nc : Nat} {h h' : lm_H} (H : INV xl nc h) (a : fr SK2 TK2 h h') (ms : iv_ms h') (tp : iT h') : INV xl (nc + 1) h' := by
  obtain ⟨h1, h2, v, n, m, cu, lo, W, B, h3, i1, i2, i3, i4, i5, i6⟩ := H
  have I : INVs h' := by
    obtain ⟨⟨a1, a2, a3, a4⟩, ⟨b0, b1⟩, c1, c2, c3, c4, c5⟩ := i1
    have oc := OC_fr a (hi_of (by decide))
    have fi : ∀ c, SK2.contains c = false → ¬ c = 92 → lm_i h' c = lm_i h c := fun c h1 h2 => fr_i a h1 h2
    have e94 := fi 94 (by decide) (by decide)
    refine ⟨⟨fr_Lay a a1, ?_, by rw [e94]; exact a3, ms⟩, ⟨?_, ?_⟩, tp, ?_, ?_, ?_, ?_⟩
    · rw [e94]
      exact tw_of a2 (fi 1 (by decide) (by decide)) (fi 2 (by decide) (by decide)) (fi 3 (by decide) (by decide)) (fi 4 (by decide) (by decide)) (fi 5 (by decide) (by decide)) (fi 6 (by decide) (by decide)) (fi 7 (by decide) (by decide))
    · exact iI_of b0 oc (fun t => by rw [fr_r a]) (fi 10 (by decide) (by decide)) (fi 96 (by decide) (by decide)) (fi 95 (by decide) (by decide)) (fi 76 (by decide) (by decide)) (fi 77 (by decide) (by decide)) (fi 78 (by decide) (by decide)) (fi 79 (by decide) (by decide)) (fi 80 (by decide) (by decide)) (fi 81 (by decide) (by decide)) (fi 82 (by decide) (by decide))
    · exact iI_of b1 oc (fun t => by rw [fr_r a]) (fi 10 (by decide) (by decide)) (fi 96 (by decide) (by decide)) (fi 95 (by decide) (by decide)) (fi 84 (by decide) (by decide)) (fi 85 (by decide) (by decide)) (fi 86 (by decide) (by decide)) (fi 87 (by decide) (by decide)) (fi 88 (by decide) (by decide)) (fi 89 (by decide) (by decide)) (fi 90 (by decide) (by decide))
    · rw [fi 97 (by decide) (by decide)]
      exact c2
    · exact iL_of c3 oc (fun t _ => by rw [fr_r a]) (by rw [e94]) (fun j _ => by rw [e94])
    · unfold iY at c4 ⊢
      rw [fi 58 (by decide) (by decide), fi 64 (by decide) (by decide), fi 65 (by decide) (by decide), fi 66 (by decide) (by decide), fi 115 (by decide) (by decide), fi 116 (by decide) (by decide), fi 117 (by decide) (by decide), fr_m a (s := 55) (by decide), fr_m a (s := 56) (by decide)]
      exact c4
    · rw [fi 74 (by decide) (by decide)]
      exact c5
  refine ⟨RM_of h1 (scr_fr a (by decide)), sI_fr h2 a I.1.1 (by decide), v, n, m, cu, lo, W, B, by omega, I, tb_of i2 (OC_fr a (hi_of (by decide))) (by rw [fr_r a]) (fr_i a (by decide) (by decide)), CV_fr i3 a (by decide), fun q => ?_, fun q => ?_, fun q => ?_⟩
  · rw [fr_m a (by decide), fr_m a (by decide)] at q
    exact rt_fr a (i4 q) (by decide)
  · rw [fr_m a (by decide), fr_m a (by decide)] at q
    exact svm_fr (i5 q) a (by decide) (by decide)
  · rw [fr_m a (by decide), fr_m a (by decide)] at q
    exact alm_fr (i6 q) a (by decide) (by decide)
theorem Fs_hi {a k : Nat} (h : 119 ≤ a) : lm_Fs a k = none := by
  cases q : lm_Fs a k with
  | none => rfl
  | some r =>
    obtain ⟨x, x1, _⟩ := lm_Fs_in q
    have := (List.getElem?_eq_some_iff.mp x1).1
    have e : lm_S.length = 119 := by decide +kernel
    omega
theorem len_119 {h : lm_H} (hl : lm_Lay h) : 119 ≤ h.1.length := by
  have := hl.1 118 _ S_118
  have := (List.getElem?_eq_some_iff.mp this).1
  omega
/-- what a new law brings -/
theorem nl_f {h : lm_H} {l : Nat} (hl : lm_Lay h) (hlen : h.1.length + 1 < 1000000) : lm_Lay (nlH h l) ∧ (nlH h l).1 = h.1 ++ [(0, 2)] ++ [(1, l)] ∧ (∀ a, a < h.1.length → lm_i (nlH h l) a = lm_i h a) ∧ (∀ a, a < h.1.length → lm_r (nlH h l) a = lm_r h a) ∧ lm_r (nlH h l) h.1.length 0 = some (h.1.length + 1) ∧ (∀ j, j < l → lm_i (nlH h l) (h.1.length + 1) j = lm_i h 17 j) ∧ lm_i (nlH h l) 1000000 = lm_i h 1000000 ∧ lm_r (nlH h l) 1000000 = lm_r h 1000000 := by
  have l19 := len_119 hl
  have e1 := len_new h (0, 2)
  have ni : ∀ a, (a < h.1.length ∨ a = 1000000) → ∀ j, (lm_new (lm_new h (0, 2)) (1, l)).2.1 a j = h.2.1 a j := by
    intro a ha j
    show lm_w (lm_w h.2.1 h.1.length (fun _ => 0)) (lm_new h (0, 2)).1.length (fun _ => 0) a j = _
    unfold lm_w
    rw [e1, if_neg (by omega), if_neg (by omega)]
  have nr : ∀ a, (a < h.1.length ∨ a = 1000000) → ∀ j, (lm_new (lm_new h (0, 2)) (1, l)).2.2.2 a j = h.2.2.2 a j := by
    intro a ha j
    show lm_w (lm_w h.2.2.2 h.1.length (fun _ => none)) (lm_new h (0, 2)).1.length (fun _ => none) a j = _
    unfold lm_w
    rw [e1, if_neg (by omega), if_neg (by omega)]
  refine ⟨lm_Lay_sr (lm_Lay_row (lm_Lay_new (lm_Lay_new hl _) _) _ _) (Fs_hi l19), rfl, fun a ha => ?_, fun a ha => ?_, ?_, fun j hj => ?_, ?_, ?_⟩
  · funext j
    unfold nlH
    rw [pi_sr, pi_row, if_neg (by omega)]
    exact ni a (Or.inl ha) j
  · funext j
    unfold nlH
    rw [pr_sr, if_neg (by omega), pr_row]
    exact nr a (Or.inl ha) j
  · unfold nlH
    rw [pr_sr, if_pos rfl, if_pos rfl]
  · unfold nlH
    rw [pi_sr, pi_row, if_pos rfl, cpy0 _ _ hj]
    exact ni 17 (by omega) j
  · funext j
    unfold nlH
    rw [pi_sr, pi_row, if_neg (by omega)]
    exact ni 1000000 (Or.inr rfl) j
  · funext j
    unfold nlH
    rw [pr_sr, if_neg (by omega), pr_row]
    exact nr 1000000 (Or.inr rfl) j
theorem wf_count {r : Nat → Int32} {c : Nat} (H : wf2 r) (hc : c < 6) (h85 : r 85 = Int32.ofNat c) : wf2 (up r 85 (Int32.ofNat (c + 1))) := by
  have e0 : (Int32.ofNat c).toInt = c := p_onI (by omega)
  have e1 : (Int32.ofNat (c + 1)).toInt = (c + 1 : Nat) := p_onI (by omega)
  obtain ⟨⟨w1, w2, w3, w4, w5, w6, w7, w8, w9, w10, w11, w12⟩, d1, d2, d3⟩ := H
  refine ⟨⟨?_, ?_, ?_, ?_, ?_, ?_, fun j hj => ?_, fun j hj => ?_, fun j hj => ?_, fun j hj => ?_, fun j hj => ?_, fun j hj => ?_⟩, fun j hj => ?_, fun j g hj hg => ?_, fun j hj => ?_⟩
  · simp (disch := omega) only [up_ne]; exact w1
  · simp (disch := omega) only [up_ne]; exact w2
  · simp (disch := omega) only [up_ne]; exact w3
  · simp (disch := omega) only [up_ne]; exact w4
  · rw [up_eq, p_le, p_le, e1]
    simp only [Int32.reduceToInt]
    omega
  · rw [up_eq, up_ne (by omega)]
    refine ⟨w6.1, ?_⟩
    have := w6.2
    rw [h85, p_lt, e0] at this
    rw [p_lt, e1]
    omega
  · simp (disch := omega) only [up_ne]; exact w7 j hj
  · simp (disch := omega) only [up_ne]; exact w8 j hj
  · simp (disch := omega) only [up_ne]; exact w9 j hj
  · simp (disch := omega) only [up_ne]; exact w10 j hj
  · simp (disch := omega) only [up_ne]; exact w11 j hj
  · simp (disch := omega) only [up_ne]; exact w12 j hj
  · simp (disch := omega) only [up_ne]; exact d1 j hj
  · simp (disch := omega) only [up_ne]; exact d2 j g hj hg
  · simp (disch := omega) only [up_ne]; exact d3 j hj
theorem lp_193 {d c N : Nat} {h : lm_H} {K : Int32 → lm_H → Prop} (hl : lm_Lay h) (hc : c < 6) (hN : N ≤ 400) (h15 : lm_i h 92 15 = Int32.ofNat N)
    (hK : ∀ z, fr [94] [] h z → (∀ p, p < N → lm_i z 94 (93 + (400 * c + p)) = lm_i h 100 p ∧ lm_i z 94 (2493 + (400 * c + p)) = lm_i h 101 p) → (∀ j, (j < 93 ∨ ¬ (93 + 400 * c ≤ j ∧ j < 93 + 400 * c + 400) ∧ ¬ (2493 + 400 * c ≤ j ∧ j < 2493 + 400 * c + 400)) → lm_i z 94 j = lm_i h 94 j) → K (Int32.ofNat c) (lm_si (lm_si (lm_si z 94 85 ((lm_i z 94 85) + 1)) 92 0 0) 92 1 ((lm_i z 92 1) + 1))) : (lm_W (d + 1) 193 61 [some (.ref 92), some (.int (Int32.ofNat c)), some (.int 0)] [] h (lm_kI K)) := by
  have lp : ∀ r x : Nat, r + x = N → ∀ z, fr [94] [] h z → (∀ p, p < x → lm_i z 94 (93 + (400 * c + p)) = lm_i h 100 p ∧ lm_i z 94 (2493 + (400 * c + p)) = lm_i h 101 p) → (∀ j, (j < 93 ∨ ¬ (93 + 400 * c ≤ j ∧ j < 93 + 400 * c + 400) ∧ ¬ (2493 + 400 * c ≤ j ∧ j < 2493 + 400 * c + 400)) → lm_i z 94 j = lm_i h 94 j) → (lm_W (d + 1) 193 61 [some (.ref 92), some (.int (Int32.ofNat c)), some (.int (Int32.ofNat x))] [] z (lm_kI K)) := by
    intro r
    induction r with
    | zero =>
      intro x hx z f1 z1 z2
      have : x = N := by omega
      subst this
      refine b_193_61 _ _ (fr_Lay f1 hl) ?_
      rw [fr_m f1 (s := 15) (by decide), h15, if_neg (by rw [q_lt (by omega) (by omega)]; omega)]
      exact hK z f1 z1 z2
    | succ r ih =>
      intro x hx z f1 z1 z2
      refine b_193_61 _ _ (fr_Lay f1 hl) ?_
      rw [fr_m f1 (s := 15) (by decide), h15, if_pos (by rw [q_lt (by omega) (by omega)]; omega), show (400 : Int32) = Int32.ofNat 400 from rfl, q_mul, show (93 : Int32) = Int32.ofNat 93 from rfl, show (2493 : Int32) = Int32.ofNat 2493 from rfl, q_add, q_add, q_add, q_add, q_in (by omega) (by decide), q_in (by omega) (by decide), q_in (by omega) (by decide), q_in (by omega) (by decide), q_nat (by omega), q_nat (by omega), q_nat (by omega), q_a1, fr_i f1 (c := 100) (by decide) (by decide), fr_i f1 (c := 101) (by decide) (by decide)]
      refine ih (x + 1) (by omega) _ (fr_si (fr_si f1 (by decide) (by decide) _ _) (by decide) (by decide) _ _) (fun p hp => ?_) (fun j hj => ?_)
      · simp only [pi_si, if_true]
        by_cases e : p = x
        · subst e
          refine ⟨?_, ?_⟩
          · rw [if_neg (by omega), if_pos (by omega)]
          · rw [if_pos (by omega)]
        · refine ⟨?_, ?_⟩
          · rw [if_neg (by omega), if_neg (by omega)]
            exact (z1 p (by omega)).1
          · rw [if_neg (by omega), if_neg (by omega)]
            exact (z1 p (by omega)).2
      · simp only [pi_si, if_true]
        rw [if_neg (by omega), if_neg (by omega)]
        exact z2 j hj
  exact lp N 0 (by omega) h (fr_refl _ _ _) (fun p hp => by omega) (fun _ _ => rfl)
end Xl98plaw
