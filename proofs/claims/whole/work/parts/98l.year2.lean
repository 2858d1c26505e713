/-! year: the call. -/
section Xl98lyear2
variable {xl : (Nat → Int32) × Nat}
abbrev SY : List Nat := [0, 18, 19, 20, 58, 59, 60, 61, 62, 63, 64, 65, 66, 67, 68, 69, 70, 71, 72, 103, 104, 105, 106, 107, 115, 116, 117, 118]
abbrev TY : List Nat := [0, 1, 19, 20, 21, 23, 24, 28, 55, 56, 57]
theorem INV_yr {nc : Nat} {h h' : lm_H} (H : INV xl nc h) (hn : nc ≤ 10000) (a : fr SY TY h h') (ms : iv_ms h') (yr : iY h') (h28 : lm_i h' 92 28 = -1) (hv : lm_i h' 92 1 = lm_i h 92 1 + 1) : INV xl (nc + 1) h' := by
  obtain ⟨h1, h2, v, n, m, cu, lo, W, B, h3, i1, i2, i3, i4⟩ := H
  have oc := OC_fr a (hi_of (by decide))
  have fi : ∀ c, SY.contains c = false → ¬ c = 92 → lm_i h' c = lm_i h c := fun c h1 h2 => fr_i a h1 h2
  have e94 := fi 94 (by decide) (by decide)
  have I : INVs h' := by
    obtain ⟨⟨a1, a2, a3, a4⟩, ⟨b0, b1⟩, c1, c2, c3, c4, c5⟩ := i1
    refine ⟨⟨fr_Lay a a1, ?_, by rw [e94]; exact a3, ms⟩, ⟨?_, ?_⟩, iT_fr c1 a (by decide) (by decide), ?_, ?_, yr, ?_⟩
    · rw [e94]
      exact tw_of a2 (fi 1 (by decide) (by decide)) (fi 2 (by decide) (by decide)) (fi 3 (by decide) (by decide)) (fi 4 (by decide) (by decide)) (fi 5 (by decide) (by decide)) (fi 6 (by decide) (by decide)) (fi 7 (by decide) (by decide))
    · exact iI_of b0 oc (fun t => by rw [fr_r a]) (fi 10 (by decide) (by decide)) (fi 96 (by decide) (by decide)) (fi 95 (by decide) (by decide)) (fi 76 (by decide) (by decide)) (fi 77 (by decide) (by decide)) (fi 78 (by decide) (by decide)) (fi 79 (by decide) (by decide)) (fi 80 (by decide) (by decide)) (fi 81 (by decide) (by decide)) (fi 82 (by decide) (by decide))
    · exact iI_of b1 oc (fun t => by rw [fr_r a]) (fi 10 (by decide) (by decide)) (fi 96 (by decide) (by decide)) (fi 95 (by decide) (by decide)) (fi 84 (by decide) (by decide)) (fi 85 (by decide) (by decide)) (fi 86 (by decide) (by decide)) (fi 87 (by decide) (by decide)) (fi 88 (by decide) (by decide)) (fi 89 (by decide) (by decide)) (fi 90 (by decide) (by decide))
    · rw [fi 97 (by decide) (by decide)]
      exact c2
    · exact iL_of c3 oc (fun t _ => by rw [fr_r a]) (by rw [e94]) (fun j _ => by rw [e94])
    · rw [fi 74 (by decide) (by decide)]
      exact c5
  obtain ⟨v1, v2, v3, v4⟩ := i3
  have e1 : lm_i h' 92 1 = Int32.ofNat (v + 1) := by
    rw [hv, v1]
    exact q_add v 1
  have old : ∀ x : Int32, (x = -1 ∨ ∃ b, b ≤ v ∧ x = Int32.ofNat b) → ¬ x = Int32.ofNat (v + 1) := by
    intro x hx q
    rcases hx with rfl | ⟨b, b1, rfl⟩
    · exact ne_m1 (by omega) q.symm
    · rw [q_eq (by omega) (by omega)] at q
      omega
  have uq : ∀ x : Int32, (x = -1 ∨ ∃ b, b ≤ v ∧ x = Int32.ofNat b) → (x = -1 ∨ ∃ b, b ≤ v + 1 ∧ x = Int32.ofNat b) := by
    intro x hx
    rcases hx with q | ⟨b, b1, q⟩
    · exact Or.inl q
    · exact Or.inr ⟨b, by omega, q⟩
  have e39 := fr_m a (s := 39) (by decide)
  have e50 := fr_m a (s := 50) (by decide)
  refine ⟨RM_of h1 (scr_fr a (by decide)), sI_fr h2 a I.1.1 (by decide), v + 1, n, m, cu, lo, W, B, by omega, I, tb_of i2 oc (by rw [fr_r a]) e94, ⟨e1, Or.inl h28, ?_, ?_⟩, fun q => ?_, fun q => ?_, fun q => ?_⟩
  · rw [e39]
    exact uq _ v3
  · rw [e50]
    exact uq _ v4
  · rw [h28, e1] at q
    exact absurd q (old _ (Or.inl rfl))
  · rw [e39, e1] at q
    exact absurd q (old _ v3)
  · rw [e50, e1] at q
    exact absurd q (old _ v4)
theorem gS_yG {mn E T : Nat → Nat} {n m N s j : Nat} {cu lo : Int32} {WB : (Nat → Int32) → Nat → (Nat → Int32) × (Nat → Int32)} {h : lm_H} (hj : j < n) (H : ∀ i, i < N → ry h n i (yS mn E T n m cu lo WB s (i + 1)).2.2.2.1 (yS mn E T n m cu lo WB s (i + 1)).2.2.2.2.1 (yS mn E T n m cu lo WB s (i + 1)).2.2.2.2.2) : ∀ e, e ≤ N → yG mn E T n m cu lo WB s j e = gS (lm_i h 117) j e := by
  intro e
  induction e with
  | zero => exact fun _ => rfl
  | succ e ih =>
    intro he
    rw [yG, gS, ih (by omega), (H e (by omega) j hj).2.2.2.2]
theorem op_131 {D nc : Nat} {h : lm_H} (hD : 200 ≤ D) (hn : nc ≤ 10000) (H : INV xl nc h) (x y : Int32) : lm_call D 131 [.ref 0, .int x, .int y] h (lm_kI fun r h1 => lm_call D 256 [.ref 92, .int x, .int y] h1 (lm_kI fun r2 h2 => r = r2 ∧ INV xl (nc + 1) h2)) := by
  obtain ⟨d, rfl⟩ := q_dp hD
  obtain ⟨v, n, m, cu, lo, W, B, T, R, s, hv, I, hl, h5, h6, hn1, hm1, hn0, hm0, hw, t1, t2, t3⟩ := INV_go H
  obtain ⟨⟨_, ht, hw2, ⟨m1, m2, m3, m4⟩, m5, m6, m7, m8, m9⟩, _, tp, _⟩ := I.1
  refine e_131 x y hl ?_
  by_cases c1 : x < 0
  · rw [if_pos c1]
    refine e_256 _ _ (lm_Lay_si (lm_Lay_si hl _ _ _) _ _ _) ?_
    rw [if_pos c1]
    exact ⟨rfl, rfz H _ (Or.inl ⟨rfl, rfl⟩)⟩
  rw [if_neg c1]
  by_cases c2 : 1000000 < x
  · rw [if_pos c2]
    refine e_256 _ _ (lm_Lay_si (lm_Lay_si hl _ _ _) _ _ _) ?_
    rw [if_neg c1, if_pos c2]
    exact ⟨rfl, rfz H _ (Or.inl ⟨rfl, rfl⟩)⟩
  rw [if_neg c2]
  by_cases c3 : y < 1
  · rw [if_pos c3]
    refine e_256 _ _ (lm_Lay_si (lm_Lay_si hl _ _ _) _ _ _) ?_
    rw [if_neg c1, if_neg c2, if_pos c3]
    exact ⟨rfl, rfz H _ (Or.inl ⟨rfl, rfl⟩)⟩
  rw [if_neg c3]
  by_cases c4 : 40 < y
  · rw [if_pos c4]
    refine e_256 _ _ (lm_Lay_si (lm_Lay_si hl _ _ _) _ _ _) ?_
    rw [if_neg c1, if_neg c2, if_neg c3, if_pos c4]
    exact ⟨rfl, rfz H _ (Or.inl ⟨rfl, rfl⟩)⟩
  rw [if_neg c4]
  obtain ⟨a, a1, rfl⟩ := q_ex c1
  obtain ⟨N, N1, rfl⟩ := q_ex (x := y) (by simp only [p_lt, Int32.reduceToInt] at c3 ⊢; omega)
  rw [show (1000000 : Int32) = Int32.ofNat 1000000 from rfl, q_lt (by omega) (by omega)] at c2
  rw [show (1 : Int32) = Int32.ofNat 1 from rfl, q_lt (by omega) (by omega)] at c3
  rw [show (40 : Int32) = Int32.ofNat 40 from rfl, q_lt (by omega) (by omega)] at c4
  obtain ⟨WB, w1, w2, w3⟩ := WB_ex I.1 I.2.1
  obtain ⟨E, e1, _⟩ := dice_ex I.1 I.2.1
  have mk : ∀ k, k < 5 → (lm_i h 94 (76 + k)).toNatClampNeg ≤ 5 ∧ lm_i h 94 (76 + k) = Int32.ofNat (lm_i h 94 (76 + k)).toNatClampNeg := by
    intro k hk
    have q := hw2.1.2.2.2.2.2.2.2.2.2.2.2 k hk
    obtain ⟨t, _, q2, q3⟩ := p_ix q.1
    have q4 := q.2
    simp only [p_le, Int32.reduceToInt] at q4
    rw [q2, q_nat (by omega)]
    exact ⟨by omega, rfl⟩
  refine cl_86 (n := n) (m := m) (cu := cu) (lo := lo) (WB := WB) (mn := fun k => (lm_i h 94 (76 + k)).toNatClampNeg) (E := E) (T := T) (by omega) hl h5 h6 (by omega) (by omega) hn0 w1 (fun k hk => ⟨(mk k (by omega)).1, ?_⟩) t2 t3 (fun k hk g hg => ⟨(e1 k (by omega) g (by omega)).1, ?_⟩) (fun z K2 D2 M e he hD2 fz hM hK2 => w2 z K2 D2 M e (by omega) fz hM hK2) (fun h1 f1 b1 b2 b3 b4 => ?_)
  · rw [← (mk k (by omega)).2]
    exact ht.2.2.2.2.2.2 k (by omega)
  · rw [show k * 6 + g = 6 * k + g from by omega]
    exact (e1 k (by omega) g (by omega)).2.1
  have f2 : fr [0, 18, 19, 20, 58, 59, 60, 61, 62, 63, 64, 65, 66, 67, 68, 69, 70, 71, 72] [] h (lm_si h1 0 15 0) := fr_si (fr_sub f1 (by decide) (by decide)) (by decide) (by decide) _ _
  have y0 : ∀ j, ¬ j = 15 → lm_i (lm_si h1 0 15 0) 0 j = lm_i h 0 j := by
    intro j hj
    rw [pi_si, if_pos rfl, if_neg hj, fr_i f1 (by decide) (by decide)]
  have y15 : lm_i (lm_si h1 0 15 0) 0 15 = 0 := rfl
  have y58 : lm_i (lm_si h1 0 15 0) 58 = lm_i h1 58 := rfl
  have y64 : lm_i (lm_si h1 0 15 0) 64 = lm_i h1 64 := rfl
  have y65 : lm_i (lm_si h1 0 15 0) 65 = lm_i h1 65 := rfl
  have y66 : lm_i (lm_si h1 0 15 0) 66 = lm_i h1 66 := rfl
  generalize lm_si h1 0 15 0 = h2 at f2 y0 y15 y58 y64 y65 y66
  have e94 := fr_i f2 (c := 94) (by decide) (by decide)
  refine cl_256 (n := n) (m := m) (cu := cu) (lo := lo) (WB := WB) (mn := fun k => (lm_i h 94 (76 + k)).toNatClampNeg) (E := E) (T := T) (by omega) (fr_Lay f2 hl) h5 h6 (by omega) (by omega) (by omega) (by rw [e94]; exact hn1) w1 (fun k hk => ⟨(mk k (by omega)).1, ?_⟩) t2 (fun k hk => ?_) (fun k hk g hg => ⟨(e1 k (by omega) g (by omega)).1, ?_⟩) (fun z K2 D2 M e he hD2 fz hM hK2 => ?_) (fun h3 f3 r1 r2 r3 => ?_)
  · rw [e94]
    exact (mk k (by omega)).2
  · rw [e94]
    exact t1 k hk
  · rw [e94]
    exact (e1 k (by omega) g (by omega)).2.2
  · exact w3 SY TY z K2 D2 M e (by omega) (fr_trans (fr_sub f2 (by decide) (by decide)) (fr_sub fz (by decide) (by decide))) (by decide) hM hK2
  have f5 : fr RR [0, 1, 19, 20, 21, 23, 24, 28, 55, 56, 57] h2 (lm_si (lm_si (lm_si h3 92 28 (-1)) 92 0 0) 92 1 (lm_i h3 92 1 + 1)) := fr_s92 (fr_s92 (fr_s92 (fr_sub f3 (by decide) (by decide)) (by decide) _) (by decide) _) (by decide) _
  have f6 : fr SY TY h (lm_si (lm_si (lm_si h3 92 28 (-1)) 92 0 0) 92 1 (lm_i h3 92 1 + 1)) := fr_trans (fr_sub f2 (by decide) (by decide)) (fr_sub f5 (by decide) (by decide))
  have z1 : lm_i (lm_si (lm_si (lm_si h3 92 28 (-1)) 92 0 0) 92 1 (lm_i h3 92 1 + 1)) 92 1 = lm_i h 92 1 + 1 := by
    show lm_i h3 92 1 + 1 = _
    rw [fr_m f3 (by decide), fr_m f2 (by decide)]
  have z28 : lm_i (lm_si (lm_si (lm_si h3 92 28 (-1)) 92 0 0) 92 1 (lm_i h3 92 1 + 1)) 92 28 = -1 := rfl
  have z0 : lm_i (lm_si (lm_si (lm_si h3 92 28 (-1)) 92 0 0) 92 1 (lm_i h3 92 1 + 1)) 92 0 = 0 := rfl
  have z55 : lm_i (lm_si (lm_si (lm_si h3 92 28 (-1)) 92 0 0) 92 1 (lm_i h3 92 1 + 1)) 92 55 = Int32.ofNat N := r1
  have z56 : lm_i (lm_si (lm_si (lm_si h3 92 28 (-1)) 92 0 0) 92 1 (lm_i h3 92 1 + 1)) 92 56 = Int32.ofNat n := r2
  have zr : ∀ i, i < N → ry (lm_si (lm_si (lm_si h3 92 28 (-1)) 92 0 0) 92 1 (lm_i h3 92 1 + 1)) n i _ _ _ := r3
  generalize lm_si (lm_si (lm_si h3 92 28 (-1)) 92 0 0) 92 1 (lm_i h3 92 1 + 1) = h4 at f5 f6 z1 z28 z0 z55 z56 zr
  refine ⟨rfl, INV_yr H hn f6 ⟨⟨?_, ?_, ?_, ?_⟩, ?_⟩ ⟨N, n, by omega, h5, fun q => by omega, ?_, z55, ?_, z56, fun i hi j hj => ?_, fun j hj => ?_⟩ z28 z1⟩
  · rw [fr_i f5 (by decide) (by decide), y15, z0]
  · rw [fr_i f5 (by decide) (by decide), y0 16 (by decide), fr_m f6 (by decide)]
    exact m2
  · rw [fr_i f5 (by decide) (by decide), y0 17 (by decide), fr_m f6 (by decide)]
    exact m3
  · rw [fr_i f6 (by decide) (by decide), fr_m f6 (by decide)]
    exact m4
  · rw [fr_i f6 (c := 75) (by decide) (by decide), fr_i f6 (c := 93) (by decide) (by decide)]
    exact ⟨m5, m6, m7, m8, m9⟩
  · rw [fr_i f5 (by decide) (by decide), y58]
    exact b1
  · rw [fr_i f5 (by decide) (by decide), y58]
    exact b2
  · obtain ⟨q1, q2, q3, q4, q5⟩ := zr i hi j hj
    refine ⟨_, _, q1, q2, ?_, q3, ?_, q4⟩
    · rw [fr_i f5 (by decide) (by decide), y64]
      exact (b3 i hi j hj).1
    · rw [fr_i f5 (by decide) (by decide), y65]
      exact (b3 i hi j hj).2
  · rw [fr_i f5 (by decide) (by decide), y66, b4 j hj]
    exact gS_yG hj zr N (Nat.le_refl N)
end Xl98lyear2
