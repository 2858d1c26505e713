/-! law: the call itself. -/
section Xl98qlaw2
variable {xl : (Nat → Int32) × Nat}
theorem op_107f {D nc c L v : Nat} {h : lm_H} {b : Nat → Nat} (hD : 200 ≤ D) (H : INV xl nc h) (hc : c < 6) (hc2 : lm_i h 94 85 = Int32.ofNat c) (hL : lm_i h 92 10 = Int32.ofNat L) (hL4 : L ≤ 400) (hb : ∀ j, j < 400 → b j < 256 ∧ lm_i h 12 j = Int32.ofNat (b j) ∧ lm_i h 98 j = sb (b j)) (V1 : VFc b L v) (V2 : VFm b L v) : lm_call (D - 1) 25 [.ref 13, .ref 12, .int (Int32.ofNat L)] (lm_si h 11 1 0) (lm_kR fun r2 h1 => (lm_o r2 (lm_call D 193 [.ref 92] (lm_si (lm_si (lm_si h1 0 16 (lm_i h1 13 7)) 0 15 (-6)) 75 4 ((lm_i h1 75 4) + 1)) (lm_kI fun r2 h2 => -6 = r2 ∧ INV xl (nc + 1) h2)) (fun o3 => lm_in (lm_i h1 1 4) 6 False ((∀ b, (some o3) = some b → lm_sh (lm_si h1 0 16 (lm_i h1 13 7)) b = some (0, 2)) ∧ (lm_call D 193 [.ref 92] (lm_si (lm_si (lm_sr (lm_si h1 0 16 (lm_i h1 13 7)) 8 ((lm_i h1 1 4).toNatClampNeg) (some o3)) 1 4 ((lm_i h1 1 4) + 1)) 0 15 0) (lm_kI fun r2 h2 => ((lm_i h1 1 4) + 1) - 1 = r2 ∧ INV xl (nc + 1) h2)))))) := by
  obtain ⟨⟨hl, ht, hw, ⟨m1, m2, m3, m4⟩, m5, m6, m7, m8, m9⟩, ⟨b0, b1⟩, tp, c2, c3, c4, c5⟩ := INV_s H
  refine V1 (D - 1) _ _ (by omega) (lm_Lay_si hl _ _ _) (fun j hj => (hb j (by omega)).2.1) (fun h1 f1 e7 => ?_)
  show lm_call D 193 [.ref 92] (lm_si (lm_si (lm_si h1 0 16 (lm_i h1 13 7)) 0 15 (-6)) 75 4 ((lm_i h1 75 4) + 1)) (lm_kI fun r2 h2 => -6 = r2 ∧ INV xl (nc + 1) h2)
  have f0 : fr [11, 13, 14, 15, 16, 17] [] h h1 := fr_trans (fr_si (fr_refl _ _ _) (by decide) (by decide) _ _) (fr_sub f1 (by decide) (by decide))
  have f2 : fr [0, 11, 13, 14, 15, 16, 17, 75] [] h (lm_si (lm_si (lm_si h1 0 16 (lm_i h1 13 7)) 0 15 (-6)) 75 4 ((lm_i h1 75 4) + 1)) := fr_si (fr_si (fr_si (fr_sub f0 (by decide) (by decide)) (by decide) (by decide) _ _) (by decide) (by decide) _ _) (by decide) (by decide) _ _
  have y15 : lm_i (lm_si (lm_si (lm_si h1 0 16 (lm_i h1 13 7)) 0 15 (-6)) 75 4 ((lm_i h1 75 4) + 1)) 0 15 = -6 := rfl
  have y16 : lm_i (lm_si (lm_si (lm_si h1 0 16 (lm_i h1 13 7)) 0 15 (-6)) 75 4 ((lm_i h1 75 4) + 1)) 0 16 = Int32.ofNat v := e7
  have y17 : lm_i (lm_si (lm_si (lm_si h1 0 16 (lm_i h1 13 7)) 0 15 (-6)) 75 4 ((lm_i h1 75 4) + 1)) 0 17 = lm_i h 0 17 := by
    show lm_i h1 0 17 = _
    rw [fr_i f0 (by decide) (by decide)]
  have y11 : lm_i (lm_si (lm_si (lm_si h1 0 16 (lm_i h1 13 7)) 0 15 (-6)) 75 4 ((lm_i h1 75 4) + 1)) 11 1 = 0 := by
    show lm_i h1 11 1 = 0
    rw [fr_i f1 (by decide) (by decide)]
    rfl
  have y75 : ∀ j, lm_i (lm_si (lm_si (lm_si h1 0 16 (lm_i h1 13 7)) 0 15 (-6)) 75 4 ((lm_i h1 75 4) + 1)) 75 j = if j = 4 then lm_i h 75 4 + 1 else lm_i h 75 j := by
    intro j
    show (if j = 4 then lm_i h1 75 4 + 1 else lm_i h1 75 j) = _
    rw [fr_i f0 (by decide) (by decide)]
  generalize lm_si (lm_si (lm_si h1 0 16 (lm_i h1 13 7)) 0 15 (-6)) 75 4 ((lm_i h1 75 4) + 1) = h2 at f2 y15 y16 y17 y11 y75
  obtain ⟨d, rfl⟩ := q_dp hD
  refine e_193 (fr_Lay f2 hl) ?_
  rw [fr_i f2 (c := 94) (by decide) (by decide), hc2, if_neg (by rw [q_e6 (by omega)]; omega)]
  refine V2 _ h2 _ (by omega) (fr_Lay f2 hl) (by rw [fr_i f2 (c := 98) (by decide) (by decide)]; exact fun j hj => (hb j (by omega)).2.2) (by rw [fr_i f2 (c := 97) (by decide) (by decide)]; exact c2) (by rw [fr_m f2 (by decide)]; exact hL) (fun h3 g1 g2 g3 => ?_)
  rw [if_pos rfl]
  have f4 : fr SK2 TK2 h (lm_si (lm_si h3 92 0 (-6)) 93 6 ((lm_i h3 93 6) + 1)) := fr_si (fr_s92 (fr_trans (fr_sub f2 (by decide) (by decide)) (fr_sub g1 (by decide) (by decide))) (by decide) _) (by decide) (by decide) _ _
  have x0 : lm_i (lm_si (lm_si h3 92 0 (-6)) 93 6 ((lm_i h3 93 6) + 1)) 0 = lm_i h2 0 := by
    show lm_i h3 0 = _
    rw [fr_i g1 (by decide) (by decide)]
  have x11 : lm_i (lm_si (lm_si h3 92 0 (-6)) 93 6 ((lm_i h3 93 6) + 1)) 11 = lm_i h2 11 := by
    show lm_i h3 11 = _
    rw [fr_i g1 (by decide) (by decide)]
  have x75 : lm_i (lm_si (lm_si h3 92 0 (-6)) 93 6 ((lm_i h3 93 6) + 1)) 75 = lm_i h2 75 := by
    show lm_i h3 75 = _
    rw [fr_i g1 (by decide) (by decide)]
  have x93 : ∀ j, lm_i (lm_si (lm_si h3 92 0 (-6)) 93 6 ((lm_i h3 93 6) + 1)) 93 j = if j = 6 then lm_i h 93 6 + 1 else lm_i h 93 j := by
    intro j
    show (if j = 6 then lm_i h3 93 6 + 1 else lm_i h3 93 j) = _
    rw [fr_i g1 (by decide) (by decide), fr_i f2 (by decide) (by decide)]
  have x92 : ∀ s, ¬ s = 0 → lm_i (lm_si (lm_si h3 92 0 (-6)) 93 6 ((lm_i h3 93 6) + 1)) 92 s = lm_i h3 92 s := by
    intro s hs
    show (if s = 0 then -6 else lm_i h3 92 s) = _
    rw [if_neg hs]
  have x920 : lm_i (lm_si (lm_si h3 92 0 (-6)) 93 6 ((lm_i h3 93 6) + 1)) 92 0 = -6 := rfl
  refine ⟨rfl, INV_lw H f4 ⟨⟨?_, ?_, ?_, ?_⟩, ?_, ?_, ?_, ?_, ?_⟩ ⟨⟨0, by omega, ?_⟩, ?_⟩⟩
  · rw [x0, y15, x920]
  · rw [x0, y16, x92 11 (by decide), g3]
  · rw [x0, y17, x92 6 (by decide), fr_m g1 (by decide), fr_m f2 (by decide)]
    exact m3
  · rw [x11, y11, x92 10 (by decide), g2]
  · rw [x75, y75, x93, if_neg (by decide), if_neg (by decide)]; exact m5
  · rw [x75, y75, x93, if_neg (by decide), if_neg (by decide)]; exact m6
  · rw [x75, y75, x93, if_neg (by decide), if_neg (by decide)]; exact m7
  · rw [x75, y75, x93, if_neg (by decide), if_neg (by decide)]; exact m8
  · rw [x75, y75, x93, if_pos rfl, if_pos rfl, m9]
  · rw [x92 10 (by decide), g2]
    rfl
  · have q12 : lm_i (lm_si (lm_si h3 92 0 (-6)) 93 6 ((lm_i h3 93 6) + 1)) 12 = lm_i h 12 := by
      show lm_i h3 12 = _
      rw [fr_i g1 (by decide) (by decide), fr_i f2 (by decide) (by decide)]
    have q98 : lm_i (lm_si (lm_si h3 92 0 (-6)) 93 6 ((lm_i h3 93 6) + 1)) 98 = lm_i h 98 := by
      show lm_i h3 98 = _
      rw [fr_i g1 (by decide) (by decide), fr_i f2 (by decide) (by decide)]
    rw [q12, q98]
    exact tp.2
end Xl98qlaw2
