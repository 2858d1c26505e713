/-! law: granted. -/
section Xl98rlaw3
variable {xl : (Nat → Int32) × Nat}
theorem nlH_l {h : lm_H} {l c : Nat} (hc : c < h.1.length) : lm_l (nlH h l) c = lm_l h c := by
  funext j
  show lm_w (lm_w h.2.2.1 h.1.length (fun _ => 0)) (lm_new h (0, 2)).1.length (fun _ => 0) c j = h.2.2.1 c j
  rw [lm_w_ne _ _ _ (by rw [len_new]; omega), lm_w_ne _ _ _ (by omega)]
theorem op_107g {D nc c L l N : Nat} {h : lm_H} {b : Nat → Nat} {co : cD} {ef : eF} {kk nu pl : Nat → Nat} (hD : 200 ≤ D) (hn : nc ≤ 10000) (H : INV xl nc h) (hc : c < 6) (hc2 : lm_i h 94 85 = Int32.ofNat c) (hL : lm_i h 92 10 = Int32.ofNat L) (hL4 : L ≤ 400) (hb : ∀ j, j < 400 → b j < 256 ∧ lm_i h 12 j = Int32.ofNat (b j) ∧ lm_i h 98 j = sb (b j)) (hl4 : l < 401) (hT : tks kk nu pl N) (V1 : VOc b L l co) (V2 : VOm b L kk nu N) (hJ : JC l co ef) (hE : ET kk nu N 0 ef) (hR : eR ef) : lm_call (D - 1) 25 [.ref 13, .ref 12, .int (Int32.ofNat L)] (lm_si h 11 1 0) (lm_kR fun r2 h1 => (lm_o r2 (lm_call D 193 [.ref 92] (lm_si (lm_si (lm_si h1 0 16 (lm_i h1 13 7)) 0 15 (-6)) 75 4 ((lm_i h1 75 4) + 1)) (lm_kI fun r2 h2 => -6 = r2 ∧ INV xl (nc + 1) h2)) (fun o3 => lm_in (lm_i h1 1 4) 6 False ((∀ b, (some o3) = some b → lm_sh (lm_si h1 0 16 (lm_i h1 13 7)) b = some (0, 2)) ∧ (lm_call D 193 [.ref 92] (lm_si (lm_si (lm_sr (lm_si h1 0 16 (lm_i h1 13 7)) 8 ((lm_i h1 1 4).toNatClampNeg) (some o3)) 1 4 ((lm_i h1 1 4) + 1)) 0 15 0) (lm_kI fun r2 h2 => ((lm_i h1 1 4) + 1) - 1 = r2 ∧ INV xl (nc + 1) h2)))))) := by
  have hI := INV_s H
  have RMh := H.1
  obtain ⟨⟨hl, ht, hw, ⟨m1, m2, m3, m4⟩, m5, m6, m7, m8, m9⟩, ⟨b0, b1⟩, tp, c2, c3, c4, c5⟩ := hI
  have l19 := len_119 hl
  have len : h.1.length + 1 < 1000000 := by
    have := RMh.1.1
    omega
  refine V1 (D - 1) _ _ (by omega) (lm_Lay_si hl _ _ _) len (fun j hj => (hb j (by omega)).2.1) (fun z f1 e7 z17 => ?_)
  have f0 : fr [11, 13, 14, 15, 16, 17] [] h z := fr_trans (fr_si (fr_refl _ _ _) (by decide) (by decide) _ _) (fr_sub f1 (by decide) (by decide))
  have zlen : z.1 = h.1 := f0.1
  have zL := fr_Lay f0 hl
  obtain ⟨g1, g2, g3, g4, g5, g6, g7, g8⟩ := nl_f (l := l) zL (by rw [zlen]; exact len)
  rw [zlen] at g2 g3 g4 g5 g6 ⊢
  have e14 : lm_i (nlH z l) 1 4 = Int32.ofNat c := by rw [g3 1 (by omega), fr_i f0 (by decide) (by decide), ht.1.2.2.2.2.1]; exact hc2
  have e137 : lm_i (nlH z l) 13 7 = -1 := by rw [g3 13 (by omega)]; exact e7
  show lm_in (lm_i (nlH z l) 1 4) 6 False _
  rw [e14, q_in hc (by decide), q_nat (by omega), q_a1, q_s1 (by omega), Nat.add_sub_cancel, e137]
  have shn : ∀ w : lm_H, w.1 = h.1 ++ [(0, 2)] ++ [(1, l)] → lm_sh w h.1.length = some (0, 2) ∧ lm_sh w (h.1.length + 1) = some (1, l) := by
    intro w hw
    unfold lm_sh
    rw [if_pos (by omega), if_pos (by omega), hw]
    refine ⟨?_, ?_⟩
    · rw [List.getElem?_append_left (by rw [List.length_append]; exact Nat.lt_succ_self _), List.getElem?_append_right (Nat.le_refl _), Nat.sub_self]
      rfl
    · rw [List.getElem?_append_right (by rw [List.length_append]; exact Nat.le_refl _), List.length_append]
      show [(1, l)][h.1.length + 1 - (h.1.length + 1)]? = _
      rw [Nat.sub_self]
      rfl
  refine ⟨fun b hb => ?_, ?_⟩
  · obtain rfl := Option.some.inj hb
    exact (shn _ g2).1
  have q1 : lm_Lay (lm_si (lm_si (lm_sr (lm_si (nlH z l) 0 16 (-1)) 8 c (some h.1.length)) 1 4 (Int32.ofNat (c + 1))) 0 15 0) := lm_Lay_si (lm_Lay_si (lm_Lay_sr (lm_Lay_si g1 _ _ _) rfl) _ _ _) _ _ _
  have q2 : (lm_si (lm_si (lm_sr (lm_si (nlH z l) 0 16 (-1)) 8 c (some h.1.length)) 1 4 (Int32.ofNat (c + 1))) 0 15 0).1 = h.1 ++ [(0, 2)] ++ [(1, l)] := g2
  have q3 : ∀ a, a < h.1.length → [0, 1, 11, 13, 14, 15, 16, 17].contains a = false → lm_i (lm_si (lm_si (lm_sr (lm_si (nlH z l) 0 16 (-1)) 8 c (some h.1.length)) 1 4 (Int32.ofNat (c + 1))) 0 15 0) a = lm_i h a := by
    intro a ha hS
    have n : ¬ a ∈ [0, 1, 11, 13, 14, 15, 16, 17] := by simpa using hS
    simp only [List.mem_cons, List.not_mem_nil, or_false, not_or] at n
    funext j
    rw [pi_si, if_neg n.1, pi_si, if_neg n.2.1, pi_sr, pi_si, if_neg n.1, g3 a ha]
    by_cases k92 : a = 92
    · subst k92
      rw [fr_m f0 rfl]
    · rw [fr_i f0 (by
        have : ¬ a ∈ [11, 13, 14, 15, 16, 17] := by
          simp only [List.mem_cons, List.not_mem_nil, or_false, not_or]
          exact n.2.2
        simpa using this) k92]
  have q4 : ∀ j, lm_i (lm_si (lm_si (lm_sr (lm_si (nlH z l) 0 16 (-1)) 8 c (some h.1.length)) 1 4 (Int32.ofNat (c + 1))) 0 15 0) 0 j = if j = 15 then 0 else if j = 16 then -1 else lm_i h 0 j := by
    intro j
    show (if j = 15 then 0 else if j = 16 then -1 else lm_i (nlH z l) 0 j) = _
    rw [g3 0 (by omega), fr_i f0 (by decide) (by decide)]
  have q5 : ∀ j, lm_i (lm_si (lm_si (lm_sr (lm_si (nlH z l) 0 16 (-1)) 8 c (some h.1.length)) 1 4 (Int32.ofNat (c + 1))) 0 15 0) 1 j = if j = 4 then Int32.ofNat (c + 1) else lm_i h 1 j := by
    intro j
    show (if j = 4 then Int32.ofNat (c + 1) else lm_i (nlH z l) 1 j) = _
    rw [g3 1 (by omega), fr_i f0 (by decide) (by decide)]
  have q6 : lm_i (lm_si (lm_si (lm_sr (lm_si (nlH z l) 0 16 (-1)) 8 c (some h.1.length)) 1 4 (Int32.ofNat (c + 1))) 0 15 0) 11 1 = 0 := by
    show lm_i (nlH z l) 11 1 = 0
    rw [g3 11 (by omega), fr_i f1 (by decide) (by decide)]
    rfl
  have q7 : ∀ a, a < h.1.length → ¬ a = 8 → lm_r (lm_si (lm_si (lm_sr (lm_si (nlH z l) 0 16 (-1)) 8 c (some h.1.length)) 1 4 (Int32.ofNat (c + 1))) 0 15 0) a = lm_r h a := by
    intro a ha h8
    funext j
    rw [pr_si, pr_si, pr_sr, if_neg h8, pr_si, g4 a ha, fr_r f0]
  have q8 : ∀ j, lm_r (lm_si (lm_si (lm_sr (lm_si (nlH z l) 0 16 (-1)) 8 c (some h.1.length)) 1 4 (Int32.ofNat (c + 1))) 0 15 0) 8 j = if j = c then some h.1.length else lm_r h 8 j := by
    intro j
    rw [pr_si, pr_si, pr_sr, if_pos rfl, pr_si, g4 8 (by omega), fr_r f0]
  have q9 : lm_r (lm_si (lm_si (lm_sr (lm_si (nlH z l) 0 16 (-1)) 8 c (some h.1.length)) 1 4 (Int32.ofNat (c + 1))) 0 15 0) h.1.length 0 = some (h.1.length + 1) := by
    rw [pr_si, pr_si, pr_sr, if_neg (by omega), pr_si]
    exact g5
  have q10 : ∀ j, j < l → lm_i (lm_si (lm_si (lm_sr (lm_si (nlH z l) 0 16 (-1)) 8 c (some h.1.length)) 1 4 (Int32.ofNat (c + 1))) 0 15 0) (h.1.length + 1) j = co 0 j := by
    intro j hj
    rw [pi_si, if_neg (by omega), pi_si, if_neg (by omega), pi_sr, pi_si, if_neg (by omega), g6 j hj]
    exact z17 j hj
  have q11 : lm_i (lm_si (lm_si (lm_sr (lm_si (nlH z l) 0 16 (-1)) 8 c (some h.1.length)) 1 4 (Int32.ofNat (c + 1))) 0 15 0) 1000000 = lm_i h 1000000 := by
    show lm_i (nlH z l) 1000000 = _
    rw [g7, fr_i f0 (by decide) (by decide)]
  have q12 : lm_r (lm_si (lm_si (lm_sr (lm_si (nlH z l) 0 16 (-1)) 8 c (some h.1.length)) 1 4 (Int32.ofNat (c + 1))) 0 15 0) 1000000 = lm_r h 1000000 := by
    show lm_r (nlH z l) 1000000 = _
    rw [g8, fr_r f0]
  have q13 : lm_l (lm_si (lm_si (lm_sr (lm_si (nlH z l) 0 16 (-1)) 8 c (some h.1.length)) 1 4 (Int32.ofNat (c + 1))) 0 15 0) 45 = lm_l h 45 := by
    show lm_l (nlH z l) 45 = _
    rw [nlH_l (by rw [f0.1]; omega), fr_l f0 (by decide) (by decide)]
  generalize lm_si (lm_si (lm_sr (lm_si (nlH z l) 0 16 (-1)) 8 c (some h.1.length)) 1 4 (Int32.ofNat (c + 1))) 0 15 0 = h1 at q1 q2 q3 q4 q5 q6 q7 q8 q9 q10 q11 q12 q13
  clear g1 g2 g3 g4 g5 g6 g7 g8 e14 e137 f1 f0 z17 e7 zL
  have o94 := q3 94 (by omega) (by decide)
  obtain ⟨d, rfl⟩ := q_dp hD
  refine e_193 q1 ?_
  rw [o94, hc2, if_neg (by rw [q_e6 (by omega)]; omega)]
  refine V2 _ h1 _ (by omega) q1 (by rw [q3 98 (by omega) (by decide)]; exact fun j hj => (hb j (by omega)).2.2) (by rw [q3 97 (by omega) (by decide)]; exact c2) (by rw [q3 92 (by omega) (by decide)]; exact hL) (fun h2 f2 r1 r2 r3 r4 => ?_)
  have p94 : lm_i h2 94 = lm_i h 94 := by rw [fr_i f2 (by decide) (by decide), o94]
  rw [if_neg (by decide), p94, hc2, q_87, q_in (by omega) (by decide), q_nat (by omega), r3]
  have f3 : fr [94] [] h2 (lm_si h2 94 (87 + c) (Int32.ofNat N)) := fr_si (fr_refl _ _ _) (by decide) (by decide) _ _
  have hN := hT.1
  refine lp_193 (fr_Lay f3 (fr_Lay f2 q1)) hc hN (by rw [fr_m f3 (by decide)]; exact r3) (fun w f4 w1 w2 => ?_)
  have f5 : fr [94, 100, 101, 102] [0, 1, 10, 11, 15, 16, 17, 18] h1 (lm_si (lm_si (lm_si w 94 85 ((lm_i w 94 85) + 1)) 92 0 0) 92 1 ((lm_i w 92 1) + 1)) := fr_s92 (fr_s92 (fr_si (fr_trans (fr_sub f2 (by decide) (by decide)) (fr_trans (fr_sub f3 (by decide) (by decide)) (fr_sub f4 (by decide) (by decide)))) (by decide) (by decide) _ _) (by decide) _) (by decide) _
  have wo : ∀ j, (j < 93 ∨ ¬ (93 + 400 * c ≤ j ∧ j < 93 + 400 * c + 400) ∧ ¬ (2493 + 400 * c ≤ j ∧ j < 2493 + 400 * c + 400)) → lm_i w 94 j = if j = 87 + c then Int32.ofNat N else lm_i h 94 j := by
    intro j hj
    rw [w2 j hj, pi_si, if_pos rfl, p94]
  have w85 : lm_i w 94 85 + 1 = Int32.ofNat (c + 1) := by
    rw [wo 85 (by omega), if_neg (by omega), hc2, q_a1]
  have x94 : ∀ j, lm_i (lm_si (lm_si (lm_si w 94 85 ((lm_i w 94 85) + 1)) 92 0 0) 92 1 ((lm_i w 92 1) + 1)) 94 j = if j = 85 then Int32.ofNat (c + 1) else lm_i w 94 j := by
    intro j
    rw [← w85]
    rfl
  have xv : lm_i (lm_si (lm_si (lm_si w 94 85 ((lm_i w 94 85) + 1)) 92 0 0) 92 1 ((lm_i w 92 1) + 1)) 92 1 = lm_i h 92 1 + 1 := by
    show lm_i w 92 1 + 1 = _
    rw [fr_m f4 (by decide), fr_m f3 (by decide), fr_m f2 (by decide), q3 92 (by omega) (by decide)]
  have x0 : lm_i (lm_si (lm_si (lm_si w 94 85 ((lm_i w 94 85) + 1)) 92 0 0) 92 1 ((lm_i w 92 1) + 1)) 92 0 = 0 := rfl
  have x11 : lm_i (lm_si (lm_si (lm_si w 94 85 ((lm_i w 94 85) + 1)) 92 0 0) 92 1 ((lm_i w 92 1) + 1)) 92 11 = -1 := by
    show lm_i w 92 11 = _
    rw [fr_m f4 (by decide), fr_m f3 (by decide)]
    exact r2
  have x10 : lm_i (lm_si (lm_si (lm_si w 94 85 ((lm_i w 94 85) + 1)) 92 0 0) 92 1 ((lm_i w 92 1) + 1)) 92 10 = 0 := by
    show lm_i w 92 10 = _
    rw [fr_m f4 (by decide), fr_m f3 (by decide)]
    exact r1
  have tok : ∀ p, p < N → lm_i w 94 (93 + (400 * c + p)) = Int32.ofNat (cO (kk p)) ∧ (kk p = 257 → nu p ≤ 1000 → lm_i w 94 (2493 + (400 * c + p)) = Int32.ofNat (nu p)) := by
    intro p hp
    rw [(w1 p hp).1, (w1 p hp).2, fr_i f3 (c := 100) (by decide) (by decide), fr_i f3 (c := 101) (by decide) (by decide)]
    exact r4 p hp
  generalize lm_si (lm_si (lm_si w 94 85 ((lm_i w 94 85) + 1)) 92 0 0) 92 1 ((lm_i w 92 1) + 1) = h4 at f5 x94 xv x0 x11 x10
  have s4 : h4.1 = h.1 ++ [(0, 2)] ++ [(1, l)] := by rw [f5.1, q2]
  have fi : ∀ a, a < h.1.length → [0, 1, 11, 13, 14, 15, 16, 17].contains a = false → [94, 100, 101, 102].contains a = false → ¬ a = 92 → lm_i h4 a = lm_i h a := fun a h1 h2 h3 h4 => by rw [fr_i f5 h3 h4, q3 a h1 h2]
  have fm : ∀ s, [0, 1, 10, 11, 15, 16, 17, 18].contains s = false → lm_i h4 92 s = lm_i h 92 s := fun s h1 => by rw [fr_m f5 h1, q3 92 (by omega) (by decide)]
  have nin : ∀ a, 18 ≤ a → ¬ a = 94 → ¬ a = 100 → ¬ a = 101 → ¬ a = 102 → [0, 1, 11, 13, 14, 15, 16, 17].contains a = false ∧ [94, 100, 101, 102].contains a = false := by
    intro a h1 h2 h3 h4 h5
    constructor
    · have : ¬ a ∈ [0, 1, 11, 13, 14, 15, 16, 17] := by
        simp only [List.mem_cons, List.not_mem_nil, or_false]
        omega
      simpa using this
    · have : ¬ a ∈ [94, 100, 101, 102] := by
        simp only [List.mem_cons, List.not_mem_nil, or_false]
        omega
      simpa using this
  have oc : OC h h4 := by
    intro a x a1 a2 a3
    have al : a < h.1.length := by
      unfold lm_sh at a3
      rw [if_pos a2] at a3
      exact (List.getElem?_eq_some_iff.mp a3).1
    obtain ⟨n1, n2⟩ := nin a (by omega) (by omega) (by omega) (by omega) (by omega)
    refine ⟨?_, fi a al n1 n2 (by omega), by rw [fr_r f5, q7 a al (by omega)]⟩
    unfold lm_sh at a3 ⊢
    rw [if_pos a2] at a3 ⊢
    rw [s4, List.getElem?_append_left (by rw [List.length_append]; exact Nat.lt_succ_of_lt al), List.getElem?_append_left al]
    exact a3
  have e87 : ∀ j, j < 87 → lm_i h4 94 j = up (lm_i h 94) 85 (Int32.ofNat (c + 1)) j := by
    intro j hj
    rw [x94]
    unfold up
    by_cases e : j = 85
    · rw [if_pos e, if_pos e]
    · rw [if_neg e, if_neg e, wo j (by omega), if_neg (by omega)]
  have RM4 : RM xl (nc + 1) h4 := by
    have a1 := RMh.1.1
    have a2 := RMh.1.2
    have a3 := RMh.2
    unfold RM lm_sz at *
    refine ⟨?_, by rw [fr_i f5 (by decide) (by decide), q11]; exact a3.1, by rw [fr_r f5, q12]; exact a3.2⟩
    rw [s4, List.length_append, List.length_append, List.map_append, List.map_append, List.sum_append, List.sum_append]
    have z1 : (List.map lm_size [((0 : Nat), (2 : Nat))]).sum ≤ 9 := by decide +kernel
    have z2 : (List.map lm_size [((1 : Nat), l)]).sum = l := by
      simp [lm_size]
    refine ⟨?_, by omega⟩
    show h.1.length + 1 + 1 ≤ _
    omega
  refine ⟨rfl, INV_all H hn RM4 (fun a h1 h2 => fi a (by omega) (nin a (by omega) (by omega) (by omega) (by omega) (by omega)).1 (nin a (by omega) (by omega) (by omega) (by omega) (by omega)).2 (by omega)) (by rw [fr_l f5 (by decide) (by decide), q13]) ?_ xv (fm 28 (by decide)) (fm 39 (by decide)) (fm 50 (by decide))⟩
  have oth : ∀ q k, iI h q k → 76 ≤ k → k ≤ 84 → iI h4 q k := by
    intro q k hq k1 k2
    exact iI_mv hq oc (fun t _ => by rw [fr_r f5, q7 _ (by omega) (by omega)]) (by rw [fi 10 (by omega) (by decide) (by decide) (by decide)]) (by rw [fi 96 (by omega) (by decide) (by decide) (by decide)]) (fun i hi => by rw [fi 95 (by omega) (by decide) (by decide) (by decide)]) (fun a h1 h2 => fi a (by omega) (nin a (by omega) (by omega) (by omega) (by omega) (by omega)).1 (nin a (by omega) (by omega) (by omega) (by omega) (by omega)).2 (by omega))
  refine ⟨⟨fr_Lay f5 q1, ?_, wf_mv (wf_count hw hc hc2) e87, ⟨?_, ?_, ?_, ?_⟩, ?_⟩, ⟨oth 0 76 b0 (by omega) (by omega), oth 1 84 b1 (by omega) (by omega)⟩, ⟨⟨0, by omega, by rw [x10]; rfl⟩, ?_⟩, ?_, ⟨fun t ht2 h1c => ?_, fun t ht2 y hy => ?_⟩, ?_, ?_⟩
  · refine tw_mv (c := 1) (tw_count (x := Int32.ofNat (c + 1)) ht) ?_ ?_ ?_ ?_ ?_ ?_ ?_ e87
    · intro j hj
      rw [fr_i f5 (by decide) (by decide), q5]
      rfl
    · intro j hj
      rw [fi 2 (by omega) (by decide) (by decide) (by decide)]
      rfl
    · intro j hj
      rw [fi 3 (by omega) (by decide) (by decide) (by decide)]
      rfl
    · intro j hj
      rw [fi 4 (by omega) (by decide) (by decide) (by decide)]
      rfl
    · intro j hj
      rw [fi 5 (by omega) (by decide) (by decide) (by decide)]
      rfl
    · intro j hj
      rw [fi 6 (by omega) (by decide) (by decide) (by decide)]
      rfl
    · intro j hj
      rw [fi 7 (by omega) (by decide) (by decide) (by decide)]
      rfl
  · rw [fr_i f5 (by decide) (by decide), q4, if_pos rfl, x0]
  · rw [fr_i f5 (by decide) (by decide), q4, if_neg (by decide), if_pos rfl, x11]
  · rw [fr_i f5 (by decide) (by decide), q4, if_neg (by decide), if_neg (by decide), fm 6 (by decide)]
    exact m3
  · rw [fr_i f5 (by decide) (by decide), q6, x10]
  · rw [fi 75 (by omega) (by decide) (by decide) (by decide), fi 93 (by omega) (by decide) (by decide) (by decide)]
    exact ⟨m5, m6, m7, m8, m9⟩
  · rw [fi 12 (by omega) (by decide) (by decide) (by decide), fi 98 (by omega) (by decide) (by decide) (by decide)]
    exact tp.2
  · rw [fi 97 (by omega) (by decide) (by decide) (by decide)]
    exact c2
  · rw [x94, if_pos rfl, q_lt (by omega) (by omega)] at h1c
    have r8 : lm_r h4 8 t = if t = c then some h.1.length else lm_r h 8 t := by rw [fr_r f5, q8]
    by_cases e : t = c
    · subst e
      refine ⟨ef, h.1.length, h.1.length + 1, l, N, co, kk, nu, pl, ⟨by rw [r8, if_pos rfl], l19, by omega, (shn _ s4).1, by rw [fr_r f5]; exact q9, by omega, len, (shn _ s4).2, by omega, fun j hj => ?_, hJ⟩, hT, ?_, fun p hp => ?_, hE, hR⟩
      · rw [fr_i f5 (by
          have : ¬ h.1.length + 1 ∈ [94, 100, 101, 102] := by
            simp only [List.mem_cons, List.not_mem_nil, or_false]
            omega
          simpa using this) (by omega)]
        exact q10 j hj
      · rw [x94, if_neg (by omega), wo _ (by omega), if_pos rfl]
      · rw [x94, x94, if_neg (by omega), if_neg (by omega)]
        exact tok p hp
    · have tc : Int32.ofNat t < lm_i h 94 85 := by
        rw [hc2, q_lt (by omega) (by omega)]
        omega
      obtain ⟨ef', p', q', l', N', co', kk', nu', pl', ⟨a1, a2, a3, a4, a5, a6, a7, a8, a9, a10, a11⟩, d1, d2, d3, d4, d5⟩ := c3.1 t ht2 tc
      obtain ⟨y1, y2, y3⟩ := oc p' _ a2 a3 a4
      obtain ⟨u1, u2, u3⟩ := oc q' _ a6 a7 a8
      have hN' := d1.1
      refine ⟨ef', p', q', l', N', co', kk', nu', pl', ⟨by rw [r8, if_neg e]; exact a1, a2, a3, y1, by rw [y3]; exact a5, a6, a7, u1, a9, by rw [u2]; exact a10, a11⟩, d1, ?_, fun p hp => ?_, d4, d5⟩
      · rw [x94, if_neg (by omega), wo _ (by omega), if_neg (by omega)]
        exact d2
      · rw [x94, x94, if_neg (by omega), if_neg (by omega), wo _ (by omega), wo _ (by omega), if_neg (by omega), if_neg (by omega)]
        exact d3 p hp
  · rw [fr_r f5, q8] at hy
    by_cases e : t = c
    · rw [if_pos e] at hy
      obtain rfl := Option.some.inj hy
      exact ⟨l19, by omega, (shn _ s4).1⟩
    · rw [if_neg e] at hy
      obtain ⟨y1, y2, y3⟩ := c3.2 t ht2 y hy
      exact ⟨y1, y2, (oc y _ y1 y2 y3).1⟩
  · unfold iY at c4 ⊢
    rw [fi 58 (by omega) (by decide) (by decide) (by decide), fi 64 (by omega) (by decide) (by decide) (by decide), fi 65 (by omega) (by decide) (by decide) (by decide), fi 66 (by omega) (by decide) (by decide) (by decide), fi 115 (by omega) (by decide) (by decide) (by decide), fi 116 (by omega) (by decide) (by decide) (by decide), fi 117 (by omega) (by decide) (by decide) (by decide), fm 55 (by decide), fm 56 (by decide)]
    exact c4
  · rw [fi 74 (by omega) (by decide) (by decide) (by decide)]
    exact c5
theorem op_107 {D nc : Nat} {h : lm_H} (hD : 200 ≤ D) (hn : nc ≤ 10000) (H : INV xl nc h) : lm_call D 107 [.ref 0] h (lm_kI fun r h1 => lm_call D 193 [.ref 92] h1 (lm_kI fun r2 h2 => r = r2 ∧ INV xl (nc + 1) h2)) := by
  obtain ⟨⟨hl, ht, hw, ⟨m1, m2, m3, m4⟩, m5, m6, m7, m8, m9⟩, _, tp, _⟩ := INV_s H
  obtain ⟨c, _, c2, c3⟩ := p_ix hw.1.2.2.2.2.1.1
  have c6 := hw.1.2.2.2.2.1.2
  simp only [p_le, Int32.reduceToInt] at c6
  obtain ⟨b, hb⟩ := iT_b tp
  obtain ⟨L, L4, l1⟩ := tp.1
  obtain ⟨d, rfl⟩ := q_dp hD
  have l6 : (Int32.ofNat c < 6) = (c < 6) := q_lt (b := 6) (by omega) (by omega)
  refine e_107 hl ?_
  rw [ht.1.2.2.2.2.1, c2, m4, l1]
  by_cases k : ¬ c < 6
  · rw [if_neg (by rw [l6]; exact k)]
    refine e_193 (lm_Lay_si (lm_Lay_si (lm_Lay_si hl _ _ _) _ _ _) _ _ _) ?_
    simp only [pi_si, Nat.reduceEqDiff, if_true, if_false, c2]
    rw [if_pos (by rw [q_e6 (by omega)]; omega)]
    refine ⟨by first | rfl | trivial, INV_lw H (fr_si (fr_s92 (fr_s92 (fr_si (fr_si (fr_si (fr_refl _ _ _) (by decide) (by decide) _ _) (by decide) (by decide) _ _) (by decide) (by decide) _ _) (by decide) _) (by decide) _) (by decide) (by decide) _ _) ⟨⟨rfl, m2, m3, rfl⟩, m5, m6, m7, ?_, m9⟩ ⟨⟨0, by omega, rfl⟩, tp.2⟩⟩
    show lm_i h 75 3 + 1 = lm_i h 93 5 + 1
    rw [m8]
  have k := Decidable.not_not.1 k
  rw [if_pos (by rw [l6]; exact k)]
  rcases rd_all (T := b) L4 (fun j hj => (hb j (by omega)).1) with ⟨v, V1, V2⟩ | ⟨l, N, co, ef, kk, nu, pl, z1, z2, V1, V2, z3, z4, z5⟩
  · exact op_107f hD H k c2 l1 L4 hb V1 V2
  · exact op_107g hD hn H k c2 l1 L4 hb z1 z2 V1 V2 z3 z4 z5
end Xl98rlaw3
