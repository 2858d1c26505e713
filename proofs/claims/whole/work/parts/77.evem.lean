/-! The year whole: evenings of the reference (254, 256). -/
abbrev RR : List Nat := [103, 104, 105, 106, 107, 115, 116, 117, 118]
abbrev RT : List Nat := [19, 20, 21, 23, 24, 57]
theorem cl_254 {D e : Nat} {h : lm_H} {K : Int32 → lm_H → Prop} {mn E T : Nat → Nat} {n m : Nat} {cu lo : Int32} {WB : (Nat → Int32) → Nat → (Nat → Int32) × (Nat → Int32)} {t : yT} (hD : 8 ≤ D) (hl : lm_Lay h) (h5 : n ≤ 5) (h6 : m ≤ 6) (he : e < 40) (ht : yk n m t) (hw : ∀ M e, wd n m cu lo (WB M e).1)
    (hmn : ∀ k, k < n → mn k ≤ 5 ∧ lm_i h 94 (76 + k) = Int32.ofNat (mn k)) (hT : gA n m T) (hT2 : ∀ k, k < n → lm_i h 94 (71 + k) = nC (T k)) (hE : ∀ k, k < n → ∀ g, g < m → E (6 * k + g) ≤ 10 ∧ lm_i h 94 (41 + 6 * k + g) = Int32.ofNat (E (6 * k + g)))
    (h57 : lm_i h 92 57 = Int32.ofNat t.1) (hM : ∀ k, k < n → ∀ g, g < m → lm_i h 106 (k * 6 + g) = t.2.1 (6 * k + g) ∧ lm_i h 118 (k * 6 + g) = t.2.2.1 (6 * k + g)) (hy : 0 < e → ry h n (e - 1) t.2.2.2.1 t.2.2.2.2.1 t.2.2.2.2.2)
    (hR : ∀ (z : lm_H) (K2 : lm_H → Prop) (D2 : Nat) (M : Nat → Int32) (e : Nat), e < 40 → D - 1 ≤ D2 → z = h → (∀ k, k < n → ∀ g, g < m → lm_i z 106 (k * 6 + g) = M (6 * k + g)) → (∀ z', fr [103, 104, 105] [19, 20, 21, 23, 24] z z' → rt z' n m cu lo (WB M e).1 (WB M e).2 → K2 z') → lm_call D2 207 [.ref 92, .int (Int32.ofNat e)] z (lm_kV K2))
    (hK : ∀ h', fr RR RT h h' → lm_i h' 92 57 = Int32.ofNat (yN mn E T n m cu lo WB e t).1 → (∀ k, k < n → ∀ g, g < m → lm_i h' 106 (k * 6 + g) = (yN mn E T n m cu lo WB e t).2.1 (6 * k + g) ∧ lm_i h' 118 (k * 6 + g) = (yN mn E T n m cu lo WB e t).2.2.1 (6 * k + g)) → ry h' n e (yN mn E T n m cu lo WB e t).2.2.2.1 (yN mn E T n m cu lo WB e t).2.2.2.2.1 (yN mn E T n m cu lo WB e t).2.2.2.2.2 → (∀ j, j < 5 * e → lm_i h' 115 j = lm_i h 115 j ∧ lm_i h' 116 j = lm_i h 116 j ∧ lm_i h' 117 j = lm_i h 117 j) → K (ln (yN mn E T n m cu lo WB e t).2.2.2.2.1 n) h') : lm_call D 254 [.ref 92, .int (Int32.ofNat e)] h (lm_kI K) := by
  obtain ⟨d, rfl⟩ := q_dp hD
  have hb := yB_p (E := E) (mn := mn) (e := e) h5 h6 hw hT ht
  have hW := hw t.2.1 e
  refine e_254 (d := d + 6) _ hl ?_
  refine hR h _ _ t.2.1 e he (by omega) rfl (fun k hk g hg => (hM k hk g hg).1) (fun z0 f0 H0 => ?_)
  rw [q_5m]
  have la : ∀ q k : Nat, q + k = n → ∀ z1, fr [107, 115] [57] z0 z1 → lm_i z1 92 57 = Int32.ofNat (yA (yF mn E T n m cu lo WB e t) (WB t.2.1 e).2 t.1 k).2 → (∀ j, j < k → lm_i z1 115 (5 * e + j) = nC ((yA (yF mn E T n m cu lo WB e t) (WB t.2.1 e).2 t.1 k).1 j)) → (∀ j, j < 5 * e → lm_i z1 115 j = lm_i z0 115 j) → (lm_W ((d + 6) + 1) 254 11 [some (.ref 92), some (.int (Int32.ofNat e)), some (.int (Int32.ofNat (5 * e))), some (.int (Int32.ofNat k)), none, none, none] [] z1 (lm_kI K)) := by
    intro q
    induction q with
    | zero =>
      intro k hk z1 f1 b6 b7 b8
      have ek : k = n := by omega
      rw [ek] at b6 b7 ⊢
      have H1 := rt_fr f1 H0 (by decide)
      refine b_254_11 _ _ _ H1.1 ?_
      rw [H1.2.2.2.1, if_neg (by rw [q_lt (by omega) (by omega)]; omega)]
      have lb : ∀ q j : Nat, q + j = n → ∀ z2, fr [116] [] z1 z2 → (∀ i, i < j → lm_i z2 116 (5 * e + i) = -1) → (∀ i, i < 5 * e → lm_i z2 116 i = lm_i z1 116 i) → (lm_W ((d + 6) + 1) 254 65 [some (.ref 92), none, some (.int (Int32.ofNat (5 * e))), some (.int (Int32.ofNat j)), none, none, none] [] z2 (lm_kI K)) := by
        intro q
        induction q with
        | zero =>
          intro j hj z2 f2 c1 c2
          have ej : j = n := by omega
          rw [ej] at c1 ⊢
          have H2 := rt_fr f2 H1 (by decide)
          refine b_254_65 _ _ H2.1 ?_
          rw [H2.2.2.2.1, if_neg (by rw [q_lt (by omega) (by omega)]; omega)]
          have hA2 : ∀ j, j < n → (yB mn E T n m cu lo WB e t).1 j ≤ 6 ∧ lm_i z2 115 (5 * e + j) = nC ((yB mn E T n m cu lo WB e t).1 j) := fun j hj => ⟨by have := hb.2 j; omega, by rw [fr_i f2 (by decide) (by decide)]; exact b7 j hj⟩
          refine lp_254c (by omega) H2 hW.1 he hb.1 (by rw [fr_m f2 (by decide)]; exact b6) hA2 c1 (fun z3 f3 e57 e116 eo => ?_)
          have H3 := rt_fr f3 H2 (by decide)
          have hd2 := sC_p (n := n) (cu := cu) (A := (yB mn E T n m cu lo WB e t).1) hb.1 m
          refine lp_254w (A := (yB mn E T n m cu lo WB e t).1) (C := (yD mn E T n m cu lo WB e t).1) (by omega) H3 he (fun j hj => ⟨(hA2 j hj).1, by rw [fr_i f3 (by decide) (by decide)]; exact (hA2 j hj).2⟩) (fun j hj => ⟨hd2.2 j, e116 j hj⟩) (fun z4 f4 y1 y2 => ?_)
          obtain ⟨w1, w2, w3⟩ := y1
          have e3 : ∀ c, [116].contains c = false → [107, 115].contains c = false → [103, 104, 105].contains c = false → ¬ c = 92 → lm_i z3 c = lm_i h c := by
            intro c q1 q2 q3 q5
            rw [fr_i f3 q1 q5, fr_i f2 q1 q5, fr_i f1 q2 q5, fr_i f0 q3 q5]
          refine hK z4 ?_ ?_ (fun k hk g hg => ?_) (fun j hj => ?_) (fun j hj => ?_)
          · exact fr_trans (fr_sub f0 (by decide) (by decide)) (fr_trans (fr_sub f1 (by decide) (by decide)) (fr_trans (fr_sub f2 (by decide) (by decide)) (fr_trans (fr_sub f3 (by decide) (by decide)) (fr_sub f4 (by decide) (by decide)))))
          · rw [fr_m f4 (by decide)]; exact e57
          · obtain ⟨i1, i2⟩ := ix6 (k := k) (g := g) (by omega)
            constructor
            · rw [w3 k hk g hg, e3 106 (by decide) (by decide) (by decide) (by decide), (hM k hk g hg).1]
              show _ = t.2.1 (6 * k + g) + (if (yD mn E T n m cu lo WB e t).1 ((6 * k + g) / 6) = (6 * k + g) % 6 then 1 else 0)
              rw [i1, i2]
              simp only [hk, true_and]
            · rw [y2 k hk g hg, e3 118 (by decide) (by decide) (by decide) (by decide), (hM k hk g hg).2]
              show _ = t.2.2.1 (6 * k + g) + (if uQ (yB mn E T n m cu lo WB e t).1 n ((6 * k + g) / 6) ((6 * k + g) % 6) = 0 then 1 else 0)
              rw [i1, i2]
              simp only [hk, true_or, true_and]
          · have q1 := hd2.2 j
            refine ⟨(hA2 j hj).1, ?_, ?_, ?_, w1 j hj⟩
            · show (yD mn E T n m cu lo WB e t).1 j ≤ 6
              have : (yD mn E T n m cu lo WB e t).1 j = (sC n cu (yB mn E T n m cu lo WB e t).1 (yB mn E T n m cu lo WB e t).2 m).1 j := rfl
              omega
            · rw [fr_i f4 (by decide) (by decide), fr_i f3 (by decide) (by decide)]
              exact (hA2 j hj).2
            · rw [fr_i f4 (by decide) (by decide)]
              exact e116 j hj
          · refine ⟨?_, ?_, ?_⟩
            · rw [fr_i f4 (by decide) (by decide), fr_i f3 (by decide) (by decide), fr_i f2 (by decide) (by decide), b8 j hj, fr_i f0 (by decide) (by decide)]
            · rw [fr_i f4 (by decide) (by decide), eo j (Or.inl hj), c2 j hj, fr_i f1 (by decide) (by decide), fr_i f0 (by decide) (by decide)]
            · rw [w2 j hj, e3 117 (by decide) (by decide) (by decide) (by decide)]
        | succ q ihq =>
          intro j hj z2 f2 c1 c2
          have H2 := rt_fr f2 H1 (by decide)
          refine b_254_65 _ _ H2.1 ?_
          rw [H2.2.2.2.1, if_pos (by rw [q_lt (by omega) (by omega)]; omega), q_add, q_in (by omega) (by omega), q_nat (by omega), q_a1]
          refine ihq (j + 1) (by omega) _ (fr_si f2 (by decide) (by decide) _ _) (fun i hi => ?_) (fun i hi => ?_)
          · rw [pi_si, if_pos rfl]
            by_cases ei : i = j
            · rw [if_pos (by omega)]
            · rw [if_neg (by omega)]
              exact c1 i (by omega)
          · rw [pi_si, if_pos rfl, if_neg (by omega)]
            exact c2 i hi
      exact lb n 0 (by omega) z1 (fr_refl _ _ _) (fun i hi => by omega) (fun _ _ => rfl)
    | succ q ihq =>
      intro k hk z1 f1 b6 b7 b8
      have H1 := rt_fr f1 H0 (by decide)
      have hyk := yA_p (f := yF mn E T n m cu lo WB e t) (B := (WB t.2.1 e).2) (s := t.1) (n := n) (m := m) (fun k s hk hs => ⟨wi_g (hw _ _) h5 h6 hk hT (fun _ j _ => ht.2.2 j), wi_s hs⟩) ht.1 k (by omega)
      have e1 : ∀ c, [107, 115].contains c = false → [103, 104, 105].contains c = false → ¬ c = 92 → lm_i z1 c = lm_i h c := by
        intro c q2 q3 q5
        rw [fr_i f1 q2 q5, fr_i f0 q3 q5]
      have z94 := e1 94 (by decide) (by decide) (by decide)
      refine b_254_11 _ _ _ H1.1 ?_
      rw [H1.2.2.2.1, if_pos (by rw [q_lt (by omega) (by omega)]; omega)]
      have hg0 := wi_g (mn := mn) (E := E) (B := (WB t.2.1 e).2) (u := t.2.2.1) (A := t.2.2.2.1) (C := t.2.2.2.2.1) (G := t.2.2.2.2.2) (e := e) (k := k) (s := (yA (yF mn E T n m cu lo WB e t) (WB t.2.1 e).2 t.1 k).2) hW h5 h6 (by omega) hT (fun _ j _ => ht.2.2 j)
      refine cl_253 (mn := mn) (E := E) (T := T) (A := t.2.2.2.1) (C := t.2.2.2.2.1) (G := t.2.2.2.2.2) (u := t.2.2.1) (by omega) H1 hW (by omega) (by omega) hyk.1 b6 ⟨(hmn k (by omega)).1, by rw [z94]; exact (hmn k (by omega)).2⟩ (by rw [z94]; exact hT2 k (by omega)) (fun g hg => ⟨(hE k (by omega) g hg).1, by rw [z94]; exact (hE k (by omega) g hg).2⟩) (fun g hg => by rw [e1 118 (by decide) (by decide) (by decide), Nat.mul_comm 6 k]; rw [(hM k (by omega) g hg).2, Nat.mul_comm 6 k]) (fun h0 => ⟨fun j hj => ?_, fun j _ => ht.2.1 j⟩) (fun z2 f2 c6 => ?_)
      · obtain ⟨q1, q2, q3, q4, q5⟩ := hy h0 j hj
        rw [b8 _ (by omega), fr_i f0 (by decide) (by decide), e1 116 (by decide) (by decide) (by decide), e1 117 (by decide) (by decide) (by decide)]
        exact ⟨q1, q2, q3, q4, q5⟩
      · have H2 := rt_fr f2 H1 (by decide)
        have fin : ∀ v, v = nC (al (WB t.2.1 e).2 k (yF mn E T n m cu lo WB e t k (yA (yF mn E T n m cu lo WB e t) (WB t.2.1 e).2 t.1 k).2).1) → lm_in (Int32.ofNat (5 * e) + Int32.ofNat k) 200 False ((lm_W ((d + 6) + 1) 254 11 [some (.ref 92), some (.int (Int32.ofNat e)), some (.int (Int32.ofNat (5 * e))), some (.int (Int32.ofNat k + 1)), none, none, none] [] (lm_si z2 115 ((Int32.ofNat (5 * e) + Int32.ofNat k).toNatClampNeg) v) (lm_kI K))) := by
          intro v hv
          rw [q_add, q_in (by omega) (by omega), q_nat (by omega), q_a1]
          refine ihq (k + 1) (by omega) _ (fr_si (fr_trans f1 (fr_sub f2 (by decide) (by decide))) (by decide) (by decide) _ _) ?_ (fun j hj => ?_) (fun j hj => ?_)
          · rw [pi_si, if_neg (by decide), c6, yA]; rfl
          · rw [pi_si, if_pos rfl, yA]
            show _ = nC (if j = k then _ else _)
            by_cases ej : j = k
            · rw [if_pos (by omega), if_pos ej, hv]
            · rw [if_neg (by omega), if_neg ej, fr_i f2 (by decide) (by decide)]
              exact b7 j (by omega)
          · rw [pi_si, if_pos rfl, if_neg (by omega), fr_i f2 (by decide) (by decide)]
            exact b8 j hj
        have ew : (yF mn E T n m cu lo WB e t k (yA (yF mn E T n m cu lo WB e t) (WB t.2.1 e).2 t.1 k).2).1 = (wi mn E n m cu lo (WB t.2.1 e).1 (WB t.2.1 e).2 t.2.2.1 t.2.2.2.1 t.2.2.2.2.1 T t.2.2.2.2.2 e k (yA (yF mn E T n m cu lo WB e t) (WB t.2.1 e).2 t.1 k).2).1 := rfl
        rw [ew] at fin
        generalize (wi mn E n m cu lo (WB t.2.1 e).1 (WB t.2.1 e).2 t.2.2.1 t.2.2.2.1 t.2.2.2.2.1 T t.2.2.2.2.2 e k (yA (yF mn E T n m cu lo WB e t) (WB t.2.1 e).2 t.1 k).2).1 = w at fin hg0
        by_cases c7 : w = 6
        · rw [if_pos ((nC_m1 (by omega)).2 c7)]
          exact fin _ (by rw [al, if_pos c7]; rfl)
        · rw [if_neg (fun q => c7 ((nC_m1 (by omega)).1 q))]
          have e7 : nC w = Int32.ofNat w := by rw [nC, if_neg c7]
          rw [e7]
          refine cl_210 (by omega) H2 (by omega) (by omega) ?_
          have eac : (aC m (WB t.2.1 e).2 k w = true) ↔ (WB t.2.1 e).2 (6 * k + w) = 0 := by
            have : ¬ w = m := by omega
            unfold aC
            simp [this]
          by_cases cb : (WB t.2.1 e).2 (6 * k + w) = 0
          · rw [if_pos (eac.2 cb), if_neg (by decide)]
            exact fin _ (by rw [al, if_neg c7, if_pos cb, e7])
          · rw [if_neg (fun q => cb (eac.1 q)), if_pos rfl]
            exact fin _ (by rw [al, if_neg c7, if_neg cb]; rfl)
  exact la n 0 (by omega) z0 (fr_refl _ _ _) (by rw [fr_m f0 (by decide)]; exact h57) (fun j hj => by omega) (fun _ _ => rfl)
theorem cl_256 {D N s : Nat} {h : lm_H} {K : Int32 → lm_H → Prop} {mn E T : Nat → Nat} {n m : Nat} {cu lo : Int32} {WB : (Nat → Int32) → Nat → (Nat → Int32) × (Nat → Int32)} (hD : 10 ≤ D) (hl : lm_Lay h) (h5 : n ≤ 5) (h6 : m ≤ 6) (hN0 : 1 ≤ N) (hN : N ≤ 40) (hs : s ≤ 1000000) (h81 : lm_i h 94 81 = Int32.ofNat n) (hw : ∀ M e, wd n m cu lo (WB M e).1)
    (hmn : ∀ k, k < n → mn k ≤ 5 ∧ lm_i h 94 (76 + k) = Int32.ofNat (mn k)) (hT : gA n m T) (hT2 : ∀ k, k < n → lm_i h 94 (71 + k) = nC (T k)) (hE : ∀ k, k < n → ∀ g, g < m → E (6 * k + g) ≤ 10 ∧ lm_i h 94 (41 + 6 * k + g) = Int32.ofNat (E (6 * k + g)))
    (hR : ∀ (z : lm_H) (K2 : lm_H → Prop) (D2 : Nat) (M : Nat → Int32) (e : Nat), e < 40 → D - 2 ≤ D2 → fr RR [19, 20, 21, 23, 24, 55, 56, 57] h z → (∀ k, k < n → ∀ g, g < m → lm_i z 106 (k * 6 + g) = M (6 * k + g)) → (∀ z', fr [103, 104, 105] [19, 20, 21, 23, 24] z z' → rt z' n m cu lo (WB M e).1 (WB M e).2 → K2 z') → lm_call D2 207 [.ref 92, .int (Int32.ofNat e)] z (lm_kV K2))
    (hK : ∀ h', fr RR [19, 20, 21, 23, 24, 55, 56, 57] h h' → lm_i h' 92 55 = Int32.ofNat N → lm_i h' 92 56 = Int32.ofNat n → (∀ i, i < N → ry h' n i (yS mn E T n m cu lo WB s (i + 1)).2.2.2.1 (yS mn E T n m cu lo WB s (i + 1)).2.2.2.2.1 (yS mn E T n m cu lo WB s (i + 1)).2.2.2.2.2) → K (Int32.ofNat (yL mn E T n m cu lo WB s N)) (lm_si (lm_si (lm_si h' 92 28 (-1)) 92 0 0) 92 1 (lm_i h' 92 1 + 1))) : lm_call D 256 [.ref 92, .int (Int32.ofNat s), .int (Int32.ofNat N)] h (lm_kI K) := by
  obtain ⟨d, rfl⟩ := q_dp hD
  refine e_256 (d := d + 8) _ _ hl ?_
  have e1 : (1 : Int32) = Int32.ofNat 1 := rfl
  have e40 : (40 : Int32) = Int32.ofNat 40 := rfl
  have e30 : (30 : Int32) = Int32.ofNat 30 := rfl
  have eM : (1000000 : Int32) = Int32.ofNat 1000000 := rfl
  rw [if_neg (by rw [q_lt0 (by omega)]; exact id), if_neg (by rw [eM, q_lt (by omega) (by omega)]; omega), if_neg (by rw [e1, q_lt (by omega) (by omega)]; omega), if_neg (by rw [e40, q_lt (by omega) (by omega)]; omega)]
  have lp : ∀ r e : Nat, r + e = N → ∀ z, fr RR [19, 20, 21, 23, 24, 55, 56, 57] h z → lm_i z 92 55 = Int32.ofNat N → lm_i z 92 56 = Int32.ofNat n → lm_i z 92 57 = Int32.ofNat (yS mn E T n m cu lo WB s e).1 → (∀ k, k < n → ∀ g, g < m → lm_i z 106 (k * 6 + g) = (yS mn E T n m cu lo WB s e).2.1 (6 * k + g) ∧ lm_i z 118 (k * 6 + g) = (yS mn E T n m cu lo WB s e).2.2.1 (6 * k + g)) → (∀ i, i < e → ry z n i (yS mn E T n m cu lo WB s (i + 1)).2.2.2.1 (yS mn E T n m cu lo WB s (i + 1)).2.2.2.2.1 (yS mn E T n m cu lo WB s (i + 1)).2.2.2.2.2) → (lm_W ((d + 8) + 1) 256 77 [some (.ref 92), none, some (.int (Int32.ofNat N)), some (.int (Int32.ofNat (yL mn E T n m cu lo WB s e))), some (.int (Int32.ofNat e))] [] z (lm_kI K)) := by
    intro r
    induction r with
    | zero =>
      intro e he z hf a5 a6 a7 a8 a9
      have ee : e = N := by omega
      rw [ee] at a9 ⊢
      refine b_256_77 _ _ _ (fr_Lay hf hl) ?_
      rw [if_neg (by rw [q_lt (by omega) (by omega)]; omega)]
      exact hK z hf a5 a6 a9
    | succ r ih =>
      intro e he z hf a5 a6 a7 a8 a9
      have hk0 := yS_k (E := E) (mn := mn) (s := s) h5 h6 hw hT (by omega) e
      have hi := ih (e + 1) (by omega)
      have es : yS mn E T n m cu lo WB s (e + 1) = yN mn E T n m cu lo WB e (yS mn E T n m cu lo WB s e) := by rw [yS]
      have eL : yL mn E T n m cu lo WB s (e + 1) = yL mn E T n m cu lo WB s e + (if q_cn (fun j => decide ((yS mn E T n m cu lo WB s (e + 1)).2.2.2.2.1 j = 6)) n = 0 then 0 else 1) := by rw [yL]
      have z94 := fr_i hf (c := 94) (by decide) (by decide)
      refine b_256_77 _ _ _ (fr_Lay hf hl) ?_
      rw [if_pos (by rw [q_lt (by omega) (by omega)]; omega), q_a1 e]
      refine cl_254 (mn := mn) (E := E) (T := T) (WB := WB) (cu := cu) (lo := lo) (n := n) (m := m) (t := yS mn E T n m cu lo WB s e) (by omega) (fr_Lay hf hl) h5 h6 (by omega) hk0 hw (fun k hk => by rw [z94]; exact hmn k hk) hT (fun k hk => by rw [z94]; exact hT2 k hk) (fun k hk g hg => by rw [z94]; exact hE k hk g hg) a7 a8 (fun h0 => ?_) (fun z1 K2 D2 M e1 he1 hD2 hz hM hK2 => ?_) (fun z1 f1 b1 b2 b3 b4 => ?_)
      · have := a9 (e - 1) (by omega)
        rw [show e - 1 + 1 = e by omega] at this
        exact this
      · rw [hz] at hM ⊢
        refine hR z K2 D2 M e1 he1 (by omega) hf hM ?_
        rw [hz] at hK2
        exact hK2
      · rw [← es] at b1 b2 b3 ⊢
        have fz : fr RR [19, 20, 21, 23, 24, 55, 56, 57] h z1 := fr_trans hf (fr_sub f1 (by decide) (by decide))
        have nxt : (lm_W ((d + 8) + 1) 256 77 [some (.ref 92), none, some (.int (Int32.ofNat N)), some (.int (Int32.ofNat (yL mn E T n m cu lo WB s (e + 1)))), some (.int (Int32.ofNat (e + 1)))] [] z1 (lm_kI K)) := by
          refine hi z1 fz (by rw [fr_m f1 (by decide)]; exact a5) (by rw [fr_m f1 (by decide)]; exact a6) b1 b2 (fun i hi2 j hj => ?_)
          by_cases ei : i = e
          · rw [ei]; exact b3 j hj
          · obtain ⟨q1, q2, q3, q4, q5⟩ := a9 i (by omega) j hj
            obtain ⟨r1, r2, r3⟩ := b4 (5 * i + j) (by omega)
            rw [r1, r2, r3]
            exact ⟨q1, q2, q3, q4, q5⟩
        rw [eL] at nxt
        unfold ln
        by_cases cl : q_cn (fun j => decide ((yS mn E T n m cu lo WB s (e + 1)).2.2.2.2.1 j = 6)) n = 0
        · rw [if_pos cl] at nxt ⊢
          rw [if_pos rfl, Int32.add_zero]
          exact nxt
        · rw [if_neg cl] at nxt ⊢
          rw [if_neg (by decide), q_a1]
          exact nxt
  have f0 : fr RR [19, 20, 21, 23, 24, 55, 56, 57] h (lm_si (lm_si (lm_si h 92 57 (Int32.ofNat s)) 92 55 (Int32.ofNat N)) 92 56 (lm_i h 94 81)) := fr_s92 (fr_s92 (fr_s92 (fr_refl _ _ _) (by decide) _) (by decide) _) (by decide) _
  have lz : ∀ r k : Nat, r + k = 30 → ∀ z, fr RR [19, 20, 21, 23, 24, 55, 56, 57] h z → lm_i z 92 55 = Int32.ofNat N → lm_i z 92 56 = Int32.ofNat n → lm_i z 92 57 = Int32.ofNat s → (∀ j, j < k → lm_i z 106 j = 0 ∧ lm_i z 118 j = 0) → (lm_W ((d + 8) + 1) 256 46 [some (.ref 92), none, some (.int (Int32.ofNat N)), some (.int (Int32.ofNat k)), none] [] z (lm_kI K)) := by
    intro r
    induction r with
    | zero =>
      intro k hk z hf a5 a6 a7 a8
      have ek : k = 30 := by omega
      rw [ek] at a8 ⊢
      refine b_256_46 _ _ (fr_Lay hf hl) ?_
      rw [e30, if_neg (by rw [q_lt (by omega) (by omega)]; omega)]
      refine lp N 0 (by omega) z hf a5 a6 a7 (fun k hk g hg => ?_) (fun i hi => by omega)
      have := a8 (k * 6 + g) (by omega)
      exact this
    | succ r ih =>
      intro k hk z hf a5 a6 a7 a8
      refine b_256_46 _ _ (fr_Lay hf hl) ?_
      rw [e30, if_pos (by rw [q_lt (by omega) (by omega)]; omega), q_in (by omega) (by omega), q_in (by omega) (by omega), q_nat (by omega), q_a1]
      refine ih (k + 1) (by omega) _ (fr_si (fr_si hf (by decide) (by decide) _ _) (by decide) (by decide) _ _) ?_ ?_ ?_ (fun j hj => ?_)
      · simp only [pi_si, Nat.reduceEqDiff, if_false]; exact a5
      · simp only [pi_si, Nat.reduceEqDiff, if_false]; exact a6
      · simp only [pi_si, Nat.reduceEqDiff, if_false]; exact a7
      · simp only [pi_si, Nat.reduceEqDiff, if_true, if_false]
        by_cases ej : j = k
        · simp only [ej, if_true, and_self]
        · simp only [ej, if_false]
          exact a8 j (by omega)
  refine lz 30 0 (by omega) _ f0 ?_ ?_ ?_ (fun j hj => by omega)
  · simp only [pi_si, Nat.reduceEqDiff, if_true, if_false]
  · simp only [pi_si, if_true]; exact h81
  · simp only [pi_si, Nat.reduceEqDiff, if_true, if_false]
