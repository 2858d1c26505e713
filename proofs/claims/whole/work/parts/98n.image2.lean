/-! image and back: the calls. -/
section Xl98nimage2
variable {xl : (Nat → Int32) × Nat}
theorem INV_all {nc : Nat} {h h' : lm_H} (H : INV xl nc h) (hn : nc ≤ 10000) (R : RM xl (nc + 1) h') (sv : ∀ c, 31 ≤ c → c ≤ 46 → lm_i h' c = lm_i h c) (svl : lm_l h' 45 = lm_l h 45) (I : INVs h') (hv : lm_i h' 92 1 = lm_i h 92 1 + 1) (e28 : lm_i h' 92 28 = lm_i h 92 28) (e39 : lm_i h' 92 39 = lm_i h 92 39) (e50 : lm_i h' 92 50 = lm_i h 92 50) : INV xl (nc + 1) h' := by
  obtain ⟨h1, h2, v, n, m, cu, lo, W, B, h3, i1, i2, i3, i4⟩ := H
  obtain ⟨n', m', cu', lo', W', B', T'⟩ := tb_ex I
  obtain ⟨v1, v2, v3, v4⟩ := i3
  have e1 : lm_i h' 92 1 = Int32.ofNat (v + 1) := by
    rw [hv, v1]
    exact q_add v 1
  have old : ∀ x : Int32, (x = -1 ∨ ∃ b, b ≤ v ∧ x = Int32.ofNat b) → ¬ x = Int32.ofNat (v + 1) := by
    intro x hx q
    rcases hx with rfl | ⟨b, b1, rfl⟩
    · exact ne_m1 (by omega) q.symm
    · rw [q_eq (by omega) (by omega)] at q
      omega
  have uq : ∀ x : Int32, (x = -1 ∨ ∃ b, b ≤ v ∧ x = Int32.ofNat b) → (x = -1 ∨ ∃ b, b ≤ v + 1 ∧ x = Int32.ofNat b) := by
    intro x hx
    rcases hx with q | ⟨b, b1, q⟩
    · exact Or.inl q
    · exact Or.inr ⟨b, by omega, q⟩
  refine ⟨R, sI_of h2 I.1.1 sv svl, v + 1, n', m', cu', lo', W', B', by omega, I, T', ⟨e1, ?_, ?_, ?_⟩, fun q => ?_, fun q => ?_, fun q => ?_⟩
  · rw [e28]
    exact uq _ v2
  · rw [e39]
    exact uq _ v3
  · rw [e50]
    exact uq _ v4
  · rw [e28, e1] at q
    exact absurd q (old _ v2)
  · rw [e39, e1] at q
    exact absurd q (old _ v3)
  · rw [e50, e1] at q
    exact absurd q (old _ v4)
theorem iI_mv {h h' : lm_H} {k c : Nat} (H : iI h k c) (ho : OC h h') (hc : ∀ t, t < 6 → lm_r h' (c + 7) t = lm_r h (c + 7) t) (h10 : lm_i h' 10 k = lm_i h 10 k) (h96 : lm_i h' 96 k = lm_i h 96 k) (h95 : ∀ i, i < 4893 → lm_i h' 95 (4893 * k + i) = lm_i h 95 (4893 * k + i)) (f : ∀ a, c ≤ a → a < c + 7 → lm_i h' a = lm_i h a) : iI h' k c := by
  obtain ⟨a1, a2, a3⟩ := H
  refine ⟨by rw [h10, h96]; exact a1, by rw [h96]; exact a2, fun q => ?_⟩
  rw [h96] at q
  obtain ⟨b1, b2, b3⟩ := a3 q
  refine ⟨tw_mv b1 ?_ ?_ ?_ ?_ ?_ ?_ ?_ (fun j hj => h95 j (by omega)), wf_mv b2 (fun j hj => h95 j (by omega)), iL_mv b3 ho hc (fun j hj => h95 j hj)⟩
  · intro j _; rw [f _ (by omega) (by omega)]
  · intro j _; rw [f _ (by omega) (by omega)]
  · intro j _; rw [f _ (by omega) (by omega)]
  · intro j _; rw [f _ (by omega) (by omega)]
  · intro j _; rw [f _ (by omega) (by omega)]
  · intro j _; rw [f _ (by omega) (by omega)]
  · intro j _; rw [f _ (by omega) (by omega)]
theorem lp_158 {d k : Nat} {h : lm_H} {K : Int32 → lm_H → Prop} (hl : lm_Lay h) (hk : k < 2) (hK : ∀ z, fr [95] [] h z → (∀ j, j < 4893 → lm_i z 95 (4893 * k + j) = lm_i h 94 j) → (∀ j, (j < 4893 * k ∨ 4893 * k + 4893 ≤ j) → lm_i z 95 j = lm_i h 95 j) → K 0 (lm_si (lm_si (lm_si z 96 k 1) 92 0 0) 92 1 ((lm_i z 92 1) + 1))) : (lm_W (d + 1) 158 17 [some (.ref 92), some (.int (Int32.ofNat k)), some (.int 0)] [] h (lm_kI K)) := by
  have lp : ∀ r x : Nat, r + x = 4893 → ∀ z, fr [95] [] h z → (∀ j, j < x → lm_i z 95 (4893 * k + j) = lm_i h 94 j) → (∀ j, (j < 4893 * k ∨ 4893 * k + 4893 ≤ j) → lm_i z 95 j = lm_i h 95 j) → (lm_W (d + 1) 158 17 [some (.ref 92), some (.int (Int32.ofNat k)), some (.int (Int32.ofNat x))] [] z (lm_kI K)) := by
    intro r
    induction r with
    | zero =>
      intro x hx z f1 z1 z2
      have : x = 4893 := by omega
      subst this
      refine b_158_17 _ _ (fr_Lay f1 hl) ?_
      rw [if_neg (by decide), q_in hk (by decide), q_nat (by omega)]
      exact hK z f1 z1 z2
    | succ r ih =>
      intro x hx z f1 z1 z2
      refine b_158_17 _ _ (fr_Lay f1 hl) ?_
      rw [if_pos (by rw [show (4893 : Int32) = Int32.ofNat 4893 from rfl, q_lt (by omega) (by omega)]; omega), show (4893 : Int32) = Int32.ofNat 4893 from rfl, q_mul, q_add, q_in (by omega) (by decide), q_in (by omega) (by decide), q_nat (by omega), q_nat (by omega), q_a1, fr_i f1 (c := 94) (by decide) (by decide)]
      refine ih (x + 1) (by omega) _ (fr_si f1 (by decide) (by decide) _ _) (fun j hj => ?_) (fun j hj => ?_)
      · rw [pi_si, if_pos rfl]
        by_cases e : j = x
        · subst e
          rw [if_pos rfl]
        · rw [if_neg (by omega)]
          exact z1 j (by omega)
      · rw [pi_si, if_pos rfl, if_neg (by omega)]
        exact z2 j hj
  exact lp 4893 0 (by omega) h (fr_refl _ _ _) (fun j hj => by omega) (fun _ _ => rfl)
theorem lp_159 {d k : Nat} {h : lm_H} {K : Int32 → lm_H → Prop} (hl : lm_Lay h) (hk : k < 2) (hK : ∀ z, fr [94] [] h z → (∀ j, j < 4893 → lm_i z 94 j = lm_i h 95 (4893 * k + j)) → K 0 (lm_si (lm_si z 92 0 0) 92 1 ((lm_i z 92 1) + 1))) : (lm_W (d + 1) 159 33 [some (.ref 92), some (.int (Int32.ofNat k)), some (.int 0)] [] h (lm_kI K)) := by
  have lp : ∀ r x : Nat, r + x = 4893 → ∀ z, fr [94] [] h z → (∀ j, j < x → lm_i z 94 j = lm_i h 95 (4893 * k + j)) → (lm_W (d + 1) 159 33 [some (.ref 92), some (.int (Int32.ofNat k)), some (.int (Int32.ofNat x))] [] z (lm_kI K)) := by
    intro r
    induction r with
    | zero =>
      intro x hx z f1 z1
      have : x = 4893 := by omega
      subst this
      refine b_159_33 _ _ (fr_Lay f1 hl) ?_
      rw [if_neg (by decide)]
      exact hK z f1 z1
    | succ r ih =>
      intro x hx z f1 z1
      refine b_159_33 _ _ (fr_Lay f1 hl) ?_
      rw [if_pos (by rw [show (4893 : Int32) = Int32.ofNat 4893 from rfl, q_lt (by omega) (by omega)]; omega), show (4893 : Int32) = Int32.ofNat 4893 from rfl, q_mul, q_add, q_in (by omega) (by decide), q_in (by omega) (by decide), q_nat (by omega), q_nat (by omega), q_a1, fr_i f1 (c := 95) (by decide) (by decide)]
      refine ih (x + 1) (by omega) _ (fr_si f1 (by decide) (by decide) _ _) (fun j hj => ?_)
      rw [pi_si, if_pos rfl]
      by_cases e : j = x
      · subst e
        rw [if_pos rfl]
      · rw [if_neg e]
        exact z1 j (by omega)
  exact lp 4893 0 (by omega) h (fr_refl _ _ _) (fun j hj => by omega)
theorem OC_cp {T F : Nat} {h h' : lm_H} (C : CP T F h h') (hT : T + 7 < 119) : OC h h' := by
  obtain ⟨_, c1, c2, _, c4, _⟩ := C
  intro a x h1 h2 h3
  refine ⟨?_, c2 a (by omega), c4 a (by omega)⟩
  unfold lm_sh at h3 ⊢
  rw [if_pos h2] at h3 ⊢
  rw [c1]
  exact h3
theorem OC_tr {h h1 h2 : lm_H} (a : OC h h1) (b : OC h1 h2) : OC h h2 := by
  intro c x c1 c2 c3
  obtain ⟨p1, p2, p3⟩ := a c x c1 c2 c3
  obtain ⟨q1, q2, q3⟩ := b c x c1 c2 p1
  exact ⟨q1, by rw [q2, p2], by rw [q3, p3]⟩
theorem im_0 {d nc : Nat} {h : lm_H} (hn : nc ≤ 10000) (H : INV xl nc h) : lm_call (d + 169) 53 [.ref 76, .ref 1] h (lm_kV fun h1 => lm_in (Int32.ofNat 0) 2 False (lm_call (d + 170) 158 [.ref 92, .int (Int32.ofNat 0)] (lm_si (lm_si h1 10 ((Int32.ofNat 0).toNatClampNeg) 1) 0 15 0) (lm_kI fun r2 h2 => 0 = r2 ∧ INV xl (nc + 1) h2))) := by
  have hs := INV_s H
  have RMh := H.1
  obtain ⟨⟨hl, ht, hw, ⟨m1, m2, m3, m4⟩, m5, m6, m7, m8, m9⟩, ⟨b0, b1⟩, tp, c2, c3, c4, c5⟩ := hs
  refine cl_530 (by omega) hl c3.2 (fun h1 C => ?_)
  rw [q_in (by decide) (by decide), q_nat (by decide)]
  have oc1 := OC_cp C (by decide)
  obtain ⟨k1, k2, k3, k4, k5, k6, k7, k8, k9, k10, k11, k12, k13⟩ := C
  have f1 : fr [0, 10] [] h1 (lm_si (lm_si h1 10 0 1) 0 15 0) := fr_si (fr_si (fr_refl _ _ _) (by decide) (by decide) _ _) (by decide) (by decide) _ _
  refine e_158 _ (fr_Lay f1 k1) ?_
  rw [if_neg (by decide), if_neg (by decide)]
  refine lp_158 (fr_Lay f1 k1) (by decide) (fun z f2 z1 z2 => ?_)
  have f3 : fr [0, 10, 95, 96] [0, 1] h1 (lm_si (lm_si (lm_si z 96 0 1) 92 0 0) 92 1 ((lm_i z 92 1) + 1)) := fr_s92 (fr_s92 (fr_si (fr_trans (fr_sub f1 (by decide) (by decide)) (fr_sub f2 (by decide) (by decide))) (by decide) (by decide) _ _) (by decide) _) (by decide) _
  have x94 : lm_i (lm_si (lm_si h1 10 0 1) 0 15 0) 94 = lm_i h 94 := by rw [fr_i f1 (by decide) (by decide), k3 94 (by omega)]
  have x95 : lm_i (lm_si (lm_si h1 10 0 1) 0 15 0) 95 = lm_i h 95 := by rw [fr_i f1 (by decide) (by decide), k3 95 (by omega)]
  rw [x94] at z1
  rw [x95] at z2
  have y95 : lm_i (lm_si (lm_si (lm_si z 96 0 1) 92 0 0) 92 1 ((lm_i z 92 1) + 1)) 95 = lm_i z 95 := rfl
  have y10 : ∀ j, lm_i (lm_si (lm_si (lm_si z 96 0 1) 92 0 0) 92 1 ((lm_i z 92 1) + 1)) 10 j = if j = 0 then 1 else lm_i h 10 j := by
    intro j
    show lm_i z 10 j = _
    rw [fr_i f2 (by decide) (by decide)]
    show (if j = 0 then 1 else lm_i h1 10 j) = _
    rw [k3 10 (by omega)]
  have y96 : ∀ j, lm_i (lm_si (lm_si (lm_si z 96 0 1) 92 0 0) 92 1 ((lm_i z 92 1) + 1)) 96 j = if j = 0 then 1 else lm_i h 96 j := by
    intro j
    show (if j = 0 then 1 else lm_i z 96 j) = _
    rw [fr_i f2 (c := 96) (by decide) (by decide), fr_i f1 (c := 96) (by decide) (by decide), k3 96 (by omega)]
  have yv : lm_i (lm_si (lm_si (lm_si z 96 0 1) 92 0 0) 92 1 ((lm_i z 92 1) + 1)) 92 1 = lm_i h 92 1 + 1 := by
    show lm_i z 92 1 + 1 = _
    rw [fr_m f2 (by decide), fr_m f1 (by decide), k3 92 (by omega)]
  have y0 : lm_i (lm_si (lm_si (lm_si z 96 0 1) 92 0 0) 92 1 ((lm_i z 92 1) + 1)) 92 0 = 0 := rfl
  have y015 : ∀ j, lm_i (lm_si (lm_si (lm_si z 96 0 1) 92 0 0) 92 1 ((lm_i z 92 1) + 1)) 0 j = if j = 15 then 0 else lm_i h 0 j := by
    intro j
    show lm_i z 0 j = _
    rw [fr_i f2 (by decide) (by decide)]
    show (if j = 15 then 0 else lm_i h1 0 j) = _
    rw [k3 0 (by omega)]
  have g1 : (lm_si (lm_si (lm_si z 96 0 1) 92 0 0) 92 1 ((lm_i z 92 1) + 1)).1 = h.1 := by rw [f3.1, k2]
  generalize lm_si (lm_si (lm_si z 96 0 1) 92 0 0) 92 1 ((lm_i z 92 1) + 1) = h4 at f3 y95 y10 y96 yv y0 y015 g1
  have oc : OC h h4 := OC_tr oc1 (OC_fr f3 (hi_of (by decide)))
  have fi : ∀ a, [0, 10, 95, 96].contains a = false → ¬ a = 92 → (a < 76 ∨ 76 + 7 ≤ a) → lm_i h4 a = lm_i h a := fun a h1 h2 h3 => by rw [fr_i f3 h1 h2, k3 a h3]
  have fm : ∀ s, [0, 1].contains s = false → lm_i h4 92 s = lm_i h 92 s := fun s h1 => by rw [fr_m f3 h1, k3 92 (by omega)]
  have rr : ∀ a, ¬ a = 76 + 7 → lm_r h4 a = lm_r h a := fun a ha => by rw [fr_r f3, k5 a ha]
  have e94 := fi 94 (by decide) (by decide) (by omega)
  have ft : ∀ a, 76 ≤ a → a < 76 + 7 → lm_i h4 a = lm_i h1 a := fun a h1 h2 => fr_i f3 (by
    have : ¬ a ∈ [0, 10, 95, 96] := by
      simp only [List.mem_cons, List.not_mem_nil, or_false]
      omega
    simpa using this) (by omega)
  refine ⟨rfl, INV_all H hn (RM_of RMh ⟨g1, by rw [fr_i f3 (by decide) (by decide), k3 1000000 (by omega)], by rw [fr_r f3, k5 1000000 (by omega)]⟩) (fun c h1 h2 => fi c (by
    have : ¬ c ∈ [0, 10, 95, 96] := by
      simp only [List.mem_cons, List.not_mem_nil, or_false]
      omega
    simpa using this) (by omega) (by omega)) (by rw [fr_l f3 (by decide) (by decide), k4 45]) ?_ yv (fm 28 (by decide)) (fm 39 (by decide)) (fm 50 (by decide))⟩
  have new : iI h4 0 76 := by
    refine ⟨by rw [y10, y96, if_pos rfl, if_pos rfl], Or.inr (by rw [y96, if_pos rfl]), fun _ => ⟨tw_mv (c := 1) ht ?_ ?_ ?_ ?_ ?_ ?_ ?_ (fun j hj => ?_), wf_mv hw (fun j hj => ?_), iL_mv (c := 8) c3 oc (fun t ht => ?_) (fun j hj => ?_)⟩⟩
    · intro j hj; rw [ft _ (by omega) (by omega)]; exact k7 j hj
    · intro j hj; rw [ft _ (by omega) (by omega)]; exact k8 j hj
    · intro j hj; rw [ft _ (by omega) (by omega)]; exact k9 j hj
    · intro j hj; rw [ft _ (by omega) (by omega)]; exact k10 j hj
    · intro j hj; rw [ft _ (by omega) (by omega)]; exact k11 j hj
    · intro j hj; rw [ft _ (by omega) (by omega)]; exact k12 j hj
    · intro j hj; rw [ft _ (by omega) (by omega)]; exact k13 j hj
    · show lm_i h4 95 (4893 * 0 + j) = _
      rw [y95]
      exact z1 j (by omega)
    · show lm_i h4 95 (4893 * 0 + j) = _
      rw [y95]
      exact z1 j (by omega)
    · rw [fr_r f3]
      exact k6 t ht
    · show lm_i h4 95 (4893 * 0 + j) = _
      rw [y95]
      exact z1 j hj
  have oth : ∀ q c, iI h q c → q < 2 → ¬ q = 0 → c = 84 → iI h4 q c := by
    intro q c hq q2 qk hc
    subst hc
    refine iI_mv hq oc (fun t _ => by rw [rr _ (by omega)]) (by rw [y10, if_neg qk]) (by rw [y96, if_neg qk]) (fun i hi => by rw [y95]; exact z2 _ (by omega)) (fun a h1 h2 => fi a (by
      have : ¬ a ∈ [0, 10, 95, 96] := by
        simp only [List.mem_cons, List.not_mem_nil, or_false]
        omega
      simpa using this) (by omega) (by omega))
  refine ⟨⟨fr_Lay f3 k1, ?_, by rw [e94]; exact hw, ⟨?_, ?_, ?_, ?_⟩, ?_⟩, ⟨?_, ?_⟩, ?_, ?_, ?_, ?_, ?_⟩
  · rw [e94]
    exact tw_of ht (fi 1 (by decide) (by decide) (by omega)) (fi 2 (by decide) (by decide) (by omega)) (fi 3 (by decide) (by decide) (by omega)) (fi 4 (by decide) (by decide) (by omega)) (fi 5 (by decide) (by decide) (by omega)) (fi 6 (by decide) (by decide) (by omega)) (fi 7 (by decide) (by decide) (by omega))
  · rw [y015, if_pos rfl, y0]
  · rw [y015, if_neg (by decide), fm 11 (by decide)]; exact m2
  · rw [y015, if_neg (by decide), fm 6 (by decide)]; exact m3
  · rw [fi 11 (by decide) (by decide) (by omega), fm 10 (by decide)]; exact m4
  · rw [fi 75 (by decide) (by decide) (by omega), fi 93 (by decide) (by decide) (by omega)]; exact ⟨m5, m6, m7, m8, m9⟩
  · first
    | exact new
    | exact oth 0 76 b0 (by decide) (by decide) rfl
  · first
    | exact new
    | exact oth 1 84 b1 (by decide) (by decide) rfl
  · unfold iT at tp ⊢
    rw [fi 12 (by decide) (by decide) (by omega), fi 98 (by decide) (by decide) (by omega), fm 10 (by decide)]
    exact tp
  · rw [fi 97 (by decide) (by decide) (by omega)]
    exact c2
  · exact iL_of c3 oc (fun t _ => by rw [rr 8 (by decide)]) (by rw [e94]) (fun j _ => by rw [e94])
  · unfold iY at c4 ⊢
    rw [fi 58 (by decide) (by decide) (by omega), fi 64 (by decide) (by decide) (by omega), fi 65 (by decide) (by decide) (by omega), fi 66 (by decide) (by decide) (by omega), fi 115 (by decide) (by decide) (by omega), fi 116 (by decide) (by decide) (by omega), fi 117 (by decide) (by decide) (by omega), fm 55 (by decide), fm 56 (by decide)]
    exact c4
  · rw [fi 74 (by decide) (by decide) (by omega)]
    exact c5
theorem im_1 {d nc : Nat} {h : lm_H} (hn : nc ≤ 10000) (H : INV xl nc h) : lm_call (d + 169) 53 [.ref 84, .ref 1] h (lm_kV fun h1 => lm_in (Int32.ofNat 1) 2 False (lm_call (d + 170) 158 [.ref 92, .int (Int32.ofNat 1)] (lm_si (lm_si h1 10 ((Int32.ofNat 1).toNatClampNeg) 1) 0 15 0) (lm_kI fun r2 h2 => 0 = r2 ∧ INV xl (nc + 1) h2))) := by
  have hs := INV_s H
  have RMh := H.1
  obtain ⟨⟨hl, ht, hw, ⟨m1, m2, m3, m4⟩, m5, m6, m7, m8, m9⟩, ⟨b0, b1⟩, tp, c2, c3, c4, c5⟩ := hs
  refine cl_531 (by omega) hl c3.2 (fun h1 C => ?_)
  rw [q_in (by decide) (by decide), q_nat (by decide)]
  have oc1 := OC_cp C (by decide)
  obtain ⟨k1, k2, k3, k4, k5, k6, k7, k8, k9, k10, k11, k12, k13⟩ := C
  have f1 : fr [0, 10] [] h1 (lm_si (lm_si h1 10 1 1) 0 15 0) := fr_si (fr_si (fr_refl _ _ _) (by decide) (by decide) _ _) (by decide) (by decide) _ _
  refine e_158 _ (fr_Lay f1 k1) ?_
  rw [if_neg (by decide), if_neg (by decide)]
  refine lp_158 (fr_Lay f1 k1) (by decide) (fun z f2 z1 z2 => ?_)
  have f3 : fr [0, 10, 95, 96] [0, 1] h1 (lm_si (lm_si (lm_si z 96 1 1) 92 0 0) 92 1 ((lm_i z 92 1) + 1)) := fr_s92 (fr_s92 (fr_si (fr_trans (fr_sub f1 (by decide) (by decide)) (fr_sub f2 (by decide) (by decide))) (by decide) (by decide) _ _) (by decide) _) (by decide) _
  have x94 : lm_i (lm_si (lm_si h1 10 1 1) 0 15 0) 94 = lm_i h 94 := by rw [fr_i f1 (by decide) (by decide), k3 94 (by omega)]
  have x95 : lm_i (lm_si (lm_si h1 10 1 1) 0 15 0) 95 = lm_i h 95 := by rw [fr_i f1 (by decide) (by decide), k3 95 (by omega)]
  rw [x94] at z1
  rw [x95] at z2
  have y95 : lm_i (lm_si (lm_si (lm_si z 96 1 1) 92 0 0) 92 1 ((lm_i z 92 1) + 1)) 95 = lm_i z 95 := rfl
  have y10 : ∀ j, lm_i (lm_si (lm_si (lm_si z 96 1 1) 92 0 0) 92 1 ((lm_i z 92 1) + 1)) 10 j = if j = 1 then 1 else lm_i h 10 j := by
    intro j
    show lm_i z 10 j = _
    rw [fr_i f2 (by decide) (by decide)]
    show (if j = 1 then 1 else lm_i h1 10 j) = _
    rw [k3 10 (by omega)]
  have y96 : ∀ j, lm_i (lm_si (lm_si (lm_si z 96 1 1) 92 0 0) 92 1 ((lm_i z 92 1) + 1)) 96 j = if j = 1 then 1 else lm_i h 96 j := by
    intro j
    show (if j = 1 then 1 else lm_i z 96 j) = _
    rw [fr_i f2 (c := 96) (by decide) (by decide), fr_i f1 (c := 96) (by decide) (by decide), k3 96 (by omega)]
  have yv : lm_i (lm_si (lm_si (lm_si z 96 1 1) 92 0 0) 92 1 ((lm_i z 92 1) + 1)) 92 1 = lm_i h 92 1 + 1 := by
    show lm_i z 92 1 + 1 = _
    rw [fr_m f2 (by decide), fr_m f1 (by decide), k3 92 (by omega)]
  have y0 : lm_i (lm_si (lm_si (lm_si z 96 1 1) 92 0 0) 92 1 ((lm_i z 92 1) + 1)) 92 0 = 0 := rfl
  have y015 : ∀ j, lm_i (lm_si (lm_si (lm_si z 96 1 1) 92 0 0) 92 1 ((lm_i z 92 1) + 1)) 0 j = if j = 15 then 0 else lm_i h 0 j := by
    intro j
    show lm_i z 0 j = _
    rw [fr_i f2 (by decide) (by decide)]
    show (if j = 15 then 0 else lm_i h1 0 j) = _
    rw [k3 0 (by omega)]
  have g1 : (lm_si (lm_si (lm_si z 96 1 1) 92 0 0) 92 1 ((lm_i z 92 1) + 1)).1 = h.1 := by rw [f3.1, k2]
  generalize lm_si (lm_si (lm_si z 96 1 1) 92 0 0) 92 1 ((lm_i z 92 1) + 1) = h4 at f3 y95 y10 y96 yv y0 y015 g1
  have oc : OC h h4 := OC_tr oc1 (OC_fr f3 (hi_of (by decide)))
  have fi : ∀ a, [0, 10, 95, 96].contains a = false → ¬ a = 92 → (a < 84 ∨ 84 + 7 ≤ a) → lm_i h4 a = lm_i h a := fun a h1 h2 h3 => by rw [fr_i f3 h1 h2, k3 a h3]
  have fm : ∀ s, [0, 1].contains s = false → lm_i h4 92 s = lm_i h 92 s := fun s h1 => by rw [fr_m f3 h1, k3 92 (by omega)]
  have rr : ∀ a, ¬ a = 84 + 7 → lm_r h4 a = lm_r h a := fun a ha => by rw [fr_r f3, k5 a ha]
  have e94 := fi 94 (by decide) (by decide) (by omega)
  have ft : ∀ a, 84 ≤ a → a < 84 + 7 → lm_i h4 a = lm_i h1 a := fun a h1 h2 => fr_i f3 (by
    have : ¬ a ∈ [0, 10, 95, 96] := by
      simp only [List.mem_cons, List.not_mem_nil, or_false]
      omega
    simpa using this) (by omega)
  refine ⟨rfl, INV_all H hn (RM_of RMh ⟨g1, by rw [fr_i f3 (by decide) (by decide), k3 1000000 (by omega)], by rw [fr_r f3, k5 1000000 (by omega)]⟩) (fun c h1 h2 => fi c (by
    have : ¬ c ∈ [0, 10, 95, 96] := by
      simp only [List.mem_cons, List.not_mem_nil, or_false]
      omega
    simpa using this) (by omega) (by omega)) (by rw [fr_l f3 (by decide) (by decide), k4 45]) ?_ yv (fm 28 (by decide)) (fm 39 (by decide)) (fm 50 (by decide))⟩
  have new : iI h4 1 84 := by
    refine ⟨by rw [y10, y96, if_pos rfl, if_pos rfl], Or.inr (by rw [y96, if_pos rfl]), fun _ => ⟨tw_mv (c := 1) ht ?_ ?_ ?_ ?_ ?_ ?_ ?_ (fun j hj => ?_), wf_mv hw (fun j hj => ?_), iL_mv (c := 8) c3 oc (fun t ht => ?_) (fun j hj => ?_)⟩⟩
    · intro j hj; rw [ft _ (by omega) (by omega)]; exact k7 j hj
    · intro j hj; rw [ft _ (by omega) (by omega)]; exact k8 j hj
    · intro j hj; rw [ft _ (by omega) (by omega)]; exact k9 j hj
    · intro j hj; rw [ft _ (by omega) (by omega)]; exact k10 j hj
    · intro j hj; rw [ft _ (by omega) (by omega)]; exact k11 j hj
    · intro j hj; rw [ft _ (by omega) (by omega)]; exact k12 j hj
    · intro j hj; rw [ft _ (by omega) (by omega)]; exact k13 j hj
    · show lm_i h4 95 (4893 * 1 + j) = _
      rw [y95]
      exact z1 j (by omega)
    · show lm_i h4 95 (4893 * 1 + j) = _
      rw [y95]
      exact z1 j (by omega)
    · rw [fr_r f3]
      exact k6 t ht
    · show lm_i h4 95 (4893 * 1 + j) = _
      rw [y95]
      exact z1 j hj
  have oth : ∀ q c, iI h q c → q < 2 → ¬ q = 1 → c = 76 → iI h4 q c := by
    intro q c hq q2 qk hc
    subst hc
    refine iI_mv hq oc (fun t _ => by rw [rr _ (by omega)]) (by rw [y10, if_neg qk]) (by rw [y96, if_neg qk]) (fun i hi => by rw [y95]; exact z2 _ (by omega)) (fun a h1 h2 => fi a (by
      have : ¬ a ∈ [0, 10, 95, 96] := by
        simp only [List.mem_cons, List.not_mem_nil, or_false]
        omega
      simpa using this) (by omega) (by omega))
  refine ⟨⟨fr_Lay f3 k1, ?_, by rw [e94]; exact hw, ⟨?_, ?_, ?_, ?_⟩, ?_⟩, ⟨?_, ?_⟩, ?_, ?_, ?_, ?_, ?_⟩
  · rw [e94]
    exact tw_of ht (fi 1 (by decide) (by decide) (by omega)) (fi 2 (by decide) (by decide) (by omega)) (fi 3 (by decide) (by decide) (by omega)) (fi 4 (by decide) (by decide) (by omega)) (fi 5 (by decide) (by decide) (by omega)) (fi 6 (by decide) (by decide) (by omega)) (fi 7 (by decide) (by decide) (by omega))
  · rw [y015, if_pos rfl, y0]
  · rw [y015, if_neg (by decide), fm 11 (by decide)]; exact m2
  · rw [y015, if_neg (by decide), fm 6 (by decide)]; exact m3
  · rw [fi 11 (by decide) (by decide) (by omega), fm 10 (by decide)]; exact m4
  · rw [fi 75 (by decide) (by decide) (by omega), fi 93 (by decide) (by decide) (by omega)]; exact ⟨m5, m6, m7, m8, m9⟩
  · first
    | exact new
    | exact oth 0 76 b0 (by decide) (by decide) rfl
  · first
    | exact new
    | exact oth 1 84 b1 (by decide) (by decide) rfl
  · unfold iT at tp ⊢
    rw [fi 12 (by decide) (by decide) (by omega), fi 98 (by decide) (by decide) (by omega), fm 10 (by decide)]
    exact tp
  · rw [fi 97 (by decide) (by decide) (by omega)]
    exact c2
  · exact iL_of c3 oc (fun t _ => by rw [rr 8 (by decide)]) (by rw [e94]) (fun j _ => by rw [e94])
  · unfold iY at c4 ⊢
    rw [fi 58 (by decide) (by decide) (by omega), fi 64 (by decide) (by decide) (by omega), fi 65 (by decide) (by decide) (by omega), fi 66 (by decide) (by decide) (by omega), fi 115 (by decide) (by decide) (by omega), fi 116 (by decide) (by decide) (by omega), fi 117 (by decide) (by decide) (by omega), fm 55 (by decide), fm 56 (by decide)]
    exact c4
  · rw [fi 74 (by decide) (by decide) (by omega)]
    exact c5
theorem bk_0 {d nc : Nat} {h : lm_H} (hn : nc ≤ 10000) (H : INV xl nc h) (kept : lm_i h 96 0 = 1) : lm_call (d + 169) 53 [.ref 1, .ref 76] h (lm_kV fun h1 => lm_call (d + 170) 159 [.ref 92, .int (Int32.ofNat 0)] (lm_si h1 0 15 0) (lm_kI fun r2 h2 => 0 = r2 ∧ INV xl (nc + 1) h2)) := by
  have hs := INV_s H
  have RMh := H.1
  obtain ⟨⟨hl, ht, hw, ⟨m1, m2, m3, m4⟩, m5, m6, m7, m8, m9⟩, ⟨b0, b1⟩, tp, c2, c3, c4, c5⟩ := hs
  have bb : iI h 0 76 := by
    first
    | exact b0
    | exact b1
  obtain ⟨t1, t2, t3⟩ := bb.2.2 kept
  refine cl_53b0 (by omega) hl t3.2 (fun h1 C => ?_)
  have oc1 := OC_cp C (by decide)
  obtain ⟨k1, k2, k3, k4, k5, k6, k7, k8, k9, k10, k11, k12, k13⟩ := C
  have f1 : fr [0] [] h1 (lm_si h1 0 15 0) := fr_si (fr_refl _ _ _) (by decide) (by decide) _ _
  have x96 : lm_i (lm_si h1 0 15 0) 96 0 = 1 := by rw [fr_i f1 (by decide) (by decide), k3 96 (by omega)]; exact kept
  refine e_159 _ (fr_Lay f1 k1) ?_
  rw [if_neg (by decide), if_neg (by decide), q_in (by decide) (by decide), q_nat (by decide), x96, if_neg (by decide)]
  refine lp_159 (fr_Lay f1 k1) (by decide) (fun z f2 z1 => ?_)
  have f3 : fr [0, 94] [0, 1] h1 (lm_si (lm_si z 92 0 0) 92 1 ((lm_i z 92 1) + 1)) := fr_s92 (fr_s92 (fr_trans (fr_sub f1 (by decide) (by decide)) (fr_sub f2 (by decide) (by decide))) (by decide) _) (by decide) _
  have x95 : lm_i (lm_si h1 0 15 0) 95 = lm_i h 95 := by rw [fr_i f1 (by decide) (by decide), k3 95 (by omega)]
  rw [x95] at z1
  have y94 : lm_i (lm_si (lm_si z 92 0 0) 92 1 ((lm_i z 92 1) + 1)) 94 = lm_i z 94 := rfl
  have yv : lm_i (lm_si (lm_si z 92 0 0) 92 1 ((lm_i z 92 1) + 1)) 92 1 = lm_i h 92 1 + 1 := by
    show lm_i z 92 1 + 1 = _
    rw [fr_m f2 (by decide), fr_m f1 (by decide), k3 92 (by omega)]
  have y0 : lm_i (lm_si (lm_si z 92 0 0) 92 1 ((lm_i z 92 1) + 1)) 92 0 = 0 := rfl
  have y015 : ∀ j, lm_i (lm_si (lm_si z 92 0 0) 92 1 ((lm_i z 92 1) + 1)) 0 j = if j = 15 then 0 else lm_i h 0 j := by
    intro j
    show lm_i z 0 j = _
    rw [fr_i f2 (by decide) (by decide)]
    show (if j = 15 then 0 else lm_i h1 0 j) = _
    rw [k3 0 (by omega)]
  have g1 : (lm_si (lm_si z 92 0 0) 92 1 ((lm_i z 92 1) + 1)).1 = h.1 := by rw [f3.1, k2]
  generalize lm_si (lm_si z 92 0 0) 92 1 ((lm_i z 92 1) + 1) = h4 at f3 y94 yv y0 y015 g1
  have oc : OC h h4 := OC_tr oc1 (OC_fr f3 (hi_of (by decide)))
  have fi : ∀ a, [0, 94].contains a = false → ¬ a = 92 → (a < 1 ∨ 1 + 7 ≤ a) → lm_i h4 a = lm_i h a := fun a h1 h2 h3 => by rw [fr_i f3 h1 h2, k3 a h3]
  have fm : ∀ s, [0, 1].contains s = false → lm_i h4 92 s = lm_i h 92 s := fun s h1 => by rw [fr_m f3 h1, k3 92 (by omega)]
  have rr : ∀ a, ¬ a = 1 + 7 → lm_r h4 a = lm_r h a := fun a ha => by rw [fr_r f3, k5 a ha]
  have e94 : ∀ j, j < 4893 → lm_i h4 94 j = lm_i h 95 (4893 * 0 + j) := fun j hj => by rw [y94]; exact z1 j hj
  have nin : ∀ a, 1 ≤ a → ¬ a = 94 → [0, 94].contains a = false := by
    intro a h1 h2
    have : ¬ a ∈ [0, 94] := by
      simp only [List.mem_cons, List.not_mem_nil, or_false]
      omega
    simpa using this
  have ft : ∀ a, 1 ≤ a → a < 1 + 7 → lm_i h4 a = lm_i h1 a := fun a h1 h2 => fr_i f3 (nin a h1 (by omega)) (by omega)
  refine ⟨rfl, INV_all H hn (RM_of RMh ⟨g1, by rw [fr_i f3 (by decide) (by decide), k3 1000000 (by omega)], by rw [fr_r f3, k5 1000000 (by omega)]⟩) (fun c h1 h2 => fi c (nin c (by omega) (by omega)) (by omega) (by omega)) (by rw [fr_l f3 (by decide) (by decide), k4 45]) ?_ yv (fm 28 (by decide)) (fm 39 (by decide)) (fm 50 (by decide))⟩
  have oth : ∀ q c, iI h q c → 76 ≤ c → c ≤ 84 → iI h4 q c := by
    intro q c hq q1 q2
    exact iI_mv hq oc (fun t _ => by rw [rr _ (by omega)]) (by rw [fi 10 (by decide) (by decide) (by omega)]) (by rw [fi 96 (by decide) (by decide) (by omega)]) (fun i hi => by rw [fi 95 (by decide) (by decide) (by omega)]) (fun a h1 h2 => fi a (nin a (by omega) (by omega)) (by omega) (by omega))
  refine ⟨⟨fr_Lay f3 k1, ?_, wf_mv t2 (fun j hj => e94 j (by omega)), ⟨?_, ?_, ?_, ?_⟩, ?_⟩, ⟨oth 0 76 b0 (by omega) (by omega), oth 1 84 b1 (by omega) (by omega)⟩, ?_, ?_, ?_, ?_, ?_⟩
  · refine tw_mv (c := 76) t1 ?_ ?_ ?_ ?_ ?_ ?_ ?_ (fun j hj => e94 j (by omega))
    · intro j hj; rw [ft _ (by omega) (by omega)]; exact k7 j hj
    · intro j hj; rw [ft _ (by omega) (by omega)]; exact k8 j hj
    · intro j hj; rw [ft _ (by omega) (by omega)]; exact k9 j hj
    · intro j hj; rw [ft _ (by omega) (by omega)]; exact k10 j hj
    · intro j hj; rw [ft _ (by omega) (by omega)]; exact k11 j hj
    · intro j hj; rw [ft _ (by omega) (by omega)]; exact k12 j hj
    · intro j hj; rw [ft _ (by omega) (by omega)]; exact k13 j hj
  · rw [y015, if_pos rfl, y0]
  · rw [y015, if_neg (by decide), fm 11 (by decide)]; exact m2
  · rw [y015, if_neg (by decide), fm 6 (by decide)]; exact m3
  · rw [fi 11 (by decide) (by decide) (by omega), fm 10 (by decide)]; exact m4
  · rw [fi 75 (by decide) (by decide) (by omega), fi 93 (by decide) (by decide) (by omega)]; exact ⟨m5, m6, m7, m8, m9⟩
  · unfold iT at tp ⊢
    rw [fi 12 (by decide) (by decide) (by omega), fi 98 (by decide) (by decide) (by omega), fm 10 (by decide)]
    exact tp
  · rw [fi 97 (by decide) (by decide) (by omega)]
    exact c2
  · exact iL_mv (c := 76 + 7) t3 oc (fun t ht => by rw [fr_r f3]; exact k6 t ht) e94
  · unfold iY at c4 ⊢
    rw [fi 58 (by decide) (by decide) (by omega), fi 64 (by decide) (by decide) (by omega), fi 65 (by decide) (by decide) (by omega), fi 66 (by decide) (by decide) (by omega), fi 115 (by decide) (by decide) (by omega), fi 116 (by decide) (by decide) (by omega), fi 117 (by decide) (by decide) (by omega), fm 55 (by decide), fm 56 (by decide)]
    exact c4
  · rw [fi 74 (by decide) (by decide) (by omega)]
    exact c5
theorem bk_1 {d nc : Nat} {h : lm_H} (hn : nc ≤ 10000) (H : INV xl nc h) (kept : lm_i h 96 1 = 1) : lm_call (d + 169) 53 [.ref 1, .ref 84] h (lm_kV fun h1 => lm_call (d + 170) 159 [.ref 92, .int (Int32.ofNat 1)] (lm_si h1 0 15 0) (lm_kI fun r2 h2 => 0 = r2 ∧ INV xl (nc + 1) h2)) := by
  have hs := INV_s H
  have RMh := H.1
  obtain ⟨⟨hl, ht, hw, ⟨m1, m2, m3, m4⟩, m5, m6, m7, m8, m9⟩, ⟨b0, b1⟩, tp, c2, c3, c4, c5⟩ := hs
  have bb : iI h 1 84 := by
    first
    | exact b0
    | exact b1
  obtain ⟨t1, t2, t3⟩ := bb.2.2 kept
  refine cl_53b1 (by omega) hl t3.2 (fun h1 C => ?_)
  have oc1 := OC_cp C (by decide)
  obtain ⟨k1, k2, k3, k4, k5, k6, k7, k8, k9, k10, k11, k12, k13⟩ := C
  have f1 : fr [0] [] h1 (lm_si h1 0 15 0) := fr_si (fr_refl _ _ _) (by decide) (by decide) _ _
  have x96 : lm_i (lm_si h1 0 15 0) 96 1 = 1 := by rw [fr_i f1 (by decide) (by decide), k3 96 (by omega)]; exact kept
  refine e_159 _ (fr_Lay f1 k1) ?_
  rw [if_neg (by decide), if_neg (by decide), q_in (by decide) (by decide), q_nat (by decide), x96, if_neg (by decide)]
  refine lp_159 (fr_Lay f1 k1) (by decide) (fun z f2 z1 => ?_)
  have f3 : fr [0, 94] [0, 1] h1 (lm_si (lm_si z 92 0 0) 92 1 ((lm_i z 92 1) + 1)) := fr_s92 (fr_s92 (fr_trans (fr_sub f1 (by decide) (by decide)) (fr_sub f2 (by decide) (by decide))) (by decide) _) (by decide) _
  have x95 : lm_i (lm_si h1 0 15 0) 95 = lm_i h 95 := by rw [fr_i f1 (by decide) (by decide), k3 95 (by omega)]
  rw [x95] at z1
  have y94 : lm_i (lm_si (lm_si z 92 0 0) 92 1 ((lm_i z 92 1) + 1)) 94 = lm_i z 94 := rfl
  have yv : lm_i (lm_si (lm_si z 92 0 0) 92 1 ((lm_i z 92 1) + 1)) 92 1 = lm_i h 92 1 + 1 := by
    show lm_i z 92 1 + 1 = _
    rw [fr_m f2 (by decide), fr_m f1 (by decide), k3 92 (by omega)]
  have y0 : lm_i (lm_si (lm_si z 92 0 0) 92 1 ((lm_i z 92 1) + 1)) 92 0 = 0 := rfl
  have y015 : ∀ j, lm_i (lm_si (lm_si z 92 0 0) 92 1 ((lm_i z 92 1) + 1)) 0 j = if j = 15 then 0 else lm_i h 0 j := by
    intro j
    show lm_i z 0 j = _
    rw [fr_i f2 (by decide) (by decide)]
    show (if j = 15 then 0 else lm_i h1 0 j) = _
    rw [k3 0 (by omega)]
  have g1 : (lm_si (lm_si z 92 0 0) 92 1 ((lm_i z 92 1) + 1)).1 = h.1 := by rw [f3.1, k2]
  generalize lm_si (lm_si z 92 0 0) 92 1 ((lm_i z 92 1) + 1) = h4 at f3 y94 yv y0 y015 g1
  have oc : OC h h4 := OC_tr oc1 (OC_fr f3 (hi_of (by decide)))
  have fi : ∀ a, [0, 94].contains a = false → ¬ a = 92 → (a < 1 ∨ 1 + 7 ≤ a) → lm_i h4 a = lm_i h a := fun a h1 h2 h3 => by rw [fr_i f3 h1 h2, k3 a h3]
  have fm : ∀ s, [0, 1].contains s = false → lm_i h4 92 s = lm_i h 92 s := fun s h1 => by rw [fr_m f3 h1, k3 92 (by omega)]
  have rr : ∀ a, ¬ a = 1 + 7 → lm_r h4 a = lm_r h a := fun a ha => by rw [fr_r f3, k5 a ha]
  have e94 : ∀ j, j < 4893 → lm_i h4 94 j = lm_i h 95 (4893 * 1 + j) := fun j hj => by rw [y94]; exact z1 j hj
  have nin : ∀ a, 1 ≤ a → ¬ a = 94 → [0, 94].contains a = false := by
    intro a h1 h2
    have : ¬ a ∈ [0, 94] := by
      simp only [List.mem_cons, List.not_mem_nil, or_false]
      omega
    simpa using this
  have ft : ∀ a, 1 ≤ a → a < 1 + 7 → lm_i h4 a = lm_i h1 a := fun a h1 h2 => fr_i f3 (nin a h1 (by omega)) (by omega)
  refine ⟨rfl, INV_all H hn (RM_of RMh ⟨g1, by rw [fr_i f3 (by decide) (by decide), k3 1000000 (by omega)], by rw [fr_r f3, k5 1000000 (by omega)]⟩) (fun c h1 h2 => fi c (nin c (by omega) (by omega)) (by omega) (by omega)) (by rw [fr_l f3 (by decide) (by decide), k4 45]) ?_ yv (fm 28 (by decide)) (fm 39 (by decide)) (fm 50 (by decide))⟩
  have oth : ∀ q c, iI h q c → 76 ≤ c → c ≤ 84 → iI h4 q c := by
    intro q c hq q1 q2
    exact iI_mv hq oc (fun t _ => by rw [rr _ (by omega)]) (by rw [fi 10 (by decide) (by decide) (by omega)]) (by rw [fi 96 (by decide) (by decide) (by omega)]) (fun i hi => by rw [fi 95 (by decide) (by decide) (by omega)]) (fun a h1 h2 => fi a (nin a (by omega) (by omega)) (by omega) (by omega))
  refine ⟨⟨fr_Lay f3 k1, ?_, wf_mv t2 (fun j hj => e94 j (by omega)), ⟨?_, ?_, ?_, ?_⟩, ?_⟩, ⟨oth 0 76 b0 (by omega) (by omega), oth 1 84 b1 (by omega) (by omega)⟩, ?_, ?_, ?_, ?_, ?_⟩
  · refine tw_mv (c := 84) t1 ?_ ?_ ?_ ?_ ?_ ?_ ?_ (fun j hj => e94 j (by omega))
    · intro j hj; rw [ft _ (by omega) (by omega)]; exact k7 j hj
    · intro j hj; rw [ft _ (by omega) (by omega)]; exact k8 j hj
    · intro j hj; rw [ft _ (by omega) (by omega)]; exact k9 j hj
    · intro j hj; rw [ft _ (by omega) (by omega)]; exact k10 j hj
    · intro j hj; rw [ft _ (by omega) (by omega)]; exact k11 j hj
    · intro j hj; rw [ft _ (by omega) (by omega)]; exact k12 j hj
    · intro j hj; rw [ft _ (by omega) (by omega)]; exact k13 j hj
  · rw [y015, if_pos rfl, y0]
  · rw [y015, if_neg (by decide), fm 11 (by decide)]; exact m2
  · rw [y015, if_neg (by decide), fm 6 (by decide)]; exact m3
  · rw [fi 11 (by decide) (by decide) (by omega), fm 10 (by decide)]; exact m4
  · rw [fi 75 (by decide) (by decide) (by omega), fi 93 (by decide) (by decide) (by omega)]; exact ⟨m5, m6, m7, m8, m9⟩
  · unfold iT at tp ⊢
    rw [fi 12 (by decide) (by decide) (by omega), fi 98 (by decide) (by decide) (by omega), fm 10 (by decide)]
    exact tp
  · rw [fi 97 (by decide) (by decide) (by omega)]
    exact c2
  · exact iL_mv (c := 84 + 7) t3 oc (fun t ht => by rw [fr_r f3]; exact k6 t ht) e94
  · unfold iY at c4 ⊢
    rw [fi 58 (by decide) (by decide) (by omega), fi 64 (by decide) (by decide) (by omega), fi 65 (by decide) (by decide) (by omega), fi 66 (by decide) (by decide) (by omega), fi 115 (by decide) (by decide) (by omega), fi 116 (by decide) (by decide) (by omega), fi 117 (by decide) (by decide) (by omega), fm 55 (by decide), fm 56 (by decide)]
    exact c4
  · rw [fi 74 (by decide) (by decide) (by omega)]
    exact c5
theorem op_135 {D nc : Nat} {h : lm_H} (hD : 170 ≤ D) (hn : nc ≤ 10000) (H : INV xl nc h) (x : Int32) : lm_call D 135 [.ref 0, .int x] h (lm_kI fun r h1 => lm_call D 158 [.ref 92, .int x] h1 (lm_kI fun r2 h2 => r = r2 ∧ INV xl (nc + 1) h2)) := by
  obtain ⟨d, rfl⟩ := q_dp hD
  have hl := (INV_s H).1.1
  refine e_135 x hl ?_
  by_cases c1 : x < 0
  · rw [if_pos c1]
    refine e_158 _ (lm_Lay_si (lm_Lay_si hl _ _ _) _ _ _) ?_
    rw [if_pos c1]
    exact ⟨rfl, rfz H _ (Or.inl ⟨rfl, rfl⟩)⟩
  rw [if_neg c1]
  by_cases c2 : x < 2
  · rw [if_pos c2]
    by_cases d0 : x = 0
    · subst d0
      rw [if_pos rfl]
      exact im_0 hn H
    · have d1 : x = 1 := by
        simp only [p_lt, p_eq, Int32.reduceToInt] at c1 c2 d0 ⊢
        omega
      subst d1
      rw [if_neg d0, if_pos rfl]
      exact im_1 hn H
  · rw [if_neg c2]
    refine e_158 _ (lm_Lay_si (lm_Lay_si hl _ _ _) _ _ _) ?_
    rw [if_neg c1, if_pos (by simp only [p_lt, Int32.reduceToInt] at c2 ⊢; omega)]
    exact ⟨rfl, rfz H _ (Or.inl ⟨rfl, rfl⟩)⟩
theorem op_136 {D nc : Nat} {h : lm_H} (hD : 170 ≤ D) (hn : nc ≤ 10000) (H : INV xl nc h) (x : Int32) : lm_call D 136 [.ref 0, .int x] h (lm_kI fun r h1 => lm_call D 159 [.ref 92, .int x] h1 (lm_kI fun r2 h2 => r = r2 ∧ INV xl (nc + 1) h2)) := by
  obtain ⟨d, rfl⟩ := q_dp hD
  have hs := INV_s H
  have hl := hs.1.1
  obtain ⟨b0, b1⟩ := hs.2.1
  refine e_136 x hl ?_
  by_cases c1 : x < 0
  · rw [if_pos c1]
    refine e_159 _ (lm_Lay_si (lm_Lay_si hl _ _ _) _ _ _) ?_
    rw [if_pos c1]
    exact ⟨rfl, rfz H _ (Or.inl ⟨rfl, rfl⟩)⟩
  rw [if_neg c1]
  by_cases c2 : x < 2
  · rw [if_pos c2]
    have go : ∀ k c, k < 2 → iI h k c → x = Int32.ofNat k → (lm_i h 96 k = 1 → (if x = 0 then (lm_call (d + 169) 53 [.ref 1, .ref 76] h (lm_kV fun h1 => lm_call (d + 170) 159 [.ref 92, .int x] (lm_si h1 0 15 0) (lm_kI fun r2 h2 => 0 = r2 ∧ INV xl (nc + 1) h2))) else (if x = 1 then (lm_call (d + 169) 53 [.ref 1, .ref 84] h (lm_kV fun h2 => lm_call (d + 170) 159 [.ref 92, .int x] (lm_si h2 0 15 0) (lm_kI fun r2 h2 => 0 = r2 ∧ INV xl (nc + 1) h2))) else False))) → lm_in x 2 False (if (lm_i h 10 x.toNatClampNeg) = 0 then (lm_call (d + 170) 159 [.ref 92, .int x] (lm_si (lm_si h 0 15 (-2)) 75 1 ((lm_i h 75 1) + 1)) (lm_kI fun r2 h2 => -2 = r2 ∧ INV xl (nc + 1) h2)) else (if x = 0 then (lm_call (d + 169) 53 [.ref 1, .ref 76] h (lm_kV fun h1 => lm_call (d + 170) 159 [.ref 92, .int x] (lm_si h1 0 15 0) (lm_kI fun r2 h2 => 0 = r2 ∧ INV xl (nc + 1) h2))) else (if x = 1 then (lm_call (d + 169) 53 [.ref 1, .ref 84] h (lm_kV fun h2 => lm_call (d + 170) 159 [.ref 92, .int x] (lm_si h2 0 15 0) (lm_kI fun r2 h2 => 0 = r2 ∧ INV xl (nc + 1) h2))) else False))) := by
      intro k c hk hI hx hgo
      rw [hx, q_in hk (by decide), q_nat (by omega), hI.1, ← hx]
      rcases hI.2.1 with z | z
      · rw [if_pos z]
        refine e_159 _ (lm_Lay_si (lm_Lay_si hl _ _ _) _ _ _) ?_
        rw [if_neg c1, if_neg (by simp only [p_lt, Int32.reduceToInt] at c2 ⊢; omega), hx, q_in hk (by decide), q_nat (by omega)]
        rw [if_pos (show lm_i (lm_si (lm_si h 0 15 (-2)) 75 1 ((lm_i h 75 1) + 1)) 96 k = 0 from z)]
        exact ⟨rfl, rfz H _ (Or.inr (Or.inl ⟨rfl, rfl⟩))⟩
      · rw [if_neg (by rw [z]; decide)]
        exact hgo z
    by_cases d0 : x = 0
    · refine go 0 76 (by decide) b0 d0 (fun z => ?_)
      rw [if_pos d0]
      subst d0
      exact bk_0 hn H z
    · have d1 : x = 1 := by
        simp only [p_lt, p_eq, Int32.reduceToInt] at c1 c2 d0 ⊢
        omega
      refine go 1 84 (by decide) b1 d1 (fun z => ?_)
      rw [if_neg d0, if_pos d1]
      subst d1
      exact bk_1 hn H z
  · rw [if_neg c2]
    refine e_159 _ (lm_Lay_si (lm_Lay_si hl _ _ _) _ _ _) ?_
    rw [if_neg c1, if_pos (by simp only [p_lt, Int32.reduceToInt] at c2 ⊢; omega)]
    exact ⟨rfl, rfz H _ (Or.inl ⟨rfl, rfl⟩)⟩
end Xl98nimage2
