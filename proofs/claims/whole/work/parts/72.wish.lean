/-! The year: a host's wish (88, 253). -/
/-- whom host k wishes on evening e, and the number drawn behind it -/
def wi (mn : Nat → Nat) (E : Nat → Nat) (n m : Nat) (cu lo : Int32) (W B u : Nat → Int32) (A C T : Nat → Nat) (G : Nat → Int32) (e k s : Nat) : Nat × Nat :=
  if mn k = 3 then (rl E k m (dr s % 10), dr s) else if e = 0 ∨ mn k = 0 then (T k, s) else if mn k = 1 then (bC n m cu lo W B A k, s) else if mn k = 2 then ((hp (fun g => (W (6 * k + g) - lo) * u (6 * k + g)) m).2, s) else if mn k = 4 then (eV G C T k n, s) else (kP B A C T k n m, s)
theorem rl_le (E : Nat → Nat) (k d : Nat) {m : Nat} (h6 : m ≤ 6) : rl E k m d < m ∨ rl E k m d = 6 := by
  unfold rl
  have : ∀ P : Nat → Bool, ∀ n, q_fi P 6 n < n ∨ q_fi P 6 n = 6 := by
    intro P n
    induction n with
    | zero => exact Or.inr rfl
    | succ n ih =>
      rw [q_fi]
      split
      · split
        · exact Or.inl (by omega)
        · exact Or.inr rfl
      · omega
  exact this _ m
theorem fi_le (P : Nat → Bool) (n : Nat) : q_fi P 6 n < n ∨ q_fi P 6 n = 6 := by
  induction n with
  | zero => exact Or.inr rfl
  | succ n ih =>
    rw [q_fi]
    split
    · split
      · exact Or.inl (by omega)
      · exact Or.inr rfl
    · omega
theorem wi_g {mn : Nat → Nat} {E : Nat → Nat} {n m : Nat} {cu lo : Int32} {W B u : Nat → Int32} {A C T : Nat → Nat} {G : Nat → Int32} {e k s : Nat} (hw : wd n m cu lo W) (h5 : n ≤ 5) (h6 : m ≤ 6) (hk : k < n) (hT : gA n m T) (hC : 0 < e → gA n m C) : (wi mn E n m cu lo W B u A C T G e k s).1 < m ∨ (wi mn E n m cu lo W B u A C T G e k s).1 = 6 := by
  unfold wi
  by_cases c3 : mn k = 3
  · rw [if_pos c3]; exact rl_le E k _ h6
  rw [if_neg c3]
  by_cases c0 : e = 0 ∨ mn k = 0
  · rw [if_pos c0]; exact hT k hk
  rw [if_neg c0]
  have he : 0 < e := by
    by_cases z : e = 0
    · exact absurd (Or.inl z) c0
    · omega
  by_cases c1 : mn k = 1
  · rw [if_pos c1]; exact (bC_p (B := B) (A := A) hw h5 h6 hk).2
  rw [if_neg c1]
  by_cases c2 : mn k = 2
  · rw [if_pos c2]; exact hp_le _ m
  rw [if_neg c2]
  by_cases c4 : mn k = 4
  · rw [if_pos c4]
    show eV G C T k n < m ∨ eV G C T k n = 6
    unfold eV
    split
    · exact hT k hk
    · rename_i q
      have := ev_le G k n
      have h9 : ¬ ev G k n = 9 := fun z => q (Or.inl z)
      exact hC he _ (by omega)
  rw [if_neg c4]
  show kP B A C T k n m < m ∨ kP B A C T k n m = 6
  unfold kP
  split
  · split
    · exact hT k hk
    · exact fi_le _ m
  · exact hC he k hk
/-- what a year has of the evening before, in the class -/
def cy (h : lm_H) (n m : Nat) (u : Nat → Int32) (A C : Nat → Nat) (G : Nat → Int32) : Prop := (∀ j, j < n → A j ≤ 6 ∧ C j ≤ 6 ∧ lm_i h 70 j = Int32.ofNat (A j) ∧ lm_i h 71 j = Int32.ofNat (C j) ∧ lm_i h 72 j = G j)
theorem ms_c {x y : Nat} (hx : x ≤ 5) (hy : y ≤ 5) : (Int32.ofNat x = Int32.ofNat y) = (x = y) := q_eq (by omega) (by omega)
theorem cl_88 {D n m e k s : Nat} {h : lm_H} {K : Int32 → lm_H → Prop} {cu lo : Int32} {W B u : Nat → Int32} {mn E A C T : Nat → Nat} {G : Nat → Int32} (hD : 8 ≤ D) (H : ct h 59 n m cu lo W B) (hw : wd n m cu lo W) (hk : k < n) (he : e < 40) (hs : s < 1000003) (h58 : lm_i h 58 6 = Int32.ofNat s) (hn : lm_i h 58 5 = Int32.ofNat n)
    (hmn : mn k ≤ 5 ∧ lm_i h 7 k = Int32.ofNat (mn k)) (hT : lm_i h 5 k = Int32.ofNat (T k)) (hE : ∀ g, g < m → E (6 * k + g) ≤ 10 ∧ lm_i h 6 (k * 6 + g) = Int32.ofNat (E (6 * k + g))) (hu : ∀ g, g < m → lm_i h 68 (k * 6 + g) = u (6 * k + g)) (hA : 0 < e → cy h n m u A C G ∧ gA n m A)
    (hK : ∀ h', fr [58] [] h h' → lm_i h' 58 6 = Int32.ofNat (wi mn E n m cu lo W B u A C T G e k s).2 → lm_i h' 58 5 = lm_i h 58 5 → lm_i h' 58 4 = lm_i h 58 4 → K (Int32.ofNat (wi mn E n m cu lo W B u A C T G e k s).1) h') : lm_call D 88 [.ref 58, .ref 1, .int (Int32.ofNat k), .int (Int32.ofNat e)] h (lm_kI K) := by
  obtain ⟨d, rfl⟩ := q_dp hD
  have h5 := H.2.1
  have h6 := H.2.2.1
  refine e_88 _ _ H.1 ?_
  rw [q_in (by omega) (by omega), q_nat (by omega), hmn.2, hT]
  have e0 : (0 : Int32) = Int32.ofNat 0 := rfl
  have e1 : (1 : Int32) = Int32.ofNat 1 := rfl
  have e2 : (2 : Int32) = Int32.ofNat 2 := rfl
  have e3 : (3 : Int32) = Int32.ofNat 3 := rfl
  have e4 : (4 : Int32) = Int32.ofNat 4 := rfl
  have e5 : (5 : Int32) = Int32.ofNat 5 := rfl
  unfold wi at hK
  by_cases c3 : mn k = 3
  · rw [if_pos (by rw [c3]; rfl)]
    rw [if_pos c3] at hK
    refine cl_89 (by omega) H.1 hs h58 h6 (by omega) H.2.2.2.2.1 hE ?_
    exact hK _ (fr_si (fr_refl _ _ _) (by decide) (by decide) _ _) (by rw [pi_si, if_pos rfl, if_pos rfl]) (by rw [pi_si, if_pos rfl, if_neg (by decide)]) (by rw [pi_si, if_pos rfl, if_neg (by decide)])
  have g3 : ¬ Int32.ofNat (mn k) = 3 := by rw [e3, ms_c hmn.1 (by omega)]; exact c3
  rw [if_neg g3]
  rw [if_neg c3] at hK
  by_cases ce : e = 0
  · rw [if_pos (by rw [ce]; rfl)]
    rw [if_pos (Or.inl ce)] at hK
    exact p_inN (by omega) (by omega) (hK h (fr_refl _ _ _) h58 rfl rfl)
  rw [if_neg (by rw [q_e0 (by omega)]; exact ce)]
  obtain ⟨hy, hgA⟩ := hA (by omega)
  have ha : ca h 70 n A := fun j hj => (hy j hj).2.2.1
  by_cases c1 : mn k = 1
  · rw [if_pos (by rw [c1]; rfl)]
    rw [if_neg (by omega), if_pos c1] at hK
    refine cl_72b (by omega) H hw ha hgA hk ?_
    refine cl_150 (by omega) H.1 _ ?_
    rw [bC_lw h6]
    exact hK h (fr_refl _ _ _) h58 rfl rfl
  rw [if_neg (by rw [e1, ms_c hmn.1 (by omega)]; exact c1)]
  by_cases c2 : mn k = 2
  · rw [if_pos (by rw [c2]; rfl)]
    rw [if_neg (by omega), if_neg c1, if_pos c2] at hK
    refine cl_90 (by omega) H hk hu ?_
    exact hK h (fr_refl _ _ _) h58 rfl rfl
  rw [if_neg (by rw [e2, ms_c hmn.1 (by omega)]; exact c2), if_neg g3]
  by_cases c4 : mn k = 4
  · rw [if_pos (by rw [c4]; rfl)]
    rw [if_neg (by omega), if_neg c1, if_neg c2, if_pos c4] at hK
    refine cl_91 (by omega) H.1 h5 hk hn (fun j hj => (hy j hj).2.2.2.2) (fun j hj => ⟨(hy j hj).2.1, (hy j hj).2.2.2.1⟩) hT ?_
    exact hK h (fr_refl _ _ _) h58 rfl rfl
  rw [if_neg (by rw [e4, ms_c hmn.1 (by omega)]; exact c4)]
  by_cases c5 : mn k = 5
  · rw [if_pos (by rw [c5]; rfl)]
    rw [if_neg (by omega), if_neg c1, if_neg c2, if_neg c4] at hK
    refine cl_92 (by omega) H hk ha (fun j hj => (hy j hj).1) ⟨(hy k hk).2.1, (hy k hk).2.2.2.1⟩ hT ?_
    exact hK h (fr_refl _ _ _) h58 rfl rfl
  rw [if_neg (by rw [e5, ms_c hmn.1 (by omega)]; exact c5)]
  rw [if_pos (Or.inr (by omega))] at hK
  exact p_inN (by omega) (by omega) (hK h (fr_refl _ _ _) h58 rfl rfl)
theorem cl_253 {D n m e k s : Nat} {h : lm_H} {K : Int32 → lm_H → Prop} {cu lo : Int32} {W B u : Nat → Int32} {mn E A C T : Nat → Nat} {G : Nat → Int32} (hD : 6 ≤ D) (H : rt h n m cu lo W B) (hw : wd n m cu lo W) (hk : k < n) (he : e < 40) (hs : s < 1000003) (h58 : lm_i h 92 57 = Int32.ofNat s)
    (hmn : mn k ≤ 5 ∧ lm_i h 94 (76 + k) = Int32.ofNat (mn k)) (hT : lm_i h 94 (71 + k) = nC (T k)) (hE : ∀ g, g < m → E (6 * k + g) ≤ 10 ∧ lm_i h 94 (41 + 6 * k + g) = Int32.ofNat (E (6 * k + g))) (hu : ∀ g, g < m → lm_i h 118 (6 * k + g) = u (6 * k + g)) (hA : 0 < e → ry h n (e - 1) A C G ∧ gA n m A)
    (hK : ∀ h', fr [107] [57] h h' → lm_i h' 92 57 = Int32.ofNat (wi mn E n m cu lo W B u A C T G e k s).2 → K (nC (wi mn E n m cu lo W B u A C T G e k s).1) h') : lm_call D 253 [.ref 92, .int (Int32.ofNat k), .int (Int32.ofNat e)] h (lm_kI K) := by
  obtain ⟨d, rfl⟩ := q_dp hD
  have h5 := H.2.1
  have h6 := H.2.2.1
  refine e_253 _ _ H.1 ?_
  rw [q_71, q_76, q_in (by omega) (by omega), q_in (by omega) (by omega), q_nat (by omega), q_nat (by omega), hmn.2, hT]
  have e1 : (1 : Int32) = Int32.ofNat 1 := rfl
  have e2 : (2 : Int32) = Int32.ofNat 2 := rfl
  have e3 : (3 : Int32) = Int32.ofNat 3 := rfl
  have e4 : (4 : Int32) = Int32.ofNat 4 := rfl
  unfold wi at hK
  by_cases c3 : mn k = 3
  · rw [if_pos (by rw [c3]; rfl)]
    rw [if_pos c3] at hK
    refine cl_252 (c := 10) (by omega) H.1 hs (by omega) (by omega) h58 ?_
    refine lp_253r (E := E) (rt_si H (by decide) _ _) (by omega) (Nat.mod_lt _ (by omega)) (fun g hg => ?_) ?_
    · rw [pi_si, if_neg (by decide)]
      exact hE g hg
    · exact hK _ (fr_s92 (fr_refl _ _ _) (by decide) _) (by rw [pi_si, if_pos rfl, if_pos rfl])
  have g3 : ¬ Int32.ofNat (mn k) = 3 := by rw [e3, ms_c hmn.1 (by omega)]; exact c3
  rw [if_neg g3]
  rw [if_neg c3] at hK
  by_cases ce : e = 0
  · rw [if_pos (by rw [ce]; rfl)]
    rw [if_pos (Or.inl ce)] at hK
    exact hK h (fr_refl _ _ _) h58
  rw [if_neg (by rw [q_e0 (by omega)]; exact ce)]
  obtain ⟨hy, hgA⟩ := hA (by omega)
  by_cases c0 : mn k = 0
  · rw [if_pos (by rw [c0]; rfl)]
    rw [if_pos (Or.inr c0)] at hK
    exact hK h (fr_refl _ _ _) h58
  rw [if_neg (by rw [q_e0 (by omega)]; exact c0), q_s1 (by omega), q_5m]
  rw [if_neg (by omega)] at hK
  by_cases c1 : mn k = 1
  · rw [if_pos (by rw [c1]; rfl)]
    rw [if_pos c1] at hK
    have lp : ∀ r j : Nat, r + j = n → ∀ z, fr [107] [] h z → rt z n m cu lo W B → (∀ i, i < j → lm_i z 107 i = Int32.ofNat (if A i = 6 then m else A i)) → (lm_W ((d + 4) + 1) 253 115 [some (.ref 92), some (.int (Int32.ofNat k)), none, none, none, some (.int (Int32.ofNat (5 * (e - 1)))), some (.int (Int32.ofNat j)), none, none, none] [] z (lm_kI K)) := by
      intro r
      induction r with
      | zero =>
        intro j hj z hf Hz ha
        have ej : j = n := by omega
        rw [ej] at ha ⊢
        refine b_253_115 _ _ _ Hz.1 ?_
        rw [Hz.2.2.2.1, if_neg (by rw [q_lt (by omega) (by omega)]; omega)]
        refine cl_231 (by omega) Hz ha hgA hw.1 hk ?_
        refine cl_232 (by omega) Hz.1 h6 (aP_ex hw h5 hk) ?_
        rw [Hz.2.2.2.2.1]
        have hbp := (bC_p (B := B) (A := A) hw h5 h6 hk).2
        have hk2 := hK z (fr_sub hf (by decide) (by decide)) (by rw [fr_m hf (by decide)]; exact h58)
        show if Int32.ofNat (tI m (bC n m cu lo W B A k)) = Int32.ofNat m then K (-1) z else K (Int32.ofNat (tI m (bC n m cu lo W B A k))) z
        unfold tI
        by_cases c6 : bC n m cu lo W B A k = 6
        · rw [if_pos c6, if_pos rfl]
          simp only [c6, nC, if_true] at hk2
          exact hk2
        · rw [if_neg c6, if_neg (by rw [q_eq (by omega) (by omega)]; omega)]
          simp only [nC, c6, if_false] at hk2
          exact hk2
      | succ r ih =>
        intro j hj z hf Hz ha
        obtain ⟨a1, a2, a3, a4, a5⟩ := hy j (by omega)
        have a3' : lm_i z 115 (5 * (e - 1) + j) = nC (A j) := by rw [fr_i hf (by decide) (by decide)]; exact a3
        have fin : ∀ v, v = Int32.ofNat (if A j = 6 then m else A j) → (lm_W ((d + 4) + 1) 253 115 [some (.ref 92), some (.int (Int32.ofNat k)), none, none, none, some (.int (Int32.ofNat (5 * (e - 1)))), some (.int (Int32.ofNat (j + 1))), none, none, none] [] (lm_si z 107 j v) (lm_kI K)) := by
          intro v hv
          refine ih (j + 1) (by omega) _ (fr_si hf (by decide) (by decide) _ _) (rt_si Hz (by decide) _ _) (fun i hi => ?_)
          rw [pi_si, if_pos rfl]
          by_cases ei : i = j
          · rw [if_pos ei, ei, hv]
          · rw [if_neg ei]
            exact ha i (by omega)
        refine b_253_115 _ _ _ Hz.1 ?_
        rw [Hz.2.2.2.1, if_pos (by rw [q_lt (by omega) (by omega)]; omega), q_add, q_in (by omega) (by omega), q_nat (by omega), q_nat (by omega), a3', Hz.2.2.2.2.1, q_a1]
        by_cases c6 : A j = 6
        · rw [if_pos ((nC_m1 a1).2 c6)]
          exact p_inN (by omega) (by omega) (fin _ (by rw [if_pos c6]))
        · rw [if_neg (fun q => c6 ((nC_m1 a1).1 q))]
          exact p_inN (by omega) (by omega) (p_inN (by omega) (by omega) (fin _ (by rw [if_neg c6, nC, if_neg c6])))
    exact lp n 0 (by omega) h (fr_refl _ _ _) H (fun i hi => by omega)
  rw [if_neg (by rw [e1, ms_c hmn.1 (by omega)]; exact c1)]
  rw [if_neg c1] at hK
  by_cases c2 : mn k = 2
  · rw [if_pos (by rw [c2]; rfl)]
    rw [if_pos c2] at hK
    exact lp_253h H hk hu (hK h (fr_refl _ _ _) h58)
  rw [if_neg (by rw [e2, ms_c hmn.1 (by omega)]; exact c2)]
  rw [if_neg c2] at hK
  by_cases c4 : mn k = 4
  · rw [if_pos (by rw [c4]; rfl)]
    rw [if_pos c4] at hK
    exact lp_253e H hk (by omega) hy (hK h (fr_refl _ _ _) h58)
  rw [if_neg (by rw [e4, ms_c hmn.1 (by omega)]; exact c4)]
  rw [if_neg c4] at hK
  obtain ⟨a1, a2, a3, a4, a5⟩ := hy k hk
  have hk2 := hK h (fr_refl _ _ _) h58
  rw [q_add, q_in (by omega) (by omega), q_nat (by omega), a4]
  unfold kP at hk2
  by_cases c6 : C k = 6
  · rw [if_pos ((nC_m1 a2).2 c6)]
    simp only [c6, if_true] at hk2
    exact lp_253k (by omega) H hk (by omega) hy hk2
  · rw [if_neg (fun q => c6 ((nC_m1 a2).1 q))]
    simp only [c6, if_false] at hk2
    exact p_inN (by omega) (by omega) hk2
