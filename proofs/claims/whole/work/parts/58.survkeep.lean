/-! The survey as it is kept. -/
def sI (h : lm_H) : Prop := (∀ j, j < 5 → ∃ v, v ≤ 6 ∧ lm_i h 38 j = Int32.ofNat v) ∧ (lm_i h 31 2 = 0 ∨ ∃ (n m : Nat) (cu lo : Int32) (W B : Nat → Int32), wd n m cu lo W ∧ bd n m B ∧ ct h 32 n m cu lo W B ∧ W = nrm n m W ∧ B = nrm n m B ∧ svc n m cu lo W B h)
theorem svc_of {n m : Nat} {cu lo : Int32} {W B : Nat → Int32} {h h' : lm_H} (H : svc n m cu lo W B h) (h1 : lm_i h' 31 = lm_i h 31) (h2 : lm_i h' 42 = lm_i h 42) (h3 : lm_l h' 45 = lm_l h 45) : svc n m cu lo W B h' := by
  unfold svc fm fA fB fC at H ⊢
  rw [h1, h2, h3]
  exact H
theorem sI_of {h h' : lm_H} (H : sI h) (hl : lm_Lay h') (hs : ∀ c, 31 ≤ c → c ≤ 46 → lm_i h' c = lm_i h c) (hL : lm_l h' 45 = lm_l h 45) : sI h' := by
  unfold sI at H ⊢
  rw [hs 38 (by decide) (by decide), hs 31 (by decide) (by decide)]
  refine ⟨H.1, ?_⟩
  rcases H.2 with q | ⟨n, m, cu, lo, W, B, a1, a2, a3, a4, a5, a6⟩
  · exact Or.inl q
  · exact Or.inr ⟨n, m, cu, lo, W, B, a1, a2, ct_of a3 hl (hs 32 (by decide) (by decide)) (hs 33 (by decide) (by decide)) (hs 34 (by decide) (by decide)) (hs 35 (by decide) (by decide)) (hs 36 (by decide) (by decide)), a4, a5, svc_of a6 (hs 31 (by decide) (by decide)) (hs 42 (by decide) (by decide)) hL⟩
theorem cl_55 {D n m : Nat} {h : lm_H} {K : lm_H → Prop} {cu lo : Int32} {W B : Nat → Int32} (hD : 6 ≤ D) (hs : sI h) (H : ct h 21 n m cu lo W B) (hw : wd n m cu lo W) (hB : bd n m B) (nW : W = nrm n m W) (nB : B = nrm n m B)
    (hK : ∀ h', fr [31, 32, 33, 34, 35, 36, 38, 39, 40, 42, 43, 44, 45] [] h h' → sI h' → ct h' 32 n m cu lo W B → svc n m cu lo W B h' → K h') : lm_call D 55 [.ref 31, .ref 21] h (lm_kV K) := by
  obtain ⟨d, rfl⟩ := q_dp hD
  have mk : ∀ h1, fr [32, 33, 34, 35, 36] [] h h1 → ct h1 32 n m cu lo W B → (lm_W ((d + 5)) 55 44 [some (.ref 31), none, some (.int 1), some (.int ((lm_i h1 32 0) - 1)), none, none] [] (lm_si h1 31 2 1) (lm_kV K)) := by
    intro h1 hf1 H1
    have hf2 : fr [31, 32, 33, 34, 35, 36, 38, 39, 40, 42, 43, 44, 45] [] h (lm_si h1 31 2 1) := fr_si (fr_sub hf1 (by decide) (by decide)) (by decide) (by decide) _ _
    have H2 : ct (lm_si h1 31 2 1) 32 n m cu lo W B := ct_si H1 (by decide) _ _
    refine cl_55b (by omega) H2 hw (fun j hj => ?_) (fun h3 hf3 g2 g38 gs => ?_)
    · simp only [pi_si, Nat.reduceEqDiff, if_false]
      rw [fr_i hf1 (by decide) (by decide)]
      exact hs.1 j hj
    · have H3 := ct_fr hf3 H2 (by decide)
      exact hK h3 (fr_trans hf2 (fr_sub hf3 (by decide) (by decide))) ⟨g38, Or.inr ⟨n, m, cu, lo, W, B, hw, hB, H3, nW, nB, gs⟩⟩ H3 gs
  refine e_55 H.1 ?_
  rcases hs.2 with q | ⟨n', m', cu', lo', W', B', a1, a2, a3, a4, a5, a6⟩
  · rw [if_pos q]
    exact cl_65 (by omega) H hB mk
  · by_cases c : lm_i h 31 2 = 0
    · rw [if_pos c]
      exact cl_65 (by omega) H hB mk
    · rw [if_neg c]
      refine cl_64 (by omega) H a3 ?_ (fun e1 e2 e3 e4 e5 => ?_)
      · rw [if_pos rfl]
        exact cl_65 (by omega) H hB mk
      · rw [if_neg (by decide)]
        subst e1
        subst e2
        subst e3
        subst e4
        have eW : W' = W := nrm_eq H.2.2.1 a4 nW (fun k hk g hg => (e5 k hk g hg).1)
        have eB : B' = B := nrm_eq H.2.2.1 a5 nB (fun k hk g hg => (e5 k hk g hg).2)
        rw [eW, eB] at a3 a6
        exact hK h (fr_refl _ _ _) hs a3 a6
theorem cl_56 {D n m x i : Nat} {h : lm_H} {K : Int32 → lm_H → Prop} {cu lo : Int32} {W B : Nat → Int32} (hD : 2 ≤ D) (H : ct h 32 n m cu lo W B) (hs : svc n m cu lo W B h) (hx : x < n) (hi : i ≤ 16807) (hK : K (Int32.ofNat (aI B m n i x)) h) : lm_call D 56 [.ref 31, .int (Int32.ofNat x), .int (Int32.ofNat i)] h (lm_kI K) := by
  obtain ⟨d, rfl⟩ := q_dp hD
  have h5 := H.2.1
  have h6 := H.2.2.1
  have hNN := NN_le (B := B) h5 h6
  have hp := sd_pos B m n x
  have hl := sd_le (B := B) (m := m) hx
  have hcc : cc B m x ≤ 7 := by unfold cc; have := q_ci_le B x m; omega
  have hcp := cc_pos B m x
  have hst := hs.1 x hx
  have hcx : lm_i h 36 x = Int32.ofNat (cc B m x) := (H.2.2.2.2.2.2.2.2 x hx).2.2.1
  have e1 : ∀ a, 0 < a → a ≤ 16807 → (if 1 < Int32.ofNat a then Int32.ofNat a else 1) = Int32.ofNat a := by
    intro a h1 h2
    by_cases c : 1 < a
    · rw [if_pos (by rw [q_1l (by omega)]; exact c)]
    · rw [if_neg (by rw [q_1l (by omega)]; exact c)]
      have : a = 1 := by omega
      rw [this]
      rfl
  have hdv : i / sd B m n x ≤ i := Nat.div_le_self _ _
  have hdp : dP (cc B m) n i x < cc B m x := dP_lt hcp
  have hch : lm_i h 35 (x * 7 + dP (cc B m) n i x) = Int32.ofNat (aI B m n i x) := ct_ch H hx hdp
  refine e_56 _ _ H.1 ?_
  rw [q_in (by omega) (by omega), q_in (by omega) (by omega), q_nat (by omega), hst, hcx, e1 _ hp (by omega), e1 _ hcp (by omega), q_div (by omega) (by omega), q_div (by omega) (by omega), q_mod, q_m7, q_add]
  refine ⟨by rw [q_e0 (by omega)]; omega, by rw [q_e0 (by omega)]; omega, ?_⟩
  show lm_in (Int32.ofNat (x * 7 + dP (cc B m) n i x)) 35 False (K (lm_i h 35 (Int32.ofNat (x * 7 + dP (cc B m) n i x)).toNatClampNeg) h)
  rw [q_in (by omega) (by omega), q_nat (by omega), hch]
  exact hK
