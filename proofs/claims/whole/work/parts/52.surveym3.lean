/-! All askings: the reference's loop (223), and whom (224). -/
/-- what the reference has found -/
def svm (n m : Nat) (cu lo : Int32) (W B : Nat → Int32) (h : lm_H) (i : Nat) : Prop := sv1 (vS n m cu lo W B) (kI B m n) h i ∧ sv2 (vL n m cu lo W B 1000000) h i ∧ sv3 (vS n m cu lo W B) (vU n m cu lo W B) (kI B m n) h i
theorem lp_223 {d n m : Nat} {h0 : lm_H} {K : lm_H → Prop} {cu lo : Int32} {W B : Nat → Int32} (hD : 4 ≤ d + 1) (h5 : n ≤ 5) (h6 : m ≤ 6) (hw : wd n m cu lo W)
    (hK : ∀ h', fr [107, 108] [30, 31, 32, 33, 34, 35, 36, 37] h0 h' → rt h' n m cu lo W B → svm n m cu lo W B h' (wN (fun _ => true) (cc B m) n) → K h') :
    ∀ r k, r + k = (m + 1) ^ n → ∀ h, fr [107, 108] [30, 31, 32, 33, 34, 35, 36, 37] h0 h → rt h n m cu lo W B → svm n m cu lo W B h (rkN B m n k) → (lm_W (d + 1) 223 41 [some (.ref 92), some (.int (Int32.ofNat k)), none, none, none] [] h (lm_kV K)) := by
  have hp : (m + 1) ^ n ≤ 16807 := by
    have h2 : (m + 1) ^ n ≤ 7 ^ n := Nat.pow_le_pow_left (by omega) _
    have h3 : 7 ^ n ≤ 7 ^ 5 := Nat.pow_le_pow_right (by omega) (by omega)
    have h4 : (7 : Nat) ^ 5 = 16807 := rfl
    omega
  intro r
  induction r with
  | zero =>
    intro k hk h hf H hs
    refine b_223_41 _ H.1 ?_
    refine cl_219 (by omega) H ?_
    rw [if_neg (by rw [q_lt (by omega) (by omega)]; omega)]
    have e : k = (m + 1) ^ n := by omega
    rw [e, rk_pow] at hs
    exact hK h hf H hs
  | succ r ih =>
    intro k hk h hf H hs
    refine b_223_41 _ H.1 ?_
    refine cl_219 (by omega) H ?_
    rw [if_pos (by rw [q_lt (by omega) (by omega)]; omega)]
    refine cl_220 (by omega) H (by omega) (fun v h3 hf3 H3 ha3 hv hv1 => ?_)
    have hf3' : fr [107, 108] [30, 31, 32, 33, 34, 35, 36, 37] h0 h3 := fr_trans hf (fr_sub hf3 (by decide) (by decide))
    have hi := ih (k + 1) (by omega)
    rw [rk_succ] at hi
    have hpr := pr_all (B := B) (m := m) (n := n) (k := k) n (Nat.le_refl n)
    rw [kx_n] at hpr
    obtain ⟨s1, s2, s3⟩ := hs
    have s1' := sv1_of s1 (fr_m hf3 (s := 31) (by decide)) (fr_m hf3 (s := 30) (by decide)) (fr_m hf3 (s := 32) (by decide))
    have s2' := sv2_of s2 (fr_m hf3 (s := 34) (by decide)) (fr_m hf3 (s := 33) (by decide))
    have s3' := sv3_of s3 (fr_m hf3 (s := 35) (by decide)) (fr_m hf3 (s := 36) (by decide)) (fr_m hf3 (s := 37) (by decide)) (fr_i hf3 (c := 108) (by decide) (by decide))
    by_cases c : ∀ j, j < n → aC m B j (dD m n k j) = true
    · have hv2 : v = 1 := hv1.2 c
      rw [if_pos (hpr.2 c)] at hi
      obtain ⟨g1, g2, g3⟩ := kI_rk h6 (k := k) (n := n) (by omega) c
      have hN := wN_le (w := fun _ => true) (c := cc B m) (k := n) (fun j _ => by unfold cc; have := q_ci_le B j m; omega) h5
      generalize hri : rkN B m n k = i at *
      have hGA := okA_g (aI_ok (B := B) (m := m) (n := n) (i := i))
      have ha : ra h3 n m (aI B m n i) := by
        intro j hj
        rw [ha3 j hj, g1 j hj]
        congr 1
        have := dD_lt m n k j
        by_cases e : dD m n k j = m
        · rw [if_pos e, if_pos rfl, e]
        · rw [if_neg e, if_neg (by omega)]
      rw [hv2, if_neg (by decide)]
      refine cm_215 (by omega) H3 ha hGA hw.1 ?_
      rw [show sG n cu lo W (aI B m n i) n = vS n m cu lo W B i from rfl]
      have hm1 := mS_le (vS n m cu lo W B) i
      have e1 := s1'.1
      have stp : ∀ h4, fr [] [30, 31, 32] h3 h4 → sv1 (vS n m cu lo W B) (kI B m n) h4 (i + 1) → (lm_W (d + 1) 223 123 [some (.ref 92), some (.int (Int32.ofNat k)), some (.int (vS n m cu lo W B i)), some (.int 1000000), some (.int 0)] [] h4 (lm_kV K)) := by
        intro h4 hf4 hs4
        have H4 := rt_fr hf4 H3 (by decide)
        refine lp_223e hD H4 hw (fun j hj => ?_) g2 (by omega) hs4 (sv2_of s2' (fr_m hf4 (by decide)) (fr_m hf4 (by decide))) (sv3_of s3' (fr_m hf4 (by decide)) (fr_m hf4 (by decide)) (fr_m hf4 (by decide)) (fr_i hf4 (by decide) (by decide))) (fun h' hf' H' t1 t2 t3 => ?_) n 0 (by omega)
        · rw [fr_i hf4 (by decide) (by decide)]
          exact ha j hj
        · rw [q_a1]
          exact hi h' (fr_trans (fr_trans hf3' (fr_sub hf4 (by decide) (by decide))) hf') H' ⟨t1, t2, t3⟩
      by_cases c0 : (mS (vS n m cu lo W B) i).2.2 = 0
      · rw [if_pos (by rw [e1, c0]; rfl), if_pos rfl]
        exact stp _ (fr_s92 (fr_s92 (fr_s92 (fr_s92 (fr_refl _ _ _) (by decide) _) (by decide) _) (by decide) _) (by decide) _) (sv1_new (Or.inl c0) rfl rfl (by rw [g2]; rfl))
      · rw [if_neg (by rw [e1, q_e0 (by omega)]; exact c0)]
        have hi0 : 0 < i := by
          by_cases e : i = 0
          · rw [e] at c0; exact absurd rfl c0
          · omega
        obtain ⟨e3, _⟩ := s1'.2 hi0
        rw [e3]
        by_cases c1 : (mS (vS n m cu lo W B) i).1 < vS n m cu lo W B i
        · rw [if_pos c1, if_pos rfl]
          exact stp _ (fr_s92 (fr_s92 (fr_s92 (fr_s92 (fr_refl _ _ _) (by decide) _) (by decide) _) (by decide) _) (by decide) _) (sv1_new (Or.inr c1) rfl rfl (by rw [g2]; rfl))
        · rw [if_neg c1]
          by_cases c2 : vS n m cu lo W B i = (mS (vS n m cu lo W B) i).1
          · rw [if_pos c2]
            exact stp _ (fr_s92 (fr_refl _ _ _) (by decide) _) (sv1_old s1' (by rintro (q | q); exact c0 q; exact c1 q) (by rw [if_pos c2]; simp only [pi_si, if_true]) rfl rfl)
          · rw [if_neg c2]
            exact stp _ (fr_s92 (fr_refl _ _ _) (by decide) _) (sv1_old s1' (by rintro (q | q); exact c0 q; exact c1 q) (by rw [if_neg c2, Int32.add_zero]; simp only [pi_si, if_true]) rfl rfl)
    · have hv2 : v = 0 := by rcases hv with q | q; exact q; exact absurd (hv1.1 q) c
      rw [hv2, if_pos rfl, q_a1]
      rw [if_neg (fun q => c (hpr.1 q)), Nat.add_zero] at hi
      exact hi h3 hf3' H3 ⟨s1', s2', s3'⟩
/-- behind looks, where the survey isn't made -/
theorem cl_223b {d n m : Nat} {h : lm_H} {K : lm_H → Prop} {cu lo : Int32} {W B : Nat → Int32} (hD : 4 ≤ d + 1) (H : rt h n m cu lo W B) (hw : wd n m cu lo W) (h1 : lm_i h 92 31 = 0) (h2 : lm_i h 92 34 = 0) (h3 : lm_i h 92 35 = 0)
    (hK : ∀ h', fr [107, 108] [30, 31, 32, 33, 34, 35, 36, 37] h h' → rt h' n m cu lo W B → svm n m cu lo W B h' (wN (fun _ => true) (cc B m) n) → K h') : (lm_W (d + 1) 223 41 [some (.ref 92), some (.int 0), none, none, none] [] h (lm_kV K)) := by
  refine lp_223 hD H.2.1 H.2.2.1 hw hK ((m + 1) ^ n) 0 (by omega) h (fr_refl _ _ _) H ?_
  rw [rk_zero]
  exact ⟨⟨h1, fun q => by omega⟩, ⟨h2, fun q => by omega⟩, ⟨h3, fun q => by rw [q_cn] at q; omega, fun j hj => by omega⟩⟩
theorem cl_224 {D n m i x : Nat} {h : lm_H} {K : Int32 → lm_H → Prop} {cu lo : Int32} {W B : Nat → Int32} (hD : 4 ≤ D) (H : rt h n m cu lo W B) (hx : x < n)
    (hK : ∀ h', fr [107] [] h h' → K (if aI B m n i x = 6 then -1 else Int32.ofNat (aI B m n i x)) h') : lm_call D 224 [.ref 92, .int (Int32.ofNat (kI B m n i)), .int (Int32.ofNat x)] h (lm_kI K) := by
  obtain ⟨d, rfl⟩ := q_dp hD
  have h5 := H.2.1
  have h6 := H.2.2.1
  obtain ⟨g1, g2⟩ := kI_dD (B := B) (m := m) (n := n) (i := i) h6
  have hp : (m + 1) ^ n ≤ 16807 := by
    have h2 : (m + 1) ^ n ≤ 7 ^ n := Nat.pow_le_pow_left (by omega) _
    have h3 : 7 ^ n ≤ 7 ^ 5 := Nat.pow_le_pow_right (by omega) (by omega)
    have h4 : (7 : Nat) ^ 5 = 16807 := rfl
    omega
  refine e_224 _ _ H.1 ?_
  refine cl_220 (by omega) H (by omega) (fun v h1 hf1 H1 ha1 _ _ => ?_)
  have hg := okA_g (aI_ok (B := B) (m := m) (n := n) (i := i)) x hx
  have e := ha1 x hx
  rw [g2 x hx] at e
  have e2 : tI m (aI B m n i x) < 7 := by unfold tI; split <;> omega
  rw [H1.2.2.2.2.1]
  simp (disch := omega) only [q_add, q_mul, q_m7, q_m6, q_6m, q_7m, q_a1, q_5m, q_m5, q_71, q_11, q_87, q_41, q_76, q_5a, q_0a, q_a6, q_nat, q_in, q_lt, q_eq, q_lt0, if_true, if_false, e]
  have hk := hK h1 hf1
  unfold tI
  by_cases c : aI B m n i x = 6
  · rw [if_pos c] at hk
    rw [if_pos c, if_pos rfl]
    exact hk
  · rw [if_neg c] at hk
    rw [if_neg c, if_neg (by omega)]
    exact hk
