/-! Asks as told: laysTold (212), takeTold (144). -/
/-- whom a host asks who was told so: nobody if he is barred -/
def tA (B : Nat → Int32) (T : Nat → Nat) (k : Nat) : Nat := if T k = 6 then 6 else if B (6 * k + T k) = 0 then T k else 6
theorem tA_ok {n m : Nat} {B : Nat → Int32} {T : Nat → Nat} (hT : gA n m T) : okA n m B (tA B T) := by
  intro j hj
  have := hT j hj
  unfold tA
  by_cases c : T j = 6
  · rw [if_pos c]
    exact Or.inr rfl
  · rw [if_neg c]
    by_cases c2 : B (6 * j + T j) = 0
    · rw [if_pos c2]
      exact Or.inl ⟨by omega, c2⟩
    · rw [if_neg c2]
      exact Or.inr rfl
/-- the reference's row of what was told -/
def tk (h : lm_H) (n : Nat) (T : Nat → Nat) : Prop := ∀ k, k < n → lm_i h 94 (71 + k) = if T k = 6 then -1 else Int32.ofNat (T k)
theorem cl_211 {D n m k t : Nat} {h : lm_H} {K : Int32 → lm_H → Prop} {cu lo : Int32} {W B : Nat → Int32} {T : Nat → Nat} (hD : 3 ≤ D) (H : rt h n m cu lo W B) (hk : k < n) (ht : T k = t) (hg : t < m ∨ t = 6) (hK : K (Int32.ofNat (if tA B T k = 6 then m else tA B T k)) h) : lm_call D 211 [.ref 92, .int (Int32.ofNat k), .int (if t = 6 then -1 else Int32.ofNat t)] h (lm_kI K) := by
  obtain ⟨d, rfl⟩ := q_dp hD
  have h5 := H.2.1
  have h6 := H.2.2.1
  have hm := H.2.2.2.2.1
  refine e_211 _ _ H.1 ?_
  unfold tA at hK
  rw [ht] at hK
  by_cases c : t = 6
  · rw [if_pos c, if_pos rfl, hm]
    rw [if_pos c, if_pos rfl] at hK
    exact hK
  · rw [if_neg c]
    rw [if_neg c] at hK
    rw [if_neg (by intro q; have := congrArg Int32.toInt q; rw [p_onI (by omega)] at this; have e : (-1 : Int32).toInt = -1 := rfl; omega)]
    refine cl_210 (by omega) H (by omega) (by omega) ?_
    rw [hm]
    by_cases c2 : B (6 * k + t) = 0
    · have : aC m B k t = true := by unfold aC; simp [c2]
      rw [if_pos this, if_neg (by decide)]
      rw [if_pos c2, if_neg c] at hK
      exact hK
    · have : ¬ aC m B k t = true := by unfold aC; have : ¬ t = m := (by omega); simp [c2, this]
      rw [if_neg this, if_pos rfl]
      rw [if_neg c2, if_pos rfl] at hK
      exact hK
theorem cl_212 {D n m : Nat} {h : lm_H} {K : lm_H → Prop} {cu lo : Int32} {W B : Nat → Int32} {T : Nat → Nat} (hD : 4 ≤ D) (H : rt h n m cu lo W B) (ht : tk h n T) (hT : gA n m T) (hK : ∀ h', fr [107] [] h h' → rt h' n m cu lo W B → ra h' n m (tA B T) → K h') : lm_call D 212 [.ref 92] h (lm_kV K) := by
  obtain ⟨d, rfl⟩ := q_dp hD
  have h5 := H.2.1
  have h6 := H.2.2.1
  refine e_212 H.1 ?_
  have lp : ∀ r x : Nat, r + x = n → ∀ h1, fr [107] [] h h1 → rt h1 n m cu lo W B → tk h1 n T → (∀ j, j < x → lm_i h1 107 j = Int32.ofNat (if tA B T j = 6 then m else tA B T j)) → (lm_W ((d + 2) + 1) 212 2 [some (.ref 92), some (.int (Int32.ofNat x))] [] h1 (lm_kV K)) := by
    intro r
    induction r with
    | zero =>
      intro x hx h1 hf H1 ht1 ha
      have : x = n := by omega
      subst this
      have hn := H1.2.2.2.1
      refine b_212_2 _ H1.1 ?_
      simp (disch := omega) only [q_add, q_mul, q_m7, q_m6, q_6m, q_7m, q_a1, q_5m, q_m5, q_71, q_11, q_87, q_41, q_76, q_5a, q_0a, q_a6, q_nat, q_in, q_lt, q_eq, q_lt0, if_true, if_false, hn]
      rw [if_neg (by omega)]
      exact hK h1 hf H1 ha
    | succ r ih =>
      intro x hx h1 hf H1 ht1 ha
      have hn := H1.2.2.2.1
      refine b_212_2 _ H1.1 ?_
      simp (disch := omega) only [q_add, q_mul, q_m7, q_m6, q_6m, q_7m, q_a1, q_5m, q_m5, q_71, q_11, q_87, q_41, q_76, q_5a, q_0a, q_a6, q_nat, q_in, q_lt, q_eq, q_lt0, if_true, if_false, hn]
      rw [if_pos (by omega), ht1 x (by omega)]
      refine cl_211 (by omega) H1 (by omega) rfl (hT x (by omega)) ?_
      refine ih (x + 1) (by omega) _ (fr_si hf (by decide) (by decide) _ _) (rt_si H1 (by decide) _ _) (fun j hj => ?_) (fun j hj => ?_)
      · rw [pi_si, if_neg (by decide)]
        exact ht1 j hj
      · rw [pi_si, if_pos rfl]
        by_cases e : j = x
        · rw [if_pos e, e]
        · rw [if_neg e]
          exact ha j (by omega)
  exact lp n 0 (by omega) h (fr_refl _ _ _) H ht (fun j hj => by omega)
theorem cl_66 {D n m k t : Nat} {h : lm_H} {K : Int32 → lm_H → Prop} {cu lo : Int32} {W B : Nat → Int32} (hD : 2 ≤ D) (H : ct h 21 n m cu lo W B) (hk : k < n) (hg : t < m ∨ t = 6) (hK : K (Int32.ofNat (if t = 6 then 6 else if B (6 * k + t) = 0 then t else 6)) h) : lm_call D 66 [.ref 21, .int (Int32.ofNat k), .int (Int32.ofNat t)] h (lm_kI K) := by
  obtain ⟨d, rfl⟩ := q_dp hD
  obtain ⟨hl, h5, h6, h0, h1, h2, h3, h4, h7⟩ := H
  refine e_66 _ _ hl ?_
  simp (disch := omega) only [q_add, q_mul, q_m7, q_m6, q_6m, q_7m, q_a1, q_5m, q_m5, q_71, q_11, q_87, q_41, q_76, q_5a, q_0a, q_a6, q_nat, q_in, q_lt, q_eq, q_lt0, if_true, if_false]
  by_cases c : t = 6
  · have : lm_i h 23 (k * 7 + 6) = 0 := (h7 k hk).2.1
    rw [c, if_pos this]
    rw [if_pos c] at hK
    exact hK
  · have : lm_i h 23 (k * 7 + t) = B (6 * k + t) := (h4 k hk t (by omega)).2
    rw [this]
    rw [if_neg c] at hK
    by_cases c2 : B (6 * k + t) = 0
    · rw [if_pos c2] at hK ⊢
      exact hK
    · rw [if_neg c2] at hK ⊢
      exact hK
theorem cl_66y {D n m k t : Nat} {h : lm_H} {K : Int32 → lm_H → Prop} {cu lo : Int32} {W B : Nat → Int32} (hD : 2 ≤ D) (H : ct h 59 n m cu lo W B) (hk : k < n) (hg : t < m ∨ t = 6) (hK : K (Int32.ofNat (if t = 6 then 6 else if B (6 * k + t) = 0 then t else 6)) h) : lm_call D 66 [.ref 59, .int (Int32.ofNat k), .int (Int32.ofNat t)] h (lm_kI K) := by
  obtain ⟨d, rfl⟩ := q_dp hD
  obtain ⟨hl, h5, h6, h0, h1, h2, h3, h4, h7⟩ := H
  refine e_66y _ _ hl ?_
  simp (disch := omega) only [q_add, q_mul, q_m7, q_m6, q_6m, q_7m, q_a1, q_5m, q_m5, q_71, q_11, q_87, q_41, q_76, q_5a, q_0a, q_a6, q_nat, q_in, q_lt, q_eq, q_lt0, if_true, if_false]
  by_cases c : t = 6
  · have : lm_i h 61 (k * 7 + 6) = 0 := (h7 k hk).2.1
    rw [c, if_pos this]
    rw [if_pos c] at hK
    exact hK
  · have : lm_i h 61 (k * 7 + t) = B (6 * k + t) := (h4 k hk t (by omega)).2
    rw [this]
    rw [if_neg c] at hK
    by_cases c2 : B (6 * k + t) = 0
    · rw [if_pos c2] at hK ⊢
      exact hK
    · rw [if_neg c2] at hK ⊢
      exact hK
/-- takeTold behind fill -/
theorem lp_144 {d n m : Nat} {h0 : lm_H} {K : lm_H → Prop} {cu lo : Int32} {W B : Nat → Int32} {T : Nat → Nat} (hD : 2 ≤ d) (H : ct h0 21 n m cu lo W B) (hn : lm_i h0 1 0 = Int32.ofNat n) (ht : ca h0 5 n T) (hT : gA n m T) (hK : ∀ h', fr [73] [] h0 h' → ct h' 21 n m cu lo W B → ca h' 73 n (tA B T) → K h') : (lm_W (d) 144 22 [some (.ref 0), some (.int 0)] [] h0 (lm_kV K)) := by
  have h5 := H.2.1
  have h6 := H.2.2.1
  have lp : ∀ r x : Nat, r + x = n → ∀ h1, fr [73] [] h0 h1 → ct h1 21 n m cu lo W B → (∀ j, j < x → lm_i h1 73 j = Int32.ofNat (tA B T j)) → (lm_W (d) 144 22 [some (.ref 0), some (.int (Int32.ofNat x))] [] h1 (lm_kV K)) := by
    intro r
    induction r with
    | zero =>
      intro x hx h1 hf H1 ha
      have : x = n := by omega
      subst this
      refine b_144_22 _ H1.1 ?_
      rw [fr_i hf (by decide) (by decide), hn]
      simp (disch := omega) only [q_add, q_mul, q_m7, q_m6, q_6m, q_7m, q_a1, q_5m, q_m5, q_71, q_11, q_87, q_41, q_76, q_5a, q_0a, q_a6, q_nat, q_in, q_lt, q_eq, q_lt0, if_true, if_false]
      rw [if_neg (by omega)]
      exact hK h1 hf H1 ha
    | succ r ih =>
      intro x hx h1 hf H1 ha
      have hTx := hT x (by omega)
      refine b_144_22 _ H1.1 ?_
      rw [fr_i hf (by decide) (by decide), hn, fr_i hf (by decide) (by decide)]
      simp (disch := omega) only [q_add, q_mul, q_m7, q_m6, q_6m, q_7m, q_a1, q_5m, q_m5, q_71, q_11, q_87, q_41, q_76, q_5a, q_0a, q_a6, q_nat, q_in, q_lt, q_eq, q_lt0, if_true, if_false]
      rw [if_pos (by omega), ht x (by omega)]
      refine cl_66 hD H1 (by omega) hTx ?_
      refine ih (x + 1) (by omega) _ (fr_si hf (by decide) (by decide) _ _) (ct_si H1 (by decide) _ _) (fun j hj => ?_)
      rw [pi_si, if_pos rfl]
      by_cases e : j = x
      · rw [if_pos e, e]
        rfl
      · rw [if_neg e]
        exact ha j (by omega)
  exact lp n 0 (by omega) h0 (fr_refl _ _ _) H (fun j hj => by omega)
