/-! The class's gains. -/
/-- how many of the first g a host can ask -/
def q_ci (B : Nat → Int32) (k : Nat) : Nat → Nat
  | 0 => 0
  | g + 1 => q_ci B k g + (if B (6 * k + g) = 0 then 1 else 0)
theorem q_ci_le (B : Nat → Int32) (k g : Nat) : q_ci B k g ≤ g := by
  induction g with
  | zero => exact Nat.le_refl 0
  | succ g ih =>
    rw [q_ci]
    split <;> omega
theorem q_ci_mo (B : Nat → Int32) (k : Nat) {g g2 : Nat} (h : g ≤ g2) : q_ci B k g ≤ q_ci B k g2 := by
  induction g2 with
  | zero =>
    have : g = 0 := by omega
    subst this
    exact Nat.le_refl _
  | succ g2 ih =>
    by_cases c : g = g2 + 1
    · subst c
      exact Nat.le_refl _
    · have := ih (by omega)
      rw [q_ci]
      omega
/-- the class's table at cell c -/
def ct (h : lm_H) (c n m : Nat) (cu lo : Int32) (W B : Nat → Int32) : Prop :=
  lm_Lay h ∧ n ≤ 5 ∧ m ≤ 6 ∧ lm_i h c 0 = Int32.ofNat n ∧ lm_i h c 1 = Int32.ofNat m ∧ lm_i h c 2 = cu ∧ lm_i h c 3 = lo ∧
  (∀ k, k < n → ∀ g, g < m → lm_i h (c + 1) (k * 7 + g) = W (6 * k + g) ∧ lm_i h (c + 2) (k * 7 + g) = B (6 * k + g)) ∧
  (∀ k, k < n → lm_i h (c + 1) (k * 7 + 6) = lo ∧ lm_i h (c + 2) (k * 7 + 6) = 0 ∧ lm_i h (c + 4) k = Int32.ofNat (q_ci B k m + 1) ∧ lm_i h (c + 3) (k * 7 + q_ci B k m) = 6 ∧
    ∀ g, g < m → B (6 * k + g) = 0 → lm_i h (c + 3) (k * 7 + q_ci B k g) = Int32.ofNat g)
/-- it speaks of five rows alone -/
theorem ct_of {h h' : lm_H} {c n m : Nat} {cu lo : Int32} {W B : Nat → Int32} (H : ct h c n m cu lo W B) (hl : lm_Lay h') (h0 : lm_i h' c = lm_i h c) (h1 : lm_i h' (c + 1) = lm_i h (c + 1)) (h2 : lm_i h' (c + 2) = lm_i h (c + 2)) (h3 : lm_i h' (c + 3) = lm_i h (c + 3)) (h4 : lm_i h' (c + 4) = lm_i h (c + 4)) : ct h' c n m cu lo W B := by
  unfold ct at H ⊢
  rw [h0, h1, h2, h3, h4]
  exact ⟨hl, H.2⟩
theorem q_row {h : lm_H} {a k b : Nat} {v : Int32} (hn : b ≠ a) : lm_i (lm_si h a k v) b = lm_i h b := by
  funext j
  rw [pi_si, if_neg hn]
theorem ct_si {h : lm_H} {c n m : Nat} {cu lo : Int32} {W B : Nat → Int32} (H : ct h c n m cu lo W B) {a : Nat} (ha : a < c ∨ c + 4 < a) (k : Nat) (v : Int32) : ct (lm_si h a k v) c n m cu lo W B :=
  ct_of H (lm_Lay_si H.1 _ _ _) (q_row (by omega)) (q_row (by omega)) (q_row (by omega)) (q_row (by omega)) (q_row (by omega))
theorem lp_67 {d n : Nat} {h : lm_H} {K : Int32 → lm_H → Prop} (hl : lm_Lay h) (hn : lm_i h 21 0 = Int32.ofNat n) (h5 : n ≤ 5) (x : Int32) (hK : K (q_mk (fun j => decide (lm_i h 73 j = x)) n) h) : ∀ r k, r + k = n → (lm_W (d) 67 5 [some (.ref 21), some (.ref 73), some (.int x), some (.int (q_mk (fun j => decide (lm_i h 73 j = x)) k)), some (.int (Int32.ofNat k))] [] h (lm_kI K)) := by
  intro r
  induction r with
  | zero =>
    intro k hk
    refine b_67_5 _ _ _ hl ?_
    rw [hn]
    simp (disch := omega) only [q_add, q_mul, q_m7, q_m6, q_6m, q_7m, q_a1, q_5m, q_m5, q_71, q_11, q_87, q_41, q_76, q_5a, q_0a, q_a6, q_nat, q_in, q_lt, q_eq, q_lt0, if_true, if_false]
    have : k = n := by omega
    subst this
    rw [if_neg (by omega)]
    exact hK
  | succ r ih =>
    intro k hk
    refine b_67_5 _ _ _ hl ?_
    rw [hn]
    simp (disch := omega) only [q_add, q_mul, q_m7, q_m6, q_6m, q_7m, q_a1, q_5m, q_m5, q_71, q_11, q_87, q_41, q_76, q_5a, q_0a, q_a6, q_nat, q_in, q_lt, q_eq, q_lt0, if_true, if_false]
    rw [if_pos (by omega)]
    have h1 := ih (k + 1) (by omega)
    rw [q_mk] at h1
    by_cases c : lm_i h 73 k = x
    · rw [if_pos c]
      rw [if_pos (by simpa using c)] at h1
      exact h1
    · rw [if_neg c]
      rw [if_neg (by simpa using c)] at h1
      exact h1
theorem cl_67 {D n : Nat} {h : lm_H} {K : Int32 → lm_H → Prop} (hD : 1 ≤ D) (hl : lm_Lay h) (hn : lm_i h 21 0 = Int32.ofNat n) (h5 : n ≤ 5) (x : Int32) (hK : K (q_mk (fun j => decide (lm_i h 73 j = x)) n) h) : lm_call D 67 [.ref 21, .ref 73, .int x] h (lm_kI K) := by
  obtain ⟨d, rfl⟩ := q_dp hD
  exact e_67 x hl (lp_67 hl hn h5 x hK n 0 (by omega))
theorem lp_67t {d n : Nat} {h : lm_H} {K : Int32 → lm_H → Prop} (hl : lm_Lay h) (hn : lm_i h 21 0 = Int32.ofNat n) (h5 : n ≤ 5) (x : Int32) (hK : K (q_mk (fun j => decide (lm_i h 50 j = x)) n) h) : ∀ r k, r + k = n → (lm_W (d) 67 5 [some (.ref 21), some (.ref 50), some (.int x), some (.int (q_mk (fun j => decide (lm_i h 50 j = x)) k)), some (.int (Int32.ofNat k))] [] h (lm_kI K)) := by
  intro r
  induction r with
  | zero =>
    intro k hk
    refine b_67t_5 _ _ _ hl ?_
    rw [hn]
    simp (disch := omega) only [q_add, q_mul, q_m7, q_m6, q_6m, q_7m, q_a1, q_5m, q_m5, q_71, q_11, q_87, q_41, q_76, q_5a, q_0a, q_a6, q_nat, q_in, q_lt, q_eq, q_lt0, if_true, if_false]
    have : k = n := by omega
    subst this
    rw [if_neg (by omega)]
    exact hK
  | succ r ih =>
    intro k hk
    refine b_67t_5 _ _ _ hl ?_
    rw [hn]
    simp (disch := omega) only [q_add, q_mul, q_m7, q_m6, q_6m, q_7m, q_a1, q_5m, q_m5, q_71, q_11, q_87, q_41, q_76, q_5a, q_0a, q_a6, q_nat, q_in, q_lt, q_eq, q_lt0, if_true, if_false]
    rw [if_pos (by omega)]
    have h1 := ih (k + 1) (by omega)
    rw [q_mk] at h1
    by_cases c : lm_i h 50 k = x
    · rw [if_pos c]
      rw [if_pos (by simpa using c)] at h1
      exact h1
    · rw [if_neg c]
      rw [if_neg (by simpa using c)] at h1
      exact h1
theorem cl_67t {D n : Nat} {h : lm_H} {K : Int32 → lm_H → Prop} (hD : 1 ≤ D) (hl : lm_Lay h) (hn : lm_i h 21 0 = Int32.ofNat n) (h5 : n ≤ 5) (x : Int32) (hK : K (q_mk (fun j => decide (lm_i h 50 j = x)) n) h) : lm_call D 67 [.ref 21, .ref 50, .int x] h (lm_kI K) := by
  obtain ⟨d, rfl⟩ := q_dp hD
  exact e_67t x hl (lp_67t hl hn h5 x hK n 0 (by omega))
theorem lp_67y {d n : Nat} {h : lm_H} {K : Int32 → lm_H → Prop} (hl : lm_Lay h) (hn : lm_i h 59 0 = Int32.ofNat n) (h5 : n ≤ 5) (x : Int32) (hK : K (q_mk (fun j => decide (lm_i h 69 j = x)) n) h) : ∀ r k, r + k = n → (lm_W (d) 67 5 [some (.ref 59), some (.ref 69), some (.int x), some (.int (q_mk (fun j => decide (lm_i h 69 j = x)) k)), some (.int (Int32.ofNat k))] [] h (lm_kI K)) := by
  intro r
  induction r with
  | zero =>
    intro k hk
    refine b_67y_5 _ _ _ hl ?_
    rw [hn]
    simp (disch := omega) only [q_add, q_mul, q_m7, q_m6, q_6m, q_7m, q_a1, q_5m, q_m5, q_71, q_11, q_87, q_41, q_76, q_5a, q_0a, q_a6, q_nat, q_in, q_lt, q_eq, q_lt0, if_true, if_false]
    have : k = n := by omega
    subst this
    rw [if_neg (by omega)]
    exact hK
  | succ r ih =>
    intro k hk
    refine b_67y_5 _ _ _ hl ?_
    rw [hn]
    simp (disch := omega) only [q_add, q_mul, q_m7, q_m6, q_6m, q_7m, q_a1, q_5m, q_m5, q_71, q_11, q_87, q_41, q_76, q_5a, q_0a, q_a6, q_nat, q_in, q_lt, q_eq, q_lt0, if_true, if_false]
    rw [if_pos (by omega)]
    have h1 := ih (k + 1) (by omega)
    rw [q_mk] at h1
    by_cases c : lm_i h 69 k = x
    · rw [if_pos c]
      rw [if_pos (by simpa using c)] at h1
      exact h1
    · rw [if_neg c]
      rw [if_neg (by simpa using c)] at h1
      exact h1
theorem cl_67y {D n : Nat} {h : lm_H} {K : Int32 → lm_H → Prop} (hD : 1 ≤ D) (hl : lm_Lay h) (hn : lm_i h 59 0 = Int32.ofNat n) (h5 : n ≤ 5) (x : Int32) (hK : K (q_mk (fun j => decide (lm_i h 69 j = x)) n) h) : lm_call D 67 [.ref 59, .ref 69, .int x] h (lm_kI K) := by
  obtain ⟨d, rfl⟩ := q_dp hD
  exact e_67y x hl (lp_67y hl hn h5 x hK n 0 (by omega))
theorem lp_67b {d n : Nat} {h : lm_H} {K : Int32 → lm_H → Prop} (hl : lm_Lay h) (hn : lm_i h 59 0 = Int32.ofNat n) (h5 : n ≤ 5) (x : Int32) (hK : K (q_mk (fun j => decide (lm_i h 70 j = x)) n) h) : ∀ r k, r + k = n → (lm_W (d) 67 5 [some (.ref 59), some (.ref 70), some (.int x), some (.int (q_mk (fun j => decide (lm_i h 70 j = x)) k)), some (.int (Int32.ofNat k))] [] h (lm_kI K)) := by
  intro r
  induction r with
  | zero =>
    intro k hk
    refine b_67b_5 _ _ _ hl ?_
    rw [hn]
    simp (disch := omega) only [q_add, q_mul, q_m7, q_m6, q_6m, q_7m, q_a1, q_5m, q_m5, q_71, q_11, q_87, q_41, q_76, q_5a, q_0a, q_a6, q_nat, q_in, q_lt, q_eq, q_lt0, if_true, if_false]
    have : k = n := by omega
    subst this
    rw [if_neg (by omega)]
    exact hK
  | succ r ih =>
    intro k hk
    refine b_67b_5 _ _ _ hl ?_
    rw [hn]
    simp (disch := omega) only [q_add, q_mul, q_m7, q_m6, q_6m, q_7m, q_a1, q_5m, q_m5, q_71, q_11, q_87, q_41, q_76, q_5a, q_0a, q_a6, q_nat, q_in, q_lt, q_eq, q_lt0, if_true, if_false]
    rw [if_pos (by omega)]
    have h1 := ih (k + 1) (by omega)
    rw [q_mk] at h1
    by_cases c : lm_i h 70 k = x
    · rw [if_pos c]
      rw [if_pos (by simpa using c)] at h1
      exact h1
    · rw [if_neg c]
      rw [if_neg (by simpa using c)] at h1
      exact h1
theorem cl_67b {D n : Nat} {h : lm_H} {K : Int32 → lm_H → Prop} (hD : 1 ≤ D) (hl : lm_Lay h) (hn : lm_i h 59 0 = Int32.ofNat n) (h5 : n ≤ 5) (x : Int32) (hK : K (q_mk (fun j => decide (lm_i h 70 j = x)) n) h) : lm_call D 67 [.ref 59, .ref 70, .int x] h (lm_kI K) := by
  obtain ⟨d, rfl⟩ := q_dp hD
  exact e_67b x hl (lp_67b hl hn h5 x hK n 0 (by omega))
theorem cl_70 {D c : Nat} {h : lm_H} {K : Int32 → lm_H → Prop} {cu : Int32} (hD : 1 ≤ D) (hl : lm_Lay h) (hc : lm_i h 21 2 = cu) (h5 : c ≤ 5) (hK : K (q_sh cu c) h) : lm_call D 70 [.ref 21, .int (Int32.ofNat c)] h (lm_kI K) := by
  obtain ⟨d, rfl⟩ := q_dp hD
  refine e_70 _ hl ?_
  have e0 : (0 : Int32) = Int32.ofNat 0 := rfl
  rw [q_sh] at hK
  by_cases c1 : c = 0
  · rw [if_pos c1] at hK
    rw [if_neg (by rw [e0, q_lt (by omega) (by omega)]; omega)]
    exact hK
  · rw [if_neg c1] at hK
    rw [if_pos (by rw [e0, q_lt (by omega) (by omega)]; omega), hc]
    by_cases c2 : cu = 2
    · rw [if_pos c2] at hK ⊢
      refine ⟨?_, hK⟩
      rw [q_a1, e0, q_eq (by omega) (by omega)]
      omega
    · rw [if_neg c2] at hK ⊢
      exact hK
theorem cl_69 {D n k : Nat} {h : lm_H} {K : Int32 → lm_H → Prop} {cu : Int32} (hD : 2 ≤ D) (hl : lm_Lay h) (hc : lm_i h 21 2 = cu) (h5 : n ≤ 5) (hk : k < 5) (P : Nat → Bool) (hK : K (q_sh cu (q_rv cu P k n)) h) : lm_call D 69 [.ref 21, .int (Int32.ofNat k), .int (q_mk P n)] h (lm_kI K) := by
  obtain ⟨d, rfl⟩ := q_dp hD
  refine e_69 _ _ hl ?_
  rw [hc]
  have hle := q_rv_le (cu := cu) P k n
  by_cases c1 : cu = 1
  · rw [if_pos c1]
    refine cl_262 (by omega) hl _ ?_
    rw [q_bl_mk P h5 hk, ← c1]
    exact cl_70 (by omega) hl hc (by omega) hK
  · rw [if_neg c1]
    refine cl_262 (by omega) hl _ ?_
    rw [q_bo_mk P h5 hk, ← q_rv_cu c1]
    exact cl_70 (by omega) hl hc (by omega) hK
theorem cl_70y {D c : Nat} {h : lm_H} {K : Int32 → lm_H → Prop} {cu : Int32} (hD : 1 ≤ D) (hl : lm_Lay h) (hc : lm_i h 59 2 = cu) (h5 : c ≤ 5) (hK : K (q_sh cu c) h) : lm_call D 70 [.ref 59, .int (Int32.ofNat c)] h (lm_kI K) := by
  obtain ⟨d, rfl⟩ := q_dp hD
  refine e_70y _ hl ?_
  have e0 : (0 : Int32) = Int32.ofNat 0 := rfl
  rw [q_sh] at hK
  by_cases c1 : c = 0
  · rw [if_pos c1] at hK
    rw [if_neg (by rw [e0, q_lt (by omega) (by omega)]; omega)]
    exact hK
  · rw [if_neg c1] at hK
    rw [if_pos (by rw [e0, q_lt (by omega) (by omega)]; omega), hc]
    by_cases c2 : cu = 2
    · rw [if_pos c2] at hK ⊢
      refine ⟨?_, hK⟩
      rw [q_a1, e0, q_eq (by omega) (by omega)]
      omega
    · rw [if_neg c2] at hK ⊢
      exact hK
theorem cl_69y {D n k : Nat} {h : lm_H} {K : Int32 → lm_H → Prop} {cu : Int32} (hD : 2 ≤ D) (hl : lm_Lay h) (hc : lm_i h 59 2 = cu) (h5 : n ≤ 5) (hk : k < 5) (P : Nat → Bool) (hK : K (q_sh cu (q_rv cu P k n)) h) : lm_call D 69 [.ref 59, .int (Int32.ofNat k), .int (q_mk P n)] h (lm_kI K) := by
  obtain ⟨d, rfl⟩ := q_dp hD
  refine e_69y _ _ hl ?_
  rw [hc]
  have hle := q_rv_le (cu := cu) P k n
  by_cases c1 : cu = 1
  · rw [if_pos c1]
    refine cl_262 (by omega) hl _ ?_
    rw [q_bl_mk P h5 hk, ← c1]
    exact cl_70y (by omega) hl hc (by omega) hK
  · rw [if_neg c1]
    refine cl_262 (by omega) hl _ ?_
    rw [q_bo_mk P h5 hk, ← q_rv_cu c1]
    exact cl_70y (by omega) hl hc (by omega) hK
theorem cl_70s {D c : Nat} {h : lm_H} {K : Int32 → lm_H → Prop} {cu : Int32} (hD : 1 ≤ D) (hl : lm_Lay h) (hc : lm_i h 32 2 = cu) (h5 : c ≤ 5) (hK : K (q_sh cu c) h) : lm_call D 70 [.ref 32, .int (Int32.ofNat c)] h (lm_kI K) := by
  obtain ⟨d, rfl⟩ := q_dp hD
  refine e_70s _ hl ?_
  have e0 : (0 : Int32) = Int32.ofNat 0 := rfl
  rw [q_sh] at hK
  by_cases c1 : c = 0
  · rw [if_pos c1] at hK
    rw [if_neg (by rw [e0, q_lt (by omega) (by omega)]; omega)]
    exact hK
  · rw [if_neg c1] at hK
    rw [if_pos (by rw [e0, q_lt (by omega) (by omega)]; omega), hc]
    by_cases c2 : cu = 2
    · rw [if_pos c2] at hK ⊢
      refine ⟨?_, hK⟩
      rw [q_a1, e0, q_eq (by omega) (by omega)]
      omega
    · rw [if_neg c2] at hK ⊢
      exact hK
theorem cl_69s {D n k : Nat} {h : lm_H} {K : Int32 → lm_H → Prop} {cu : Int32} (hD : 2 ≤ D) (hl : lm_Lay h) (hc : lm_i h 32 2 = cu) (h5 : n ≤ 5) (hk : k < 5) (P : Nat → Bool) (hK : K (q_sh cu (q_rv cu P k n)) h) : lm_call D 69 [.ref 32, .int (Int32.ofNat k), .int (q_mk P n)] h (lm_kI K) := by
  obtain ⟨d, rfl⟩ := q_dp hD
  refine e_69s _ _ hl ?_
  rw [hc]
  have hle := q_rv_le (cu := cu) P k n
  by_cases c1 : cu = 1
  · rw [if_pos c1]
    refine cl_262 (by omega) hl _ ?_
    rw [q_bl_mk P h5 hk, ← c1]
    exact cl_70s (by omega) hl hc (by omega) hK
  · rw [if_neg c1]
    refine cl_262 (by omega) hl _ ?_
    rw [q_bo_mk P h5 hk, ← q_rv_cu c1]
    exact cl_70s (by omega) hl hc (by omega) hK
theorem cl_68 {D n k g : Nat} {h : lm_H} {K : Int32 → lm_H → Prop} {cu lo : Int32} (hD : 4 ≤ D) (hl : lm_Lay h) (hc : lm_i h 21 2 = cu) (hlo : lm_i h 21 3 = lo) (h5 : n ≤ 5) (hk : k < 5) (hg : g < 7) (P : Nat → Bool) (hK : K (q_gn n cu lo (lm_i h 22 (k * 7 + g)) P k) h) : lm_call D 68 [.ref 21, .int (Int32.ofNat k), .int (Int32.ofNat g), .int (q_mk P n)] h (lm_kI K) := by
  obtain ⟨d, rfl⟩ := q_dp hD
  refine e_68 _ _ _ hl ?_
  refine cl_69 (by omega) hl hc h5 hk P ?_
  simp (disch := omega) only [q_add, q_mul, q_m7, q_m6, q_6m, q_7m, q_a1, q_5m, q_m5, q_71, q_11, q_87, q_41, q_76, q_5a, q_0a, q_a6, q_nat, q_in, q_lt, q_eq, q_lt0, if_true, if_false, hlo]
  exact hK
theorem cl_68y {D n k g : Nat} {h : lm_H} {K : Int32 → lm_H → Prop} {cu lo : Int32} (hD : 4 ≤ D) (hl : lm_Lay h) (hc : lm_i h 59 2 = cu) (hlo : lm_i h 59 3 = lo) (h5 : n ≤ 5) (hk : k < 5) (hg : g < 7) (P : Nat → Bool) (hK : K (q_gn n cu lo (lm_i h 60 (k * 7 + g)) P k) h) : lm_call D 68 [.ref 59, .int (Int32.ofNat k), .int (Int32.ofNat g), .int (q_mk P n)] h (lm_kI K) := by
  obtain ⟨d, rfl⟩ := q_dp hD
  refine e_68y _ _ _ hl ?_
  refine cl_69y (by omega) hl hc h5 hk P ?_
  simp (disch := omega) only [q_add, q_mul, q_m7, q_m6, q_6m, q_7m, q_a1, q_5m, q_m5, q_71, q_11, q_87, q_41, q_76, q_5a, q_0a, q_a6, q_nat, q_in, q_lt, q_eq, q_lt0, if_true, if_false, hlo]
  exact hK
theorem cl_71 {D n k g : Nat} {h : lm_H} {K : Int32 → lm_H → Prop} {cu lo : Int32} (hD : 5 ≤ D) (hl : lm_Lay h) (hn : lm_i h 21 0 = Int32.ofNat n) (hc : lm_i h 21 2 = cu) (hlo : lm_i h 21 3 = lo) (h5 : n ≤ 5) (hk : k < 5) (hg : g < 7) (hK : K (q_gn n cu lo (lm_i h 22 (k * 7 + g)) (fun j => decide (lm_i h 73 j = Int32.ofNat g)) k) h) : lm_call D 71 [.ref 21, .ref 73, .int (Int32.ofNat k), .int (Int32.ofNat g)] h (lm_kI K) := by
  obtain ⟨d, rfl⟩ := q_dp hD
  refine e_71 _ _ hl ?_
  refine cl_67 (by omega) hl hn h5 _ ?_
  exact cl_68 (by omega) hl hc hlo h5 hk hg _ hK
theorem cl_71t {D n k g : Nat} {h : lm_H} {K : Int32 → lm_H → Prop} {cu lo : Int32} (hD : 5 ≤ D) (hl : lm_Lay h) (hn : lm_i h 21 0 = Int32.ofNat n) (hc : lm_i h 21 2 = cu) (hlo : lm_i h 21 3 = lo) (h5 : n ≤ 5) (hk : k < 5) (hg : g < 7) (hK : K (q_gn n cu lo (lm_i h 22 (k * 7 + g)) (fun j => decide (lm_i h 50 j = Int32.ofNat g)) k) h) : lm_call D 71 [.ref 21, .ref 50, .int (Int32.ofNat k), .int (Int32.ofNat g)] h (lm_kI K) := by
  obtain ⟨d, rfl⟩ := q_dp hD
  refine e_71t _ _ hl ?_
  refine cl_67t (by omega) hl hn h5 _ ?_
  exact cl_68 (by omega) hl hc hlo h5 hk hg _ hK
theorem cl_71b {D n k g : Nat} {h : lm_H} {K : Int32 → lm_H → Prop} {cu lo : Int32} (hD : 5 ≤ D) (hl : lm_Lay h) (hn : lm_i h 59 0 = Int32.ofNat n) (hc : lm_i h 59 2 = cu) (hlo : lm_i h 59 3 = lo) (h5 : n ≤ 5) (hk : k < 5) (hg : g < 7) (hK : K (q_gn n cu lo (lm_i h 60 (k * 7 + g)) (fun j => decide (lm_i h 70 j = Int32.ofNat g)) k) h) : lm_call D 71 [.ref 59, .ref 70, .int (Int32.ofNat k), .int (Int32.ofNat g)] h (lm_kI K) := by
  obtain ⟨d, rfl⟩ := q_dp hD
  refine e_71b _ _ hl ?_
  refine cl_67b (by omega) hl hn h5 _ ?_
  exact cl_68y (by omega) hl hc hlo h5 hk hg _ hK
