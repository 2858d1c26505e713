/-! More calls that look at what was told: goes, rounds, turned, breaks, breaker. -/
section Xl98ftold2
variable {xl : (Nat → Int32) × Nat}
theorem op_112 {D nc : Nat} {h : lm_H} (hD : 170 ≤ D) (hn : nc ≤ 10000) (H : INV xl nc h) (x : Int32) : lm_call D 112 [.ref 0, .int x] h (lm_kI fun r h1 => lm_call D 217 [.ref 92, .int x] h1 (lm_kI fun r2 h2 => r = r2 ∧ INV xl (nc + 1) h2)) := by
  obtain ⟨d, rfl⟩ := q_dp hD
  have J := INV_mono H
  obtain ⟨v, n, m, cu, lo, W, B, T, R, s, hv, I, hl, h5, h6, hn1, hm1, hn0, hm0, hw, t1, t2, t3⟩ := INV_go H
  have okT := tA_ok (B := B) t2
  have gT := okA_gA okT
  refine e_112 x hl ?_
  rw [hm0]
  by_cases c1 : x < 0
  · rw [if_pos c1]
    refine e_217 _ hl ?_
    rw [if_pos c1]
    exact ⟨rfl, J⟩
  rw [if_neg c1]
  obtain ⟨g, g1, rfl⟩ := q_ex c1
  by_cases c2 : ¬ g < m
  · rw [if_neg (by rw [q_lt (by omega) (by omega)]; exact c2)]
    refine e_217 _ hl ?_
    rw [if_neg c1, hm1, if_pos (by rw [q_m1 (by omega) (by omega)]; exact c2)]
    exact ⟨rfl, J⟩
  have c2 := Decidable.not_not.1 c2
  rw [if_pos (by rw [q_lt (by omega) (by omega)]; exact c2)]
  refine cf_144 (by omega) I.1 I.2.1 t2 t3 (fun h1 f1 C1 a1 => ?_)
  refine cm_67 (by omega) C1.1 C1.2.2.2.1 h5 a1 (fun j hj => by have := gT j hj; omega) (by omega) ?_
  have I1 := IB_fr I (fr_sub f1 (by decide) (by decide))
  have cn5 : ∀ (P : Nat → Bool) (k : Nat), q_cn P k ≤ k := by
    intro P k
    induction k with
    | zero => exact Nat.le_refl 0
    | succ k ih =>
      rw [q_cn]
      split <;> omega
  have cz : ∀ (P : Nat → Bool) (k : Nat), (∀ j, j < k → P j = false) → q_cn P k = 0 := by
    intro P k hk
    induction k with
    | zero => rfl
    | succ k ih =>
      rw [q_cn, ih (fun j hj => hk j (by omega)), hk k (by omega)]
      rfl
  have cp : ∀ (P : Nat → Bool) (k f : Nat), f < k → P f = true → 0 < q_cn P k := by
    intro P k f hf hP
    induction k with
    | zero => omega
    | succ k ih =>
      rw [q_cn]
      by_cases e : f = k
      · subst e
        rw [if_pos hP]
        omega
      · have := ih (by omega)
        omega
  have ref : ∀ r : Int32, (q_cn (fun j => decide (tA B T j = g)) n = 0 → r = -1) → (0 < q_cn (fun j => decide (tA B T j = g)) n → r = if q_cn (fun j => decide (tA B T j = g)) n < 2 ∨ cu = 1 then Int32.ofNat (q_fi (fun j => decide (tA B T j = g)) 6 n) else -1) → lm_call (d + 170) 217 [.ref 92, .int (Int32.ofNat g)] h1 (lm_kI fun r2 h2 => r = r2 ∧ INV xl (nc + 1) h2) := by
    intro r q0 q1
    refine e_217 _ C1.1 ?_
    rw [if_neg c1, I1.2.1.2.2.2.1, if_neg (by rw [q_m1 (by omega) (by omega)]; exact fun q => q c2)]
    refine cr_told (by omega) I1 (tk_fr t1 f1 (by decide)) t2 (fun h2 f2 I2 r2 a2 => ?_)
    have E := INV_end R hv (scr_fr f1 (by decide)) (sI_fr s f1 C1.1 (by decide)) f2 (by decide) I2
    have e83 : lm_i h2 94 83 = cu := I2.2.1.2.2.2.2.1
    have lp : ∀ k, k ≤ n → ∀ v : Int32, (v = -1 ∧ ∀ j, k ≤ j → j < n → ¬ tA B T j = g) ∨ (∃ f, k ≤ f ∧ f < n ∧ tA B T f = g ∧ (∀ j, k ≤ j → j < f → ¬ tA B T j = g) ∧ v = Int32.ofNat f) → (lm_W ((d + 167) + 2) 217 27 [some (.ref 92), some (.int (Int32.ofNat g)), some (.int v), some (.int (Int32.ofNat k - 1))] [] h2 (lm_kI (fun r2 h2 => r = r2 ∧ INV xl (nc + 1) h2))) := by
      intro k
      induction k with
      | zero =>
        intro _ v hv2
        refine b_217_27 _ _ _ r2.1 ?_
        rw [if_pos (by decide)]
        refine cm_213 (by omega) r2 a2 gT c2 ?_
        have cb := cn5 (fun j => decide (tA B T j = g)) n
        rcases hv2 with ⟨rfl, ha⟩ | ⟨f, _, hf, hP, ha, rfl⟩
        · have z := cz (fun j => decide (tA B T j = g)) n (fun j hj => decide_eq_false (ha j (by omega) hj))
          rw [z, if_pos (by decide)]
          exact ⟨q0 z, E⟩
        · have z := cp (fun j => decide (tA B T j = g)) n f hf (decide_eq_true hP)
          have zf : q_fi (fun j => decide (tA B T j = g)) 6 n = f := q_fi_at hf (fun i hi => decide_eq_false (ha i (by omega) hi)) (decide_eq_true hP) (Or.inl (by omega))
          have w := q1 z
          rw [zf] at w
          by_cases k2 : q_cn (fun j => decide (tA B T j = g)) n < 2
          · rw [if_pos (by rw [q_l2 (by omega)]; exact k2)]
            rw [if_pos (Or.inl k2)] at w
            exact ⟨w, E⟩
          · rw [if_neg (by rw [q_l2 (by omega)]; exact k2), e83]
            by_cases k3 : cu = 1
            · rw [if_pos k3]
              rw [if_pos (Or.inr k3)] at w
              exact ⟨w, E⟩
            · rw [if_neg k3]
              rw [if_neg (fun y => y.elim k2 k3)] at w
              exact ⟨w, E⟩
      | succ k ih =>
        intro hk v hv2
        refine b_217_27 _ _ _ r2.1 ?_
        rw [q_s1 (by omega), Nat.add_sub_cancel, if_neg (by rw [q_lt0 (by omega)]; exact id), q_in (by omega) (by decide), q_nat (by omega), a2 k (by omega)]
        by_cases b : tA B T k = g
        · rw [if_pos (by rw [if_neg (by omega), b])]
          exact ih (by omega) _ (Or.inr ⟨k, Nat.le_refl k, by omega, b, fun j h1 h2 => by omega, rfl⟩)
        · have gk := gT k (by omega)
          rw [if_neg (by
            intro y
            rw [q_eq (by split <;> omega) (by omega)] at y
            by_cases b6 : tA B T k = 6
            · rw [if_pos b6] at y
              omega
            · rw [if_neg b6] at y
              exact b y)]
          refine ih (by omega) _ ?_
          rcases hv2 with ⟨e, ha⟩ | ⟨f, f1, f2, f3, f4, f5⟩
          · refine Or.inl ⟨e, fun j j1 j2 => ?_⟩
            by_cases e2 : j = k
            · subst e2
              exact b
            · exact ha j (by omega) j2
          · refine Or.inr ⟨f, by omega, f2, f3, fun j j1 j2 => ?_, f5⟩
            by_cases e2 : j = k
            · subst e2
              exact b
            · exact f4 j (by omega) j2
    rw [I2.2.1.2.2.1]
    exact lp n (Nat.le_refl n) _ (Or.inl ⟨rfl, fun j j1 j2 => by omega⟩)
  by_cases z : q_cn (fun j => decide (tA B T j = g)) n = 0
  · rw [if_pos ((q_z_mk _ (by omega)).2 z)]
    exact ref _ (fun _ => rfl) (fun y => by omega)
  rw [if_neg (fun y => z ((q_z_mk _ (by omega)).1 y))]
  refine cl_262 (by omega) C1.1 _ ?_
  rw [q_bc_mk _ h5]
  have cb := cn5 (fun j => decide (tA B T j = g)) n
  by_cases k1 : 1 < q_cn (fun j => decide (tA B T j = g)) n
  · rw [if_pos (by rw [q_1l (by omega)]; exact k1), C1.2.2.2.2.2.1]
    by_cases k3 : cu = 1
    · rw [if_pos k3]
      refine cl_150 (by omega) C1.1 _ ?_
      rw [q_lw_mk _ (by omega)]
      exact ref _ (fun y => absurd y z) (fun _ => by rw [if_pos (Or.inr k3)])
    · rw [if_neg k3]
      exact ref _ (fun y => absurd y z) (fun _ => by rw [if_neg (fun y => y.elim (fun w => by omega) k3)])
  · rw [if_neg (by rw [q_1l (by omega)]; exact k1)]
    refine cl_150 (by omega) C1.1 _ ?_
    rw [q_lw_mk _ (by omega)]
    exact ref _ (fun y => absurd y z) (fun _ => by rw [if_pos (Or.inl (by omega))])
/-- the turns of both sides -/
theorem cr_234 {D v n m : Nat} {h : lm_H} {K : lm_H → Prop} {cu lo : Int32} {W B : Nat → Int32} {T : Nat → Nat} (hD : 166 ≤ D) (I : IB v n m cu lo W B h) (ht : tk h n T) (hT : gA n m T) (hK : ∀ h', fr [103, 104, 105, 106, 107, 109] [19, 20, 21, 23, 24, 28, 41, 42] h h' → IB v n m cu lo W B h' → ra h' n m (tL n m cu lo W B 16808 (tV0 (tA B T) n) (tA B T) 0).2.2 → okA n m B (tL n m cu lo W B 16808 (tV0 (tA B T) n) (tA B T) 0).2.2 → lm_i h' 92 41 = Int32.ofNat (tL n m cu lo W B 16808 (tV0 (tA B T) n) (tA B T) 0).1 → lm_i h' 92 42 = (if (tL n m cu lo W B 16808 (tV0 (tA B T) n) (tA B T) 0).2.1 then 0 else 1) → K h') : lm_call D 234 [.ref 92] h (lm_kV K) := by
  obtain ⟨d, rfl⟩ := q_dp hD
  refine e_234 I.1.1.1 ?_
  refine cr_told (by omega) I ht hT (fun h1 f1 I1 r1 a1 => ?_)
  refine cl_234b (by omega) r1 I1.2.1.2.2.2.2.2.2.2.1 (tA_ok hT) a1 (fun h2 f2 r2 a2 o2 e1 e2 => ?_)
  exact hK h2 (fr_trans (fr_sub f1 (by decide) (by decide)) (fr_sub f2 (by decide) (by decide))) (IB_fr I1 (fr_sub f2 (by decide) (by decide))) a2 o2 e1 e2
theorem op_121 {D nc : Nat} {h : lm_H} (hD : 170 ≤ D) (hn : nc ≤ 10000) (H : INV xl nc h) (x : Int32) : lm_call D 121 [.ref 0, .int x] h (lm_kI fun r h1 => lm_call D 235 [.ref 92, .int x] h1 (lm_kI fun r2 h2 => r = r2 ∧ INV xl (nc + 1) h2)) := by
  obtain ⟨d, rfl⟩ := q_dp hD
  have J := INV_mono H
  obtain ⟨v, n, m, cu, lo, W, B, T, R, s, hv, I, hl, h5, h6, hn1, hm1, hn0, hm0, hw, t1, t2, t3⟩ := INV_go H
  have okT := tA_ok (B := B) t2
  have gT := okA_gA okT
  refine e_121 x hl ?_
  by_cases c0 : x = 0
  · subst c0
    rw [if_pos rfl]
    refine cf_144 (by omega) I.1 I.2.1 t2 t3 (fun h1 f1 C1 a1 => ?_)
    refine cl_76 (by omega) C1 hw okT a1 (fun h2 f2 b1 b2 b3 => ?_)
    have f3 : fr [18, 19, 20, 21, 22, 23, 24, 25, 49, 50, 51, 73] [] h h2 := fr_trans (fr_sub f1 (by decide) (by decide)) (fr_sub f2 (by decide) (by decide))
    have I2 := IB_fr I (fr_sub f3 (by decide) (by decide))
    rw [if_pos rfl, b2]
    refine e_235 _ I2.1.1.1 ?_
    rw [if_neg (by decide), if_neg (by decide)]
    refine cr_234 (by omega) I2 (tk_fr t1 f3 (by decide)) t2 (fun h3 f4 I3 a3 o3 e1 e2 => ?_)
    rw [if_pos rfl, e1]
    exact ⟨rfl, INV_end R hv (scr_fr f3 (by decide)) (sI_fr s f3 I2.1.1.1 (by decide)) f4 (by decide) I3⟩
  rw [if_neg c0]
  by_cases c1 : x = 1
  · subst c1
    rw [if_pos rfl]
    refine cf_144 (by omega) I.1 I.2.1 t2 t3 (fun h1 f1 C1 a1 => ?_)
    refine cl_76 (by omega) C1 hw okT a1 (fun h2 f2 b1 b2 b3 => ?_)
    have f3 : fr [18, 19, 20, 21, 22, 23, 24, 25, 49, 50, 51, 73] [] h h2 := fr_trans (fr_sub f1 (by decide) (by decide)) (fr_sub f2 (by decide) (by decide))
    have I2 := IB_fr I (fr_sub f3 (by decide) (by decide))
    rw [if_neg c0, b3]
    have fin : ∀ r : Int32, r = (if (tL n m cu lo W B 16808 (tV0 (tA B T) n) (tA B T) 0).2.1 then 1 else 0) → lm_call (d + 170) 235 [.ref 92, .int 1] h2 (lm_kI fun r2 h2 => r = r2 ∧ INV xl (nc + 1) h2) := by
      intro r hr
      refine e_235 _ I2.1.1.1 ?_
      rw [if_neg (by decide), if_neg (by decide)]
      refine cr_234 (by omega) I2 (tk_fr t1 f3 (by decide)) t2 (fun h3 f4 I3 a3 o3 e1 e2 => ?_)
      have E := INV_end R hv (scr_fr f3 (by decide)) (sI_fr s f3 I2.1.1.1 (by decide)) f4 (by decide) I3
      rw [if_neg c0, e2]
      by_cases b : (tL n m cu lo W B 16808 (tV0 (tA B T) n) (tA B T) 0).2.1 = true
      · rw [if_pos b] at hr ⊢
        rw [if_pos rfl]
        exact ⟨hr, E⟩
      · rw [if_neg b] at hr ⊢
        rw [if_neg (by decide)]
        exact ⟨hr, E⟩
    by_cases b : (tL n m cu lo W B 16808 (tV0 (tA B T) n) (tA B T) 0).2.1 = true
    · rw [if_pos b, if_neg (by decide)]
      exact fin _ (by rw [if_pos b])
    · rw [if_neg b, if_pos rfl]
      exact fin _ (by rw [if_neg b])
  rw [if_neg c1]
  refine e_235 _ hl ?_
  by_cases e1 : x < 0
  · rw [if_pos e1]
    exact ⟨rfl, J⟩
  have e2 : 1 < x := by
    simp only [p_lt, p_eq, Int32.reduceToInt] at c0 c1 e1 ⊢
    omega
  rw [if_neg e1, if_pos e2]
  exact ⟨rfl, J⟩
theorem op_122 {D nc : Nat} {h : lm_H} (hD : 170 ≤ D) (hn : nc ≤ 10000) (H : INV xl nc h) (x : Int32) : lm_call D 122 [.ref 0, .int x] h (lm_kI fun r h1 => lm_call D 236 [.ref 92, .int x] h1 (lm_kI fun r2 h2 => r = r2 ∧ INV xl (nc + 1) h2)) := by
  obtain ⟨d, rfl⟩ := q_dp hD
  have J := INV_mono H
  obtain ⟨v, n, m, cu, lo, W, B, T, R, s, hv, I, hl, h5, h6, hn1, hm1, hn0, hm0, hw, t1, t2, t3⟩ := INV_go H
  have okT := tA_ok (B := B) t2
  have gT := okA_gA okT
  refine e_122 x hl ?_
  rw [hn0]
  by_cases c1 : x < 0
  · rw [if_pos c1]
    refine e_236 _ hl ?_
    rw [if_pos c1]
    exact ⟨rfl, J⟩
  rw [if_neg c1]
  obtain ⟨k, k1, rfl⟩ := q_ex c1
  by_cases c2 : ¬ k < n
  · rw [if_neg (by rw [q_lt (by omega) (by omega)]; exact c2)]
    refine e_236 _ hl ?_
    rw [if_neg c1, hn1, if_pos (by rw [q_m1 (by omega) (by omega)]; exact c2)]
    exact ⟨rfl, J⟩
  have c2 := Decidable.not_not.1 c2
  rw [if_pos (by rw [q_lt (by omega) (by omega)]; exact c2)]
  refine cf_144 (by omega) I.1 I.2.1 t2 t3 (fun h1 f1 C1 a1 => ?_)
  refine cl_76 (by omega) C1 hw okT a1 (fun h2 f2 b1 b2 b3 => ?_)
  have f3 : fr [18, 19, 20, 21, 22, 23, 24, 25, 49, 50, 51, 73] [] h h2 := fr_trans (fr_sub f1 (by decide) (by decide)) (fr_sub f2 (by decide) (by decide))
  have I2 := IB_fr I (fr_sub f3 (by decide) (by decide))
  rw [q_in (by omega) (by decide), q_nat (by omega), b1 k c2]
  have fin : ∀ r : Int32, ((tL n m cu lo W B 16808 (tV0 (tA B T) n) (tA B T) 0).2.2 k ≤ 6 → r = (if (tL n m cu lo W B 16808 (tV0 (tA B T) n) (tA B T) 0).2.2 k = 6 then -1 else Int32.ofNat ((tL n m cu lo W B 16808 (tV0 (tA B T) n) (tA B T) 0).2.2 k))) → lm_call (d + 170) 236 [.ref 92, .int (Int32.ofNat k)] h2 (lm_kI fun r2 h2 => r = r2 ∧ INV xl (nc + 1) h2) := by
    intro r hr
    refine e_236 _ I2.1.1.1 ?_
    rw [if_neg c1, I2.2.1.2.2.1, if_neg (by rw [q_m1 (by omega) (by omega)]; exact fun q => q c2)]
    refine cr_234 (by omega) I2 (tk_fr t1 f3 (by decide)) t2 (fun h3 f4 I3 a3 o3 e1 e2 => ?_)
    have E := INV_end R hv (scr_fr f3 (by decide)) (sI_fr s f3 I2.1.1.1 (by decide)) f4 (by decide) I3
    have gk := okA_gA o3 k c2
    have hr := hr (by omega)
    rw [q_in (by omega) (by decide), q_nat (by omega), a3 k c2, I3.2.1.2.2.2.1]
    by_cases b : (tL n m cu lo W B 16808 (tV0 (tA B T) n) (tA B T) 0).2.2 k = 6
    · rw [if_pos b] at hr ⊢
      rw [if_pos rfl]
      exact ⟨hr, E⟩
    · rw [if_neg b] at hr ⊢
      rw [if_neg (by rw [q_eq (by omega) (by omega)]; omega), q_in (by omega) (by decide)]
      exact ⟨hr, E⟩
  by_cases b2 : Int32.ofNat ((tL n m cu lo W B 16808 (tV0 (tA B T) n) (tA B T) 0).2.2 k) = 6
  · rw [if_pos b2]
    exact fin _ (fun y => by rw [q_e6 (by omega)] at b2; rw [if_pos b2])
  · rw [if_neg b2]
    exact fin _ (fun y => by rw [q_e6 (by omega)] at b2; rw [if_neg b2])
theorem sh1 {n : Nat} (h : n ≤ 5) : (1 : Int32) <<< (Int32.ofNat n &&& 31) = Int32.ofNat (2 ^ n) ∧ 2 ^ n ≤ 32 ∧ 1 ≤ 2 ^ n := by
  have h6 : n = 0 ∨ n = 1 ∨ n = 2 ∨ n = 3 ∨ n = 4 ∨ n = 5 := by omega
  rcases h6 with rfl | rfl | rfl | rfl | rfl | rfl <;> decide
theorem op_123 {D nc : Nat} {h : lm_H} (hD : 170 ≤ D) (hn : nc ≤ 10000) (H : INV xl nc h) (x : Int32) : lm_call D 123 [.ref 0, .int x] h (lm_kI fun r h1 => lm_call D 238 [.ref 92, .int x] h1 (lm_kI fun r2 h2 => r = r2 ∧ INV xl (nc + 1) h2)) := by
  obtain ⟨d, rfl⟩ := q_dp hD
  have J := INV_mono H
  obtain ⟨v, n, m, cu, lo, W, B, T, R, s, hv, I, hl, h5, h6, hn1, hm1, hn0, hm0, hw, t1, t2, t3⟩ := INV_go H
  have okT := tA_ok (B := B) t2
  have gT := okA_gA okT
  obtain ⟨s1, s2, s3⟩ := sh1 h5
  refine e_123 x hl ?_
  rw [hn0, s1]
  by_cases c1 : ¬ 0 < x
  · rw [if_neg c1]
    refine e_238 _ hl ?_
    rw [if_pos (by simp only [p_lt, Int32.reduceToInt] at c1 ⊢; omega)]
    exact ⟨rfl, J⟩
  have c1 := Decidable.not_not.1 c1
  have c0 : ¬ x < 1 := by
    simp only [p_lt, Int32.reduceToInt] at c1 ⊢
    omega
  obtain ⟨z, z1, rfl⟩ := q_ex (x := x) (by simp only [p_lt, Int32.reduceToInt] at c1 ⊢; omega)
  rw [if_pos c1]
  by_cases c2 : ¬ z < 2 ^ n
  · rw [if_neg (by rw [q_lt (by omega) (by omega)]; exact c2)]
    refine e_238 _ hl ?_
    rw [if_neg c0, hn1, s1, if_pos (by rw [q_m1 (by omega) (by omega)]; exact c2)]
    exact ⟨rfl, J⟩
  have c2 := Decidable.not_not.1 c2
  rw [if_pos (by rw [q_lt (by omega) (by omega)]; exact c2)]
  refine cf_144 (by omega) I.1 I.2.1 t2 t3 (fun h1 f1 C1 a1 => ?_)
  refine cl_83 (Int32.ofNat z) (by omega) C1 a1 gT (fun r h2 f2 r01 rb => ?_)
  have f3 : fr [18, 19, 20, 21, 22, 23, 24, 25, 27, 28, 29, 30, 73] [] h h2 := fr_trans (fr_sub f1 (by decide) (by decide)) (fr_sub f2 (by decide) (by decide))
  have I2 := IB_fr I (fr_sub f3 (by decide) (by decide))
  have fin : ∀ q : Int32, (q = 0 ∨ q = 1) → (q = 1 ↔ brk n m cu lo W B (wm (Int32.ofNat z)) (tA B T)) → lm_call (d + 170) 238 [.ref 92, .int (Int32.ofNat z)] h2 (lm_kI fun r2 h2 => q = r2 ∧ INV xl (nc + 1) h2) := by
    intro q q01 qb
    refine e_238 _ I2.1.1.1 ?_
    rw [if_neg c0, I2.2.1.2.2.1, s1, if_neg (by rw [q_m1 (by omega) (by omega)]; exact fun q => q c2)]
    refine cr_208 (by omega) I2 (fun h3 f4 I3 r3 => ?_)
    refine cl_237 (Int32.ofNat z) (by omega) r3 hw.1 (tk_fr (tk_fr t1 f3 (by decide)) f4 (by decide)) t2 (fun y h4 f5 r4 y01 yb => ?_)
    have E := INV_end R hv (scr_fr f3 (by decide)) (sI_fr s f3 I2.1.1.1 (by decide)) (fr_trans (S := [103, 104, 105, 106, 107, 110]) (T := [19, 20, 21, 23, 24, 28]) (fr_sub f4 (by decide) (by decide)) (fr_sub f5 (by decide) (by decide))) (by decide) (IB_fr I3 (fr_sub f5 (by decide) (by decide)))
    have e : q = y := by
      rcases q01 with rfl | rfl
      · rcases y01 with rfl | rfl
        · rfl
        · exact absurd (qb.2 (yb.1 rfl)) (by decide)
      · exact (yb.2 (qb.1 rfl)).symm
    subst e
    rcases q01 with rfl | rfl
    · rw [if_pos rfl]
      exact ⟨rfl, E⟩
    · rw [if_neg (by decide)]
      exact ⟨rfl, E⟩
  rcases r01 with rfl | rfl
  · rw [if_pos rfl]
    exact fin 0 (Or.inl rfl) rb
  · rw [if_neg (by decide)]
    exact fin 1 (Or.inr rfl) rb
theorem op_124 {D nc : Nat} {h : lm_H} (hD : 170 ≤ D) (hn : nc ≤ 10000) (H : INV xl nc h) : lm_call D 124 [.ref 0] h (lm_kI fun r h1 => lm_call D 239 [.ref 92] h1 (lm_kI fun r2 h2 => r = r2 ∧ INV xl (nc + 1) h2)) := by
  obtain ⟨d, rfl⟩ := q_dp hD
  have J := INV_mono H
  obtain ⟨v, n, m, cu, lo, W, B, T, R, s, hv, I, hl, h5, h6, hn1, hm1, hn0, hm0, hw, t1, t2, t3⟩ := INV_go H
  have okT := tA_ok (B := B) t2
  have gT := okA_gA okT
  obtain ⟨s1, s2, s3⟩ := sh1 h5
  refine e_124 hl ?_
  refine cf_144 (by omega) I.1 I.2.1 t2 t3 (fun h1 f1 C1 a1 => ?_)
  have ref : ∀ (r : Int32) (h2 : lm_H), fr [18, 19, 20, 21, 22, 23, 24, 25, 27, 28, 29, 30, 73] [] h h2 → ((r = -1 ∧ ∀ z, 1 ≤ z → z < 2 ^ n → ¬ brk n m cu lo W B (wm (Int32.ofNat z)) (tA B T)) ∨ ∃ z, 1 ≤ z ∧ z < 2 ^ n ∧ brk n m cu lo W B (wm (Int32.ofNat z)) (tA B T) ∧ (∀ y, 1 ≤ y → y < z → ¬ brk n m cu lo W B (wm (Int32.ofNat y)) (tA B T)) ∧ r = Int32.ofNat z) → lm_call (d + 170) 239 [.ref 92] h2 (lm_kI fun r2 h2 => r = r2 ∧ INV xl (nc + 1) h2) := by
    intro r h2 f3 hr
    have I2 := IB_fr I (fr_sub f3 (by decide) (by decide))
    refine e_239 I2.1.1.1 ?_
    refine cr_208 (by omega) I2 (fun h3 f4 I3 r3 => ?_)
    have lp : ∀ e z : Nat, e + z = 2 ^ n → 1 ≤ z → (∀ y, 1 ≤ y → y < z → ¬ brk n m cu lo W B (wm (Int32.ofNat y)) (tA B T)) → ∀ h4, fr [107, 110] [] h3 h4 → rt h4 n m cu lo W B → (lm_W ((d + 168) + 1) 239 6 [some (.ref 92), some (.int (Int32.ofNat z))] [] h4 (lm_kI (fun r2 h2 => r = r2 ∧ INV xl (nc + 1) h2))) := by
      intro e
      induction e with
      | zero =>
        intro z hz z1 hb h4 f5 r4
        have E := INV_end R hv (scr_fr f3 (by decide)) (sI_fr s f3 I2.1.1.1 (by decide)) (fr_trans (S := [103, 104, 105, 106, 107, 110]) (T := [19, 20, 21, 23, 24, 28]) (fr_sub f4 (by decide) (by decide)) (fr_sub f5 (by decide) (by decide))) (by decide) (IB_fr I3 (fr_sub f5 (by decide) (by decide)))
        refine b_239_6 _ r4.1 ?_
        rw [r4.2.2.2.1, s1, if_neg (by rw [q_lt (by omega) (by omega)]; omega)]
        refine ⟨?_, E⟩
        rcases hr with ⟨h1, _⟩ | ⟨y, y1, y2, y3, _⟩
        · exact h1
        · exact absurd y3 (hb y y1 (by omega))
      | succ e ih =>
        intro z hz z1 hb h4 f5 r4
        refine b_239_6 _ r4.1 ?_
        rw [r4.2.2.2.1, s1, if_pos (by rw [q_lt (by omega) (by omega)]; omega)]
        refine cl_237 (Int32.ofNat z) (by omega) r4 hw.1 (tk_fr (tk_fr (tk_fr t1 f3 (by decide)) f4 (by decide)) f5 (by decide)) t2 (fun y h5 f6 r5 y01 yb => ?_)
        have f7 := fr_trans f5 f6
        rcases y01 with rfl | rfl
        · rw [if_pos rfl, q_a1]
          refine ih (z + 1) (by omega) (by omega) (fun y y1 y2 => ?_) h5 f7 r5
          by_cases e2 : y = z
          · subst e2
            exact fun q => absurd (yb.2 q) (by decide)
          · exact hb y y1 (by omega)
        · rw [if_neg (by decide)]
          have E := INV_end R hv (scr_fr f3 (by decide)) (sI_fr s f3 I2.1.1.1 (by decide)) (fr_trans (S := [103, 104, 105, 106, 107, 110]) (T := [19, 20, 21, 23, 24, 28]) (fr_sub f4 (by decide) (by decide)) (fr_sub f7 (by decide) (by decide))) (by decide) (IB_fr I3 (fr_sub f7 (by decide) (by decide)))
          refine ⟨?_, E⟩
          have b := yb.1 rfl
          rcases hr with ⟨h1, hh⟩ | ⟨y, y1, y2, y3, y4, y5⟩
          · exact absurd b (hh z z1 (by omega))
          · have : y = z := by
              by_cases q1 : y < z
              · exact absurd y3 (hb y y1 q1)
              · by_cases q2 : z < y
                · exact absurd b (y4 z z1 q2)
                · omega
            rw [y5, this]
    exact lp (2 ^ n - 1) 1 (by omega) (by omega) (fun y y1 y2 => by omega) h3 (fr_refl _ _ _) r3
  have lp : ∀ e z : Nat, e + z = 2 ^ n → 1 ≤ z → (∀ y, 1 ≤ y → y < z → ¬ brk n m cu lo W B (wm (Int32.ofNat y)) (tA B T)) → ∀ h4, fr [27, 28, 29, 30] [] h1 h4 → (lm_W ((d + 169)) 124 6 [some (.ref 0), some (.int (Int32.ofNat z))] [] h4 (lm_kI (fun r h1 => lm_call (d + 170) 239 [.ref 92] h1 (lm_kI fun r2 h2 => r = r2 ∧ INV xl (nc + 1) h2)))) := by
    intro e
    induction e with
    | zero =>
      intro z hz z1 hb h4 f5
      refine b_124_6 _ (fr_Lay f5 C1.1) ?_
      rw [fr_i f5 (by decide) (by decide), fr_i f1 (by decide) (by decide), hn0, s1, if_neg (by rw [q_lt (by omega) (by omega)]; omega)]
      exact ref _ h4 (fr_trans (fr_sub f1 (by decide) (by decide)) (fr_sub f5 (by decide) (by decide))) (Or.inl ⟨rfl, fun y y1 y2 => hb y y1 (by omega)⟩)
    | succ e ih =>
      intro z hz z1 hb h4 f5
      refine b_124_6 _ (fr_Lay f5 C1.1) ?_
      rw [fr_i f5 (by decide) (by decide), fr_i f1 (by decide) (by decide), hn0, s1, if_pos (by rw [q_lt (by omega) (by omega)]; omega)]
      refine cl_83 (Int32.ofNat z) (by omega) (ct_fr f5 C1 (by decide)) (by unfold ca at a1 ⊢; rw [fr_i f5 (by decide) (by decide)]; exact a1) gT (fun r h5 f6 r01 rb => ?_)
      have f7 := fr_trans f5 f6
      rcases r01 with rfl | rfl
      · rw [if_pos rfl, q_a1]
        refine ih (z + 1) (by omega) (by omega) (fun y y1 y2 => ?_) h5 f7
        by_cases e2 : y = z
        · subst e2
          exact fun q => absurd (rb.2 q) (by decide)
        · exact hb y y1 (by omega)
      · rw [if_neg (by decide)]
        exact ref _ h5 (fr_trans (fr_sub f1 (by decide) (by decide)) (fr_sub f7 (by decide) (by decide))) (Or.inr ⟨z, z1, by omega, rb.1 rfl, hb, rfl⟩)
  exact lp (2 ^ n - 1) 1 (by omega) (by omega) (fun y y1 y2 => by omega) h1 (fr_refl _ _ _)
end Xl98ftold2
