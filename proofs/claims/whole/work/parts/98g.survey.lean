/-! Calls that look at all askings: most, mostOf, fair, steady, steadyOf, steadySum. -/
section Xl98gsurvey
variable {xl : (Nat → Int32) × Nat}
theorem cf_145 {D n m : Nat} {h : lm_H} {K : lm_H → Prop} {cu lo : Int32} {W B : Nat → Int32} (hD : 7 ≤ D) (H : INVs h) (s : sI h) (Q : tb h n m cu lo W B) (hK : ∀ h', fr [18, 19, 20, 21, 22, 23, 24, 25, 31, 32, 33, 34, 35, 36, 38, 39, 40, 42, 43, 44, 45, 46, 47, 48] [] h h' → sI h' → ct h' 32 n m cu lo W B → svc n m cu lo W B h' → K h') : lm_call D 145 [.ref 0] h (lm_kV K) := by
  obtain ⟨d, rfl⟩ := q_dp hD
  refine e_145 H.1.1 (cf_62 (by omega) H Q (fun h1 f1 c1 => ?_))
  obtain ⟨_, _, _, _, _, _, ⟨_, _, nW, nB⟩, hw, hB⟩ := Q
  refine cl_55 (by omega) (sI_fr s f1 c1.1 (by decide)) c1 hw hB nW nB (fun h2 f2 s2 c2 v2 => hK h2 (fr_trans (fr_sub f1 (by decide) (by decide)) (fr_sub f2 (by decide) (by decide))) s2 c2 v2)
theorem lt_m1b {n k : Nat} (hn : n ≤ 20000) (hk : k < 2147483648) : (Int32.ofNat n - 1 < Int32.ofNat k) = ¬ k < n := by
  refine propext ?_
  have e := p_onI (k := n) (by omega)
  have e2 := p_onI hk
  rw [p_lt, p_tI_sub (by rw [e]; simp only [Int32.reduceToInt]; omega) (by rw [e]; simp only [Int32.reduceToInt]; omega), e, e2]
  simp only [Int32.reduceToInt]
  omega
theorem x01 {x : Int32} (c0 : ¬ x = 0) (c1 : ¬ x = 1) (e1 : ¬ x < 0) : 1 < x := by
  simp only [p_lt, p_eq, Int32.reduceToInt] at c0 c1 e1 ⊢
  omega
theorem q_cn_at {P : Nat → Bool} {i N : Nat} (h : i < q_cn P N) : ∃ j, j < N ∧ P j = true ∧ q_cn P j = i := by
  induction N with
  | zero => exact absurd h (Nat.not_lt_zero i)
  | succ N ih =>
    by_cases c : i < q_cn P N
    · obtain ⟨j, j1, j2, j3⟩ := ih c
      exact ⟨j, by omega, j2, j3⟩
    · rw [q_cn] at h
      by_cases p : P N = true
      · rw [if_pos p] at h
        exact ⟨N, by omega, p, by omega⟩
      · rw [if_neg p] at h
        omega
theorem svc_N {n m : Nat} {cu lo : Int32} {W B : Nat → Int32} {h : lm_H} (V : svc n m cu lo W B h) (N0 : 0 < NN B m n) : lm_i h 31 7 = (mS (vS n m cu lo W B) (NN B m n)).1 ∧ lm_i h 31 8 = Int32.ofNat (mS (vS n m cu lo W B) (NN B m n)).2.1 ∧ lm_i h 31 9 = Int32.ofNat (mS (vS n m cu lo W B) (NN B m n)).2.2 ∧ lm_i h 31 10 = (mS (vL n m cu lo W B 1000000) (NN B m n)).1 ∧ lm_i h 31 11 = Int32.ofNat (mS (vL n m cu lo W B 1000000) (NN B m n)).2.2 := by
  obtain ⟨_, ⟨b7, b8⟩, ⟨b10, b11⟩, _⟩ := V
  rw [if_neg (by omega)] at b7 b10
  exact ⟨b7, (b8 N0).1, (b8 N0).2, b10, b11 N0⟩
theorem cn_cut {P : Nat → Bool} {N T : Nat} (h : N ≤ T) : q_cn (fun j => decide (j < N) && P j) T = q_cn P N := by
  have e := cn_add (fun j => decide (j < N) && P j) N (T - N)
  rw [show N + (T - N) = T by omega] at e
  rw [e, q_cn_c (P := fun j => decide (j < N) && P j) (Q := P) (n := N) (fun j hj => by simp [hj])]
  have z : ∀ k, q_cn (fun j => decide (N + j < N) && P (N + j)) k = 0 := by
    intro k
    induction k with
    | zero => rfl
    | succ k ih =>
      have : ¬ N + k < N := by omega
      rw [q_cn, ih]
      simp [this]
  rw [z, Nat.add_zero]
theorem op_114 {D nc : Nat} {h : lm_H} (hD : 170 ≤ D) (hn : nc ≤ 10000) (H : INV xl nc h) (x : Int32) : lm_call D 114 [.ref 0, .int x] h (lm_kI fun r h1 => lm_call D 225 [.ref 92, .int x] h1 (lm_kI fun r2 h2 => r = r2 ∧ INV xl (nc + 1) h2)) := by
  obtain ⟨d, rfl⟩ := q_dp hD
  have J := INV_mono H
  obtain ⟨v, n, m, cu, lo, W, B, T, R, s, hv, I, hl, h5, h6, hn1, hm1, hn0, hm0, hw, t1, t2, t3⟩ := INV_go H
  have okT := tA_ok (B := B) t2
  have gT := okA_gA okT
  have N0 : 0 < NN B m n := wN_pos (fun j _ => cc_pos B m j)
  have N1 := NN_le (B := B) h5 h6
  refine e_114 x hl ?_
  by_cases c0 : x = 0
  · rw [if_pos c0]
    refine cf_145 (by omega) I.1 s I.2.1 (fun h1 f1 s1 C1 V1 => ?_)
    have I1 := IB_fr I (fr_sub f1 (by decide) (by decide))
    rw [if_pos c0, (svc_N V1 N0).1]
    refine e_225 _ I1.1.1.1 ?_
    rw [if_neg (by rw [c0]; decide), if_neg (by rw [c0]; decide)]
    refine cr_223 (by omega) I1 (fun h2 f2 I2 r2 ⟨⟨a1, a2⟩, ⟨a3, a4⟩, a5, a6, a7⟩ => ?_)
    have E := INV_end R hv (scr_fr f1 (by decide)) s1 f2 (by decide) I2
    rw [if_pos c0, (a2 N0).1]
    exact ⟨rfl, E⟩
  by_cases c1 : x = 1
  · rw [if_neg c0, if_pos c1]
    refine cf_145 (by omega) I.1 s I.2.1 (fun h1 f1 s1 C1 V1 => ?_)
    have I1 := IB_fr I (fr_sub f1 (by decide) (by decide))
    rw [if_neg c0, (svc_N V1 N0).2.2.1]
    refine e_225 _ I1.1.1.1 ?_
    rw [if_neg (by rw [c1]; decide), if_neg (by rw [c1]; decide)]
    refine cr_223 (by omega) I1 (fun h2 f2 I2 r2 ⟨⟨a1, a2⟩, ⟨a3, a4⟩, a5, a6, a7⟩ => ?_)
    have E := INV_end R hv (scr_fr f1 (by decide)) s1 f2 (by decide) I2
    rw [if_neg c0, a1]
    exact ⟨rfl, E⟩
  rw [if_neg c0, if_neg c1]
  refine e_225 _ hl ?_
  by_cases e1 : x < 0
  · rw [if_pos e1]
    exact ⟨rfl, J⟩
  rw [if_neg e1, if_pos (x01 c0 c1 e1)]
  exact ⟨rfl, J⟩
theorem op_116 {D nc : Nat} {h : lm_H} (hD : 170 ≤ D) (hn : nc ≤ 10000) (H : INV xl nc h) (x : Int32) : lm_call D 116 [.ref 0, .int x] h (lm_kI fun r h1 => lm_call D 227 [.ref 92, .int x] h1 (lm_kI fun r2 h2 => r = r2 ∧ INV xl (nc + 1) h2)) := by
  obtain ⟨d, rfl⟩ := q_dp hD
  have J := INV_mono H
  obtain ⟨v, n, m, cu, lo, W, B, T, R, s, hv, I, hl, h5, h6, hn1, hm1, hn0, hm0, hw, t1, t2, t3⟩ := INV_go H
  have okT := tA_ok (B := B) t2
  have gT := okA_gA okT
  have N0 : 0 < NN B m n := wN_pos (fun j _ => cc_pos B m j)
  have N1 := NN_le (B := B) h5 h6
  refine e_116 x hl ?_
  rw [hn0]
  by_cases c0 : x = 0
  · rw [if_pos c0]
    by_cases z : n = 0
    · rw [if_pos (by rw [z]; rfl)]
      refine e_227 _ hl ?_
      rw [if_neg (by rw [c0]; decide), if_neg (by rw [c0]; decide), hn1, if_pos (by rw [z]; rfl)]
      exact ⟨rfl, J⟩
    rw [if_neg (by rw [q_e0 (by omega)]; exact z)]
    refine cf_145 (by omega) I.1 s I.2.1 (fun h1 f1 s1 C1 V1 => ?_)
    have I1 := IB_fr I (fr_sub f1 (by decide) (by decide))
    rw [if_pos c0, (svc_N V1 N0).2.2.2.1]
    refine e_227 _ I1.1.1.1 ?_
    rw [if_neg (by rw [c0]; decide), if_neg (by rw [c0]; decide), I1.2.1.2.2.1, if_neg (by rw [q_e0 (by omega)]; exact z)]
    refine cr_223 (by omega) I1 (fun h2 f2 I2 r2 ⟨⟨a1, a2⟩, ⟨a3, a4⟩, a5, a6, a7⟩ => ?_)
    have E := INV_end R hv (scr_fr f1 (by decide)) s1 f2 (by decide) I2
    rw [if_pos c0, a4 N0]
    exact ⟨rfl, E⟩
  by_cases c1 : x = 1
  · rw [if_neg c0, if_pos c1]
    by_cases z : n = 0
    · rw [if_pos (by rw [z]; rfl)]
      refine e_227 _ hl ?_
      rw [if_neg (by rw [c1]; decide), if_neg (by rw [c1]; decide), hn1, if_pos (by rw [z]; rfl)]
      exact ⟨rfl, J⟩
    rw [if_neg (by rw [q_e0 (by omega)]; exact z)]
    refine cf_145 (by omega) I.1 s I.2.1 (fun h1 f1 s1 C1 V1 => ?_)
    have I1 := IB_fr I (fr_sub f1 (by decide) (by decide))
    rw [if_neg c0, (svc_N V1 N0).2.2.2.2]
    refine e_227 _ I1.1.1.1 ?_
    rw [if_neg (by rw [c1]; decide), if_neg (by rw [c1]; decide), I1.2.1.2.2.1, if_neg (by rw [q_e0 (by omega)]; exact z)]
    refine cr_223 (by omega) I1 (fun h2 f2 I2 r2 ⟨⟨a1, a2⟩, ⟨a3, a4⟩, a5, a6, a7⟩ => ?_)
    have E := INV_end R hv (scr_fr f1 (by decide)) s1 f2 (by decide) I2
    rw [if_neg c0, a3]
    exact ⟨rfl, E⟩
  rw [if_neg c0, if_neg c1]
  refine e_227 _ hl ?_
  by_cases e1 : x < 0
  · rw [if_pos e1]
    exact ⟨rfl, J⟩
  rw [if_neg e1, if_pos (x01 c0 c1 e1)]
  exact ⟨rfl, J⟩
theorem op_119 {D nc : Nat} {h : lm_H} (hD : 170 ≤ D) (hn : nc ≤ 10000) (H : INV xl nc h) (x : Int32) : lm_call D 119 [.ref 0, .int x] h (lm_kI fun r h1 => lm_call D 230 [.ref 92, .int x] h1 (lm_kI fun r2 h2 => r = r2 ∧ INV xl (nc + 1) h2)) := by
  obtain ⟨d, rfl⟩ := q_dp hD
  have J := INV_mono H
  obtain ⟨v, n, m, cu, lo, W, B, T, R, s, hv, I, hl, h5, h6, hn1, hm1, hn0, hm0, hw, t1, t2, t3⟩ := INV_go H
  have okT := tA_ok (B := B) t2
  have gT := okA_gA okT
  have N0 : 0 < NN B m n := wN_pos (fun j _ => cc_pos B m j)
  have N1 := NN_le (B := B) h5 h6
  have ql := q_cn_le (fun j => !vU n m cu lo W B j) (NN B m n)
  refine e_119 x hl ?_
  have ref : ∀ (r : Int32) (h1 : lm_H), (x = 0 ∨ x = 1) → fr [18, 19, 20, 21, 22, 23, 24, 25, 31, 32, 33, 34, 35, 36, 38, 39, 40, 42, 43, 44, 45, 46, 47, 48] [] h h1 → sI h1 → r = (if q_cn (fun j => !vU n m cu lo W B j) (NN B m n) = 0 then -1000000 else if x = 0 then (sB (vS n m cu lo W B) (vU n m cu lo W B) (NN B m n)).1 else (sB (vS n m cu lo W B) (vU n m cu lo W B) (NN B m n)).2) → lm_call (d + 170) 230 [.ref 92, .int x] h1 (lm_kI fun r2 h2 => r = r2 ∧ INV xl (nc + 1) h2) := by
    intro r h1 hx f1 s1 hr
    have I1 := IB_fr I (fr_sub f1 (by decide) (by decide))
    refine e_230 _ I1.1.1.1 ?_
    rw [if_neg (by rcases hx with rfl | rfl <;> decide), if_neg (by rcases hx with rfl | rfl <;> decide)]
    refine cr_223 (by omega) I1 (fun h2 f2 I2 r2 ⟨_, _, a5, a6, a7⟩ => ?_)
    have E := INV_end R hv (scr_fr f1 (by decide)) s1 f2 (by decide) I2
    have a5 : lm_i h2 92 35 = Int32.ofNat (q_cn (fun j => !vU n m cu lo W B j) (NN B m n)) := a5
    rw [a5]
    by_cases z : q_cn (fun j => !vU n m cu lo W B j) (NN B m n) = 0
    · rw [if_pos z] at hr
      rw [if_pos (by rw [z]; rfl)]
      exact ⟨hr, E⟩
    · rw [if_neg z] at hr
      rw [if_neg (by rw [q_e0 (by omega)]; exact z)]
      have a6 := a6 (by show 0 < q_cn (fun j => !vU n m cu lo W B j) (NN B m n); omega)
      by_cases c : x = 0
      · rw [if_pos c] at hr ⊢
        rw [a6.1]
        exact ⟨hr, E⟩
      · rw [if_neg c] at hr ⊢
        rw [a6.2]
        exact ⟨hr, E⟩
  have cls : ∀ (h1 : lm_H), (x = 0 ∨ x = 1) → fr [18, 19, 20, 21, 22, 23, 24, 25, 31, 32, 33, 34, 35, 36, 38, 39, 40, 42, 43, 44, 45, 46, 47, 48] [] h h1 → sI h1 → svc n m cu lo W B h1 → (if (lm_i h1 31 12) = 0 then lm_call (d + 170) 230 [.ref 92, .int x] h1 (lm_kI fun r2 h2 => -1000000 = r2 ∧ INV xl (nc + 1) h2) else (if x = 0 then lm_call (d + 170) 230 [.ref 92, .int x] h1 (lm_kI fun r2 h2 => lm_i h1 31 13 = r2 ∧ INV xl (nc + 1) h2) else lm_call (d + 170) 230 [.ref 92, .int x] h1 (lm_kI fun r2 h2 => lm_i h1 31 14 = r2 ∧ INV xl (nc + 1) h2))) := by
    intro h1 hx f1 s1 V1
    obtain ⟨_, _, _, k1, k2, k3⟩ := V1
    rw [k1]
    by_cases z : q_cn (fun j => !vU n m cu lo W B j) (NN B m n) = 0
    · rw [if_pos (by rw [z]; rfl)]
      exact ref _ h1 hx f1 s1 (by rw [if_pos z])
    · rw [if_neg (by rw [q_e0 (by omega)]; exact z)]
      have k2 := k2 (by omega)
      by_cases c : x = 0
      · rw [if_pos c]
        exact ref _ h1 hx f1 s1 (by rw [if_neg z, if_pos c]; exact k2.1)
      · rw [if_neg c]
        exact ref _ h1 hx f1 s1 (by rw [if_neg z, if_neg c]; exact k2.2)
  by_cases c0 : x = 0
  · rw [if_pos c0]
    exact cf_145 (by omega) I.1 s I.2.1 (fun h1 f1 s1 C1 V1 => cls h1 (Or.inl c0) f1 s1 V1)
  by_cases c1 : x = 1
  · rw [if_neg c0, if_pos c1]
    exact cf_145 (by omega) I.1 s I.2.1 (fun h1 f1 s1 C1 V1 => cls h1 (Or.inr c1) f1 s1 V1)
  rw [if_neg c0, if_neg c1]
  refine e_230 _ hl ?_
  by_cases e1 : x < 0
  · rw [if_pos e1]
    exact ⟨rfl, J⟩
  rw [if_neg e1, if_pos (x01 c0 c1 e1)]
  exact ⟨rfl, J⟩
theorem op_117 {D nc : Nat} {h : lm_H} (hD : 170 ≤ D) (hn : nc ≤ 10000) (H : INV xl nc h) : lm_call D 117 [.ref 0] h (lm_kI fun r h1 => lm_call D 228 [.ref 92] h1 (lm_kI fun r2 h2 => r = r2 ∧ INV xl (nc + 1) h2)) := by
  obtain ⟨d, rfl⟩ := q_dp hD
  have J := INV_mono H
  obtain ⟨v, n, m, cu, lo, W, B, T, R, s, hv, I, hl, h5, h6, hn1, hm1, hn0, hm0, hw, t1, t2, t3⟩ := INV_go H
  have okT := tA_ok (B := B) t2
  have gT := okA_gA okT
  refine e_117 hl ?_
  refine cf_145 (by omega) I.1 s I.2.1 (fun h1 f1 s1 C1 V1 => ?_)
  obtain ⟨_, _, _, k1, k2, k3⟩ := V1
  have I1 := IB_fr I (fr_sub f1 (by decide) (by decide))
  rw [k1]
  refine e_228 I1.1.1.1 ?_
  refine cr_223 (by omega) I1 (fun h2 f2 I2 r2 ⟨_, _, a5, a6, a7⟩ => ?_)
  rw [a5]
  exact ⟨rfl, INV_end R hv (scr_fr f1 (by decide)) s1 f2 (by decide) I2⟩
theorem op_115 {D nc : Nat} {h : lm_H} (hD : 170 ≤ D) (hn : nc ≤ 10000) (H : INV xl nc h) (x : Int32) : lm_call D 115 [.ref 0, .int x] h (lm_kI fun r h1 => lm_call D 226 [.ref 92, .int x] h1 (lm_kI fun r2 h2 => r = r2 ∧ INV xl (nc + 1) h2)) := by
  obtain ⟨d, rfl⟩ := q_dp hD
  have J := INV_mono H
  obtain ⟨v, n, m, cu, lo, W, B, T, R, s, hv, I, hl, h5, h6, hn1, hm1, hn0, hm0, hw, t1, t2, t3⟩ := INV_go H
  have okT := tA_ok (B := B) t2
  have gT := okA_gA okT
  have N0 : 0 < NN B m n := wN_pos (fun j _ => cc_pos B m j)
  have N1 := NN_le (B := B) h5 h6
  have one : ∀ (i k : Nat) (h1 : lm_H), i ≤ 16807 → k < n → ct h1 32 n m cu lo W B → svc n m cu lo W B h1 → ∀ (K : Int32 → lm_H → Prop), K (if aI B m n i k = 6 then -1 else Int32.ofNat (aI B m n i k)) h1 → lm_call (d + 169) 56 [.ref 31, .int (Int32.ofNat k), .int (Int32.ofNat i)] h1 (lm_kI fun r3 h2 => (if r3 = 6 then (K (-1) h2) else (K r3 h2))) := by
    intro i k h1 hi hk C1 V1 K hK
    refine cl_56 (by omega) C1 V1 hk hi ?_
    have g := okA_g (aI_ok (B := B) (m := m) (n := n) (i := i)) k hk
    by_cases c : aI B m n i k = 6
    · rw [if_pos c] at hK
      rw [if_pos (by rw [c]; rfl)]
      exact hK
    · rw [if_neg c] at hK
      rw [if_neg (by rw [q_e6 (by omega)]; exact c)]
      exact hK
  refine e_115 x hl ?_
  rw [hn0]
  by_cases c1 : x < 0
  · rw [if_pos c1]
    refine e_226 _ hl ?_
    rw [if_pos c1]
    exact ⟨rfl, J⟩
  rw [if_neg c1]
  obtain ⟨k, kk1, rfl⟩ := q_ex c1
  by_cases c2 : ¬ k < n
  · rw [if_neg (by rw [q_lt (by omega) (by omega)]; exact c2)]
    refine e_226 _ hl ?_
    rw [if_neg c1, hn1, if_pos (by rw [q_m1 (by omega) (by omega)]; exact c2)]
    exact ⟨rfl, J⟩
  have c2 := Decidable.not_not.1 c2
  rw [if_pos (by rw [q_lt (by omega) (by omega)]; exact c2)]
  refine cf_145 (by omega) I.1 s I.2.1 (fun h1 f1 s1 C1 V1 => ?_)
  have I1 := IB_fr I (fr_sub f1 (by decide) (by decide))
  have mb := (mS_le (vS n m cu lo W B) (NN B m n)).2 N0
  rw [(svc_N V1 N0).2.1]
  refine one _ k h1 (by omega) c2 C1 V1 _ ?_
  refine e_226 _ I1.1.1.1 ?_
  rw [if_neg c1, I1.2.1.2.2.1, if_neg (by rw [q_m1 (by omega) (by omega)]; exact fun q => q c2)]
  refine cr_223 (by omega) I1 (fun h2 f2 I2 r2 ⟨⟨a1, a2⟩, _, _⟩ => ?_)
  rw [(a2 N0).2]
  refine cl_224 (by omega) r2 c2 (fun h3 f3 => ?_)
  exact ⟨rfl, INV_end R hv (scr_fr f1 (by decide)) s1 (fr_trans (fr_sub (S' := [103, 104, 105, 106, 107, 108]) (T' := [19, 20, 21, 23, 24, 28, 30, 31, 32, 33, 34, 35, 36, 37, 39]) f2 (by decide) (by decide)) (fr_sub f3 (by decide) (by decide))) (by decide) (IB_fr I2 (fr_sub f3 (by decide) (by decide)))⟩
theorem op_118 {D nc : Nat} {h : lm_H} (hD : 170 ≤ D) (hn : nc ≤ 10000) (H : INV xl nc h) (x y : Int32) : lm_call D 118 [.ref 0, .int x, .int y] h (lm_kI fun r h1 => lm_call D 229 [.ref 92, .int x, .int y] h1 (lm_kI fun r2 h2 => r = r2 ∧ INV xl (nc + 1) h2)) := by
  obtain ⟨d, rfl⟩ := q_dp hD
  have J := INV_mono H
  obtain ⟨v, n, m, cu, lo, W, B, T, R, s, hv, I, hl, h5, h6, hn1, hm1, hn0, hm0, hw, t1, t2, t3⟩ := INV_go H
  have okT := tA_ok (B := B) t2
  have gT := okA_gA okT
  have N0 : 0 < NN B m n := wN_pos (fun j _ => cc_pos B m j)
  have N1 := NN_le (B := B) h5 h6
  have one : ∀ (i k : Nat) (h1 : lm_H), i ≤ 16807 → k < n → ct h1 32 n m cu lo W B → svc n m cu lo W B h1 → ∀ (K : Int32 → lm_H → Prop), K (if aI B m n i k = 6 then -1 else Int32.ofNat (aI B m n i k)) h1 → lm_call (d + 169) 56 [.ref 31, .int (Int32.ofNat k), .int (Int32.ofNat i)] h1 (lm_kI fun r3 h2 => (if r3 = 6 then (K (-1) h2) else (K r3 h2))) := by
    intro i k h1 hi hk C1 V1 K hK
    refine cl_56 (by omega) C1 V1 hk hi ?_
    have g := okA_g (aI_ok (B := B) (m := m) (n := n) (i := i)) k hk
    by_cases c : aI B m n i k = 6
    · rw [if_pos c] at hK
      rw [if_pos (by rw [c]; rfl)]
      exact hK
    · rw [if_neg c] at hK
      rw [if_neg (by rw [q_e6 (by omega)]; exact c)]
      exact hK
  have ql := q_cn_le (fun j => !vU n m cu lo W B j) (NN B m n)
  refine e_118 x y hl ?_
  rw [hn0]
  by_cases c1 : y < 0
  · rw [if_pos c1]
    refine e_229 _ _ hl ?_
    rw [if_pos c1]
    exact ⟨rfl, J⟩
  rw [if_neg c1]
  obtain ⟨k, kk1, rfl⟩ := q_ex c1
  by_cases c2 : ¬ k < n
  · rw [if_neg (by rw [q_lt (by omega) (by omega)]; exact c2)]
    refine e_229 _ _ hl ?_
    rw [if_neg c1, hn1, if_pos (by rw [q_m1 (by omega) (by omega)]; exact c2)]
    exact ⟨rfl, J⟩
  have c2 := Decidable.not_not.1 c2
  rw [if_pos (by rw [q_lt (by omega) (by omega)]; exact c2)]
  by_cases c3 : x < 0
  · rw [if_pos c3]
    refine e_229 _ _ hl ?_
    rw [if_neg c1, hn1, if_neg (by rw [q_m1 (by omega) (by omega)]; exact fun q => q c2)]
    refine cr_223 (by omega) I (fun h2 f2 I2 r2 _ => ?_)
    rw [if_pos c3]
    exact ⟨rfl, INV_end R hv (scr_rf _) s f2 (by decide) I2⟩
  rw [if_neg c3]
  obtain ⟨i, i1, rfl⟩ := q_ex c3
  refine cf_145 (by omega) I.1 s I.2.1 (fun h1 f1 s1 C1 V1 => ?_)
  have I1 := IB_fr I (fr_sub f1 (by decide) (by decide))
  have k3 := V1.2.2.2.2.2
  have N2 : NN B m n ≤ 16832 := by omega
  refine cl_275 (by omega) C1.1 k3 i1 (fun j j0 j2 j3 => ?_) (fun c4 => ?_)
  · have j2 : j < NN B m n ∧ vU n m cu lo W B j = false := by
      rw [Bool.and_eq_true, decide_eq_true_eq] at j2
      refine ⟨j2.1, ?_⟩
      cases hU : vU n m cu lo W B j with
      | false => rfl
      | true => rw [hU] at j2; exact absurd j2.2 (by decide)
    obtain ⟨j1, j2⟩ := j2
    rw [q_cn_c (Q := fun j => !vU n m cu lo W B j) (fun a ha => by
      have : a < NN B m n := by omega
      simp [this])] at j3
    have c4 : i < q_cn (fun j => !vU n m cu lo W B j) (NN B m n) := by
      rw [← j3]
      exact q_cn_lt (P := fun j => !vU n m cu lo W B j) j1 (by simp [j2])
    rw [if_neg (ne_m1 (by omega))]
    refine one _ k h1 (by omega) c2 C1 V1 _ ?_
    refine e_229 _ _ I1.1.1.1 ?_
    rw [if_neg c1, I1.2.1.2.2.1, if_neg (by rw [q_m1 (by omega) (by omega)]; exact fun q => q c2)]
    refine cr_223 (by omega) I1 (fun h2 f2 I2 r2 ⟨_, _, a5, a6, a7⟩ => ?_)
    have a5 : lm_i h2 92 35 = Int32.ofNat (q_cn (fun j => !vU n m cu lo W B j) (NN B m n)) := a5
    have e108 := a7 j j1 j2
    rw [j3] at e108
    rw [if_neg c3, a5, if_neg (by rw [lt_m1b (by omega) (by omega)]; exact fun q => q c4), q_in (by omega) (by decide), q_nat (by omega), e108]
    refine cl_224 (by omega) r2 c2 (fun h3 f3 => ?_)
    exact ⟨rfl, INV_end R hv (scr_fr f1 (by decide)) s1 (fr_trans (fr_sub (S' := [103, 104, 105, 106, 107, 108]) (T' := [19, 20, 21, 23, 24, 28, 30, 31, 32, 33, 34, 35, 36, 37, 39]) f2 (by decide) (by decide)) (fr_sub f3 (by decide) (by decide))) (by decide) (IB_fr I2 (fr_sub f3 (by decide) (by decide)))⟩
  · rw [cn_cut N2] at c4
    rw [if_pos rfl]
    refine e_229 _ _ I1.1.1.1 ?_
    rw [if_neg c1, I1.2.1.2.2.1, if_neg (by rw [q_m1 (by omega) (by omega)]; exact fun q => q c2)]
    refine cr_223 (by omega) I1 (fun h2 f2 I2 r2 ⟨_, _, a5, a6, a7⟩ => ?_)
    have a5 : lm_i h2 92 35 = Int32.ofNat (q_cn (fun j => !vU n m cu lo W B j) (NN B m n)) := a5
    rw [if_neg c3, a5, if_pos (by rw [lt_m1b (by omega) (by omega)]; exact c4)]
    exact ⟨rfl, INV_end R hv (scr_fr f1 (by decide)) s1 f2 (by decide) I2⟩
end Xl98gsurvey
