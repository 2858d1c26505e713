/-! Calls that look at what was told: of, asked, goes, gain, answers, rounds, turned, breaks, breaker. -/
section Xl98etold
variable {xl : (Nat → Int32) × Nat}
theorem told_ex {h : lm_H} {n m : Nat} {cu lo : Int32} {W B : Nat → Int32} (H : INVs h) (Q : tb h n m cu lo W B) : ∃ T, tk h n T ∧ gA n m T ∧ ca h 5 n T := by
  obtain ⟨⟨hl, ht, hw, _⟩, _⟩ := H
  obtain ⟨h5, h6, hn, hm, _⟩ := Q
  have e81 : (lm_i h 94 81).toInt = n := by rw [hn, p_onI (by omega)]
  have e82 : (lm_i h 94 82).toInt = m := by rw [hm, p_onI (by omega)]
  have key : ∀ k, k < n → (lm_i h 94 (71 + k) = -1 ∧ lm_i h 5 k = 6) ∨ ∃ t, t < m ∧ lm_i h 94 (71 + k) = Int32.ofNat t ∧ lm_i h 5 k = Int32.ofNat t := by
    intro k hk
    have q := ht.2.2.2.2.1 k (by omega)
    by_cases c : lm_i h 94 (71 + k) = -1
    · rw [if_neg (fun z => z.2 c)] at q
      exact Or.inl ⟨c, q⟩
    · rw [if_pos ⟨by omega, c⟩] at q
      have a1 := (hw.1.2.2.2.2.2.2.2.2.2.2.1 k (by omega)).1
      have a2 := hw.2.1 k (by omega) (by omega)
      have a3 : 0 ≤ lm_i h 94 (71 + k) := by
        simp only [p_le, p_eq, Int32.reduceToInt] at a1 c ⊢
        omega
      obtain ⟨t, _, t2, t3⟩ := p_ix a3
      rw [p_lt] at a2
      exact Or.inr ⟨t, by omega, t2, by rw [← t2]; exact q⟩
  refine ⟨fun k => if lm_i h 94 (71 + k) = -1 then 6 else (lm_i h 94 (71 + k)).toNatClampNeg, fun k hk => ?_, fun k hk => ?_, fun k hk => ?_⟩
  · rcases key k hk with ⟨a, b⟩ | ⟨t, t1, a, b⟩
    · simp only [if_pos a]
      rw [if_pos trivial]
      exact a
    · have nm : ¬ lm_i h 94 (71 + k) = -1 := by rw [a]; exact ne_m1 (by omega)
      simp only [if_neg nm]
      rw [a, q_nat (by omega), if_neg (by omega)]
  · rcases key k hk with ⟨a, b⟩ | ⟨t, t1, a, b⟩
    · simp only [if_pos a]
      exact Or.inr trivial
    · have nm : ¬ lm_i h 94 (71 + k) = -1 := by rw [a]; exact ne_m1 (by omega)
      simp only [if_neg nm]
      rw [a, q_nat (by omega)]
      exact Or.inl t1
  · rcases key k hk with ⟨a, b⟩ | ⟨t, t1, a, b⟩
    · simp only [if_pos a]
      exact b
    · have nm : ¬ lm_i h 94 (71 + k) = -1 := by rw [a]; exact ne_m1 (by omega)
      simp only [if_neg nm]
      rw [a, q_nat (by omega)]
      exact b
theorem okA_gA {n m : Nat} {B : Nat → Int32} {A : Nat → Nat} (h : okA n m B A) : gA n m A := fun j hj => (h j hj).imp (fun z => z.1) id
theorem cf_143 {D n m : Nat} {h : lm_H} {K : lm_H → Prop} {cu lo : Int32} {W B : Nat → Int32} (hD : 6 ≤ D) (H : INVs h) (T : tb h n m cu lo W B) (hK : ∀ h', fr [18, 19, 20, 21, 22, 23, 24, 25] [] h h' → ct h' 21 n m cu lo W B → K h') : lm_call D 143 [.ref 0] h (lm_kV K) := by
  obtain ⟨d, rfl⟩ := q_dp hD
  exact e_143 H.1.1 (cf_62 (by omega) H T hK)
theorem cf_144 {D n m : Nat} {h : lm_H} {K : lm_H → Prop} {cu lo : Int32} {W B : Nat → Int32} {T : Nat → Nat} (hD : 6 ≤ D) (H : INVs h) (Q : tb h n m cu lo W B) (hT : gA n m T) (hc : ca h 5 n T) (hK : ∀ h', fr [18, 19, 20, 21, 22, 23, 24, 25, 73] [] h h' → ct h' 21 n m cu lo W B → ca h' 73 n (tA B T) → K h') : lm_call D 144 [.ref 0] h (lm_kV K) := by
  obtain ⟨d, rfl⟩ := q_dp hD
  refine e_144 H.1.1 (cf_62 (by omega) H Q (fun h1 f1 c1 => ?_))
  refine lp_144 (by omega) c1 ?_ ?_ hT (fun h2 f2 c2 a2 => hK h2 (fr_trans (fr_sub f1 (by decide) (by decide)) (fr_sub f2 (by decide) (by decide))) c2 a2)
  · rw [fr_i f1 (by decide) (by decide), H.1.2.1.1.1]
    exact Q.2.2.1
  · unfold ca at hc ⊢
    rw [fr_i f1 (by decide) (by decide)]
    exact hc
theorem cr_told {D v n m : Nat} {h : lm_H} {K : lm_H → Prop} {cu lo : Int32} {W B : Nat → Int32} {T : Nat → Nat} (hD : 162 ≤ D) (I : IB v n m cu lo W B h) (ht : tk h n T) (hT : gA n m T) (hK : ∀ h', fr [103, 104, 105, 106, 107] [19, 20, 21, 23, 24, 28] h h' → IB v n m cu lo W B h' → rt h' n m cu lo W B → ra h' n m (tA B T) → K h') : lm_call D 208 [.ref 92] h (lm_kV fun h1 => lm_call D 212 [.ref 92] h1 (lm_kV K)) := by
  refine cr_208 hD I (fun h1 f1 I1 r1 => ?_)
  refine cl_212 (by omega) r1 ?_ hT (fun h2 f2 r2 a2 => hK h2 (fr_trans (fr_sub f1 (by decide) (by decide)) (fr_sub f2 (by decide) (by decide))) (IB_fr I1 (fr_sub f2 (by decide) (by decide))) r2 a2)
  unfold tk at ht ⊢
  rw [fr_i f1 (by decide) (by decide)]
  exact ht
/-- what a table call has to start with -/
theorem INV_go {nc : Nat} {h : lm_H} (H : INV xl nc h) : ∃ v n m cu lo W B T, RM xl nc h ∧ sI h ∧ v ≤ nc ∧ IB v n m cu lo W B h ∧ lm_Lay h ∧ n ≤ 5 ∧ m ≤ 6 ∧ lm_i h 94 81 = Int32.ofNat n ∧ lm_i h 94 82 = Int32.ofNat m ∧ lm_i h 1 0 = Int32.ofNat n ∧ lm_i h 1 1 = Int32.ofNat m ∧ wd n m cu lo W ∧ tk h n T ∧ gA n m T ∧ ca h 5 n T := by
  obtain ⟨R, s, v, n, m, cu, lo, W, B, hv, I⟩ := H
  obtain ⟨T, t1, t2, t3⟩ := told_ex I.1 I.2.1
  have Q := I.2.1
  obtain ⟨h5, h6, hn, hm, _, _, _, hw, _⟩ := Q
  exact ⟨v, n, m, cu, lo, W, B, T, R, s, hv, I, I.1.1.1, h5, h6, hn, hm, by rw [I.1.1.2.1.1.1]; exact hn, by rw [I.1.1.2.1.1.2.1]; exact hm, hw, t1, t2, t3⟩
theorem tk_fr {S T : List Nat} {h h' : lm_H} {n : Nat} {X : Nat → Nat} (H : tk h n X) (a : fr S T h h') (hS : S.contains 94 = false) : tk h' n X := by
  unfold tk at H ⊢
  rw [fr_i a hS (by decide)]
  exact H
theorem op_101 {D nc : Nat} {h : lm_H} (hD : 170 ≤ D) (hn : nc ≤ 10000) (H : INV xl nc h) (x y z : Int32) : lm_call D 101 [.ref 0, .int x, .int y, .int z] h (lm_kI fun r h1 => lm_call D 209 [.ref 92, .int x, .int y, .int z] h1 (lm_kI fun r2 h2 => r = r2 ∧ INV xl (nc + 1) h2)) := by
  obtain ⟨d, rfl⟩ := q_dp hD
  have J := INV_mono H
  obtain ⟨v, n, m, cu, lo, W, B, T, R, s, hv, I, hl, h5, h6, hn1, hm1, hn0, hm0, hw, t1, t2, t3⟩ := INV_go H
  have okT := tA_ok (B := B) t2
  have gT := okA_gA okT
  refine e_101 x y z hl ?_
  rw [hn0, hm0]
  by_cases c1 : x < 0
  · rw [if_pos c1]
    refine e_209 _ _ _ hl ?_
    rw [if_pos c1]
    exact ⟨rfl, J⟩
  rw [if_neg c1]
  obtain ⟨k, k1, rfl⟩ := q_ex c1
  by_cases c2 : ¬ k < n
  · rw [if_neg (by rw [q_lt (by omega) (by omega)]; exact c2)]
    refine e_209 _ _ _ hl ?_
    rw [if_neg c1, hn1, if_pos (by rw [q_m1 (by omega) (by omega)]; exact c2)]
    exact ⟨rfl, J⟩
  have c2 := Decidable.not_not.1 c2
  rw [if_pos (by rw [q_lt (by omega) (by omega)]; exact c2)]
  by_cases c3 : y < 0
  · rw [if_pos c3]
    refine e_209 _ _ _ hl ?_
    rw [if_neg c1, hn1, if_neg (by rw [q_m1 (by omega) (by omega)]; exact fun q => q c2), if_pos c3]
    exact ⟨rfl, J⟩
  rw [if_neg c3]
  obtain ⟨g, g1, rfl⟩ := q_ex c3
  by_cases c4 : ¬ g < m
  · rw [if_neg (by rw [q_lt (by omega) (by omega)]; exact c4)]
    refine e_209 _ _ _ hl ?_
    rw [if_neg c1, hn1, if_neg (by rw [q_m1 (by omega) (by omega)]; exact fun q => q c2), if_neg c3, hm1, if_pos (by rw [q_m1 (by omega) (by omega)]; exact c4)]
    exact ⟨rfl, J⟩
  have c4 := Decidable.not_not.1 c4
  rw [if_pos (by rw [q_lt (by omega) (by omega)]; exact c4)]
  have z01 : ¬ (0 : Int32) < 0 ∧ ¬ (1 : Int32) < 0 ∧ ¬ (2 : Int32) < 1 ∧ ¬ (1 : Int32) = 0 ∧ ¬ (2 : Int32) = 0 ∧ ¬ (2 : Int32) = 1 ∧ ¬ (2 : Int32) < 0 ∧ ¬ (2 : Int32) < 2 ∧ ¬ (2 : Int32) < 1 := by decide
  by_cases d0 : z = 0
  · subst d0
    rw [if_pos rfl, q_m6, q_add, q_in (by omega) (by decide), q_nat (by omega)]
    refine e_209 _ _ _ hl ?_
    rw [if_neg c1, hn1, if_neg (by rw [q_m1 (by omega) (by omega)]; exact fun q => q c2), if_neg c3, hm1, if_neg (by rw [q_m1 (by omega) (by omega)]; exact fun q => q c4), if_neg (by decide), if_neg (by decide)]
    refine cr_208 (by omega) I (fun h2 f2 I2 r2 => ?_)
    rw [if_pos rfl, q_6m, q_add, q_11, q_in (by omega) (by decide), q_nat (by omega), show 11 + (6 * k + g) = 11 + (k * 6 + g) from by omega, fr_i f2 (c := 94) (by decide) (by decide)]
    exact ⟨I.1.1.2.1.2.2.2.1 (k * 6 + g) (by omega), INV_end R hv (scr_rf _) s f2 (by decide) I2⟩
  rw [if_neg d0]
  by_cases d1 : z = 1
  · subst d1
    rw [if_pos rfl]
    refine cf_143 (by omega) I.1 I.2.1 (fun h1 f1 C1 => ?_)
    rw [q_m7, q_add, q_in (by omega) (by decide), q_nat (by omega), (C1.2.2.2.2.2.2.2.1 k c2 g c4).1]
    have I1 := IB_fr I (fr_sub f1 (by decide) (by decide))
    refine e_209 _ _ _ I1.1.1.1 ?_
    rw [if_neg c1, I1.2.1.2.2.1, if_neg (by rw [q_m1 (by omega) (by omega)]; exact fun q => q c2), if_neg c3, I1.2.1.2.2.2.1, if_neg (by rw [q_m1 (by omega) (by omega)]; exact fun q => q c4), if_neg (by decide), if_neg (by decide)]
    refine cr_208 (by omega) I1 (fun h2 f2 I2 r2 => ?_)
    rw [if_neg (by decide), if_pos rfl, q_6m, q_add, q_in (by omega) (by decide), q_nat (by omega), (r2.2.2.2.2.2.2.2 k c2 g c4).1]
    exact ⟨rfl, INV_end R hv (scr_fr f1 (by decide)) (sI_fr s f1 I1.1.1.1 (by decide)) f2 (by decide) I2⟩
  rw [if_neg d1]
  by_cases d2 : z = 2
  · subst d2
    rw [if_pos rfl]
    refine cf_143 (by omega) I.1 I.2.1 (fun h1 f1 C1 => ?_)
    rw [q_m7, q_add, q_in (by omega) (by decide), q_nat (by omega), (C1.2.2.2.2.2.2.2.1 k c2 g c4).2]
    have I1 := IB_fr I (fr_sub f1 (by decide) (by decide))
    have fin : ∀ r : Int32, r = (if B (6 * k + g) = 0 then 0 else 1) → lm_call (d + 170) 209 [.ref 92, .int (Int32.ofNat k), .int (Int32.ofNat g), .int 2] h1 (lm_kI fun r2 h2 => r = r2 ∧ INV xl (nc + 1) h2) := by
      intro r hr
      refine e_209 _ _ _ I1.1.1.1 ?_
      rw [if_neg c1, I1.2.1.2.2.1, if_neg (by rw [q_m1 (by omega) (by omega)]; exact fun q => q c2), if_neg c3, I1.2.1.2.2.2.1, if_neg (by rw [q_m1 (by omega) (by omega)]; exact fun q => q c4), if_neg (by decide), if_neg (by decide)]
      refine cr_208 (by omega) I1 (fun h2 f2 I2 r2 => ?_)
      rw [if_neg (by decide), if_neg (by decide), q_6m, q_add, q_in (by omega) (by decide), q_nat (by omega), (r2.2.2.2.2.2.2.2 k c2 g c4).2]
      have E := INV_end R hv (scr_fr f1 (by decide)) (sI_fr s f1 I1.1.1.1 (by decide)) f2 (by decide) I2
      by_cases b : B (6 * k + g) = 0
      · rw [if_pos b]
        rw [if_pos b] at hr
        exact ⟨hr, E⟩
      · rw [if_neg b]
        rw [if_neg b] at hr
        exact ⟨hr, E⟩
    by_cases b : B (6 * k + g) = 0
    · rw [if_pos b]
      exact fin _ (by rw [if_pos b])
    · rw [if_neg b]
      exact fin _ (by rw [if_neg b])
  rw [if_neg d2]
  refine e_209 _ _ _ hl ?_
  rw [if_neg c1, hn1, if_neg (by rw [q_m1 (by omega) (by omega)]; exact fun q => q c2), if_neg c3, hm1, if_neg (by rw [q_m1 (by omega) (by omega)]; exact fun q => q c4)]
  by_cases e1 : z < 0
  · rw [if_pos e1]
    exact ⟨rfl, J⟩
  have e2 : 2 < z := by
    simp only [p_lt, p_eq, Int32.reduceToInt] at d0 d1 d2 e1 ⊢
    omega
  rw [if_neg e1, if_pos e2]
  exact ⟨rfl, J⟩
theorem op_111 {D nc : Nat} {h : lm_H} (hD : 170 ≤ D) (hn : nc ≤ 10000) (H : INV xl nc h) (x : Int32) : lm_call D 111 [.ref 0, .int x] h (lm_kI fun r h1 => lm_call D 216 [.ref 92, .int x] h1 (lm_kI fun r2 h2 => r = r2 ∧ INV xl (nc + 1) h2)) := by
  obtain ⟨d, rfl⟩ := q_dp hD
  have J := INV_mono H
  obtain ⟨v, n, m, cu, lo, W, B, T, R, s, hv, I, hl, h5, h6, hn1, hm1, hn0, hm0, hw, t1, t2, t3⟩ := INV_go H
  have okT := tA_ok (B := B) t2
  have gT := okA_gA okT
  refine e_111 x hl ?_
  rw [hm0]
  by_cases c1 : x < 0
  · rw [if_pos c1]
    refine e_216 _ hl ?_
    rw [if_pos c1]
    exact ⟨rfl, J⟩
  rw [if_neg c1]
  obtain ⟨g, g1, rfl⟩ := q_ex c1
  by_cases c2 : ¬ g < m
  · rw [if_neg (by rw [q_lt (by omega) (by omega)]; exact c2)]
    refine e_216 _ hl ?_
    rw [if_neg c1, hm1, if_pos (by rw [q_m1 (by omega) (by omega)]; exact c2)]
    exact ⟨rfl, J⟩
  have c2 := Decidable.not_not.1 c2
  rw [if_pos (by rw [q_lt (by omega) (by omega)]; exact c2)]
  refine cf_144 (by omega) I.1 I.2.1 t2 t3 (fun h1 f1 C1 a1 => ?_)
  refine cm_67 (by omega) C1.1 C1.2.2.2.1 h5 a1 (fun j hj => by have := gT j hj; omega) (by omega) ?_
  refine cl_262 (by omega) C1.1 _ ?_
  rw [q_bc_mk _ h5]
  have I1 := IB_fr I (fr_sub f1 (by decide) (by decide))
  refine e_216 _ C1.1 ?_
  rw [if_neg c1, I1.2.1.2.2.2.1, if_neg (by rw [q_m1 (by omega) (by omega)]; exact fun q => q c2)]
  refine cr_told (by omega) I1 (tk_fr t1 f1 (by decide)) t2 (fun h2 f2 I2 r2 a2 => ?_)
  refine cm_213 (by omega) r2 a2 gT c2 ?_
  exact ⟨rfl, INV_end R hv (scr_fr f1 (by decide)) (sI_fr s f1 C1.1 (by decide)) f2 (by decide) I2⟩
theorem op_113 {D nc : Nat} {h : lm_H} (hD : 170 ≤ D) (hn : nc ≤ 10000) (H : INV xl nc h) (x : Int32) : lm_call D 113 [.ref 0, .int x] h (lm_kI fun r h1 => lm_call D 218 [.ref 92, .int x] h1 (lm_kI fun r2 h2 => r = r2 ∧ INV xl (nc + 1) h2)) := by
  obtain ⟨d, rfl⟩ := q_dp hD
  have J := INV_mono H
  obtain ⟨v, n, m, cu, lo, W, B, T, R, s, hv, I, hl, h5, h6, hn1, hm1, hn0, hm0, hw, t1, t2, t3⟩ := INV_go H
  have okT := tA_ok (B := B) t2
  have gT := okA_gA okT
  refine e_113 x hl ?_
  rw [hn0]
  by_cases c0 : x = -1
  · rw [if_pos c0]
    refine cf_144 (by omega) I.1 I.2.1 t2 t3 (fun h1 f1 C1 a1 => ?_)
    rw [if_pos c0]
    have I1 := IB_fr I (fr_sub f1 (by decide) (by decide))
    refine cm_113 (by omega) C1 (by rw [fr_i f1 (by decide) (by decide)]; exact hn0) a1 gT ?_ n 0 (by omega)
    refine e_218 _ C1.1 ?_
    rw [if_pos c0]
    refine cr_told (by omega) I1 (tk_fr t1 f1 (by decide)) t2 (fun h2 f2 I2 r2 a2 => ?_)
    rw [if_pos c0]
    refine cm_215 (by omega) r2 a2 gT hw.1 ?_
    exact ⟨rfl, INV_end R hv (scr_fr f1 (by decide)) (sI_fr s f1 C1.1 (by decide)) f2 (by decide) I2⟩
  rw [if_neg c0]
  by_cases c1 : x < 0
  · rw [if_pos c1]
    refine e_218 _ hl ?_
    rw [if_neg c0, if_pos c1]
    exact ⟨rfl, J⟩
  rw [if_neg c1]
  obtain ⟨k, k1, rfl⟩ := q_ex c1
  by_cases c2 : ¬ k < n
  · rw [if_neg (by rw [q_lt (by omega) (by omega)]; exact c2)]
    refine e_218 _ hl ?_
    rw [if_neg c0, if_neg c1, hn1, if_pos (by rw [q_m1 (by omega) (by omega)]; exact c2)]
    exact ⟨rfl, J⟩
  have c2 := Decidable.not_not.1 c2
  rw [if_pos (by rw [q_lt (by omega) (by omega)]; exact c2)]
  refine cf_144 (by omega) I.1 I.2.1 t2 t3 (fun h1 f1 C1 a1 => ?_)
  have I1 := IB_fr I (fr_sub f1 (by decide) (by decide))
  rw [if_neg c0, q_in (by omega) (by decide), q_nat (by omega), a1 k c2]
  refine cm_71 (by omega) C1 a1 gT c2 (gT k c2) ?_
  refine e_218 _ C1.1 ?_
  rw [if_neg c0, if_neg c1, I1.2.1.2.2.1, if_neg (by rw [q_m1 (by omega) (by omega)]; exact fun q => q c2)]
  refine cr_told (by omega) I1 (tk_fr t1 f1 (by decide)) t2 (fun h2 f2 I2 r2 a2 => ?_)
  rw [if_neg c0]
  refine cm_214 (by omega) r2 a2 gT hw.1 c2 ?_
  exact ⟨rfl, INV_end R hv (scr_fr f1 (by decide)) (sI_fr s f1 C1.1 (by decide)) f2 (by decide) I2⟩
theorem a233_all : ∀ b0 b1 b2 b3 b4 b5 b6 : Bool, ∀ m, m < 7 → (if ((q_mk (q_pb b0 b1 b2 b3 b4 b5 b6) (m + 1) >>> (Int32.ofNat m &&& 31)) &&& 1) = 1 then ((q_mk (q_pb b0 b1 b2 b3 b4 b5 b6) (m + 1) &&& (((1 : Int32) <<< (Int32.ofNat m &&& 31)) ^^^ (-1))) ||| 64) else ((q_mk (q_pb b0 b1 b2 b3 b4 b5 b6) (m + 1) &&& (((1 : Int32) <<< (Int32.ofNat m &&& 31)) ^^^ (-1))) ||| 0)) = if q_pb b0 b1 b2 b3 b4 b5 b6 m then q_mk (q_pb b0 b1 b2 b3 b4 b5 b6) m ||| ((1 : Int32) <<< ((6 : Int32) &&& 31)) else q_mk (q_pb b0 b1 b2 b3 b4 b5 b6) m := by decide +kernel
theorem a233 (P : Nat → Bool) {m : Nat} (hm : m ≤ 6) : (if ((q_mk P (m + 1) >>> (Int32.ofNat m &&& 31)) &&& 1) = 1 then ((q_mk P (m + 1) &&& (((1 : Int32) <<< (Int32.ofNat m &&& 31)) ^^^ (-1))) ||| 64) else ((q_mk P (m + 1) &&& (((1 : Int32) <<< (Int32.ofNat m &&& 31)) ^^^ (-1))) ||| 0)) = aX m P := by
  have h1 := a233_all (P 0) (P 1) (P 2) (P 3) (P 4) (P 5) (P 6) m (by omega)
  rw [← q_mk_c (n := m + 1) (fun j hj => q_pb_eq P (j := j) (by omega)), ← q_mk_c (n := m) (fun j hj => q_pb_eq P (j := j) (by omega)), ← q_pb_eq P (j := m) (by omega)] at h1
  exact h1
theorem op_120 {D nc : Nat} {h : lm_H} (hD : 170 ≤ D) (hn : nc ≤ 10000) (H : INV xl nc h) (x : Int32) : lm_call D 120 [.ref 0, .int x] h (lm_kI fun r h1 => lm_call D 233 [.ref 92, .int x] h1 (lm_kI fun r2 h2 => r = r2 ∧ INV xl (nc + 1) h2)) := by
  obtain ⟨d, rfl⟩ := q_dp hD
  have J := INV_mono H
  obtain ⟨v, n, m, cu, lo, W, B, T, R, s, hv, I, hl, h5, h6, hn1, hm1, hn0, hm0, hw, t1, t2, t3⟩ := INV_go H
  have okT := tA_ok (B := B) t2
  have gT := okA_gA okT
  refine e_120 x hl ?_
  rw [hn0]
  by_cases c1 : x < 0
  · rw [if_pos c1]
    refine e_233 _ hl ?_
    rw [if_pos c1]
    exact ⟨rfl, J⟩
  rw [if_neg c1]
  obtain ⟨k, k1, rfl⟩ := q_ex c1
  by_cases c2 : ¬ k < n
  · rw [if_neg (by rw [q_lt (by omega) (by omega)]; exact c2)]
    refine e_233 _ hl ?_
    rw [if_neg c1, hn1, if_pos (by rw [q_m1 (by omega) (by omega)]; exact c2)]
    exact ⟨rfl, J⟩
  have c2 := Decidable.not_not.1 c2
  rw [if_pos (by rw [q_lt (by omega) (by omega)]; exact c2)]
  refine cf_144 (by omega) I.1 I.2.1 t2 t3 (fun h1 f1 C1 a1 => ?_)
  have I1 := IB_fr I (fr_sub f1 (by decide) (by decide))
  refine cl_72 (by omega) C1 hw a1 gT c2 ?_
  refine e_233 _ C1.1 ?_
  rw [if_neg c1, I1.2.1.2.2.1, if_neg (by rw [q_m1 (by omega) (by omega)]; exact fun q => q c2)]
  refine cr_told (by omega) I1 (tk_fr t1 f1 (by decide)) t2 (fun h2 f2 I2 r2 a2 => ?_)
  refine cl_231 (by omega) r2 a2 gT hw.1 c2 ?_
  rw [I2.2.1.2.2.2.1]
  have E := INV_end R hv (scr_fr f1 (by decide)) (sI_fr s f1 C1.1 (by decide)) f2 (by decide) I2
  have q := a233 (aP n m cu lo W B (tA B T) k) h6
  by_cases b : ((q_mk (aP n m cu lo W B (tA B T) k) (m + 1) >>> (Int32.ofNat m &&& 31)) &&& 1) = 1
  · rw [if_pos b]
    rw [if_pos b] at q
    exact ⟨q.symm, E⟩
  · rw [if_neg b]
    rw [if_neg b] at q
    exact ⟨q.symm, E⟩
end Xl98etold
