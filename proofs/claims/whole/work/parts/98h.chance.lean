/-! Calls that look at chances: mean, restless, alike, alikeOf. -/
section Xl98hchance
variable {xl : (Nat → Int32) × Nat}
theorem dice_ex {h : lm_H} {n m : Nat} {cu lo : Int32} {W B : Nat → Int32} (H : INVs h) (Q : tb h n m cu lo W B) : ∃ e : Nat → Nat, (∀ k, k < 5 → ∀ g, g < 6 → e (6 * k + g) ≤ 10 ∧ lm_i h 6 (6 * k + g) = Int32.ofNat (e (6 * k + g)) ∧ lm_i h 94 (41 + 6 * k + g) = Int32.ofNat (e (6 * k + g))) ∧ ∀ x, x < 5 → tS (tD B e) x m ≤ 10 ∧ eS e x m ≤ 10 := by
  obtain ⟨⟨hl, ht, hw, _⟩, _⟩ := H
  have h6 := Q.2.1
  have key : ∀ j, j < 30 → ∃ t, t ≤ 10 ∧ lm_i h 94 (41 + j) = Int32.ofNat t := by
    intro j hj
    have a := hw.1.2.2.2.2.2.2.2.2.2.1 j hj
    obtain ⟨t, _, t2, t3⟩ := p_ix a.1
    have b := a.2
    simp only [p_le, Int32.reduceToInt] at b
    exact ⟨t, by omega, t2⟩
  have at1 : ∀ j, j < 30 → (lm_i h 94 (41 + j)).toNatClampNeg ≤ 10 ∧ lm_i h 94 (41 + j) = Int32.ofNat (lm_i h 94 (41 + j)).toNatClampNeg ∧ (lm_i h 94 (41 + j)).toInt = (lm_i h 94 (41 + j)).toNatClampNeg := by
    intro j hj
    obtain ⟨t, t1, t2⟩ := key j hj
    rw [t2, q_nat (by omega)]
    exact ⟨t1, rfl, p_onI (by omega)⟩
  refine ⟨fun j => (lm_i h 94 (41 + j)).toNatClampNeg, fun k hk g hg => ?_, fun x hx => ?_⟩
  · obtain ⟨a1, a2, a3⟩ := at1 (6 * k + g) (by omega)
    refine ⟨a1, ?_, by rw [Nat.add_assoc]; exact a2⟩
    rw [← a2]
    exact ht.2.2.2.2.2.1 (6 * k + g) (by omega)
  · have d3 := hw.2.2.2 x hx
    rw [(at1 (6 * x + 0) (by omega)).2.2, (at1 (6 * x + 1) (by omega)).2.2, (at1 (6 * x + 2) (by omega)).2.2, (at1 (6 * x + 3) (by omega)).2.2, (at1 (6 * x + 4) (by omega)).2.2, (at1 (6 * x + 5) (by omega)).2.2] at d3
    have s6 : eS (fun j => (lm_i h 94 (41 + j)).toNatClampNeg) x 6 ≤ 10 := by
      simp only [eS]
      omega
    have mo : ∀ d g, g + d = 6 → eS (fun j => (lm_i h 94 (41 + j)).toNatClampNeg) x g ≤ 10 := by
      intro d
      induction d with
      | zero =>
        intro g hg
        have : g = 6 := by omega
        subst this
        exact s6
      | succ d ih =>
        intro g hg
        have := ih (g + 1) (by omega)
        rw [eS] at this
        omega
    have le : ∀ g, tS (tD B (fun j => (lm_i h 94 (41 + j)).toNatClampNeg)) x g ≤ eS (fun j => (lm_i h 94 (41 + j)).toNatClampNeg) x g := by
      intro g
      induction g with
      | zero => exact Nat.le_refl 0
      | succ g ih =>
        rw [tS, eS]
        have : tD B (fun j => (lm_i h 94 (41 + j)).toNatClampNeg) x g ≤ (lm_i h 94 (41 + (6 * x + g))).toNatClampNeg := by
          unfold tD
          split
          · exact Nat.le_refl _
          · exact Nat.zero_le _
        exact Nat.add_le_add ih this
    have m1 := mo (6 - m) m (by omega)
    have m2 := le m
    exact ⟨by omega, m1⟩
theorem cr_243 {D v n m : Nat} {h : lm_H} {K : lm_H → Prop} {cu lo : Int32} {W B : Nat → Int32} {e : Nat → Nat} (hD : 166 ≤ D) (I : IB v n m cu lo W B h) (he : ∀ k, k < 5 → ∀ g, g < 6 → e (6 * k + g) ≤ 10 ∧ lm_i h 94 (41 + 6 * k + g) = Int32.ofNat (e (6 * k + g))) (hK : ∀ h', fr [103, 104, 105, 106, 111] [19, 20, 21, 23, 24, 28] h h' → IB v n m cu lo W B h' → rt h' n m cu lo W B → rtn h' n m (tD B e) → K h') : lm_call D 243 [.ref 92] h (lm_kV K) := by
  obtain ⟨d, rfl⟩ := q_dp hD
  refine e_243 I.1.1.1 ?_
  refine cr_208 (by omega) I (fun h1 f1 I1 r1 => ?_)
  refine lp_243 (e := e) (by omega) r1 (fun k hk g hg => ?_) (fun h2 f2 t2 => hK h2 (fr_trans (fr_sub f1 (by decide) (by decide)) (fr_sub f2 (by decide) (by decide))) (IB_fr I1 (fr_sub f2 (by decide) (by decide))) (rt_fr f2 r1 (by decide)) t2)
  rw [fr_i f1 (by decide) (by decide)]
  have a5 := r1.2.1
  have a6 := r1.2.2.1
  exact he k (by omega) g (by omega)
theorem op_126 {D nc : Nat} {h : lm_H} (hD : 170 ≤ D) (hn : nc ≤ 10000) (H : INV xl nc h) (x : Int32) : lm_call D 126 [.ref 0, .int x] h (lm_kL fun r h1 => lm_call D 245 [.ref 92, .int x] h1 (lm_kL fun r2 h2 => r = r2 ∧ INV xl (nc + 1) h2)) := by
  obtain ⟨d, rfl⟩ := q_dp hD
  have J := INV_mono H
  obtain ⟨v, n, m, cu, lo, W, B, T, R, s, hv, I, hl, h5, h6, hn1, hm1, hn0, hm0, hw, t1, t2, t3⟩ := INV_go H
  have okT := tA_ok (B := B) t2
  have gT := okA_gA okT
  obtain ⟨e, e1, e2⟩ := dice_ex I.1 I.2.1
  have ts : ∀ x, x < n → tS (tD B e) x m ≤ 10 := fun x hx => (e2 x (by omega)).1
  have go : ∀ (D2 : Nat) (K : lm_H → Prop), 6 ≤ D2 → (∀ h', fr [18, 19, 20, 21, 22, 23, 24, 25, 53] [] h h' → ct h' 21 n m cu lo W B → ctn h' n m (tD B e) → K h') → lm_call D2 143 [.ref 0] h (lm_kV fun h1 => lm_call D2 1 [.ref 52, .ref 21, .ref 1] h1 (lm_kV K)) := by
    intro D2 K hD2 hK
    refine cf_143 hD2 I.1 I.2.1 (fun h1 f1 C1 => ?_)
    refine cl_1 (e := e) (by omega) C1 (fun k hk g hg => ?_) (fun h2 f2 t2 => hK h2 (fr_trans (fr_sub f1 (by decide) (by decide)) (fr_sub f2 (by decide) (by decide))) (ct_fr f2 C1 (by decide)) t2)
    rw [fr_i f1 (by decide) (by decide)]
    exact ⟨(e1 k (by omega) g (by omega)).1, (e1 k (by omega) g (by omega)).2.1⟩
  have he : ∀ {S : List Nat} {h1 : lm_H}, fr S [] h h1 → S.contains 94 = false → ∀ k, k < 5 → ∀ g, g < 6 → e (6 * k + g) ≤ 10 ∧ lm_i h1 94 (41 + 6 * k + g) = Int32.ofNat (e (6 * k + g)) := by
    intro S h1 a hS k hk g hg
    rw [fr_i a hS (by decide)]
    exact ⟨(e1 k hk g hg).1, (e1 k hk g hg).2.2⟩
  refine e_126 x hl ?_
  rw [hn0]
  by_cases c0 : x = -1
  · rw [if_pos c0]
    refine go _ _ (by omega) (fun h2 f0 C2 T2 => ?_)
    rw [if_pos c0]
    refine lp_126 (by omega) C2 (by rw [fr_i f0 (by decide) (by decide)]; exact hn0) hw T2 (fun h3 f3 => ?_)
    have f1 : fr [18, 19, 20, 21, 22, 23, 24, 25, 53, 54] [] h h3 := fr_trans (fr_sub f0 (by decide) (by decide)) (fr_sub f3 (by decide) (by decide))
    have I1 := IB_fr I (fr_sub f1 (by decide) (by decide))
    refine e_245 _ I1.1.1.1 ?_
    rw [if_pos c0]
    refine cr_243 (by omega) I1 (he f1 (by decide)) (fun h4 f4 I4 r4 t4 => ?_)
    rw [if_pos c0]
    refine cl_244 (by omega) r4 hw t4 ts (fun h5 f5 => ?_)
    exact ⟨rfl, INV_end R hv (scr_fr f1 (by decide)) (sI_fr s f1 I1.1.1.1 (by decide)) (fr_trans (fr_sub (S' := [103, 104, 105, 106, 111, 112]) (T' := [19, 20, 21, 23, 24, 28]) f4 (by decide) (by decide)) (fr_sub f5 (by decide) (by decide))) (by decide) (IB_fr I4 (fr_sub f5 (by decide) (by decide)))⟩
  rw [if_neg c0]
  by_cases c1 : x < 0
  · rw [if_pos c1]
    refine e_245 _ hl ?_
    rw [if_neg c0, if_pos c1]
    exact ⟨rfl, J⟩
  rw [if_neg c1]
  obtain ⟨k, kk1, rfl⟩ := q_ex c1
  by_cases c2 : ¬ k < n
  · rw [if_neg (by rw [q_lt (by omega) (by omega)]; exact c2)]
    refine e_245 _ hl ?_
    rw [if_neg c0, if_neg c1, hn1, if_pos (by rw [q_m1 (by omega) (by omega)]; exact c2)]
    exact ⟨rfl, J⟩
  have c2 := Decidable.not_not.1 c2
  rw [if_pos (by rw [q_lt (by omega) (by omega)]; exact c2)]
  refine go _ _ (by omega) (fun h2 f0 C2 T2 => ?_)
  rw [if_neg c0]
  refine cl_5 (by omega) C2 hw T2 c2 (fun h3 f3 => ?_)
  have f1 : fr [18, 19, 20, 21, 22, 23, 24, 25, 53, 54] [] h h3 := fr_trans (fr_sub f0 (by decide) (by decide)) (fr_sub f3 (by decide) (by decide))
  have I1 := IB_fr I (fr_sub f1 (by decide) (by decide))
  refine e_245 _ I1.1.1.1 ?_
  rw [if_neg c0, if_neg c1, I1.2.1.2.2.1, if_neg (by rw [q_m1 (by omega) (by omega)]; exact fun q => q c2)]
  refine cr_243 (by omega) I1 (he f1 (by decide)) (fun h4 f4 I4 r4 t4 => ?_)
  rw [if_neg c0]
  refine cl_242 (by omega) r4 hw t4 c2 (ts k c2) (fun h5 f5 => ?_)
  exact ⟨rfl, INV_end R hv (scr_fr f1 (by decide)) (sI_fr s f1 I1.1.1.1 (by decide)) (fr_trans (fr_sub (S' := [103, 104, 105, 106, 111, 112]) (T' := [19, 20, 21, 23, 24, 28]) f4 (by decide) (by decide)) (fr_sub f5 (by decide) (by decide))) (by decide) (IB_fr I4 (fr_sub f5 (by decide) (by decide)))⟩
theorem op_127 {D nc : Nat} {h : lm_H} (hD : 170 ≤ D) (hn : nc ≤ 10000) (H : INV xl nc h) : lm_call D 127 [.ref 0] h (lm_kI fun r h1 => lm_call D 246 [.ref 92] h1 (lm_kI fun r2 h2 => r = r2 ∧ INV xl (nc + 1) h2)) := by
  obtain ⟨d, rfl⟩ := q_dp hD
  have J := INV_mono H
  obtain ⟨v, n, m, cu, lo, W, B, T, R, s, hv, I, hl, h5, h6, hn1, hm1, hn0, hm0, hw, t1, t2, t3⟩ := INV_go H
  have okT := tA_ok (B := B) t2
  have gT := okA_gA okT
  obtain ⟨e, e1, e2⟩ := dice_ex I.1 I.2.1
  have ts : ∀ x, x < n → tS (tD B e) x m ≤ 10 := fun x hx => (e2 x (by omega)).1
  have go : ∀ (D2 : Nat) (K : lm_H → Prop), 6 ≤ D2 → (∀ h', fr [18, 19, 20, 21, 22, 23, 24, 25, 53] [] h h' → ct h' 21 n m cu lo W B → ctn h' n m (tD B e) → K h') → lm_call D2 143 [.ref 0] h (lm_kV fun h1 => lm_call D2 1 [.ref 52, .ref 21, .ref 1] h1 (lm_kV K)) := by
    intro D2 K hD2 hK
    refine cf_143 hD2 I.1 I.2.1 (fun h1 f1 C1 => ?_)
    refine cl_1 (e := e) (by omega) C1 (fun k hk g hg => ?_) (fun h2 f2 t2 => hK h2 (fr_trans (fr_sub f1 (by decide) (by decide)) (fr_sub f2 (by decide) (by decide))) (ct_fr f2 C1 (by decide)) t2)
    rw [fr_i f1 (by decide) (by decide)]
    exact ⟨(e1 k (by omega) g (by omega)).1, (e1 k (by omega) g (by omega)).2.1⟩
  have he : ∀ {S : List Nat} {h1 : lm_H}, fr S [] h h1 → S.contains 94 = false → ∀ k, k < 5 → ∀ g, g < 6 → e (6 * k + g) ≤ 10 ∧ lm_i h1 94 (41 + 6 * k + g) = Int32.ofNat (e (6 * k + g)) := by
    intro S h1 a hS k hk g hg
    rw [fr_i a hS (by decide)]
    exact ⟨(e1 k hk g hg).1, (e1 k hk g hg).2.2⟩
  refine e_127 hl ?_
  refine go _ _ (by omega) (fun h2 f0 C2 T2 => ?_)
  refine lp_127 (by omega) C2 (by rw [fr_i f0 (by decide) (by decide)]; exact hn0) hw T2 (fun r h3 f3 q1 => ?_)
  have f1 : fr [18, 19, 20, 21, 22, 23, 24, 25, 53, 54] [] h h3 := fr_trans (fr_sub f0 (by decide) (by decide)) (fr_sub f3 (by decide) (by decide))
  have I1 := IB_fr I (fr_sub f1 (by decide) (by decide))
  refine e_246 I1.1.1.1 ?_
  refine cr_243 (by omega) I1 (he f1 (by decide)) (fun h4 f4 I4 r4 t4 => ?_)
  refine lp_246 (by omega) r4 hw t4 ts (fun r2 h5 f5 q2 => ?_)
  exact ⟨rF_one q1 q2, INV_end R hv (scr_fr f1 (by decide)) (sI_fr s f1 I1.1.1.1 (by decide)) (fr_trans (fr_sub (S' := [103, 104, 105, 106, 111, 112]) (T' := [19, 20, 21, 23, 24, 28]) f4 (by decide) (by decide)) (fr_sub f5 (by decide) (by decide))) (by decide) (IB_fr I4 (fr_sub f5 (by decide) (by decide)))⟩
theorem op_128 {D nc : Nat} {h : lm_H} (hD : 170 ≤ D) (hn : nc ≤ 10000) (H : INV xl nc h) (x : Int32) : lm_call D 128 [.ref 0, .int x] h (lm_kL fun r h1 => lm_call D 250 [.ref 92, .int x] h1 (lm_kL fun r2 h2 => r = r2 ∧ INV xl (nc + 1) h2)) := by
  obtain ⟨d, rfl⟩ := q_dp hD
  have J := INV_mono H
  obtain ⟨v, n, m, cu, lo, W, B, T, R, s, hv, I, hl, h5, h6, hn1, hm1, hn0, hm0, hw, t1, t2, t3⟩ := INV_go H
  have okT := tA_ok (B := B) t2
  have gT := okA_gA okT
  have go : ∀ (D2 : Nat) (K : lm_H → Prop), 6 ≤ D2 → (∀ h', fr [18, 19, 20, 21, 22, 23, 24, 25, 53, 54, 55, 56, 57] [] h h' → ct h' 21 n m cu lo W B → wA7 h' n m cu lo W B 0 → K h') → lm_call D2 143 [.ref 0] h (lm_kV fun h1 => lm_call D2 7 [.ref 52, .ref 21] h1 (lm_kV K)) := by
    intro D2 K hD2 hK
    refine cf_143 hD2 I.1 I.2.1 (fun h1 f1 C1 => ?_)
    exact cl_7 (by omega) C1 hw (fun h2 f2 t2 => hK h2 (fr_trans (fr_sub f1 (by decide) (by decide)) (fr_sub f2 (by decide) (by decide))) (ct_fr f2 C1 (by decide)) t2)
  refine e_128 x hl ?_
  by_cases c0 : x = 0
  · rw [if_pos c0]
    refine go _ _ (by omega) (fun h1 f1 C1 A1 => ?_)
    have I1 := IB_fr I (fr_sub f1 (by decide) (by decide))
    rw [if_pos c0]
    refine e_11 C1.1 ?_
    refine cl_2 (by omega) C1 ?_
    have b := (A1.2 0 (Nat.le_refl 0) (by omega) 10 (Nat.le_refl 10)).1
    rw [Nat.zero_mul, Nat.zero_add, Nat.sub_zero] at b
    rw [b, C1.2.2.2.1, l_nat (by omega), l_mul, l_add]
    refine e_250 _ C1.1 ?_
    rw [if_neg (by rw [c0]; decide), if_neg (by rw [c0]; decide)]
    refine cr_249 (by omega) I1 (fun h2 f2 I2 a2 => ?_)
    rw [if_pos c0, a2.1]
    exact ⟨by rw [Int.add_comm], INV_end R hv (scr_fr f1 (by decide)) (sI_fr s f1 C1.1 (by decide)) f2 (by decide) I2⟩
  rw [if_neg c0]
  by_cases c1 : x = 1
  · rw [if_pos c1]
    refine go _ _ (by omega) (fun h1 f1 C1 A1 => ?_)
    have I1 := IB_fr I (fr_sub f1 (by decide) (by decide))
    rw [if_neg c0]
    refine e_12 C1.1 ?_
    have b := (A1.2 0 (Nat.le_refl 0) (by omega) 10 (Nat.le_refl 10)).2
    rw [Nat.zero_mul, Nat.zero_add, Nat.sub_zero] at b
    rw [b]
    refine e_250 _ C1.1 ?_
    rw [if_neg (by rw [c1]; decide), if_neg (by rw [c1]; decide)]
    refine cr_249 (by omega) I1 (fun h2 f2 I2 a2 => ?_)
    rw [if_neg c0, a2.2.1]
    exact ⟨rfl, INV_end R hv (scr_fr f1 (by decide)) (sI_fr s f1 C1.1 (by decide)) f2 (by decide) I2⟩
  rw [if_neg c1]
  refine e_250 _ hl ?_
  by_cases e1 : x < 0
  · rw [if_pos e1]
    exact ⟨rfl, J⟩
  rw [if_neg e1, if_pos (x01 c0 c1 e1)]
  exact ⟨rfl, J⟩
theorem op_129 {D nc : Nat} {h : lm_H} (hD : 170 ≤ D) (hn : nc ≤ 10000) (H : INV xl nc h) (x : Int32) : lm_call D 129 [.ref 0, .int x] h (lm_kI fun r h1 => lm_call D 251 [.ref 92, .int x] h1 (lm_kI fun r2 h2 => r = r2 ∧ INV xl (nc + 1) h2)) := by
  obtain ⟨d, rfl⟩ := q_dp hD
  have J := INV_mono H
  obtain ⟨v, n, m, cu, lo, W, B, T, R, s, hv, I, hl, h5, h6, hn1, hm1, hn0, hm0, hw, t1, t2, t3⟩ := INV_go H
  have okT := tA_ok (B := B) t2
  have gT := okA_gA okT
  have go : ∀ (D2 : Nat) (K : lm_H → Prop), 6 ≤ D2 → (∀ h', fr [18, 19, 20, 21, 22, 23, 24, 25, 53, 54, 55, 56, 57] [] h h' → ct h' 21 n m cu lo W B → wA7 h' n m cu lo W B 0 → K h') → lm_call D2 143 [.ref 0] h (lm_kV fun h1 => lm_call D2 7 [.ref 52, .ref 21] h1 (lm_kV K)) := by
    intro D2 K hD2 hK
    refine cf_143 hD2 I.1 I.2.1 (fun h1 f1 C1 => ?_)
    exact cl_7 (by omega) C1 hw (fun h2 f2 t2 => hK h2 (fr_trans (fr_sub f1 (by decide) (by decide)) (fr_sub f2 (by decide) (by decide))) (ct_fr f2 C1 (by decide)) t2)
  refine e_129 x hl ?_
  rw [hm0]
  by_cases c1 : x < 0
  · rw [if_pos c1]
    refine e_251 _ hl ?_
    rw [if_pos c1]
    exact ⟨rfl, J⟩
  rw [if_neg c1]
  obtain ⟨g, g1, rfl⟩ := q_ex c1
  by_cases c2 : ¬ g < m
  · rw [if_neg (by rw [q_lt (by omega) (by omega)]; exact c2)]
    refine e_251 _ hl ?_
    rw [if_neg c1, hm1, if_pos (by rw [q_m1 (by omega) (by omega)]; exact c2)]
    exact ⟨rfl, J⟩
  have c2 := Decidable.not_not.1 c2
  rw [if_pos (by rw [q_lt (by omega) (by omega)]; exact c2)]
  refine go _ _ (by omega) (fun h1 f1 C1 A1 => ?_)
  have I1 := IB_fr I (fr_sub f1 (by decide) (by decide))
  refine cl_13 (by omega) C1 hw A1 c2 (fun _ => ?_)
  refine e_251 _ C1.1 ?_
  rw [if_neg c1, I1.2.1.2.2.2.1, if_neg (by rw [q_m1 (by omega) (by omega)]; exact fun q => q c2)]
  refine cr_249 (by omega) I1 (fun h2 f2 I2 a2 => ?_)
  rw [q_in (by omega) (by decide), q_nat (by omega), a2.2.2 g c2]
  exact ⟨rfl, INV_end R hv (scr_fr f1 (by decide)) (sI_fr s f1 C1.1 (by decide)) f2 (by decide) I2⟩
end Xl98hchance
