/-! The year: the reference writes an evening down. -/
theorem cl_255 {D n e k g : Nat} {h : lm_H} {K : Int32 → lm_H → Prop} {A : Nat → Nat} (hD : 2 ≤ D) (hl : lm_Lay h) (h5 : n ≤ 5) (hn : lm_i h 94 81 = Int32.ofNat n) (he : e < 40) (hk : k < 5) (hg : g < 6) (hA : ∀ j, j < n → A j ≤ 6 ∧ lm_i h 115 (5 * e + j) = nC (A j)) (hK : K (if uQ A n k g = 0 then 0 else 1) h) : lm_call D 255 [.ref 92, .int (Int32.ofNat (5 * e)), .int (Int32.ofNat k), .int (Int32.ofNat g)] h (lm_kI K) := by
  obtain ⟨d, rfl⟩ := q_dp hD
  refine e_255 _ _ _ hl ?_
  have lp : ∀ r j : Nat, r + j = n → q_cn (fun j => decide (A j = g) && !decide (j = k)) j = 0 → (lm_W (d + 1) 255 3 [some (.ref 92), some (.int (Int32.ofNat (5 * e))), some (.int (Int32.ofNat k)), some (.int (Int32.ofNat g)), some (.int (Int32.ofNat j))] [] h (lm_kI K)) := by
    intro r
    induction r with
    | zero =>
      intro j hj hc
      have ej : j = n := by omega
      rw [ej] at hc ⊢
      refine b_255_3 _ _ _ _ hl ?_
      rw [hn, if_neg (by rw [q_lt (by omega) (by omega)]; omega)]
      rw [if_pos (show uQ A n k g = 0 from hc)] at hK
      exact hK
    | succ r ih =>
      intro j hj hc
      have hi := ih (j + 1) (by omega)
      rw [q_cn, hc] at hi
      refine b_255_3 _ _ _ _ hl ?_
      rw [hn, if_pos (by rw [q_lt (by omega) (by omega)]; omega), q_a1]
      by_cases ck : j = k
      · rw [if_pos (by rw [ck])]
        exact hi (by simp [ck])
      · rw [if_neg (by rw [q_eq (by omega) (by omega)]; exact ck), q_add, q_in (by omega) (by omega), q_nat (by omega), (hA j (by omega)).2]
        by_cases cg : A j = g
        · rw [if_pos ((nC_eq (hA j (by omega)).1 hg).2 cg)]
          have : 0 < uQ A n k g := q_cn_pos (j := j) (by omega) (by simp [cg, ck])
          rw [if_neg (by omega)] at hK
          exact hK
        · rw [if_neg (fun q => cg ((nC_eq (hA j (by omega)).1 hg).1 q))]
          exact hi (by simp [cg])
  exact lp n 0 (by omega) rfl
def yv (h z : lm_H) (e x n m : Nat) (lo : Int32) (W : Nat → Int32) (C : Nat → Nat) : Prop :=
  (∀ j, j < x → lm_i z 117 (5 * e + j) = gV lo W C j) ∧ (∀ j, j < 5 * e → lm_i z 117 j = lm_i h 117 j) ∧
  (∀ j, j < n → ∀ g, g < m → lm_i z 106 (j * 6 + g) = lm_i h 106 (j * 6 + g) + (if j < x ∧ C j = g then 1 else 0))
theorem lp_254w {d n m e : Nat} {h : lm_H} {K : Int32 → lm_H → Prop} {cu lo : Int32} {W B : Nat → Int32} {A C : Nat → Nat} (hD : 2 ≤ d + 1) (H : rt h n m cu lo W B) (he : e < 40) (hA : ∀ j, j < n → A j ≤ 6 ∧ lm_i h 115 (5 * e + j) = nC (A j)) (hC : ∀ j, j < n → (C j < m ∨ C j = 6) ∧ lm_i h 116 (5 * e + j) = nC (C j))
    (hK : ∀ h', fr [106, 117, 118] [] h h' → yv h h' e n n m lo W C → us 118 h h' n m A n 0 → K (ln C n) h') : (lm_W (d + 1) 254 258 [some (.ref 92), none, some (.int (Int32.ofNat (5 * e))), some (.int 0), some (.int 0), none, none] [] h (lm_kI K)) := by
  have h5 := H.2.1
  have h6 := H.2.2.1
  have lp : ∀ r x : Nat, r + x = n → ∀ z, fr [106, 117, 118] [] h z → yv h z e x n m lo W C → us 118 h z n m A x 0 → (lm_W (d + 1) 254 258 [some (.ref 92), none, some (.int (Int32.ofNat (5 * e))), some (.int (ln C x)), some (.int (Int32.ofNat x)), none, none] [] z (lm_kI K)) := by
    intro r
    induction r with
    | zero =>
      intro x hx z hf y1 y2
      have ex : x = n := by omega
      rw [ex] at y1 y2 ⊢
      refine b_254_258 _ _ _ (fr_Lay hf H.1) ?_
      rw [fr_i hf (c := 94) (by decide) (by decide), H.2.2.2.1, if_neg (by rw [q_lt (by omega) (by omega)]; omega)]
      exact ⟨q_b1or _ (ln_01 C n), hK z hf y1 y2⟩
    | succ r ih =>
      intro x hx z hf y1 y2
      have lq : ∀ q y : Nat, q + y = m → ∀ z, fr [106, 117, 118] [] h z → yv h z e (x + 1) n m lo W C → us 118 h z n m A x y → (lm_W (d + 1) 254 361 [some (.ref 92), none, some (.int (Int32.ofNat (5 * e))), some (.int (ln C (x + 1))), some (.int (Int32.ofNat x)), none, some (.int (Int32.ofNat y))] [] z (lm_kI K)) := by
        intro q
        induction q with
        | zero =>
          intro y hy z hf y1 y2
          have ey : y = m := by omega
          rw [ey] at y2 ⊢
          refine b_254_361 _ _ _ _ (fr_Lay hf H.1) ?_
          rw [fr_i hf (c := 94) (by decide) (by decide), H.2.2.2.2.1, if_neg (by rw [q_lt (by omega) (by omega)]; omega), q_a1]
          exact ih (x + 1) (by omega) z hf y1 (us_nx y2)
        | succ q ihq =>
          intro y hy z hf y1 y2
          have hlz := fr_Lay hf H.1
          have z94 := fr_i hf (c := 94) (by decide) (by decide)
          have z115 := fr_i hf (c := 115) (by decide) (by decide)
          have yk : ∀ v, yv h (lm_si z 118 (x * 6 + y) v) e (x + 1) n m lo W C := by
            intro v
            unfold yv
            simp only [pi_si, Nat.reduceEqDiff, if_false]
            exact y1
          refine b_254_361 _ _ _ _ hlz ?_
          rw [z94, H.2.2.2.2.1, if_pos (by rw [q_lt (by omega) (by omega)]; omega), q_a1, q_6m, q_add, Nat.mul_comm 6 x, q_in (by omega) (by omega), q_nat (by omega)]
          refine cl_255 (A := A) hD hlz h5 (by rw [z94]; exact H.2.2.2.1) he (by omega) (by omega) (fun j hj => by rw [z115]; exact hA j hj) ?_
          by_cases cq : uQ A n x y = 0
          · rw [if_pos cq, if_pos rfl]
            exact p_inN (by omega) (by omega) (ihq (y + 1) (by omega) _ (fr_si hf (by decide) (by decide) _ _) (yk _) (us_one h6 (by omega) y2 _ (by rw [if_pos cq])))
          · rw [if_neg cq, if_neg (by decide)]
            exact p_inN (by omega) (by omega) (ihq (y + 1) (by omega) _ (fr_si hf (by decide) (by decide) _ _) (yk _) (us_one h6 (by omega) y2 _ (by rw [if_neg cq])))
      have hlz := fr_Lay hf H.1
      have hcx := hC x (by omega)
      have z94 := fr_i hf (c := 94) (by decide) (by decide)
      have z116 : lm_i z 116 (5 * e + x) = nC (C x) := by rw [fr_i hf (by decide) (by decide)]; exact hcx.2
      obtain ⟨w1, w2, w3⟩ := y1
      have ym : ∀ z1, (∀ j, lm_i z1 117 j = if j = 5 * e + x then gV lo W C x else lm_i z 117 j) → (∀ j, j < n → ∀ g, g < m → lm_i z1 106 (j * 6 + g) = lm_i z 106 (j * 6 + g) + (if j = x ∧ C x = g then 1 else 0)) → yv h z1 e (x + 1) n m lo W C := by
        intro z1 a1 a6
        refine ⟨fun j hj => ?_, fun j hj => ?_, fun j hj g hg => ?_⟩
        · rw [a1]
          by_cases ej : j = x
          · rw [if_pos (by omega), ej]
          · rw [if_neg (by omega)]
            exact w1 j (by omega)
        · rw [a1, if_neg (by omega)]
          exact w2 j hj
        · rw [a6 j hj g hg, w3 j hj g hg]
          by_cases ej : j = x
          · rw [ej]
            have h1 : ¬ (x < x ∧ C x = g) := fun q => by omega
            have h2 : (x < x + 1 ∧ C x = g) = (x = x ∧ C x = g) := propext ⟨fun q => ⟨rfl, q.2⟩, fun q => ⟨by omega, q.2⟩⟩
            simp only [h1, h2, if_false, Int32.add_zero]
          · have h1 : ¬ (j = x ∧ C x = g) := fun q => ej q.1
            have h2 : (j < x ∧ C j = g) = (j < x + 1 ∧ C j = g) := propext ⟨fun q => ⟨by omega, q.2⟩, fun q => ⟨by omega, q.2⟩⟩
            simp only [h1, h2, if_false, Int32.add_zero]
      have us0 : ∀ z1, lm_i z1 118 = lm_i z 118 → us 118 h z1 n m A x 0 := fun z1 q j hj g hg => by rw [q]; exact y2 j hj g hg
      refine b_254_258 _ _ _ hlz ?_
      rw [z94, H.2.2.2.1, if_pos (by rw [q_lt (by omega) (by omega)]; omega), q_add, q_nat (by omega), z116]
      refine p_inN (by omega) (by omega) ?_
      have hq := lq m 0 (by omega)
      by_cases c6 : C x = 6
      · have e1 : nC (C x) = -1 := (nC_m1 (by omega)).2 c6
        have e2 : 60 * lm_i h 94 84 = gV lo W C x := by rw [H.2.2.2.2.2.2.1, gV, if_pos c6]
        rw [ln_6 c6] at hq
        simp only [e1, if_true]
        rw [e2]
        refine p_inN (by omega) (by omega) ?_
        have fin := hq (lm_si z 117 (5 * e + x) (gV lo W C x)) (fr_si hf (by decide) (by decide) _ _) (ym _ (fun j => by rw [pi_si, if_pos rfl]) (fun j hj g hg => by rw [pi_si, if_neg (by decide), if_neg (by omega), Int32.add_zero])) (us0 _ (by funext j; rw [pi_si, if_neg (by decide)]))
        split
        · exact fin
        · exact fin
      · have e1 : ¬ nC (C x) = -1 := fun q => c6 ((nC_m1 (by omega)).1 q)
        have e3 : nC (C x) = Int32.ofNat (C x) := by rw [nC, if_neg c6]
        have hcl : C x < m := by omega
        have z104 : lm_i z 104 (6 * x + C x) = W (6 * x + C x) := by rw [fr_i hf (by decide) (by decide)]; exact (H.2.2.2.2.2.2.2 x (by omega) _ hcl).1
        have e2 : 60 * W (6 * x + C x) = gV lo W C x := by rw [gV, if_neg c6]
        rw [ln_n c6] at hq
        simp only [e1, if_false]
        rw [e3, q_6m, q_add, q_nat (by omega), z104, e2, Nat.mul_comm 6 x]
        refine p_inN (by omega) (by omega) (p_inN (by omega) (by omega) ?_)
        have fin := hq (lm_si (lm_si z 117 (5 * e + x) (gV lo W C x)) 106 (x * 6 + C x) (lm_i z 106 (x * 6 + C x) + 1)) (fr_si (fr_si hf (by decide) (by decide) _ _) (by decide) (by decide) _ _) (ym _ (fun j => by simp only [pi_si, Nat.reduceEqDiff, if_true, if_false]) (fun j hj g hg => by
          simp only [pi_si, Nat.reduceEqDiff, if_true, if_false]
          by_cases ej : j * 6 + g = x * 6 + C x
          · have e1 : j = x := by omega
            have e2 : C x = g := by omega
            rw [if_pos ej, if_pos ⟨e1, e2⟩, ej]
          · rw [if_neg ej, if_neg (fun q => ej (by rw [q.1, q.2])), Int32.add_zero])) (us0 _ (by funext j; simp only [pi_si, Nat.reduceEqDiff, if_false]))
        have c01 := ln_01 C x
        by_cases c0 : ln C x = 0
        · rw [if_pos c0]
          rw [c0] at fin
          exact p_inN (by omega) (by omega) (p_inN (by omega) (by omega) fin)
        · have c1 : ln C x = 1 := by
            rcases c01 with q | q
            · exact absurd q c0
            · exact q
          rw [if_neg c0]
          rw [c1] at fin
          exact p_inN (by omega) (by omega) (p_inN (by omega) (by omega) fin)
  exact lp n 0 (by omega) h (fr_refl _ _ _) ⟨fun j hj => by omega, fun j hj => rfl, fun j hj g hg => by rw [if_neg (by omega), Int32.add_zero]⟩ (fun j hj g hg => by rw [if_neg (by omega), Int32.add_zero])
