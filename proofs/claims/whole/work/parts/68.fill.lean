/-! The class's table filled (62, 63), over any judge. -/
/-- host k's row of the table at 21 is done -/
def trw (z : lm_H) (m : Nat) (lo : Int32) (W B : Nat → Int32) (k : Nat) : Prop :=
  (∀ g, g < m → lm_i z 22 (k * 7 + g) = W (6 * k + g) ∧ lm_i z 23 (k * 7 + g) = B (6 * k + g)) ∧ lm_i z 22 (k * 7 + 6) = lo ∧ lm_i z 23 (k * 7 + 6) = 0 ∧ lm_i z 25 k = Int32.ofNat (q_ci B k m + 1) ∧ lm_i z 24 (k * 7 + q_ci B k m) = 6 ∧
    ∀ g, g < m → B (6 * k + g) = 0 → lm_i z 24 (k * 7 + q_ci B k g) = Int32.ofNat g
theorem cl_63 {D m k : Nat} {h : lm_H} {K : lm_H → Prop} {B : Nat → Int32} (hD : 2 ≤ D) (hl : lm_Lay h) (h6 : m ≤ 6) (hk : k < 5) (hm : lm_i h 21 1 = Int32.ofNat m) (hB : ∀ g, g < m → lm_i h 23 (k * 7 + g) = B (6 * k + g))
    (hK : ∀ h', fr [24, 25] [] h h' → (∀ j, j < k * 7 → lm_i h' 24 j = lm_i h 24 j) → (∀ j, ¬ j = k → lm_i h' 25 j = lm_i h 25 j) → lm_i h' 25 k = Int32.ofNat (q_ci B k m + 1) → lm_i h' 24 (k * 7 + q_ci B k m) = 6 → (∀ g, g < m → B (6 * k + g) = 0 → lm_i h' 24 (k * 7 + q_ci B k g) = Int32.ofNat g) → K h') : lm_call D 63 [.ref 21, .int (Int32.ofNat k)] h (lm_kV K) := by
  obtain ⟨d, rfl⟩ := q_dp hD
  refine e_63 _ hl ?_
  have lp : ∀ r g : Nat, r + g = m → ∀ z, fr [24, 25] [] h z → (∀ j, j < k * 7 → lm_i z 24 j = lm_i h 24 j) → (∀ j, lm_i z 25 j = lm_i h 25 j) → (∀ i, i < g → B (6 * k + i) = 0 → lm_i z 24 (k * 7 + q_ci B k i) = Int32.ofNat i) → (lm_W (d + 1) 63 4 [some (.ref 21), some (.int (Int32.ofNat k)), some (.int (Int32.ofNat (q_ci B k g))), some (.int (Int32.ofNat g))] [] z (lm_kV K)) := by
    intro r
    induction r with
    | zero =>
      intro g hg z hf k1 k2 k3
      have e : g = m := by omega
      rw [e] at k3 ⊢
      have hci := q_ci_le B k m
      refine b_63_4 _ _ _ (fr_Lay hf hl) ?_
      rw [fr_i hf (by decide) (by decide), hm, if_neg (by rw [q_lt (by omega) (by omega)]; omega), q_m7, q_add, q_in (by omega) (by omega), q_in (by omega) (by omega), q_nat (by omega), q_nat (by omega), q_a1]
      refine hK _ (fr_si (fr_si hf (by decide) (by decide) _ _) (by decide) (by decide) _ _) (fun j hj => ?_) (fun j hj => ?_) ?_ ?_ (fun i hi hb => ?_)
      · rw [pi_si, if_neg (by decide), pi_si, if_pos rfl, if_neg (by omega)]
        exact k1 j hj
      · rw [pi_si, if_pos rfl, if_neg hj, pi_si, if_neg (by decide)]
        exact k2 j
      · rw [pi_si, if_pos rfl, if_pos rfl]
      · rw [pi_si, if_neg (by decide), pi_si, if_pos rfl, if_pos rfl]
      · have h3 := q_ci_mo B k (g := i + 1) (g2 := m) (by omega)
        rw [q_ci, if_pos hb] at h3
        rw [pi_si, if_neg (by decide), pi_si, if_pos rfl, if_neg (by omega)]
        exact k3 i hi hb
    | succ r ih =>
      intro g hg z hf k1 k2 k3
      have hci := q_ci_le B k g
      have hbz : lm_i z 23 (k * 7 + g) = B (6 * k + g) := by rw [fr_i hf (by decide) (by decide)]; exact hB g (by omega)
      have hi := ih (g + 1) (by omega)
      rw [q_ci] at hi
      refine b_63_4 _ _ _ (fr_Lay hf hl) ?_
      rw [fr_i hf (by decide) (by decide), hm, if_pos (by rw [q_lt (by omega) (by omega)]; omega), q_m7, q_add, q_add, q_in (by omega) (by omega), q_nat (by omega), q_nat (by omega), hbz, q_a1 g]
      by_cases c : B (6 * k + g) = 0
      · rw [if_pos c] at hi ⊢
        rw [q_a1]
        refine p_inN (by omega) (by omega) ?_
        refine hi _ (fr_si hf (by decide) (by decide) _ _) (fun j hj => ?_) (fun j => ?_) (fun i hi2 hb => ?_)
        · rw [pi_si, if_pos rfl, if_neg (by omega)]
          exact k1 j hj
        · rw [pi_si, if_neg (by decide)]
          exact k2 j
        · rw [pi_si, if_pos rfl]
          by_cases ei : i = g
          · rw [if_pos (by rw [ei]), ei]
          · have h3 := q_ci_mo B k (g := i + 1) (g2 := g) (by omega)
            rw [q_ci, if_pos hb] at h3
            rw [if_neg (by omega)]
            exact k3 i (by omega) hb
      · rw [if_neg c] at hi ⊢
        rw [Nat.add_zero] at hi
        refine hi z hf k1 k2 (fun i hi2 hb => ?_)
        by_cases ei : i = g
        · rw [ei] at hb; exact absurd hb c
        · exact k3 i (by omega) hb
  exact lp m 0 (by omega) h (fr_refl _ _ _) (fun _ _ => rfl) (fun _ => rfl) (fun i hi => by omega)
/-- the judge is set to k and g, and heard -/
theorem lp_62 {d n m : Nat} {h : lm_H} {K : lm_H → Prop} {cu lo e : Int32} {W B : Nat → Int32} {o : Option Nat} {J : Int32 → Int32 → Int32 → Int32 → Int32 → Int32 → Int32 → Int32 × Int32} (hD : 2 ≤ d + 1) (hl : lm_Lay h) (h5 : n ≤ 5) (h6 : m ≤ 6) (hn : lm_i h 21 0 = Int32.ofNat n) (hm : lm_i h 21 1 = Int32.ofNat m) (hcu : lm_i h 21 2 = cu) (hlo : lm_i h 21 3 = lo)
    (h0 : o = none → ∀ k, k < n → ∀ g, g < m → W (6 * k + g) = lm_i h 4 (k * 6 + g) ∧ B (6 * k + g) = 0)
    (h1 : ∀ p, o = some p → (∀ k, k < n → ∀ g, g < m → W (6 * k + g) = (J (Int32.ofNat k) (Int32.ofNat g) (lm_i h 4 (k * 6 + g)) (lm_i h 3 g) (lm_i h 2 k) (lm_i h 74 (k * 6 + g)) e).1 ∧ B (6 * k + g) = (J (Int32.ofNat k) (Int32.ofNat g) (lm_i h 4 (k * 6 + g)) (lm_i h 3 g) (lm_i h 2 k) (lm_i h 74 (k * 6 + g)) e).2 ∧ (B (6 * k + g) = 0 ∨ B (6 * k + g) = 1)) ∧
      ∀ (z : lm_H) (K2 : lm_H → Prop), fr [18, 19, 20, 22, 23, 24, 25] [] h z → (∀ z', fr [18, 20] [] z z' → lm_i z' 18 4 = (J (lm_i z 19 0) (lm_i z 19 1) (lm_i z 19 2) (lm_i z 19 3) (lm_i z 19 4) (lm_i z 19 5) (lm_i z 19 6)).1 → lm_i z' 18 5 = (J (lm_i z 19 0) (lm_i z 19 1) (lm_i z 19 2) (lm_i z 19 3) (lm_i z 19 4) (lm_i z 19 5) (lm_i z 19 6)).2 → K2 z') → lm_call (d + 1) 15 [.ref 18, .ref p] z (lm_kV K2))
    (hK : ∀ h', fr [18, 19, 20, 22, 23, 24, 25] [] h h' → ct h' 21 n m cu lo W B → K h') : (lm_W (d + 1) 62 58 [some (.ref 21), some (.ref 1), some (.ref 18), some (.ref 74), some (.int e), some (va_rf o), some (.int 0), none, none] [] h (lm_kV K)) := by
  have lp : ∀ r k : Nat, r + k = n → ∀ z, fr [18, 19, 20, 22, 23, 24, 25] [] h z → (∀ i, i < k → trw z m lo W B i) → (lm_W (d + 1) 62 58 [some (.ref 21), some (.ref 1), some (.ref 18), some (.ref 74), some (.int e), some (va_rf o), some (.int (Int32.ofNat k)), none, none] [] z (lm_kV K)) := by
    intro r
    induction r with
    | zero =>
      intro k hk z hf ht
      have ek : k = n := by omega
      rw [ek] at ht ⊢
      have hlz := fr_Lay hf hl
      have hT := fr_i hf (c := 21) (by decide) (by decide)
      refine b_62_58 _ _ _ hlz ?_
      rw [hT, hn, if_neg (by rw [q_lt (by omega) (by omega)]; omega)]
      refine hK z hf ⟨hlz, h5, h6, by rw [hT]; exact hn, by rw [hT]; exact hm, by rw [hT]; exact hcu, by rw [hT]; exact hlo, fun i hi => (ht i hi).1, fun i hi => (ht i hi).2⟩
    | succ r ih =>
      intro k hk z hf ht
      refine b_62_58 _ _ _ (fr_Lay hf hl) ?_
      rw [fr_i hf (by decide) (by decide), hn, if_pos (by rw [q_lt (by omega) (by omega)]; omega)]
      have lq : ∀ r g : Nat, r + g = m → ∀ z, fr [18, 19, 20, 22, 23, 24, 25] [] h z → (∀ i, i < k → trw z m lo W B i) → (∀ i, i < g → lm_i z 22 (k * 7 + i) = W (6 * k + i) ∧ lm_i z 23 (k * 7 + i) = B (6 * k + i)) → (lm_W (d + 1) 62 70 [some (.ref 21), some (.ref 1), some (.ref 18), some (.ref 74), some (.int e), some (va_rf o), some (.int (Int32.ofNat k)), some (.int (Int32.ofNat g)), none] [] z (lm_kV K)) := by
        intro r
        induction r with
        | zero =>
          intro g hg z hf ht hx
          have eg : g = m := by omega
          rw [eg] at hx ⊢
          have hT := fr_i hf (c := 21) (by decide) (by decide)
          refine b_62_70 _ _ _ _ (fr_Lay hf hl) ?_
          rw [hT, hm, hlo, if_neg (by rw [q_lt (by omega) (by omega)]; omega), q_m7, q_a6, q_in (by omega) (by omega), q_in (by omega) (by omega), q_nat (by omega)]
          have hf2 : fr [18, 19, 20, 22, 23, 24, 25] [] h (lm_si (lm_si z 22 (k * 7 + 6) lo) 23 (k * 7 + 6) 0) := fr_si (fr_si hf (by decide) (by decide) _ _) (by decide) (by decide) _ _
          refine cl_63 (B := B) hD (fr_Lay hf2 hl) h6 (by omega) (by rw [fr_i hf2 (by decide) (by decide)]; exact hm) (fun i hi => ?_) (fun z1 hf1 q1 q2 q3 q4 q5 => ?_)
          · rw [pi_si, if_pos rfl, if_neg (by omega), pi_si, if_neg (by decide)]
            exact (hx i hi).2
          · rw [q_a1]
            refine ih (k + 1) (by omega) z1 (fr_trans hf2 (fr_sub hf1 (by decide) (by decide))) (fun i hi => ?_)
            have w1 : ∀ j, lm_i z1 22 j = if j = k * 7 + 6 then lo else lm_i z 22 j := by
              intro j
              rw [fr_i hf1 (by decide) (by decide), pi_si, if_neg (by decide), pi_si, if_pos rfl]
            have w2 : ∀ j, lm_i z1 23 j = if j = k * 7 + 6 then 0 else lm_i z 23 j := by
              intro j
              rw [fr_i hf1 (by decide) (by decide)]
              simp only [pi_si, Nat.reduceEqDiff, if_true, if_false]
            unfold trw
            by_cases ei : i = k
            · rw [ei]
              refine ⟨fun g hg => ?_, ?_, ?_, q3, q4, q5⟩
              · rw [w1, w2, if_neg (by omega), if_neg (by omega)]
                exact hx g hg
              · rw [w1, if_pos rfl]
              · rw [w2, if_pos rfl]
            · obtain ⟨a1, a2, a3, a4, a5, a6⟩ := ht i (by omega)
              have hci := q_ci_le B i m
              refine ⟨fun g hg => ?_, ?_, ?_, ?_, ?_, fun g hg hb => ?_⟩
              · rw [w1, w2, if_neg (by omega), if_neg (by omega)]
                exact a1 g hg
              · rw [w1, if_neg (by omega)]
                exact a2
              · rw [w2, if_neg (by omega)]
                exact a3
              · rw [q2 i ei, pi_si, if_neg (by decide), pi_si, if_neg (by decide)]
                exact a4
              · rw [q1 _ (by omega), pi_si, if_neg (by decide), pi_si, if_neg (by decide)]
                exact a5
              · have := q_ci_le B i g
                rw [q1 _ (by omega), pi_si, if_neg (by decide), pi_si, if_neg (by decide)]
                exact a6 g hg hb
        | succ r ih2 =>
          intro g hg z hf ht hx
          have hT := fr_i hf (c := 21) (by decide) (by decide)
          have z4 := fr_i hf (c := 4) (by decide) (by decide)
          have z3 := fr_i hf (c := 3) (by decide) (by decide)
          have z2 := fr_i hf (c := 2) (by decide) (by decide)
          have zM := fr_i hf (c := 74) (by decide) (by decide)
          -- two writes
          have fin : ∀ z1 v w, fr [18, 19, 20, 22, 23, 24, 25] [] h z1 → (∀ j, ¬ j = k * 7 + g → lm_i z1 22 j = lm_i z 22 j ∧ lm_i z1 23 j = lm_i z 23 j) → lm_i z1 24 = lm_i z 24 → lm_i z1 25 = lm_i z 25 → v = W (6 * k + g) → w = B (6 * k + g) → lm_i z1 22 (k * 7 + g) = v → lm_i z1 23 (k * 7 + g) = w → (lm_W (d + 1) 62 70 [some (.ref 21), some (.ref 1), some (.ref 18), some (.ref 74), some (.int e), some (va_rf o), some (.int (Int32.ofNat k)), some (.int (Int32.ofNat (g + 1))), none] [] z1 (lm_kV K)) := by
            intro z1 v w hf1 p1 p3 p4 hv hw q1 q2
            refine ih2 (g + 1) (by omega) z1 hf1 (fun i hi => ?_) (fun i hi => ?_)
            · obtain ⟨a1, a2, a3, a4, a5, a6⟩ := ht i (by omega)
              unfold trw
              rw [p3, p4]
              refine ⟨fun g2 hg2 => ?_, ?_, ?_, a4, a5, a6⟩
              · rw [(p1 _ (by omega)).1, (p1 _ (by omega)).2]
                exact a1 g2 hg2
              · rw [(p1 _ (by omega)).1]
                exact a2
              · rw [(p1 _ (by omega)).2]
                exact a3
            · by_cases ei : i = g
              · rw [ei, q1, q2, hv, hw]
                exact ⟨rfl, rfl⟩
              · rw [(p1 _ (by omega)).1, (p1 _ (by omega)).2]
                exact hx i (by omega)
          refine b_62_70 _ _ _ _ (fr_Lay hf hl) ?_
          rw [hT, hm, if_pos (by rw [q_lt (by omega) (by omega)]; omega), q_m7, q_m6, q_add, q_add, q_in (by omega) (by omega), q_in (by omega) (by omega), q_in (by omega) (by omega), q_nat (by omega), q_nat (by omega), q_nat (by omega), q_nat (by omega), z4, z3, z2, zM, q_a1]
          cases o with
          | none =>
            obtain ⟨b1, b2⟩ := h0 rfl k (by omega) g (by omega)
            refine fin _ (lm_i h 4 (k * 6 + g)) 0 (fr_si (fr_si hf (by decide) (by decide) _ _) (by decide) (by decide) _ _) (fun j hj => ?_) ?_ ?_ b1.symm b2.symm ?_ ?_
            · simp only [pi_si, Nat.reduceEqDiff, if_true, if_false, hj, and_self]
            · funext j; simp only [pi_si, Nat.reduceEqDiff, if_false]
            · funext j; simp only [pi_si, Nat.reduceEqDiff, if_false]
            · simp only [pi_si, Nat.reduceEqDiff, if_true, if_false]
            · simp only [pi_si, if_true]
          | some p =>
            obtain ⟨hJ, hH⟩ := h1 p rfl
            obtain ⟨b1, b2, b3⟩ := hJ k (by omega) g (by omega)
            show lm_in _ _ _ _
            refine p_inN (by omega) (by omega) (p_inN (by omega) (by omega) (p_inN (by omega) (by omega) (p_inN (by omega) (by omega) ?_)))
            have hf2 : fr [18, 19, 20, 22, 23, 24, 25] [] h (lm_si (lm_si (lm_si (lm_si (lm_si (lm_si (lm_si (lm_si (lm_si z 22 (k * 7 + g) (lm_i h 4 (k * 6 + g))) 23 (k * 7 + g) 0) 19 0 (Int32.ofNat k)) 19 1 (Int32.ofNat g)) 19 2 (lm_i h 4 (k * 6 + g))) 19 3 (lm_i h 3 g)) 19 4 (lm_i h 2 k)) 19 5 (lm_i h 74 (k * 6 + g))) 19 6 e) := fr_si (fr_si (fr_si (fr_si (fr_si (fr_si (fr_si (fr_si (fr_si hf (by decide) (by decide) _ _) (by decide) (by decide) _ _) (by decide) (by decide) _ _) (by decide) (by decide) _ _) (by decide) (by decide) _ _) (by decide) (by decide) _ _) (by decide) (by decide) _ _) (by decide) (by decide) _ _) (by decide) (by decide) _ _
            refine hH _ _ hf2 (fun z1 hf1 q1 q2 => ?_)
            simp only [pi_si, Nat.reduceEqDiff, if_true, if_false] at q1 q2
            rw [q1, q2, ← b1, ← b2, q_b1or _ b3]
            refine p_inN (by omega) (by omega) (p_inN (by omega) (by omega) ?_)
            refine fin _ (W (6 * k + g)) (B (6 * k + g)) (fr_si (fr_si (fr_trans hf2 (fr_sub hf1 (by decide) (by decide))) (by decide) (by decide) _ _) (by decide) (by decide) _ _) (fun j hj => ?_) ?_ ?_ rfl rfl ?_ ?_
            · simp only [pi_si, Nat.reduceEqDiff, if_true, if_false, hj]
              rw [fr_i hf1 (by decide) (by decide), fr_i hf1 (by decide) (by decide)]
              simp only [pi_si, Nat.reduceEqDiff, if_true, if_false, hj, and_self]
            · funext j
              simp only [pi_si, Nat.reduceEqDiff, if_false]
              rw [fr_i hf1 (by decide) (by decide)]
              simp only [pi_si, Nat.reduceEqDiff, if_false]
            · funext j
              simp only [pi_si, Nat.reduceEqDiff, if_false]
              rw [fr_i hf1 (by decide) (by decide)]
              simp only [pi_si, Nat.reduceEqDiff, if_false]
            · simp only [pi_si, Nat.reduceEqDiff, if_true, if_false]
            · simp only [pi_si, if_true]
      exact lq m 0 (by omega) z hf ht (fun i hi => by omega)
  exact lp n 0 (by omega) h (fr_refl _ _ _) (fun i hi => by omega)
/-- host k's row of the table at 59 is done -/
def trwy (z : lm_H) (m : Nat) (lo : Int32) (W B : Nat → Int32) (k : Nat) : Prop :=
  (∀ g, g < m → lm_i z 60 (k * 7 + g) = W (6 * k + g) ∧ lm_i z 61 (k * 7 + g) = B (6 * k + g)) ∧ lm_i z 60 (k * 7 + 6) = lo ∧ lm_i z 61 (k * 7 + 6) = 0 ∧ lm_i z 63 k = Int32.ofNat (q_ci B k m + 1) ∧ lm_i z 62 (k * 7 + q_ci B k m) = 6 ∧
    ∀ g, g < m → B (6 * k + g) = 0 → lm_i z 62 (k * 7 + q_ci B k g) = Int32.ofNat g
theorem cl_63y {D m k : Nat} {h : lm_H} {K : lm_H → Prop} {B : Nat → Int32} (hD : 2 ≤ D) (hl : lm_Lay h) (h6 : m ≤ 6) (hk : k < 5) (hm : lm_i h 59 1 = Int32.ofNat m) (hB : ∀ g, g < m → lm_i h 61 (k * 7 + g) = B (6 * k + g))
    (hK : ∀ h', fr [62, 63] [] h h' → (∀ j, j < k * 7 → lm_i h' 62 j = lm_i h 62 j) → (∀ j, ¬ j = k → lm_i h' 63 j = lm_i h 63 j) → lm_i h' 63 k = Int32.ofNat (q_ci B k m + 1) → lm_i h' 62 (k * 7 + q_ci B k m) = 6 → (∀ g, g < m → B (6 * k + g) = 0 → lm_i h' 62 (k * 7 + q_ci B k g) = Int32.ofNat g) → K h') : lm_call D 63 [.ref 59, .int (Int32.ofNat k)] h (lm_kV K) := by
  obtain ⟨d, rfl⟩ := q_dp hD
  refine e_63y _ hl ?_
  have lp : ∀ r g : Nat, r + g = m → ∀ z, fr [62, 63] [] h z → (∀ j, j < k * 7 → lm_i z 62 j = lm_i h 62 j) → (∀ j, lm_i z 63 j = lm_i h 63 j) → (∀ i, i < g → B (6 * k + i) = 0 → lm_i z 62 (k * 7 + q_ci B k i) = Int32.ofNat i) → (lm_W (d + 1) 63 4 [some (.ref 59), some (.int (Int32.ofNat k)), some (.int (Int32.ofNat (q_ci B k g))), some (.int (Int32.ofNat g))] [] z (lm_kV K)) := by
    intro r
    induction r with
    | zero =>
      intro g hg z hf k1 k2 k3
      have e : g = m := by omega
      rw [e] at k3 ⊢
      have hci := q_ci_le B k m
      refine b_63y_4 _ _ _ (fr_Lay hf hl) ?_
      rw [fr_i hf (by decide) (by decide), hm, if_neg (by rw [q_lt (by omega) (by omega)]; omega), q_m7, q_add, q_in (by omega) (by omega), q_in (by omega) (by omega), q_nat (by omega), q_nat (by omega), q_a1]
      refine hK _ (fr_si (fr_si hf (by decide) (by decide) _ _) (by decide) (by decide) _ _) (fun j hj => ?_) (fun j hj => ?_) ?_ ?_ (fun i hi hb => ?_)
      · rw [pi_si, if_neg (by decide), pi_si, if_pos rfl, if_neg (by omega)]
        exact k1 j hj
      · rw [pi_si, if_pos rfl, if_neg hj, pi_si, if_neg (by decide)]
        exact k2 j
      · rw [pi_si, if_pos rfl, if_pos rfl]
      · rw [pi_si, if_neg (by decide), pi_si, if_pos rfl, if_pos rfl]
      · have h3 := q_ci_mo B k (g := i + 1) (g2 := m) (by omega)
        rw [q_ci, if_pos hb] at h3
        rw [pi_si, if_neg (by decide), pi_si, if_pos rfl, if_neg (by omega)]
        exact k3 i hi hb
    | succ r ih =>
      intro g hg z hf k1 k2 k3
      have hci := q_ci_le B k g
      have hbz : lm_i z 61 (k * 7 + g) = B (6 * k + g) := by rw [fr_i hf (by decide) (by decide)]; exact hB g (by omega)
      have hi := ih (g + 1) (by omega)
      rw [q_ci] at hi
      refine b_63y_4 _ _ _ (fr_Lay hf hl) ?_
      rw [fr_i hf (by decide) (by decide), hm, if_pos (by rw [q_lt (by omega) (by omega)]; omega), q_m7, q_add, q_add, q_in (by omega) (by omega), q_nat (by omega), q_nat (by omega), hbz, q_a1 g]
      by_cases c : B (6 * k + g) = 0
      · rw [if_pos c] at hi ⊢
        rw [q_a1]
        refine p_inN (by omega) (by omega) ?_
        refine hi _ (fr_si hf (by decide) (by decide) _ _) (fun j hj => ?_) (fun j => ?_) (fun i hi2 hb => ?_)
        · rw [pi_si, if_pos rfl, if_neg (by omega)]
          exact k1 j hj
        · rw [pi_si, if_neg (by decide)]
          exact k2 j
        · rw [pi_si, if_pos rfl]
          by_cases ei : i = g
          · rw [if_pos (by rw [ei]), ei]
          · have h3 := q_ci_mo B k (g := i + 1) (g2 := g) (by omega)
            rw [q_ci, if_pos hb] at h3
            rw [if_neg (by omega)]
            exact k3 i (by omega) hb
      · rw [if_neg c] at hi ⊢
        rw [Nat.add_zero] at hi
        refine hi z hf k1 k2 (fun i hi2 hb => ?_)
        by_cases ei : i = g
        · rw [ei] at hb; exact absurd hb c
        · exact k3 i (by omega) hb
  exact lp m 0 (by omega) h (fr_refl _ _ _) (fun _ _ => rfl) (fun _ => rfl) (fun i hi => by omega)
/-- the judge is set to k and g, and heard -/
theorem lp_62y {d n m : Nat} {h : lm_H} {K : lm_H → Prop} {cu lo e : Int32} {W B : Nat → Int32} {o : Option Nat} {J : Int32 → Int32 → Int32 → Int32 → Int32 → Int32 → Int32 → Int32 × Int32} (hD : 2 ≤ d + 1) (hl : lm_Lay h) (h5 : n ≤ 5) (h6 : m ≤ 6) (hn : lm_i h 59 0 = Int32.ofNat n) (hm : lm_i h 59 1 = Int32.ofNat m) (hcu : lm_i h 59 2 = cu) (hlo : lm_i h 59 3 = lo)
    (h0 : o = none → ∀ k, k < n → ∀ g, g < m → W (6 * k + g) = lm_i h 4 (k * 6 + g) ∧ B (6 * k + g) = 0)
    (h1 : ∀ p, o = some p → (∀ k, k < n → ∀ g, g < m → W (6 * k + g) = (J (Int32.ofNat k) (Int32.ofNat g) (lm_i h 4 (k * 6 + g)) (lm_i h 3 g) (lm_i h 2 k) (lm_i h 67 (k * 6 + g)) e).1 ∧ B (6 * k + g) = (J (Int32.ofNat k) (Int32.ofNat g) (lm_i h 4 (k * 6 + g)) (lm_i h 3 g) (lm_i h 2 k) (lm_i h 67 (k * 6 + g)) e).2 ∧ (B (6 * k + g) = 0 ∨ B (6 * k + g) = 1)) ∧
      ∀ (z : lm_H) (K2 : lm_H → Prop), fr [18, 19, 20, 60, 61, 62, 63] [] h z → (∀ z', fr [18, 20] [] z z' → lm_i z' 18 4 = (J (lm_i z 19 0) (lm_i z 19 1) (lm_i z 19 2) (lm_i z 19 3) (lm_i z 19 4) (lm_i z 19 5) (lm_i z 19 6)).1 → lm_i z' 18 5 = (J (lm_i z 19 0) (lm_i z 19 1) (lm_i z 19 2) (lm_i z 19 3) (lm_i z 19 4) (lm_i z 19 5) (lm_i z 19 6)).2 → K2 z') → lm_call (d + 1) 15 [.ref 18, .ref p] z (lm_kV K2))
    (hK : ∀ h', fr [18, 19, 20, 60, 61, 62, 63] [] h h' → ct h' 59 n m cu lo W B → K h') : (lm_W (d + 1) 62 58 [some (.ref 59), some (.ref 1), some (.ref 18), some (.ref 67), some (.int e), some (va_rf o), some (.int 0), none, none] [] h (lm_kV K)) := by
  have lp : ∀ r k : Nat, r + k = n → ∀ z, fr [18, 19, 20, 60, 61, 62, 63] [] h z → (∀ i, i < k → trwy z m lo W B i) → (lm_W (d + 1) 62 58 [some (.ref 59), some (.ref 1), some (.ref 18), some (.ref 67), some (.int e), some (va_rf o), some (.int (Int32.ofNat k)), none, none] [] z (lm_kV K)) := by
    intro r
    induction r with
    | zero =>
      intro k hk z hf ht
      have ek : k = n := by omega
      rw [ek] at ht ⊢
      have hlz := fr_Lay hf hl
      have hT := fr_i hf (c := 59) (by decide) (by decide)
      refine b_62y_58 _ _ _ hlz ?_
      rw [hT, hn, if_neg (by rw [q_lt (by omega) (by omega)]; omega)]
      refine hK z hf ⟨hlz, h5, h6, by rw [hT]; exact hn, by rw [hT]; exact hm, by rw [hT]; exact hcu, by rw [hT]; exact hlo, fun i hi => (ht i hi).1, fun i hi => (ht i hi).2⟩
    | succ r ih =>
      intro k hk z hf ht
      refine b_62y_58 _ _ _ (fr_Lay hf hl) ?_
      rw [fr_i hf (by decide) (by decide), hn, if_pos (by rw [q_lt (by omega) (by omega)]; omega)]
      have lq : ∀ r g : Nat, r + g = m → ∀ z, fr [18, 19, 20, 60, 61, 62, 63] [] h z → (∀ i, i < k → trwy z m lo W B i) → (∀ i, i < g → lm_i z 60 (k * 7 + i) = W (6 * k + i) ∧ lm_i z 61 (k * 7 + i) = B (6 * k + i)) → (lm_W (d + 1) 62 70 [some (.ref 59), some (.ref 1), some (.ref 18), some (.ref 67), some (.int e), some (va_rf o), some (.int (Int32.ofNat k)), some (.int (Int32.ofNat g)), none] [] z (lm_kV K)) := by
        intro r
        induction r with
        | zero =>
          intro g hg z hf ht hx
          have eg : g = m := by omega
          rw [eg] at hx ⊢
          have hT := fr_i hf (c := 59) (by decide) (by decide)
          refine b_62y_70 _ _ _ _ (fr_Lay hf hl) ?_
          rw [hT, hm, hlo, if_neg (by rw [q_lt (by omega) (by omega)]; omega), q_m7, q_a6, q_in (by omega) (by omega), q_in (by omega) (by omega), q_nat (by omega)]
          have hf2 : fr [18, 19, 20, 60, 61, 62, 63] [] h (lm_si (lm_si z 60 (k * 7 + 6) lo) 61 (k * 7 + 6) 0) := fr_si (fr_si hf (by decide) (by decide) _ _) (by decide) (by decide) _ _
          refine cl_63y (B := B) hD (fr_Lay hf2 hl) h6 (by omega) (by rw [fr_i hf2 (by decide) (by decide)]; exact hm) (fun i hi => ?_) (fun z1 hf1 q1 q2 q3 q4 q5 => ?_)
          · rw [pi_si, if_pos rfl, if_neg (by omega), pi_si, if_neg (by decide)]
            exact (hx i hi).2
          · rw [q_a1]
            refine ih (k + 1) (by omega) z1 (fr_trans hf2 (fr_sub hf1 (by decide) (by decide))) (fun i hi => ?_)
            have w1 : ∀ j, lm_i z1 60 j = if j = k * 7 + 6 then lo else lm_i z 60 j := by
              intro j
              rw [fr_i hf1 (by decide) (by decide), pi_si, if_neg (by decide), pi_si, if_pos rfl]
            have w2 : ∀ j, lm_i z1 61 j = if j = k * 7 + 6 then 0 else lm_i z 61 j := by
              intro j
              rw [fr_i hf1 (by decide) (by decide)]
              simp only [pi_si, Nat.reduceEqDiff, if_true, if_false]
            unfold trwy
            by_cases ei : i = k
            · rw [ei]
              refine ⟨fun g hg => ?_, ?_, ?_, q3, q4, q5⟩
              · rw [w1, w2, if_neg (by omega), if_neg (by omega)]
                exact hx g hg
              · rw [w1, if_pos rfl]
              · rw [w2, if_pos rfl]
            · obtain ⟨a1, a2, a3, a4, a5, a6⟩ := ht i (by omega)
              have hci := q_ci_le B i m
              refine ⟨fun g hg => ?_, ?_, ?_, ?_, ?_, fun g hg hb => ?_⟩
              · rw [w1, w2, if_neg (by omega), if_neg (by omega)]
                exact a1 g hg
              · rw [w1, if_neg (by omega)]
                exact a2
              · rw [w2, if_neg (by omega)]
                exact a3
              · rw [q2 i ei, pi_si, if_neg (by decide), pi_si, if_neg (by decide)]
                exact a4
              · rw [q1 _ (by omega), pi_si, if_neg (by decide), pi_si, if_neg (by decide)]
                exact a5
              · have := q_ci_le B i g
                rw [q1 _ (by omega), pi_si, if_neg (by decide), pi_si, if_neg (by decide)]
                exact a6 g hg hb
        | succ r ih2 =>
          intro g hg z hf ht hx
          have hT := fr_i hf (c := 59) (by decide) (by decide)
          have z4 := fr_i hf (c := 4) (by decide) (by decide)
          have z3 := fr_i hf (c := 3) (by decide) (by decide)
          have z2 := fr_i hf (c := 2) (by decide) (by decide)
          have zM := fr_i hf (c := 67) (by decide) (by decide)
          -- two writes
          have fin : ∀ z1 v w, fr [18, 19, 20, 60, 61, 62, 63] [] h z1 → (∀ j, ¬ j = k * 7 + g → lm_i z1 60 j = lm_i z 60 j ∧ lm_i z1 61 j = lm_i z 61 j) → lm_i z1 62 = lm_i z 62 → lm_i z1 63 = lm_i z 63 → v = W (6 * k + g) → w = B (6 * k + g) → lm_i z1 60 (k * 7 + g) = v → lm_i z1 61 (k * 7 + g) = w → (lm_W (d + 1) 62 70 [some (.ref 59), some (.ref 1), some (.ref 18), some (.ref 67), some (.int e), some (va_rf o), some (.int (Int32.ofNat k)), some (.int (Int32.ofNat (g + 1))), none] [] z1 (lm_kV K)) := by
            intro z1 v w hf1 p1 p3 p4 hv hw q1 q2
            refine ih2 (g + 1) (by omega) z1 hf1 (fun i hi => ?_) (fun i hi => ?_)
            · obtain ⟨a1, a2, a3, a4, a5, a6⟩ := ht i (by omega)
              unfold trwy
              rw [p3, p4]
              refine ⟨fun g2 hg2 => ?_, ?_, ?_, a4, a5, a6⟩
              · rw [(p1 _ (by omega)).1, (p1 _ (by omega)).2]
                exact a1 g2 hg2
              · rw [(p1 _ (by omega)).1]
                exact a2
              · rw [(p1 _ (by omega)).2]
                exact a3
            · by_cases ei : i = g
              · rw [ei, q1, q2, hv, hw]
                exact ⟨rfl, rfl⟩
              · rw [(p1 _ (by omega)).1, (p1 _ (by omega)).2]
                exact hx i (by omega)
          refine b_62y_70 _ _ _ _ (fr_Lay hf hl) ?_
          rw [hT, hm, if_pos (by rw [q_lt (by omega) (by omega)]; omega), q_m7, q_m6, q_add, q_add, q_in (by omega) (by omega), q_in (by omega) (by omega), q_in (by omega) (by omega), q_nat (by omega), q_nat (by omega), q_nat (by omega), q_nat (by omega), z4, z3, z2, zM, q_a1]
          cases o with
          | none =>
            obtain ⟨b1, b2⟩ := h0 rfl k (by omega) g (by omega)
            refine fin _ (lm_i h 4 (k * 6 + g)) 0 (fr_si (fr_si hf (by decide) (by decide) _ _) (by decide) (by decide) _ _) (fun j hj => ?_) ?_ ?_ b1.symm b2.symm ?_ ?_
            · simp only [pi_si, Nat.reduceEqDiff, if_true, if_false, hj, and_self]
            · funext j; simp only [pi_si, Nat.reduceEqDiff, if_false]
            · funext j; simp only [pi_si, Nat.reduceEqDiff, if_false]
            · simp only [pi_si, Nat.reduceEqDiff, if_true, if_false]
            · simp only [pi_si, if_true]
          | some p =>
            obtain ⟨hJ, hH⟩ := h1 p rfl
            obtain ⟨b1, b2, b3⟩ := hJ k (by omega) g (by omega)
            show lm_in _ _ _ _
            refine p_inN (by omega) (by omega) (p_inN (by omega) (by omega) (p_inN (by omega) (by omega) (p_inN (by omega) (by omega) ?_)))
            have hf2 : fr [18, 19, 20, 60, 61, 62, 63] [] h (lm_si (lm_si (lm_si (lm_si (lm_si (lm_si (lm_si (lm_si (lm_si z 60 (k * 7 + g) (lm_i h 4 (k * 6 + g))) 61 (k * 7 + g) 0) 19 0 (Int32.ofNat k)) 19 1 (Int32.ofNat g)) 19 2 (lm_i h 4 (k * 6 + g))) 19 3 (lm_i h 3 g)) 19 4 (lm_i h 2 k)) 19 5 (lm_i h 67 (k * 6 + g))) 19 6 e) := fr_si (fr_si (fr_si (fr_si (fr_si (fr_si (fr_si (fr_si (fr_si hf (by decide) (by decide) _ _) (by decide) (by decide) _ _) (by decide) (by decide) _ _) (by decide) (by decide) _ _) (by decide) (by decide) _ _) (by decide) (by decide) _ _) (by decide) (by decide) _ _) (by decide) (by decide) _ _) (by decide) (by decide) _ _
            refine hH _ _ hf2 (fun z1 hf1 q1 q2 => ?_)
            simp only [pi_si, Nat.reduceEqDiff, if_true, if_false] at q1 q2
            rw [q1, q2, ← b1, ← b2, q_b1or _ b3]
            refine p_inN (by omega) (by omega) (p_inN (by omega) (by omega) ?_)
            refine fin _ (W (6 * k + g)) (B (6 * k + g)) (fr_si (fr_si (fr_trans hf2 (fr_sub hf1 (by decide) (by decide))) (by decide) (by decide) _ _) (by decide) (by decide) _ _) (fun j hj => ?_) ?_ ?_ rfl rfl ?_ ?_
            · simp only [pi_si, Nat.reduceEqDiff, if_true, if_false, hj]
              rw [fr_i hf1 (by decide) (by decide), fr_i hf1 (by decide) (by decide)]
              simp only [pi_si, Nat.reduceEqDiff, if_true, if_false, hj, and_self]
            · funext j
              simp only [pi_si, Nat.reduceEqDiff, if_false]
              rw [fr_i hf1 (by decide) (by decide)]
              simp only [pi_si, Nat.reduceEqDiff, if_false]
            · funext j
              simp only [pi_si, Nat.reduceEqDiff, if_false]
              rw [fr_i hf1 (by decide) (by decide)]
              simp only [pi_si, Nat.reduceEqDiff, if_false]
            · simp only [pi_si, Nat.reduceEqDiff, if_true, if_false]
            · simp only [pi_si, if_true]
      exact lq m 0 (by omega) z hf ht (fun i hi => by omega)
  exact lp n 0 (by omega) h (fr_refl _ _ _) (fun i hi => by omega)
