/-! Tables: the class's fill from its entry (62), the reference's laysWorth (207) and looks (208). -/
theorem cl_62 {D n m : Nat} {h : lm_H} {K : lm_H → Prop} {cu lo e : Int32} {W B : Nat → Int32} {J : Int32 → Int32 → Int32 → Int32 → Int32 → Int32 → Int32 → Int32 × Int32} (hD : 3 ≤ D) (hl : lm_Lay h) (h5 : n ≤ 5) (h6 : m ≤ 6) (hn : lm_i h 1 0 = Int32.ofNat n) (hm : lm_i h 1 1 = Int32.ofNat m) (hcu : lm_i h 1 2 = cu) (hlo : lm_i h 1 3 = lo)
    (h0 : lm_i h 1 5 = -1 → ∀ k, k < n → ∀ g, g < m → W (6 * k + g) = lm_i h 4 (k * 6 + g) ∧ B (6 * k + g) = 0)
    (h1 : ¬ lm_i h 1 5 = -1 → ∃ t p, t < 6 ∧ lm_i h 1 5 = Int32.ofNat t ∧ lm_r h 8 t = some p ∧ (∀ k, k < n → ∀ g, g < m → W (6 * k + g) = (J (Int32.ofNat k) (Int32.ofNat g) (lm_i h 4 (k * 6 + g)) (lm_i h 3 g) (lm_i h 2 k) (lm_i h 74 (k * 6 + g)) e).1 ∧ B (6 * k + g) = (J (Int32.ofNat k) (Int32.ofNat g) (lm_i h 4 (k * 6 + g)) (lm_i h 3 g) (lm_i h 2 k) (lm_i h 74 (k * 6 + g)) e).2 ∧ (B (6 * k + g) = 0 ∨ B (6 * k + g) = 1)) ∧
      ∀ (z : lm_H) (K2 : lm_H → Prop) (D2 : Nat), D - 1 ≤ D2 → fr [18, 19, 20, 21, 22, 23, 24, 25] [] h z → (∀ z', fr [18, 20] [] z z' → lm_i z' 18 4 = (J (lm_i z 19 0) (lm_i z 19 1) (lm_i z 19 2) (lm_i z 19 3) (lm_i z 19 4) (lm_i z 19 5) (lm_i z 19 6)).1 → lm_i z' 18 5 = (J (lm_i z 19 0) (lm_i z 19 1) (lm_i z 19 2) (lm_i z 19 3) (lm_i z 19 4) (lm_i z 19 5) (lm_i z 19 6)).2 → K2 z') → lm_call D2 15 [.ref 18, .ref p] z (lm_kV K2))
    (hK : ∀ h', fr [18, 19, 20, 21, 22, 23, 24, 25] [] h h' → ct h' 21 n m cu lo W B → K h') : lm_call D 62 [.ref 21, .ref 1, .ref 18, .ref 74, .int e] h (lm_kV K) := by
  obtain ⟨d, rfl⟩ := q_dp hD
  refine e_62 _ hl ?_
  have hf : fr [18, 19, 20, 21, 22, 23, 24, 25] [] h (lm_si (lm_si (lm_si (lm_si h 21 0 (lm_i h 1 0)) 21 1 (lm_i h 1 1)) 21 2 (lm_i h 1 2)) 21 3 (lm_i h 1 3)) := fr_si (fr_si (fr_si (fr_si (fr_refl _ _ _) (by decide) (by decide) _ _) (by decide) (by decide) _ _) (by decide) (by decide) _ _) (by decide) (by decide) _ _
  have a0 : lm_i (lm_si (lm_si (lm_si (lm_si h 21 0 (lm_i h 1 0)) 21 1 (lm_i h 1 1)) 21 2 (lm_i h 1 2)) 21 3 (lm_i h 1 3)) 21 0 = Int32.ofNat n := by simp only [pi_si, Nat.reduceEqDiff, if_true, if_false]; exact hn
  have a1 : lm_i (lm_si (lm_si (lm_si (lm_si h 21 0 (lm_i h 1 0)) 21 1 (lm_i h 1 1)) 21 2 (lm_i h 1 2)) 21 3 (lm_i h 1 3)) 21 1 = Int32.ofNat m := by simp only [pi_si, Nat.reduceEqDiff, if_true, if_false]; exact hm
  have a2 : lm_i (lm_si (lm_si (lm_si (lm_si h 21 0 (lm_i h 1 0)) 21 1 (lm_i h 1 1)) 21 2 (lm_i h 1 2)) 21 3 (lm_i h 1 3)) 21 2 = cu := by simp only [pi_si, Nat.reduceEqDiff, if_true, if_false]; exact hcu
  have a3 : lm_i (lm_si (lm_si (lm_si (lm_si h 21 0 (lm_i h 1 0)) 21 1 (lm_i h 1 1)) 21 2 (lm_i h 1 2)) 21 3 (lm_i h 1 3)) 21 3 = lo := by simp only [pi_si, if_true]; exact hlo
  have er : lm_r (lm_si (lm_si (lm_si (lm_si h 21 0 (lm_i h 1 0)) 21 1 (lm_i h 1 1)) 21 2 (lm_i h 1 2)) 21 3 (lm_i h 1 3)) = lm_r h := rfl
  have r4 := fr_i hf (c := 4) (by decide) (by decide)
  have r3 := fr_i hf (c := 3) (by decide) (by decide)
  have r2 := fr_i hf (c := 2) (by decide) (by decide)
  have rM := fr_i hf (c := 74) (by decide) (by decide)
  rw [er]
  generalize (lm_si (lm_si (lm_si (lm_si h 21 0 (lm_i h 1 0)) 21 1 (lm_i h 1 1)) 21 2 (lm_i h 1 2)) 21 3 (lm_i h 1 3)) = h2 at hf a0 a1 a2 a3 r4 r3 r2 rM
  have fin : ∀ h', fr [18, 19, 20, 22, 23, 24, 25] [] h2 h' → ct h' 21 n m cu lo W B → K h' := fun h' hf' H' => hK h' (fr_trans hf (fr_sub hf' (by decide) (by decide))) H'
  by_cases c : lm_i h 1 5 = -1
  · rw [if_pos c]
    refine lp_62 (o := none) (J := J) (by omega) (fr_Lay hf hl) h5 h6 a0 a1 a2 a3 (fun _ k hk g hg => ?_) (fun p hp => by cases hp) fin
    rw [r4]
    exact h0 c k hk g hg
  · rw [if_neg c]
    obtain ⟨t, p, ht, et, ep, hJ, hH⟩ := h1 c
    rw [et, q_in (by omega) (by omega), q_nat (by omega), ep]
    refine lp_62 (o := some p) (J := J) (by omega) (fr_Lay hf hl) h5 h6 a0 a1 a2 a3 (fun q => by cases q) (fun p' hp => ?_) fin
    cases hp
    refine ⟨fun k hk g hg => ?_, fun z K2 hfz hz => ?_⟩
    · rw [r4, r3, r2, rM]
      exact hJ k hk g hg
    · exact hH z K2 _ (by omega) (fr_trans hf (fr_sub hfz (by decide) (by decide))) hz
theorem cl_62y {D n m : Nat} {h : lm_H} {K : lm_H → Prop} {cu lo e : Int32} {W B : Nat → Int32} {J : Int32 → Int32 → Int32 → Int32 → Int32 → Int32 → Int32 → Int32 × Int32} (hD : 3 ≤ D) (hl : lm_Lay h) (h5 : n ≤ 5) (h6 : m ≤ 6) (hn : lm_i h 1 0 = Int32.ofNat n) (hm : lm_i h 1 1 = Int32.ofNat m) (hcu : lm_i h 1 2 = cu) (hlo : lm_i h 1 3 = lo)
    (h0 : lm_i h 1 5 = -1 → ∀ k, k < n → ∀ g, g < m → W (6 * k + g) = lm_i h 4 (k * 6 + g) ∧ B (6 * k + g) = 0)
    (h1 : ¬ lm_i h 1 5 = -1 → ∃ t p, t < 6 ∧ lm_i h 1 5 = Int32.ofNat t ∧ lm_r h 8 t = some p ∧ (∀ k, k < n → ∀ g, g < m → W (6 * k + g) = (J (Int32.ofNat k) (Int32.ofNat g) (lm_i h 4 (k * 6 + g)) (lm_i h 3 g) (lm_i h 2 k) (lm_i h 67 (k * 6 + g)) e).1 ∧ B (6 * k + g) = (J (Int32.ofNat k) (Int32.ofNat g) (lm_i h 4 (k * 6 + g)) (lm_i h 3 g) (lm_i h 2 k) (lm_i h 67 (k * 6 + g)) e).2 ∧ (B (6 * k + g) = 0 ∨ B (6 * k + g) = 1)) ∧
      ∀ (z : lm_H) (K2 : lm_H → Prop) (D2 : Nat), D - 1 ≤ D2 → fr [18, 19, 20, 59, 60, 61, 62, 63] [] h z → (∀ z', fr [18, 20] [] z z' → lm_i z' 18 4 = (J (lm_i z 19 0) (lm_i z 19 1) (lm_i z 19 2) (lm_i z 19 3) (lm_i z 19 4) (lm_i z 19 5) (lm_i z 19 6)).1 → lm_i z' 18 5 = (J (lm_i z 19 0) (lm_i z 19 1) (lm_i z 19 2) (lm_i z 19 3) (lm_i z 19 4) (lm_i z 19 5) (lm_i z 19 6)).2 → K2 z') → lm_call D2 15 [.ref 18, .ref p] z (lm_kV K2))
    (hK : ∀ h', fr [18, 19, 20, 59, 60, 61, 62, 63] [] h h' → ct h' 59 n m cu lo W B → K h') : lm_call D 62 [.ref 59, .ref 1, .ref 18, .ref 67, .int e] h (lm_kV K) := by
  obtain ⟨d, rfl⟩ := q_dp hD
  refine e_62y _ hl ?_
  have hf : fr [18, 19, 20, 59, 60, 61, 62, 63] [] h (lm_si (lm_si (lm_si (lm_si h 59 0 (lm_i h 1 0)) 59 1 (lm_i h 1 1)) 59 2 (lm_i h 1 2)) 59 3 (lm_i h 1 3)) := fr_si (fr_si (fr_si (fr_si (fr_refl _ _ _) (by decide) (by decide) _ _) (by decide) (by decide) _ _) (by decide) (by decide) _ _) (by decide) (by decide) _ _
  have a0 : lm_i (lm_si (lm_si (lm_si (lm_si h 59 0 (lm_i h 1 0)) 59 1 (lm_i h 1 1)) 59 2 (lm_i h 1 2)) 59 3 (lm_i h 1 3)) 59 0 = Int32.ofNat n := by simp only [pi_si, Nat.reduceEqDiff, if_true, if_false]; exact hn
  have a1 : lm_i (lm_si (lm_si (lm_si (lm_si h 59 0 (lm_i h 1 0)) 59 1 (lm_i h 1 1)) 59 2 (lm_i h 1 2)) 59 3 (lm_i h 1 3)) 59 1 = Int32.ofNat m := by simp only [pi_si, Nat.reduceEqDiff, if_true, if_false]; exact hm
  have a2 : lm_i (lm_si (lm_si (lm_si (lm_si h 59 0 (lm_i h 1 0)) 59 1 (lm_i h 1 1)) 59 2 (lm_i h 1 2)) 59 3 (lm_i h 1 3)) 59 2 = cu := by simp only [pi_si, Nat.reduceEqDiff, if_true, if_false]; exact hcu
  have a3 : lm_i (lm_si (lm_si (lm_si (lm_si h 59 0 (lm_i h 1 0)) 59 1 (lm_i h 1 1)) 59 2 (lm_i h 1 2)) 59 3 (lm_i h 1 3)) 59 3 = lo := by simp only [pi_si, if_true]; exact hlo
  have er : lm_r (lm_si (lm_si (lm_si (lm_si h 59 0 (lm_i h 1 0)) 59 1 (lm_i h 1 1)) 59 2 (lm_i h 1 2)) 59 3 (lm_i h 1 3)) = lm_r h := rfl
  have r4 := fr_i hf (c := 4) (by decide) (by decide)
  have r3 := fr_i hf (c := 3) (by decide) (by decide)
  have r2 := fr_i hf (c := 2) (by decide) (by decide)
  have rM := fr_i hf (c := 67) (by decide) (by decide)
  rw [er]
  generalize (lm_si (lm_si (lm_si (lm_si h 59 0 (lm_i h 1 0)) 59 1 (lm_i h 1 1)) 59 2 (lm_i h 1 2)) 59 3 (lm_i h 1 3)) = h2 at hf a0 a1 a2 a3 r4 r3 r2 rM
  have fin : ∀ h', fr [18, 19, 20, 60, 61, 62, 63] [] h2 h' → ct h' 59 n m cu lo W B → K h' := fun h' hf' H' => hK h' (fr_trans hf (fr_sub hf' (by decide) (by decide))) H'
  by_cases c : lm_i h 1 5 = -1
  · rw [if_pos c]
    refine lp_62y (o := none) (J := J) (by omega) (fr_Lay hf hl) h5 h6 a0 a1 a2 a3 (fun _ k hk g hg => ?_) (fun p hp => by cases hp) fin
    rw [r4]
    exact h0 c k hk g hg
  · rw [if_neg c]
    obtain ⟨t, p, ht, et, ep, hJ, hH⟩ := h1 c
    rw [et, q_in (by omega) (by omega), q_nat (by omega), ep]
    refine lp_62y (o := some p) (J := J) (by omega) (fr_Lay hf hl) h5 h6 a0 a1 a2 a3 (fun q => by cases q) (fun p' hp => ?_) fin
    cases hp
    refine ⟨fun k hk g hg => ?_, fun z K2 hfz hz => ?_⟩
    · rw [r4, r3, r2, rM]
      exact hJ k hk g hg
    · exact hH z K2 _ (by omega) (fr_trans hf (fr_sub hfz (by decide) (by decide))) hz
theorem cl_207 {D n m : Nat} {h : lm_H} {K : lm_H → Prop} {cu lo e : Int32} {W B : Nat → Int32} (hD : 2 ≤ D) (hl : lm_Lay h) (h5 : n ≤ 5) (h6 : m ≤ 6) (hn : lm_i h 94 81 = Int32.ofNat n) (hm : lm_i h 94 82 = Int32.ofNat m) (hcu : lm_i h 94 83 = cu) (hlo : lm_i h 94 84 = lo) (hB : bd n m B)
    (hA : ∀ (z : lm_H) (K2 : lm_H → Prop) (D2 k g : Nat), D - 1 ≤ D2 → k < n → g < m → fr [103, 104, 105] [19, 20, 21, 23, 24] h z → (∀ z', fr [103] [19, 20, 21, 23, 24] z z' → lm_i z' 92 23 = W (6 * k + g) → lm_i z' 92 24 = B (6 * k + g) → K2 z') → lm_call D2 206 [.ref 92, .int (Int32.ofNat k), .int (Int32.ofNat g), .int (lm_i h 106 (6 * k + g)), .int e] z (lm_kV K2))
    (hK : ∀ h', fr [103, 104, 105] [19, 20, 21, 23, 24] h h' → rt h' n m cu lo W B → K h') : lm_call D 207 [.ref 92, .int e] h (lm_kV K) := by
  obtain ⟨d, rfl⟩ := q_dp hD
  refine e_207 _ hl ?_
  have lp : ∀ r k : Nat, r + k = n → ∀ z, fr [103, 104, 105] [19, 20, 21, 23, 24] h z → (∀ i, i < k → ∀ g, g < m → lm_i z 104 (6 * i + g) = W (6 * i + g) ∧ lm_i z 105 (6 * i + g) = B (6 * i + g)) → (lm_W (d + 1) 207 2 [some (.ref 92), some (.int e), some (.int (Int32.ofNat k)), none] [] z (lm_kV K)) := by
    intro r
    induction r with
    | zero =>
      intro k hk z hf ht
      have ek : k = n := by omega
      rw [ek] at ht ⊢
      have h94 := fr_i hf (c := 94) (by decide) (by decide)
      refine b_207_2 _ _ (fr_Lay hf hl) ?_
      rw [h94, hn, if_neg (by rw [q_lt (by omega) (by omega)]; omega)]
      exact hK z hf ⟨fr_Lay hf hl, h5, h6, by rw [h94]; exact hn, by rw [h94]; exact hm, by rw [h94]; exact hcu, by rw [h94]; exact hlo, ht⟩
    | succ r ih =>
      intro k hk z hf ht
      refine b_207_2 _ _ (fr_Lay hf hl) ?_
      rw [fr_i hf (by decide) (by decide), hn, if_pos (by rw [q_lt (by omega) (by omega)]; omega)]
      have lq : ∀ r g : Nat, r + g = m → ∀ z, fr [103, 104, 105] [19, 20, 21, 23, 24] h z → (∀ i, i < k → ∀ g, g < m → lm_i z 104 (6 * i + g) = W (6 * i + g) ∧ lm_i z 105 (6 * i + g) = B (6 * i + g)) → (∀ i, i < g → lm_i z 104 (6 * k + i) = W (6 * k + i) ∧ lm_i z 105 (6 * k + i) = B (6 * k + i)) → (lm_W (d + 1) 207 12 [some (.ref 92), some (.int e), some (.int (Int32.ofNat k)), some (.int (Int32.ofNat g))] [] z (lm_kV K)) := by
        intro r
        induction r with
        | zero =>
          intro g hg z hf ht hx
          have eg : g = m := by omega
          rw [eg] at hx ⊢
          refine b_207_12 _ _ _ (fr_Lay hf hl) ?_
          rw [fr_i hf (by decide) (by decide), hm, if_neg (by rw [q_lt (by omega) (by omega)]; omega), q_a1]
          refine ih (k + 1) (by omega) z hf (fun i hi g hg => ?_)
          by_cases ei : i = k
          · rw [ei]; exact hx g hg
          · exact ht i (by omega) g hg
        | succ r ih2 =>
          intro g hg z hf ht hx
          refine b_207_12 _ _ _ (fr_Lay hf hl) ?_
          rw [fr_i hf (c := 94) (by decide) (by decide), hm, if_pos (by rw [q_lt (by omega) (by omega)]; omega), q_6m, q_add, q_in (by omega) (by omega), q_nat (by omega), fr_i hf (c := 106) (by decide) (by decide), q_a1]
          refine hA z _ _ k g (by omega) (by omega) (by omega) hf (fun z1 hf1 w1 w2 => ?_)
          rw [w1, w2, q_b1or _ (hB k (by omega) g (by omega))]
          refine p_inN (by omega) (by omega) (p_inN (by omega) (by omega) ?_)
          refine ih2 (g + 1) (by omega) _ (fr_si (fr_si (fr_trans hf (fr_sub hf1 (by decide) (by decide))) (by decide) (by decide) _ _) (by decide) (by decide) _ _) (fun i hi j hj => ?_) (fun i hi => ?_)
          · simp only [pi_si, Nat.reduceEqDiff, if_true, if_false, show ¬ 6 * i + j = 6 * k + g by omega]
            rw [fr_i hf1 (by decide) (by decide), fr_i hf1 (by decide) (by decide)]
            exact ht i hi j hj
          · simp only [pi_si, Nat.reduceEqDiff, if_true, if_false]
            by_cases ei : i = g
            · simp only [ei, if_true, and_self]
            · simp only [show ¬ 6 * k + i = 6 * k + g by omega, if_false]
              rw [fr_i hf1 (by decide) (by decide), fr_i hf1 (by decide) (by decide)]
              exact hx i (by omega)
      exact lq m 0 (by omega) z hf ht (fun i hi => by omega)
  exact lp n 0 (by omega) h (fr_refl _ _ _) (fun i hi => by omega)
/-- looks, where the table isn't laid: met is 0 -/
theorem cl_208b {D n m : Nat} {h : lm_H} {K : lm_H → Prop} {cu lo : Int32} {W B : Nat → Int32} (hD : 3 ≤ D) (hl : lm_Lay h) (h5 : n ≤ 5) (h6 : m ≤ 6) (hn : lm_i h 94 81 = Int32.ofNat n) (hm : lm_i h 94 82 = Int32.ofNat m) (hcu : lm_i h 94 83 = cu) (hlo : lm_i h 94 84 = lo) (hB : bd n m B) (hv : ¬ lm_i h 92 28 = lm_i h 92 1)
    (hA : ∀ (z : lm_H) (K2 : lm_H → Prop) (D2 k g : Nat), D - 2 ≤ D2 → k < n → g < m → fr [103, 104, 105, 106] [19, 20, 21, 23, 24, 28] h z → (∀ z', fr [103] [19, 20, 21, 23, 24] z z' → lm_i z' 92 23 = W (6 * k + g) → lm_i z' 92 24 = B (6 * k + g) → K2 z') → lm_call D2 206 [.ref 92, .int (Int32.ofNat k), .int (Int32.ofNat g), .int 0, .int 0] z (lm_kV K2))
    (hK : ∀ h', fr [103, 104, 105, 106] [19, 20, 21, 23, 24, 28] h h' → lm_i h' 92 28 = lm_i h 92 1 → rt h' n m cu lo W B → K h') : lm_call D 208 [.ref 92] h (lm_kV K) := by
  obtain ⟨d, rfl⟩ := q_dp hD
  have e30 : (30 : Int32) = Int32.ofNat 30 := rfl
  refine e_208 hl ?_
  rw [if_neg hv]
  have lp : ∀ r k : Nat, r + k = 30 → ∀ z, fr [106] [28] h z → lm_i z 92 28 = lm_i h 92 1 → (∀ i, i < k → lm_i z 106 i = 0) → (lm_W ((d + 2)) 208 22 [some (.ref 92), some (.int (Int32.ofNat k))] [] z (lm_kV K)) := by
    intro r
    induction r with
    | zero =>
      intro k hk z hf hz28 hz
      have ek : k = 30 := by omega
      rw [ek] at hz
      have h94 := fr_i hf (c := 94) (by decide) (by decide)
      refine b_208_22 _ (fr_Lay hf hl) ?_
      rw [e30, if_neg (by rw [q_lt (by omega) (by omega)]; omega)]
      refine cl_207 (cu := cu) (lo := lo) (W := W) (B := B) (by omega) (fr_Lay hf hl) h5 h6 (by rw [h94]; exact hn) (by rw [h94]; exact hm) (by rw [h94]; exact hcu) (by rw [h94]; exact hlo) hB (fun z1 K2 D2 k g hD2 hk hg hf1 hz1 => ?_) (fun z1 hf1 H1 => ?_)
      · rw [hz _ (by omega)]
        exact hA z1 K2 D2 k g (by omega) hk hg (fr_trans (fr_sub hf (by decide) (by decide)) (fr_sub hf1 (by decide) (by decide))) hz1
      · refine hK z1 (fr_trans (fr_sub hf (by decide) (by decide)) (fr_sub hf1 (by decide) (by decide))) ?_ H1
        rw [fr_m hf1 (by decide)]
        exact hz28
    | succ r ih =>
      intro k hk z hf hz28 hz
      refine b_208_22 _ (fr_Lay hf hl) ?_
      rw [e30, if_pos (by rw [q_lt (by omega) (by omega)]; omega), q_in (by omega) (by omega), q_nat (by omega), q_a1]
      refine ih (k + 1) (by omega) _ (fr_si hf (by decide) (by decide) _ _) ?_ (fun i hi => ?_)
      · rw [pi_si, if_neg (by decide)]
        exact hz28
      · rw [pi_si, if_pos rfl]
        by_cases ei : i = k
        · rw [if_pos ei]
        · rw [if_neg ei]
          exact hz i (by omega)
  exact lp 30 0 (by omega) _ (fr_s92 (fr_refl _ _ _) (by decide) _) rfl (fun i hi => by omega)
