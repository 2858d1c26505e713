/-! All askings: the reference's loop (223). -/
theorem sv1_of {S : Nat → Int32} {q : Nat → Nat} {h h' : lm_H} {i : Nat} (H : sv1 S q h i) (h1 : lm_i h' 92 31 = lm_i h 92 31) (h2 : lm_i h' 92 30 = lm_i h 92 30) (h3 : lm_i h' 92 32 = lm_i h 92 32) : sv1 S q h' i := by
  unfold sv1 at H ⊢
  rw [h1, h2, h3]
  exact H
theorem sv2_of {L : Nat → Int32} {h h' : lm_H} {i : Nat} (H : sv2 L h i) (h1 : lm_i h' 92 34 = lm_i h 92 34) (h2 : lm_i h' 92 33 = lm_i h 92 33) : sv2 L h' i := by
  unfold sv2 at H ⊢
  rw [h1, h2]
  exact H
theorem sv3_of {S : Nat → Int32} {U : Nat → Bool} {q : Nat → Nat} {h h' : lm_H} {i : Nat} (H : sv3 S U q h i) (h1 : lm_i h' 92 35 = lm_i h 92 35) (h2 : lm_i h' 92 36 = lm_i h 92 36) (h3 : lm_i h' 92 37 = lm_i h 92 37) (h4 : lm_i h' 108 = lm_i h 108) : sv3 S U q h' i := by
  unfold sv3 at H ⊢
  rw [h1, h2, h3, h4]
  exact H
/-- a new most -/
theorem sv1_new {S : Nat → Int32} {q : Nat → Nat} {h : lm_H} {i : Nat} (c : (mS S i).2.2 = 0 ∨ (mS S i).1 < S i) (h1 : lm_i h 92 31 = 1) (h2 : lm_i h 92 30 = S i) (h3 : lm_i h 92 32 = Int32.ofNat (q i)) : sv1 S q h (i + 1) := by
  unfold sv1
  rw [mS, if_pos c]
  exact ⟨h1, fun _ => ⟨h2, h3⟩⟩
theorem sv1_old {S : Nat → Int32} {q : Nat → Nat} {h h' : lm_H} {i : Nat} (H : sv1 S q h i) (c : ¬ ((mS S i).2.2 = 0 ∨ (mS S i).1 < S i)) (h1 : lm_i h' 92 31 = if S i = (mS S i).1 then lm_i h 92 31 + 1 else lm_i h 92 31) (h2 : lm_i h' 92 30 = lm_i h 92 30) (h3 : lm_i h' 92 32 = lm_i h 92 32) : sv1 S q h' (i + 1) := by
  have hi : 0 < i := by
    by_cases e : i = 0
    · subst e; exact absurd (Or.inl rfl) c
    · omega
  unfold sv1 at H ⊢
  rw [mS, if_neg c, h1, h2, h3, H.1]
  obtain ⟨a, b⟩ := H.2 hi
  by_cases e : S i = (mS S i).1
  · rw [if_pos e, if_pos e, q_a1]
    exact ⟨rfl, fun _ => ⟨a, b⟩⟩
  · rw [if_neg e, if_neg e]
    exact ⟨rfl, fun _ => ⟨a, b⟩⟩
theorem sv2_new {S : Nat → Int32} {h : lm_H} {i : Nat} (c : (mS S i).2.2 = 0 ∨ (mS S i).1 < S i) (h1 : lm_i h 92 34 = 1) (h2 : lm_i h 92 33 = S i) : sv2 S h (i + 1) := by
  unfold sv2
  rw [mS, if_pos c]
  exact ⟨h1, fun _ => h2⟩
theorem sv2_old {S : Nat → Int32} {h h' : lm_H} {i : Nat} (H : sv2 S h i) (c : ¬ ((mS S i).2.2 = 0 ∨ (mS S i).1 < S i)) (h1 : lm_i h' 92 34 = if S i = (mS S i).1 then lm_i h 92 34 + 1 else lm_i h 92 34) (h2 : lm_i h' 92 33 = lm_i h 92 33) : sv2 S h' (i + 1) := by
  have hi : 0 < i := by
    by_cases e : i = 0
    · subst e; exact absurd (Or.inl rfl) c
    · omega
  unfold sv2 at H ⊢
  rw [mS, if_neg c, h1, h2, H.1]
  have a := H.2 hi
  by_cases e : S i = (mS S i).1
  · rw [if_pos e, if_pos e, q_a1]
    exact ⟨rfl, fun _ => a⟩
  · rw [if_neg e, if_neg e]
    exact ⟨rfl, fun _ => a⟩
theorem sv3_no {S : Nat → Int32} {U : Nat → Bool} {q : Nat → Nat} {h : lm_H} {i : Nat} (H : sv3 S U q h i) (hU : U i = true) : sv3 S U q h (i + 1) := by
  unfold sv3 at H ⊢
  have e : q_cn (fun j => !U j) (i + 1) = q_cn (fun j => !U j) i := by rw [q_cn, if_neg (by simp [hU])]; rfl
  rw [e, sB, if_pos hU]
  refine ⟨H.1, H.2.1, fun j hj hu => ?_⟩
  by_cases ej : j = i
  · rw [ej, hU] at hu; cases hu
  · exact H.2.2 j (by omega) hu
theorem sv3_yes {S : Nat → Int32} {U : Nat → Bool} {q : Nat → Nat} {h h' : lm_H} {i : Nat} (H : sv3 S U q h i) (hU : U i = false) (h1 : lm_i h' 92 35 = lm_i h 92 35 + 1) (h2 : lm_i h' 92 36 = if q_cn (fun j => !U j) i = 0 ∨ (sB S U i).1 < S i then S i else (sB S U i).1) (h3 : lm_i h' 92 37 = if q_cn (fun j => !U j) i = 0 ∨ S i < (sB S U i).2 then S i else (sB S U i).2)
    (h4 : ∀ j, lm_i h' 108 j = if j = q_cn (fun j => !U j) i then Int32.ofNat (q i) else lm_i h 108 j) : sv3 S U q h' (i + 1) := by
  unfold sv3 at H ⊢
  have e : q_cn (fun j => !U j) (i + 1) = q_cn (fun j => !U j) i + 1 := by rw [q_cn, if_pos (by simp [hU])]
  rw [e, sB, if_neg (by rw [hU]; decide), h1, H.1, q_a1]
  refine ⟨rfl, fun _ => ?_, fun j hj hu => ?_⟩
  · rw [h2, h3]
    by_cases c : q_cn (fun j => !U j) i = 0
    · rw [if_pos (Or.inl c), if_pos (Or.inl c), if_pos c]
      exact ⟨rfl, rfl⟩
    · rw [if_neg c]
      constructor
      · by_cases c2 : (sB S U i).1 < S i
        · rw [if_pos (Or.inr c2), if_pos c2]
        · rw [if_neg (by rintro (q | q); exact c q; exact c2 q), if_neg c2]
      · by_cases c2 : S i < (sB S U i).2
        · rw [if_pos (Or.inr c2), if_pos c2]
        · rw [if_neg (by rintro (q | q); exact c q; exact c2 q), if_neg c2]
  · rw [h4]
    by_cases ej : j = i
    · rw [ej, if_pos rfl]
    · have := q_cn_lt (P := fun j => !U j) (j := j) (i := i) (by omega) (by simp [hu])
      rw [if_neg (by omega)]
      exact H.2.2 j (by omega) hu
/-- a steady one written down -/
theorem lp_223l {d n m k i : Nat} {h h9 : lm_H} {K : lm_H → Prop} {cu lo : Int32} {W B : Nat → Int32} (H : rt h n m cu lo W B) (hki : kI B m n i = k)
    (h1 : sv1 (vS n m cu lo W B) (kI B m n) h (i + 1)) (h3 : sv3 (vS n m cu lo W B) (vU n m cu lo W B) (kI B m n) h i) (hf9 : fr [] [33, 34] h h9) (hs2 : sv2 (vL n m cu lo W B 1000000) h9 (i + 1)) (hu : vU n m cu lo W B i = false)
    (hK : ∀ h', fr [107, 108] [30, 31, 32, 33, 34, 35, 36, 37] h h' → rt h' n m cu lo W B → sv1 (vS n m cu lo W B) (kI B m n) h' (i + 1) → sv2 (vL n m cu lo W B 1000000) h' (i + 1) → sv3 (vS n m cu lo W B) (vU n m cu lo W B) (kI B m n) h' (i + 1) → (lm_W (d + 1) 223 41 [some (.ref 92), some (.int (Int32.ofNat k + 1)), none, none, none] [] h' (lm_kV K)))
    (a b : Int32) (h2 : a = if q_cn (fun j => !vU n m cu lo W B j) i = 0 ∨ (sB (vS n m cu lo W B) (vU n m cu lo W B) i).1 < vS n m cu lo W B i then vS n m cu lo W B i else (sB (vS n m cu lo W B) (vU n m cu lo W B) i).1) (h4 : b = if q_cn (fun j => !vU n m cu lo W B j) i = 0 ∨ vS n m cu lo W B i < (sB (vS n m cu lo W B) (vU n m cu lo W B) i).2 then vS n m cu lo W B i else (sB (vS n m cu lo W B) (vU n m cu lo W B) i).2) :
    (lm_W (d + 1) 223 41 [some (.ref 92), some (.int (Int32.ofNat k + 1)), none, none, none] [] (lm_si (lm_si (lm_si (lm_si h9 92 36 a) 92 37 b) 108 (q_cn (fun j => !vU n m cu lo W B j) i) (Int32.ofNat k)) 92 35 (Int32.ofNat (q_cn (fun j => !vU n m cu lo W B j) i + 1))) (lm_kV K)) := by
  have g : ∀ s, ¬ s = 35 → ¬ s = 36 → ¬ s = 37 → lm_i (lm_si (lm_si (lm_si (lm_si h9 92 36 a) 92 37 b) 108 (q_cn (fun j => !vU n m cu lo W B j) i) (Int32.ofNat k)) 92 35 (Int32.ofNat (q_cn (fun j => !vU n m cu lo W B j) i + 1))) 92 s = lm_i h9 92 s := by
    intro s a1 a2 a3
    simp only [pi_si, Nat.reduceEqDiff, if_true, if_false, a1, a2, a3]
  refine hK _ (fr_s92 (fr_si (fr_s92 (fr_s92 (fr_sub hf9 (by decide) (by decide)) (by decide) _) (by decide) _) (by decide) (by decide) _ _) (by decide) _) (rt_si (rt_si (rt_si (rt_si (rt_fr hf9 H (by decide)) (by decide) _ _) (by decide) _ _) (by decide) _ _) (by decide) _ _) (sv1_of h1 ?_ ?_ ?_) (sv2_of hs2 ?_ ?_) (sv3_yes h3 hu ?_ ?_ ?_ ?_)
  · rw [g _ (by decide) (by decide) (by decide), fr_m hf9 (by decide)]
  · rw [g _ (by decide) (by decide) (by decide), fr_m hf9 (by decide)]
  · rw [g _ (by decide) (by decide) (by decide), fr_m hf9 (by decide)]
  · rw [g _ (by decide) (by decide) (by decide)]
  · rw [g _ (by decide) (by decide) (by decide)]
  · rw [h3.1, q_a1]
    simp only [pi_si, if_true]
  · rw [← h2]
    simp only [pi_si, Nat.reduceEqDiff, if_true, if_false]
  · rw [← h4]
    simp only [pi_si, Nat.reduceEqDiff, if_true, if_false]
  · intro j
    rw [hki, ← fr_i hf9 (c := 108) (by decide) (by decide)]
    simp only [pi_si, Nat.reduceEqDiff, if_true, if_false]
/-- the end of one asking's turn: least, fair, steady -/
theorem lp_223e {d n m k i : Nat} {h : lm_H} {K : lm_H → Prop} {cu lo : Int32} {W B : Nat → Int32} (hD : 4 ≤ d + 1) (H : rt h n m cu lo W B) (hw : wd n m cu lo W) (ha : ra h n m (aI B m n i)) (hki : kI B m n i = k) (hi : i < 16807)
    (h1 : sv1 (vS n m cu lo W B) (kI B m n) h (i + 1)) (h2 : sv2 (vL n m cu lo W B 1000000) h i) (h3 : sv3 (vS n m cu lo W B) (vU n m cu lo W B) (kI B m n) h i)
    (hK : ∀ h', fr [107, 108] [30, 31, 32, 33, 34, 35, 36, 37] h h' → rt h' n m cu lo W B → sv1 (vS n m cu lo W B) (kI B m n) h' (i + 1) → sv2 (vL n m cu lo W B 1000000) h' (i + 1) → sv3 (vS n m cu lo W B) (vU n m cu lo W B) (kI B m n) h' (i + 1) → (lm_W (d + 1) 223 41 [some (.ref 92), some (.int (Int32.ofNat k + 1)), none, none, none] [] h' (lm_kV K))) :
    ∀ r x, r + x = n → (lm_W (d + 1) 223 123 [some (.ref 92), some (.int (Int32.ofNat k)), some (.int (vS n m cu lo W B i)), some (.int (lF n cu lo W (aI B m n i) 1000000 x)), some (.int (Int32.ofNat x))] [] h (lm_kV K)) := by
  have h5 := H.2.1
  have h6 := H.2.2.1
  have hn := H.2.2.2.1
  have hGA := okA_g (aI_ok (B := B) (m := m) (n := n) (i := i))
  intro r
  induction r with
  | zero =>
    intro x hx
    have : x = n := by omega
    subst this
    refine b_223_123 _ _ _ _ H.1 ?_
    have hm2 := mS_le (vL x m cu lo W B 1000000) i
    rw [hn, if_neg (by rw [q_lt (by omega) (by omega)]; omega)]
    have e2 := h2.1
    rw [show lF x cu lo W (aI B m x i) 1000000 x = vL x m cu lo W B 1000000 i from rfl]
    by_cases c0 : (mS (vL x m cu lo W B 1000000) i).2.2 = 0
    · rw [if_pos (by rw [e2, c0]; rfl), if_pos rfl]
      have hf9 : fr [] [33, 34] h (lm_si (lm_si (lm_si h 92 33 (vL x m cu lo W B 1000000 i)) 92 34 0) 92 34 1) := fr_s92 (fr_s92 (fr_s92 (fr_refl _ _ _) (by decide) _) (by decide) _) (by decide) _
      have hs2 : sv2 (vL x m cu lo W B 1000000) (lm_si (lm_si (lm_si h 92 33 (vL x m cu lo W B 1000000 i)) 92 34 0) 92 34 1) (i + 1) := sv2_new (Or.inl c0) rfl rfl
      -- the steady ones
      refine cl_222 (by omega) (rt_fr hf9 H (by decide)) hw (A := aI B m x i) (fun j hj => ?_) hGA ?_
      · rw [fr_i hf9 (by decide) (by decide)]
        exact ha j hj
      by_cases cu1 : vU x m cu lo W B i = true
      · rw [show uS x m cu lo W B (aI B m x i) x = true from cu1, if_pos rfl, if_pos rfl]
        exact hK _ (fr_sub hf9 (by decide) (by decide)) (rt_fr hf9 H (by decide)) (sv1_of h1 (fr_m hf9 (by decide)) (fr_m hf9 (by decide)) (fr_m hf9 (by decide))) hs2 (sv3_no (sv3_of h3 (fr_m hf9 (by decide)) (fr_m hf9 (by decide)) (fr_m hf9 (by decide)) (fr_i hf9 (by decide) (by decide))) cu1)
      · have cu2 : vU x m cu lo W B i = false := by simpa using cu1
        rw [show uS x m cu lo W B (aI B m x i) x = false from cu2, if_neg (by decide)]
        have hc := (fr_m hf9 (s := 35) (by decide)).trans h3.1
        have hle := q_cn_le (fun j => !vU x m cu lo W B j) i
        have leaf := lp_223l (d := d) (K := K) H hki h1 h3 hf9 hs2 cu2 hK
        rw [hc]
        by_cases c0 : q_cn (fun j => !vU x m cu lo W B j) i = 0
        · rw [if_pos (by rw [c0]; rfl), if_pos (by rw [c0]; rfl), q_in (by omega) (by omega), q_nat (by omega), q_a1 (q_cn (fun j => !vU x m cu lo W B j) i)]
          exact leaf _ _ (by rw [if_pos (Or.inl c0)]) (by rw [if_pos (Or.inl c0)])
        · obtain ⟨g1, g2⟩ := h3.2.1 (by omega)
          rw [← fr_m hf9 (s := 36) (by decide)] at g1
          rw [← fr_m hf9 (s := 37) (by decide)] at g2
          rw [g1, g2]
          have cz : ¬ Int32.ofNat (q_cn (fun j => !vU x m cu lo W B j) i) = 0 := by rw [q_e0 (by omega)]; exact c0
          rw [if_neg cz]
          by_cases c1 : (sB (vS x m cu lo W B) (vU x m cu lo W B) i).1 < vS x m cu lo W B i
          · rw [if_pos c1, if_neg cz]
            by_cases c2 : vS x m cu lo W B i < (sB (vS x m cu lo W B) (vU x m cu lo W B) i).2
            · rw [if_pos c2, q_in (by omega) (by omega), q_nat (by omega), q_a1 (q_cn (fun j => !vU x m cu lo W B j) i)]
              exact leaf _ _ (by rw [if_pos (Or.inr c1)]) (by rw [if_pos (Or.inr c2)])
            · rw [if_neg c2, q_in (by omega) (by omega), q_nat (by omega), q_a1 (q_cn (fun j => !vU x m cu lo W B j) i)]
              exact leaf _ _ (by rw [if_pos (Or.inr c1)]) (by rw [if_neg (by rintro (q | q); exact c0 q; exact c2 q)])
          · rw [if_neg c1, if_neg cz]
            by_cases c2 : vS x m cu lo W B i < (sB (vS x m cu lo W B) (vU x m cu lo W B) i).2
            · rw [if_pos c2, q_in (by omega) (by omega), q_nat (by omega), q_a1 (q_cn (fun j => !vU x m cu lo W B j) i)]
              exact leaf _ _ (by rw [if_neg (by rintro (q | q); exact c0 q; exact c1 q)]) (by rw [if_pos (Or.inr c2)])
            · rw [if_neg c2, q_in (by omega) (by omega), q_nat (by omega), q_a1 (q_cn (fun j => !vU x m cu lo W B j) i)]
              exact leaf _ _ (by rw [if_neg (by rintro (q | q); exact c0 q; exact c1 q)]) (by rw [if_neg (by rintro (q | q); exact c0 q; exact c2 q)])
    · rw [if_neg (by rw [e2, q_e0 (by omega)]; exact c0)]
      have hi0 : 0 < i := by
        by_cases e : i = 0
        · subst e; exact absurd rfl c0
        · omega
      have e3 := h2.2 hi0
      rw [e3]
      by_cases c1 : (mS (vL x m cu lo W B 1000000) i).1 < vL x m cu lo W B 1000000 i
      · rw [if_pos c1, if_pos rfl]
        have hf9 : fr [] [33, 34] h (lm_si (lm_si (lm_si h 92 33 (vL x m cu lo W B 1000000 i)) 92 34 0) 92 34 1) := fr_s92 (fr_s92 (fr_s92 (fr_refl _ _ _) (by decide) _) (by decide) _) (by decide) _
        have hs2 : sv2 (vL x m cu lo W B 1000000) (lm_si (lm_si (lm_si h 92 33 (vL x m cu lo W B 1000000 i)) 92 34 0) 92 34 1) (i + 1) := sv2_new (Or.inr c1) rfl rfl
        -- the steady ones
        refine cl_222 (by omega) (rt_fr hf9 H (by decide)) hw (A := aI B m x i) (fun j hj => ?_) hGA ?_
        · rw [fr_i hf9 (by decide) (by decide)]
          exact ha j hj
        by_cases cu1 : vU x m cu lo W B i = true
        · rw [show uS x m cu lo W B (aI B m x i) x = true from cu1, if_pos rfl, if_pos rfl]
          exact hK _ (fr_sub hf9 (by decide) (by decide)) (rt_fr hf9 H (by decide)) (sv1_of h1 (fr_m hf9 (by decide)) (fr_m hf9 (by decide)) (fr_m hf9 (by decide))) hs2 (sv3_no (sv3_of h3 (fr_m hf9 (by decide)) (fr_m hf9 (by decide)) (fr_m hf9 (by decide)) (fr_i hf9 (by decide) (by decide))) cu1)
        · have cu2 : vU x m cu lo W B i = false := by simpa using cu1
          rw [show uS x m cu lo W B (aI B m x i) x = false from cu2, if_neg (by decide)]
          have hc := (fr_m hf9 (s := 35) (by decide)).trans h3.1
          have hle := q_cn_le (fun j => !vU x m cu lo W B j) i
          have leaf := lp_223l (d := d) (K := K) H hki h1 h3 hf9 hs2 cu2 hK
          rw [hc]
          by_cases c0 : q_cn (fun j => !vU x m cu lo W B j) i = 0
          · rw [if_pos (by rw [c0]; rfl), if_pos (by rw [c0]; rfl), q_in (by omega) (by omega), q_nat (by omega), q_a1 (q_cn (fun j => !vU x m cu lo W B j) i)]
            exact leaf _ _ (by rw [if_pos (Or.inl c0)]) (by rw [if_pos (Or.inl c0)])
          · obtain ⟨g1, g2⟩ := h3.2.1 (by omega)
            rw [← fr_m hf9 (s := 36) (by decide)] at g1
            rw [← fr_m hf9 (s := 37) (by decide)] at g2
            rw [g1, g2]
            have cz : ¬ Int32.ofNat (q_cn (fun j => !vU x m cu lo W B j) i) = 0 := by rw [q_e0 (by omega)]; exact c0
            rw [if_neg cz]
            by_cases c1 : (sB (vS x m cu lo W B) (vU x m cu lo W B) i).1 < vS x m cu lo W B i
            · rw [if_pos c1, if_neg cz]
              by_cases c2 : vS x m cu lo W B i < (sB (vS x m cu lo W B) (vU x m cu lo W B) i).2
              · rw [if_pos c2, q_in (by omega) (by omega), q_nat (by omega), q_a1 (q_cn (fun j => !vU x m cu lo W B j) i)]
                exact leaf _ _ (by rw [if_pos (Or.inr c1)]) (by rw [if_pos (Or.inr c2)])
              · rw [if_neg c2, q_in (by omega) (by omega), q_nat (by omega), q_a1 (q_cn (fun j => !vU x m cu lo W B j) i)]
                exact leaf _ _ (by rw [if_pos (Or.inr c1)]) (by rw [if_neg (by rintro (q | q); exact c0 q; exact c2 q)])
            · rw [if_neg c1, if_neg cz]
              by_cases c2 : vS x m cu lo W B i < (sB (vS x m cu lo W B) (vU x m cu lo W B) i).2
              · rw [if_pos c2, q_in (by omega) (by omega), q_nat (by omega), q_a1 (q_cn (fun j => !vU x m cu lo W B j) i)]
                exact leaf _ _ (by rw [if_neg (by rintro (q | q); exact c0 q; exact c1 q)]) (by rw [if_pos (Or.inr c2)])
              · rw [if_neg c2, q_in (by omega) (by omega), q_nat (by omega), q_a1 (q_cn (fun j => !vU x m cu lo W B j) i)]
                exact leaf _ _ (by rw [if_neg (by rintro (q | q); exact c0 q; exact c1 q)]) (by rw [if_neg (by rintro (q | q); exact c0 q; exact c2 q)])
      · rw [if_neg c1]
        by_cases c2 : vL x m cu lo W B 1000000 i = (mS (vL x m cu lo W B 1000000) i).1
        · rw [if_pos c2]
          have hf9 : fr [] [33, 34] h (lm_si h 92 34 (lm_i h 92 34 + 1)) := fr_s92 (fr_refl _ _ _) (by decide) _
          have hs2 : sv2 (vL x m cu lo W B 1000000) (lm_si h 92 34 (lm_i h 92 34 + 1)) (i + 1) := sv2_old h2 (by rintro (q | q); exact c0 q; exact c1 q) (by rw [if_pos c2]; simp only [pi_si, if_true]) rfl
          -- the steady ones
          refine cl_222 (by omega) (rt_fr hf9 H (by decide)) hw (A := aI B m x i) (fun j hj => ?_) hGA ?_
          · rw [fr_i hf9 (by decide) (by decide)]
            exact ha j hj
          by_cases cu1 : vU x m cu lo W B i = true
          · rw [show uS x m cu lo W B (aI B m x i) x = true from cu1, if_pos rfl, if_pos rfl]
            exact hK _ (fr_sub hf9 (by decide) (by decide)) (rt_fr hf9 H (by decide)) (sv1_of h1 (fr_m hf9 (by decide)) (fr_m hf9 (by decide)) (fr_m hf9 (by decide))) hs2 (sv3_no (sv3_of h3 (fr_m hf9 (by decide)) (fr_m hf9 (by decide)) (fr_m hf9 (by decide)) (fr_i hf9 (by decide) (by decide))) cu1)
          · have cu2 : vU x m cu lo W B i = false := by simpa using cu1
            rw [show uS x m cu lo W B (aI B m x i) x = false from cu2, if_neg (by decide)]
            have hc := (fr_m hf9 (s := 35) (by decide)).trans h3.1
            have hle := q_cn_le (fun j => !vU x m cu lo W B j) i
            have leaf := lp_223l (d := d) (K := K) H hki h1 h3 hf9 hs2 cu2 hK
            rw [hc]
            by_cases c0 : q_cn (fun j => !vU x m cu lo W B j) i = 0
            · rw [if_pos (by rw [c0]; rfl), if_pos (by rw [c0]; rfl), q_in (by omega) (by omega), q_nat (by omega), q_a1 (q_cn (fun j => !vU x m cu lo W B j) i)]
              exact leaf _ _ (by rw [if_pos (Or.inl c0)]) (by rw [if_pos (Or.inl c0)])
            · obtain ⟨g1, g2⟩ := h3.2.1 (by omega)
              rw [← fr_m hf9 (s := 36) (by decide)] at g1
              rw [← fr_m hf9 (s := 37) (by decide)] at g2
              rw [g1, g2]
              have cz : ¬ Int32.ofNat (q_cn (fun j => !vU x m cu lo W B j) i) = 0 := by rw [q_e0 (by omega)]; exact c0
              rw [if_neg cz]
              by_cases c1 : (sB (vS x m cu lo W B) (vU x m cu lo W B) i).1 < vS x m cu lo W B i
              · rw [if_pos c1, if_neg cz]
                by_cases c2 : vS x m cu lo W B i < (sB (vS x m cu lo W B) (vU x m cu lo W B) i).2
                · rw [if_pos c2, q_in (by omega) (by omega), q_nat (by omega), q_a1 (q_cn (fun j => !vU x m cu lo W B j) i)]
                  exact leaf _ _ (by rw [if_pos (Or.inr c1)]) (by rw [if_pos (Or.inr c2)])
                · rw [if_neg c2, q_in (by omega) (by omega), q_nat (by omega), q_a1 (q_cn (fun j => !vU x m cu lo W B j) i)]
                  exact leaf _ _ (by rw [if_pos (Or.inr c1)]) (by rw [if_neg (by rintro (q | q); exact c0 q; exact c2 q)])
              · rw [if_neg c1, if_neg cz]
                by_cases c2 : vS x m cu lo W B i < (sB (vS x m cu lo W B) (vU x m cu lo W B) i).2
                · rw [if_pos c2, q_in (by omega) (by omega), q_nat (by omega), q_a1 (q_cn (fun j => !vU x m cu lo W B j) i)]
                  exact leaf _ _ (by rw [if_neg (by rintro (q | q); exact c0 q; exact c1 q)]) (by rw [if_pos (Or.inr c2)])
                · rw [if_neg c2, q_in (by omega) (by omega), q_nat (by omega), q_a1 (q_cn (fun j => !vU x m cu lo W B j) i)]
                  exact leaf _ _ (by rw [if_neg (by rintro (q | q); exact c0 q; exact c1 q)]) (by rw [if_neg (by rintro (q | q); exact c0 q; exact c2 q)])
        · rw [if_neg c2]
          have hf9 : fr [] [33, 34] h (lm_si h 92 34 (lm_i h 92 34 + 0)) := fr_s92 (fr_refl _ _ _) (by decide) _
          have hs2 : sv2 (vL x m cu lo W B 1000000) (lm_si h 92 34 (lm_i h 92 34 + 0)) (i + 1) := sv2_old h2 (by rintro (q | q); exact c0 q; exact c1 q) (by rw [if_neg c2, Int32.add_zero]; simp only [pi_si, if_true]) rfl
          -- the steady ones
          refine cl_222 (by omega) (rt_fr hf9 H (by decide)) hw (A := aI B m x i) (fun j hj => ?_) hGA ?_
          · rw [fr_i hf9 (by decide) (by decide)]
            exact ha j hj
          by_cases cu1 : vU x m cu lo W B i = true
          · rw [show uS x m cu lo W B (aI B m x i) x = true from cu1, if_pos rfl, if_pos rfl]
            exact hK _ (fr_sub hf9 (by decide) (by decide)) (rt_fr hf9 H (by decide)) (sv1_of h1 (fr_m hf9 (by decide)) (fr_m hf9 (by decide)) (fr_m hf9 (by decide))) hs2 (sv3_no (sv3_of h3 (fr_m hf9 (by decide)) (fr_m hf9 (by decide)) (fr_m hf9 (by decide)) (fr_i hf9 (by decide) (by decide))) cu1)
          · have cu2 : vU x m cu lo W B i = false := by simpa using cu1
            rw [show uS x m cu lo W B (aI B m x i) x = false from cu2, if_neg (by decide)]
            have hc := (fr_m hf9 (s := 35) (by decide)).trans h3.1
            have hle := q_cn_le (fun j => !vU x m cu lo W B j) i
            have leaf := lp_223l (d := d) (K := K) H hki h1 h3 hf9 hs2 cu2 hK
            rw [hc]
            by_cases c0 : q_cn (fun j => !vU x m cu lo W B j) i = 0
            · rw [if_pos (by rw [c0]; rfl), if_pos (by rw [c0]; rfl), q_in (by omega) (by omega), q_nat (by omega), q_a1 (q_cn (fun j => !vU x m cu lo W B j) i)]
              exact leaf _ _ (by rw [if_pos (Or.inl c0)]) (by rw [if_pos (Or.inl c0)])
            · obtain ⟨g1, g2⟩ := h3.2.1 (by omega)
              rw [← fr_m hf9 (s := 36) (by decide)] at g1
              rw [← fr_m hf9 (s := 37) (by decide)] at g2
              rw [g1, g2]
              have cz : ¬ Int32.ofNat (q_cn (fun j => !vU x m cu lo W B j) i) = 0 := by rw [q_e0 (by omega)]; exact c0
              rw [if_neg cz]
              by_cases c1 : (sB (vS x m cu lo W B) (vU x m cu lo W B) i).1 < vS x m cu lo W B i
              · rw [if_pos c1, if_neg cz]
                by_cases c2 : vS x m cu lo W B i < (sB (vS x m cu lo W B) (vU x m cu lo W B) i).2
                · rw [if_pos c2, q_in (by omega) (by omega), q_nat (by omega), q_a1 (q_cn (fun j => !vU x m cu lo W B j) i)]
                  exact leaf _ _ (by rw [if_pos (Or.inr c1)]) (by rw [if_pos (Or.inr c2)])
                · rw [if_neg c2, q_in (by omega) (by omega), q_nat (by omega), q_a1 (q_cn (fun j => !vU x m cu lo W B j) i)]
                  exact leaf _ _ (by rw [if_pos (Or.inr c1)]) (by rw [if_neg (by rintro (q | q); exact c0 q; exact c2 q)])
              · rw [if_neg c1, if_neg cz]
                by_cases c2 : vS x m cu lo W B i < (sB (vS x m cu lo W B) (vU x m cu lo W B) i).2
                · rw [if_pos c2, q_in (by omega) (by omega), q_nat (by omega), q_a1 (q_cn (fun j => !vU x m cu lo W B j) i)]
                  exact leaf _ _ (by rw [if_neg (by rintro (q | q); exact c0 q; exact c1 q)]) (by rw [if_pos (Or.inr c2)])
                · rw [if_neg c2, q_in (by omega) (by omega), q_nat (by omega), q_a1 (q_cn (fun j => !vU x m cu lo W B j) i)]
                  exact leaf _ _ (by rw [if_neg (by rintro (q | q); exact c0 q; exact c1 q)]) (by rw [if_neg (by rintro (q | q); exact c0 q; exact c2 q)])
  | succ r ih =>
    intro x hx
    refine b_223_123 _ _ _ _ H.1 ?_
    rw [hn, if_pos (by rw [q_lt (by omega) (by omega)]; omega), q_a1]
    refine cm_214 (by omega) H ha hGA hw.1 (by omega) ?_
    have hi := ih (x + 1) (by omega)
    rw [lF] at hi
    by_cases c : cG n cu lo W (aI B m n i) x (aI B m n i x) < lF n cu lo W (aI B m n i) 1000000 x
    · rw [if_pos c] at hi ⊢
      refine cm_214 (by omega) H ha hGA hw.1 (by omega) ?_
      exact hi
    · rw [if_neg c] at hi ⊢
      exact hi
