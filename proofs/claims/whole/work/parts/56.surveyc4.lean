/-! All askings: the class's findBest (59), findSteady (60). -/
theorem mS_fst {S : Nat → Int32} {i : Nat} (hi : 0 < i) : (mS S i).1 = S (mS S i).2.1 := by
  induction i with
  | zero => omega
  | succ i ih =>
    rw [mS]
    by_cases c : (mS S i).2.2 = 0 ∨ (mS S i).1 < S i
    · rw [if_pos c]
    · rw [if_neg c]
      have hi : 0 < i := by
        by_cases e : i = 0
        · subst e; exact absurd (Or.inl rfl) c
        · omega
      split
      · exact ih hi
      · exact ih hi
theorem mS_alt {S : Nat → Int32} {i : Nat} : (mS S (i + 1)).2.1 = (if S (mS S i).2.1 < S i then i else (mS S i).2.1) ∧ (mS S (i + 1)).2.2 = (if S (mS S i).2.1 < S i then 1 else if S i = S (mS S i).2.1 then (mS S i).2.2 + 1 else (mS S i).2.2) := by
  by_cases e : i = 0
  · subst e
    have e : mS S (0 + 1) = (S 0, 0, 1) := if_pos (Or.inl rfl)
    rw [e]
    have : ¬ S (mS S 0).2.1 < S 0 := by
      show ¬ S 0 < S 0
      exact Int32.lt_irrefl
    rw [if_neg this, if_neg this, if_pos (show S 0 = S (mS S 0).2.1 from rfl)]
    exact ⟨rfl, rfl⟩
  · have h1 := mS_fst (S := S) (i := i) (by omega)
    have h2 := (mS_le S i).2 (by omega)
    rw [mS]
    by_cases c : S (mS S i).2.1 < S i
    · rw [if_pos (Or.inr (by rw [h1]; exact c)), if_pos c, if_pos c]
      exact ⟨rfl, rfl⟩
    · rw [if_neg (by rintro (q | q); omega; rw [h1] at q; exact c q), if_neg c, if_neg c, h1]
      by_cases c2 : S i = S (mS S i).2.1
      · rw [if_pos c2, if_pos c2]
        exact ⟨rfl, rfl⟩
      · rw [if_neg c2, if_neg c2]
        exact ⟨rfl, rfl⟩
def fb (S L : Nat → Int32) (h : lm_H) (i : Nat) : Prop := lm_i h 31 11 = Int32.ofNat (mS S i).2.1 ∧ lm_i h 31 12 = Int32.ofNat (mS S i).2.2 ∧ lm_i h 31 13 = L (mS L i).2.1 ∧ lm_i h 31 14 = Int32.ofNat (mS L i).2.2
theorem fb_step {S L : Nat → Int32} {h h2 : lm_H} {i : Nat} (H : fb S L h i) (e1 : lm_i h2 31 11 = if S (mS S i).2.1 < S i then Int32.ofNat i else lm_i h 31 11) (e2 : lm_i h2 31 12 = if S (mS S i).2.1 < S i then 1 else if S i = S (mS S i).2.1 then lm_i h 31 12 + 1 else lm_i h 31 12)
    (e3 : lm_i h2 31 13 = if L (mS L i).2.1 < L i then L i else lm_i h 31 13) (e4 : lm_i h2 31 14 = if L (mS L i).2.1 < L i then 1 else if L i = L (mS L i).2.1 then lm_i h 31 14 + 1 else lm_i h 31 14) : fb S L h2 (i + 1) := by
  obtain ⟨a1, a2, a3, a4⟩ := H
  obtain ⟨s1, s2⟩ := mS_alt (S := S) (i := i)
  obtain ⟨l1, l2⟩ := mS_alt (S := L) (i := i)
  unfold fb
  rw [e1, e2, e3, e4, s1, s2, l1, l2, a1, a2, a3, a4]
  refine ⟨?_, ?_, ?_, ?_⟩
  · split <;> rfl
  · split
    · rfl
    · split
      · rw [q_a1]
      · rfl
  · split <;> rfl
  · split
    · rfl
    · split
      · rw [q_a1]
      · rfl
theorem mS_21 (S : Nat → Int32) (i : Nat) : (mS S i).2.1 ≤ i := by
  by_cases e : i = 0
  · subst e; exact Nat.le_refl 0
  · have := ((mS_le S i).2 (by omega)).2
    omega
theorem cl_59 {D N : Nat} {h : lm_H} {K : lm_H → Prop} {S L : Nat → Int32} (hD : 1 ≤ D) (hl : lm_Lay h) (hN : N ≤ 16807) (h3 : lm_i h 31 3 = Int32.ofNat N) (hN0 : 0 < N) (hS : ∀ a, a < N → lm_i h 43 a = S a) (hL : ∀ a, a < N → lm_i h 44 a = L a)
    (hK : ∀ h', fr [31] [] h h' → lm_i h' 31 2 = lm_i h 31 2 → lm_i h' 31 3 = lm_i h 31 3 → fb S L h' N → K h') : lm_call D 59 [.ref 31] h (lm_kV K) := by
  obtain ⟨d, rfl⟩ := q_dp hD
  refine e_59 hl ?_
  have lp : ∀ r i : Nat, r + i = N → ∀ h1, fr [31] [] h h1 → lm_i h1 31 2 = lm_i h 31 2 → lm_i h1 31 3 = lm_i h 31 3 → fb S L h1 i → (lm_W (d) 59 27 [some (.ref 31), some (.int (Int32.ofNat i))] [] h1 (lm_kV K)) := by
    intro r
    induction r with
    | zero =>
      intro i hi h1 hf g2 g3 hb
      have e : i = N := by omega
      refine b_59_27 _ (fr_Lay hf hl) ?_
      rw [g3, h3, if_neg (by rw [q_lt (by omega) (by omega)]; omega)]
      rw [e] at hb
      exact hK h1 hf g2 g3 hb
    | succ r ih =>
      intro i hi h1 hf g2 g3 hb
      have hb' := hb
      obtain ⟨a1, a2, a3, a4⟩ := hb'
      have m1 := mS_21 S i
      have sF : lm_i h1 43 (mS S i).2.1 = S (mS S i).2.1 := by rw [fr_i hf (by decide) (by decide)]; exact hS _ (by omega)
      have si : lm_i h1 43 i = S i := by rw [fr_i hf (by decide) (by decide)]; exact hS _ (by omega)
      have li : lm_i h1 44 i = L i := by rw [fr_i hf (by decide) (by decide)]; exact hL _ (by omega)
      have fin : ∀ h2, lm_i h2 31 2 = lm_i h1 31 2 → lm_i h2 31 3 = lm_i h1 31 3 → fr [31] [] h1 h2 → fb S L h2 (i + 1) → (lm_W (d) 59 27 [some (.ref 31), some (.int (Int32.ofNat (i + 1)))] [] h2 (lm_kV K)) := fun h2 k2 k3 hf2 hb2 => ih (i + 1) (by omega) h2 (fr_trans hf hf2) (k2.trans g2) (k3.trans g3) hb2
      refine b_59_27 _ (fr_Lay hf hl) ?_
      rw [g3, h3, if_pos (by rw [q_lt (by omega) (by omega)]; omega), a1, q_nat (a := i) (by omega), q_nat (a := (mS S i).2.1) (by omega), sF, si, li, q_a1 i]
      simp only [q_in (show i < 16807 by omega) (show 16807 < 2147483648 by decide), q_in (show (mS S i).2.1 < 16807 by omega) (show 16807 < 2147483648 by decide), if_true]
      by_cases c1 : S (mS S i).2.1 < S i
      · rw [if_pos c1]
        have c2 : True := trivial
        by_cases c3 : lm_i h1 31 13 < L i
        · rw [if_pos c3]
          rw [a3] at c3
          refine fin _ ?_ ?_ (fr_si (fr_si (fr_si (fr_si (fr_si (fr_si (fr_refl _ _ _) (by decide) (by decide) _ _) (by decide) (by decide) _ _) (by decide) (by decide) _ _) (by decide) (by decide) _ _) (by decide) (by decide) _ _) (by decide) (by decide) _ _) (fb_step hb ?_ ?_ ?_ ?_)
          all_goals simp only [pi_si, Nat.reduceEqDiff, if_true, if_false, c1, c3]
        · rw [if_neg c3]
          by_cases c4 : L i = lm_i h1 31 13
          · rw [if_pos c4]
            rw [a3] at c3 c4
            refine fin _ ?_ ?_ (fr_si (fr_si (fr_si (fr_si (fr_refl _ _ _) (by decide) (by decide) _ _) (by decide) (by decide) _ _) (by decide) (by decide) _ _) (by decide) (by decide) _ _) (fb_step hb ?_ ?_ ?_ ?_)
            all_goals simp only [pi_si, Nat.reduceEqDiff, if_true, if_false, c1, c3]
            rw [if_pos c4]
          · rw [if_neg c4]
            rw [a3] at c3 c4
            refine fin _ ?_ ?_ (fr_si (fr_si (fr_si (fr_si (fr_refl _ _ _) (by decide) (by decide) _ _) (by decide) (by decide) _ _) (by decide) (by decide) _ _) (by decide) (by decide) _ _) (fb_step hb ?_ ?_ ?_ ?_)
            all_goals simp only [pi_si, Nat.reduceEqDiff, if_true, if_false, c1, c3, Int32.add_zero]
            rw [if_neg c4]
      · rw [if_neg c1]
        by_cases c3 : lm_i h1 31 13 < L i
        · rw [if_pos c3]
          rw [a3] at c3
          by_cases c2 : S i = S (mS S i).2.1
          · rw [if_pos c2]
            refine fin _ ?_ ?_ (fr_si (fr_si (fr_si (fr_si (fr_refl _ _ _) (by decide) (by decide) _ _) (by decide) (by decide) _ _) (by decide) (by decide) _ _) (by decide) (by decide) _ _) (fb_step hb ?_ ?_ ?_ ?_)
            all_goals simp only [pi_si, Nat.reduceEqDiff, if_true, if_false, c1, c3]
            rw [if_pos c2]
          · rw [if_neg c2]
            refine fin _ ?_ ?_ (fr_si (fr_si (fr_si (fr_si (fr_refl _ _ _) (by decide) (by decide) _ _) (by decide) (by decide) _ _) (by decide) (by decide) _ _) (by decide) (by decide) _ _) (fb_step hb ?_ ?_ ?_ ?_)
            all_goals simp only [pi_si, Nat.reduceEqDiff, if_true, if_false, c1, c3, c2, Int32.add_zero]
        · rw [if_neg c3]
          rw [a3] at c3 ⊢
          by_cases c2 : S i = S (mS S i).2.1
          · rw [if_pos c2]
            by_cases c4 : L i = L (mS L i).2.1
            · rw [if_pos c4]
              refine fin _ ?_ ?_ (fr_si (fr_si (fr_refl _ _ _) (by decide) (by decide) _ _) (by decide) (by decide) _ _) (fb_step hb ?_ ?_ ?_ ?_)
              all_goals simp only [pi_si, Nat.reduceEqDiff, if_true, if_false, c1, c3]
              · rw [if_pos c2]
              · rw [if_pos c4]
            · rw [if_neg c4]
              refine fin _ ?_ ?_ (fr_si (fr_si (fr_refl _ _ _) (by decide) (by decide) _ _) (by decide) (by decide) _ _) (fb_step hb ?_ ?_ ?_ ?_)
              all_goals simp only [pi_si, Nat.reduceEqDiff, if_true, if_false, c1, c3, Int32.add_zero]
              · rw [if_pos c2]
              · rw [if_neg c4]
          · rw [if_neg c2]
            by_cases c4 : L i = L (mS L i).2.1
            · rw [if_pos c4]
              refine fin _ ?_ ?_ (fr_si (fr_si (fr_refl _ _ _) (by decide) (by decide) _ _) (by decide) (by decide) _ _) (fb_step hb ?_ ?_ ?_ ?_)
              all_goals simp only [pi_si, Nat.reduceEqDiff, if_true, if_false, c1, c3, Int32.add_zero]
              · rw [if_neg c2]
              · rw [if_pos c4]
            · rw [if_neg c4]
              refine fin _ ?_ ?_ (fr_si (fr_si (fr_refl _ _ _) (by decide) (by decide) _ _) (by decide) (by decide) _ _) (fb_step hb ?_ ?_ ?_ ?_)
              all_goals simp only [pi_si, Nat.reduceEqDiff, if_true, if_false, c1, c3, Int32.add_zero]
              · rw [if_neg c2]
              · rw [if_neg c4]
  refine lp N 0 (by omega) _ (fr_si (fr_si (fr_si (fr_si (fr_refl _ _ _) (by decide) (by decide) _ _) (by decide) (by decide) _ _) (by decide) (by decide) _ _) (by decide) (by decide) _ _) ?_ ?_ ⟨?_, ?_, ?_, ?_⟩
  · simp only [pi_si, Nat.reduceEqDiff, if_true, if_false]
  · simp only [pi_si, Nat.reduceEqDiff, if_true, if_false]
  · simp only [pi_si, Nat.reduceEqDiff, if_true, if_false]; rfl
  · simp only [pi_si, Nat.reduceEqDiff, if_true, if_false]; rfl
  · simp only [pi_si, Nat.reduceEqDiff, if_true, if_false]
    exact hL 0 hN0
  · simp only [pi_si, Nat.reduceEqDiff, if_true, if_false]; rfl
/-- the steady ones, in the class -/
def fs (S : Nat → Int32) (U : Nat → Bool) (h : lm_H) (i : Nat) : Prop := lm_i h 31 15 = Int32.ofNat (q_cn (fun j => !U j) i) ∧ (0 < q_cn (fun j => !U j) i → lm_i h 31 16 = (sB S U i).1 ∧ lm_i h 31 17 = (sB S U i).2) ∧ ∀ j, j < i → U j = false → lm_i h 46 (q_cn (fun j => !U j) j) = Int32.ofNat j
theorem fs_no {S : Nat → Int32} {U : Nat → Bool} {h : lm_H} {i : Nat} (H : fs S U h i) (hU : U i = true) : fs S U h (i + 1) := by
  unfold fs at H ⊢
  have e : q_cn (fun j => !U j) (i + 1) = q_cn (fun j => !U j) i := by rw [q_cn, if_neg (by simp [hU])]; rfl
  rw [e, sB, if_pos hU]
  refine ⟨H.1, H.2.1, fun j hj hu => ?_⟩
  by_cases ej : j = i
  · rw [ej, hU] at hu; cases hu
  · exact H.2.2 j (by omega) hu
theorem fs_yes {S : Nat → Int32} {U : Nat → Bool} {h h' : lm_H} {i : Nat} (H : fs S U h i) (hU : U i = false) (h1 : lm_i h' 31 15 = lm_i h 31 15 + 1) (h2 : lm_i h' 31 16 = if q_cn (fun j => !U j) i = 0 then S i else if (sB S U i).1 < S i then S i else (sB S U i).1) (h3 : lm_i h' 31 17 = if q_cn (fun j => !U j) i = 0 then S i else if S i < (sB S U i).2 then S i else (sB S U i).2)
    (h4 : ∀ j, lm_i h' 46 j = if j = q_cn (fun j => !U j) i then Int32.ofNat i else lm_i h 46 j) : fs S U h' (i + 1) := by
  unfold fs at H ⊢
  have e : q_cn (fun j => !U j) (i + 1) = q_cn (fun j => !U j) i + 1 := by rw [q_cn, if_pos (by simp [hU])]
  rw [e, sB, if_neg (by rw [hU]; decide), h1, H.1, q_a1]
  refine ⟨rfl, fun _ => ?_, fun j hj hu => ?_⟩
  · rw [h2, h3]
    by_cases c : q_cn (fun j => !U j) i = 0
    · rw [if_pos c, if_pos c, if_pos c]
      exact ⟨rfl, rfl⟩
    · rw [if_neg c, if_neg c, if_neg c]
      exact ⟨rfl, rfl⟩
  · rw [h4]
    by_cases ej : j = i
    · rw [ej, if_pos rfl]
    · have := q_cn_lt (P := fun j => !U j) (j := j) (i := i) (by omega) (by simp [hu])
      rw [if_neg (by omega)]
      exact H.2.2 j (by omega) hu
theorem cl_60 {D N : Nat} {h : lm_H} {K : lm_H → Prop} {S : Nat → Int32} {U : Nat → Bool} (hD : 1 ≤ D) (hl : lm_Lay h) (hN : N ≤ 16807) (h3 : lm_i h 31 3 = Int32.ofNat N) (hS : ∀ a, a < N → lm_i h 43 a = S a) (hU : ∀ a, a < N → lm_i h 45 a = if U a then 1 else 0)
    (hK : ∀ h', fr [31, 46] [] h h' → (∀ s, ¬ s = 15 → ¬ s = 16 → ¬ s = 17 → lm_i h' 31 s = lm_i h 31 s) → fs S U h' N → K h') : lm_call D 60 [.ref 31] h (lm_kV K) := by
  obtain ⟨d, rfl⟩ := q_dp hD
  refine e_60 hl ?_
  have lp : ∀ r i : Nat, r + i = N → ∀ h1, fr [31, 46] [] h h1 → (∀ s, ¬ s = 15 → ¬ s = 16 → ¬ s = 17 → lm_i h1 31 s = lm_i h 31 s) → fs S U h1 i → (lm_W (d) 60 7 [some (.ref 31), some (.int (Int32.ofNat i))] [] h1 (lm_kV K)) := by
    intro r
    induction r with
    | zero =>
      intro i hi h1 hf g hb
      have e : i = N := by omega
      refine b_60_7 _ (fr_Lay hf hl) ?_
      rw [g 3 (by decide) (by decide) (by decide), h3, if_neg (by rw [q_lt (by omega) (by omega)]; omega)]
      rw [e] at hb
      exact hK h1 hf g hb
    | succ r ih =>
      intro i hi h1 hf g hb
      have a1 := hb.1
      have hle := q_cn_le (fun j => !U j) i
      have si : lm_i h1 43 i = S i := by rw [fr_i hf (by decide) (by decide)]; exact hS _ (by omega)
      have ui : lm_i h1 45 i = if U i then 1 else 0 := by rw [fr_i hf (by decide) (by decide)]; exact hU _ (by omega)
      refine b_60_7 _ (fr_Lay hf hl) ?_
      rw [g 3 (by decide) (by decide) (by decide), h3, if_pos (by rw [q_lt (by omega) (by omega)]; omega), a1, q_nat (a := i) (by omega), q_nat (a := q_cn (fun j => !U j) i) (by omega), si, ui, q_a1 i]
      simp only [q_in (show i < 16807 by omega) (show 16807 < 2147483648 by decide), q_in (show q_cn (fun j => !U j) i < 16807 by omega) (show 16807 < 2147483648 by decide)]
      by_cases cu : U i = true
      · rw [cu, if_neg (by decide)]
        exact ih (i + 1) (by omega) h1 hf g (fs_no hb cu)
      · have cu2 : U i = false := by simpa using cu
        rw [cu2, if_pos (by decide)]
        have fin : ∀ a b, a = (if q_cn (fun j => !U j) i = 0 then S i else if (sB S U i).1 < S i then S i else (sB S U i).1) → b = (if q_cn (fun j => !U j) i = 0 then S i else if S i < (sB S U i).2 then S i else (sB S U i).2) → (lm_W (d) 60 7 [some (.ref 31), some (.int (Int32.ofNat (i + 1)))] [] (lm_si (lm_si (lm_si (lm_si h1 31 16 a) 31 17 b) 46 (q_cn (fun j => !U j) i) (Int32.ofNat i)) 31 15 (Int32.ofNat (q_cn (fun j => !U j) i) + 1)) (lm_kV K)) := by
          intro a b ea eb
          refine ih (i + 1) (by omega) _ (fr_si (fr_si (fr_si (fr_si hf (by decide) (by decide) _ _) (by decide) (by decide) _ _) (by decide) (by decide) _ _) (by decide) (by decide) _ _) (fun s s1 s2 s3 => ?_) (fs_yes hb cu2 ?_ ?_ ?_ (fun j => ?_))
          · simp only [pi_si, Nat.reduceEqDiff, if_true, if_false, s1, s2, s3]
            exact g s s1 s2 s3
          · simp only [pi_si, Nat.reduceEqDiff, if_true, if_false, a1]
          · simp only [pi_si, Nat.reduceEqDiff, if_true, if_false]
            exact ea
          · simp only [pi_si, Nat.reduceEqDiff, if_true, if_false]
            exact eb
          · simp only [pi_si, Nat.reduceEqDiff, if_true, if_false]
        by_cases c0 : q_cn (fun j => !U j) i = 0
        · rw [if_pos (by rw [c0]; rfl), if_pos (by rw [c0]; rfl)]
          exact fin _ _ (by rw [if_pos c0]) (by rw [if_pos c0])
        · have cz : ¬ Int32.ofNat (q_cn (fun j => !U j) i) = 0 := by rw [q_e0 (by omega)]; exact c0
          obtain ⟨g1, g2⟩ := hb.2.1 (by omega)
          rw [if_neg cz, if_neg cz, g1, g2]
          exact fin _ _ (by rw [if_neg c0]) (by rw [if_neg c0])
  refine lp N 0 (by omega) _ (fr_si (fr_refl _ _ _) (by decide) (by decide) _ _) (fun s s1 s2 s3 => by rw [pi_si, if_pos rfl, if_neg s1]) ⟨rfl, fun q => by rw [q_cn] at q; omega, fun j hj => by omega⟩
