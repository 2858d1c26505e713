/-! All askings: one asking weighed (isBest 59, countMost 60, countFair 273, keepSteady 274, weigh 58). -/
theorem bM_ex {n m x : Nat} {cu lo : Int32} {W B : Nat → Int32} (A : Nat → Nat) (hw : wd n m cu lo W) (h5 : n ≤ 5) (h6 : m ≤ 6) (hx : x < n) (y : Int32) : y < bM (aF n m cu lo W A x) (aC m B x) (m + 1) ↔ ∃ i, i < cc B m x ∧ y < cG n cu lo W A x (chF B x m i) := by
  rw [← mb_bM (A := A) (B := B) hw h5 h6 hx, mb_lt]
  constructor
  · rintro (q | q)
    · refine ⟨q_ci B x m, by unfold cc; omega, ?_⟩
      have e : chF B x m (q_ci B x m) = 6 := chF_no (Nat.le_refl _)
      rw [e]
      unfold cG
      rw [if_pos rfl, q_gn_lo]
      exact q
    · exact q
  · exact Or.inr
theorem cl_59 {D n m x : Nat} {h : lm_H} {K : Int32 → lm_H → Prop} {cu lo g : Int32} {W B : Nat → Int32} {A : Nat → Nat} (hD : 2 ≤ D) (H : ct h 32 n m cu lo W B) (hx : x < n) (ha : ∀ c, c ≤ 6 → lm_i h 40 c = q_mk (fun j => decide (A j = c)) n) (hG : rG h n m cu lo W B x)
    (hK0 : (∃ i, i < cc B m x ∧ g < cG n cu lo W A x (chF B x m i)) → K 0 h) (hK1 : ¬ (∃ i, i < cc B m x ∧ g < cG n cu lo W A x (chF B x m i)) → K 1 h) : lm_call D 59 [.ref 31, .int (Int32.ofNat x), .int g] h (lm_kI K) := by
  obtain ⟨d, rfl⟩ := q_dp hD
  have h5 := H.2.1
  have h6 := H.2.2.1
  have hcc : cc B m x ≤ 7 := by unfold cc; have := q_ci_le B x m; omega
  have hcx : lm_i h 36 x = Int32.ofNat (cc B m x) := (H.2.2.2.2.2.2.2.2 x hx).2.2.1
  refine e_59 _ _ H.1 ?_
  rw [Int32.add_zero, q_m7]
  have lp : ∀ r i : Nat, r + i = cc B m x → (∀ j, j < i → ¬ g < cG n cu lo W A x (chF B x m j)) → (lm_W (d + 1) 59 9 [some (.ref 31), some (.int (Int32.ofNat x)), some (.int g), some (.int (Int32.ofNat (x * 7))), some (.int (Int32.ofNat i)), none] [] h (lm_kI K)) := by
    intro r
    induction r with
    | zero =>
      intro i hi hn
      have e : i = cc B m x := by omega
      rw [e] at hn
      refine b_59_9 _ _ _ _ H.1 ?_
      rw [q_in (by omega) (by omega), q_nat (by omega), hcx, if_neg (by rw [q_lt (by omega) (by omega)]; omega)]
      exact hK1 (fun ⟨j, hj, q⟩ => hn j hj q)
    | succ r ih =>
      intro i hi hn
      have hi' : i < cc B m x := by omega
      have hvo := chF_ok (B := B) (k := x) (m := m) (i := i) (by unfold cc at hi'; omega)
      have hch : lm_i h 35 (x * 7 + i) = Int32.ofNat (chF B x m i) := ct_ch H hx (by unfold cc at hi'; omega)
      have hc7 : chF B x m i < 7 := by omega
      obtain ⟨M, hM, e1, e2⟩ := rG_at hG h5 hi' A
      refine b_59_9 _ _ _ _ H.1 ?_
      rw [q_in (by omega) (by omega), q_nat (by omega), hcx, if_pos (by rw [q_lt (by omega) (by omega)]; omega), q_add, q_in (by omega) (by omega), q_nat (a := x * 7 + i) (by omega), hch, q_in (by omega) (by omega), q_nat (a := chF B x m i) (by omega), ha _ (by omega), e1, q_add, q_m32, q_add, q_in (by omega) (by omega), q_nat (by omega), e2, q_a1 i]
      by_cases c : g < cG n cu lo W A x (chF B x m i)
      · rw [if_pos c]
        exact hK0 ⟨i, hi', c⟩
      · rw [if_neg c]
        refine ih (i + 1) (by omega) (fun j hj => ?_)
        by_cases ej : j = i
        · rw [ej]; exact c
        · exact hn j (by omega)
  exact lp (cc B m x) 0 (by omega) (fun j hj => by omega)
/-- the most so far -/
theorem mS_0 (S : Nat → Int32) : mS S (0 + 1) = (S 0, 0, 1) := if_pos (Or.inl rfl)
theorem mS_hi {S : Nat → Int32} {i : Nat} (c : (mS S i).1 < S i) : mS S (i + 1) = (S i, i, 1) := by
  rw [mS, if_pos (Or.inr c)]
theorem mS_eq {S : Nat → Int32} {i : Nat} (h0 : 0 < i) (c : S i = (mS S i).1) : mS S (i + 1) = ((mS S i).1, (mS S i).2.1, (mS S i).2.2 + 1) := by
  have h1 := ((mS_le S i).2 h0).1
  rw [mS, if_neg (by rintro (q | q); omega; rw [c] at q; exact Int32.lt_irrefl q), if_pos c]
theorem mS_lo {S : Nat → Int32} {i : Nat} (h0 : 0 < i) (c : S i < (mS S i).1) : mS S (i + 1) = mS S i := by
  have h1 := ((mS_le S i).2 h0).1
  rw [mS, if_neg (by rintro (q | q); omega; rw [p_lt] at q c; omega), if_neg (by rw [p_eq]; rw [p_lt] at c; omega)]
def fA (S : Nat → Int32) (h : lm_H) (i : Nat) : Prop := lm_i h 31 7 = (if i = 0 then -1000000 else (mS S i).1) ∧ (0 < i → lm_i h 31 8 = Int32.ofNat (mS S i).2.1 ∧ lm_i h 31 9 = Int32.ofNat (mS S i).2.2)
def fB (L : Nat → Int32) (h : lm_H) (i : Nat) : Prop := lm_i h 31 10 = (if i = 0 then -1000000 else (mS L i).1) ∧ (0 < i → lm_i h 31 11 = Int32.ofNat (mS L i).2.2)
def fC (S : Nat → Int32) (U : Nat → Bool) (h : lm_H) (i : Nat) : Prop := lm_i h 31 12 = Int32.ofNat (q_cn (fun j => !U j) i) ∧ (0 < q_cn (fun j => !U j) i → lm_i h 31 13 = (sB S U i).1 ∧ lm_i h 31 14 = (sB S U i).2) ∧ bq (lm_l h 45) (fun j => decide (j < i) && !U j)
theorem cl_60s {D i : Nat} {h : lm_H} {K : lm_H → Prop} {S : Nat → Int32} (hD : 1 ≤ D) (hl : lm_Lay h) (hb : -1000000 < S i) (H : fA S h i)
    (hK : ∀ h', fr [31] [] h h' → (∀ s, ¬ s = 7 → ¬ s = 8 → ¬ s = 9 → lm_i h' 31 s = lm_i h 31 s) → fA S h' (i + 1) → K h') : if S i < lm_i h 31 7 then K h else lm_call D 60 [.ref 31, .int (Int32.ofNat i), .int (S i)] h (lm_kV K) := by
  obtain ⟨d, rfl⟩ := q_dp hD
  obtain ⟨a1, a2⟩ := H
  by_cases e0 : i = 0
  · subst e0
    rw [if_pos rfl] at a1
    rw [a1, if_neg (by rw [p_lt] at hb ⊢; omega)]
    refine e_60 _ _ hl ?_
    rw [a1, if_pos hb]
    refine hK _ (fr_si (fr_si (fr_si (fr_si (fr_refl _ _ _) (by decide) (by decide) _ _) (by decide) (by decide) _ _) (by decide) (by decide) _ _) (by decide) (by decide) _ _) (fun s s1 s2 s3 => ?_) ⟨?_, fun _ => ⟨?_, ?_⟩⟩
    · simp only [pi_si, if_true, s1, s2, s3, if_false]
    · simp only [pi_si, if_true, Nat.reduceEqDiff, if_false, mS_0, Nat.succ_ne_zero]
    · simp only [pi_si, if_true, Nat.reduceEqDiff, if_false, mS_0]
    · simp only [pi_si, if_true, Nat.reduceEqDiff, if_false, mS_0]
      rfl
  · rw [if_neg e0] at a1
    obtain ⟨a3, a4⟩ := a2 (by omega)
    rw [a1]
    by_cases c1 : S i < (mS S i).1
    · rw [if_pos c1]
      refine hK h (fr_refl _ _ _) (fun _ _ _ _ => rfl) ⟨?_, fun _ => ?_⟩
      · rw [mS_lo (by omega) c1, if_neg (by omega)]; exact a1
      · rw [mS_lo (by omega) c1]; exact ⟨a3, a4⟩
    · rw [if_neg c1]
      refine e_60 _ _ hl ?_
      rw [a1]
      by_cases c2 : (mS S i).1 < S i
      · rw [if_pos c2]
        refine hK _ (fr_si (fr_si (fr_si (fr_si (fr_refl _ _ _) (by decide) (by decide) _ _) (by decide) (by decide) _ _) (by decide) (by decide) _ _) (by decide) (by decide) _ _) (fun s s1 s2 s3 => ?_) ⟨?_, fun _ => ⟨?_, ?_⟩⟩
        · simp only [pi_si, if_true, s1, s2, s3, if_false]
        · simp only [pi_si, if_true, Nat.reduceEqDiff, if_false, mS_hi c2, Nat.succ_ne_zero]
        · simp only [pi_si, if_true, Nat.reduceEqDiff, if_false, mS_hi c2]
        · simp only [pi_si, if_true, Nat.reduceEqDiff, if_false, mS_hi c2]
          rfl
      · rw [if_neg c2]
        have c3 : S i = (mS S i).1 := by
          rw [p_lt] at c1 c2
          rw [p_eq]
          omega
        refine hK _ (fr_si (fr_refl _ _ _) (by decide) (by decide) _ _) (fun s s1 s2 s3 => ?_) ⟨?_, fun _ => ⟨?_, ?_⟩⟩
        · simp only [pi_si, if_true, s3, if_false]
        · simp only [pi_si, if_true, Nat.reduceEqDiff, if_false, mS_eq (show 0 < i by omega) c3, Nat.succ_ne_zero]
          exact a1
        · simp only [pi_si, if_true, Nat.reduceEqDiff, if_false, mS_eq (show 0 < i by omega) c3]
          exact a3
        · simp only [pi_si, if_true, Nat.reduceEqDiff, if_false, mS_eq (show 0 < i by omega) c3]
          rw [a4, q_a1]
theorem cl_273s {D i : Nat} {h : lm_H} {K : lm_H → Prop} {S : Nat → Int32} (hD : 1 ≤ D) (hl : lm_Lay h) (hb : -1000000 < S i) (H : fB S h i)
    (hK : ∀ h', fr [31] [] h h' → (∀ s, ¬ s = 10 → ¬ s = 11 → lm_i h' 31 s = lm_i h 31 s) → fB S h' (i + 1) → K h') : if S i < lm_i h 31 10 then K h else lm_call D 273 [.ref 31, .int (S i)] h (lm_kV K) := by
  obtain ⟨d, rfl⟩ := q_dp hD
  obtain ⟨a1, a2⟩ := H
  by_cases e0 : i = 0
  · subst e0
    rw [if_pos rfl] at a1
    rw [a1, if_neg (by rw [p_lt] at hb ⊢; omega)]
    refine e_273 _ hl ?_
    rw [a1, if_pos hb]
    refine hK _ (fr_si (fr_si (fr_si (fr_refl _ _ _) (by decide) (by decide) _ _) (by decide) (by decide) _ _) (by decide) (by decide) _ _) (fun s s1 s2 => ?_) ⟨?_, fun _ => ?_⟩
    · simp only [pi_si, if_true, s1, s2, if_false]
    · simp only [pi_si, if_true, Nat.reduceEqDiff, if_false, mS_0, Nat.succ_ne_zero]
    · simp only [pi_si, if_true, Nat.reduceEqDiff, if_false, mS_0]
      rfl
  · rw [if_neg e0] at a1
    have a4 := a2 (by omega)
    rw [a1]
    by_cases c1 : S i < (mS S i).1
    · rw [if_pos c1]
      refine hK h (fr_refl _ _ _) (fun _ _ _ => rfl) ⟨?_, fun _ => ?_⟩
      · rw [mS_lo (by omega) c1, if_neg (by omega)]; exact a1
      · rw [mS_lo (by omega) c1]; exact a4
    · rw [if_neg c1]
      refine e_273 _ hl ?_
      rw [a1]
      by_cases c2 : (mS S i).1 < S i
      · rw [if_pos c2]
        refine hK _ (fr_si (fr_si (fr_si (fr_refl _ _ _) (by decide) (by decide) _ _) (by decide) (by decide) _ _) (by decide) (by decide) _ _) (fun s s1 s2 => ?_) ⟨?_, fun _ => ?_⟩
        · simp only [pi_si, if_true, s1, s2, if_false]
        · simp only [pi_si, if_true, Nat.reduceEqDiff, if_false, mS_hi c2, Nat.succ_ne_zero]
        · simp only [pi_si, if_true, Nat.reduceEqDiff, if_false, mS_hi c2]
          rfl
      · rw [if_neg c2]
        have c3 : S i = (mS S i).1 := by
          rw [p_lt] at c1 c2
          rw [p_eq]
          omega
        refine hK _ (fr_si (fr_refl _ _ _) (by decide) (by decide) _ _) (fun s s1 s2 => ?_) ⟨?_, fun _ => ?_⟩
        · simp only [pi_si, if_true, s2, if_false]
        · simp only [pi_si, if_true, Nat.reduceEqDiff, if_false, mS_eq (show 0 < i by omega) c3, Nat.succ_ne_zero]
          exact a1
        · simp only [pi_si, if_true, Nat.reduceEqDiff, if_false, mS_eq (show 0 < i by omega) c3]
          rw [a4, q_a1]
theorem fC_no {S : Nat → Int32} {U : Nat → Bool} {h : lm_H} {i : Nat} (H : fC S U h i) (hU : U i = true) : fC S U h (i + 1) := by
  unfold fC at H ⊢
  have e : q_cn (fun j => !U j) (i + 1) = q_cn (fun j => !U j) i := by
    rw [q_cn, if_neg (by simp [hU])]
    rfl
  rw [e, sB, if_pos hU]
  refine ⟨H.1, H.2.1, bq_c H.2.2 (fun c _ => ?_)⟩
  by_cases q : c = i
  · rw [q, hU]
    simp
  · have : (c < i + 1) = (c < i) := propext (by omega)
    simp only [this]
theorem fC_yes {S : Nat → Int32} {U : Nat → Bool} {h h' : lm_H} {i : Nat} (H : fC S U h i) (hU : U i = false) (hi : i < 16832) (h1 : lm_i h' 31 12 = lm_i h 31 12 + 1) (h2 : lm_i h' 31 13 = if q_cn (fun j => !U j) i = 0 then S i else if (sB S U i).1 < S i then S i else (sB S U i).1) (h3 : lm_i h' 31 14 = if q_cn (fun j => !U j) i = 0 then S i else if S i < (sB S U i).2 then S i else (sB S U i).2)
    (h4 : ∀ j, lm_l h' 45 j = if j = i / 64 then lm_l h 45 (i / 64) ||| ((1 : Int64) <<< Int64.ofNat (i % 64)) else lm_l h 45 j) : fC S U h' (i + 1) := by
  unfold fC at H ⊢
  have e : q_cn (fun j => !U j) (i + 1) = q_cn (fun j => !U j) i + 1 := by rw [q_cn, if_pos (by simp [hU])]
  have el : lm_l h' 45 = fun j => if j = i / 64 then lm_l h 45 (i / 64) ||| ((1 : Int64) <<< Int64.ofNat (i % 64)) else lm_l h 45 j := funext h4
  rw [e, sB, if_neg (by rw [hU]; decide), h1, H.1, q_a1, el]
  refine ⟨rfl, fun _ => ?_, bq_c (bq_set H.2.2 hi) (fun c _ => ?_)⟩
  · rw [h2, h3]
    by_cases c : q_cn (fun j => !U j) i = 0
    · rw [if_pos c, if_pos c, if_pos c]
      exact ⟨rfl, rfl⟩
    · rw [if_neg c, if_neg c, if_neg c]
      exact ⟨rfl, rfl⟩
  · by_cases q : c = i
    · rw [q, hU]
      simp
    · have : (c < i + 1) = (c < i) := propext (by omega)
      simp only [this, q, decide_false, Bool.false_or]
theorem cl_274s {D i : Nat} {h : lm_H} {K : lm_H → Prop} {S : Nat → Int32} {U : Nat → Bool} (hD : 1 ≤ D) (hl : lm_Lay h) (hi : i < 16807) (H : fC S U h i)
    (hK : ∀ h', fr [31, 45] [] h h' → (∀ s, ¬ s = 12 → ¬ s = 13 → ¬ s = 14 → lm_i h' 31 s = lm_i h 31 s) → fC S U h' (i + 1) → K h') : if (if U i then (0 : Int32) else 1) = 0 then K h else lm_call D 274 [.ref 31, .int (Int32.ofNat i), .int (S i)] h (lm_kV K) := by
  obtain ⟨d, rfl⟩ := q_dp hD
  by_cases cu : U i = true
  · rw [if_pos (by rw [if_pos cu])]
    exact hK h (fr_refl _ _ _) (fun _ _ _ _ => rfl) (fC_no H cu)
  have cu2 : U i = false := by simpa using cu
  rw [if_neg (by rw [if_neg cu]; decide)]
  have a1 := H.1
  have hle := q_cn_le (fun j => !U j) i
  have hs := q_sh6 (c := i) (by omega)
  have fin : ∀ a b, a = (if q_cn (fun j => !U j) i = 0 then S i else if (sB S U i).1 < S i then S i else (sB S U i).1) → b = (if q_cn (fun j => !U j) i = 0 then S i else if S i < (sB S U i).2 then S i else (sB S U i).2) → K (lm_sl (lm_si (lm_si (lm_si h 31 13 a) 31 14 b) 31 12 (Int32.ofNat (q_cn (fun j => !U j) i) + 1)) 45 (i / 64) (lm_l h 45 (i / 64) ||| ((1 : Int64) <<< Int64.ofNat (i % 64)))) := by
    intro a b ea eb
    refine hK _ (fr_sl (fr_si (fr_si (fr_si (fr_refl _ _ _) (by decide) (by decide) _ _) (by decide) (by decide) _ _) (by decide) (by decide) _ _) (by decide) (by decide) _ _) (fun s s1 s2 s3 => ?_) (fC_yes H cu2 (by omega) ?_ ?_ ?_ (fun j => ?_))
    · simp only [pi_sl, pi_si, if_true, s1, s2, s3, if_false]
    · simp only [pi_sl, pi_si, if_true, Nat.reduceEqDiff, if_false, a1]
    · simp only [pi_sl, pi_si, if_true, Nat.reduceEqDiff, if_false]
      exact ea
    · simp only [pi_sl, pi_si, if_true, Nat.reduceEqDiff, if_false]
      exact eb
    · rw [pl_sl, if_pos rfl]
      rfl
  refine e_274 _ _ hl ?_
  rw [hs.1, hs.2, a1, q_nat (by omega)]
  simp only [show (Int32.ofNat (i / 64) < 263) = True from eq_true (by rw [show (263 : Int32) = Int32.ofNat 263 from rfl, q_lt (by omega) (by omega)]; omega), q_in (show i / 64 < 263 by omega) (show 263 < 2147483648 by decide), if_true]
  by_cases c0 : q_cn (fun j => !U j) i = 0
  · rw [if_pos (by rw [c0]; rfl), if_pos (by rw [c0]; rfl)]
    exact fin _ _ (by rw [if_pos c0]) (by rw [if_pos c0])
  · have cz : ¬ Int32.ofNat (q_cn (fun j => !U j) i) = 0 := by rw [q_e0 (by omega)]; exact c0
    obtain ⟨g1, g2⟩ := H.2.1 (by omega)
    rw [if_neg cz, if_neg cz, g1, g2]
    exact fin _ _ (by rw [if_neg c0]) (by rw [if_neg c0])
theorem sG_bd {n m : Nat} {cu lo : Int32} {W : Nat → Int32} {A : Nat → Nat} (hw : wd n m cu lo W) (h5 : n ≤ 5) (hA : gA n m A) : ∀ k : Nat, k ≤ n → -5940 * (k : Int) ≤ (sG n cu lo W A k).toInt ∧ (sG n cu lo W A k).toInt ≤ 5940 * (k : Int) := by
  intro k
  induction k with
  | zero =>
    intro _
    have : (sG n cu lo W A 0).toInt = 0 := rfl
    omega
  | succ k ih =>
    intro hk
    have h1 := ih (by omega)
    have h2 := cG_b hw A (k := k) (c := A k) h5 (by omega) (hA k (by omega))
    have e3 : (-5940 : Int32).toInt = -5940 := rfl
    have e4 : (5940 : Int32).toInt = 5940 := rfl
    simp only [p_le, e3, e4] at h2
    rw [sG, p_tI_add (by omega) (by omega)]
    omega
theorem lF_bd {n m : Nat} {cu lo : Int32} {W : Nat → Int32} {A : Nat → Nat} (hw : wd n m cu lo W) (h5 : n ≤ 5) (hA : gA n m A) : ∀ k : Nat, k ≤ n → -1000000 < lF n cu lo W A 1000000 k := by
  intro k
  induction k with
  | zero => intro _; show (-1000000 : Int32) < 1000000; decide
  | succ k ih =>
    intro hk
    have h1 := ih (by omega)
    have h2 := cG_b hw A (k := k) (c := A k) h5 (by omega) (hA k (by omega))
    rw [lF]
    split
    · have e3 : (-5940 : Int32).toInt = -5940 := rfl
      have e5 : (-1000000 : Int32).toInt = -1000000 := rfl
      rw [p_le, e3] at h2
      rw [p_lt, e5]
      omega
    · exact h1
/-- what the survey has found among the first i -/
def fm (n m : Nat) (cu lo : Int32) (W B : Nat → Int32) (h : lm_H) (i : Nat) : Prop := fA (vS n m cu lo W B) h i ∧ fB (vL n m cu lo W B 1000000) h i ∧ fC (vS n m cu lo W B) (vU n m cu lo W B) h i
theorem cl_58 {D n m i : Nat} {h : lm_H} {K : lm_H → Prop} {cu lo : Int32} {W B : Nat → Int32} (hD : 3 ≤ D) (H : ct h 32 n m cu lo W B) (hw : wd n m cu lo W) (hi : i < NN B m n) (ha : ∀ k, k < n → lm_i h 38 k = Int32.ofNat (aI B m n i k)) (hk : ∀ c, c ≤ 6 → lm_i h 40 c = q_mk (fun j => decide (aI B m n i j = c)) n)
    (hG : ∀ x, x < n → rG h n m cu lo W B x) (hT : ∀ x, x < n → rT h n m cu lo W B x) (hf : fm n m cu lo W B h i)
    (hK : ∀ h', fr [31, 45] [] h h' → lm_i h' 31 2 = lm_i h 31 2 → fm n m cu lo W B h' (i + 1) → K h') : lm_call D 58 [.ref 31, .int (Int32.ofNat i)] h (lm_kV K) := by
  obtain ⟨d, rfl⟩ := q_dp hD
  have h5 := H.2.1
  have h6 := H.2.2.1
  have hNN := NN_le (B := B) h5 h6
  have hgA : gA n m (aI B m n i) := fun j hj => okA_g aI_ok j hj
  have e0 : lm_i h 32 0 = Int32.ofNat n := H.2.2.2.1
  refine e_58 _ H.1 ?_
  rw [e0]
  have lp : ∀ r k : Nat, r + k = n → (lm_W ((d + 2)) 58 38 [some (.ref 31), some (.int (Int32.ofNat i)), some (.ref 38), some (.ref 40), some (.int (Int32.ofNat n)), some (.int (sG n cu lo W (aI B m n i) k)), some (.int (lF n cu lo W (aI B m n i) 1000000 k)), some (.int ((if uS n m cu lo W B (aI B m n i) k then (0 : Int32) else 1))), some (.int (Int32.ofNat k)), none, none] [] h (lm_kV K)) := by
    intro r
    induction r with
    | zero =>
      intro k hk0
      have e : k = n := by omega
      rw [e]
      refine b_58_38 _ _ _ _ _ _ H.1 ?_
      rw [if_neg (by rw [q_lt (by omega) (by omega)]; omega)]
      have bS : -1000000 < vS n m cu lo W B i := by
        have := sG_bd hw h5 hgA n (Nat.le_refl n)
        have e5 : (-1000000 : Int32).toInt = -1000000 := rfl
        unfold vS
        rw [p_lt, e5]
        omega
      have bL : -1000000 < vL n m cu lo W B 1000000 i := lF_bd hw h5 hgA n (Nat.le_refl n)
      refine cl_60s (S := vS n m cu lo W B) (by omega) H.1 bS hf.1 (fun h1 f1 s1 q1 => ?_)
      have F1 : fB (vL n m cu lo W B 1000000) h1 i := by
        unfold fB
        rw [s1 10 (by decide) (by decide) (by decide), s1 11 (by decide) (by decide) (by decide)]
        exact hf.2.1
      refine cl_273s (S := vL n m cu lo W B 1000000) (by omega) (fr_Lay f1 H.1) bL F1 (fun h2 f2 s2 q2 => ?_)
      have F2 : fC (vS n m cu lo W B) (vU n m cu lo W B) h2 i := by
        unfold fC
        rw [s2 12 (by decide) (by decide), s2 13 (by decide) (by decide), s2 14 (by decide) (by decide), s1 12 (by decide) (by decide) (by decide), s1 13 (by decide) (by decide) (by decide), s1 14 (by decide) (by decide) (by decide), fr_l f2 (by decide) (by decide), fr_l f1 (by decide) (by decide)]
        exact hf.2.2
      refine cl_274s (S := vS n m cu lo W B) (U := vU n m cu lo W B) (by omega) (fr_Lay f2 (fr_Lay f1 H.1)) (by omega) F2 (fun h3 f3 s3 q3 => ?_)
      refine hK h3 (fr_trans (fr_sub f1 (by decide) (by decide)) (fr_trans (fr_sub f2 (by decide) (by decide)) f3)) ?_ ⟨?_, ?_, q3⟩
      · rw [s3 2 (by decide) (by decide) (by decide), s2 2 (by decide) (by decide), s1 2 (by decide) (by decide) (by decide)]
      · unfold fA at q1 ⊢
        rw [s3 7 (by decide) (by decide) (by decide), s3 8 (by decide) (by decide) (by decide), s3 9 (by decide) (by decide) (by decide), s2 7 (by decide) (by decide), s2 8 (by decide) (by decide), s2 9 (by decide) (by decide)]
        exact q1
      · unfold fB at q2 ⊢
        rw [s3 10 (by decide) (by decide) (by decide), s3 11 (by decide) (by decide) (by decide)]
        exact q2
    | succ r ih =>
      intro k hk0
      have ihk := ih (k + 1) (by omega)
      have hkn : k < n := by omega
      have hdp : dP (cc B m) n i k < cc B m k := dP_lt (cc_pos B m k)
      have hv := hgA k hkn
      have hc7 : aI B m n i k < 7 := by omega
      obtain ⟨M, hM, e1, e2⟩ := rG_at (hG k hkn) h5 hdp (aI B m n i)
      have e1 : q_mk (fun j => decide (aI B m n i j = aI B m n i k)) n = Int32.ofNat M := e1
      have e2 : lm_i h 43 ((k * 7 + aI B m n i k) * 32 + M) = cG n cu lo W (aI B m n i) k (aI B m n i k) := e2
      have hun : uS n m cu lo W B (aI B m n i) (k + 1) = (uS n m cu lo W B (aI B m n i) k || decide (cG n cu lo W (aI B m n i) k (aI B m n i k) < bM (aF n m cu lo W (aI B m n i) k) (aC m B k) (m + 1))) := rfl
      have hbe := bM_ex (B := B) (aI B m n i) hw h5 h6 hkn (cG n cu lo W (aI B m n i) k (aI B m n i k))
      rw [sG, lF] at ihk
      refine b_58_38 _ _ _ _ _ _ H.1 ?_
      rw [if_pos (by rw [q_lt (by omega) (by omega)]; omega), q_in (by omega) (by omega), q_nat (a := k) (by omega), ha k hkn, q_in (by omega) (by omega), q_nat (a := aI B m n i k) (by omega), hk _ (by omega), e1, q_m7, q_add, q_m32, q_add, q_in (by omega) (by omega), q_nat (by omega), e2, q_a1 k]
      generalize hg : cG n cu lo W (aI B m n i) k (aI B m n i k) = g at ihk hbe hun ⊢
      -- whether it stays steady
      have st : ∀ L : Int32, L = (if g < lF n cu lo W (aI B m n i) 1000000 k then g else lF n cu lo W (aI B m n i) 1000000 k) → (if (if uS n m cu lo W B (aI B m n i) k then (0 : Int32) else 1) = 0 then (lm_W ((d + 2)) 58 38 [some (.ref 31), some (.int (Int32.ofNat i)), some (.ref 38), some (.ref 40), some (.int (Int32.ofNat n)), some (.int (sG n cu lo W (aI B m n i) k + g)), some (.int L), some (.int ((if uS n m cu lo W B (aI B m n i) k then (0 : Int32) else 1))), some (.int (Int32.ofNat (k + 1))), none, none] [] h (lm_kV K)) else (lm_in (Int32.ofNat k) 5 False (if g < lm_i h 44 k then (lm_call (d + 2) 59 [.ref 31, .int (Int32.ofNat k), .int g] h (lm_kI fun r2 h1 => (lm_W ((d + 2)) 58 38 [some (.ref 31), some (.int (Int32.ofNat i)), some (.ref 38), some (.ref 40), some (.int (Int32.ofNat n)), some (.int (sG n cu lo W (aI B m n i) k + g)), some (.int L), some (.int r2), some (.int (Int32.ofNat (k + 1))), none, none] [] h1 (lm_kV K)))) else (lm_W ((d + 2)) 58 38 [some (.ref 31), some (.int (Int32.ofNat i)), some (.ref 38), some (.ref 40), some (.int (Int32.ofNat n)), some (.int (sG n cu lo W (aI B m n i) k + g)), some (.int L), some (.int ((if uS n m cu lo W B (aI B m n i) k then (0 : Int32) else 1))), some (.int (Int32.ofNat (k + 1))), none, none] [] h (lm_kV K))))) := by
        intro L hL
        rw [← hL] at ihk
        by_cases cU : uS n m cu lo W B (aI B m n i) k = true
        · rw [if_pos (by rw [if_pos cU])]
          rw [hun, cU, Bool.true_or, if_pos rfl] at ihk
          rw [if_pos cU]
          exact ihk
        · have cU2 : uS n m cu lo W B (aI B m n i) k = false := by simpa using cU
          rw [if_neg (by rw [if_neg cU]; decide), q_in (by omega) (by omega), if_neg cU]
          rw [hun, cU2, Bool.false_or] at ihk
          by_cases ct : g < lm_i h 44 k
          · rw [if_pos ct]
            refine cl_59 (by omega) H hkn hk (hG k hkn) (fun q => ?_) (fun q => ?_)
            · rw [if_pos (by rw [decide_eq_true_eq, hbe]; exact q)] at ihk
              exact ihk
            · rw [if_neg (by rw [decide_eq_true_eq, hbe]; exact q)] at ihk
              exact ihk
          · rw [if_neg ct]
            rw [if_neg (by
              rw [decide_eq_true_eq, hbe]
              rintro ⟨j, hj, q⟩
              have := hT k hkn (aI B m n i) j hj
              rw [p_lt] at this q ct
              omega)] at ihk
            exact ihk
      by_cases cl : g < lF n cu lo W (aI B m n i) 1000000 k
      · rw [if_pos cl]
        exact st g (by rw [if_pos cl])
      · rw [if_neg cl]
        exact st _ (by rw [if_neg cl])
  exact lp n 0 (by omega)
