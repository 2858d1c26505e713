/-! The best answers: bestOf (231), answerBits (72). -/
theorem q_sisi (h : lm_H) (a k : Nat) (v w : Int32) : lm_si (lm_si h a k v) a k w = lm_si h a k w := by
  have : (lm_si (lm_si h a k v) a k w).2.1 = (lm_si h a k w).2.1 := by
    funext b j
    show lm_i (lm_si (lm_si h a k v) a k w) b j = lm_i (lm_si h a k w) b j
    rw [pi_si, pi_si, pi_si]
    by_cases c : b = a
    · rw [if_pos c, if_pos c]
      by_cases c2 : j = k
      · simp only [c, c2, if_true]
      · simp only [c, c2, if_true, if_false]
    · rw [if_neg c, if_neg c, if_neg c]
  exact Prod.ext rfl (Prod.ext this rfl)
theorem q_self (h : lm_H) (a k : Nat) : lm_si h a k (lm_i h a k) = h := by
  have : (lm_si h a k (lm_i h a k)).2.1 = h.2.1 := by
    funext b j
    show lm_i (lm_si h a k (lm_i h a k)) b j = lm_i h b j
    rw [pi_si]
    by_cases c : b = a
    · rw [if_pos c]
      by_cases c2 : j = k
      · rw [if_pos c2, c, c2]
      · rw [if_neg c2]
    · rw [if_neg c]
  exact Prod.ext rfl (Prod.ext this rfl)
/-- the most of those that can be asked, among the first g -/
def bM (f : Nat → Int32) (cn : Nat → Bool) : Nat → Int32
  | 0 => -1000000
  | g + 1 => if cn g = true ∧ bM f cn g < f g then f g else bM f cn g
def bP (f : Nat → Int32) (cn : Nat → Bool) (g : Nat) (j : Nat) : Bool := cn j && decide (f j = bM f cn g)
theorem bM_le {f : Nat → Int32} {cn : Nat → Bool} {g j : Nat} (hj : j < g) (hc : cn j = true) : f j ≤ bM f cn g := by
  induction g with
  | zero => omega
  | succ g ih =>
    rw [bM]
    by_cases c : j = g
    · subst c
      split
      · grind
      · rename_i h
        have : ¬ bM f cn j < f j := fun q => h ⟨hc, q⟩
        grind
    · have := ih (by omega)
      split
      · grind
      · exact this
theorem q_mk_f {P : Nat → Bool} {n : Nat} (h : ∀ j, j < n → P j = false) : q_mk P n = 0 := by
  induction n with
  | zero => rfl
  | succ n ih => rw [q_mk, ih (fun j hj => h j (by omega)), h n (by omega)]; rfl
theorem bP_new {f : Nat → Int32} {cn : Nat → Bool} {g : Nat} (hc : cn g = true) (hm : bM f cn g < f g) : q_mk (bP f cn (g + 1)) (g + 1) = 0 ||| ((1 : Int32) <<< (Int32.ofNat g &&& 31)) := by
  have e : bM f cn (g + 1) = f g := by rw [bM, if_pos ⟨hc, hm⟩]
  rw [q_mk, if_pos (by unfold bP; rw [hc, e]; simp), q_mk_f]
  intro j hj
  unfold bP
  rw [e]
  by_cases c : cn j = true
  · have := bM_le (f := f) hj c
    have h2 : ¬ f j = f g := by grind
    simp [h2]
  · simp [c]
theorem bP_eq {f : Nat → Int32} {cn : Nat → Bool} {g : Nat} (hc : cn g = true) (hm : f g = bM f cn g) : q_mk (bP f cn (g + 1)) (g + 1) = q_mk (bP f cn g) g ||| ((1 : Int32) <<< (Int32.ofNat g &&& 31)) := by
  have e : bM f cn (g + 1) = bM f cn g := by rw [bM, if_neg]; rintro ⟨_, q⟩; grind
  rw [q_mk, if_pos (by unfold bP; rw [hc, e, hm]; simp)]
  have : q_mk (bP f cn (g + 1)) g = q_mk (bP f cn g) g := q_mk_c (fun j _ => by unfold bP; rw [e])
  rw [this]
theorem bP_low {f : Nat → Int32} {cn : Nat → Bool} {g : Nat} (hm : ¬ bM f cn g < f g) (hm2 : ¬ f g = bM f cn g) : q_mk (bP f cn (g + 1)) (g + 1) = q_mk (bP f cn g) g := by
  have e : bM f cn (g + 1) = bM f cn g := by rw [bM, if_neg]; rintro ⟨_, q⟩; grind
  rw [q_mk, if_neg (by unfold bP; rw [e]; simp [hm2])]
  exact q_mk_c (fun j _ => by unfold bP; rw [e])
theorem bP_bar {f : Nat → Int32} {cn : Nat → Bool} {g : Nat} (hc : ¬ cn g = true) : q_mk (bP f cn (g + 1)) (g + 1) = q_mk (bP f cn g) g := by
  have e : bM f cn (g + 1) = bM f cn g := by rw [bM, if_neg]; rintro ⟨q, _⟩; exact hc q
  rw [q_mk, if_neg (by unfold bP; simp [hc])]
  exact q_mk_c (fun j _ => by unfold bP; rw [e])
theorem bM_new {f : Nat → Int32} {cn : Nat → Bool} {g : Nat} (hc : cn g = true) (hm : bM f cn g < f g) : bM f cn (g + 1) = f g := by rw [bM, if_pos ⟨hc, hm⟩]
theorem bM_old {f : Nat → Int32} {cn : Nat → Bool} {g : Nat} (hm : ¬ (cn g = true ∧ bM f cn g < f g)) : bM f cn (g + 1) = bM f cn g := by rw [bM, if_neg hm]
/-- a host's gains by choices (m: nobody), whom he can ask -/
def aF (n m : Nat) (cu lo : Int32) (W : Nat → Int32) (A : Nat → Nat) (k g : Nat) : Int32 := cG n cu lo W A k (if g = m then 6 else g)
def aC (m : Nat) (B : Nat → Int32) (k g : Nat) : Bool := decide (g = m) || decide (B (6 * k + g) = 0)
/-- his best answers (m: nobody) -/
def aP (n m : Nat) (cu lo : Int32) (W B : Nat → Int32) (A : Nat → Nat) (k : Nat) : Nat → Bool := bP (aF n m cu lo W A k) (aC m B k) (m + 1)
theorem cl_210 {D n m k g : Nat} {h : lm_H} {K : Int32 → lm_H → Prop} {cu lo : Int32} {W B : Nat → Int32} (hD : 2 ≤ D) (H : rt h n m cu lo W B) (hk : k < n) (hg : g ≤ m) (hK : K (if aC m B k g then 1 else 0) h) : lm_call D 210 [.ref 92, .int (Int32.ofNat k), .int (Int32.ofNat g)] h (lm_kI K) := by
  obtain ⟨d, rfl⟩ := q_dp hD
  obtain ⟨hl, h5, h6, hn, hm, h1, h2, h3⟩ := H
  refine e_210 _ _ hl ?_
  rw [hm]
  unfold aC at hK
  by_cases c : g = m
  · rw [if_pos (by rw [c])]
    simp only [c, decide_true, Bool.true_or, if_true] at hK
    exact hK
  · simp (disch := omega) only [q_add, q_mul, q_m7, q_m6, q_6m, q_7m, q_a1, q_5m, q_m5, q_71, q_11, q_87, q_41, q_76, q_5a, q_0a, q_a6, q_nat, q_in, q_lt, q_eq, q_lt0, if_true, if_false]
    have h4 := (h3 k hk g (by omega)).2
    rw [if_neg c, h4]
    by_cases c2 : B (6 * k + g) = 0
    · rw [if_pos c2]
      simp only [c, c2, decide_true, decide_false, Bool.or_true, if_true] at hK
      exact hK
    · rw [if_neg c2]
      simp only [c, c2, decide_false, Bool.or_false, Bool.false_eq_true, if_false] at hK
      exact hK
theorem lp_231 {d n m k : Nat} {h : lm_H} {K : Int32 → lm_H → Prop} {cu lo : Int32} {W B : Nat → Int32} {A : Nat → Nat} (hD : 3 ≤ d + 1) (H : rt h n m cu lo W B) (hA : ra h n m A) (hG : gA n m A) (hcu : cu = 0 ∨ cu = 1 ∨ cu = 2) (hk : k < n)
    (hK : K (q_mk (aP n m cu lo W B A k) (m + 1)) h) : ∀ r g, r + g = m + 1 → ∀ v, (lm_W (d + 1) 231 16 [some (.ref 92), some (.int (Int32.ofNat k)), some (.int (lm_i h 107 k)), some (.int (bM (aF n m cu lo W A k) (aC m B k) g)), some (.int (q_mk (bP (aF n m cu lo W A k) (aC m B k) g) g)), some (.int (Int32.ofNat g)), none] [] (lm_si h 107 k v) (lm_kI K)) := by
  have h5 : n ≤ 5 := H.2.1
  have h6 : m ≤ 6 := H.2.2.1
  have hm := H.2.2.2.2.1
  intro r
  induction r with
  | zero =>
    intro g hg v
    refine b_231_16 _ _ _ _ _ (lm_Lay_si H.1 _ _ _) ?_
    have : g = m + 1 := by omega
    subst this
    rw [show lm_i (lm_si h 107 k v) 94 82 = Int32.ofNat m from hm]
    simp (disch := omega) only [q_add, q_mul, q_m7, q_m6, q_6m, q_7m, q_a1, q_5m, q_m5, q_71, q_11, q_87, q_41, q_76, q_5a, q_0a, q_a6, q_nat, q_in, q_lt, q_eq, q_lt0, if_true, if_false]
    rw [if_pos (by omega), q_sisi, q_self]
    exact hK
  | succ r ih =>
    intro g hg v
    have H' := rt_si H (a := 107) (by omega) k v
    refine b_231_16 _ _ _ _ _ (lm_Lay_si H.1 _ _ _) ?_
    rw [show lm_i (lm_si h 107 k v) 94 82 = Int32.ofNat m from hm]
    simp (disch := omega) only [q_add, q_mul, q_m7, q_m6, q_6m, q_7m, q_a1, q_5m, q_m5, q_71, q_11, q_87, q_41, q_76, q_5a, q_0a, q_a6, q_nat, q_in, q_lt, q_eq, q_lt0, if_true, if_false]
    rw [if_neg (by omega)]
    refine cl_210 (by omega) H' (by omega) (by omega) ?_
    by_cases c : aC m B k g = true
    · rw [if_pos c, if_neg (by decide), q_sisi]
      have hA' : ra (lm_si h 107 k (Int32.ofNat g)) n m (fun j => if j = k then (if g = m then 6 else g) else A j) := by
        intro j hj
        rw [pi_si, if_pos rfl]
        by_cases e : j = k
        · rw [if_pos e]
          simp only [e, if_true]
          congr 1
          split <;> split <;> omega
        · rw [if_neg e]
          simp only [e, if_false]
          exact hA j hj
      have hG' : gA n m (fun j => if j = k then (if g = m then 6 else g) else A j) := by
        intro j hj
        simp only
        by_cases e : j = k
        · rw [if_pos e]
          split <;> omega
        · rw [if_neg e]
          exact hG j hj
      refine cm_214 (by omega) (rt_si H (a := 107) (by omega) k (Int32.ofNat g)) hA' hG' hcu hk ?_
      have ih1 := ih (g + 1) (by omega) (Int32.ofNat g)
      rw [show cG n cu lo W (fun j => if j = k then (if g = m then 6 else g) else A j) k (if k = k then (if g = m then 6 else g) else A k) = aF n m cu lo W A k g by rw [if_pos rfl]; exact cG_up _]
      by_cases c1 : bM (aF n m cu lo W A k) (aC m B k) g < aF n m cu lo W A k g
      · rw [if_pos c1, if_pos c1]
        rw [bP_new c c1, bM_new c c1] at ih1
        exact ih1
      · rw [if_neg c1, if_neg c1]
        rw [bM_old (fun q => c1 q.2)] at ih1
        by_cases c2 : aF n m cu lo W A k g = bM (aF n m cu lo W A k) (aC m B k) g
        · rw [if_pos c2]
          rw [bP_eq c c2] at ih1
          exact ih1
        · rw [if_neg c2]
          rw [bP_low c1 c2] at ih1
          rw [Int32.or_zero]
          exact ih1
    · rw [if_neg c, if_pos rfl]
      have ih1 := ih (g + 1) (by omega) v
      rw [bP_bar c, bM_old (fun q => c q.1)] at ih1
      exact ih1
theorem cl_231 {D n m k : Nat} {h : lm_H} {K : Int32 → lm_H → Prop} {cu lo : Int32} {W B : Nat → Int32} {A : Nat → Nat} (hD : 4 ≤ D) (H : rt h n m cu lo W B) (hA : ra h n m A) (hG : gA n m A) (hcu : cu = 0 ∨ cu = 1 ∨ cu = 2) (hk : k < n)
    (hK : K (q_mk (aP n m cu lo W B A k) (m + 1)) h) : lm_call D 231 [.ref 92, .int (Int32.ofNat k)] h (lm_kI K) := by
  obtain ⟨d, rfl⟩ := q_dp hD
  have h5 : n ≤ 5 := H.2.1
  refine e_231 _ H.1 ?_
  simp (disch := omega) only [q_add, q_mul, q_m7, q_m6, q_6m, q_7m, q_a1, q_5m, q_m5, q_71, q_11, q_87, q_41, q_76, q_5a, q_0a, q_a6, q_nat, q_in, q_lt, q_eq, q_lt0, if_true, if_false]
  have := lp_231 (d := d + 2) (by omega) H hA hG hcu hk hK (m + 1) 0 (by omega) (lm_i h 107 k)
  rw [q_self] at this
  exact this
