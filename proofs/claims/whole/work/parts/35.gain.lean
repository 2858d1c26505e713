/-! What a host gains: the reference (214) and the class (71) reckon alike. -/
/-- the reference's table -/
def rt (h : lm_H) (n m : Nat) (cu lo : Int32) (W B : Nat → Int32) : Prop :=
  lm_Lay h ∧ n ≤ 5 ∧ m ≤ 6 ∧ lm_i h 94 81 = Int32.ofNat n ∧ lm_i h 94 82 = Int32.ofNat m ∧ lm_i h 94 83 = cu ∧ lm_i h 94 84 = lo ∧
  ∀ k, k < n → ∀ g, g < m → lm_i h 104 (6 * k + g) = W (6 * k + g) ∧ lm_i h 105 (6 * k + g) = B (6 * k + g)
theorem rt_si {h : lm_H} {n m : Nat} {cu lo : Int32} {W B : Nat → Int32} (H : rt h n m cu lo W B) {a : Nat} (ha : a ≠ 94 ∧ a ≠ 104 ∧ a ≠ 105) (k : Nat) (v : Int32) : rt (lm_si h a k v) n m cu lo W B := by
  obtain ⟨h1, h2, h3, h4, h5, h6, h7, h8⟩ := H
  refine ⟨lm_Lay_si h1 _ _ _, h2, h3, ?_, ?_, ?_, ?_, fun j hj g hg => ?_⟩
  · rw [pi_si, if_neg (by omega)]; exact h4
  · rw [pi_si, if_neg (by omega)]; exact h5
  · rw [pi_si, if_neg (by omega)]; exact h6
  · rw [pi_si, if_neg (by omega)]; exact h7
  · rw [pi_si, if_neg (by omega), pi_si, if_neg (by omega)]; exact h8 j hj g hg
theorem q_cnt_cn (A : Nat → Int32) (g : Int32) (n : Nat) : sp_cnt A g n = Int32.ofNat (q_cn (fun j => decide (A j = g)) n) := by
  induction n with
  | zero => rfl
  | succ n ih =>
    rw [sp_cnt, q_cn, ih]
    by_cases c : A n = g
    · rw [if_pos c, if_pos (by simpa using c), q_a1]
    · rw [if_neg c, if_neg (by simpa using c), Int32.add_zero]
      rfl
theorem q_cn_rv {P : Nat → Bool} {k : Nat} (hP : P k = true) (n : Nat) : q_cn P n = q_rv 0 P k n + (if k < n then 1 else 0) := by
  induction n with
  | zero => rfl
  | succ n ih =>
    rw [q_cn, q_rv, ih]
    by_cases c : n = k
    · subst c
      simp [hP]
    · by_cases c2 : P n = true
      · simp [c, c2]
        split <;> split <;> omega
      · simp [c, c2]
        split <;> split <;> omega
theorem q_rv_1a (P : Nat → Bool) (k j : Nat) (hj : j ≤ k) : q_rv 1 P k j = q_cn P j := by
  induction j with
  | zero => rfl
  | succ j ij =>
    rw [q_rv, q_cn, ij (by omega)]
    have h1 : ¬ j = k := by omega
    have h2 : j < k := by omega
    simp [h1, h2]
theorem q_rv_1 (P : Nat → Bool) (k n : Nat) (h : k ≤ n) : q_rv 1 P k n = q_cn P k := by
  induction n with
  | zero =>
    have : k = 0 := by omega
    subst this
    rfl
  | succ n ih =>
    by_cases c : k = n + 1
    · subst c
      exact q_rv_1a P (n + 1) (n + 1) (Nat.le_refl _)
    · rw [q_rv, ih (by omega), if_neg (by rintro ⟨_, _, h3⟩; have := h3 rfl; omega), Nat.add_zero]
theorem q_cn_ex (A : Nat → Int32) (g : Int32) (k : Nat) : q_cn (fun j => decide (A j = g)) k = 0 ↔ ¬ sp_ex A g k := by
  induction k with
  | zero => simp [q_cn, sp_ex]
  | succ k ih =>
    rw [q_cn, sp_ex]
    by_cases c : A k = g
    · simp [c]
    · simp [c, ih]
theorem q_lot {c : Nat} (hc : c < 5) (w lo : Int32) : 60 / Int32.ofNat (c + 1) * (w + (Int32.ofNat (c + 1) - 1) * lo) = 60 / (Int32.ofNat c + 1) * (w - lo) + 60 * lo := by
  have h0 : (60 : Int32) / Int32.ofNat 1 = 60 := by decide
  have h1 : (60 : Int32) / Int32.ofNat 2 = 30 := by decide
  have h2 : (60 : Int32) / Int32.ofNat 3 = 20 := by decide
  have h3 : (60 : Int32) / Int32.ofNat 4 = 15 := by decide
  have h4 : (60 : Int32) / Int32.ofNat 5 = 12 := by decide
  rw [q_a1]
  match c, hc with
  | 0, _ =>
    have : Int32.ofNat (0 + 1) = 1 := rfl
    rw [h0, this]; grind
  | 1, _ =>
    have : Int32.ofNat (1 + 1) = 2 := rfl
    rw [h1, this]; grind
  | 2, _ =>
    have : Int32.ofNat (2 + 1) = 3 := rfl
    rw [h2, this]; grind
  | 3, _ =>
    have : Int32.ofNat (3 + 1) = 4 := rfl
    rw [h3, this]; grind
  | 4, _ =>
    have : Int32.ofNat (4 + 1) = 5 := rfl
    rw [h4, this]; grind
theorem cl_214 {D n m : Nat} {h : lm_H} {K : Int32 → lm_H → Prop} {cu lo : Int32} {W B : Nat → Int32} (hD : 3 ≤ D) (H : rt h n m cu lo W B) {k g : Nat} (hk : k < n) (hA : lm_i h 107 k = Int32.ofNat g) (hg : g ≤ m) (hcu : cu = 0 ∨ cu = 1 ∨ cu = 2)
    (hK : K (q_gn n cu lo (if g = m then lo else W (6 * k + g)) (fun j => decide (lm_i h 107 j = Int32.ofNat g)) k) h) : lm_call D 214 [.ref 92, .int (Int32.ofNat k)] h (lm_kI K) := by
  obtain ⟨d, rfl⟩ := q_dp hD
  obtain ⟨hl, h5, h6, hn, hm, h1, h2, h3⟩ := H
  refine e_214 _ hl ?_
  simp (disch := omega) only [q_add, q_mul, q_m7, q_m6, q_6m, q_7m, q_a1, q_5m, q_m5, q_71, q_11, q_87, q_41, q_76, q_5a, q_0a, q_a6, q_nat, q_in, q_lt, q_eq, q_lt0, if_true, if_false, hm, hA]
  have hc := q_cn_rv (P := fun j => decide (lm_i h 107 j = Int32.ofNat g)) (k := k) (by simpa using hA) n
  rw [if_pos hk] at hc
  have hrv := q_rv_lt (cu := 0) (fun j => decide (lm_i h 107 j = Int32.ofNat g)) hk
  by_cases c1 : g = m
  · rw [if_pos c1] at hK ⊢
    rw [q_gn_lo] at hK
    rw [h2]
    exact hK
  · rw [if_neg c1] at hK ⊢
    refine cl_213 _ n hl hn h5 ?_
    have h3' := (h3 k hk g (by omega)).1
    rw [q_cnt_cn, hc, h1, h2, h3']
    rcases hcu with rfl | rfl | rfl
    · rw [if_pos rfl]
      rw [q_gn, q_sh] at hK
      have e1 : (1 : Int32) = Int32.ofNat 1 := rfl
      by_cases c2 : q_rv 0 (fun j => decide (lm_i h 107 j = Int32.ofNat g)) k n = 0
      · rw [if_pos c2] at hK
        rw [if_pos (by rw [e1, q_eq (by omega) (by omega)]; omega)]
        have : 60 * W (6 * k + g) = 60 * (W (6 * k + g) - lo) + 60 * lo := by grind
        rw [this]
        exact hK
      · rw [if_neg c2, if_neg (by decide)] at hK
        rw [if_neg (by rw [e1, q_eq (by omega) (by omega)]; omega)]
        have : 60 * lo = 0 * (W (6 * k + g) - lo) + 60 * lo := by grind
        rw [this]
        exact hK
    · rw [if_neg (by decide), if_neg (by decide)]
      rw [q_gn, q_sh, q_rv_1 _ k n (by omega)] at hK
      have hh := q_cn_ex (lm_i h 107) (Int32.ofNat g) k
      refine lp_214 lo _ _ k hl (by omega) (fun hx => ?_) (fun hx => ?_) k 0 (by omega) (fun _ q => q.elim) (fun q => q.elim)
      · rw [if_neg (by rw [hh]; exact fun q => q hx), if_neg (by decide)] at hK
        have : 60 * lo = 0 * (W (6 * k + g) - lo) + 60 * lo := by grind
        rw [this]
        exact hK
      · rw [if_pos (by rw [hh]; exact hx)] at hK
        have : 60 * W (6 * k + g) = 60 * (W (6 * k + g) - lo) + 60 * lo := by grind
        rw [this]
        exact hK
    · rw [if_neg (by decide), if_pos rfl]
      rw [q_rv_cu (by decide)] at hc hrv
      rw [q_gn, q_sh, q_rv_cu (by decide)] at hK
      refine ⟨by rw [q_e0 (by omega)]; omega, ?_⟩
      rw [q_lot (by omega)]
      by_cases c2 : q_rv 0 (fun j => decide (lm_i h 107 j = Int32.ofNat g)) k n = 0
      · rw [if_pos c2] at hK
        rw [c2]
        exact hK
      · rw [if_neg c2, if_pos rfl] at hK
        exact hK
