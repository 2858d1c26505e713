theorem p_onI {k : Nat} (hk : k < 2147483648) : (Int32.ofNat k).toInt = k := by
  rw [Int32.toInt_ofNat', p_bm (by omega) (by omega)]
theorem p_on {k : Nat} (hk : k < 2147483648) : (Int32.ofNat k).toNatClampNeg = k := by
  rw [p_nat, p_onI hk]
  rfl
theorem p_onS (k : Nat) : Int32.ofNat k + 1 = Int32.ofNat (k + 1) := by
  rw [Int32.ofNat_add]
  rfl
theorem p_onlt {a b : Nat} (ha : a < 2147483648) (hb : b < 2147483648) : Int32.ofNat a < Int32.ofNat b ↔ a < b := by
  rw [p_lt, p_onI ha, p_onI hb]
  omega
theorem p_inN {k n : Nat} {A : Prop} (hk : k < n) (hn : n < 2147483648) (hA : A) : lm_in (Int32.ofNat k) n False A := p_in (by rw [p_onI (by omega)]; omega) (by rw [p_onI (by omega)]; omega) hA
/-- how many of the first n are g -/
def sp_cnt (A : Nat → Int32) (g : Int32) : Nat → Int32
  | 0 => 0
  | n + 1 => sp_cnt A g n + (if A n = g then 1 else 0)
theorem lp_213 {d : Nat} {h : lm_H} {K : Int32 → lm_H → Prop} (g : Int32) (n : Nat) (hl : lm_Lay h) (hn : lm_i h 94 81 = Int32.ofNat n) (h5 : n ≤ 5) (hK : K (sp_cnt (lm_i h 107) g n) h) : ∀ m k, m + k = n →
    lm_W (d + 1) 213 4 [some (.ref 92), some (.int g), some (.int (sp_cnt (lm_i h 107) g k)), some (.int (Int32.ofNat k))] [] h (lm_kI K) := by
  intro m
  induction m with
  | zero =>
    intro k hk
    refine b_213_4 _ _ _ hl ?_
    rw [hn, if_neg (by rw [p_onlt (by omega) (by omega)]; omega)]
    have : k = n := by omega
    rw [this]
    exact hK
  | succ m ih =>
    intro k hk
    refine b_213_4 _ _ _ hl ?_
    rw [hn, if_pos ((p_onlt (by omega) (by omega)).2 (by omega))]
    refine p_inN (by omega) (by omega) ?_
    rw [p_on (by omega), p_onS]
    have := ih (k + 1) (by omega)
    rw [sp_cnt] at this
    split
    · rename_i c
      rw [if_pos c] at this
      exact this
    · rename_i c
      rw [if_neg c] at this
      exact this
theorem cl_213 {d : Nat} {h : lm_H} {K : Int32 → lm_H → Prop} (g : Int32) (n : Nat) (hl : lm_Lay h) (hn : lm_i h 94 81 = Int32.ofNat n) (h5 : n ≤ 5) (hK : K (sp_cnt (lm_i h 107) g n) h) : lm_call (d + 2) 213 [.ref 92, .int g] h (lm_kI K) :=
  e_213 g hl (lp_213 g n hl hn h5 hK n 0 (by omega))
/-- whether one of the first n is g -/
def sp_ex (A : Nat → Int32) (g : Int32) : Nat → Prop
  | 0 => False
  | n + 1 => sp_ex A g n ∨ A n = g
theorem lp_214 {d : Nat} {h : lm_H} {K : Int32 → lm_H → Prop} (lo g w : Int32) (n : Nat) (hl : lm_Lay h) (h5 : n ≤ 5) (h1 : sp_ex (lm_i h 107) g n → K (60 * lo) h) (h2 : ¬ sp_ex (lm_i h 107) g n → K (60 * w) h) : ∀ m k, m + k = n → (sp_ex (lm_i h 107) g n → sp_ex (lm_i h 107) g k → K (60 * lo) h) → ¬ sp_ex (lm_i h 107) g k →
    lm_W (d + 1) 214 104 [some (.ref 92), some (.int (Int32.ofNat n)), some (.int lo), some (.int g), none, some (.int w), some (.int (Int32.ofNat k))] [] h (lm_kI K) := by
  intro m
  induction m with
  | zero =>
    intro k hk _ hx
    refine b_214_104 _ _ _ _ _ hl ?_
    have : k = n := by omega
    subst this
    rw [if_neg (by rw [p_onlt (by omega) (by omega)]; omega)]
    exact h2 hx
  | succ m ih =>
    intro k hk hy hx
    refine b_214_104 _ _ _ _ _ hl ?_
    rw [if_pos ((p_onlt (by omega) (by omega)).2 (by omega))]
    refine p_inN (by omega) (by omega) ?_
    rw [p_on (by omega), p_onS]
    by_cases c : lm_i h 107 k = g
    · rw [if_pos c]
      refine h1 ?_
      have : ∀ j, k < j → sp_ex (lm_i h 107) g j := by
        intro j hj
        induction j with
        | zero => omega
        | succ j ij =>
          by_cases e : k = j
          · subst e
            exact Or.inr c
          · exact Or.inl (ij (by omega))
      exact this n (by omega)
    · rw [if_neg c]
      refine ih (k + 1) (by omega) (fun a _ => h1 a) ?_
      intro hh
      rcases hh with hh | hh
      · exact hx hh
      · exact c hh
def sp_exb (A : Nat → Int32) (g : Int32) : Nat → Bool
  | 0 => false
  | n + 1 => sp_exb A g n || decide (A n = g)
theorem sp_exb_ex (A : Nat → Int32) (g : Int32) (n : Nat) : sp_ex A g n ↔ sp_exb A g n = true := by
  induction n with
  | zero => simp [sp_ex, sp_exb]
  | succ n ih => simp [sp_ex, sp_exb, ih]
/-- the same as a number -/
def sp_cn (A : Nat → Int32) (g : Int32) : Nat → Nat
  | 0 => 0
  | n + 1 => sp_cn A g n + (if A n = g then 1 else 0)
theorem sp_cnt_cn (A : Nat → Int32) (g : Int32) (n : Nat) : sp_cnt A g n = Int32.ofNat (sp_cn A g n) ∧ sp_cn A g n ≤ n := by
  induction n with
  | zero => exact ⟨rfl, Nat.le_refl 0⟩
  | succ n ih =>
    rw [sp_cnt, sp_cn, ih.1]
    by_cases c : A n = g
    · rw [if_pos c, if_pos c, p_onS]
      exact ⟨rfl, by omega⟩
    · rw [if_neg c, if_neg c, Int32.add_zero]
      exact ⟨rfl, by omega⟩
theorem sp_cn_pos {A : Nat → Int32} {g : Int32} {k : Nat} (hA : A k = g) {n : Nat} (hk : k < n) : 1 ≤ sp_cn A g n := by
  induction n with
  | zero => omega
  | succ n ih =>
    rw [sp_cn]
    by_cases e : k = n
    · subst e
      rw [if_pos hA]
      omega
    · have := ih (by omega)
      omega
/-- what a host gains, as the reference reckons -/
def sp_gain (n : Nat) (A W : Nat → Int32) (cu lo G : Int32) (k : Nat) : Int32 :=
  if A k = G then 60 * lo else if cu = 0 then (if sp_cnt A (A k) n = 1 then 60 * W (6 * k + (A k).toNatClampNeg) else 60 * lo) else
  if cu = 2 then 60 / sp_cnt A (A k) n * (W (6 * k + (A k).toNatClampNeg) + (sp_cnt A (A k) n - 1) * lo) else
  if sp_exb A (A k) k then 60 * lo else 60 * W (6 * k + (A k).toNatClampNeg)
