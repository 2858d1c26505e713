/-! The year: draws and wishes. -/
def dr (s : Nat) : Nat := (s * 1103 + 12345) % 1000003
theorem dr_lt (s : Nat) : dr s < 1000003 := Nat.mod_lt _ (by decide)
theorem cl_87 {D s c : Nat} {h : lm_H} {K : Int32 → lm_H → Prop} (hD : 1 ≤ D) (hl : lm_Lay h) (hs : s < 1000003) (hc : 0 < c) (hc2 : c < 1000000) (h6 : lm_i h 58 6 = Int32.ofNat s) (hK : K (Int32.ofNat (dr s % c)) (lm_si h 58 6 (Int32.ofNat (dr s)))) : lm_call D 87 [.ref 58, .int (Int32.ofNat c)] h (lm_kI K) := by
  obtain ⟨d, rfl⟩ := q_dp hD
  refine e_87 _ hl ?_
  have e1 : (1103 : Int32) = Int32.ofNat 1103 := rfl
  have e2 : (12345 : Int32) = Int32.ofNat 12345 := rfl
  have e3 : (1000003 : Int32) = Int32.ofNat 1000003 := rfl
  have hd := dr_lt s
  rw [h6, e1, e2, e3, q_mul, q_add, q_div (by omega) (by omega), q_mod]
  rw [show (s * 1103 + 12345) % 1000003 = dr s from rfl, q_div (by omega) (by omega), q_mod, if_pos (by rw [q_0l (by omega)]; exact hc)]
  exact ⟨by rw [q_e0 (by omega)]; omega, hK⟩
theorem l_div {a b : Nat} (ha : a < 4000000000000) (hb : b < 4000000000000) : Int64.ofInt a / Int64.ofInt b = Int64.ofInt ((a / b : Nat) : Int) := by
  have hab : a / b ≤ a := Nat.div_le_self a b
  have e : ((a : Int).tdiv (b : Int)) = ((a / b : Nat) : Int) := rfl
  rw [← Int64.toInt_inj, Int64.toInt_div, Int64.toInt_ofInt_of_le (by omega) (by omega), Int64.toInt_ofInt_of_le (by omega) (by omega), e]
  generalize a / b = q at hab
  rw [Int64.toInt_ofInt_of_le (by omega) (by omega)]
  exact Int.bmod_eq_of_le (by omega) (by omega)
theorem cl_252 {D s c : Nat} {h : lm_H} {K : Int32 → lm_H → Prop} (hD : 1 ≤ D) (hl : lm_Lay h) (hs : s < 1000003) (hc : 0 < c) (hc2 : c < 1000000) (h6 : lm_i h 92 57 = Int32.ofNat s) (hK : K (Int32.ofNat (dr s % c)) (lm_si h 92 57 (Int32.ofNat (dr s)))) : lm_call D 252 [.ref 92, .int (Int32.ofNat c)] h (lm_kI K) := by
  obtain ⟨d, rfl⟩ := q_dp hD
  refine e_252 _ hl ?_
  have e1 : (1103 : Int64) = Int64.ofInt 1103 := rfl
  have e2 : (12345 : Int64) = Int64.ofInt 12345 := rfl
  have e3 : (1000003 : Int64) = Int64.ofInt ((1000003 : Nat) : Int) := rfl
  have hd := dr_lt s
  have key : ((((1103 * ((lm_i h 92 57).toInt64)) + 12345) - ((1103 * ((lm_i h 92 57).toInt64)) + 12345) / 1000003 * 1000003).toInt32) = Int32.ofNat (dr s) := by
    rw [h6, l_nat (by omega), e1, e2, e3, l_mul, l_add]
    have ea : (1103 : Int) * (s : Int) + 12345 = ((s * 1103 + 12345 : Nat) : Int) := by omega
    rw [ea, l_div (by omega) (by omega), l_mul]
    have hm : ((s * 1103 + 12345 : Nat) : Int) - ((s * 1103 + 12345) / 1000003 : Nat) * ((1000003 : Nat) : Int) = ((dr s : Nat) : Int) := by
      unfold dr
      omega
    rw [← Int64.ofInt_sub, hm, Int64.toInt32_ofInt]
    rfl
  rw [key, q_div (by omega) (by omega), q_mod]
  exact ⟨by rw [q_e0 (by omega)]; omega, hK⟩
/-- the first guest to whom the roll d falls, or 6 -/
def eS (E : Nat → Nat) (k : Nat) : Nat → Nat
  | 0 => 0
  | g + 1 => eS E k g + E (6 * k + g)
def rl (E : Nat → Nat) (k m d : Nat) : Nat := q_fi (fun g => decide (d < eS E k (g + 1))) 6 m
theorem q_fi_hit {P : Nat → Bool} {e n j : Nat} (hj : j < n) (hn : n ≤ e) (h0 : ∀ i, i < j → P i = false) (hP : P j = true) : q_fi P e n = j := q_fi_at hj h0 hP (Or.inl (by omega))
theorem cl_89 {D m k s : Nat} {h : lm_H} {K : Int32 → lm_H → Prop} {E : Nat → Nat} (hD : 2 ≤ D) (hl : lm_Lay h) (hs : s < 1000003) (h58 : lm_i h 58 6 = Int32.ofNat s) (h6 : m ≤ 6) (hk : k < 5) (hm : lm_i h 59 1 = Int32.ofNat m) (hE : ∀ g, g < m → E (6 * k + g) ≤ 10 ∧ lm_i h 6 (k * 6 + g) = Int32.ofNat (E (6 * k + g))) (hK : K (Int32.ofNat (rl E k m (dr s % 10))) (lm_si h 58 6 (Int32.ofNat (dr s)))) : lm_call D 89 [.ref 58, .ref 1, .int (Int32.ofNat k)] h (lm_kI K) := by
  obtain ⟨d, rfl⟩ := q_dp hD
  refine e_89 _ hl ?_
  refine cl_87 (c := 10) (by omega) hl hs (by omega) (by omega) h58 ?_
  have lp : ∀ r g : Nat, r + g = m → (∀ i, i < g → ¬ dr s % 10 < eS E k (i + 1)) → eS E k g ≤ 10 * g → (lm_W (d + 1) 89 13 [some (.ref 58), some (.ref 1), some (.int (Int32.ofNat k)), some (.int (Int32.ofNat (dr s % 10))), some (.int (Int32.ofNat (eS E k g))), some (.int (Int32.ofNat g))] [] (lm_si h 58 6 (Int32.ofNat (dr s))) (lm_kI K)) := by
    intro r
    induction r with
    | zero =>
      intro g hg hno _
      have eg : g = m := by omega
      rw [eg] at hno ⊢
      refine b_89_13 _ _ _ _ (lm_Lay_si hl _ _ _) ?_
      rw [show lm_i (lm_si h 58 6 (Int32.ofNat (dr s))) 59 1 = Int32.ofNat m from hm, if_neg (by rw [q_lt (by omega) (by omega)]; omega)]
      have e : rl E k m (dr s % 10) = 6 := by
        unfold rl
        refine q_fi_none (fun i hi => ?_)
        simpa using hno i hi
      rw [e] at hK
      exact hK
    | succ r ih =>
      intro g hg hno hb
      obtain ⟨e1, e2⟩ := hE g (by omega)
      have hi := ih (g + 1) (by omega)
      rw [eS] at hi
      refine b_89_13 _ _ _ _ (lm_Lay_si hl _ _ _) ?_
      rw [show lm_i (lm_si h 58 6 (Int32.ofNat (dr s))) 59 1 = Int32.ofNat m from hm, if_pos (by rw [q_lt (by omega) (by omega)]; omega), q_m6, q_add, q_in (by omega) (by omega), q_nat (by omega), show lm_i (lm_si h 58 6 (Int32.ofNat (dr s))) 6 (k * 6 + g) = Int32.ofNat (E (6 * k + g)) from e2, q_add, q_a1]
      by_cases c : dr s % 10 < eS E k g + E (6 * k + g)
      · rw [if_pos (by rw [q_lt (by omega) (by omega)]; exact c)]
        have e : rl E k m (dr s % 10) = g := by
          unfold rl
          refine q_fi_hit (by omega) h6 (fun i hi => by simpa using hno i hi) ?_
          exact decide_eq_true c
        rw [e] at hK
        exact hK
      · rw [if_neg (by rw [q_lt (by omega) (by omega)]; exact c)]
        refine hi (fun i hi2 => ?_) (by omega)
        by_cases ei : i = g
        · rw [ei, eS]; exact c
        · exact hno i (by omega)
  exact lp m 0 (by omega) (fun i hi => by omega) (by rw [eS]; omega)
/-- a choice as the reference writes it -/
def nC (a : Nat) : Int32 := if a = 6 then -1 else Int32.ofNat a
theorem lp_253r {d n m k d0 : Nat} {h : lm_H} {K : Int32 → lm_H → Prop} {cu lo : Int32} {W B : Nat → Int32} {E : Nat → Nat} (H : rt h n m cu lo W B) (hk : k < 5) (hd : d0 < 10) (hE : ∀ g, g < m → E (6 * k + g) ≤ 10 ∧ lm_i h 94 (41 + 6 * k + g) = Int32.ofNat (E (6 * k + g))) (hK : K (nC (rl E k m d0)) h) : (lm_W (d + 1) 253 48 [some (.ref 92), some (.int (Int32.ofNat k)), none, none, none, none, some (.int (Int32.ofNat d0)), some (.int 0), some (.int 0), none] [] h (lm_kI K)) := by
  have h6 := H.2.2.1
  have lp : ∀ r g : Nat, r + g = m → (∀ i, i < g → ¬ d0 < eS E k (i + 1)) → eS E k g ≤ 10 * g → (lm_W (d + 1) 253 48 [some (.ref 92), some (.int (Int32.ofNat k)), none, none, none, none, some (.int (Int32.ofNat d0)), some (.int (Int32.ofNat (eS E k g))), some (.int (Int32.ofNat g)), none] [] h (lm_kI K)) := by
    intro r
    induction r with
    | zero =>
      intro g hg hno _
      have eg : g = m := by omega
      rw [eg] at hno ⊢
      refine b_253_48 _ _ _ _ H.1 ?_
      rw [H.2.2.2.2.1, if_neg (by rw [q_lt (by omega) (by omega)]; omega)]
      have e : rl E k m d0 = 6 := by
        unfold rl
        refine q_fi_none (fun i hi => ?_)
        simpa using hno i hi
      rw [e] at hK
      exact hK
    | succ r ih =>
      intro g hg hno hb
      obtain ⟨e1, e2⟩ := hE g (by omega)
      have hi := ih (g + 1) (by omega)
      rw [eS] at hi
      refine b_253_48 _ _ _ _ H.1 ?_
      rw [H.2.2.2.2.1, if_pos (by rw [q_lt (by omega) (by omega)]; omega), q_6m, q_41, q_add, q_in (by omega) (by omega), q_nat (by omega), e2, q_add, q_a1]
      by_cases c : d0 < eS E k g + E (6 * k + g)
      · rw [if_pos (by rw [q_lt (by omega) (by omega)]; exact c)]
        have e : rl E k m d0 = g := by
          unfold rl
          refine q_fi_hit (by omega) h6 (fun i hi => by simpa using hno i hi) ?_
          exact decide_eq_true c
        rw [e, nC, if_neg (by omega)] at hK
        exact hK
      · rw [if_neg (by rw [q_lt (by omega) (by omega)]; exact c)]
        refine hi (fun i hi2 => ?_) (by omega)
        by_cases ei : i = g
        · rw [ei, eS]; exact c
        · exact hno i (by omega)
  exact lp m 0 (by omega) (fun i hi => by omega) (by rw [eS]; omega)
/-- the most hoped for -/
def hp (f : Nat → Int32) : Nat → Int32 × Nat
  | 0 => (0, 6)
  | g + 1 => if (hp f g).1 < f g then (f g, g) else hp f g
theorem hp_le (f : Nat → Int32) (g : Nat) : (hp f g).2 < g ∨ (hp f g).2 = 6 := by
  induction g with
  | zero => exact Or.inr rfl
  | succ g ih =>
    rw [hp]
    split
    · exact Or.inl (by show g < g + 1; omega)
    · omega
theorem cl_90 {D n m k : Nat} {h : lm_H} {K : Int32 → lm_H → Prop} {cu lo : Int32} {W B : Nat → Int32} {u : Nat → Int32} (hD : 2 ≤ D) (H : ct h 59 n m cu lo W B) (hk : k < n) (hu : ∀ g, g < m → lm_i h 68 (k * 6 + g) = u (6 * k + g)) (hK : K (Int32.ofNat (hp (fun g => (W (6 * k + g) - lo) * u (6 * k + g)) m).2) h) : lm_call D 90 [.ref 58, .int (Int32.ofNat k)] h (lm_kI K) := by
  obtain ⟨d, rfl⟩ := q_dp hD
  have h5 := H.2.1
  have h6 := H.2.2.1
  refine e_90 _ H.1 ?_
  have lp : ∀ r g : Nat, r + g = m → (lm_W (d + 1) 90 8 [some (.ref 58), some (.int (Int32.ofNat k)), some (.int ((hp (fun g => (W (6 * k + g) - lo) * u (6 * k + g)) g).1)), some (.int (Int32.ofNat (hp (fun g => (W (6 * k + g) - lo) * u (6 * k + g)) g).2)), some (.int (Int32.ofNat g)), none] [] h (lm_kI K)) := by
    intro r
    induction r with
    | zero =>
      intro g hg
      have eg : g = m := by omega
      rw [eg]
      refine b_90_8 _ _ _ _ H.1 ?_
      rw [H.2.2.2.2.1, if_neg (by rw [q_lt (by omega) (by omega)]; omega)]
      exact hK
    | succ r ih =>
      intro g hg
      have hwo : lm_i h 60 (k * 7 + g) = W (6 * k + g) := (H.2.2.2.2.2.2.2.1 k hk g (by omega)).1
      have hlo : lm_i h 59 3 = lo := H.2.2.2.2.2.2.1
      have hi := ih (g + 1) (by omega)
      rw [hp] at hi
      refine b_90_8 _ _ _ _ H.1 ?_
      rw [H.2.2.2.2.1, if_pos (by rw [q_lt (by omega) (by omega)]; omega), q_m7, q_m6, q_add, q_add, q_in (by omega) (by omega), q_in (by omega) (by omega), q_nat (by omega), q_nat (by omega), hwo, hlo, hu g (by omega), q_a1]
      by_cases c : (hp (fun g => (W (6 * k + g) - lo) * u (6 * k + g)) g).1 < (W (6 * k + g) - lo) * u (6 * k + g)
      · rw [if_pos c] at hi ⊢
        exact hi
      · rw [if_neg c] at hi ⊢
        exact hi
  exact lp m 0 (by omega)
theorem lp_253h {d n m k : Nat} {h : lm_H} {K : Int32 → lm_H → Prop} {cu lo : Int32} {W B : Nat → Int32} {u : Nat → Int32} (H : rt h n m cu lo W B) (hk : k < n) (hu : ∀ g, g < m → lm_i h 118 (6 * k + g) = u (6 * k + g)) (hK : K (nC (hp (fun g => (W (6 * k + g) - lo) * u (6 * k + g)) m).2) h) : (lm_W (d + 1) 253 209 [some (.ref 92), some (.int (Int32.ofNat k)), none, none, none, none, some (.int (-1)), some (.int 0), some (.int 0), none] [] h (lm_kI K)) := by
  have h5 := H.2.1
  have h6 := H.2.2.1
  have lp : ∀ r g : Nat, r + g = m → (lm_W (d + 1) 253 209 [some (.ref 92), some (.int (Int32.ofNat k)), none, none, none, none, some (.int (nC (hp (fun g => (W (6 * k + g) - lo) * u (6 * k + g)) g).2)), some (.int ((hp (fun g => (W (6 * k + g) - lo) * u (6 * k + g)) g).1)), some (.int (Int32.ofNat g)), none] [] h (lm_kI K)) := by
    intro r
    induction r with
    | zero =>
      intro g hg
      have eg : g = m := by omega
      rw [eg]
      refine b_253_209 _ _ _ _ H.1 ?_
      rw [H.2.2.2.2.1, if_neg (by rw [q_lt (by omega) (by omega)]; omega)]
      exact hK
    | succ r ih =>
      intro g hg
      have hwo := (H.2.2.2.2.2.2.2 k hk g (by omega)).1
      have hlo := H.2.2.2.2.2.2.1
      have hi := ih (g + 1) (by omega)
      rw [hp] at hi
      refine b_253_209 _ _ _ _ H.1 ?_
      rw [H.2.2.2.2.1, if_pos (by rw [q_lt (by omega) (by omega)]; omega), q_6m, q_add, q_in (by omega) (by omega), q_in (by omega) (by omega), q_nat (by omega), hwo, hlo, hu g (by omega), q_a1]
      by_cases c : (hp (fun g => (W (6 * k + g) - lo) * u (6 * k + g)) g).1 < (W (6 * k + g) - lo) * u (6 * k + g)
      · rw [if_pos c] at hi ⊢
        simp only [nC] at hi
        rw [if_neg (by omega)] at hi
        exact hi
      · rw [if_neg c] at hi ⊢
        exact hi
  exact lp m 0 (by omega)
