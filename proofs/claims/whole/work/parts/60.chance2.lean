/-! Chances: the class's dice, means, restlessness. -/
/-- alone, as of 10 multiplied n times -/
def aL (n : Nat) (lo : Int32) : Int := 60 * lo.toInt * 10 ^ n
def mN (n m : Nat) (cu lo : Int32) (W : Nat → Int32) (t : Nat → Nat → Nat) (x : Nat) : Int := aL n lo + si (fun g => (t x g : Int) * bT n cu lo (W (6 * x + g)) x (fun k => t k g)) m
theorem cl_2 {D n m : Nat} {h : lm_H} {K : Int64 → lm_H → Prop} {cu lo : Int32} {W B : Nat → Int32} (hD : 1 ≤ D) (H : ct h 21 n m cu lo W B) (hK : K (Int64.ofInt (aL n lo)) h) : lm_call D 2 [.ref 21] h (lm_kL K) := by
  obtain ⟨d, rfl⟩ := q_dp hD
  have h5 := H.2.1
  refine e_2 H.1 ?_
  have lp : ∀ r k : Nat, r + k = n → (lm_W (d) 2 12 [some (.ref 21), some (.long (Int64.ofInt (60 * lo.toInt * 10 ^ k))), none, some (.int (Int32.ofNat k))] [] h (lm_kL K)) := by
    intro r
    induction r with
    | zero =>
      intro k hk
      have e : k = n := by omega
      rw [e]
      refine b_2_12 _ _ H.1 ?_
      rw [H.2.2.2.1, if_neg (by rw [q_lt (by omega) (by omega)]; omega)]
      exact hK
    | succ r ih =>
      intro k hk
      refine b_2_12 _ _ H.1 ?_
      have e10 : (10 : Int64) = Int64.ofInt 10 := rfl
      rw [H.2.2.2.1, if_pos (by rw [q_lt (by omega) (by omega)]; omega), e10, l_mul, Int.mul_assoc, ← Int.pow_succ, q_a1]
      exact ih (k + 1) (by omega)
  have := lp n 0 (by omega)
  rw [Int.pow_zero, Int.mul_one] at this
  have e60 : (60 : Int64) = Int64.ofInt 60 := rfl
  rw [H.2.2.2.2.2.2.1, l_of, e60, l_mul]
  exact this
theorem ctn_fr {S T : List Nat} {h h' : lm_H} {n m : Nat} {t : Nat → Nat → Nat} (a : fr S T h h') (H : ctn h n m t) (h0 : S.contains 53 = false) : ctn h' n m t := by
  intro k hk g hg
  rw [fr_i a h0 (by decide)]
  exact H k hk g hg
theorem cl_5 {D n m x : Nat} {h : lm_H} {K : Int64 → lm_H → Prop} {cu lo : Int32} {W B : Nat → Int32} {t : Nat → Nat → Nat} (hD : 4 ≤ D) (H : ct h 21 n m cu lo W B) (hw : wd n m cu lo W) (ht : ctn h n m t) (hx : x < n)
    (hK : ∀ h', fr [54] [] h h' → K (Int64.ofInt (mN n m cu lo W t x)) h') : lm_call D 5 [.ref 52, .ref 21, .int (Int32.ofNat x)] h (lm_kL K) := by
  obtain ⟨d, rfl⟩ := q_dp hD
  have h5 := H.2.1
  have h6 := H.2.2.1
  refine e_5 _ H.1 ?_
  refine cl_2 (by omega) H ?_
  have lp : ∀ r k : Nat, r + k = m → ∀ z, fr [54] [] h z → (lm_W ((d + 2) + 1) 5 8 [some (.ref 52), some (.ref 21), some (.int (Int32.ofNat x)), some (.long (Int64.ofInt (aL n lo + si (fun g => (t x g : Int) * bT n cu lo (W (6 * x + g)) x (fun k => t k g)) k))), none, some (.int (Int32.ofNat k))] [] z (lm_kL K)) := by
    intro r
    induction r with
    | zero =>
      intro k hk z hf
      have e : k = m := by omega
      rw [e]
      have Hz := ct_fr hf H (by decide)
      refine b_5_8 _ _ _ Hz.1 ?_
      rw [Hz.2.2.2.2.1, if_neg (by rw [q_lt (by omega) (by omega)]; omega)]
      exact hK z hf
    | succ r ih =>
      intro k hk z hf
      have Hz := ct_fr hf H (by decide)
      have htz := ctn_fr hf ht (by decide)
      have htk := htz x hx k (by omega)
      refine b_5_8 _ _ _ Hz.1 ?_
      rw [Hz.2.2.2.2.1, if_pos (by rw [q_lt (by omega) (by omega)]; omega), q_m6, q_add, q_in (by omega) (by omega), q_nat (by omega), htk.2]
      refine cl_3 (by omega) Hz hw htz hx (by omega) (fun z1 hf1 => ?_)
      rw [l_nat (by omega), l_mul, l_add, q_a1, Int.add_assoc]
      exact ih (k + 1) (by omega) z1 (fr_trans hf hf1)
  have := lp m 0 (by omega) h (fr_refl _ _ _)
  rw [si, Int.add_zero] at this
  exact this
/-- what a host x could have by one guest, or alone -/
def rX (n m : Nat) (cu lo : Int32) (W B : Nat → Int32) (t : Nat → Nat → Nat) (x : Nat) (v : Int64) : Prop := v < Int64.ofInt (aL n lo) ∨ ∃ g, g < m ∧ B (6 * x + g) = 0 ∧ v < Int64.ofInt (aL n lo + 10 * bT n cu lo (W (6 * x + g)) x (fun k => t k g))
theorem cl_6 {D n m x : Nat} {h : lm_H} {K : Int64 → lm_H → Prop} {cu lo : Int32} {W B : Nat → Int32} {t : Nat → Nat → Nat} (hD : 4 ≤ D) (H : ct h 21 n m cu lo W B) (hw : wd n m cu lo W) (ht : ctn h n m t) (hx : x < n)
    (hK : ∀ y h', fr [54] [] h h' → (∀ v, v < y ↔ rX n m cu lo W B t x v) → K y h') : lm_call D 6 [.ref 52, .ref 21, .int (Int32.ofNat x)] h (lm_kL K) := by
  obtain ⟨d, rfl⟩ := q_dp hD
  have h5 := H.2.1
  have h6 := H.2.2.1
  refine e_6 _ H.1 ?_
  refine cl_2 (by omega) H ?_
  have lp : ∀ r k : Nat, r + k = m → ∀ z y, fr [54] [] h z → (∀ v, v < y ↔ rX n k cu lo W B t x v) → (lm_W ((d + 2) + 1) 6 11 [some (.ref 52), some (.ref 21), some (.int (Int32.ofNat x)), some (.long (Int64.ofInt (aL n lo))), none, some (.long y), none, some (.int (Int32.ofNat k))] [] z (lm_kL K)) := by
    intro r
    induction r with
    | zero =>
      intro k hk z y hf hy
      have e : k = m := by omega
      rw [e] at hy ⊢
      have Hz := ct_fr hf H (by decide)
      refine b_6_11 _ _ _ _ Hz.1 ?_
      rw [Hz.2.2.2.2.1, if_neg (by rw [q_lt (by omega) (by omega)]; omega)]
      exact hK y z hf hy
    | succ r ih =>
      intro k hk z y hf hy
      have Hz := ct_fr hf H (by decide)
      have htz := ctn_fr hf ht (by decide)
      have hb : lm_i z 23 (x * 7 + k) = B (6 * x + k) := (Hz.2.2.2.2.2.2.2.1 x hx k (by omega)).2
      have hi := ih (k + 1) (by omega)
      refine b_6_11 _ _ _ _ Hz.1 ?_
      rw [Hz.2.2.2.2.1, if_pos (by rw [q_lt (by omega) (by omega)]; omega), q_m7, q_add, q_in (by omega) (by omega), q_nat (by omega), hb, q_a1]
      by_cases c : B (6 * x + k) = 0
      · rw [if_pos c]
        refine cl_3 (by omega) Hz hw htz hx (by omega) (fun z1 hf1 => ?_)
        have e10 : (10 : Int64) = Int64.ofInt 10 := rfl
        rw [e10, l_mul, l_add]
        refine hi z1 _ (fr_trans hf hf1) (fun v => ?_)
        have h1 := hy v
        unfold rX at h1 ⊢
        have h2 : (∃ g, g < k + 1 ∧ B (6 * x + g) = 0 ∧ v < Int64.ofInt (aL n lo + 10 * bT n cu lo (W (6 * x + g)) x (fun k => t k g))) ↔ (∃ g, g < k ∧ B (6 * x + g) = 0 ∧ v < Int64.ofInt (aL n lo + 10 * bT n cu lo (W (6 * x + g)) x (fun k => t k g))) ∨ v < Int64.ofInt (aL n lo + 10 * bT n cu lo (W (6 * x + k)) x (fun j => t j k)) := by
          constructor
          · rintro ⟨g, a, b, e⟩
            by_cases eg : g = k
            · rw [eg] at e; exact Or.inr e
            · exact Or.inl ⟨g, by omega, b, e⟩
          · rintro (⟨g, a, b, e⟩ | e)
            · exact ⟨g, by omega, b, e⟩
            · exact ⟨k, by omega, c, e⟩
        rw [h2, ← or_assoc, ← h1]
        generalize Int64.ofInt (aL n lo + 10 * bT n cu lo (W (6 * x + k)) x (fun j => t j k)) = q
        by_cases cq : q < y
        · rw [if_pos cq]
          constructor
          · intro a; exact Or.inl a
          · rintro (a | a)
            · exact a
            · exact Int64.lt_trans a cq
        · rw [if_neg cq]
          constructor
          · intro a; exact Or.inr a
          · rintro (a | a)
            · exact Int64.lt_of_lt_of_le a (Int64.not_lt.1 cq)
            · exact a
      · rw [if_neg c]
        refine hi z y hf (fun v => ?_)
        rw [hy v]
        unfold rX
        constructor
        · rintro (a | ⟨g, a, b, e⟩)
          · exact Or.inl a
          · exact Or.inr ⟨g, by omega, b, e⟩
        · rintro (a | ⟨g, a, b, e⟩)
          · exact Or.inl a
          · by_cases eg : g = k
            · rw [eg] at b; exact absurd b c
            · exact Or.inr ⟨g, by omega, b, e⟩
  refine lp m 0 (by omega) h _ (fr_refl _ _ _) (fun v => ⟨fun a => Or.inl a, fun a => ?_⟩)
  rcases a with a | ⟨g, a, _⟩
  · exact a
  · omega
/-- the dice that count -/
def tD (B : Nat → Int32) (e : Nat → Nat) (k g : Nat) : Nat := if B (6 * k + g) = 0 then e (6 * k + g) else 0
theorem cl_1 {D n m : Nat} {h : lm_H} {K : lm_H → Prop} {cu lo : Int32} {W B : Nat → Int32} {e : Nat → Nat} (hD : 2 ≤ D) (H : ct h 21 n m cu lo W B) (he : ∀ k, k < n → ∀ g, g < m → e (6 * k + g) ≤ 10 ∧ lm_i h 6 (6 * k + g) = Int32.ofNat (e (6 * k + g)))
    (hK : ∀ h', fr [53] [] h h' → ctn h' n m (tD B e) → K h') : lm_call D 1 [.ref 52, .ref 21, .ref 1] h (lm_kV K) := by
  obtain ⟨d, rfl⟩ := q_dp hD
  have h5 := H.2.1
  have h6 := H.2.2.1
  refine e_1 H.1 ?_
  have lp : ∀ r k : Nat, r + k = n → ∀ z, fr [53] [] h z → ctn z k m (tD B e) → (lm_W (d + 1) 1 2 [some (.ref 52), some (.ref 21), some (.ref 1), some (.int (Int32.ofNat k)), none] [] z (lm_kV K)) := by
    intro r
    induction r with
    | zero =>
      intro k hk z hf ht
      have ek : k = n := by omega
      rw [ek] at ht ⊢
      have Hz := ct_fr hf H (by decide)
      refine b_1_2 _ Hz.1 ?_
      rw [Hz.2.2.2.1, if_neg (by rw [q_lt (by omega) (by omega)]; omega)]
      exact hK z hf ht
    | succ r ih =>
      intro k hk z hf ht
      have Hz := ct_fr hf H (by decide)
      refine b_1_2 _ Hz.1 ?_
      rw [Hz.2.2.2.1, if_pos (by rw [q_lt (by omega) (by omega)]; omega)]
      have lq : ∀ r g : Nat, r + g = m → ∀ z, fr [53] [] h z → ctn z k m (tD B e) → (∀ j, j < g → tD B e k j ≤ 10 ∧ lm_i z 53 (k * 6 + j) = Int32.ofNat (tD B e k j)) → (lm_W (d + 1) 1 13 [some (.ref 52), some (.ref 21), some (.ref 1), some (.int (Int32.ofNat k)), some (.int (Int32.ofNat g))] [] z (lm_kV K)) := by
        intro r
        induction r with
        | zero =>
          intro g hg z hf ht htg
          have eg : g = m := by omega
          rw [eg] at htg ⊢
          have Hz := ct_fr hf H (by decide)
          refine b_1_13 _ _ Hz.1 ?_
          rw [Hz.2.2.2.2.1, if_neg (by rw [q_lt (by omega) (by omega)]; omega), q_a1]
          refine ih (k + 1) (by omega) z hf (fun j hj g hg => ?_)
          by_cases ej : j = k
          · rw [ej]; exact htg g hg
          · exact ht j (by omega) g hg
        | succ r ih2 =>
          intro g hg z hf ht htg
          have Hz := ct_fr hf H (by decide)
          have hb : lm_i z 23 (k * 7 + g) = B (6 * k + g) := (Hz.2.2.2.2.2.2.2.1 k (by omega) g (by omega)).2
          have heg := he k (by omega) g (by omega)
          have e6 : lm_i z 6 (k * 6 + g) = Int32.ofNat (e (6 * k + g)) := by rw [fr_i hf (by decide) (by decide), Nat.mul_comm k 6]; exact heg.2
          have fin : ∀ v, v ≤ 10 → v = tD B e k g → (lm_W (d + 1) 1 13 [some (.ref 52), some (.ref 21), some (.ref 1), some (.int (Int32.ofNat k)), some (.int (Int32.ofNat (g + 1)))] [] (lm_si z 53 (k * 6 + g) (Int32.ofNat v)) (lm_kV K)) := by
            intro v hv hve
            refine ih2 (g + 1) (by omega) _ (fr_si hf (by decide) (by decide) _ _) (fun j hj i hi => ?_) (fun j hj => ?_)
            · rw [pi_si, if_pos rfl, if_neg (by omega)]
              exact ht j hj i hi
            · rw [pi_si, if_pos rfl]
              by_cases ej : j = g
              · rw [if_pos (by rw [ej]), ej, ← hve]
                exact ⟨hv, rfl⟩
              · rw [if_neg (by omega)]
                exact htg j (by omega)
          refine b_1_13 _ _ Hz.1 ?_
          rw [Hz.2.2.2.2.1, if_pos (by rw [q_lt (by omega) (by omega)]; omega), q_m7, q_m6, q_add, q_add, q_in (by omega) (by omega), q_in (by omega) (by omega), q_nat (by omega), q_nat (by omega), hb, e6, q_a1]
          by_cases c : B (6 * k + g) = 0
          · rw [if_pos c, q_in (by omega) (by omega)]
            exact fin _ heg.1 (by unfold tD; rw [if_pos c])
          · rw [if_neg c, q_in (by omega) (by omega)]
            exact fin 0 (by omega) (by unfold tD; rw [if_neg c])
      exact lq m 0 (by omega) z hf ht (fun j hj => by omega)
  exact lp n 0 (by omega) h (fr_refl _ _ _) (fun j hj => by omega)
