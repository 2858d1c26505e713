/-! By turns: what both do. -/
/-- a choice as the reference numbers it -/
def tI (m a : Nat) : Nat := if a = 6 then m else a
/-- the first best answer (6: nobody) -/
def bC (n m : Nat) (cu lo : Int32) (W B : Nat → Int32) (A : Nat → Nat) (k : Nat) : Nat := q_fi (aQ m (aP n m cu lo W B A k)) 6 7
def okA (n m : Nat) (B : Nat → Int32) (A : Nat → Nat) : Prop := ∀ j, j < n → (A j < m ∧ B (6 * j + A j) = 0) ∨ A j = 6
theorem okA_g {n m : Nat} {B : Nat → Int32} {A : Nat → Nat} (h : okA n m B A) : gA n m A := by
  intro j hj
  rcases h j hj with q | q
  · exact Or.inl q.1
  · exact Or.inr q
theorem q_fi_none {Q : Nat → Bool} {e n : Nat} (h : ∀ i, i < n → Q i = false) : q_fi Q e n = e := by
  induction n with
  | zero => rfl
  | succ n ih => rw [q_fi, ih (fun i hi => h i (by omega)), if_pos rfl, h n (by omega)]; rfl
theorem q_fi_at {Q : Nat → Bool} {e n j : Nat} (hj : j < n) (h0 : ∀ i, i < j → Q i = false) (hQ : Q j = true) (he : ¬ j = e ∨ n = j + 1) : q_fi Q e n = j := by
  induction n with
  | zero => omega
  | succ n ih =>
    by_cases c : j = n
    · subst c
      rw [q_fi, q_fi_none h0, if_pos rfl, hQ]
      rfl
    · rw [q_fi, ih (by omega) (Or.inl (by omega)), if_neg (by omega)]
theorem q_fi_in {Q : Nat → Bool} {e n : Nat} (h : ∃ i, i < n ∧ Q i = true) (hn : n ≤ e + 1) : q_fi Q e n < n ∧ Q (q_fi Q e n) = true ∧ ∀ i, i < q_fi Q e n → Q i = false := by
  have : ∀ r k, r + k = n → (∀ i, i < k → Q i = false) → q_fi Q e n < n ∧ Q (q_fi Q e n) = true ∧ ∀ i, i < q_fi Q e n → Q i = false := by
    intro r
    induction r with
    | zero =>
      intro k hk hf
      obtain ⟨i, hi, hq⟩ := h
      rw [hf i (by omega)] at hq
      cases hq
    | succ r ih =>
      intro k hk hf
      cases q : Q k with
      | true =>
        rw [q_fi_at (j := k) (by omega) hf q (by omega)]
        exact ⟨by omega, q, hf⟩
      | false =>
        refine ih (k + 1) (by omega) (fun i hi => ?_)
        by_cases c : i = k
        · rw [c]; exact q
        · exact hf i (by omega)
  exact this n 0 (by omega) (fun i hi => by omega)
/-- somebody or nobody is a best answer -/
theorem aP_ex {n m k : Nat} {cu lo : Int32} {W B : Nat → Int32} {A : Nat → Nat} (hw : wd n m cu lo W) (h5 : n ≤ 5) (hk : k < n) : ∃ j, j < m + 1 ∧ aP n m cu lo W B A k j = true := by
  refine bM_some (fun j hj => aF_b hw A h5 hk (by omega)) ⟨m, by omega, ?_⟩
  unfold aC
  simp
theorem aQ_ex {m : Nat} {P : Nat → Bool} (hm : m ≤ 6) (h : ∃ j, j < m + 1 ∧ P j = true) : ∃ j, j < 7 ∧ aQ m P j = true := by
  obtain ⟨j, hj, hp⟩ := h
  by_cases c : j = m
  · refine ⟨6, by omega, ?_⟩
    unfold aQ
    rw [if_neg (by omega), if_pos rfl, ← c]
    exact hp
  · refine ⟨j, by omega, ?_⟩
    unfold aQ
    rw [if_pos (by omega)]
    exact hp
theorem bC_p {n m k : Nat} {cu lo : Int32} {W B : Nat → Int32} {A : Nat → Nat} (hw : wd n m cu lo W) (h5 : n ≤ 5) (h6 : m ≤ 6) (hk : k < n) : aP n m cu lo W B A k (tI m (bC n m cu lo W B A k)) = true ∧ (bC n m cu lo W B A k < m ∨ bC n m cu lo W B A k = 6) := by
  have h1 := q_fi_in (e := 6) (aQ_ex h6 (aP_ex (W := W) (B := B) (A := A) hw h5 hk)) (by omega)
  have h2 : bC n m cu lo W B A k < 7 ∧ aQ m (aP n m cu lo W B A k) (bC n m cu lo W B A k) = true := ⟨h1.1, h1.2.1⟩
  generalize bC n m cu lo W B A k = c at h2
  unfold aQ at h2
  unfold tI
  by_cases c1 : c < m
  · rw [if_pos c1] at h2
    rw [if_neg (by omega)]
    exact ⟨h2.2, Or.inl c1⟩
  · rw [if_neg c1] at h2
    by_cases c2 : c = 6
    · rw [if_pos c2] at h2
      rw [if_pos c2]
      exact ⟨h2.2, Or.inr c2⟩
    · rw [if_neg c2] at h2
      cases h2.2
theorem bC_ok {n m k : Nat} {cu lo : Int32} {W B : Nat → Int32} {A : Nat → Nat} (hw : wd n m cu lo W) (h5 : n ≤ 5) (h6 : m ≤ 6) (hk : k < n) : (bC n m cu lo W B A k < m ∧ B (6 * k + bC n m cu lo W B A k) = 0) ∨ bC n m cu lo W B A k = 6 := by
  obtain ⟨h1, h2⟩ := bC_p (B := B) (A := A) hw h5 h6 hk
  rcases h2 with h2 | h2
  · left
    refine ⟨h2, ?_⟩
    have : tI m (bC n m cu lo W B A k) = bC n m cu lo W B A k := by unfold tI; rw [if_neg (by omega)]
    rw [this] at h1
    unfold aP bP aC at h1
    have h3 : ¬ bC n m cu lo W B A k = m := by omega
    simp only [h3, decide_false, Bool.false_or, Bool.and_eq_true, decide_eq_true_eq] at h1
    exact h1.1
  · exact Or.inr h2
theorem aF_tI {n m k c : Nat} {cu lo : Int32} {W : Nat → Int32} {A : Nat → Nat} (h6 : m ≤ 6) (hc : c < m ∨ c = 6) : aF n m cu lo W A k (tI m c) = cG n cu lo W A k c := by
  unfold aF tI
  congr 1
  by_cases c6 : c = 6
  · rw [if_pos c6, if_pos rfl, c6]
  · rw [if_neg c6, if_neg (by omega)]
/-- whether what he asks is best: by gains -/
theorem aP_gain {n m k : Nat} {cu lo : Int32} {W B : Nat → Int32} {A : Nat → Nat} (hw : wd n m cu lo W) (h5 : n ≤ 5) (h6 : m ≤ 6) (hk : k < n) (hA : okA n m B A) : cG n cu lo W A k (A k) < cG n cu lo W A k (bC n m cu lo W B A k) ↔ ¬ aP n m cu lo W B A k (tI m (A k)) = true := by
  obtain ⟨h1, h2⟩ := bC_p (B := B) (A := A) hw h5 h6 hk
  have hg := okA_g hA k hk
  rw [← aF_tI h6 h2, ← aF_tI h6 hg]
  have e1 : aF n m cu lo W A k (tI m (bC n m cu lo W B A k)) = bM (aF n m cu lo W A k) (aC m B k) (m + 1) := by
    unfold aP bP at h1
    simp only [Bool.and_eq_true, decide_eq_true_eq] at h1
    exact h1.2
  rw [e1]
  have hc : aC m B k (tI m (A k)) = true := by
    unfold aC tI
    rcases hA k hk with q | q
    · rw [if_neg (by omega)]
      simp [q.2]
    · rw [if_pos q]
      simp
  have hle := bM_le (f := aF n m cu lo W A k) (cn := aC m B k) (g := m + 1) (j := tI m (A k)) (by unfold tI; split <;> omega) hc
  unfold aP bP
  rw [hc]
  simp only [Bool.true_and, decide_eq_true_eq]
  constructor
  · intro a b
    grind
  · intro a
    grind
/-- askings behind the first k hosts' turns, and whether one changed -/
def tR (n m : Nat) (cu lo : Int32) (W B : Nat → Int32) (A : Nat → Nat) : Nat → (Nat → Nat)
  | 0 => A
  | k + 1 => if aP n m cu lo W B (tR n m cu lo W B A k) k (tI m (tR n m cu lo W B A k k)) then tR n m cu lo W B A k else fun j => if j = k then bC n m cu lo W B (tR n m cu lo W B A k) k else tR n m cu lo W B A k j
def tC (n m : Nat) (cu lo : Int32) (W B : Nat → Int32) (A : Nat → Nat) : Nat → Bool
  | 0 => false
  | k + 1 => if aP n m cu lo W B (tR n m cu lo W B A k) k (tI m (tR n m cu lo W B A k k)) then tC n m cu lo W B A k else true
theorem tR_ok {n m : Nat} {cu lo : Int32} {W B : Nat → Int32} {A : Nat → Nat} (hw : wd n m cu lo W) (h5 : n ≤ 5) (h6 : m ≤ 6) (hA : okA n m B A) : ∀ k, k ≤ n → okA n m B (tR n m cu lo W B A k) := by
  intro k
  induction k with
  | zero => intro _; exact hA
  | succ k ih =>
    intro hk
    have h1 := ih (by omega)
    rw [tR]
    split
    · exact h1
    · intro j hj
      simp only
      by_cases c : j = k
      · rw [if_pos c, c]
        exact bC_ok hw h5 h6 (by omega)
      · rw [if_neg c]
        exact h1 j hj
/-- askings as one number, to the base b -/
def pk (b : Nat) (D : Nat → Nat) : Nat → Nat
  | 0 => 0
  | k + 1 => pk b D k * b + D k
theorem pk_dm {b x d x' d' : Nat} (hd : d < b) (hd' : d' < b) (h : x * b + d = x' * b + d') : x = x' ∧ d = d' := by
  have hb : 0 < b := by omega
  have h1 : (b * x + d) / b = x := by rw [Nat.mul_add_div hb, Nat.div_eq_of_lt hd, Nat.add_zero]
  have h2 : (b * x' + d') / b = x' := by rw [Nat.mul_add_div hb, Nat.div_eq_of_lt hd', Nat.add_zero]
  rw [Nat.mul_comm x, Nat.mul_comm x'] at h
  have h3 : x = x' := by rw [← h1, h, h2]
  subst h3
  exact ⟨rfl, by omega⟩
theorem pk_inj {b : Nat} {D D' : Nat → Nat} {n : Nat} (hD : ∀ j, j < n → D j < b) (hD' : ∀ j, j < n → D' j < b) : pk b D n = pk b D' n ↔ ∀ j, j < n → D j = D' j := by
  induction n with
  | zero => exact ⟨fun _ j hj => by omega, fun _ => rfl⟩
  | succ n ih =>
    rw [pk, pk]
    constructor
    · intro h j hj
      obtain ⟨a, c⟩ := pk_dm (hD n (by omega)) (hD' n (by omega)) h
      by_cases e : j = n
      · rw [e]; exact c
      · exact (ih (fun j hj => hD j (by omega)) (fun j hj => hD' j (by omega))).1 a j (by omega)
    · intro h
      rw [(ih (fun j hj => hD j (by omega)) (fun j hj => hD' j (by omega))).2 (fun j hj => h j (by omega)), h n (by omega)]
theorem pk_bd {b : Nat} {D : Nat → Nat} {n : Nat} (hD : ∀ j, j < n → D j < b) : pk b D n < b ^ n := by
  induction n with
  | zero => exact Nat.one_pos
  | succ n ih =>
    have h1 := ih (fun j hj => hD j (by omega))
    have h2 := hD n (by omega)
    rw [pk, Nat.pow_succ]
    have h3 : (pk b D n + 1) * b ≤ b ^ n * b := Nat.mul_le_mul_right b h1
    rw [Nat.add_mul] at h3
    omega
theorem pk_7 {D : Nat → Nat} {n : Nat} (h5 : n ≤ 5) {b : Nat} (hb : b ≤ 7) (hb0 : 0 < b) (hD : ∀ j, j < n → D j < b) : pk b D n < 16807 := by
  have h1 := pk_bd hD
  have h2 : b ^ n ≤ 7 ^ n := Nat.pow_le_pow_left hb n
  have h3 : 7 ^ n ≤ 7 ^ 5 := Nat.pow_le_pow_right (by omega) h5
  have h4 : (7 : Nat) ^ 5 = 16807 := rfl
  omega
theorem pk_same {n m : Nat} {A A' : Nat → Nat} (h6 : m ≤ 6) (hA : gA n m A) (hA' : gA n m A') : pk (m + 1) (fun j => tI m (A j)) n = pk (m + 1) (fun j => tI m (A' j)) n ↔ pk 7 A n = pk 7 A' n := by
  rw [pk_inj, pk_inj]
  · constructor
    · intro h j hj
      have h1 := h j hj
      have h2 := hA j hj
      have h3 := hA' j hj
      unfold tI at h1
      split at h1 <;> split at h1 <;> omega
    · intro h j hj
      show tI m (A j) = tI m (A' j)
      rw [h j hj]
  · intro j hj
    have := hA j hj
    omega
  · intro j hj
    have := hA' j hj
    omega
  · intro j hj
    have := hA j hj
    show tI m (A j) < m + 1
    unfold tI
    split <;> omega
  · intro j hj
    have := hA' j hj
    show tI m (A' j) < m + 1
    unfold tI
    split <;> omega
/-- rounds, till rest or till askings come back (V: those that were) -/
def tL (n m : Nat) (cu lo : Int32) (W B : Nat → Int32) : Nat → (Nat → Bool) → (Nat → Nat) → Nat → Nat × Bool × (Nat → Nat)
  | 0, _, A, r => (r, false, A)
  | f + 1, V, A, r => if tC n m cu lo W B A n = false then (r + 1, true, tR n m cu lo W B A n) else if V (pk 7 (tR n m cu lo W B A n) n) then (r + 1, false, tR n m cu lo W B A n) else tL n m cu lo W B f (fun j => decide (j = pk 7 (tR n m cu lo W B A n) n) || V j) (tR n m cu lo W B A n) (r + 1)
/-- how many were not yet -/
def tV (V : Nat → Bool) : Nat := q_cn (fun j => !V j) 16807
theorem q_cn_one {V : Nat → Bool} {c n : Nat} (hc : V c = false) : q_cn (fun j => !V j) n = q_cn (fun j => !(decide (j = c) || V j)) n + (if c < n then 1 else 0) := by
  induction n with
  | zero => rfl
  | succ n ih =>
    rw [q_cn, q_cn, ih]
    by_cases e : n = c
    · subst e
      simp [hc]
    · by_cases e2 : V n = true
      · simp [e, e2]
        split <;> split <;> omega
      · simp [e, e2]
        split <;> split <;> omega
theorem tV_one {V : Nat → Bool} {c : Nat} (hc : V c = false) (hl : c < 16807) : tV V = tV (fun j => decide (j = c) || V j) + 1 := by
  unfold tV
  rw [q_cn_one hc, if_pos hl]
