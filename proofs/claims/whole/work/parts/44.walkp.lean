/-! Walks through what some hosts can ask: pure. -/
/-- how many there are, the number of one, the next -/
def wN (w : Nat → Bool) (c : Nat → Nat) : Nat → Nat
  | 0 => 1
  | k + 1 => if w k then wN w c k * c k else wN w c k
def wH (w : Nat → Bool) (c p : Nat → Nat) : Nat → Nat
  | 0 => 0
  | k + 1 => if w k then wH w c p k * c k + p k else wH w c p k
def wS (w : Nat → Bool) (c : Nat → Nat) : Nat → (Nat → Nat) → (Nat → Nat)
  | 0, p => p
  | x + 1, p => if w x then (if p x + 1 < c x then fun j => if j = x then p x + 1 else p j else wS w c x (fun j => if j = x then 0 else p j)) else wS w c x p
theorem wH_c {w : Nat → Bool} {c p q : Nat → Nat} {k : Nat} (h : ∀ j, j < k → w j = true → p j = q j) : wH w c p k = wH w c q k := by
  induction k with
  | zero => rfl
  | succ k ih =>
    rw [wH, wH, ih (fun j hj => h j (by omega))]
    by_cases e : w k = true
    · rw [if_pos e, if_pos e, h k (by omega) e]
    · rw [if_neg e, if_neg e]
theorem wH_lt {w : Nat → Bool} {c p : Nat → Nat} {k : Nat} (h : ∀ j, j < k → w j = true → p j < c j) : wH w c p k < wN w c k := by
  induction k with
  | zero => exact Nat.one_pos
  | succ k ih =>
    have h1 := ih (fun j hj => h j (by omega))
    rw [wH, wN]
    by_cases e : w k = true
    · rw [if_pos e, if_pos e]
      have h2 := h k (by omega) e
      have h3 : (wH w c p k + 1) * c k ≤ wN w c k * c k := Nat.mul_le_mul_right _ h1
      rw [Nat.add_mul] at h3
      omega
    · rw [if_neg e, if_neg e]
      exact h1
theorem wH_inj {w : Nat → Bool} {c p q : Nat → Nat} {k : Nat} (hp : ∀ j, j < k → w j = true → p j < c j) (hq : ∀ j, j < k → w j = true → q j < c j) (h : wH w c p k = wH w c q k) : ∀ j, j < k → w j = true → p j = q j := by
  induction k with
  | zero => intro j hj; omega
  | succ k ih =>
    rw [wH, wH] at h
    by_cases e : w k = true
    · rw [if_pos e, if_pos e] at h
      obtain ⟨a, b⟩ := pk_dm (hp k (by omega) e) (hq k (by omega) e) h
      intro j hj hw
      by_cases ej : j = k
      · rw [ej]; exact b
      · exact ih (fun j hj => hp j (by omega)) (fun j hj => hq j (by omega)) a j (by omega) hw
    · rw [if_neg e, if_neg e] at h
      intro j hj hw
      by_cases ej : j = k
      · rw [ej] at hw; exact absurd hw e
      · exact ih (fun j hj => hp j (by omega)) (fun j hj => hq j (by omega)) h j (by omega) hw
theorem wN_le {w : Nat → Bool} {c : Nat → Nat} {k : Nat} (h : ∀ j, j < k → c j ≤ 7) (h5 : k ≤ 5) : wN w c k ≤ 16807 := by
  have : ∀ k, (∀ j, j < k → c j ≤ 7) → wN w c k ≤ 7 ^ k := by
    intro k
    induction k with
    | zero => intro _; exact Nat.le_refl 1
    | succ k ih =>
      intro h
      have h1 := ih (fun j hj => h j (by omega))
      rw [wN, Nat.pow_succ]
      split
      · exact Nat.mul_le_mul h1 (h k (by omega))
      · omega
  have h1 := this k h
  have h2 : 7 ^ k ≤ 7 ^ 5 := Nat.pow_le_pow_right (by omega) h5
  have h3 : (7 : Nat) ^ 5 = 16807 := rfl
  omega
theorem wN_pos {w : Nat → Bool} {c : Nat → Nat} {k : Nat} (h : ∀ j, j < k → 0 < c j) : 0 < wN w c k := by
  induction k with
  | zero => exact Nat.one_pos
  | succ k ih =>
    rw [wN]
    split
    · exact Nat.mul_pos (ih (fun j hj => h j (by omega))) (h k (by omega))
    · exact ih (fun j hj => h j (by omega))
theorem wS_hi {w : Nat → Bool} {c : Nat → Nat} : ∀ (x : Nat) (p : Nat → Nat) (j : Nat), x ≤ j → wS w c x p j = p j := by
  intro x
  induction x with
  | zero => intro p j _; rfl
  | succ x ih =>
    intro p j hj
    rw [wS]
    split
    · split
      · simp only
        rw [if_neg (by omega)]
      · rw [ih _ j (by omega)]
        rw [if_neg (by omega)]
    · exact ih p j (by omega)
theorem wS_ok {w : Nat → Bool} {c : Nat → Nat} : ∀ (x : Nat) (p : Nat → Nat), (∀ j, j < x → 0 < c j) → ∀ j, w j = true → p j < c j → wS w c x p j < c j := by
  intro x
  induction x with
  | zero => intro p _ j _ h; exact h
  | succ x ih =>
    intro p hc j hw h
    rw [wS]
    split
    · split
      · simp only
        split
        · rename_i e; rw [e]; assumption
        · exact h
      · refine ih _ (fun j hj => hc j (by omega)) j hw ?_
        split
        · rename_i e; rw [e]; exact hc x (by omega)
        · exact h
    · exact ih p (fun j hj => hc j (by omega)) j hw h
theorem wS_lo {w : Nat → Bool} {c : Nat → Nat} : ∀ (x : Nat) (p : Nat → Nat) (j : Nat), ¬ w j = true → wS w c x p j = p j := by
  intro x
  induction x with
  | zero => intro p j _; rfl
  | succ x ih =>
    intro p j hj
    rw [wS]
    split
    · rename_i hx
      have hne : ¬ j = x := by rintro rfl; exact hj hx
      split
      · simp only
        rw [if_neg hne]
      · rw [ih _ j hj, if_neg hne]
    · exact ih p j hj
theorem wS_H {w : Nat → Bool} {c : Nat → Nat} : ∀ (x : Nat) (p : Nat → Nat), (∀ j, j < x → w j = true → p j < c j) → wH w c (wS w c x p) x = if wH w c p x + 1 < wN w c x then wH w c p x + 1 else 0 := by
  intro x
  induction x with
  | zero => intro p _; rfl
  | succ x ih =>
    intro p hp
    rw [wS]
    by_cases e : w x = true
    · rw [if_pos e]
      have hx := hp x (by omega) e
      have hlt := wH_lt (w := w) (c := c) (p := p) (k := x) (fun j hj => hp j (by omega))
      by_cases e2 : p x + 1 < c x
      · rw [if_pos e2]
        simp only [wH, wN, if_pos e]
        have h1 : wH w c (fun j => if j = x then p x + 1 else p j) x = wH w c p x := wH_c (fun j hj _ => by rw [if_neg (by omega)])
        rw [h1]
        simp only [if_true]
        have h3 : (wH w c p x + 1) * c x ≤ wN w c x * c x := Nat.mul_le_mul_right _ hlt
        rw [Nat.add_mul] at h3
        rw [if_pos (by omega)]
        omega
      · rw [if_neg e2]
        simp only [wH, wN, if_pos e]
        have h0 : ∀ j, j < x → w j = true → (fun j => if j = x then 0 else p j) j < c j := by
          intro j hj hw
          simp only
          rw [if_neg (by omega)]
          exact hp j (by omega) hw
        have h1 : wH w c (fun j => if j = x then 0 else p j) x = wH w c p x := wH_c (fun j hj _ => by rw [if_neg (by omega)])
        have h2 := ih _ h0
        rw [h1] at h2
        rw [h2, wS_hi x _ x (Nat.le_refl x)]
        simp only [if_true]
        have hcx : c x = p x + 1 := by omega
        by_cases e3 : wH w c p x + 1 < wN w c x
        · rw [if_pos e3]
          have h3 : (wH w c p x + 2) * c x ≤ wN w c x * c x := Nat.mul_le_mul_right _ e3
          have h4 : (wH w c p x + 2) * c x = wH w c p x * c x + 2 * c x := Nat.add_mul _ _ _
          have h5 : (wH w c p x + 1) * c x = wH w c p x * c x + c x := by rw [Nat.add_mul, Nat.one_mul]
          rw [if_pos (by omega)]
          omega
        · rw [if_neg e3]
          have h6 : wN w c x = wH w c p x + 1 := by omega
          have h5 : (wH w c p x + 1) * c x = wH w c p x * c x + c x := by rw [Nat.add_mul, Nat.one_mul]
          rw [h6, h5, if_neg (by omega)]
          omega
    · rw [if_neg e]
      simp only [wH, wN, if_neg e]
      exact ih p (fun j hj => hp j (by omega))
/-- the i-th of those whom host k can ask -/
def chF (B : Nat → Int32) (k : Nat) : Nat → Nat → Nat
  | 0, _ => 6
  | g + 1, i => if B (6 * k + g) = 0 ∧ q_ci B k g = i then g else chF B k g i
theorem chF_at {B : Nat → Int32} {k g : Nat} (hB : B (6 * k + g) = 0) : ∀ {m : Nat}, g < m → chF B k m (q_ci B k g) = g := by
  intro m
  induction m with
  | zero => intro h; omega
  | succ m ih =>
    intro h
    rw [chF]
    by_cases e : g = m
    · subst e
      rw [if_pos ⟨hB, rfl⟩]
    · have h1 := q_ci_mo B k (g := g + 1) (g2 := m) (by omega)
      rw [q_ci, if_pos hB] at h1
      rw [if_neg (by omega)]
      exact ih (by omega)
theorem chF_no {B : Nat → Int32} {k : Nat} : ∀ {m i : Nat}, q_ci B k m ≤ i → chF B k m i = 6 := by
  intro m
  induction m with
  | zero => intro i _; rfl
  | succ m ih =>
    intro i h
    rw [chF]
    rw [q_ci] at h
    by_cases e : B (6 * k + m) = 0
    · rw [if_pos e] at h
      rw [if_neg (by omega)]
      exact ih (by omega)
    · rw [if_neg (fun q => e q.1)]
      rw [if_neg e] at h
      exact ih (by omega)
theorem chF_in {B : Nat → Int32} {k : Nat} : ∀ {m i : Nat}, i < q_ci B k m → chF B k m i < m ∧ B (6 * k + chF B k m i) = 0 ∧ q_ci B k (chF B k m i) = i := by
  intro m
  induction m with
  | zero =>
    intro i h
    rw [q_ci] at h
    omega
  | succ m ih =>
    intro i h
    rw [chF]
    by_cases e : B (6 * k + m) = 0 ∧ q_ci B k m = i
    · rw [if_pos e]
      exact ⟨by omega, e.1, e.2⟩
    · rw [if_neg e]
      rw [q_ci] at h
      have : i < q_ci B k m := by
        by_cases e2 : B (6 * k + m) = 0
        · rw [if_pos e2] at h
          have : ¬ q_ci B k m = i := fun q => e ⟨e2, q⟩
          omega
        · rw [if_neg e2] at h
          omega
      obtain ⟨a, b, c⟩ := ih this
      exact ⟨by omega, b, c⟩
theorem chF_ok {B : Nat → Int32} {k m i : Nat} (h : i < q_ci B k m + 1) : (chF B k m i < m ∧ B (6 * k + chF B k m i) = 0) ∨ chF B k m i = 6 := by
  by_cases c : i < q_ci B k m
  · obtain ⟨a, b, _⟩ := chF_in c
    exact Or.inl ⟨a, b⟩
  · exact Or.inr (chF_no (by omega))
/-- where a choice stands among them -/
theorem chF_inv {B : Nat → Int32} {k m a : Nat} (h6 : m ≤ 6) (h : (a < m ∧ B (6 * k + a) = 0) ∨ a = 6) : ∃ i, i < q_ci B k m + 1 ∧ chF B k m i = a := by
  rcases h with ⟨h1, h2⟩ | h1
  · refine ⟨q_ci B k a, ?_, chF_at h2 h1⟩
    have h3 := q_ci_mo B k (g := a + 1) (g2 := m) (by omega)
    rw [q_ci, if_pos h2] at h3
    omega
  · exact ⟨q_ci B k m, by omega, by rw [chF_no (Nat.le_refl _), h1]⟩
theorem ct_ch {h : lm_H} {c n m : Nat} {cu lo : Int32} {W B : Nat → Int32} (H : ct h c n m cu lo W B) {k i : Nat} (hk : k < n) (hi : i < q_ci B k m + 1) : lm_i h (c + 3) (k * 7 + i) = Int32.ofNat (chF B k m i) := by
  obtain ⟨hl, h5, h6, h0, h1, h2, h3, h4, h7⟩ := H
  obtain ⟨-, -, -, j3, j4⟩ := h7 k hk
  by_cases c1 : i < q_ci B k m
  · obtain ⟨a, b, e⟩ := chF_in c1
    have := j4 _ a b
    rw [e] at this
    exact this
  · have : i = q_ci B k m := by omega
    rw [this, chF_no (Nat.le_refl _), j3]
    rfl
set_option maxRecDepth 20000 in
theorem q_clr_all : ∀ b0 b1 b2 b3 b4 : Bool, ∀ n, n < 6 → ∀ x, x < 5 → (q_mk (q_pb b0 b1 b2 b3 b4 false false) n &&& (((1 : Int32) <<< (Int32.ofNat x &&& 31)) ^^^ (-1)) = q_mk (fun j => q_pb b0 b1 b2 b3 b4 false false j && !decide (j = x)) n ∧ (x < n → q_mk (q_pb b0 b1 b2 b3 b4 false false) n ||| ((1 : Int32) <<< (Int32.ofNat x &&& 31)) = q_mk (fun j => q_pb b0 b1 b2 b3 b4 false false j || decide (j = x)) n)) := by decide +kernel
theorem q_clr {P : Nat → Bool} {n x : Nat} (hn : n ≤ 5) (hx : x < 5) : q_mk P n &&& (((1 : Int32) <<< (Int32.ofNat x &&& 31)) ^^^ (-1)) = q_mk (fun j => P j && !decide (j = x)) n := by
  have h1 := (q_clr_all (P 0) (P 1) (P 2) (P 3) (P 4) n (by omega) x hx).1
  rw [← q_mk_c (fun j hj => q_pb5 P (j := j) (by omega))] at h1
  rw [h1]
  exact q_mk_c (fun j hj => by rw [← q_pb5 P (by omega)])
theorem q_set {P : Nat → Bool} {n x : Nat} (hn : n ≤ 5) (hx : x < n) : q_mk P n ||| ((1 : Int32) <<< (Int32.ofNat x &&& 31)) = q_mk (fun j => P j || decide (j = x)) n := by
  have h1 := (q_clr_all (P 0) (P 1) (P 2) (P 3) (P 4) n (by omega) x (by omega)).2 hx
  rw [← q_mk_c (fun j hj => q_pb5 P (j := j) (by omega))] at h1
  rw [h1]
  exact q_mk_c (fun j hj => by rw [← q_pb5 P (by omega)])
/-- how a host's bit goes from one choice's mask to another's -/
theorem q_move {A : Nat → Nat} {n x b : Nat} {K : Nat → Int32} (hn : n ≤ 5) (hx : x < n) (hA : A x ≤ 6) (hb : b ≤ 6) (hK : ∀ c, c ≤ 6 → K c = q_mk (fun j => decide (A j = c)) n) : ∀ c, c ≤ 6 →
    (if c = b then ((if b = A x then K (A x) &&& (((1 : Int32) <<< (Int32.ofNat x &&& 31)) ^^^ (-1)) else K b) ||| ((1 : Int32) <<< (Int32.ofNat x &&& 31))) else if c = A x then K (A x) &&& (((1 : Int32) <<< (Int32.ofNat x &&& 31)) ^^^ (-1)) else K c) = q_mk (fun j => decide ((if j = x then b else A j) = c)) n := by
  intro c hc
  have e1 : K (A x) &&& (((1 : Int32) <<< (Int32.ofNat x &&& 31)) ^^^ (-1)) = q_mk (fun j => decide (A j = A x) && !decide (j = x)) n := by rw [hK _ hA, q_clr hn (by omega)]
  rw [e1]
  by_cases c1 : c = b
  · rw [if_pos c1]
    by_cases c2 : b = A x
    · rw [if_pos c2, q_set hn hx]
      refine q_mk_c (fun j hj => ?_)
      by_cases ej : j = x
      · simp [ej, c1]
      · simp [ej, c1, c2]
    · rw [if_neg c2, hK b hb, q_set hn hx]
      refine q_mk_c (fun j hj => ?_)
      by_cases ej : j = x
      · simp [ej, c1]
      · simp [ej, c1]
  · rw [if_neg c1]
    by_cases c2 : c = A x
    · rw [if_pos c2]
      refine q_mk_c (fun j hj => ?_)
      by_cases ej : j = x
      · have : ¬ b = A x := fun q => c1 (c2.trans q.symm)
        simp [ej, c2, this]
      · simp [ej, c2]
    · rw [if_neg c2, hK c hc]
      refine q_mk_c (fun j hj => ?_)
      by_cases ej : j = x
      · have h1 : ¬ A x = c := fun q => c2 q.symm
        have h2 : ¬ b = c := fun q => c1 q.symm
        simp [ej, h1, h2]
      · simp [ej]
