/-! All askings that fit, in order: pure. -/
/-- how many of the numbers below k (x hosts) fit; whether k fits -/
def prN (B : Nat → Int32) (m : Nat) : Nat → Nat → Bool
  | 0, _ => true
  | x + 1, k => prN B m x (k / (m + 1)) && aC m B x (k % (m + 1))
def rkN (B : Nat → Int32) (m : Nat) : Nat → Nat → Nat
  | 0, k => k
  | x + 1, k => rkN B m x (k / (m + 1)) * cc B m x + (if prN B m x (k / (m + 1)) then q_ci B x (k % (m + 1)) else 0)
theorem dv_lo {k m : Nat} (h : k % (m + 1) < m) : (k + 1) / (m + 1) = k / (m + 1) ∧ (k + 1) % (m + 1) = k % (m + 1) + 1 := by
  have h1 := Nat.div_add_mod k (m + 1)
  have e : k + 1 = (m + 1) * (k / (m + 1)) + (k % (m + 1) + 1) := by omega
  constructor
  · have e2 : (k % (m + 1) + 1) / (m + 1) = 0 := Nat.div_eq_of_lt (by omega)
    rw [e, Nat.mul_add_div (by omega), e2, Nat.add_zero]
  · rw [e, Nat.mul_add_mod, Nat.mod_eq_of_lt (by omega)]
theorem dv_hi {k m : Nat} (h : k % (m + 1) = m) : (k + 1) / (m + 1) = k / (m + 1) + 1 ∧ (k + 1) % (m + 1) = 0 := by
  have h1 := Nat.div_add_mod k (m + 1)
  have e : k + 1 = (m + 1) * (k / (m + 1) + 1) := by rw [Nat.mul_add, Nat.mul_one]; omega
  constructor
  · rw [e, Nat.mul_div_cancel_left _ (by omega)]
  · rw [e, Nat.mul_mod_right]
theorem rk_succ {B : Nat → Int32} {m : Nat} : ∀ x k, rkN B m x (k + 1) = rkN B m x k + (if prN B m x k then 1 else 0) := by
  intro x
  induction x with
  | zero => intro k; rfl
  | succ x ih =>
    intro k
    have hd : k % (m + 1) < m + 1 := Nat.mod_lt _ (by omega)
    rw [rkN, rkN, prN]
    by_cases c : k % (m + 1) = m
    · obtain ⟨e1, e2⟩ := dv_hi c
      rw [e1, e2, ih, q_ci, c]
      have ha : aC m B x m = true := by unfold aC; simp
      rw [ha, Bool.and_true]
      by_cases cp : prN B m x (k / (m + 1)) = true
      · rw [if_pos cp, if_pos cp, Nat.add_mul, Nat.one_mul]
        simp only [ite_self]
        unfold cc
        omega
      · rw [if_neg cp, if_neg cp]
        simp only [ite_self, Nat.add_zero]
    · obtain ⟨e1, e2⟩ := dv_lo (k := k) (m := m) (by omega)
      rw [e1, e2, q_ci]
      by_cases cp : prN B m x (k / (m + 1)) = true
      · rw [if_pos cp, if_pos cp, cp, Bool.true_and]
        unfold aC
        by_cases cb : B (6 * x + k % (m + 1)) = 0
        · simp [cb]
          omega
        · simp [cb, c]
      · rw [if_neg cp, if_neg cp]
        simp [cp]
theorem rk_zero {B : Nat → Int32} {m : Nat} : ∀ x, rkN B m x 0 = 0 := by
  intro x
  induction x with
  | zero => rfl
  | succ x ih =>
    rw [rkN, Nat.zero_div, Nat.zero_mod, ih, q_ci]
    simp
theorem rk_pow {B : Nat → Int32} {m : Nat} : ∀ x, rkN B m x ((m + 1) ^ x) = wN (fun _ => true) (cc B m) x := by
  intro x
  induction x with
  | zero => rfl
  | succ x ih =>
    rw [rkN, Nat.pow_succ, Nat.mul_div_cancel _ (by omega), Nat.mul_mod_left, ih, q_ci, wN]
    simp
theorem rk_mono {B : Nat → Int32} {m x : Nat} {k k' : Nat} (h : k ≤ k') : rkN B m x k ≤ rkN B m x k' := by
  induction k' with
  | zero =>
    have : k = 0 := by omega
    rw [this]
    exact Nat.le_refl _
  | succ k' ih =>
    by_cases e : k = k' + 1
    · rw [e]
      exact Nat.le_refl _
    · have := ih (by omega)
      rw [rk_succ]
      omega
/-- the digits of k, the last host's last; the number of the first x hosts' -/
def kx (m n k x : Nat) : Nat := k / (m + 1) ^ (n - x)
def dD (m n k j : Nat) : Nat := kx m n k (j + 1) % (m + 1)
theorem kx_step {m n k x : Nat} (h : x < n) : kx m n k x = kx m n k (x + 1) / (m + 1) := by
  unfold kx
  rw [Nat.div_div_eq_div_mul, ← Nat.pow_succ]
  congr 2
  omega
theorem kx_n (m n k : Nat) : kx m n k n = k := by
  unfold kx
  rw [Nat.sub_self, Nat.pow_zero, Nat.div_one]
theorem kx_0 {m n k : Nat} (h : k < (m + 1) ^ n) : kx m n k 0 = 0 := by
  unfold kx
  rw [Nat.sub_zero]
  exact Nat.div_eq_of_lt h
theorem dD_lt (m n k j : Nat) : dD m n k j ≤ m := by
  have : dD m n k j < m + 1 := Nat.mod_lt _ (by omega)
  omega
theorem pr_all {B : Nat → Int32} {m n k : Nat} : ∀ x, x ≤ n → (prN B m x (kx m n k x) = true ↔ ∀ j, j < x → aC m B j (dD m n k j) = true) := by
  intro x
  induction x with
  | zero => intro _; exact ⟨fun _ j hj => by omega, fun _ => rfl⟩
  | succ x ih =>
    intro hx
    rw [prN, ← kx_step (by omega), Bool.and_eq_true, ih (by omega)]
    constructor
    · rintro ⟨a, b⟩ j hj
      by_cases e : j = x
      · rw [e]; exact b
      · exact a j (by omega)
    · intro a
      exact ⟨fun j hj => a j (by omega), a x (by omega)⟩
theorem rk_H {B : Nat → Int32} {m n k : Nat} (hk : k < (m + 1) ^ n) (hp : ∀ j, j < n → aC m B j (dD m n k j) = true) : ∀ x, x ≤ n → rkN B m x (kx m n k x) = wH (fun _ => true) (cc B m) (fun j => q_ci B j (dD m n k j)) x := by
  intro x
  induction x with
  | zero => intro _; rw [kx_0 hk]; rfl
  | succ x ih =>
    intro hx
    rw [rkN, ← kx_step (by omega), ih (by omega), if_pos ((pr_all x (by omega)).2 (fun j hj => hp j (by omega))), wH, if_pos rfl]
    rfl
theorem pk_dD {m n k : Nat} (hk : k < (m + 1) ^ n) : ∀ x, x ≤ n → pk (m + 1) (dD m n k) x = kx m n k x := by
  intro x
  induction x with
  | zero => intro _; rw [kx_0 hk]; rfl
  | succ x ih =>
    intro hx
    rw [pk, ih (by omega), kx_step (by omega)]
    unfold dD
    have := Nat.div_add_mod (kx m n k (x + 1)) (m + 1)
    rw [Nat.mul_comm] at this
    exact this
/-- what comes behind host x: how many ways; the picks of the i-th asking -/
def sT (c : Nat → Nat) : Nat → Nat → Nat
  | 0, _ => 1
  | r + 1, x => c x * sT c r (x + 1)
def ix (c : Nat → Nat) (n i x : Nat) : Nat := i / sT c (n - x) x
def dP (c : Nat → Nat) (n i j : Nat) : Nat := ix c n i (j + 1) % c j
theorem sT_step {c : Nat → Nat} {n x : Nat} (h : x < n) : sT c (n - x) x = c x * sT c (n - (x + 1)) (x + 1) := by
  rw [show n - x = (n - (x + 1)) + 1 by omega, sT]
theorem sT_wN {c : Nat → Nat} {n : Nat} : ∀ x, x ≤ n → wN (fun _ => true) c x * sT c (n - x) x = sT c n 0 := by
  intro x
  induction x with
  | zero => intro _; rw [wN, Nat.one_mul]; rfl
  | succ x ih =>
    intro hx
    rw [wN, if_pos rfl, Nat.mul_assoc, ← sT_step (by omega)]
    exact ih (by omega)
theorem sT_all {c : Nat → Nat} {n : Nat} : wN (fun _ => true) c n = sT c n 0 := by
  have := sT_wN (c := c) (n := n) n (Nat.le_refl n)
  rw [Nat.sub_self, sT, Nat.mul_one] at this
  exact this
theorem ix_step {c : Nat → Nat} {n i x : Nat} (h : x < n) : ix c n i x = ix c n i (x + 1) / c x := by
  unfold ix
  rw [Nat.div_div_eq_div_mul, sT_step h, Nat.mul_comm (c x)]
theorem dP_lt {c : Nat → Nat} {n i j : Nat} (hc : 0 < c j) : dP c n i j < c j := Nat.mod_lt _ hc
theorem dP_H {c : Nat → Nat} {n i : Nat} (hi : i < wN (fun _ => true) c n) : wH (fun _ => true) c (dP c n i) n = i := by
  have : ∀ x, x ≤ n → wH (fun _ => true) c (dP c n i) x = ix c n i x := by
    intro x
    induction x with
    | zero =>
      intro _
      unfold ix
      rw [Nat.sub_zero, ← sT_all, Nat.div_eq_of_lt hi]
      rfl
    | succ x ih =>
      intro hx
      rw [wH, if_pos rfl, ih (by omega), ix_step (by omega)]
      unfold dP
      have := Nat.div_add_mod (ix c n i (x + 1)) (c x)
      rw [Nat.mul_comm] at this
      exact this
  rw [this n (Nat.le_refl n)]
  unfold ix
  rw [Nat.sub_self, sT, Nat.div_one]
theorem dP_at {c p : Nat → Nat} {n : Nat} (hp : ∀ j, j < n → p j < c j) : ∀ j, j < n → dP c n (wH (fun _ => true) c p n) j = p j := by
  have h1 := wH_lt (w := fun _ => true) (c := c) (p := p) (k := n) (fun j hj _ => hp j hj)
  intro j hj
  exact wH_inj (w := fun _ => true) (c := c) (k := n) (fun j hj _ => dP_lt (by have := hp j hj; omega)) (fun j hj _ => hp j hj) (dP_H h1) j hj rfl
/-- the i-th asking; its number -/
def aI (B : Nat → Int32) (m n i j : Nat) : Nat := chF B j m (dP (cc B m) n i j)
def kI (B : Nat → Int32) (m n i : Nat) : Nat := pk (m + 1) (fun j => tI m (aI B m n i j)) n
theorem cc_pos (B : Nat → Int32) (m j : Nat) : 0 < cc B m j := by unfold cc; omega
theorem aI_ok {B : Nat → Int32} {m n i : Nat} : okA n m B (aI B m n i) := fun j _ => chF_ok (dP_lt (cc_pos B m j))
theorem aC_ch {B : Nat → Int32} {m j D : Nat} (h6 : m ≤ 6) (hD : D ≤ m) (ha : aC m B j D = true) : q_ci B j D < cc B m j ∧ chF B j m (q_ci B j D) = if D = m then 6 else D := by
  unfold aC at ha
  by_cases c : D = m
  · rw [if_pos c, c]
    exact ⟨by unfold cc; omega, chF_no (Nat.le_refl _)⟩
  · rw [if_neg c]
    simp only [c, decide_false, Bool.false_or, decide_eq_true_eq] at ha
    have h3 := q_ci_mo B j (g := D + 1) (g2 := m) (by omega)
    rw [q_ci, if_pos ha] at h3
    exact ⟨by unfold cc; omega, chF_at ha (by omega)⟩
/-- a number that fits is that of the asking with its rank -/
theorem kI_rk {B : Nat → Int32} {m n k : Nat} (h6 : m ≤ 6) (hk : k < (m + 1) ^ n) (hp : ∀ j, j < n → aC m B j (dD m n k j) = true) : (∀ j, j < n → aI B m n (rkN B m n k) j = if dD m n k j = m then 6 else dD m n k j) ∧ kI B m n (rkN B m n k) = k ∧ rkN B m n k < wN (fun _ => true) (cc B m) n := by
  have h1 := rk_H hk hp n (Nat.le_refl n)
  rw [kx_n] at h1
  have h2 : ∀ j, j < n → q_ci B j (dD m n k j) < cc B m j := fun j hj => (aC_ch h6 (dD_lt m n k j) (hp j hj)).1
  have h3 : ∀ j, j < n → aI B m n (rkN B m n k) j = if dD m n k j = m then 6 else dD m n k j := by
    intro j hj
    unfold aI
    rw [h1, dP_at h2 j hj]
    exact (aC_ch h6 (dD_lt m n k j) (hp j hj)).2
  refine ⟨h3, ?_, ?_⟩
  · unfold kI
    have e : pk (m + 1) (fun j => tI m (aI B m n (rkN B m n k) j)) n = pk (m + 1) (dD m n k) n := by
      have : ∀ x, x ≤ n → pk (m + 1) (fun j => tI m (aI B m n (rkN B m n k) j)) x = pk (m + 1) (dD m n k) x := by
        intro x
        induction x with
        | zero => intro _; rfl
        | succ x ih =>
          intro hx
          rw [pk, pk, ih (by omega), h3 x (by omega)]
          congr 1
          unfold tI
          have := dD_lt m n k x
          by_cases c : dD m n k x = m
          · rw [if_pos c, if_pos rfl, c]
          · rw [if_neg c, if_neg (by omega)]
      exact this n (Nat.le_refl n)
    rw [e, pk_dD hk n (Nat.le_refl n), kx_n]
  · rw [h1]
    exact wH_lt (fun j hj _ => h2 j hj)
/-- the digits of an asking's number -/
theorem kI_dD {B : Nat → Int32} {m n i : Nat} (h6 : m ≤ 6) : kI B m n i < (m + 1) ^ n ∧ ∀ j, j < n → dD m n (kI B m n i) j = tI m (aI B m n i j) := by
  have hb : ∀ j, j < n → (fun j => tI m (aI B m n i j)) j < m + 1 := by
    intro j hj
    have := okA_g (aI_ok (B := B) (m := m) (n := n) (i := i)) j hj
    simp only
    unfold tI
    split <;> omega
  have h1 : kI B m n i < (m + 1) ^ n := pk_bd hb
  refine ⟨h1, ?_⟩
  have h2 := pk_dD h1 n (Nat.le_refl n)
  rw [kx_n] at h2
  exact (pk_inj (fun j _ => by have := dD_lt m n (kI B m n i) j; omega) hb).1 h2
