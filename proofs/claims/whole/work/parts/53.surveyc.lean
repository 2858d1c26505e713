/-! All askings: what the class does for each host (58). -/
/-- how far apart -/
def sd (B : Nat → Int32) (m n j : Nat) : Nat := sT (cc B m) (n - (j + 1)) (j + 1)
def sm (s p : Nat → Nat) : Nat → Nat
  | 0 => 0
  | k + 1 => sm s p k + p k * s k
theorem sm_H {c p : Nat → Nat} {n : Nat} : ∀ x, x ≤ n → wH (fun _ => true) c p x * sT c (n - x) x = sm (fun j => sT c (n - (j + 1)) (j + 1)) p x := by
  intro x
  induction x with
  | zero => intro _; rw [wH, Nat.zero_mul]; rfl
  | succ x ih =>
    intro hx
    rw [wH, if_pos rfl, sm, ← ih (by omega), sT_step (c := c) (n := n) (x := x) (by omega), Nat.add_mul, Nat.mul_assoc]
theorem sm_n {B : Nat → Int32} {m n : Nat} {p : Nat → Nat} : wH (fun _ => true) (cc B m) p n = sm (sd B m n) p n := by
  have := sm_H (c := cc B m) (p := p) (n := n) n (Nat.le_refl n)
  rw [Nat.sub_self, sT, Nat.mul_one] at this
  exact this
theorem sm_up {s p : Nat → Nat} {x i : Nat} : ∀ k, sm s (fun j => if j = x then i else p j) k = sm s (fun j => if j = x then 0 else p j) k + (if x < k then i * s x else 0) := by
  intro k
  induction k with
  | zero => rfl
  | succ k ih =>
    rw [sm, sm, ih]
    by_cases e : k = x
    · subst e
      simp
    · by_cases e2 : x < k
      · simp only [e, e2, if_false, if_true, if_pos (show x < k + 1 by omega)]
        omega
      · simp only [e, e2, if_false, if_neg (show ¬ x < k + 1 by omega)]
        omega
/-- the number of the asking with these picks, x's being i -/
def at_ (B : Nat → Int32) (m n : Nat) (p : Nat → Nat) (x i : Nat) : Nat := wH (fun _ => true) (cc B m) (fun j => if j = x then i else p j) n
theorem at_sm {B : Nat → Int32} {m n : Nat} {p : Nat → Nat} {x i : Nat} (hx : x < n) : at_ B m n p x i = sm (sd B m n) (fun j => if j = x then 0 else p j) n + i * sd B m n x := by
  unfold at_
  rw [sm_n, sm_up, if_pos hx]
def NN (B : Nat → Int32) (m n : Nat) : Nat := wN (fun _ => true) (cc B m) n
theorem NN_le {B : Nat → Int32} {m n : Nat} (h5 : n ≤ 5) (h6 : m ≤ 6) : NN B m n ≤ 16807 := wN_le (fun j _ => by unfold cc; have := q_ci_le B j m; omega) h5
def ot (x j : Nat) : Bool := decide (¬ j = x)
/-- the others' picks are good -/
theorem at_lt {B : Nat → Int32} {m n : Nat} {p : Nat → Nat} {x i : Nat} (hp : ∀ j, j < n → ¬ j = x → p j < cc B m j) (hi : i < cc B m x) : at_ B m n p x i < NN B m n := by
  refine wH_lt (fun j hj _ => ?_)
  by_cases e : j = x
  · rw [if_pos e, e]; exact hi
  · rw [if_neg e]; exact hp j hj e
theorem at_dP {B : Nat → Int32} {m n : Nat} {p : Nat → Nat} {x i : Nat} (hp : ∀ j, j < n → ¬ j = x → p j < cc B m j) (hi : i < cc B m x) : ∀ j, j < n → dP (cc B m) n (at_ B m n p x i) j = if j = x then i else p j := by
  refine dP_at (fun j hj => ?_)
  by_cases e : j = x
  · rw [if_pos e, e]; exact hi
  · rw [if_neg e]; exact hp j hj e
/-- an asking's number among the others' -/
def oH (B : Nat → Int32) (m n x : Nat) (p : Nat → Nat) : Nat := wH (ot x) (cc B m) p n
theorem at_eq {B : Nat → Int32} {m n : Nat} {p : Nat → Nat} {x i a : Nat} (hp : ∀ j, j < n → ¬ j = x → p j < cc B m j) (ha : a < NN B m n) (h1 : oH B m n x (dP (cc B m) n a) = oH B m n x p) (h2 : dP (cc B m) n a x = i) : a = at_ B m n p x i := by
  have h3 := wH_inj (w := ot x) (c := cc B m) (k := n) (fun j hj _ => dP_lt (cc_pos B m j)) (fun j hj hw => hp j hj (by simpa [ot] using hw)) h1
  rw [← dP_H ha]
  unfold at_
  refine wH_c (fun j hj _ => ?_)
  by_cases e : j = x
  · rw [if_pos e, e, h2]
  · rw [if_neg e]
    exact h3 j hj (by simpa [ot] using e)
/-- which askings are dealt with: all of earlier rows, of this row the first i -/
def dn (B : Nat → Int32) (m n x r i a : Nat) : Bool := decide (oH B m n x (dP (cc B m) n a) < r ∨ (oH B m n x (dP (cc B m) n a) = r ∧ dP (cc B m) n a x < i))
theorem dn_at {B : Nat → Int32} {m n : Nat} {p : Nat → Nat} {x i : Nat} (hx : x < n) (hp : ∀ j, j < n → ¬ j = x → p j < cc B m j) (hi : i < cc B m x) : dn B m n x (oH B m n x p) i (at_ B m n p x i) = false ∧ dn B m n x (oH B m n x p) (i + 1) (at_ B m n p x i) = true := by
  have h1 := at_dP (B := B) (m := m) (n := n) hp hi
  have h2 : oH B m n x (dP (cc B m) n (at_ B m n p x i)) = oH B m n x p := by
    unfold oH
    refine wH_c (fun j hj hw => ?_)
    rw [h1 j hj, if_neg (by simpa [ot] using hw)]
  unfold dn
  rw [h2, h1 x hx, if_pos rfl]
  simp
theorem dn_ne {B : Nat → Int32} {m n : Nat} {p : Nat → Nat} {x i a : Nat} (hp : ∀ j, j < n → ¬ j = x → p j < cc B m j) (ha : a < NN B m n) (hne : ¬ a = at_ B m n p x i) : dn B m n x (oH B m n x p) (i + 1) a = dn B m n x (oH B m n x p) i a := by
  unfold dn
  rw [decide_eq_decide]
  constructor
  · rintro (q | ⟨q, q2⟩)
    · exact Or.inl q
    · by_cases e : dP (cc B m) n a x = i
      · exact absurd (at_eq hp ha q e) hne
      · exact Or.inr ⟨q, by omega⟩
  · rintro (q | ⟨q, q2⟩)
    · exact Or.inl q
    · exact Or.inr ⟨q, by omega⟩
theorem dn_row {B : Nat → Int32} {m n : Nat} {x r a : Nat} : dn B m n x r (cc B m x) a = dn B m n x (r + 1) 0 a := by
  unfold dn
  rw [decide_eq_decide]
  have := dP_lt (c := cc B m) (n := n) (i := a) (j := x) (cc_pos B m x)
  omega
/-- rows of sums, leasts, unsteady -/
def rS (h : lm_H) (n m : Nat) (cu lo : Int32) (W B : Nat → Int32) (x : Nat) (D : Nat → Bool) : Prop := ∀ a, a < NN B m n → lm_i h 43 a = sG n cu lo W (aI B m n a) (if D a then x + 1 else x)
def rL (h : lm_H) (n m : Nat) (cu lo : Int32) (W B : Nat → Int32) (x : Nat) (D : Nat → Bool) : Prop := ∀ a, a < NN B m n → lm_i h 44 a = lF n cu lo W (aI B m n a) 2147483647 (if D a then x + 1 else x)
def rU (h : lm_H) (n m : Nat) (cu lo : Int32) (W B : Nat → Int32) (x : Nat) (D : Nat → Bool) : Prop := ∀ a, a < NN B m n → lm_i h 45 a = if uS n m cu lo W B (aI B m n a) (if D a then x + 1 else x) then 1 else 0
/-- the most of the first i choices' gains, from nobody's on -/
def mb (f : Nat → Int32) (s : Int32) : Nat → Int32
  | 0 => s
  | i + 1 => if mb f s i < f i then f i else mb f s i
theorem mb_lt {f : Nat → Int32} {s y : Int32} : ∀ i, y < mb f s i ↔ y < s ∨ ∃ j, j < i ∧ y < f j := by
  intro i
  induction i with
  | zero => exact ⟨fun q => Or.inl q, fun q => by rcases q with q | ⟨j, hj, _⟩; exact q; omega⟩
  | succ i ih =>
    rw [mb]
    by_cases c : mb f s i < f i
    · rw [if_pos c]
      constructor
      · intro q
        exact Or.inr ⟨i, by omega, q⟩
      · rintro (q | ⟨j, hj, q⟩)
        · have := ih.2 (Or.inl q)
          grind
        · by_cases e : j = i
          · rw [e] at q; exact q
          · have := ih.2 (Or.inr ⟨j, by omega, q⟩)
            grind
    · rw [if_neg c, ih]
      constructor
      · rintro (q | ⟨j, hj, q⟩)
        · exact Or.inl q
        · exact Or.inr ⟨j, by omega, q⟩
      · rintro (q | ⟨j, hj, q⟩)
        · exact Or.inl q
        · by_cases e : j = i
          · subst e
            exact ih.1 (by grind)
          · exact Or.inr ⟨j, by omega, q⟩
theorem mb_bM {n m x : Nat} {cu lo : Int32} {W B : Nat → Int32} {A : Nat → Nat} (hw : wd n m cu lo W) (h5 : n ≤ 5) (h6 : m ≤ 6) (hx : x < n) : mb (fun i => cG n cu lo W A x (chF B x m i)) (60 * lo) (cc B m x) = bM (aF n m cu lo W A x) (aC m B x) (m + 1) := by
  have key : ∀ y : Int32, -1000000 ≤ y → (y < mb (fun i => cG n cu lo W A x (chF B x m i)) (60 * lo) (cc B m x) ↔ y < bM (aF n m cu lo W A x) (aC m B x) (m + 1)) := by
    intro y hy
    rw [mb_lt, bM_lt hy]
    have hnob : aF n m cu lo W A x m = 60 * lo := by
      unfold aF cG
      rw [if_pos rfl, if_pos rfl, q_gn_lo]
    constructor
    · rintro (q | ⟨i, hi, q⟩)
      · exact ⟨m, by omega, by unfold aC; simp, by rw [hnob]; exact q⟩
      · rcases chF_ok (B := B) (k := x) (m := m) (i := i) hi with ⟨c1, c2⟩ | c1
        · refine ⟨chF B x m i, by omega, by unfold aC; simp [c2], ?_⟩
          unfold aF
          rw [if_neg (by omega)]
          exact q
        · refine ⟨m, by omega, by unfold aC; simp, ?_⟩
          unfold aF
          rw [if_pos rfl, ← c1]
          exact q
    · rintro ⟨j, hj, c, q⟩
      have hq : q_ci B x j < cc B m x ∧ chF B x m (q_ci B x j) = if j = m then 6 else j := aC_ch h6 (by omega) c
      exact Or.inr ⟨q_ci B x j, hq.1, by rw [hq.2]; exact q⟩
  have hlow : -1000000 ≤ mb (fun i => cG n cu lo W A x (chF B x m i)) (60 * lo) (cc B m x) := by
    have h1 := (mb_lt (f := fun i => cG n cu lo W A x (chF B x m i)) (s := 60 * lo) (y := 60 * lo - 1) (cc B m x)).2 (Or.inl (by have := hw.2.1; grind))
    have := hw.2.1
    grind
  have hlow2 : -1000000 ≤ bM (aF n m cu lo W A x) (aC m B x) (m + 1) := by
    have h1 := bM_le (f := aF n m cu lo W A x) (cn := aC m B x) (g := m + 1) (j := m) (by omega) (by unfold aC; simp)
    have h2 := aF_b hw A (k := x) (g := m) h5 hx (Nat.le_refl m)
    grind
  have k1 := key _ hlow
  have k2 := key _ hlow2
  grind
theorem aF_c {n m x : Nat} {cu lo : Int32} {W : Nat → Int32} {A A' : Nat → Nat} (h : ∀ j, j < n → ¬ j = x → A j = A' j) : aF n m cu lo W A x = aF n m cu lo W A' x := by
  funext g
  unfold aF
  exact cG_c h
/-- the row of shares for host x -/
def rW (h : lm_H) (cu : Int32) (n x : Nat) : Prop := ∀ P : Nat → Bool, 0 ≤ (q_mk P n).toInt ∧ (q_mk P n).toInt < 32 ∧ lm_i h 47 (q_mk P n).toNatClampNeg = q_sh cu (q_rv cu P x n)
