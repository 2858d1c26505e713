/-! Alike: pure. -/
theorem l_lt {a b : Int} (ha : -1000000000000 ≤ a ∧ a ≤ 1000000000000) (hb : -1000000000000 ≤ b ∧ b ≤ 1000000000000) : Int64.ofInt a < Int64.ofInt b ↔ a < b := by
  rw [Int64.lt_iff_toInt_lt, Int64.toInt_ofInt_of_le (by omega) (by omega), Int64.toInt_ofInt_of_le (by omega) (by omega)]
theorem l_eq {a b : Int} (ha : -1000000000000 ≤ a ∧ a ≤ 1000000000000) (hb : -1000000000000 ≤ b ∧ b ≤ 1000000000000) : Int64.ofInt a = Int64.ofInt b ↔ a = b := by
  constructor
  · intro h
    have := congrArg Int64.toInt h
    rwa [Int64.toInt_ofInt_of_le (by omega) (by omega), Int64.toInt_ofInt_of_le (by omega) (by omega)] at this
  · intro h; rw [h]
theorem si_swap (F : Nat → Nat → Int) (m n : Nat) : si (fun x => si (fun g => F x g) m) n = si (fun g => si (fun x => F x g) n) m := by
  induction n with
  | zero =>
    rw [si]
    have : ∀ m, si (fun g => si (fun x => F x g) 0) m = 0 := by
      intro m
      induction m with
      | zero => rfl
      | succ m ih => rw [si, ih]; rfl
    rw [this]
  | succ n ih =>
    rw [si, ih, ← si_add]
    rfl
theorem si_abs {f : Nat → Int} {b : Int} {n : Nat} (h : ∀ j, j < n → -b ≤ f j ∧ f j ≤ b) : -(n * b) ≤ si f n ∧ si f n ≤ n * b := by
  induction n with
  | zero => rw [si]; simp
  | succ n ih =>
    have h1 := ih (fun j hj => h j (by omega))
    have h2 := h n (by omega)
    rw [si]
    have : ((n + 1 : Nat) : Int) * b = n * b + b := by
      have : ((n + 1 : Nat) : Int) = (n : Int) + 1 := by omega
      rw [this, Int.add_mul, Int.one_mul]
    omega
theorem wy_nn {cu : Int32} {x : Nat} {T : Nat → Nat} {n : Nat} (hT : ∀ k, k < n → T k ≤ 10) : ∀ k, k ≤ n → ∀ r, 0 ≤ wy cu x T k r := by
  intro k
  induction k with
  | zero => intro _ r; rw [wy]; split <;> omega
  | succ k ih =>
    intro hk r
    have h1 := ih (by omega)
    have h2 := hT k (by omega)
    have h3 : uw cu x T k ≤ 10 := by unfold uw; split <;> omega
    rw [wy]
    split
    · exact h1 r
    · refine Int.add_nonneg (Int.mul_nonneg (h1 r) (by omega)) ?_
      split
      · omega
      · exact Int.mul_nonneg (h1 _) (by omega)
theorem sh_b (cu : Int32) {r : Nat} (hr : r < 5) : 0 ≤ sh cu r ∧ sh cu r ≤ 60 := by
  unfold sh
  rcases q_sh_v cu hr with h | h | h | h | h | h <;> rw [h] <;> decide
theorem bT_b {n : Nat} {cu lo w : Int32} {x : Nat} {T : Nat → Nat} (h5 : n ≤ 5) (hx : x < n) (hT : ∀ k, k < n → T k ≤ 10) (hlo : -99 ≤ lo ∧ lo ≤ 99) (hw : -99 ≤ w ∧ w ≤ 99) : -118800000 ≤ bT n cu lo w x T ∧ bT n cu lo w x T ≤ 118800000 := by
  have hnn := wy_nn (cu := cu) (x := x) hT n (Nat.le_refl n)
  have hs := wy_sum (cu := cu) (x := x) (T := T) n 5 (by unfold ow; split <;> omega)
  have how : ow x n ≤ 4 := by unfold ow; split <;> omega
  have hp : (10 : Int) ^ ow x n ≤ 10 ^ 4 := by
    have : (10 : Nat) ^ ow x n ≤ 10 ^ 4 := Nat.pow_le_pow_right (by omega) how
    exact_mod_cast this
  have key : ∀ k, k ≤ 5 → 0 ≤ si (fun r => wy cu x T n r * sh cu r) k ∧ si (fun r => wy cu x T n r * sh cu r) k ≤ 60 * si (wy cu x T n) k := by
    intro k
    induction k with
    | zero => intro _; exact ⟨Int.le_refl 0, Int.le_refl 0⟩
    | succ k ih =>
      intro hk
      obtain ⟨a, b⟩ := ih (by omega)
      have hsh := sh_b cu (r := k) (by omega)
      have h1 := hnn k
      have h2 : 0 ≤ wy cu x T n k * sh cu k := Int.mul_nonneg h1 hsh.1
      have h3 : wy cu x T n k * sh cu k ≤ wy cu x T n k * 60 := Int.mul_le_mul_of_nonneg_left hsh.2 h1
      rw [si, si]
      omega
  obtain ⟨a, b⟩ := key 5 (by omega)
  rw [hs] at b
  have hb : si (fun r => wy cu x T n r * sh cu r) 5 ≤ 600000 := by
    have : (10 : Int) ^ 4 = 10000 := rfl
    omega
  have e1 : (-99 : Int32).toInt = -99 := rfl
  have e2 : (99 : Int32).toInt = 99 := rfl
  simp only [p_le, e1, e2] at hlo hw
  unfold bT
  generalize si (fun r => wy cu x T n r * sh cu r) 5 = s at a hb
  have hd1 : w.toInt - lo.toInt ≤ 198 := by omega
  have hd2 : -198 ≤ w.toInt - lo.toInt := by omega
  generalize w.toInt - lo.toInt = q at hd1 hd2
  have h1 : s * q ≤ s * 198 := Int.mul_le_mul_of_nonneg_left hd1 a
  have h2 : s * (-198) ≤ s * q := Int.mul_le_mul_of_nonneg_left hd2 a
  omega
/-- tenths alike; what guest g brings all -/
def tl (B : Nat → Int32) (l : Nat → Nat) (k g : Nat) : Nat := if B (6 * k + g) = 0 then l g else 0
def br (n : Nat) (cu lo : Int32) (W B : Nat → Int32) (g t : Nat) : Int := si (fun x => ((if B (6 * x + g) = 0 then t else 0 : Nat) : Int) * bT n cu lo (W (6 * x + g)) x (fun k => if B (6 * k + g) = 0 then t else 0)) n
theorem br_b {n m : Nat} {cu lo : Int32} {W B : Nat → Int32} (hw : wd n m cu lo W) (h5 : n ≤ 5) {g t : Nat} (hg : g < m) (ht : t ≤ 10) : -6000000000 ≤ br n cu lo W B g t ∧ br n cu lo W B g t ≤ 6000000000 := by
  unfold br
  have := si_abs (f := fun x => ((if B (6 * x + g) = 0 then t else 0 : Nat) : Int) * bT n cu lo (W (6 * x + g)) x (fun k => if B (6 * k + g) = 0 then t else 0)) (b := 1188000000) (n := n) (fun x hx => by
    have hb := bT_b (cu := cu) (lo := lo) (w := W (6 * x + g)) (x := x) (T := fun k => if B (6 * k + g) = 0 then t else 0) h5 hx (fun k _ => by split <;> omega) hw.2.1 (hw.2.2 x hx g hg)
    generalize bT n cu lo (W (6 * x + g)) x (fun k => if B (6 * k + g) = 0 then t else 0) = q at hb
    have hu : (if B (6 * x + g) = 0 then t else 0) ≤ 10 := by split <;> omega
    generalize (if B (6 * x + g) = 0 then t else 0) = u at hu
    have h1 : (u : Int) * q ≤ (u : Int) * 118800000 := Int.mul_le_mul_of_nonneg_left hb.2 (by omega)
    have h2 : (u : Int) * (-118800000) ≤ (u : Int) * q := Int.mul_le_mul_of_nonneg_left hb.1 (by omega)
    omega)
  omega
theorem mA_br {n m : Nat} {cu lo : Int32} {W B : Nat → Int32} {l : Nat → Nat} : mA n m cu lo W (tl B l) n = n * aL n lo + si (fun g => br n cu lo W B g (l g)) m := by
  unfold mA
  have e1 : si (mN n m cu lo W (tl B l)) n = si (fun x => (fun _ => aL n lo) x + (fun x => si (fun g => (tl B l x g : Int) * bT n cu lo (W (6 * x + g)) x (fun k => tl B l k g)) m) x) n := si_c (fun j _ => rfl)
  rw [e1, si_add, si_swap]
  have e2 : ∀ k : Nat, si (fun _ => aL n lo) k = k * aL n lo := by
    intro k
    induction k with
    | zero => rw [si]; simp
    | succ k ih =>
      rw [si, ih]
      have : ((k + 1 : Nat) : Int) = (k : Int) + 1 := by omega
      rw [this, Int.add_mul, Int.one_mul]
  rw [e2]
  rfl
/-- best value, how often, which first -/
abbrev aT : Type := Int × Nat × (Nat → Nat)
def cm (a b : aT) : aT := if a.2.1 = 0 ∨ a.1 < b.1 then b else if b.1 = a.1 then (a.1, a.2.1 + b.2.1, a.2.2) else a
theorem cm_assoc {s a b : aT} (ha : 0 < a.2.1) : cm (cm s a) b = cm s (cm a b) := by
  obtain ⟨sv, sc, sl⟩ := s
  obtain ⟨av, ac, al⟩ := a
  obtain ⟨bv, bc, bl⟩ := b
  simp only at ha
  unfold cm
  simp only
  have hne : ¬ ac = 0 := by omega
  by_cases c1 : sc = 0 ∨ sv < av
  · rw [if_pos c1]
    simp only [hne, false_or]
    by_cases c2 : av < bv
    · rw [if_pos c2]
      simp only
      rw [if_pos (by rcases c1 with q | q; exact Or.inl q; exact Or.inr (by omega))]
    · rw [if_neg c2]
      by_cases c3 : bv = av
      · rw [if_pos c3]
        simp only
        rw [if_pos c1]
      · rw [if_neg c3]
        simp only
        rw [if_pos c1]
  · rw [if_neg c1]
    have c1' : ¬ sc = 0 ∧ ¬ sv < av := ⟨fun q => c1 (Or.inl q), fun q => c1 (Or.inr q)⟩
    by_cases c4 : av = sv
    · rw [if_pos c4]
      simp only [hne, false_or]
      have hne2 : ¬ sc + ac = 0 := by omega
      simp only [hne2, false_or]
      by_cases c2 : av < bv
      · rw [if_pos c2, if_pos (by omega)]
        simp only
        rw [if_pos (Or.inr (by omega))]
      · rw [if_neg c2, if_neg (by omega)]
        by_cases c3 : bv = av
        · rw [if_pos c3, if_pos (by omega)]
          simp only
          rw [if_neg c1, if_pos c4, Nat.add_assoc]
        · rw [if_neg c3, if_neg (by omega)]
          simp only
          rw [if_neg c1, if_pos c4]
    · rw [if_neg c4]
      simp only [c1'.1, hne, false_or]
      by_cases c2 : av < bv
      · rw [if_pos c2]
      · rw [if_neg c2, if_neg (by omega)]
        by_cases c3 : bv = av
        · rw [if_pos c3]
          simp only
          rw [if_neg c1'.2, if_neg c4, if_neg (by omega)]
        · rw [if_neg c3]
          simp only
          rw [if_neg c1'.2, if_neg c4, if_neg (by omega)]
theorem cm_pos {a b : aT} (hb : 0 < b.2.1) : 0 < (cm a b).2.1 := by
  unfold cm
  split
  · exact hb
  · rename_i c
    split
    · show 0 < a.2.1 + b.2.1
      omega
    · have : ¬ a.2.1 = 0 := fun q => c (Or.inl q)
      omega
/-- guest g asked t tenths, then y -/
def sf (f : Nat → Nat → Int) (g t : Nat) (y : aT) : aT := (f g t + y.1, y.2.1, fun j => if j = g then t else y.2.2 j)
def xf (f : Nat → Nat → Int) (g : Nat) (Y : Nat → aT) (left : Nat) : Nat → aT
  | 0 => (0, 0, fun _ => 0)
  | k + 1 => cm (xf f g Y left k) (sf f g k (Y (left - k)))
/-- the best of the last r guests, with so many tenths left -/
def XX (f : Nat → Nat → Int) (m : Nat) : Nat → Nat → aT
  | 0, _ => (0, 1, fun _ => 0)
  | r + 1, left => xf f (m - (r + 1)) (XX f m r) left (left + 1)
theorem xf_pos {f : Nat → Nat → Int} {g : Nat} {Y : Nat → aT} {left k : Nat} (hY : ∀ j, 0 < (Y j).2.1) : 0 < (xf f g Y left (k + 1)).2.1 := cm_pos (hY _)
theorem XX_pos {f : Nat → Nat → Int} {m : Nat} : ∀ r left, 0 < (XX f m r left).2.1 := by
  intro r
  cases r with
  | zero => intro _; exact Nat.one_pos
  | succ r =>
    have : ∀ r left, 0 < (XX f m r left).2.1 := by
      intro r
      induction r with
      | zero => intro _; exact Nat.one_pos
      | succ r ih => intro left; exact xf_pos ih
    exact this (r + 1)
theorem cm_le {a b : aT} : (cm a b).2.1 ≤ a.2.1 + b.2.1 := by
  unfold cm
  split
  · omega
  · split
    · exact Nat.le_refl _
    · omega
theorem xf_le {f : Nat → Nat → Int} {g : Nat} {Y : Nat → aT} {left c : Nat} (hY : ∀ j, j ≤ left → (Y j).2.1 ≤ c) : ∀ k, k ≤ left + 1 → (xf f g Y left k).2.1 ≤ k * c := by
  intro k
  induction k with
  | zero => intro _; rw [xf]; simp
  | succ k ih =>
    intro hk
    rw [xf]
    have h1 := cm_le (a := xf f g Y left k) (b := sf f g k (Y (left - k)))
    have h2 := ih (by omega)
    have h3 : (sf f g k (Y (left - k))).2.1 ≤ c := hY _ (by omega)
    rw [Nat.add_mul, Nat.one_mul]
    omega
theorem XX_le {f : Nat → Nat → Int} {m : Nat} : ∀ r left, left ≤ 10 → (XX f m r left).2.1 ≤ 11 ^ r := by
  intro r
  induction r with
  | zero => intro _ _; exact Nat.le_refl 1
  | succ r ih =>
    intro left hl
    rw [XX]
    have h1 := xf_le (f := f) (g := m - (r + 1)) (Y := XX f m r) (left := left) (c := 11 ^ r) (fun j hj => ih j (by omega)) (left + 1) (Nat.le_refl _)
    have h2 : (left + 1) * 11 ^ r ≤ 11 * 11 ^ r := Nat.mul_le_mul_right _ (by omega)
    rw [Nat.pow_succ, Nat.mul_comm (11 ^ r)]
    omega
/-- bounds of the values -/
theorem cm_b {a b : aT} {q : Int} (ha : a.2.1 = 0 ∨ (-q ≤ a.1 ∧ a.1 ≤ q)) (hb : -q ≤ b.1 ∧ b.1 ≤ q) : -q ≤ (cm a b).1 ∧ (cm a b).1 ≤ q := by
  unfold cm
  split
  · exact hb
  · rename_i c
    have : ¬ a.2.1 = 0 := fun z => c (Or.inl z)
    rcases ha with h | h
    · exact absurd h this
    · split
      · exact h
      · exact h
theorem xf_b {f : Nat → Nat → Int} {g : Nat} {Y : Nat → aT} {left : Nat} {q : Int} (hY : ∀ j, j ≤ left → -q ≤ f g j + (Y (left - j)).1 ∧ f g j + (Y (left - j)).1 ≤ q) : ∀ k, k ≤ left → -q ≤ (xf f g Y left (k + 1)).1 ∧ (xf f g Y left (k + 1)).1 ≤ q := by
  intro k
  induction k with
  | zero => intro _; exact cm_b (Or.inl rfl) (hY 0 (by omega))
  | succ k ih => intro hk; exact cm_b (Or.inr (ih (by omega))) (hY (k + 1) hk)
theorem XX_b {f : Nat → Nat → Int} {m : Nat} (hf : ∀ g, g < m → ∀ t, t ≤ 10 → -6000000000 ≤ f g t ∧ f g t ≤ 6000000000) : ∀ r, r ≤ m → ∀ left, left ≤ 10 → -(6000000000 * (r : Int)) ≤ (XX f m r left).1 ∧ (XX f m r left).1 ≤ 6000000000 * (r : Int) := by
  intro r
  induction r with
  | zero => intro _ left _; rw [XX]; simp
  | succ r ih =>
    intro hr left hl
    rw [XX]
    refine xf_b (fun j hj => ?_) left (Nat.le_refl left)
    have h1 := hf (m - (r + 1)) (by omega) j (by omega)
    have h2 := ih (by omega) (left - j) (by omega)
    omega
