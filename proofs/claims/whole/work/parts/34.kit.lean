/-! Numbers as Int32.ofNat; depths; what a call leaves alone. -/
theorem q_dp {D k : Nat} (h : k ≤ D) : ∃ d, D = d + k := ⟨D - k, by omega⟩
theorem q_add (a b : Nat) : Int32.ofNat a + Int32.ofNat b = Int32.ofNat (a + b) := (Int32.ofNat_add a b).symm
theorem q_mul (a b : Nat) : Int32.ofNat a * Int32.ofNat b = Int32.ofNat (a * b) := (Int32.ofNat_mul a b).symm
theorem q_sub {a b : Nat} (h : b ≤ a) : Int32.ofNat a - Int32.ofNat b = Int32.ofNat (a - b) := by
  have := q_add (a - b) b
  rw [Nat.sub_add_cancel h] at this
  rw [← this]
  grind
theorem q_s1 {a : Nat} (h : 1 ≤ a) : Int32.ofNat a - 1 = Int32.ofNat (a - 1) := q_sub h
theorem q_m7 (a : Nat) : Int32.ofNat a * 7 = Int32.ofNat (a * 7) := q_mul a 7
theorem q_m6 (a : Nat) : Int32.ofNat a * 6 = Int32.ofNat (a * 6) := q_mul a 6
theorem q_m5 (a : Nat) : Int32.ofNat a * 5 = Int32.ofNat (a * 5) := q_mul a 5
theorem q_6m (a : Nat) : 6 * Int32.ofNat a = Int32.ofNat (6 * a) := q_mul 6 a
theorem q_7m (a : Nat) : 7 * Int32.ofNat a = Int32.ofNat (7 * a) := q_mul 7 a
theorem q_5m (a : Nat) : 5 * Int32.ofNat a = Int32.ofNat (5 * a) := q_mul 5 a
theorem q_a1 (a : Nat) : Int32.ofNat a + 1 = Int32.ofNat (a + 1) := q_add a 1
theorem q_a6 (a : Nat) : Int32.ofNat a + 6 = Int32.ofNat (a + 6) := q_add a 6
theorem q_71 (a : Nat) : 71 + Int32.ofNat a = Int32.ofNat (71 + a) := q_add 71 a
theorem q_76 (a : Nat) : 76 + Int32.ofNat a = Int32.ofNat (76 + a) := q_add 76 a
theorem q_11 (a : Nat) : 11 + Int32.ofNat a = Int32.ofNat (11 + a) := q_add 11 a
theorem q_41 (a : Nat) : 41 + Int32.ofNat a = Int32.ofNat (41 + a) := q_add 41 a
theorem q_87 (a : Nat) : 87 + Int32.ofNat a = Int32.ofNat (87 + a) := q_add 87 a
theorem q_5a (a : Nat) : 5 + Int32.ofNat a = Int32.ofNat (5 + a) := q_add 5 a
theorem q_0a (a : Nat) : 0 + Int32.ofNat a = Int32.ofNat a := by grind
theorem q_nat {a : Nat} (h : a < 2147483648) : (Int32.ofNat a).toNatClampNeg = a := p_on h
theorem q_in {a n : Nat} {A : Prop} (h : a < n) (hn : n < 2147483648) : lm_in (Int32.ofNat a) n False A = A := by
  refine propext ⟨fun hh => ?_, fun hA => p_inN h hn hA⟩
  unfold lm_in at hh
  by_cases c : Int32.ofNat a < 0 ∨ ¬ (Int32.ofNat a).toNatClampNeg < n
  · exfalso
    rcases c with c | c
    · rw [p_lt, p_onI (by omega)] at c
      have : (0 : Int32).toInt = 0 := rfl
      omega
    · rw [p_on (by omega)] at c
      exact c h
  · have c1 : ¬ (Int32.ofNat a < 0) := fun q => c (Or.inl q)
    have c2 : (Int32.ofNat a).toNatClampNeg < n := Decidable.not_not.1 fun q => c (Or.inr q)
    first
      | (rw [if_neg (by rintro (q | q); exact c1 q; omega)] at hh; exact hh)
      | (simp only [c1, false_or] at hh; rw [if_neg (by omega)] at hh; exact hh)
theorem q_lt {a b : Nat} (ha : a < 2147483648) (hb : b < 2147483648) : (Int32.ofNat a < Int32.ofNat b) = (a < b) := propext (p_onlt ha hb)
theorem q_eq {a b : Nat} (ha : a < 2147483648) (hb : b < 2147483648) : (Int32.ofNat a = Int32.ofNat b) = (a = b) := by
  refine propext ⟨fun hh => ?_, fun hh => by rw [hh]⟩
  have := congrArg Int32.toNatClampNeg hh
  rwa [p_on ha, p_on hb] at this
theorem q_lt0 {a : Nat} (ha : a < 2147483648) : (Int32.ofNat a < 0) = False := by
  refine propext ⟨fun hh => ?_, False.elim⟩
  rw [p_lt, p_onI ha] at hh
  have : (0 : Int32).toInt = 0 := rfl
  omega
theorem q_e0 {a : Nat} (ha : a < 2147483648) : (Int32.ofNat a = 0) = (a = 0) := q_eq ha (by decide)
theorem q_e1 {a : Nat} (ha : a < 2147483648) : (Int32.ofNat a = 1) = (a = 1) := q_eq ha (by decide)
theorem q_e6 {a : Nat} (ha : a < 2147483648) : (Int32.ofNat a = 6) = (a = 6) := q_eq ha (by decide)
theorem q_0l {a : Nat} (ha : a < 2147483648) : (0 < Int32.ofNat a) = (0 < a) := q_lt (by decide) ha
theorem q_1l {a : Nat} (ha : a < 2147483648) : (1 < Int32.ofNat a) = (1 < a) := q_lt (by decide) ha
theorem q_l2 {a : Nat} (ha : a < 2147483648) : (Int32.ofNat a < 2) = (a < 2) := q_lt ha (by decide)
/-- an Int32 that is not negative, as a number -/
theorem q_ex {x : Int32} (h : ¬ x < 0) : ∃ k : Nat, k < 2147483648 ∧ x = Int32.ofNat k := by
  obtain ⟨k, _, h2, h3⟩ := p_ix (x := x) (by grind)
  refine ⟨k, ?_, h2⟩
  have := p_hi x
  omega
theorem q_lim {x : Int32} {n : Nat} (h : ¬ x < 0) (h2 : x < Int32.ofNat n) (hn : n < 2147483648) : ∃ k : Nat, k < n ∧ x = Int32.ofNat k := by
  obtain ⟨k, hk, rfl⟩ := q_ex h
  rw [q_lt hk hn] at h2
  exact ⟨k, h2, rfl⟩
/-- a mask of the first n for which P holds -/
def q_mk (P : Nat → Bool) : Nat → Int32
  | 0 => 0
  | n + 1 => if P n then q_mk P n ||| ((1 : Int32) <<< (Int32.ofNat n &&& 31)) else q_mk P n
def q_cn (P : Nat → Bool) : Nat → Nat
  | 0 => 0
  | n + 1 => q_cn P n + (if P n then 1 else 0)
/-- who stands in host k's way (cu: the custom) -/
def q_rv (cu : Int32) (P : Nat → Bool) (k : Nat) : Nat → Nat
  | 0 => 0
  | n + 1 => q_rv cu P k n + (if P n = true ∧ ¬ n = k ∧ (cu = 1 → n < k) then 1 else 0)
/-- the first for whom P holds, or e -/
def q_fi (P : Nat → Bool) (e : Nat) : Nat → Nat
  | 0 => e
  | n + 1 => if q_fi P e n = e then (if P n then n else e) else q_fi P e n
theorem q_mk_c {P Q : Nat → Bool} {n : Nat} (h : ∀ j, j < n → P j = Q j) : q_mk P n = q_mk Q n := by
  induction n with
  | zero => rfl
  | succ n ih => rw [q_mk, q_mk, ih (fun j hj => h j (by omega)), h n (by omega)]
theorem q_cn_c {P Q : Nat → Bool} {n : Nat} (h : ∀ j, j < n → P j = Q j) : q_cn P n = q_cn Q n := by
  induction n with
  | zero => rfl
  | succ n ih => rw [q_cn, q_cn, ih (fun j hj => h j (by omega)), h n (by omega)]
theorem q_rv_c {cu : Int32} {P Q : Nat → Bool} {k n : Nat} (h : ∀ j, j < n → ¬ j = k → P j = Q j) : q_rv cu P k n = q_rv cu Q k n := by
  induction n with
  | zero => rfl
  | succ n ih =>
    rw [q_rv, q_rv, ih (fun j hj => h j (by omega))]
    by_cases c : n = k
    · simp [c]
    · rw [h n (by omega) c]
theorem q_fi_c {P Q : Nat → Bool} {e n : Nat} (h : ∀ j, j < n → P j = Q j) : q_fi P e n = q_fi Q e n := by
  induction n with
  | zero => rfl
  | succ n ih => rw [q_fi, q_fi, ih (fun j hj => h j (by omega)), h n (by omega)]
/-- seven answers as a function -/
def q_pb (b0 b1 b2 b3 b4 b5 b6 : Bool) (j : Nat) : Bool := match j with
  | 0 => b0
  | 1 => b1
  | 2 => b2
  | 3 => b3
  | 4 => b4
  | 5 => b5
  | 6 => b6
  | _ => false
theorem q_pb_eq (P : Nat → Bool) {j : Nat} (hj : j < 7) : P j = q_pb (P 0) (P 1) (P 2) (P 3) (P 4) (P 5) (P 6) j := by
  match j, hj with
  | 0, _ => rfl
  | 1, _ => rfl
  | 2, _ => rfl
  | 3, _ => rfl
  | 4, _ => rfl
  | 5, _ => rfl
  | 6, _ => rfl
theorem q_pb5 (P : Nat → Bool) {j : Nat} (hj : j < 5) : P j = q_pb (P 0) (P 1) (P 2) (P 3) (P 4) false false j := by
  match j, hj with
  | 0, _ => rfl
  | 1, _ => rfl
  | 2, _ => rfl
  | 3, _ => rfl
  | 4, _ => rfl
/-- Integer.bitCount, as it reckons -/
def q_b1 (x : Int32) : Int32 := x - (((x.toUInt32 >>> ((1 : Int32).toUInt32 &&& Int32.toUInt32 31)).toInt32) &&& 1431655765)
def q_b2 (x : Int32) : Int32 := (x &&& 858993459) + (((x.toUInt32 >>> ((2 : Int32).toUInt32 &&& Int32.toUInt32 31)).toInt32) &&& 858993459)
def q_b4 (x : Int32) : Int32 := (x + ((x.toUInt32 >>> ((4 : Int32).toUInt32 &&& Int32.toUInt32 31)).toInt32)) &&& 252645135
def q_b8 (x : Int32) : Int32 := x + ((x.toUInt32 >>> ((8 : Int32).toUInt32 &&& Int32.toUInt32 31)).toInt32)
def q_b16 (x : Int32) : Int32 := (x + ((x.toUInt32 >>> ((16 : Int32).toUInt32 &&& Int32.toUInt32 31)).toInt32)) &&& 63
def q_bc (x : Int32) : Int32 := q_b16 (q_b8 (q_b4 (q_b2 (q_b1 x))))
theorem cl_262 {D : Nat} {h : lm_H} {K : Int32 → lm_H → Prop} (hD : 1 ≤ D) (hl : lm_Lay h) (x : Int32) (hK : K (q_bc x) h) : lm_call D 262 [.int x] h (lm_kI K) := by
  obtain ⟨d, rfl⟩ := q_dp hD
  exact e_262 x hl hK
set_option maxRecDepth 20000 in
theorem q_bc_all : ∀ b0 b1 b2 b3 b4 : Bool, ∀ n, n < 6 → q_bc (q_mk (q_pb b0 b1 b2 b3 b4 false false) n) = Int32.ofNat (q_cn (q_pb b0 b1 b2 b3 b4 false false) n) := by decide +kernel
set_option maxRecDepth 20000 in
theorem q_bo_all : ∀ b0 b1 b2 b3 b4 : Bool, ∀ n, n < 6 → ∀ k, k < 5 → q_bc (q_mk (q_pb b0 b1 b2 b3 b4 false false) n &&& (((1 : Int32) <<< (Int32.ofNat k &&& 31)) ^^^ (-1))) = Int32.ofNat (q_rv 0 (q_pb b0 b1 b2 b3 b4 false false) k n) := by decide +kernel
set_option maxRecDepth 20000 in
theorem q_bl_all : ∀ b0 b1 b2 b3 b4 : Bool, ∀ n, n < 6 → ∀ k, k < 5 → q_bc ((q_mk (q_pb b0 b1 b2 b3 b4 false false) n &&& (((1 : Int32) <<< (Int32.ofNat k &&& 31)) ^^^ (-1))) &&& (((1 : Int32) <<< (Int32.ofNat k &&& 31)) - 1)) = Int32.ofNat (q_rv 1 (q_pb b0 b1 b2 b3 b4 false false) k n) := by decide +kernel
theorem q_bc_mk (P : Nat → Bool) {n : Nat} (hn : n ≤ 5) : q_bc (q_mk P n) = Int32.ofNat (q_cn P n) := by
  have h1 := q_bc_all (P 0) (P 1) (P 2) (P 3) (P 4) n (by omega)
  rwa [← q_mk_c (fun j hj => q_pb5 P (j := j) (by omega)), ← q_cn_c (fun j hj => q_pb5 P (j := j) (by omega))] at h1
theorem q_bo_mk (P : Nat → Bool) {n k : Nat} (hn : n ≤ 5) (hk : k < 5) : q_bc (q_mk P n &&& (((1 : Int32) <<< (Int32.ofNat k &&& 31)) ^^^ (-1))) = Int32.ofNat (q_rv 0 P k n) := by
  have h1 := q_bo_all (P 0) (P 1) (P 2) (P 3) (P 4) n (by omega) k hk
  rwa [← q_mk_c (fun j hj => q_pb5 P (j := j) (by omega)), ← q_rv_c (fun j hj _ => q_pb5 P (j := j) (by omega))] at h1
theorem q_bl_mk (P : Nat → Bool) {n k : Nat} (hn : n ≤ 5) (hk : k < 5) : q_bc ((q_mk P n &&& (((1 : Int32) <<< (Int32.ofNat k &&& 31)) ^^^ (-1))) &&& (((1 : Int32) <<< (Int32.ofNat k &&& 31)) - 1)) = Int32.ofNat (q_rv 1 P k n) := by
  have h1 := q_bl_all (P 0) (P 1) (P 2) (P 3) (P 4) n (by omega) k hk
  rwa [← q_mk_c (fun j hj => q_pb5 P (j := j) (by omega)), ← q_rv_c (fun j hj _ => q_pb5 P (j := j) (by omega))] at h1
theorem q_rv_cu {cu : Int32} (h : ¬ cu = 1) (P : Nat → Bool) (k n : Nat) : q_rv cu P k n = q_rv 0 P k n := by
  induction n with
  | zero => rfl
  | succ n ih =>
    rw [q_rv, q_rv, ih]
    simp [h]
theorem q_rv_le {cu : Int32} (P : Nat → Bool) (k n : Nat) : q_rv cu P k n ≤ n := by
  induction n with
  | zero => exact Nat.le_refl 0
  | succ n ih =>
    rw [q_rv]
    split <;> omega
theorem q_rv_lt {cu : Int32} (P : Nat → Bool) {k n : Nat} (hk : k < n) : q_rv cu P k n < n := by
  induction n with
  | zero => omega
  | succ n ih =>
    rw [q_rv]
    by_cases c : n = k
    · have := q_rv_le (cu := cu) P k n
      rw [if_neg (by simp [c])]
      omega
    · have := ih (by omega)
      split <;> omega
theorem q_cn_le (P : Nat → Bool) (n : Nat) : q_cn P n ≤ n := by
  induction n with
  | zero => exact Nat.le_refl 0
  | succ n ih =>
    rw [q_cn]
    split <;> omega
/-- sixtieths of a guest -/
def q_sh (cu : Int32) (c : Nat) : Int32 := if c = 0 then 60 else if cu = 2 then 60 / (Int32.ofNat c + 1) else 0
/-- what host k gains by a guest of worth w whom those ask for whom P holds -/
def q_gn (n : Nat) (cu lo w : Int32) (P : Nat → Bool) (k : Nat) : Int32 := q_sh cu (q_rv cu P k n) * (w - lo) + 60 * lo
theorem q_gn_c {n : Nat} {cu lo w : Int32} {P Q : Nat → Bool} {k : Nat} (h : ∀ j, j < n → ¬ j = k → P j = Q j) : q_gn n cu lo w P k = q_gn n cu lo w Q k := by
  rw [q_gn, q_gn, q_rv_c h]
theorem q_gn_lo (n : Nat) (cu lo : Int32) (P : Nat → Bool) (k : Nat) : q_gn n cu lo lo P k = 60 * lo := by
  rw [q_gn]
  grind
