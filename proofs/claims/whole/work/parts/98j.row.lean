/-! row: both sides read triples off the tape. -/
section Xl98jrow
variable {xl : (Nat → Int32) × Nat}
/-- triple t is good -/
def gT3 (b : Nat → Nat) (n m t : Nat) : Bool := decide (b (3 * t) < n ∧ b (3 * t + 1) < m ∧ 1 ≤ b (3 * t + 2) ∧ b (3 * t + 2) ≤ 199)
/-- rows after t triples, and how many were good -/
def uT (b : Nat → Nat) (n m : Nat) (f : Nat → Int32) (o : Nat) : Nat → Nat → Int32
  | 0 => f
  | t + 1 => if gT3 b n m t then up (uT b n m f o t) (o + (6 * b (3 * t) + b (3 * t + 1))) (Int32.ofNat (b (3 * t + 2)) - 100) else uT b n m f o t
def nG (b : Nat → Nat) (n m : Nat) : Nat → Nat := q_cn (gT3 b n m)
theorem iT_b {h : lm_H} (H : iT h) : ∃ b : Nat → Nat, ∀ j, j < 400 → b j < 256 ∧ lm_i h 12 j = Int32.ofNat (b j) ∧ lm_i h 98 j = sb (b j) := by
  refine ⟨fun j => (lm_i h 12 j).toNatClampNeg, fun j hj => ?_⟩
  obtain ⟨x, x1, x2, x3⟩ := H.2 j hj
  show (lm_i h 12 j).toNatClampNeg < 256 ∧ lm_i h 12 j = Int32.ofNat (lm_i h 12 j).toNatClampNeg ∧ lm_i h 98 j = sb (lm_i h 12 j).toNatClampNeg
  rw [x2, q_nat (by omega)]
  exact ⟨x1, rfl, x3⟩
theorem v100 {z : Nat} (hz : z < 256) : (Int32.ofNat z - 100 < -99 ↔ z < 1) ∧ (99 < Int32.ofNat z - 100 ↔ 199 < z) := by
  have e : (Int32.ofNat z - 100).toInt = (z : Int) - 100 := by
    rw [p_tI_sub (by rw [p_onI (by omega)]; simp only [Int32.reduceToInt]; omega) (by rw [p_onI (by omega)]; simp only [Int32.reduceToInt]; omega), p_onI (by omega)]
    rfl
  rw [p_lt, p_lt, e]
  simp only [Int32.reduceToInt]
  omega
theorem row_ok {h : lm_H} {b : Nat → Nat} {n m : Nat} (ht : iv_tw h 1 (lm_i h 94)) (hw : wf2 (lm_i h 94)) (h5 : n ≤ 5) (h6 : m ≤ 6) : ∀ t, iv_tw (lm_row h 4 (uT b n m (lm_i h 4) 0 t)) 1 (uT b n m (lm_i h 94) 11 t) ∧ wf2 (uT b n m (lm_i h 94) 11 t) ∧ ∀ j, 41 ≤ j → uT b n m (lm_i h 94) 11 t j = lm_i h 94 j := by
  intro t
  induction t with
  | zero =>
    refine ⟨?_, hw, fun _ _ => rfl⟩
    rw [show uT b n m (lm_i h 4) 0 0 = lm_i h 4 from rfl, q_rowI]
    exact ht
  | succ t ih =>
    obtain ⟨i1, i2, i3⟩ := ih
    rw [uT, uT]
    by_cases c : gT3 b n m t = true
    · rw [if_pos c, if_pos c]
      have g := of_decide_eq_true c
      have q := tw_base (k := 6 * b (3 * t) + b (3 * t + 1)) (x := Int32.ofNat (b (3 * t + 2)) - 100) i1 (by omega)
      rw [q_rowS] at q
      have v := v100 (z := b (3 * t + 2)) (by omega)
      refine ⟨?_, wf_base i2 (by omega) ⟨Int32.not_lt.1 (fun z => by have := v.1.1 z; omega), Int32.not_lt.1 (fun z => by have := v.2.1 z; omega)⟩, fun j hj => ?_⟩
      · rw [Nat.zero_add]
        exact q
      · rw [up_ne (by omega)]
        exact i3 j hj
    · rw [if_neg c, if_neg c]
      exact ⟨i1, i2, i3⟩
theorem cl_142 {D n m t L : Nat} {h z : lm_H} {K : Int32 → lm_H → Prop} {b : Nat → Nat} (hD : 3 ≤ D) (hl : lm_Lay z) (h5 : n ≤ 5) (h6 : m ≤ 6) (hn : lm_i z 1 0 = Int32.ofNat n) (hm : lm_i z 1 1 = Int32.ofNat m) (hL : lm_i z 11 1 = Int32.ofNat L) (h4 : L ≤ 400) (hb : ∀ j, j < 400 → b j < 256 ∧ lm_i z 12 j = Int32.ofNat (b j)) (ht : 3 * t < L)
    (h0 : (3 * t + 2 < L → gT3 b n m t = false) → K 0 z) (h1 : 3 * t + 2 < L → gT3 b n m t = true → K 1 (lm_si z 4 (6 * b (3 * t) + b (3 * t + 1)) (Int32.ofNat (b (3 * t + 2)) - 100))) : lm_call D 142 [.ref 0, .int (Int32.ofNat (3 * t))] z (lm_kI K) := by
  obtain ⟨d, rfl⟩ := q_dp hD
  refine e_142 _ hl ?_
  rw [show (2 : Int32) = Int32.ofNat 2 from rfl, q_add, q_a1, hL]
  by_cases c : ¬ 3 * t + 2 < L
  · rw [if_neg (by rw [q_lt (by omega) (by omega)]; exact c)]
    exact h0 (fun q => absurd q c)
  have c := Decidable.not_not.1 c
  obtain ⟨b0, e0⟩ := hb (3 * t) (by omega)
  obtain ⟨b1, e1⟩ := hb (3 * t + 1) (by omega)
  obtain ⟨b2, e2⟩ := hb (3 * t + 2) (by omega)
  have v := v100 b2
  rw [if_pos (by rw [q_lt (by omega) (by omega)]; exact c), q_in (by omega) (by decide), q_in (by omega) (by decide), q_in (by omega) (by decide), q_nat (by omega), q_nat (by omega), q_nat (by omega), e0, e1, e2, hn, hm]
  have no : ¬ (b (3 * t) < n ∧ b (3 * t + 1) < m ∧ 1 ≤ b (3 * t + 2) ∧ b (3 * t + 2) ≤ 199) → K 0 z := fun q => h0 (fun _ => decide_eq_false q)
  by_cases k1 : b (3 * t + 2) < 1
  · rw [if_pos (v.1.2 k1)]
    exact no (by omega)
  rw [if_neg (fun q => k1 (v.1.1 q))]
  by_cases k2 : 199 < b (3 * t + 2)
  · rw [if_pos (v.2.2 k2)]
    exact no (by omega)
  rw [if_neg (fun q => k2 (v.2.1 q)), if_neg (by rw [q_lt0 (by omega)]; exact id)]
  by_cases k3 : ¬ b (3 * t) < n
  · rw [if_neg (by rw [q_lt (by omega) (by omega)]; exact k3)]
    exact no (by omega)
  have k3 := Decidable.not_not.1 k3
  rw [if_pos (by rw [q_lt (by omega) (by omega)]; exact k3), if_neg (by rw [q_lt0 (by omega)]; exact id)]
  by_cases k4 : ¬ b (3 * t + 1) < m
  · rw [if_neg (by rw [q_lt (by omega) (by omega)]; exact k4)]
    exact no (by omega)
  have k4 := Decidable.not_not.1 k4
  rw [if_pos (by rw [q_lt (by omega) (by omega)]; exact k4), q_m6, q_add, q_in (by omega) (by decide), q_nat (by omega), show b (3 * t) * 6 + b (3 * t + 1) = 6 * b (3 * t) + b (3 * t + 1) from by omega]
  exact h1 c (decide_eq_true ⟨k3, k4, by omega, by omega⟩)
theorem lp_105 {d n m L : Nat} {h : lm_H} {K : Int32 → lm_H → Prop} {b : Nat → Nat} (hD : 3 ≤ d + 2) (hl : lm_Lay h) (h5 : n ≤ 5) (h6 : m ≤ 6) (hn : lm_i h 1 0 = Int32.ofNat n) (hm : lm_i h 1 1 = Int32.ofNat m) (hL : lm_i h 11 1 = Int32.ofNat L) (h4 : L ≤ 400) (hb : ∀ j, j < 400 → b j < 256 ∧ lm_i h 12 j = Int32.ofNat (b j))
    (hK : ∀ z, fr [4] [] h z → lm_i z 4 = uT b n m (lm_i h 4) 0 (L / 3) → K (Int32.ofNat (nG b n m (L / 3))) (lm_si (lm_si (lm_si z 11 1 0) 0 17 (Int32.ofNat ((if L % 3 = 0 then 0 else 1) + (L / 3 - nG b n m (L / 3))))) 0 15 0)) : (lm_W (d + 2) 105 23 [some (.ref 0), some (.int 0), some (.int 0), some (.int 0)] [] h (lm_kI K)) := by
  have key : ∀ r t : Nat, r + t = L / 3 → ∀ z, fr [4] [] h z → lm_i z 4 = uT b n m (lm_i h 4) 0 t → (lm_W (d + 2) 105 23 [some (.ref 0), some (.int (Int32.ofNat (nG b n m t))), some (.int (Int32.ofNat (t - nG b n m t))), some (.int (Int32.ofNat (3 * t)))] [] z (lm_kI K)) := by
    intro r
    induction r with
    | zero =>
      intro t ht z f1 z1
      have : t = L / 3 := by omega
      subst this
      have gl := q_cn_le (gT3 b n m) (L / 3)
      have gl : nG b n m (L / 3) ≤ L / 3 := gl
      refine b_105_23 _ _ _ (fr_Lay f1 hl) ?_
      rw [fr_i f1 (c := 11) (by decide) (by decide), hL]
      have fin := hK z f1 z1
      by_cases c : L % 3 = 0
      · rw [if_neg (by rw [q_lt (by omega) (by omega)]; omega)]
        rw [if_pos c, Nat.zero_add] at fin
        exact fin
      · rw [if_pos (by rw [q_lt (by omega) (by omega)]; omega)]
        refine cl_142 (h := h) (b := b) (L := L) hD (fr_Lay f1 hl) h5 h6 (by rw [fr_i f1 (by decide) (by decide)]; exact hn) (by rw [fr_i f1 (by decide) (by decide)]; exact hm) (by rw [fr_i f1 (by decide) (by decide)]; exact hL) h4 (by rw [fr_i f1 (c := 12) (by decide) (by decide)]; exact hb) (by omega) (fun _ => ?_) (fun q => by omega)
        rw [if_pos rfl]
        refine b_105_23 _ _ _ (fr_Lay f1 hl) ?_
        rw [fr_i f1 (c := 11) (by decide) (by decide), hL, show (3 : Int32) = Int32.ofNat 3 from rfl, q_add, if_neg (by rw [q_lt (by omega) (by omega)]; omega), q_a1]
        rw [if_neg c, Nat.add_comm] at fin
        exact fin
    | succ r ih =>
      intro t ht z f1 z1
      have gl : nG b n m t ≤ t := q_cn_le (gT3 b n m) t
      refine b_105_23 _ _ _ (fr_Lay f1 hl) ?_
      rw [fr_i f1 (c := 11) (by decide) (by decide), hL, if_pos (by rw [q_lt (by omega) (by omega)]; omega)]
      have e3 : Int32.ofNat (3 * t) + 3 = Int32.ofNat (3 * (t + 1)) := q_add (3 * t) 3
      refine cl_142 (h := h) (b := b) (L := L) hD (fr_Lay f1 hl) h5 h6 (by rw [fr_i f1 (by decide) (by decide)]; exact hn) (by rw [fr_i f1 (by decide) (by decide)]; exact hm) (by rw [fr_i f1 (by decide) (by decide)]; exact hL) h4 (by rw [fr_i f1 (c := 12) (by decide) (by decide)]; exact hb) (by omega) (fun q => ?_) (fun _ q => ?_)
      · have q := q (by omega)
        rw [if_pos rfl, e3, q_a1]
        have g1 : nG b n m (t + 1) = nG b n m t := by
          show q_cn (gT3 b n m) (t + 1) = q_cn (gT3 b n m) t
          rw [q_cn, q]
          rfl
        have := ih (t + 1) (by omega) z f1 (by rw [z1, uT, q]; rfl)
        rw [g1, show t + 1 - nG b n m t = t - nG b n m t + 1 from by omega] at this
        exact this
      · rw [if_neg (by decide), e3, q_a1]
        have g1 : nG b n m (t + 1) = nG b n m t + 1 := by
          show q_cn (gT3 b n m) (t + 1) = q_cn (gT3 b n m) t + 1
          rw [q_cn, if_pos q]
        have := ih (t + 1) (by omega) _ (fr_si (c := 4) f1 (by decide) (by decide) (6 * b (3 * t) + b (3 * t + 1)) (Int32.ofNat (b (3 * t + 2)) - 100)) (by
          rw [uT, if_pos q, Nat.zero_add, ← z1]
          rfl)
        rw [g1, show t + 1 - (nG b n m t + 1) = t - nG b n m t from by omega] at this
        exact this
  exact key (L / 3) 0 (by omega) h (fr_refl _ _ _) rfl
theorem lp_171 {d n m L p : Nat} {h : lm_H} {K : Int32 → lm_H → Prop} {b : Nat → Nat} (hl : lm_Lay h) (h5 : n ≤ 5) (h6 : m ≤ 6) (hn : lm_i h 94 81 = Int32.ofNat n) (hm : lm_i h 94 82 = Int32.ofNat m) (h41 : ∀ t j, 41 ≤ j → uT b n m (lm_i h 94) 11 t j = lm_i h 94 j) (h4 : L ≤ 400) (hb : ∀ j, j < 400 → b j < 256 ∧ lm_i h 98 j = sb (b j)) (hp : lm_i h 92 6 = Int32.ofNat p) (hp1 : p ≤ 1)
    (hK : ∀ z, fr [94] [6] h z → lm_i z 94 = uT b n m (lm_i h 94) 11 (L / 3) → lm_i z 92 6 = Int32.ofNat (p + (L / 3 - nG b n m (L / 3))) → K (Int32.ofNat (nG b n m (L / 3))) (lm_si (lm_si z 92 0 0) 92 1 ((lm_i z 92 1) + 1))) : (lm_W (d + 2) 171 40 [some (.ref 92), some (.int (Int32.ofNat L)), some (.int 0), some (.int 0), none] [] h (lm_kI K)) := by
  have key : ∀ r t : Nat, r + t = L / 3 → ∀ z, fr [94] [6] h z → lm_i z 94 = uT b n m (lm_i h 94) 11 t → lm_i z 92 6 = Int32.ofNat (p + (t - nG b n m t)) → (lm_W (d + 2) 171 40 [some (.ref 92), some (.int (Int32.ofNat L)), some (.int (Int32.ofNat (nG b n m t))), some (.int (Int32.ofNat (3 * t))), none] [] z (lm_kI K)) := by
    intro r
    induction r with
    | zero =>
      intro t ht z f1 z1 z2
      have : t = L / 3 := by omega
      subst this
      refine b_171_40 _ _ _ (fr_Lay f1 hl) ?_
      rw [show (3 : Int32) = Int32.ofNat 3 from rfl, q_add, if_pos (by rw [q_lt (by omega) (by omega)]; omega)]
      exact hK z f1 z1 z2
    | succ r ih =>
      intro t ht z f1 z1 z2
      have gl : nG b n m t ≤ t := q_cn_le (gT3 b n m) t
      have e3 : Int32.ofNat (3 * t) + 3 = Int32.ofNat (3 * (t + 1)) := q_add (3 * t) 3
      obtain ⟨b0, e0⟩ := hb (3 * t) (by omega)
      obtain ⟨b1, e1⟩ := hb (3 * t + 1) (by omega)
      obtain ⟨b2, e2⟩ := hb (3 * t + 2) (by omega)
      have z81 : lm_i z 94 81 = Int32.ofNat n := by rw [z1, h41 t 81 (by omega)]; exact hn
      have z82 : lm_i z 94 82 = Int32.ofNat m := by rw [z1, h41 t 82 (by omega)]; exact hm
      have sx : ∀ x, x < 256 → (sb x < 0 ↔ 128 ≤ x) ∧ (x < 128 → sb x = Int32.ofNat x) := by
        intro x hx
        unfold sb
        by_cases c : x < 128
        · rw [if_pos c, q_lt0 (by omega)]
          exact ⟨⟨fun q => q.elim, fun q => by omega⟩, fun _ => rfl⟩
        · rw [if_neg c, p_lt, p_tI_sub (by rw [p_onI (by omega)]; simp only [Int32.reduceToInt]; omega) (by rw [p_onI (by omega)]; simp only [Int32.reduceToInt]; omega), p_onI (by omega)]
          simp only [Int32.reduceToInt]
          exact ⟨by omega, fun q => absurd q c⟩
      have an : sb (b (3 * t + 2)) &&& 255 = Int32.ofNat (b (3 * t + 2)) := (sb_all _ b2).2.2.2.2.2
      refine b_171_40 _ _ _ (fr_Lay f1 hl) ?_
      rw [e3, if_neg (by rw [q_lt (by omega) (by omega)]; omega), show (2 : Int32) = Int32.ofNat 2 from rfl, q_add, q_a1, q_in (by omega) (by decide), q_nat (by omega), q_nat (by omega), q_nat (by omega), fr_i f1 (c := 98) (by decide) (by decide), e0, e1, e2, an, z81, z82, Int32.add_zero, Int32.add_zero, q_a1, z2]
      have no : ¬ (b (3 * t) < n ∧ b (3 * t + 1) < m ∧ 1 ≤ b (3 * t + 2) ∧ b (3 * t + 2) ≤ 199) → (lm_W (d + 2) 171 40 [some (.ref 92), some (.int (Int32.ofNat L)), some (.int (Int32.ofNat (nG b n m t))), some (.int (Int32.ofNat (3 * (t + 1)))), none] [] (lm_si z 92 6 (Int32.ofNat (p + (t - nG b n m t)) + 1)) (lm_kI K)) := by
        intro q
        have q2 : gT3 b n m t = false := decide_eq_false q
        have g1 : nG b n m (t + 1) = nG b n m t := by
          show q_cn (gT3 b n m) (t + 1) = q_cn (gT3 b n m) t
          rw [q_cn, q2]
          rfl
        have := ih (t + 1) (by omega) (lm_si z 92 6 (Int32.ofNat (p + (t - nG b n m t)) + 1)) (fr_s92 f1 (by decide) _) (by rw [uT, q2]; exact z1) (by
          simp only [pi_si, if_true]
          rw [q_a1, g1]
          congr 1
          omega)
        rw [g1] at this
        exact this
      by_cases k1 : 128 ≤ b (3 * t)
      · rw [if_pos ((sx _ b0).1.2 k1)]
        exact no (by omega)
      rw [if_neg (fun q => k1 ((sx _ b0).1.1 q)), (sx _ b0).2 (by omega)]
      by_cases k2 : ¬ b (3 * t) < n
      · rw [if_pos (by rw [q_m1 (by omega) (by omega)]; exact k2)]
        exact no (by omega)
      have k2 := Decidable.not_not.1 k2
      rw [if_neg (by rw [q_m1 (by omega) (by omega)]; exact fun q => q k2), q_in (by omega) (by decide)]
      by_cases k3 : 128 ≤ b (3 * t + 1)
      · rw [if_pos ((sx _ b1).1.2 k3)]
        exact no (by omega)
      rw [if_neg (fun q => k3 ((sx _ b1).1.1 q)), (sx _ b1).2 (by omega)]
      by_cases k4 : ¬ b (3 * t + 1) < m
      · rw [if_pos (by rw [q_m1 (by omega) (by omega)]; exact k4)]
        exact no (by omega)
      have k4 := Decidable.not_not.1 k4
      rw [if_neg (by rw [q_m1 (by omega) (by omega)]; exact fun q => q k4), q_in (by omega) (by decide)]
      by_cases k5 : b (3 * t + 2) < 1
      · rw [if_pos (by rw [show (1 : Int32) = Int32.ofNat 1 from rfl, q_lt (by omega) (by omega)]; exact k5)]
        exact no (by omega)
      rw [if_neg (by rw [show (1 : Int32) = Int32.ofNat 1 from rfl, q_lt (by omega) (by omega)]; exact k5)]
      by_cases k6 : 199 < b (3 * t + 2)
      · rw [if_pos (by rw [show (199 : Int32) = Int32.ofNat 199 from rfl, q_lt (by omega) (by omega)]; exact k6)]
        exact no (by omega)
      rw [if_neg (by rw [show (199 : Int32) = Int32.ofNat 199 from rfl, q_lt (by omega) (by omega)]; exact k6), q_in (by omega) (by decide), q_in (by omega) (by decide), q_in (by omega) (by decide), q_6m, q_11, q_add, q_in (by omega) (by decide), q_nat (by omega)]
      have q2 : gT3 b n m t = true := decide_eq_true ⟨k2, k4, by omega, by omega⟩
      have g1 : nG b n m (t + 1) = nG b n m t + 1 := by
        show q_cn (gT3 b n m) (t + 1) = q_cn (gT3 b n m) t + 1
        rw [q_cn, if_pos q2]
      have := ih (t + 1) (by omega) (lm_si (lm_si z 94 (11 + 6 * b (3 * t) + b (3 * t + 1)) (Int32.ofNat (b (3 * t + 2)) - 100)) 92 6 (Int32.ofNat (p + (t - nG b n m t)))) (fr_s92 (fr_si f1 (by decide) (by decide) _ _) (by decide) _) (by
        rw [uT, if_pos q2, ← z1, ← Nat.add_assoc]
        rfl) (by
        simp only [pi_si, if_true]
        rw [g1]
        congr 1
        omega)
      rw [g1] at this
      exact this
  exact key (L / 3) 0 (by omega) h (fr_refl _ _ _) rfl (by rw [hp]; rfl)
theorem op_105 {D nc : Nat} {h : lm_H} (hD : 170 ≤ D) (hn : nc ≤ 10000) (H : INV xl nc h) : lm_call D 105 [.ref 0] h (lm_kI fun r h1 => lm_call D 171 [.ref 92] h1 (lm_kI fun r2 h2 => r = r2 ∧ INV xl (nc + 1) h2)) := by
  obtain ⟨d, rfl⟩ := q_dp hD
  obtain ⟨⟨hl, ht, hw, ⟨m1, m2, m3, m4⟩, m5, m6, m7, m8, m9⟩, _, tp, _⟩ := INV_s H
  obtain ⟨n, _, n2, n3⟩ := p_ix hw.1.1.1
  obtain ⟨m, _, g2, g3⟩ := p_ix hw.1.2.1.1
  have n5 := hw.1.1.2
  have g6 := hw.1.2.1.2
  simp only [p_le, Int32.reduceToInt] at n5 g6
  obtain ⟨b, hb⟩ := iT_b tp
  obtain ⟨L, L4, l1⟩ := tp.1
  refine e_105 hl ?_
  rw [m4, l1]
  by_cases c0 : L = 0
  · rw [if_pos (by rw [c0]; rfl)]
    refine e_171 (lm_Lay_si (lm_Lay_si hl _ _ _) _ _ _) ?_
    simp only [pi_si, Nat.reduceEqDiff, if_true, if_false, l1]
    rw [if_pos (by rw [c0]; rfl)]
    have e10 : lm_i h 92 10 = 0 := by rw [l1, c0]; rfl
    refine ⟨by first | rfl | trivial, INV_sm H (fr_si (fr_s92 (fr_s92 (fr_si (fr_si (fr_refl _ _ _) (by decide) (by decide) _ _) (by decide) (by decide) _ _) (by decide) _) (by decide) _) (by decide) (by decide) _ _) ⟨⟨rfl, m2, m3, ?_⟩, m5, m6, m7, m8, ?_⟩ ⟨⟨0, by omega, rfl⟩, tp.2⟩⟩
    · show lm_i h 11 1 = 0
      rw [m4, e10]
    · show lm_i h 75 4 + 1 = lm_i h 93 6 + 1
      rw [m9]
  rw [if_neg (by rw [q_e0 (by omega)]; exact c0)]
  refine lp_105 (b := b) (n := n) (m := m) (L := L) (by omega) hl (by omega) (by omega) (by rw [ht.1.1]; exact n2) (by rw [ht.1.2.1]; exact g2) (by rw [m4]; exact l1) L4 (fun j hj => ⟨(hb j hj).1, (hb j hj).2.1⟩) (fun z f1 z1 => ?_)
  have R := row_ok (b := b) (n := n) (m := m) ht hw (by omega) (by omega)
  have f2 : fr [0, 4, 11] [] h (lm_si (lm_si (lm_si z 11 1 0) 0 17 (Int32.ofNat ((if L % 3 = 0 then 0 else 1) + (L / 3 - nG b n m (L / 3))))) 0 15 0) := fr_si (fr_si (fr_si (fr_sub f1 (by decide) (by decide)) (by decide) (by decide) _ _) (by decide) (by decide) _ _) (by decide) (by decide) _ _
  have y4 : lm_i (lm_si (lm_si (lm_si z 11 1 0) 0 17 (Int32.ofNat ((if L % 3 = 0 then 0 else 1) + (L / 3 - nG b n m (L / 3))))) 0 15 0) 4 = uT b n m (lm_i h 4) 0 (L / 3) := z1
  have y15 : lm_i (lm_si (lm_si (lm_si z 11 1 0) 0 17 (Int32.ofNat ((if L % 3 = 0 then 0 else 1) + (L / 3 - nG b n m (L / 3))))) 0 15 0) 0 15 = 0 := rfl
  have y16 : lm_i (lm_si (lm_si (lm_si z 11 1 0) 0 17 (Int32.ofNat ((if L % 3 = 0 then 0 else 1) + (L / 3 - nG b n m (L / 3))))) 0 15 0) 0 16 = lm_i h 0 16 := by
    show lm_i z 0 16 = lm_i h 0 16
    rw [fr_i f1 (by decide) (by decide)]
  have y17 : lm_i (lm_si (lm_si (lm_si z 11 1 0) 0 17 (Int32.ofNat ((if L % 3 = 0 then 0 else 1) + (L / 3 - nG b n m (L / 3))))) 0 15 0) 0 17 = Int32.ofNat ((if L % 3 = 0 then 0 else 1) + (L / 3 - nG b n m (L / 3))) := rfl
  have y11 : lm_i (lm_si (lm_si (lm_si z 11 1 0) 0 17 (Int32.ofNat ((if L % 3 = 0 then 0 else 1) + (L / 3 - nG b n m (L / 3))))) 0 15 0) 11 1 = 0 := rfl
  generalize lm_si (lm_si (lm_si z 11 1 0) 0 17 (Int32.ofNat ((if L % 3 = 0 then 0 else 1) + (L / 3 - nG b n m (L / 3))))) 0 15 0 = h1 at f2 y4 y15 y16 y17 y11
  have e94 := fr_i f2 (c := 94) (by decide) (by decide)
  have e10 : lm_i h1 92 10 = Int32.ofNat L := by rw [fr_m f2 (by decide)]; exact l1
  have fin : ∀ p : Nat, p = (if L % 3 = 0 then 0 else 1) → (lm_W ((d + 167) + 2) 171 40 [some (.ref 92), some (.int (Int32.ofNat L)), some (.int 0), some (.int 0), none] [] (lm_si (lm_si h1 92 10 0) 92 6 (Int32.ofNat p)) (lm_kI (fun r2 h2 => Int32.ofNat (nG b n m (L / 3)) = r2 ∧ INV xl (nc + 1) h2))) := by
    intro p hp
    have f3 : fr [] [6, 10] h1 (lm_si (lm_si h1 92 10 0) 92 6 (Int32.ofNat p)) := fr_s92 (fr_s92 (fr_refl _ _ _) (by decide) _) (by decide) _
    have x94 : lm_i (lm_si (lm_si h1 92 10 0) 92 6 (Int32.ofNat p)) 94 = lm_i h 94 := by rw [fr_i f3 (by decide) (by decide), e94]
    have x98 : lm_i (lm_si (lm_si h1 92 10 0) 92 6 (Int32.ofNat p)) 98 = lm_i h 98 := by rw [fr_i f3 (by decide) (by decide), fr_i f2 (by decide) (by decide)]
    refine lp_171 (b := b) (n := n) (m := m) (p := p) (fr_Lay f3 (fr_Lay f2 hl)) (by omega) (by omega) (by rw [x94]; exact n2) (by rw [x94]; exact g2) (fun t j hj => by rw [x94]; exact (R t).2.2 j hj) L4 (fun j hj => by rw [x98]; exact ⟨(hb j hj).1, (hb j hj).2.2⟩) (by simp only [pi_si, if_true]) (by subst hp; split <;> omega) (fun z2 f4 w1 w2 => ?_)
    rw [x94] at w1
    have f5 : fr [94] [0, 1, 6] (lm_si (lm_si h1 92 10 0) 92 6 (Int32.ofNat p)) (lm_si (lm_si z2 92 0 0) 92 1 ((lm_i z2 92 1) + 1)) := fr_s92 (fr_s92 (fr_sub f4 (by decide) (by decide)) (by decide) _) (by decide) _
    have f6 : fr [0, 4, 11, 94] [0, 1, 6, 10] h (lm_si (lm_si z2 92 0 0) 92 1 ((lm_i z2 92 1) + 1)) := fr_trans (fr_sub f2 (by decide) (by decide)) (fr_trans (fr_sub f3 (by decide) (by decide)) (fr_sub f5 (by decide) (by decide)))
    have v94 : lm_i (lm_si (lm_si z2 92 0 0) 92 1 ((lm_i z2 92 1) + 1)) 94 = uT b n m (lm_i h 94) 11 (L / 3) := w1
    have v1 : lm_i (lm_si (lm_si z2 92 0 0) 92 1 ((lm_i z2 92 1) + 1)) 92 1 = lm_i h 92 1 + 1 := by
      show lm_i z2 92 1 + 1 = _
      rw [fr_m f4 (by decide), fr_m f3 (by decide), fr_m f2 (by decide)]
    have v0 : lm_i (lm_si (lm_si z2 92 0 0) 92 1 ((lm_i z2 92 1) + 1)) 92 0 = 0 := rfl
    have v6 : lm_i (lm_si (lm_si z2 92 0 0) 92 1 ((lm_i z2 92 1) + 1)) 92 6 = Int32.ofNat (p + (L / 3 - nG b n m (L / 3))) := w2
    have v10 : lm_i (lm_si (lm_si z2 92 0 0) 92 1 ((lm_i z2 92 1) + 1)) 92 10 = 0 := by
      rw [fr_m f5 (by decide)]
      rfl
    have v4 : lm_i (lm_si (lm_si z2 92 0 0) 92 1 ((lm_i z2 92 1) + 1)) 4 = uT b n m (lm_i h 4) 0 (L / 3) := by rw [fr_i f5 (by decide) (by decide), fr_i f3 (by decide) (by decide), y4]
    have v0r : lm_i (lm_si (lm_si z2 92 0 0) 92 1 ((lm_i z2 92 1) + 1)) 0 = lm_i h1 0 := by rw [fr_i f5 (by decide) (by decide), fr_i f3 (by decide) (by decide)]
    have v11 : lm_i (lm_si (lm_si z2 92 0 0) 92 1 ((lm_i z2 92 1) + 1)) 11 = lm_i h1 11 := by rw [fr_i f5 (by decide) (by decide), fr_i f3 (by decide) (by decide)]
    generalize lm_si (lm_si z2 92 0 0) 92 1 ((lm_i z2 92 1) + 1) = h2 at f5 f6 v94 v1 v0 v6 v10 v4 v0r v11
    refine ⟨rfl, INV_gr H hn (fr_sub f6 (by decide) (by decide)) ?_ (by rw [v94]; exact (R (L / 3)).2.1) ⟨⟨?_, ?_, ?_, ?_⟩, ?_⟩ ⟨⟨0, by omega, by rw [v10]; rfl⟩, ?_⟩ (by rw [v94]; exact (R (L / 3)).2.2 85 (by omega)) (fun j hj => by rw [v94]; exact (R (L / 3)).2.2 j (by omega)) v1⟩
    · rw [v94]
      refine tw_of (R (L / 3)).1 ?_ ?_ ?_ ?_ ?_ ?_ ?_
      · rw [q_rowR (by decide), fr_i f6 (by decide) (by decide)]
      · rw [q_rowR (by decide), fr_i f6 (by decide) (by decide)]
      · rw [q_rowR (by decide), fr_i f6 (by decide) (by decide)]
      · show lm_i h2 4 = _
        rw [v4]
        rfl
      · rw [q_rowR (by decide), fr_i f6 (by decide) (by decide)]
      · rw [q_rowR (by decide), fr_i f6 (by decide) (by decide)]
      · rw [q_rowR (by decide), fr_i f6 (by decide) (by decide)]
    · rw [v0r, y15, v0]
    · rw [v0r, y16, fr_m f6 (by decide)]
      exact m2
    · rw [v0r, y17, v6, hp]
    · rw [v11, y11, v10]
    · rw [fr_i f6 (c := 75) (by decide) (by decide), fr_i f6 (c := 93) (by decide) (by decide)]
      exact ⟨m5, m6, m7, m8, m9⟩
    · rw [fr_i f6 (c := 12) (by decide) (by decide), fr_i f6 (c := 98) (by decide) (by decide)]
      exact tp.2
  refine e_171 (fr_Lay f2 hl) ?_
  rw [e10, if_neg (by rw [q_e0 (by omega)]; exact c0)]
  have eq3 : Int32.ofNat L - Int32.ofNat L / 3 * 3 = Int32.ofNat (L % 3) := by
    rw [show Int32.ofNat L / 3 = Int32.ofNat (L / 3) from q_div (b := 3) (by omega) (by omega)]
    exact q_mod (b := 3)
  rw [eq3]
  by_cases c3 : L % 3 = 0
  · rw [if_pos (by rw [c3]; rfl)]
    exact fin 0 (by rw [if_pos c3])
  · rw [if_neg (by rw [q_e0 (by omega)]; exact c3)]
    exact fin 1 (by rw [if_neg c3])
end Xl98jrow
