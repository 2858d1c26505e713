/-! The class's best answers, and the lowest of them. -/
/-- best answers as the class has them: nobody is bit 6 -/
def aX (m : Nat) (P : Nat → Bool) : Int32 := if P m then q_mk P m ||| ((1 : Int32) <<< ((6 : Int32) &&& 31)) else q_mk P m
/-- the same as a function -/
def aQ (m : Nat) (P : Nat → Bool) (j : Nat) : Bool := if j < m then P j else if j = 6 then P m else false
theorem q_mk_skip {P : Nat → Bool} {m n : Nat} (h : m ≤ n) (hf : ∀ j, m ≤ j → j < n → P j = false) : q_mk P n = q_mk P m := by
  induction n with
  | zero =>
    have : m = 0 := by omega
    rw [this]
  | succ n ih =>
    by_cases c : m = n + 1
    · rw [c]
    · rw [q_mk, hf n (by omega) (by omega), ih (by omega) (fun j h1 h2 => hf j h1 (by omega))]
      rfl
theorem aX_mk {m : Nat} (hm : m ≤ 6) (P : Nat → Bool) : aX m P = q_mk (aQ m P) 7 := by
  rw [q_mk]
  have h1 : q_mk (aQ m P) 6 = q_mk P m := by
    rw [q_mk_skip hm]
    · exact q_mk_c (fun j hj => by unfold aQ; rw [if_pos hj])
    · intro j h1 h2
      unfold aQ
      rw [if_neg (by omega), if_neg (by omega)]
  have h2 : aQ m P 6 = P m := by
    unfold aQ
    rw [if_neg (by omega), if_pos rfl]
  rw [h1, h2]
  rfl
/-- none can be asked so far, or the most is had -/
theorem bM_none {f : Nat → Int32} {cn : Nat → Bool} {g : Nat} (h : ∀ j, j < g → cn j = false) : bM f cn g = -1000000 := by
  induction g with
  | zero => rfl
  | succ g ih =>
    rw [bM, ih (fun j hj => h j (by omega)), if_neg]
    rintro ⟨q, _⟩
    rw [h g (by omega)] at q
    cases q
theorem bM_some {f : Nat → Int32} {cn : Nat → Bool} {g : Nat} (hf : ∀ j, j < g → -1000000 < f j) (h : ∃ j, j < g ∧ cn j = true) : ∃ j, j < g ∧ bP f cn g j = true := by
  induction g with
  | zero =>
    obtain ⟨j, hj, _⟩ := h
    omega
  | succ g ih =>
    by_cases c : cn g = true ∧ bM f cn g < f g
    · refine ⟨g, by omega, ?_⟩
      unfold bP
      rw [bM_new c.1 c.2, c.1]
      simp
    · rw [show bP f cn (g + 1) = bP f cn g by unfold bP; rw [bM_old c]]
      by_cases c2 : ∃ j, j < g ∧ cn j = true
      · obtain ⟨j, hj, hp⟩ := ih (fun j hj => hf j (by omega)) c2
        exact ⟨j, by omega, hp⟩
      · exfalso
        obtain ⟨j, hj, hc⟩ := h
        by_cases e : j = g
        · subst e
          apply c
          refine ⟨hc, ?_⟩
          rw [bM_none]
          · exact hf j hj
          · intro i hi
            cases q : cn i with
            | false => rfl
            | true => exact absurd ⟨i, hi, q⟩ c2
        · exact c2 ⟨j, by omega, hc⟩
theorem q_cn_pos {P : Nat → Bool} {n j : Nat} (hj : j < n) (hP : P j = true) : 0 < q_cn P n := by
  induction n with
  | zero => omega
  | succ n ih =>
    rw [q_cn]
    by_cases c : j = n
    · subst c
      rw [if_pos hP]
      omega
    · have := ih (by omega)
      omega
theorem q_cn_zero {P : Nat → Bool} {n : Nat} (h : ∀ j, j < n → P j = false) : q_cn P n = 0 := by
  induction n with
  | zero => rfl
  | succ n ih =>
    rw [q_cn, ih (fun j hj => h j (by omega)), h n (by omega)]
    rfl
/-- bounds of a table's numbers -/
def wd (n m : Nat) (cu lo : Int32) (W : Nat → Int32) : Prop := (cu = 0 ∨ cu = 1 ∨ cu = 2) ∧ (-99 ≤ lo ∧ lo ≤ 99) ∧ ∀ k, k < n → ∀ g, g < m → -99 ≤ W (6 * k + g) ∧ W (6 * k + g) ≤ 99
theorem q_sh_v (cu : Int32) {c : Nat} (hc : c < 5) : q_sh cu c = 60 ∨ q_sh cu c = 30 ∨ q_sh cu c = 20 ∨ q_sh cu c = 15 ∨ q_sh cu c = 12 ∨ q_sh cu c = 0 := by
  unfold q_sh
  by_cases c1 : cu = 2
  · rw [if_pos c1]
    match c, hc with
    | 0, _ => exact Or.inl rfl
    | 1, _ => exact Or.inr (Or.inl (by decide))
    | 2, _ => exact Or.inr (Or.inr (Or.inl (by decide)))
    | 3, _ => exact Or.inr (Or.inr (Or.inr (Or.inl (by decide))))
    | 4, _ => exact Or.inr (Or.inr (Or.inr (Or.inr (Or.inl (by decide)))))
  · rw [if_neg c1]
    split
    · exact Or.inl rfl
    · exact Or.inr (Or.inr (Or.inr (Or.inr (Or.inr rfl))))
theorem q_gn_b {n : Nat} {cu lo w : Int32} (P : Nat → Bool) {k : Nat} (h5 : n ≤ 5) (hk : k < n) (hlo : -99 ≤ lo ∧ lo ≤ 99) (hw : -99 ≤ w ∧ w ≤ 99) : -5940 ≤ q_gn n cu lo w P k ∧ q_gn n cu lo w P k ≤ 5940 := by
  unfold q_gn
  have h1 := q_rv_lt (cu := cu) P hk
  have h2 := q_sh_v cu (c := q_rv cu P k n) (by omega)
  generalize q_sh cu (q_rv cu P k n) = s at h2
  have e1 : (-99 : Int32).toInt = -99 := rfl
  have e2 : (99 : Int32).toInt = 99 := rfl
  have e3 : (-5940 : Int32).toInt = -5940 := rfl
  have e4 : (5940 : Int32).toInt = 5940 := rfl
  simp only [p_le, e1, e2] at hlo hw
  have hd : (w - lo).toInt = w.toInt - lo.toInt := p_tI_sub (by omega) (by omega)
  have h60 : (60 * lo).toInt = 60 * lo.toInt := by
    have : (60 : Int32).toInt = 60 := rfl
    rw [p_tI_mul (by rw [this]; omega) (by rw [this]; omega), this]
  have hs : s.toInt = 60 ∨ s.toInt = 30 ∨ s.toInt = 20 ∨ s.toInt = 15 ∨ s.toInt = 12 ∨ s.toInt = 0 := by
    rcases h2 with h | h | h | h | h | h <;> rw [h] <;> decide
  simp only [p_le, e3, e4]
  rcases hs with h | h | h | h | h | h
  all_goals
    have hm : (s * (w - lo)).toInt = s.toInt * (w - lo).toInt := p_tI_mul (by rw [h, hd]; omega) (by rw [h, hd]; omega)
    rw [p_tI_add (by rw [hm, h60, h, hd]; omega) (by rw [hm, h60, h, hd]; omega), hm, h60, h, hd]
    omega
theorem cG_b {n m : Nat} {cu lo : Int32} {W : Nat → Int32} (hw : wd n m cu lo W) (A : Nat → Nat) {k c : Nat} (h5 : n ≤ 5) (hk : k < n) (hc : c < m ∨ c = 6) : -5940 ≤ cG n cu lo W A k c ∧ cG n cu lo W A k c ≤ 5940 := by
  unfold cG
  refine q_gn_b _ h5 hk hw.2.1 ?_
  split
  · exact hw.2.1
  · exact hw.2.2 k hk c (by omega)
theorem aF_b {n m : Nat} {cu lo : Int32} {W : Nat → Int32} (hw : wd n m cu lo W) (A : Nat → Nat) {k g : Nat} (h5 : n ≤ 5) (hk : k < n) (hg : g ≤ m) : -1000000 < aF n m cu lo W A k g := by
  have := cG_b hw A (k := k) (c := if g = m then 6 else g) h5 hk (by split <;> omega)
  unfold aF
  grind
theorem lp_72 {d n m k : Nat} {h : lm_H} {K : Int32 → lm_H → Prop} {cu lo : Int32} {W B : Nat → Int32} {A : Nat → Nat} (hD : 5 ≤ d + 1) (H : ct h 21 n m cu lo W B) (hw : wd n m cu lo W) (hA : ca h 73 n A) (hG : gA n m A) (hk : k < n)
    (hK : K (aX m (aP n m cu lo W B A k)) h) : ∀ r g, r + g = m → ∀ x4, (q_mk (bP (aF n m cu lo W A k) (aC m B k) g) g = 0 → ∀ j, j < g → aC m B k j = false) → (¬ q_mk (bP (aF n m cu lo W A k) (aC m B k) g) g = 0 → x4 = bM (aF n m cu lo W A k) (aC m B k) g) →
    (lm_W (d + 1) 72 8 [some (.ref 21), some (.ref 73), some (.int (Int32.ofNat k)), some (.int (q_mk (bP (aF n m cu lo W A k) (aC m B k) g) g)), some (.int x4), some (.int (Int32.ofNat (q_ci B k g))), none, none] [] h (lm_kI K)) := by
  have H0 := H
  obtain ⟨hl, h5, h6, h0, h1, h2, h3, h4, h7⟩ := H
  have e6 : (6 : Int32) = Int32.ofNat 6 := rfl
  intro r
  induction r with
  | zero =>
    intro g hg x4 hz hx
    have : g = m := by omega
    subst this
    have hci := q_ci_le B k g
    obtain ⟨-, -, i2, i3, -⟩ := h7 k hk
    have i2' : lm_i h (25) k = Int32.ofNat (q_ci B k g + 1) := i2
    have i3' : lm_i h (24) (k * 7 + q_ci B k g) = 6 := i3
    refine b_72_8 _ _ _ _ hl ?_
    simp (disch := omega) only [q_add, q_mul, q_m7, q_m6, q_6m, q_7m, q_a1, q_5m, q_m5, q_71, q_11, q_87, q_41, q_76, q_5a, q_0a, q_a6, q_nat, q_in, q_lt, q_eq, q_lt0, if_true, if_false, i2', i3']
    rw [if_pos (by omega), e6]
    refine cm_71 hD H0 hA hG hk (Or.inr rfl) ?_
    have ec : aC g B k g = true := by unfold aC; simp
    have ef : cG n cu lo W A k 6 = aF n g cu lo W A k g := by unfold aF; rw [if_pos rfl]
    rw [ef]
    have hb := aF_b hw A h5 hk (Nat.le_refl g)
    -- behind nobody it ends
    have fin : ∀ x3 x4, K x3 h → (lm_W (d + 1) 72 8 [some (.ref 21), some (.ref 73), some (.int (Int32.ofNat k)), some (.int x3), some (.int x4), some (.int (Int32.ofNat (q_ci B k g + 1))), none, none] [] h (lm_kI K)) := by
      intro x3 x4 hk3
      refine b_72_8 _ _ _ _ hl ?_
      simp (disch := omega) only [q_add, q_mul, q_m7, q_m6, q_6m, q_7m, q_a1, q_5m, q_m5, q_71, q_11, q_87, q_41, q_76, q_5a, q_0a, q_a6, q_nat, q_in, q_lt, q_eq, q_lt0, if_true, if_false, i2']
      rw [if_neg (by omega)]
      exact hk3
    have low : q_mk (aP n g cu lo W B A k) g = q_mk (bP (aF n g cu lo W A k) (aC g B k) (g + 1)) g := rfl
    by_cases c0 : q_mk (bP (aF n g cu lo W A k) (aC g B k) g) g = 0
    · rw [if_pos c0]
      refine fin _ _ ?_
      have hn := bM_none (f := aF n g cu lo W A k) (hz c0)
      have hlt : bM (aF n g cu lo W A k) (aC g B k) g < aF n g cu lo W A k g := by rw [hn]; exact hb
      have q := bP_new ec hlt
      unfold aX at hK
      rw [q_mk] at q
      have pm : aP n g cu lo W B A k g = true := by unfold aP bP; rw [bM_new ec hlt, ec]; simp
      rw [if_pos pm] at hK
      have z : q_mk (aP n g cu lo W B A k) g = 0 := q_mk_f (fun j hj => by unfold aP bP; rw [hz c0 j hj]; rfl)
      rw [z, Int32.zero_or] at hK
      exact hK
    · rw [if_neg c0, hx c0]
      by_cases c1 : bM (aF n g cu lo W A k) (aC g B k) g < aF n g cu lo W A k g
      · rw [if_pos c1]
        refine fin _ _ ?_
        unfold aX at hK
        have pm : aP n g cu lo W B A k g = true := by unfold aP bP; rw [bM_new ec c1, ec]; simp
        rw [if_pos pm] at hK
        have z : q_mk (aP n g cu lo W B A k) g = 0 := by
          refine q_mk_f (fun j hj => ?_)
          unfold aP bP
          rw [bM_new ec c1]
          by_cases cc : aC g B k j = true
          · have := bM_le (f := aF n g cu lo W A k) hj cc
            have h2 : ¬ aF n g cu lo W A k j = aF n g cu lo W A k g := by grind
            simp [h2]
          · simp [cc]
        rw [z, Int32.zero_or] at hK
        exact hK
      · rw [if_neg c1]
        have eo := bM_old (f := aF n g cu lo W A k) (cn := aC g B k) (g := g) (fun q => c1 q.2)
        have z : q_mk (aP n g cu lo W B A k) g = q_mk (bP (aF n g cu lo W A k) (aC g B k) g) g := q_mk_c (fun j _ => by unfold aP bP; rw [eo])
        unfold aX at hK
        rw [z] at hK
        by_cases c2 : aF n g cu lo W A k g = bM (aF n g cu lo W A k) (aC g B k) g
        · rw [if_pos c2]
          refine fin _ _ ?_
          have pm : aP n g cu lo W B A k g = true := by unfold aP bP; rw [eo, ec, c2]; simp
          rw [if_pos pm] at hK
          exact hK
        · rw [if_neg c2]
          refine fin _ _ ?_
          have pm : ¬ aP n g cu lo W B A k g = true := by unfold aP bP; rw [eo]; simp [c2]
          rw [if_neg pm] at hK
          exact hK
  | succ r ih =>
    intro g hg x4 hz hx
    have hci := q_ci_le B k g
    have hcm := q_ci_mo B k (g := g + 1) (g2 := m) (by omega)
    have hcm2 := q_ci_le B k m
    obtain ⟨-, -, i2, -, i4⟩ := h7 k hk
    have i2' : lm_i h (25) k = Int32.ofNat (q_ci B k m + 1) := i2
    by_cases c : B (6 * k + g) = 0
    · have i4' : lm_i h (24) (k * 7 + q_ci B k g) = Int32.ofNat g := i4 g (by omega) c
      have hcs : q_ci B k (g + 1) = q_ci B k g + 1 := by rw [q_ci, if_pos c]
      refine b_72_8 _ _ _ _ hl ?_
      simp (disch := omega) only [q_add, q_mul, q_m7, q_m6, q_6m, q_7m, q_a1, q_5m, q_m5, q_71, q_11, q_87, q_41, q_76, q_5a, q_0a, q_a6, q_nat, q_in, q_lt, q_eq, q_lt0, if_true, if_false, i2', i4']
      rw [if_pos (by omega)]
      refine cm_71 hD H0 hA hG hk (Or.inl (by omega)) ?_
      have ec : aC m B k g = true := by unfold aC; simp [c]
      have ef : cG n cu lo W A k g = aF n m cu lo W A k g := by unfold aF; rw [if_neg (by omega)]
      rw [ef]
      have hb := aF_b hw A h5 hk (g := g) (m := m) (by omega)
      have ih1 := ih (g + 1) (by omega)
      rw [hcs] at ih1
      by_cases c0 : q_mk (bP (aF n m cu lo W A k) (aC m B k) g) g = 0
      · rw [if_pos c0]
        have hn := bM_none (f := aF n m cu lo W A k) (hz c0)
        have hlt : bM (aF n m cu lo W A k) (aC m B k) g < aF n m cu lo W A k g := by rw [hn]; exact hb
        rw [bP_new ec hlt, bM_new ec hlt, Int32.zero_or] at ih1
        refine ih1 _ (fun q => ?_) (fun _ => rfl)
        exfalso
        have := bP_new ec hlt
        rw [Int32.zero_or, q] at this
        rw [q_z_mk _ (by omega)] at this
        have := q_cn_pos (P := bP (aF n m cu lo W A k) (aC m B k) (g + 1)) (n := g + 1) (j := g) (by omega) (by unfold bP; rw [bM_new ec hlt, ec]; simp)
        omega
      · rw [if_neg c0, hx c0]
        by_cases c1 : bM (aF n m cu lo W A k) (aC m B k) g < aF n m cu lo W A k g
        · rw [if_pos c1]
          rw [bP_new ec c1, bM_new ec c1, Int32.zero_or] at ih1
          refine ih1 _ (fun q => ?_) (fun _ => rfl)
          exfalso
          have := bP_new ec c1
          rw [Int32.zero_or, q] at this
          rw [q_z_mk _ (by omega)] at this
          have := q_cn_pos (P := bP (aF n m cu lo W A k) (aC m B k) (g + 1)) (n := g + 1) (j := g) (by omega) (by unfold bP; rw [bM_new ec c1, ec]; simp)
          omega
        · rw [if_neg c1]
          rw [bM_old (fun q => c1 q.2)] at ih1
          by_cases c2 : aF n m cu lo W A k g = bM (aF n m cu lo W A k) (aC m B k) g
          · rw [if_pos c2]
            have hb2 := bP_eq ec c2
            rw [hb2] at ih1
            refine ih1 _ (fun q => ?_) (fun _ => rfl)
            exfalso
            rw [← hb2, q_z_mk _ (by omega)] at q
            have := q_cn_pos (P := bP (aF n m cu lo W A k) (aC m B k) (g + 1)) (n := g + 1) (j := g) (by omega) (by unfold bP; rw [bM_old (fun q => c1 q.2), ec, c2]; simp)
            omega
          · rw [if_neg c2]
            rw [bP_low c1 c2] at ih1
            exact ih1 _ (fun q => absurd q c0) (fun _ => rfl)
    · have ec : ¬ aC m B k g = true := by
        have : ¬ g = m := by omega
        unfold aC
        simp [c, this]
      have ih1 := ih (g + 1) (by omega) x4
      rw [bP_bar ec, bM_old (fun q => ec q.1), show q_ci B k (g + 1) = q_ci B k g by rw [q_ci, if_neg c, Nat.add_zero]] at ih1
      refine ih1 (fun q j hj => ?_) hx
      by_cases e : j = g
      · rw [e]
        cases qq : aC m B k g with
        | false => rfl
        | true => exact absurd qq ec
      · exact hz q j (by omega)
theorem cl_72 {D n m k : Nat} {h : lm_H} {K : Int32 → lm_H → Prop} {cu lo : Int32} {W B : Nat → Int32} {A : Nat → Nat} (hD : 6 ≤ D) (H : ct h 21 n m cu lo W B) (hw : wd n m cu lo W) (hA : ca h 73 n A) (hG : gA n m A) (hk : k < n)
    (hK : K (aX m (aP n m cu lo W B A k)) h) : lm_call D 72 [.ref 21, .ref 73, .int (Int32.ofNat k)] h (lm_kI K) := by
  obtain ⟨d, rfl⟩ := q_dp hD
  refine e_72 _ H.1 ?_
  exact lp_72 (d := d + 4) (by omega) H hw hA hG hk hK m 0 (by omega) 0 (fun _ j hj => by omega) (fun q => absurd rfl q)
theorem lp_72t {d n m k : Nat} {h : lm_H} {K : Int32 → lm_H → Prop} {cu lo : Int32} {W B : Nat → Int32} {A : Nat → Nat} (hD : 5 ≤ d + 1) (H : ct h 21 n m cu lo W B) (hw : wd n m cu lo W) (hA : ca h 50 n A) (hG : gA n m A) (hk : k < n)
    (hK : K (aX m (aP n m cu lo W B A k)) h) : ∀ r g, r + g = m → ∀ x4, (q_mk (bP (aF n m cu lo W A k) (aC m B k) g) g = 0 → ∀ j, j < g → aC m B k j = false) → (¬ q_mk (bP (aF n m cu lo W A k) (aC m B k) g) g = 0 → x4 = bM (aF n m cu lo W A k) (aC m B k) g) →
    (lm_W (d + 1) 72 8 [some (.ref 21), some (.ref 50), some (.int (Int32.ofNat k)), some (.int (q_mk (bP (aF n m cu lo W A k) (aC m B k) g) g)), some (.int x4), some (.int (Int32.ofNat (q_ci B k g))), none, none] [] h (lm_kI K)) := by
  have H0 := H
  obtain ⟨hl, h5, h6, h0, h1, h2, h3, h4, h7⟩ := H
  have e6 : (6 : Int32) = Int32.ofNat 6 := rfl
  intro r
  induction r with
  | zero =>
    intro g hg x4 hz hx
    have : g = m := by omega
    subst this
    have hci := q_ci_le B k g
    obtain ⟨-, -, i2, i3, -⟩ := h7 k hk
    have i2' : lm_i h (25) k = Int32.ofNat (q_ci B k g + 1) := i2
    have i3' : lm_i h (24) (k * 7 + q_ci B k g) = 6 := i3
    refine b_72t_8 _ _ _ _ hl ?_
    simp (disch := omega) only [q_add, q_mul, q_m7, q_m6, q_6m, q_7m, q_a1, q_5m, q_m5, q_71, q_11, q_87, q_41, q_76, q_5a, q_0a, q_a6, q_nat, q_in, q_lt, q_eq, q_lt0, if_true, if_false, i2', i3']
    rw [if_pos (by omega), e6]
    refine cm_71t hD H0 hA hG hk (Or.inr rfl) ?_
    have ec : aC g B k g = true := by unfold aC; simp
    have ef : cG n cu lo W A k 6 = aF n g cu lo W A k g := by unfold aF; rw [if_pos rfl]
    rw [ef]
    have hb := aF_b hw A h5 hk (Nat.le_refl g)
    -- behind nobody it ends
    have fin : ∀ x3 x4, K x3 h → (lm_W (d + 1) 72 8 [some (.ref 21), some (.ref 50), some (.int (Int32.ofNat k)), some (.int x3), some (.int x4), some (.int (Int32.ofNat (q_ci B k g + 1))), none, none] [] h (lm_kI K)) := by
      intro x3 x4 hk3
      refine b_72t_8 _ _ _ _ hl ?_
      simp (disch := omega) only [q_add, q_mul, q_m7, q_m6, q_6m, q_7m, q_a1, q_5m, q_m5, q_71, q_11, q_87, q_41, q_76, q_5a, q_0a, q_a6, q_nat, q_in, q_lt, q_eq, q_lt0, if_true, if_false, i2']
      rw [if_neg (by omega)]
      exact hk3
    have low : q_mk (aP n g cu lo W B A k) g = q_mk (bP (aF n g cu lo W A k) (aC g B k) (g + 1)) g := rfl
    by_cases c0 : q_mk (bP (aF n g cu lo W A k) (aC g B k) g) g = 0
    · rw [if_pos c0]
      refine fin _ _ ?_
      have hn := bM_none (f := aF n g cu lo W A k) (hz c0)
      have hlt : bM (aF n g cu lo W A k) (aC g B k) g < aF n g cu lo W A k g := by rw [hn]; exact hb
      have q := bP_new ec hlt
      unfold aX at hK
      rw [q_mk] at q
      have pm : aP n g cu lo W B A k g = true := by unfold aP bP; rw [bM_new ec hlt, ec]; simp
      rw [if_pos pm] at hK
      have z : q_mk (aP n g cu lo W B A k) g = 0 := q_mk_f (fun j hj => by unfold aP bP; rw [hz c0 j hj]; rfl)
      rw [z, Int32.zero_or] at hK
      exact hK
    · rw [if_neg c0, hx c0]
      by_cases c1 : bM (aF n g cu lo W A k) (aC g B k) g < aF n g cu lo W A k g
      · rw [if_pos c1]
        refine fin _ _ ?_
        unfold aX at hK
        have pm : aP n g cu lo W B A k g = true := by unfold aP bP; rw [bM_new ec c1, ec]; simp
        rw [if_pos pm] at hK
        have z : q_mk (aP n g cu lo W B A k) g = 0 := by
          refine q_mk_f (fun j hj => ?_)
          unfold aP bP
          rw [bM_new ec c1]
          by_cases cc : aC g B k j = true
          · have := bM_le (f := aF n g cu lo W A k) hj cc
            have h2 : ¬ aF n g cu lo W A k j = aF n g cu lo W A k g := by grind
            simp [h2]
          · simp [cc]
        rw [z, Int32.zero_or] at hK
        exact hK
      · rw [if_neg c1]
        have eo := bM_old (f := aF n g cu lo W A k) (cn := aC g B k) (g := g) (fun q => c1 q.2)
        have z : q_mk (aP n g cu lo W B A k) g = q_mk (bP (aF n g cu lo W A k) (aC g B k) g) g := q_mk_c (fun j _ => by unfold aP bP; rw [eo])
        unfold aX at hK
        rw [z] at hK
        by_cases c2 : aF n g cu lo W A k g = bM (aF n g cu lo W A k) (aC g B k) g
        · rw [if_pos c2]
          refine fin _ _ ?_
          have pm : aP n g cu lo W B A k g = true := by unfold aP bP; rw [eo, ec, c2]; simp
          rw [if_pos pm] at hK
          exact hK
        · rw [if_neg c2]
          refine fin _ _ ?_
          have pm : ¬ aP n g cu lo W B A k g = true := by unfold aP bP; rw [eo]; simp [c2]
          rw [if_neg pm] at hK
          exact hK
  | succ r ih =>
    intro g hg x4 hz hx
    have hci := q_ci_le B k g
    have hcm := q_ci_mo B k (g := g + 1) (g2 := m) (by omega)
    have hcm2 := q_ci_le B k m
    obtain ⟨-, -, i2, -, i4⟩ := h7 k hk
    have i2' : lm_i h (25) k = Int32.ofNat (q_ci B k m + 1) := i2
    by_cases c : B (6 * k + g) = 0
    · have i4' : lm_i h (24) (k * 7 + q_ci B k g) = Int32.ofNat g := i4 g (by omega) c
      have hcs : q_ci B k (g + 1) = q_ci B k g + 1 := by rw [q_ci, if_pos c]
      refine b_72t_8 _ _ _ _ hl ?_
      simp (disch := omega) only [q_add, q_mul, q_m7, q_m6, q_6m, q_7m, q_a1, q_5m, q_m5, q_71, q_11, q_87, q_41, q_76, q_5a, q_0a, q_a6, q_nat, q_in, q_lt, q_eq, q_lt0, if_true, if_false, i2', i4']
      rw [if_pos (by omega)]
      refine cm_71t hD H0 hA hG hk (Or.inl (by omega)) ?_
      have ec : aC m B k g = true := by unfold aC; simp [c]
      have ef : cG n cu lo W A k g = aF n m cu lo W A k g := by unfold aF; rw [if_neg (by omega)]
      rw [ef]
      have hb := aF_b hw A h5 hk (g := g) (m := m) (by omega)
      have ih1 := ih (g + 1) (by omega)
      rw [hcs] at ih1
      by_cases c0 : q_mk (bP (aF n m cu lo W A k) (aC m B k) g) g = 0
      · rw [if_pos c0]
        have hn := bM_none (f := aF n m cu lo W A k) (hz c0)
        have hlt : bM (aF n m cu lo W A k) (aC m B k) g < aF n m cu lo W A k g := by rw [hn]; exact hb
        rw [bP_new ec hlt, bM_new ec hlt, Int32.zero_or] at ih1
        refine ih1 _ (fun q => ?_) (fun _ => rfl)
        exfalso
        have := bP_new ec hlt
        rw [Int32.zero_or, q] at this
        rw [q_z_mk _ (by omega)] at this
        have := q_cn_pos (P := bP (aF n m cu lo W A k) (aC m B k) (g + 1)) (n := g + 1) (j := g) (by omega) (by unfold bP; rw [bM_new ec hlt, ec]; simp)
        omega
      · rw [if_neg c0, hx c0]
        by_cases c1 : bM (aF n m cu lo W A k) (aC m B k) g < aF n m cu lo W A k g
        · rw [if_pos c1]
          rw [bP_new ec c1, bM_new ec c1, Int32.zero_or] at ih1
          refine ih1 _ (fun q => ?_) (fun _ => rfl)
          exfalso
          have := bP_new ec c1
          rw [Int32.zero_or, q] at this
          rw [q_z_mk _ (by omega)] at this
          have := q_cn_pos (P := bP (aF n m cu lo W A k) (aC m B k) (g + 1)) (n := g + 1) (j := g) (by omega) (by unfold bP; rw [bM_new ec c1, ec]; simp)
          omega
        · rw [if_neg c1]
          rw [bM_old (fun q => c1 q.2)] at ih1
          by_cases c2 : aF n m cu lo W A k g = bM (aF n m cu lo W A k) (aC m B k) g
          · rw [if_pos c2]
            have hb2 := bP_eq ec c2
            rw [hb2] at ih1
            refine ih1 _ (fun q => ?_) (fun _ => rfl)
            exfalso
            rw [← hb2, q_z_mk _ (by omega)] at q
            have := q_cn_pos (P := bP (aF n m cu lo W A k) (aC m B k) (g + 1)) (n := g + 1) (j := g) (by omega) (by unfold bP; rw [bM_old (fun q => c1 q.2), ec, c2]; simp)
            omega
          · rw [if_neg c2]
            rw [bP_low c1 c2] at ih1
            exact ih1 _ (fun q => absurd q c0) (fun _ => rfl)
    · have ec : ¬ aC m B k g = true := by
        have : ¬ g = m := by omega
        unfold aC
        simp [c, this]
      have ih1 := ih (g + 1) (by omega) x4
      rw [bP_bar ec, bM_old (fun q => ec q.1), show q_ci B k (g + 1) = q_ci B k g by rw [q_ci, if_neg c, Nat.add_zero]] at ih1
      refine ih1 (fun q j hj => ?_) hx
      by_cases e : j = g
      · rw [e]
        cases qq : aC m B k g with
        | false => rfl
        | true => exact absurd qq ec
      · exact hz q j (by omega)
theorem cl_72t {D n m k : Nat} {h : lm_H} {K : Int32 → lm_H → Prop} {cu lo : Int32} {W B : Nat → Int32} {A : Nat → Nat} (hD : 6 ≤ D) (H : ct h 21 n m cu lo W B) (hw : wd n m cu lo W) (hA : ca h 50 n A) (hG : gA n m A) (hk : k < n)
    (hK : K (aX m (aP n m cu lo W B A k)) h) : lm_call D 72 [.ref 21, .ref 50, .int (Int32.ofNat k)] h (lm_kI K) := by
  obtain ⟨d, rfl⟩ := q_dp hD
  refine e_72t _ H.1 ?_
  exact lp_72t (d := d + 4) (by omega) H hw hA hG hk hK m 0 (by omega) 0 (fun _ j hj => by omega) (fun q => absurd rfl q)
theorem lp_72b {d n m k : Nat} {h : lm_H} {K : Int32 → lm_H → Prop} {cu lo : Int32} {W B : Nat → Int32} {A : Nat → Nat} (hD : 5 ≤ d + 1) (H : ct h 59 n m cu lo W B) (hw : wd n m cu lo W) (hA : ca h 70 n A) (hG : gA n m A) (hk : k < n)
    (hK : K (aX m (aP n m cu lo W B A k)) h) : ∀ r g, r + g = m → ∀ x4, (q_mk (bP (aF n m cu lo W A k) (aC m B k) g) g = 0 → ∀ j, j < g → aC m B k j = false) → (¬ q_mk (bP (aF n m cu lo W A k) (aC m B k) g) g = 0 → x4 = bM (aF n m cu lo W A k) (aC m B k) g) →
    (lm_W (d + 1) 72 8 [some (.ref 59), some (.ref 70), some (.int (Int32.ofNat k)), some (.int (q_mk (bP (aF n m cu lo W A k) (aC m B k) g) g)), some (.int x4), some (.int (Int32.ofNat (q_ci B k g))), none, none] [] h (lm_kI K)) := by
  have H0 := H
  obtain ⟨hl, h5, h6, h0, h1, h2, h3, h4, h7⟩ := H
  have e6 : (6 : Int32) = Int32.ofNat 6 := rfl
  intro r
  induction r with
  | zero =>
    intro g hg x4 hz hx
    have : g = m := by omega
    subst this
    have hci := q_ci_le B k g
    obtain ⟨-, -, i2, i3, -⟩ := h7 k hk
    have i2' : lm_i h (63) k = Int32.ofNat (q_ci B k g + 1) := i2
    have i3' : lm_i h (62) (k * 7 + q_ci B k g) = 6 := i3
    refine b_72b_8 _ _ _ _ hl ?_
    simp (disch := omega) only [q_add, q_mul, q_m7, q_m6, q_6m, q_7m, q_a1, q_5m, q_m5, q_71, q_11, q_87, q_41, q_76, q_5a, q_0a, q_a6, q_nat, q_in, q_lt, q_eq, q_lt0, if_true, if_false, i2', i3']
    rw [if_pos (by omega), e6]
    refine cm_71b hD H0 hA hG hk (Or.inr rfl) ?_
    have ec : aC g B k g = true := by unfold aC; simp
    have ef : cG n cu lo W A k 6 = aF n g cu lo W A k g := by unfold aF; rw [if_pos rfl]
    rw [ef]
    have hb := aF_b hw A h5 hk (Nat.le_refl g)
    -- behind nobody it ends
    have fin : ∀ x3 x4, K x3 h → (lm_W (d + 1) 72 8 [some (.ref 59), some (.ref 70), some (.int (Int32.ofNat k)), some (.int x3), some (.int x4), some (.int (Int32.ofNat (q_ci B k g + 1))), none, none] [] h (lm_kI K)) := by
      intro x3 x4 hk3
      refine b_72b_8 _ _ _ _ hl ?_
      simp (disch := omega) only [q_add, q_mul, q_m7, q_m6, q_6m, q_7m, q_a1, q_5m, q_m5, q_71, q_11, q_87, q_41, q_76, q_5a, q_0a, q_a6, q_nat, q_in, q_lt, q_eq, q_lt0, if_true, if_false, i2']
      rw [if_neg (by omega)]
      exact hk3
    have low : q_mk (aP n g cu lo W B A k) g = q_mk (bP (aF n g cu lo W A k) (aC g B k) (g + 1)) g := rfl
    by_cases c0 : q_mk (bP (aF n g cu lo W A k) (aC g B k) g) g = 0
    · rw [if_pos c0]
      refine fin _ _ ?_
      have hn := bM_none (f := aF n g cu lo W A k) (hz c0)
      have hlt : bM (aF n g cu lo W A k) (aC g B k) g < aF n g cu lo W A k g := by rw [hn]; exact hb
      have q := bP_new ec hlt
      unfold aX at hK
      rw [q_mk] at q
      have pm : aP n g cu lo W B A k g = true := by unfold aP bP; rw [bM_new ec hlt, ec]; simp
      rw [if_pos pm] at hK
      have z : q_mk (aP n g cu lo W B A k) g = 0 := q_mk_f (fun j hj => by unfold aP bP; rw [hz c0 j hj]; rfl)
      rw [z, Int32.zero_or] at hK
      exact hK
    · rw [if_neg c0, hx c0]
      by_cases c1 : bM (aF n g cu lo W A k) (aC g B k) g < aF n g cu lo W A k g
      · rw [if_pos c1]
        refine fin _ _ ?_
        unfold aX at hK
        have pm : aP n g cu lo W B A k g = true := by unfold aP bP; rw [bM_new ec c1, ec]; simp
        rw [if_pos pm] at hK
        have z : q_mk (aP n g cu lo W B A k) g = 0 := by
          refine q_mk_f (fun j hj => ?_)
          unfold aP bP
          rw [bM_new ec c1]
          by_cases cc : aC g B k j = true
          · have := bM_le (f := aF n g cu lo W A k) hj cc
            have h2 : ¬ aF n g cu lo W A k j = aF n g cu lo W A k g := by grind
            simp [h2]
          · simp [cc]
        rw [z, Int32.zero_or] at hK
        exact hK
      · rw [if_neg c1]
        have eo := bM_old (f := aF n g cu lo W A k) (cn := aC g B k) (g := g) (fun q => c1 q.2)
        have z : q_mk (aP n g cu lo W B A k) g = q_mk (bP (aF n g cu lo W A k) (aC g B k) g) g := q_mk_c (fun j _ => by unfold aP bP; rw [eo])
        unfold aX at hK
        rw [z] at hK
        by_cases c2 : aF n g cu lo W A k g = bM (aF n g cu lo W A k) (aC g B k) g
        · rw [if_pos c2]
          refine fin _ _ ?_
          have pm : aP n g cu lo W B A k g = true := by unfold aP bP; rw [eo, ec, c2]; simp
          rw [if_pos pm] at hK
          exact hK
        · rw [if_neg c2]
          refine fin _ _ ?_
          have pm : ¬ aP n g cu lo W B A k g = true := by unfold aP bP; rw [eo]; simp [c2]
          rw [if_neg pm] at hK
          exact hK
  | succ r ih =>
    intro g hg x4 hz hx
    have hci := q_ci_le B k g
    have hcm := q_ci_mo B k (g := g + 1) (g2 := m) (by omega)
    have hcm2 := q_ci_le B k m
    obtain ⟨-, -, i2, -, i4⟩ := h7 k hk
    have i2' : lm_i h (63) k = Int32.ofNat (q_ci B k m + 1) := i2
    by_cases c : B (6 * k + g) = 0
    · have i4' : lm_i h (62) (k * 7 + q_ci B k g) = Int32.ofNat g := i4 g (by omega) c
      have hcs : q_ci B k (g + 1) = q_ci B k g + 1 := by rw [q_ci, if_pos c]
      refine b_72b_8 _ _ _ _ hl ?_
      simp (disch := omega) only [q_add, q_mul, q_m7, q_m6, q_6m, q_7m, q_a1, q_5m, q_m5, q_71, q_11, q_87, q_41, q_76, q_5a, q_0a, q_a6, q_nat, q_in, q_lt, q_eq, q_lt0, if_true, if_false, i2', i4']
      rw [if_pos (by omega)]
      refine cm_71b hD H0 hA hG hk (Or.inl (by omega)) ?_
      have ec : aC m B k g = true := by unfold aC; simp [c]
      have ef : cG n cu lo W A k g = aF n m cu lo W A k g := by unfold aF; rw [if_neg (by omega)]
      rw [ef]
      have hb := aF_b hw A h5 hk (g := g) (m := m) (by omega)
      have ih1 := ih (g + 1) (by omega)
      rw [hcs] at ih1
      by_cases c0 : q_mk (bP (aF n m cu lo W A k) (aC m B k) g) g = 0
      · rw [if_pos c0]
        have hn := bM_none (f := aF n m cu lo W A k) (hz c0)
        have hlt : bM (aF n m cu lo W A k) (aC m B k) g < aF n m cu lo W A k g := by rw [hn]; exact hb
        rw [bP_new ec hlt, bM_new ec hlt, Int32.zero_or] at ih1
        refine ih1 _ (fun q => ?_) (fun _ => rfl)
        exfalso
        have := bP_new ec hlt
        rw [Int32.zero_or, q] at this
        rw [q_z_mk _ (by omega)] at this
        have := q_cn_pos (P := bP (aF n m cu lo W A k) (aC m B k) (g + 1)) (n := g + 1) (j := g) (by omega) (by unfold bP; rw [bM_new ec hlt, ec]; simp)
        omega
      · rw [if_neg c0, hx c0]
        by_cases c1 : bM (aF n m cu lo W A k) (aC m B k) g < aF n m cu lo W A k g
        · rw [if_pos c1]
          rw [bP_new ec c1, bM_new ec c1, Int32.zero_or] at ih1
          refine ih1 _ (fun q => ?_) (fun _ => rfl)
          exfalso
          have := bP_new ec c1
          rw [Int32.zero_or, q] at this
          rw [q_z_mk _ (by omega)] at this
          have := q_cn_pos (P := bP (aF n m cu lo W A k) (aC m B k) (g + 1)) (n := g + 1) (j := g) (by omega) (by unfold bP; rw [bM_new ec c1, ec]; simp)
          omega
        · rw [if_neg c1]
          rw [bM_old (fun q => c1 q.2)] at ih1
          by_cases c2 : aF n m cu lo W A k g = bM (aF n m cu lo W A k) (aC m B k) g
          · rw [if_pos c2]
            have hb2 := bP_eq ec c2
            rw [hb2] at ih1
            refine ih1 _ (fun q => ?_) (fun _ => rfl)
            exfalso
            rw [← hb2, q_z_mk _ (by omega)] at q
            have := q_cn_pos (P := bP (aF n m cu lo W A k) (aC m B k) (g + 1)) (n := g + 1) (j := g) (by omega) (by unfold bP; rw [bM_old (fun q => c1 q.2), ec, c2]; simp)
            omega
          · rw [if_neg c2]
            rw [bP_low c1 c2] at ih1
            exact ih1 _ (fun q => absurd q c0) (fun _ => rfl)
    · have ec : ¬ aC m B k g = true := by
        have : ¬ g = m := by omega
        unfold aC
        simp [c, this]
      have ih1 := ih (g + 1) (by omega) x4
      rw [bP_bar ec, bM_old (fun q => ec q.1), show q_ci B k (g + 1) = q_ci B k g by rw [q_ci, if_neg c, Nat.add_zero]] at ih1
      refine ih1 (fun q j hj => ?_) hx
      by_cases e : j = g
      · rw [e]
        cases qq : aC m B k g with
        | false => rfl
        | true => exact absurd qq ec
      · exact hz q j (by omega)
theorem cl_72b {D n m k : Nat} {h : lm_H} {K : Int32 → lm_H → Prop} {cu lo : Int32} {W B : Nat → Int32} {A : Nat → Nat} (hD : 6 ≤ D) (H : ct h 59 n m cu lo W B) (hw : wd n m cu lo W) (hA : ca h 70 n A) (hG : gA n m A) (hk : k < n)
    (hK : K (aX m (aP n m cu lo W B A k)) h) : lm_call D 72 [.ref 59, .ref 70, .int (Int32.ofNat k)] h (lm_kI K) := by
  obtain ⟨d, rfl⟩ := q_dp hD
  refine e_72b _ H.1 ?_
  exact lp_72b (d := d + 4) (by omega) H hw hA hG hk hK m 0 (by omega) 0 (fun _ j hj => by omega) (fun q => absurd rfl q)
