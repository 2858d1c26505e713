/-! Gains by asks: numbers of guests, 6 for nobody. -/
theorem q_deq {a b : Nat} (ha : a < 2147483648) (hb : b < 2147483648) : decide (Int32.ofNat a = Int32.ofNat b) = decide (a = b) := decide_eq_decide.2 (by rw [q_eq ha hb])
/-- the class's row of asks at cell c, the reference's at 107 -/
def ca (h : lm_H) (c n : Nat) (A : Nat → Nat) : Prop := ∀ j, j < n → lm_i h c j = Int32.ofNat (A j)
def ra (h : lm_H) (n m : Nat) (A : Nat → Nat) : Prop := ∀ j, j < n → lm_i h 107 j = Int32.ofNat (if A j = 6 then m else A j)
def gA (n m : Nat) (A : Nat → Nat) : Prop := ∀ j, j < n → A j < m ∨ A j = 6
/-- the gain of k if he asks c, the others as by A -/
def cG (n : Nat) (cu lo : Int32) (W : Nat → Int32) (A : Nat → Nat) (k c : Nat) : Int32 := q_gn n cu lo (if c = 6 then lo else W (6 * k + c)) (fun j => decide (A j = c)) k
theorem cG_up {n : Nat} {cu lo : Int32} {W : Nat → Int32} {A : Nat → Nat} {k c : Nat} (v : Nat) : cG n cu lo W (fun j => if j = k then v else A j) k c = cG n cu lo W A k c := by
  unfold cG
  refine q_gn_c (fun j _ hj => ?_)
  simp [hj]
theorem cG_c {n : Nat} {cu lo : Int32} {W : Nat → Int32} {A A' : Nat → Nat} {k c : Nat} (h : ∀ j, j < n → ¬ j = k → A j = A' j) : cG n cu lo W A k c = cG n cu lo W A' k c := by
  unfold cG
  refine q_gn_c (fun j hj hk => ?_)
  simp [h j hj hk]
/-- what a choice is worth in the class's table -/
theorem ct_w {h : lm_H} {c n m : Nat} {cu lo : Int32} {W B : Nat → Int32} (H : ct h c n m cu lo W B) {k g : Nat} (hk : k < n) (hg : g < m ∨ g = 6) : lm_i h (c + 1) (k * 7 + g) = if g = 6 then lo else W (6 * k + g) := by
  obtain ⟨hl, h5, h6, h0, h1, h2, h3, h4, h7⟩ := H
  by_cases c6 : g = 6
  · subst c6
    rw [if_pos rfl]
    exact (h7 k hk).1
  · rw [if_neg c6]
    exact (h4 k hk g (by omega)).1
theorem cm_71 {D n m k c : Nat} {h : lm_H} {K : Int32 → lm_H → Prop} {cu lo : Int32} {W B : Nat → Int32} {A : Nat → Nat} (hD : 5 ≤ D) (H : ct h 21 n m cu lo W B) (hA : ca h 73 n A) (hG : gA n m A) (hk : k < n) (hc : c < m ∨ c = 6) (hK : K (cG n cu lo W A k c) h) : lm_call D 71 [.ref 21, .ref 73, .int (Int32.ofNat k), .int (Int32.ofNat c)] h (lm_kI K) := by
  have hw := ct_w H hk hc
  obtain ⟨hl, h5, h6, h0, h1, h2, h3, h4, h7⟩ := H
  refine cl_71 hD hl h0 h2 h3 h5 (by omega) (by omega) ?_
  have e : q_gn n cu lo (lm_i h 22 (k * 7 + c)) (fun j => decide (lm_i h 73 j = Int32.ofNat c)) k = cG n cu lo W A k c := by
    unfold cG
    rw [← hw]
    refine q_gn_c (fun j hj _ => ?_)
    have := hG j hj
    rw [hA j hj, q_deq (by omega) (by omega)]
  rw [e]
  exact hK
theorem cm_71t {D n m k c : Nat} {h : lm_H} {K : Int32 → lm_H → Prop} {cu lo : Int32} {W B : Nat → Int32} {A : Nat → Nat} (hD : 5 ≤ D) (H : ct h 21 n m cu lo W B) (hA : ca h 50 n A) (hG : gA n m A) (hk : k < n) (hc : c < m ∨ c = 6) (hK : K (cG n cu lo W A k c) h) : lm_call D 71 [.ref 21, .ref 50, .int (Int32.ofNat k), .int (Int32.ofNat c)] h (lm_kI K) := by
  have hw := ct_w H hk hc
  obtain ⟨hl, h5, h6, h0, h1, h2, h3, h4, h7⟩ := H
  refine cl_71t hD hl h0 h2 h3 h5 (by omega) (by omega) ?_
  have e : q_gn n cu lo (lm_i h 22 (k * 7 + c)) (fun j => decide (lm_i h 50 j = Int32.ofNat c)) k = cG n cu lo W A k c := by
    unfold cG
    rw [← hw]
    refine q_gn_c (fun j hj _ => ?_)
    have := hG j hj
    rw [hA j hj, q_deq (by omega) (by omega)]
  rw [e]
  exact hK
theorem cm_71b {D n m k c : Nat} {h : lm_H} {K : Int32 → lm_H → Prop} {cu lo : Int32} {W B : Nat → Int32} {A : Nat → Nat} (hD : 5 ≤ D) (H : ct h 59 n m cu lo W B) (hA : ca h 70 n A) (hG : gA n m A) (hk : k < n) (hc : c < m ∨ c = 6) (hK : K (cG n cu lo W A k c) h) : lm_call D 71 [.ref 59, .ref 70, .int (Int32.ofNat k), .int (Int32.ofNat c)] h (lm_kI K) := by
  have hw := ct_w H hk hc
  obtain ⟨hl, h5, h6, h0, h1, h2, h3, h4, h7⟩ := H
  refine cl_71b hD hl h0 h2 h3 h5 (by omega) (by omega) ?_
  have e : q_gn n cu lo (lm_i h 60 (k * 7 + c)) (fun j => decide (lm_i h 70 j = Int32.ofNat c)) k = cG n cu lo W A k c := by
    unfold cG
    rw [← hw]
    refine q_gn_c (fun j hj _ => ?_)
    have := hG j hj
    rw [hA j hj, q_deq (by omega) (by omega)]
  rw [e]
  exact hK
theorem cm_214 {D n m k : Nat} {h : lm_H} {K : Int32 → lm_H → Prop} {cu lo : Int32} {W B : Nat → Int32} {A : Nat → Nat} (hD : 3 ≤ D) (H : rt h n m cu lo W B) (hA : ra h n m A) (hG : gA n m A) (hcu : cu = 0 ∨ cu = 1 ∨ cu = 2) (hk : k < n) (hK : K (cG n cu lo W A k (A k)) h) : lm_call D 214 [.ref 92, .int (Int32.ofNat k)] h (lm_kI K) := by
  have h5 : n ≤ 5 := H.2.1
  have h6 : m ≤ 6 := H.2.2.1
  have hGk := hG k hk
  refine cl_214 hD H (g := if A k = 6 then m else A k) hk (hA k hk) (by split <;> omega) hcu ?_
  have e : q_gn n cu lo (if (if A k = 6 then m else A k) = m then lo else W (6 * k + (if A k = 6 then m else A k))) (fun j => decide (lm_i h 107 j = Int32.ofNat (if A k = 6 then m else A k))) k = cG n cu lo W A k (A k) := by
    unfold cG
    by_cases c6 : A k = 6
    · simp only [c6, if_true]
      rw [q_gn_lo, q_gn_lo]
    · have c7 : ¬ A k = m := by omega
      simp only [c6, c7, if_false]
      refine q_gn_c (fun j hj _ => ?_)
      have := hG j hj
      rw [hA j hj, q_deq (by split <;> omega) (by omega)]
      by_cases c8 : A j = 6
      · simp only [c8, if_true]
        rw [decide_eq_decide]
        omega
      · simp only [c8, if_false]
  rw [e]
  exact hK
/-- the gains of the first k, added -/
def sG (n : Nat) (cu lo : Int32) (W : Nat → Int32) (A : Nat → Nat) : Nat → Int32
  | 0 => 0
  | k + 1 => sG n cu lo W A k + cG n cu lo W A k (A k)
theorem cm_215 {D n m : Nat} {h : lm_H} {K : Int32 → lm_H → Prop} {cu lo : Int32} {W B : Nat → Int32} {A : Nat → Nat} (hD : 4 ≤ D) (H : rt h n m cu lo W B) (hA : ra h n m A) (hG : gA n m A) (hcu : cu = 0 ∨ cu = 1 ∨ cu = 2) (hK : K (sG n cu lo W A n) h) : lm_call D 215 [.ref 92] h (lm_kI K) := by
  obtain ⟨d, rfl⟩ := q_dp hD
  have h5 : n ≤ 5 := H.2.1
  have hn := H.2.2.2.1
  refine e_215 H.1 ?_
  have lp : ∀ r k, r + k = n → lm_W (d + 2 + 1) 215 4 [some (.ref 92), some (.int (sG n cu lo W A k)), some (.int (Int32.ofNat k))] [] h (lm_kI K) := by
    intro r
    induction r with
    | zero =>
      intro k hk
      refine b_215_4 _ _ H.1 ?_
      have : k = n := by omega
      subst this
      simp (disch := omega) only [q_add, q_mul, q_m7, q_m6, q_6m, q_7m, q_a1, q_5m, q_m5, q_71, q_11, q_87, q_41, q_76, q_5a, q_0a, q_a6, q_nat, q_in, q_lt, q_eq, q_lt0, if_true, if_false, hn]
      rw [if_neg (by omega)]
      exact hK
    | succ r ih =>
      intro k hk
      refine b_215_4 _ _ H.1 ?_
      simp (disch := omega) only [q_add, q_mul, q_m7, q_m6, q_6m, q_7m, q_a1, q_5m, q_m5, q_71, q_11, q_87, q_41, q_76, q_5a, q_0a, q_a6, q_nat, q_in, q_lt, q_eq, q_lt0, if_true, if_false, hn]
      rw [if_pos (by omega)]
      refine cm_214 (by omega) H hA hG hcu (by omega) ?_
      exact ih (k + 1) (by omega)
  exact lp n 0 (by omega)
theorem cm_113 {d n m : Nat} {h : lm_H} {K : Int32 → lm_H → Prop} {cu lo : Int32} {W B : Nat → Int32} {A : Nat → Nat} (hD : 5 ≤ d + 1) (H : ct h 21 n m cu lo W B) (hn : lm_i h 1 0 = Int32.ofNat n) (hA : ca h 73 n A) (hG : gA n m A) (hK : K (sG n cu lo W A n) h) : ∀ r k, r + k = n → (lm_W (d + 1) 113 51 [some (.ref 0), none, some (.int (sG n cu lo W A k)), some (.int (Int32.ofNat k))] [] h (lm_kI K)) := by
  have h5 : n ≤ 5 := H.2.1
  intro r
  induction r with
  | zero =>
    intro k hk
    refine b_113_51 _ _ H.1 ?_
    have : k = n := by omega
    subst this
    simp (disch := omega) only [q_add, q_mul, q_m7, q_m6, q_6m, q_7m, q_a1, q_5m, q_m5, q_71, q_11, q_87, q_41, q_76, q_5a, q_0a, q_a6, q_nat, q_in, q_lt, q_eq, q_lt0, if_true, if_false, hn]
    rw [if_neg (by omega)]
    exact hK
  | succ r ih =>
    intro k hk
    refine b_113_51 _ _ H.1 ?_
    simp (disch := omega) only [q_add, q_mul, q_m7, q_m6, q_6m, q_7m, q_a1, q_5m, q_m5, q_71, q_11, q_87, q_41, q_76, q_5a, q_0a, q_a6, q_nat, q_in, q_lt, q_eq, q_lt0, if_true, if_false, hn]
    rw [if_pos (by omega), hA k (by omega)]
    refine cm_71 (by omega) H hA hG (by omega) (hG k (by omega)) ?_
    exact ih (k + 1) (by omega)
theorem cm_213 {D n m g : Nat} {h : lm_H} {K : Int32 → lm_H → Prop} {cu lo : Int32} {W B : Nat → Int32} {A : Nat → Nat} (hD : 2 ≤ D) (H : rt h n m cu lo W B) (hA : ra h n m A) (hG : gA n m A) (hg : g < m) (hK : K (Int32.ofNat (q_cn (fun j => decide (A j = g)) n)) h) : lm_call D 213 [.ref 92, .int (Int32.ofNat g)] h (lm_kI K) := by
  obtain ⟨d, rfl⟩ := q_dp hD
  obtain ⟨hl, h5, h6, hn, hm, h1, h2, h3⟩ := H
  refine cl_213 _ n hl hn h5 ?_
  rw [q_cnt_cn]
  have e : q_cn (fun j => decide (lm_i h 107 j = Int32.ofNat g)) n = q_cn (fun j => decide (A j = g)) n := by
    refine q_cn_c (fun j hj => ?_)
    have := hG j hj
    rw [hA j hj, q_deq (by split <;> omega) (by omega), decide_eq_decide]
    split <;> omega
  rw [e]
  exact hK
theorem cm_67 {D n c : Nat} {h : lm_H} {K : Int32 → lm_H → Prop} {A : Nat → Nat} (hD : 1 ≤ D) (hl : lm_Lay h) (hn : lm_i h 21 0 = Int32.ofNat n) (h5 : n ≤ 5) (hA : ca h 73 n A) (hG : ∀ j, j < n → A j ≤ 6) (hc : c ≤ 6) (hK : K (q_mk (fun j => decide (A j = c)) n) h) : lm_call D 67 [.ref 21, .ref 73, .int (Int32.ofNat c)] h (lm_kI K) := by
  refine cl_67 hD hl hn h5 _ ?_
  have e : q_mk (fun j => decide (lm_i h 73 j = Int32.ofNat c)) n = q_mk (fun j => decide (A j = c)) n := by
    refine q_mk_c (fun j hj => ?_)
    have := hG j hj
    rw [hA j hj, q_deq (by omega) (by omega)]
  rw [e]
  exact hK
theorem cm_67t {D n c : Nat} {h : lm_H} {K : Int32 → lm_H → Prop} {A : Nat → Nat} (hD : 1 ≤ D) (hl : lm_Lay h) (hn : lm_i h 21 0 = Int32.ofNat n) (h5 : n ≤ 5) (hA : ca h 50 n A) (hG : ∀ j, j < n → A j ≤ 6) (hc : c ≤ 6) (hK : K (q_mk (fun j => decide (A j = c)) n) h) : lm_call D 67 [.ref 21, .ref 50, .int (Int32.ofNat c)] h (lm_kI K) := by
  refine cl_67t hD hl hn h5 _ ?_
  have e : q_mk (fun j => decide (lm_i h 50 j = Int32.ofNat c)) n = q_mk (fun j => decide (A j = c)) n := by
    refine q_mk_c (fun j hj => ?_)
    have := hG j hj
    rw [hA j hj, q_deq (by omega) (by omega)]
  rw [e]
  exact hK
theorem cm_67y {D n c : Nat} {h : lm_H} {K : Int32 → lm_H → Prop} {A : Nat → Nat} (hD : 1 ≤ D) (hl : lm_Lay h) (hn : lm_i h 59 0 = Int32.ofNat n) (h5 : n ≤ 5) (hA : ca h 69 n A) (hG : ∀ j, j < n → A j ≤ 6) (hc : c ≤ 6) (hK : K (q_mk (fun j => decide (A j = c)) n) h) : lm_call D 67 [.ref 59, .ref 69, .int (Int32.ofNat c)] h (lm_kI K) := by
  refine cl_67y hD hl hn h5 _ ?_
  have e : q_mk (fun j => decide (lm_i h 69 j = Int32.ofNat c)) n = q_mk (fun j => decide (A j = c)) n := by
    refine q_mk_c (fun j hj => ?_)
    have := hG j hj
    rw [hA j hj, q_deq (by omega) (by omega)]
  rw [e]
  exact hK
theorem cm_67b {D n c : Nat} {h : lm_H} {K : Int32 → lm_H → Prop} {A : Nat → Nat} (hD : 1 ≤ D) (hl : lm_Lay h) (hn : lm_i h 59 0 = Int32.ofNat n) (h5 : n ≤ 5) (hA : ca h 70 n A) (hG : ∀ j, j < n → A j ≤ 6) (hc : c ≤ 6) (hK : K (q_mk (fun j => decide (A j = c)) n) h) : lm_call D 67 [.ref 59, .ref 70, .int (Int32.ofNat c)] h (lm_kI K) := by
  refine cl_67b hD hl hn h5 _ ?_
  have e : q_mk (fun j => decide (lm_i h 70 j = Int32.ofNat c)) n = q_mk (fun j => decide (A j = c)) n := by
    refine q_mk_c (fun j hj => ?_)
    have := hG j hj
    rw [hA j hj, q_deq (by omega) (by omega)]
  rw [e]
  exact hK
/-- lowestIn, as it looks -/
def q_lw (x : Int32) : Int32 := if ((x >>> ((0 : Int32) &&& 31)) &&& 1) = 1 then 0 else if ((x >>> ((1 : Int32) &&& 31)) &&& 1) = 1 then 1 else if ((x >>> ((2 : Int32) &&& 31)) &&& 1) = 1 then 2 else if ((x >>> ((3 : Int32) &&& 31)) &&& 1) = 1 then 3 else if ((x >>> ((4 : Int32) &&& 31)) &&& 1) = 1 then 4 else if ((x >>> ((5 : Int32) &&& 31)) &&& 1) = 1 then 5 else 6
theorem cl_150 {D : Nat} {h : lm_H} {K : Int32 → lm_H → Prop} (hD : 1 ≤ D) (hl : lm_Lay h) (x : Int32) (hK : K (q_lw x) h) : lm_call D 150 [.int x] h (lm_kI K) := by
  obtain ⟨d, rfl⟩ := q_dp hD
  unfold q_lw at hK
  refine e_150 x hl ?_
  refine b_150_2 _ _ hl ?_
  rw [if_pos (by decide)]
  split
  · rename_i c; rw [if_pos c] at hK; exact hK
  rename_i c; rw [if_neg c] at hK; clear c
  refine b_150_2 _ _ hl ?_
  rw [show (0 : Int32) + 1 = 1 by decide, if_pos (by decide)]
  split
  · rename_i c; rw [if_pos c] at hK; exact hK
  rename_i c; rw [if_neg c] at hK; clear c
  refine b_150_2 _ _ hl ?_
  rw [show (1 : Int32) + 1 = 2 by decide, if_pos (by decide)]
  split
  · rename_i c; rw [if_pos c] at hK; exact hK
  rename_i c; rw [if_neg c] at hK; clear c
  refine b_150_2 _ _ hl ?_
  rw [show (2 : Int32) + 1 = 3 by decide, if_pos (by decide)]
  split
  · rename_i c; rw [if_pos c] at hK; exact hK
  rename_i c; rw [if_neg c] at hK; clear c
  refine b_150_2 _ _ hl ?_
  rw [show (3 : Int32) + 1 = 4 by decide, if_pos (by decide)]
  split
  · rename_i c; rw [if_pos c] at hK; exact hK
  rename_i c; rw [if_neg c] at hK; clear c
  refine b_150_2 _ _ hl ?_
  rw [show (4 : Int32) + 1 = 5 by decide, if_pos (by decide)]
  split
  · rename_i c; rw [if_pos c] at hK; exact hK
  rename_i c; rw [if_neg c] at hK; clear c
  refine b_150_2 _ _ hl ?_
  rw [show (5 : Int32) + 1 = 6 by decide, if_neg (by decide)]
  exact hK
set_option maxRecDepth 20000 in
theorem q_lw_all : ∀ b0 b1 b2 b3 b4 b5 b6 : Bool, ∀ n, n < 8 → q_lw (q_mk (q_pb b0 b1 b2 b3 b4 b5 b6) n) = Int32.ofNat (q_fi (q_pb b0 b1 b2 b3 b4 b5 b6) 6 n) := by decide +kernel
theorem q_lw_mk (P : Nat → Bool) {n : Nat} (hn : n ≤ 7) : q_lw (q_mk P n) = Int32.ofNat (q_fi P 6 n) := by
  have h1 := q_lw_all (P 0) (P 1) (P 2) (P 3) (P 4) (P 5) (P 6) n (by omega)
  rwa [← q_mk_c (fun j hj => q_pb_eq P (j := j) (by omega)), ← q_fi_c (fun j hj => q_pb_eq P (j := j) (by omega))] at h1
set_option maxRecDepth 20000 in
theorem q_z_all : ∀ b0 b1 b2 b3 b4 b5 b6 : Bool, ∀ n, n < 8 → (q_mk (q_pb b0 b1 b2 b3 b4 b5 b6) n = 0 ↔ q_cn (q_pb b0 b1 b2 b3 b4 b5 b6) n = 0) := by decide +kernel
theorem q_z_mk (P : Nat → Bool) {n : Nat} (hn : n ≤ 7) : q_mk P n = 0 ↔ q_cn P n = 0 := by
  have h1 := q_z_all (P 0) (P 1) (P 2) (P 3) (P 4) (P 5) (P 6) n (by omega)
  rwa [← q_mk_c (fun j hj => q_pb_eq P (j := j) (by omega)), ← q_cn_c (fun j hj => q_pb_eq P (j := j) (by omega))] at h1
set_option maxRecDepth 20000 in
theorem q_bit_all : ∀ b0 b1 b2 b3 b4 b5 b6 : Bool, ∀ n, n < 8 → ∀ j, j < 8 → (((q_mk (q_pb b0 b1 b2 b3 b4 b5 b6) n >>> (Int32.ofNat j &&& 31)) &&& 1) = 1 ↔ (j < n ∧ q_pb b0 b1 b2 b3 b4 b5 b6 j = true)) := by decide +kernel
theorem q_bit (P : Nat → Bool) {n j : Nat} (hn : n ≤ 7) (hj : j ≤ 7) : ((q_mk P n >>> (Int32.ofNat j &&& 31)) &&& 1) = 1 ↔ (j < n ∧ P j = true) := by
  have h1 := q_bit_all (P 0) (P 1) (P 2) (P 3) (P 4) (P 5) (P 6) n (by omega) j (by omega)
  rw [← q_mk_c (fun j hj => q_pb_eq P (j := j) (by omega))] at h1
  rw [h1]
  constructor
  · rintro ⟨a, b⟩
    exact ⟨a, by rw [q_pb_eq P (j := j) (by omega)]; exact b⟩
  · rintro ⟨a, b⟩
    exact ⟨a, by rw [← q_pb_eq P (j := j) (by omega)]; exact b⟩
