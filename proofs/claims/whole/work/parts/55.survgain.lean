/-! All askings: the row of gains (listGains, 57). -/
theorem cl_68s {D n k g : Nat} {h : lm_H} {K : Int32 → lm_H → Prop} {cu lo : Int32} (hD : 4 ≤ D) (hl : lm_Lay h) (hc : lm_i h 32 2 = cu) (hlo : lm_i h 32 3 = lo) (h5 : n ≤ 5) (hk : k < 5) (hg : g < 7) (P : Nat → Bool) (hK : K (q_gn n cu lo (lm_i h 33 (k * 7 + g)) P k) h) : lm_call D 68 [.ref 32, .int (Int32.ofNat k), .int (Int32.ofNat g), .int (q_mk P n)] h (lm_kI K) := by
  obtain ⟨d, rfl⟩ := q_dp hD
  refine e_68s _ _ _ hl ?_
  refine cl_69s (by omega) hl hc h5 hk P ?_
  simp (disch := omega) only [q_add, q_mul, q_m7, q_m6, q_6m, q_7m, q_a1, q_5m, q_m5, q_71, q_11, q_87, q_41, q_76, q_5a, q_0a, q_a6, q_nat, q_in, q_lt, q_eq, q_lt0, if_true, if_false, hlo]
  exact hK
theorem cl_269c45 {D : Nat} {h : lm_H} {K : lm_H → Prop} (hD : 1 ≤ D) (hl : lm_Lay h) (x : Int64) (hK : K (q_lr h 45 (fun j => if j < 263 then x else lm_l h 45 j))) : lm_call D 269 [.ref 45, .long x] h (lm_kV K) := by
  obtain ⟨d, rfl⟩ := q_dp hD
  refine e_269c45 x hl ?_
  have lp : ∀ r k : Nat, r + k = 263 → (lm_W (d) 269 6 [some (.ref 45), some (.long x), none, some (.int (Int32.ofNat k)), some (.int (Int32.ofNat 263))] [] (q_lr h 45 (fun j => if j < k then x else lm_l h 45 j)) (lm_kV K)) := by
    intro r
    induction r with
    | zero =>
      intro k hk
      refine b_269c45_6 _ _ _ (lm_Lay_lr hl _ _) ?_
      simp (disch := omega) only [q_add, q_mul, q_m7, q_m6, q_6m, q_7m, q_a1, q_5m, q_m5, q_71, q_11, q_87, q_41, q_76, q_5a, q_0a, q_a6, q_nat, q_in, q_lt, q_eq, q_lt0, if_true, if_false]
      have : k = 263 := by omega
      subst this
      rw [if_neg (by omega)]
      exact hK
    | succ r ih =>
      intro k hk
      refine b_269c45_6 _ _ _ (lm_Lay_lr hl _ _) ?_
      simp (disch := omega) only [q_add, q_mul, q_m7, q_m6, q_6m, q_7m, q_a1, q_5m, q_m5, q_71, q_11, q_87, q_41, q_76, q_5a, q_0a, q_a6, q_nat, q_in, q_lt, q_eq, q_lt0, if_true, if_false]
      rw [if_pos (by omega), q_lrS]
      have e : (fun j => if j = k then x else if j < k then x else lm_l h 45 j) = fun j => if j < k + 1 then x else lm_l h 45 j := by
        funext j
        by_cases c : j = k
        · rw [if_pos c, if_pos (by omega)]
        · rw [if_neg c]
          by_cases c2 : j < k
          · rw [if_pos c2, if_pos (by omega)]
          · rw [if_neg c2, if_neg (by omega)]
      rw [e]
      exact ih (k + 1) (by omega)
  have := lp 263 0 (by omega)
  have e : (fun j => if j < 0 then x else lm_l h 45 j) = lm_l h 45 := by
    funext j
    rw [if_neg (by omega)]
  rw [e, q_lrI] at this
  exact this
theorem q_m32 (a : Nat) : Int32.ofNat a * 32 = Int32.ofNat (a * 32) := q_mul a 32
set_option maxRecDepth 20000 in
theorem q_pow : ∀ n, n < 6 → (1 : Int32) <<< (Int32.ofNat n &&& 31) = Int32.ofNat (2 ^ n) := by decide +kernel
set_option maxRecDepth 20000 in
theorem q_tbn : ∀ n, n < 6 → ∀ M, M < 2 ^ n → Int32.ofNat M = q_mk (fun j => Nat.testBit M j) n := by decide +kernel
set_option maxRecDepth 20000 in
theorem q_rwn_all : ∀ b0 b1 b2 b3 b4 : Bool, ∀ n, n < 6 → (q_mk (q_pb b0 b1 b2 b3 b4 false false) n).toNatClampNeg < 2 ^ n ∧ q_mk (q_pb b0 b1 b2 b3 b4 false false) n = Int32.ofNat (q_mk (q_pb b0 b1 b2 b3 b4 false false) n).toNatClampNeg ∧ ∀ j, j < n → Nat.testBit (q_mk (q_pb b0 b1 b2 b3 b4 false false) n).toNatClampNeg j = q_pb b0 b1 b2 b3 b4 false false j := by decide +kernel
theorem q_rwn (P : Nat → Bool) {n : Nat} (h5 : n ≤ 5) : ∃ M, M < 2 ^ n ∧ q_mk P n = Int32.ofNat M ∧ ∀ j, j < n → Nat.testBit M j = P j := by
  have h := q_rwn_all (P 0) (P 1) (P 2) (P 3) (P 4) n (by omega)
  rw [← q_mk_c (n := n) (fun j hj => q_pb5 P (j := j) (by omega))] at h
  exact ⟨_, h.1, h.2.1, fun j hj => by rw [h.2.2 j hj, ← q_pb5 P (by omega)]⟩
theorem cl_68t {D n k g M : Nat} {h : lm_H} {K : Int32 → lm_H → Prop} {cu lo : Int32} (hD : 4 ≤ D) (hl : lm_Lay h) (hc : lm_i h 32 2 = cu) (hlo : lm_i h 32 3 = lo) (h5 : n ≤ 5) (hk : k < 5) (hg : g < 7) (hM : M < 2 ^ n) (hK : K (q_gn n cu lo (lm_i h 33 (k * 7 + g)) (fun j => Nat.testBit M j) k) h) : lm_call D 68 [.ref 32, .int (Int32.ofNat k), .int (Int32.ofNat g), .int (Int32.ofNat M)] h (lm_kI K) := by
  rw [q_tbn n (by omega) M hM]
  exact cl_68s hD hl hc hlo h5 hk hg _ hK
/-- a gain by the number of those who ask -/
def gC (n : Nat) (cu lo : Int32) (W : Nat → Int32) (x c M : Nat) : Int32 := q_gn n cu lo (if c = 6 then lo else W (6 * x + c)) (fun j => Nat.testBit M j) x
def rG (h : lm_H) (n m : Nat) (cu lo : Int32) (W B : Nat → Int32) (x : Nat) : Prop := ∀ i, i < cc B m x → ∀ M, M < 2 ^ n → lm_i h 43 ((x * 7 + chF B x m i) * 32 + M) = gC n cu lo W x (chF B x m i) M
def rT (h : lm_H) (n m : Nat) (cu lo : Int32) (W B : Nat → Int32) (x : Nat) : Prop := ∀ (A : Nat → Nat) (i : Nat), i < cc B m x → ¬ lm_i h 44 x < cG n cu lo W A x (chF B x m i)
theorem rG_at {h : lm_H} {n m x i : Nat} {cu lo : Int32} {W B : Nat → Int32} (H : rG h n m cu lo W B x) (h5 : n ≤ 5) (hi : i < cc B m x) (A : Nat → Nat) : ∃ M, M < 32 ∧ q_mk (fun j => decide (A j = chF B x m i)) n = Int32.ofNat M ∧ lm_i h 43 ((x * 7 + chF B x m i) * 32 + M) = cG n cu lo W A x (chF B x m i) := by
  obtain ⟨M, h1, h2, h3⟩ := q_rwn (fun j => decide (A j = chF B x m i)) h5
  have hp : 2 ^ n ≤ 2 ^ 5 := Nat.pow_le_pow_right (by decide) h5
  refine ⟨M, by omega, h2, (H i hi M h1).trans ?_⟩
  exact q_gn_c (fun j hj _ => h3 j hj)
theorem rG_of {h h' : lm_H} {n m x y : Nat} {cu lo : Int32} {W B : Nat → Int32} (h5 : n ≤ 5) (h6 : m ≤ 6) (H : rG h n m cu lo W B y) (hy : ¬ y = x) (e : ∀ a, ¬ a / 224 = x → lm_i h' 43 a = lm_i h 43 a) : rG h' n m cu lo W B y := by
  intro i hi M hM
  have hp : 2 ^ n ≤ 2 ^ 5 := Nat.pow_le_pow_right (by decide) h5
  have hv := chF_ok (B := B) (k := y) (m := m) (i := i) (by unfold cc at hi; omega)
  rw [e _ (by omega)]
  exact H i hi M hM
theorem q_gn_top {n : Nat} {cu lo w t : Int32} (P : Nat → Bool) {k : Nat} (h5 : n ≤ 5) (hk : k < n) (hlo : -99 ≤ lo ∧ lo ≤ 99) (hw : -99 ≤ w ∧ w ≤ 99) (h1 : ¬ t < 60 * lo) (h2 : ¬ t < 60 * w) : ¬ t < q_gn n cu lo w P k := by
  unfold q_gn
  have h3 := q_rv_lt (cu := cu) P hk
  have h4 := q_sh_v cu (c := q_rv cu P k n) (by omega)
  generalize q_sh cu (q_rv cu P k n) = s at h4
  have e1 : (-99 : Int32).toInt = -99 := rfl
  have e2 : (99 : Int32).toInt = 99 := rfl
  have e60 : (60 : Int32).toInt = 60 := rfl
  simp only [p_le, e1, e2] at hlo hw
  have hd : (w - lo).toInt = w.toInt - lo.toInt := p_tI_sub (by omega) (by omega)
  have h60 : (60 * lo).toInt = 60 * lo.toInt := by
    rw [p_tI_mul (by rw [e60]; omega) (by rw [e60]; omega), e60]
  have w60 : (60 * w).toInt = 60 * w.toInt := by
    rw [p_tI_mul (by rw [e60]; omega) (by rw [e60]; omega), e60]
  have hs : s.toInt = 60 ∨ s.toInt = 30 ∨ s.toInt = 20 ∨ s.toInt = 15 ∨ s.toInt = 12 ∨ s.toInt = 0 := by
    rcases h4 with h | h | h | h | h | h <;> rw [h] <;> decide
  rw [p_lt, h60] at h1
  rw [p_lt, w60] at h2
  rw [p_lt]
  rcases hs with h | h | h | h | h | h
  all_goals
    have hm : (s * (w - lo)).toInt = s.toInt * (w - lo).toInt := p_tI_mul (by rw [h, hd]; omega) (by rw [h, hd]; omega)
    rw [p_tI_add (by rw [hm, h60, h, hd]; omega) (by rw [hm, h60, h, hd]; omega), hm, h60, h, hd]
    omega
theorem cl_57 {D n m x : Nat} {h : lm_H} {K : lm_H → Prop} {cu lo : Int32} {W B : Nat → Int32} (hD : 5 ≤ D) (H : ct h 32 n m cu lo W B) (hw : wd n m cu lo W) (hx : x < n)
    (hK : ∀ h', fr [43, 44] [] h h' → (∀ a, ¬ a / 224 = x → lm_i h' 43 a = lm_i h 43 a) → (∀ y, ¬ y = x → lm_i h' 44 y = lm_i h 44 y) → rG h' n m cu lo W B x → rT h' n m cu lo W B x → K h') : lm_call D 57 [.ref 31, .int (Int32.ofNat x)] h (lm_kV K) := by
  obtain ⟨d, rfl⟩ := q_dp hD
  have h5 := H.2.1
  have h6 := H.2.2.1
  have hcc : cc B m x ≤ 7 := by unfold cc; have := q_ci_le B x m; omega
  have hp2 : 2 ^ n ≤ 2 ^ 5 := Nat.pow_le_pow_right (by decide) h5
  have hlo : lm_i h 32 3 = lo := H.2.2.2.2.2.2.1
  have irr : ∀ t : Int32, ¬ t < t := fun t => Int32.lt_irrefl
  refine e_57 _ H.1 ?_
  rw [q_in (by omega) (by omega), q_nat (by omega), hlo]
  have lp : ∀ r i : Nat, r + i = cc B m x → ∀ z, fr [43, 44] [] h z → (∀ a, ¬ a / 224 = x → lm_i z 43 a = lm_i h 43 a) → (∀ y, ¬ y = x → lm_i z 44 y = lm_i h 44 y) → (∀ j, j < i → ∀ M, M < 2 ^ n → lm_i z 43 ((x * 7 + chF B x m j) * 32 + M) = gC n cu lo W x (chF B x m j) M) → ¬ lm_i z 44 x < 60 * lo → (∀ j, j < i → ¬ lm_i z 44 x < 60 * (if chF B x m j = 6 then lo else W (6 * x + chF B x m j))) → (lm_W ((d + 3) + 1) 57 18 [some (.ref 31), some (.int (Int32.ofNat x)), some (.int (Int32.ofNat i)), none, none] [] z (lm_kV K)) := by
    intro r
    induction r with
    | zero =>
      intro i hi z hf g1 g2 g3 g4 g5
      have e : i = cc B m x := by omega
      have Hz := ct_fr hf H (by decide)
      have hcx : lm_i z 36 x = Int32.ofNat (cc B m x) := (Hz.2.2.2.2.2.2.2.2 x hx).2.2.1
      refine b_57_18 _ _ Hz.1 ?_
      rw [q_in (by omega) (by omega), q_nat (by omega), hcx, if_neg (by rw [q_lt (by omega) (by omega)]; omega)]
      rw [e] at g3 g5
      refine hK z hf g1 g2 g3 (fun A j hj => ?_)
      have hvo := chF_ok (B := B) (k := x) (m := m) (i := j) (by unfold cc at hj; omega)
      refine q_gn_top _ h5 hx hw.2.1 ?_ g4 (g5 j hj)
      by_cases c : chF B x m j = 6
      · rw [if_pos c]; exact hw.2.1
      · rw [if_neg c]; exact hw.2.2 x hx _ (by omega)
    | succ r ih =>
      intro i hi z hf g1 g2 g3 g4 g5
      have hi' : i < cc B m x := by omega
      have Hz := ct_fr hf H (by decide)
      have hcx : lm_i z 36 x = Int32.ofNat (cc B m x) := (Hz.2.2.2.2.2.2.2.2 x hx).2.2.1
      have hvo := chF_ok (B := B) (k := x) (m := m) (i := i) (by unfold cc at hi'; omega)
      have hch : lm_i z 35 (x * 7 + i) = Int32.ofNat (chF B x m i) := ct_ch Hz hx (by unfold cc at hi'; omega)
      have hc7 : chF B x m i < 7 := by omega
      have hwo : lm_i z 33 (x * 7 + chF B x m i) = if chF B x m i = 6 then lo else W (6 * x + chF B x m i) := ct_w Hz hx (by omega)
      have inn : ∀ t : Int32, ¬ t < 60 * lo → (∀ j, j < i + 1 → ¬ t < 60 * (if chF B x m j = 6 then lo else W (6 * x + chF B x m j))) → (lm_W ((d + 3) + 1) 57 79 [some (.ref 31), some (.int (Int32.ofNat x)), some (.int (Int32.ofNat i)), some (.int (Int32.ofNat (chF B x m i))), some (.int (Int32.ofNat 0))] [] (lm_si z 44 x t) (lm_kV K)) := by
        intro t ht1 ht2
        have lq : ∀ r k : Nat, r + k = 2 ^ n → ∀ z2, fr [43] [] (lm_si z 44 x t) z2 → (∀ a, lm_i z2 43 a = lm_i z 43 a ∨ ∃ M, M < 2 ^ n ∧ a = (x * 7 + chF B x m i) * 32 + M ∧ lm_i z2 43 a = gC n cu lo W x (chF B x m i) M) → (∀ M, M < k → lm_i z2 43 ((x * 7 + chF B x m i) * 32 + M) = gC n cu lo W x (chF B x m i) M) → (lm_W ((d + 3) + 1) 57 79 [some (.ref 31), some (.int (Int32.ofNat x)), some (.int (Int32.ofNat i)), some (.int (Int32.ofNat (chF B x m i))), some (.int (Int32.ofNat k))] [] z2 (lm_kV K)) := by
          intro r
          induction r with
          | zero =>
            intro k hk z2 hf2 ga gk
            have e : k = 2 ^ n := by omega
            rw [e] at gk
            have hf3 : fr [43, 44] [] h z2 := fr_trans (fr_si hf (by decide) (by decide) _ _) (fr_sub hf2 (by decide) (by decide))
            have Hz2 := ct_fr hf3 H (by decide)
            refine b_57_79 _ _ _ _ Hz2.1 ?_
            rw [Hz2.2.2.2.1, q_pow n (by omega), if_neg (by rw [q_lt (by omega) (by omega)]; omega), q_a1 i]
            refine ih (i + 1) (by omega) z2 hf3 (fun a ha => ?_) (fun y hy => ?_) (fun j hj M hM => ?_) ?_ (fun j hj => ?_)
            · rcases ga a with q | ⟨M, hM, q, _⟩
              · rw [q]; exact g1 a ha
              · exfalso
                apply ha
                omega
            · rw [fr_i hf2 (by decide) (by decide), pi_si, if_pos rfl, if_neg hy]
              exact g2 y hy
            · rcases ga ((x * 7 + chF B x m j) * 32 + M) with q | ⟨M', hM', q, q2⟩
              · by_cases ej : j = i
                · rw [ej]; exact gk M hM
                · rw [q]; exact g3 j (by omega) M hM
              · rw [q2]
                have e1 : chF B x m j = chF B x m i := by omega
                have e2 : M = M' := by omega
                rw [e1, e2]
            · rw [fr_i hf2 (by decide) (by decide), pi_si, if_pos rfl, if_pos rfl]
              exact ht1
            · rw [fr_i hf2 (by decide) (by decide), pi_si, if_pos rfl, if_pos rfl]
              exact ht2 j hj
          | succ r ih2 =>
            intro k hk z2 hf2 ga gk
            have hk2 : k < 2 ^ n := by omega
            have hf3 : fr [43, 44] [] h z2 := fr_trans (fr_si hf (by decide) (by decide) _ _) (fr_sub hf2 (by decide) (by decide))
            have Hz2 := ct_fr hf3 H (by decide)
            have hw2 : lm_i z2 33 (x * 7 + chF B x m i) = if chF B x m i = 6 then lo else W (6 * x + chF B x m i) := ct_w Hz2 hx (by omega)
            refine b_57_79 _ _ _ _ Hz2.1 ?_
            rw [Hz2.2.2.2.1, q_pow n (by omega), if_pos (by rw [q_lt (by omega) (by omega)]; omega)]
            refine cl_68t (n := n) (by omega) Hz2.1 Hz2.2.2.2.2.2.1 Hz2.2.2.2.2.2.2.1 h5 (by omega) hc7 hk2 ?_
            rw [q_m7, q_add, q_m32, q_add, q_in (by omega) (by omega), q_nat (by omega), q_a1 k, hw2]
            refine ih2 (k + 1) (by omega) _ (fr_si hf2 (by decide) (by decide) _ _) (fun a => ?_) (fun M hM => ?_)
            · rw [pi_si, if_pos rfl]
              by_cases ea : a = (x * 7 + chF B x m i) * 32 + k
              · rw [if_pos ea]; exact Or.inr ⟨k, hk2, ea, rfl⟩
              · rw [if_neg ea]; exact ga a
            · rw [pi_si, if_pos rfl]
              by_cases ea : M = k
              · rw [ea, if_pos rfl]; rfl
              · rw [if_neg (by omega)]; exact gk M (by omega)
        exact lq (2 ^ n) 0 (by omega) _ (fr_refl _ _ _) (fun a => Or.inl (by rw [pi_si, if_neg (by decide)])) (fun M hM => by omega)
      refine b_57_18 _ _ Hz.1 ?_
      simp (disch := omega) only [q_add, q_mul, q_m7, q_m6, q_6m, q_7m, q_a1, q_5m, q_m5, q_71, q_11, q_87, q_41, q_76, q_5a, q_0a, q_a6, q_nat, q_in, q_lt, q_eq, q_lt0, if_true, if_false, hcx, hch, hwo]
      rw [if_pos hi']
      by_cases c : lm_i z 44 x < 60 * (if chF B x m i = 6 then lo else W (6 * x + chF B x m i))
      · rw [if_pos c]
        refine inn _ ?_ (fun j hj => ?_)
        · rw [p_lt] at g4 c ⊢
          omega
        · by_cases ej : j = i
          · rw [ej]; exact irr _
          · have := g5 j (by omega)
            rw [p_lt] at this c ⊢
            omega
      · rw [if_neg c]
        refine inn _ g4 (fun j hj => ?_)
        by_cases ej : j = i
        · rw [ej]; exact c
        · exact g5 j (by omega)
  refine lp (cc B m x) 0 (by omega) _ (fr_si (fr_refl _ _ _) (by decide) (by decide) _ _) (fun a _ => by rw [pi_si, if_neg (by decide)]) (fun y hy => by rw [pi_si, if_pos rfl, if_neg hy]) (fun j hj => by omega) ?_ (fun j hj => by omega)
  rw [pi_si, if_pos rfl, if_pos rfl]
  exact irr _
