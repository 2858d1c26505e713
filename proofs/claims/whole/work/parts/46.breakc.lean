/-! Breaking: the class (83). -/
def gd (n : Nat) (cu lo : Int32) (W : Nat → Int32) (w : Nat → Bool) (G : Nat → Int32) (A : Nat → Nat) : Prop := ∀ j, j < n → w j = true → G j < cG n cu lo W A j (A j)
/-- the hosts of w can all gain together -/
def brk (n m : Nat) (cu lo : Int32) (W B : Nat → Int32) (w : Nat → Bool) (A : Nat → Nat) : Prop := ∃ A' : Nat → Nat, (∀ j, j < n → w j = true → (A' j < m ∧ B (6 * j + A' j) = 0) ∨ A' j = 6) ∧ (∀ j, j < n → ¬ w j = true → A' j = A j) ∧ gd n cu lo W w (fun j => cG n cu lo W A j (A j)) A'
theorem gd_c {n : Nat} {cu lo : Int32} {W : Nat → Int32} {w : Nat → Bool} {G : Nat → Int32} {A A' : Nat → Nat} (h : ∀ j, j < n → A j = A' j) (hg : gd n cu lo W w G A) : gd n cu lo W w G A' := by
  intro j hj hw
  have := hg j hj hw
  rw [cG_c (A' := A') (fun i hi _ => h i hi), h j hj] at this
  exact this
def chI (B : Nat → Int32) (m k a : Nat) : Nat := if a = 6 then q_ci B k m else q_ci B k a
theorem chI_lt {B : Nat → Int32} {k m a : Nat} (h6 : m ≤ 6) (h : (a < m ∧ B (6 * k + a) = 0) ∨ a = 6) : chI B m k a < cc B m k := by
  unfold chI cc
  rcases h with ⟨h1, h2⟩ | h1
  · rw [if_neg (by omega)]
    have h3 := q_ci_mo B k (g := a + 1) (g2 := m) (by omega)
    rw [q_ci, if_pos h2] at h3
    omega
  · rw [if_pos h1]
    omega
theorem chF_chI {B : Nat → Int32} {k m a : Nat} (h6 : m ≤ 6) (h : (a < m ∧ B (6 * k + a) = 0) ∨ a = 6) : chF B k m (chI B m k a) = a := by
  unfold chI
  rcases h with ⟨h1, h2⟩ | h1
  · rw [if_neg (by omega)]
    exact chF_at h2 h1
  · rw [if_pos h1, chF_no (Nat.le_refl _), h1]
theorem cl_82 {D n m x : Nat} {h : lm_H} {K : Int32 → lm_H → Prop} {cu lo : Int32} {W B : Nat → Int32} {p F : Nat → Nat} {z : Int32} (hD : 5 ≤ D) (H : ct h 21 n m cu lo W B) (hk : wk h 27 28 29 n (wm z) B m p F) (hF : gA n m F) (hx : x < n) (hK : K (cG n cu lo W (wA (wm z) B m p F) x (wA (wm z) B m p F x)) h) : lm_call D 82 [.ref 26, .ref 21, .int (Int32.ofNat x)] h (lm_kI K) := by
  obtain ⟨d, rfl⟩ := q_dp hD
  have H' := H
  obtain ⟨hl, h5, h6, h0, h1, h2, h3, h4, h7⟩ := H
  obtain ⟨k1, k2, k3, k4⟩ := hk
  have ha := (k1 x hx).2
  have hv : wA (wm z) B m p F x < m ∨ wA (wm z) B m p F x = 6 := by
    unfold wA
    split
    · rename_i e
      have := chF_ok (k3 x hx e)
      omega
    · exact hF x hx
  have hq := k2 (wA (wm z) B m p F x) (by omega)
  have hw : lm_i h 22 (x * 7 + wA (wm z) B m p F x) = _ := ct_w H' hx hv
  refine e_82 _ hl ?_
  simp (disch := omega) only [q_add, q_mul, q_m7, q_m6, q_6m, q_7m, q_a1, q_5m, q_m5, q_71, q_11, q_87, q_41, q_76, q_5a, q_0a, q_a6, q_nat, q_in, q_lt, q_eq, q_lt0, if_true, if_false, ha, hq]
  refine cl_68 (by omega) hl h2 h3 h5 (by omega) (by omega) _ ?_
  rw [hw]
  exact hK
theorem cl_84 {D n m : Nat} {h : lm_H} {K : Int32 → lm_H → Prop} {cu lo : Int32} {W B : Nat → Int32} {p F : Nat → Nat} {z : Int32} {G : Nat → Int32} (hD : 6 ≤ D) (H : ct h 21 n m cu lo W B) (hk : wk h 27 28 29 n (wm z) B m p F) (hF : gA n m F) (hG : ∀ j, j < n → lm_i h 30 j = G j) (h1 : gd n cu lo W (wm z) G (wA (wm z) B m p F) → K 1 h) (h0 : ¬ gd n cu lo W (wm z) G (wA (wm z) B m p F) → K 0 h) : lm_call D 84 [.ref 26, .ref 21, .int z] h (lm_kI K) := by
  obtain ⟨d, rfl⟩ := q_dp hD
  have h5 := H.2.1
  have hn := H.2.2.2.1
  refine e_84 _ H.1 ?_
  have lp : ∀ r x : Nat, r + x = n → (∀ j, j < x → wm z j = true → G j < cG n cu lo W (wA (wm z) B m p F) j (wA (wm z) B m p F j)) → (lm_W ((d + 5)) 84 2 [some (.ref 26), some (.ref 21), some (.int z), some (.int (Int32.ofNat x))] [] h (lm_kI K)) := by
    intro r
    induction r with
    | zero =>
      intro x hx hg
      have : x = n := by omega
      subst this
      refine b_84_2 _ _ H.1 ?_
      simp (disch := omega) only [q_add, q_mul, q_m7, q_m6, q_6m, q_7m, q_a1, q_5m, q_m5, q_71, q_11, q_87, q_41, q_76, q_5a, q_0a, q_a6, q_nat, q_in, q_lt, q_eq, q_lt0, if_true, if_false, hn]
      rw [if_neg (by omega)]
      exact h1 hg
    | succ r ih =>
      intro x hx hg
      refine b_84_2 _ _ H.1 ?_
      simp (disch := omega) only [q_add, q_mul, q_m7, q_m6, q_6m, q_7m, q_a1, q_5m, q_m5, q_71, q_11, q_87, q_41, q_76, q_5a, q_0a, q_a6, q_nat, q_in, q_lt, q_eq, q_lt0, if_true, if_false, hn]
      rw [if_pos (by omega)]
      by_cases c : wm z x = true
      · rw [if_pos (by simpa [wm] using c)]
        refine cl_82 (by omega) H hk hF (by omega) ?_
        rw [hG x (by omega)]
        by_cases c2 : G x < cG n cu lo W (wA (wm z) B m p F) x (wA (wm z) B m p F x)
        · rw [if_pos c2]
          refine ih (x + 1) (by omega) (fun j hj hw => ?_)
          by_cases e : j = x
          · rw [e]; exact c2
          · exact hg j (by omega) hw
        · rw [if_neg c2]
          exact h0 (fun q => c2 (q x (by omega) c))
      · rw [if_neg (by simpa [wm] using c)]
        refine ih (x + 1) (by omega) (fun j hj hw => ?_)
        by_cases e : j = x
        · rw [e] at hw; exact absurd hw c
        · exact hg j (by omega) hw
  exact lp n 0 (by omega) (fun j hj => by omega)
theorem lp_83 {d n m : Nat} {h0 : lm_H} {K : Int32 → lm_H → Prop} {cu lo : Int32} {W B : Nat → Int32} {A : Nat → Nat} {z : Int32} (hD : 6 ≤ d) (h5 : n ≤ 5) (h6 : m ≤ 6) (hA : gA n m A)
    (hK : ∀ r h', fr [27, 28, 29, 30] [] h0 h' → (r = 0 ∨ r = 1) → (r = 1 ↔ brk n m cu lo W B (wm z) A) → K r h') : ∀ r i, r + i = wN (wm z) (cc B m) n → ∀ p h, fr [27, 28, 29, 30] [] h0 h → ct h 21 n m cu lo W B → wk h 27 28 29 n (wm z) B m p A → (∀ j, j < n → lm_i h 30 j = cG n cu lo W A j (A j)) → (i < wN (wm z) (cc B m) n → wH (wm z) (cc B m) p n = i) →
    (∀ q : Nat → Nat, (∀ j, j < n → wm z j = true → q j < cc B m j) → wH (wm z) (cc B m) q n < i → ¬ gd n cu lo W (wm z) (fun j => cG n cu lo W A j (A j)) (wA (wm z) B m q A)) → (lm_W (d) 83 48 [some (.ref 26), some (.ref 21), none, some (.int z), some (.int (Int32.ofNat (wN (wm z) (cc B m) n))), some (.int (Int32.ofNat i))] [] h (lm_kI K)) := by
  have hc7 : ∀ j, j < n → cc B m j ≤ 7 := fun j _ => by unfold cc; have := q_ci_le B j m; omega
  have hNle := wN_le (w := wm z) hc7 h5
  intro r
  induction r with
  | zero =>
    intro i hi p h hf H hk hG hH hno
    have : i = wN (wm z) (cc B m) n := by omega
    refine b_83_48 _ _ _ H.1 ?_
    simp (disch := omega) only [q_add, q_mul, q_m7, q_m6, q_6m, q_7m, q_a1, q_5m, q_m5, q_71, q_11, q_87, q_41, q_76, q_5a, q_0a, q_a6, q_nat, q_in, q_lt, q_eq, q_lt0, if_true, if_false]
    rw [if_neg (by omega)]
    refine hK 0 h hf (Or.inl rfl) ⟨fun q => absurd q (by decide), ?_⟩
    rintro ⟨A', g1, g2, g3⟩
    exfalso
    have hv : ∀ j, j < n → wm z j = true → (fun j => chI B m j (A' j)) j < cc B m j := fun j hj hw => chI_lt h6 (g1 j hj hw)
    refine hno (fun j => chI B m j (A' j)) hv (by rw [this]; exact wH_lt hv) (gd_c (A := A') (fun j hj => ?_) g3)
    unfold wA
    by_cases c : wm z j = true
    · rw [if_pos c, chF_chI h6 (g1 j hj c)]
    · rw [if_neg c, g2 j hj c]
  | succ r ih =>
    intro i hi p h hf H hk hG hH hno
    have hp := hk.2.2.1
    refine b_83_48 _ _ _ H.1 ?_
    simp (disch := omega) only [q_add, q_mul, q_m7, q_m6, q_6m, q_7m, q_a1, q_5m, q_m5, q_71, q_11, q_87, q_41, q_76, q_5a, q_0a, q_a6, q_nat, q_in, q_lt, q_eq, q_lt0, if_true, if_false]
    rw [if_pos (by omega)]
    refine cl_84 (by omega) H hk hA hG (fun g => ?_) (fun g => ?_)
    · rw [if_neg (by decide)]
      refine hK 1 h hf (Or.inr rfl) ⟨fun _ => ⟨wA (wm z) B m p A, fun j hj hw => ?_, fun j hj hw => ?_, g⟩, fun _ => rfl⟩
      · unfold wA
        rw [if_pos hw]
        exact chF_ok (hp j hj hw)
      · unfold wA
        rw [if_neg hw]
    · rw [if_pos rfl]
      refine cl_81 (by omega) H hk (fun h1 hw1 hk1 => ?_)
      have hf1 := hw1.1
      have hS := wS_H (w := wm z) (c := cc B m) n p hp
      refine ih (i + 1) (by omega) _ h1 (fr_trans hf (fr_sub hf1 (by decide) (by decide))) (ct_fr hf1 H (by decide)) hk1 (fun j hj => ?_) (fun hlt => ?_) (fun q hq hlt => ?_)
      · rw [fr_i hf1 (by decide) (by decide)]
        exact hG j hj
      · rw [hS, hH (by omega), if_pos hlt]
      · by_cases e : wH (wm z) (cc B m) q n = i
        · have e2 : wH (wm z) (cc B m) q n = wH (wm z) (cc B m) p n := by rw [e, hH (by omega)]
          have e3 := wH_inj hq hp e2
          intro g2
          refine g (gd_c (fun j hj => ?_) g2)
          unfold wA
          by_cases c : wm z j = true
          · rw [if_pos c, if_pos c, e3 j hj c]
          · rw [if_neg c, if_neg c]
        · exact hno q hq (by omega)
theorem cl_83 {D n m : Nat} {h : lm_H} {K : Int32 → lm_H → Prop} {cu lo : Int32} {W B : Nat → Int32} {A : Nat → Nat} (z : Int32) (hD : 7 ≤ D) (H : ct h 21 n m cu lo W B) (ha : ca h 73 n A) (hA : gA n m A)
    (hK : ∀ r h', fr [27, 28, 29, 30] [] h h' → (r = 0 ∨ r = 1) → (r = 1 ↔ brk n m cu lo W B (wm z) A) → K r h') : lm_call D 83 [.ref 26, .ref 21, .ref 73, .int z] h (lm_kI K) := by
  obtain ⟨d, rfl⟩ := q_dp hD
  have h5 := H.2.1
  have h6 := H.2.2.1
  refine e_83 _ H.1 ?_
  have lp : ∀ r x : Nat, r + x = n → ∀ h1, fr [27, 28, 29, 30] [] h h1 → ct h1 21 n m cu lo W B → ca h1 73 n A → (∀ j, j < x → lm_i h1 30 j = cG n cu lo W A j (A j)) → (lm_W ((d + 6)) 83 3 [some (.ref 26), some (.ref 21), some (.ref 73), some (.int z), some (.int (Int32.ofNat x)), none] [] h1 (lm_kI K)) := by
    intro r
    induction r with
    | zero =>
      intro x hx h1 hf H1 ha1 hG
      have : x = n := by omega
      subst this
      have hn := H1.2.2.2.1
      refine b_83_3 _ _ H1.1 ?_
      simp (disch := omega) only [q_add, q_mul, q_m7, q_m6, q_6m, q_7m, q_a1, q_5m, q_m5, q_71, q_11, q_87, q_41, q_76, q_5a, q_0a, q_a6, q_nat, q_in, q_lt, q_eq, q_lt0, if_true, if_false, hn]
      rw [if_neg (by omega)]
      refine cl_80 (by omega) H1 (fun j hj => by have := hA j hj; omega) ha1 (fun h2 hw2 hk2 => ?_)
      have hf2 := hw2.1
      have hz : wH (wm z) (cc B m) (fun _ => 0) x = 0 := by
        have : ∀ k, wH (wm z) (cc B m) (fun _ => 0) k = 0 := by
          intro k
          induction k with
          | zero => rfl
          | succ k ik => rw [wH, ik]; split <;> simp
        exact this x
      refine lp_83 (by omega) h5 h6 hA hK (wN (wm z) (cc B m) x) 0 (by omega) (fun _ => 0) h2 (fr_trans hf (fr_sub hf2 (by decide) (by decide))) (ct_fr hf2 H1 (by decide)) hk2 (fun j hj => ?_) (fun _ => hz) (fun q _ hlt => by omega)
      rw [fr_i hf2 (by decide) (by decide)]
      exact hG j hj
    | succ r ih =>
      intro x hx h1 hf H1 ha1 hG
      have hn := H1.2.2.2.1
      refine b_83_3 _ _ H1.1 ?_
      simp (disch := omega) only [q_add, q_mul, q_m7, q_m6, q_6m, q_7m, q_a1, q_5m, q_m5, q_71, q_11, q_87, q_41, q_76, q_5a, q_0a, q_a6, q_nat, q_in, q_lt, q_eq, q_lt0, if_true, if_false, hn]
      rw [if_pos (by omega), ha1 x (by omega)]
      refine cm_71 (by omega) H1 ha1 hA (by omega) (hA x (by omega)) ?_
      refine ih (x + 1) (by omega) _ (fr_si hf (by decide) (by decide) _ _) (ct_si H1 (by decide) _ _) (fun j hj => ?_) (fun j hj => ?_)
      · rw [pi_si, if_neg (by decide)]
        exact ha1 j hj
      · rw [pi_si, if_pos rfl]
        by_cases e : j = x
        · rw [if_pos e, e]
        · rw [if_neg e]
          exact hG j (by omega)
  exact lp n 0 (by omega) h (fr_refl _ _ _) H ha (fun j hj => by omega)
