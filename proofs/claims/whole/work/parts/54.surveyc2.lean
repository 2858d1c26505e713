/-! All askings: the class's addChoices (58). -/
theorem lF_step {n : Nat} {cu lo : Int32} {W : Nat → Int32} {A : Nat → Nat} {s : Int32} {k : Nat} : lF n cu lo W A s (k + 1) = if cG n cu lo W A k (A k) < lF n cu lo W A s k then cG n cu lo W A k (A k) else lF n cu lo W A s k := rfl
/-- the first loop: gains, sums, leasts -/
theorem lp_58a {d n m x : Nat} {h0 : lm_H} {K : lm_H → Prop} {cu lo : Int32} {W B : Nat → Int32} {p F : Nat → Nat} {z : Int32} (h5 : n ≤ 5) (h6 : m ≤ 6) (hx : x < n) (hz : ∀ j, j < n → wm z j = ot x j)
    (hp : ∀ j, j < n → ¬ j = x → p j < cc B m j)
    (hK : ∀ h', fr [43, 44, 48] [] h0 h' → rS h' n m cu lo W B x (dn B m n x (oH B m n x p) (cc B m x)) → rL h' n m cu lo W B x (dn B m n x (oH B m n x p) (cc B m x)) → (∀ i, i < cc B m x → lm_i h' 48 i = cG n cu lo W (wA (wm z) B m p F) x (chF B x m i)) →
      (lm_W (d) 58 184 [some (.ref 31), none, none, some (.int (Int32.ofNat (cc B m x))), some (.int (Int32.ofNat (sd B m n x))), none, some (.int (mb (fun i => cG n cu lo W (wA (wm z) B m p F) x (chF B x m i)) (60 * lo) (cc B m x))), some (.int (Int32.ofNat (at_ B m n p x 0))), some (.int 0), none, none, none] [] h' (lm_kV K))) :
    ∀ r i, r + i = cc B m x → ∀ h, fr [43, 44, 48] [] h0 h → ct h 32 n m cu lo W B → wk h 38 39 40 n (wm z) B m p F → rW h cu n x → rS h n m cu lo W B x (dn B m n x (oH B m n x p) i) → rL h n m cu lo W B x (dn B m n x (oH B m n x p) i) → (∀ j, j < i → lm_i h 48 j = cG n cu lo W (wA (wm z) B m p F) x (chF B x m j)) →
      (lm_W (d) 58 40 [some (.ref 31), some (.int (Int32.ofNat x)), some (.int (Int32.ofNat (at_ B m n p x 0))), some (.int (Int32.ofNat (cc B m x))), some (.int (Int32.ofNat (sd B m n x))), some (.int (60 * lo)), some (.int (mb (fun i => cG n cu lo W (wA (wm z) B m p F) x (chF B x m i)) (60 * lo) i)), some (.int (Int32.ofNat (at_ B m n p x i))), some (.int (Int32.ofNat i)), none, none, none] [] h (lm_kV K)) := by
  have hcc : cc B m x ≤ 7 := by unfold cc; have := q_ci_le B x m; omega
  have hNN := NN_le (B := B) h5 h6
  intro r
  induction r with
  | zero =>
    intro i hi h hf H hk hW hS hL hg
    have e : i = cc B m x := by omega
    refine b_58_40 _ _ _ _ _ _ _ _ H.1 ?_
    rw [if_neg (by rw [q_lt (by omega) (by omega)]; omega)]
    rw [e] at hS hL hg ⊢
    exact hK h hf hS hL hg
  | succ r ih =>
    intro i hi h hf H hk hW hS hL hg
    have hvo := chF_ok (B := B) (k := x) (m := m) (i := i) (by unfold cc at hi; omega)
    have hat := at_lt (B := B) (m := m) (n := n) (p := p) (x := x) (i := i) hp (by omega)
    have hch : lm_i h 35 (x * 7 + i) = Int32.ofNat (chF B x m i) := ct_ch H hx (by unfold cc at hi; omega)
    have hch6 : chF B x m i < 7 := by omega
    have hak := hk.2.1 (chF B x m i) (by omega)
    obtain ⟨w1, w2, w3⟩ := hW (fun j => decide (wA (wm z) B m p F j = chF B x m i))
    have hwo : lm_i h 33 (x * 7 + chF B x m i) = if chF B x m i = 6 then lo else W (6 * x + chF B x m i) := ct_w H hx (by omega)
    have hlo : lm_i h 32 3 = lo := H.2.2.2.2.2.2.1
    -- the gain
    have hgain : q_sh cu (q_rv cu (fun j => decide (wA (wm z) B m p F j = chF B x m i)) x n) * ((if chF B x m i = 6 then lo else W (6 * x + chF B x m i)) - lo) + 60 * lo = cG n cu lo W (wA (wm z) B m p F) x (chF B x m i) := rfl
    have hsame : ∀ j, j < n → ¬ j = x → wA (wm z) B m p F j = aI B m n (at_ B m n p x i) j := by
      intro j hj hne
      unfold wA aI
      rw [if_pos (by rw [hz j hj]; simpa [ot] using hne), at_dP hp (by omega) j hj, if_neg hne]
    have hown : aI B m n (at_ B m n p x i) x = chF B x m i := by
      unfold aI
      rw [at_dP hp (by omega) x hx, if_pos rfl]
    have hcg : cG n cu lo W (aI B m n (at_ B m n p x i)) x (aI B m n (at_ B m n p x i) x) = cG n cu lo W (wA (wm z) B m p F) x (chF B x m i) := by
      rw [hown]
      exact (cG_c hsame).symm
    obtain ⟨d1, d2⟩ := dn_at (B := B) (m := m) (n := n) (p := p) hx hp (i := i) (by omega)
    have hSa := hS _ hat
    have hLa := hL _ hat
    rw [d1, if_neg (by decide)] at hSa hLa
    have hnext : Int32.ofNat (at_ B m n p x i) + Int32.ofNat (sd B m n x) = Int32.ofNat (at_ B m n p x (i + 1)) := by
      rw [q_add]
      congr 1
      rw [at_sm hx, at_sm hx, Nat.add_mul, Nat.one_mul]
      omega
    have hidx : Int32.ofNat x * 7 + Int32.ofNat i - Int32.ofNat i + Int32.ofNat (chF B x m i) = Int32.ofNat (x * 7 + chF B x m i) := by
      have e1 : Int32.ofNat x * 7 + Int32.ofNat i - Int32.ofNat i = Int32.ofNat x * 7 := by grind
      rw [e1, q_m7, q_add]
    have e35 : (Int32.ofNat x * 7 + Int32.ofNat i).toNatClampNeg = x * 7 + i := by
      rw [q_m7, q_add, q_nat (by omega)]
    -- the rows behind it
    have fin : ∀ h2, fr [43, 44, 48] [] h h2 → (∀ a, lm_i h2 43 a = if a = at_ B m n p x i then lm_i h 43 (at_ B m n p x i) + cG n cu lo W (wA (wm z) B m p F) x (chF B x m i) else lm_i h 43 a) → (∀ a, lm_i h2 44 a = if a = at_ B m n p x i then (if cG n cu lo W (wA (wm z) B m p F) x (chF B x m i) < lm_i h 44 (at_ B m n p x i) then cG n cu lo W (wA (wm z) B m p F) x (chF B x m i) else lm_i h 44 (at_ B m n p x i)) else lm_i h 44 a) → (∀ a, lm_i h2 48 a = if a = i then cG n cu lo W (wA (wm z) B m p F) x (chF B x m i) else lm_i h 48 a) →
        (lm_W (d) 58 40 [some (.ref 31), some (.int (Int32.ofNat x)), some (.int (Int32.ofNat (at_ B m n p x 0))), some (.int (Int32.ofNat (cc B m x))), some (.int (Int32.ofNat (sd B m n x))), some (.int (60 * lo)), some (.int (mb (fun i => cG n cu lo W (wA (wm z) B m p F) x (chF B x m i)) (60 * lo) (i + 1))), some (.int (Int32.ofNat (at_ B m n p x (i + 1)))), some (.int (Int32.ofNat (i + 1))), none, none, none] [] h2 (lm_kV K)) := by
      intro h2 hf2 m1 m2 m3
      refine ih (i + 1) (by omega) h2 (fr_trans hf hf2) (ct_fr hf2 H (by decide)) ?_ ?_ (fun a ha => ?_) (fun a ha => ?_) (fun j hj => ?_)
      · unfold wk at hk ⊢
        rw [fr_i hf2 (c := 38) (by decide) (by decide), fr_i hf2 (c := 39) (by decide) (by decide), fr_i hf2 (c := 40) (by decide) (by decide)]
        exact hk
      · unfold rW at hW ⊢
        rw [fr_i hf2 (c := 47) (by decide) (by decide)]
        exact hW
      · rw [m1]
        by_cases e : a = at_ B m n p x i
        · rw [if_pos e, e, d2, if_pos rfl, sG, hSa, hcg]
        · rw [if_neg e, dn_ne hp ha e]
          exact hS a ha
      · rw [m2]
        by_cases e : a = at_ B m n p x i
        · rw [if_pos e, e, d2, if_pos rfl, lF_step, hLa, hcg]
        · rw [if_neg e, dn_ne hp ha e]
          exact hL a ha
      · rw [m3]
        by_cases e : j = i
        · rw [if_pos e, e]
        · rw [if_neg e]
          exact hg j (by omega)
    rw [mb] at fin
    refine b_58_40 _ _ _ _ _ _ _ _ H.1 ?_
    rw [if_pos (by rw [q_lt (by omega) (by omega)]; omega), e35, hch, hlo, q_nat (a := chF B x m i) (by omega), hak, w3, hidx, q_nat (a := x * 7 + chF B x m i) (by omega), hwo, hgain, q_nat (a := at_ B m n p x i) (by omega), q_nat (a := i) (by omega), hnext, q_a1 i]
    refine p_in (by rw [q_m7, q_add, p_onI (by omega)]; omega) (by rw [q_m7, q_add, p_onI (by omega)]; omega) ?_
    rw [q_in (a := chF B x m i) (by omega) (by omega)]
    refine p_in w1 (by omega) ?_
    rw [q_in (a := x * 7 + chF B x m i) (by omega) (by omega), q_in (a := i) (by omega) (by omega), q_in (a := at_ B m n p x i) (by omega) (by omega), q_in (a := at_ B m n p x i) (by omega) (by omega), q_in (a := at_ B m n p x i) (by omega) (by omega)]
    by_cases c1 : cG n cu lo W (wA (wm z) B m p F) x (chF B x m i) < lm_i h 44 (at_ B m n p x i)
    · rw [if_pos c1, q_in (a := at_ B m n p x i) (by omega) (by omega)]
      by_cases c2 : mb (fun i => cG n cu lo W (wA (wm z) B m p F) x (chF B x m i)) (60 * lo) i < cG n cu lo W (wA (wm z) B m p F) x (chF B x m i)
      · rw [if_pos c2] at fin ⊢
        refine fin _ (fr_si (fr_si (fr_si (fr_refl _ _ _) (by decide) (by decide) _ _) (by decide) (by decide) _ _) (by decide) (by decide) _ _) (fun a => ?_) (fun a => ?_) (fun a => ?_)
        · simp only [pi_si, Nat.reduceEqDiff, if_true, if_false]
        · simp only [pi_si, Nat.reduceEqDiff, if_true, if_false, if_pos c1]
        · simp only [pi_si, Nat.reduceEqDiff, if_true, if_false]
      · rw [if_neg c2] at fin ⊢
        refine fin _ (fr_si (fr_si (fr_si (fr_refl _ _ _) (by decide) (by decide) _ _) (by decide) (by decide) _ _) (by decide) (by decide) _ _) (fun a => ?_) (fun a => ?_) (fun a => ?_)
        · simp only [pi_si, Nat.reduceEqDiff, if_true, if_false]
        · simp only [pi_si, Nat.reduceEqDiff, if_true, if_false, if_pos c1]
        · simp only [pi_si, Nat.reduceEqDiff, if_true, if_false]
    · rw [if_neg c1]
      have same : ∀ a, lm_i h 44 a = if a = at_ B m n p x i then lm_i h 44 (at_ B m n p x i) else lm_i h 44 a := by
        intro a
        split
        · rename_i e; rw [e]
        · rfl
      by_cases c2 : mb (fun i => cG n cu lo W (wA (wm z) B m p F) x (chF B x m i)) (60 * lo) i < cG n cu lo W (wA (wm z) B m p F) x (chF B x m i)
      · rw [if_pos c2] at fin ⊢
        refine fin _ (fr_si (fr_si (fr_refl _ _ _) (by decide) (by decide) _ _) (by decide) (by decide) _ _) (fun a => ?_) (fun a => ?_) (fun a => ?_)
        · simp only [pi_si, Nat.reduceEqDiff, if_true, if_false]
        · simp only [pi_si, Nat.reduceEqDiff, if_true, if_false, if_neg c1]
          exact same a
        · simp only [pi_si, Nat.reduceEqDiff, if_true, if_false]
      · rw [if_neg c2] at fin ⊢
        refine fin _ (fr_si (fr_si (fr_refl _ _ _) (by decide) (by decide) _ _) (by decide) (by decide) _ _) (fun a => ?_) (fun a => ?_) (fun a => ?_)
        · simp only [pi_si, Nat.reduceEqDiff, if_true, if_false]
        · simp only [pi_si, Nat.reduceEqDiff, if_true, if_false, if_neg c1]
          exact same a
        · simp only [pi_si, Nat.reduceEqDiff, if_true, if_false]
/-- the second loop: who would gain -/
theorem lp_58b {d n m x : Nat} {h0 : lm_H} {K : lm_H → Prop} {cu lo : Int32} {W B : Nat → Int32} {p F : Nat → Nat} {z : Int32} (h5 : n ≤ 5) (h6 : m ≤ 6) (hw : wd n m cu lo W) (hx : x < n) (hz : ∀ j, j < n → wm z j = ot x j) (hp : ∀ j, j < n → ¬ j = x → p j < cc B m j)
    (hK : ∀ h', fr [45] [] h0 h' → rU h' n m cu lo W B x (dn B m n x (oH B m n x p) (cc B m x)) → K h') :
    ∀ r i, r + i = cc B m x → ∀ h, fr [45] [] h0 h → lm_Lay h → (∀ i, i < cc B m x → lm_i h 48 i = cG n cu lo W (wA (wm z) B m p F) x (chF B x m i)) → rU h n m cu lo W B x (dn B m n x (oH B m n x p) i) →
      (lm_W (d) 58 184 [some (.ref 31), none, none, some (.int (Int32.ofNat (cc B m x))), some (.int (Int32.ofNat (sd B m n x))), none, some (.int (mb (fun i => cG n cu lo W (wA (wm z) B m p F) x (chF B x m i)) (60 * lo) (cc B m x))), some (.int (Int32.ofNat (at_ B m n p x i))), some (.int (Int32.ofNat i)), none, none, none] [] h (lm_kV K)) := by
  have hcc : cc B m x ≤ 7 := by unfold cc; have := q_ci_le B x m; omega
  have hNN := NN_le (B := B) h5 h6
  intro r
  induction r with
  | zero =>
    intro i hi h hf hl hg hU
    have e : i = cc B m x := by omega
    refine b_58_184 _ _ _ _ _ hl ?_
    rw [if_neg (by rw [q_lt (by omega) (by omega)]; omega)]
    rw [e] at hU
    exact hK h hf hU
  | succ r ih =>
    intro i hi h hf hl hg hU
    have hat := at_lt (B := B) (m := m) (n := n) (p := p) (x := x) (i := i) hp (by omega)
    have hsame : ∀ j, j < n → ¬ j = x → wA (wm z) B m p F j = aI B m n (at_ B m n p x i) j := by
      intro j hj hne
      unfold wA aI
      rw [if_pos (by rw [hz j hj]; simpa [ot] using hne), at_dP hp (by omega) j hj, if_neg hne]
    have hown : aI B m n (at_ B m n p x i) x = chF B x m i := by
      unfold aI
      rw [at_dP hp (by omega) x hx, if_pos rfl]
    have hcg : cG n cu lo W (aI B m n (at_ B m n p x i)) x (aI B m n (at_ B m n p x i) x) = cG n cu lo W (wA (wm z) B m p F) x (chF B x m i) := by
      rw [hown]
      exact (cG_c hsame).symm
    obtain ⟨d1, d2⟩ := dn_at (B := B) (m := m) (n := n) (p := p) hx hp (i := i) (by omega)
    have hUa := hU _ hat
    rw [d1] at hUa
    simp only [Bool.false_eq_true, if_false] at hUa
    have hnext : Int32.ofNat (at_ B m n p x i) + Int32.ofNat (sd B m n x) = Int32.ofNat (at_ B m n p x (i + 1)) := by
      rw [q_add]
      congr 1
      rw [at_sm hx, at_sm hx, Nat.add_mul, Nat.one_mul]
      omega
    have hstep : uS n m cu lo W B (aI B m n (at_ B m n p x i)) (x + 1) = (uS n m cu lo W B (aI B m n (at_ B m n p x i)) x || decide (cG n cu lo W (wA (wm z) B m p F) x (chF B x m i) < mb (fun i => cG n cu lo W (wA (wm z) B m p F) x (chF B x m i)) (60 * lo) (cc B m x))) := by
      rw [uS, hcg, mb_bM hw h5 h6 hx, aF_c hsame]
    refine b_58_184 _ _ _ _ _ hl ?_
    rw [if_pos (by rw [q_lt (by omega) (by omega)]; omega), q_in (a := i) (by omega) (by omega), q_nat (a := i) (by omega), hg i (by omega), hnext, q_a1 i]
    by_cases c : cG n cu lo W (wA (wm z) B m p F) x (chF B x m i) < mb (fun i => cG n cu lo W (wA (wm z) B m p F) x (chF B x m i)) (60 * lo) (cc B m x)
    · rw [if_pos c, q_in (a := at_ B m n p x i) (by omega) (by omega), q_nat (a := at_ B m n p x i) (by omega)]
      refine ih (i + 1) (by omega) _ (fr_si hf (by decide) (by decide) _ _) (lm_Lay_si hl _ _ _) (fun j hj => ?_) (fun a ha => ?_)
      · rw [pi_si, if_neg (by decide)]
        exact hg j hj
      · rw [pi_si, if_pos rfl]
        by_cases e : a = at_ B m n p x i
        · rw [if_pos e, e, d2, if_pos rfl, hstep]
          simp [c]
        · rw [if_neg e, dn_ne hp ha e]
          exact hU a ha
    · rw [if_neg c]
      refine ih (i + 1) (by omega) h hf hl hg (fun a ha => ?_)
      by_cases e : a = at_ B m n p x i
      · rw [e, d2, if_pos rfl, hstep, hUa]
        simp [c]
      · rw [dn_ne hp ha e]
        exact hU a ha
theorem cl_58 {D n m x : Nat} {h : lm_H} {K : lm_H → Prop} {cu lo : Int32} {W B : Nat → Int32} {p F : Nat → Nat} {z : Int32} (hD : 1 ≤ D) (hw : wd n m cu lo W) (hx : x < n) (hz : ∀ j, j < n → wm z j = ot x j) (hp : ∀ j, j < n → ¬ j = x → p j < cc B m j)
    (H : ct h 32 n m cu lo W B) (hk : wk h 38 39 40 n (wm z) B m p F) (hW : rW h cu n x) (hst : lm_i h 42 x = Int32.ofNat (sd B m n x)) (hS : rS h n m cu lo W B x (dn B m n x (oH B m n x p) 0)) (hL : rL h n m cu lo W B x (dn B m n x (oH B m n x p) 0)) (hU : rU h n m cu lo W B x (dn B m n x (oH B m n x p) 0))
    (hK : ∀ h', fr [43, 44, 45, 48] [] h h' → rS h' n m cu lo W B x (dn B m n x (oH B m n x p + 1) 0) → rL h' n m cu lo W B x (dn B m n x (oH B m n x p + 1) 0) → rU h' n m cu lo W B x (dn B m n x (oH B m n x p + 1) 0) → K h') : lm_call D 58 [.ref 31, .int (Int32.ofNat x), .int (Int32.ofNat (at_ B m n p x 0))] h (lm_kV K) := by
  obtain ⟨d, rfl⟩ := q_dp hD
  have h5 := H.2.1
  have h6 := H.2.2.1
  have hcx : lm_i h 36 x = Int32.ofNat (cc B m x) := (H.2.2.2.2.2.2.2.2 x hx).2.2.1
  have hlo : lm_i h 32 3 = lo := H.2.2.2.2.2.2.1
  have hrow : dn B m n x (oH B m n x p) (cc B m x) = dn B m n x (oH B m n x p + 1) 0 := by
    funext a
    exact dn_row
  refine e_58 _ _ H.1 ?_
  simp (disch := omega) only [q_add, q_mul, q_m7, q_m6, q_6m, q_7m, q_a1, q_5m, q_m5, q_71, q_11, q_87, q_41, q_76, q_5a, q_0a, q_a6, q_nat, q_in, q_lt, q_eq, q_lt0, if_true, if_false, hcx, hst, hlo]
  refine lp_58a (h0 := h) (p := p) (F := F) (z := z) h5 h6 hx hz hp (fun h1 hf1 hS1 hL1 hg1 => ?_) (cc B m x) 0 (by omega) h (fr_refl _ _ _) H hk hW hS hL (fun j hj => by omega)
  refine lp_58b (h0 := h1) h5 h6 hw hx hz hp (fun h2 hf2 hU2 => ?_) (cc B m x) 0 (by omega) h1 (fr_refl _ _ _) (fr_Lay hf1 H.1) hg1 (fun a ha => ?_)
  · refine hK h2 (fr_trans (fr_sub hf1 (by decide) (by decide)) (fr_sub hf2 (by decide) (by decide))) (fun a ha => ?_) (fun a ha => ?_) (by rw [← hrow]; exact hU2)
    · rw [fr_i hf2 (by decide) (by decide), ← hrow]
      exact hS1 a ha
    · rw [fr_i hf2 (by decide) (by decide), ← hrow]
      exact hL1 a ha
  · rw [fr_i hf1 (by decide) (by decide)]
    exact hU a ha
