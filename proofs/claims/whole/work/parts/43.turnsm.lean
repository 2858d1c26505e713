/-! By turns: the reference. -/
theorem cl_221 {D n m : Nat} {h : lm_H} {K : Int32 → lm_H → Prop} {cu lo : Int32} {W B : Nat → Int32} {A : Nat → Nat} (hD : 2 ≤ D) (H : rt h n m cu lo W B) (hA : ra h n m A) (hK : K (Int32.ofNat (pk (m + 1) (fun j => tI m (A j)) n)) h) : lm_call D 221 [.ref 92] h (lm_kI K) := by
  obtain ⟨d, rfl⟩ := q_dp hD
  obtain ⟨hl, h5, h6, hn, hm, h1, h2, h3⟩ := H
  refine e_221 hl ?_
  have lp : ∀ r k : Nat, r + k = n → (lm_W (d + 1) 221 4 [some (.ref 92), some (.int (Int32.ofNat (pk (m + 1) (fun j => tI m (A j)) k))), some (.int (Int32.ofNat k))] [] h (lm_kI K)) := by
    intro r
    induction r with
    | zero =>
      intro k hk
      refine b_221_4 _ _ hl ?_
      have : k = n := by omega
      subst this
      simp (disch := omega) only [q_add, q_mul, q_m7, q_m6, q_6m, q_7m, q_a1, q_5m, q_m5, q_71, q_11, q_87, q_41, q_76, q_5a, q_0a, q_a6, q_nat, q_in, q_lt, q_eq, q_lt0, if_true, if_false, hn]
      rw [if_neg (by omega)]
      exact hK
    | succ r ih =>
      intro k hk
      refine b_221_4 _ _ hl ?_
      simp (disch := omega) only [q_add, q_mul, q_m7, q_m6, q_6m, q_7m, q_a1, q_5m, q_m5, q_71, q_11, q_87, q_41, q_76, q_5a, q_0a, q_a6, q_nat, q_in, q_lt, q_eq, q_lt0, if_true, if_false, hn, hm]
      rw [if_pos (by omega), hA k (by omega)]
      simp (disch := omega) only [q_add, q_mul, q_m7, q_m6, q_6m, q_7m, q_a1, q_5m, q_m5, q_71, q_11, q_87, q_41, q_76, q_5a, q_0a, q_a6, q_nat, q_in, q_lt, q_eq, q_lt0, if_true, if_false]
      exact ih (k + 1) (by omega)
  exact lp n 0 (by omega)
theorem cl_232 {D m : Nat} {h : lm_H} {K : Int32 → lm_H → Prop} {P : Nat → Bool} (hD : 2 ≤ D) (hl : lm_Lay h) (h6 : m ≤ 6) (hP : ∃ j, j < m + 1 ∧ P j = true) (hK : K (Int32.ofNat (tI m (q_fi (aQ m P) 6 7))) h) : lm_call D 232 [.int (q_mk P (m + 1))] h (lm_kI K) := by
  obtain ⟨d, rfl⟩ := q_dp hD
  refine e_232 _ hl ?_
  have lp : ∀ r k : Nat, r + k = m + 1 → (∀ i, i < k → P i = false) → (lm_W (d + 1) 232 2 [some (.int (q_mk P (m + 1))), some (.int (Int32.ofNat k))] [] h (lm_kI K)) := by
    intro r
    induction r with
    | zero =>
      intro k hk hf
      exfalso
      obtain ⟨j, hj, hp⟩ := hP
      rw [hf j (by omega)] at hp
      cases hp
    | succ r ih =>
      intro k hk hf
      refine b_232_2 _ _ hl ?_
      by_cases c : P k = true
      · rw [if_pos ((q_bit P (by omega) (by omega)).2 ⟨by omega, c⟩)]
        have e : tI m (q_fi (aQ m P) 6 7) = k := by
          by_cases ck : k = m
          · have : q_fi (aQ m P) 6 7 = 6 := by
              refine q_fi_at (by omega) (fun i hi => ?_) ?_ (Or.inr rfl)
              · unfold aQ
                by_cases ci : i < m
                · rw [if_pos ci]; exact hf i (by omega)
                · rw [if_neg ci, if_neg (by omega)]
              · unfold aQ
                rw [if_neg (by omega), if_pos rfl, ← ck]
                exact c
            rw [this]
            unfold tI
            rw [if_pos rfl, ck]
          · have : q_fi (aQ m P) 6 7 = k := by
              refine q_fi_at (by omega) (fun i hi => ?_) ?_ (Or.inl (by omega))
              · unfold aQ
                rw [if_pos (by omega)]
                exact hf i (by omega)
              · unfold aQ
                rw [if_pos (by omega)]
                exact c
            rw [this]
            unfold tI
            rw [if_neg (by omega)]
        rw [e] at hK
        exact hK
      · rw [if_neg (fun q => c ((q_bit P (by omega) (by omega)).1 q).2)]
        simp (disch := omega) only [q_add, q_mul, q_m7, q_m6, q_6m, q_7m, q_a1, q_5m, q_m5, q_71, q_11, q_87, q_41, q_76, q_5a, q_0a, q_a6, q_nat, q_in, q_lt, q_eq, q_lt0, if_true, if_false]
        refine ih (k + 1) (by omega) (fun i hi => ?_)
        by_cases e : i = k
        · rw [e]; simpa using c
        · exact hf i (by omega)
  exact lp (m + 1) 0 (by omega) (fun i hi => by omega)
/-- one round of the reference: behind it -/
theorem lp_234r {d n m : Nat} {h0 : lm_H} {K : lm_H → Prop} {cu lo : Int32} {W B : Nat → Int32} {A : Nat → Nat} (hD : 4 ≤ d + 1) (h5 : n ≤ 5) (h6 : m ≤ 6) (hw : wd n m cu lo W) (hA : okA n m B A)
    (hK : ∀ h', fr [107] [] h0 h' → rt h' n m cu lo W B → ra h' n m (tR n m cu lo W B A n) → (lm_W (d + 1) 234 70 [some (.ref 92), some (.int (if tC n m cu lo W B A n then 1 else 0)), some (.int (Int32.ofNat n)), none] [] h' (lm_kV K))) : ∀ r k, r + k = n → ∀ h, fr [107] [] h0 h → rt h n m cu lo W B → ra h n m (tR n m cu lo W B A k) → (lm_W (d + 1) 234 70 [some (.ref 92), some (.int (if tC n m cu lo W B A k then 1 else 0)), some (.int (Int32.ofNat k)), none] [] h (lm_kV K)) := by
  intro r
  induction r with
  | zero =>
    intro k hk h hf H ha
    have : k = n := by omega
    subst this
    exact hK h hf H ha
  | succ r ih =>
    intro k hk h hf H ha
    refine b_234_70 _ _ H.1 ?_
    have hn := H.2.2.2.1
    have hok := tR_ok (cu := cu) (lo := lo) hw h5 h6 hA k (by omega)
    have hga := okA_g hok
    have hgk := hga k (by omega)
    simp (disch := omega) only [q_add, q_mul, q_m7, q_m6, q_6m, q_7m, q_a1, q_5m, q_m5, q_71, q_11, q_87, q_41, q_76, q_5a, q_0a, q_a6, q_nat, q_in, q_lt, q_eq, q_lt0, if_true, if_false, hn]
    rw [if_pos (by omega)]
    refine cl_231 (by omega) H ha hga hw.1 (by omega) ?_
    rw [show lm_i h 107 k = Int32.ofNat (tI m (tR n m cu lo W B A k k)) from ha k (by omega)]
    have hi := ih (k + 1) (by omega)
    have hlt : tI m (tR n m cu lo W B A k k) ≤ m := by unfold tI; split <;> omega
    have hb := q_bit (aP n m cu lo W B (tR n m cu lo W B A k) k) (n := m + 1) (j := tI m (tR n m cu lo W B A k k)) (by omega) (by omega)
    by_cases c : aP n m cu lo W B (tR n m cu lo W B A k) k (tI m (tR n m cu lo W B A k k)) = true
    · rw [if_pos (hb.2 ⟨by omega, c⟩)]
      rw [tC, if_pos c, tR, if_pos c] at hi
      exact hi h hf H ha
    · rw [if_neg (fun q => c (hb.1 q).2)]
      rw [tC, if_neg c, tR, if_neg c] at hi
      refine cl_232 (by omega) H.1 h6 (aP_ex hw h5 (by omega)) ?_
      refine hi _ (fr_si hf (by decide) (by decide) _ _) (rt_si H (by decide) _ _) ?_
      intro j hj
      simp only
      rw [pi_si, if_pos rfl]
      by_cases e : j = k
      · rw [if_pos e, if_pos e]
        rfl
      · rw [if_neg e, if_neg e]
        exact ha j hj
/-- the reference's row of those that were -/
def bn (n m : Nat) (h : lm_H) (V : Nat → Bool) : Prop := ∀ A, gA n m A → (lm_i h 109 (pk (m + 1) (fun j => tI m (A j)) n) = 0 ↔ V (pk 7 A n) = false)
theorem bn_set {n m : Nat} {h : lm_H} {V : Nat → Bool} (h6 : m ≤ 6) (H : bn n m h V) {A : Nat → Nat} (hA : gA n m A) : bn n m (lm_si h 109 (pk (m + 1) (fun j => tI m (A j)) n) 1) (fun j => decide (j = pk 7 A n) || V j) := by
  intro A' hA'
  rw [pi_si, if_pos rfl]
  have hs := pk_same h6 hA' hA
  by_cases c : pk (m + 1) (fun j => tI m (A' j)) n = pk (m + 1) (fun j => tI m (A j)) n
  · rw [if_pos c]
    have := hs.1 c
    simp [this]
  · rw [if_neg c]
    have : ¬ pk 7 A' n = pk 7 A n := fun q => c (hs.2 q)
    simp only [this, decide_false, Bool.false_or]
    exact H A' hA'
theorem lp_234 {d n m : Nat} {h0 : lm_H} {K : lm_H → Prop} {cu lo : Int32} {W B : Nat → Int32} {X : Nat × Bool × (Nat → Nat)} (hD : 4 ≤ d + 1) (h5 : n ≤ 5) (h6 : m ≤ 6) (hw : wd n m cu lo W)
    (hK : ∀ h', fr [107, 109] [41, 42] h0 h' → rt h' n m cu lo W B → ra h' n m X.2.2 → okA n m B X.2.2 → lm_i h' 92 41 = Int32.ofNat X.1 → lm_i h' 92 42 = (if X.2.1 then 0 else 1) → K h') : ∀ f V A r h, tV V < f → okA n m B A → X = tL n m cu lo W B f V A r → fr [107, 109] [41, 42] h0 h → rt h n m cu lo W B → ra h n m A → bn n m h V → lm_i h 92 41 = Int32.ofNat r → (lm_W (d + 1) 234 52 [some (.ref 92), some (.int 1), none, none] [] h (lm_kV K)) := by
  intro f
  induction f with
  | zero => intro V A r h q; omega
  | succ f ih =>
    intro V A r h hV hA hX hf H ha hb hr
    refine b_234_52 _ H.1 ?_
    rw [if_neg (by decide), hr]
    simp (disch := omega) only [q_add, q_mul, q_m7, q_m6, q_6m, q_7m, q_a1, q_5m, q_m5, q_71, q_11, q_87, q_41, q_76, q_5a, q_0a, q_a6, q_nat, q_in, q_lt, q_eq, q_lt0, if_true, if_false]
    refine lp_234r (h0 := lm_si h 92 41 (Int32.ofNat (r + 1))) hD h5 h6 hw hA (fun h1 hf1 H1 ha1 => ?_) n 0 (by omega) _ (fr_refl _ _ _) (rt_si H (by decide) _ _) (fun j hj => by rw [pi_si, if_neg (by decide)]; exact ha j hj)
    have hf1' : fr [107, 109] [41, 42] h0 h1 := fr_trans (fr_s92 hf (by decide) _) (fr_sub hf1 (by decide) (by decide))
    have ok1 := tR_ok (cu := cu) (lo := lo) hw h5 h6 hA n (Nat.le_refl n)
    have hg1 := okA_g ok1
    have hp7 : pk 7 (tR n m cu lo W B A n) n < 16807 := pk_7 h5 (by omega) (by omega) (fun j hj => by have := hg1 j hj; omega)
    have hpN : pk (m + 1) (fun j => tI m (tR n m cu lo W B A n j)) n < 16807 := pk_7 h5 (by omega) (by omega) (fun j hj => by have := hg1 j hj; unfold tI; split <;> omega)
    have h41 : lm_i h1 92 41 = Int32.ofNat (r + 1) := by
      rw [fr_m hf1 (by decide), pi_si]
      rfl
    have hb1 : bn n m h1 V := by
      intro A' hA'
      rw [fr_i hf1 (by decide) (by decide)]
      exact hb A' hA'
    refine b_234_70 _ _ H1.1 ?_
    have hn := H1.2.2.2.1
    simp (disch := omega) only [q_add, q_mul, q_m7, q_m6, q_6m, q_7m, q_a1, q_5m, q_m5, q_71, q_11, q_87, q_41, q_76, q_5a, q_0a, q_a6, q_nat, q_in, q_lt, q_eq, q_lt0, if_true, if_false, hn]
    rw [if_neg (by omega)]
    rw [tL] at hX
    by_cases c : tC n m cu lo W B A n = false
    · rw [if_pos c] at hX
      subst hX
      rw [c, if_pos (by decide)]
      refine cl_221 (by omega) (rt_si H1 (by decide) _ _) (A := tR n m cu lo W B A n) (fun j hj => by rw [pi_si, if_neg (by decide)]; exact ha1 j hj) ?_
      simp (disch := omega) only [q_add, q_mul, q_m7, q_m6, q_6m, q_7m, q_a1, q_5m, q_m5, q_71, q_11, q_87, q_41, q_76, q_5a, q_0a, q_a6, q_nat, q_in, q_lt, q_eq, q_lt0, if_true, if_false]
      rw [if_pos (by decide)]
      refine b_234_52 _ (lm_Lay_si (lm_Lay_si H1.1 _ _ _) _ _ _) ?_
      rw [if_pos rfl]
      refine hK _ (fr_si (fr_s92 hf1' (by decide) _) (by decide) (by decide) _ _) (rt_si (rt_si H1 (by decide) _ _) (by decide) _ _) (fun j hj => ?_) ok1 ?_ rfl
      · rw [pi_si, if_neg (by decide), pi_si, if_neg (by decide)]
        exact ha1 j hj
      · rw [pi_si, if_neg (by decide), pi_si, if_pos rfl, if_neg (by decide)]
        exact h41
    · rw [if_neg c] at hX
      have ct' : tC n m cu lo W B A n = true := by
        cases q : tC n m cu lo W B A n with
        | true => rfl
        | false => exact absurd q c
      rw [ct', if_pos rfl, if_neg (by decide)]
      refine cl_221 (by omega) H1 ha1 ?_
      simp (disch := omega) only [q_add, q_mul, q_m7, q_m6, q_6m, q_7m, q_a1, q_5m, q_m5, q_71, q_11, q_87, q_41, q_76, q_5a, q_0a, q_a6, q_nat, q_in, q_lt, q_eq, q_lt0, if_true, if_false]
      have hbb := hb1 _ hg1
      have hset := bn_set h6 hb1 hg1
      by_cases cv : V (pk 7 (tR n m cu lo W B A n) n) = true
      · rw [if_pos cv] at hX
        subst hX
        rw [if_neg (fun q => by rw [hbb.1 q] at cv; cases cv)]
        refine cl_221 (by omega) (rt_si H1 (by decide) _ _) (A := tR n m cu lo W B A n) (fun j hj => by rw [pi_si, if_neg (by decide)]; exact ha1 j hj) ?_
        simp (disch := omega) only [q_add, q_mul, q_m7, q_m6, q_6m, q_7m, q_a1, q_5m, q_m5, q_71, q_11, q_87, q_41, q_76, q_5a, q_0a, q_a6, q_nat, q_in, q_lt, q_eq, q_lt0, if_true, if_false]
        rw [if_neg (by decide), if_neg (by rw [show lm_i (lm_si h1 92 42 1) 92 42 = 1 from rfl]; decide)]
        refine b_234_52 _ (lm_Lay_si (lm_Lay_si H1.1 _ _ _) _ _ _) ?_
        rw [if_pos rfl]
        refine hK _ (fr_si (fr_s92 hf1' (by decide) _) (by decide) (by decide) _ _) (rt_si (rt_si H1 (by decide) _ _) (by decide) _ _) (fun j hj => ?_) ok1 ?_ rfl
        · rw [pi_si, if_neg (by decide), pi_si, if_neg (by decide)]
          exact ha1 j hj
        · rw [pi_si, if_neg (by decide), pi_si, if_pos rfl, if_neg (by decide)]
          exact h41
      · rw [if_neg cv] at hX
        rw [if_pos (hbb.2 (by simpa using cv))]
        refine cl_221 (by omega) (rt_si H1 (by decide) _ _) (A := tR n m cu lo W B A n) (fun j hj => by rw [pi_si, if_neg (by decide)]; exact ha1 j hj) ?_
        simp (disch := omega) only [q_add, q_mul, q_m7, q_m6, q_6m, q_7m, q_a1, q_5m, q_m5, q_71, q_11, q_87, q_41, q_76, q_5a, q_0a, q_a6, q_nat, q_in, q_lt, q_eq, q_lt0, if_true, if_false]
        rw [if_neg (by decide), if_pos (show lm_i (lm_si h1 92 42 0) 92 42 = 0 from rfl)]
        have hv := tV_one (V := V) (c := pk 7 (tR n m cu lo W B A n) n) (by simpa using cv) hp7
        refine ih _ _ (r + 1) _ (by omega) ok1 hX (fr_si (fr_s92 hf1' (by decide) _) (by decide) (by decide) _ _) (rt_si (rt_si H1 (by decide) _ _) (by decide) _ _) (fun j hj => ?_) ?_ ?_
        · rw [pi_si, if_neg (by decide), pi_si, if_neg (by decide)]
          exact ha1 j hj
        · intro A' hA'
          have := hset A' hA'
          rw [pi_si, if_pos rfl] at this ⊢
          exact this
        · rw [pi_si, if_neg (by decide), pi_si, if_pos rfl, if_neg (by decide)]
          exact h41
/-- behind looks and laysTold -/
theorem lp_234z {d n m : Nat} {h0 : lm_H} {K : lm_H → Prop} {cu lo : Int32} {W B : Nat → Int32} {A : Nat → Nat} (hD : 4 ≤ d + 1) (hw : wd n m cu lo W) (hA : okA n m B A) (H0 : rt h0 n m cu lo W B) (ha0 : ra h0 n m A)
    (hK : ∀ h', fr [107, 109] [41, 42] h0 h' → rt h' n m cu lo W B → ra h' n m (tL n m cu lo W B 16808 (tV0 A n) A 0).2.2 → okA n m B (tL n m cu lo W B 16808 (tV0 A n) A 0).2.2 → lm_i h' 92 41 = Int32.ofNat (tL n m cu lo W B 16808 (tV0 A n) A 0).1 → lm_i h' 92 42 = (if (tL n m cu lo W B 16808 (tV0 A n) A 0).2.1 then 0 else 1) → K h') : ∀ r k : Nat, r + k = 16807 → (lm_W (d + 1) 234 10 [some (.ref 92), some (.int (Int32.ofNat k)), none, none] [] (lm_row h0 109 (fun j => if j < k then 0 else lm_i h0 109 j)) (lm_kV K)) := by
  have h5 := H0.2.1
  have h6 := H0.2.2.1
  have hg := okA_g hA
  have e7 : (16807 : Int32) = Int32.ofNat 16807 := rfl
  have hf : ∀ f, fr [107, 109] [41, 42] h0 (lm_row h0 109 f) := fun f => fr_row (fr_refl _ _ _) (by decide) (by decide) f
  intro r
  induction r with
  | zero =>
    intro k hk
    have : k = 16807 := by omega
    subst this
    have H1 := rt_fr (hf (fun j => if j < 16807 then 0 else lm_i h0 109 j)) H0 (by decide)
    refine b_234_10 _ (lm_Lay_row H0.1 _ _) ?_
    rw [e7]
    simp (disch := omega) only [q_add, q_mul, q_m7, q_m6, q_6m, q_7m, q_a1, q_5m, q_m5, q_71, q_11, q_87, q_41, q_76, q_5a, q_0a, q_a6, q_nat, q_in, q_lt, q_eq, q_lt0, if_true, if_false]
    rw [if_neg (by omega)]
    have ha1 : ra (lm_row h0 109 (fun j => if j < 16807 then 0 else lm_i h0 109 j)) n m A := fun j hj => by rw [pi_row, if_neg (by decide)]; exact ha0 j hj
    refine cl_221 (by omega) H1 ha1 ?_
    have hpN : pk (m + 1) (fun j => tI m (A j)) n < 16807 := pk_7 h5 (by omega) (by omega) (fun j hj => by have := hg j hj; unfold tI; split <;> omega)
    have hp7 : pk 7 A n < 16807 := pk_7 h5 (by omega) (by omega) (fun j hj => by have := hg j hj; omega)
    simp (disch := omega) only [q_add, q_mul, q_m7, q_m6, q_6m, q_7m, q_a1, q_5m, q_m5, q_71, q_11, q_87, q_41, q_76, q_5a, q_0a, q_a6, q_nat, q_in, q_lt, q_eq, q_lt0, if_true, if_false]
    have hz : bn n m (lm_row h0 109 (fun j => if j < 16807 then 0 else lm_i h0 109 j)) (fun _ => false) := by
      intro A' hA'
      have : pk (m + 1) (fun j => tI m (A' j)) n < 16807 := pk_7 h5 (by omega) (by omega) (fun j hj => by have := hA' j hj; unfold tI; split <;> omega)
      rw [pi_row, if_pos rfl, if_pos this]
      simp
    have hset := bn_set h6 hz hg
    have hv := tV_one (V := fun _ => false) (c := pk 7 A n) rfl hp7
    have hv2 : tV (fun _ => false) ≤ 16807 := q_cn_le _ _
    refine lp_234 (X := tL n m cu lo W B 16808 (tV0 A n) A 0) hD h5 h6 hw hK 16808 (tV0 A n) A 0 _ ?_ hA rfl (fr_s92 (fr_s92 (fr_si (hf _) (by decide) (by decide) _ _) (by decide) _) (by decide) _) (rt_si (rt_si (rt_si H1 (by decide) _ _) (by decide) _ _) (by decide) _ _) ?_ ?_ rfl
    · unfold tV0
      omega
    · intro j hj
      rw [pi_si, if_neg (by decide), pi_si, if_neg (by decide), pi_si, if_neg (by decide)]
      exact ha1 j hj
    · intro A' hA'
      rw [pi_si, if_neg (by decide), pi_si, if_neg (by decide)]
      exact hset A' hA'
  | succ r ih =>
    intro k hk
    refine b_234_10 _ (lm_Lay_row H0.1 _ _) ?_
    rw [e7]
    simp (disch := omega) only [q_add, q_mul, q_m7, q_m6, q_6m, q_7m, q_a1, q_5m, q_m5, q_71, q_11, q_87, q_41, q_76, q_5a, q_0a, q_a6, q_nat, q_in, q_lt, q_eq, q_lt0, if_true, if_false]
    rw [if_pos (by omega), q_rowS]
    have e : (fun j => if j = k then (0 : Int32) else if j < k then 0 else lm_i h0 109 j) = fun j => if j < k + 1 then 0 else lm_i h0 109 j := by
      funext j
      by_cases c : j = k
      · rw [if_pos c, if_pos (by omega)]
      · rw [if_neg c]
        by_cases c2 : j < k
        · rw [if_pos c2, if_pos (by omega)]
        · rw [if_neg c2, if_neg (by omega)]
    rw [e]
    exact ih (k + 1) (by omega)
theorem cl_234b {d n m : Nat} {h : lm_H} {K : lm_H → Prop} {cu lo : Int32} {W B : Nat → Int32} {A : Nat → Nat} (hD : 4 ≤ d + 1) (H : rt h n m cu lo W B) (hw : wd n m cu lo W) (hA : okA n m B A) (ha : ra h n m A)
    (hK : ∀ h', fr [107, 109] [41, 42] h h' → rt h' n m cu lo W B → ra h' n m (tL n m cu lo W B 16808 (tV0 A n) A 0).2.2 → okA n m B (tL n m cu lo W B 16808 (tV0 A n) A 0).2.2 → lm_i h' 92 41 = Int32.ofNat (tL n m cu lo W B 16808 (tV0 A n) A 0).1 → lm_i h' 92 42 = (if (tL n m cu lo W B 16808 (tV0 A n) A 0).2.1 then 0 else 1) → K h') : (lm_W (d + 1) 234 10 [some (.ref 92), some (.int 0), none, none] [] h (lm_kV K)) := by
  have := lp_234z hD hw hA H ha hK 16807 0 (by omega)
  have e : (fun j => if j < 0 then (0 : Int32) else lm_i h 109 j) = lm_i h 109 := by
    funext j
    rw [if_neg (by omega)]
  rw [e, q_rowI] at this
  exact this
