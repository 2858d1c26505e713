/-! By turns: the class. -/
theorem ct_fr {S T : List Nat} {h h' : lm_H} {c n m : Nat} {cu lo : Int32} {W B : Nat → Int32} (a : fr S T h h') (H : ct h c n m cu lo W B) (h0 : S.contains c = false ∧ S.contains (c + 1) = false ∧ S.contains (c + 2) = false ∧ S.contains (c + 3) = false ∧ S.contains (c + 4) = false ∧ c + 4 < 92) : ct h' c n m cu lo W B :=
  ct_of H (fr_Lay a H.1) (fr_i a h0.1 (by omega)) (fr_i a h0.2.1 (by omega)) (fr_i a h0.2.2.1 (by omega)) (fr_i a h0.2.2.2.1 (by omega)) (fr_i a h0.2.2.2.2.1 (by omega))
theorem rt_fr {S T : List Nat} {h h' : lm_H} {n m : Nat} {cu lo : Int32} {W B : Nat → Int32} (a : fr S T h h') (H : rt h n m cu lo W B) (h0 : S.contains 94 = false ∧ S.contains 104 = false ∧ S.contains 105 = false) : rt h' n m cu lo W B := by
  obtain ⟨h1, h2, h3, h4, h5, h6, h7, h8⟩ := H
  refine ⟨fr_Lay a h1, h2, h3, ?_, ?_, ?_, ?_, fun j hj g hg => ?_⟩
  · rw [fr_i a h0.1 (by decide)]; exact h4
  · rw [fr_i a h0.1 (by decide)]; exact h5
  · rw [fr_i a h0.1 (by decide)]; exact h6
  · rw [fr_i a h0.1 (by decide)]; exact h7
  · rw [fr_i a h0.2.1 (by decide), fr_i a h0.2.2 (by decide)]; exact h8 j hj g hg
theorem q_b1or (b : Int32) (hb : b = 0 ∨ b = 1) : vp_nar .boolean b = b := by
  rcases hb with h | h <;> rw [h] <;> decide
theorem bC_lw {n m k : Nat} {cu lo : Int32} {W B : Nat → Int32} {A : Nat → Nat} (h6 : m ≤ 6) : q_lw (aX m (aP n m cu lo W B A k)) = Int32.ofNat (bC n m cu lo W B A k) := by
  rw [aX_mk h6, q_lw_mk _ (by omega)]
  rfl
theorem lp_77 {d n m : Nat} {h0 : lm_H} {K : Int32 → lm_H → Prop} {cu lo : Int32} {W B : Nat → Int32} {A : Nat → Nat} (hD : 6 ≤ d) (h5 : n ≤ 5) (h6 : m ≤ 6) (hw : wd n m cu lo W) (hA : okA n m B A)
    (hK : ∀ h', fr [50] [] h0 h' → ca h' 50 n (tR n m cu lo W B A n) → K (if tC n m cu lo W B A n then 1 else 0) h') : ∀ r k, r + k = n → ∀ h, fr [50] [] h0 h → ct h 21 n m cu lo W B → ca h 50 n (tR n m cu lo W B A k) → (lm_W (d) 77 4 [some (.ref 49), some (.ref 21), some (.int (if tC n m cu lo W B A k then 1 else 0)), some (.int (Int32.ofNat k)), none] [] h (lm_kI K)) := by
  intro r
  induction r with
  | zero =>
    intro k hk h hf H ha
    refine b_77_4 _ _ H.1 ?_
    have hn := H.2.2.2.1
    have : k = n := by omega
    subst this
    simp (disch := omega) only [q_add, q_mul, q_m7, q_m6, q_6m, q_7m, q_a1, q_5m, q_m5, q_71, q_11, q_87, q_41, q_76, q_5a, q_0a, q_a6, q_nat, q_in, q_lt, q_eq, q_lt0, if_true, if_false, hn]
    rw [if_neg (by omega)]
    refine ⟨q_b1or _ ?_, hK h hf ha⟩
    split
    · exact Or.inr rfl
    · exact Or.inl rfl
  | succ r ih =>
    intro k hk h hf H ha
    refine b_77_4 _ _ H.1 ?_
    have hn := H.2.2.2.1
    have hok := tR_ok hw h5 h6 hA k (by omega)
    have hga := okA_g hok
    have hgk := hga k (by omega)
    have hbc := bC_p (B := B) (A := tR n m cu lo W B A k) hw h5 h6 (k := k) (by omega)
    simp (disch := omega) only [q_add, q_mul, q_m7, q_m6, q_6m, q_7m, q_a1, q_5m, q_m5, q_71, q_11, q_87, q_41, q_76, q_5a, q_0a, q_a6, q_nat, q_in, q_lt, q_eq, q_lt0, if_true, if_false, hn]
    rw [if_pos (by omega)]
    refine cl_72t (by omega) H hw ha hga (by omega) ?_
    refine cl_150 (by omega) H.1 _ ?_
    rw [bC_lw h6]
    refine cm_71t (by omega) H ha hga (by omega) hbc.2 ?_
    rw [ha k (by omega)]
    refine cm_71t (by omega) H ha hga (by omega) hgk ?_
    have hi := ih (k + 1) (by omega)
    by_cases c : aP n m cu lo W B (tR n m cu lo W B A k) k (tI m (tR n m cu lo W B A k k)) = true
    · rw [if_neg (fun q => (aP_gain hw h5 h6 (by omega) hok).1 q c)]
      rw [tC, if_pos c, tR, if_pos c] at hi
      exact hi h hf H ha
    · rw [if_pos ((aP_gain hw h5 h6 (by omega) hok).2 c)]
      rw [tC, if_neg c, tR, if_neg c] at hi
      refine hi _ (fr_si hf (by decide) (by decide) _ _) (ct_si H (by omega) _ _) ?_
      intro j hj
      simp only
      rw [pi_si, if_pos rfl]
      by_cases e : j = k
      · rw [if_pos e, if_pos e]
      · rw [if_neg e, if_neg e]
        exact ha j hj
theorem cl_77 {D n m : Nat} {h : lm_H} {K : Int32 → lm_H → Prop} {cu lo : Int32} {W B : Nat → Int32} {A : Nat → Nat} (hD : 7 ≤ D) (H : ct h 21 n m cu lo W B) (hw : wd n m cu lo W) (hA : okA n m B A) (ha : ca h 50 n A)
    (hK : ∀ h', fr [50] [] h h' → ca h' 50 n (tR n m cu lo W B A n) → K (if tC n m cu lo W B A n then 1 else 0) h') : lm_call D 77 [.ref 49, .ref 21] h (lm_kI K) := by
  obtain ⟨d, rfl⟩ := q_dp hD
  exact e_77 H.1 (lp_77 (by omega) H.2.1 H.2.2.1 hw hA hK n 0 (by omega) h (fr_refl _ _ _) H ha)
theorem cl_151 {D n : Nat} {h : lm_H} {K : Int32 → lm_H → Prop} {A : Nat → Nat} (hD : 1 ≤ D) (hl : lm_Lay h) (h5 : n ≤ 5) (ha : ca h 50 n A) (hK : K (Int32.ofNat (pk 7 A n)) h) : lm_call D 151 [.ref 50, .int (Int32.ofNat n)] h (lm_kI K) := by
  obtain ⟨d, rfl⟩ := q_dp hD
  refine e_151 _ hl ?_
  have lp : ∀ r k : Nat, r + k = n → (lm_W (d) 151 4 [some (.ref 50), some (.int (Int32.ofNat n)), some (.int (Int32.ofNat (pk 7 A k))), some (.int (Int32.ofNat k))] [] h (lm_kI K)) := by
    intro r
    induction r with
    | zero =>
      intro k hk
      refine b_151_4 _ _ _ hl ?_
      have : k = n := by omega
      subst this
      simp (disch := omega) only [q_add, q_mul, q_m7, q_m6, q_6m, q_7m, q_a1, q_5m, q_m5, q_71, q_11, q_87, q_41, q_76, q_5a, q_0a, q_a6, q_nat, q_in, q_lt, q_eq, q_lt0, if_true, if_false]
      rw [if_neg (by omega)]
      exact hK
    | succ r ih =>
      intro k hk
      refine b_151_4 _ _ _ hl ?_
      simp (disch := omega) only [q_add, q_mul, q_m7, q_m6, q_6m, q_7m, q_a1, q_5m, q_m5, q_71, q_11, q_87, q_41, q_76, q_5a, q_0a, q_a6, q_nat, q_in, q_lt, q_eq, q_lt0, if_true, if_false]
      rw [if_pos (by omega), ha k (by omega)]
      simp (disch := omega) only [q_add, q_mul, q_m7, q_m6, q_6m, q_7m, q_a1, q_5m, q_m5, q_71, q_11, q_87, q_41, q_76, q_5a, q_0a, q_a6, q_nat, q_in, q_lt, q_eq, q_lt0, if_true, if_false]
      exact ih (k + 1) (by omega)
  exact lp n 0 (by omega)
theorem q_sh6 {c : Nat} (hc : c < 16832) : Int32.ofNat c >>> ((6 : Int32) &&& 31) = Int32.ofNat (c / 64) ∧ (Int32.ofNat c &&& 63).toInt64 &&& 63 = Int64.ofNat (c % 64) := by
  have := q_sh_all (c / 64) (by omega) (c % 64) (by omega)
  rwa [Nat.div_add_mod] at this
theorem q_orand (w a b : Int64) : (w ||| a) &&& b = (w &&& b) ||| (a &&& b) := by
  apply Int64.toBitVec_inj.1
  simp only [Int64.toBitVec_or, Int64.toBitVec_and]
  ext i hi
  simp [Bool.and_or_distrib_right]
/-- a row of bits -/
def bw (w : Nat → Int64) (V : Nat → Bool) : Prop := ∀ c, c < 16807 → (V c = true ↔ ¬ w (c / 64) &&& ((1 : Int64) <<< Int64.ofNat (c % 64)) = 0)
theorem bw_set {w : Nat → Int64} {V : Nat → Bool} (H : bw w V) {c : Nat} (hc : c < 16807) : bw (fun j => if j = c / 64 then w (c / 64) ||| ((1 : Int64) <<< Int64.ofNat (c % 64)) else w j) (fun j => decide (j = c) || V j) := by
  intro e he
  have hb := q_bit64 (c % 64) (by omega) (e % 64) (by omega)
  have hb2 := q_bit64 (e % 64) (by omega) (e % 64) (by omega)
  have h0 := H e he
  by_cases ew : e / 64 = c / 64
  · simp only [ew, if_true]
    rw [q_orand, hb.1]
    by_cases eb : c % 64 = e % 64
    · have : e = c := by omega
      subst this
      rw [if_pos rfl]
      constructor
      · intro _ q
        have q2 : ((w (e / 64) &&& ((1 : Int64) <<< Int64.ofNat (e % 64))) ||| ((1 : Int64) <<< Int64.ofNat (e % 64))) &&& ((1 : Int64) <<< Int64.ofNat (e % 64)) = 0 := by rw [q, Int64.zero_and]
        rw [q_orand, Int64.and_assoc, Int64.and_self, q] at q2
        have q3 := hb2.2
        have q4 : (w (e / 64) &&& ((1 : Int64) <<< Int64.ofNat (e % 64))) ||| ((1 : Int64) <<< Int64.ofNat (e % 64)) = 0 := q
        have q5 : ((1 : Int64) <<< Int64.ofNat (e % 64)) &&& ((w (e / 64) &&& ((1 : Int64) <<< Int64.ofNat (e % 64))) ||| ((1 : Int64) <<< Int64.ofNat (e % 64))) = ((1 : Int64) <<< Int64.ofNat (e % 64)) := by
          rw [Int64.and_comm, q_orand, Int64.and_self]
          apply Int64.toBitVec_inj.1
          simp only [Int64.toBitVec_or, Int64.toBitVec_and]
          ext i hi
          simp
        rw [q4, Int64.and_zero] at q5
        exact q3 q5.symm
      · intro _
        simp
    · have : ¬ e = c := by intro q; rw [q] at eb; exact eb rfl
      rw [if_neg eb, Int64.or_zero]
      simp only [this, decide_false, Bool.false_or]
      rw [h0, ew]
  · have : ¬ e = c := by intro q; rw [q] at ew; exact ew rfl
    simp only [ew, if_false, this, decide_false, Bool.false_or]
    exact h0
theorem cl_78 {D c : Nat} {h : lm_H} {K : Int32 → lm_H → Prop} {V : Nat → Bool} (hD : 1 ≤ D) (hl : lm_Lay h) (hc : c < 16807) (hb : bw (lm_l h 51) V)
    (hK : ∀ w, bw w (fun j => decide (j = c) || V j) → K (if V c then 0 else 1) (q_lr h 51 w)) : lm_call D 78 [.ref 49, .int (Int32.ofNat c)] h (lm_kI K) := by
  obtain ⟨d, rfl⟩ := q_dp hD
  refine e_78 _ hl ?_
  obtain ⟨e1, e2⟩ := q_sh6 (c := c) (by omega)
  rw [e1, e2]
  have e263 : (263 : Int32) = Int32.ofNat 263 := rfl
  rw [e263]
  simp (disch := omega) only [q_add, q_mul, q_m7, q_m6, q_6m, q_7m, q_a1, q_5m, q_m5, q_71, q_11, q_87, q_41, q_76, q_5a, q_0a, q_a6, q_nat, q_in, q_lt, q_eq, q_lt0, if_true, if_false]
  rw [if_pos (by omega)]
  have hV := hb c hc
  have hk := hK _ (bw_set hb hc)
  have ew : lm_sl h 51 (c / 64) (lm_l h 51 (c / 64) ||| ((1 : Int64) <<< Int64.ofNat (c % 64))) = q_lr h 51 (fun j => if j = c / 64 then lm_l h 51 (c / 64) ||| ((1 : Int64) <<< Int64.ofNat (c % 64)) else lm_l h 51 j) := by
    conv => lhs; rw [← q_lrI h 51]
    rw [q_lrS]
    rfl
  rw [ew]
  by_cases cv : V c = true
  · rw [if_pos cv] at hk
    rw [if_neg (by rw [lg_cmp_eq]; exact hV.1 cv)]
    exact hk
  · rw [if_neg cv] at hk
    rw [if_pos (by rw [lg_cmp_eq]; exact Decidable.not_not.1 (fun q => cv (hV.2 q)))]
    exact hk
theorem lp_76 {d n m : Nat} {h0 : lm_H} {K : lm_H → Prop} {cu lo : Int32} {W B : Nat → Int32} {X : Nat × Bool × (Nat → Nat)} (hD : 7 ≤ d) (h5 : n ≤ 5) (h6 : m ≤ 6) (hw : wd n m cu lo W)
    (hK : ∀ h', fr [49, 50, 51] [] h0 h' → ca h' 50 n X.2.2 → lm_i h' 49 2 = Int32.ofNat X.1 → lm_i h' 49 3 = (if X.2.1 then 1 else 0) → K h') : ∀ f V A r h, r + f = 16808 → tV V < f → okA n m B A → X = tL n m cu lo W B f V A r → fr [49, 50, 51] [] h0 h → ct h 21 n m cu lo W B → ca h 50 n A → bw (lm_l h 51) V → (lm_W (d) 76 45 [some (.ref 49), some (.ref 21), none, some (.int 1), some (.int (Int32.ofNat (r + 1)))] [] h (lm_kV K)) := by
  intro f
  induction f with
  | zero => intro V A r h _ q; omega
  | succ f ih =>
    intro V A r h hr hV hA hX hf H ha hb
    have e8 : (16808 : Int32) = Int32.ofNat 16808 := rfl
    refine b_76_45 _ _ H.1 ?_
    rw [if_neg (by decide), e8]
    simp (disch := omega) only [q_add, q_mul, q_m7, q_m6, q_6m, q_7m, q_a1, q_5m, q_m5, q_71, q_11, q_87, q_41, q_76, q_5a, q_0a, q_a6, q_nat, q_in, q_lt, q_eq, q_lt0, if_true, if_false]
    rw [if_neg (by omega)]
    refine cl_77 (by omega) (ct_si H (by omega) _ _) hw hA (fun j hj => ?_) (fun h1 hf1 ha1 => ?_)
    · rw [pi_si, if_neg (by omega)]
      exact ha j hj
    have hf1' : fr [49, 50, 51] [] h0 h1 := fr_trans (fr_si hf (by decide) (by decide) _ _) (fr_sub hf1 (by decide) (by decide))
    have H1 : ct h1 21 n m cu lo W B := ct_fr hf1 (ct_si H (by omega) _ _) (by decide)
    have hl1 := H1.1
    have h42 : lm_i h1 49 2 = Int32.ofNat (r + 1) := by
      rw [fr_i hf1 (by decide) (by decide), pi_si]
      rfl
    have hb1 : bw (lm_l h1 51) V := by
      rw [fr_l hf1 (by decide) (by decide)]
      exact hb
    rw [tL] at hX
    by_cases c : tC n m cu lo W B A n = false
    · rw [if_pos c] at hX
      subst hX
      rw [c, if_pos (by decide)]
      refine b_76_45 _ _ (lm_Lay_si hl1 _ _ _) ?_
      rw [if_pos rfl]
      refine hK _ (fr_si hf1' (by decide) (by decide) _ _) (fun j hj => ?_) ?_ rfl
      · rw [pi_si, if_neg (by decide)]
        exact ha1 j hj
      · rw [pi_si]
        exact h42
    · rw [if_neg c] at hX
      have ct' : tC n m cu lo W B A n = true := by
        cases q : tC n m cu lo W B A n with
        | true => rfl
        | false => exact absurd q c
      rw [ct', if_pos rfl, if_neg (by decide), H1.2.2.2.1]
      have ok1 := tR_ok (cu := cu) (lo := lo) hw h5 h6 hA n (Nat.le_refl n)
      have hg1 := okA_g ok1
      have hp : pk 7 (tR n m cu lo W B A n) n < 16807 := pk_7 h5 (by omega) (by omega) (fun j hj => by have := hg1 j hj; omega)
      refine cl_151 (by omega) (lm_Lay_si hl1 _ _ _) h5 (A := tR n m cu lo W B A n) (fun j hj => ?_) ?_
      · rw [pi_si, if_neg (by decide)]
        exact ha1 j hj
      refine cl_78 (V := V) (by omega) (lm_Lay_si hl1 _ _ _) hp hb1 (fun w hw1 => ?_)
      have hf2 : fr [49, 50, 51] [] h0 (q_lr (lm_si h1 49 3 0) 51 w) := fr_lr (fr_si hf1' (by decide) (by decide) _ _) (by decide) (by decide) _
      have ha2 : ca (q_lr (lm_si h1 49 3 0) 51 w) 50 n (tR n m cu lo W B A n) := fun j hj => by
        rw [pi_lr, pi_si, if_neg (by decide)]
        exact ha1 j hj
      by_cases cv : V (pk 7 (tR n m cu lo W B A n) n) = true
      · rw [if_pos cv] at hX
        subst hX
        rw [if_pos cv, if_pos rfl]
        refine b_76_45 _ _ (lm_Lay_lr (lm_Lay_si hl1 _ _ _) _ _) ?_
        rw [if_pos rfl]
        refine hK _ hf2 ha2 ?_ rfl
        rw [pi_lr, pi_si]
        exact h42
      · rw [if_neg cv] at hX
        rw [if_neg cv, if_neg (by decide)]
        have hv := tV_one (V := V) (c := pk 7 (tR n m cu lo W B A n) n) (by simpa using cv) hp
        refine ih _ _ (r + 1) _ (by omega) (by omega) ok1 hX hf2 (ct_fr (T := []) (S := [49, 51]) (h := h1) (fr_lr (fr_si (fr_refl _ _ _) (by decide) (by decide) _ _) (by decide) (by decide) _) H1 (by decide)) ha2 hw1
def tV0 (A : Nat → Nat) (n : Nat) : Nat → Bool := fun j => decide (j = pk 7 A n) || false
theorem cl_76 {D n m : Nat} {h : lm_H} {K : lm_H → Prop} {cu lo : Int32} {W B : Nat → Int32} {A : Nat → Nat} (hD : 8 ≤ D) (H : ct h 21 n m cu lo W B) (hw : wd n m cu lo W) (hA : okA n m B A) (ha : ca h 73 n A)
    (hK : ∀ h', fr [49, 50, 51] [] h h' → ca h' 50 n (tL n m cu lo W B 16808 (tV0 A n) A 0).2.2 → lm_i h' 49 2 = Int32.ofNat (tL n m cu lo W B 16808 (tV0 A n) A 0).1 → lm_i h' 49 3 = (if (tL n m cu lo W B 16808 (tV0 A n) A 0).2.1 then 1 else 0) → K h') : lm_call D 76 [.ref 49, .ref 21, .ref 73] h (lm_kV K) := by
  obtain ⟨d, rfl⟩ := q_dp hD
  have h5 := H.2.1
  have h6 := H.2.2.1
  have hg := okA_g hA
  have hp : pk 7 A n < 16807 := pk_7 h5 (by omega) (by omega) (fun j hj => by have := hg j hj; omega)
  refine e_76 H.1 ?_
  refine cl_269c51 (by omega) (lm_Lay_row H.1 _ _) _ ?_
  have hf0 : fr [49, 50, 51] [] h (q_lr (lm_row h 50 (va_cpy (h.2.1 73) (h.2.1 50) 0 0 5)) 51 (fun j => if j < 263 then 0 else lm_l (lm_row h 50 (va_cpy (h.2.1 73) (h.2.1 50) 0 0 5)) 51 j)) := fr_lr (fr_row (fr_refl _ _ _) (by decide) (by decide) _) (by decide) (by decide) _
  have ha0 : ca (q_lr (lm_row h 50 (va_cpy (h.2.1 73) (h.2.1 50) 0 0 5)) 51 (fun j => if j < 263 then 0 else lm_l (lm_row h 50 (va_cpy (h.2.1 73) (h.2.1 50) 0 0 5)) 51 j)) 50 n A := by
    intro j hj
    rw [pi_lr, pi_row, if_pos rfl, ← ha j hj]
    show (if 0 ≤ j ∧ j < 0 + 5 then h.2.1 73 (0 + (j - 0)) else h.2.1 50 j) = lm_i h 73 j
    rw [if_pos (by omega), Nat.sub_zero, Nat.zero_add]
    rfl
  generalize hh : q_lr (lm_row h 50 (va_cpy (h.2.1 73) (h.2.1 50) 0 0 5)) 51 (fun j => if j < 263 then 0 else lm_l (lm_row h 50 (va_cpy (h.2.1 73) (h.2.1 50) 0 0 5)) 51 j) = h1 at hf0 ha0
  have hz : bw (lm_l h1 51) (fun _ => false) := by
    intro c hc
    rw [← hh, pl_lr, if_pos rfl, if_pos (by omega), Int64.zero_and]
    simp
  have H1 : ct h1 21 n m cu lo W B := ct_fr hf0 H (by decide)
  rw [H1.2.2.2.1]
  refine cl_151 (by omega) H1.1 h5 ha0 ?_
  refine cl_78 (V := fun _ => false) (by omega) H1.1 hp hz (fun w hw1 => ?_)
  have hv := tV_one (V := fun _ => false) (c := pk 7 A n) rfl hp
  have hv2 : tV (fun _ => false) ≤ 16807 := q_cn_le _ _
  refine lp_76 (X := tL n m cu lo W B 16808 (tV0 A n) A 0) (by omega) h5 h6 hw hK 16808 (tV0 A n) A 0 _ (by omega) ?_ hA rfl (fr_si (fr_lr hf0 (by decide) (by decide) _) (by decide) (by decide) _ _) ?_ ?_ hw1
  · unfold tV0
    omega
  · exact ct_fr (T := []) (S := [49, 51]) (h := h1) (fr_si (fr_lr (fr_refl _ _ _) (by decide) (by decide) _) (by decide) (by decide) _ _) H1 (by decide)
  · intro j hj
    rw [pi_si, if_neg (by decide), pi_lr]
    exact ha0 j hj
