/-! Alike: the reference goes through all rows. -/
theorem nA_b {n : Nat} {lo : Int32} (h5 : n ≤ 5) (hlo : -99 ≤ lo ∧ lo ≤ 99) : -2970000000 ≤ (n : Int) * aL n lo ∧ (n : Int) * aL n lo ≤ 2970000000 := by
  have e1 : (-99 : Int32).toInt = -99 := rfl
  have e2 : (99 : Int32).toInt = 99 := rfl
  simp only [p_le, e1, e2] at hlo
  have hp : (10 : Nat) ^ n ≤ 10 ^ 5 := Nat.pow_le_pow_right (by omega) h5
  have hp3 : (10 : Nat) ^ 5 = 100000 := rfl
  have hp4 : ((10 ^ n : Nat) : Int) = (10 : Int) ^ n := Int.natCast_pow 10 n
  have hp2 : (10 : Int) ^ n ≤ 100000 := by omega
  have hp0 : (0 : Int) ≤ 10 ^ n := by rw [← hp4]; exact Int.natCast_nonneg _
  have ha : -594000000 ≤ aL n lo ∧ aL n lo ≤ 594000000 := by
    unfold aL
    generalize (10 : Int) ^ n = q at hp2 hp0
    have a1 : 60 * lo.toInt * q ≤ 5940 * q := Int.mul_le_mul_of_nonneg_right (by omega) hp0
    have a2 : -5940 * q ≤ 60 * lo.toInt * q := Int.mul_le_mul_of_nonneg_right (by omega) hp0
    omega
  generalize aL n lo = q at ha
  have hn : (n : Int) ≤ 5 := by omega
  have b1 : (n : Int) * q ≤ (n : Int) * 594000000 := Int.mul_le_mul_of_nonneg_left ha.2 (by omega)
  have b2 : (n : Int) * (-594000000) ≤ (n : Int) * q := Int.mul_le_mul_of_nonneg_left ha.1 (by omega)
  omega
theorem lp_247 {d n m : Nat} {h0 : lm_H} {K : lm_H → Prop} {cu lo : Int32} {W B : Nat → Int32} (hD : 5 ≤ d + 2) (h5 : n ≤ 5) (h6 : m ≤ 6) (hw : wd n m cu lo W) : ∀ r j, j + r = m → ∀ (l : Nat → Nat) (s : aT) (h : lm_H), fr [111, 112, 113, 114] [48, 49] h0 h → rt h n m cu lo W B → aS h l s → nS l j ≤ 10 → (s.2.1 = 0 ∨ -900000000000 ≤ s.1 ∧ s.1 ≤ 900000000000) → s.2.1 + 11 ^ r ≤ 2000000 → (∀ g, j ≤ g → g < 6 → l g = 0) →
    (∀ h', fr [111, 112, 113, 114] [48, 49] h0 h' → rt h' n m cu lo W B → aS h' l (cm s (lift (n * aL n lo + si (fun g => br n cu lo W B g (l g)) j) j l (XX (br n cu lo W B) m r (10 - nS l j)))) → (lm_W (d + 1) 248 34 [some (.ref 92), some (.int (Int32.ofNat (nS l j))), some (.int (Int32.ofNat j - 1))] [] h' (lm_kI (fun r4 h3 => (lm_W ((d + 1) + 1) 247 32 [some (.ref 92), some (.int r4), none, none, none] [] h3 (lm_kV K)))))) → (lm_W ((d + 1) + 1) 247 38 [some (.ref 92), none, some (.int 0), none, none] [] h (lm_kV K)) := by
  intro r
  induction r with
  | zero =>
    intro j hj l s h hf H hs hsum hsb hsc hz hK
    have ej : j = m := by omega
    subst ej
    refine lp_247a hD h5 h6 hw l s h hf H hs hsum (by omega) (by simp only [Nat.pow_zero] at hsc; omega) hz (fun h' hf' H' hs' => hK h' hf' H' ?_)
    have e1 : lift (n * aL n lo + si (fun g => br n cu lo W B g (l g)) j) j l (XX (br n cu lo W B) j 0 (10 - nS l j)) = (mA n j cu lo W (tl B l) n, 1, fun i => if i < j then l i else 0) := by
      rw [mA_br]
      unfold lift
      rw [XX]
      simp only [Int.add_zero]
    rw [e1]
    have e2 : ∀ i, i < 6 → (if i < j then l i else 0) = l i := by
      intro i hi
      split
      · rfl
      · rw [hz i (by omega) hi]
    unfold aS at hs' ⊢
    unfold cm at hs' ⊢
    simp only at hs' ⊢
    by_cases c1 : s.2.1 = 0 ∨ s.1 < mA n j cu lo W (tl B l) n
    · rw [if_pos c1] at hs' ⊢
      simp only at hs' ⊢
      refine ⟨hs'.1, hs'.2.1, fun q => ⟨(hs'.2.2 q).1, fun g hg => ?_⟩⟩
      rw [e2 g hg]
      exact (hs'.2.2 q).2 g hg
    · rw [if_neg c1] at hs' ⊢
      exact hs'
  | succ r ih =>
    intro j hj l s h hf H hs hsum hsb hsc hz hK
    have hpw : 11 ^ (r + 1) = 11 * 11 ^ r := by rw [Nat.pow_succ, Nat.mul_comm]
    have hpos : 0 < 11 ^ r := Nat.pow_pos (by omega)
    have hlj : l j = 0 := hz j (Nat.le_refl j) (by omega)
    -- tenth by tenth
    have lt : ∀ q t, t + q = 10 - nS l j → ∀ (s' : aT) (h : lm_H), fr [111, 112, 113, 114] [48, 49] h0 h → rt h n m cu lo W B → aS h (fun i => if i = j then t else l i) s' → s' = (if t = 0 then s else cm s (lift (n * aL n lo + si (fun g => br n cu lo W B g (l g)) j) j l (xf (br n cu lo W B) j (XX (br n cu lo W B) m r) (10 - nS l j) t))) → (lm_W ((d + 1) + 1) 247 38 [some (.ref 92), none, some (.int 0), none, none] [] h (lm_kV K)) := by
      intro q
      have stp : ∀ t, t ≤ 10 - nS l j → ∀ (s' : aT), s' = (if t = 0 then s else cm s (lift (n * aL n lo + si (fun g => br n cu lo W B g (l g)) j) j l (xf (br n cu lo W B) j (XX (br n cu lo W B) m r) (10 - nS l j) t))) → cm s' (lift (n * aL n lo + si (fun g => br n cu lo W B g ((fun i => if i = j then t else l i) g)) (j + 1)) (j + 1) (fun i => if i = j then t else l i) (XX (br n cu lo W B) m r (10 - nS (fun i => if i = j then t else l i) (j + 1)))) = cm s (lift (n * aL n lo + si (fun g => br n cu lo W B g (l g)) j) j l (xf (br n cu lo W B) j (XX (br n cu lo W B) m r) (10 - nS l j) (t + 1))) := by
        intro t ht s' hs'
        have en : nS (fun i => if i = j then t else l i) (j + 1) = nS l j + t := by
          rw [nS, nS_c (l' := l) (fun i hi => by rw [if_neg (by omega)])]
          simp
        have eb : si (fun g => br n cu lo W B g ((fun i => if i = j then t else l i) g)) (j + 1) = si (fun g => br n cu lo W B g (l g)) j + br n cu lo W B j t := by
          rw [si, si_c (g := fun g => br n cu lo W B g (l g)) (fun i hi => by simp only; rw [if_neg (by omega)])]
          simp
        have el : lift (n * aL n lo + si (fun g => br n cu lo W B g ((fun i => if i = j then t else l i) g)) (j + 1)) (j + 1) (fun i => if i = j then t else l i) (XX (br n cu lo W B) m r (10 - nS (fun i => if i = j then t else l i) (j + 1))) = lift (n * aL n lo + si (fun g => br n cu lo W B g (l g)) j) j l (sf (br n cu lo W B) j t (XX (br n cu lo W B) m r (10 - nS l j - t))) := by
          rw [eb, en, show 10 - (nS l j + t) = 10 - nS l j - t by omega]
          unfold lift sf
          simp only
          refine Prod.ext (by simp only; omega) (Prod.ext rfl ?_)
          funext i
          simp only
          by_cases c1 : i < j
          · rw [if_pos (by omega), if_pos c1, if_neg (by omega)]
          · rw [if_neg c1]
            by_cases c2 : i = j
            · rw [if_pos (by omega), if_pos c2, if_pos c2]
            · rw [if_neg (by omega), if_neg c2]
        rw [el, xf, lift_cm]
        by_cases c0 : t = 0
        · rw [if_pos c0] at hs'
          rw [hs', c0, xf]
          congr 1
        · rw [if_neg c0] at hs'
          rw [hs']
          refine cm_assoc ?_
          show 0 < (xf (br n cu lo W B) j (XX (br n cu lo W B) m r) (10 - nS l j) t).2.1
          rw [show t = (t - 1) + 1 by omega]
          exact xf_pos (XX_pos r)
      have bnd : ∀ t, t ≤ 10 - nS l j → ∀ (s' : aT), s' = (if t = 0 then s else cm s (lift (n * aL n lo + si (fun g => br n cu lo W B g (l g)) j) j l (xf (br n cu lo W B) j (XX (br n cu lo W B) m r) (10 - nS l j) t))) → (s'.2.1 = 0 ∨ -900000000000 ≤ s'.1 ∧ s'.1 ≤ 900000000000) ∧ s'.2.1 + 11 ^ r ≤ 2000000 := by
        intro t ht s' hs'
        by_cases c0 : t = 0
        · rw [if_pos c0] at hs'
          rw [hs']
          exact ⟨hsb, by omega⟩
        · rw [if_neg c0] at hs'
          rw [hs']
          have hfb : ∀ g, g < m → ∀ t, t ≤ 10 → -6000000000 ≤ br n cu lo W B g t ∧ br n cu lo W B g t ≤ 6000000000 := fun g hg t ht => br_b hw h5 hg ht
          have hYb := XX_b (f := br n cu lo W B) (m := m) hfb r (by omega)
          have hxb := xf_b (f := br n cu lo W B) (g := j) (Y := XX (br n cu lo W B) m r) (left := 10 - nS l j) (q := 100000000000) (fun i hi => by
            have a1 := hfb j (by omega) i (by omega)
            have a2 := hYb (10 - nS l j - i) (by omega)
            omega) (t - 1) (by omega)
          rw [show t - 1 + 1 = t by omega] at hxb
          have hba := si_abs (f := fun g => br n cu lo W B g (l g)) (b := 6000000000) (n := j) (fun g hg => hfb g (by omega) (l g) (by have := nS_el (l := l) (m := j) hg; omega))
          have hna := nA_b (n := n) h5 hw.2.1
          have hxc := xf_le (f := br n cu lo W B) (g := j) (Y := XX (br n cu lo W B) m r) (left := 10 - nS l j) (c := 11 ^ r) (fun i hi => XX_le r i (by omega)) t (by omega)
          have hcl := cm_le (a := s) (b := lift (n * aL n lo + si (fun g => br n cu lo W B g (l g)) j) j l (xf (br n cu lo W B) j (XX (br n cu lo W B) m r) (10 - nS l j) t))
          have hlc : (lift (n * aL n lo + si (fun g => br n cu lo W B g (l g)) j) j l (xf (br n cu lo W B) j (XX (br n cu lo W B) m r) (10 - nS l j) t)).2.1 = (xf (br n cu lo W B) j (XX (br n cu lo W B) m r) (10 - nS l j) t).2.1 := rfl
          have ht10 : t * 11 ^ r ≤ 10 * 11 ^ r := Nat.mul_le_mul_right _ (by omega)
          refine ⟨Or.inr (cm_b hsb ?_), by omega⟩
          show -900000000000 ≤ n * aL n lo + si (fun g => br n cu lo W B g (l g)) j + (xf (br n cu lo W B) j (XX (br n cu lo W B) m r) (10 - nS l j) t).1 ∧ n * aL n lo + si (fun g => br n cu lo W B g (l g)) j + (xf (br n cu lo W B) j (XX (br n cu lo W B) m r) (10 - nS l j) t).1 ≤ 900000000000
          have hj6 : (j : Int) ≤ 6 := by omega
          omega
      have en : ∀ t, nS (fun i => if i = j then t else l i) (j + 1) = nS l j + t := by
        intro t
        rw [nS, nS_c (l' := l) (fun i hi => by rw [if_neg (by omega)])]
        simp
      induction q with
      | zero =>
        intro t ht s' h hf H hs hs'
        obtain ⟨b1, b2⟩ := bnd t (by omega) s' hs'
        refine ih (j + 1) (by omega) (fun i => if i = j then t else l i) s' h hf H hs (by rw [en]; omega) b1 b2 (fun g h1 h2 => by rw [if_neg (by omega)]; exact hz g (by omega) h2) (fun h' hf' H' hs2 => ?_)
        rw [stp t (by omega) s' hs'] at hs2
        rw [en, q_p1]
        refine b_248_34 _ _ H'.1 ?_
        have e10 : (10 : Int32) = Int32.ofNat 10 := rfl
        have eL : lm_i h' 113 j = Int32.ofNat t := by
          rw [hs2.1 j (by omega)]
          simp only [if_true]
        rw [if_neg (by rw [q_lt0 (by omega)]; exact id), e10, if_neg (by rw [q_lt (by omega) (by omega)]; omega), q_in (by omega) (by omega), q_in (by omega) (by omega), q_nat (by omega), eL, q_sub (by omega), show nS l j + t - t = nS l j by omega]
        refine hK _ (fr_si hf' (by decide) (by decide) _ _) (rt_si H' (by decide) _ _) ?_
        rw [XX, show m - (r + 1) = j by omega, show 10 - nS l j + 1 = t + 1 by omega]
        refine ⟨fun g hg => ?_, ?_, fun q => ⟨(hs2.2.2 q).1, fun g hg => ?_⟩⟩
        · rw [pi_si, if_pos rfl]
          by_cases eg : g = j
          · rw [if_pos eg, eg, hlj]
            rfl
          · rw [if_neg eg, hs2.1 g hg]
            simp only [eg, if_false]
        · rw [pi_si, if_neg (by decide)]
          exact hs2.2.1
        · rw [pi_si, if_neg (by decide)]
          exact (hs2.2.2 q).2 g hg
      | succ q ihq =>
        intro t ht s' h hf H hs hs'
        obtain ⟨b1, b2⟩ := bnd t (by omega) s' hs'
        refine ih (j + 1) (by omega) (fun i => if i = j then t else l i) s' h hf H hs (by rw [en]; omega) b1 b2 (fun g h1 h2 => by rw [if_neg (by omega)]; exact hz g (by omega) h2) (fun h' hf' H' hs2 => ?_)
        rw [stp t (by omega) s' hs'] at hs2
        rw [en, q_p1]
        refine b_248_34 _ _ H'.1 ?_
        have e10 : (10 : Int32) = Int32.ofNat 10 := rfl
        have eL : lm_i h' 113 j = Int32.ofNat t := by
          rw [hs2.1 j (by omega)]
          simp only [if_true]
        rw [if_neg (by rw [q_lt0 (by omega)]; exact id), e10, if_pos (by rw [q_lt (by omega) (by omega)]; omega), q_in (by omega) (by omega), q_in (by omega) (by omega), q_nat (by omega), eL, q_a1]
        refine b_247_32 _ (lm_Lay_si H'.1 _ _ _) ?_
        rw [if_neg (by decide)]
        refine ihq (t + 1) (by omega) (cm s (lift (n * aL n lo + si (fun g => br n cu lo W B g (l g)) j) j l (xf (br n cu lo W B) j (XX (br n cu lo W B) m r) (10 - nS l j) (t + 1)))) _ (fr_si hf' (by decide) (by decide) _ _) (rt_si H' (by decide) _ _) ⟨fun g hg => ?_, ?_, fun q => ⟨(hs2.2.2 q).1, fun g hg => ?_⟩⟩ (by rw [if_neg (by omega)])
        · rw [pi_si, if_pos rfl]
          by_cases eg : g = j
          · rw [if_pos eg]
            simp only [eg, if_true]
          · rw [if_neg eg, hs2.1 g hg]
            simp only [eg, if_false]
        · rw [pi_si, if_neg (by decide)]
          exact hs2.2.1
        · rw [pi_si, if_neg (by decide)]
          exact (hs2.2.2 q).2 g hg
    exact lt (10 - nS l j) 0 (by omega) s h hf H (by
      have e : (fun i => if i = j then 0 else l i) = l := by
        funext i
        split
        · rename_i q; rw [q, hlj]
        · rfl
      rw [e]
      exact hs) rfl
/-- what the reference has of alike -/
def alm (h : lm_H) (n m : Nat) (cu lo : Int32) (W B : Nat → Int32) : Prop := lm_l h 92 48 = Int64.ofInt (n * aL n lo + (XX (br n cu lo W B) m m 10).1) ∧ lm_i h 92 49 = Int32.ofNat (XX (br n cu lo W B) m m 10).2.1 ∧ ∀ g, g < m → lm_i h 114 g = Int32.ofNat ((XX (br n cu lo W B) m m 10).2.2 g)
/-- likes behind looks -/
theorem cl_247b {d n m : Nat} {h : lm_H} {K : lm_H → Prop} {cu lo : Int32} {W B : Nat → Int32} (hD : 5 ≤ d + 2) (H : rt h n m cu lo W B) (hw : wd n m cu lo W)
    (hK : ∀ h', fr [111, 112, 113, 114] [48, 49] h h' → rt h' n m cu lo W B → alm h' n m cu lo W B → K h') : (lm_W ((d + 1) + 1) 247 6 [some (.ref 92), some (.int 0), none, none, none] [] h (lm_kV K)) := by
  have h5 := H.2.1
  have h6 := H.2.2.1
  have e6 : (6 : Int32) = Int32.ofNat 6 := rfl
  have lp : ∀ q g : Nat, q + g = 6 → ∀ z, fr [111, 112, 113, 114] [48, 49] h z → rt z n m cu lo W B → (∀ i, i < g → lm_i z 113 i = 0) → (lm_W ((d + 1) + 1) 247 6 [some (.ref 92), some (.int (Int32.ofNat g)), none, none, none] [] z (lm_kV K)) := by
    intro q
    induction q with
    | zero =>
      intro g hg z hf Hz hz
      have e : g = 6 := by omega
      rw [e] at hz
      refine b_247_6 _ Hz.1 ?_
      rw [e6, if_neg (by rw [q_lt (by omega) (by omega)]; omega)]
      refine b_247_32 _ (lm_Lay_si Hz.1 _ _ _) ?_
      rw [if_neg (by decide)]
      refine lp_247 (h0 := h) hD h5 h6 hw m 0 (by omega) (fun _ => 0) (0, 0, fun _ => 0) _ (fr_s92 hf (by decide) _) (rt_si Hz (by decide) _ _) ⟨fun i hi => ?_, rfl, fun q => by simp only at q; omega⟩ (by rw [nS]; omega) (Or.inl rfl) ?_ (fun _ _ _ => rfl) (fun h' hf' H' hs' => ?_)
      · rw [pi_si, if_neg (by decide)]
        exact hz i hi
      · have h2 : 11 ^ m ≤ 11 ^ 6 := Nat.pow_le_pow_right (by omega) h6
        have h3 : (11 : Nat) ^ 6 = 1771561 := rfl
        show 0 + 11 ^ m ≤ 2000000
        omega
      · refine b_248_34 _ _ H'.1 ?_
        rw [if_pos (by decide)]
        refine b_247_32 _ H'.1 ?_
        rw [if_pos rfl]
        have ex : cm ((0, 0, fun _ => 0) : aT) (lift (n * aL n lo + si (fun g => br n cu lo W B g ((fun _ => 0) g)) 0) 0 (fun _ => 0) (XX (br n cu lo W B) m m (10 - nS (fun _ => 0) 0))) = (n * aL n lo + (XX (br n cu lo W B) m m 10).1, (XX (br n cu lo W B) m m 10).2.1, (XX (br n cu lo W B) m m 10).2.2) := by
          rw [cm, if_pos (Or.inl rfl)]
          unfold lift
          rw [si, nS, Int.add_zero]
          rfl
        rw [ex] at hs'
        have hp := XX_pos (f := br n cu lo W B) (m := m) m 10
        obtain ⟨a1, a2⟩ := hs'.2.2 hp
        exact hK h' hf' H' ⟨a1, hs'.2.1, fun g hg => a2 g (by omega)⟩
    | succ q ih =>
      intro g hg z hf Hz hz
      refine b_247_6 _ Hz.1 ?_
      rw [e6, if_pos (by rw [q_lt (by omega) (by omega)]; omega), q_in (by omega) (by omega), q_nat (by omega), q_a1]
      refine ih (g + 1) (by omega) _ (fr_si hf (by decide) (by decide) _ _) (rt_si Hz (by decide) _ _) (fun i hi => ?_)
      rw [pi_si, if_pos rfl]
      by_cases ei : i = g
      · rw [if_pos ei]
      · rw [if_neg ei]
        exact hz i (by omega)
  exact lp 6 0 (by omega) h (fr_refl _ _ _) H (fun i hi => by omega)
