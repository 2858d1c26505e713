/-! Alike: the class's weighAlike (7), firstAlike (13). -/
/-- what weighAlike leaves -/
def wA7 (h : lm_H) (n m : Nat) (cu lo : Int32) (W B : Nat → Int32) (g : Nat) : Prop := (∀ j, g ≤ j → j < m → ∀ t, t ≤ 10 → lm_l h 55 (j * 11 + t) = Int64.ofInt (br n cu lo W B j t)) ∧ ∀ j, g ≤ j → j ≤ m → rY h j (XX (br n cu lo W B) m (m - j))
theorem cl_7 {D n m : Nat} {h : lm_H} {K : lm_H → Prop} {cu lo : Int32} {W B : Nat → Int32} (hD : 5 ≤ D) (H : ct h 21 n m cu lo W B) (hw : wd n m cu lo W)
    (hK : ∀ h', fr [53, 54, 55, 56, 57] [] h h' → wA7 h' n m cu lo W B 0 → K h') : lm_call D 7 [.ref 52, .ref 21] h (lm_kV K) := by
  obtain ⟨d, rfl⟩ := q_dp hD
  have h5 := H.2.1
  have h6 := H.2.2.1
  have e11 : (11 : Int32) = Int32.ofNat 11 := rfl
  have hfb : ∀ g, g < m → ∀ t, t ≤ 10 → -6000000000 ≤ br n cu lo W B g t ∧ br n cu lo W B g t ≤ 6000000000 := fun g hg t ht => br_b hw h5 hg ht
  refine e_7 H.1 ?_
  -- guests from the last to the first
  have l2 : ∀ g, g ≤ m → ∀ z, fr [53, 54, 55, 56, 57] [] h z → wA7 z n m cu lo W B g → (lm_W ((d + 4)) 7 51 [some (.ref 52), some (.ref 21), some (.int (Int32.ofNat g - 1)), none] [] z (lm_kV K)) := by
    intro g
    induction g with
    | zero =>
      intro _ z hf hz
      refine b_7_51 _ (fr_Lay hf H.1) ?_
      rw [if_pos (by decide)]
      exact hK z hf hz
    | succ g ih =>
      intro hg z hf hz
      rw [q_p1]
      refine b_7_51 _ (fr_Lay hf H.1) ?_
      rw [if_neg (by rw [q_lt0 (by omega)]; exact id)]
      obtain ⟨r, hr⟩ : ∃ r, g + (r + 1) = m := ⟨m - (g + 1), by omega⟩
      -- the best by tenths left
      have l4 : ∀ q l : Nat, q + l = 11 → ∀ z, fr [53, 54, 55, 56, 57] [] h z → wA7 z n m cu lo W B (g + 1) → (∀ t, t ≤ 10 → lm_l z 55 (g * 11 + t) = Int64.ofInt (br n cu lo W B g t)) → (∀ i, i < l → lm_l z 56 (g * 11 + i) = Int64.ofInt (XX (br n cu lo W B) m (r + 1) i).1 ∧ lm_i z 57 (g * 11 + i) = Int32.ofNat (XX (br n cu lo W B) m (r + 1) i).2.1) → (lm_W ((d + 4)) 7 89 [some (.ref 52), some (.ref 21), some (.int (Int32.ofNat g)), some (.int (Int32.ofNat l))] [] z (lm_kV K)) := by
        intro q
        induction q with
        | zero =>
          intro l hl z hf hz hb hx
          have e : l = 11 := by omega
          rw [e] at hx
          refine b_7_89 _ _ (fr_Lay hf H.1) ?_
          rw [e11, if_neg (by rw [q_lt (by omega) (by omega)]; omega)]
          refine ih (by omega) z hf ⟨fun j h1 h2 t ht => ?_, fun j h1 h2 => ?_⟩
          · by_cases ej : j = g
            · rw [ej]; exact hb t ht
            · exact hz.1 j (by omega) h2 t ht
          · by_cases ej : j = g
            · rw [ej, show m - g = r + 1 by omega]
              intro i hi
              exact hx i (by omega)
            · exact hz.2 j (by omega) h2
        | succ q ih4 =>
          intro l hl z hf hz hb hx
          refine b_7_89 _ _ (fr_Lay hf H.1) ?_
          rw [e11, if_pos (by rw [q_lt (by omega) (by omega)]; omega)]
          have hY := hz.2 (g + 1) (Nat.le_refl _) (by omega)
          rw [show m - (g + 1) = r by omega] at hY
          refine cl_9 (m := m) (f := br n cu lo W B) (r := r) (by omega) (fr_Lay hf H.1) h6 hr (by omega) hfb hb hY (fun z1 hf1 hno k1 k2 => ?_)
          rw [q_a1]
          refine ih4 (l + 1) (by omega) z1 (fr_trans hf (fr_sub hf1 (by decide) (by decide))) ⟨fun j h1 h2 t ht => ?_, fun j h1 h2 i hi => ?_⟩ (fun t ht => ?_) (fun i hi => ?_)
          · rw [fr_l hf1 (by decide) (by decide)]
            exact hz.1 j h1 h2 t ht
          · rw [(hno (j * 11 + i) (by omega)).1, (hno (j * 11 + i) (by omega)).2]
            exact hz.2 j h1 h2 i hi
          · rw [fr_l hf1 (by decide) (by decide)]
            exact hb t ht
          · by_cases ei : i = l
            · rw [ei]; exact ⟨k1, k2⟩
            · rw [(hno (g * 11 + i) (by omega)).1, (hno (g * 11 + i) (by omega)).2]
              exact hx i (by omega)
      have l3 : ∀ q t : Nat, q + t = 11 → ∀ z, fr [53, 54, 55, 56, 57] [] h z → wA7 z n m cu lo W B (g + 1) → (∀ i, i < t → lm_l z 55 (g * 11 + i) = Int64.ofInt (br n cu lo W B g i)) → (lm_W ((d + 4)) 7 57 [some (.ref 52), some (.ref 21), some (.int (Int32.ofNat g)), some (.int (Int32.ofNat t))] [] z (lm_kV K)) := by
        intro q
        induction q with
        | zero =>
          intro t ht z hf hz hb
          have e : t = 11 := by omega
          rw [e] at hb
          refine b_7_57 _ _ (fr_Lay hf H.1) ?_
          rw [e11, if_neg (by rw [q_lt (by omega) (by omega)]; omega)]
          exact l4 11 0 (by omega) z hf hz (fun i hi => hb i (by omega)) (fun i hi => by omega)
        | succ q ih3 =>
          intro t ht z hf hz hb
          refine b_7_57 _ _ (fr_Lay hf H.1) ?_
          rw [e11, if_pos (by rw [q_lt (by omega) (by omega)]; omega)]
          refine cl_8 (by omega) (ct_fr hf H (by decide)) hw (by omega) (by omega) (fun z1 hf1 => ?_)
          rw [← e11, q_m11, q_add, q_in (by omega) (by omega), q_nat (by omega), q_a1]
          refine ih3 (t + 1) (by omega) _ (fr_sl (fr_trans hf (fr_sub hf1 (by decide) (by decide))) (by decide) (by decide) _ _) ⟨fun j h1 h2 i hi => ?_, fun j h1 h2 i hi => ?_⟩ (fun i hi => ?_)
          · rw [pl_sl, if_pos rfl, if_neg (by omega), fr_l hf1 (by decide) (by decide)]
            exact hz.1 j h1 h2 i hi
          · rw [pl_sl, if_neg (by decide), pi_sl, fr_l hf1 (by decide) (by decide), fr_i hf1 (by decide) (by decide)]
            exact hz.2 j h1 h2 i hi
          · rw [pl_sl, if_pos rfl]
            by_cases ei : i = t
            · rw [if_pos (by rw [ei]), ei]
            · rw [if_neg (by omega), fr_l hf1 (by decide) (by decide)]
              exact hb i (by omega)
      exact l3 11 0 (by omega) z hf hz (fun i hi => by omega)
  have l1 : ∀ q l : Nat, q + l = 11 → ∀ z, fr [53, 54, 55, 56, 57] [] h z → (∀ i, i < l → lm_l z 56 (m * 11 + i) = 0 ∧ lm_i z 57 (m * 11 + i) = 1) → (lm_W ((d + 4)) 7 2 [some (.ref 52), some (.ref 21), some (.int (Int32.ofNat l)), none] [] z (lm_kV K)) := by
    intro q
    induction q with
    | zero =>
      intro l hl z hf hx
      have e : l = 11 := by omega
      rw [e] at hx
      have Hz := ct_fr hf H (by decide)
      refine b_7_2 _ Hz.1 ?_
      rw [e11, if_neg (by rw [q_lt (by omega) (by omega)]; omega), Hz.2.2.2.2.1]
      refine l2 m (Nat.le_refl m) z hf ⟨fun j h1 h2 => by omega, fun j h1 h2 i hi => ?_⟩
      have ej : j = m := by omega
      rw [ej, Nat.sub_self]
      exact hx i (by omega)
    | succ q ih =>
      intro l hl z hf hx
      have Hz := ct_fr hf H (by decide)
      refine b_7_2 _ Hz.1 ?_
      rw [Hz.2.2.2.2.1, q_m11, q_add, e11, if_pos (by rw [q_lt (by omega) (by omega)]; omega), q_in (by omega) (by omega), q_in (by omega) (by omega), q_nat (by omega), q_a1]
      refine ih (l + 1) (by omega) _ (fr_si (fr_sl hf (by decide) (by decide) _ _) (by decide) (by decide) _ _) (fun i hi => ?_)
      rw [pl_si, pl_sl, if_pos rfl, pi_si, if_pos rfl, pi_sl]
      by_cases ei : i = l
      · rw [if_pos (by rw [ei]), if_pos (by rw [ei])]
        exact ⟨rfl, rfl⟩
      · rw [if_neg (by omega), if_neg (by omega)]
        exact hx i (by omega)
  exact l1 11 0 (by omega) h (fr_refl _ _ _) (fun i hi => by omega)
/-- the first best -/
theorem xf_first {f : Nat → Nat → Int} {g : Nat} {Y : Nat → aT} {left : Nat} (hY : ∀ j, 0 < (Y j).2.1) : ∀ k, 0 < k → ∃ t, t < k ∧ (xf f g Y left k).1 = f g t + (Y (left - t)).1 ∧ (xf f g Y left k).2.2 = (sf f g t (Y (left - t))).2.2 ∧ ∀ u, u < t → ¬ f g u + (Y (left - u)).1 = (xf f g Y left k).1 := by
  intro k
  have hle : ∀ k, ∀ u, u < k → f g u + (Y (left - u)).1 ≤ (xf f g Y left k).1 := by
    intro k
    induction k with
    | zero => intro u hu; omega
    | succ k ih =>
      intro u hu
      rw [xf, cm]
      by_cases c : (xf f g Y left k).2.1 = 0 ∨ (xf f g Y left k).1 < (sf f g k (Y (left - k))).1
      · rw [if_pos c]
        show _ ≤ f g k + (Y (left - k)).1
        by_cases e : u = k
        · rw [e]; exact Int.le_refl _
        · have h1 := ih u (by omega)
          rcases c with c | c
          · have h2 : 0 < k := by omega
            have h3 := xf_pos (f := f) (g := g) (Y := Y) (left := left) (k := k - 1) hY
            rw [show k - 1 + 1 = k by omega] at h3
            omega
          · have c' : (xf f g Y left k).1 < f g k + (Y (left - k)).1 := c
            omega
      · rw [if_neg c]
        have c' : ¬ (xf f g Y left k).1 < f g k + (Y (left - k)).1 := fun q => c (Or.inr q)
        have h1 : f g u + (Y (left - u)).1 ≤ (xf f g Y left k).1 := by
          by_cases e : u = k
          · rw [e]; omega
          · exact ih u (by omega)
        split
        · exact h1
        · exact h1
  induction k with
  | zero => intro h; omega
  | succ k ih =>
    intro _
    by_cases c : (xf f g Y left k).2.1 = 0 ∨ (xf f g Y left k).1 < (sf f g k (Y (left - k))).1
    · have ex : xf f g Y left (k + 1) = sf f g k (Y (left - k)) := by rw [xf, cm, if_pos c]
      rw [ex]
      refine ⟨k, by omega, rfl, rfl, fun u hu => ?_⟩
      show ¬ _ = f g k + (Y (left - k)).1
      rcases c with c | c
      · have h3 := xf_pos (f := f) (g := g) (Y := Y) (left := left) (k := k - 1) hY
        rw [show k - 1 + 1 = k by omega] at h3
        omega
      · have c' : (xf f g Y left k).1 < f g k + (Y (left - k)).1 := c
        have := hle k u hu
        omega
    · have hk : 0 < k := by
        by_cases e : k = 0
        · subst e; exact absurd (Or.inl rfl) c
        · omega
      obtain ⟨t, h1, h2, h3, h4⟩ := ih hk
      have ex : (xf f g Y left (k + 1)).1 = (xf f g Y left k).1 ∧ (xf f g Y left (k + 1)).2.2 = (xf f g Y left k).2.2 := by
        rw [xf, cm, if_neg c]
        split
        · exact ⟨rfl, rfl⟩
        · exact ⟨rfl, rfl⟩
      exact ⟨t, by omega, ex.1.trans h2, ex.2.trans h3, fun u hu => by rw [ex.1]; exact h4 u hu⟩
theorem cl_13 {D n m x : Nat} {h : lm_H} {K : Int32 → lm_H → Prop} {cu lo : Int32} {W B : Nat → Int32} (hD : 2 ≤ D) (H : ct h 21 n m cu lo W B) (hw : wd n m cu lo W) (hz : wA7 h n m cu lo W B 0) (hx : x < m) (hK : (XX (br n cu lo W B) m m 10).2.2 x ≤ 10 → K (Int32.ofNat ((XX (br n cu lo W B) m m 10).2.2 x)) h) : lm_call D 13 [.ref 52, .ref 21, .int (Int32.ofNat x)] h (lm_kI K) := by
  obtain ⟨d, rfl⟩ := q_dp hD
  have h5 := H.2.1
  have h6 := H.2.2.1
  have hfb : ∀ g, g < m → ∀ t, t ≤ 10 → -6000000000 ≤ br n cu lo W B g t ∧ br n cu lo W B g t ≤ 6000000000 := fun g hg t ht => br_b hw h5 hg ht
  refine e_13 _ H.1 ?_
  have lp : ∀ r g : Nat, g + r = m → g ≤ x + 1 → ∀ left, left ≤ 10 → ∀ v : Nat, (g ≤ x → ∀ j, g ≤ j → j < m → (XX (br n cu lo W B) m r left).2.2 j = (XX (br n cu lo W B) m m 10).2.2 j) → (g = x + 1 → v = (XX (br n cu lo W B) m m 10).2.2 x ∧ v ≤ 10) → (lm_W ((d + 1)) 13 9 [some (.ref 52), some (.ref 21), some (.int (Int32.ofNat x)), some (.int (Int32.ofNat left)), some (.int (Int32.ofNat v)), some (.int (Int32.ofNat g))] [] h (lm_kI K)) := by
    intro r
    induction r with
    | zero =>
      intro g hg hgx left hl v _ hv
      refine b_13_9 _ _ _ _ H.1 ?_
      rw [H.2.2.2.2.1, if_neg (by rw [q_lt (by omega) (by omega)]; omega)]
      obtain ⟨e1, e2⟩ := hv (by omega)
      rw [e1]
      exact hK (by omega)
    | succ r ih =>
      intro g hg hgx left hl v hp hv
      refine b_13_9 _ _ _ _ H.1 ?_
      rw [H.2.2.2.2.1, if_pos (by rw [q_lt (by omega) (by omega)]; omega)]
      by_cases c : g = x + 1
      · rw [if_pos (by rw [q_lt (by omega) (by omega)]; omega)]
        obtain ⟨e1, e2⟩ := hv c
        rw [e1]
        exact hK (by omega)
      · rw [if_neg (by rw [q_lt (by omega) (by omega)]; omega)]
        obtain ⟨t, t1, t2, t3, t4⟩ := xf_first (f := br n cu lo W B) (g := g) (Y := XX (br n cu lo W B) m r) (left := left) (XX_pos r) (left + 1) (by omega)
        have eX : XX (br n cu lo W B) m (r + 1) left = xf (br n cu lo W B) g (XX (br n cu lo W B) m r) left (left + 1) := by
          rw [XX, show m - (r + 1) = g by omega]
        have hrow := hz.2 g (by omega) (by omega)
        rw [show m - g = r + 1 by omega] at hrow
        have hb := hz.1 g (by omega) (by omega)
        have hrow2 := hz.2 (g + 1) (by omega) (by omega)
        rw [show m - (g + 1) = r by omega] at hrow2
        have hYb := XX_b (f := br n cu lo W B) (m := m) hfb r (by omega)
        have hVb := XX_b (f := br n cu lo W B) (m := m) hfb (r + 1) (by omega) left hl
        have nxt : (lm_W ((d + 1)) 13 9 [some (.ref 52), some (.ref 21), some (.int (Int32.ofNat x)), some (.int (Int32.ofNat (left - t))), some (.int (Int32.ofNat t)), some (.int (Int32.ofNat (g + 1)))] [] h (lm_kI K)) := by
          refine ih (g + 1) (by omega) (by omega) (left - t) (by omega) t (fun h1 j h2 h3 => ?_) (fun h1 => ?_)
          · have := hp (by omega) j (by omega) h3
            rw [← this, eX, t3]
            show _ = if j = g then t else _
            rw [if_neg (by omega)]
          · have := hp (by omega) g (Nat.le_refl g) (by omega)
            rw [eX, t3] at this
            have e : (if g = g then t else (XX (br n cu lo W B) m r (left - t)).2.2 g) = (XX (br n cu lo W B) m m 10).2.2 g := this
            rw [if_pos rfl] at e
            have ex : g = x := by omega
            rw [← ex]
            exact ⟨e, by omega⟩
        have lq : ∀ q u : Nat, u + q = t → (lm_W ((d + 1)) 13 27 [some (.ref 52), some (.ref 21), some (.int (Int32.ofNat x)), some (.int (Int32.ofNat left)), some (.int (Int32.ofNat u)), some (.int (Int32.ofNat g))] [] h (lm_kI K)) := by
          intro q
          induction q with
          | zero =>
            intro u hu
            have eu : u = t := by omega
            rw [eu]
            refine b_13_27 _ _ _ _ H.1 ?_
            by_cases ct' : t < left
            · rw [if_pos (by rw [q_lt (by omega) (by omega)]; exact ct')]
              refine cl_10 (f := br n cu lo W B) (Y := XX (br n cu lo W B) m r) (by omega) H.1 (by omega) (by omega) hl (hb t (by omega)) (hrow2 (left - t) (by omega)).1 ?_
              rw [q_m11, q_add, q_in (by omega) (by omega), q_nat (by omega), (hrow left hl).1, if_pos (by rw [lg_cmp_eq, eX, t2]), q_sub (by omega), q_a1]
              exact nxt
            · rw [if_neg (by rw [q_lt (by omega) (by omega)]; exact ct'), q_sub (by omega), q_a1]
              exact nxt
          | succ q ihq =>
            intro u hu
            have hyb := hYb (left - u) (by omega)
            have hvb := hfb g (by omega) u (by omega)
            refine b_13_27 _ _ _ _ H.1 ?_
            rw [if_pos (by rw [q_lt (by omega) (by omega)]; omega)]
            refine cl_10 (f := br n cu lo W B) (Y := XX (br n cu lo W B) m r) (by omega) H.1 (by omega) (by omega) hl (hb u (by omega)) (hrow2 (left - u) (by omega)).1 ?_
            rw [q_m11, q_add, q_in (by omega) (by omega), q_nat (by omega), (hrow left hl).1, if_neg (by rw [lg_cmp_eq, l_eq (by omega) (by omega), eX]; exact t4 u (by omega)), q_a1]
            exact ihq (u + 1) (by omega)
        exact lq t 0 (by omega)
  exact lp m 0 (by omega) (by omega) 10 (by omega) 0 (fun _ j _ _ => rfl) (fun q => by omega)
