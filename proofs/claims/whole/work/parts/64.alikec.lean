/-! Alike: the class. -/
theorem cl_8 {D n m g t : Nat} {h : lm_H} {K : Int64 → lm_H → Prop} {cu lo : Int32} {W B : Nat → Int32} (hD : 4 ≤ D) (H : ct h 21 n m cu lo W B) (hw : wd n m cu lo W) (hg : g < m) (ht : t ≤ 10)
    (hK : ∀ h', fr [53, 54] [] h h' → K (Int64.ofInt (br n cu lo W B g t)) h') : lm_call D 8 [.ref 52, .ref 21, .int (Int32.ofNat g), .int (Int32.ofNat t)] h (lm_kL K) := by
  obtain ⟨d, rfl⟩ := q_dp hD
  have h5 := H.2.1
  have h6 := H.2.2.1
  refine e_8 _ _ H.1 ?_
  have l2 : ∀ r k : Nat, r + k = n → ∀ z, fr [53, 54] [] h z → (∀ j, j < n → lm_i z 53 (j * 6 + g) = Int32.ofNat (if B (6 * j + g) = 0 then t else 0)) → (lm_W ((d + 2) + 1) 8 54 [some (.ref 52), some (.ref 21), some (.int (Int32.ofNat g)), none, some (.long (Int64.ofInt (si (fun x => ((if B (6 * x + g) = 0 then t else 0 : Nat) : Int) * bT n cu lo (W (6 * x + g)) x (fun k => if B (6 * k + g) = 0 then t else 0)) k))), none, some (.int (Int32.ofNat k))] [] z (lm_kL K)) := by
    intro r
    induction r with
    | zero =>
      intro k hk z hf ht1
      have e : k = n := by omega
      rw [e]
      have Hz := ct_fr hf H (by decide)
      refine b_8_54 _ _ _ Hz.1 ?_
      rw [Hz.2.2.2.1, if_neg (by rw [q_lt (by omega) (by omega)]; omega)]
      exact hK z hf
    | succ r ih =>
      intro k hk z hf ht1
      have Hz := ct_fr hf H (by decide)
      refine b_8_54 _ _ _ Hz.1 ?_
      rw [Hz.2.2.2.1, if_pos (by rw [q_lt (by omega) (by omega)]; omega), q_m6, q_add, q_in (by omega) (by omega), q_nat (by omega), ht1 k (by omega)]
      refine cl_3c (T := fun k => if B (6 * k + g) = 0 then t else 0) (by omega) Hz hw (fun j hj => ⟨by split <;> omega, ht1 j hj⟩) (by omega) hg (fun z1 hf1 => ?_)
      rw [l_nat (by split <;> omega), l_mul, l_add, q_a1]
      refine ih (k + 1) (by omega) z1 (fr_trans hf (fr_sub hf1 (by decide) (by decide))) (fun j hj => ?_)
      rw [fr_i hf1 (by decide) (by decide)]
      exact ht1 j hj
  have l1 : ∀ r k : Nat, r + k = n → ∀ z, fr [53, 54] [] h z → (∀ j, j < k → lm_i z 53 (j * 6 + g) = Int32.ofNat (if B (6 * j + g) = 0 then t else 0)) → (lm_W ((d + 2) + 1) 8 3 [some (.ref 52), some (.ref 21), some (.int (Int32.ofNat g)), some (.int (Int32.ofNat t)), some (.int (Int32.ofNat k)), none, none] [] z (lm_kL K)) := by
    intro r
    induction r with
    | zero =>
      intro k hk z hf ht1
      have e : k = n := by omega
      rw [e] at ht1 ⊢
      have Hz := ct_fr hf H (by decide)
      refine b_8_3 _ _ _ Hz.1 ?_
      rw [Hz.2.2.2.1, if_neg (by rw [q_lt (by omega) (by omega)]; omega)]
      exact l2 n 0 (by omega) z hf ht1
    | succ r ih =>
      intro k hk z hf ht1
      have Hz := ct_fr hf H (by decide)
      have hb : lm_i z 23 (k * 7 + g) = B (6 * k + g) := (Hz.2.2.2.2.2.2.2.1 k (by omega) g hg).2
      have fin : ∀ v : Nat, v = (if B (6 * k + g) = 0 then t else 0) → (lm_W ((d + 2) + 1) 8 3 [some (.ref 52), some (.ref 21), some (.int (Int32.ofNat g)), some (.int (Int32.ofNat t)), some (.int (Int32.ofNat (k + 1))), none, none] [] (lm_si z 53 (k * 6 + g) (Int32.ofNat v)) (lm_kL K)) := by
        intro v hv
        refine ih (k + 1) (by omega) _ (fr_si hf (by decide) (by decide) _ _) (fun j hj => ?_)
        rw [pi_si, if_pos rfl]
        by_cases ej : j = k
        · rw [if_pos (by rw [ej]), ej, hv]
        · rw [if_neg (by omega)]
          exact ht1 j (by omega)
      refine b_8_3 _ _ _ Hz.1 ?_
      rw [Hz.2.2.2.1, if_pos (by rw [q_lt (by omega) (by omega)]; omega), q_m7, q_m6, q_add, q_add, q_in (by omega) (by omega), q_nat (by omega), q_nat (by omega), hb, q_a1]
      by_cases c : B (6 * k + g) = 0
      · rw [if_pos c]
        exact p_inN (by omega) (by omega) (fin t (by rw [if_pos c]))
      · rw [if_neg c]
        exact p_inN (by omega) (by omega) (fin 0 (by rw [if_neg c]))
  exact l1 n 0 (by omega) h (fr_refl _ _ _) (fun j hj => by omega)
theorem q_m11 (a : Nat) : Int32.ofNat a * 11 = Int32.ofNat (a * 11) := q_mul a 11
theorem cl_10 {D g t left : Nat} {h : lm_H} {K : Int64 → lm_H → Prop} {f : Nat → Nat → Int} {Y : Nat → aT} (hD : 1 ≤ D) (hl : lm_Lay h) (hg : g < 6) (ht : t ≤ left) (hle : left ≤ 10) (h1 : lm_l h 55 (g * 11 + t) = Int64.ofInt (f g t)) (h2 : lm_l h 56 ((g + 1) * 11 + (left - t)) = Int64.ofInt (Y (left - t)).1) (hK : K (Int64.ofInt (f g t + (Y (left - t)).1)) h) : lm_call D 10 [.ref 52, .int (Int32.ofNat g), .int (Int32.ofNat t), .int (Int32.ofNat left)] h (lm_kL K) := by
  obtain ⟨d, rfl⟩ := q_dp hD
  refine e_10 _ _ _ hl ?_
  rw [q_a1, q_m11, q_m11, q_add, q_add, q_sub (by omega), q_in (by omega) (by omega), q_in (by omega) (by omega), q_nat (by omega), q_nat (by omega), h1, show (g + 1) * 11 + left - t = (g + 1) * 11 + (left - t) by omega, h2, l_add]
  exact hK
/-- the rows of guest g's next -/
def rY (h : lm_H) (g : Nat) (Y : Nat → aT) : Prop := ∀ l, l ≤ 10 → lm_l h 56 (g * 11 + l) = Int64.ofInt (Y l).1 ∧ lm_i h 57 (g * 11 + l) = Int32.ofNat (Y l).2.1
theorem cl_9 {D m g left : Nat} {h : lm_H} {K : lm_H → Prop} {f : Nat → Nat → Int} {r : Nat} (hD : 2 ≤ D) (hl : lm_Lay h) (hm : m ≤ 6) (hgr : g + (r + 1) = m) (hle : left ≤ 10) (hf : ∀ g, g < m → ∀ t, t ≤ 10 → -6000000000 ≤ f g t ∧ f g t ≤ 6000000000) (h1 : ∀ t, t ≤ 10 → lm_l h 55 (g * 11 + t) = Int64.ofInt (f g t)) (h2 : rY h (g + 1) (XX f m r))
    (hK : ∀ h', fr [56, 57] [] h h' → (∀ j, ¬ j = g * 11 + left → lm_l h' 56 j = lm_l h 56 j ∧ lm_i h' 57 j = lm_i h 57 j) → lm_l h' 56 (g * 11 + left) = Int64.ofInt (XX f m (r + 1) left).1 → lm_i h' 57 (g * 11 + left) = Int32.ofNat (XX f m (r + 1) left).2.1 → K h') : lm_call D 9 [.ref 52, .int (Int32.ofNat g), .int (Int32.ofNat left)] h (lm_kV K) := by
  obtain ⟨d, rfl⟩ := q_dp hD
  have eg : m - (r + 1) = g := by omega
  have hYb := XX_b (f := f) (m := m) hf r (by omega)
  have hYc : ∀ l, l ≤ 10 → (XX f m r l).2.1 ≤ 1771561 := by
    intro l hl
    have h1 := XX_le (f := f) (m := m) r l hl
    have h2 : 11 ^ r ≤ 11 ^ 6 := Nat.pow_le_pow_right (by omega) (by omega)
    have h3 : (11 : Nat) ^ 6 = 1771561 := rfl
    omega
  refine e_9 _ _ hl ?_
  rw [q_m11, q_add, q_in (by omega) (by omega), q_nat (by omega)]
  have lp : ∀ q t : Nat, q + t = left + 1 → ∀ z, fr [56, 57] [] h z → (∀ j, ¬ j = g * 11 + left → lm_l z 56 j = lm_l h 56 j ∧ lm_i z 57 j = lm_i h 57 j) → lm_i z 57 (g * 11 + left) = Int32.ofNat (xf f g (XX f m r) left t).2.1 → (0 < t → lm_l z 56 (g * 11 + left) = Int64.ofInt (xf f g (XX f m r) left t).1) → (lm_W ((d + 1)) 9 17 [some (.ref 52), some (.int (Int32.ofNat g)), some (.int (Int32.ofNat left)), some (.int (Int32.ofNat (g * 11 + left))), some (.int (Int32.ofNat t)), none, none] [] z (lm_kV K)) := by
    intro q
    induction q with
    | zero =>
      intro t ht z hfz hno hc hv
      have e : t = left + 1 := by omega
      rw [e] at hc hv
      refine b_9_17 _ _ _ _ (fr_Lay hfz hl) ?_
      rw [if_pos (by rw [q_lt (by omega) (by omega)]; omega)]
      refine hK z hfz hno ?_ ?_
      · rw [hv (by omega), XX, eg]
      · rw [hc, XX, eg]
    | succ q ih =>
      intro t ht z hfz hno hc hv
      have hi := ih (t + 1) (by omega)
      have hz55 : lm_l z 55 (g * 11 + t) = Int64.ofInt (f g t) := by rw [fr_l hfz (by decide) (by decide)]; exact h1 t (by omega)
      have hz56 : lm_l z 56 ((g + 1) * 11 + (left - t)) = Int64.ofInt (XX f m r (left - t)).1 := by rw [(hno _ (by omega)).1]; exact (h2 (left - t) (by omega)).1
      have hz57 : lm_i z 57 ((g + 1) * 11 + (left - t)) = Int32.ofNat (XX f m r (left - t)).2.1 := by rw [(hno _ (by omega)).2]; exact (h2 (left - t) (by omega)).2
      have hxc : (xf f g (XX f m r) left t).2.1 ≤ t * 1771561 := xf_le (fun j hj => hYc j (by omega)) t (by omega)
      have hval := hf g (by omega) t (by omega)
      have hyb := hYb (left - t) (by omega)
      refine b_9_17 _ _ _ _ (fr_Lay hfz hl) ?_
      rw [if_neg (by rw [q_lt (by omega) (by omega)]; omega)]
      refine cl_10 (f := f) (Y := XX f m r) (by omega) (fr_Lay hfz hl) (by omega) (by omega) hle hz55 hz56 ?_
      have e11 : Int32.ofNat (g * 11 + left) + 11 - Int32.ofNat t = Int32.ofNat ((g + 1) * 11 + (left - t)) := by
        rw [show (11 : Int32) = Int32.ofNat 11 from rfl, q_add, q_sub (by omega)]
        congr 1
        omega
      rw [e11, q_in (by omega) (by omega), q_nat (by omega), q_nat (by omega), hc, hz57, q_a1]
      -- where the value is taken
      have new : (xf f g (XX f m r) left t).2.1 = 0 ∨ (xf f g (XX f m r) left t).1 < f g t + (XX f m r (left - t)).1 → (lm_W ((d + 1)) 9 17 [some (.ref 52), some (.int (Int32.ofNat g)), some (.int (Int32.ofNat left)), some (.int (Int32.ofNat (g * 11 + left))), some (.int (Int32.ofNat (t + 1))), none, none] [] (lm_si (lm_sl z 56 (g * 11 + left) (Int64.ofInt (f g t + (XX f m r (left - t)).1))) 57 (g * 11 + left) (Int32.ofNat (XX f m r (left - t)).2.1)) (lm_kV K)) := by
        intro c
        have ex : xf f g (XX f m r) left (t + 1) = sf f g t (XX f m r (left - t)) := by
          rw [xf, cm, if_pos (show (xf f g (XX f m r) left t).2.1 = 0 ∨ (xf f g (XX f m r) left t).1 < (sf f g t (XX f m r (left - t))).1 from c)]
        refine hi _ (fr_si (fr_sl hfz (by decide) (by decide) _ _) (by decide) (by decide) _ _) (fun j hj => ?_) ?_ (fun _ => ?_)
        · rw [pl_si, pl_sl, if_pos rfl, if_neg hj, pi_si, if_pos rfl, if_neg hj, pi_sl]
          exact hno j hj
        · rw [pi_si, if_pos rfl, if_pos rfl, ex]
          rfl
        · rw [pl_si, pl_sl, if_pos rfl, if_pos rfl, ex]
          rfl
      by_cases c0 : (xf f g (XX f m r) left t).2.1 = 0
      · rw [if_pos (by rw [c0]; rfl)]
        exact p_inN (by omega) (by omega) (p_inN (by omega) (by omega) (p_inN (by omega) (by omega) (new (Or.inl c0))))
      · rw [if_neg (by rw [q_e0 (by omega)]; exact c0)]
        refine p_inN (by omega) (by omega) ?_
        have ht0 : 0 < t := by
          by_cases e : t = 0
          · rw [e] at c0; exact absurd rfl c0
          · omega
        have hvb : -36000000000 ≤ (xf f g (XX f m r) left t).1 ∧ (xf f g (XX f m r) left t).1 ≤ 36000000000 := by
          have := xf_b (f := f) (g := g) (Y := XX f m r) (left := left) (q := 36000000000) (fun j hj => by
            have a1 := hf g (by omega) j (by omega)
            have a2 := hYb (left - j) (by omega)
            omega) (t - 1) (by omega)
          rw [show t - 1 + 1 = t by omega] at this
          exact this
        rw [hv ht0]
        by_cases c1 : (xf f g (XX f m r) left t).1 < f g t + (XX f m r (left - t)).1
        · rw [if_pos (by rw [lg_cmp_gt, l_lt (by omega) (by omega)]; exact c1)]
          exact p_inN (by omega) (by omega) (p_inN (by omega) (by omega) (p_inN (by omega) (by omega) (new (Or.inr c1))))
        · rw [if_neg (by rw [lg_cmp_gt, l_lt (by omega) (by omega)]; exact c1)]
          refine p_inN (by omega) (by omega) ?_
          have cn : ¬ ((xf f g (XX f m r) left t).2.1 = 0 ∨ (xf f g (XX f m r) left t).1 < (sf f g t (XX f m r (left - t))).1) := by rintro (z | z); exact c0 z; exact c1 z
          by_cases c2 : f g t + (XX f m r (left - t)).1 = (xf f g (XX f m r) left t).1
          · rw [if_pos (by rw [lg_cmp_eq, c2])]
            have ex : xf f g (XX f m r) left (t + 1) = ((xf f g (XX f m r) left t).1, (xf f g (XX f m r) left t).2.1 + (XX f m r (left - t)).2.1, (xf f g (XX f m r) left t).2.2) := by
              rw [xf, cm, if_neg cn, if_pos (show (sf f g t (XX f m r (left - t))).1 = _ from c2)]
              rfl
            rw [q_add]
            refine p_inN (by omega) (by omega) (p_inN (by omega) (by omega) (p_inN (by omega) (by omega) ?_))
            refine hi _ (fr_si hfz (by decide) (by decide) _ _) (fun j hj => ?_) ?_ (fun _ => ?_)
            · rw [pl_si, pi_si, if_pos rfl, if_neg hj]
              exact hno j hj
            · rw [pi_si, if_pos rfl, if_pos rfl, ex]
            · rw [pl_si, hv ht0, ex]
          · rw [if_neg (by rw [lg_cmp_eq, l_eq (by omega) (by omega)]; exact c2)]
            have ex : xf f g (XX f m r) left (t + 1) = xf f g (XX f m r) left t := by
              rw [xf, cm, if_neg cn, if_neg (show ¬ (sf f g t (XX f m r (left - t))).1 = _ from c2)]
            refine hi z hfz hno ?_ (fun _ => ?_)
            · rw [hc, ex]
            · rw [hv ht0, ex]
  refine lp (left + 1) 0 (by omega) _ (fr_si (fr_refl _ _ _) (by decide) (by decide) _ _) (fun j hj => ?_) ?_ (fun q => by omega)
  · rw [pl_si, pi_si, if_pos rfl, if_neg hj]
    exact ⟨rfl, rfl⟩
  · rw [pi_si, if_pos rfl, if_pos rfl]
    rfl
