/-! Chances: the reference. -/
def rtn (h : lm_H) (n m : Nat) (t : Nat → Nat → Nat) : Prop := ∀ k, k < n → ∀ g, g < m → t k g ≤ 10 ∧ lm_i h 111 (6 * k + g) = Int32.ofNat (t k g)
theorem rtn_fr {S T : List Nat} {h h' : lm_H} {n m : Nat} {t : Nat → Nat → Nat} (a : fr S T h h') (H : rtn h n m t) (h0 : S.contains 111 = false) : rtn h' n m t := by
  intro k hk g hg
  rw [fr_i a h0 (by decide)]
  exact H k hk g hg
theorem cl_240 {D n : Nat} {h : lm_H} {K : Int64 → lm_H → Prop} (hD : 1 ≤ D) (hl : lm_Lay h) (h5 : n ≤ 5) (hK : K (Int64.ofInt (10 ^ n)) h) : lm_call D 240 [.int (Int32.ofNat n)] h (lm_kL K) := by
  obtain ⟨d, rfl⟩ := q_dp hD
  refine e_240 _ hl ?_
  have lp : ∀ r k : Nat, r + k = n → (lm_W (d) 240 4 [some (.int (Int32.ofNat n)), some (.long (Int64.ofInt (10 ^ k))), none, some (.int (Int32.ofNat k))] [] h (lm_kL K)) := by
    intro r
    induction r with
    | zero =>
      intro k hk
      have e : k = n := by omega
      rw [e]
      refine b_240_4 _ _ _ hl ?_
      rw [if_neg (by rw [q_lt (by omega) (by omega)]; omega)]
      exact hK
    | succ r ih =>
      intro k hk
      refine b_240_4 _ _ _ hl ?_
      have e10 : (10 : Int64) = Int64.ofInt 10 := rfl
      rw [if_pos (by rw [q_lt (by omega) (by omega)]; omega), e10, l_mul, ← Int.pow_succ, q_a1]
      exact ih (k + 1) (by omega)
  exact lp n 0 (by omega)
theorem gsh {cu lo w : Int32} {c : Nat} (hc : c < 5) (hlo : -99 ≤ lo ∧ lo ≤ 99) (hw : -99 ≤ w ∧ w ≤ 99) : (q_sh cu c * (w - lo) + 60 * lo).toInt = sh cu c * (w.toInt - lo.toInt) + 60 * lo.toInt := by
  have h2 := q_sh_v cu (c := c) hc
  have hd := sub_b hw hlo
  unfold sh
  generalize q_sh cu c = s at h2
  have e1 : (-99 : Int32).toInt = -99 := rfl
  have e2 : (99 : Int32).toInt = 99 := rfl
  simp only [p_le, e1, e2] at hlo hw
  have h60 : (60 * lo).toInt = 60 * lo.toInt := by
    have : (60 : Int32).toInt = 60 := rfl
    rw [p_tI_mul (by rw [this]; omega) (by rw [this]; omega), this]
  have hs : s.toInt = 60 ∨ s.toInt = 30 ∨ s.toInt = 20 ∨ s.toInt = 15 ∨ s.toInt = 12 ∨ s.toInt = 0 := by
    rcases h2 with h | h | h | h | h | h <;> rw [h] <;> decide
  rcases hs with h | h | h | h | h | h
  all_goals
    have hm : (s * (w - lo)).toInt = s.toInt * (w - lo).toInt := p_tI_mul (by rw [h, hd]; omega) (by rw [h, hd]; omega)
    rw [p_tI_add (by rw [hm, h60, h, hd]; omega) (by rw [hm, h60, h, hd]; omega), hm, h60, h, hd]
theorem cl_241m {D n m x : Nat} {h : lm_H} {K : Int64 → lm_H → Prop} {cu lo : Int32} {W B : Nat → Int32} (hD : 2 ≤ D) (H : rt h n m cu lo W B) (hw : wd n m cu lo W) (hx : x < n) (hK : K (Int64.ofInt (60 * lo.toInt * 10 ^ (n - 1))) h) : lm_call D 241 [.ref 92, .int (Int32.ofNat x), .int (Int32.ofNat m)] h (lm_kL K) := by
  obtain ⟨d, rfl⟩ := q_dp hD
  obtain ⟨hl, h5, h6, hn, hm, h1, h2, h3⟩ := H
  refine e_241 _ _ hl ?_
  rw [hm, if_pos rfl, hn, q_s1 (by omega), h2]
  refine cl_240 (by omega) hl (by omega) ?_
  have e1 : (-99 : Int32).toInt = -99 := rfl
  have e2 : (99 : Int32).toInt = 99 := rfl
  have hlo := hw.2.1
  simp only [p_le, e1, e2] at hlo
  have h60 : (60 * lo).toInt = 60 * lo.toInt := by
    have : (60 : Int32).toInt = 60 := rfl
    rw [p_tI_mul (by rw [this]; omega) (by rw [this]; omega), this]
  rw [l_of, h60, l_mul]
  exact hK
theorem cl_241 {D n m x g : Nat} {h : lm_H} {K : Int64 → lm_H → Prop} {cu lo : Int32} {W B : Nat → Int32} {t : Nat → Nat → Nat} (hD : 2 ≤ D) (H : rt h n m cu lo W B) (hw : wd n m cu lo W) (ht : rtn h n m t) (hx : x < n) (hg : g < m)
    (hK : ∀ h', fr [112] [] h h' → K (Int64.ofInt (bT n cu lo (W (6 * x + g)) x (fun k => t k g) + 60 * lo.toInt * 10 ^ (n - 1))) h') : lm_call D 241 [.ref 92, .int (Int32.ofNat x), .int (Int32.ofNat g)] h (lm_kL K) := by
  obtain ⟨d, rfl⟩ := q_dp hD
  have h5 := H.2.1
  have h6 := H.2.2.1
  have e5 : (5 : Int32) = Int32.ofNat 5 := rfl
  refine e_241 _ _ H.1 ?_
  rw [H.2.2.2.2.1, if_neg (by rw [q_eq (by omega) (by omega)]; omega), q_6m, q_add, q_in (by omega) (by omega), q_nat (by omega), (H.2.2.2.2.2.2.2 x hx g hg).1, H.2.2.2.2.2.2.1]
  -- the last sum
  have l4 : ∀ r k : Nat, r + k = 5 → ∀ z, fr [112] [] h z → (∀ r, r < 6 → lm_l z 112 r = Int64.ofInt (wy cu x (fun k => t k g) n r)) → (lm_W (d + 1) 241 203 [some (.ref 92), none, none, some (.int lo), some (.int (W (6 * x + g))), some (.long (Int64.ofInt (si (fun r => wy cu x (fun k => t k g) n r * (sh cu r * ((W (6 * x + g)).toInt - lo.toInt) + 60 * lo.toInt)) k))), none, some (.int (Int32.ofNat k)), none] [] z (lm_kL K)) := by
    intro r
    induction r with
    | zero =>
      intro k hk z hf g1
      have e : k = 5 := by omega
      rw [e]
      refine b_241_203 _ _ _ _ (fr_Lay hf H.1) ?_
      rw [e5, if_neg (by rw [q_lt (by omega) (by omega)]; omega)]
      have hs : ow x n = n - 1 := by unfold ow; rw [if_pos hx]
      have hsum := wy_sum (cu := cu) (x := x) (T := fun k => t k g) n 5 (by omega)
      rw [hs] at hsum
      have key : si (fun r => wy cu x (fun k => t k g) n r * (sh cu r * ((W (6 * x + g)).toInt - lo.toInt) + 60 * lo.toInt)) 5 = bT n cu lo (W (6 * x + g)) x (fun k => t k g) + 60 * lo.toInt * 10 ^ (n - 1) := by
        have e1 : si (fun r => wy cu x (fun k => t k g) n r * (sh cu r * ((W (6 * x + g)).toInt - lo.toInt) + 60 * lo.toInt)) 5 = si (fun r => (fun r => wy cu x (fun k => t k g) n r * sh cu r * ((W (6 * x + g)).toInt - lo.toInt)) r + (fun r => wy cu x (fun k => t k g) n r * (60 * lo.toInt)) r) 5 := si_c (fun j _ => by simp only; rw [Int.mul_add, Int.mul_assoc])
        rw [e1, si_add, si_mul, si_mul (fun r => wy cu x (fun k => t k g) n r), hsum]
        unfold bT
        rw [Int.mul_comm (10 ^ (n - 1))]
      rw [key]
      exact hK z hf
    | succ r ih =>
      intro k hk z hf g1
      have hi := ih (k + 1) (by omega) z hf g1
      rw [si] at hi
      have hgs := gsh (cu := cu) (c := k) (by omega) hw.2.1 (hw.2.2 x hx g hg)
      have hcu : lm_i z 94 83 = cu := by rw [fr_i hf (by decide) (by decide)]; exact H.2.2.2.2.2.1
      have fin : ∀ v : Int32, v = q_sh cu k * (W (6 * x + g) - lo) + 60 * lo → (lm_W (d + 1) 241 203 [some (.ref 92), none, none, some (.int lo), some (.int (W (6 * x + g))), some (.long (Int64.ofInt (si (fun r => wy cu x (fun k => t k g) n r * (sh cu r * ((W (6 * x + g)).toInt - lo.toInt) + 60 * lo.toInt)) k) + Int64.ofInt (wy cu x (fun k => t k g) n k) * v.toInt64)), none, some (.int (Int32.ofNat (k + 1))), none] [] z (lm_kL K)) := by
        intro v hv
        rw [hv, l_of, hgs, l_mul, l_add]
        exact hi
      refine b_241_203 _ _ _ _ (fr_Lay hf H.1) ?_
      rw [e5, if_pos (by rw [q_lt (by omega) (by omega)]; omega), q_nat (by omega), g1 k (by omega), hcu, q_a1, q_in (by omega) (by omega)]
      by_cases c : k = 0
      · rw [if_pos (by rw [c]; rfl)]
        refine fin _ ?_
        unfold q_sh
        rw [if_pos c]
        grind
      · rw [if_neg (by rw [q_e0 (by omega)]; exact c)]
        by_cases c2 : cu = 2
        · rw [if_pos c2]
          refine ⟨by rw [q_e0 (by omega)]; omega, p_inN (by omega) (by omega) (fin _ ?_)⟩
          have hl := q_lot (c := k) (by omega) (W (6 * x + g)) lo
          rw [q_p1] at hl
          unfold q_sh
          rw [if_neg c, if_pos c2]
          exact hl
        · rw [if_neg c2]
          refine p_inN (by omega) (by omega) (fin _ ?_)
          unfold q_sh
          rw [if_neg c, if_neg c2]
          grind
  -- others
  have l2 : ∀ r k : Nat, r + k = n → ∀ z, fr [112] [] h z → (∀ r, r < 6 → lm_l z 112 r = Int64.ofInt (wy cu x (fun k => t k g) k r)) → (lm_W (d + 1) 241 80 [some (.ref 92), some (.int (Int32.ofNat x)), some (.int (Int32.ofNat g)), some (.int lo), some (.int (W (6 * x + g))), some (.int (Int32.ofNat k)), none, none, none] [] z (lm_kL K)) := by
    intro r
    induction r with
    | zero =>
      intro k hk z hf g1
      have e : k = n := by omega
      rw [e] at g1 ⊢
      have Hz := rt_fr hf H (by decide)
      refine b_241_80 _ _ _ _ _ Hz.1 ?_
      rw [Hz.2.2.2.1, if_neg (by rw [q_lt (by omega) (by omega)]; omega)]
      exact l4 5 0 (by omega) z hf g1
    | succ r ih =>
      intro k hk z hf g1
      have Hz := rt_fr hf H (by decide)
      have htk := rtn_fr hf ht (by decide) k (by omega) g hg
      have hi := ih (k + 1) (by omega)
      -- one other
      have l3 : ∀ u : Nat, u ≤ 10 → ¬ k = x → u = uw cu x (fun k => t k g) k → ∀ y, y ≤ 6 → ∀ z1, fr [112] [] h z1 → (∀ r, r < y → lm_l z1 112 r = Int64.ofInt (wy cu x (fun k => t k g) k r)) → (∀ r, y ≤ r → r < 6 → lm_l z1 112 r = Int64.ofInt (wy cu x (fun k => t k g) (k + 1) r)) → (lm_W (d + 1) 241 136 [some (.ref 92), some (.int (Int32.ofNat x)), some (.int (Int32.ofNat g)), some (.int lo), some (.int (W (6 * x + g))), some (.int (Int32.ofNat k)), some (.int (Int32.ofNat u)), some (.int (Int32.ofNat y - 1)), none] [] z1 (lm_kL K)) := by
        intro u hu hne hue y
        induction y with
        | zero =>
          intro _ z1 hf1 k1 k2
          refine b_241_136 _ _ _ _ _ _ _ (fr_Lay hf1 H.1) ?_
          rw [if_pos (by decide), q_a1]
          exact hi z1 hf1 (fun r hr => k2 r (by omega) hr)
        | succ y ihy =>
          intro hy z1 hf1 k1 k2
          rw [q_p1]
          refine b_241_136 _ _ _ _ _ _ _ (fr_Lay hf1 H.1) ?_
          rw [if_neg (by rw [q_lt0 (by omega)]; exact id), q_in (by omega) (by omega), q_nat (by omega), k1 y (by omega), l_ten hu, l_mul]
          by_cases c0 : y = 0
          · rw [if_pos (by rw [c0]; rfl), q_in (by omega) (by omega)]
            refine ihy (by omega) _ (fr_sl hf1 (by decide) (by decide) _ _) (fun r hr => by omega) (fun r h1 h2 => ?_)
            rw [pl_sl, if_pos rfl]
            by_cases er : r = y
            · rw [if_pos er, er, wy, if_neg hne, if_pos c0, ← hue]
              have e0 : (0 : Int64) = Int64.ofInt 0 := rfl
              rw [e0, l_add]
            · rw [if_neg er]
              exact k2 r (by omega) h2
          · rw [if_neg (by rw [q_e0 (by omega)]; exact c0), q_s1 (by omega), q_in (by omega) (by omega), q_in (by omega) (by omega), q_nat (by omega), k1 (y - 1) (by omega), l_nat (by omega), l_mul, l_add]
            have := ihy (by omega) (lm_sl z1 112 y (Int64.ofInt (wy cu x (fun k => t k g) k y * (10 - (u : Int)) + wy cu x (fun k => t k g) k (y - 1) * (u : Int)))) (fr_sl hf1 (by decide) (by decide) _ _) (fun r hr => by rw [pl_sl, if_pos rfl, if_neg (by omega)]; exact k1 r (by omega)) (fun r h1 h2 => by
              rw [pl_sl, if_pos rfl]
              by_cases er : r = y
              · rw [if_pos er, er, wy, if_neg hne, if_neg c0, ← hue]
              · rw [if_neg er]
                exact k2 r (by omega) h2)
            rw [q_s1 (by omega)] at this
            exact this
      have start : ∀ u : Nat, u ≤ 10 → ¬ k = x → u = uw cu x (fun k => t k g) k → (lm_W (d + 1) 241 136 [some (.ref 92), some (.int (Int32.ofNat x)), some (.int (Int32.ofNat g)), some (.int lo), some (.int (W (6 * x + g))), some (.int (Int32.ofNat k)), some (.int (Int32.ofNat u)), some (.int 5), none] [] z (lm_kL K)) := fun u hu hne hue => l3 u hu hne hue 6 (by omega) z hf g1 (fun r h1 h2 => by omega)
      refine b_241_80 _ _ _ _ _ Hz.1 ?_
      rw [Hz.2.2.2.1, Hz.2.2.2.2.2.1, if_pos (by rw [q_lt (by omega) (by omega)]; omega), q_6m, q_add, q_nat (by omega), q_in (by omega) (by omega), htk.2]
      by_cases c : k = x
      · rw [if_pos (by rw [c]), q_a1]
        exact hi z hf (fun r hr => by rw [g1 r hr, wy, if_pos c])
      · rw [if_neg (by rw [q_eq (by omega) (by omega)]; exact c)]
        by_cases c1 : cu = 1
        · rw [if_pos c1]
          by_cases c2 : x < k
          · rw [if_pos (by rw [q_lt (by omega) (by omega)]; exact c2)]
            exact start 0 (by omega) c (by unfold uw; rw [if_pos ⟨c1, c2⟩])
          · rw [if_neg (by rw [q_lt (by omega) (by omega)]; exact c2)]
            exact start _ htk.1 c (by unfold uw; rw [if_neg (fun q => c2 q.2)])
        · rw [if_neg c1]
          exact start _ htk.1 c (by unfold uw; rw [if_neg (fun q => c1 q.1)])
  have l1 : ∀ r k : Nat, r + k = 6 → ∀ z, fr [112] [] h z → (∀ r, r < k → lm_l z 112 r = Int64.ofInt (wy cu x (fun k => t k g) 0 r)) → (lm_W (d + 1) 241 48 [some (.ref 92), some (.int (Int32.ofNat x)), some (.int (Int32.ofNat g)), some (.int lo), some (.int (W (6 * x + g))), some (.int (Int32.ofNat k)), none, none, none] [] z (lm_kL K)) := by
    intro r
    induction r with
    | zero =>
      intro k hk z hf g1
      have e : k = 6 := by omega
      rw [e] at g1 ⊢
      refine b_241_48 _ _ _ _ _ (fr_Lay hf H.1) ?_
      rw [if_pos (by decide)]
      exact l2 n 0 (by omega) z hf g1
    | succ r ih =>
      intro k hk z hf g1
      have fin : ∀ v : Int64, v = Int64.ofInt (if k = 0 then 1 else 0) → (lm_W (d + 1) 241 48 [some (.ref 92), some (.int (Int32.ofNat x)), some (.int (Int32.ofNat g)), some (.int lo), some (.int (W (6 * x + g))), some (.int (Int32.ofNat (k + 1))), none, none, none] [] (lm_sl z 112 k v) (lm_kL K)) := by
        intro v hv
        refine ih (k + 1) (by omega) _ (fr_sl hf (by decide) (by decide) _ _) (fun r hr => ?_)
        rw [pl_sl, if_pos rfl]
        by_cases er : r = k
        · rw [if_pos er, er, hv]
          rfl
        · rw [if_neg er]
          exact g1 r (by omega)
      refine b_241_48 _ _ _ _ _ (fr_Lay hf H.1) ?_
      rw [e5, if_neg (by rw [q_lt (by omega) (by omega)]; omega), q_in (by omega) (by omega), q_nat (by omega), q_a1]
      by_cases c : k = 0
      · rw [if_pos (by rw [c]; rfl)]
        exact fin _ (by rw [if_pos c]; rfl)
      · rw [if_neg (by rw [q_e0 (by omega)]; exact c)]
        exact p_inN (by omega) (by omega) (fin _ (by rw [if_neg c]; rfl))
  exact l1 6 0 (by omega) h (fr_refl _ _ _) (fun r hr => by omega)
