/-! Chances: numbers, and the class's side. -/
theorem l_add (a b : Int) : Int64.ofInt a + Int64.ofInt b = Int64.ofInt (a + b) := (Int64.ofInt_add a b).symm
theorem l_mul (a b : Int) : Int64.ofInt a * Int64.ofInt b = Int64.ofInt (a * b) := (Int64.ofInt_mul a b).symm
theorem l_of (x : Int32) : x.toInt64 = Int64.ofInt x.toInt := by
  rw [← Int32.toInt_toInt64, Int64.ofInt_toInt]
theorem l_nat {t : Nat} (ht : t < 2147483648) : (Int32.ofNat t).toInt64 = Int64.ofInt t := by rw [l_of, p_onI ht]
theorem l_ten {t : Nat} (ht : t ≤ 10) : (10 - Int32.ofNat t).toInt64 = Int64.ofInt (10 - t) := by
  rw [l_of, p_tI_sub (by rw [p_onI (by omega)]; show -2147483648 ≤ (10 : Int) - t; omega) (by rw [p_onI (by omega)]; show (10 : Int) - t < 2147483648; omega), p_onI (by omega)]
  rfl
def si (f : Nat → Int) : Nat → Int
  | 0 => 0
  | n + 1 => si f n + f n
theorem si_c {f g : Nat → Int} {n : Nat} (h : ∀ j, j < n → f j = g j) : si f n = si g n := by
  induction n with
  | zero => rfl
  | succ n ih => rw [si, si, ih (fun j hj => h j (by omega)), h n (by omega)]
theorem si_add (f g : Nat → Int) (n : Nat) : si (fun j => f j + g j) n = si f n + si g n := by
  induction n with
  | zero => rfl
  | succ n ih => rw [si, si, si, ih]; omega
theorem si_mul (f : Nat → Int) (c : Int) (n : Nat) : si (fun j => f j * c) n = si f n * c := by
  induction n with
  | zero => rw [si, si, Int.zero_mul]
  | succ n ih => rw [si, si, ih, Int.add_mul]
/-- by how much another host matters to x -/
def uw (cu : Int32) (x : Nat) (T : Nat → Nat) (k : Nat) : Nat := if cu = 1 ∧ x < k then 0 else T k
/-- in how many ways r of the first k hosts stand in x's way -/
def wy (cu : Int32) (x : Nat) (T : Nat → Nat) : Nat → Nat → Int
  | 0, r => if r = 0 then 1 else 0
  | k + 1, r => if k = x then wy cu x T k r else wy cu x T k r * (10 - (uw cu x T k : Int)) + (if r = 0 then 0 else wy cu x T k (r - 1) * (uw cu x T k : Int))
/-- hosts other than x among the first k -/
def ow (x k : Nat) : Nat := if x < k then k - 1 else k
theorem wy_zero {cu : Int32} {x : Nat} {T : Nat → Nat} : ∀ k r, ow x k < r → wy cu x T k r = 0 := by
  intro k
  induction k with
  | zero =>
    intro r hr
    rw [wy, if_neg (by unfold ow at hr; rw [if_neg (by omega)] at hr; omega)]
  | succ k ih =>
    intro r hr
    rw [wy]
    by_cases e : k = x
    · rw [if_pos e]
      refine ih r ?_
      unfold ow at hr ⊢
      rw [if_pos (by omega)] at hr
      rw [if_neg (by omega)]
      omega
    · have h1 : ow x k + 1 = ow x (k + 1) := by
        unfold ow
        by_cases c : x < k
        · rw [if_pos c, if_pos (by omega)]; omega
        · rw [if_neg c, if_neg (by omega)]
      rw [if_neg e, ih r (by omega), if_neg (by omega), ih (r - 1) (by omega)]
      omega
theorem wy_sum {cu : Int32} {x : Nat} {T : Nat → Nat} : ∀ k R, ow x k < R → si (wy cu x T k) R = 10 ^ ow x k := by
  intro k
  induction k with
  | zero =>
    intro R hR
    have : ∀ R, 0 < R → si (wy cu x T 0) R = 1 := by
      intro R
      induction R with
      | zero => intro h; omega
      | succ R ih =>
        intro _
        rw [si]
        by_cases e : R = 0
        · subst e; rfl
        · rw [ih (by omega), wy, if_neg e]; rfl
    have e : ow x 0 = 0 := by unfold ow; rw [if_neg (by omega)]
    rw [e] at hR ⊢
    exact this R hR
  | succ k ih =>
    intro R hR
    by_cases e : k = x
    · have h1 : ow x (k + 1) = ow x k := by
        unfold ow
        rw [if_pos (by omega), if_neg (by omega)]
        omega
      rw [h1] at hR ⊢
      rw [← ih R hR]
      exact si_c (fun j _ => by rw [wy, if_pos e])
    · have h1 : ow x k + 1 = ow x (k + 1) := by
        unfold ow
        by_cases c : x < k
        · rw [if_pos c, if_pos (by omega)]; omega
        · rw [if_neg c, if_neg (by omega)]
      have h2 : ∀ R, si (wy cu x T (k + 1)) (R + 1) = si (wy cu x T k) (R + 1) * (10 - (uw cu x T k : Int)) + si (wy cu x T k) R * (uw cu x T k : Int) := by
        intro R
        induction R with
        | zero =>
          have z : si (wy cu x T k) 0 = 0 := rfl
          have z2 : si (wy cu x T (k + 1)) 0 = 0 := rfl
          have z3 : si (wy cu x T (k + 1)) (0 + 1) = si (wy cu x T (k + 1)) 0 + wy cu x T (k + 1) 0 := rfl
          have z4 : si (wy cu x T k) (0 + 1) = si (wy cu x T k) 0 + wy cu x T k 0 := rfl
          rw [z3, z4, z, z2, wy, if_neg e, if_pos rfl]
          grind
        | succ R ih2 =>
          rw [si, ih2, si, si]
          rw [show wy cu x T (k + 1) (R + 1) = wy cu x T k (R + 1) * (10 - (uw cu x T k : Int)) + wy cu x T k R * (uw cu x T k : Int) by rw [wy, if_neg e, if_neg (by omega)]; rfl]
          rw [si]
          grind
      rw [show R = (R - 1) + 1 by omega, h2, show R - 1 + 1 = R by omega, ih R (by omega), ih (R - 1) (by omega), ← h1]
      rw [Int.pow_succ]
      grind
/-- shares as numbers -/
def sh (cu : Int32) (r : Nat) : Int := (q_sh cu r).toInt
/-- what host x has more than alone by a tenth -/
def bT (n : Nat) (cu lo w : Int32) (x : Nat) (T : Nat → Nat) : Int := si (fun r => wy cu x T n r * sh cu r) 5 * (w.toInt - lo.toInt)
theorem l_rows {h : lm_H} {c k : Nat} {v : Int64} {b : Nat} (hn : b ≠ c) : lm_l (lm_sl h c k v) b = lm_l h b := by
  funext j
  rw [pl_sl, if_neg hn]
theorem cl_4 {D t : Nat} {h : lm_H} {K : lm_H → Prop} {a : Nat → Int} (hD : 1 ≤ D) (hl : lm_Lay h) (ht : t ≤ 10) (ha : ∀ r, r < 5 → lm_l h 54 r = Int64.ofInt (a r))
    (hK : ∀ h', fr [54] [] h h' → (∀ r, r < 5 → lm_l h' 54 r = Int64.ofInt (a r * (10 - t) + (if r = 0 then 0 else a (r - 1) * t))) → K h') : lm_call D 4 [.ref 52, .int (Int32.ofNat t)] h (lm_kV K) := by
  obtain ⟨d, rfl⟩ := q_dp hD
  refine e_4 _ hl ?_
  have lp : ∀ x, x ≤ 4 → ∀ z, fr [54] [] h z → (∀ r, r ≤ x → lm_l z 54 r = Int64.ofInt (a r)) → (∀ r, x < r → r < 5 → lm_l z 54 r = Int64.ofInt (a r * (10 - t) + (if r = 0 then 0 else a (r - 1) * t))) → (lm_W (d) 4 2 [some (.ref 52), some (.int (Int32.ofNat t)), some (.int (Int32.ofNat x))] [] z (lm_kV K)) := by
    intro x
    induction x with
    | zero =>
      intro _ z hf g1 g2
      refine b_4_2 _ _ (fr_Lay hf hl) ?_
      rw [if_neg (by decide)]
      refine hK _ (fr_sl hf (by decide) (by decide) _ _) (fun r hr => ?_)
      rw [pl_sl, if_pos rfl]
      by_cases e : r = 0
      · rw [if_pos e, e, if_pos rfl, Int.add_zero, g1 0 (by omega), l_ten ht, l_mul]
      · rw [if_neg e]
        exact g2 r (by omega) hr
    | succ x ih =>
      intro hx z hf g1 g2
      refine b_4_2 _ _ (fr_Lay hf hl) ?_
      rw [if_pos (by rw [q_0l (by omega)]; omega), q_p1, q_in (by omega) (by omega), q_in (by omega) (by omega), q_in (by omega) (by omega), q_nat (by omega), q_nat (by omega), g1 (x + 1) (by omega), g1 x (by omega), l_ten ht, l_nat (by omega), l_mul, l_mul, l_add]
      refine ih (by omega) _ (fr_sl hf (by decide) (by decide) _ _) (fun r hr => ?_) (fun r h1 h2 => ?_)
      · rw [pl_sl, if_pos rfl, if_neg (by omega)]
        exact g1 r (by omega)
      · rw [pl_sl, if_pos rfl]
        by_cases e : r = x + 1
        · rw [if_pos e, e, if_neg (by omega)]
          rfl
        · rw [if_neg e]
          exact g2 r (by omega) h2
  exact lp 4 (by omega) h (fr_refl _ _ _) (fun r hr => ha r (by omega)) (fun r h1 h2 => by omega)
/-- tenths as the class has them -/
def ctn (h : lm_H) (n m : Nat) (t : Nat → Nat → Nat) : Prop := ∀ k, k < n → ∀ g, g < m → t k g ≤ 10 ∧ lm_i h 53 (k * 6 + g) = Int32.ofNat (t k g)
theorem sub_b {w lo : Int32} (hw : -99 ≤ w ∧ w ≤ 99) (hlo : -99 ≤ lo ∧ lo ≤ 99) : (w - lo).toInt = w.toInt - lo.toInt := by
  have e1 : (-99 : Int32).toInt = -99 := rfl
  have e2 : (99 : Int32).toInt = 99 := rfl
  simp only [p_le, e1, e2] at hlo hw
  exact p_tI_sub (by omega) (by omega)
theorem cl_3c {D n m x g : Nat} {h : lm_H} {K : Int64 → lm_H → Prop} {cu lo : Int32} {W B : Nat → Int32} {T : Nat → Nat} (hD : 3 ≤ D) (H : ct h 21 n m cu lo W B) (hw : wd n m cu lo W) (ht : ∀ k, k < n → T k ≤ 10 ∧ lm_i h 53 (k * 6 + g) = Int32.ofNat (T k)) (hx : x < n) (hg : g < m)
    (hK : ∀ h', fr [54] [] h h' → K (Int64.ofInt (bT n cu lo (W (6 * x + g)) x T)) h') : lm_call D 3 [.ref 52, .ref 21, .int (Int32.ofNat x), .int (Int32.ofNat g)] h (lm_kL K) := by
  obtain ⟨d, rfl⟩ := q_dp hD
  have h5 := H.2.1
  have h6 := H.2.2.1
  refine e_3 _ _ H.1 ?_
  refine cl_269c54 (by omega) H.1 _ ?_
  -- the sum of shares
  have l2 : ∀ r k : Nat, r + k = 5 → ∀ z, fr [54] [] h z → (∀ r, r < 5 → lm_l z 54 r = Int64.ofInt (wy cu x T n r)) → (lm_W ((d + 1) + 1) 3 90 [some (.ref 52), some (.ref 21), some (.int (Int32.ofNat x)), some (.int (Int32.ofNat g)), some (.long (Int64.ofInt (si (fun r => wy cu x T n r * sh cu r) k))), none, some (.int (Int32.ofNat k))] [] z (lm_kL K)) := by
    intro r
    induction r with
    | zero =>
      intro k hk z hf g1
      have e : k = 5 := by omega
      rw [e]
      have Hz := ct_fr hf H (by decide)
      have e5 : (5 : Int32) = Int32.ofNat 5 := rfl
      have hwo : lm_i z 22 (x * 7 + g) = W (6 * x + g) := (Hz.2.2.2.2.2.2.2.1 x hx g hg).1
      refine b_3_90 _ _ _ _ Hz.1 ?_
      rw [e5, if_neg (by rw [q_lt (by omega) (by omega)]; omega), q_m7, q_add, q_in (by omega) (by omega), q_nat (by omega), hwo, Hz.2.2.2.2.2.2.1, l_of, sub_b (hw.2.2 x hx g hg) hw.2.1, l_mul]
      exact hK z hf
    | succ r ih =>
      intro k hk z hf g1
      have Hz := ct_fr hf H (by decide)
      have e5 : (5 : Int32) = Int32.ofNat 5 := rfl
      refine b_3_90 _ _ _ _ Hz.1 ?_
      rw [e5, if_pos (by rw [q_lt (by omega) (by omega)]; omega), q_in (by omega) (by omega), q_nat (by omega)]
      refine cl_70 (by omega) Hz.1 Hz.2.2.2.2.2.1 (by omega) ?_
      rw [g1 k (by omega), l_of, l_mul, l_add, q_a1]
      exact ih (k + 1) (by omega) z hf g1
  have l1 : ∀ r k : Nat, r + k = n → ∀ z, fr [54] [] h z → (∀ r, r < 5 → lm_l z 54 r = Int64.ofInt (wy cu x T k r)) → (lm_W ((d + 1) + 1) 3 18 [some (.ref 52), some (.ref 21), some (.int (Int32.ofNat x)), some (.int (Int32.ofNat g)), some (.int (Int32.ofNat k)), none, none] [] z (lm_kL K)) := by
    intro r
    induction r with
    | zero =>
      intro k hk z hf g1
      have e : k = n := by omega
      rw [e] at g1 ⊢
      have Hz := ct_fr hf H (by decide)
      refine b_3_18 _ _ _ Hz.1 ?_
      rw [Hz.2.2.2.1, if_neg (by rw [q_lt (by omega) (by omega)]; omega)]
      exact l2 5 0 (by omega) z hf g1
    | succ r ih =>
      intro k hk z hf g1
      have Hz := ct_fr hf H (by decide)
      have htk := ht k (by omega)
      have ht53 : lm_i z 53 (k * 6 + g) = Int32.ofNat (T k) := by rw [fr_i hf (by decide) (by decide)]; exact htk.2
      have hi := ih (k + 1) (by omega)
      refine b_3_18 _ _ _ Hz.1 ?_
      rw [Hz.2.2.2.1, Hz.2.2.2.2.2.1, if_pos (by rw [q_lt (by omega) (by omega)]; omega), q_m6, q_add, q_nat (by omega), q_in (by omega) (by omega), ht53, q_a1]
      by_cases c : k = x
      · rw [if_pos (by rw [c])]
        exact hi z hf (fun r hr => by rw [g1 r hr, wy, if_pos c])
      · rw [if_neg (by rw [q_eq (by omega) (by omega)]; exact c)]
        have add : ∀ u, u ≤ 10 → u = uw cu x T k → lm_call (d + 1 + 1) 4 [.ref 52, .int (Int32.ofNat u)] z (lm_kV fun h1 => (lm_W ((d + 1) + 1) 3 18 [some (.ref 52), some (.ref 21), some (.int (Int32.ofNat x)), some (.int (Int32.ofNat g)), some (.int (Int32.ofNat (k + 1))), none, none] [] h1 (lm_kL K))) := by
          intro u hu he
          refine cl_4 (a := wy cu x T k) (by omega) Hz.1 hu g1 (fun z1 hf1 k1 => ?_)
          refine hi z1 (fr_trans hf hf1) (fun r hr => ?_)
          rw [k1 r hr, wy, if_neg c, ← he]
        by_cases c1 : cu = 1
        · rw [if_pos c1]
          by_cases c2 : k < x
          · rw [if_pos (by rw [q_lt (by omega) (by omega)]; exact c2)]
            exact add _ htk.1 (by unfold uw; rw [if_neg (by omega)])
          · rw [if_neg (by rw [q_lt (by omega) (by omega)]; exact c2)]
            exact add 0 (by omega) (by unfold uw; rw [if_pos ⟨c1, by omega⟩])
        · rw [if_neg c1]
          exact add _ htk.1 (by unfold uw; rw [if_neg (fun q => c1 q.1)])
  refine l1 n 0 (by omega) _ (fr_sl (fr_lr (fr_refl _ _ _) (by decide) (by decide) _) (by decide) (by decide) _ _) (fun r hr => ?_)
  rw [pl_sl, if_pos rfl, wy]
  by_cases e : r = 0
  · rw [if_pos e, if_pos e]
    rfl
  · rw [if_neg e, if_neg e, pl_lr, if_pos rfl, if_pos hr]
    rfl
theorem cl_3 {D n m x g : Nat} {h : lm_H} {K : Int64 → lm_H → Prop} {cu lo : Int32} {W B : Nat → Int32} {t : Nat → Nat → Nat} (hD : 3 ≤ D) (H : ct h 21 n m cu lo W B) (hw : wd n m cu lo W) (ht : ctn h n m t) (hx : x < n) (hg : g < m)
    (hK : ∀ h', fr [54] [] h h' → K (Int64.ofInt (bT n cu lo (W (6 * x + g)) x (fun k => t k g))) h') : lm_call D 3 [.ref 52, .ref 21, .int (Int32.ofNat x), .int (Int32.ofNat g)] h (lm_kL K) :=
  cl_3c hD H hw (fun k hk => ht k hk g hg) hx hg hK
