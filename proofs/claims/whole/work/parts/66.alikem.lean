/-! Alike: the reference (247). -/
def lift (b : Int) (j : Nat) (l : Nat → Nat) (y : aT) : aT := (b + y.1, y.2.1, fun i => if i < j then l i else y.2.2 i)
theorem lift_cm {b : Int} {j : Nat} {l : Nat → Nat} {x y : aT} : lift b j l (cm x y) = cm (lift b j l x) (lift b j l y) := by
  obtain ⟨xv, xc, xl⟩ := x
  obtain ⟨yv, yc, yl⟩ := y
  unfold lift cm
  simp only
  by_cases c1 : xc = 0 ∨ xv < yv
  · have c1' : xc = 0 ∨ b + xv < b + yv := by rcases c1 with q | q; exact Or.inl q; exact Or.inr (by omega)
    rw [if_pos c1, if_pos c1']
  · have c1' : ¬ (xc = 0 ∨ b + xv < b + yv) := by
      intro q
      rcases q with q | q
      · exact c1 (Or.inl q)
      · exact c1 (Or.inr (by omega))
    rw [if_neg c1, if_neg c1']
    by_cases c2 : yv = xv
    · have c2' : b + yv = b + xv := by omega
      rw [if_pos c2, if_pos c2']
    · have c2' : ¬ b + yv = b + xv := by omega
      rw [if_neg c2, if_neg c2']
/-- the reference's state amid the rows: like is l, the best so far s -/
def aS (h : lm_H) (l : Nat → Nat) (s : aT) : Prop := (∀ g, g < 6 → lm_i h 113 g = Int32.ofNat (l g)) ∧ lm_i h 92 49 = Int32.ofNat s.2.1 ∧ (0 < s.2.1 → lm_l h 92 48 = Int64.ofInt s.1 ∧ ∀ g, g < 6 → lm_i h 114 g = Int32.ofNat (s.2.2 g))
def nS (l : Nat → Nat) : Nat → Nat
  | 0 => 0
  | g + 1 => nS l g + l g
theorem nS_c {l l' : Nat → Nat} {k : Nat} (h : ∀ j, j < k → l j = l' j) : nS l k = nS l' k := by
  induction k with
  | zero => rfl
  | succ k ih => rw [nS, nS, ih (fun j hj => h j (by omega)), h k (by omega)]
theorem nS_z {l : Nat → Nat} {j : Nat} : ∀ m, j ≤ m → (∀ g, j ≤ g → g < m → l g = 0) → nS l m = nS l j := by
  intro m
  induction m with
  | zero =>
    intro h _
    have : j = 0 := by omega
    rw [this]
  | succ m ih =>
    intro h hz
    by_cases e : j = m + 1
    · rw [e]
    · rw [nS, ih (by omega) (fun g h1 h2 => hz g h1 (by omega)), hz m (by omega) (by omega), Nat.add_zero]
theorem tS_le {B : Nat → Int32} {l : Nat → Nat} {x : Nat} : ∀ m, tS (tl B l) x m ≤ nS l m := by
  intro m
  induction m with
  | zero => exact Nat.le_refl 0
  | succ m ih =>
    rw [tS, nS]
    have : tl B l x m ≤ l m := by unfold tl; split <;> omega
    omega
theorem nS_el {l : Nat → Nat} {m : Nat} {g : Nat} (hg : g < m) : l g ≤ nS l m := by
  induction m with
  | zero => omega
  | succ m ih =>
    rw [nS]
    by_cases e : g = m
    · rw [e]; omega
    · have := ih (by omega)
      omega
theorem aS_fr {S T : List Nat} {h h' : lm_H} {l : Nat → Nat} {s : aT} (a : fr S T h h') (H : aS h l s) (h0 : S.contains 113 = false ∧ S.contains 114 = false ∧ T.contains 48 = false ∧ T.contains 49 = false) : aS h' l s := by
  unfold aS at H ⊢
  rw [fr_i a h0.1 (by decide), fr_i a h0.2.1 (by decide), fr_m a h0.2.2.2, fr_ml a h0.2.2.1]
  exact H
/-- nextLike from coordinate j on -/
theorem lp_247a {d n m : Nat} {h0 : lm_H} {K : lm_H → Prop} {cu lo : Int32} {W B : Nat → Int32} (hD : 5 ≤ d + 2) (h5 : n ≤ 5) (h6 : m ≤ 6) (hw : wd n m cu lo W) : ∀ (l : Nat → Nat) (s : aT) (h : lm_H), fr [111, 112, 113, 114] [48, 49] h0 h → rt h n m cu lo W B → aS h l s → nS l m ≤ 10 → (s.2.1 = 0 ∨ -1000000000000 ≤ s.1 ∧ s.1 ≤ 1000000000000) → s.2.1 ≤ 2000000 → (∀ g, m ≤ g → g < 6 → l g = 0) →
    (∀ h', fr [111, 112, 113, 114] [48, 49] h0 h' → rt h' n m cu lo W B → aS h' l (cm s (mA n m cu lo W (tl B l) n, 1, l)) → (lm_W (d + 1) 248 34 [some (.ref 92), some (.int (Int32.ofNat (nS l m))), some (.int (Int32.ofNat m - 1))] [] h' (lm_kI (fun r4 h3 => (lm_W ((d + 1) + 1) 247 32 [some (.ref 92), some (.int r4), none, none, none] [] h3 (lm_kV K)))))) → (lm_W ((d + 1) + 1) 247 38 [some (.ref 92), none, some (.int 0), none, none] [] h (lm_kV K)) := by
  intro l s h hf H hs hsum hsb hsc hz hK
  have e6 : (6 : Int32) = Int32.ofNat 6 := rfl
  have lle : ∀ g, g < 6 → l g ≤ 10 := by
    intro g hg
    by_cases c : g < m
    · have := nS_el (l := l) c
      omega
    · rw [hz g (by omega) hg]
      omega
  -- the value's bounds
  have hvb : -1000000000000 ≤ mA n m cu lo W (tl B l) n ∧ mA n m cu lo W (tl B l) n ≤ 1000000000000 := by
    rw [mA_br]
    have h1 := si_abs (f := fun g => br n cu lo W B g (l g)) (b := 6000000000) (n := m) (fun g hg => br_b hw h5 hg (lle g (by omega)))
    have e1 : (-99 : Int32).toInt = -99 := rfl
    have e2 : (99 : Int32).toInt = 99 := rfl
    have hlo := hw.2.1
    simp only [p_le, e1, e2] at hlo
    have hp : (10 : Nat) ^ n ≤ 10 ^ 5 := Nat.pow_le_pow_right (by omega) h5
    have hp3 : (10 : Nat) ^ 5 = 100000 := rfl
    have hp4 : ((10 ^ n : Nat) : Int) = (10 : Int) ^ n := Int.natCast_pow 10 n
    have hp2 : (10 : Int) ^ n ≤ 100000 := by omega
    have hp0 : (0 : Int) ≤ 10 ^ n := by rw [← hp4]; exact Int.natCast_nonneg _
    have ha : -594000000 ≤ aL n lo ∧ aL n lo ≤ 594000000 := by
      unfold aL
      generalize (10 : Int) ^ n = q at hp2 hp0
      have a1 : 60 * lo.toInt * q ≤ 5940 * q := Int.mul_le_mul_of_nonneg_right (by omega) hp0
      have a2 : -5940 * q ≤ 60 * lo.toInt * q := Int.mul_le_mul_of_nonneg_right (by omega) hp0
      omega
    generalize aL n lo = q at ha
    have hn : (n : Int) ≤ 5 := by omega
    have b1 : (n : Int) * q ≤ (n : Int) * 594000000 := Int.mul_le_mul_of_nonneg_left ha.2 (by omega)
    have b2 : (n : Int) * (-594000000) ≤ (n : Int) * q := Int.mul_le_mul_of_nonneg_left ha.1 (by omega)
    have hm : (m : Int) ≤ 6 := by omega
    omega
  -- the call of nextLike: it adds up
  have nx : ∀ h', fr [111, 112, 113, 114] [48, 49] h0 h' → rt h' n m cu lo W B → aS h' l (cm s (mA n m cu lo W (tl B l) n, 1, l)) → lm_call (d + 1 + 1) 248 [.ref 92] h' (lm_kI fun r4 h3 => (lm_W ((d + 1) + 1) 247 32 [some (.ref 92), some (.int r4), none, none, none] [] h3 (lm_kV K))) := by
    intro h' hf' H' hs'
    refine e_248 H'.1 ?_
    have lq : ∀ q g : Nat, q + g = m → (lm_W (d + 1) 248 4 [some (.ref 92), some (.int (Int32.ofNat (nS l g))), some (.int (Int32.ofNat g))] [] h' (lm_kI (fun r4 h3 => (lm_W ((d + 1) + 1) 247 32 [some (.ref 92), some (.int r4), none, none, none] [] h3 (lm_kV K))))) := by
      intro q
      induction q with
      | zero =>
        intro g hg
        have e : g = m := by omega
        rw [e]
        refine b_248_4 _ _ H'.1 ?_
        rw [H'.2.2.2.2.1, if_neg (by rw [q_lt (by omega) (by omega)]; omega)]
        exact hK h' hf' H' hs'
      | succ q ih =>
        intro g hg
        refine b_248_4 _ _ H'.1 ?_
        rw [H'.2.2.2.2.1, if_pos (by rw [q_lt (by omega) (by omega)]; omega), q_in (by omega) (by omega), q_nat (by omega), hs'.1 g (by omega), q_add, q_a1]
        exact ih (g + 1) (by omega)
    exact lq m 0 (by omega)
  -- what comes behind the sum of means
  have upd : ∀ h1, fr [111, 112, 113, 114] [48, 49] h0 h1 → rt h1 n m cu lo W B → aS h1 l s → (if (lm_i h1 92 49) = 0 then ((lm_W ((d + 1) + 1) 247 132 [some (.ref 92), none, some (.long (Int64.ofInt (mA n m cu lo W (tl B l) n))), none, some (.int 0)] [] ((lm_si (lm_sl h1 92 48 (Int64.ofInt (mA n m cu lo W (tl B l) n))) 92 49 0)) (lm_kV K))) else (if 0 < (lg_cmp (Int64.ofInt (mA n m cu lo W (tl B l) n)) (lm_l h1 92 48)) then ((lm_W ((d + 1) + 1) 247 132 [some (.ref 92), none, some (.long (Int64.ofInt (mA n m cu lo W (tl B l) n))), none, some (.int 0)] [] ((lm_si (lm_sl h1 92 48 (Int64.ofInt (mA n m cu lo W (tl B l) n))) 92 49 0)) (lm_kV K))) else (if (lg_cmp (Int64.ofInt (mA n m cu lo W (tl B l) n)) (lm_l h1 92 48)) = 0 then (lm_call (d + 1 + 1) 248 [.ref 92] (lm_si h1 92 49 ((lm_i h1 92 49) + 1)) (lm_kI fun r4 h3 => (lm_W ((d + 1) + 1) 247 32 [some (.ref 92), some (.int r4), none, none, none] [] h3 (lm_kV K)))) else (lm_call (d + 1 + 1) 248 [.ref 92] (lm_si h1 92 49 ((lm_i h1 92 49) + 0)) (lm_kI fun r4 h3 => (lm_W ((d + 1) + 1) 247 32 [some (.ref 92), some (.int r4), none, none, none] [] h3 (lm_kV K))))))) := by
    intro h1 hf1 H1 hs1
    have new : (s.2.1 = 0 ∨ s.1 < mA n m cu lo W (tl B l) n) → (lm_W ((d + 1) + 1) 247 132 [some (.ref 92), none, some (.long (Int64.ofInt (mA n m cu lo W (tl B l) n))), none, some (.int 0)] [] ((lm_si (lm_sl h1 92 48 (Int64.ofInt (mA n m cu lo W (tl B l) n))) 92 49 0)) (lm_kV K)) := by
      intro c
      have ex : cm s (mA n m cu lo W (tl B l) n, 1, l) = (mA n m cu lo W (tl B l) n, 1, l) := by rw [cm, if_pos c]
      have lq : ∀ q g : Nat, q + g = 6 → ∀ z, fr [111, 112, 113, 114] [48, 49] h0 z → rt z n m cu lo W B → (∀ i, i < 6 → lm_i z 113 i = Int32.ofNat (l i)) → lm_i z 92 49 = 0 → lm_l z 92 48 = Int64.ofInt (mA n m cu lo W (tl B l) n) → (∀ i, i < g → lm_i z 114 i = Int32.ofNat (l i)) → (lm_W ((d + 1) + 1) 247 132 [some (.ref 92), none, some (.long (Int64.ofInt (mA n m cu lo W (tl B l) n))), none, some (.int (Int32.ofNat g))] [] z (lm_kV K)) := by
        intro q
        induction q with
        | zero =>
          intro g hg z hfz Hz k1 k2 k3 k4
          have e : g = 6 := by omega
          rw [e] at k4
          refine b_247_132 _ _ Hz.1 ?_
          rw [e6, if_neg (by rw [q_lt (by omega) (by omega)]; omega), k3, if_pos (by rw [lg_cmp_eq]), k2]
          refine nx _ (fr_s92 hfz (by decide) _) (rt_si Hz (by decide) _ _) ?_
          rw [ex]
          refine ⟨fun i hi => ?_, ?_, fun _ => ⟨k3, fun i hi => ?_⟩⟩
          · rw [pi_si, if_neg (by decide)]
            exact k1 i hi
          · rw [pi_si, if_pos rfl, if_pos rfl]
            rfl
          · rw [pi_si, if_neg (by decide)]
            exact k4 i hi
        | succ q ih =>
          intro g hg z hfz Hz k1 k2 k3 k4
          refine b_247_132 _ _ Hz.1 ?_
          rw [e6, if_pos (by rw [q_lt (by omega) (by omega)]; omega), q_in (by omega) (by omega), q_in (by omega) (by omega), q_nat (by omega), k1 g (by omega), q_a1]
          refine ih (g + 1) (by omega) _ (fr_si hfz (by decide) (by decide) _ _) (rt_si Hz (by decide) _ _) (fun i hi => ?_) ?_ k3 (fun i hi => ?_)
          · rw [pi_si, if_neg (by decide)]
            exact k1 i hi
          · rw [pi_si, if_neg (by decide)]
            exact k2
          · rw [pi_si, if_pos rfl]
            by_cases ei : i = g
            · rw [if_pos ei, ei]
            · rw [if_neg ei]
              exact k4 i (by omega)
      have H2 : rt (lm_si (lm_sl h1 92 48 (Int64.ofInt (mA n m cu lo W (tl B l) n))) 92 49 0) n m cu lo W B := rt_fr (S := []) (T := [48, 49]) (h := h1) (fr_s92 (fr_s92l (fr_refl _ _ _) (by decide) _) (by decide) _) H1 (by decide)
      refine lq 6 0 (by omega) _ (fr_s92 (fr_s92l hf1 (by decide) _) (by decide) _) H2 (fun i hi => hs1.1 i hi) rfl rfl (fun i hi => by omega)
    have e49 := hs1.2.1
    by_cases c0 : s.2.1 = 0
    · rw [if_pos (by rw [e49, c0]; rfl)]
      exact new (Or.inl c0)
    · rw [if_neg (by rw [e49, q_e0 (by omega)]; exact c0)]
      obtain ⟨e48, e114⟩ := hs1.2.2 (by omega)
      have hsb' : -1000000000000 ≤ s.1 ∧ s.1 ≤ 1000000000000 := by rcases hsb with q | q; exact absurd q c0; exact q
      rw [e48]
      by_cases c1 : s.1 < mA n m cu lo W (tl B l) n
      · rw [if_pos (by rw [lg_cmp_gt, l_lt hsb' hvb]; exact c1)]
        exact new (Or.inr c1)
      · rw [if_neg (by rw [lg_cmp_gt, l_lt hsb' hvb]; exact c1)]
        have cn : ¬ (s.2.1 = 0 ∨ s.1 < mA n m cu lo W (tl B l) n) := by rintro (q | q); exact c0 q; exact c1 q
        by_cases c2 : mA n m cu lo W (tl B l) n = s.1
        · rw [if_pos (by rw [lg_cmp_eq, c2]), e49, q_a1]
          refine nx _ (fr_s92 hf1 (by decide) _) (rt_si H1 (by decide) _ _) ?_
          rw [cm, if_neg cn, if_pos c2]
          refine ⟨fun i hi => ?_, ?_, fun _ => ⟨e48, fun i hi => ?_⟩⟩
          · rw [pi_si, if_neg (by decide)]
            exact hs1.1 i hi
          · rw [pi_si, if_pos rfl, if_pos rfl]
          · rw [pi_si, if_neg (by decide)]
            exact e114 i hi
        · rw [if_neg (by rw [lg_cmp_eq, l_eq hvb hsb']; exact c2), e49, Int32.add_zero]
          refine nx _ (fr_s92 hf1 (by decide) _) (rt_si H1 (by decide) _ _) ?_
          rw [cm, if_neg cn, if_neg c2]
          refine ⟨fun i hi => ?_, ?_, fun _ => ⟨e48, fun i hi => ?_⟩⟩
          · rw [pi_si, if_neg (by decide)]
            exact hs1.1 i hi
          · rw [pi_si, if_pos rfl, if_pos rfl]
          · rw [pi_si, if_neg (by decide)]
            exact e114 i hi
  -- the tenths
  have lp : ∀ q k : Nat, q + k = n → ∀ z, fr [111, 112, 113, 114] [48, 49] h0 z → rt z n m cu lo W B → aS z l s → rtn z k m (tl B l) → (lm_W ((d + 1) + 1) 247 38 [some (.ref 92), none, some (.int (Int32.ofNat k)), none, none] [] z (lm_kV K)) := by
    intro q
    induction q with
    | zero =>
      intro k hk z hfz Hz hsz ht
      have ek : k = n := by omega
      rw [ek] at ht ⊢
      refine b_247_38 _ Hz.1 ?_
      rw [Hz.2.2.2.1, if_neg (by rw [q_lt (by omega) (by omega)]; omega)]
      refine cl_244 (by omega) Hz hw ht (fun x hx => by have := tS_le (B := B) (l := l) (x := x) m; omega) (fun z1 hf1 => ?_)
      exact upd z1 (fr_trans hfz (fr_sub hf1 (by decide) (by decide))) (rt_fr hf1 Hz (by decide)) (aS_fr hf1 hsz (by decide))
    | succ q ih =>
      intro k hk z hfz Hz hsz ht
      refine b_247_38 _ Hz.1 ?_
      rw [Hz.2.2.2.1, if_pos (by rw [q_lt (by omega) (by omega)]; omega)]
      have lq : ∀ q g : Nat, q + g = m → ∀ z, fr [111, 112, 113, 114] [48, 49] h0 z → rt z n m cu lo W B → aS z l s → rtn z k m (tl B l) → (∀ j, j < g → tl B l k j ≤ 10 ∧ lm_i z 111 (6 * k + j) = Int32.ofNat (tl B l k j)) → (lm_W ((d + 1) + 1) 247 48 [some (.ref 92), none, some (.int (Int32.ofNat k)), some (.int (Int32.ofNat g)), none] [] z (lm_kV K)) := by
        intro q
        induction q with
        | zero =>
          intro g hg z hfz Hz hsz ht htg
          have eg : g = m := by omega
          rw [eg] at htg ⊢
          refine b_247_48 _ _ Hz.1 ?_
          rw [Hz.2.2.2.2.1, if_neg (by rw [q_lt (by omega) (by omega)]; omega), q_a1]
          refine ih (k + 1) (by omega) z hfz Hz hsz (fun j hj g hg => ?_)
          by_cases ej : j = k
          · rw [ej]; exact htg g hg
          · exact ht j (by omega) g hg
        | succ q ih2 =>
          intro g hg z hfz Hz hsz ht htg
          have fin : ∀ v, v ≤ 10 → v = tl B l k g → (lm_W ((d + 1) + 1) 247 48 [some (.ref 92), none, some (.int (Int32.ofNat k)), some (.int (Int32.ofNat (g + 1))), none] [] (lm_si z 111 (6 * k + g) (Int32.ofNat v)) (lm_kV K)) := by
            intro v hv hve
            refine ih2 (g + 1) (by omega) _ (fr_si hfz (by decide) (by decide) _ _) (rt_si Hz (by decide) _ _) (aS_fr (S := [111]) (T := []) (h := z) (fr_si (fr_refl _ _ _) (by decide) (by decide) _ _) hsz (by decide)) (fun j hj i hi => ?_) (fun j hj => ?_)
            · rw [pi_si, if_pos rfl, if_neg (by omega)]
              exact ht j hj i hi
            · rw [pi_si, if_pos rfl]
              by_cases ej : j = g
              · rw [if_pos (by rw [ej]), ej, ← hve]
                exact ⟨hv, rfl⟩
              · rw [if_neg (by omega)]
                exact htg j (by omega)
          refine b_247_48 _ _ Hz.1 ?_
          rw [Hz.2.2.2.2.1, if_pos (by rw [q_lt (by omega) (by omega)]; omega)]
          refine cl_210 (by omega) Hz (by omega) (by omega) ?_
          rw [q_6m, q_add, q_nat (by omega), q_nat (by omega), hsz.1 g (by omega), q_a1]
          by_cases c : B (6 * k + g) = 0
          · have ca : aC m B k g = true := by unfold aC; simp [c]
            rw [if_pos ca, if_neg (by decide)]
            exact p_inN (by omega) (by omega) (p_inN (by omega) (by omega) (fin _ (lle g (by omega)) (by unfold tl; rw [if_pos c])))
          · have ca : ¬ aC m B k g = true := by
              have : ¬ g = m := by omega
              unfold aC
              simp [c, this]
            rw [if_neg ca, if_pos rfl]
            exact p_inN (by omega) (by omega) (fin 0 (by omega) (by unfold tl; rw [if_neg c]))
      exact lq m 0 (by omega) z hfz Hz hsz ht (fun j hj => by omega)
  exact lp n 0 (by omega) h hf H hs (fun j hj => by omega)
