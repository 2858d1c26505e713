/-! Tokens: runs of letters and of digits; all. -/
section TokR
variable {T : Nat → Nat} {L f n t N : Nat} {kk nu pl : Nat → Nat}
theorem tok_word (hL : L ≤ 400) (hT : ∀ j, j < L → T j < 256) (hn : n ≤ f) (hft : f < t) (htL : t ≤ L) (hr : ∀ j, f ≤ j → j < t → isL (T j) = true) (he : t = L ∨ isL (T t) = false) (hp : TKp L t (n + 1) N kk nu pl) (hc : TKc T L t (n + 1) N kk nu pl) (hm : TKm T L t (n + 1) N kk nu pl) : ∃ N kk nu pl, TKp L f n N kk nu pl ∧ TKc T L f n N kk nu pl ∧ TKm T L f n N kk nu pl := by
  have hr' : ∀ j, f ≤ j → j < t → 97 ≤ T j ∧ T j ≤ 122 := fun j h1 h2 => by simpa [isL] using hr j h1 h2
  have hx := hr' f (Nat.le_refl _) hft
  -- the kind
  have kind : ∃ c, c < 272 ∧ 258 ≤ c ∧ ((c = 263 ∨ c = 264) → f + 4 ≤ t) ∧ ((∃ s, s < 13 ∧ mtw T f t s ∧ c = 259 + s) ∨ ((∀ s, s < 13 → ¬ mtw T f t s) ∧ c = 258)) := by
    by_cases z : ∃ s, s < 13 ∧ mtw T f t s
    · obtain ⟨s, s1, s2⟩ := z
      refine ⟨259 + s, by omega, by omega, fun q => ?_, Or.inl ⟨s, s1, s2, rfl⟩⟩
      have e4 : (lm_sb.getD 4 []).length = 5 := by decide
      have e5 : (lm_sb.getD 5 []).length = 4 := by decide
      have h0 := s2.1
      have hs : s = 4 ∨ s = 5 := by omega
      rcases hs with rfl | rfl
      · rw [e4] at h0; omega
      · rw [e5] at h0; omega
    · exact ⟨258, by omega, by omega, fun q => by omega, Or.inr ⟨fun s s1 s2 => z ⟨s, s1, s2⟩, rfl⟩⟩
  obtain ⟨c, c1, c2, c3, c4⟩ := kind
  refine ⟨N, _, _, _, tp_add (c := c) (v := 0) c1 (by omega) (by omega) hft htL hL c3 hp, ?_, ?_⟩
  · intro d h K hd hl hb hK
    have e : lm_i h 12 f = Int32.ofNat (T f) := hb f (by omega)
    have lt : ∀ j b, j < L → b < 300 → (Int32.ofNat (T j) < Int32.ofNat b) = (T j < b) := fun j b hj hb2 => q_lt (by have := hT j hj; omega) (by omega)
    have gt : ∀ j b, j < L → b < 300 → (Int32.ofNat b < Int32.ofNat (T j)) = (b < T j) := fun j b hj hb2 => q_lt (by omega) (by have := hT j hj; omega)
    -- behind the run
    have fin : lm_call (d + 1) 30 [.ref 12, .int (Int32.ofNat f), .int (Int32.ofNat t)] h (lm_kI fun r2 h1 => lm_in (Int32.ofNat n) 401 False (lm_in (Int32.ofNat n) 401 False (lm_in (Int32.ofNat f) 400 False (if (lm_i h1 12 (Int32.ofNat f).toNatClampNeg) = 32 then ((lm_W (d + 1) 26 5 [some (.ref 13), some (.ref 12), some (.int (Int32.ofNat L)), some (.int (Int32.ofNat n)), some (.int (Int32.ofNat t)), none] [] ((lm_si (lm_si h1 14 (Int32.ofNat n).toNatClampNeg r2) 15 (Int32.ofNat n).toNatClampNeg (Int32.ofNat f))) (lm_kV K))) else ((lm_W (d + 1) 26 5 [some (.ref 13), some (.ref 12), some (.int (Int32.ofNat L)), some (.int (Int32.ofNat n + 1)), some (.int (Int32.ofNat t)), none] [] ((lm_si (lm_si h1 14 (Int32.ofNat n).toNatClampNeg r2) 15 (Int32.ofNat n).toNatClampNeg (Int32.ofNat f))) (lm_kV K))))))) := by
      have go : lm_in (Int32.ofNat n) 401 False (lm_in (Int32.ofNat n) 401 False (lm_in (Int32.ofNat f) 400 False (if (lm_i h 12 (Int32.ofNat f).toNatClampNeg) = 32 then ((lm_W (d + 1) 26 5 [some (.ref 13), some (.ref 12), some (.int (Int32.ofNat L)), some (.int (Int32.ofNat n)), some (.int (Int32.ofNat t)), none] [] ((lm_si (lm_si h 14 (Int32.ofNat n).toNatClampNeg (Int32.ofNat c)) 15 (Int32.ofNat n).toNatClampNeg (Int32.ofNat f))) (lm_kV K))) else ((lm_W (d + 1) 26 5 [some (.ref 13), some (.ref 12), some (.int (Int32.ofNat L)), some (.int (Int32.ofNat n + 1)), some (.int (Int32.ofNat t)), none] [] ((lm_si (lm_si h 14 (Int32.ofNat n).toNatClampNeg (Int32.ofNat c)) 15 (Int32.ofNat n).toNatClampNeg (Int32.ofNat f))) (lm_kV K)))))) := by
        refine p_inN (by omega) (by omega) (p_inN (by omega) (by omega) (p_inN (by omega) (by omega) ?_))
        rw [q_nat (by omega), q_nat (by omega), e, if_neg (by rw [show (32 : Int32) = Int32.ofNat 32 from rfl, q_eq (by omega) (by omega)]; omega), q_a1]
        refine tc_add (c := c) (v := 0) (fun _ => by omega) hft htL hL hn hp hc d h K hd hl hb _ (fr_si (fr_si (fr_refl _ _ _) (by decide) (by decide) _ _) (by decide) (by decide) _ _) (fun p hp => ?_) ?_ ?_ (fun z => by omega) hK
        · simp only [pi_si, Nat.reduceEqDiff, if_true, if_false, hp, and_self]
        · simp only [pi_si, Nat.reduceEqDiff, if_true, if_false]
        · simp only [pi_si, if_true]
      refine cl_30 (T := T) hd hl (fun j h1 h2 => hb j (by omega)) (by omega) (by omega) (fun s s1 s2 => ?_) (fun z => ?_)
      · have : c = 259 + s := by
          rcases c4 with ⟨u, u1, u2, u3⟩ | ⟨u1, u2⟩
          · rw [u3, mtw_u u1 s1 u2 s2]
          · exact absurd s2 (u1 s s1)
        rw [← this]
        exact go
      · have : c = 258 := by
          rcases c4 with ⟨u, u1, u2, u3⟩ | ⟨u1, u2⟩
          · exact absurd u2 (z u u1)
          · exact u2
        rw [this] at go
        exact go
    have lp : ∀ r x : Nat, r + x = t → f < x → (lm_W (d + 1) 26 27 [some (.ref 13), some (.ref 12), some (.int (Int32.ofNat L)), some (.int (Int32.ofNat n)), some (.int (Int32.ofNat f)), some (.int (Int32.ofNat x))] [] h (lm_kV K)) := by
      intro r
      induction r with
      | zero =>
        intro x hx2 hfx
        have ex : x = t := by omega
        rw [ex]
        refine b_26_27 _ _ _ _ hl ?_
        by_cases ct : t < L
        · rw [if_pos (by rw [q_lt (by omega) (by omega)]; exact ct), q_in (by omega) (by omega), show (Int32.ofNat t).toNatClampNeg = t from q_nat (by omega), hb t ct]
          have ne : ¬ (97 ≤ T t ∧ T t ≤ 122) := by
            rcases he with z | z
            · omega
            · simpa [isL] using z
          by_cases c5 : T t < 97
          · rw [if_pos (show Int32.ofNat (T t) < 97 from (lt t 97 ct (by omega)).mpr c5)]
            exact fin
          · rw [if_neg (show ¬ Int32.ofNat (T t) < 97 from fun z => c5 ((lt t 97 ct (by omega)).mp z)), if_pos (show 122 < Int32.ofNat (T t) from (gt t 122 ct (by omega)).mpr (by omega))]
            exact fin
        · rw [if_neg (by rw [q_lt (by omega) (by omega)]; exact ct)]
          exact fin
      | succ r ih =>
        intro x hx2 hfx
        have hxx := hr' x (by omega) (by omega)
        refine b_26_27 _ _ _ _ hl ?_
        rw [if_pos (by rw [q_lt (by omega) (by omega)]; omega), q_in (by omega) (by omega), show (Int32.ofNat x).toNatClampNeg = x from q_nat (by omega), hb x (by omega), if_neg (show ¬ Int32.ofNat (T x) < 97 from fun z => by have := (lt x 97 (by omega) (by omega)).mp z; omega), if_neg (show ¬ 122 < Int32.ofNat (T x) from fun z => by have := (gt x 122 (by omega) (by omega)).mp z; omega), q_a1]
        exact ih (x + 1) (by omega) (by omega)
    refine b_26_5 _ _ _ hl ?_
    rw [if_pos (by rw [q_lt (by omega) (by omega)]; omega), q_in (by omega) (by omega), show (Int32.ofNat f).toNatClampNeg = f from q_nat (by omega), e, if_neg (show ¬ Int32.ofNat (T f) < 97 from fun z => by have := (lt f 97 (by omega) (by omega)).mp z; omega), if_neg (show ¬ 122 < Int32.ofNat (T f) from fun z => by have := (gt f 122 (by omega) (by omega)).mp z; omega), q_a1 f]
    exact lp (t - (f + 1)) (f + 1) (by omega) (by omega)
  · intro d h K hd hl hb hw h15 hK
    have e : lm_i h 98 f = sb (T f) := hb f (by omega)
    have sbo : ∀ j, f ≤ j → j < t → sb (T j) = Int32.ofNat (T j) := fun j h1 h2 => by rw [sb, if_pos (by have := hr' j h1 h2; omega)]
    obtain ⟨s1, s2, s3, s4, s5, s6⟩ := sb_all (T f) (by omega)
    have k1 : ¬ sb (T f) = 32 := fun z => by have := s1.1 z; omega
    have k2 : ¬ sb (T f) < 97 := fun z => by have := s2.1 z; omega
    have k3 : ¬ sb (T f) < 48 := fun z => by have := s3.1 z; omega
    have k4 : 57 < sb (T f) := s4.2 (by omega)
    have k5 : ¬ 122 < sb (T f) := fun z => by have := s5.1 z; omega
    have fin : lm_call (d + 1) 177 [.ref 92, .int (Int32.ofNat f), .int (Int32.ofNat t)] (lm_si (lm_si h 102 n (Int32.ofNat f)) 101 n 0) (lm_kI fun r2 h1 => lm_in (Int32.ofNat n) 401 False ((lm_W (d + 1) 178 169 [some (.ref 92), some (.int (Int32.ofNat L)), none, some (.int (sb (T f))), some (.int (Int32.ofNat t)), some (.int (Int32.ofNat f))] [] ((lm_si h1 100 n r2)) (lm_kV K)))) := by
      have fr0 : fr [100, 101, 102] [15] h (lm_si (lm_si h 102 n (Int32.ofNat f)) 101 n 0) := fr_si (fr_si (fr_refl _ _ _) (by decide) (by decide) _ _) (by decide) (by decide) _ _
      have go : ∀ r : Int32, r = Int32.ofNat (cO c) → lm_in (Int32.ofNat n) 401 False ((lm_W (d + 1) 178 169 [some (.ref 92), some (.int (Int32.ofNat L)), none, some (.int (sb (T f))), some (.int (Int32.ofNat t)), some (.int (Int32.ofNat f))] [] ((lm_si (lm_si (lm_si h 102 n (Int32.ofNat f)) 101 n 0) 100 n r)) (lm_kV K))) := by
        intro r er
        refine p_inN (by omega) (by omega) ?_
        have fr1 : fr [100, 101, 102] [15] h (lm_si (lm_si (lm_si h 102 n (Int32.ofNat f)) 101 n 0) 100 n r) := fr_si fr0 (by decide) (by decide) _ _
        have i15 : lm_i (lm_si (lm_si (lm_si h 102 n (Int32.ofNat f)) 101 n 0) 100 n r) 92 15 = Int32.ofNat n := h15
        refine b_178_169 _ _ _ _ (fr_Lay fr1 hl) ?_
        rw [if_pos (by rw [q_lt (by omega) (by omega)]; omega), i15, q_a1, if_neg k3, if_pos k4]
        refine tm_add (c := c) (v := 0) hft htL hL hn hm d h K hd hl hb hw _ (fr_s92 fr1 (by decide) _) (by rw [pi_si, if_pos rfl, if_pos rfl]) (fun p hp => ?_) ?_ ?_ (fun z => by omega) hK
        · simp only [pi_si, Nat.reduceEqDiff, if_true, if_false, hp, and_self]
        · simp only [pi_si, Nat.reduceEqDiff, if_true, if_false]; exact er
        · simp only [pi_si, Nat.reduceEqDiff, if_true, if_false]
      refine cl_177 (T := T) hd (fr_Lay fr0 hl) (fun j hj => hw j hj) (fun j h1 h2 => ?_) (by omega) (by omega) (fun s s1 s2 => ?_) (fun z => ?_)
      · rw [← sbo j h1 h2]
        exact hb j (by omega)
      · have : c = 259 + s := by
          rcases c4 with ⟨u, u1, u2, u3⟩ | ⟨u1, u2⟩
          · rw [u3, mtw_u u1 s1 u2 s2]
          · exact absurd s2 (u1 s s1)
        exact go _ (by rw [this])
      · have : c = 258 := by
          rcases c4 with ⟨u, u1, u2, u3⟩ | ⟨u1, u2⟩
          · exact absurd u2 (z u u1)
          · exact u2
        exact go _ (by rw [this]; rfl)
    have lp : ∀ r x : Nat, r + x = t → f < x → (lm_W (d + 1) 178 43 [some (.ref 92), some (.int (Int32.ofNat L)), some (.int (Int32.ofNat f)), some (.int (sb (T f))), some (.int (Int32.ofNat x)), none] [] h (lm_kV K)) := by
      intro r
      induction r with
      | zero =>
        intro x hx2 hfx
        have ex : x = t := by omega
        rw [ex]
        refine b_178_43 _ _ _ _ hl ?_
        rw [h15, show (Int32.ofNat n).toNatClampNeg = n from q_nat (by omega)]
        simp only [if_neg k2, if_neg k3, if_pos k4, if_neg k5]
        by_cases ct : t < L
        · rw [if_pos (by rw [q_lt (by omega) (by omega)]; exact ct), q_in (by omega) (by omega), show (Int32.ofNat t).toNatClampNeg = t from q_nat (by omega), hb t ct]
          have ne : ¬ (97 ≤ T t ∧ T t ≤ 122) := by
            rcases he with z | z
            · omega
            · simpa [isL] using z
          obtain ⟨u1, u2, u3, u4, u5, u6⟩ := sb_all (T t) (hT t ct)
          by_cases c5 : sb (T t) < 97
          · rw [if_pos c5]
            exact p_inN (by omega) (by omega) (p_inN (by omega) (by omega) fin)
          · rw [if_neg c5, if_pos (u5.2 (by have := mt u2.2 c5; omega))]
            exact p_inN (by omega) (by omega) (p_inN (by omega) (by omega) fin)
        · rw [if_neg (by rw [q_lt (by omega) (by omega)]; exact ct)]
          exact p_inN (by omega) (by omega) (p_inN (by omega) (by omega) fin)
      | succ r ih =>
        intro x hx2 hfx
        have hxx := hr' x (by omega) (by omega)
        obtain ⟨u1, u2, u3, u4, u5, u6⟩ := sb_all (T x) (by omega)
        refine b_178_43 _ _ _ _ hl ?_
        rw [if_pos (by rw [q_lt (by omega) (by omega)]; omega), q_in (by omega) (by omega), show (Int32.ofNat x).toNatClampNeg = x from q_nat (by omega), hb x (by omega), if_neg (fun z => by have := u2.1 z; omega), if_neg (fun z => by have := u5.1 z; omega), q_a1 x]
        exact ih (x + 1) (by omega) (by omega)
    refine b_178_7 _ _ hl ?_
    rw [if_pos (by rw [q_lt (by omega) (by omega)]; omega), q_in (by omega) (by omega), show (Int32.ofNat f).toNatClampNeg = f from q_nat (by omega), e, if_neg k1, if_neg k2, if_neg k5, q_a1 f]
    exact lp (t - (f + 1)) (f + 1) (by omega) (by omega)
theorem tok_num (hL : L ≤ 400) (hT : ∀ j, j < L → T j < 256) (hn : n ≤ f) (hft : f < t) (htL : t ≤ L) (hr : ∀ j, f ≤ j → j < t → isD (T j) = true) (he : t = L ∨ isD (T t) = false) (hp : TKp L t (n + 1) N kk nu pl) (hc : TKc T L t (n + 1) N kk nu pl) (hm : TKm T L t (n + 1) N kk nu pl) : ∃ N kk nu pl, TKp L f n N kk nu pl ∧ TKc T L f n N kk nu pl ∧ TKm T L f n N kk nu pl := by
  have hr' : ∀ j, f ≤ j → j < t → 48 ≤ T j ∧ T j ≤ 57 := fun j h1 h2 => by simpa [isD] using hr j h1 h2
  have hx := hr' f (Nat.le_refl _) hft
  have nnr := fun i (hi : i ≤ t - f) => nn_r (T := T) (f := f) i (fun j hj => hr' (f + j) (by omega) (by omega))
  have nr := nnr (t - f) (Nat.le_refl _)
  refine ⟨N, _, _, _, tp_add (c := 257) (v := nC1 T f (t - f)) (by omega) (by omega) (by omega) hft htL hL (fun z => by omega) hp, ?_, ?_⟩
  · intro d h K hd hl hb hK
    have e : lm_i h 12 f = Int32.ofNat (T f) := hb f (by omega)
    have lt : ∀ j b, j < L → b < 300 → (Int32.ofNat (T j) < Int32.ofNat b) = (T j < b) := fun j b hj hb2 => q_lt (by have := hT j hj; omega) (by omega)
    have gt : ∀ j b, j < L → b < 300 → (Int32.ofNat b < Int32.ofNat (T j)) = (b < T j) := fun j b hj hb2 => q_lt (by omega) (by have := hT j hj; omega)
    have fin : lm_in (Int32.ofNat n) 401 False (lm_call (d + 1) 29 [.ref 12, .int (Int32.ofNat f), .int (Int32.ofNat t)] (lm_si h 14 (Int32.ofNat n).toNatClampNeg 257) (lm_kI fun r2 h1 => lm_in (Int32.ofNat n) 401 False (lm_in (Int32.ofNat n) 401 False (lm_in (Int32.ofNat f) 400 False (if (lm_i h1 12 (Int32.ofNat f).toNatClampNeg) = 32 then ((lm_W (d + 1) 26 5 [some (.ref 13), some (.ref 12), some (.int (Int32.ofNat L)), some (.int (Int32.ofNat n)), some (.int (Int32.ofNat t)), none] [] ((lm_si (lm_si h1 16 (Int32.ofNat n).toNatClampNeg r2) 15 (Int32.ofNat n).toNatClampNeg (Int32.ofNat f))) (lm_kV K))) else ((lm_W (d + 1) 26 5 [some (.ref 13), some (.ref 12), some (.int (Int32.ofNat L)), some (.int (Int32.ofNat n + 1)), some (.int (Int32.ofNat t)), none] [] ((lm_si (lm_si h1 16 (Int32.ofNat n).toNatClampNeg r2) 15 (Int32.ofNat n).toNatClampNeg (Int32.ofNat f))) (lm_kV K)))))))) := by
      refine p_inN (by omega) (by omega) ?_
      rw [q_nat (by omega)]
      refine cl_29 (T := T) (by omega) (lm_Lay_si hl _ _ _) (fun j h1 h2 => hb j (by omega)) (by omega) (by omega) hr' ?_
      refine p_inN (by omega) (by omega) (p_inN (by omega) (by omega) (p_inN (by omega) (by omega) ?_))
      rw [show (Int32.ofNat f).toNatClampNeg = f from q_nat (by omega), show lm_i (lm_si h 14 n 257) 12 f = Int32.ofNat (T f) from e, if_neg (by rw [show (32 : Int32) = Int32.ofNat 32 from rfl, q_eq (by omega) (by omega)]; omega), q_a1]
      refine tc_add (c := 257) (v := nC1 T f (t - f)) (fun _ => by omega) hft htL hL hn hp hc d h K hd hl hb _ (fr_si (fr_si (fr_si (fr_refl _ _ _) (by decide) (by decide) _ _) (by decide) (by decide) _ _) (by decide) (by decide) _ _) (fun p hp => ?_) ?_ ?_ (fun z => ?_) hK
      · simp only [pi_si, Nat.reduceEqDiff, if_true, if_false, hp, and_self]
      · simp only [pi_si, Nat.reduceEqDiff, if_true, if_false]; rfl
      · simp only [pi_si, if_true]
      · simp only [pi_si, Nat.reduceEqDiff, if_true, if_false]
    have lp : ∀ r x : Nat, r + x = t → f < x → (lm_W (d + 1) 26 76 [some (.ref 13), some (.ref 12), some (.int (Int32.ofNat L)), some (.int (Int32.ofNat n)), some (.int (Int32.ofNat f)), some (.int (Int32.ofNat x))] [] h (lm_kV K)) := by
      intro r
      induction r with
      | zero =>
        intro x hx2 hfx
        have ex : x = t := by omega
        rw [ex]
        refine b_26_76 _ _ _ _ hl ?_
        by_cases ct : t < L
        · rw [if_pos (by rw [q_lt (by omega) (by omega)]; exact ct), q_in (by omega) (by omega), show (Int32.ofNat t).toNatClampNeg = t from q_nat (by omega), hb t ct]
          have ne : ¬ (48 ≤ T t ∧ T t ≤ 57) := by
            rcases he with z | z
            · omega
            · simpa [isD] using z
          by_cases c5 : T t < 48
          · rw [if_pos (show Int32.ofNat (T t) < 48 from (lt t 48 ct (by omega)).mpr c5)]
            exact fin
          · rw [if_neg (show ¬ Int32.ofNat (T t) < 48 from fun z => c5 ((lt t 48 ct (by omega)).mp z)), if_pos (show 57 < Int32.ofNat (T t) from (gt t 57 ct (by omega)).mpr (by omega))]
            exact fin
        · rw [if_neg (by rw [q_lt (by omega) (by omega)]; exact ct)]
          exact fin
      | succ r ih =>
        intro x hx2 hfx
        have hxx := hr' x (by omega) (by omega)
        refine b_26_76 _ _ _ _ hl ?_
        rw [if_pos (by rw [q_lt (by omega) (by omega)]; omega), q_in (by omega) (by omega), show (Int32.ofNat x).toNatClampNeg = x from q_nat (by omega), hb x (by omega), if_neg (show ¬ Int32.ofNat (T x) < 48 from fun z => by have := (lt x 48 (by omega) (by omega)).mp z; omega), if_neg (show ¬ 57 < Int32.ofNat (T x) from fun z => by have := (gt x 57 (by omega) (by omega)).mp z; omega), q_a1 x]
        exact ih (x + 1) (by omega) (by omega)
    refine b_26_5 _ _ _ hl ?_
    rw [if_pos (by rw [q_lt (by omega) (by omega)]; omega), q_in (by omega) (by omega), show (Int32.ofNat f).toNatClampNeg = f from q_nat (by omega), e, if_pos (show Int32.ofNat (T f) < 97 from (lt f 97 (by omega) (by omega)).mpr (by omega)), q_in (by omega) (by omega), if_neg (show ¬ Int32.ofNat (T f) < 48 from fun z => by have := (lt f 48 (by omega) (by omega)).mp z; omega), if_neg (show ¬ 57 < Int32.ofNat (T f) from fun z => by have := (gt f 57 (by omega) (by omega)).mp z; omega), q_a1 f]
    exact lp (t - (f + 1)) (f + 1) (by omega) (by omega)
  · intro d h K hd hl hb hw h15 hK
    have e : lm_i h 98 f = sb (T f) := hb f (by omega)
    have sbo : ∀ j, f ≤ j → j < t → sb (T j) = Int32.ofNat (T j) := fun j h1 h2 => by rw [sb, if_pos (by have := hr' j h1 h2; omega)]
    obtain ⟨s1, s2, s3, s4, s5, s6⟩ := sb_all (T f) (by omega)
    have k1 : ¬ sb (T f) = 32 := fun z => by have := s1.1 z; omega
    have k2 : sb (T f) < 97 := s2.2 (by omega)
    have k3 : ¬ sb (T f) < 48 := fun z => by have := s3.1 z; omega
    have k4 : ¬ 57 < sb (T f) := fun z => by have := s4.1 z; omega
    have fr1 : fr [100, 101, 102] [15] h (lm_si (lm_si (lm_si h 102 n (Int32.ofNat f)) 101 n 0) 100 n 50) := fr_si (fr_si (fr_si (fr_refl _ _ _) (by decide) (by decide) _ _) (by decide) (by decide) _ _) (by decide) (by decide) _ _
    -- the number
    have lv : ∀ r i : Nat, r + i = t - f → ∀ z, fr [100, 101, 102] [15] h z → lm_i z 92 15 = Int32.ofNat n → (∀ p, ¬ p = n → lm_i z 100 p = lm_i h 100 p ∧ lm_i z 101 p = lm_i h 101 p ∧ lm_i z 102 p = lm_i h 102 p) → lm_i z 100 n = Int32.ofNat 50 → lm_i z 102 n = Int32.ofNat f → lm_i z 101 n = Int32.ofNat (nM1 T f i) → (lm_W (d + 1) 178 169 [some (.ref 92), some (.int (Int32.ofNat L)), none, some (.int (sb (T f))), some (.int (Int32.ofNat t)), some (.int (Int32.ofNat (f + i)))] [] z (lm_kV K)) := by
      intro r
      induction r with
      | zero =>
        intro i hi z fz z15 z1 z2 z3 z4
        have ei : i = t - f := by omega
        rw [ei] at z4
        refine b_178_169 _ _ _ _ (fr_Lay fz hl) ?_
        rw [if_neg (by rw [q_lt (by omega) (by omega)]; omega), z15, q_a1]
        refine tm_add (c := 257) (v := nC1 T f (t - f)) hft htL hL hn hm d h K hd hl hb hw _ (fr_s92 fz (by decide) _) (by rw [pi_si, if_pos rfl, if_pos rfl]) (fun p hp => ?_) ?_ ?_ (fun _ => ?_) hK
        · simp only [pi_si, Nat.reduceEqDiff, if_false]; exact z1 p hp
        · simp only [pi_si, Nat.reduceEqDiff, if_false]; exact z2
        · simp only [pi_si, Nat.reduceEqDiff, if_false]; exact z3
        · simp only [pi_si, Nat.reduceEqDiff, if_false]
          rw [z4]
          rcases nr.1 with ⟨q1, q2⟩ | ⟨q1, q2⟩
          · rw [if_pos q1, q2]
          · rw [if_neg (by omega), show (1000 : Int32) = Int32.ofNat 1000 from rfl, q_lt (by omega) (by omega)]
            exact q2
      | succ r ih =>
        intro i hi z fz z15 z1 z2 z3 z4
        have hd0 := hr' (f + i) (by omega) (by omega)
        have nb := (nnr i (by omega)).2
        have hi2 := ih (i + 1) (by omega)
        rw [nM1] at hi2
        have st1 : ∀ v : Int32, v = Int32.ofNat (if 1000000 < nM1 T f i then nM1 T f i else 10 * nM1 T f i + T (f + i) - 48) → (lm_W (d + 1) 178 169 [some (.ref 92), some (.int (Int32.ofNat L)), none, some (.int (sb (T f))), some (.int (Int32.ofNat t)), some (.int (Int32.ofNat (f + i + 1)))] [] ((lm_si z 101 n v)) (lm_kV K)) := by
          intro v hv
          refine hi2 _ (fr_si fz (by decide) (by decide) _ _) (by rw [pi_si, if_neg (by decide)]; exact z15) (fun p hp => ?_) ?_ ?_ ?_
          · simp only [pi_si, Nat.reduceEqDiff, if_true, if_false, hp]; exact z1 p hp
          · simp only [pi_si, Nat.reduceEqDiff, if_false]; exact z2
          · simp only [pi_si, Nat.reduceEqDiff, if_false]; exact z3
          · simp only [pi_si, if_true]; exact hv
        refine b_178_169 _ _ _ _ (fr_Lay fz hl) ?_
        rw [if_pos (by rw [q_lt (by omega) (by omega)]; omega), if_neg k3, if_neg k4, z15, q_nat (by omega), q_in (by omega) (by omega), z4, q_a1]
        by_cases c : 1000000 < nM1 T f i
        · rw [if_pos (by rw [show (1000000 : Int32) = Int32.ofNat 1000000 from rfl, q_lt (by omega) (by omega)]; exact c)]
          refine p_inN (by omega) (by omega) (p_inN (by omega) (by omega) ?_)
          exact st1 _ (by rw [if_pos c])
        · rw [if_neg (by rw [show (1000000 : Int32) = Int32.ofNat 1000000 from rfl, q_lt (by omega) (by omega)]; exact c)]
          refine p_inN (by omega) (by omega) (p_inN (by omega) (by omega) (p_inN (by omega) (by omega) ?_))
          refine st1 _ ?_
          rw [q_nat (by omega), fr_i fz (by decide) (by decide), hb _ (by omega), sbo _ (by omega) (by omega), show (10 : Int32) = Int32.ofNat 10 from rfl, q_mul, q_add, show (48 : Int32) = Int32.ofNat 48 from rfl, q_sub (by omega), if_neg c]
    have fin : lm_in (Int32.ofNat n) 401 False ((lm_W (d + 1) 178 169 [some (.ref 92), some (.int (Int32.ofNat L)), none, some (.int (sb (T f))), some (.int (Int32.ofNat t)), some (.int (Int32.ofNat f))] [] ((lm_si (lm_si (lm_si h 102 n (Int32.ofNat f)) 101 n 0) 100 n 50)) (lm_kV K))) := by
      refine p_inN (by omega) (by omega) ?_
      refine lv (t - f) 0 (by omega) _ fr1 h15 (fun p hp => ?_) ?_ ?_ ?_
      · simp only [pi_si, Nat.reduceEqDiff, if_true, if_false, hp, and_self]
      · simp only [pi_si, if_true]; rfl
      · simp only [pi_si, Nat.reduceEqDiff, if_true, if_false]
      · simp only [pi_si, Nat.reduceEqDiff, if_true, if_false]; rfl
    have lp : ∀ r x : Nat, r + x = t → f < x → (lm_W (d + 1) 178 75 [some (.ref 92), some (.int (Int32.ofNat L)), some (.int (Int32.ofNat f)), some (.int (sb (T f))), some (.int (Int32.ofNat x)), none] [] h (lm_kV K)) := by
      intro r
      induction r with
      | zero =>
        intro x hx2 hfx
        have ex : x = t := by omega
        rw [ex]
        refine b_178_75 _ _ _ _ hl ?_
        rw [h15, show (Int32.ofNat n).toNatClampNeg = n from q_nat (by omega)]
        simp only [if_pos k2, if_neg k3, if_neg k4]
        by_cases ct : t < L
        · rw [if_pos (by rw [q_lt (by omega) (by omega)]; exact ct), q_in (by omega) (by omega), show (Int32.ofNat t).toNatClampNeg = t from q_nat (by omega), hb t ct]
          have ne : ¬ (48 ≤ T t ∧ T t ≤ 57) := by
            rcases he with z | z
            · omega
            · simpa [isD] using z
          obtain ⟨u1, u2, u3, u4, u5, u6⟩ := sb_all (T t) (hT t ct)
          by_cases c5 : sb (T t) < 48
          · rw [if_pos c5]
            exact p_inN (by omega) (by omega) (p_inN (by omega) (by omega) fin)
          · rw [if_neg c5, if_pos (u4.2 (by have := mt u3.2 c5; omega))]
            exact p_inN (by omega) (by omega) (p_inN (by omega) (by omega) fin)
        · rw [if_neg (by rw [q_lt (by omega) (by omega)]; exact ct)]
          exact p_inN (by omega) (by omega) (p_inN (by omega) (by omega) fin)
      | succ r ih =>
        intro x hx2 hfx
        have hxx := hr' x (by omega) (by omega)
        obtain ⟨u1, u2, u3, u4, u5, u6⟩ := sb_all (T x) (by omega)
        refine b_178_75 _ _ _ _ hl ?_
        rw [if_pos (by rw [q_lt (by omega) (by omega)]; omega), q_in (by omega) (by omega), show (Int32.ofNat x).toNatClampNeg = x from q_nat (by omega), hb x (by omega), if_neg (fun z => by have := u3.1 z; omega), if_neg (fun z => by have := u4.1 z; omega), q_a1 x]
        exact ih (x + 1) (by omega) (by omega)
    refine b_178_7 _ _ hl ?_
    rw [if_pos (by rw [q_lt (by omega) (by omega)]; omega), q_in (by omega) (by omega), show (Int32.ofNat f).toNatClampNeg = f from q_nat (by omega), e, if_neg k1, if_pos k2, if_neg k3, if_neg k4, q_a1 f]
    exact lp (t - (f + 1)) (f + 1) (by omega) (by omega)
theorem tok_all (hL : L ≤ 400) (hT : ∀ j, j < L → T j < 256) : ∀ m f n, L - f < m → f ≤ L → n ≤ f → ∃ N kk nu pl, TKp L f n N kk nu pl ∧ TKc T L f n N kk nu pl ∧ TKm T L f n N kk nu pl := by
  intro m
  induction m with
  | zero => intro f n h; omega
  | succ m ih =>
    intro f n hm hf hn
    by_cases c0 : f = L
    · rw [c0] at hn ⊢
      exact ⟨n, _, _, _, tok_end hL hn⟩
    have hf' : f < L := by omega
    by_cases c1 : T f = 32
    · obtain ⟨N, kk, nu, pl, a1, a2, a3⟩ := ih (f + 1) n (by omega) (by omega) (by omega)
      exact ⟨N, kk, nu, pl, tok_space hL hf' hn c1 a1 a2 a3⟩
    cases c2 : isL (T f) with
    | true =>
      obtain ⟨t, t1, t2, t3, t4⟩ := run_ex (fun j => isL (T j)) L (L - f) f rfl hf' c2
      obtain ⟨N, kk, nu, pl, a1, a2, a3⟩ := ih t (n + 1) (by omega) t2 (by omega)
      exact tok_word hL hT hn t1 t2 t3 t4 a1 a2 a3
    | false =>
      cases c3 : isD (T f) with
      | true =>
        obtain ⟨t, t1, t2, t3, t4⟩ := run_ex (fun j => isD (T j)) L (L - f) f rfl hf' c3
        obtain ⟨N, kk, nu, pl, a1, a2, a3⟩ := ih t (n + 1) (by omega) t2 (by omega)
        exact tok_num hL hT hn t1 t2 t3 t4 a1 a2 a3
      | false =>
        obtain ⟨N, kk, nu, pl, a1, a2, a3⟩ := ih (f + 1) (n + 1) (by omega) (by omega) (by omega)
        exact tok_sign hL hT hf' hn c2 c3 c1 a1 a2 a3
end TokR
