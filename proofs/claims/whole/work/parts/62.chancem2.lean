/-! Chances: the reference's means, dice, restlessness. -/
/-- tenths of a host that are left -/
def tS (t : Nat → Nat → Nat) (x : Nat) : Nat → Nat
  | 0 => 0
  | g + 1 => tS t x g + t x g
theorem cl_242 {D n m x : Nat} {h : lm_H} {K : Int64 → lm_H → Prop} {cu lo : Int32} {W B : Nat → Int32} {t : Nat → Nat → Nat} (hD : 4 ≤ D) (H : rt h n m cu lo W B) (hw : wd n m cu lo W) (ht : rtn h n m t) (hx : x < n) (hts : tS t x m ≤ 10)
    (hK : ∀ h', fr [112] [] h h' → K (Int64.ofInt (mN n m cu lo W t x)) h') : lm_call D 242 [.ref 92, .int (Int32.ofNat x)] h (lm_kL K) := by
  obtain ⟨d, rfl⟩ := q_dp hD
  have h5 := H.2.1
  have h6 := H.2.2.1
  have mono : ∀ k, k ≤ m → tS t x k ≤ 10 := by
    intro k hk
    have : ∀ i, tS t x k ≤ tS t x (k + i) := by
      intro i
      induction i with
      | zero => exact Nat.le_refl _
      | succ i ii =>
        rw [show k + (i + 1) = (k + i) + 1 by omega, tS]
        omega
    have := this (m - k)
    rw [show k + (m - k) = m by omega] at this
    omega
  refine e_242 _ H.1 ?_
  have lp : ∀ r k : Nat, r + k = m → ∀ z, fr [112] [] h z → (lm_W ((d + 2) + 1) 242 9 [some (.ref 92), some (.int (Int32.ofNat x)), some (.long (Int64.ofInt (si (fun g => (t x g : Int) * (bT n cu lo (W (6 * x + g)) x (fun k => t k g) + 60 * lo.toInt * 10 ^ (n - 1))) k))), none, some (.int (Int32.ofNat (10 - tS t x k))), some (.int (Int32.ofNat k)), none] [] z (lm_kL K)) := by
    intro r
    induction r with
    | zero =>
      intro k hk z hf
      have e : k = m := by omega
      rw [e]
      have Hz := rt_fr hf H (by decide)
      refine b_242_9 _ _ _ _ Hz.1 ?_
      rw [Hz.2.2.2.2.1, if_neg (by rw [q_lt (by omega) (by omega)]; omega)]
      refine cl_241m (by omega) Hz hw hx ?_
      rw [l_nat (by omega), l_mul, l_add]
      have key : si (fun g => (t x g : Int) * (bT n cu lo (W (6 * x + g)) x (fun k => t k g) + 60 * lo.toInt * 10 ^ (n - 1))) m + ((10 - tS t x m : Nat) : Int) * (60 * lo.toInt * 10 ^ (n - 1)) = mN n m cu lo W t x := by
        have e1 : ∀ k, si (fun g => (t x g : Int) * (bT n cu lo (W (6 * x + g)) x (fun k => t k g) + 60 * lo.toInt * 10 ^ (n - 1))) k = si (fun g => (t x g : Int) * bT n cu lo (W (6 * x + g)) x (fun k => t k g)) k + (tS t x k : Int) * (60 * lo.toInt * 10 ^ (n - 1)) := by
          intro k
          induction k with
          | zero =>
            rw [si, si, tS]
            simp
          | succ k ik =>
            rw [si, si, tS, ik]
            generalize 60 * lo.toInt * 10 ^ (n - 1) = q
            generalize bT n cu lo (W (6 * x + k)) x (fun j => t j k) = b
            have : ((tS t x k + t x k : Nat) : Int) = (tS t x k : Int) + (t x k : Int) := by omega
            rw [this]
            grind
        rw [e1]
        unfold mN aL
        have e2 : (10 : Int) ^ n = 10 ^ (n - 1) * 10 := by
          rw [← Int.pow_succ]
          congr 1
          omega
        have e3 : ((10 - tS t x m : Nat) : Int) = 10 - (tS t x m : Int) := by omega
        rw [e2, e3]
        grind
      rw [key]
      exact hK z hf
    | succ r ih =>
      intro k hk z hf
      have Hz := rt_fr hf H (by decide)
      have htz := rtn_fr hf ht (by decide)
      have htk := htz x hx k (by omega)
      have hm1 := mono (k + 1) (by omega)
      rw [tS] at hm1
      have hi := ih (k + 1) (by omega)
      rw [si, tS] at hi
      refine b_242_9 _ _ _ _ Hz.1 ?_
      rw [Hz.2.2.2.2.1, if_pos (by rw [q_lt (by omega) (by omega)]; omega), q_6m, q_add, q_in (by omega) (by omega), q_nat (by omega), htk.2, q_sub (by omega), q_a1, show 10 - tS t x k - t x k = 10 - (tS t x k + t x k) by omega]
      by_cases c : 0 < t x k
      · rw [if_pos (by rw [q_0l (by omega)]; exact c)]
        refine cl_241 (by omega) Hz hw htz hx (by omega) (fun z1 hf1 => ?_)
        rw [l_nat (by omega), l_mul, l_add]
        exact hi z1 (fr_trans hf hf1)
      · rw [if_neg (by rw [q_0l (by omega)]; exact c)]
        have e0 : t x k = 0 := by omega
        rw [e0] at hi ⊢
        have := hi z hf
        rw [show ((0 : Nat) : Int) = 0 from rfl, Int.zero_mul, Int.add_zero] at this
        exact this
  exact lp m 0 (by omega) h (fr_refl _ _ _)
/-- means added -/
def mA (n m : Nat) (cu lo : Int32) (W : Nat → Int32) (t : Nat → Nat → Nat) (k : Nat) : Int := si (mN n m cu lo W t) k
theorem cl_244 {D n m : Nat} {h : lm_H} {K : Int64 → lm_H → Prop} {cu lo : Int32} {W B : Nat → Int32} {t : Nat → Nat → Nat} (hD : 5 ≤ D) (H : rt h n m cu lo W B) (hw : wd n m cu lo W) (ht : rtn h n m t) (hts : ∀ x, x < n → tS t x m ≤ 10)
    (hK : ∀ h', fr [112] [] h h' → K (Int64.ofInt (mA n m cu lo W t n)) h') : lm_call D 244 [.ref 92] h (lm_kL K) := by
  obtain ⟨d, rfl⟩ := q_dp hD
  have h5 := H.2.1
  refine e_244 H.1 ?_
  have lp : ∀ r k : Nat, r + k = n → ∀ z, fr [112] [] h z → (lm_W ((d + 3) + 1) 244 4 [some (.ref 92), some (.long (Int64.ofInt (mA n m cu lo W t k))), none, some (.int (Int32.ofNat k))] [] z (lm_kL K)) := by
    intro r
    induction r with
    | zero =>
      intro k hk z hf
      have e : k = n := by omega
      rw [e]
      have Hz := rt_fr hf H (by decide)
      refine b_244_4 _ _ Hz.1 ?_
      rw [Hz.2.2.2.1, if_neg (by rw [q_lt (by omega) (by omega)]; omega)]
      exact hK z hf
    | succ r ih =>
      intro k hk z hf
      have Hz := rt_fr hf H (by decide)
      refine b_244_4 _ _ Hz.1 ?_
      rw [Hz.2.2.2.1, if_pos (by rw [q_lt (by omega) (by omega)]; omega)]
      refine cl_242 (by omega) Hz hw (rtn_fr hf ht (by decide)) (by omega) (hts k (by omega)) (fun z1 hf1 => ?_)
      rw [l_add, q_a1]
      exact ih (k + 1) (by omega) z1 (fr_trans hf hf1)
  exact lp n 0 (by omega) h (fr_refl _ _ _)
/-- the class's means added (126) -/
theorem lp_126 {d n m : Nat} {h : lm_H} {K : Int64 → lm_H → Prop} {cu lo : Int32} {W B : Nat → Int32} {t : Nat → Nat → Nat} (hD : 4 ≤ d + 1) (H : ct h 21 n m cu lo W B) (hn : lm_i h 1 0 = Int32.ofNat n) (hw : wd n m cu lo W) (ht : ctn h n m t)
    (hK : ∀ h', fr [54] [] h h' → K (Int64.ofInt (mA n m cu lo W t n)) h') : (lm_W (d + 1) 126 62 [some (.ref 0), none, some (.long 0), none, some (.int 0)] [] h (lm_kL K)) := by
  have h5 := H.2.1
  have lp : ∀ r k : Nat, r + k = n → ∀ z, fr [54] [] h z → (lm_W (d + 1) 126 62 [some (.ref 0), none, some (.long (Int64.ofInt (mA n m cu lo W t k))), none, some (.int (Int32.ofNat k))] [] z (lm_kL K)) := by
    intro r
    induction r with
    | zero =>
      intro k hk z hf
      have e : k = n := by omega
      rw [e]
      refine b_126_62 _ _ (fr_Lay hf H.1) ?_
      rw [fr_i hf (by decide) (by decide), hn, if_neg (by rw [q_lt (by omega) (by omega)]; omega)]
      exact hK z hf
    | succ r ih =>
      intro k hk z hf
      refine b_126_62 _ _ (fr_Lay hf H.1) ?_
      rw [fr_i hf (by decide) (by decide), hn, if_pos (by rw [q_lt (by omega) (by omega)]; omega)]
      refine cl_5 (by omega) (ct_fr hf H (by decide)) hw (ctn_fr hf ht (by decide)) (by omega) (fun z1 hf1 => ?_)
      rw [l_add, q_a1]
      exact ih (k + 1) (by omega) z1 (fr_trans hf hf1)
  exact lp n 0 (by omega) h (fr_refl _ _ _)
/-- the first restless host, or -1 -/
def rF (n m : Nat) (cu lo : Int32) (W B : Nat → Int32) (t : Nat → Nat → Nat) (r : Int32) : Prop := (r = -1 ∧ ∀ x, x < n → ¬ rX n m cu lo W B t x (Int64.ofInt (mN n m cu lo W t x))) ∨ ∃ x, x < n ∧ r = Int32.ofNat x ∧ rX n m cu lo W B t x (Int64.ofInt (mN n m cu lo W t x)) ∧ ∀ y, y < x → ¬ rX n m cu lo W B t y (Int64.ofInt (mN n m cu lo W t y))
theorem rF_one {n m : Nat} {cu lo : Int32} {W B : Nat → Int32} {t : Nat → Nat → Nat} {r s : Int32} (h1 : rF n m cu lo W B t r) (h2 : rF n m cu lo W B t s) : r = s := by
  rcases h1 with ⟨a1, a2⟩ | ⟨x, a1, a2, a3, a4⟩
  · rcases h2 with ⟨b1, b2⟩ | ⟨y, b1, b2, b3, b4⟩
    · rw [a1, b1]
    · exact absurd b3 (a2 y b1)
  · rcases h2 with ⟨b1, b2⟩ | ⟨y, b1, b2, b3, b4⟩
    · exact absurd a3 (b2 x a1)
    · rcases Nat.lt_trichotomy x y with q | q | q
      · exact absurd a3 (b4 x q)
      · rw [a2, b2, q]
      · exact absurd b3 (a4 y q)
theorem lp_127 {d n m : Nat} {h : lm_H} {K : Int32 → lm_H → Prop} {cu lo : Int32} {W B : Nat → Int32} {t : Nat → Nat → Nat} (hD : 4 ≤ d) (H : ct h 21 n m cu lo W B) (hn : lm_i h 1 0 = Int32.ofNat n) (hw : wd n m cu lo W) (ht : ctn h n m t)
    (hK : ∀ r h', fr [54] [] h h' → rF n m cu lo W B t r → K r h') : (lm_W (d) 127 21 [some (.ref 0), some (.int 0)] [] h (lm_kI K)) := by
  have h5 := H.2.1
  have lp : ∀ r k : Nat, r + k = n → ∀ z, fr [54] [] h z → (∀ y, y < k → ¬ rX n m cu lo W B t y (Int64.ofInt (mN n m cu lo W t y))) → (lm_W (d) 127 21 [some (.ref 0), some (.int (Int32.ofNat k))] [] z (lm_kI K)) := by
    intro r
    induction r with
    | zero =>
      intro k hk z hf hno
      have e : k = n := by omega
      rw [e] at hno ⊢
      refine b_127_21 _ (fr_Lay hf H.1) ?_
      rw [fr_i hf (by decide) (by decide), hn, if_neg (by rw [q_lt (by omega) (by omega)]; omega)]
      exact hK _ z hf (Or.inl ⟨rfl, hno⟩)
    | succ r ih =>
      intro k hk z hf hno
      refine b_127_21 _ (fr_Lay hf H.1) ?_
      rw [fr_i hf (by decide) (by decide), hn, if_pos (by rw [q_lt (by omega) (by omega)]; omega)]
      refine cl_6 (by omega) (ct_fr hf H (by decide)) hw (ctn_fr hf ht (by decide)) (by omega) (fun y z1 hf1 hy => ?_)
      have hf1' := fr_trans hf hf1
      refine cl_5 (by omega) (ct_fr hf1' H (by decide)) hw (ctn_fr hf1' ht (by decide)) (by omega) (fun z2 hf2 => ?_)
      by_cases c : rX n m cu lo W B t k (Int64.ofInt (mN n m cu lo W t k))
      · rw [if_pos (by rw [lg_cmp_gt]; exact (hy _).2 c)]
        exact hK _ z2 (fr_trans hf1' hf2) (Or.inr ⟨k, by omega, rfl, c, hno⟩)
      · rw [if_neg (by rw [lg_cmp_gt]; exact fun q => c ((hy _).1 q)), q_a1]
        refine ih (k + 1) (by omega) z2 (fr_trans hf1' hf2) (fun y hy => ?_)
        by_cases e : y = k
        · rw [e]; exact c
        · exact hno y (by omega)
  exact lp n 0 (by omega) h (fr_refl _ _ _) (fun y hy => by omega)
theorem lp_246 {d n m : Nat} {h : lm_H} {K : Int32 → lm_H → Prop} {cu lo : Int32} {W B : Nat → Int32} {t : Nat → Nat → Nat} (hD : 4 ≤ d + 1) (H : rt h n m cu lo W B) (hw : wd n m cu lo W) (ht : rtn h n m t) (hts : ∀ x, x < n → tS t x m ≤ 10)
    (hK : ∀ r h', fr [112] [] h h' → rF n m cu lo W B t r → K r h') : (lm_W (d + 1) 246 6 [some (.ref 92), some (.int 0), none] [] h (lm_kI K)) := by
  have h5 := H.2.1
  have h6 := H.2.2.1
  have e10 : (10 : Int64) = Int64.ofInt 10 := rfl
  have lp : ∀ r k : Nat, r + k = n → ∀ z, fr [112] [] h z → (∀ y, y < k → ¬ rX n m cu lo W B t y (Int64.ofInt (mN n m cu lo W t y))) → (lm_W (d + 1) 246 6 [some (.ref 92), some (.int (Int32.ofNat k)), none] [] z (lm_kI K)) := by
    intro r
    induction r with
    | zero =>
      intro k hk z hf hno
      have e : k = n := by omega
      rw [e] at hno ⊢
      have Hz := rt_fr hf H (by decide)
      refine b_246_6 _ Hz.1 ?_
      rw [Hz.2.2.2.1, if_neg (by rw [q_lt (by omega) (by omega)]; omega)]
      exact hK _ z hf (Or.inl ⟨rfl, hno⟩)
    | succ r ih =>
      intro k hk z hf hno
      have Hz := rt_fr hf H (by decide)
      have e2 : (10 : Int) * (60 * lo.toInt * 10 ^ (n - 1)) = aL n lo := by
        unfold aL
        have : (10 : Int) ^ n = 10 ^ (n - 1) * 10 := by
          rw [← Int.pow_succ]
          congr 1
          omega
        rw [this]
        grind
      refine b_246_6 _ Hz.1 ?_
      rw [Hz.2.2.2.1, if_pos (by rw [q_lt (by omega) (by omega)]; omega)]
      have lq : ∀ r g : Nat, r + g = m + 1 → ∀ z, fr [112] [] h z → (∀ j, j < g → j < m → B (6 * k + j) = 0 → ¬ Int64.ofInt (mN n m cu lo W t k) < Int64.ofInt (aL n lo + 10 * bT n cu lo (W (6 * k + j)) k (fun i => t i j))) → (m < g → ¬ Int64.ofInt (mN n m cu lo W t k) < Int64.ofInt (aL n lo)) → (lm_W (d + 1) 246 16 [some (.ref 92), some (.int (Int32.ofNat k)), some (.int (Int32.ofNat g))] [] z (lm_kI K)) := by
        intro r
        induction r with
        | zero =>
          intro g hg z hf n1 n2
          have e : g = m + 1 := by omega
          have Hz := rt_fr hf H (by decide)
          refine b_246_16 _ _ Hz.1 ?_
          rw [Hz.2.2.2.2.1, if_pos (by rw [q_lt (by omega) (by omega)]; omega), q_a1]
          refine ih (k + 1) (by omega) z hf (fun y hy => ?_)
          by_cases ey : y = k
          · rw [ey]
            rintro (q | ⟨j, q1, q2, q3⟩)
            · exact n2 (by omega) q
            · exact n1 j (by omega) q1 q2 q3
          · exact hno y (by omega)
        | succ r ih2 =>
          intro g hg z hf n1 n2
          have Hz := rt_fr hf H (by decide)
          have htz := rtn_fr hf ht (by decide)
          refine b_246_16 _ _ Hz.1 ?_
          rw [Hz.2.2.2.2.1, if_neg (by rw [q_lt (by omega) (by omega)]; omega)]
          refine cl_210 (by omega) Hz (by omega) (by omega) ?_
          rw [q_a1]
          have yes : ∀ z2, fr [112] [] h z2 → rX n m cu lo W B t k (Int64.ofInt (mN n m cu lo W t k)) → K (Int32.ofNat k) z2 := fun z2 hf2 c => hK _ z2 hf2 (Or.inr ⟨k, by omega, rfl, c, hno⟩)
          by_cases eg : g = m
          · have ca : aC m B k g = true := by unfold aC; simp [eg]
            rw [if_pos ca, if_neg (by decide), eg]
            refine cl_241m (by omega) Hz hw (by omega) ?_
            refine cl_242 (by omega) Hz hw htz (by omega) (hts k (by omega)) (fun z2 hf2 => ?_)
            rw [e10, l_mul, e2]
            have hf2' := fr_trans hf hf2
            by_cases c : Int64.ofInt (mN n m cu lo W t k) < Int64.ofInt (aL n lo)
            · rw [if_pos (by rw [lg_cmp_gt]; exact c)]
              exact yes z2 hf2' (Or.inl c)
            · rw [if_neg (by rw [lg_cmp_gt]; exact c)]
              rw [← eg]
              refine ih2 (g + 1) (by omega) z2 hf2' (fun j hj hjm hb => n1 j (by omega) hjm hb) (fun _ => c)
          · by_cases cb : B (6 * k + g) = 0
            · have ca : aC m B k g = true := by unfold aC; simp [cb]
              rw [if_pos ca, if_neg (by decide)]
              refine cl_241 (by omega) Hz hw htz (by omega) (by omega) (fun z1 hf1 => ?_)
              have hf1' := fr_trans hf hf1
              refine cl_242 (by omega) (rt_fr hf1' H (by decide)) hw (rtn_fr hf1' ht (by decide)) (by omega) (hts k (by omega)) (fun z2 hf2 => ?_)
              have hf2' := fr_trans hf1' hf2
              rw [e10, l_mul, Int.mul_add, e2, Int.add_comm]
              by_cases c : Int64.ofInt (mN n m cu lo W t k) < Int64.ofInt (aL n lo + 10 * bT n cu lo (W (6 * k + g)) k (fun i => t i g))
              · rw [if_pos (by rw [lg_cmp_gt]; exact c)]
                exact yes z2 hf2' (Or.inr ⟨g, by omega, cb, c⟩)
              · rw [if_neg (by rw [lg_cmp_gt]; exact c)]
                refine ih2 (g + 1) (by omega) z2 hf2' (fun j hj hjm hb => ?_) (fun q => by omega)
                by_cases ej : j = g
                · rw [ej]; exact c
                · exact n1 j (by omega) hjm hb
            · have ca : ¬ aC m B k g = true := by unfold aC; simp [cb, eg]
              rw [if_neg ca, if_pos rfl]
              refine ih2 (g + 1) (by omega) z hf (fun j hj hjm hb => ?_) (fun q => by omega)
              by_cases ej : j = g
              · rw [ej] at hb; exact absurd hb cb
              · exact n1 j (by omega) hjm hb
      exact lq (m + 1) 0 (by omega) z hf (fun j hj => by omega) (fun q => by omega)
  exact lp n 0 (by omega) h (fr_refl _ _ _) (fun y hy => by omega)
/-- laysDice behind looks -/
theorem lp_243 {d n m : Nat} {h : lm_H} {K : lm_H → Prop} {cu lo : Int32} {W B : Nat → Int32} {e : Nat → Nat} (hD : 2 ≤ d + 1) (H : rt h n m cu lo W B) (he : ∀ k, k < n → ∀ g, g < m → e (6 * k + g) ≤ 10 ∧ lm_i h 94 (41 + 6 * k + g) = Int32.ofNat (e (6 * k + g)))
    (hK : ∀ h', fr [111] [] h h' → rtn h' n m (tD B e) → K h') : (lm_W (d + 1) 243 6 [some (.ref 92), some (.int 0), none] [] h (lm_kV K)) := by
  have h5 := H.2.1
  have h6 := H.2.2.1
  have lp : ∀ r k : Nat, r + k = n → ∀ z, fr [111] [] h z → rtn z k m (tD B e) → (lm_W (d + 1) 243 6 [some (.ref 92), some (.int (Int32.ofNat k)), none] [] z (lm_kV K)) := by
    intro r
    induction r with
    | zero =>
      intro k hk z hf ht
      have ek : k = n := by omega
      rw [ek] at ht ⊢
      have Hz := rt_fr hf H (by decide)
      refine b_243_6 _ Hz.1 ?_
      rw [Hz.2.2.2.1, if_neg (by rw [q_lt (by omega) (by omega)]; omega)]
      exact hK z hf ht
    | succ r ih =>
      intro k hk z hf ht
      have Hz := rt_fr hf H (by decide)
      refine b_243_6 _ Hz.1 ?_
      rw [Hz.2.2.2.1, if_pos (by rw [q_lt (by omega) (by omega)]; omega)]
      have lq : ∀ r g : Nat, r + g = m → ∀ z, fr [111] [] h z → rtn z k m (tD B e) → (∀ j, j < g → tD B e k j ≤ 10 ∧ lm_i z 111 (6 * k + j) = Int32.ofNat (tD B e k j)) → (lm_W (d + 1) 243 16 [some (.ref 92), some (.int (Int32.ofNat k)), some (.int (Int32.ofNat g))] [] z (lm_kV K)) := by
        intro r
        induction r with
        | zero =>
          intro g hg z hf ht htg
          have eg : g = m := by omega
          rw [eg] at htg ⊢
          have Hz := rt_fr hf H (by decide)
          refine b_243_16 _ _ Hz.1 ?_
          rw [Hz.2.2.2.2.1, if_neg (by rw [q_lt (by omega) (by omega)]; omega), q_a1]
          refine ih (k + 1) (by omega) z hf (fun j hj g hg => ?_)
          by_cases ej : j = k
          · rw [ej]; exact htg g hg
          · exact ht j (by omega) g hg
        | succ r ih2 =>
          intro g hg z hf ht htg
          have Hz := rt_fr hf H (by decide)
          have heg := he k (by omega) g (by omega)
          have e6 : lm_i z 94 (41 + 6 * k + g) = Int32.ofNat (e (6 * k + g)) := by rw [fr_i hf (by decide) (by decide)]; exact heg.2
          have fin : ∀ v, v ≤ 10 → v = tD B e k g → (lm_W (d + 1) 243 16 [some (.ref 92), some (.int (Int32.ofNat k)), some (.int (Int32.ofNat (g + 1)))] [] (lm_si z 111 (6 * k + g) (Int32.ofNat v)) (lm_kV K)) := by
            intro v hv hve
            refine ih2 (g + 1) (by omega) _ (fr_si hf (by decide) (by decide) _ _) (fun j hj i hi => ?_) (fun j hj => ?_)
            · rw [pi_si, if_pos rfl, if_neg (by omega)]
              exact ht j hj i hi
            · rw [pi_si, if_pos rfl]
              by_cases ej : j = g
              · rw [if_pos (by rw [ej]), ej, ← hve]
                exact ⟨hv, rfl⟩
              · rw [if_neg (by omega)]
                exact htg j (by omega)
          refine b_243_16 _ _ Hz.1 ?_
          rw [Hz.2.2.2.2.1, if_pos (by rw [q_lt (by omega) (by omega)]; omega)]
          refine cl_210 (by omega) Hz (by omega) (by omega) ?_
          rw [q_6m, q_41, q_add, q_add, q_nat (by omega), q_nat (by omega), e6, q_a1]
          by_cases c : B (6 * k + g) = 0
          · have ca : aC m B k g = true := by unfold aC; simp [c]
            rw [if_pos ca, if_neg (by decide)]
            exact p_inN (by omega) (by omega) (p_inN (by omega) (by omega) (fin _ heg.1 (by unfold tD; rw [if_pos c])))
          · have ca : ¬ aC m B k g = true := by
              have : ¬ g = m := by omega
              unfold aC
              simp [c, this]
            rw [if_neg ca, if_pos rfl]
            exact p_inN (by omega) (by omega) (fin 0 (by omega) (by unfold tD; rw [if_neg c]))
      exact lq m 0 (by omega) z hf ht (fun j hj => by omega)
  exact lp n 0 (by omega) h (fr_refl _ _ _) (fun j hj => by omega)
