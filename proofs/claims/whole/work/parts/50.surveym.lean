/-! All askings: the reference (219, 220, 222). -/
theorem cl_219 {D n m : Nat} {h : lm_H} {K : Int32 → lm_H → Prop} {cu lo : Int32} {W B : Nat → Int32} (hD : 2 ≤ D) (H : rt h n m cu lo W B) (hK : K (Int32.ofNat ((m + 1) ^ n)) h) : lm_call D 219 [.ref 92] h (lm_kI K) := by
  obtain ⟨d, rfl⟩ := q_dp hD
  obtain ⟨hl, h5, h6, hn, hm, h1, h2, h3⟩ := H
  refine e_219 hl ?_
  have lp : ∀ r k : Nat, r + k = n → (lm_W (d + 1) 219 4 [some (.ref 92), some (.int (Int32.ofNat ((m + 1) ^ k))), some (.int (Int32.ofNat k))] [] h (lm_kI K)) := by
    intro r
    induction r with
    | zero =>
      intro k hk
      refine b_219_4 _ _ hl ?_
      have : k = n := by omega
      subst this
      simp (disch := omega) only [q_add, q_mul, q_m7, q_m6, q_6m, q_7m, q_a1, q_5m, q_m5, q_71, q_11, q_87, q_41, q_76, q_5a, q_0a, q_a6, q_nat, q_in, q_lt, q_eq, q_lt0, if_true, if_false, hn]
      rw [if_neg (by omega)]
      exact hK
    | succ r ih =>
      intro k hk
      refine b_219_4 _ _ hl ?_
      simp (disch := omega) only [q_add, q_mul, q_m7, q_m6, q_6m, q_7m, q_a1, q_5m, q_m5, q_71, q_11, q_87, q_41, q_76, q_5a, q_0a, q_a6, q_nat, q_in, q_lt, q_eq, q_lt0, if_true, if_false, hn, hm]
      rw [if_pos (by omega), ← Nat.pow_succ]
      exact ih (k + 1) (by omega)
  exact lp n 0 (by omega)
theorem cl_220 {D n m k : Nat} {h0 : lm_H} {K : Int32 → lm_H → Prop} {cu lo : Int32} {W B : Nat → Int32} (hD : 3 ≤ D) (H : rt h0 n m cu lo W B) (hk : k < 2147483648)
    (hK : ∀ r h', fr [107] [] h0 h' → rt h' n m cu lo W B → (∀ j, j < n → lm_i h' 107 j = Int32.ofNat (dD m n k j)) → (r = 0 ∨ r = 1) → (r = 1 ↔ ∀ j, j < n → aC m B j (dD m n k j) = true) → K r h') : lm_call D 220 [.ref 92, .int (Int32.ofNat k)] h0 (lm_kI K) := by
  obtain ⟨d, rfl⟩ := q_dp hD
  have h5 := H.2.1
  have h6 := H.2.2.1
  refine e_220 _ H.1 ?_
  have lp : ∀ x, x ≤ n → ∀ h, fr [107] [] h0 h → rt h n m cu lo W B → (∀ j, x ≤ j → j < n → lm_i h 107 j = Int32.ofNat (dD m n k j)) → ∀ v, (v = 0 ∨ v = 1) → (v = 1 ↔ ∀ j, x ≤ j → j < n → aC m B j (dD m n k j) = true) → (lm_W ((d + 1) + 1) 220 12 [some (.ref 92), none, some (.int (Int32.ofNat (kx m n k x))), some (.int v), some (.int (Int32.ofNat x - 1))] [] h (lm_kI K)) := by
    intro x
    induction x with
    | zero =>
      intro _ h hf H ha v hv hv1
      refine b_220_12 _ _ _ H.1 ?_
      rw [if_pos (by decide)]
      exact ⟨q_b1or v hv, hK v h hf H (fun j hj => ha j (by omega) hj) hv (hv1.trans ⟨fun q j hj => q j (by omega) hj, fun q j _ hj => q j hj⟩)⟩
    | succ x ih =>
      intro hx h hf H ha v hv hv1
      have hm := H.2.2.2.2.1
      have hle : kx m n k (x + 1) ≤ k := Nat.div_le_self _ _
      have hdg := dD_lt m n k x
      have hi := ih (by omega)
      rw [kx_step (by omega)] at hi
      rw [q_p1]
      refine b_220_12 _ _ _ H.1 ?_
      rw [if_neg (by rw [q_lt0 (by omega)]; exact id), hm]
      simp (disch := omega) only [q_add, q_mul, q_m7, q_m6, q_6m, q_7m, q_a1, q_5m, q_m5, q_71, q_11, q_87, q_41, q_76, q_5a, q_0a, q_a6, q_nat, q_in, q_lt, q_eq, q_lt0, if_true, if_false]
      have hne : ¬ Int32.ofNat (m + 1) = 0 := by rw [q_e0 (by omega)]; omega
      refine ⟨hne, hne, ?_⟩
      rw [q_div (by omega) (by omega), q_mod]
      have ha' : ∀ j, x ≤ j → j < n → lm_i (lm_si h 107 x (Int32.ofNat (dD m n k x))) 107 j = Int32.ofNat (dD m n k j) := by
        intro j h1 h2
        rw [pi_si, if_pos rfl]
        by_cases e : j = x
        · rw [if_pos e, e]
        · rw [if_neg e]
          exact ha j (by omega) h2
      by_cases cv : v = 0
      · rw [if_pos cv]
        refine hi _ (fr_si hf (by decide) (by decide) _ _) (rt_si H (by decide) _ _) ha' 0 (Or.inl rfl) ⟨fun q => absurd q (by decide), fun q => ?_⟩
        exfalso
        have : v = 1 := hv1.2 (fun j hj hw => q j (by omega) hw)
        rw [cv] at this
        exact absurd this (by decide)
      · have hv2 : v = 1 := by rcases hv with q | q; exact absurd q cv; exact q
        rw [if_neg cv]
        show lm_call _ _ [_, _, .int (Int32.ofNat (dD m n k x))] _ _
        refine cl_210 (by omega) (rt_si H (by decide) _ _) (by omega) hdg ?_
        by_cases ca : aC m B x (dD m n k x) = true
        · rw [if_pos ca, if_neg (by decide)]
          refine hi _ (fr_si hf (by decide) (by decide) _ _) (rt_si H (by decide) _ _) ha' 1 (Or.inr rfl) ⟨fun _ j h1 h2 => ?_, fun _ => rfl⟩
          by_cases e : j = x
          · rw [e]; exact ca
          · exact hv1.1 hv2 j (by omega) h2
        · rw [if_neg ca, if_pos rfl]
          refine hi _ (fr_si hf (by decide) (by decide) _ _) (rt_si H (by decide) _ _) ha' 0 (Or.inl rfl) ⟨fun q => absurd q (by decide), fun q => ?_⟩
          exact absurd (q x (Nat.le_refl x) (by omega)) ca
  have := lp n (Nat.le_refl n) h0 (fr_refl _ _ _) H (fun j h1 h2 => by omega) 1 (Or.inr rfl) ⟨fun _ j h1 h2 => by omega, fun _ => rfl⟩
  rw [kx_n] at this
  rw [H.2.2.2.1]
  exact this
theorem bM_lt {f : Nat → Int32} {cn : Nat → Bool} {x : Int32} (hx : -1000000 ≤ x) : ∀ g, x < bM f cn g ↔ ∃ j, j < g ∧ cn j = true ∧ x < f j := by
  intro g
  induction g with
  | zero =>
    rw [bM]
    constructor
    · intro q
      exfalso
      grind
    · rintro ⟨j, hj, _⟩
      omega
  | succ g ih =>
    rw [bM]
    by_cases c : cn g = true ∧ bM f cn g < f g
    · rw [if_pos c]
      constructor
      · intro q
        exact ⟨g, by omega, c.1, q⟩
      · rintro ⟨j, hj, h1, h2⟩
        by_cases e : j = g
        · rw [e] at h2; exact h2
        · have := ih.2 ⟨j, by omega, h1, h2⟩
          have := c.2
          grind
    · rw [if_neg c, ih]
      constructor
      · rintro ⟨j, hj, h1, h2⟩
        exact ⟨j, by omega, h1, h2⟩
      · rintro ⟨j, hj, h1, h2⟩
        by_cases e : j = g
        · subst e
          have h3 : ¬ bM f cn j < f j := fun q => c ⟨h1, q⟩
          apply ih.1
          grind
        · exact ⟨j, by omega, h1, h2⟩
/-- whether one of the first k hosts would gain by asking otherwise -/
def uS (n m : Nat) (cu lo : Int32) (W B : Nat → Int32) (A : Nat → Nat) : Nat → Bool
  | 0 => false
  | k + 1 => uS n m cu lo W B A k || decide (cG n cu lo W A k (A k) < bM (aF n m cu lo W A k) (aC m B k) (m + 1))
theorem uS_up {n m : Nat} {cu lo : Int32} {W B : Nat → Int32} {A : Nat → Nat} {k : Nat} (h : uS n m cu lo W B A k = true) : ∀ j, k ≤ j → uS n m cu lo W B A j = true := by
  intro j
  induction j with
  | zero => intro q; have : k = 0 := (by omega); subst this; exact h
  | succ j ih =>
    intro q
    by_cases e : k = j + 1
    · rw [← e]; exact h
    · rw [uS, ih (by omega), Bool.true_or]
theorem cl_222 {D n m : Nat} {h : lm_H} {K : Int32 → lm_H → Prop} {cu lo : Int32} {W B : Nat → Int32} {A : Nat → Nat} (hD : 4 ≤ D) (H : rt h n m cu lo W B) (hw : wd n m cu lo W) (ha : ra h n m A) (hG : gA n m A) (hK : K (if uS n m cu lo W B A n then 0 else 1) h) : lm_call D 222 [.ref 92] h (lm_kI K) := by
  obtain ⟨d, rfl⟩ := q_dp hD
  have h5 := H.2.1
  have h6 := H.2.2.1
  have hn := H.2.2.2.1
  have hm := H.2.2.2.2.1
  refine e_222 H.1 ?_
  have lp : ∀ r k : Nat, r + k = n → uS n m cu lo W B A k = false → (lm_W ((d + 2) + 1) 222 2 [some (.ref 92), some (.int (Int32.ofNat k)), none, none, none, none] [] h (lm_kI K)) := by
    intro r
    induction r with
    | zero =>
      intro k hk hu
      have : k = n := by omega
      subst this
      refine b_222_2 _ H.1 ?_
      simp (disch := omega) only [q_add, q_mul, q_m7, q_m6, q_6m, q_7m, q_a1, q_5m, q_m5, q_71, q_11, q_87, q_41, q_76, q_5a, q_0a, q_a6, q_nat, q_in, q_lt, q_eq, q_lt0, if_true, if_false, hn]
      rw [if_neg (by omega)]
      rw [if_neg (by rw [hu]; decide)] at hK
      exact hK
    | succ r ih =>
      intro k hk hu
      refine b_222_2 _ H.1 ?_
      simp (disch := omega) only [q_add, q_mul, q_m7, q_m6, q_6m, q_7m, q_a1, q_5m, q_m5, q_71, q_11, q_87, q_41, q_76, q_5a, q_0a, q_a6, q_nat, q_in, q_lt, q_eq, q_lt0, if_true, if_false, hn]
      rw [if_pos (by omega)]
      refine cm_214 (by omega) H ha hG hw.1 (by omega) ?_
      have hgb := cG_b hw A (k := k) (c := A k) h5 (by omega) (hG k (by omega))
      have hbl := bM_lt (f := aF n m cu lo W A k) (cn := aC m B k) (x := cG n cu lo W A k (A k)) (by grind)
      -- the inner loop
      have lq : ∀ r g : Nat, r + g = m + 1 → ∀ v0 v, (v = 0 ∨ v = 1) → (v = 1 ↔ cG n cu lo W A k (A k) < bM (aF n m cu lo W A k) (aC m B k) g) → (lm_W ((d + 2) + 1) 222 29 [some (.ref 92), some (.int (Int32.ofNat k)), some (.int (lm_i h 107 k)), some (.int (cG n cu lo W A k (A k))), some (.int v), some (.int (Int32.ofNat g))] [] (lm_si h 107 k v0) (lm_kI K)) := by
        intro r
        induction r with
        | zero =>
          intro g hg v0 v hv hv1
          have : g = m + 1 := by omega
          subst this
          refine b_222_29 _ _ _ _ _ (lm_Lay_si H.1 _ _ _) ?_
          rw [show lm_i (lm_si h 107 k v0) 94 82 = Int32.ofNat m from hm]
          simp (disch := omega) only [q_add, q_mul, q_m7, q_m6, q_6m, q_7m, q_a1, q_5m, q_m5, q_71, q_11, q_87, q_41, q_76, q_5a, q_0a, q_a6, q_nat, q_in, q_lt, q_eq, q_lt0, if_true, if_false]
          rw [if_pos (by omega), q_sisi, q_self]
          by_cases cv : v = 0
          · rw [if_pos cv]
            refine ih (k + 1) (by omega) ?_
            rw [uS, hu, Bool.false_or, decide_eq_false_iff_not]
            intro q
            rw [hv1.2 q] at cv
            exact absurd cv (by decide)
          · rw [if_neg cv]
            have hv2 : v = 1 := by rcases hv with q | q; exact absurd q cv; exact q
            have hu1 : uS n m cu lo W B A (k + 1) = true := by
              rw [uS, hu, Bool.false_or, decide_eq_true_eq]
              exact hv1.1 hv2
            rw [if_pos (uS_up hu1 n (by omega))] at hK
            exact hK
        | succ r ih2 =>
          intro g hg v0 v hv hv1
          refine b_222_29 _ _ _ _ _ (lm_Lay_si H.1 _ _ _) ?_
          rw [show lm_i (lm_si h 107 k v0) 94 82 = Int32.ofNat m from hm]
          simp (disch := omega) only [q_add, q_mul, q_m7, q_m6, q_6m, q_7m, q_a1, q_5m, q_m5, q_71, q_11, q_87, q_41, q_76, q_5a, q_0a, q_a6, q_nat, q_in, q_lt, q_eq, q_lt0, if_true, if_false]
          rw [if_neg (by omega), q_sisi]
          have hi := ih2 (g + 1) (by omega) (Int32.ofNat g)
          have hA' : ra (lm_si h 107 k (Int32.ofNat g)) n m (fun j => if j = k then (if g = m then 6 else g) else A j) := by
            intro j hj
            rw [pi_si, if_pos rfl]
            by_cases e : j = k
            · rw [if_pos e]
              simp only [e, if_true]
              congr 1
              split <;> split <;> omega
            · rw [if_neg e]
              simp only [e, if_false]
              exact ha j hj
          have hG' : gA n m (fun j => if j = k then (if g = m then 6 else g) else A j) := by
            intro j hj
            simp only
            by_cases e : j = k
            · rw [if_pos e]
              split <;> omega
            · rw [if_neg e]
              exact hG j hj
          have hb1 := bM_lt (f := aF n m cu lo W A k) (cn := aC m B k) (x := cG n cu lo W A k (A k)) (by grind) g
          have hb2 := bM_lt (f := aF n m cu lo W A k) (cn := aC m B k) (x := cG n cu lo W A k (A k)) (by grind) (g + 1)
          by_cases cv : v = 0
          · rw [if_pos cv]
            have hno : ¬ cG n cu lo W A k (A k) < bM (aF n m cu lo W A k) (aC m B k) g := by
              intro q
              rw [hv1.2 q] at cv
              exact absurd cv (by decide)
            refine cl_210 (by omega) (rt_si H (by decide) _ _) (by omega) (by omega) ?_
            by_cases ca : aC m B k g = true
            · rw [if_pos ca, if_neg (by decide)]
              refine cm_214 (by omega) (rt_si H (by decide) _ _) hA' hG' hw.1 (by omega) ?_
              rw [show cG n cu lo W (fun j => if j = k then (if g = m then 6 else g) else A j) k (if k = k then (if g = m then 6 else g) else A k) = aF n m cu lo W A k g by rw [if_pos rfl]; exact cG_up _]
              by_cases c2 : cG n cu lo W A k (A k) < aF n m cu lo W A k g
              · rw [if_pos c2]
                exact hi 1 (Or.inr rfl) ⟨fun _ => hb2.2 ⟨g, by omega, ca, c2⟩, fun _ => rfl⟩
              · rw [if_neg c2]
                refine hi 0 (Or.inl rfl) ⟨fun q => absurd q (by decide), fun q => ?_⟩
                exfalso
                obtain ⟨j, hj, h1, h2⟩ := hb2.1 q
                by_cases e : j = g
                · rw [e] at h2; exact c2 h2
                · exact hno (hb1.2 ⟨j, by omega, h1, h2⟩)
            · rw [if_neg ca, if_pos rfl]
              refine hi 0 (Or.inl rfl) ⟨fun q => absurd q (by decide), fun q => ?_⟩
              exfalso
              obtain ⟨j, hj, h1, h2⟩ := hb2.1 q
              by_cases e : j = g
              · rw [e] at h1; exact ca h1
              · exact hno (hb1.2 ⟨j, by omega, h1, h2⟩)
          · rw [if_neg cv]
            have hv2 : v = 1 := by rcases hv with q | q; exact absurd q cv; exact q
            refine hi 1 (Or.inr rfl) ⟨fun _ => ?_, fun _ => rfl⟩
            obtain ⟨j, hj, h1, h2⟩ := hb1.1 (hv1.1 hv2)
            exact hb2.2 ⟨j, by omega, h1, h2⟩
      have := lq (m + 1) 0 (by omega) (lm_i h 107 k) 0 (Or.inl rfl) ⟨fun q => absurd q (by decide), fun q => by obtain ⟨j, hj, _⟩ := (hbl 0).1 q; omega⟩
      rw [q_self] at this
      exact this
  exact lp n 0 (by omega) rfl
/-- the least gain of the first k hosts, from s -/
def lF (n : Nat) (cu lo : Int32) (W : Nat → Int32) (A : Nat → Nat) (s : Int32) : Nat → Int32
  | 0 => s
  | k + 1 => if cG n cu lo W A k (A k) < lF n cu lo W A s k then cG n cu lo W A k (A k) else lF n cu lo W A s k
/-- the most of S, where first, how often, among the first i -/
def mS (S : Nat → Int32) : Nat → Int32 × Nat × Nat
  | 0 => (0, 0, 0)
  | i + 1 => if (mS S i).2.2 = 0 ∨ (mS S i).1 < S i then (S i, i, 1) else if S i = (mS S i).1 then ((mS S i).1, (mS S i).2.1, (mS S i).2.2 + 1) else mS S i
/-- the greatest and the least of S where U is false -/
def sB (S : Nat → Int32) (U : Nat → Bool) : Nat → Int32 × Int32
  | 0 => (0, 0)
  | i + 1 => if U i then sB S U i else if q_cn (fun j => !U j) i = 0 then (S i, S i) else (if (sB S U i).1 < S i then S i else (sB S U i).1, if S i < (sB S U i).2 then S i else (sB S U i).2)
def vS (n m : Nat) (cu lo : Int32) (W B : Nat → Int32) (i : Nat) : Int32 := sG n cu lo W (aI B m n i) n
def vL (n m : Nat) (cu lo : Int32) (W B : Nat → Int32) (s : Int32) (i : Nat) : Int32 := lF n cu lo W (aI B m n i) s n
def vU (n m : Nat) (cu lo : Int32) (W B : Nat → Int32) (i : Nat) : Bool := uS n m cu lo W B (aI B m n i) n
/-- what the reference has found among the first i that fit -/
def sv1 (S : Nat → Int32) (q : Nat → Nat) (h : lm_H) (i : Nat) : Prop := lm_i h 92 31 = Int32.ofNat (mS S i).2.2 ∧ (0 < i → lm_i h 92 30 = (mS S i).1 ∧ lm_i h 92 32 = Int32.ofNat (q (mS S i).2.1))
def sv2 (L : Nat → Int32) (h : lm_H) (i : Nat) : Prop := lm_i h 92 34 = Int32.ofNat (mS L i).2.2 ∧ (0 < i → lm_i h 92 33 = (mS L i).1)
def sv3 (S : Nat → Int32) (U : Nat → Bool) (q : Nat → Nat) (h : lm_H) (i : Nat) : Prop := lm_i h 92 35 = Int32.ofNat (q_cn (fun j => !U j) i) ∧ (0 < q_cn (fun j => !U j) i → lm_i h 92 36 = (sB S U i).1 ∧ lm_i h 92 37 = (sB S U i).2) ∧ ∀ j, j < i → U j = false → lm_i h 108 (q_cn (fun j => !U j) j) = Int32.ofNat (q j)
theorem mS_le (S : Nat → Int32) (i : Nat) : (mS S i).2.2 ≤ i ∧ (0 < i → 0 < (mS S i).2.2 ∧ (mS S i).2.1 < i) := by
  induction i with
  | zero => exact ⟨Nat.le_refl 0, fun q => by omega⟩
  | succ i ih =>
    rw [mS]
    by_cases c : (mS S i).2.2 = 0 ∨ (mS S i).1 < S i
    · rw [if_pos c]
      exact ⟨by show 1 ≤ i + 1; omega, fun _ => ⟨by show 0 < 1; omega, by show i < i + 1; omega⟩⟩
    · rw [if_neg c]
      have hi : 0 < i := by
        by_cases e : i = 0
        · subst e; exact absurd (Or.inl rfl) c
        · omega
      have := ih.2 hi
      split
      · exact ⟨by show (mS S i).2.2 + 1 ≤ i + 1; omega, fun _ => ⟨by show 0 < (mS S i).2.2 + 1; omega, by show (mS S i).2.1 < i + 1; omega⟩⟩
      · exact ⟨by omega, fun _ => ⟨this.1, by omega⟩⟩
theorem q_cn_lt {P : Nat → Bool} {j i : Nat} (hj : j < i) (hP : P j = true) : q_cn P j < q_cn P i := by
  induction i with
  | zero => omega
  | succ i ih =>
    rw [q_cn]
    by_cases e : j = i
    · rw [← e, if_pos hP]
      omega
    · have := ih (by omega)
      omega
