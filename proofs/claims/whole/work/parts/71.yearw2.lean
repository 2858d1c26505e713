/-! The year: envy, keeping, wishes. -/
/-- the richest other host, 9 for none -/
def ev (G : Nat → Int32) (k : Nat) : Nat → Nat
  | 0 => 9
  | j + 1 => if j = k then ev G k j else if ev G k j = 9 ∨ G (ev G k j) < G j then j else ev G k j
theorem ev_le (G : Nat → Int32) (k j : Nat) : ev G k j < j ∨ ev G k j = 9 := by
  induction j with
  | zero => exact Or.inr rfl
  | succ j ih =>
    rw [ev]
    split
    · omega
    · split
      · exact Or.inl (by omega)
      · omega
def eV (G : Nat → Int32) (C T : Nat → Nat) (k n : Nat) : Nat := if ev G k n = 9 ∨ C (ev G k n) = 6 then T k else C (ev G k n)
theorem cl_91 {D n k : Nat} {h : lm_H} {K : Int32 → lm_H → Prop} {G : Nat → Int32} {C T : Nat → Nat} (hD : 1 ≤ D) (hl : lm_Lay h) (h5 : n ≤ 5) (hk : k < n) (hn : lm_i h 58 5 = Int32.ofNat n) (hG : ∀ j, j < n → lm_i h 72 j = G j) (hC : ∀ j, j < n → C j ≤ 6 ∧ lm_i h 71 j = Int32.ofNat (C j)) (hT : lm_i h 5 k = Int32.ofNat (T k)) (hK : K (Int32.ofNat (eV G C T k n)) h) : lm_call D 91 [.ref 58, .ref 1, .int (Int32.ofNat k)] h (lm_kI K) := by
  obtain ⟨d, rfl⟩ := q_dp hD
  refine e_91 _ hl ?_
  have lp : ∀ r j : Nat, r + j = n → (lm_W (d) 91 5 [some (.ref 58), some (.ref 1), some (.int (Int32.ofNat k)), some (.int (if ev G k j = 9 then -1 else Int32.ofNat (ev G k j))), some (.int (Int32.ofNat j))] [] h (lm_kI K)) := by
    intro r
    induction r with
    | zero =>
      intro j hj
      have ej : j = n := by omega
      rw [ej]
      have hle := ev_le G k n
      refine b_91_5 _ _ _ hl ?_
      rw [hn, if_neg (by rw [q_lt (by omega) (by omega)]; omega)]
      unfold eV at hK
      by_cases c : ev G k n = 9
      · rw [if_pos (Or.inl c)] at hK
        rw [if_pos c, if_pos rfl, q_in (by omega) (by omega), q_nat (by omega), hT]
        exact hK
      · have hne : ¬ Int32.ofNat (ev G k n) = -1 := by intro q; have := congrArg Int32.toInt q; rw [p_onI (by omega)] at this; have e : (-1 : Int32).toInt = -1 := rfl; omega
        obtain ⟨c1, c2⟩ := hC (ev G k n) (by omega)
        rw [if_neg c, if_neg hne, q_in (by omega) (by omega), q_nat (by omega), c2]
        by_cases c6 : C (ev G k n) = 6
        · rw [if_pos (Or.inr c6)] at hK
          rw [if_pos (by rw [c6]; rfl)]
          refine p_inN (by omega) (by omega) ?_
          rw [q_nat (by omega), hT]
          exact hK
        · rw [if_neg (by rintro (q | q); exact c q; exact c6 q)] at hK
          rw [if_neg (by rw [q_e6 (by omega)]; exact c6)]
          exact p_inN (by omega) (by omega) hK
    | succ r ih =>
      intro j hj
      have hle := ev_le G k j
      have hi := ih (j + 1) (by omega)
      rw [ev] at hi
      refine b_91_5 _ _ _ hl ?_
      rw [hn, if_pos (by rw [q_lt (by omega) (by omega)]; omega), q_a1]
      by_cases c : j = k
      · rw [if_pos (by rw [c])]
        rw [if_pos c] at hi
        exact hi
      · rw [if_neg (by rw [q_eq (by omega) (by omega)]; exact c)]
        rw [if_neg c] at hi
        by_cases c9 : ev G k j = 9
        · rw [if_pos (Or.inl c9), if_neg (by omega)] at hi
          rw [if_pos c9, if_pos rfl]
          exact hi
        · have hne : ¬ Int32.ofNat (ev G k j) = -1 := by intro q; have := congrArg Int32.toInt q; rw [p_onI (by omega)] at this; have e : (-1 : Int32).toInt = -1 := rfl; omega
          rw [if_neg c9, if_neg hne, q_in (by omega) (by omega), q_in (by omega) (by omega), q_nat (by omega), q_nat (by omega), hG j (by omega), hG (ev G k j) (by omega)]
          by_cases cg : G (ev G k j) < G j
          · rw [if_pos (Or.inr cg), if_neg (by omega)] at hi
            rw [if_pos cg]
            exact hi
          · have cn : ¬ (ev G k j = 9 ∨ G (ev G k j) < G j) := by
              intro q
              rcases q with q | q
              · exact c9 q
              · exact cg q
            rw [if_neg cn, if_neg c9] at hi
            rw [if_neg cg]
            exact hi
  exact lp n 0 (by omega)
/-- rows of an evening, as the reference has them -/
def ry (h : lm_H) (n e : Nat) (A C : Nat → Nat) (G : Nat → Int32) : Prop := ∀ j, j < n → A j ≤ 6 ∧ C j ≤ 6 ∧ lm_i h 115 (5 * e + j) = nC (A j) ∧ lm_i h 116 (5 * e + j) = nC (C j) ∧ lm_i h 117 (5 * e + j) = G j
theorem nC_m1 {a : Nat} (ha : a ≤ 6) : nC a = -1 ↔ a = 6 := by
  unfold nC
  constructor
  · intro q
    by_cases c : a = 6
    · exact c
    · rw [if_neg c] at q
      have := congrArg Int32.toInt q
      rw [p_onI (by omega)] at this
      have e : (-1 : Int32).toInt = -1 := rfl
      omega
  · intro q; rw [if_pos q]
theorem nC_eq {a g : Nat} (ha : a ≤ 6) (hg : g < 6) : nC a = Int32.ofNat g ↔ a = g := by
  unfold nC
  by_cases c : a = 6
  · rw [if_pos c]
    constructor
    · intro q
      have := congrArg Int32.toInt q
      rw [p_onI (by omega)] at this
      have e : (-1 : Int32).toInt = -1 := rfl
      omega
    · intro q; omega
  · rw [if_neg c, q_eq (by omega) (by omega)]
theorem lp_253e {d n m k e : Nat} {h : lm_H} {K : Int32 → lm_H → Prop} {cu lo : Int32} {W B : Nat → Int32} {A C T : Nat → Nat} {G : Nat → Int32} (H : rt h n m cu lo W B) (hk : k < n) (he : e < 40) (hy : ry h n e A C G) (hK : K (nC (eV G C T k n)) h) : (lm_W (d + 1) 253 292 [some (.ref 92), some (.int (Int32.ofNat k)), none, some (.int (nC (T k))), none, some (.int (Int32.ofNat (5 * e))), some (.int (-1)), some (.int 0), none, none] [] h (lm_kI K)) := by
  have h5 := H.2.1
  have lp : ∀ r j : Nat, r + j = n → (lm_W (d + 1) 253 292 [some (.ref 92), some (.int (Int32.ofNat k)), none, some (.int (nC (T k))), none, some (.int (Int32.ofNat (5 * e))), some (.int (if ev G k j = 9 then -1 else Int32.ofNat (ev G k j))), some (.int (Int32.ofNat j)), none, none] [] h (lm_kI K)) := by
    intro r
    induction r with
    | zero =>
      intro j hj
      have ej : j = n := by omega
      rw [ej]
      have hle := ev_le G k n
      refine b_253_292 _ _ _ _ _ H.1 ?_
      rw [H.2.2.2.1, if_neg (by rw [q_lt (by omega) (by omega)]; omega)]
      unfold eV at hK
      by_cases c : ev G k n = 9
      · rw [if_pos (Or.inl c)] at hK
        rw [if_pos c, if_pos rfl]
        exact hK
      · have hne : ¬ Int32.ofNat (ev G k n) = -1 := by intro q; have := congrArg Int32.toInt q; rw [p_onI (by omega)] at this; have e : (-1 : Int32).toInt = -1 := rfl; omega
        obtain ⟨a1, a2, a3, a4, a5⟩ := hy (ev G k n) (by omega)
        rw [if_neg c, if_neg hne, q_add, q_in (by omega) (by omega), q_nat (by omega), a4]
        by_cases c6 : C (ev G k n) = 6
        · rw [if_pos (Or.inr c6)] at hK
          rw [if_pos ((nC_m1 a2).2 c6)]
          exact hK
        · rw [if_neg (by rintro (q | q); exact c q; exact c6 q)] at hK
          rw [if_neg (fun q => c6 ((nC_m1 a2).1 q))]
          exact p_inN (by omega) (by omega) hK
    | succ r ih =>
      intro j hj
      have hle := ev_le G k j
      have hi := ih (j + 1) (by omega)
      rw [ev] at hi
      refine b_253_292 _ _ _ _ _ H.1 ?_
      rw [H.2.2.2.1, if_pos (by rw [q_lt (by omega) (by omega)]; omega), q_a1]
      by_cases c : j = k
      · rw [if_pos (by rw [c])]
        rw [if_pos c] at hi
        exact hi
      · rw [if_neg (by rw [q_eq (by omega) (by omega)]; exact c)]
        rw [if_neg c] at hi
        by_cases c9 : ev G k j = 9
        · rw [if_pos (Or.inl c9), if_neg (by omega)] at hi
          rw [if_pos c9, if_pos rfl]
          exact hi
        · have hne : ¬ Int32.ofNat (ev G k j) = -1 := by intro q; have := congrArg Int32.toInt q; rw [p_onI (by omega)] at this; have e : (-1 : Int32).toInt = -1 := rfl; omega
          rw [if_neg c9, if_neg hne, q_add, q_add, q_in (by omega) (by omega), q_in (by omega) (by omega), q_nat (by omega), q_nat (by omega), (hy j (by omega)).2.2.2.2, (hy (ev G k j) (by omega)).2.2.2.2]
          by_cases cg : G (ev G k j) < G j
          · rw [if_pos (Or.inr cg), if_neg (by omega)] at hi
            rw [if_pos cg]
            exact hi
          · have cn : ¬ (ev G k j = 9 ∨ G (ev G k j) < G j) := by
              intro q
              rcases q with q | q
              · exact c9 q
              · exact cg q
            rw [if_neg cn, if_neg c9] at hi
            rw [if_neg cg]
            exact hi
  exact lp n 0 (by omega)
/-- whom he keeps, or the first whom nobody asked, or as told -/
def kf (B : Nat → Int32) (A : Nat → Nat) (k n g : Nat) : Bool := decide (B (6 * k + g) = 0) && decide (q_cn (fun j => decide (A j = g)) n = 0)
def kP (B : Nat → Int32) (A C T : Nat → Nat) (k n m : Nat) : Nat := if C k = 6 then (if q_fi (kf B A k n) 6 m = 6 then T k else q_fi (kf B A k n) 6 m) else C k
theorem cl_92 {D n m k : Nat} {h : lm_H} {K : Int32 → lm_H → Prop} {cu lo : Int32} {W B : Nat → Int32} {A C T : Nat → Nat} (hD : 2 ≤ D) (H : ct h 59 n m cu lo W B) (hk : k < n) (hA : ca h 70 n A) (hA6 : ∀ j, j < n → A j ≤ 6) (hC : C k ≤ 6 ∧ lm_i h 71 k = Int32.ofNat (C k)) (hT : lm_i h 5 k = Int32.ofNat (T k)) (hK : K (Int32.ofNat (kP B A C T k n m)) h) : lm_call D 92 [.ref 58, .ref 1, .int (Int32.ofNat k)] h (lm_kI K) := by
  obtain ⟨d, rfl⟩ := q_dp hD
  have h5 := H.2.1
  have h6 := H.2.2.1
  refine e_92 _ H.1 ?_
  unfold kP at hK
  rw [q_in (by omega) (by omega), q_nat (by omega), hC.2]
  by_cases c : C k = 6
  · rw [if_pos c] at hK
    rw [if_pos (by rw [c]; rfl)]
    have lp : ∀ r g : Nat, r + g = m → (∀ i, i < g → kf B A k n i = false) → (lm_W (d + 1) 92 20 [some (.ref 58), some (.ref 1), some (.int (Int32.ofNat k)), some (.int (Int32.ofNat g))] [] h (lm_kI K)) := by
      intro r
      induction r with
      | zero =>
        intro g hg hno
        have eg : g = m := by omega
        rw [eg] at hno ⊢
        refine b_92_20 _ _ H.1 ?_
        rw [H.2.2.2.2.1, if_neg (by rw [q_lt (by omega) (by omega)]; omega), q_in (by omega) (by omega), q_nat (by omega), hT]
        rw [if_pos (q_fi_none hno)] at hK
        exact hK
      | succ r ih =>
        intro g hg hno
        have hb : lm_i h 61 (k * 7 + g) = B (6 * k + g) := (H.2.2.2.2.2.2.2.1 k hk g (by omega)).2
        have nxt : kf B A k n g = false → (lm_W (d + 1) 92 20 [some (.ref 58), some (.ref 1), some (.int (Int32.ofNat k)), some (.int (Int32.ofNat (g + 1)))] [] h (lm_kI K)) := by
          intro q
          refine ih (g + 1) (by omega) (fun i hi => ?_)
          by_cases ei : i = g
          · rw [ei]; exact q
          · exact hno i (by omega)
        refine b_92_20 _ _ H.1 ?_
        rw [H.2.2.2.2.1, if_pos (by rw [q_lt (by omega) (by omega)]; omega), q_m7, q_add, q_in (by omega) (by omega), q_nat (by omega), hb, q_a1]
        by_cases cb : B (6 * k + g) = 0
        · rw [if_pos cb]
          refine cm_67b (by omega) H.1 H.2.2.2.1 h5 hA hA6 (by omega) ?_
          have hz := q_z_mk (fun j => decide (A j = g)) (n := n) (by omega)
          by_cases cz : q_cn (fun j => decide (A j = g)) n = 0
          · rw [if_pos (hz.2 cz)]
            have e : q_fi (kf B A k n) 6 m = g := q_fi_hit (by omega) h6 hno (by unfold kf; simp [cb, cz])
            rw [e, if_neg (by omega)] at hK
            exact hK
          · rw [if_neg (fun q => cz (hz.1 q))]
            exact nxt (by unfold kf; simp [cz])
        · rw [if_neg cb]
          exact nxt (by unfold kf; simp [cb])
    exact lp m 0 (by omega) (fun i hi => by omega)
  · rw [if_neg c] at hK
    rw [if_neg (by rw [q_e6 (by omega)]; exact c)]
    exact p_inN (by omega) (by omega) hK
/-- the reference keeps so, where nobody dined with him -/
theorem lp_253k {d n m k e : Nat} {h : lm_H} {K : Int32 → lm_H → Prop} {cu lo : Int32} {W B : Nat → Int32} {A C T : Nat → Nat} {G : Nat → Int32} (hD : 2 ≤ d + 1) (H : rt h n m cu lo W B) (hk : k < n) (he : e < 40) (hy : ry h n e A C G) (hK : K (nC (if q_fi (kf B A k n) 6 m = 6 then T k else q_fi (kf B A k n) 6 m)) h) : (lm_W (d + 1) 253 407 [some (.ref 92), some (.int (Int32.ofNat k)), none, some (.int (nC (T k))), none, some (.int (Int32.ofNat (5 * e))), some (.int 0), none, none, none] [] h (lm_kI K)) := by
  have h5 := H.2.1
  have h6 := H.2.2.1
  have lp : ∀ r g : Nat, r + g = m → (∀ i, i < g → kf B A k n i = false) → (lm_W (d + 1) 253 407 [some (.ref 92), some (.int (Int32.ofNat k)), none, some (.int (nC (T k))), none, some (.int (Int32.ofNat (5 * e))), some (.int (Int32.ofNat g)), none, none, none] [] h (lm_kI K)) := by
    intro r
    induction r with
    | zero =>
      intro g hg hno
      have eg : g = m := by omega
      rw [eg] at hno ⊢
      refine b_253_407 _ _ _ _ H.1 ?_
      rw [H.2.2.2.2.1, if_neg (by rw [q_lt (by omega) (by omega)]; omega)]
      rw [if_pos (q_fi_none hno)] at hK
      exact hK
    | succ r ih =>
      intro g hg hno
      refine b_253_407 _ _ _ _ H.1 ?_
      rw [H.2.2.2.2.1, if_pos (by rw [q_lt (by omega) (by omega)]; omega)]
      refine cl_210 (by omega) H hk (by omega) ?_
      have eac : (aC m B k g = true) ↔ B (6 * k + g) = 0 := by
        have : ¬ g = m := by omega
        unfold aC
        simp [this]
      have lq : ∀ q j : Nat, q + j = n → ∀ v, (v = 0 ∨ v = 1) → (v = 1 ↔ (B (6 * k + g) = 0 ∧ q_cn (fun i => decide (A i = g)) j = 0)) → (lm_W (d + 1) 253 428 [some (.ref 92), some (.int (Int32.ofNat k)), none, some (.int (nC (T k))), none, some (.int (Int32.ofNat (5 * e))), some (.int (Int32.ofNat g)), some (.int v), some (.int (Int32.ofNat j)), none] [] h (lm_kI K)) := by
        intro q
        induction q with
        | zero =>
          intro j hj v hv hv1
          have ej : j = n := by omega
          rw [ej] at hv1 ⊢
          refine b_253_428 _ _ _ _ _ _ H.1 ?_
          rw [H.2.2.2.1, if_neg (by rw [q_lt (by omega) (by omega)]; omega)]
          by_cases cv : v = 0
          · rw [if_pos cv, q_a1]
            refine ih (g + 1) (by omega) (fun i hi => ?_)
            by_cases ei : i = g
            · rw [ei]
              have : ¬ (B (6 * k + g) = 0 ∧ q_cn (fun i => decide (A i = g)) n = 0) := fun q => by
                have := hv1.2 q
                rw [cv] at this
                exact absurd this (by decide)
              unfold kf
              simpa using this
            · exact hno i (by omega)
          · rw [if_neg cv]
            have hv2 : v = 1 := by rcases hv with q | q; exact absurd q cv; exact q
            obtain ⟨b1, b2⟩ := hv1.1 hv2
            have ef : q_fi (kf B A k n) 6 m = g := q_fi_hit (by omega) h6 hno (by unfold kf; simp [b1, b2])
            rw [ef, if_neg (by omega), nC, if_neg (by omega)] at hK
            exact hK
        | succ q ihq =>
          intro j hj v hv hv1
          obtain ⟨a1, a2, a3, a4, a5⟩ := hy j (by omega)
          have hi := ihq (j + 1) (by omega)
          rw [q_cn] at hi
          refine b_253_428 _ _ _ _ _ _ H.1 ?_
          rw [H.2.2.2.1, if_pos (by rw [q_lt (by omega) (by omega)]; omega), q_a1]
          by_cases cv : v = 0
          · rw [if_pos cv]
            refine hi 0 (Or.inl rfl) ⟨fun q => absurd q (by decide), fun q => ?_⟩
            exfalso
            have := hv1.2 ⟨q.1, by omega⟩
            rw [cv] at this
            exact absurd this (by decide)
          · rw [if_neg cv, q_add, q_in (by omega) (by omega), q_nat (by omega), a3]
            have hv2 : v = 1 := by rcases hv with q | q; exact absurd q cv; exact q
            obtain ⟨b1, b2⟩ := hv1.1 hv2
            by_cases cg : A j = g
            · rw [if_pos ((nC_eq a1 (by omega)).2 cg)]
              refine hi 0 (Or.inl rfl) ⟨fun q => absurd q (by decide), fun q => ?_⟩
              have h2 := q.2
              rw [if_pos (by simpa using cg)] at h2
              omega
            · rw [if_neg (fun q => cg ((nC_eq a1 (by omega)).1 q))]
              refine hi 1 (Or.inr rfl) ⟨fun _ => ⟨b1, ?_⟩, fun _ => rfl⟩
              rw [if_neg (by simpa using cg)]
              omega
      by_cases cb : B (6 * k + g) = 0
      · rw [if_pos (eac.2 cb)]
        exact lq n 0 (by omega) 1 (Or.inr rfl) ⟨fun _ => ⟨cb, rfl⟩, fun _ => rfl⟩
      · rw [if_neg (fun q => cb (eac.1 q))]
        exact lq n 0 (by omega) 0 (Or.inl rfl) ⟨fun q => absurd q (by decide), fun q => absurd q.1 cb⟩
  exact lp m 0 (by omega) (fun i hi => by omega)
