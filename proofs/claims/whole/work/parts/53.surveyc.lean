/-! All askings: what the class and the pure picture share; become (65), isLike (64). -/
/-- how far apart -/
def sd (B : Nat → Int32) (m n j : Nat) : Nat := sT (cc B m) (n - (j + 1)) (j + 1)
def NN (B : Nat → Int32) (m n : Nat) : Nat := wN (fun _ => true) (cc B m) n
theorem NN_le {B : Nat → Int32} {m n : Nat} (h5 : n ≤ 5) (h6 : m ≤ 6) : NN B m n ≤ 16807 := wN_le (fun j _ => by unfold cc; have := q_ci_le B j m; omega) h5
/-- the most of the first i choices' gains, from nobody's on -/
def mb (f : Nat → Int32) (s : Int32) : Nat → Int32
  | 0 => s
  | i + 1 => if mb f s i < f i then f i else mb f s i
theorem mb_lt {f : Nat → Int32} {s y : Int32} : ∀ i, y < mb f s i ↔ y < s ∨ ∃ j, j < i ∧ y < f j := by
  intro i
  induction i with
  | zero => exact ⟨fun q => Or.inl q, fun q => by rcases q with q | ⟨j, hj, _⟩; exact q; omega⟩
  | succ i ih =>
    rw [mb]
    by_cases c : mb f s i < f i
    · rw [if_pos c]
      constructor
      · intro q
        exact Or.inr ⟨i, by omega, q⟩
      · rintro (q | ⟨j, hj, q⟩)
        · have := ih.2 (Or.inl q)
          grind
        · by_cases e : j = i
          · rw [e] at q; exact q
          · have := ih.2 (Or.inr ⟨j, by omega, q⟩)
            grind
    · rw [if_neg c, ih]
      constructor
      · rintro (q | ⟨j, hj, q⟩)
        · exact Or.inl q
        · exact Or.inr ⟨j, by omega, q⟩
      · rintro (q | ⟨j, hj, q⟩)
        · exact Or.inl q
        · by_cases e : j = i
          · subst e
            exact ih.1 (by grind)
          · exact Or.inr ⟨j, by omega, q⟩
theorem mb_bM {n m x : Nat} {cu lo : Int32} {W B : Nat → Int32} {A : Nat → Nat} (hw : wd n m cu lo W) (h5 : n ≤ 5) (h6 : m ≤ 6) (hx : x < n) : mb (fun i => cG n cu lo W A x (chF B x m i)) (60 * lo) (cc B m x) = bM (aF n m cu lo W A x) (aC m B x) (m + 1) := by
  have key : ∀ y : Int32, -1000000 ≤ y → (y < mb (fun i => cG n cu lo W A x (chF B x m i)) (60 * lo) (cc B m x) ↔ y < bM (aF n m cu lo W A x) (aC m B x) (m + 1)) := by
    intro y hy
    rw [mb_lt, bM_lt hy]
    have hnob : aF n m cu lo W A x m = 60 * lo := by
      unfold aF cG
      rw [if_pos rfl, if_pos rfl, q_gn_lo]
    constructor
    · rintro (q | ⟨i, hi, q⟩)
      · exact ⟨m, by omega, by unfold aC; simp, by rw [hnob]; exact q⟩
      · rcases chF_ok (B := B) (k := x) (m := m) (i := i) hi with ⟨c1, c2⟩ | c1
        · refine ⟨chF B x m i, by omega, by unfold aC; simp [c2], ?_⟩
          unfold aF
          rw [if_neg (by omega)]
          exact q
        · refine ⟨m, by omega, by unfold aC; simp, ?_⟩
          unfold aF
          rw [if_pos rfl, ← c1]
          exact q
    · rintro ⟨j, hj, c, q⟩
      have hq : q_ci B x j < cc B m x ∧ chF B x m (q_ci B x j) = if j = m then 6 else j := aC_ch h6 (by omega) c
      exact Or.inr ⟨q_ci B x j, hq.1, by rw [hq.2]; exact q⟩
  have hlow : -1000000 ≤ mb (fun i => cG n cu lo W A x (chF B x m i)) (60 * lo) (cc B m x) := by
    have h1 := (mb_lt (f := fun i => cG n cu lo W A x (chF B x m i)) (s := 60 * lo) (y := 60 * lo - 1) (cc B m x)).2 (Or.inl (by have := hw.2.1; grind))
    have := hw.2.1
    grind
  have hlow2 : -1000000 ≤ bM (aF n m cu lo W A x) (aC m B x) (m + 1) := by
    have h1 := bM_le (f := aF n m cu lo W A x) (cn := aC m B x) (g := m + 1) (j := m) (by omega) (by unfold aC; simp)
    have h2 := aF_b hw A (k := x) (g := m) h5 hx (Nat.le_refl m)
    grind
  have k1 := key _ hlow
  have k2 := key _ hlow2
  grind
set_option maxRecDepth 20000 in
theorem q_rw_all : ∀ b0 b1 b2 b3 b4 : Bool, ∀ n, n < 6 → ∃ M, M < 32 ∧ q_mk (q_pb b0 b1 b2 b3 b4 false false) n = Int32.ofNat M ∧ ∀ j, j < 5 → Nat.testBit M j = (decide (j < n) && q_pb b0 b1 b2 b3 b4 false false j) := by
  intro b0 b1 b2 b3 b4 n hn
  have : ∀ b0 b1 b2 b3 b4 : Bool, ∀ n, n < 6 → (q_mk (q_pb b0 b1 b2 b3 b4 false false) n).toNatClampNeg < 32 ∧ q_mk (q_pb b0 b1 b2 b3 b4 false false) n = Int32.ofNat (q_mk (q_pb b0 b1 b2 b3 b4 false false) n).toNatClampNeg ∧ ∀ j, j < 5 → Nat.testBit (q_mk (q_pb b0 b1 b2 b3 b4 false false) n).toNatClampNeg j = (decide (j < n) && q_pb b0 b1 b2 b3 b4 false false j) := by decide +kernel
  exact ⟨_, this b0 b1 b2 b3 b4 n hn⟩
set_option maxRecDepth 20000 in
theorem q_tb_all : ∀ M, M < 32 → Int32.ofNat M = q_mk (fun j => Nat.testBit M j) 5 := by decide +kernel
theorem q_rv_tail {cu : Int32} {P : Nat → Bool} {x n k : Nat} (h : n ≤ k) (hf : ∀ j, n ≤ j → j < k → P j = false) : q_rv cu P x k = q_rv cu P x n := by
  induction k with
  | zero =>
    have : n = 0 := by omega
    rw [this]
  | succ k ih =>
    by_cases e : n = k + 1
    · rw [e]
    · rw [q_rv, hf k (by omega) (by omega), ih (by omega) (fun j h1 h2 => hf j h1 (by omega))]
      simp
theorem mS_fst {S : Nat → Int32} {i : Nat} (hi : 0 < i) : (mS S i).1 = S (mS S i).2.1 := by
  induction i with
  | zero => omega
  | succ i ih =>
    rw [mS]
    by_cases c : (mS S i).2.2 = 0 ∨ (mS S i).1 < S i
    · rw [if_pos c]
    · rw [if_neg c]
      have hi : 0 < i := by
        by_cases e : i = 0
        · subst e; exact absurd (Or.inl rfl) c
        · omega
      split
      · exact ih hi
      · exact ih hi
def bd (n m : Nat) (B : Nat → Int32) : Prop := ∀ k, k < n → ∀ g, g < m → B (6 * k + g) = 0 ∨ B (6 * k + g) = 1
theorem cl_65 {D n m : Nat} {h : lm_H} {K : lm_H → Prop} {cu lo : Int32} {W B : Nat → Int32} (hD : 1 ≤ D) (H : ct h 21 n m cu lo W B) (hB : bd n m B) (hK : ∀ h', fr [32, 33, 34, 35, 36] [] h h' → ct h' 32 n m cu lo W B → K h') : lm_call D 65 [.ref 32, .ref 21] h (lm_kV K) := by
  obtain ⟨d, rfl⟩ := q_dp hD
  obtain ⟨hl, h5, h6, h0, h1, h2, h3, h4, h7⟩ := H
  refine e_65 hl ?_
  have e35 : (35 : Int32) = Int32.ofNat 35 := rfl
  have e5 : (5 : Int32) = Int32.ofNat 5 := rfl
  have lq : ∀ r i : Nat, r + i = 5 → ∀ z, fr [32, 33, 34, 35, 36] [] h z → (∀ s, s < 4 → lm_i z 32 s = lm_i h 21 s) → (∀ j, j < 35 → lm_i z 33 j = lm_i h 22 j ∧ lm_i z 34 j = vp_nar .boolean (lm_i h 23 j) ∧ lm_i z 35 j = lm_i h 24 j) → (∀ j, j < i → lm_i z 36 j = lm_i h 25 j) → (lm_W (d) 65 84 [some (.ref 32), some (.ref 21), some (.int (Int32.ofNat i))] [] z (lm_kV K)) := by
    intro r
    induction r with
    | zero =>
      intro i hi z hf g0 g1 g2
      have e : i = 5 := by omega
      rw [e] at g2
      refine b_65_84 _ (fr_Lay hf hl) ?_
      rw [e5, if_neg (by rw [q_lt (by omega) (by omega)]; omega)]
      refine hK z hf ⟨fr_Lay hf hl, h5, h6, ?_, ?_, ?_, ?_, fun k hk g hg => ?_, fun k hk => ?_⟩
      · rw [g0 0 (by decide)]; exact h0
      · rw [g0 1 (by decide)]; exact h1
      · rw [g0 2 (by decide)]; exact h2
      · rw [g0 3 (by decide)]; exact h3
      · obtain ⟨a, b, c⟩ := g1 (k * 7 + g) (by omega)
        obtain ⟨p, q⟩ := h4 k hk g hg
        refine ⟨a.trans p, b.trans ?_⟩
        rw [show lm_i h 23 (k * 7 + g) = B (6 * k + g) from q]
        exact q_b1or _ (hB k hk g hg)
      · obtain ⟨a, b, c⟩ := g1 (k * 7 + 6) (by omega)
        obtain ⟨p1, p2, p3, p4, p5⟩ := h7 k hk
        have hci := q_ci_le B k m
        refine ⟨a.trans p1, b.trans ?_, (g2 k (by omega)).trans p3, (g1 _ (by omega)).2.2.trans p4, fun g hg hb => ?_⟩
        · rw [show lm_i h 23 (k * 7 + 6) = 0 from p2]
          decide
        · have := q_ci_le B k g
          exact (g1 _ (by omega)).2.2.trans (p5 g hg hb)
    | succ r ih =>
      intro i hi z hf g0 g1 g2
      refine b_65_84 _ (fr_Lay hf hl) ?_
      rw [e5, if_pos (by rw [q_lt (by omega) (by omega)]; omega), q_in (by omega) (by omega), q_in (by omega) (by omega), q_nat (by omega), q_a1]
      refine ih (i + 1) (by omega) _ (fr_si hf (by decide) (by decide) _ _) (fun s hs => ?_) (fun j hj => ?_) (fun j hj => ?_)
      · rw [pi_si, if_neg (by decide)]; exact g0 s hs
      · simp only [pi_si, Nat.reduceEqDiff, if_false]; exact g1 j hj
      · rw [pi_si, if_pos rfl]
        by_cases e : j = i
        · rw [if_pos e, e, fr_i hf (by decide) (by decide)]
        · rw [if_neg e]; exact g2 j (by omega)
  have lp : ∀ r i : Nat, r + i = 35 → ∀ z, fr [32, 33, 34, 35, 36] [] h z → (∀ s, s < 4 → lm_i z 32 s = lm_i h 21 s) → (∀ j, j < i → lm_i z 33 j = lm_i h 22 j ∧ lm_i z 34 j = vp_nar .boolean (lm_i h 23 j) ∧ lm_i z 35 j = lm_i h 24 j) → (lm_W (d) 65 34 [some (.ref 32), some (.ref 21), some (.int (Int32.ofNat i))] [] z (lm_kV K)) := by
    intro r
    induction r with
    | zero =>
      intro i hi z hf g0 g1
      have e : i = 35 := by omega
      rw [e] at g1
      refine b_65_34 _ (fr_Lay hf hl) ?_
      rw [e35, if_neg (by rw [q_lt (by omega) (by omega)]; omega)]
      exact lq 5 0 (by omega) z hf g0 g1 (fun j hj => by omega)
    | succ r ih =>
      intro i hi z hf g0 g1
      refine b_65_34 _ (fr_Lay hf hl) ?_
      rw [e35, if_pos (by rw [q_lt (by omega) (by omega)]; omega), q_in (by omega) (by omega), q_in (by omega) (by omega), q_in (by omega) (by omega), q_in (by omega) (by omega), q_in (by omega) (by omega), q_in (by omega) (by omega), q_nat (by omega), q_a1]
      refine ih (i + 1) (by omega) _ (fr_si (fr_si (fr_si hf (by decide) (by decide) _ _) (by decide) (by decide) _ _) (by decide) (by decide) _ _) (fun s hs => ?_) (fun j hj => ?_)
      · simp only [pi_si, Nat.reduceEqDiff, if_false]; exact g0 s hs
      · simp only [pi_si, Nat.reduceEqDiff, if_true, if_false]
        by_cases e : j = i
        · simp only [e, if_true]
          rw [fr_i hf (by decide) (by decide), fr_i hf (by decide) (by decide), fr_i hf (by decide) (by decide)]
          exact ⟨rfl, rfl, rfl⟩
        · simp only [e, if_false]
          exact g1 j (by omega)
  refine lp 35 0 (by omega) _ (fr_si (fr_si (fr_si (fr_si (fr_refl _ _ _) (by decide) (by decide) _ _) (by decide) (by decide) _ _) (by decide) (by decide) _ _) (by decide) (by decide) _ _) (fun s hs => ?_) (fun j hj => by omega)
  match s, hs with
  | 0, _ => rfl
  | 1, _ => rfl
  | 2, _ => rfl
  | 3, _ => rfl
theorem cl_64 {D n m n' m' : Nat} {h : lm_H} {K : Int32 → lm_H → Prop} {cu lo cu' lo' : Int32} {W B W' B' : Nat → Int32} (hD : 2 ≤ D) (H : ct h 21 n m cu lo W B) (H' : ct h 32 n' m' cu' lo' W' B')
    (hK0 : K 0 h) (hK1 : n' = n → m' = m → cu' = cu → lo' = lo → (∀ k, k < n → ∀ g, g < m → W' (6 * k + g) = W (6 * k + g) ∧ B' (6 * k + g) = B (6 * k + g)) → K 1 h) : lm_call D 64 [.ref 32, .ref 21] h (lm_kI K) := by
  obtain ⟨d, rfl⟩ := q_dp hD
  obtain ⟨hl, h5, h6, h0, h1, h2, h3, h4, h7⟩ := H
  obtain ⟨hl', h5', h6', h0', h1', h2', h3', h4', h7'⟩ := H'
  refine e_64 hl ?_
  rw [h0, h1, h2, h3, h0', h1', h2', h3']
  by_cases c0 : n' = n
  case neg => rw [if_neg (by rw [q_eq (by omega) (by omega)]; exact c0)]; exact hK0
  by_cases c1 : m' = m
  case neg => rw [if_pos (by rw [c0]), if_neg (by rw [q_eq (by omega) (by omega)]; exact c1)]; exact hK0
  subst c0
  subst c1
  rw [if_pos rfl, if_pos rfl]
  by_cases c2 : cu' = cu
  case neg => rw [if_neg c2]; exact hK0
  rw [if_pos c2]
  by_cases c3 : lo' = lo
  case neg => rw [if_neg c3]; exact hK0
  rw [if_pos c3]
  have lp : ∀ r k : Nat, r + k = n' → (∀ i, i < k → ∀ g, g < m' → W' (6 * i + g) = W (6 * i + g) ∧ B' (6 * i + g) = B (6 * i + g)) → (lm_W (d + 1) 64 48 [some (.ref 32), some (.ref 21), some (.int (Int32.ofNat k)), none, none] [] h (lm_kI K)) := by
    intro r
    induction r with
    | zero =>
      intro k hk hs
      have e : k = n' := by omega
      rw [e] at hs
      refine b_64_48 _ hl ?_
      rw [h0', if_neg (by rw [q_lt (by omega) (by omega)]; omega)]
      exact hK1 rfl rfl c2 c3 hs
    | succ r ih =>
      intro k hk hs
      refine b_64_48 _ hl ?_
      rw [h0', if_pos (by rw [q_lt (by omega) (by omega)]; omega)]
      have lq : ∀ r g : Nat, r + g = m' → (∀ i, i < g → W' (6 * k + i) = W (6 * k + i) ∧ B' (6 * k + i) = B (6 * k + i)) → (lm_W (d + 1) 64 58 [some (.ref 32), some (.ref 21), some (.int (Int32.ofNat k)), some (.int (Int32.ofNat g)), none] [] h (lm_kI K)) := by
        intro r
        induction r with
        | zero =>
          intro g hg hs2
          have e : g = m' := by omega
          rw [e] at hs2
          refine b_64_58 _ _ hl ?_
          rw [h1', if_neg (by rw [q_lt (by omega) (by omega)]; omega), q_a1]
          refine ih (k + 1) (by omega) (fun i hi g hg => ?_)
          by_cases e2 : i = k
          · rw [e2]; exact hs2 g hg
          · exact hs i (by omega) g hg
        | succ r ih2 =>
          intro g hg hs2
          have a1 : lm_i h 33 (k * 7 + g) = W' (6 * k + g) := (h4' k (by omega) g (by omega)).1
          have a2 : lm_i h 34 (k * 7 + g) = B' (6 * k + g) := (h4' k (by omega) g (by omega)).2
          have a3 : lm_i h 22 (k * 7 + g) = W (6 * k + g) := (h4 k (by omega) g (by omega)).1
          have a4 : lm_i h 23 (k * 7 + g) = B (6 * k + g) := (h4 k (by omega) g (by omega)).2
          refine b_64_58 _ _ hl ?_
          rw [h1']
          simp (disch := omega) only [q_add, q_mul, q_m7, q_m6, q_6m, q_7m, q_a1, q_5m, q_m5, q_71, q_11, q_87, q_41, q_76, q_5a, q_0a, q_a6, q_nat, q_in, q_lt, q_eq, q_lt0, if_true, if_false, a1, a2, a3, a4]
          rw [if_pos (by omega)]
          by_cases d1 : W' (6 * k + g) = W (6 * k + g)
          · rw [if_pos d1]
            by_cases d2 : B' (6 * k + g) = B (6 * k + g)
            · rw [if_pos d2]
              refine ih2 (g + 1) (by omega) (fun i hi => ?_)
              by_cases e : i = g
              · rw [e]; exact ⟨d1, d2⟩
              · exact hs2 i (by omega)
            · rw [if_neg d2]; exact hK0
          · rw [if_neg d1]; exact hK0
      exact lq m' 0 (by omega) (fun i hi => by omega)
  exact lp n' 0 (by omega) (fun i hi => by omega)
/-- a table's numbers alone -/
def nrm (n m : Nat) (W : Nat → Int32) (j : Nat) : Int32 := if j / 6 < n ∧ j % 6 < m then W j else 0
theorem nrm_eq {n m : Nat} {W W' : Nat → Int32} (h6 : m ≤ 6) (hW : W = nrm n m W) (hW' : W' = nrm n m W') (h : ∀ k, k < n → ∀ g, g < m → W (6 * k + g) = W' (6 * k + g)) : W = W' := by
  rw [hW, hW']
  funext j
  unfold nrm
  by_cases c : j / 6 < n ∧ j % 6 < m
  · rw [if_pos c, if_pos c]
    have := h (j / 6) c.1 (j % 6) c.2
    rw [Nat.div_add_mod] at this
    exact this
  · rw [if_neg c, if_neg c]
theorem nrm_at {n m : Nat} {W : Nat → Int32} {k g : Nat} (h6 : m ≤ 6) (hk : k < n) (hg : g < m) : nrm n m W (6 * k + g) = W (6 * k + g) := by
  unfold nrm
  rw [if_pos (by omega)]
theorem sd_pos (B : Nat → Int32) (m n j : Nat) : 0 < sd B m n j := by
  unfold sd
  have : ∀ r x, 0 < sT (cc B m) r x := by
    intro r
    induction r with
    | zero => intro x; exact Nat.one_pos
    | succ r ih => intro x; rw [sT]; exact Nat.mul_pos (cc_pos B m x) (ih (x + 1))
  exact this _ _
theorem sd_le {B : Nat → Int32} {m n x : Nat} (hx : x < n) : sd B m n x ≤ NN B m n := by
  have h1 := sT_wN (c := cc B m) (n := n) (x + 1) (by omega)
  have h2 : 0 < wN (fun _ => true) (cc B m) (x + 1) := wN_pos (fun j _ => cc_pos B m j)
  have h3 : 1 * sT (cc B m) (n - (x + 1)) (x + 1) ≤ wN (fun _ => true) (cc B m) (x + 1) * sT (cc B m) (n - (x + 1)) (x + 1) := Nat.mul_le_mul_right _ h2
  unfold NN sd
  rw [sT_all]
  omega
