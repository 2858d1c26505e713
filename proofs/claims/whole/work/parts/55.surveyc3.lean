/-! All askings: the class's addHost (57). -/
set_option maxRecDepth 20000 in
theorem q_rw_all : ∀ b0 b1 b2 b3 b4 : Bool, ∀ n, n < 6 → ∃ M, M < 32 ∧ q_mk (q_pb b0 b1 b2 b3 b4 false false) n = Int32.ofNat M ∧ ∀ j, j < 5 → Nat.testBit M j = (decide (j < n) && q_pb b0 b1 b2 b3 b4 false false j) := by
  intro b0 b1 b2 b3 b4 n hn
  have : ∀ b0 b1 b2 b3 b4 : Bool, ∀ n, n < 6 → (q_mk (q_pb b0 b1 b2 b3 b4 false false) n).toNatClampNeg < 32 ∧ q_mk (q_pb b0 b1 b2 b3 b4 false false) n = Int32.ofNat (q_mk (q_pb b0 b1 b2 b3 b4 false false) n).toNatClampNeg ∧ ∀ j, j < 5 → Nat.testBit (q_mk (q_pb b0 b1 b2 b3 b4 false false) n).toNatClampNeg j = (decide (j < n) && q_pb b0 b1 b2 b3 b4 false false j) := by decide +kernel
  exact ⟨_, this b0 b1 b2 b3 b4 n hn⟩
set_option maxRecDepth 20000 in
theorem q_tb_all : ∀ M, M < 32 → Int32.ofNat M = q_mk (fun j => Nat.testBit M j) 5 := by decide +kernel
theorem q_rv_tail {cu : Int32} {P : Nat → Bool} {x n k : Nat} (h : n ≤ k) (hf : ∀ j, n ≤ j → j < k → P j = false) : q_rv cu P x k = q_rv cu P x n := by
  induction k with
  | zero =>
    have : n = 0 := by omega
    rw [this]
  | succ k ih =>
    by_cases e : n = k + 1
    · rw [e]
    · rw [q_rv, hf k (by omega) (by omega), ih (by omega) (fun j h1 h2 => hf j h1 (by omega))]
      simp
/-- the row of shares, from its numbers -/
theorem rW_of {h : lm_H} {cu : Int32} {n x : Nat} (h5 : n ≤ 5) (H : ∀ M, M < 32 → lm_i h 47 M = q_sh cu (q_rv cu (fun j => Nat.testBit M j) x 5)) : rW h cu n x := by
  intro P
  obtain ⟨M, hM, e1, e2⟩ := q_rw_all (P 0) (P 1) (P 2) (P 3) (P 4) n (by omega)
  rw [← q_mk_c (fun j hj => q_pb5 P (j := j) (by omega))] at e1
  rw [e1, p_onI (by omega), q_nat (by omega), H M hM]
  refine ⟨by omega, by omega, ?_⟩
  congr 1
  rw [q_rv_tail (n := n) h5]
  · refine q_rv_c (fun j hj _ => ?_)
    rw [e2 j (by omega), ← q_pb5 P (by omega)]
    simp [hj]
  · intro j h1 h2
    rw [e2 j h2]
    have : ¬ j < n := by omega
    simp [this]
set_option maxRecDepth 20000 in
theorem q_ot_all : ∀ n, n < 6 → ∀ x, x < n → ∀ j, j < n → wm ((((1 : Int32) <<< (Int32.ofNat n &&& 31)) - 1) &&& (((1 : Int32) <<< (Int32.ofNat x &&& 31)) ^^^ (-1))) j = ot x j := by decide +kernel
theorem ot_c {B : Nat → Int32} {m n x : Nat} {w : Nat → Bool} (hz : ∀ j, j < n → w j = ot x j) {p : Nat → Nat} : wH w (cc B m) p n = oH B m n x p ∧ wN w (cc B m) n = wN (ot x) (cc B m) n := by
  unfold oH
  have : ∀ k, k ≤ n → wH w (cc B m) p k = wH (ot x) (cc B m) p k ∧ wN w (cc B m) k = wN (ot x) (cc B m) k := by
    intro k
    induction k with
    | zero => intro _; exact ⟨rfl, rfl⟩
    | succ k ih =>
      intro hk
      obtain ⟨a, b⟩ := ih (by omega)
      rw [wH, wH, wN, wN, a, b, hz k (by omega)]
      exact ⟨rfl, rfl⟩
  exact this n (Nat.le_refl n)
/-- the rows of other hosts' picks, one after the other -/
theorem lp_57 {d n m x : Nat} {h0 : lm_H} {K : lm_H → Prop} {cu lo : Int32} {W B : Nat → Int32} {F : Nat → Nat} {z : Int32} (hD : 2 ≤ d) (h5 : n ≤ 5) (h6 : m ≤ 6) (hw : wd n m cu lo W) (hx : x < n) (hz : ∀ j, j < n → wm z j = ot x j)
    (hK : ∀ h', fr [38, 39, 40, 43, 44, 45, 48] [] h0 h' → (∀ j, n ≤ j → lm_i h' 38 j = lm_i h0 38 j) → (∀ j, j < n → ∃ v, v ≤ 6 ∧ lm_i h' 38 j = Int32.ofNat v) → rS h' n m cu lo W B x (dn B m n x (wN (ot x) (cc B m) n) 0) → rL h' n m cu lo W B x (dn B m n x (wN (ot x) (cc B m) n) 0) → rU h' n m cu lo W B x (dn B m n x (wN (ot x) (cc B m) n) 0) → K h') :
    ∀ r i, r + i = wN (ot x) (cc B m) n → ∀ p h, fr [38, 39, 40, 43, 44, 45, 48] [] h0 h → (∀ j, n ≤ j → lm_i h 38 j = lm_i h0 38 j) → ct h 32 n m cu lo W B → wk h 38 39 40 n (wm z) B m p F → rW h cu n x → (∀ j, j < n → lm_i h 42 j = Int32.ofNat (sd B m n j)) → (i < wN (ot x) (cc B m) n → oH B m n x p = i) → rS h n m cu lo W B x (dn B m n x i 0) → rL h n m cu lo W B x (dn B m n x i 0) → rU h n m cu lo W B x (dn B m n x i 0) →
      (lm_W (d) 57 73 [some (.ref 31), some (.int (Int32.ofNat x)), some (.int z), some (.int (Int32.ofNat (wN (ot x) (cc B m) n))), some (.int (Int32.ofNat i)), none, none] [] h (lm_kV K)) := by
  have hNle := wN_le (w := ot x) (c := cc B m) (k := n) (fun j _ => by unfold cc; have := q_ci_le B j m; omega) h5
  have hNN := NN_le (B := B) h5 h6
  intro r
  induction r with
  | zero =>
    intro i hi p h hf hx0 H hk hW hs hp hS hL hU
    have e : i = wN (ot x) (cc B m) n := by omega
    refine b_57_73 _ _ _ _ H.1 ?_
    rw [if_neg (by rw [q_lt (by omega) (by omega)]; omega)]
    rw [e] at hS hL hU
    refine hK h hf hx0 (fun j hj => ⟨wA (wm z) B m p F j, ?_, (hk.1 j hj).2⟩) hS hL hU
    exact wA_le h6 hk.2.2.1 hk.2.2.2 hj
  | succ r ih =>
    intro i hi p h hf hx0 H hk hW hs hp hS hL hU
    have hpi := hp (by omega)
    have hpv : ∀ j, j < n → ¬ j = x → p j < cc B m j := fun j hj hne => hk.2.2.1 j hj (by rw [hz j hj]; simpa [ot] using hne)
    have hn := H.2.2.2.1
    have hat := at_lt (B := B) (m := m) (n := n) (p := p) (x := x) (i := 0) hpv (cc_pos B m x)
    refine b_57_73 _ _ _ _ H.1 ?_
    rw [if_pos (by rw [q_lt (by omega) (by omega)]; omega)]
    -- the first of the row
    have lq : ∀ r k : Nat, r + k = n → (lm_W (d) 57 85 [some (.ref 31), some (.int (Int32.ofNat x)), some (.int z), some (.int (Int32.ofNat (wN (ot x) (cc B m) n))), some (.int (Int32.ofNat i)), some (.int (Int32.ofNat (sm (sd B m n) (fun j => if j = x then 0 else p j) k))), some (.int (Int32.ofNat k))] [] h (lm_kV K)) := by
      intro r
      induction r with
      | zero =>
        intro k hk2
        have e : k = n := by omega
        rw [e]
        refine b_57_85 _ _ _ _ _ _ H.1 ?_
        rw [hn, if_neg (by rw [q_lt (by omega) (by omega)]; omega)]
        have e0 : sm (sd B m n) (fun j => if j = x then 0 else p j) n = at_ B m n p x 0 := by rw [at_sm hx, Nat.zero_mul, Nat.add_zero]
        rw [e0]
        rw [← hpi] at hS hL hU
        refine cl_58 (by omega) hw hx hz hpv H hk hW (hs x hx) hS hL hU (fun h1 hf1 hS1 hL1 hU1 => ?_)
        have hk1 : wk h1 38 39 40 n (wm z) B m p F := by
          unfold wk at hk ⊢
          rw [fr_i hf1 (c := 38) (by decide) (by decide), fr_i hf1 (c := 39) (by decide) (by decide), fr_i hf1 (c := 40) (by decide) (by decide)]
          exact hk
        refine cl_81s (by omega) (ct_fr hf1 H (by decide)) hk1 (fun h2 hw2 hk2 => ?_)
        have hf2 := hw2.1
        rw [q_a1]
        have hS' := wS_H (w := wm z) (c := cc B m) n p hk.2.2.1
        rw [(ot_c hz).1, (ot_c hz (p := p)).1, (ot_c hz (p := p)).2] at hS'
        rw [hpi] at hS1 hL1 hU1 hS'
        refine ih (i + 1) (by omega) _ h2 (fr_trans hf (fr_trans (fr_sub hf1 (by decide) (by decide)) (fr_sub hf2 (by decide) (by decide)))) (fun j hj => by rw [hw2.2 j hj, fr_i hf1 (by decide) (by decide)]; exact hx0 j hj) (ct_fr hf2 (ct_fr hf1 H (by decide)) (by decide)) hk2 ?_ (fun j hj => ?_) (fun hlt => ?_) (fun a ha => ?_) (fun a ha => ?_) (fun a ha => ?_)
        · unfold rW at hW ⊢
          rw [fr_i hf2 (c := 47) (by decide) (by decide), fr_i hf1 (c := 47) (by decide) (by decide)]
          exact hW
        · rw [fr_i hf2 (by decide) (by decide), fr_i hf1 (by decide) (by decide)]
          exact hs j hj
        · rw [hS', if_pos hlt]
        · rw [fr_i hf2 (by decide) (by decide)]
          exact hS1 a ha
        · rw [fr_i hf2 (by decide) (by decide)]
          exact hL1 a ha
        · rw [fr_i hf2 (by decide) (by decide)]
          exact hU1 a ha
      | succ r ih2 =>
        intro k hk2
        have hi2 := ih2 (k + 1) (by omega)
        rw [sm] at hi2
        refine b_57_85 _ _ _ _ _ _ H.1 ?_
        rw [hn, if_pos (by rw [q_lt (by omega) (by omega)]; omega), q_a1 k]
        by_cases c : k = x
        · rw [if_pos (by rw [c]), Int32.add_zero]
          simp only [c, if_true, Nat.zero_mul, Nat.add_zero] at hi2 ⊢
          exact hi2
        · rw [if_neg (by rw [q_eq (by omega) (by omega)]; exact c), q_in (by omega) (by omega), q_in (by omega) (by omega), q_nat (by omega), (hk.1 k (by omega)).1, hs k (by omega), q_mul, q_add]
          simp only [c, if_false] at hi2
          exact hi2
    exact lq n 0 (by omega)
theorem dn_0 {B : Nat → Int32} {m n x a : Nat} : dn B m n x 0 0 a = false := by
  unfold dn
  simp
theorem dn_N {B : Nat → Int32} {m n x a : Nat} : dn B m n x (wN (ot x) (cc B m) n) 0 a = true := by
  unfold dn
  have := wH_lt (w := ot x) (c := cc B m) (p := dP (cc B m) n a) (k := n) (fun j _ _ => dP_lt (cc_pos B m j))
  rw [decide_eq_true_eq]
  exact Or.inl this
theorem cl_57 {D n m x : Nat} {h : lm_H} {K : lm_H → Prop} {cu lo : Int32} {W B : Nat → Int32} (hD : 4 ≤ D) (hw : wd n m cu lo W) (hx : x < n) (H : ct h 32 n m cu lo W B) (h38 : ∀ j, j < n → ∃ v, v ≤ 6 ∧ lm_i h 38 j = Int32.ofNat v) (hs : ∀ j, j < n → lm_i h 42 j = Int32.ofNat (sd B m n j)) (hS : rS h n m cu lo W B x (fun _ => false)) (hL : rL h n m cu lo W B x (fun _ => false)) (hU : rU h n m cu lo W B x (fun _ => false))
    (hK : ∀ h', fr [38, 39, 40, 43, 44, 45, 47, 48] [] h h' → (∀ j, n ≤ j → lm_i h' 38 j = lm_i h 38 j) → (∀ j, j < n → ∃ v, v ≤ 6 ∧ lm_i h' 38 j = Int32.ofNat v) → rS h' n m cu lo W B (x + 1) (fun _ => false) → rL h' n m cu lo W B (x + 1) (fun _ => false) → rU h' n m cu lo W B (x + 1) (fun _ => false) → K h') : lm_call D 57 [.ref 31, .int (Int32.ofNat x)] h (lm_kV K) := by
  obtain ⟨d, rfl⟩ := q_dp hD
  have h5 := H.2.1
  have h6 := H.2.2.1
  have e32 : (32 : Int32) = Int32.ofNat 32 := rfl
  refine e_57 _ H.1 ?_
  have lp : ∀ r M : Nat, r + M = 32 → ∀ h1, fr [47] [] h h1 → (∀ j, j < M → lm_i h1 47 j = q_sh cu (q_rv cu (fun i => Nat.testBit j i) x 5)) → (lm_W ((d + 3)) 57 2 [some (.ref 31), some (.int (Int32.ofNat x)), some (.int (Int32.ofNat M)), none, none, none, none] [] h1 (lm_kV K)) := by
    intro r
    induction r with
    | zero =>
      intro M hM h1 hf1 hr
      have e : M = 32 := by omega
      have H1 := ct_fr hf1 H (by decide)
      have hn := H1.2.2.2.1
      refine b_57_2 _ _ H1.1 ?_
      rw [e32, if_neg (by rw [q_lt (by omega) (by omega)]; omega), hn]
      rw [e] at hr
      have hW1 := rW_of (n := n) h5 hr
      have hz := q_ot_all n (by omega) x hx
      generalize hzz : (((1 : Int32) <<< (Int32.ofNat n &&& 31)) - 1) &&& (((1 : Int32) <<< (Int32.ofNat x &&& 31)) ^^^ (-1)) = z at hz ⊢
      -- what stood in the walk's asks
      have hF : ∃ F : Nat → Nat, ∀ j, j < n → F j ≤ 6 ∧ lm_i h1 38 j = Int32.ofNat (F j) := by
        refine ⟨fun j => (lm_i h1 38 j).toNatClampNeg, fun j hj => ?_⟩
        obtain ⟨v, hv, e⟩ := h38 j hj
        show (lm_i h1 38 j).toNatClampNeg ≤ 6 ∧ lm_i h1 38 j = Int32.ofNat (lm_i h1 38 j).toNatClampNeg
        rw [fr_i hf1 (by decide) (by decide), e, q_nat (by omega)]
        exact ⟨hv, rfl⟩
      obtain ⟨F, hF⟩ := hF
      refine cl_80s (by omega) H1 (fun j hj => (hF j hj).1) (fun j hj => (hF j hj).2) (fun h2 hw2 hk2 => ?_)
      have hf2 := hw2.1
      have hc := ot_c (B := B) (m := m) hz (p := fun _ => 0)
      rw [hc.2]
      have hz0 : oH B m n x (fun _ => 0) = 0 := by
        unfold oH
        have : ∀ k, wH (ot x) (cc B m) (fun _ => 0) k = 0 := by
          intro k
          induction k with
          | zero => rfl
          | succ k ik => rw [wH, ik]; split <;> simp
        exact this n
      have hf2' : fr [38, 39, 40, 43, 44, 45, 47, 48] [] h h2 := fr_trans (fr_sub hf1 (by decide) (by decide)) (fr_sub hf2 (by decide) (by decide))
      refine lp_57 (h0 := h2) (by omega) h5 h6 hw hx hz (fun h3 hf3 gx g38 gS gL gU => ?_) (wN (ot x) (cc B m) n) 0 (by omega) (fun _ => 0) h2 (fr_refl _ _ _) (fun _ _ => rfl) (ct_fr hf2 H1 (by decide)) hk2 ?_ (fun j hj => ?_) (fun _ => hz0) (fun a ha => ?_) (fun a ha => ?_) (fun a ha => ?_)
      · refine hK h3 (fr_trans hf2' (fr_sub hf3 (by decide) (by decide))) (fun j hj => by rw [gx j hj, hw2.2 j hj, fr_i hf1 (by decide) (by decide)]) g38 (fun a ha => ?_) (fun a ha => ?_) (fun a ha => ?_)
        · rw [gS a ha, dn_N]; rfl
        · rw [gL a ha, dn_N]; rfl
        · rw [gU a ha, dn_N]; rfl
      · unfold rW at hW1 ⊢
        rw [fr_i hf2 (c := 47) (by decide) (by decide)]
        exact hW1
      · rw [fr_i hf2 (by decide) (by decide), fr_i hf1 (by decide) (by decide)]
        exact hs j hj
      · rw [fr_i hf2 (by decide) (by decide), fr_i hf1 (by decide) (by decide), hS a ha, dn_0]
      · rw [fr_i hf2 (by decide) (by decide), fr_i hf1 (by decide) (by decide), hL a ha, dn_0]
      · rw [fr_i hf2 (by decide) (by decide), fr_i hf1 (by decide) (by decide), hU a ha, dn_0]
    | succ r ih =>
      intro M hM h1 hf1 hr
      have H1 := ct_fr hf1 H (by decide)
      refine b_57_2 _ _ H1.1 ?_
      rw [e32, if_pos (by rw [q_lt (by omega) (by omega)]; omega)]
      have hm := q_tb_all M (by omega)
      have hcu : lm_i h1 32 2 = cu := H1.2.2.2.2.2.1
      have hcall : ∀ K2 : Int32 → lm_H → Prop, K2 (q_sh cu (q_rv cu (fun i => Nat.testBit M i) x 5)) h1 → lm_call (d + 3) 69 [.ref 32, .int (Int32.ofNat x), .int (Int32.ofNat M)] h1 (lm_kI K2) := by
        intro K2 hk2
        rw [hm]
        exact cl_69s (by omega) H1.1 hcu (by omega) (by omega) _ hk2
      refine hcall _ ?_
      rw [q_in (by omega) (by omega), q_nat (by omega), q_a1]
      refine ih (M + 1) (by omega) _ (fr_si hf1 (by decide) (by decide) _ _) (fun j hj => ?_)
      rw [pi_si, if_pos rfl]
      by_cases e : j = M
      · rw [if_pos e, e]
      · rw [if_neg e]
        exact hr j (by omega)
  exact lp 32 0 (by omega) h (fr_refl _ _ _) (fun j hj => by omega)
