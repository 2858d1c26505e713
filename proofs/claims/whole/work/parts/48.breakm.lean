/-! Breaking: the reference (237). -/
theorem q_div {a b : Nat} (ha : a < 2147483648) (hb : b < 2147483648) : Int32.ofNat a / Int32.ofNat b = Int32.ofNat (a / b) := by
  have hab : a / b ≤ a := Nat.div_le_self a b
  have e : ((a : Int).tdiv (b : Int)) = ((a / b : Nat) : Int) := rfl
  rw [p_eq, Int32.toInt_div, p_onI ha, p_onI hb, p_onI (by omega), e]
  generalize a / b = q at hab
  exact p_bm (by omega) (by omega)
theorem q_mod {a b : Nat} : Int32.ofNat a - Int32.ofNat (a / b) * Int32.ofNat b = Int32.ofNat (a % b) := by
  have h1 := Nat.div_add_mod a b
  have h2 : a / b * b ≤ a := Nat.div_mul_le_self a b
  rw [q_mul, q_sub h2]
  congr 1
  rw [Nat.mul_comm] at h1
  omega
/-- the digits of k, for the hosts of w -/
def dg (w : Nat → Bool) (b k j : Nat) : Nat := k / b ^ q_cn w j % b
theorem dg_ex {w : Nat → Bool} {b : Nat} (hb : 0 < b) {D : Nat → Nat} {n : Nat} (hD : ∀ j, j < n → w j = true → D j < b) : ∃ k, k < b ^ q_cn w n ∧ ∀ j, j < n → w j = true → dg w b k j = D j := by
  induction n with
  | zero => exact ⟨0, Nat.pow_pos hb, fun j hj => by omega⟩
  | succ n ih =>
    obtain ⟨k, hk, hd⟩ := ih (fun j hj => hD j (by omega))
    by_cases c : w n = true
    · refine ⟨k + D n * b ^ q_cn w n, ?_, fun j hj hw => ?_⟩
      · rw [q_cn, if_pos c, Nat.pow_succ]
        have h1 := hD n (by omega) c
        have h2 : (D n + 1) * b ^ q_cn w n ≤ b * b ^ q_cn w n := Nat.mul_le_mul_right _ h1
        rw [Nat.add_mul, Nat.one_mul] at h2
        rw [Nat.mul_comm (b ^ q_cn w n) b]
        omega
      · by_cases e : j = n
        · subst e
          unfold dg
          rw [Nat.add_mul_div_right _ _ (Nat.pow_pos hb), Nat.div_eq_of_lt hk, Nat.zero_add, Nat.mod_eq_of_lt (hD j (by omega) c)]
        · have hlt : q_cn w j < q_cn w n := by
            have : ∀ i, j + 1 + i ≤ n → q_cn w j + 1 ≤ q_cn w (j + 1 + i) := by
              intro i
              induction i with
              | zero => intro _; rw [Nat.add_zero, q_cn, if_pos hw]; exact Nat.le_refl _
              | succ i ii =>
                intro hi
                have := ii (by omega)
                rw [show j + 1 + (i + 1) = (j + 1 + i) + 1 by omega, q_cn]
                omega
            have := this (n - (j + 1)) (by omega)
            rw [show j + 1 + (n - (j + 1)) = n by omega] at this
            omega
          rw [← hd j (by omega) hw]
          unfold dg
          have e1 : D n * b ^ q_cn w n = (D n * b ^ (q_cn w n - q_cn w j - 1) * b) * b ^ q_cn w j := by
            have : b ^ q_cn w n = b ^ (q_cn w n - q_cn w j - 1) * b * b ^ q_cn w j := by
              rw [← Nat.pow_succ, ← Nat.pow_add]
              congr 1
              omega
            rw [this, Nat.mul_assoc, Nat.mul_assoc, Nat.mul_assoc]
          rw [e1, Nat.add_mul_div_right _ _ (Nat.pow_pos hb), Nat.add_mul_mod_self_right]
    · refine ⟨k, by rw [q_cn, if_neg c]; exact hk, fun j hj hw => ?_⟩
      by_cases e : j = n
      · rw [e] at hw; exact absurd hw c
      · exact hd j (by omega) hw
/-- askings by the digits of k -/
def bA (w : Nat → Bool) (m k : Nat) (A : Nat → Nat) (j : Nat) : Nat := if w j then (if dg w (m + 1) k j = m then 6 else dg w (m + 1) k j) else A j
/-- all can ask so -/
def bK (n m : Nat) (B : Nat → Int32) (w : Nat → Bool) (k : Nat) : Prop := ∀ j, j < n → w j = true → aC m B j (dg w (m + 1) k j) = true
theorem brk_dg {n m : Nat} {cu lo : Int32} {W B : Nat → Int32} {w : Nat → Bool} {A : Nat → Nat} (h6 : m ≤ 6) : brk n m cu lo W B w A ↔ ∃ k, k < (m + 1) ^ q_cn w n ∧ bK n m B w k ∧ gd n cu lo W w (fun j => cG n cu lo W A j (A j)) (bA w m k A) := by
  constructor
  · rintro ⟨A', g1, g2, g3⟩
    have hD : ∀ j, j < n → w j = true → (fun j => tI m (A' j)) j < m + 1 := by
      intro j hj hw
      have := g1 j hj hw
      simp only
      unfold tI
      split <;> omega
    obtain ⟨k, hk, hd⟩ := dg_ex (by omega) hD
    refine ⟨k, hk, fun j hj hw => ?_, gd_c (A := A') (fun j hj => ?_) g3⟩
    · rw [hd j hj hw]
      unfold aC tI
      rcases g1 j hj hw with q | q
      · rw [if_neg (by omega)]
        simp [q.2]
      · rw [if_pos q]
        simp
    · unfold bA
      by_cases c : w j = true
      · rw [if_pos c, hd j hj c]
        have := g1 j hj c
        unfold tI
        by_cases c6 : A' j = 6
        · rw [if_pos c6, if_pos rfl, c6]
        · rw [if_neg c6, if_neg (by omega)]
      · rw [if_neg c]
        exact g2 j hj c
  · rintro ⟨k, hk, hb, hg⟩
    refine ⟨bA w m k A, fun j hj hw => ?_, fun j hj hw => ?_, hg⟩
    · have h1 := hb j hj hw
      unfold aC at h1
      have h2 : dg w (m + 1) k j < m + 1 := Nat.mod_lt _ (by omega)
      unfold bA
      rw [if_pos hw]
      by_cases c : dg w (m + 1) k j = m
      · rw [if_pos c]
        exact Or.inr rfl
      · rw [if_neg c]
        left
        simp only [c, decide_false, Bool.false_or, decide_eq_true_eq] at h1
        exact ⟨by omega, h1⟩
    · unfold bA
      rw [if_neg hw]
theorem bA_g {n m k : Nat} {w : Nat → Bool} {A : Nat → Nat} (hA : gA n m A) : gA n m (bA w m k A) := by
  intro j hj
  unfold bA
  have h2 : dg w (m + 1) k j < m + 1 := Nat.mod_lt _ (by omega)
  split
  · split <;> omega
  · exact hA j hj
theorem q_cn_add (w : Nat → Bool) (b k j : Nat) : k / b ^ q_cn w (j + 1) = if w j then k / b ^ q_cn w j / b else k / b ^ q_cn w j := by
  rw [q_cn]
  by_cases c : w j = true
  · rw [if_pos c, if_pos c, Nat.pow_succ, Nat.div_div_eq_div_mul]
  · rw [if_neg c, if_neg c, Nat.add_zero]
/-- the last loop: whether all gain -/
theorem lp_237g {d n m k : Nat} {h : lm_H} {K : Int32 → lm_H → Prop} {cu lo : Int32} {W B : Nat → Int32} {A : Nat → Nat} {z x2 x3 : Int32} {G : Nat → Int32} (hD : 3 ≤ d + 1) (H : rt h n m cu lo W B) (hcu : cu = 0 ∨ cu = 1 ∨ cu = 2) (hA : gA n m A) (ha : ra h n m (bA (wm z) m k A)) (hG : ∀ j, j < n → lm_i h 110 j = G j)
    (h1 : gd n cu lo W (wm z) G (bA (wm z) m k A) → K 1 h) (h0 : ¬ gd n cu lo W (wm z) G (bA (wm z) m k A) → (lm_W (d + 1) 237 56 [some (.ref 92), some (.int z), some (.int x2), some (.int (x3 + 1)), none, none, none] [] h (lm_kI K))) : ∀ r x, r + x = n → (∀ j, j < x → wm z j = true → G j < cG n cu lo W (bA (wm z) m k A) j (bA (wm z) m k A j)) → (lm_W (d + 1) 237 155 [some (.ref 92), some (.int z), some (.int x2), some (.int x3), none, some (.int 1), some (.int (Int32.ofNat x))] [] h (lm_kI K)) := by
  have h5 := H.2.1
  have hn := H.2.2.2.1
  intro r
  induction r with
  | zero =>
    intro x hx hg
    have : x = n := by omega
    subst this
    refine b_237_155 _ _ _ _ _ H.1 ?_
    simp (disch := omega) only [q_add, q_mul, q_m7, q_m6, q_6m, q_7m, q_a1, q_5m, q_m5, q_71, q_11, q_87, q_41, q_76, q_5a, q_0a, q_a6, q_nat, q_in, q_lt, q_eq, q_lt0, if_true, if_false, hn]
    rw [if_neg (by omega), if_neg (by decide)]
    exact h1 hg
  | succ r ih =>
    intro x hx hg
    refine b_237_155 _ _ _ _ _ H.1 ?_
    simp (disch := omega) only [q_add, q_mul, q_m7, q_m6, q_6m, q_7m, q_a1, q_5m, q_m5, q_71, q_11, q_87, q_41, q_76, q_5a, q_0a, q_a6, q_nat, q_in, q_lt, q_eq, q_lt0, if_true, if_false, hn]
    rw [if_pos (by omega), if_neg (by decide)]
    by_cases c : wm z x = true
    · rw [if_pos (by simpa [wm] using c)]
      refine cm_214 (by omega) H ha (bA_g hA) hcu (by omega) ?_
      rw [hG x (by omega)]
      by_cases c2 : G x < cG n cu lo W (bA (wm z) m k A) x (bA (wm z) m k A x)
      · rw [if_pos c2]
        refine ih (x + 1) (by omega) (fun j hj hw => ?_)
        by_cases e : j = x
        · rw [e]; exact c2
        · exact hg j (by omega) hw
      · rw [if_neg c2]
        have h00 := h0 (fun q => c2 (q x (by omega) c))
        refine b_237_155 _ _ _ _ _ H.1 ?_
        rw [hn]
        split
        · rw [if_pos rfl, if_pos rfl]
          exact h00
        · rw [if_pos rfl]
          exact h00
    · rw [if_neg (by simpa [wm] using c)]
      refine ih (x + 1) (by omega) (fun j hj hw => ?_)
      by_cases e : j = x
      · rw [e] at hw; exact absurd hw c
      · exact hg j (by omega) hw
/-- the loop that lays the digits -/
theorem lp_237d {d n m k : Nat} {h0 : lm_H} {K : Int32 → lm_H → Prop} {cu lo : Int32} {W B : Nat → Int32} {A : Nat → Nat} {z x2 x3 : Int32} (hD : 3 ≤ d + 1) (hk : k < 2147483648)
    (hK : ∀ h', fr [107] [] h0 h' → rt h' n m cu lo W B → ra h' n m (bA (wm z) m k A) → ∀ v, (v = 0 ∨ v = 1) → (v = 1 ↔ bK n m B (wm z) k) → (lm_W (d + 1) 237 155 [some (.ref 92), some (.int z), some (.int x2), some (.int x3), none, some (.int v), some (.int 0)] [] h' (lm_kI K))) :
    ∀ r x, r + x = n → ∀ h, fr [107] [] h0 h → rt h n m cu lo W B → (∀ j, j < n → (¬ wm z j = true ∨ j < x) → lm_i h 107 j = Int32.ofNat (if bA (wm z) m k A j = 6 then m else bA (wm z) m k A j)) → ∀ v, (v = 0 ∨ v = 1) → (v = 1 ↔ ∀ j, j < x → wm z j = true → aC m B j (dg (wm z) (m + 1) k j) = true) → (lm_W (d + 1) 237 70 [some (.ref 92), some (.int z), some (.int x2), some (.int x3), some (.int (Int32.ofNat (k / (m + 1) ^ q_cn (wm z) x))), some (.int v), some (.int (Int32.ofNat x))] [] h (lm_kI K)) := by
  intro r
  induction r with
  | zero =>
    intro x hx h hf H ha v hv hv1
    have : x = n := by omega
    subst this
    have hn := H.2.2.2.1
    have h5 := H.2.1
    refine b_237_70 _ _ _ _ _ _ H.1 ?_
    simp (disch := omega) only [q_add, q_mul, q_m7, q_m6, q_6m, q_7m, q_a1, q_5m, q_m5, q_71, q_11, q_87, q_41, q_76, q_5a, q_0a, q_a6, q_nat, q_in, q_lt, q_eq, q_lt0, if_true, if_false, hn]
    rw [if_neg (by omega)]
    exact hK h hf H (fun j hj => ha j hj (Or.inr hj)) v hv hv1
  | succ r ih =>
    intro x hx h hf H ha v hv hv1
    have hn := H.2.2.2.1
    have hm := H.2.2.2.2.1
    have h5 := H.2.1
    have h6 := H.2.2.1
    have hle : k / (m + 1) ^ q_cn (wm z) x ≤ k := Nat.div_le_self _ _
    have hi := ih (x + 1) (by omega)
    rw [q_cn_add] at hi
    refine b_237_70 _ _ _ _ _ _ H.1 ?_
    rw [hn, hm]
    simp (disch := omega) only [q_add, q_mul, q_m7, q_m6, q_6m, q_7m, q_a1, q_5m, q_m5, q_71, q_11, q_87, q_41, q_76, q_5a, q_0a, q_a6, q_nat, q_in, q_lt, q_eq, q_lt0, if_true, if_false]
    rw [if_pos (by omega)]
    by_cases c : wm z x = true
    · rw [if_pos (by simpa [wm] using c)]
      rw [if_pos c] at hi
      have hdg : dg (wm z) (m + 1) k x < m + 1 := Nat.mod_lt _ (by omega)
      have hne : ¬ Int32.ofNat (m + 1) = 0 := by rw [q_e0 (by omega)]; omega
      refine ⟨hne, hne, ?_⟩
      rw [q_div (by omega) (by omega), q_mod]
      have hba : bA (wm z) m k A x = if dg (wm z) (m + 1) k x = m then 6 else dg (wm z) (m + 1) k x := by unfold bA; rw [if_pos c]
      have ha' : ∀ j, j < n → (¬ wm z j = true ∨ j < x + 1) → lm_i (lm_si h 107 x (Int32.ofNat (k / (m + 1) ^ q_cn (wm z) x % (m + 1)))) 107 j = Int32.ofNat (if bA (wm z) m k A j = 6 then m else bA (wm z) m k A j) := by
        intro j hj hor
        rw [pi_si, if_pos rfl]
        by_cases e : j = x
        · rw [if_pos e, e, hba]
          show Int32.ofNat (dg (wm z) (m + 1) k x) = _
          congr 1
          split
          · rename_i q; rw [if_pos rfl, q]
          · rw [if_neg (by omega)]
        · rw [if_neg e]
          refine ha j hj ?_
          rcases hor with q | q
          · exact Or.inl q
          · exact Or.inr (by omega)
      by_cases cv : v = 0
      · rw [if_pos cv]
        refine hi _ (fr_si hf (by decide) (by decide) _ _) (rt_si H (by decide) _ _) ha' 0 (Or.inl rfl) ⟨fun q => absurd q (by decide), fun q => ?_⟩
        exfalso
        have : v = 1 := hv1.2 (fun j hj hw => q j (by omega) hw)
        rw [cv] at this
        exact absurd this (by decide)
      · have hv2 : v = 1 := by rcases hv with q | q; exact absurd q cv; exact q
        rw [if_neg cv]
        show lm_call _ _ [_, _, .int (Int32.ofNat (dg (wm z) (m + 1) k x))] _ _
        refine cl_210 (by omega) (rt_si H (by decide) _ _) (by omega) (by omega) ?_
        by_cases ca : aC m B x (dg (wm z) (m + 1) k x) = true
        · rw [if_pos ca, if_neg (by decide)]
          refine hi _ (fr_si hf (by decide) (by decide) _ _) (rt_si H (by decide) _ _) ha' 1 (Or.inr rfl) ⟨fun _ j hj hw => ?_, fun _ => rfl⟩
          by_cases e : j = x
          · rw [e]; exact ca
          · exact hv1.1 hv2 j (by omega) hw
        · rw [if_neg ca, if_pos rfl]
          refine hi _ (fr_si hf (by decide) (by decide) _ _) (rt_si H (by decide) _ _) ha' 0 (Or.inl rfl) ⟨fun q => absurd q (by decide), fun q => ?_⟩
          exact absurd (q x (by omega) c) ca
    · rw [if_neg (by simpa [wm] using c)]
      rw [if_neg c] at hi
      refine hi h hf H (fun j hj hor => ?_) v hv ?_
      · refine ha j hj ?_
        rcases hor with q | q
        · exact Or.inl q
        · by_cases e : j = x
          · rw [e]; exact Or.inl c
          · exact Or.inr (by omega)
      · rw [hv1]
        constructor
        · intro q j hj hw
          by_cases e : j = x
          · rw [e] at hw; exact absurd hw c
          · exact q j (by omega) hw
        · intro q j hj hw
          exact q j (by omega) hw
theorem lp_237k {d n m : Nat} {h0 : lm_H} {K : Int32 → lm_H → Prop} {cu lo : Int32} {W B : Nat → Int32} {A : Nat → Nat} {z : Int32} (hD : 3 ≤ d + 1) (hcu : cu = 0 ∨ cu = 1 ∨ cu = 2) (hA : gA n m A) (hN : (m + 1) ^ q_cn (wm z) n < 2147483648)
    (hK : ∀ r h', fr [107, 110] [] h0 h' → rt h' n m cu lo W B → (r = 0 ∨ r = 1) → (r = 1 ↔ brk n m cu lo W B (wm z) A) → K r h') :
    ∀ r k, r + k = (m + 1) ^ q_cn (wm z) n → ∀ h, fr [107, 110] [] h0 h → rt h n m cu lo W B → (∀ j, j < n → ¬ wm z j = true → lm_i h 107 j = Int32.ofNat (if A j = 6 then m else A j)) → (∀ j, j < n → lm_i h 110 j = cG n cu lo W A j (A j)) → (∀ q, q < k → bK n m B (wm z) q → ¬ gd n cu lo W (wm z) (fun j => cG n cu lo W A j (A j)) (bA (wm z) m q A)) → (lm_W (d + 1) 237 56 [some (.ref 92), some (.int z), some (.int (Int32.ofNat ((m + 1) ^ q_cn (wm z) n))), some (.int (Int32.ofNat k)), none, none, none] [] h (lm_kI K)) := by
  intro r
  induction r with
  | zero =>
    intro k hk h hf H ha hG hno
    refine b_237_56 _ _ _ H.1 ?_
    simp (disch := omega) only [q_add, q_mul, q_m7, q_m6, q_6m, q_7m, q_a1, q_5m, q_m5, q_71, q_11, q_87, q_41, q_76, q_5a, q_0a, q_a6, q_nat, q_in, q_lt, q_eq, q_lt0, if_true, if_false]
    rw [if_neg (by omega)]
    refine hK 0 h hf H (Or.inl rfl) ⟨fun q => absurd q (by decide), fun q => ?_⟩
    exfalso
    obtain ⟨k', hk', hb, hg⟩ := (brk_dg H.2.2.1).1 q
    exact hno k' (by omega) hb hg
  | succ r ih =>
    intro k hk h hf H ha hG hno
    refine b_237_56 _ _ _ H.1 ?_
    simp (disch := omega) only [q_add, q_mul, q_m7, q_m6, q_6m, q_7m, q_a1, q_5m, q_m5, q_71, q_11, q_87, q_41, q_76, q_5a, q_0a, q_a6, q_nat, q_in, q_lt, q_eq, q_lt0, if_true, if_false]
    rw [if_pos (by omega)]
    have hd := lp_237d (h0 := h) (n := n) (m := m) (k := k) (K := K) (cu := cu) (lo := lo) (W := W) (B := B) (A := A) (z := z) (x2 := Int32.ofNat ((m + 1) ^ q_cn (wm z) n)) (x3 := Int32.ofNat k) hD (by omega) (fun h' hf' H' ha' v hv hv1 => ?_) n 0 (by omega) h (fr_refl _ _ _) H (fun j hj hor => ?_) 1 (Or.inr rfl) ⟨fun _ j hj => by omega, fun _ => rfl⟩
    · rw [q_cn, Nat.pow_zero, Nat.div_one] at hd
      exact hd
    · have hf2 : fr [107, 110] [] h0 h' := fr_trans hf (fr_sub hf' (by decide) (by decide))
      have hG' : ∀ j, j < n → lm_i h' 110 j = cG n cu lo W A j (A j) := fun j hj => by rw [fr_i hf' (by decide) (by decide)]; exact hG j hj
      have hno' : ∀ v : Int32, ¬ (bK n m B (wm z) k ∧ gd n cu lo W (wm z) (fun j => cG n cu lo W A j (A j)) (bA (wm z) m k A)) → (lm_W (d + 1) 237 56 [some (.ref 92), some (.int z), some (.int (Int32.ofNat ((m + 1) ^ q_cn (wm z) n))), some (.int (Int32.ofNat k + 1)), none, none, none] [] h' (lm_kI K)) := by
        intro v hnn
        rw [q_a1]
        refine ih (k + 1) (by omega) h' hf2 H' (fun j hj hw => ?_) hG' (fun q hq hb hg => ?_)
        · have := ha' j hj
          unfold bA at this
          rw [if_neg hw] at this
          exact this
        · by_cases e : q = k
          · rw [e] at hb hg; exact hnn ⟨hb, hg⟩
          · exact hno q (by omega) hb hg
      by_cases cb : bK n m B (wm z) k
      · rw [hv1.2 cb]
        refine lp_237g hD H' hcu hA ha' hG' (fun g => ?_) (fun g => hno' 0 (fun q => g q.2)) n 0 (by omega) (fun j hj => by omega)
        exact hK 1 h' hf2 H' (Or.inr rfl) ⟨fun _ => (brk_dg H.2.2.1).2 ⟨k, by omega, cb, g⟩, fun _ => rfl⟩
      · have hv0 : v = 0 := by rcases hv with q | q; exact q; exact absurd (hv1.1 q) cb
        rw [hv0]
        have h00 := hno' 0 (fun q => cb q.1)
        refine b_237_155 _ _ _ _ _ H'.1 ?_
        split
        · rw [if_pos rfl, if_pos rfl]
          exact h00
        · rw [if_pos rfl]
          exact h00
    · rcases hor with q | q
      · have := ha j hj q
        unfold bA
        rw [if_neg q]
        exact this
      · omega
theorem cl_237 {D n m : Nat} {h : lm_H} {K : Int32 → lm_H → Prop} {cu lo : Int32} {W B : Nat → Int32} {T : Nat → Nat} (z : Int32) (hD : 5 ≤ D) (H : rt h n m cu lo W B) (hcu : cu = 0 ∨ cu = 1 ∨ cu = 2) (ht : tk h n T) (hT : gA n m T)
    (hK : ∀ r h', fr [107, 110] [] h h' → rt h' n m cu lo W B → (r = 0 ∨ r = 1) → (r = 1 ↔ brk n m cu lo W B (wm z) (tA B T)) → K r h') : lm_call D 237 [.ref 92, .int z] h (lm_kI K) := by
  obtain ⟨d, rfl⟩ := q_dp hD
  have h5 := H.2.1
  have h6 := H.2.2.1
  have hA := okA_g (tA_ok (B := B) hT)
  have hN : ∀ x, x ≤ n → (m + 1) ^ q_cn (wm z) x ≤ 16807 := by
    intro x hx
    have h1 := q_cn_le (wm z) x
    have h2 : (m + 1) ^ q_cn (wm z) x ≤ 7 ^ q_cn (wm z) x := Nat.pow_le_pow_left (by omega) _
    have h3 : 7 ^ q_cn (wm z) x ≤ 7 ^ 5 := Nat.pow_le_pow_right (by omega) (by omega)
    have h4 : (7 : Nat) ^ 5 = 16807 := rfl
    omega
  refine e_237 _ H.1 ?_
  refine cl_212 (by omega) H ht hT (fun h1 hf1 H1 ha1 => ?_)
  have lp : ∀ r x : Nat, r + x = n → ∀ h2, fr [107, 110] [] h h2 → rt h2 n m cu lo W B → ra h2 n m (tA B T) → (∀ j, j < x → lm_i h2 110 j = cG n cu lo W (tA B T) j (tA B T j)) → (lm_W ((d + 3) + 1) 237 8 [some (.ref 92), some (.int z), some (.int (Int32.ofNat ((m + 1) ^ q_cn (wm z) x))), some (.int (Int32.ofNat x)), none, none, none] [] h2 (lm_kI K)) := by
    intro r
    induction r with
    | zero =>
      intro x hx h2 hf2 H2 ha2 hG
      have : x = n := by omega
      subst this
      have hn := H2.2.2.2.1
      refine b_237_8 _ _ _ H2.1 ?_
      simp (disch := omega) only [q_add, q_mul, q_m7, q_m6, q_6m, q_7m, q_a1, q_5m, q_m5, q_71, q_11, q_87, q_41, q_76, q_5a, q_0a, q_a6, q_nat, q_in, q_lt, q_eq, q_lt0, if_true, if_false, hn]
      rw [if_neg (by omega)]
      refine lp_237k (by omega) hcu hA (by have := hN x (Nat.le_refl x); omega) hK ((m + 1) ^ q_cn (wm z) x) 0 (by omega) h2 hf2 H2 (fun j hj _ => ha2 j hj) hG (fun q hq => by omega)
    | succ r ih =>
      intro x hx h2 hf2 H2 ha2 hG
      have hn := H2.2.2.2.1
      have hm := H2.2.2.2.2.1
      refine b_237_8 _ _ _ H2.1 ?_
      simp (disch := omega) only [q_add, q_mul, q_m7, q_m6, q_6m, q_7m, q_a1, q_5m, q_m5, q_71, q_11, q_87, q_41, q_76, q_5a, q_0a, q_a6, q_nat, q_in, q_lt, q_eq, q_lt0, if_true, if_false, hn]
      rw [if_pos (by omega)]
      refine cm_214 (by omega) H2 ha2 hA hcu (by omega) ?_
      rw [hm]
      simp (disch := omega) only [q_add, q_mul, q_m7, q_m6, q_6m, q_7m, q_a1, q_5m, q_m5, q_71, q_11, q_87, q_41, q_76, q_5a, q_0a, q_a6, q_nat, q_in, q_lt, q_eq, q_lt0, if_true, if_false]
      have hi := ih (x + 1) (by omega) (lm_si h2 110 x (cG n cu lo W (tA B T) x (tA B T x))) (fr_si hf2 (by decide) (by decide) _ _) (rt_si H2 (by decide) _ _) (fun j hj => by rw [pi_si, if_neg (by decide)]; exact ha2 j hj) (fun j hj => by
        rw [pi_si, if_pos rfl]
        by_cases e : j = x
        · rw [if_pos e, e]
        · rw [if_neg e]
          exact hG j (by omega))
      rw [q_cn] at hi
      by_cases c : wm z x = true
      · rw [if_pos (by simpa [wm] using c)]
        rw [if_pos c, Nat.pow_succ] at hi
        exact hi
      · rw [if_neg (by simpa [wm] using c)]
        rw [if_neg c, Nat.add_zero] at hi
        rw [Int32.mul_one]
        exact hi
  exact lp n 0 (by omega) h1 (fr_sub hf1 (by decide) (by decide)) H1 ha1 (fun j hj => by omega)
