/-! All askings: the class's look (55), become (65), isLike (64), askedBy (56). -/
def bd (n m : Nat) (B : Nat → Int32) : Prop := ∀ k, k < n → ∀ g, g < m → B (6 * k + g) = 0 ∨ B (6 * k + g) = 1
/-- what the class has found -/
def svc (n m : Nat) (cu lo : Int32) (W B : Nat → Int32) (h : lm_H) : Prop := lm_i h 31 3 = Int32.ofNat (NN B m n) ∧ (∀ j, j < n → lm_i h 42 j = Int32.ofNat (sd B m n j)) ∧ (∀ a, a < NN B m n → lm_i h 43 a = vS n m cu lo W B a) ∧ fb (vS n m cu lo W B) (vL n m cu lo W B 2147483647) h (NN B m n) ∧ fs (vS n m cu lo W B) (vU n m cu lo W B) h (NN B m n)
theorem cl_65 {D n m : Nat} {h : lm_H} {K : lm_H → Prop} {cu lo : Int32} {W B : Nat → Int32} (hD : 1 ≤ D) (H : ct h 21 n m cu lo W B) (hB : bd n m B) (hK : ∀ h', fr [32, 33, 34, 35, 36] [] h h' → ct h' 32 n m cu lo W B → K h') : lm_call D 65 [.ref 32, .ref 21] h (lm_kV K) := by
  obtain ⟨d, rfl⟩ := q_dp hD
  obtain ⟨hl, h5, h6, h0, h1, h2, h3, h4, h7⟩ := H
  refine e_65 hl ?_
  have e35 : (35 : Int32) = Int32.ofNat 35 := rfl
  have e5 : (5 : Int32) = Int32.ofNat 5 := rfl
  have lq : ∀ r i : Nat, r + i = 5 → ∀ z, fr [32, 33, 34, 35, 36] [] h z → (∀ s, s < 4 → lm_i z 32 s = lm_i h 21 s) → (∀ j, j < 35 → lm_i z 33 j = lm_i h 22 j ∧ lm_i z 34 j = vp_nar .boolean (lm_i h 23 j) ∧ lm_i z 35 j = lm_i h 24 j) → (∀ j, j < i → lm_i z 36 j = lm_i h 25 j) → (lm_W (d) 65 84 [some (.ref 32), some (.ref 21), some (.int (Int32.ofNat i))] [] z (lm_kV K)) := by
    intro r
    induction r with
    | zero =>
      intro i hi z hf g0 g1 g2
      have e : i = 5 := by omega
      rw [e] at g2
      refine b_65_84 _ (fr_Lay hf hl) ?_
      rw [e5, if_neg (by rw [q_lt (by omega) (by omega)]; omega)]
      refine hK z hf ⟨fr_Lay hf hl, h5, h6, ?_, ?_, ?_, ?_, fun k hk g hg => ?_, fun k hk => ?_⟩
      · rw [g0 0 (by decide)]; exact h0
      · rw [g0 1 (by decide)]; exact h1
      · rw [g0 2 (by decide)]; exact h2
      · rw [g0 3 (by decide)]; exact h3
      · obtain ⟨a, b, c⟩ := g1 (k * 7 + g) (by omega)
        obtain ⟨p, q⟩ := h4 k hk g hg
        refine ⟨a.trans p, b.trans ?_⟩
        rw [show lm_i h 23 (k * 7 + g) = B (6 * k + g) from q]
        exact q_b1or _ (hB k hk g hg)
      · obtain ⟨a, b, c⟩ := g1 (k * 7 + 6) (by omega)
        obtain ⟨p1, p2, p3, p4, p5⟩ := h7 k hk
        have hci := q_ci_le B k m
        refine ⟨a.trans p1, b.trans ?_, (g2 k (by omega)).trans p3, (g1 _ (by omega)).2.2.trans p4, fun g hg hb => ?_⟩
        · rw [show lm_i h 23 (k * 7 + 6) = 0 from p2]
          decide
        · have := q_ci_le B k g
          exact (g1 _ (by omega)).2.2.trans (p5 g hg hb)
    | succ r ih =>
      intro i hi z hf g0 g1 g2
      refine b_65_84 _ (fr_Lay hf hl) ?_
      rw [e5, if_pos (by rw [q_lt (by omega) (by omega)]; omega), q_in (by omega) (by omega), q_in (by omega) (by omega), q_nat (by omega), q_a1]
      refine ih (i + 1) (by omega) _ (fr_si hf (by decide) (by decide) _ _) (fun s hs => ?_) (fun j hj => ?_) (fun j hj => ?_)
      · rw [pi_si, if_neg (by decide)]; exact g0 s hs
      · simp only [pi_si, Nat.reduceEqDiff, if_false]; exact g1 j hj
      · rw [pi_si, if_pos rfl]
        by_cases e : j = i
        · rw [if_pos e, e, fr_i hf (by decide) (by decide)]
        · rw [if_neg e]; exact g2 j (by omega)
  have lp : ∀ r i : Nat, r + i = 35 → ∀ z, fr [32, 33, 34, 35, 36] [] h z → (∀ s, s < 4 → lm_i z 32 s = lm_i h 21 s) → (∀ j, j < i → lm_i z 33 j = lm_i h 22 j ∧ lm_i z 34 j = vp_nar .boolean (lm_i h 23 j) ∧ lm_i z 35 j = lm_i h 24 j) → (lm_W (d) 65 34 [some (.ref 32), some (.ref 21), some (.int (Int32.ofNat i))] [] z (lm_kV K)) := by
    intro r
    induction r with
    | zero =>
      intro i hi z hf g0 g1
      have e : i = 35 := by omega
      rw [e] at g1
      refine b_65_34 _ (fr_Lay hf hl) ?_
      rw [e35, if_neg (by rw [q_lt (by omega) (by omega)]; omega)]
      exact lq 5 0 (by omega) z hf g0 g1 (fun j hj => by omega)
    | succ r ih =>
      intro i hi z hf g0 g1
      refine b_65_34 _ (fr_Lay hf hl) ?_
      rw [e35, if_pos (by rw [q_lt (by omega) (by omega)]; omega), q_in (by omega) (by omega), q_in (by omega) (by omega), q_in (by omega) (by omega), q_in (by omega) (by omega), q_in (by omega) (by omega), q_in (by omega) (by omega), q_nat (by omega), q_a1]
      refine ih (i + 1) (by omega) _ (fr_si (fr_si (fr_si hf (by decide) (by decide) _ _) (by decide) (by decide) _ _) (by decide) (by decide) _ _) (fun s hs => ?_) (fun j hj => ?_)
      · simp only [pi_si, Nat.reduceEqDiff, if_false]; exact g0 s hs
      · simp only [pi_si, Nat.reduceEqDiff, if_true, if_false]
        by_cases e : j = i
        · simp only [e, if_true]
          rw [fr_i hf (by decide) (by decide), fr_i hf (by decide) (by decide), fr_i hf (by decide) (by decide)]
          exact ⟨rfl, rfl, rfl⟩
        · simp only [e, if_false]
          exact g1 j (by omega)
  refine lp 35 0 (by omega) _ (fr_si (fr_si (fr_si (fr_si (fr_refl _ _ _) (by decide) (by decide) _ _) (by decide) (by decide) _ _) (by decide) (by decide) _ _) (by decide) (by decide) _ _) (fun s hs => ?_) (fun j hj => by omega)
  match s, hs with
  | 0, _ => rfl
  | 1, _ => rfl
  | 2, _ => rfl
  | 3, _ => rfl
theorem cl_64 {D n m n' m' : Nat} {h : lm_H} {K : Int32 → lm_H → Prop} {cu lo cu' lo' : Int32} {W B W' B' : Nat → Int32} (hD : 2 ≤ D) (H : ct h 21 n m cu lo W B) (H' : ct h 32 n' m' cu' lo' W' B')
    (hK0 : K 0 h) (hK1 : n' = n → m' = m → cu' = cu → lo' = lo → (∀ k, k < n → ∀ g, g < m → W' (6 * k + g) = W (6 * k + g) ∧ B' (6 * k + g) = B (6 * k + g)) → K 1 h) : lm_call D 64 [.ref 32, .ref 21] h (lm_kI K) := by
  obtain ⟨d, rfl⟩ := q_dp hD
  obtain ⟨hl, h5, h6, h0, h1, h2, h3, h4, h7⟩ := H
  obtain ⟨hl', h5', h6', h0', h1', h2', h3', h4', h7'⟩ := H'
  refine e_64 hl ?_
  rw [h0, h1, h2, h3, h0', h1', h2', h3']
  by_cases c0 : n' = n
  case neg => rw [if_neg (by rw [q_eq (by omega) (by omega)]; exact c0)]; exact hK0
  by_cases c1 : m' = m
  case neg => rw [if_pos (by rw [c0]), if_neg (by rw [q_eq (by omega) (by omega)]; exact c1)]; exact hK0
  subst c0
  subst c1
  rw [if_pos rfl, if_pos rfl]
  by_cases c2 : cu' = cu
  case neg => rw [if_neg c2]; exact hK0
  rw [if_pos c2]
  by_cases c3 : lo' = lo
  case neg => rw [if_neg c3]; exact hK0
  rw [if_pos c3]
  have lp : ∀ r k : Nat, r + k = n' → (∀ i, i < k → ∀ g, g < m' → W' (6 * i + g) = W (6 * i + g) ∧ B' (6 * i + g) = B (6 * i + g)) → (lm_W (d + 1) 64 48 [some (.ref 32), some (.ref 21), some (.int (Int32.ofNat k)), none, none] [] h (lm_kI K)) := by
    intro r
    induction r with
    | zero =>
      intro k hk hs
      have e : k = n' := by omega
      rw [e] at hs
      refine b_64_48 _ hl ?_
      rw [h0', if_neg (by rw [q_lt (by omega) (by omega)]; omega)]
      exact hK1 rfl rfl c2 c3 hs
    | succ r ih =>
      intro k hk hs
      refine b_64_48 _ hl ?_
      rw [h0', if_pos (by rw [q_lt (by omega) (by omega)]; omega)]
      have lq : ∀ r g : Nat, r + g = m' → (∀ i, i < g → W' (6 * k + i) = W (6 * k + i) ∧ B' (6 * k + i) = B (6 * k + i)) → (lm_W (d + 1) 64 58 [some (.ref 32), some (.ref 21), some (.int (Int32.ofNat k)), some (.int (Int32.ofNat g)), none] [] h (lm_kI K)) := by
        intro r
        induction r with
        | zero =>
          intro g hg hs2
          have e : g = m' := by omega
          rw [e] at hs2
          refine b_64_58 _ _ hl ?_
          rw [h1', if_neg (by rw [q_lt (by omega) (by omega)]; omega), q_a1]
          refine ih (k + 1) (by omega) (fun i hi g hg => ?_)
          by_cases e2 : i = k
          · rw [e2]; exact hs2 g hg
          · exact hs i (by omega) g hg
        | succ r ih2 =>
          intro g hg hs2
          have a1 : lm_i h 33 (k * 7 + g) = W' (6 * k + g) := (h4' k (by omega) g (by omega)).1
          have a2 : lm_i h 34 (k * 7 + g) = B' (6 * k + g) := (h4' k (by omega) g (by omega)).2
          have a3 : lm_i h 22 (k * 7 + g) = W (6 * k + g) := (h4 k (by omega) g (by omega)).1
          have a4 : lm_i h 23 (k * 7 + g) = B (6 * k + g) := (h4 k (by omega) g (by omega)).2
          refine b_64_58 _ _ hl ?_
          rw [h1']
          simp (disch := omega) only [q_add, q_mul, q_m7, q_m6, q_6m, q_7m, q_a1, q_5m, q_m5, q_71, q_11, q_87, q_41, q_76, q_5a, q_0a, q_a6, q_nat, q_in, q_lt, q_eq, q_lt0, if_true, if_false, a1, a2, a3, a4]
          rw [if_pos (by omega)]
          by_cases d1 : W' (6 * k + g) = W (6 * k + g)
          · rw [if_pos d1]
            by_cases d2 : B' (6 * k + g) = B (6 * k + g)
            · rw [if_pos d2]
              refine ih2 (g + 1) (by omega) (fun i hi => ?_)
              by_cases e : i = g
              · rw [e]; exact ⟨d1, d2⟩
              · exact hs2 i (by omega)
            · rw [if_neg d2]; exact hK0
          · rw [if_neg d1]; exact hK0
      exact lq m' 0 (by omega) (fun i hi => by omega)
  exact lp n' 0 (by omega) (fun i hi => by omega)
/-- the survey of the table seen -/
theorem cl_55b {d n m : Nat} {h : lm_H} {K : lm_H → Prop} {cu lo : Int32} {W B : Nat → Int32} (hD : 4 ≤ d) (H : ct h 32 n m cu lo W B) (hw : wd n m cu lo W) (h38 : ∀ j, j < 5 → ∃ v, v ≤ 6 ∧ lm_i h 38 j = Int32.ofNat v) (h3 : lm_i h 31 3 = 1)
    (hK : ∀ h', fr [31, 38, 39, 40, 42, 43, 44, 45, 46, 47, 48] [] h h' → lm_i h' 31 2 = lm_i h 31 2 → (∀ j, j < 5 → ∃ v, v ≤ 6 ∧ lm_i h' 38 j = Int32.ofNat v) → svc n m cu lo W B h' → K h') : (lm_W (d) 55 47 [some (.ref 31), none, some (.int ((lm_i h 32 0) - 1))] [] h (lm_kV K)) := by
  have h5 := H.2.1
  have h6 := H.2.2.1
  have hn := H.2.2.2.1
  have hNN := NN_le (B := B) h5 h6
  have hN0 : 0 < NN B m n := wN_pos (fun j _ => cc_pos B m j)
  have hsT : ∀ x, x ≤ n → sT (cc B m) (n - x) x ≤ NN B m n := by
    intro x hx
    have h1 := sT_wN (c := cc B m) (n := n) x hx
    have h2 : 0 < wN (fun _ => true) (cc B m) x := wN_pos (fun j _ => cc_pos B m j)
    have h3 : 1 * sT (cc B m) (n - x) x ≤ wN (fun _ => true) (cc B m) x * sT (cc B m) (n - x) x := Nat.mul_le_mul_right _ h2
    unfold NN
    rw [sT_all]
    omega
  -- behind the hosts: best and steady
  have l3 : ∀ r x : Nat, r + x = n → ∀ z, fr [31, 38, 39, 40, 42, 43, 44, 45, 46, 47, 48] [] h z → lm_i z 31 2 = lm_i h 31 2 → lm_i z 31 3 = Int32.ofNat (NN B m n) → (∀ j, j < 5 → ∃ v, v ≤ 6 ∧ lm_i z 38 j = Int32.ofNat v) → (∀ j, j < n → lm_i z 42 j = Int32.ofNat (sd B m n j)) → rS z n m cu lo W B x (fun _ => false) → rL z n m cu lo W B x (fun _ => false) → rU z n m cu lo W B x (fun _ => false) → (lm_W (d) 55 125 [some (.ref 31), none, some (.int (Int32.ofNat x))] [] z (lm_kV K)) := by
    intro r
    induction r with
    | zero =>
      intro x hx z hf g2 g3 g38 gs gS gL gU
      have e : x = n := by omega
      rw [e] at gS gL gU
      have Hz := ct_fr hf H (by decide)
      refine b_55_125 _ Hz.1 ?_
      rw [Hz.2.2.2.1, if_neg (by rw [q_lt (by omega) (by omega)]; omega)]
      refine cl_59 (N := NN B m n) (S := vS n m cu lo W B) (L := vL n m cu lo W B 2147483647) (by omega) Hz.1 hNN g3 hN0 (fun a ha => ?_) (fun a ha => ?_) (fun z1 hf1 k2 k3 hb => ?_)
      · exact gS a ha
      · exact gL a ha
      refine cl_60 (N := NN B m n) (S := vS n m cu lo W B) (U := vU n m cu lo W B) (by omega) (fr_Lay hf1 Hz.1) hNN (k3.trans g3) (fun a ha => ?_) (fun a ha => ?_) (fun z2 hf2 k hs => ?_)
      · rw [fr_i hf1 (by decide) (by decide)]; exact gS a ha
      · rw [fr_i hf1 (by decide) (by decide)]; exact gU a ha
      refine hK z2 (fr_trans hf (fr_trans (fr_sub hf1 (by decide) (by decide)) (fr_sub hf2 (by decide) (by decide)))) ?_ (fun j hj => ?_) ⟨?_, fun j hj => ?_, fun a ha => ?_, ?_, hs⟩
      · rw [k 2 (by decide) (by decide) (by decide), k2, g2]
      · rw [fr_i hf2 (by decide) (by decide), fr_i hf1 (by decide) (by decide)]; exact g38 j hj
      · rw [k 3 (by decide) (by decide) (by decide), k3, g3]
      · rw [fr_i hf2 (by decide) (by decide), fr_i hf1 (by decide) (by decide)]; exact gs j hj
      · rw [fr_i hf2 (by decide) (by decide), fr_i hf1 (by decide) (by decide)]; exact gS a ha
      · unfold fb at hb ⊢
        rw [k 11 (by decide) (by decide) (by decide), k 12 (by decide) (by decide) (by decide), k 13 (by decide) (by decide) (by decide), k 14 (by decide) (by decide) (by decide)]
        exact hb
    | succ r ih =>
      intro x hx z hf g2 g3 g38 gs gS gL gU
      have Hz := ct_fr hf H (by decide)
      refine b_55_125 _ Hz.1 ?_
      rw [Hz.2.2.2.1, if_pos (by rw [q_lt (by omega) (by omega)]; omega)]
      refine cl_57 (by omega) hw (by omega) Hz (fun j hj => g38 j (by omega)) gs gS gL gU (fun z1 hf1 kx0 k38 kS kL kU => ?_)
      rw [q_a1]
      refine ih (x + 1) (by omega) z1 (fr_trans hf (fr_sub hf1 (by decide) (by decide))) ?_ ?_ (fun j hj => ?_) (fun j hj => ?_) kS kL kU
      · rw [fr_i hf1 (by decide) (by decide)]; exact g2
      · rw [fr_i hf1 (by decide) (by decide)]; exact g3
      · by_cases c : j < n
        · exact k38 j c
        · rw [kx0 j (by omega)]; exact g38 j hj
      · rw [fr_i hf1 (by decide) (by decide)]; exact gs j hj
  -- rows at their start
  have l2 : ∀ r i : Nat, r + i = NN B m n → ∀ z, fr [31, 38, 39, 40, 42, 43, 44, 45, 46, 47, 48] [] h z → lm_i z 31 2 = lm_i h 31 2 → lm_i z 31 3 = Int32.ofNat (NN B m n) → (∀ j, j < 5 → ∃ v, v ≤ 6 ∧ lm_i z 38 j = Int32.ofNat v) → (∀ j, j < n → lm_i z 42 j = Int32.ofNat (sd B m n j)) → (∀ a, a < i → lm_i z 43 a = 0 ∧ lm_i z 44 a = 2147483647 ∧ lm_i z 45 a = 0) → (lm_W (d) 55 87 [some (.ref 31), none, some (.int (Int32.ofNat i))] [] z (lm_kV K)) := by
    intro r
    induction r with
    | zero =>
      intro i hi z hf g2 g3 g38 gs g0
      have e : i = NN B m n := by omega
      rw [e] at g0
      refine b_55_87 _ (fr_Lay hf H.1) ?_
      rw [g3, if_neg (by rw [q_lt (by omega) (by omega)]; omega)]
      exact l3 n 0 (by omega) z hf g2 g3 g38 gs (fun a ha => (g0 a ha).1) (fun a ha => (g0 a ha).2.1) (fun a ha => (g0 a ha).2.2)
    | succ r ih =>
      intro i hi z hf g2 g3 g38 gs g0
      refine b_55_87 _ (fr_Lay hf H.1) ?_
      rw [g3, if_pos (by rw [q_lt (by omega) (by omega)]; omega), q_in (by omega) (by omega), q_in (by omega) (by omega), q_in (by omega) (by omega), q_nat (by omega), q_a1]
      refine ih (i + 1) (by omega) _ (fr_si (fr_si (fr_si hf (by decide) (by decide) _ _) (by decide) (by decide) _ _) (by decide) (by decide) _ _) ?_ ?_ (fun j hj => ?_) (fun j hj => ?_) (fun a ha => ?_)
      · simp only [pi_si, Nat.reduceEqDiff, if_false]; exact g2
      · simp only [pi_si, Nat.reduceEqDiff, if_false]; exact g3
      · simp only [pi_si, Nat.reduceEqDiff, if_false]; exact g38 j hj
      · simp only [pi_si, Nat.reduceEqDiff, if_false]; exact gs j hj
      · simp only [pi_si, Nat.reduceEqDiff, if_true, if_false]
        by_cases e : a = i
        · simp only [e, if_true, and_self]
        · simp only [e, if_false]
          exact g0 a (by omega)
  -- strides
  have l1 : ∀ x, x ≤ n → ∀ z, fr [31, 38, 39, 40, 42, 43, 44, 45, 46, 47, 48] [] h z → lm_i z 31 2 = lm_i h 31 2 → lm_i z 31 3 = Int32.ofNat (sT (cc B m) (n - x) x) → (∀ j, j < 5 → ∃ v, v ≤ 6 ∧ lm_i z 38 j = Int32.ofNat v) → (∀ j, x ≤ j → j < n → lm_i z 42 j = Int32.ofNat (sd B m n j)) → (lm_W (d) 55 47 [some (.ref 31), none, some (.int (Int32.ofNat x - 1))] [] z (lm_kV K)) := by
    intro x
    induction x with
    | zero =>
      intro _ z hf g2 g3 g38 gs
      refine b_55_47 _ (fr_Lay hf H.1) ?_
      rw [if_pos (by decide)]
      rw [Nat.sub_zero, ← sT_all] at g3
      exact l2 (NN B m n) 0 (by omega) z hf g2 g3 g38 (fun j hj => gs j (by omega) hj) (fun a ha => by omega)
    | succ x ih =>
      intro hx z hf g2 g3 g38 gs
      have Hz := ct_fr hf H (by decide)
      have hcx : lm_i z 36 x = Int32.ofNat (cc B m x) := (Hz.2.2.2.2.2.2.2.2 x (by omega)).2.2.1
      rw [q_p1]
      refine b_55_47 _ Hz.1 ?_
      rw [if_neg (by rw [q_lt0 (by omega)]; exact id), q_in (by omega) (by omega), q_in (by omega) (by omega), q_nat (by omega), hcx, g3, q_mul]
      refine ih (by omega) _ (fr_si (fr_si hf (by decide) (by decide) _ _) (by decide) (by decide) _ _) ?_ ?_ (fun j hj => ?_) (fun j h1 h2 => ?_)
      · simp only [pi_si, Nat.reduceEqDiff, if_true, if_false]; exact g2
      · simp only [pi_si, if_true]
        rw [sT_step (c := cc B m) (n := n) (x := x) (by omega), Nat.mul_comm]
      · simp only [pi_si, Nat.reduceEqDiff, if_false]; exact g38 j hj
      · simp only [pi_si, Nat.reduceEqDiff, if_true, if_false]
        by_cases e : j = x
        · simp only [e, if_true]
          rfl
        · simp only [e, if_false]
          exact gs j (by omega) h2
  rw [hn]
  refine l1 n (Nat.le_refl n) h (fr_refl _ _ _) rfl ?_ h38 (fun j h1 h2 => by omega)
  rw [Nat.sub_self, sT, h3]
  rfl
