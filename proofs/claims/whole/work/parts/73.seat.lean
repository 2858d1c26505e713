/-! The year: who dines with whom (93, 94, and 254 from 90 on). -/
theorem q_cn_mo (P : Nat → Bool) {i j : Nat} (h : i ≤ j) : q_cn P i ≤ q_cn P j := by
  induction j with
  | zero =>
    have : i = 0 := by omega
    subst this
    exact Nat.le_refl _
  | succ j ih =>
    by_cases c : i = j + 1
    · subst c
      exact Nat.le_refl _
    · have := ih (by omega)
      rw [q_cn]
      omega
/-- the w-th, from 0, of those for whom P holds -/
def kth (P : Nat → Bool) (w n : Nat) : Nat := q_fi (fun j => P j && decide (q_cn P j = w)) 9 n
theorem kth_at {P : Nat → Bool} {w n k : Nat} (hk : k < n) (hn : n ≤ 9) (hP : P k = true) (hc : q_cn P k = w) : kth P w n = k := by
  unfold kth
  refine q_fi_hit hk hn (fun i hi => ?_) (by simp [hP, hc])
  by_cases c : P i = true
  · have h1 := q_cn_mo P (i := i + 1) (j := k) (by omega)
    rw [q_cn, if_pos c] at h1
    have : ¬ q_cn P i = w := by omega
    simp [this]
  · simp [c]
theorem kth_in {P : Nat → Bool} {w n : Nat} (hn : n ≤ 9) (hw : w < q_cn P n) : kth P w n < n ∧ P (kth P w n) = true ∧ q_cn P (kth P w n) = w := by
  have ex : ∀ x, x ≤ n → w < q_cn P x → ∃ k, k < x ∧ P k = true ∧ q_cn P k = w := by
    intro x
    induction x with
    | zero => intro _ q; rw [q_cn] at q; omega
    | succ x ih =>
      intro hx q
      rw [q_cn] at q
      by_cases c : w < q_cn P x
      · obtain ⟨k, h1, h2⟩ := ih (by omega) c
        exact ⟨k, by omega, h2⟩
      · by_cases c2 : P x = true
        · rw [if_pos c2] at q
          exact ⟨x, by omega, c2, by omega⟩
        · rw [if_neg c2] at q
          omega
  obtain ⟨k, h1, h2, h3⟩ := ex n (Nat.le_refl _) hw
  rw [kth_at h1 hn h2 h3]
  exact ⟨h1, h2, h3⟩
theorem cl_94 {D n w : Nat} {h : lm_H} {K : Int32 → lm_H → Prop} (hD : 1 ≤ D) (hl : lm_Lay h) (h5 : n ≤ 5) (hn : lm_i h 58 5 = Int32.ofNat n) (P : Nat → Bool) (hw : w < q_cn P n) (hK : K (Int32.ofNat (kth P w n)) h) : lm_call D 94 [.ref 58, .int (q_mk P n), .int (Int32.ofNat w)] h (lm_kI K) := by
  obtain ⟨d, rfl⟩ := q_dp hD
  have hcl := q_cn_le P n
  refine e_94 _ _ hl ?_
  have lp : ∀ r k : Nat, r + k = n → q_cn P k ≤ w → (lm_W (d) 94 5 [some (.ref 58), some (.int (q_mk P n)), none, some (.int (Int32.ofNat (w - q_cn P k))), some (.int (Int32.ofNat k))] [] h (lm_kI K)) := by
    intro r
    induction r with
    | zero =>
      intro k hk hc
      have ek : k = n := by omega
      rw [ek] at hc
      omega
    | succ r ih =>
      intro k hk hc
      have hb := q_bit P (n := n) (j := k) (by omega) (by omega)
      have hi := ih (k + 1) (by omega)
      rw [q_cn] at hi
      refine b_94_5 _ _ _ hl ?_
      rw [hn, if_pos (by rw [q_lt (by omega) (by omega)]; omega), q_a1]
      by_cases c : P k = true
      · rw [if_pos (hb.2 ⟨by omega, c⟩)]
        rw [if_pos c] at hi
        by_cases c2 : w - q_cn P k = 0
        · rw [if_pos (by rw [c2]; rfl)]
          rw [kth_at (by omega) (by omega) c (by omega)] at hK
          exact hK
        · rw [if_neg (by rw [q_e0 (by omega)]; exact c2), q_s1 (by omega)]
          have := hi (by omega)
          rw [show w - (q_cn P k + 1) = w - q_cn P k - 1 by omega] at this
          exact this
      · rw [if_neg (fun q => c (hb.1 q).2)]
        rw [if_neg c] at hi
        exact hi (by omega)
  have := lp n 0 (by omega) (by rw [q_cn]; omega)
  exact this
/-- guest g is seated -/
def sP (n : Nat) (cu : Int32) (A : Nat → Nat) (p : (Nat → Nat) × Nat) (g : Nat) : (Nat → Nat) × Nat :=
  if q_cn (fun j => decide (A j = g)) n = 0 ∨ (1 < q_cn (fun j => decide (A j = g)) n ∧ cu = 0) then p
  else if 1 < q_cn (fun j => decide (A j = g)) n ∧ cu = 2 then (fun j => if j = kth (fun j => decide (A j = g)) (dr p.2 % q_cn (fun j => decide (A j = g)) n) n then g else p.1 j, dr p.2)
  else (fun j => if j = kth (fun j => decide (A j = g)) 0 n then g else p.1 j, p.2)
def sC (n : Nat) (cu : Int32) (A : Nat → Nat) (s : Nat) : Nat → (Nat → Nat) × Nat
  | 0 => (fun _ => 6, s)
  | g + 1 => sP n cu A (sC n cu A s g) g
theorem sC_p {n : Nat} {cu : Int32} {A : Nat → Nat} {s : Nat} (hs : s < 1000003) (g : Nat) : (sC n cu A s g).2 < 1000003 ∧ ∀ j, (sC n cu A s g).1 j < g ∨ (sC n cu A s g).1 j = 6 := by
  induction g with
  | zero => exact ⟨hs, fun j => Or.inr rfl⟩
  | succ g ih =>
    rw [sC, sP]
    split
    · refine ⟨ih.1, fun j => ?_⟩
      have := ih.2 j
      omega
    · split
      · refine ⟨dr_lt _, fun j => ?_⟩
        have := ih.2 j
        show (if j = _ then g else (sC n cu A s g).1 j) < g + 1 ∨ (if j = _ then g else (sC n cu A s g).1 j) = 6
        split <;> omega
      · refine ⟨ih.1, fun j => ?_⟩
        have := ih.2 j
        show (if j = _ then g else (sC n cu A s g).1 j) < g + 1 ∨ (if j = _ then g else (sC n cu A s g).1 j) = 6
        split <;> omega
theorem cl_93 {D n m s : Nat} {h : lm_H} {K : lm_H → Prop} {cu lo : Int32} {W B : Nat → Int32} {A : Nat → Nat} (hD : 2 ≤ D) (H : ct h 59 n m cu lo W B) (hcu : cu = 0 ∨ cu = 1 ∨ cu = 2) (hs : s < 1000003) (h58 : lm_i h 58 6 = Int32.ofNat s) (hn : lm_i h 58 5 = Int32.ofNat n) (hA : ca h 69 n A) (hA6 : ∀ j, j < n → A j ≤ 6)
    (hK : ∀ h', fr [58, 71] [] h h' → lm_i h' 58 6 = Int32.ofNat (sC n cu A s m).2 → lm_i h' 58 5 = lm_i h 58 5 → lm_i h' 58 4 = lm_i h 58 4 → (∀ j, j < n → lm_i h' 71 j = Int32.ofNat ((sC n cu A s m).1 j)) → K h') : lm_call D 93 [.ref 58] h (lm_kV K) := by
  obtain ⟨d, rfl⟩ := q_dp hD
  have h5 := H.2.1
  have h6 := H.2.2.1
  refine e_93 H.1 ?_
  refine cl_270c71 (by omega) H.1 _ ?_
  have lp : ∀ r g : Nat, r + g = m → ∀ z, fr [58, 71] [] h z → lm_i z 58 6 = Int32.ofNat (sC n cu A s g).2 → lm_i z 58 5 = lm_i h 58 5 → lm_i z 58 4 = lm_i h 58 4 → (∀ j, j < n → lm_i z 71 j = Int32.ofNat ((sC n cu A s g).1 j)) → (lm_W ((d + 1)) 93 11 [some (.ref 58), some (.int (Int32.ofNat g)), none, none] [] z (lm_kV K)) := by
    intro r
    induction r with
    | zero =>
      intro g hg z hf a1 a2 a3 a4
      have eg : g = m := by omega
      rw [eg] at a1 a4 ⊢
      refine b_93_11 _ (fr_Lay hf H.1) ?_
      rw [fr_i hf (by decide) (by decide), H.2.2.2.2.1, if_neg (by rw [q_lt (by omega) (by omega)]; omega)]
      exact hK z hf a1 a2 a3 a4
    | succ r ih =>
      intro g hg z hf a1 a2 a3 a4
      have hlz := fr_Lay hf H.1
      have z59 := fr_i hf (c := 59) (by decide) (by decide)
      have z69 := fr_i hf (c := 69) (by decide) (by decide)
      have hi := ih (g + 1) (by omega)
      have hsp := sC_p (n := n) (cu := cu) (A := A) hs g
      have hcl := q_cn_le (fun j => decide (A j = g)) n
      have h2 : lm_i z 59 2 = cu := by rw [z59]; exact H.2.2.2.2.2.1
      rw [sC] at hi
      -- a host is seated
      have fin : ∀ z1 w, fr [58, 71] [] h z1 → lm_i z1 58 5 = lm_i h 58 5 → lm_i z1 58 4 = lm_i h 58 4 → (∀ j, j < n → lm_i z1 71 j = Int32.ofNat ((sC n cu A s g).1 j)) → w < q_cn (fun j => decide (A j = g)) n → (sP n cu A (sC n cu A s g) g).1 = (fun j => if j = kth (fun j => decide (A j = g)) w n then g else (sC n cu A s g).1 j) → lm_i z1 58 6 = Int32.ofNat (sP n cu A (sC n cu A s g) g).2 → lm_call (d + 1) 94 [.ref 58, .int (q_mk (fun j => decide (A j = g)) n), .int (Int32.ofNat w)] z1 (lm_kI fun r8 h7 => lm_in r8 5 False (lm_W (d + 1) 93 11 [some (.ref 58), some (.int (Int32.ofNat (g + 1))), none, none] [] (lm_si h7 71 r8.toNatClampNeg (Int32.ofNat g)) (lm_kV K))) := by
        intro z1 w f1 b2 b3 b4 hw e1 e2
        obtain ⟨k1, k2, k3⟩ := kth_in (P := fun j => decide (A j = g)) (n := n) (by omega) hw
        refine cl_94 (by omega) (fr_Lay f1 H.1) h5 (by rw [b2]; exact hn) _ hw ?_
        refine p_inN (by omega) (by omega) ?_
        rw [q_nat (by omega)]
        refine hi _ (fr_si f1 (by decide) (by decide) _ _) ?_ ?_ ?_ (fun j hj => ?_)
        · rw [pi_si, if_neg (by decide)]; exact e2
        · rw [pi_si, if_neg (by decide)]; exact b2
        · rw [pi_si, if_neg (by decide)]; exact b3
        · rw [pi_si, if_pos rfl, e1]
          show _ = Int32.ofNat (if j = _ then g else _)
          by_cases c : j = kth (fun j => decide (A j = g)) w n
          · rw [if_pos c, if_pos c]
          · rw [if_neg c, if_neg c]
            exact b4 j hj
      refine b_93_11 _ hlz ?_
      rw [z59, H.2.2.2.2.1, if_pos (by rw [q_lt (by omega) (by omega)]; omega), q_a1]
      refine cm_67y (by omega) hlz (by rw [z59]; exact H.2.2.2.1) h5 (fun j hj => by rw [z69]; exact hA j hj) hA6 (by omega) ?_
      refine cl_262 (by omega) hlz _ ?_
      rw [q_bc_mk _ h5, h2]
      simp only [q_1l (a := q_cn (fun j => decide (A j = g)) n) (by omega), q_e1 (a := q_cn (fun j => decide (A j = g)) n) (by omega)]
      by_cases c1 : 1 < q_cn (fun j => decide (A j = g)) n
      · simp only [if_pos c1, if_neg (show ¬ q_cn (fun j => decide (A j = g)) n = 1 by omega)]
        by_cases cu2 : cu = 2
        · rw [if_pos cu2]
          have es : sP n cu A (sC n cu A s g) g = (fun j => if j = kth (fun j => decide (A j = g)) (dr (sC n cu A s g).2 % q_cn (fun j => decide (A j = g)) n) n then g else (sC n cu A s g).1 j, dr (sC n cu A s g).2) := by
            rw [sP, if_neg (by rintro (q | q); omega; rw [cu2] at q; exact absurd q.2 (by decide)), if_pos ⟨c1, cu2⟩]
          refine cl_87 (by omega) hlz hsp.1 (by omega) (by omega) a1 ?_
          refine fin _ _ (fr_si hf (by decide) (by decide) _ _) ?_ ?_ (fun j hj => ?_) (Nat.mod_lt _ (by omega)) (by rw [es]) ?_
          · rw [pi_si, if_pos rfl, if_neg (by decide)]; exact a2
          · rw [pi_si, if_pos rfl, if_neg (by decide)]; exact a3
          · rw [pi_si, if_neg (by decide)]; exact a4 j hj
          · rw [pi_si, if_pos rfl, if_pos rfl, es]
        · rw [if_neg cu2]
          by_cases cu1 : cu = 1
          · rw [if_pos cu1]
            have es : sP n cu A (sC n cu A s g) g = (fun j => if j = kth (fun j => decide (A j = g)) 0 n then g else (sC n cu A s g).1 j, (sC n cu A s g).2) := by
              rw [sP, if_neg (by rintro (q | q); omega; rw [cu1] at q; exact absurd q.2 (by decide)), if_neg (fun q => cu2 q.2)]
            exact fin z 0 hf a2 a3 a4 (by omega) (by rw [es]) (by rw [es]; exact a1)
          · rw [if_neg cu1]
            have cu0 : cu = 0 := by
              rcases hcu with q | q | q
              · exact q
              · exact absurd q cu1
              · exact absurd q cu2
            have es : sP n cu A (sC n cu A s g) g = sC n cu A s g := by
              rw [sP, if_pos (Or.inr ⟨c1, cu0⟩)]
            rw [es] at hi
            exact hi z hf a1 a2 a3 a4
      · simp only [if_neg c1]
        by_cases c2 : q_cn (fun j => decide (A j = g)) n = 1
        · rw [if_pos c2]
          have es : sP n cu A (sC n cu A s g) g = (fun j => if j = kth (fun j => decide (A j = g)) 0 n then g else (sC n cu A s g).1 j, (sC n cu A s g).2) := by
            rw [sP, if_neg (by rintro (q | q); omega; omega), if_neg (fun q => c1 q.1)]
          exact fin z 0 hf a2 a3 a4 (by omega) (by rw [es]) (by rw [es]; exact a1)
        · rw [if_neg c2]
          have es : sP n cu A (sC n cu A s g) g = sC n cu A s g := by
            rw [sP, if_pos (Or.inl (by omega))]
          rw [es] at hi
          exact hi z hf a1 a2 a3 a4
  have hf0 : fr [58, 71] [] h (lm_row h 71 (fun j => if j < 5 then 6 else lm_i h 71 j)) := fr_row (fr_refl _ _ _) (by decide) (by decide) _
  refine lp m 0 (by omega) _ hf0 h58 rfl rfl (fun j hj => ?_)
  rw [pi_row, if_pos rfl, if_pos (by omega)]
  rfl
/-- the reference seats so -/
theorem q_sub0 {a b : Nat} (ha : a < 1000) (hb : b < 1000) : (Int32.ofNat a - Int32.ofNat b = 0) = (a = b) := by
  refine propext ⟨fun q => ?_, fun q => by rw [q, Int32.sub_self]⟩
  have h1 : Int32.ofNat a = Int32.ofNat b := by
    have := congrArg (fun x => x + Int32.ofNat b) q
    simpa using this
  rwa [q_eq (by omega) (by omega)] at h1
theorem q_subs (a b : Nat) : Int32.ofNat a - Int32.ofNat b - 1 = Int32.ofNat a - Int32.ofNat (b + 1) := by
  rw [← q_a1]
  grind
theorem lp_254c {d n m e s : Nat} {h : lm_H} {K : Int32 → lm_H → Prop} {cu lo : Int32} {W B : Nat → Int32} {A : Nat → Nat} (hD : 1 ≤ d + 1) (H : rt h n m cu lo W B) (hcu : cu = 0 ∨ cu = 1 ∨ cu = 2) (he : e < 40) (hs : s < 1000003) (h57 : lm_i h 92 57 = Int32.ofNat s) (hA : ∀ j, j < n → A j ≤ 6 ∧ lm_i h 115 (5 * e + j) = nC (A j)) (hC : ∀ j, j < n → lm_i h 116 (5 * e + j) = -1)
    (hK : ∀ h', fr [116] [57] h h' → lm_i h' 92 57 = Int32.ofNat (sC n cu A s m).2 → (∀ j, j < n → lm_i h' 116 (5 * e + j) = nC ((sC n cu A s m).1 j)) → (∀ j, (j < 5 * e ∨ 5 * e + n ≤ j) → lm_i h' 116 j = lm_i h 116 j) → (lm_W (d + 1) 254 258 [some (.ref 92), none, some (.int (Int32.ofNat (5 * e))), some (.int 0), some (.int 0), none, none] [] h' (lm_kI K))) : (lm_W (d + 1) 254 90 [some (.ref 92), none, some (.int (Int32.ofNat (5 * e))), some (.int 0), none, none, none] [] h (lm_kI K)) := by
  have h5 := H.2.1
  have h6 := H.2.2.1
  have lp : ∀ r g : Nat, r + g = m → ∀ z, fr [116] [57] h z → lm_i z 92 57 = Int32.ofNat (sC n cu A s g).2 → (∀ j, j < n → lm_i z 116 (5 * e + j) = nC ((sC n cu A s g).1 j)) → (∀ j, (j < 5 * e ∨ 5 * e + n ≤ j) → lm_i z 116 j = lm_i h 116 j) → (lm_W (d + 1) 254 90 [some (.ref 92), none, some (.int (Int32.ofNat (5 * e))), some (.int (Int32.ofNat g)), none, none, none] [] z (lm_kI K)) := by
    intro r
    induction r with
    | zero =>
      intro g hg z hf a1 a2 a3
      have eg : g = m := by omega
      rw [eg] at a1 a2 ⊢
      refine b_254_90 _ _ (fr_Lay hf H.1) ?_
      rw [fr_i hf (by decide) (by decide), H.2.2.2.2.1, if_neg (by rw [q_lt (by omega) (by omega)]; omega)]
      exact hK z hf a1 a2 a3
    | succ r ih =>
      intro g hg z hf a1 a2 a3
      have hi := ih (g + 1) (by omega)
      have hsp := sC_p (n := n) (cu := cu) (A := A) hs g
      have hcl := q_cn_le (fun j => decide (A j = g)) n
      have hlz := fr_Lay hf H.1
      have z94 := fr_i hf (c := 94) (by decide) (by decide)
      have z115 := fr_i hf (c := 115) (by decide) (by decide)
      rw [sC] at hi
      -- the w-th is seated
      have fin : ∀ z0 w, fr [116] [57] h z0 → (∀ j, j < n → lm_i z0 116 (5 * e + j) = nC ((sC n cu A s g).1 j)) → (∀ j, (j < 5 * e ∨ 5 * e + n ≤ j) → lm_i z0 116 j = lm_i h 116 j) → w < q_cn (fun j => decide (A j = g)) n → (sP n cu A (sC n cu A s g) g).1 = (fun j => if j = kth (fun j => decide (A j = g)) w n then g else (sC n cu A s g).1 j) → lm_i z0 92 57 = Int32.ofNat (sP n cu A (sC n cu A s g) g).2 → (lm_W (d + 1) 254 198 [some (.ref 92), none, some (.int (Int32.ofNat (5 * e))), some (.int (Int32.ofNat g)), none, some (.int (Int32.ofNat w)), some (.int 0)] [] z0 (lm_kI K)) := by
        intro z0 w f0 b2 b3 hw e1 e2
        have lq : ∀ q j : Nat, q + j = n → ∀ z1, fr [116] [57] h z1 → lm_i z1 92 57 = Int32.ofNat (sP n cu A (sC n cu A s g) g).2 → (∀ i, i < n → lm_i z1 116 (5 * e + i) = nC (if i < j ∧ i = kth (fun j => decide (A j = g)) w n then g else (sC n cu A s g).1 i)) → (∀ j, (j < 5 * e ∨ 5 * e + n ≤ j) → lm_i z1 116 j = lm_i h 116 j) → (lm_W (d + 1) 254 198 [some (.ref 92), none, some (.int (Int32.ofNat (5 * e))), some (.int (Int32.ofNat g)), none, some (.int (Int32.ofNat w - Int32.ofNat (q_cn (fun j => decide (A j = g)) j))), some (.int (Int32.ofNat j))] [] z1 (lm_kI K)) := by
          intro q
          induction q with
          | zero =>
            intro j hj z1 f1 c1 c2 c3
            have ej : j = n := by omega
            rw [ej] at c2 ⊢
            refine b_254_198 _ _ _ _ (fr_Lay f1 H.1) ?_
            rw [fr_i f1 (by decide) (by decide), H.2.2.2.1, if_neg (by rw [q_lt (by omega) (by omega)]; omega), q_a1]
            refine hi z1 f1 c1 (fun i hi2 => ?_) c3
            rw [c2 i hi2, e1]
            simp only [hi2, true_and]
          | succ q ihq =>
            intro j hj z1 f1 c1 c2 c3
            have hq := ihq (j + 1) (by omega)
            rw [q_cn] at hq
            have hcj := q_cn_mo (fun j => decide (A j = g)) (i := j) (j := n) (by omega)
            refine b_254_198 _ _ _ _ (fr_Lay f1 H.1) ?_
            rw [fr_i f1 (c := 94) (by decide) (by decide), H.2.2.2.1, if_pos (by rw [q_lt (by omega) (by omega)]; omega), q_add, q_in (by omega) (by omega), q_nat (by omega), fr_i f1 (c := 115) (by decide) (by decide), (hA j (by omega)).2, q_a1]
            by_cases ca : A j = g
            · rw [if_pos ((nC_eq (hA j (by omega)).1 (by omega)).2 ca), q_subs]
              simp only [q_sub0 (a := w) (b := q_cn (fun j => decide (A j = g)) j) (by omega) (by omega)]
              rw [if_pos (by simpa using ca)] at hq
              by_cases cw : w = q_cn (fun j => decide (A j = g)) j
              · have ek : kth (fun j => decide (A j = g)) w n = j := kth_at (by omega) (by omega) (by simpa using ca) cw.symm
                rw [if_pos cw]
                refine p_inN (by omega) (by omega) ?_
                refine hq _ (fr_si f1 (by decide) (by decide) _ _) ?_ (fun i hi2 => ?_) (fun i hi2 => ?_)
                · rw [pi_si, if_neg (by decide)]; exact c1
                · rw [pi_si, if_pos rfl]
                  by_cases ei : i = j
                  · rw [if_pos (by rw [ei]), if_pos ⟨by omega, by rw [ek]; exact ei⟩, nC, if_neg (by omega)]
                  · rw [if_neg (by omega), c2 i hi2, ek]
                    simp only [ei, and_false]
                · rw [pi_si, if_pos rfl, if_neg (by omega)]
                  exact c3 i hi2
              · rw [if_neg cw]
                have ek : ¬ kth (fun j => decide (A j = g)) w n = j := by
                  intro q
                  have := (kth_in (P := fun j => decide (A j = g)) (n := n) (by omega) hw).2.2
                  rw [q] at this
                  exact cw this.symm
                refine hq z1 f1 c1 (fun i hi2 => ?_) c3
                rw [c2 i hi2]
                by_cases ei : i = kth (fun j => decide (A j = g)) w n
                · have : (i < j + 1) = (i < j) := propext ⟨fun q => by omega, fun q => by omega⟩
                  simp only [this]
                · simp only [ei, and_false]
            · rw [if_neg (fun q => ca ((nC_eq (hA j (by omega)).1 (by omega)).1 q))]
              rw [if_neg (by simpa using ca)] at hq
              have ek : ¬ kth (fun j => decide (A j = g)) w n = j := by
                intro q
                have := (kth_in (P := fun j => decide (A j = g)) (n := n) (by omega) hw).2.1
                rw [q] at this
                exact ca (by simpa using this)
              refine hq z1 f1 c1 (fun i hi2 => ?_) c3
              rw [c2 i hi2]
              by_cases ei : i = kth (fun j => decide (A j = g)) w n
              · have : (i < j + 1) = (i < j) := propext ⟨fun q => by omega, fun q => by omega⟩
                simp only [this]
              · simp only [ei, and_false]
        have := lq n 0 (by omega) z0 f0 e2 (fun i hi2 => by rw [b2 i hi2]; simp only [Nat.not_lt_zero, false_and, if_false]) b3
        rw [q_cn, show Int32.ofNat w - Int32.ofNat 0 = Int32.ofNat w from Int32.sub_zero _] at this
        exact this
      have keep : sP n cu A (sC n cu A s g) g = sC n cu A s g → (lm_W (d + 1) 254 90 [some (.ref 92), none, some (.int (Int32.ofNat (5 * e))), some (.int (Int32.ofNat (g + 1))), none, none, none] [] z (lm_kI K)) := by
        intro es
        rw [es] at hi
        exact hi z hf a1 a2 a3
      refine b_254_90 _ _ hlz ?_
      rw [z94, H.2.2.2.2.1, if_pos (by rw [q_lt (by omega) (by omega)]; omega)]
      have lr : ∀ q j : Nat, q + j = n → (lm_W (d + 1) 254 104 [some (.ref 92), none, some (.int (Int32.ofNat (5 * e))), some (.int (Int32.ofNat g)), some (.int (Int32.ofNat (q_cn (fun j => decide (A j = g)) j))), some (.int (Int32.ofNat j)), none] [] z (lm_kI K)) := by
        intro q
        induction q with
        | zero =>
          intro j hj
          have ej : j = n := by omega
          rw [ej]
          refine b_254_104 _ _ _ _ hlz ?_
          rw [z94, H.2.2.2.1, if_neg (by rw [q_lt (by omega) (by omega)]; omega), H.2.2.2.2.2.1, q_a1]
          simp only [q_1l (a := q_cn (fun j => decide (A j = g)) n) (by omega), q_e0 (a := q_cn (fun j => decide (A j = g)) n) (by omega)]
          by_cases c0 : q_cn (fun j => decide (A j = g)) n = 0
          · rw [if_pos c0]
            exact keep (by rw [sP, if_pos (Or.inl c0)])
          rw [if_neg c0]
          by_cases c1 : 1 < q_cn (fun j => decide (A j = g)) n
          · simp only [if_pos c1]
            by_cases cu0 : cu = 0
            · rw [if_pos cu0]
              exact keep (by rw [sP, if_pos (Or.inr ⟨c1, cu0⟩)])
            rw [if_neg cu0]
            by_cases cu2 : cu = 2
            · rw [if_pos cu2]
              have es : sP n cu A (sC n cu A s g) g = (fun j => if j = kth (fun j => decide (A j = g)) (dr (sC n cu A s g).2 % q_cn (fun j => decide (A j = g)) n) n then g else (sC n cu A s g).1 j, dr (sC n cu A s g).2) := by
                rw [sP, if_neg (by rintro (q | q); exact c0 q; exact cu0 q.2), if_pos ⟨c1, cu2⟩]
              refine cl_252 (by omega) hlz hsp.1 (by omega) (by omega) a1 ?_
              refine fin _ _ (fr_s92 hf (by decide) _) (fun j hj => ?_) (fun j hj => ?_) (Nat.mod_lt _ (by omega)) (by rw [es]) ?_
              · rw [pi_si, if_neg (by decide)]; exact a2 j hj
              · rw [pi_si, if_neg (by decide)]; exact a3 j hj
              · rw [pi_si, if_pos rfl, if_pos rfl, es]
            · rw [if_neg cu2]
              have es : sP n cu A (sC n cu A s g) g = (fun j => if j = kth (fun j => decide (A j = g)) 0 n then g else (sC n cu A s g).1 j, (sC n cu A s g).2) := by
                rw [sP, if_neg (by rintro (q | q); exact c0 q; exact cu0 q.2), if_neg (fun q => cu2 q.2)]
              exact fin z 0 hf a2 a3 (by omega) (by rw [es]) (by rw [es]; exact a1)
          · simp only [if_neg c1]
            have es : sP n cu A (sC n cu A s g) g = (fun j => if j = kth (fun j => decide (A j = g)) 0 n then g else (sC n cu A s g).1 j, (sC n cu A s g).2) := by
              rw [sP, if_neg (by rintro (q | q); exact c0 q; exact c1 q.1), if_neg (fun q => c1 q.1)]
            exact fin z 0 hf a2 a3 (by omega) (by rw [es]) (by rw [es]; exact a1)
        | succ q ihq =>
          intro j hj
          have hq := ihq (j + 1) (by omega)
          rw [q_cn] at hq
          refine b_254_104 _ _ _ _ hlz ?_
          rw [z94, H.2.2.2.1, if_pos (by rw [q_lt (by omega) (by omega)]; omega), q_add, q_in (by omega) (by omega), q_nat (by omega), z115, (hA j (by omega)).2, q_a1 j]
          by_cases ca : A j = g
          · rw [if_pos ((nC_eq (hA j (by omega)).1 (by omega)).2 ca), q_a1]
            rw [if_pos (by simpa using ca)] at hq
            exact hq
          · rw [if_neg (fun q => ca ((nC_eq (hA j (by omega)).1 (by omega)).1 q)), Int32.add_zero]
            rw [if_neg (by simpa using ca)] at hq
            exact hq
      exact lr n 0 (by omega)
  exact lp m 0 (by omega) h (fr_refl _ _ _) h57 (fun j hj => by rw [hC j hj]; rfl) (fun _ _ => rfl)
