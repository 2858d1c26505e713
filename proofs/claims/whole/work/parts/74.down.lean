/-! The year: an evening is written down (95; 255, and 254 from 258 on). -/
def gV (lo : Int32) (W : Nat → Int32) (C : Nat → Nat) (k : Nat) : Int32 := 60 * (if C k = 6 then lo else W (6 * k + C k))
/-- how many others than k ask g -/
def uQ (A : Nat → Nat) (n k g : Nat) : Nat := q_cn (fun j => decide (A j = g) && !decide (j = k)) n
def yw (h z : lm_H) (e x n m : Nat) (lo : Int32) (W : Nat → Int32) (A C : Nat → Nat) : Prop :=
  (∀ j, j < x → lm_i z 64 (e * 5 + j) = Int32.ofNat (A j) ∧ lm_i z 65 (e * 5 + j) = Int32.ofNat (C j) ∧ lm_i z 70 j = Int32.ofNat (A j) ∧ lm_i z 72 j = gV lo W C j) ∧
  (∀ j, j < n → lm_i z 66 j = lm_i h 66 j + (if j < x then gV lo W C j else 0)) ∧
  (∀ j, j < e * 5 → lm_i z 64 j = lm_i h 64 j ∧ lm_i z 65 j = lm_i h 65 j) ∧
  (∀ j, j < n → ∀ g, g < m → lm_i z 67 (j * 6 + g) = lm_i h 67 (j * 6 + g) + (if j < x ∧ C j = g then 1 else 0))
def us (c : Nat) (h z : lm_H) (n m : Nat) (A : Nat → Nat) (x y : Nat) : Prop := ∀ j, j < n → ∀ g, g < m → lm_i z c (j * 6 + g) = lm_i h c (j * 6 + g) + (if (j < x ∨ j = x ∧ g < y) ∧ uQ A n j g = 0 then 1 else 0)
theorem us_nx {c : Nat} {h z : lm_H} {n m : Nat} {A : Nat → Nat} {x : Nat} (H : us c h z n m A x m) : us c h z n m A (x + 1) 0 := by
  intro j hj g hg
  rw [H j hj g hg]
  have : (j < x ∨ j = x ∧ g < m) = (j < x + 1 ∨ j = x + 1 ∧ g < 0) := propext ⟨fun q => by omega, fun q => by omega⟩
  simp only [this]
theorem us_one {c : Nat} {h z : lm_H} {n m : Nat} {A : Nat → Nat} {x y : Nat} (h6 : m ≤ 6) (hy : y < m) (H : us c h z n m A x y) (v : Int32) (hv : v = lm_i z c (x * 6 + y) + (if uQ A n x y = 0 then 1 else 0)) : us c h (lm_si z c (x * 6 + y) v) n m A x (y + 1) := by
  intro j hj g hg
  rw [pi_si, if_pos rfl]
  by_cases e : j * 6 + g = x * 6 + y
  · have e1 : j = x := by omega
    have e2 : g = y := by omega
    rw [if_pos e, hv, e1, e2, H x (by omega) y hy]
    have h1 : ¬ ((x < x ∨ x = x ∧ y < y) ∧ uQ A n x y = 0) := fun q => by omega
    rw [if_neg h1, Int32.add_zero]
    by_cases hu : uQ A n x y = 0
    · rw [if_pos hu, if_pos ⟨by omega, hu⟩]
    · rw [if_neg hu, if_neg (fun q => hu q.2)]
  · rw [if_neg e, H j hj g hg]
    have : (j < x ∨ j = x ∧ g < y) = (j < x ∨ j = x ∧ g < y + 1) := propext ⟨fun q => by omega, fun q => by omega⟩
    simp only [this]
theorem us_keep {c : Nat} {h z : lm_H} {n m : Nat} {A : Nat → Nat} {x y : Nat} (hu : ¬ uQ A n x y = 0) (H : us c h z n m A x y) : us c h z n m A x (y + 1) := by
  intro j hj g hg
  rw [H j hj g hg]
  by_cases e : j = x ∧ g = y
  · rw [if_neg (fun q => hu (by rw [← e.1, ← e.2]; exact q.2)), if_neg (fun q => hu (by rw [← e.1, ← e.2]; exact q.2))]
  · have : (j < x ∨ j = x ∧ g < y) = (j < x ∨ j = x ∧ g < y + 1) := propext ⟨fun q => by omega, fun q => by omega⟩
    simp only [this]
/-- did a host dine alone -/
def ln (C : Nat → Nat) (x : Nat) : Int32 := if q_cn (fun j => decide (C j = 6)) x = 0 then 0 else 1
theorem ln_01 (C : Nat → Nat) (x : Nat) : ln C x = 0 ∨ ln C x = 1 := by
  unfold ln
  split
  · exact Or.inl rfl
  · exact Or.inr rfl
theorem ln_6 {C : Nat → Nat} {x : Nat} (h : C x = 6) : ln C (x + 1) = 1 := by
  unfold ln
  have e : q_cn (fun j => decide (C j = 6)) (x + 1) = q_cn (fun j => decide (C j = 6)) x + 1 := by rw [q_cn, if_pos (by simpa using h)]
  rw [e, if_neg (by omega)]
theorem ln_n {C : Nat → Nat} {x : Nat} (h : ¬ C x = 6) : ln C (x + 1) = ln C x := by
  unfold ln
  have e : q_cn (fun j => decide (C j = 6)) (x + 1) = q_cn (fun j => decide (C j = 6)) x := by rw [q_cn, if_neg (by simpa using h), Nat.add_zero]
  rw [e]
theorem cl_95 {D n m e : Nat} {h : lm_H} {K : Int32 → lm_H → Prop} {cu lo : Int32} {W B : Nat → Int32} {A C : Nat → Nat} (hD : 3 ≤ D) (H : ct h 59 n m cu lo W B) (hn : lm_i h 58 5 = Int32.ofNat n) (he : e < 40) (hA : ca h 69 n A) (hA6 : ∀ j, j < n → A j ≤ 6) (hC : ∀ j, j < n → (C j < m ∨ C j = 6) ∧ lm_i h 71 j = Int32.ofNat (C j))
    (hK : ∀ h', fr [64, 65, 66, 67, 68, 70, 72] [] h h' → yw h h' e n n m lo W A C → us 68 h h' n m A n 0 → K (ln C n) h') : lm_call D 95 [.ref 58, .int (Int32.ofNat e)] h (lm_kI K) := by
  obtain ⟨d, rfl⟩ := q_dp hD
  have h5 := H.2.1
  have h6 := H.2.2.1
  refine e_95 _ H.1 ?_
  have lp : ∀ r x : Nat, r + x = n → ∀ z, fr [64, 65, 66, 67, 68, 70, 72] [] h z → yw h z e x n m lo W A C → us 68 h z n m A x 0 → (lm_W ((d + 1) + 1) 95 4 [some (.ref 58), some (.int (Int32.ofNat e)), some (.int (ln C x)), some (.int (Int32.ofNat x)), none, none] [] z (lm_kI K)) := by
    intro r
    induction r with
    | zero =>
      intro x hx z hf y1 y2
      have ex : x = n := by omega
      rw [ex] at y1 y2 ⊢
      refine b_95_4 _ _ _ (fr_Lay hf H.1) ?_
      rw [fr_i hf (by decide) (by decide), hn, if_neg (by rw [q_lt (by omega) (by omega)]; omega)]
      exact ⟨q_b1or _ (ln_01 C n), hK z hf y1 y2⟩
    | succ r ih =>
      intro x hx z hf y1 y2
      -- the inner loop
      have lq : ∀ q y : Nat, q + y = m → ∀ z, fr [64, 65, 66, 67, 68, 70, 72] [] h z → yw h z e (x + 1) n m lo W A C → us 68 h z n m A x y → (lm_W ((d + 1) + 1) 95 128 [some (.ref 58), some (.int (Int32.ofNat e)), some (.int (ln C (x + 1))), some (.int (Int32.ofNat x)), none, some (.int (Int32.ofNat y))] [] z (lm_kI K)) := by
        intro q
        induction q with
        | zero =>
          intro y hy z hf y1 y2
          have ey : y = m := by omega
          rw [ey] at y2 ⊢
          refine b_95_128 _ _ _ _ (fr_Lay hf H.1) ?_
          rw [fr_i hf (by decide) (by decide), H.2.2.2.2.1, if_neg (by rw [q_lt (by omega) (by omega)]; omega), q_a1]
          exact ih (x + 1) (by omega) z hf y1 (us_nx y2)
        | succ q ihq =>
          intro y hy z hf y1 y2
          have hlz := fr_Lay hf H.1
          have z59 := fr_i hf (c := 59) (by decide) (by decide)
          have z69 := fr_i hf (c := 69) (by decide) (by decide)
          refine b_95_128 _ _ _ _ hlz ?_
          rw [z59, H.2.2.2.2.1, if_pos (by rw [q_lt (by omega) (by omega)]; omega), q_a1]
          refine cm_67y (by omega) hlz (by rw [z59]; exact H.2.2.2.1) h5 (fun j hj => by rw [z69]; exact hA j hj) hA6 (by omega) ?_
          rw [q_clr h5 (by omega)]
          have hz := q_z_mk (fun j => decide (A j = y) && !decide (j = x)) (n := n) (by omega)
          by_cases cq : uQ A n x y = 0
          · rw [if_pos (hz.2 cq), q_m6, q_add, q_in (by omega) (by omega), q_in (by omega) (by omega), q_nat (by omega)]
            refine ihq (y + 1) (by omega) _ (fr_si hf (by decide) (by decide) _ _) ?_ (us_one h6 (by omega) y2 _ (by rw [if_pos cq]))
            unfold yw
            simp only [pi_si, Nat.reduceEqDiff, if_false]
            exact y1
          · rw [if_neg (fun q => cq (hz.1 q))]
            exact ihq (y + 1) (by omega) z hf y1 (us_keep cq y2)
      have hlz := fr_Lay hf H.1
      have hcx := hC x (by omega)
      have z71 : lm_i z 71 x = Int32.ofNat (C x) := by rw [fr_i hf (by decide) (by decide)]; exact hcx.2
      have z69 : lm_i z 69 x = Int32.ofNat (A x) := by rw [fr_i hf (by decide) (by decide)]; exact hA x (by omega)
      have z60 : lm_i z 60 (x * 7 + C x) = if C x = 6 then lo else W (6 * x + C x) := by rw [fr_i hf (by decide) (by decide)]; exact ct_w H (by omega) hcx.1
      have eG : 60 * (if C x = 6 then lo else W (6 * x + C x)) = gV lo W C x := rfl
      refine b_95_4 _ _ _ hlz ?_
      rw [fr_i hf (c := 58) (by decide) (by decide), hn, if_pos (by rw [q_lt (by omega) (by omega)]; omega), q_m5, q_add, q_m7, q_m6]
      rw [q_nat (by omega), z71, q_add, q_add, q_nat (by omega), q_nat (by omega), q_nat (by omega), z60, eG, z69]
      simp only [q_e6 (a := C x) (by omega)]
      refine p_inN (by omega) (by omega) (p_inN (by omega) (by omega) (p_inN (by omega) (by omega) (p_inN (by omega) (by omega) (p_inN (by omega) (by omega) (p_inN (by omega) (by omega) (p_inN (by omega) (by omega) (p_inN (by omega) (by omega) (p_inN (by omega) (by omega) (p_inN (by omega) (by omega) (p_inN (by omega) (by omega) ?_))))))))))
      obtain ⟨w1, w2, w3, w4⟩ := y1
      -- what the five writes leave
      have ym : ∀ z1, (∀ j, lm_i z1 64 j = if j = e * 5 + x then Int32.ofNat (A x) else lm_i z 64 j) → (∀ j, lm_i z1 65 j = if j = e * 5 + x then Int32.ofNat (C x) else lm_i z 65 j) → (∀ j, lm_i z1 70 j = if j = x then Int32.ofNat (A x) else lm_i z 70 j) → (∀ j, lm_i z1 72 j = if j = x then gV lo W C x else lm_i z 72 j) → (∀ j, lm_i z1 66 j = if j = x then lm_i z 66 x + gV lo W C x else lm_i z 66 j) → (∀ j, j < n → ∀ g, g < m → lm_i z1 67 (j * 6 + g) = lm_i z 67 (j * 6 + g) + (if j = x ∧ C x = g then 1 else 0)) → yw h z1 e (x + 1) n m lo W A C := by
        intro z1 a1 a2 a3 a4 a5 a6
        refine ⟨fun j hj => ?_, fun j hj => ?_, fun j hj => ?_, fun j hj g hg => ?_⟩
        · rw [a1, a2, a3, a4]
          by_cases ej : j = x
          · rw [ej]
            simp only [if_true, and_self]
          · rw [if_neg (by omega), if_neg (by omega), if_neg ej, if_neg ej]
            exact w1 j (by omega)
        · rw [a5]
          by_cases ej : j = x
          · rw [if_pos ej, ej, w2 x (by omega), if_neg (by omega), if_pos (by omega), Int32.add_zero]
          · rw [if_neg ej, w2 j hj]
            have : (j < x) = (j < x + 1) := propext ⟨fun q => by omega, fun q => by omega⟩
            simp only [this]
        · rw [a1, a2, if_neg (by omega), if_neg (by omega)]
          exact w3 j hj
        · rw [a6 j hj g hg, w4 j hj g hg]
          by_cases ej : j = x
          · rw [ej]
            have h1 : ¬ (x < x ∧ C x = g) := fun q => by omega
            have h2 : (x < x + 1 ∧ C x = g) = (x = x ∧ C x = g) := propext ⟨fun q => ⟨rfl, q.2⟩, fun q => ⟨by omega, q.2⟩⟩
            simp only [h1, h2, if_false, Int32.add_zero]
          · have h1 : ¬ (j = x ∧ C x = g) := fun q => ej q.1
            have h2 : (j < x ∧ C j = g) = (j < x + 1 ∧ C j = g) := propext ⟨fun q => ⟨by omega, q.2⟩, fun q => ⟨by omega, q.2⟩⟩
            simp only [h1, h2, if_false, Int32.add_zero]
      have us0 : ∀ z1, lm_i z1 68 = lm_i z 68 → us 68 h z1 n m A x 0 := fun z1 q j hj g hg => by rw [q]; exact y2 j hj g hg
      by_cases c6 : C x = 6
      · rw [if_pos c6]
        have hq := lq m 0 (by omega)
        rw [ln_6 c6] at hq
        refine hq _ (fr_si (fr_si (fr_si (fr_si (fr_si hf (by decide) (by decide) _ _) (by decide) (by decide) _ _) (by decide) (by decide) _ _) (by decide) (by decide) _ _) (by decide) (by decide) _ _) (ym _ (fun j => ?_) (fun j => ?_) (fun j => ?_) (fun j => ?_) (fun j => ?_) (fun j hj g hg => ?_)) (us0 _ ?_)
        · simp only [pi_si, Nat.reduceEqDiff, if_true, if_false]
        · simp only [pi_si, Nat.reduceEqDiff, if_true, if_false]
        · simp only [pi_si, Nat.reduceEqDiff, if_true, if_false]
        · simp only [pi_si, Nat.reduceEqDiff, if_true, if_false]
        · simp only [pi_si, Nat.reduceEqDiff, if_true, if_false]
        · simp only [pi_si, Nat.reduceEqDiff, if_true, if_false]
          rw [if_neg (by omega), Int32.add_zero]
        · funext j
          simp only [pi_si, Nat.reduceEqDiff, if_false]
      · rw [if_neg c6]
        have hq := lq m 0 (by omega)
        rw [ln_n c6] at hq
        refine p_inN (by omega) (by omega) (p_inN (by omega) (by omega) ?_)
        refine hq _ (fr_si (fr_si (fr_si (fr_si (fr_si (fr_si hf (by decide) (by decide) _ _) (by decide) (by decide) _ _) (by decide) (by decide) _ _) (by decide) (by decide) _ _) (by decide) (by decide) _ _) (by decide) (by decide) _ _) (ym _ (fun j => ?_) (fun j => ?_) (fun j => ?_) (fun j => ?_) (fun j => ?_) (fun j hj g hg => ?_)) (us0 _ ?_)
        · simp only [pi_si, Nat.reduceEqDiff, if_true, if_false]
        · simp only [pi_si, Nat.reduceEqDiff, if_true, if_false]
        · simp only [pi_si, Nat.reduceEqDiff, if_true, if_false]
        · simp only [pi_si, Nat.reduceEqDiff, if_true, if_false]
        · simp only [pi_si, Nat.reduceEqDiff, if_true, if_false]
        · simp only [pi_si, Nat.reduceEqDiff, if_true, if_false]
          have hcl : C x < m := by omega
          by_cases ej : j * 6 + g = x * 6 + C x
          · have e1 : j = x := by omega
            have e2 : C x = g := by omega
            rw [if_pos ej, if_pos ⟨e1, e2⟩, ej]
          · rw [if_neg ej, if_neg (fun q => ej (by rw [q.1, q.2])), Int32.add_zero]
        · funext j
          simp only [pi_si, Nat.reduceEqDiff, if_false]
  exact lp n 0 (by omega) h (fr_refl _ _ _) ⟨fun j hj => by omega, fun j hj => by rw [if_neg (by omega), Int32.add_zero], fun j hj => ⟨rfl, rfl⟩, fun j hj g hg => by rw [if_neg (by omega), Int32.add_zero]⟩ (fun j hj g hg => by rw [if_neg (by omega), Int32.add_zero])
