/-! Walks: the class. -/
def wA (w : Nat → Bool) (B : Nat → Int32) (m : Nat) (p F : Nat → Nat) (j : Nat) : Nat := if w j then chF B j m (p j) else F j
def cc (B : Nat → Int32) (m j : Nat) : Nat := q_ci B j m + 1
/-- a walk's rows: asks a, picks q, askers k -/
def wk (h : lm_H) (a q k n : Nat) (w : Nat → Bool) (B : Nat → Int32) (m : Nat) (p F : Nat → Nat) : Prop :=
  (∀ j, j < n → lm_i h q j = Int32.ofNat (p j) ∧ lm_i h a j = Int32.ofNat (wA w B m p F j)) ∧ (∀ c, c ≤ 6 → lm_i h k c = q_mk (fun j => decide (wA w B m p F j = c)) n) ∧ (∀ j, j < n → w j = true → p j < cc B m j) ∧ ∀ j, j < n → F j ≤ 6
theorem wA_le {w : Nat → Bool} {B : Nat → Int32} {m n : Nat} {p F : Nat → Nat} (h6 : m ≤ 6) (hp : ∀ j, j < n → w j = true → p j < cc B m j) (hF : ∀ j, j < n → F j ≤ 6) {j : Nat} (hj : j < n) : wA w B m p F j ≤ 6 := by
  unfold wA
  by_cases e : w j = true
  · rw [if_pos e]
    have := chF_ok (hp j hj e)
    omega
  · rw [if_neg e]
    exact hF j hj
theorem wA_up {w : Nat → Bool} {B : Nat → Int32} {m x v : Nat} {p F : Nat → Nat} (hw : w x = true) (j : Nat) : wA w B m (fun j => if j = x then v else p j) F j = if j = x then chF B x m v else wA w B m p F j := by
  unfold wA
  by_cases e : j = x
  · subst e
    simp only [hw, if_true]
  · simp only [e, if_false]
theorem wA_c {w : Nat → Bool} {B : Nat → Int32} {m n : Nat} {p q F : Nat → Nat} (h : ∀ j, j < n → p j = q j) {j : Nat} (hj : j < n) : wA w B m p F j = wA w B m q F j := by
  unfold wA
  rw [h j hj]
/-- the frame of a walk: of the asks a nothing beyond n -/
def fw (n a : Nat) (S : List Nat) (h h' : lm_H) : Prop := fr S [] h h' ∧ ∀ j, n ≤ j → lm_i h' a j = lm_i h a j
theorem fw_sn {n a c : Nat} {S : List Nat} {h h1 : lm_H} (q : fw n a S h h1) (hc : S.contains c = true) (hn : ¬ c = 92) (ha : ¬ a = c) (k : Nat) (v : Int32) : fw n a S h (lm_si h1 c k v) :=
  ⟨fr_si q.1 hc hn k v, fun j hj => by rw [pi_si, if_neg ha]; exact q.2 j hj⟩
theorem fw_sa {n a : Nat} {S : List Nat} {h h1 : lm_H} (q : fw n a S h h1) (hc : S.contains a = true) (hn : ¬ a = 92) {k : Nat} (hk : k < n) (v : Int32) : fw n a S h (lm_si h1 a k v) :=
  ⟨fr_si q.1 hc hn k v, fun j hj => by rw [pi_si, if_pos rfl, if_neg (by omega)]; exact q.2 j hj⟩
/-- the walkers' mask -/
def wm (x : Int32) (j : Nat) : Bool := decide (((x >>> (Int32.ofNat j &&& 31)) &&& 1) = 1)
theorem q_p1 (x : Nat) : Int32.ofNat (x + 1) - 1 = Int32.ofNat x := by
  rw [q_s1 (by omega)]
  rfl
theorem lp_81 {d n m : Nat} {h0 : lm_H} {K : lm_H → Prop} {cu lo : Int32} {W B : Nat → Int32} {F : Nat → Nat} {z : Int32} (h5 : n ≤ 5) (h6 : m ≤ 6) : ∀ x, x ≤ n → ∀ p h, fw n 27 [27, 28, 29] h0 h → ct h 21 n m cu lo W B → wk h 27 28 29 n (wm z) B m p F → (∀ h', fw n 27 [27, 28, 29] h0 h' → wk h' 27 28 29 n (wm z) B m (wS (wm z) (cc B m) x p) F → K h') → (lm_W (d + 1) 81 7 [some (.ref 26), some (.ref 21), some (.int z), some (.int (Int32.ofNat x - 1)), none] [] h (lm_kV K)) := by
  intro x
  induction x with
  | zero =>
    intro _ p h hf H hk hK
    refine b_81_7 _ _ H.1 ?_
    rw [if_pos (by decide)]
    exact hK h hf hk
  | succ x ih =>
    intro hx p h hf H hk hK
    rw [q_p1]
    refine b_81_7 _ _ H.1 ?_
    rw [if_neg (by rw [q_lt0 (by omega)]; exact id)]
    have H' := H
    obtain ⟨k1, k2, k3, k4⟩ := hk
    have hcx : lm_i h 25 x = Int32.ofNat (cc B m x) := (H.2.2.2.2.2.2.2.2 x (by omega)).2.2.1
    have hle : cc B m x ≤ 7 := by unfold cc; have := q_ci_le B x m; omega
    by_cases c : wm z x = true
    · have c' : ((z >>> (Int32.ofNat x &&& 31)) &&& 1) = 1 := by simpa [wm] using c
      have hpx := k3 x (by omega) c
      have hAx := wA_le (F := F) h6 k3 k4 (j := x) (by omega)
      rw [if_pos c']
      simp (disch := omega) only [q_add, q_mul, q_m7, q_m6, q_6m, q_7m, q_a1, q_5m, q_m5, q_71, q_11, q_87, q_41, q_76, q_5a, q_0a, q_a6, q_nat, q_in, q_lt, q_eq, q_lt0, if_true, if_false, (k1 x (by omega)).1, (k1 x (by omega)).2, hcx]
      -- what a move to pick v leaves
      have mv : ∀ v, v < cc B m x → ∀ h2, fw n 27 [27, 28, 29] h0 h2 → (∀ j, lm_i h2 28 j = if j = x then Int32.ofNat v else lm_i h 28 j) → (∀ j, lm_i h2 27 j = if j = x then Int32.ofNat (chF B x m v) else lm_i h 27 j) →
          (∀ c, lm_i h2 29 c = if c = chF B x m v then ((if chF B x m v = wA (wm z) B m p F x then lm_i h 29 (wA (wm z) B m p F x) &&& (((1 : Int32) <<< (Int32.ofNat x &&& 31)) ^^^ (-1)) else lm_i h 29 (chF B x m v)) ||| ((1 : Int32) <<< (Int32.ofNat x &&& 31))) else if c = wA (wm z) B m p F x then lm_i h 29 (wA (wm z) B m p F x) &&& (((1 : Int32) <<< (Int32.ofNat x &&& 31)) ^^^ (-1)) else lm_i h 29 c) →
          wk h2 27 28 29 n (wm z) B m (fun j => if j = x then v else p j) F := by
        intro v hv h2 _ m1 m2 m3
        have hvo := chF_ok (B := B) (k := x) (m := m) (i := v) hv
        refine ⟨fun j hj => ?_, fun e he => ?_, fun j hj hwj => ?_, k4⟩
        · rw [m1, m2, wA_up c]
          by_cases ej : j = x
          · simp only [ej, if_true, and_self]
          · simp only [ej, if_false]
            exact k1 j hj
        · rw [m3, q_move (A := wA (wm z) B m p F) (K := lm_i h 29) h5 (by omega) hAx (by omega) k2 e he]
          exact q_mk_c (fun j _ => by rw [wA_up c])
        · simp only
          by_cases ej : j = x
          · rw [if_pos ej, ej]
            exact hv
          · rw [if_neg ej]
            exact k3 j hj hwj
      by_cases c2 : p x + 1 < cc B m x
      · have hch : lm_i h 24 (x * 7 + (p x + 1)) = Int32.ofNat (chF B x m (p x + 1)) := ct_ch H (by omega) c2
        have hvo := chF_ok (B := B) (k := x) (m := m) (i := p x + 1) c2
        rw [if_pos c2]
        simp (disch := omega) only [q_add, q_mul, q_m7, q_m6, q_6m, q_7m, q_a1, q_5m, q_m5, q_71, q_11, q_87, q_41, q_76, q_5a, q_0a, q_a6, q_nat, q_in, q_lt, q_eq, q_lt0, if_true, if_false, hch]
        rw [wS, if_pos c, if_pos c2] at hK
        refine hK _ (fw_sn (fw_sa (fw_sn (fw_sn hf (by decide) (by decide) (by decide) _ _) (by decide) (by decide) (by decide) _ _) (by decide) (by decide) (by omega) _) (by decide) (by decide) (by decide) _ _) (mv _ c2 _ (fw_sn (fw_sa (fw_sn (fw_sn hf (by decide) (by decide) (by decide) _ _) (by decide) (by decide) (by decide) _ _) (by decide) (by decide) (by omega) _) (by decide) (by decide) (by decide) _ _) (fun j => ?_) (fun j => ?_) (fun e => ?_))
        · simp only [pi_si, Nat.reduceEqDiff, if_true, if_false]
        · simp only [pi_si, Nat.reduceEqDiff, if_true, if_false]
        · simp only [pi_si, Nat.reduceEqDiff, if_true, if_false]
      · have hch : lm_i h 24 (x * 7 + 0) = Int32.ofNat (chF B x m 0) := ct_ch H (by omega) (by omega)
        have hvo := chF_ok (B := B) (k := x) (m := m) (i := 0) (by omega)
        rw [if_neg c2]
        have e0 : Int32.ofNat (x * 7) + 0 = Int32.ofNat (x * 7 + 0) := q_add _ 0
        rw [e0]
        simp (disch := omega) only [q_add, q_mul, q_m7, q_m6, q_6m, q_7m, q_a1, q_5m, q_m5, q_71, q_11, q_87, q_41, q_76, q_5a, q_0a, q_a6, q_nat, q_in, q_lt, q_eq, q_lt0, if_true, if_false, hch]
        rw [wS, if_pos c, if_neg c2] at hK
        refine ih (by omega) _ _ (fw_sn (fw_sa (fw_sn (fw_sn hf (by decide) (by decide) (by decide) _ _) (by decide) (by decide) (by decide) _ _) (by decide) (by decide) (by omega) _) (by decide) (by decide) (by decide) _ _) (ct_si (ct_si (ct_si (ct_si H (by decide) _ _) (by decide) _ _) (by decide) _ _) (by decide) _ _) (mv 0 (by unfold cc; omega) _ (fw_sn (fw_sa (fw_sn (fw_sn hf (by decide) (by decide) (by decide) _ _) (by decide) (by decide) (by decide) _ _) (by decide) (by decide) (by omega) _) (by decide) (by decide) (by decide) _ _) (fun j => ?_) (fun j => ?_) (fun e => ?_)) hK
        · simp only [pi_si, Nat.reduceEqDiff, if_true, if_false]
          rfl
        · simp only [pi_si, Nat.reduceEqDiff, if_true, if_false]
        · simp only [pi_si, Nat.reduceEqDiff, if_true, if_false]
    · rw [if_neg (by simpa [wm] using c)]
      rw [wS, if_neg c] at hK
      exact ih (by omega) p h hf H ⟨k1, k2, k3, k4⟩ hK
theorem cl_81 {D n m : Nat} {h : lm_H} {K : lm_H → Prop} {cu lo : Int32} {W B : Nat → Int32} {p F : Nat → Nat} {z : Int32} (hD : 2 ≤ D) (H : ct h 21 n m cu lo W B) (hk : wk h 27 28 29 n (wm z) B m p F) (hK : ∀ h', fw n 27 [27, 28, 29] h h' → wk h' 27 28 29 n (wm z) B m (wS (wm z) (cc B m) n p) F → K h') : lm_call D 81 [.ref 26, .ref 21, .int z] h (lm_kV K) := by
  obtain ⟨d, rfl⟩ := q_dp hD
  refine e_81 _ H.1 ?_
  rw [H.2.2.2.1]
  exact lp_81 (h0 := h) H.2.1 H.2.2.1 n (Nat.le_refl n) p h ⟨fr_refl _ _ _, fun _ _ => rfl⟩ H hk hK
theorem lp_80 {d n m : Nat} {h0 : lm_H} {K : Int32 → lm_H → Prop} {cu lo : Int32} {W B : Nat → Int32} {F : Nat → Nat} {z : Int32} (h5 : n ≤ 5) (h6 : m ≤ 6) (hF : ∀ j, j < n → F j ≤ 6) (hK : ∀ h', fw n 27 [27, 28, 29] h0 h' → wk h' 27 28 29 n (wm z) B m (fun _ => 0) F → K (Int32.ofNat (wN (wm z) (cc B m) n)) h') : ∀ r x, r + x = n → ∀ h, fw n 27 [27, 28, 29] h0 h → ct h 21 n m cu lo W B → (∀ j, j < x → lm_i h 28 j = Int32.ofNat 0 ∧ lm_i h 27 j = Int32.ofNat (wA (wm z) B m (fun _ => 0) F j)) → (∀ j, x ≤ j → j < n → lm_i h 73 j = Int32.ofNat (F j)) → (∀ c, c ≤ 6 → lm_i h 29 c = q_mk (fun j => decide (wA (wm z) B m (fun _ => 0) F j = c)) x) → (lm_W (d + 1) 80 14 [some (.ref 26), some (.ref 21), some (.ref 73), some (.int z), some (.int (Int32.ofNat (wN (wm z) (cc B m) x))), some (.int (Int32.ofNat x))] [] h (lm_kI K)) := by
  intro r
  induction r with
  | zero =>
    intro x hx h hf H k1 k2 k3
    have : x = n := by omega
    subst this
    refine b_80_14 _ _ _ H.1 ?_
    rw [H.2.2.2.1]
    simp (disch := omega) only [q_add, q_mul, q_m7, q_m6, q_6m, q_7m, q_a1, q_5m, q_m5, q_71, q_11, q_87, q_41, q_76, q_5a, q_0a, q_a6, q_nat, q_in, q_lt, q_eq, q_lt0, if_true, if_false]
    rw [if_neg (by omega)]
    exact hK h hf ⟨k1, k3, fun j hj _ => by show 0 < cc B m j; unfold cc; omega, hF⟩
  | succ r ih =>
    intro x hx h hf H k1 k2 k3
    have hcx : lm_i h 25 x = Int32.ofNat (cc B m x) := (H.2.2.2.2.2.2.2.2 x (by omega)).2.2.1
    have hfx := k2 x (Nat.le_refl x) (by omega)
    have hFx := hF x (by omega)
    have hN := ih (x + 1) (by omega)
    have hch : lm_i h 24 (x * 7 + 0) = Int32.ofNat (chF B x m 0) := ct_ch H (by omega) (by omega)
    have hvo := chF_ok (B := B) (k := x) (m := m) (i := 0) (by omega)
    have e0 : Int32.ofNat (x * 7) + 0 = Int32.ofNat (x * 7 + 0) := q_add _ 0
    refine b_80_14 _ _ _ H.1 ?_
    rw [H.2.2.2.1, q_m7, e0]
    simp (disch := omega) only [q_add, q_mul, q_m7, q_m6, q_6m, q_7m, q_a1, q_5m, q_m5, q_71, q_11, q_87, q_41, q_76, q_5a, q_0a, q_a6, q_nat, q_in, q_lt, q_eq, q_lt0, if_true, if_false, hcx, hfx, hch]
    rw [if_pos (by omega)]
    by_cases c : wm z x = true
    · have c' : ((z >>> (Int32.ofNat x &&& 31)) &&& 1) = 1 := by simpa [wm] using c
      have wx : wA (wm z) B m (fun _ => 0) F x = chF B x m 0 := by unfold wA; rw [if_pos c]
      rw [if_pos c']
      rw [wN, if_pos c] at hN
      refine hN _ (fw_sn (fw_sa (fw_sa (fw_sn hf (by decide) (by decide) (by decide) _ _) (by decide) (by decide) (by omega) _) (by decide) (by decide) (by omega) _) (by decide) (by decide) (by decide) _ _) (ct_si (ct_si (ct_si (ct_si H (by decide) _ _) (by decide) _ _) (by decide) _ _) (by decide) _ _) (fun j hj => ?_) (fun j h1 h2 => ?_) (fun e he => ?_)
      · simp only [pi_si, Nat.reduceEqDiff, if_true, if_false]
        by_cases ej : j = x
        · simp only [ej, if_true, wx]
          exact ⟨rfl, by first | rfl | trivial⟩
        · simp only [ej, if_false]
          exact k1 j (by omega)
      · simp only [pi_si, Nat.reduceEqDiff, if_true, if_false]
        have ej : ¬ j = x := by omega
        try simp only [ej, if_false]
        exact k2 j (by omega) h2
      · simp only [pi_si, Nat.reduceEqDiff, if_true, if_false]
        rw [q_mk, wx]
        by_cases ee : e = chF B x m 0
        · rw [if_pos ee, if_pos (by simp [ee]), k3 _ (by omega), ee]
        · rw [if_neg ee, if_neg (by simpa using fun q => ee q.symm), k3 e he]
    · have wx : wA (wm z) B m (fun _ => 0) F x = F x := by unfold wA; rw [if_neg c]
      rw [if_neg (by simpa [wm] using c)]
      rw [wN, if_neg c] at hN
      refine hN _ (fw_sn (fw_sa (fw_sn hf (by decide) (by decide) (by decide) _ _) (by decide) (by decide) (by omega) _) (by decide) (by decide) (by decide) _ _) (ct_si (ct_si (ct_si H (by decide) _ _) (by decide) _ _) (by decide) _ _) (fun j hj => ?_) (fun j h1 h2 => ?_) (fun e he => ?_)
      · simp only [pi_si, Nat.reduceEqDiff, if_true, if_false]
        by_cases ej : j = x
        · simp only [ej, if_true, wx]
          exact ⟨rfl, by first | rfl | exact hfx | trivial⟩
        · simp only [ej, if_false]
          exact k1 j (by omega)
      · simp only [pi_si, Nat.reduceEqDiff, if_true, if_false]
        have ej : ¬ j = x := by omega
        try simp only [ej, if_false]
        exact k2 j (by omega) h2
      · simp only [pi_si, Nat.reduceEqDiff, if_true, if_false]
        rw [q_mk, wx]
        by_cases ee : e = F x
        · rw [if_pos ee, if_pos (by simp [ee]), k3 _ (by omega), ee]
        · rw [if_neg ee, if_neg (by simpa using fun q => ee q.symm), k3 e he]
theorem cl_80 {D n m : Nat} {h : lm_H} {K : Int32 → lm_H → Prop} {cu lo : Int32} {W B : Nat → Int32} {F : Nat → Nat} {z : Int32} (hD : 2 ≤ D) (H : ct h 21 n m cu lo W B) (hF : ∀ j, j < n → F j ≤ 6) (ha : ca h 73 n F) (hK : ∀ h', fw n 27 [27, 28, 29] h h' → wk h' 27 28 29 n (wm z) B m (fun _ => 0) F → K (Int32.ofNat (wN (wm z) (cc B m) n)) h') : lm_call D 80 [.ref 26, .ref 21, .ref 73, .int z] h (lm_kI K) := by
  obtain ⟨d, rfl⟩ := q_dp hD
  refine e_80 _ H.1 ?_
  refine cl_270c29 (by omega) H.1 _ ?_
  have hf : fw n 27 [27, 28, 29] h (lm_row h 29 (fun j => if j < 7 then 0 else lm_i h 29 j)) := ⟨fr_row (fr_refl _ _ _) (by decide) (by decide) _, fun j _ => by rw [pi_row, if_neg (by decide)]⟩
  refine lp_80 (h0 := h) (cu := cu) (lo := lo) (W := W) H.2.1 H.2.2.1 hF hK n 0 (by omega) _ hf ?_ (fun j hj => by omega) (fun j _ hj => ?_) (fun c hc => ?_)
  · exact ct_fr (S := [29]) (T := []) (h := h) (fr_row (fr_refl _ _ _) (by decide) (by decide) _) H (by decide)
  · rw [pi_row, if_neg (by decide)]
    exact ha j hj
  · rw [pi_row, if_pos rfl, if_pos (by omega)]
    rfl
theorem lp_81s {d n m : Nat} {h0 : lm_H} {K : lm_H → Prop} {cu lo : Int32} {W B : Nat → Int32} {F : Nat → Nat} {z : Int32} (h5 : n ≤ 5) (h6 : m ≤ 6) : ∀ x, x ≤ n → ∀ p h, fw n 38 [38, 39, 40] h0 h → ct h 32 n m cu lo W B → wk h 38 39 40 n (wm z) B m p F → (∀ h', fw n 38 [38, 39, 40] h0 h' → wk h' 38 39 40 n (wm z) B m (wS (wm z) (cc B m) x p) F → K h') → (lm_W (d + 1) 81 7 [some (.ref 37), some (.ref 32), some (.int z), some (.int (Int32.ofNat x - 1)), none] [] h (lm_kV K)) := by
  intro x
  induction x with
  | zero =>
    intro _ p h hf H hk hK
    refine b_81s_7 _ _ H.1 ?_
    rw [if_pos (by decide)]
    exact hK h hf hk
  | succ x ih =>
    intro hx p h hf H hk hK
    rw [q_p1]
    refine b_81s_7 _ _ H.1 ?_
    rw [if_neg (by rw [q_lt0 (by omega)]; exact id)]
    have H' := H
    obtain ⟨k1, k2, k3, k4⟩ := hk
    have hcx : lm_i h 36 x = Int32.ofNat (cc B m x) := (H.2.2.2.2.2.2.2.2 x (by omega)).2.2.1
    have hle : cc B m x ≤ 7 := by unfold cc; have := q_ci_le B x m; omega
    by_cases c : wm z x = true
    · have c' : ((z >>> (Int32.ofNat x &&& 31)) &&& 1) = 1 := by simpa [wm] using c
      have hpx := k3 x (by omega) c
      have hAx := wA_le (F := F) h6 k3 k4 (j := x) (by omega)
      rw [if_pos c']
      simp (disch := omega) only [q_add, q_mul, q_m7, q_m6, q_6m, q_7m, q_a1, q_5m, q_m5, q_71, q_11, q_87, q_41, q_76, q_5a, q_0a, q_a6, q_nat, q_in, q_lt, q_eq, q_lt0, if_true, if_false, (k1 x (by omega)).1, (k1 x (by omega)).2, hcx]
      -- what a move to pick v leaves
      have mv : ∀ v, v < cc B m x → ∀ h2, fw n 38 [38, 39, 40] h0 h2 → (∀ j, lm_i h2 39 j = if j = x then Int32.ofNat v else lm_i h 39 j) → (∀ j, lm_i h2 38 j = if j = x then Int32.ofNat (chF B x m v) else lm_i h 38 j) →
          (∀ c, lm_i h2 40 c = if c = chF B x m v then ((if chF B x m v = wA (wm z) B m p F x then lm_i h 40 (wA (wm z) B m p F x) &&& (((1 : Int32) <<< (Int32.ofNat x &&& 31)) ^^^ (-1)) else lm_i h 40 (chF B x m v)) ||| ((1 : Int32) <<< (Int32.ofNat x &&& 31))) else if c = wA (wm z) B m p F x then lm_i h 40 (wA (wm z) B m p F x) &&& (((1 : Int32) <<< (Int32.ofNat x &&& 31)) ^^^ (-1)) else lm_i h 40 c) →
          wk h2 38 39 40 n (wm z) B m (fun j => if j = x then v else p j) F := by
        intro v hv h2 _ m1 m2 m3
        have hvo := chF_ok (B := B) (k := x) (m := m) (i := v) hv
        refine ⟨fun j hj => ?_, fun e he => ?_, fun j hj hwj => ?_, k4⟩
        · rw [m1, m2, wA_up c]
          by_cases ej : j = x
          · simp only [ej, if_true, and_self]
          · simp only [ej, if_false]
            exact k1 j hj
        · rw [m3, q_move (A := wA (wm z) B m p F) (K := lm_i h 40) h5 (by omega) hAx (by omega) k2 e he]
          exact q_mk_c (fun j _ => by rw [wA_up c])
        · simp only
          by_cases ej : j = x
          · rw [if_pos ej, ej]
            exact hv
          · rw [if_neg ej]
            exact k3 j hj hwj
      by_cases c2 : p x + 1 < cc B m x
      · have hch : lm_i h 35 (x * 7 + (p x + 1)) = Int32.ofNat (chF B x m (p x + 1)) := ct_ch H (by omega) c2
        have hvo := chF_ok (B := B) (k := x) (m := m) (i := p x + 1) c2
        rw [if_pos c2]
        simp (disch := omega) only [q_add, q_mul, q_m7, q_m6, q_6m, q_7m, q_a1, q_5m, q_m5, q_71, q_11, q_87, q_41, q_76, q_5a, q_0a, q_a6, q_nat, q_in, q_lt, q_eq, q_lt0, if_true, if_false, hch]
        rw [wS, if_pos c, if_pos c2] at hK
        refine hK _ (fw_sn (fw_sa (fw_sn (fw_sn hf (by decide) (by decide) (by decide) _ _) (by decide) (by decide) (by decide) _ _) (by decide) (by decide) (by omega) _) (by decide) (by decide) (by decide) _ _) (mv _ c2 _ (fw_sn (fw_sa (fw_sn (fw_sn hf (by decide) (by decide) (by decide) _ _) (by decide) (by decide) (by decide) _ _) (by decide) (by decide) (by omega) _) (by decide) (by decide) (by decide) _ _) (fun j => ?_) (fun j => ?_) (fun e => ?_))
        · simp only [pi_si, Nat.reduceEqDiff, if_true, if_false]
        · simp only [pi_si, Nat.reduceEqDiff, if_true, if_false]
        · simp only [pi_si, Nat.reduceEqDiff, if_true, if_false]
      · have hch : lm_i h 35 (x * 7 + 0) = Int32.ofNat (chF B x m 0) := ct_ch H (by omega) (by omega)
        have hvo := chF_ok (B := B) (k := x) (m := m) (i := 0) (by omega)
        rw [if_neg c2]
        have e0 : Int32.ofNat (x * 7) + 0 = Int32.ofNat (x * 7 + 0) := q_add _ 0
        rw [e0]
        simp (disch := omega) only [q_add, q_mul, q_m7, q_m6, q_6m, q_7m, q_a1, q_5m, q_m5, q_71, q_11, q_87, q_41, q_76, q_5a, q_0a, q_a6, q_nat, q_in, q_lt, q_eq, q_lt0, if_true, if_false, hch]
        rw [wS, if_pos c, if_neg c2] at hK
        refine ih (by omega) _ _ (fw_sn (fw_sa (fw_sn (fw_sn hf (by decide) (by decide) (by decide) _ _) (by decide) (by decide) (by decide) _ _) (by decide) (by decide) (by omega) _) (by decide) (by decide) (by decide) _ _) (ct_si (ct_si (ct_si (ct_si H (by decide) _ _) (by decide) _ _) (by decide) _ _) (by decide) _ _) (mv 0 (by unfold cc; omega) _ (fw_sn (fw_sa (fw_sn (fw_sn hf (by decide) (by decide) (by decide) _ _) (by decide) (by decide) (by decide) _ _) (by decide) (by decide) (by omega) _) (by decide) (by decide) (by decide) _ _) (fun j => ?_) (fun j => ?_) (fun e => ?_)) hK
        · simp only [pi_si, Nat.reduceEqDiff, if_true, if_false]
          rfl
        · simp only [pi_si, Nat.reduceEqDiff, if_true, if_false]
        · simp only [pi_si, Nat.reduceEqDiff, if_true, if_false]
    · rw [if_neg (by simpa [wm] using c)]
      rw [wS, if_neg c] at hK
      exact ih (by omega) p h hf H ⟨k1, k2, k3, k4⟩ hK
theorem cl_81s {D n m : Nat} {h : lm_H} {K : lm_H → Prop} {cu lo : Int32} {W B : Nat → Int32} {p F : Nat → Nat} {z : Int32} (hD : 2 ≤ D) (H : ct h 32 n m cu lo W B) (hk : wk h 38 39 40 n (wm z) B m p F) (hK : ∀ h', fw n 38 [38, 39, 40] h h' → wk h' 38 39 40 n (wm z) B m (wS (wm z) (cc B m) n p) F → K h') : lm_call D 81 [.ref 37, .ref 32, .int z] h (lm_kV K) := by
  obtain ⟨d, rfl⟩ := q_dp hD
  refine e_81s _ H.1 ?_
  rw [H.2.2.2.1]
  exact lp_81s (h0 := h) H.2.1 H.2.2.1 n (Nat.le_refl n) p h ⟨fr_refl _ _ _, fun _ _ => rfl⟩ H hk hK
theorem lp_80s {d n m : Nat} {h0 : lm_H} {K : Int32 → lm_H → Prop} {cu lo : Int32} {W B : Nat → Int32} {F : Nat → Nat} {z : Int32} (h5 : n ≤ 5) (h6 : m ≤ 6) (hF : ∀ j, j < n → F j ≤ 6) (hK : ∀ h', fw n 38 [38, 39, 40] h0 h' → wk h' 38 39 40 n (wm z) B m (fun _ => 0) F → K (Int32.ofNat (wN (wm z) (cc B m) n)) h') : ∀ r x, r + x = n → ∀ h, fw n 38 [38, 39, 40] h0 h → ct h 32 n m cu lo W B → (∀ j, j < x → lm_i h 39 j = Int32.ofNat 0 ∧ lm_i h 38 j = Int32.ofNat (wA (wm z) B m (fun _ => 0) F j)) → (∀ j, x ≤ j → j < n → lm_i h 38 j = Int32.ofNat (F j)) → (∀ c, c ≤ 6 → lm_i h 40 c = q_mk (fun j => decide (wA (wm z) B m (fun _ => 0) F j = c)) x) → (lm_W (d + 1) 80 14 [some (.ref 37), some (.ref 32), some (.ref 38), some (.int z), some (.int (Int32.ofNat (wN (wm z) (cc B m) x))), some (.int (Int32.ofNat x))] [] h (lm_kI K)) := by
  intro r
  induction r with
  | zero =>
    intro x hx h hf H k1 k2 k3
    have : x = n := by omega
    subst this
    refine b_80s_14 _ _ _ H.1 ?_
    rw [H.2.2.2.1]
    simp (disch := omega) only [q_add, q_mul, q_m7, q_m6, q_6m, q_7m, q_a1, q_5m, q_m5, q_71, q_11, q_87, q_41, q_76, q_5a, q_0a, q_a6, q_nat, q_in, q_lt, q_eq, q_lt0, if_true, if_false]
    rw [if_neg (by omega)]
    exact hK h hf ⟨k1, k3, fun j hj _ => by show 0 < cc B m j; unfold cc; omega, hF⟩
  | succ r ih =>
    intro x hx h hf H k1 k2 k3
    have hcx : lm_i h 36 x = Int32.ofNat (cc B m x) := (H.2.2.2.2.2.2.2.2 x (by omega)).2.2.1
    have hfx := k2 x (Nat.le_refl x) (by omega)
    have hFx := hF x (by omega)
    have hN := ih (x + 1) (by omega)
    have hch : lm_i h 35 (x * 7 + 0) = Int32.ofNat (chF B x m 0) := ct_ch H (by omega) (by omega)
    have hvo := chF_ok (B := B) (k := x) (m := m) (i := 0) (by omega)
    have e0 : Int32.ofNat (x * 7) + 0 = Int32.ofNat (x * 7 + 0) := q_add _ 0
    refine b_80s_14 _ _ _ H.1 ?_
    rw [H.2.2.2.1, q_m7, e0]
    simp (disch := omega) only [q_add, q_mul, q_m7, q_m6, q_6m, q_7m, q_a1, q_5m, q_m5, q_71, q_11, q_87, q_41, q_76, q_5a, q_0a, q_a6, q_nat, q_in, q_lt, q_eq, q_lt0, if_true, if_false, hcx, hfx, hch]
    rw [if_pos (by omega)]
    by_cases c : wm z x = true
    · have c' : ((z >>> (Int32.ofNat x &&& 31)) &&& 1) = 1 := by simpa [wm] using c
      have wx : wA (wm z) B m (fun _ => 0) F x = chF B x m 0 := by unfold wA; rw [if_pos c]
      rw [if_pos c']
      rw [wN, if_pos c] at hN
      refine hN _ (fw_sn (fw_sa (fw_sa (fw_sn hf (by decide) (by decide) (by decide) _ _) (by decide) (by decide) (by omega) _) (by decide) (by decide) (by omega) _) (by decide) (by decide) (by decide) _ _) (ct_si (ct_si (ct_si (ct_si H (by decide) _ _) (by decide) _ _) (by decide) _ _) (by decide) _ _) (fun j hj => ?_) (fun j h1 h2 => ?_) (fun e he => ?_)
      · simp only [pi_si, Nat.reduceEqDiff, if_true, if_false]
        by_cases ej : j = x
        · simp only [ej, if_true, wx]
          exact ⟨rfl, by first | rfl | trivial⟩
        · simp only [ej, if_false]
          exact k1 j (by omega)
      · simp only [pi_si, Nat.reduceEqDiff, if_true, if_false]
        have ej : ¬ j = x := by omega
        try simp only [ej, if_false]
        exact k2 j (by omega) h2
      · simp only [pi_si, Nat.reduceEqDiff, if_true, if_false]
        rw [q_mk, wx]
        by_cases ee : e = chF B x m 0
        · rw [if_pos ee, if_pos (by simp [ee]), k3 _ (by omega), ee]
        · rw [if_neg ee, if_neg (by simpa using fun q => ee q.symm), k3 e he]
    · have wx : wA (wm z) B m (fun _ => 0) F x = F x := by unfold wA; rw [if_neg c]
      rw [if_neg (by simpa [wm] using c)]
      rw [wN, if_neg c] at hN
      refine hN _ (fw_sn (fw_sa (fw_sn hf (by decide) (by decide) (by decide) _ _) (by decide) (by decide) (by omega) _) (by decide) (by decide) (by decide) _ _) (ct_si (ct_si (ct_si H (by decide) _ _) (by decide) _ _) (by decide) _ _) (fun j hj => ?_) (fun j h1 h2 => ?_) (fun e he => ?_)
      · simp only [pi_si, Nat.reduceEqDiff, if_true, if_false]
        by_cases ej : j = x
        · simp only [ej, if_true, wx]
          exact ⟨rfl, by first | rfl | exact hfx | trivial⟩
        · simp only [ej, if_false]
          exact k1 j (by omega)
      · simp only [pi_si, Nat.reduceEqDiff, if_true, if_false]
        have ej : ¬ j = x := by omega
        try simp only [ej, if_false]
        exact k2 j (by omega) h2
      · simp only [pi_si, Nat.reduceEqDiff, if_true, if_false]
        rw [q_mk, wx]
        by_cases ee : e = F x
        · rw [if_pos ee, if_pos (by simp [ee]), k3 _ (by omega), ee]
        · rw [if_neg ee, if_neg (by simpa using fun q => ee q.symm), k3 e he]
theorem cl_80s {D n m : Nat} {h : lm_H} {K : Int32 → lm_H → Prop} {cu lo : Int32} {W B : Nat → Int32} {F : Nat → Nat} {z : Int32} (hD : 2 ≤ D) (H : ct h 32 n m cu lo W B) (hF : ∀ j, j < n → F j ≤ 6) (ha : ca h 38 n F) (hK : ∀ h', fw n 38 [38, 39, 40] h h' → wk h' 38 39 40 n (wm z) B m (fun _ => 0) F → K (Int32.ofNat (wN (wm z) (cc B m) n)) h') : lm_call D 80 [.ref 37, .ref 32, .ref 38, .int z] h (lm_kI K) := by
  obtain ⟨d, rfl⟩ := q_dp hD
  refine e_80s _ H.1 ?_
  refine cl_270c40 (by omega) H.1 _ ?_
  have hf : fw n 38 [38, 39, 40] h (lm_row h 40 (fun j => if j < 7 then 0 else lm_i h 40 j)) := ⟨fr_row (fr_refl _ _ _) (by decide) (by decide) _, fun j _ => by rw [pi_row, if_neg (by decide)]⟩
  refine lp_80s (h0 := h) (cu := cu) (lo := lo) (W := W) H.2.1 H.2.2.1 hF hK n 0 (by omega) _ hf ?_ (fun j hj => by omega) (fun j _ hj => ?_) (fun c hc => ?_)
  · exact ct_fr (S := [40]) (T := []) (h := h) (fr_row (fr_refl _ _ _) (by decide) (by decide) _) H (by decide)
  · rw [pi_row, if_neg (by decide)]
    exact ha j hj
  · rw [pi_row, if_pos rfl, if_pos (by omega)]
    rfl
