/-! All askings: the survey itself (look, 55). -/
/-- what has been found -/
def svc (n m : Nat) (cu lo : Int32) (W B : Nat → Int32) (h : lm_H) : Prop := (∀ j, j < n → lm_i h 42 j = Int32.ofNat (sd B m n j)) ∧ fm n m cu lo W B h (NN B m n)
set_option maxRecDepth 20000 in
theorem q_evr : ∀ n, n < 6 → ∀ j, j < n → wm (((1 : Int32) <<< (Int32.ofNat n &&& 31)) - 1) j = true := by decide +kernel
theorem all_c {B : Nat → Int32} {m n : Nat} {w : Nat → Bool} (hz : ∀ j, j < n → w j = true) : wN w (cc B m) n = NN B m n ∧ ∀ p, wH w (cc B m) p n = wH (fun _ => true) (cc B m) p n := by
  have : ∀ k, k ≤ n → wN w (cc B m) k = wN (fun _ => true) (cc B m) k ∧ ∀ p, wH w (cc B m) p k = wH (fun _ => true) (cc B m) p k := by
    intro k
    induction k with
    | zero => intro _; exact ⟨rfl, fun _ => rfl⟩
    | succ k ih =>
      intro hk
      obtain ⟨a, b⟩ := ih (by omega)
      refine ⟨?_, fun p => ?_⟩
      · simp only [wN, a, hz k (by omega), if_true]
      · simp only [wH, b, hz k (by omega), if_true]
  exact this n (Nat.le_refl n)
theorem wH_z {c : Nat → Nat} : ∀ k, wH (fun _ => true) c (fun _ => 0) k = 0 := by
  intro k
  induction k with
  | zero => rfl
  | succ k ih => rw [wH, if_pos rfl, ih, Nat.zero_mul]
/-- the survey of the table seen -/
theorem cl_55b {d n m : Nat} {h : lm_H} {K : lm_H → Prop} {cu lo : Int32} {W B : Nat → Int32} (hD : 5 ≤ d) (H : ct h 32 n m cu lo W B) (hw : wd n m cu lo W) (h38 : ∀ j, j < 5 → ∃ v, v ≤ 6 ∧ lm_i h 38 j = Int32.ofNat v)
    (hK : ∀ h', fr [31, 38, 39, 40, 42, 43, 44, 45] [] h h' → lm_i h' 31 2 = lm_i h 31 2 → (∀ j, j < 5 → ∃ v, v ≤ 6 ∧ lm_i h' 38 j = Int32.ofNat v) → svc n m cu lo W B h' → K h') : (lm_W (d) 55 44 [some (.ref 31), none, some (.int 1), some (.int ((lm_i h 32 0) - 1)), none, none] [] h (lm_kV K)) := by
  have h5 := H.2.1
  have h6 := H.2.2.1
  have hn := H.2.2.2.1
  have hNN := NN_le (B := B) h5 h6
  have hN0 : 0 < NN B m n := wN_pos (fun j _ => cc_pos B m j)
  -- one asking after the other
  have l2 : ∀ (zz : Int32) (F : Nat → Nat), (∀ j, j < n → wm zz j = true) → ∀ r i : Nat, r + i = NN B m n → ∀ (p : Nat → Nat) (z : lm_H), fr [31, 38, 39, 40, 42, 43, 44, 45] [] h z → lm_i z 31 2 = lm_i h 31 2 → (∀ j, n ≤ j → lm_i z 38 j = lm_i h 38 j) → (∀ j, j < n → lm_i z 42 j = Int32.ofNat (sd B m n j)) → (∀ x, x < n → rG z n m cu lo W B x) → (∀ x, x < n → rT z n m cu lo W B x) → wk z 38 39 40 n (wm zz) B m p F → (i < NN B m n → wH (fun _ => true) (cc B m) p n = i) → fm n m cu lo W B z i → (lm_W (d) 55 139 [some (.ref 31), none, none, some (.int zz), some (.int (Int32.ofNat (NN B m n))), some (.int (Int32.ofNat i))] [] z (lm_kV K)) := by
    intro zz F hz r
    induction r with
    | zero =>
      intro i hi p z hf g2 g38 gs gG gT hk hp gm
      have e : i = NN B m n := by omega
      have Hz := ct_fr hf H (by decide)
      refine b_55_139 _ _ _ Hz.1 ?_
      rw [if_neg (by rw [q_lt (by omega) (by omega)]; omega)]
      rw [e] at gm
      refine hK z hf g2 (fun j hj => ?_) ⟨gs, gm⟩
      by_cases c : j < n
      · exact ⟨wA (wm zz) B m p F j, wA_le h6 hk.2.2.1 hk.2.2.2 c, (hk.1 j c).2⟩
      · rw [g38 j (by omega)]
        exact h38 j hj
    | succ r ih =>
      intro i hi p z hf g2 g38 gs gG gT hk hp gm
      have Hz := ct_fr hf H (by decide)
      have hpi := hp (by omega)
      have hpv : ∀ j, j < n → p j < cc B m j := fun j hj => hk.2.2.1 j hj (hz j hj)
      have hdp := dP_at (c := cc B m) (n := n) hpv
      rw [hpi] at hdp
      have hA : ∀ j, j < n → aI B m n i j = wA (wm zz) B m p F j := by
        intro j hj
        unfold aI wA
        rw [hdp j hj, if_pos (hz j hj)]
      refine b_55_139 _ _ _ Hz.1 ?_
      rw [if_pos (by rw [q_lt (by omega) (by omega)]; omega)]
      refine cl_58 (by omega) Hz hw (by omega) (fun k hk2 => by rw [hA k hk2]; exact (hk.1 k hk2).2) (fun c hc => ?_) gG gT gm (fun z1 hf1 k2 gm1 => ?_)
      · rw [hk.2.1 c hc]
        exact q_mk_c (fun j hj => by rw [hA j hj])
      have hk1 : wk z1 38 39 40 n (wm zz) B m p F := by
        unfold wk at hk ⊢
        rw [fr_i hf1 (c := 38) (by decide) (by decide), fr_i hf1 (c := 39) (by decide) (by decide), fr_i hf1 (c := 40) (by decide) (by decide)]
        exact hk
      refine cl_81s (by omega) (ct_fr hf1 Hz (by decide)) hk1 (fun z2 hw2 hk2 => ?_)
      have hf2 := hw2.1
      rw [q_a1]
      have hS' := wS_H (w := wm zz) (c := cc B m) n p hk.2.2.1
      rw [(all_c (B := B) (m := m) hz).2, (all_c (B := B) (m := m) hz).2, (all_c (B := B) (m := m) hz).1, hpi] at hS'
      refine ih (i + 1) (by omega) _ z2 (fr_trans hf (fr_trans (fr_sub hf1 (by decide) (by decide)) (fr_sub hf2 (by decide) (by decide)))) ?_ (fun j hj => ?_) (fun j hj => ?_) (fun x hx => ?_) (fun x hx => ?_) hk2 (fun hlt => by rw [hS', if_pos hlt]) ?_
      · rw [fr_i hf2 (by decide) (by decide), k2, g2]
      · rw [hw2.2 j hj, fr_i hf1 (by decide) (by decide)]
        exact g38 j hj
      · rw [fr_i hf2 (by decide) (by decide), fr_i hf1 (by decide) (by decide)]
        exact gs j hj
      · have q := gG x hx
        unfold rG at q ⊢
        rw [fr_i hf2 (by decide) (by decide), fr_i hf1 (by decide) (by decide)]
        exact q
      · have q := gT x hx
        unfold rT at q ⊢
        rw [fr_i hf2 (by decide) (by decide), fr_i hf1 (by decide) (by decide)]
        exact q
      · unfold fm fA fB fC at gm1 ⊢
        rw [fr_i hf2 (c := 31) (by decide) (by decide), fr_l hf2 (c := 45) (by decide) (by decide)]
        exact gm1
  -- strides and gains
  have l1 : ∀ x, x ≤ n → ∀ z, fr [31, 38, 39, 40, 42, 43, 44, 45] [] h z → lm_i z 31 2 = lm_i h 31 2 → lm_i z 38 = lm_i h 38 → (∀ j, x ≤ j → j < n → lm_i z 42 j = Int32.ofNat (sd B m n j)) → (∀ j, x ≤ j → j < n → rG z n m cu lo W B j ∧ rT z n m cu lo W B j) → (lm_W (d) 55 44 [some (.ref 31), none, some (.int (Int32.ofNat (sT (cc B m) (n - x) x))), some (.int (Int32.ofNat x - 1)), none, none] [] z (lm_kV K)) := by
    intro x
    induction x with
    | zero =>
      intro _ z hf g2 g38 gs gr
      have hlz := fr_Lay hf H.1
      refine b_55_44 _ _ hlz ?_
      rw [if_pos (by decide)]
      refine cl_269c45 (by omega) (lm_Lay_si (lm_Lay_si (lm_Lay_si hlz _ _ _) _ _ _) _ _ _) _ ?_
      generalize hh : q_lr (lm_si (lm_si (lm_si z 31 7 (-1000000)) 31 10 (-1000000)) 31 12 0) 45 (fun j => if j < 263 then 0 else lm_l (lm_si (lm_si (lm_si z 31 7 (-1000000)) 31 10 (-1000000)) 31 12 0) 45 j) = z1
      have hf0 : fr [31, 45] [] z z1 := by
        rw [← hh]
        exact fr_lr (fr_si (fr_si (fr_si (fr_refl _ _ _) (by decide) (by decide) _ _) (by decide) (by decide) _ _) (by decide) (by decide) _ _) (by decide) (by decide) _
      have hf1 : fr [31, 38, 39, 40, 42, 43, 44, 45] [] h z1 := fr_trans hf (fr_sub hf0 (by decide) (by decide))
      have H1 := ct_fr hf1 H (by decide)
      have a2 : lm_i z1 31 2 = lm_i z 31 2 := by
        rw [← hh]
        rfl
      have a7 : lm_i z1 31 7 = -1000000 := by
        rw [← hh]
        rfl
      have a10 : lm_i z1 31 10 = -1000000 := by
        rw [← hh]
        rfl
      have a12 : lm_i z1 31 12 = 0 := by
        rw [← hh]
        rfl
      have a45 : ∀ j, j < 263 → lm_l z1 45 j = 0 := by
        intro j hj
        rw [← hh, pl_lr, if_pos rfl, if_pos hj]
      rw [H1.2.2.2.1]
      have hz := q_evr n (by omega)
      generalize (((1 : Int32) <<< (Int32.ofNat n &&& 31)) - 1) = zz at hz ⊢
      have hF : ∃ F : Nat → Nat, ∀ j, j < n → F j ≤ 6 ∧ lm_i z1 38 j = Int32.ofNat (F j) := by
        refine ⟨fun j => (lm_i z1 38 j).toNatClampNeg, fun j hj => ?_⟩
        obtain ⟨v, hv, e⟩ := h38 j (by omega)
        show (lm_i z1 38 j).toNatClampNeg ≤ 6 ∧ lm_i z1 38 j = Int32.ofNat (lm_i z1 38 j).toNatClampNeg
        rw [fr_i hf0 (by decide) (by decide), g38, e, q_nat (by omega)]
        exact ⟨hv, rfl⟩
      obtain ⟨F, hF⟩ := hF
      refine cl_80s (by omega) H1 (fun j hj => (hF j hj).1) (fun j hj => (hF j hj).2) (fun z2 hw2 hk2 => ?_)
      have hf2 := hw2.1
      rw [(all_c (B := B) (m := m) hz).1]
      refine l2 zz F hz (NN B m n) 0 (by omega) (fun _ => 0) z2 (fr_trans hf1 (fr_sub hf2 (by decide) (by decide))) ?_ (fun j hj => ?_) (fun j hj => ?_) (fun y hy => ?_) (fun y hy => ?_) hk2 (fun _ => wH_z n) ⟨⟨?_, fun q => absurd q (Nat.lt_irrefl 0)⟩, ⟨?_, fun q => absurd q (Nat.lt_irrefl 0)⟩, ?_, fun q => absurd q (Nat.lt_irrefl 0), ?_⟩
      · rw [fr_i hf2 (by decide) (by decide), a2, g2]
      · rw [hw2.2 j hj, fr_i hf0 (by decide) (by decide), g38]
      · rw [fr_i hf2 (by decide) (by decide), fr_i hf0 (by decide) (by decide)]
        exact gs j (Nat.zero_le j) hj
      · have q := (gr y (Nat.zero_le y) hy).1
        unfold rG at q ⊢
        rw [fr_i hf2 (by decide) (by decide), fr_i hf0 (by decide) (by decide)]
        exact q
      · have q := (gr y (Nat.zero_le y) hy).2
        unfold rT at q ⊢
        rw [fr_i hf2 (by decide) (by decide), fr_i hf0 (by decide) (by decide)]
        exact q
      · rw [fr_i hf2 (by decide) (by decide), if_pos rfl]
        exact a7
      · rw [fr_i hf2 (by decide) (by decide), if_pos rfl]
        exact a10
      · rw [fr_i hf2 (by decide) (by decide)]
        exact a12
      · rw [fr_l hf2 (by decide) (by decide)]
        exact bq_c (bq_zero a45) (fun c _ => by simp)
    | succ x ih =>
      intro hx z hf g2 g38 gs gr
      have Hz := ct_fr hf H (by decide)
      have hcx : lm_i z 36 x = Int32.ofNat (cc B m x) := (Hz.2.2.2.2.2.2.2.2 x (by omega)).2.2.1
      rw [q_p1]
      refine b_55_44 _ _ Hz.1 ?_
      rw [if_neg (by rw [q_lt0 (by omega)]; exact id), q_in (by omega) (by omega), q_in (by omega) (by omega), q_nat (by omega), hcx, q_mul]
      have hf0 : fr [31, 38, 39, 40, 42, 43, 44, 45] [] h (lm_si z 42 x (Int32.ofNat (sT (cc B m) (n - (x + 1)) (x + 1)))) := fr_si hf (by decide) (by decide) _ _
      refine cl_57 (by omega) (ct_fr hf0 H (by decide)) hw (by omega) (fun z1 hf1 o43 o44 rg rt => ?_)
      have ihx := ih (by omega) z1 (fr_trans hf0 (fr_sub hf1 (by decide) (by decide))) ?_ ?_ (fun j h1 h2 => ?_) (fun j h1 h2 => ?_)
      · rw [sT_step (c := cc B m) (n := n) (x := x) (by omega), Nat.mul_comm] at ihx
        exact ihx
      · rw [fr_i hf1 (by decide) (by decide), pi_si, if_neg (by decide)]
        exact g2
      · rw [fr_i hf1 (by decide) (by decide)]
        funext j
        rw [pi_si, if_neg (by decide), g38]
      · rw [fr_i hf1 (by decide) (by decide), pi_si, if_pos rfl]
        by_cases e : j = x
        · rw [if_pos e, e]
          rfl
        · rw [if_neg e]
          exact gs j (by omega) h2
      · by_cases e : j = x
        · rw [e]
          exact ⟨rg, rt⟩
        · obtain ⟨q1, q2⟩ := gr j (by omega) h2
          refine ⟨rG_of h5 h6 q1 e (fun a ha => ?_), fun A i hi => ?_⟩
          · rw [o43 a ha, pi_si, if_neg (by decide)]
          · rw [o44 j e, pi_si, if_neg (by decide)]
            exact q2 A i hi
  rw [hn]
  have fin := l1 n (Nat.le_refl n) h (fr_refl _ _ _) rfl rfl (fun j h1 h2 => by omega) (fun j h1 h2 => by omega)
  rw [Nat.sub_self, sT] at fin
  exact fin
