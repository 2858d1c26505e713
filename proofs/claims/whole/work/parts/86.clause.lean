/-! Laws: clauses. -/
/-- a worth, kept within 99 -/
def cw (v : Int) : Int32 := if v < -99 then -99 else if 99 < v then 99 else Int32.ofInt v
theorem cw_c {v : Int} (hv : bB v) : ((if (if Int64.ofInt v < 99 then Int64.ofInt v else 99) < (-99) then (-99) else (if Int64.ofInt v < 99 then Int64.ofInt v else 99)) : Int64).toInt32 = cw v := by
  have hb := bB_big hv
  have e1 : (99 : Int64) = Int64.ofInt 99 := rfl
  have e2 : (-99 : Int64) = Int64.ofInt (-99) := rfl
  have e3 : ((-99 : Int64)).toInt32 = -99 := by decide
  have e4 : ((99 : Int64)).toInt32 = 99 := by decide
  unfold cw
  by_cases c1 : v < 99
  · rw [if_pos (show Int64.ofInt v < 99 by rw [e1, l_ltB hb (by omega)]; exact c1)]
    by_cases c2 : v < -99
    · rw [if_pos (show Int64.ofInt v < -99 by rw [e2, l_ltB hb (by omega)]; exact c2), if_pos c2]
      exact e3
    · rw [if_neg (show ¬ Int64.ofInt v < -99 by rw [e2, l_ltB hb (by omega)]; exact c2), if_neg c2, if_neg (by omega), Int64.toInt32_ofInt]
  · rw [if_neg (show ¬ Int64.ofInt v < 99 by rw [e1, l_ltB hb (by omega)]; exact c1), if_neg (by decide), if_neg (by omega)]
    by_cases c3 : 99 < v
    · rw [if_pos c3]
      exact e4
    · have : v = 99 := by omega
      rw [this]
      decide
/-- what an optional test says: 1 where there is none -/
def tv (o : Option dN) (w : Nat → Int32) : Option Int := match o with
  | none => some 1
  | some d => d w
abbrev eF : Type := (Nat → Int32) → Int32 × Int32 → Int32 × Int32
def eW (d1 : dN) (o : Option dN) : eF := fun w s => match d1 w with
  | none => s
  | some v => match tv o w with
    | none => s
    | some u => if u = 0 then s else (cw v, s.2)
def eB (o : Option dN) : eF := fun w s => match tv o w with
  | none => s
  | some u => if u = 0 then s else (s.1, 1)
/-- what a closing step leaves -/
def jc (h h' : lm_H) (s : Int32 × Int32) : Prop := fr [18, 20] [] h h' ∧ lm_i h' 18 4 = s.1 ∧ lm_i h' 18 5 = s.2
theorem J_cl {d q E z x L n : Nat} {h : lm_H} {K : lm_H → Prop} {w : Nat → Int32} (H : jh h q L w) (hz : z < L) (hx : x ≤ z) (hn : n < 1002) (hs : lm_i h q z = st 12 n) (hT : ∀ h', jb h h' → lm_i h' 18 2 = Int32.ofNat 0 → JW d q n (z + 1) (x + 1) h' K) : JW d q E z x h K := by
  have hL := H.2.2.1
  obtain ⟨e15, e4⟩ := st_all n (by omega) 12 (by omega)
  refine b_15_28 _ _ _ _ H.1 ?_
  refine ⟨L, H.2.1, ?_⟩
  rw [if_pos (by rw [q_lt (by omega) (by omega)]; omega), if_neg (by rw [q_lt0 (by omega)]; exact id)]
  refine ⟨L, H.2.1, ?_⟩
  rw [if_pos (by rw [q_lt (by omega) (by omega)]; omega)]
  refine ⟨L, H.2.1, ?_⟩
  rw [q_in (by omega) (by omega)]
  refine ⟨L, H.2.1, ?_⟩
  rw [q_in (by omega) (by omega), q_nat (by omega), hs, e15, e4]
  rw [if_pos (by decide), q_a1, q_a1]
  exact hT _ (jb_18 (jb_18 (jb_rf h) (Or.inr rfl) _) (Or.inl rfl) _) (by rw [pi_si, if_pos rfl, if_pos rfl]; rfl)
theorem J_c13_0 {d q E z x L t : Nat} {h : lm_H} {K : lm_H → Prop} {w : Nat → Int32} {u v : Int} (hd : 2 ≤ d) (H : jh h q L w) (hz : z < L) (hx : x ≤ z) (hs : lm_i h q z = st 13 0) (hv : bB v) (h2 : lm_i h 18 2 = Int32.ofNat (t + 1)) (hA : lm_l h 20 t = Int64.ofInt v) (ht : t < 400) (hT : ∀ h', jc h h' (cw v, lm_i h 18 5) → JW d q E (z + 1) (x + 1) h' K) : JW d q E z x h K := by
  have hL := H.2.2.1
  obtain ⟨e15, e4⟩ := st_all 0 (by omega) 13 (by omega)
  obtain ⟨d, rfl⟩ := q_dp hd
  have b3 : jb h (lm_si h 18 3 0) := jb_18 (jb_rf h) (Or.inr rfl) _
  refine b_15_28 _ _ _ _ H.1 ?_
  refine ⟨L, H.2.1, ?_⟩
  rw [if_pos (by rw [q_lt (by omega) (by omega)]; omega), if_neg (by rw [q_lt0 (by omega)]; exact id)]
  refine ⟨L, H.2.1, ?_⟩
  rw [if_pos (by rw [q_lt (by omega) (by omega)]; omega)]
  refine ⟨L, H.2.1, ?_⟩
  rw [q_in (by omega) (by omega)]
  refine ⟨L, H.2.1, ?_⟩
  rw [q_in (by omega) (by omega), q_nat (by omega), hs, e15, e4]
  rw [if_neg (by decide), if_neg (by decide), if_neg (by decide), if_pos (by decide), if_neg (by decide), q_a1, q_a1]
  refine e_19 _ _ (lm_Lay_si H.1 _ _ _) ?_
  rw [if_pos rfl, if_neg (by decide)]
  refine cl_18 (t := t) (by omega) (lm_Lay_si H.1 _ _ _) ht (by rw [pi_si, if_pos rfl, if_neg (by decide)]; exact h2) ?_
  rw [show lm_l (lm_si h 18 3 0) 20 t = Int64.ofInt v from hA, cw_c hv, if_pos (by simp only [pi_si, Nat.reduceEqDiff, if_true, if_false])]
  have b4 := jb_18 b3 (Or.inl rfl) (Int32.ofNat t)
  refine hT _ ⟨fr_si b4.1 (by decide) (by decide) _ _, ?_, ?_⟩
  · rw [pi_si, if_pos rfl, if_pos rfl]
  · rw [pi_si, if_pos rfl, if_neg (by decide)]; exact b4.2.2
theorem J_c13_1 {d q E z x L t : Nat} {h : lm_H} {K : lm_H → Prop} {w : Nat → Int32} {u v : Int} (hd : 2 ≤ d) (H : jh h q L w) (hz : z < L) (hx : x ≤ z) (hs : lm_i h q z = st 13 1) (hu : bB u) (hv : bB v) (h2 : lm_i h 18 2 = Int32.ofNat (t + 1 + 1)) (hU : lm_l h 20 (t + 1) = Int64.ofInt u) (hA : lm_l h 20 t = Int64.ofInt v) (ht : t + 1 < 400) (hT : ∀ h', jc h h' (if u = 0 then (lm_i h 18 4, lm_i h 18 5) else (cw v, lm_i h 18 5)) → JW d q E (z + 1) (x + 1) h' K) : JW d q E z x h K := by
  have hL := H.2.2.1
  obtain ⟨e15, e4⟩ := st_all 1 (by omega) 13 (by omega)
  obtain ⟨d, rfl⟩ := q_dp hd
  have b3 : jb h (lm_si h 18 3 0) := jb_18 (jb_rf h) (Or.inr rfl) _
  refine b_15_28 _ _ _ _ H.1 ?_
  refine ⟨L, H.2.1, ?_⟩
  rw [if_pos (by rw [q_lt (by omega) (by omega)]; omega), if_neg (by rw [q_lt0 (by omega)]; exact id)]
  refine ⟨L, H.2.1, ?_⟩
  rw [if_pos (by rw [q_lt (by omega) (by omega)]; omega)]
  refine ⟨L, H.2.1, ?_⟩
  rw [q_in (by omega) (by omega)]
  refine ⟨L, H.2.1, ?_⟩
  rw [q_in (by omega) (by omega), q_nat (by omega), hs, e15, e4]
  rw [if_neg (by decide), if_neg (by decide), if_neg (by decide), if_pos (by decide), if_pos (by decide), q_a1, q_a1]
  refine e_19 _ _ (lm_Lay_si H.1 _ _ _) ?_
  rw [if_neg (by decide)]
  refine cl_18 (t := t + 1) (by omega) (lm_Lay_si H.1 _ _ _) ht (by rw [pi_si, if_pos rfl, if_neg (by decide)]; exact h2) ?_
  rw [show lm_l (lm_si h 18 3 0) 20 (t + 1) = Int64.ofInt u from hU]
  have b4 := jb_18 b3 (Or.inl rfl) (Int32.ofNat (t + 1))
  by_cases c : u = 0
  · rw [if_pos (by rw [lg_cmp_eq, show (0 : Int64) = Int64.ofInt 0 from rfl, l_eqB (bB_big hu) (by omega)]; exact c), if_pos (by simp only [pi_si, Nat.reduceEqDiff, if_true, if_false])]
    refine hT _ ?_
    rw [if_pos c]
    exact b4
  · rw [if_neg (by rw [lg_cmp_eq, show (0 : Int64) = Int64.ofInt 0 from rfl, l_eqB (bB_big hu) (by omega)]; exact c)]
    rw [if_neg (by decide)]
    refine cl_18 (t := t) (by omega) (fr_Lay b4.1 H.1) (by omega) (by rw [pi_si, if_pos rfl, if_pos rfl]) ?_
    rw [show lm_l (lm_si (lm_si h 18 3 0) 18 2 (Int32.ofNat (t + 1))) 20 t = Int64.ofInt v from hA, cw_c hv, if_pos (by simp only [pi_si, Nat.reduceEqDiff, if_true, if_false])]
    refine hT _ ?_
    rw [if_neg c]
    have b5 := jb_18 b4 (Or.inl rfl) (Int32.ofNat t)
    refine ⟨fr_si b5.1 (by decide) (by decide) _ _, ?_, ?_⟩
    · rw [pi_si, if_pos rfl, if_pos rfl]
    · rw [pi_si, if_pos rfl, if_neg (by decide)]; exact b5.2.2
theorem J_c14_0 {d q E z x L t : Nat} {h : lm_H} {K : lm_H → Prop} {w : Nat → Int32} {u v : Int} (hd : 2 ≤ d) (H : jh h q L w) (hz : z < L) (hx : x ≤ z) (hs : lm_i h q z = st 14 0) (hT : ∀ h', jc h h' (lm_i h 18 4, 1) → JW d q E (z + 1) (x + 1) h' K) : JW d q E z x h K := by
  have hL := H.2.2.1
  obtain ⟨e15, e4⟩ := st_all 0 (by omega) 14 (by omega)
  obtain ⟨d, rfl⟩ := q_dp hd
  have b3 : jb h (lm_si h 18 3 0) := jb_18 (jb_rf h) (Or.inr rfl) _
  refine b_15_28 _ _ _ _ H.1 ?_
  refine ⟨L, H.2.1, ?_⟩
  rw [if_pos (by rw [q_lt (by omega) (by omega)]; omega), if_neg (by rw [q_lt0 (by omega)]; exact id)]
  refine ⟨L, H.2.1, ?_⟩
  rw [if_pos (by rw [q_lt (by omega) (by omega)]; omega)]
  refine ⟨L, H.2.1, ?_⟩
  rw [q_in (by omega) (by omega)]
  refine ⟨L, H.2.1, ?_⟩
  rw [q_in (by omega) (by omega), q_nat (by omega), hs, e15, e4]
  rw [if_neg (by decide), if_neg (by decide), if_neg (by decide), if_neg (by decide), if_pos (by decide), if_neg (by decide), q_a1, q_a1]
  refine e_19 _ _ (lm_Lay_si H.1 _ _ _) ?_
  rw [if_pos rfl, if_pos (by decide), if_pos (by simp only [pi_si, Nat.reduceEqDiff, if_true, if_false])]
  refine hT _ ⟨fr_si b3.1 (by decide) (by decide) _ _, ?_, ?_⟩
  · rw [pi_si, if_pos rfl, if_neg (by decide)]; exact b3.2.1
  · rw [pi_si, if_pos rfl, if_pos rfl]
theorem J_c14_1 {d q E z x L t : Nat} {h : lm_H} {K : lm_H → Prop} {w : Nat → Int32} {u v : Int} (hd : 2 ≤ d) (H : jh h q L w) (hz : z < L) (hx : x ≤ z) (hs : lm_i h q z = st 14 1) (hu : bB u) (h2 : lm_i h 18 2 = Int32.ofNat (t + 1)) (hU : lm_l h 20 t = Int64.ofInt u) (ht : t < 400) (hT : ∀ h', jc h h' (if u = 0 then (lm_i h 18 4, lm_i h 18 5) else (lm_i h 18 4, 1)) → JW d q E (z + 1) (x + 1) h' K) : JW d q E z x h K := by
  have hL := H.2.2.1
  obtain ⟨e15, e4⟩ := st_all 1 (by omega) 14 (by omega)
  obtain ⟨d, rfl⟩ := q_dp hd
  have b3 : jb h (lm_si h 18 3 0) := jb_18 (jb_rf h) (Or.inr rfl) _
  refine b_15_28 _ _ _ _ H.1 ?_
  refine ⟨L, H.2.1, ?_⟩
  rw [if_pos (by rw [q_lt (by omega) (by omega)]; omega), if_neg (by rw [q_lt0 (by omega)]; exact id)]
  refine ⟨L, H.2.1, ?_⟩
  rw [if_pos (by rw [q_lt (by omega) (by omega)]; omega)]
  refine ⟨L, H.2.1, ?_⟩
  rw [q_in (by omega) (by omega)]
  refine ⟨L, H.2.1, ?_⟩
  rw [q_in (by omega) (by omega), q_nat (by omega), hs, e15, e4]
  rw [if_neg (by decide), if_neg (by decide), if_neg (by decide), if_neg (by decide), if_pos (by decide), if_pos (by decide), q_a1, q_a1]
  refine e_19 _ _ (lm_Lay_si H.1 _ _ _) ?_
  rw [if_neg (by decide)]
  refine cl_18 (t := t) (by omega) (lm_Lay_si H.1 _ _ _) ht (by rw [pi_si, if_pos rfl, if_neg (by decide)]; exact h2) ?_
  rw [show lm_l (lm_si h 18 3 0) 20 (t) = Int64.ofInt u from hU]
  have b4 := jb_18 b3 (Or.inl rfl) (Int32.ofNat (t))
  by_cases c : u = 0
  · rw [if_pos (by rw [lg_cmp_eq, show (0 : Int64) = Int64.ofInt 0 from rfl, l_eqB (bB_big hu) (by omega)]; exact c), if_pos (by simp only [pi_si, Nat.reduceEqDiff, if_true, if_false])]
    refine hT _ ?_
    rw [if_pos c]
    exact b4
  · rw [if_neg (by rw [lg_cmp_eq, show (0 : Int64) = Int64.ofInt 0 from rfl, l_eqB (bB_big hu) (by omega)]; exact c)]
    rw [if_pos (by decide), if_pos (by simp only [pi_si, Nat.reduceEqDiff, if_true, if_false])]
    refine hT _ ?_
    rw [if_neg c]
    refine ⟨fr_si b4.1 (by decide) (by decide) _ _, ?_, ?_⟩
    · rw [pi_si, if_pos rfl, if_neg (by decide)]; exact b4.2.1
    · rw [pi_si, if_pos rfl, if_pos rfl]
/-- l steps co do ef to worth and barred -/
def JC (l : Nat) (co : cD) (ef : eF) : Prop := ∀ (d q E z x L : Nat) (h : lm_H) (K : lm_H → Prop) (w : Nat → Int32), 3 ≤ d → jh h q L w → z + l ≤ L → x ≤ z → (∀ j, j < l → lm_i h q (z + j) = co z j) →
  (∀ h' x' E', jc h h' (ef w (lm_i h 18 4, lm_i h 18 5)) → x' ≤ z + l → JW d q E' (z + l) x' h' K) → JW d q E z x h K
theorem JC_nil (c : cD) : JC 0 c (fun _ s => s) := fun d q E z x L h K w _ _ _ hx _ hT => hT h x E ⟨fr_refl _ _ _, rfl, rfl⟩ hx
theorem JC_seq {l1 l2 : Nat} {c1 c2 : cD} {e1 e2 : eF} (h1 : JC l1 c1 e1) (h2 : JC l2 c2 e2) : JC (l1 + l2) (cc1 l1 c1 c2) (fun w s => e2 w (e1 w s)) := by
  intro d q E z x L h K w hd H hL hx hc hT
  refine h1 d q E z x L h K w hd H (by omega) hx (fun j hj => by rw [hc j (by omega), cc1_lo hj]) (fun h1' x1 E1 j1 hx1 => ?_)
  refine h2 d q E1 (z + l1) x1 L h1' K w hd (jh_fr H j1.1) (by omega) hx1 (fun j hj => ?_) (fun h2' x2 E2 j2 hx2 => ?_)
  · rw [jh_i H j1.1, Nat.add_assoc, hc _ (by omega), cc1_hi]
  · rw [Nat.add_assoc]
    refine hT h2' x2 E2 ⟨fr_trans j1.1 j2.1, ?_, ?_⟩ (by omega)
    · rw [j2.2.1, j1.2.1, j1.2.2]
    · rw [j2.2.2, j1.2.1, j1.2.2]
theorem cj_0 {s l : Nat} {c : cD} {z : Nat} : cj s l c z 0 = st s (z + 1 + l) := by rw [cj, if_pos rfl]
theorem cj_s {s l : Nat} {c : cD} {z j : Nat} : cj s l c z (1 + j) = c (z + 1) j := by rw [cj, if_neg (by omega), Nat.add_sub_cancel_left]
theorem JC_w0 {l1 : Nat} {c1 : cD} {d1 : dN} (h1 : JS l1 c1 d1) (hl1 : 1 ≤ l1) (hb1 : ∀ w v, d1 w = some v → bB v) : JC (1 + (l1 + 1)) (cj 12 (l1 + 1) (cc1 l1 c1 (fun _ _ => st 13 0))) (eW d1 none) := by
  intro d q E z x L h K w hd H hL hx hc hT
  have hLL := H.2.2.1
  refine J_cl (n := z + 1 + (l1 + 1)) H (by omega) hx (by omega) ?_ (fun h0 j0 t0 => ?_)
  · have := hc 0 (by omega)
    rw [cj_0, Nat.add_zero] at this
    exact this
  have H0 := jh_fr H j0.1
  have hc0 : ∀ j, j < l1 + 1 → lm_i h0 q (z + 1 + j) = (cc1 l1 c1 (fun _ _ => st 13 0)) (z + 1) j := by
    intro j hj
    have := hc (1 + j) (by omega)
    rw [cj_s] at this
    rw [jh_i H j0.1, Nat.add_assoc]
    exact this
  have eE : z + (1 + (l1 + 1)) = z + 1 + (l1 + 1) := by omega
  refine h1 d q (z + 1 + (l1 + 1)) (z + 1) (x + 1) L 0 h0 K w hd H0 (by omega) (by omega) (by omega) (by omega) (fun j hj => by rw [hc0 j (by omega), cc1_lo hj]) t0 (fun v hv h2 x2 j2 hx2 => ?_) (fun hn h2 x2 j2 hx2 => ?_)
  · have hs : lm_i h2 q (z + 1 + l1) = st 13 0 := by
      rw [jh_i H0 j2.1, hc0 l1 (by omega)]
      exact cc1_hi (j := 0)
    refine J_c13_0 (t := 0) (v := v) (u := 0) (by omega) (jh_fr H0 j2.1) (by omega) hx2 hs (hb1 w v hv) j2.2.2.2.1 j2.2.2.2.2.1 (by omega) (fun h3 j3 => ?_)
    have := hT h3 (x2 + 1) (z + 1 + (l1 + 1)) ⟨fr_trans j0.1 (fr_trans j2.1 j3.1), ?_, ?_⟩ (by omega)
    · rw [eE] at this
      exact this
    · rw [j3.2.1]
      simp only [eW, hv, tv]
      rfl
    · rw [j3.2.2, j2.2.2.1, j0.2.2]
      simp only [eW, hv, tv]
      rfl
  · have := hT h2 x2 (z + 1 + (l1 + 1)) ⟨fr_trans j0.1 j2.1, ?_, ?_⟩ (by omega)
    · rw [eE] at this
      exact this
    · rw [j2.2.1, j0.2.1]
      simp only [eW, hn]
    · rw [j2.2.2, j0.2.2]
      simp only [eW, hn]
theorem JC_wt {l1 l2 : Nat} {c1 c2 : cD} {d1 d2 : dN} (h1 : JS l1 c1 d1) (hl1 : 1 ≤ l1) (hb1 : ∀ w v, d1 w = some v → bB v) (h2 : JS l2 c2 d2) (hl2 : 1 ≤ l2) (hb2 : ∀ w v, d2 w = some v → bB v) : JC (1 + (l1 + (l2 + 1))) (cj 12 (l1 + (l2 + 1)) (cc1 l1 c1 (cc1 l2 c2 (fun _ _ => st 13 1)))) (eW d1 (some d2)) := by
  intro d q E z x L h K w hd H hL hx hc hT
  have hLL := H.2.2.1
  refine J_cl (n := z + 1 + (l1 + (l2 + 1))) H (by omega) hx (by omega) ?_ (fun h0 j0 t0 => ?_)
  · have := hc 0 (by omega)
    rw [cj_0, Nat.add_zero] at this
    exact this
  have H0 := jh_fr H j0.1
  have hc0 : ∀ j, j < l1 + (l2 + 1) → lm_i h0 q (z + 1 + j) = (cc1 l1 c1 (cc1 l2 c2 (fun _ _ => st 13 1))) (z + 1) j := by
    intro j hj
    have := hc (1 + j) (by omega)
    rw [cj_s] at this
    rw [jh_i H j0.1, Nat.add_assoc]
    exact this
  have eE : z + (1 + (l1 + (l2 + 1))) = z + 1 + (l1 + (l2 + 1)) := by omega
  refine h1 d q (z + 1 + (l1 + (l2 + 1))) (z + 1) (x + 1) L 0 h0 K w hd H0 (by omega) (by omega) (by omega) (by omega) (fun j hj => by rw [hc0 j (by omega), cc1_lo hj]) t0 (fun v hv h2' x2 j2 hx2 => ?_) (fun hn h2' x2 j2 hx2 => ?_)
  · have H2 := jh_fr H0 j2.1
    refine h2 d q (z + 1 + (l1 + (l2 + 1))) (z + 1 + l1) x2 L 1 h2' K w hd H2 (by omega) (by omega) (by omega) (by omega) (fun j hj => ?_) j2.2.2.2.1 (fun u hu h3 x3 j3 hx3 => ?_) (fun hn h3 x3 j3 hx3 => ?_)
    · rw [jh_i H0 j2.1, Nat.add_assoc, hc0 (l1 + j) (by omega), cc1_hi, cc1_lo hj]
    · have hs : lm_i h3 q (z + 1 + l1 + l2) = st 13 1 := by
        rw [jh_i H2 j3.1, jh_i H0 j2.1, show z + 1 + l1 + l2 = z + 1 + (l1 + l2) by omega, hc0 (l1 + l2) (by omega), cc1_hi]
        exact cc1_hi (j := 0)
      refine J_c13_1 (t := 0) (v := v) (u := u) (by omega) (jh_fr H2 j3.1) (by omega) hx3 hs (hb2 w u hu) (hb1 w v hv) j3.2.2.2.1 j3.2.2.2.2.1 (by rw [j3.2.2.2.2.2 0 (by omega)]; exact j2.2.2.2.2.1) (by omega) (fun h4 j4 => ?_)
      have e4 : lm_i h3 18 4 = lm_i h 18 4 := by rw [j3.2.1, j2.2.1, j0.2.1]
      have e5 : lm_i h3 18 5 = lm_i h 18 5 := by rw [j3.2.2.1, j2.2.2.1, j0.2.2]
      have := hT h4 (x3 + 1) (z + 1 + (l1 + (l2 + 1))) ⟨fr_trans j0.1 (fr_trans j2.1 (fr_trans j3.1 j4.1)), ?_, ?_⟩ (by omega)
      · rw [show z + (1 + (l1 + (l2 + 1))) = z + 1 + l1 + l2 + 1 by omega] at this
        exact this
      · rw [j4.2.1]
        simp only [eW, hv, tv, hu]
        split
        · exact e4
        · rfl
      · rw [j4.2.2]
        simp only [eW, hv, tv, hu]
        split
        · exact e5
        · exact e5
    · have := hT h3 x3 (z + 1 + (l1 + (l2 + 1))) ⟨fr_trans j0.1 (fr_trans j2.1 j3.1), ?_, ?_⟩ (by omega)
      · rw [eE] at this
        exact this
      · rw [j3.2.1, j2.2.1, j0.2.1]
        simp only [eW, hv, tv, hn]
      · rw [j3.2.2, j2.2.2.1, j0.2.2]
        simp only [eW, hv, tv, hn]
  · have := hT h2' x2 (z + 1 + (l1 + (l2 + 1))) ⟨fr_trans j0.1 j2.1, ?_, ?_⟩ (by omega)
    · rw [eE] at this
      exact this
    · rw [j2.2.1, j0.2.1]
      simp only [eW, hn]
    · rw [j2.2.2, j0.2.2]
      simp only [eW, hn]
theorem JC_b0 : JC (1 + 1) (cj 12 1 (fun _ _ => st 14 0)) (eB none) := by
  intro d q E z x L h K w hd H hL hx hc hT
  have hLL := H.2.2.1
  refine J_cl (n := z + 1 + (1)) H (by omega) hx (by omega) ?_ (fun h0 j0 t0 => ?_)
  · have := hc 0 (by omega)
    rw [cj_0, Nat.add_zero] at this
    exact this
  have H0 := jh_fr H j0.1
  have hc0 : ∀ j, j < 1 → lm_i h0 q (z + 1 + j) = (fun _ _ => st 14 0) (z + 1) j := by
    intro j hj
    have := hc (1 + j) (by omega)
    rw [cj_s] at this
    rw [jh_i H j0.1, Nat.add_assoc]
    exact this
  have eE : z + (1 + (1)) = z + 1 + (1) := by omega
  have hs : lm_i h0 q (z + 1) = st 14 0 := hc0 0 (by omega)
  refine J_c14_0 (t := 0) (u := 0) (v := 0) (by omega) H0 (by omega) (by omega) hs (fun h4 j4 => ?_)
  have := hT h4 (x + 1 + 1) (z + 1 + 1) ⟨fr_trans j0.1 j4.1, ?_, ?_⟩ (by omega)
  · rw [eE] at this
    exact this
  · rw [j4.2.1]
    simp only [eB, tv]
    exact j0.2.1
  · rw [j4.2.2]
    simp only [eB, tv]
    rfl
theorem JC_bt {l2 : Nat} {c2 : cD} {d2 : dN} (h2 : JS l2 c2 d2) (hl2 : 1 ≤ l2) (hb2 : ∀ w v, d2 w = some v → bB v) : JC (1 + (l2 + 1)) (cj 12 (l2 + 1) (cc1 l2 c2 (fun _ _ => st 14 1))) (eB (some d2)) := by
  intro d q E z x L h K w hd H hL hx hc hT
  have hLL := H.2.2.1
  refine J_cl (n := z + 1 + (l2 + 1)) H (by omega) hx (by omega) ?_ (fun h0 j0 t0 => ?_)
  · have := hc 0 (by omega)
    rw [cj_0, Nat.add_zero] at this
    exact this
  have H0 := jh_fr H j0.1
  have hc0 : ∀ j, j < l2 + 1 → lm_i h0 q (z + 1 + j) = (cc1 l2 c2 (fun _ _ => st 14 1)) (z + 1) j := by
    intro j hj
    have := hc (1 + j) (by omega)
    rw [cj_s] at this
    rw [jh_i H j0.1, Nat.add_assoc]
    exact this
  have eE : z + (1 + (l2 + 1)) = z + 1 + (l2 + 1) := by omega
  refine h2 d q (z + 1 + (l2 + 1)) (z + 1) (x + 1) L 0 h0 K w hd H0 (by omega) (by omega) (by omega) (by omega) (fun j hj => by rw [hc0 j (by omega), cc1_lo hj]) t0 (fun u hu h3 x3 j3 hx3 => ?_) (fun hn h3 x3 j3 hx3 => ?_)
  · have hs : lm_i h3 q (z + 1 + l2) = st 14 1 := by
      rw [jh_i H0 j3.1, hc0 l2 (by omega)]
      exact cc1_hi (j := 0)
    refine J_c14_1 (t := 0) (v := 0) (u := u) (by omega) (jh_fr H0 j3.1) (by omega) hx3 hs (hb2 w u hu) j3.2.2.2.1 j3.2.2.2.2.1 (by omega) (fun h4 j4 => ?_)
    have e4 : lm_i h3 18 4 = lm_i h 18 4 := by rw [j3.2.1, j0.2.1]
    have e5 : lm_i h3 18 5 = lm_i h 18 5 := by rw [j3.2.2.1, j0.2.2]
    have := hT h4 (x3 + 1) (z + 1 + (l2 + 1)) ⟨fr_trans j0.1 (fr_trans j3.1 j4.1), ?_, ?_⟩ (by omega)
    · rw [eE] at this
      exact this
    · rw [j4.2.1]
      simp only [eB, tv, hu]
      split
      · exact e4
      · exact e4
    · rw [j4.2.2]
      simp only [eB, tv, hu]
      split
      · exact e5
      · rfl
  · have := hT h3 x3 (z + 1 + (l2 + 1)) ⟨fr_trans j0.1 j3.1, ?_, ?_⟩ (by omega)
    · rw [eE] at this
      exact this
    · rw [j3.2.1, j0.2.1]
      simp only [eB, tv, hn]
    · rw [j3.2.2, j0.2.2]
      simp only [eB, tv, hn]
