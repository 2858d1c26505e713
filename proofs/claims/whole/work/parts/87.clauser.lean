/-! Laws: clauses read and asked. -/
section ClauseD
variable (kk nu pl : Nat → Nat) (N : Nat)
def CFc (dp p k q : Nat) : Prop := ∀ (D : Nat) (h : lm_H) (K : Int32 → lm_H → Prop) (z : Nat), dp ≤ D → tkc kk nu pl N h → rs h p z k → z ≤ p → (∀ h', cf pl h h' q → K 0 h') → lm_call D 37 [.ref 13] h (lm_kI K)
def COc (dp p k p' k' l : Nat) (co : cD) : Prop := ∀ (D : Nat) (h : lm_H) (K : Int32 → lm_H → Prop) (z : Nat), dp ≤ D → tkc kk nu pl N h → rs h p z k → z ≤ p → (∀ h', cg h h' z p' l k' co → K 1 h') → lm_call D 37 [.ref 13] h (lm_kI K)
def MFc (dp p k q : Nat) : Prop := ∀ (D : Nat) (h : lm_H) (K : lm_H → Prop), dp ≤ D → tkm kk nu pl N h → ms h p k → (∀ h', mf pl h h' q → K h') → lm_call D 185 [.ref 92] h (lm_kV K)
def MOc (dp p k p' k' : Nat) : Prop := ∀ (D : Nat) (h : lm_H) (K : lm_H → Prop), dp ≤ D → tkm kk nu pl N h → ms h p k → (∀ h', mg h h' p' k' → K h') → lm_call D 185 [.ref 92] h (lm_kV K)
def EW (d : Nat) (h : lm_H) (K : lm_H → Prop) : Prop := (lm_W (d) 206 142 [some (.ref 92), none, none, none, none, none, none, none, none, none] [] h (lm_kV K))
def EC (dp p p' : Nat) (ef : eF) : Prop := ∀ (d : Nat) (h : lm_H) (K : lm_H → Prop) (t : Nat) (w : Nat → Int32), dp ≤ d → tke kk nu N h t w → lm_i h 92 19 = Int32.ofNat (400 * t + p) → (lm_i h 92 24 = 0 ∨ lm_i h 92 24 = 1) → (∀ h', fr [] [19, 21, 23, 24] h h' → lm_i h' 92 19 = Int32.ofNat (400 * t + (p' + 1)) → lm_i h' 92 23 = (ef w (lm_i h 92 23, lm_i h 92 24)).1 → lm_i h' 92 24 = (ef w (lm_i h 92 23, lm_i h 92 24)).2 → EW d h' K) → EW d h K
end ClauseD
theorem cg_12 {h h' : lm_H} {z p' k' l : Nat} {c : cD} (e : cg h h' z p' (1 + l) k' (cc1 1 (fun _ _ => st 12 0) c)) : cg h (lm_si h' 17 z (st 12 (z + 1 + l))) z p' (1 + l) k' (cj 12 l c) := by
  obtain ⟨e1, e2, e3, e4, e5⟩ := e
  refine ⟨fr_si e1 (by decide) (by decide) _ _, ⟨?_, ?_, ?_⟩, ?_, fun j hj => ?_, fun j hj => ?_⟩
  · rw [pi_si, if_neg (by decide)]; exact e2.1
  · rw [pi_si, if_neg (by decide)]; exact e2.2.1
  · rw [pi_si, if_neg (by decide)]; exact e2.2.2
  · rw [pi_si, if_neg (by decide)]; exact e3
  · rw [pi_si, if_pos rfl, if_neg (by omega)]; exact e4 j hj
  · rw [pi_si, if_pos rfl, cj]
    by_cases c0 : j = 0
    · rw [if_pos (by omega), if_pos c0]
    · rw [if_neg (by omega), if_neg c0, e5 j hj, cc1, if_neg (by omega)]
section ClauseT
variable {kk nu pl : Nat → Nat} {N dp p k q p1 k1 l1 p2 k2 l2 : Nat} {c1 c2 : cD} {d1 d2 : dN}
theorem Kc_f0 (ht : tks kk nu pl N) (hp : p ≤ N) (hd : 2 ≤ dp) (h1 : ¬ kk p = 263) (h2 : ¬ kk p = 264) : CFc kk nu pl N (dp + 1) p k p := by
  intro D h K z hD H hr hz hK
  obtain ⟨d, rfl⟩ := q_dp (k := 1) (D := D) (by omega)
  have hN := ht.1
  refine e_37 H.1 ?_
  refine cl_33 (by omega) ht H hr hp ?_
  rw [if_neg (show ¬ Int32.ofNat (kk p) = 263 from fun q => h1 ((kk_ne ht hp (c := 263) (by omega)).mp q)), if_neg (show ¬ Int32.ofNat (kk p) = 264 from fun q => h2 ((kk_ne ht hp (c := 264) (by omega)).mp q))]
  exact cl_34 (by omega) ht H hr hp ⟨nar0, hK _ (cf_here hr (by omega))⟩
theorem Kc_w_f1 (ht : tks kk nu pl N) (hp : p < N) (hd : 2 ≤ dp) (hop : kk p = 263) (h1 : CF kk nu pl N 45 0 dp (p + 1) k q) : CFc kk nu pl N (dp + 1) p k q := by
  intro D h K z hD H hr hz hK
  obtain ⟨d, rfl⟩ := q_dp (k := 1) (D := D) (by omega)
  have hN := ht.1
  refine e_37 H.1 ?_
  refine cl_33 (by omega) ht H hr (by omega) ?_
  have r2 : Int32.ofNat (kk p) = 263 := by rw [hop]; rfl
  simp only [r2, if_true]
  rw [hr.1, hr.2.1, q_a1]
  refine cl_35 (x := 12) (n := 0) (by omega) (lm_Lay_si H.1 _ _ _) (rs_at hr _) (by omega) ?_
  have e := cg_at (cg_emit (x := 12) (n := 0) (rs_at hr (p + 1)))
  have H3 := tkc_fr H e.1 (by decide)
  refine h1 d _ _ (z + 1) (by omega) H3 e.2.1 (by omega) (fun h4 c4 => ?_)
  rw [if_pos rfl]
  exact hK h4 (cf_tr e.1 c4)
theorem Kc_w_o (ht : tks kk nu pl N) (hp : p < N) (hd : 2 ≤ dp) (hop : kk p = 263) (h1 : CO kk nu pl N 45 0 dp (p + 1) k p1 k1 l1 c1) (hl : p + 1 + l1 ≤ p1) (hp1 : p1 ≤ N) (hn : ¬ kk p1 = 259) : COc kk nu pl N (dp + 1) p k p1 k1 (1 + (l1 + 1)) (cj 12 (l1 + 1) (cc1 l1 c1 (fun _ _ => st 13 0))) := by
  intro D h K z hD H hr hz hK
  obtain ⟨d, rfl⟩ := q_dp (k := 1) (D := D) (by omega)
  have hN := ht.1
  refine e_37 H.1 ?_
  refine cl_33 (by omega) ht H hr (by omega) ?_
  have r2 : Int32.ofNat (kk p) = 263 := by rw [hop]; rfl
  simp only [r2, if_true]
  rw [hr.1, hr.2.1, q_a1]
  refine cl_35 (x := 12) (n := 0) (by omega) (lm_Lay_si H.1 _ _ _) (rs_at hr _) (by omega) ?_
  have e := cg_at (cg_emit (x := 12) (n := 0) (rs_at hr (p + 1)))
  have H3 := tkc_fr H e.1 (by decide)
  refine h1 d _ _ (z + 1) (by omega) H3 e.2.1 (by omega) (fun h4 c4 => ?_)
  have H4 := tkc_fr H3 c4.1 (by decide)
  rw [if_neg (by decide)]
  refine cl_33 (by omega) ht H4 c4.2.1 hp1 ?_
  rw [if_neg (show ¬ Int32.ofNat (kk p1) = 259 from fun q => hn ((kk_ne ht hp1 (c := 259) (by omega)).mp q))]
  refine cl_35 (x := 13) (n := 0) (by omega) H4.1 c4.2.1 (by omega) ?_
  have g := cg_emit (x := 13) (n := 0) c4.2.1
  have e2 := cg_12 (cg_tr e (cg_tr c4 g))
  refine cl_36 (x := 12) (by omega) (fr_Lay g.1 H4.1) g.2.1 (by omega) ?_
  exact hK _ e2
theorem Kc_w_f2 (ht : tks kk nu pl N) (hp : p < N) (hd : 2 ≤ dp) (hop : kk p = 263) (h1 : CO kk nu pl N 45 0 dp (p + 1) k p1 k1 l1 c1) (hl : p + 1 + l1 ≤ p1) (hp1 : p1 ≤ N) (hif : kk p1 = 259) (h2 : CF kk nu pl N 38 0 dp (p1 + 1) k1 q) : CFc kk nu pl N (dp + 1) p k q := by
  intro D h K z hD H hr hz hK
  obtain ⟨d, rfl⟩ := q_dp (k := 1) (D := D) (by omega)
  have hN := ht.1
  refine e_37 H.1 ?_
  refine cl_33 (by omega) ht H hr (by omega) ?_
  have r2 : Int32.ofNat (kk p) = 263 := by rw [hop]; rfl
  simp only [r2, if_true]
  rw [hr.1, hr.2.1, q_a1]
  refine cl_35 (x := 12) (n := 0) (by omega) (lm_Lay_si H.1 _ _ _) (rs_at hr _) (by omega) ?_
  have e := cg_at (cg_emit (x := 12) (n := 0) (rs_at hr (p + 1)))
  have H3 := tkc_fr H e.1 (by decide)
  refine h1 d _ _ (z + 1) (by omega) H3 e.2.1 (by omega) (fun h4 c4 => ?_)
  have H4 := tkc_fr H3 c4.1 (by decide)
  rw [if_neg (by decide)]
  refine cl_33 (by omega) ht H4 c4.2.1 hp1 ?_
  rw [if_pos (show Int32.ofNat (kk p1) = 259 by rw [hif]; rfl), c4.2.1.1, q_a1]
  refine h2 d _ _ (z + 1 + l1) (by omega) (tkc_fr H4 (fr_13 h4 4 _) (by decide)) (rs_at c4.2.1 _) (by omega) (fun h5 c5 => ?_)
  rw [if_pos rfl]
  exact hK h5 (cf_tr (fr_trans e.1 (fr_trans c4.1 (fr_13 h4 4 _))) c5)
theorem Kc_w_ot (ht : tks kk nu pl N) (hp : p < N) (hd : 2 ≤ dp) (hop : kk p = 263) (h1 : CO kk nu pl N 45 0 dp (p + 1) k p1 k1 l1 c1) (hl : p + 1 + l1 ≤ p1) (hp1 : p1 ≤ N) (hif : kk p1 = 259) (h2 : CO kk nu pl N 38 0 dp (p1 + 1) k1 p2 k2 l2 c2) (hl2 : p1 + 1 + l2 ≤ p2) (hp2 : p2 ≤ N) : COc kk nu pl N (dp + 1) p k p2 k2 (1 + (l1 + (l2 + 1))) (cj 12 (l1 + (l2 + 1)) (cc1 l1 c1 (cc1 l2 c2 (fun _ _ => st 13 1)))) := by
  intro D h K z hD H hr hz hK
  obtain ⟨d, rfl⟩ := q_dp (k := 1) (D := D) (by omega)
  have hN := ht.1
  refine e_37 H.1 ?_
  refine cl_33 (by omega) ht H hr (by omega) ?_
  have r2 : Int32.ofNat (kk p) = 263 := by rw [hop]; rfl
  simp only [r2, if_true]
  rw [hr.1, hr.2.1, q_a1]
  refine cl_35 (x := 12) (n := 0) (by omega) (lm_Lay_si H.1 _ _ _) (rs_at hr _) (by omega) ?_
  have e := cg_at (cg_emit (x := 12) (n := 0) (rs_at hr (p + 1)))
  have H3 := tkc_fr H e.1 (by decide)
  refine h1 d _ _ (z + 1) (by omega) H3 e.2.1 (by omega) (fun h4 c4 => ?_)
  have H4 := tkc_fr H3 c4.1 (by decide)
  rw [if_neg (by decide)]
  refine cl_33 (by omega) ht H4 c4.2.1 hp1 ?_
  rw [if_pos (show Int32.ofNat (kk p1) = 259 by rw [hif]; rfl), c4.2.1.1, q_a1]
  refine h2 d _ _ (z + 1 + l1) (by omega) (tkc_fr H4 (fr_13 h4 4 _) (by decide)) (rs_at c4.2.1 _) (by omega) (fun h5 c5 => ?_)
  have c5' := cg_at c5
  have H5 := tkc_fr H4 c5'.1 (by decide)
  rw [if_neg (by decide)]
  refine cl_35 (x := 13) (n := 1) (by omega) H5.1 c5.2.1 (by omega) ?_
  have g := cg_emit (x := 13) (n := 1) c5.2.1
  have e2 := cg_12 (cg_tr e (cg_tr c4 (cg_tr c5' g)))
  refine cl_36 (x := 12) (by omega) (fr_Lay g.1 H5.1) g.2.1 (by omega) ?_
  rw [show z + 1 + (l1 + (l2 + 1)) = z + 1 + l1 + l2 + 1 by omega] at e2
  exact hK _ e2
theorem Kc_b_o (ht : tks kk nu pl N) (hp : p < N) (hd : 2 ≤ dp) (hop : kk p = 264) (hn : ¬ kk (p + 1) = 259) : COc kk nu pl N (dp + 1) p k (p + 1) k (1 + 1) (cj 12 1 (fun _ _ => st 14 0)) := by
  intro D h K z hD H hr hz hK
  obtain ⟨d, rfl⟩ := q_dp (k := 1) (D := D) (by omega)
  have hN := ht.1
  refine e_37 H.1 ?_
  refine cl_33 (by omega) ht H hr (by omega) ?_
  have r2 : Int32.ofNat (kk p) = 264 := by rw [hop]; rfl
  have r3 : ¬ (264 : Int32) = 263 := by decide
  simp only [r2, r3, if_true, if_false]
  rw [hr.1, hr.2.1, q_a1]
  refine cl_35 (x := 12) (n := 0) (by omega) (lm_Lay_si H.1 _ _ _) (rs_at hr _) (by omega) ?_
  have e := cg_at (cg_emit (x := 12) (n := 0) (rs_at hr (p + 1)))
  have H3 := tkc_fr H e.1 (by decide)
  refine cl_33 (by omega) ht H3 e.2.1 (by omega) ?_
  rw [if_neg (show ¬ Int32.ofNat (kk (p + 1)) = 259 from fun q => hn ((kk_ne ht (by omega) (c := 259) (by omega)).mp q))]
  refine cl_35 (x := 14) (n := 0) (by omega) H3.1 e.2.1 (by omega) ?_
  have g := cg_emit (x := 14) (n := 0) e.2.1
  have e2 := cg_12 (cg_tr e g)
  refine cl_36 (x := 12) (by omega) (fr_Lay g.1 H3.1) g.2.1 (by omega) ?_
  exact hK _ e2
theorem Kc_b_f2 (ht : tks kk nu pl N) (hp : p < N) (hd : 2 ≤ dp) (hop : kk p = 264) (hif : kk (p + 1) = 259) (h2 : CF kk nu pl N 38 0 dp (p + 1 + 1) k q) : CFc kk nu pl N (dp + 1) p k q := by
  intro D h K z hD H hr hz hK
  obtain ⟨d, rfl⟩ := q_dp (k := 1) (D := D) (by omega)
  have hN := ht.1
  refine e_37 H.1 ?_
  refine cl_33 (by omega) ht H hr (by omega) ?_
  have r2 : Int32.ofNat (kk p) = 264 := by rw [hop]; rfl
  have r3 : ¬ (264 : Int32) = 263 := by decide
  simp only [r2, r3, if_true, if_false]
  rw [hr.1, hr.2.1, q_a1]
  refine cl_35 (x := 12) (n := 0) (by omega) (lm_Lay_si H.1 _ _ _) (rs_at hr _) (by omega) ?_
  have e := cg_at (cg_emit (x := 12) (n := 0) (rs_at hr (p + 1)))
  have H3 := tkc_fr H e.1 (by decide)
  refine cl_33 (by omega) ht H3 e.2.1 (by omega) ?_
  rw [if_pos (show Int32.ofNat (kk (p + 1)) = 259 by rw [hif]; rfl), e.2.1.1, q_a1]
  refine h2 d _ _ (z + 1) (by omega) (tkc_fr H3 (fr_13 _ 4 _) (by decide)) (rs_at e.2.1 _) (by omega) (fun h5 c5 => ?_)
  rw [if_pos rfl]
  exact hK h5 (cf_tr (fr_trans e.1 (fr_13 _ 4 _)) c5)
theorem Kc_b_ot (ht : tks kk nu pl N) (hp : p < N) (hd : 2 ≤ dp) (hop : kk p = 264) (hif : kk (p + 1) = 259) (h2 : CO kk nu pl N 38 0 dp (p + 1 + 1) k p2 k2 l2 c2) (hl2 : p + 1 + 1 + l2 ≤ p2) (hp2 : p2 ≤ N) : COc kk nu pl N (dp + 1) p k p2 k2 (1 + (l2 + 1)) (cj 12 (l2 + 1) (cc1 l2 c2 (fun _ _ => st 14 1))) := by
  intro D h K z hD H hr hz hK
  obtain ⟨d, rfl⟩ := q_dp (k := 1) (D := D) (by omega)
  have hN := ht.1
  refine e_37 H.1 ?_
  refine cl_33 (by omega) ht H hr (by omega) ?_
  have r2 : Int32.ofNat (kk p) = 264 := by rw [hop]; rfl
  have r3 : ¬ (264 : Int32) = 263 := by decide
  simp only [r2, r3, if_true, if_false]
  rw [hr.1, hr.2.1, q_a1]
  refine cl_35 (x := 12) (n := 0) (by omega) (lm_Lay_si H.1 _ _ _) (rs_at hr _) (by omega) ?_
  have e := cg_at (cg_emit (x := 12) (n := 0) (rs_at hr (p + 1)))
  have H3 := tkc_fr H e.1 (by decide)
  refine cl_33 (by omega) ht H3 e.2.1 (by omega) ?_
  rw [if_pos (show Int32.ofNat (kk (p + 1)) = 259 by rw [hif]; rfl), e.2.1.1, q_a1]
  refine h2 d _ _ (z + 1) (by omega) (tkc_fr H3 (fr_13 _ 4 _) (by decide)) (rs_at e.2.1 _) (by omega) (fun h5 c5 => ?_)
  have c5' := cg_at c5
  have H5 := tkc_fr H3 c5'.1 (by decide)
  rw [if_neg (by decide)]
  refine cl_35 (x := 14) (n := 1) (by omega) H5.1 c5.2.1 (by omega) ?_
  have g := cg_emit (x := 14) (n := 1) c5.2.1
  have e2 := cg_12 (cg_tr e (cg_tr c5' g))
  refine cl_36 (x := 12) (by omega) (fr_Lay g.1 H5.1) g.2.1 (by omega) ?_
  rw [show z + 1 + l2 + 1 = z + 1 + (l2 + 1) by omega]
  exact hK _ e2
theorem Mc_f0 (ht : tks kk nu pl N) (hp : p ≤ N) (hd : 3 ≤ dp) (h1 : ¬ kk p = 263) (h2 : ¬ kk p = 264) : MFc kk nu pl N (dp + 1) p k p := by
  intro D h K hD H hr hK
  obtain ⟨d, rfl⟩ := q_dp (k := 1) (D := D) (by omega)
  refine e_185 H.1 ?_
  refine cl_181 (c := 1) (by omega) ht H hr hp (by omega) (fun q => absurd ((cO_263 _ (ht.2.1 p hp).1).1 q) h1) (fun _ => ?_)
  rw [if_pos rfl]
  refine cl_182 (c := 2) (by omega) ht H hr hp (by omega) (fun q => absurd ((cO_264 _ (ht.2.1 p hp).1).1 q) h2) (fun _ => ?_)
  have f2 : mf pl h (lm_si h 92 18 (Int32.ofNat (pl p))) p := mf_here
  refine cx_181 (by omega) (fr_Lay f2.1 H.1) (mf_b ht hp f2) ?_
  rw [if_pos rfl]
  exact hK _ f2
theorem Mc_w_f1 (ht : tks kk nu pl N) (hp : p < N) (hq : q ≤ N) (hd : 3 ≤ dp) (hop : kk p = 263) (h1 : MF kk nu pl N 189 0 dp (p + 1) k q) : MFc kk nu pl N (dp + 1) p k q := by
  intro D h K hD H hr hK
  obtain ⟨d, rfl⟩ := q_dp (k := 1) (D := D) (by omega)
  have hN := ht.1
  refine e_185 H.1 ?_
  refine cl_181 (c := 1) (by omega) ht H hr (by omega) (by omega) (fun _ => ?_) (fun q => absurd ((cO_263 _ (ht.2.1 p (by omega)).1).2 hop) q)
  rw [if_neg (by decide)]
  have f0 := fr_16 h (Int32.ofNat (p + 1))
  have H3 := tkm_fr H f0 (by decide)
  refine h1 _ _ _ (by omega) H3 (ms_at hr _) (fun h4 c4 => ?_)
  refine cx_181 (by omega) (fr_Lay c4.1 H3.1) (mf_b ht hq c4) ?_
  rw [if_pos rfl]
  exact hK h4 (mf_tr f0 c4)
theorem Mc_w_o (ht : tks kk nu pl N) (hp : p < N) (hp1 : p1 ≤ N) (hd : 3 ≤ dp) (hop : kk p = 263) (h1 : MO kk nu pl N 189 0 dp (p + 1) k p1 k1) (hn : ¬ kk p1 = 259) : MOc kk nu pl N (dp + 1) p k p1 k1 := by
  intro D h K hD H hr hK
  obtain ⟨d, rfl⟩ := q_dp (k := 1) (D := D) (by omega)
  have hN := ht.1
  refine e_185 H.1 ?_
  refine cl_181 (c := 1) (by omega) ht H hr (by omega) (by omega) (fun _ => ?_) (fun q => absurd ((cO_263 _ (ht.2.1 p (by omega)).1).2 hop) q)
  rw [if_neg (by decide)]
  have f0 := fr_16 h (Int32.ofNat (p + 1))
  have H3 := tkm_fr H f0 (by decide)
  refine h1 _ _ _ (by omega) H3 (ms_at hr _) (fun h4 c4 => ?_)
  refine cl_181 (c := 3) (by omega) ht (tkm_fr H3 c4.1 (by decide)) c4.2 hp1 (by omega) (fun q => absurd ((cO_259 _ (ht.2.1 p1 hp1).1).1 q) hn) (fun _ => ?_)
  rw [if_pos rfl]
  exact hK h4 (mg_tr f0 c4)
theorem Mc_w_f2 (ht : tks kk nu pl N) (hp : p < N) (hp1 : p1 ≤ N) (hd : 3 ≤ dp) (hop : kk p = 263) (h1 : MO kk nu pl N 189 0 dp (p + 1) k p1 k1) (hif : kk p1 = 259) (h2 : MF kk nu pl N 186 0 dp (p1 + 1) k1 q) : MFc kk nu pl N (dp + 1) p k q := by
  intro D h K hD H hr hK
  obtain ⟨d, rfl⟩ := q_dp (k := 1) (D := D) (by omega)
  have hN := ht.1
  refine e_185 H.1 ?_
  refine cl_181 (c := 1) (by omega) ht H hr (by omega) (by omega) (fun _ => ?_) (fun q => absurd ((cO_263 _ (ht.2.1 p (by omega)).1).2 hop) q)
  rw [if_neg (by decide)]
  have f0 := fr_16 h (Int32.ofNat (p + 1))
  have H3 := tkm_fr H f0 (by decide)
  refine h1 _ _ _ (by omega) H3 (ms_at hr _) (fun h4 c4 => ?_)
  have H4 := tkm_fr H3 c4.1 (by decide)
  refine cl_181 (c := 3) (by omega) ht H4 c4.2 hp1 (by omega) (fun _ => ?_) (fun q => absurd ((cO_259 _ (ht.2.1 p1 hp1).1).2 hif) q)
  rw [if_neg (by decide)]
  exact h2 _ _ _ (by omega) (tkm_fr H4 (fr_16 h4 _) (by decide)) (ms_at c4.2 _) (fun h5 c5 => hK h5 (mf_tr (fr_trans f0 (fr_trans c4.1 (fr_16 h4 _))) c5))
theorem Mc_w_ot (ht : tks kk nu pl N) (hp : p < N) (hp1 : p1 ≤ N) (hd : 3 ≤ dp) (hop : kk p = 263) (h1 : MO kk nu pl N 189 0 dp (p + 1) k p1 k1) (hif : kk p1 = 259) (h2 : MO kk nu pl N 186 0 dp (p1 + 1) k1 p2 k2) : MOc kk nu pl N (dp + 1) p k p2 k2 := by
  intro D h K hD H hr hK
  obtain ⟨d, rfl⟩ := q_dp (k := 1) (D := D) (by omega)
  have hN := ht.1
  refine e_185 H.1 ?_
  refine cl_181 (c := 1) (by omega) ht H hr (by omega) (by omega) (fun _ => ?_) (fun q => absurd ((cO_263 _ (ht.2.1 p (by omega)).1).2 hop) q)
  rw [if_neg (by decide)]
  have f0 := fr_16 h (Int32.ofNat (p + 1))
  have H3 := tkm_fr H f0 (by decide)
  refine h1 _ _ _ (by omega) H3 (ms_at hr _) (fun h4 c4 => ?_)
  have H4 := tkm_fr H3 c4.1 (by decide)
  refine cl_181 (c := 3) (by omega) ht H4 c4.2 hp1 (by omega) (fun _ => ?_) (fun q => absurd ((cO_259 _ (ht.2.1 p1 hp1).1).2 hif) q)
  rw [if_neg (by decide)]
  exact h2 _ _ _ (by omega) (tkm_fr H4 (fr_16 h4 _) (by decide)) (ms_at c4.2 _) (fun h5 c5 => hK h5 (mg_tr (fr_trans f0 (fr_trans c4.1 (fr_16 h4 _))) c5))
theorem Mc_b_o (ht : tks kk nu pl N) (hp : p < N) (hd : 3 ≤ dp) (hop : kk p = 264) (hn : ¬ kk (p + 1) = 259) : MOc kk nu pl N (dp + 1) p k (p + 1) k := by
  intro D h K hD H hr hK
  obtain ⟨d, rfl⟩ := q_dp (k := 1) (D := D) (by omega)
  have hN := ht.1
  refine e_185 H.1 ?_
  refine cl_181 (c := 1) (by omega) ht H hr (by omega) (by omega) (fun q => by have := (cO_263 _ (ht.2.1 p (by omega)).1).1 q; omega) (fun _ => ?_)
  rw [if_pos rfl]
  refine cl_182 (c := 2) (by omega) ht H hr (by omega) (by omega) (fun _ => ?_) (fun q => absurd ((cO_264 _ (ht.2.1 p (by omega)).1).2 hop) q)
  have f0 := fr_16 h (Int32.ofNat (p + 1))
  have H3 := tkm_fr H f0 (by decide)
  refine cl_181 (c := 3) (by omega) ht H3 (ms_at hr _) (by omega) (by omega) (fun q => absurd ((cO_259 _ (ht.2.1 (p + 1) (by omega)).1).1 q) hn) (fun _ => ?_)
  rw [if_pos rfl]
  exact hK _ ⟨f0, ms_at hr _⟩
theorem Mc_b_f2 (ht : tks kk nu pl N) (hp : p < N) (hd : 3 ≤ dp) (hop : kk p = 264) (hif : kk (p + 1) = 259) (h2 : MF kk nu pl N 186 0 dp (p + 1 + 1) k q) : MFc kk nu pl N (dp + 1) p k q := by
  intro D h K hD H hr hK
  obtain ⟨d, rfl⟩ := q_dp (k := 1) (D := D) (by omega)
  have hN := ht.1
  refine e_185 H.1 ?_
  refine cl_181 (c := 1) (by omega) ht H hr (by omega) (by omega) (fun q => by have := (cO_263 _ (ht.2.1 p (by omega)).1).1 q; omega) (fun _ => ?_)
  rw [if_pos rfl]
  refine cl_182 (c := 2) (by omega) ht H hr (by omega) (by omega) (fun _ => ?_) (fun q => absurd ((cO_264 _ (ht.2.1 p (by omega)).1).2 hop) q)
  have f0 := fr_16 h (Int32.ofNat (p + 1))
  have H3 := tkm_fr H f0 (by decide)
  refine cl_181 (c := 3) (by omega) ht H3 (ms_at hr _) (by omega) (by omega) (fun _ => ?_) (fun q => absurd ((cO_259 _ (ht.2.1 (p + 1) (by omega)).1).2 hif) q)
  rw [if_neg (by decide)]
  exact h2 _ _ _ (by omega) (tkm_fr H3 (fr_16 _ _) (by decide)) (ms_at (ms_at hr _) _) (fun h5 c5 => hK h5 (mf_tr (fr_trans f0 (fr_16 _ _)) c5))
theorem Mc_b_ot (ht : tks kk nu pl N) (hp : p < N) (hd : 3 ≤ dp) (hop : kk p = 264) (hif : kk (p + 1) = 259) (h2 : MO kk nu pl N 186 0 dp (p + 1 + 1) k p2 k2) : MOc kk nu pl N (dp + 1) p k p2 k2 := by
  intro D h K hD H hr hK
  obtain ⟨d, rfl⟩ := q_dp (k := 1) (D := D) (by omega)
  have hN := ht.1
  refine e_185 H.1 ?_
  refine cl_181 (c := 1) (by omega) ht H hr (by omega) (by omega) (fun q => by have := (cO_263 _ (ht.2.1 p (by omega)).1).1 q; omega) (fun _ => ?_)
  rw [if_pos rfl]
  refine cl_182 (c := 2) (by omega) ht H hr (by omega) (by omega) (fun _ => ?_) (fun q => absurd ((cO_264 _ (ht.2.1 p (by omega)).1).2 hop) q)
  have f0 := fr_16 h (Int32.ofNat (p + 1))
  have H3 := tkm_fr H f0 (by decide)
  refine cl_181 (c := 3) (by omega) ht H3 (ms_at hr _) (by omega) (by omega) (fun _ => ?_) (fun q => absurd ((cO_259 _ (ht.2.1 (p + 1) (by omega)).1).2 hif) q)
  rw [if_neg (by decide)]
  exact h2 _ _ _ (by omega) (tkm_fr H3 (fr_16 _ _) (by decide)) (ms_at (ms_at hr _) _) (fun h5 c5 => hK h5 (mg_tr (fr_trans f0 (fr_16 _ _)) c5))
theorem E_asg {d t p : Nat} {h : lm_H} {K : lm_H → Prop} {v : Int} (hv : bB v) (h24 : lm_i h 92 24 = 0 ∨ lm_i h 92 24 = 1) (hg : lm_i h 92 19 = Int32.ofNat (400 * t + p)) (fin : ∀ h', fr [] [19, 21, 23, 24] h h' → lm_i h' 92 19 = Int32.ofNat (400 * t + (p + 1)) → lm_i h' 92 23 = cw v → lm_i h' 92 24 = lm_i h 92 24 → EW d h' K) : (if (lm_i h 92 24) = 0 then (if (lg_cmp (Int64.ofInt v) (-99)) < 0 then (EW d (lm_si (lm_si (lm_si h 92 24 0) 92 23 (-99)) 92 19 ((lm_i h 92 19) + 1)) K) else (if 0 < (lg_cmp (Int64.ofInt v) 99) then (EW d (lm_si (lm_si (lm_si h 92 24 0) 92 23 99) 92 19 ((lm_i h 92 19) + 1)) K) else (EW d (lm_si (lm_si (lm_si h 92 24 0) 92 23 (Int64.ofInt v).toInt32) 92 19 ((lm_i h 92 19) + 1)) K))) else (if (lg_cmp (Int64.ofInt v) (-99)) < 0 then (EW d (lm_si (lm_si (lm_si h 92 24 1) 92 23 (-99)) 92 19 ((lm_i h 92 19) + 1)) K) else (if 0 < (lg_cmp (Int64.ofInt v) 99) then (EW d (lm_si (lm_si (lm_si h 92 24 1) 92 23 99) 92 19 ((lm_i h 92 19) + 1)) K) else (EW d (lm_si (lm_si (lm_si h 92 24 1) 92 23 (Int64.ofInt v).toInt32) 92 19 ((lm_i h 92 19) + 1)) K)))) := by
  have hb := bB_big hv
  have one : ∀ b, b = lm_i h 92 24 → (if (lg_cmp (Int64.ofInt v) (-99)) < 0 then (EW d (lm_si (lm_si (lm_si h 92 24 b) 92 23 (-99)) 92 19 ((lm_i h 92 19) + 1)) K) else (if 0 < (lg_cmp (Int64.ofInt v) 99) then (EW d (lm_si (lm_si (lm_si h 92 24 b) 92 23 99) 92 19 ((lm_i h 92 19) + 1)) K) else (EW d (lm_si (lm_si (lm_si h 92 24 b) 92 23 (Int64.ofInt v).toInt32) 92 19 ((lm_i h 92 19) + 1)) K))) := by
    intro b hb24
    have f3 : ∀ x, x = cw v → EW d (lm_si (lm_si (lm_si h 92 24 b) 92 23 x) 92 19 ((lm_i h 92 19) + 1)) K := by
      intro x hx
      rw [hg, q_a1]
      refine fin _ (fr_s92 (fr_s92 (fr_s92 (fr_refl _ _ _) (by decide) _) (by decide) _) (by decide) _) ?_ ?_ ?_
      · rw [pi_si, if_pos rfl, if_pos rfl]; rfl
      · simp only [pi_si, Nat.reduceEqDiff, if_true, if_false]; exact hx
      · simp only [pi_si, Nat.reduceEqDiff, if_true, if_false]; exact hb24
    by_cases c1 : v < -99
    · rw [if_pos (by rw [lg_cmp_lt, show (-99 : Int64) = Int64.ofInt (-99) from rfl, l_ltB hb (by omega)]; exact c1)]
      exact f3 _ (by rw [cw, if_pos c1])
    · rw [if_neg (by rw [lg_cmp_lt, show (-99 : Int64) = Int64.ofInt (-99) from rfl, l_ltB hb (by omega)]; exact c1)]
      by_cases c2 : 99 < v
      · rw [if_pos (by rw [lg_cmp_gt, show (99 : Int64) = Int64.ofInt 99 from rfl, l_ltB (by omega) hb]; exact c2)]
        exact f3 _ (by rw [cw, if_neg c1, if_pos c2])
      · rw [if_neg (by rw [lg_cmp_gt, show (99 : Int64) = Int64.ofInt 99 from rfl, l_ltB (by omega) hb]; exact c2)]
        exact f3 _ (by rw [cw, if_neg c1, if_neg c2, Int64.toInt32_ofInt])
  rcases h24 with q | q
  · rw [if_pos q]
    exact one 0 q.symm
  · rw [if_neg (by rw [q]; decide)]
    exact one 1 q.symm
theorem E_skip {d t p : Nat} {h0 h : lm_H} {K : lm_H → Prop} (hf : fr [] [19, 21] h0 h) (hg : lm_i h 92 19 = Int32.ofNat (400 * t + p)) (fin : ∀ h', fr [] [19, 21, 23, 24] h0 h' → lm_i h' 92 19 = Int32.ofNat (400 * t + (p + 1)) → lm_i h' 92 23 = lm_i h0 92 23 → lm_i h' 92 24 = lm_i h0 92 24 → EW d h' K) : EW d (lm_si h 92 19 ((lm_i h 92 19) + 1)) K := by
  rw [hg, q_a1]
  refine fin _ (fr_s92 (fr_sub hf (by decide) (by decide)) (by decide) _) ?_ ?_ ?_
  · rw [pi_si, if_pos rfl, if_pos rfl]; rfl
  · rw [pi_si, if_pos rfl, if_neg (by decide), fr_m hf (by decide)]
  · rw [pi_si, if_pos rfl, if_neg (by decide), fr_m hf (by decide)]
theorem E_bar {d t p : Nat} {h0 h : lm_H} {K : lm_H → Prop} (hf : fr [] [19, 21] h0 h) (hg : lm_i h 92 19 = Int32.ofNat (400 * t + p)) (fin : ∀ h', fr [] [19, 21, 23, 24] h0 h' → lm_i h' 92 19 = Int32.ofNat (400 * t + (p + 1)) → lm_i h' 92 23 = lm_i h0 92 23 → lm_i h' 92 24 = 1 → EW d h' K) : EW d (lm_si (lm_si h 92 24 1) 92 19 ((lm_i h 92 19) + 1)) K := by
  rw [hg, q_a1]
  refine fin _ (fr_s92 (fr_s92 (fr_sub hf (by decide) (by decide)) (by decide) _) (by decide) _) ?_ ?_ ?_
  · rw [pi_si, if_pos rfl, if_pos rfl]; rfl
  · simp only [pi_si, Nat.reduceEqDiff, if_true, if_false]
    exact fr_m hf (by decide)
  · simp only [pi_si, Nat.reduceEqDiff, if_true, if_false]
theorem Ec_b (ht : tks kk nu pl N) (hp : p < N) (hd : 3 ≤ dp) (hop : kk p = 264) (hn : ¬ kk (p + 1) = 259) : EC kk nu N dp p (p + 1) (eB none) := by
  intro d h K t w hD H hg h24 fin
  have hN := ht.1
  have h6 := H.2.1
  have hkk := (ht.2.1 p (by omega)).1
  refine b_206_142 H.1 ?_
  rw [hg, H.2.2.1, if_pos (by rw [q_lt (by omega) (by omega)]; omega)]
  refine cl_196 (by omega) ht H (by omega) ?_
  rw [if_pos (show Int32.ofNat (cO (kk p)) = 2 by rw [hop]; rfl), hg, q_a1]
  have f0 : fr [] [19, 21] h (lm_si (lm_si (lm_si h 92 21 0) 92 19 (Int32.ofNat (400 * t + p + 1))) 92 21 0) := fr_trans (fr_trans (fr_21 h 0) (fr_19 _ _)) (fr_21 _ 0)
  have g0 : lm_i (lm_si (lm_si (lm_si h 92 21 0) 92 19 (Int32.ofNat (400 * t + p + 1))) 92 21 0) 92 19 = Int32.ofNat (400 * t + (p + 1)) := by rw [g21, g19]; rfl
  have k0 := b21 (lm_si (lm_si h 92 21 0) 92 19 (Int32.ofNat (400 * t + p + 1))) 0
  generalize (lm_si (lm_si (lm_si h 92 21 0) 92 19 (Int32.ofNat (400 * t + p + 1))) 92 21 0) = h0 at f0 g0 k0
  refine cl_197 (c := 3) (by omega) ht (tke_fr H f0 (by decide)) g0 (by omega) (by omega) (fun q => absurd ((cO_259 _ (ht.2.1 (p + 1) (by omega)).1).1 q) hn) (fun _ => ?_)
  rw [if_pos rfl, if_pos k0]
  have fb := E_bar (d := d) (K := K) f0 g0 (fun h' a1 a2 a3 a4 => fin h' a1 a2 a3 a4)
  split
  · exact fb
  · exact fb
theorem Ec_bt (ht : tks kk nu pl N) (hp : p < N) (hp2 : p2 ≤ N) (hd : 3 ≤ dp) (hop : kk p = 264) (hif : kk (p + 1) = 259) (h2 : IL kk nu N 202 dp (p + 1 + 1) p2 d2) : EC kk nu N dp p p2 (eB (some d2)) := by
  intro d h K t w hD H hg h24 fin
  have hN := ht.1
  have h6 := H.2.1
  have hkk := (ht.2.1 p (by omega)).1
  refine b_206_142 H.1 ?_
  rw [hg, H.2.2.1, if_pos (by rw [q_lt (by omega) (by omega)]; omega)]
  refine cl_196 (by omega) ht H (by omega) ?_
  rw [if_pos (show Int32.ofNat (cO (kk p)) = 2 by rw [hop]; rfl), hg, q_a1]
  have f0 : fr [] [19, 21] h (lm_si (lm_si (lm_si h 92 21 0) 92 19 (Int32.ofNat (400 * t + p + 1))) 92 21 0) := fr_trans (fr_trans (fr_21 h 0) (fr_19 _ _)) (fr_21 _ 0)
  have g0 : lm_i (lm_si (lm_si (lm_si h 92 21 0) 92 19 (Int32.ofNat (400 * t + p + 1))) 92 21 0) 92 19 = Int32.ofNat (400 * t + (p + 1)) := by rw [g21, g19]; rfl
  have k0 := b21 (lm_si (lm_si h 92 21 0) 92 19 (Int32.ofNat (400 * t + p + 1))) 0
  generalize (lm_si (lm_si (lm_si h 92 21 0) 92 19 (Int32.ofNat (400 * t + p + 1))) 92 21 0) = h0 at f0 g0 k0
  have hp1 : p + 1 < N := kk_lt ht (by omega) (by omega)
  refine cl_197 (c := 3) (by omega) ht (tke_fr H f0 (by decide)) g0 (by omega) (by omega) (fun _ => ?_) (fun q => absurd ((cO_259 _ (ht.2.1 (p + 1) (by omega)).1).2 hif) q)
  rw [if_neg (by decide)]
  have f1 := fr_trans f0 (fr_19 h0 (Int32.ofNat (400 * t + (p + 1 + 1))))
  refine h2 _ _ _ t w (by omega) (tke_fr H f1 (by decide)) (g19 _ _) (by rw [b19]; exact k0) (fun u hu h5 c5 => ?_) (fun hn h5 r hr c5 => ?_)
  · have f5 := fr_trans f1 c5.1
    by_cases c0 : u = 0
    · rw [bI_0 c0, if_pos rfl]
      refine E_skip f5 c5.2.1 (fun h' a1 a2 a3 a4 => fin h' a1 a2 ?_ ?_)
      · simp only [eB, tv, hu, if_pos c0]; exact a3
      · simp only [eB, tv, hu, if_pos c0]; exact a4
    · rw [bI_1 c0, if_neg (by decide), if_pos c5.2.2]
      have fb := E_bar (d := d) (K := K) f5 c5.2.1 (fun h' a1 a2 a3 a4 => fin h' a1 a2 (by simp only [eB, tv, hu, if_neg c0]; exact a3) (by simp only [eB, tv, hu, if_neg c0]; exact a4))
      split
      · exact fb
      · exact fb
  · have f5 := fr_trans f1 c5.1
    have fs := E_skip (d := d) (K := K) f5 c5.2.1 (fun h' a1 a2 a3 a4 => fin h' a1 a2 (by simp only [eB, tv, hn]; exact a3) (by simp only [eB, tv, hn]; exact a4))
    split
    · exact fs
    · rw [if_neg (by rw [c5.2.2]; decide)]
      exact fs
theorem Ec_w (ht : tks kk nu pl N) (hp : p < N) (hp1 : p1 ≤ N) (hd : 3 ≤ dp) (hop : kk p = 263) (h1 : EL kk nu N 199 dp (p + 1) p1 d1) (hb1 : ∀ w v, d1 w = some v → bB v) (hn : ¬ kk p1 = 259) : EC kk nu N dp p p1 (eW d1 none) := by
  intro d h K t w hD H hg h24 fin
  have hN := ht.1
  have h6 := H.2.1
  have hkk := (ht.2.1 p (by omega)).1
  refine b_206_142 H.1 ?_
  rw [hg, H.2.2.1, if_pos (by rw [q_lt (by omega) (by omega)]; omega)]
  refine cl_196 (by omega) ht H (by omega) ?_
  rw [if_neg (show ¬ Int32.ofNat (cO (kk p)) = 2 by rw [hop]; decide), hg, q_a1]
  have f0 : fr [] [19, 21] h (lm_si (lm_si h 92 21 0) 92 19 (Int32.ofNat (400 * t + p + 1))) := fr_trans (fr_21 h 0) (fr_19 _ _)
  have g0 : lm_i (lm_si (lm_si h 92 21 0) 92 19 (Int32.ofNat (400 * t + p + 1))) 92 19 = Int32.ofNat (400 * t + (p + 1)) := by rw [g19]; rfl
  have k0 : lm_i (lm_si (lm_si h 92 21 0) 92 19 (Int32.ofNat (400 * t + p + 1))) 92 21 = 0 := by rw [b19, b21]
  generalize (lm_si (lm_si h 92 21 0) 92 19 (Int32.ofNat (400 * t + p + 1))) = h0 at f0 g0 k0
  have nxt : ∀ h7, fr [] [19, 21] h h7 → lm_i h7 92 19 = Int32.ofNat (400 * t + p1) → ∀ K2, (∀ h9, h9 = lm_si h7 92 21 0 → K2 0 h9) → lm_call d 197 [.ref 92, .int 3] (lm_si h7 92 21 0) (lm_kI K2) := by
    intro h7 f7 g7 K2 hK2
    exact cl_197 (c := 3) (p := p1) (t := t) (by omega) ht (tke_fr H (fr_trans f7 (fr_21 h7 0)) (by decide)) (by rw [g21]; exact g7) hp1 (by omega) (fun q => absurd ((cO_259 _ (ht.2.1 p1 hp1).1).1 q) hn) (fun _ => hK2 _ rfl)
  refine h1 _ _ _ t w (by omega) (tke_fr H f0 (by decide)) g0 k0 (fun v hv h7 c7 => ?_) (fun hn7 h7 r c7 => ?_)
  · have f7 := fr_trans f0 c7.1
    refine nxt h7 f7 c7.2.1 _ (fun h9 e9 => ?_)
    have f9 : fr [] [19, 21] h h9 := by rw [e9]; exact fr_trans f7 (fr_21 h7 0)
    have g9 : lm_i h9 92 19 = Int32.ofNat (400 * t + p1) := by rw [e9, g21]; exact c7.2.1
    have k9 : lm_i h9 92 21 = 0 := by rw [e9, b21]
    rw [if_pos rfl, if_pos k9, if_pos c7.2.2]
    refine E_asg (hb1 w v hv) (by rw [fr_m f9 (by decide)]; exact h24) g9 (fun h' a1 a2 a3 a4 => fin h' (fr_trans (fr_sub f9 (by decide) (by decide)) a1) a2 ?_ ?_)
    · simp only [eW, hv, tv]; exact a3
    · rw [a4, fr_m f9 (by decide)]
      simp only [eW, hv, tv]
      rfl
  · have f7 := fr_trans f0 c7.1
    refine nxt h7 f7 c7.2.1 _ (fun h9 e9 => ?_)
    have f9 : fr [] [19, 21] h h9 := by rw [e9]; exact fr_trans f7 (fr_21 h7 0)
    have g9 : lm_i h9 92 19 = Int32.ofNat (400 * t + p1) := by rw [e9, g21]; exact c7.2.1
    have k9 : lm_i h9 92 21 = 0 := by rw [e9, b21]
    rw [if_pos rfl, if_pos k9, if_neg (by rw [c7.2.2]; decide)]
    exact E_skip f9 g9 (fun h' a1 a2 a3 a4 => fin h' a1 a2 (by simp only [eW, hn7]; exact a3) (by simp only [eW, hn7]; exact a4))
theorem Ec_wt (ht : tks kk nu pl N) (hp : p < N) (hp1 : p1 ≤ N) (hd : 3 ≤ dp) (hop : kk p = 263) (h1 : EL kk nu N 199 dp (p + 1) p1 d1) (hb1 : ∀ w v, d1 w = some v → bB v) (hif : kk p1 = 259) (h2 : IL kk nu N 202 dp (p1 + 1) p2 d2) : EC kk nu N dp p p2 (eW d1 (some d2)) := by
  intro d h K t w hD H hg h24 fin
  have hN := ht.1
  have h6 := H.2.1
  have hkk := (ht.2.1 p (by omega)).1
  refine b_206_142 H.1 ?_
  rw [hg, H.2.2.1, if_pos (by rw [q_lt (by omega) (by omega)]; omega)]
  refine cl_196 (by omega) ht H (by omega) ?_
  rw [if_neg (show ¬ Int32.ofNat (cO (kk p)) = 2 by rw [hop]; decide), hg, q_a1]
  have f0 : fr [] [19, 21] h (lm_si (lm_si h 92 21 0) 92 19 (Int32.ofNat (400 * t + p + 1))) := fr_trans (fr_21 h 0) (fr_19 _ _)
  have g0 : lm_i (lm_si (lm_si h 92 21 0) 92 19 (Int32.ofNat (400 * t + p + 1))) 92 19 = Int32.ofNat (400 * t + (p + 1)) := by rw [g19]; rfl
  have k0 : lm_i (lm_si (lm_si h 92 21 0) 92 19 (Int32.ofNat (400 * t + p + 1))) 92 21 = 0 := by rw [b19, b21]
  generalize (lm_si (lm_si h 92 21 0) 92 19 (Int32.ofNat (400 * t + p + 1))) = h0 at f0 g0 k0
  have nxt : ∀ h7, fr [] [19, 21] h h7 → lm_i h7 92 19 = Int32.ofNat (400 * t + p1) → ∀ K2, (∀ h9, fr [] [19, 21] h h9 → lm_i h9 92 19 = Int32.ofNat (400 * t + (p1 + 1)) → lm_i h9 92 21 = 0 → K2 1 h9) → lm_call d 197 [.ref 92, .int 3] (lm_si h7 92 21 0) (lm_kI K2) := by
    intro h7 f7 g7 K2 hK2
    exact cl_197 (c := 3) (p := p1) (t := t) (by omega) ht (tke_fr H (fr_trans f7 (fr_21 h7 0)) (by decide)) (by rw [g21]; exact g7) hp1 (by omega) (fun _ => hK2 _ (fr_trans (fr_trans f7 (fr_21 h7 0)) (fr_19 _ _)) (g19 _ _) (by rw [b19, b21])) (fun q => absurd ((cO_259 _ (ht.2.1 p1 hp1).1).2 hif) q)
  refine h1 _ _ _ t w (by omega) (tke_fr H f0 (by decide)) g0 k0 (fun v hv h7 c7 => ?_) (fun hn7 h7 r c7 => ?_)
  · refine nxt h7 (fr_trans f0 c7.1) c7.2.1 _ (fun h9 f9 g9 k9 => ?_)
    rw [if_neg (by decide)]
    refine h2 _ _ _ t w (by omega) (tke_fr H f9 (by decide)) g9 k9 (fun u hu h5 c5 => ?_) (fun hn h5 r hr c5 => ?_)
    · have f5 := fr_trans f9 c5.1
      by_cases c0 : u = 0
      · rw [bI_0 c0, if_pos rfl]
        refine E_skip f5 c5.2.1 (fun h' a1 a2 a3 a4 => fin h' a1 a2 ?_ ?_)
        · simp only [eW, hv, tv, hu, if_pos c0]; exact a3
        · simp only [eW, hv, tv, hu, if_pos c0]; exact a4
      · rw [bI_1 c0, if_neg (by decide), if_pos c5.2.2, if_pos c7.2.2]
        refine E_asg (hb1 w v hv) (by rw [fr_m f5 (by decide)]; exact h24) c5.2.1 (fun h' a1 a2 a3 a4 => fin h' (fr_trans (fr_sub f5 (by decide) (by decide)) a1) a2 ?_ ?_)
        · simp only [eW, hv, tv, hu, if_neg c0]; exact a3
        · rw [a4, fr_m f5 (by decide)]
          simp only [eW, hv, tv, hu, if_neg c0]
    · have f5 := fr_trans f9 c5.1
      have fs := E_skip (d := d) (K := K) f5 c5.2.1 (fun h' a1 a2 a3 a4 => fin h' a1 a2 (by simp only [eW, hv, tv, hn]; exact a3) (by simp only [eW, hv, tv, hn]; exact a4))
      split
      · exact fs
      · rw [if_neg (by rw [c5.2.2]; decide)]
        exact fs
  · refine nxt h7 (fr_trans f0 c7.1) c7.2.1 _ (fun h9 f9 g9 k9 => ?_)
    rw [if_neg (by decide)]
    have one : ∀ (h5 : lm_H) (r5 : Int32), eg h9 h5 t p2 0 ∨ eg h9 h5 t p2 1 → (if r5 = 0 then (lm_W (d) 206 142 [some (.ref 92), none, none, none, none, none, none, none, none, none] [] (lm_si h5 92 19 ((lm_i h5 92 19) + 1)) (lm_kV K)) else (if (lm_i h5 92 21) = 0 then (if (lm_i h7 92 21) = 0 then (if (lm_i h5 92 24) = 0 then (if (lg_cmp r (-99)) < 0 then (lm_W (d) 206 142 [some (.ref 92), none, none, none, none, none, none, none, none, none] [] (lm_si (lm_si (lm_si h5 92 24 0) 92 23 (-99)) 92 19 ((lm_i h5 92 19) + 1)) (lm_kV K)) else (if 0 < (lg_cmp r 99) then (lm_W (d) 206 142 [some (.ref 92), none, none, none, none, none, none, none, none, none] [] (lm_si (lm_si (lm_si h5 92 24 0) 92 23 99) 92 19 ((lm_i h5 92 19) + 1)) (lm_kV K)) else (lm_W (d) 206 142 [some (.ref 92), none, none, none, none, none, none, none, none, none] [] (lm_si (lm_si (lm_si h5 92 24 0) 92 23 r.toInt32) 92 19 ((lm_i h5 92 19) + 1)) (lm_kV K)))) else (if (lg_cmp r (-99)) < 0 then (lm_W (d) 206 142 [some (.ref 92), none, none, none, none, none, none, none, none, none] [] (lm_si (lm_si (lm_si h5 92 24 1) 92 23 (-99)) 92 19 ((lm_i h5 92 19) + 1)) (lm_kV K)) else (if 0 < (lg_cmp r 99) then (lm_W (d) 206 142 [some (.ref 92), none, none, none, none, none, none, none, none, none] [] (lm_si (lm_si (lm_si h5 92 24 1) 92 23 99) 92 19 ((lm_i h5 92 19) + 1)) (lm_kV K)) else (lm_W (d) 206 142 [some (.ref 92), none, none, none, none, none, none, none, none, none] [] (lm_si (lm_si (lm_si h5 92 24 1) 92 23 r.toInt32) 92 19 ((lm_i h5 92 19) + 1)) (lm_kV K))))) else (lm_W (d) 206 142 [some (.ref 92), none, none, none, none, none, none, none, none, none] [] (lm_si h5 92 19 ((lm_i h5 92 19) + 1)) (lm_kV K))) else (lm_W (d) 206 142 [some (.ref 92), none, none, none, none, none, none, none, none, none] [] (lm_si h5 92 19 ((lm_i h5 92 19) + 1)) (lm_kV K)))) := by
      intro h5 r5 c5
      have f5 : fr [] [19, 21] h h5 := by
        rcases c5 with c5 | c5
        · exact fr_trans f9 c5.1
        · exact fr_trans f9 c5.1
      have g5 : lm_i h5 92 19 = Int32.ofNat (400 * t + p2) := by
        rcases c5 with c5 | c5
        · exact c5.2.1
        · exact c5.2.1
      have fs := E_skip (d := d) (K := K) f5 g5 (fun h' a1 a2 a3 a4 => fin h' a1 a2 (by simp only [eW, hn7]; exact a3) (by simp only [eW, hn7]; exact a4))
      split
      · exact fs
      split
      · rw [if_neg (by rw [c7.2.2]; decide)]
        exact fs
      · exact fs
    refine h2 _ _ _ t w (by omega) (tke_fr H f9 (by decide)) g9 k9 (fun u hu h5 c5 => ?_) (fun hn h5 r hr c5 => ?_)
    · exact one h5 _ (Or.inl c5)
    · exact one h5 _ (Or.inr c5)
end ClauseT
