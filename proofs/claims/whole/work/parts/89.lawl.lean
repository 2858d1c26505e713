/-! Laws: clause by clause to the end. -/
def eR (ef : eF) : Prop := ∀ w s, (-99 ≤ s.1 ∧ s.1 ≤ 99) ∧ (s.2 = 0 ∨ s.2 = 1) → (-99 ≤ (ef w s).1 ∧ (ef w s).1 ≤ 99) ∧ ((ef w s).2 = 0 ∨ (ef w s).2 = 1)
theorem cw_r (v : Int) : -99 ≤ cw v ∧ cw v ≤ 99 := by
  unfold cw
  split
  · decide
  split
  · decide
  · have e : (Int32.ofInt v).toInt = v := Int32.toInt_ofInt_of_le (by omega) (by omega)
    rw [p_le, p_le, e]
    have e1 : (-99 : Int32).toInt = -99 := rfl
    have e2 : (99 : Int32).toInt = 99 := rfl
    omega
theorem eW_r (d1 : dN) (o : Option dN) : eR (eW d1 o) := by
  intro w s hs
  unfold eW
  cases d1 w with
  | none => exact hs
  | some v =>
    simp only
    cases tv o w with
    | none => exact hs
    | some u =>
      simp only
      split
      · exact hs
      · exact ⟨cw_r v, hs.2⟩
theorem eB_r (o : Option dN) : eR (eB o) := by
  intro w s hs
  unfold eB
  cases tv o w with
  | none => exact hs
  | some u =>
    simp only
    split
    · exact hs
    · exact ⟨hs.1, Or.inr rfl⟩
theorem eR_seq {e1 e2 : eF} (h1 : eR e1) (h2 : eR e2) : eR (fun w s => e2 w (e1 w s)) := fun w s hs => h2 w _ (h1 w s hs)
section LawD
variable (kk nu pl : Nat → Nat) (N : Nat)
def GC (p k : Nat) : Prop := (∃ q, q ≤ N ∧ CFc kk nu pl N 157 p k q ∧ MFc kk nu pl N 157 p k q) ∨ ∃ (p1 k1 l : Nat) (co : cD) (ef : eF), (p < p1 ∧ p1 ≤ N ∧ k1 ≤ 50 ∧ p + l ≤ p1 + 1 ∧ 1 ≤ l) ∧ COc kk nu pl N 157 p k p1 k1 l co ∧ MOc kk nu pl N 157 p k p1 k1 ∧ JC l co ef ∧ EC kk nu N 156 p p1 ef ∧ eR ef
def CFl (n p k q : Nat) : Prop := ∀ (d : Nat) (h : lm_H) (K : Option Nat → lm_H → Prop) (z : Nat), 157 ≤ d → tkc kk nu pl N h → rs h p z k → z ≤ p + 1 → (∀ h', cf pl h h' q → K none h') → (lm_W (d) 25 40 [some (.ref 13), none, none, some (.int 1), some (.int (Int32.ofNat n))] [] h (lm_kR K))
def COl (n p k p' l : Nat) (co : cD) : Prop := ∀ (d : Nat) (h : lm_H) (K : Option Nat → lm_H → Prop) (z : Nat), 157 ≤ d → tkc kk nu pl N h → rs h p z k → z ≤ p + 1 → (∀ h' k', cg h h' z p' l k' co → lm_W d 25 118 [some (.ref 13), none, none, none, none] [] h' (lm_kR K)) → (lm_W (d) 25 40 [some (.ref 13), none, none, some (.int 1), some (.int (Int32.ofNat n))] [] h (lm_kR K))
def MFl (n p k q : Nat) : Prop := ∀ (d : Nat) (h : lm_H) (K : Int32 → lm_H → Prop), 157 ≤ d + 1 → tkm kk nu pl N h → ms h p k → lm_i h 92 15 = Int32.ofNat N → (∀ h', fr [] [11, 16, 17, 18] h h' → lm_i h' 92 11 = Int32.ofNat (pl q) → K 0 h') → (lm_W (d + 1) 192 34 [some (.ref 92), some (.int (Int32.ofNat n))] [] h (lm_kI K))
def MOl (n p k : Nat) : Prop := ∀ (d : Nat) (h : lm_H) (K : Int32 → lm_H → Prop), 157 ≤ d + 1 → tkm kk nu pl N h → ms h p k → lm_i h 92 15 = Int32.ofNat N → (∀ h', fr [] [11, 16, 17, 18] h h' → lm_i h' 92 11 = -1 → K 1 h') → (lm_W (d + 1) 192 34 [some (.ref 92), some (.int (Int32.ofNat n))] [] h (lm_kI K))
def ET (p : Nat) (ef : eF) : Prop := ∀ (d : Nat) (h : lm_H) (K : lm_H → Prop) (t : Nat) (w : Nat → Int32), 156 ≤ d → tke kk nu N h t w → lm_i h 92 19 = Int32.ofNat (400 * t + p) → (-99 ≤ lm_i h 92 23 ∧ lm_i h 92 23 ≤ 99) ∧ (lm_i h 92 24 = 0 ∨ lm_i h 92 24 = 1) → (∀ h', fr [] [19, 21, 23, 24] h h' → lm_i h' 92 23 = (ef w (lm_i h 92 23, lm_i h 92 24)).1 → lm_i h' 92 24 = (ef w (lm_i h 92 23, lm_i h 92 24)).2 → K h') → EW d h K
def GLt (n p k : Nat) : Prop := (∃ q, q ≤ N ∧ CFl kk nu pl N n p k q ∧ MFl kk nu pl N n p k q) ∨ ∃ (p1 l : Nat) (co : cD) (ef : eF), (p ≤ p1 ∧ p1 ≤ N ∧ p + l ≤ p1) ∧ COl kk nu pl N n p k p1 l co ∧ MOl kk nu pl N n p k ∧ JC l co ef ∧ ET kk nu N (p + 1) ef ∧ eR ef
end LawD
section LawT
variable {kk nu pl : Nat → Nat} {N p k n q p1 k1 l1 p2 l2 : Nat} {c1 c2 : cD} {e1 e2 : eF}
theorem GC_all (ht : tks kk nu pl N) (hp : p ≤ N) (hk : k ≤ 50) : GC kk nu pl N p k := by
  have all : ∀ p', p' ≤ N → GA kk nu pl N p' := fun p' h => law_all ht (N - p' + 1) p' h (by omega)
  by_cases c1 : kk p = 263
  · have hpN : p < N := kk_lt ht hp (by omega)
    rcases (all (p + 1) (by omega) 0 (by omega) k hk).2.2.2.2.2.2.1 with ⟨q, hq, f1, f2⟩ | ⟨p1, k1, l1, co1, d1, ⟨n1, n2, n3, n4, n5⟩, j2, j3, j4, j5, j6, j7⟩
    · exact Or.inl ⟨q, hq, Kc_w_f1 ht hpN (by omega) c1 (CF_m (dp' := 156) f1 (by omega)), Mc_w_f1 ht hpN hq (by omega) c1 (MF_m (dp' := 156) f2 (by omega))⟩
    have j2 := CO_m (dp' := 156) j2 (by omega)
    have j3 := MO_m (dp' := 156) j3 (by omega)
    have j6 := EL_m (dp' := 156) j6 (by omega)
    by_cases c2 : kk p1 = 259
    · have hp1 : p1 < N := kk_lt ht n2 (by omega)
      rcases (all (p1 + 1) (by omega) 0 (by omega) k1 n3).2.2.2.2.2.2.2.2.2.2.2 with ⟨q, hq, f1, f2⟩ | ⟨p2, k2, l2, co2, d2, ⟨m1, m2, m3, m4, m5⟩, i2, i3, i4, i5, i6, i7⟩
      · exact Or.inl ⟨q, hq, Kc_w_f2 ht hpN (by omega) c1 j2 n4 n2 c2 f1, Mc_w_f2 ht hpN n2 (by omega) c1 j3 c2 f2⟩
      · exact Or.inr ⟨p2, k2, _, _, _, ⟨by omega, m2, m3, by omega, by omega⟩, Kc_w_ot ht hpN (by omega) c1 j2 n4 n2 c2 i2 m4 m2, Mc_w_ot ht hpN n2 (by omega) c1 j3 c2 i3, JC_wt j4 n5 j5 i4 m5 i5, Ec_wt ht hpN n2 (by omega) c1 j6 j5 c2 i6, eW_r _ _⟩
    · exact Or.inr ⟨p1, k1, _, _, _, ⟨by omega, n2, n3, by omega, by omega⟩, Kc_w_o ht hpN (by omega) c1 j2 n4 n2 c2, Mc_w_o ht hpN n2 (by omega) c1 j3 c2, JC_w0 j4 n5 j5, Ec_w ht hpN n2 (by omega) c1 j6 j5 c2, eW_r _ _⟩
  by_cases c2 : kk p = 264
  · have hpN : p < N := kk_lt ht hp (by omega)
    by_cases c3 : kk (p + 1) = 259
    · have hp1 : p + 1 < N := kk_lt ht (by omega) (by omega)
      rcases (all (p + 1 + 1) (by omega) 0 (by omega) k hk).2.2.2.2.2.2.2.2.2.2.2 with ⟨q, hq, f1, f2⟩ | ⟨p2, k2, l2, co2, d2, ⟨m1, m2, m3, m4, m5⟩, i2, i3, i4, i5, i6, i7⟩
      · exact Or.inl ⟨q, hq, Kc_b_f2 ht hpN (by omega) c2 c3 f1, Mc_b_f2 ht hpN (by omega) c2 c3 f2⟩
      · exact Or.inr ⟨p2, k2, _, _, _, ⟨by omega, m2, m3, by omega, by omega⟩, Kc_b_ot ht hpN (by omega) c2 c3 i2 m4 m2, Mc_b_ot ht hpN (by omega) c2 c3 i3, JC_bt i4 m5 i5, Ec_bt ht hpN m2 (by omega) c2 c3 i6, eB_r _⟩
    · exact Or.inr ⟨p + 1, k, _, _, _, ⟨by omega, by omega, hk, by omega, by omega⟩, Kc_b_o ht hpN (by omega) c2 c3, Mc_b_o ht hpN (by omega) c2 c3, JC_b0, Ec_b ht hpN (by omega) c2 c3, eB_r _⟩
  · exact Or.inl ⟨p, hp, Kc_f0 ht hp (by omega) c1 c2, Mc_f0 ht hp (by omega) c1 c2⟩
/-- read fails behind a fault -/
theorem Cx_40 {d : Nat} {h : lm_H} {K : Option Nat → lm_H → Prop} {x : Int32} (hl : lm_Lay h) (hK : K none h) : (lm_W (d) 25 40 [some (.ref 13), none, none, some (.int 0), some (.int x)] [] h (lm_kR K)) := by
  refine b_25_40 _ _ hl ?_
  rw [if_pos rfl, if_pos rfl, if_pos rfl]
  exact hK
theorem Mx_34 {d : Nat} {h : lm_H} {K : Int32 → lm_H → Prop} {x : Int32} (hd : 2 ≤ d + 1) (hl : lm_Lay h) (hb : ¬ lm_i h 92 18 = -1) (hK : K 0 (lm_si h 92 11 (lm_i h 92 18))) : (lm_W (d + 1) 192 34 [some (.ref 92), some (.int x)] [] h (lm_kI K)) := by
  refine b_192_34 _ hl ?_
  refine cx_181 hd hl hb ?_
  rw [if_pos rfl, if_neg hb, if_neg hb]
  exact hK
theorem mf_11 {h h' : lm_H} (c : mf pl h h' q) : fr [] [11, 16, 17, 18] h (lm_si h' 92 11 (lm_i h' 92 18)) ∧ lm_i (lm_si h' 92 11 (lm_i h' 92 18)) 92 11 = Int32.ofNat (pl q) := ⟨fr_s92 (fr_sub c.1 (by decide) (by decide)) (by decide) _, by rw [pi_si, if_pos rfl, if_pos rfl]; exact c.2⟩
/-- another clause -/
theorem L_semi {d : Nat} {h : lm_H} {K : Option Nat → lm_H → Prop} {z : Nat} (ht : tks kk nu pl N) (hp : p < N) (hn : n ≤ 12) (hd : 157 ≤ d) (H : tkc kk nu pl N h) (hr : rs h p z k) (hop : kk p = 59) (hyp : if n < 12 then lm_call d 37 [.ref 13] (lm_si h 13 4 (Int32.ofNat (p + 1))) (lm_kI fun r12 h11 => (lm_W (d) 25 40 [some (.ref 13), none, none, some (.int r12), some (.int (Int32.ofNat (n + 1)))] [] h11 (lm_kR K))) else lm_call d 34 [.ref 13] (lm_si h 13 4 (Int32.ofNat (p + 1))) (lm_kI fun r14 h13 => (lm_W (d) 25 40 [some (.ref 13), none, none, some (.int r14), some (.int (Int32.ofNat (n + 1)))] [] h13 (lm_kR K)))) : (lm_W (d) 25 40 [some (.ref 13), none, none, some (.int 1), some (.int (Int32.ofNat n))] [] h (lm_kR K)) := by
  refine b_25_40 _ _ H.1 ?_
  rw [if_neg (by decide), if_neg (by rw [show (12 : Int32) = Int32.ofNat 12 from rfl, q_lt (by omega) (by omega)]; omega)]
  refine cl_33 (by omega) ht H hr (by omega) ?_
  rw [if_pos (show Int32.ofNat (kk p) = 59 by rw [hop]; rfl), hr.1, q_a1, q_a1]
  by_cases c : n < 12
  · rw [if_pos c] at hyp
    rw [if_pos (by rw [show (12 : Int32) = Int32.ofNat 12 from rfl, q_lt (by omega) (by omega)]; exact c)]
    exact hyp
  · rw [if_neg c] at hyp
    rw [if_neg (by rw [show (12 : Int32) = Int32.ofNat 12 from rfl, q_lt (by omega) (by omega)]; exact c)]
    exact hyp
theorem L_semiM {d : Nat} {h : lm_H} {K : Int32 → lm_H → Prop} (ht : tks kk nu pl N) (hp : p < N) (hn : n ≤ 12) (hd : 157 ≤ d + 1) (H : tkm kk nu pl N h) (hr : ms h p k) (hop : kk p = 59) (hyp : if n = 12 then lm_call (d + 1) 180 [.ref 92] (lm_si h 92 16 (Int32.ofNat (p + 1))) (lm_kV fun h4 => (if (lm_i h4 92 18) = (-1) then (lm_call (d + 1) 185 [.ref 92] h4 (lm_kV fun h5 => (lm_W (d + 1) 192 34 [some (.ref 92), some (.int (Int32.ofNat (n + 1)))] [] h5 (lm_kI K)))) else ((lm_W (d + 1) 192 34 [some (.ref 92), some (.int (Int32.ofNat (n + 1)))] [] h4 (lm_kI K))))) else lm_call (d + 1) 185 [.ref 92] (lm_si h 92 16 (Int32.ofNat (p + 1))) (lm_kV fun h6 => (lm_W (d + 1) 192 34 [some (.ref 92), some (.int (Int32.ofNat (n + 1)))] [] h6 (lm_kI K)))) : (lm_W (d + 1) 192 34 [some (.ref 92), some (.int (Int32.ofNat n))] [] h (lm_kI K)) := by
  refine b_192_34 _ H.1 ?_
  refine cl_181 (c := 159) (by omega) ht H hr (by omega) (by omega) (fun _ => ?_) (fun q => absurd ((cO_59 _ (ht.2.1 p (by omega)).1).2 hop) q)
  rw [if_neg (by decide), q_a1]
  by_cases c : n = 12
  · rw [if_pos c] at hyp
    rw [if_pos (by rw [c]; rfl)]
    exact hyp
  · rw [if_neg c] at hyp
    rw [if_neg (by rw [show (12 : Int32) = Int32.ofNat 12 from rfl, q_eq (by omega) (by omega)]; exact c), if_pos (ms_at hr _).2.2]
    exact hyp
theorem GL_step (ht : tks kk nu pl N) (hp : p ≤ N) (hk : k ≤ 50) (hn1 : 1 ≤ n) (hn : n ≤ 12) (ih : ∀ p' k', p < p' → p' ≤ N → k' ≤ 50 → n + 1 ≤ 12 → GLt kk nu pl N (n + 1) p' k') : GLt kk nu pl N n p k := by
  have hN := ht.1
  by_cases c1 : kk p = 59
  · have hpN : p < N := kk_lt ht hp (by omega)
    by_cases c2 : n = 12
    · refine Or.inl ⟨p + 1, by omega, ?_, ?_⟩
      · intro d h K z hd H hr hz hK
        refine L_semi ht hpN hn hd H hr c1 ?_
        rw [if_neg (by omega)]
        have H1 := tkc_fr H (fr_13 h 4 (Int32.ofNat (p + 1))) (by decide)
        refine cl_34 (by omega) ht H1 (rs_at hr _) (by omega) ?_
        have cfh : cf pl h (lm_si (lm_si h 13 4 (Int32.ofNat (p + 1))) 13 7 (Int32.ofNat (pl (p + 1)))) (p + 1) := cf_tr (fr_13 h 4 _) (cf_here (rs_at hr _) (by omega))
        exact Cx_40 (fr_Lay cfh.1 H.1) (hK _ cfh)
      · intro d h K hd H hr h15 hK
        refine L_semiM ht hpN hn hd H hr c1 ?_
        rw [if_pos c2]
        have H1 := tkm_fr H (fr_16 h (Int32.ofNat (p + 1))) (by decide)
        refine cl_180 (by omega) ht H1 (ms_at hr _) (by omega) ?_
        have mfh : mf pl h (lm_si (lm_si h 92 16 (Int32.ofNat (p + 1))) 92 18 (Int32.ofNat (pl (p + 1)))) (p + 1) := mf_tr (fr_16 h _) mf_here
        have hb := mf_b ht (by omega) mfh
        rw [if_neg hb]
        exact Mx_34 (by omega) (fr_Lay mfh.1 H.1) hb (hK _ (mf_11 mfh).1 (mf_11 mfh).2)
    have c3 : n < 12 := by omega
    rcases GC_all ht (p := p + 1) (by omega) hk with ⟨q, hq, f1, f2⟩ | ⟨p1, k1, l1, co1, ef1, ⟨n1, n2, n3, n4, n5⟩, j2, j3, j4, j5, j6⟩
    · refine Or.inl ⟨q, hq, ?_, ?_⟩
      · intro d h K z hd H hr hz hK
        refine L_semi ht hpN hn hd H hr c1 ?_
        rw [if_pos c3]
        refine f1 d _ _ z hd (tkc_fr H (fr_13 h 4 _) (by decide)) (rs_at hr _) (by omega) (fun h' c => ?_)
        have c' := cf_tr (fr_13 h 4 _) c
        exact Cx_40 (fr_Lay c'.1 H.1) (hK _ c')
      · intro d h K hd H hr h15 hK
        refine L_semiM ht hpN hn hd H hr c1 ?_
        rw [if_neg c2]
        refine f2 _ _ _ hd (tkm_fr H (fr_16 h _) (by decide)) (ms_at hr _) (fun h' c => ?_)
        have c' := mf_tr (fr_16 h _) c
        exact Mx_34 (by omega) (fr_Lay c'.1 H.1) (mf_b ht hq c') (hK _ (mf_11 c').1 (mf_11 c').2)
    rcases ih p1 k1 (by omega) n2 n3 (by omega) with ⟨q, hq, f1, f2⟩ | ⟨p2, l2, co2, ef2, ⟨m1, m2, m3⟩, i2, i3, i4, i5, i6⟩
    · refine Or.inl ⟨q, hq, ?_, ?_⟩
      · intro d h K z hd H hr hz hK
        refine L_semi ht hpN hn hd H hr c1 ?_
        rw [if_pos c3]
        refine j2 d _ _ z hd (tkc_fr H (fr_13 h 4 _) (by decide)) (rs_at hr _) (by omega) (fun h' c => ?_)
        have c' := cg_at c
        exact f1 d h' K (z + l1) hd (tkc_fr H c'.1 (by decide)) c.2.1 (by omega) (fun h2 cc2 => hK h2 (cf_tr c'.1 cc2))
      · intro d h K hd H hr h15 hK
        refine L_semiM ht hpN hn hd H hr c1 ?_
        rw [if_neg c2]
        refine j3 _ _ _ hd (tkm_fr H (fr_16 h _) (by decide)) (ms_at hr _) (fun h' c => ?_)
        have c' := fr_trans (fr_16 h _) c.1
        exact f2 d h' K hd (tkm_fr H c' (by decide)) c.2 (by rw [fr_m c' (by decide)]; exact h15) (fun h2 a1 a2 => hK h2 (fr_trans (fr_sub c' (by decide) (by decide)) a1) a2)
    · refine Or.inr ⟨p2, l1 + l2, cc1 l1 co1 co2, fun w s => ef2 w (ef1 w s), ⟨by omega, m2, by omega⟩, ?_, ?_, JC_seq j4 i4, ?_, eR_seq j6 i6⟩
      · intro d h K z hd H hr hz hK
        refine L_semi ht hpN hn hd H hr c1 ?_
        rw [if_pos c3]
        refine j2 d _ _ z hd (tkc_fr H (fr_13 h 4 _) (by decide)) (rs_at hr _) (by omega) (fun h' c => ?_)
        have c' := cg_at c
        exact i2 d h' K (z + l1) hd (tkc_fr H c'.1 (by decide)) c.2.1 (by omega) (fun h2 k2 cc2 => hK h2 k2 (cg_tr c' cc2))
      · intro d h K hd H hr h15 hK
        refine L_semiM ht hpN hn hd H hr c1 ?_
        rw [if_neg c2]
        refine j3 _ _ _ hd (tkm_fr H (fr_16 h _) (by decide)) (ms_at hr _) (fun h' c => ?_)
        have c' := fr_trans (fr_16 h _) c.1
        exact i3 d h' K hd (tkm_fr H c' (by decide)) c.2 (by rw [fr_m c' (by decide)]; exact h15) (fun h2 a1 a2 => hK h2 (fr_trans (fr_sub c' (by decide) (by decide)) a1) a2)
      · intro d h K t w hd H hg hr hK
        refine j5 d h K t w hd H hg hr.2 (fun h' a1 a2 a3 a4 => ?_)
        have hr' := j6 w (lm_i h 92 23, lm_i h 92 24) hr
        refine i5 d h' K t w hd (tke_fr H a1 (by decide)) a2 ?_ (fun h2 b1 b2 b3 => hK h2 (fr_trans a1 b1) ?_ ?_)
        · rw [a3, a4]; exact hr'
        · rw [b2, a3, a4]
        · rw [b3, a3, a4]
  have hE : ∀ c, c < 300 → (Int32.ofNat (kk p) = Int32.ofNat c) = (kk p = c) := fun c hc => kk_ne ht hp hc
  have n59 : ¬ Int32.ofNat (kk p) = 59 := fun q => c1 ((hE 59 (by omega)).mp q)
  have m59 : cO (kk p) = 159 → False := fun q => c1 ((cO_59 _ (ht.2.1 p hp).1).1 q)
  by_cases c2 : kk p = 256
  · have eN : p = N := (ht.2.1 p hp).2.1 c2
    refine Or.inr ⟨p, 0, fun _ _ => 0, fun _ s => s, ⟨by omega, hp, by omega⟩, ?_, ?_, JC_nil _, ?_, fun w s hs => hs⟩
    · intro d h K z hd H hr hz hK
      refine b_25_40 _ _ H.1 ?_
      rw [if_neg (by decide), if_neg (by rw [show (12 : Int32) = Int32.ofNat 12 from rfl, q_lt (by omega) (by omega)]; omega)]
      refine cl_33 (by omega) ht H hr hp ?_
      rw [if_neg n59, if_neg (by decide)]
      refine cl_33 (by omega) ht H hr hp ?_
      rw [if_pos (show Int32.ofNat (kk p) = 256 by rw [c2]; rfl), if_neg (by decide)]
      exact hK h k (cg_rf _ hr)
    · intro d h K hd H hr h15 hK
      refine b_192_34 _ H.1 ?_
      refine cl_181 (c := 159) (by omega) ht H hr hp (by omega) (fun q => (m59 q).elim) (fun _ => ?_)
      rw [if_pos rfl, if_pos hr.2.2, hr.1, h15, if_neg (by rw [q_lt (by omega) (by omega)]; omega), if_pos hr.2.2]
      exact hK _ (fr_s92 (fr_refl _ _ _) (by decide) _) (by rw [pi_si, if_pos rfl, if_pos rfl]; exact hr.2.2)
    · intro d h K t w hd H hg hr hK
      have h6 := H.2.1
      refine b_206_142 H.1 ?_
      rw [hg, H.2.2.1, if_neg (by rw [q_lt (by omega) (by omega)]; omega)]
      exact hK h (fr_refl _ _ _) rfl rfl
  · have hpN : p < N := kk_lt ht hp c2
    refine Or.inl ⟨p, hp, ?_, ?_⟩
    · intro d h K z hd H hr hz hK
      refine b_25_40 _ _ H.1 ?_
      rw [if_neg (by decide), if_neg (by rw [show (12 : Int32) = Int32.ofNat 12 from rfl, q_lt (by omega) (by omega)]; omega)]
      refine cl_33 (by omega) ht H hr hp ?_
      rw [if_neg n59, if_neg (by decide)]
      refine cl_33 (by omega) ht H hr hp ?_
      rw [if_neg (show ¬ Int32.ofNat (kk p) = 256 from fun q => c2 ((hE 256 (by omega)).mp q))]
      refine cl_34 (by omega) ht H hr hp ?_
      rw [if_pos rfl]
      exact hK _ (cf_here hr (by omega))
    · intro d h K hd H hr h15 hK
      refine b_192_34 _ H.1 ?_
      refine cl_181 (c := 159) (by omega) ht H hr hp (by omega) (fun q => (m59 q).elim) (fun _ => ?_)
      rw [if_pos rfl, if_pos hr.2.2, hr.1, h15, if_pos (by rw [q_lt (by omega) (by omega)]; omega)]
      refine cl_180 (by omega) ht H hr hp ?_
      have mfh : mf pl h (lm_si h 92 18 (Int32.ofNat (pl p))) p := mf_here
      rw [if_neg (mf_b ht hp mfh)]
      exact hK _ (mf_11 mfh).1 (mf_11 mfh).2
theorem GL_all (ht : tks kk nu pl N) : ∀ m p k n, p ≤ N → N - p < m → k ≤ 50 → 1 ≤ n → n ≤ 12 → GLt kk nu pl N n p k := by
  intro m
  induction m with
  | zero => intro p k n _ h; omega
  | succ m ih =>
    intro p k n hp hm hk hn1 hn
    exact GL_step ht hp hk hn1 hn (fun p' k' h1 h2 h3 h4 => ih p' k' (n + 1) h2 (by omega) h3 (by omega) h4)
end LawT
