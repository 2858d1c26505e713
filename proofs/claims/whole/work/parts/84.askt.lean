/-! Laws: tests asked by the reference. -/
section AskT
variable {kk nu pl : Nat → Nat} {N dp p p1 p2 : Nat} {d1 d2 : dN} {dt : Int → dN}
theorem nar01 {r : Int32} (h : r = 0 ∨ r = 1) : vp_nar .boolean r = r := q_b1or r h
theorem bI_0 {a : Int} (h : a = 0) : bI a = 0 := by rw [bI, if_pos h]
theorem bI_1 {a : Int} (h : ¬ a = 0) : bI a = 1 := by rw [bI, if_neg h]
theorem bI_w {a : Int} {P : Int32 → Prop} (h : P (bI a)) : if bI a = 0 then P 0 else P 1 := by
  by_cases c : a = 0
  · rw [bI_0 c] at h ⊢
    rw [if_pos rfl]
    exact h
  · rw [bI_1 c] at h ⊢
    rw [if_neg (by decide)]
    exact h
theorem r_w {r : Int32} {P : Int32 → Prop} (h : ∀ r, (r = 0 ∨ r = 1) → P r) : if r = 0 then P 0 else P 1 := by
  split
  · exact h 0 (Or.inl rfl)
  · exact h 1 (Or.inr rfl)
theorem I_sL_202 (hd : 2 ≤ dp) (h1 : IL kk nu N 203 dp p p1 d1) (h2 : ILt kk nu N 202 dp p1 p2 dt) (h3 : IDt kk nu N 202 dp p1 p2) : IL kk nu N 202 (dp + 1) p p2 (fun w => (d1 w).bind (fun a => dt a w)) := by
  intro D h K t w hD H hg hk hT hF
  obtain ⟨d, rfl⟩ := q_dp (k := 1) (D := D) (by omega)
  refine e_202 _ H.1 ?_
  refine h1 _ h _ t w (by omega) H hg hk (fun v hv h' c => ?_) (fun hn h' r hr c => ?_)
  · have e : (d1 w).bind (fun a => dt a w) = dt v w := by rw [hv]; rfl
    exact h2 _ h' K t w v (by omega) (tke_fr H c.1 (by decide)) c.2.1 c.2.2 (fun u hu h2 c2 => hT u (e.trans hu) h2 (eg_tr c.1 c2)) (fun hn h2 r hr c2 => hF (e.trans hn) h2 r hr (eg_tr c.1 c2))
  · have e : (d1 w).bind (fun a => dt a w) = none := by rw [hn]; rfl
    refine h3 _ h' K t w 1 r (by omega) (tke_fr H c.1 (by decide)) c.2.1 (dd1 c.2.2) hr (fun h2 r2 hr2 c2 => ?_)
    rw [c.2.2] at c2
    exact hF e h2 r2 hr2 (eg_tr c.1 c2)
theorem I_sD_202 (hd : 2 ≤ dp) (h1 : ID kk nu N 203 dp p p1) (h3 : IDt kk nu N 202 dp p1 p2) : ID kk nu N 202 (dp + 1) p p2 := by
  intro D h K t w lv hD H hg hk hK
  obtain ⟨d, rfl⟩ := q_dp (k := 1) (D := D) (by omega)
  refine e_202 _ H.1 ?_
  refine h1 _ h _ t w lv (by omega) H hg hk (fun h' r hr c => ?_)
  refine h3 _ h' K t w lv r (by omega) (tke_fr H c.1 (by decide)) c.2.1 (by rw [c.2.2]; exact hk) hr (fun h2 r2 hr2 c2 => ?_)
  rw [c.2.2] at c2
  exact hK h2 r2 hr2 (eg_tr c.1 c2)
theorem I_sL_203 (hd : 2 ≤ dp) (h1 : IL kk nu N 204 dp p p1 d1) (h2 : ILt kk nu N 203 dp p1 p2 dt) (h3 : IDt kk nu N 203 dp p1 p2) : IL kk nu N 203 (dp + 1) p p2 (fun w => (d1 w).bind (fun a => dt a w)) := by
  intro D h K t w hD H hg hk hT hF
  obtain ⟨d, rfl⟩ := q_dp (k := 1) (D := D) (by omega)
  refine e_203 _ H.1 ?_
  refine h1 _ h _ t w (by omega) H hg hk (fun v hv h' c => ?_) (fun hn h' r hr c => ?_)
  · have e : (d1 w).bind (fun a => dt a w) = dt v w := by rw [hv]; rfl
    exact h2 _ h' K t w v (by omega) (tke_fr H c.1 (by decide)) c.2.1 c.2.2 (fun u hu h2 c2 => hT u (e.trans hu) h2 (eg_tr c.1 c2)) (fun hn h2 r hr c2 => hF (e.trans hn) h2 r hr (eg_tr c.1 c2))
  · have e : (d1 w).bind (fun a => dt a w) = none := by rw [hn]; rfl
    refine h3 _ h' K t w 1 r (by omega) (tke_fr H c.1 (by decide)) c.2.1 (dd1 c.2.2) hr (fun h2 r2 hr2 c2 => ?_)
    rw [c.2.2] at c2
    exact hF e h2 r2 hr2 (eg_tr c.1 c2)
theorem I_sD_203 (hd : 2 ≤ dp) (h1 : ID kk nu N 204 dp p p1) (h3 : IDt kk nu N 203 dp p1 p2) : ID kk nu N 203 (dp + 1) p p2 := by
  intro D h K t w lv hD H hg hk hK
  obtain ⟨d, rfl⟩ := q_dp (k := 1) (D := D) (by omega)
  refine e_203 _ H.1 ?_
  refine h1 _ h _ t w lv (by omega) H hg hk (fun h' r hr c => ?_)
  refine h3 _ h' K t w lv r (by omega) (tke_fr H c.1 (by decide)) c.2.1 (by rw [c.2.2]; exact hk) hr (fun h2 r2 hr2 c2 => ?_)
  rw [c.2.2] at c2
  exact hK h2 r2 hr2 (eg_tr c.1 c2)
theorem I_nL_202 (ht : tks kk nu pl N) (hp : p ≤ N) (hd : 2 ≤ dp) (hA : ¬ kk p = 260) : ILt kk nu N 202 dp p p (fun a _ => some a) := by
  intro d h K t w a hD H hg hk hT hF
  refine b_202_6 _ _ H.1 ?_
  refine cl_197 (c := 4) (by omega) ht H hg hp (by omega) (fun q => absurd ((cO_260 _ (ht.2.1 p hp).1).1 q) hA) (fun _ => ?_)
  rw [if_pos rfl]
  exact ⟨nar01 (bI_01 a), hT a rfl h ⟨fr_refl _ _ _, hg, hk⟩⟩
theorem I_nD_202 (ht : tks kk nu pl N) (hp : p ≤ N) (hd : 2 ≤ dp) (hA : ¬ kk p = 260) : IDt kk nu N 202 dp p p := by
  intro d h K t w lv y hD H hg hk hy hK
  refine b_202_6 _ _ H.1 ?_
  refine cl_197 (c := 4) (by omega) ht H hg hp (by omega) (fun q => absurd ((cO_260 _ (ht.2.1 p hp).1).1 q) hA) (fun _ => ?_)
  rw [if_pos rfl]
  exact ⟨nar01 hy, hK h y hy ⟨fr_refl _ _ _, hg, rfl⟩⟩
theorem I_nL_203 (ht : tks kk nu pl N) (hp : p ≤ N) (hd : 2 ≤ dp) (hA : ¬ kk p = 261) : ILt kk nu N 203 dp p p (fun a _ => some a) := by
  intro d h K t w a hD H hg hk hT hF
  refine b_203_6 _ _ H.1 ?_
  refine cl_197 (c := 5) (by omega) ht H hg hp (by omega) (fun q => absurd ((cO_261 _ (ht.2.1 p hp).1).1 q) hA) (fun _ => ?_)
  rw [if_pos rfl]
  exact ⟨nar01 (bI_01 a), hT a rfl h ⟨fr_refl _ _ _, hg, hk⟩⟩
theorem I_nD_203 (ht : tks kk nu pl N) (hp : p ≤ N) (hd : 2 ≤ dp) (hA : ¬ kk p = 261) : IDt kk nu N 203 dp p p := by
  intro d h K t w lv y hD H hg hk hy hK
  refine b_203_6 _ _ H.1 ?_
  refine cl_197 (c := 5) (by omega) ht H hg hp (by omega) (fun q => absurd ((cO_261 _ (ht.2.1 p hp).1).1 q) hA) (fun _ => ?_)
  rw [if_pos rfl]
  exact ⟨nar01 hy, hK h y hy ⟨fr_refl _ _ _, hg, rfl⟩⟩
theorem I_oL_202 (ht : tks kk nu pl N) (hp : p < N) (hd : 2 ≤ dp) (hop : kk p = 260) (h1 : IL kk nu N 203 dp (p + 1) p1 d1) (h1d : ID kk nu N 203 dp (p + 1) p1) (h2 : ILt kk nu N 202 dp p1 p2 dt) (h3 : IDt kk nu N 202 dp p1 p2) : ILt kk nu N 202 dp p p2 (fun a w => if a = 0 then (d1 w).bind (fun b => dt b w) else dt a w) := by
  intro d h K t w a hD H hg hk hT hF
  refine b_202_6 _ _ H.1 ?_
  refine cl_197 (c := 4) (by omega) ht H hg (by omega) (by omega) (fun _ => ?_) (fun q => absurd ((cO_260 _ (ht.2.1 p (by omega)).1).2 hop) q)
  rw [if_neg (by decide)]
  have f0 := fr_19 h (Int32.ofNat (400 * t + (p + 1)))
  have H1 := tke_fr H f0 (by decide)
  rw [if_neg (by decide)]
  by_cases c0 : a = 0
  · rw [bI_0 c0, if_pos rfl]
    refine h1 _ _ _ t w (by omega) H1 (g19 _ _) (by rw [b19]; exact hk) (fun b hv h' c => ?_) (fun hn h' r hr c => ?_)
    · have e : (if a = 0 then (d1 w).bind (fun b => dt b w) else dt a w) = dt b w := by rw [if_pos c0, hv]; rfl
      rw [if_pos rfl]
      refine bI_w (P := fun r => lm_W d 202 6 [some (.ref 92), some (.int 1), some (.int r), none] [] h' (lm_kI K)) ?_
      exact h2 _ h' K t w b (by omega) (tke_fr H1 c.1 (by decide)) c.2.1 c.2.2 (fun u hu h2 c2 => hT u (e.trans hu) h2 (eg_tr (fr_trans f0 c.1) c2)) (fun hn h2 r hr c2 => hF (e.trans hn) h2 r hr (eg_tr (fr_trans f0 c.1) c2))
    · have e : (if a = 0 then (d1 w).bind (fun b => dt b w) else dt a w) = none := by rw [if_pos c0, hn]; rfl
      rw [if_pos rfl]
      refine r_w (P := fun r => lm_W d 202 6 [some (.ref 92), some (.int 1), some (.int r), none] [] h' (lm_kI K)) (fun r hr => ?_)
      refine h3 _ h' K t w 1 r (by omega) (tke_fr H1 c.1 (by decide)) c.2.1 (dd1 c.2.2) hr (fun h2 r2 hr2 c2 => ?_)
      rw [c.2.2] at c2
      exact hF e h2 r2 hr2 (eg_tr (fr_trans f0 c.1) c2)
  · have e : (if a = 0 then (d1 w).bind (fun b => dt b w) else dt a w) = dt a w := if_neg c0
    have e1 := bI_1 c0
    rw [e1, if_neg (by decide)]
    refine h1d _ _ _ t w 0 (by omega) H1 (g19 _ _) (by rw [b19, hk]; exact Or.inl ⟨rfl, Or.inl rfl⟩) (fun h' r hr c => ?_)
    rw [b19, hk] at c
    rw [if_neg (by decide)]
    have fin := h2 _ h' K t w a (by omega : dp ≤ d) (tke_fr H1 c.1 (by decide)) c.2.1 c.2.2 (fun u hu h2 c2 => hT u (e.trans hu) h2 (eg_tr (fr_trans f0 c.1) c2)) (fun hn h2 r hr c2 => hF (e.trans hn) h2 r hr (eg_tr (fr_trans f0 c.1) c2))
    rw [e1] at fin
    exact fin
theorem I_oD_202 (ht : tks kk nu pl N) (hp : p < N) (hd : 2 ≤ dp) (hop : kk p = 260) (h1d : ID kk nu N 203 dp (p + 1) p1) (h3 : IDt kk nu N 202 dp p1 p2) : IDt kk nu N 202 dp p p2 := by
  intro d h K t w lv y hD H hg hk hy hK
  refine b_202_6 _ _ H.1 ?_
  refine cl_197 (c := 4) (by omega) ht H hg (by omega) (by omega) (fun _ => ?_) (fun q => absurd ((cO_260 _ (ht.2.1 p (by omega)).1).2 hop) q)
  rw [if_neg (by decide)]
  have f0 := fr_19 h (Int32.ofNat (400 * t + (p + 1)))
  have H1 := tke_fr H f0 (by decide)
  have rest : ∀ h' lv2, dd lv2 (lm_i h 92 21) → eg (lm_si h 92 19 (Int32.ofNat (400 * t + (p + 1)))) h' t p1 (lm_i h 92 21) → ∀ r, (r = 0 ∨ r = 1) → lm_W d 202 6 [some (.ref 92), some (.int lv), some (.int r), none] [] h' (lm_kI K) := by
    intro h' lv2 _ c r hr
    refine h3 _ h' K t w lv r (by omega) (tke_fr H1 c.1 (by decide)) c.2.1 (by rw [c.2.2]; exact hk) hr (fun h2 r2 hr2 c2 => ?_)
    rw [c.2.2] at c2
    exact hK h2 r2 hr2 (eg_tr (fr_trans f0 c.1) c2)
  have go : ∀ lv2, dd lv2 (lm_i h 92 21) → lm_call d 203 [.ref 92, .int lv2] (lm_si h 92 19 (Int32.ofNat (400 * t + (p + 1)))) (lm_kI fun r4 h3 => (if y = 0 then (if r4 = 0 then (lm_W d 202 6 [some (.ref 92), some (.int lv), some (.int 0), none] [] h3 (lm_kI K)) else (lm_W d 202 6 [some (.ref 92), some (.int lv), some (.int 1), none] [] h3 (lm_kI K))) else (lm_W d 202 6 [some (.ref 92), some (.int lv), some (.int 1), none] [] h3 (lm_kI K)))) := by
    intro lv2 hk2
    refine h1d _ _ _ t w lv2 (by omega) H1 (g19 _ _) (by rw [b19]; exact hk2) (fun h' r hr c => ?_)
    rw [b19] at c
    split
    · split
      · exact rest h' lv2 hk2 c 0 (Or.inl rfl)
      · exact rest h' lv2 hk2 c 1 (Or.inr rfl)
    · exact rest h' lv2 hk2 c 1 (Or.inr rfl)
  rcases hk with ⟨e1, e2⟩ | ⟨e1, e2⟩
  · rw [if_pos e1]
    exact go 0 (Or.inl ⟨rfl, e2⟩)
  · rw [if_neg (by rw [e1]; decide)]
    by_cases cy : y = 0
    · rw [if_pos cy]
      exact go 1 (Or.inr ⟨rfl, e2⟩)
    · rw [if_neg cy]
      exact go 0 (Or.inl ⟨rfl, Or.inr e2⟩)
theorem I_oL_203 (ht : tks kk nu pl N) (hp : p < N) (hd : 2 ≤ dp) (hop : kk p = 261) (h1 : IL kk nu N 204 dp (p + 1) p1 d1) (h1d : ID kk nu N 204 dp (p + 1) p1) (h2 : ILt kk nu N 203 dp p1 p2 dt) (h3 : IDt kk nu N 203 dp p1 p2) : ILt kk nu N 203 dp p p2 (fun a w => if a = 0 then dt a w else (d1 w).bind (fun b => dt b w)) := by
  intro d h K t w a hD H hg hk hT hF
  refine b_203_6 _ _ H.1 ?_
  refine cl_197 (c := 5) (by omega) ht H hg (by omega) (by omega) (fun _ => ?_) (fun q => absurd ((cO_261 _ (ht.2.1 p (by omega)).1).2 hop) q)
  rw [if_neg (by decide)]
  have f0 := fr_19 h (Int32.ofNat (400 * t + (p + 1)))
  have H1 := tke_fr H f0 (by decide)
  rw [if_neg (by decide)]
  by_cases c0 : a = 0
  · have e : (if a = 0 then dt a w else (d1 w).bind (fun b => dt b w)) = dt a w := if_pos c0
    have e1 := bI_0 c0
    rw [e1, if_pos rfl]
    refine h1d _ _ _ t w 0 (by omega) H1 (g19 _ _) (by rw [b19, hk]; exact Or.inl ⟨rfl, Or.inl rfl⟩) (fun h' r hr c => ?_)
    rw [b19, hk] at c
    rw [if_pos rfl]
    have fin := h2 _ h' K t w a (by omega : dp ≤ d) (tke_fr H1 c.1 (by decide)) c.2.1 c.2.2 (fun u hu h2 c2 => hT u (e.trans hu) h2 (eg_tr (fr_trans f0 c.1) c2)) (fun hn h2 r hr c2 => hF (e.trans hn) h2 r hr (eg_tr (fr_trans f0 c.1) c2))
    rw [e1] at fin
    exact fin
  · rw [bI_1 c0, if_neg (by decide)]
    refine h1 _ _ _ t w (by omega) H1 (g19 _ _) (by rw [b19]; exact hk) (fun b hv h' c => ?_) (fun hn h' r hr c => ?_)
    · have e : (if a = 0 then dt a w else (d1 w).bind (fun b => dt b w)) = dt b w := by rw [if_neg c0, hv]; rfl
      rw [if_neg (by decide)]
      refine bI_w (P := fun r => lm_W d 203 6 [some (.ref 92), some (.int 1), some (.int r), none] [] h' (lm_kI K)) ?_
      exact h2 _ h' K t w b (by omega) (tke_fr H1 c.1 (by decide)) c.2.1 c.2.2 (fun u hu h2 c2 => hT u (e.trans hu) h2 (eg_tr (fr_trans f0 c.1) c2)) (fun hn h2 r hr c2 => hF (e.trans hn) h2 r hr (eg_tr (fr_trans f0 c.1) c2))
    · have e : (if a = 0 then dt a w else (d1 w).bind (fun b => dt b w)) = none := by rw [if_neg c0, hn]; rfl
      rw [if_neg (by decide)]
      refine r_w (P := fun r => lm_W d 203 6 [some (.ref 92), some (.int 1), some (.int r), none] [] h' (lm_kI K)) (fun r hr => ?_)
      refine h3 _ h' K t w 1 r (by omega) (tke_fr H1 c.1 (by decide)) c.2.1 (dd1 c.2.2) hr (fun h2 r2 hr2 c2 => ?_)
      rw [c.2.2] at c2
      exact hF e h2 r2 hr2 (eg_tr (fr_trans f0 c.1) c2)
theorem I_oD_203 (ht : tks kk nu pl N) (hp : p < N) (hd : 2 ≤ dp) (hop : kk p = 261) (h1d : ID kk nu N 204 dp (p + 1) p1) (h3 : IDt kk nu N 203 dp p1 p2) : IDt kk nu N 203 dp p p2 := by
  intro d h K t w lv y hD H hg hk hy hK
  refine b_203_6 _ _ H.1 ?_
  refine cl_197 (c := 5) (by omega) ht H hg (by omega) (by omega) (fun _ => ?_) (fun q => absurd ((cO_261 _ (ht.2.1 p (by omega)).1).2 hop) q)
  rw [if_neg (by decide)]
  have f0 := fr_19 h (Int32.ofNat (400 * t + (p + 1)))
  have H1 := tke_fr H f0 (by decide)
  have rest : ∀ h' lv2, dd lv2 (lm_i h 92 21) → eg (lm_si h 92 19 (Int32.ofNat (400 * t + (p + 1)))) h' t p1 (lm_i h 92 21) → ∀ r, (r = 0 ∨ r = 1) → lm_W d 203 6 [some (.ref 92), some (.int lv), some (.int r), none] [] h' (lm_kI K) := by
    intro h' lv2 _ c r hr
    refine h3 _ h' K t w lv r (by omega) (tke_fr H1 c.1 (by decide)) c.2.1 (by rw [c.2.2]; exact hk) hr (fun h2 r2 hr2 c2 => ?_)
    rw [c.2.2] at c2
    exact hK h2 r2 hr2 (eg_tr (fr_trans f0 c.1) c2)
  have go : ∀ lv2, dd lv2 (lm_i h 92 21) → lm_call d 204 [.ref 92, .int lv2] (lm_si h 92 19 (Int32.ofNat (400 * t + (p + 1)))) (lm_kI fun r4 h3 => (if y = 0 then (lm_W d 203 6 [some (.ref 92), some (.int lv), some (.int 0), none] [] h3 (lm_kI K)) else (if r4 = 0 then (lm_W d 203 6 [some (.ref 92), some (.int lv), some (.int 0), none] [] h3 (lm_kI K)) else (lm_W d 203 6 [some (.ref 92), some (.int lv), some (.int 1), none] [] h3 (lm_kI K))))) := by
    intro lv2 hk2
    refine h1d _ _ _ t w lv2 (by omega) H1 (g19 _ _) (by rw [b19]; exact hk2) (fun h' r hr c => ?_)
    rw [b19] at c
    split
    · exact rest h' lv2 hk2 c 0 (Or.inl rfl)
    · split
      · exact rest h' lv2 hk2 c 0 (Or.inl rfl)
      · exact rest h' lv2 hk2 c 1 (Or.inr rfl)
  rcases hk with ⟨e1, e2⟩ | ⟨e1, e2⟩
  · rw [if_pos e1]
    exact go 0 (Or.inl ⟨rfl, e2⟩)
  · rw [if_neg (by rw [e1]; decide)]
    by_cases cy : y = 0
    · rw [if_pos cy]
      exact go 0 (Or.inl ⟨rfl, Or.inr e2⟩)
    · rw [if_neg cy]
      exact go 1 (Or.inr ⟨rfl, e2⟩)
theorem I_pN {o : Nat} (ht : tks kk nu pl N) (hp : p < N) (hd : 2 ≤ dp) (hop : kk p = 262) (ho : o ≤ 1) (h1 : ILp kk nu N dp (p + 1) p1 (1 - o) d1) : ILp kk nu N dp p p1 o d1 := by
  intro d h K t w hD H hg hk hT hF
  refine b_204_2 _ _ H.1 ?_
  refine cl_197 (c := 6) (by omega) ht H hg (by omega) (by omega) (fun _ => ?_) (fun q => absurd ((cO_262 _ (ht.2.1 p (by omega)).1).2 hop) q)
  rw [if_neg (by decide)]
  have f0 := fr_19 h (Int32.ofNat (400 * t + (p + 1)))
  have fin := h1 d _ K t w hD (tke_fr H f0 (by decide)) (g19 _ _) (by rw [b19]; exact hk) (fun u hu h2 c2 => hT u hu h2 (eg_tr f0 c2)) (fun hn h2 r hr c2 => hF hn h2 r hr (eg_tr f0 c2))
  by_cases c : o = 0
  · rw [if_pos (by rw [c]; rfl)]
    rw [c] at fin
    exact fin
  · have c1 : o = 1 := by omega
    rw [if_neg (by rw [c1]; decide)]
    rw [c1] at fin
    exact fin
theorem I_pND (ht : tks kk nu pl N) (hp : p < N) (hd : 2 ≤ dp) (hop : kk p = 262) (h1 : IDp kk nu N dp (p + 1) p1) : IDp kk nu N dp p p1 := by
  intro d h K t w lv y hD H hg hk hy hK
  refine b_204_2 _ _ H.1 ?_
  refine cl_197 (c := 6) (by omega) ht H hg (by omega) (by omega) (fun _ => ?_) (fun q => absurd ((cO_262 _ (ht.2.1 p (by omega)).1).2 hop) q)
  rw [if_neg (by decide)]
  have f0 := fr_19 h (Int32.ofNat (400 * t + (p + 1)))
  have fin : ∀ y2 : Int32, (y2 = 0 ∨ y2 = 1) → lm_W d 204 2 [some (.ref 92), some (.int lv), some (.int y2)] [] (lm_si h 92 19 (Int32.ofNat (400 * t + (p + 1)))) (lm_kI K) := fun y2 hy2 => h1 d _ K t w lv y2 hD (tke_fr H f0 (by decide)) (g19 _ _) (by rw [b19]; exact hk) hy2 (fun h2 r hr c2 => by rw [b19] at c2; exact hK h2 r hr (eg_tr f0 c2))
  split
  · exact fin 1 (Or.inr rfl)
  · exact fin 0 (Or.inl rfl)
theorem I_p0 (ht : tks kk nu pl N) (hp : p ≤ N) (hd : 2 ≤ dp) (hop : ¬ kk p = 262) (h1 : IL kk nu N 205 dp p p1 d1) : ILp kk nu N dp p p1 0 d1 := by
  intro d h K t w hD H hg hk hT hF
  refine b_204_2 _ _ H.1 ?_
  refine cl_197 (c := 6) (by omega) ht H hg hp (by omega) (fun q => absurd ((cO_262 _ (ht.2.1 p hp).1).1 q) hop) (fun _ => ?_)
  rw [if_pos rfl]
  refine h1 d h _ t w hD H hg hk (fun v hv h' c => ?_) (fun hn h' r hr c => ?_)
  · exact bI_w (P := fun r => K r h') (hT v hv h' c)
  · exact r_w (P := fun r => K r h') (fun r hr => hF hn h' r hr c)
theorem I_p1 (ht : tks kk nu pl N) (hp : p ≤ N) (hd : 2 ≤ dp) (hop : ¬ kk p = 262) (h1 : IL kk nu N 205 dp p p1 d1) : ILp kk nu N dp p p1 1 (fun w => (d1 w).bind (fun a => some (if a = 0 then 1 else 0))) := by
  intro d h K t w hD H hg hk hT hF
  refine b_204_2 _ _ H.1 ?_
  refine cl_197 (c := 6) (by omega) ht H hg hp (by omega) (fun q => absurd ((cO_262 _ (ht.2.1 p hp).1).1 q) hop) (fun _ => ?_)
  rw [if_pos rfl]
  refine h1 d h _ t w hD H hg hk (fun v hv h' c => ?_) (fun hn h' r hr c => ?_)
  · have hT2 := hT (if v = 0 then 1 else 0) (by show (d1 w).bind _ = _; rw [hv]; rfl) h' c
    by_cases c0 : v = 0
    · rw [bI_0 c0, if_neg (by decide)]
      rw [if_pos c0] at hT2
      exact hT2
    · rw [bI_1 c0, if_pos (by decide)]
      rw [if_neg c0] at hT2
      exact hT2
  · have e : (d1 w).bind (fun a => some (if a = 0 then (1 : Int) else 0)) = none := by rw [hn]; rfl
    split
    · exact hF e h' 0 (Or.inl rfl) c
    · exact hF e h' 1 (Or.inr rfl) c
theorem I_pD (ht : tks kk nu pl N) (hp : p ≤ N) (hd : 2 ≤ dp) (hop : ¬ kk p = 262) (h1 : ID kk nu N 205 dp p p1) : IDp kk nu N dp p p1 := by
  intro d h K t w lv y hD H hg hk hy hK
  refine b_204_2 _ _ H.1 ?_
  refine cl_197 (c := 6) (by omega) ht H hg hp (by omega) (fun q => absurd ((cO_262 _ (ht.2.1 p hp).1).1 q) hop) (fun _ => ?_)
  rw [if_pos rfl]
  refine h1 d h _ t w lv hD H hg hk (fun h' r hr c => ?_)
  split
  · exact hK h' 0 (Or.inl rfl) c
  · exact hK h' 1 (Or.inr rfl) c
theorem I_tL (h1 : ILp kk nu N dp p p1 0 d1) : IL kk nu N 204 (dp + 1) p p1 d1 := by
  intro D h K t w hD H hg hk hT hF
  obtain ⟨d, rfl⟩ := q_dp (k := 1) (D := D) (by omega)
  refine e_204 _ H.1 ?_
  exact h1 d h K t w (by omega) H hg hk hT hF
theorem I_tD (h1 : IDp kk nu N dp p p1) : ID kk nu N 204 (dp + 1) p p1 := by
  intro D h K t w lv hD H hg hk hK
  obtain ⟨d, rfl⟩ := q_dp (k := 1) (D := D) (by omega)
  refine e_204 _ H.1 ?_
  exact h1 d h K t w lv 0 (by omega) H hg hk (Or.inl rfl) hK
theorem I_bL (ht : tks kk nu pl N) (hp : p < N) (hp1 : p1 ≤ N) (hd : 3 ≤ dp) (hop : kk p = 40) (h1 : IL kk nu N 202 dp (p + 1) p1 d1) : IL kk nu N 205 (dp + 1) p (p1 + 1) d1 := by
  intro D h K t w hD H hg hk hT hF
  obtain ⟨d, rfl⟩ := q_dp (k := 2) (D := D) (by omega)
  have hkk := (ht.2.1 p (by omega)).1
  refine e_205 _ H.1 ?_
  refine cl_197 (c := 140) (by omega) ht H hg (by omega) (by omega) (fun _ => ?_) (fun q => absurd ((cO_40 _ hkk).2 hop) q)
  rw [if_neg (by decide)]
  have H1 := tke_fr H (fr_19 h (Int32.ofNat (400 * t + (p + 1)))) (by decide)
  refine h1 _ _ _ t w (by omega) H1 (g19 _ _) (by rw [b19]; exact hk) (fun v hv h' c => ?_) (fun hn h' r hr c => ?_)
  · rw [c.2.1, q_a1]
    exact ⟨nar01 (bI_01 v), hT v hv _ ⟨fr_trans (fr_trans (fr_19 h _) c.1) (fr_19 h' _), g19 _ _, by rw [b19]; exact c.2.2⟩⟩
  · rw [c.2.1, q_a1]
    exact ⟨nar01 hr, hF hn _ r hr ⟨fr_trans (fr_trans (fr_19 h _) c.1) (fr_19 h' _), g19 _ _, by rw [b19]; exact c.2.2⟩⟩
theorem I_bD (ht : tks kk nu pl N) (hp : p < N) (hp1 : p1 ≤ N) (hd : 3 ≤ dp) (hop : kk p = 40) (h1 : ID kk nu N 202 dp (p + 1) p1) : ID kk nu N 205 (dp + 1) p (p1 + 1) := by
  intro D h K t w lv hD H hg hk hK
  obtain ⟨d, rfl⟩ := q_dp (k := 2) (D := D) (by omega)
  have hkk := (ht.2.1 p (by omega)).1
  refine e_205 _ H.1 ?_
  refine cl_197 (c := 140) (by omega) ht H hg (by omega) (by omega) (fun _ => ?_) (fun q => absurd ((cO_40 _ hkk).2 hop) q)
  rw [if_neg (by decide)]
  have H1 := tke_fr H (fr_19 h (Int32.ofNat (400 * t + (p + 1)))) (by decide)
  refine h1 _ _ _ t w lv (by omega) H1 (g19 _ _) (by rw [b19]; exact hk) (fun h' r hr c => ?_)
  rw [c.2.1, q_a1]
  exact ⟨nar01 hr, hK _ r hr ⟨fr_trans (fr_trans (fr_19 h _) c.1) (fr_19 h' _), g19 _ _, by rw [b19, c.2.2, b19]⟩⟩
theorem I_qL (ht : tks kk nu pl N) (hp : p ≤ N) (hp1 : p1 < N) (hd : 3 ≤ dp) (hop : ¬ kk p = 40) (h1 : EL kk nu N 199 dp p p1 d1) (hb1 : ∀ w v, d1 w = some v → bB v) (hc : kk p1 = 60 ∨ kk p1 = 61 ∨ kk p1 = 62) (h2 : EL kk nu N 199 dp (p1 + 1) p2 d2) (hb2 : ∀ w v, d2 w = some v → bB v) (h2d : ED kk nu N 199 dp (p1 + 1) p2) : IL kk nu N 205 (dp + 1) p p2 (fun w => (d1 w).bind (fun a => (d2 w).bind (fun b => (fO (cS (kk p1)) a b).bind (fun v => some v)))) := by
  intro D h K t w hD H hg hk hT hF
  obtain ⟨d, rfl⟩ := q_dp (k := 2) (D := D) (by omega)
  have hkk := (ht.2.1 p hp).1
  have hk1 := (ht.2.1 p1 (by omega)).1
  have hcl := cO_lt _ hk1
  refine e_205 _ H.1 ?_
  refine cl_197 (c := 140) (by omega) ht H hg hp (by omega) (fun q => absurd ((cO_40 _ hkk).1 q) hop) (fun _ => ?_)
  rw [if_pos rfl]
  refine h1 _ h _ t w (by omega) H hg hk (fun a hv h' c => ?_) (fun hn h' r c => ?_)
  · have H1 := tke_fr H c.1 (by decide)
    rw [c.2.1]
    refine cl_196 (by omega) ht H1 (by omega) ?_
    rw [c.2.1, q_a1]
    have f0 := fr_19 h' (Int32.ofNat (400 * t + (p1 + 1)))
    have H2 := tke_fr H1 f0 (by decide)
    refine h2 _ _ _ t w (by omega) H2 (g19 _ _) (by rw [b19]; exact c.2.2) (fun b hv2 h'' c2 => ?_) (fun hn h'' r c2 => ?_)
    · have e : (d1 w).bind (fun a => (d2 w).bind (fun b => (fO (cS (kk p1)) a b).bind (fun v => some v))) = (fO (cS (kk p1)) a b).bind (fun v => some v) := by rw [hv, hv2]; rfl
      have ha := bB_big (hb1 w a hv)
      have hb := bB_big (hb2 w b hv2)
      have ef : eg h h'' t p2 0 := ⟨fr_trans (fr_trans c.1 f0) c2.1, c2.2⟩
      have c01 : ∀ (q : Prop) [Decidable q] (q' : Prop) [Decidable q'], (q ↔ q') → fO (cS (kk p1)) a b = some (if q' then 1 else 0) → if q then K 1 h'' else K 0 h'' := by
        intro q _ q' _ hq hf
        have hk := hT (if q' then 1 else 0) (e.trans (by rw [hf]; rfl)) h'' ef
        by_cases z : q
        · rw [if_pos z]
          rw [if_pos (hq.1 z)] at hk
          exact hk
        · rw [if_neg z]
          rw [if_neg (fun z2 => z (hq.2 z2))] at hk
          exact hk
      rw [if_neg (by decide), if_pos c2.2.2]
      rcases hc with c3 | c3 | c3
      · rw [if_pos (show Int32.ofNat (cO (kk p1)) = 160 by rw [c3]; rfl)]
        exact c01 _ (a < b) (by rw [lg_cmp_lt, l_ltB ha hb]) (by rw [c3]; rfl)
      · rw [if_neg (show ¬ Int32.ofNat (cO (kk p1)) = 160 by rw [c3]; decide), if_neg (show ¬ Int32.ofNat (cO (kk p1)) = 162 by rw [c3]; decide)]
        exact c01 _ (a = b) (by rw [lg_cmp_eq, l_eqB ha hb]) (by rw [c3]; rfl)
      · rw [if_neg (show ¬ Int32.ofNat (cO (kk p1)) = 160 by rw [c3]; decide), if_pos (show Int32.ofNat (cO (kk p1)) = 162 by rw [c3]; rfl)]
        exact c01 _ (b < a) (by rw [lg_cmp_gt, l_ltB hb ha]) (by rw [c3]; rfl)
    · have e : (d1 w).bind (fun a => (d2 w).bind (fun b => (fO (cS (kk p1)) a b).bind (fun v => some v))) = none := by rw [hv, hn]; rfl
      rw [if_neg (by decide), if_neg (by rw [c2.2.2]; decide)]
      exact hF e h'' 0 (Or.inl rfl) ⟨fr_trans (fr_trans c.1 f0) c2.1, c2.2⟩
  · have e : (d1 w).bind (fun a => (d2 w).bind (fun b => (fO (cS (kk p1)) a b).bind (fun v => some v))) = none := by rw [hn]; rfl
    have H1 := tke_fr H c.1 (by decide)
    rw [c.2.1]
    refine cl_196 (by omega) ht H1 (by omega) ?_
    rw [c.2.1, q_a1]
    have f0 := fr_19 h' (Int32.ofNat (400 * t + (p1 + 1)))
    have H2 := tke_fr H1 f0 (by decide)
    refine h2d _ _ _ t w 1 (by omega) H2 (g19 _ _) (dd1 (by rw [b19]; exact c.2.2)) (fun h'' r c2 => ?_)
    rw [b19, c.2.2] at c2
    rw [if_neg (by decide), if_neg (by rw [c2.2.2]; decide)]
    exact hF e h'' 0 (Or.inl rfl) ⟨fr_trans (fr_trans c.1 f0) c2.1, c2.2⟩
theorem I_qD (ht : tks kk nu pl N) (hp : p ≤ N) (hp1 : p1 < N) (hd : 3 ≤ dp) (hop : ¬ kk p = 40) (h1 : ED kk nu N 199 dp p p1) (h2d : ED kk nu N 199 dp (p1 + 1) p2) : ID kk nu N 205 (dp + 1) p p2 := by
  intro D h K t w lv hD H hg hk hK
  obtain ⟨d, rfl⟩ := q_dp (k := 2) (D := D) (by omega)
  have hkk := (ht.2.1 p hp).1
  refine e_205 _ H.1 ?_
  refine cl_197 (c := 140) (by omega) ht H hg hp (by omega) (fun q => absurd ((cO_40 _ hkk).1 q) hop) (fun _ => ?_)
  rw [if_pos rfl]
  refine h1 _ h _ t w lv (by omega) H hg hk (fun h' r c => ?_)
  have H1 := tke_fr H c.1 (by decide)
  rw [c.2.1]
  refine cl_196 (by omega) ht H1 (by omega) ?_
  rw [c.2.1, q_a1]
  have f0 := fr_19 h' (Int32.ofNat (400 * t + (p1 + 1)))
  have H2 := tke_fr H1 f0 (by decide)
  refine h2d _ _ _ t w lv (by omega) H2 (g19 _ _) (by rw [b19, c.2.2]; exact hk) (fun h'' r c2 => ?_)
  rw [b19, c.2.2] at c2
  have fin := hK h'' 0 (Or.inl rfl) ⟨fr_trans (fr_trans c.1 f0) c2.1, c2.2⟩
  rcases hk with ⟨e1, _⟩ | ⟨e1, e2⟩
  · rw [if_pos e1]
    exact fin
  · rw [if_neg (by rw [e1]; decide), if_neg (by rw [c2.2.2, e2]; decide)]
    exact fin
end AskT
