/-! Laws: asking by the reference. -/
def eg (h h' : lm_H) (t p' : Nat) (b : Int32) : Prop := fr [] [19, 21] h h' ∧ lm_i h' 92 19 = Int32.ofNat (400 * t + p') ∧ lm_i h' 92 21 = b
/-- nothing is asked any more: not live, or broken -/
def dd (lv b : Int32) : Prop := lv = 0 ∧ (b = 0 ∨ b = 1) ∨ lv = 1 ∧ b = 1
def bI (v : Int) : Int32 := if v = 0 then 0 else 1
theorem bI_01 (v : Int) : bI v = 0 ∨ bI v = 1 := by
  unfold bI
  split
  · exact Or.inl rfl
  · exact Or.inr rfl
theorem eg_tr {h h1 h2 : lm_H} {t p : Nat} {b : Int32} (a : fr [] [19, 21] h h1) (c : eg h1 h2 t p b) : eg h h2 t p b := ⟨fr_trans a c.1, c.2⟩
theorem fr_19 (h : lm_H) (v : Int32) : fr [] [19, 21] h (lm_si h 92 19 v) := fr_s92 (fr_refl _ _ _) (by decide) _
theorem fr_21 (h : lm_H) (v : Int32) : fr [] [19, 21] h (lm_si h 92 21 v) := fr_s92 (fr_refl _ _ _) (by decide) _
theorem b19 (h : lm_H) (v : Int32) : lm_i (lm_si h 92 19 v) 92 21 = lm_i h 92 21 := by rw [pi_si, if_pos rfl, if_neg (by decide)]
theorem g19 (h : lm_H) (v : Int32) : lm_i (lm_si h 92 19 v) 92 19 = v := by rw [pi_si, if_pos rfl, if_pos rfl]
theorem b21 (h : lm_H) (v : Int32) : lm_i (lm_si h 92 21 v) 92 21 = v := by rw [pi_si, if_pos rfl, if_pos rfl]
theorem g21 (h : lm_H) (v : Int32) : lm_i (lm_si h 92 21 v) 92 19 = lm_i h 92 19 := by rw [pi_si, if_pos rfl, if_neg (by decide)]
section AskM
variable (kk nu : Nat → Nat) (N : Nat)
def EL (M dp p p' : Nat) (den : dN) : Prop := ∀ (D : Nat) (h : lm_H) (K : Int64 → lm_H → Prop) (t : Nat) (w : Nat → Int32), dp ≤ D → tke kk nu N h t w → lm_i h 92 19 = Int32.ofNat (400 * t + p) → lm_i h 92 21 = 0 → (∀ v, den w = some v → ∀ h', eg h h' t p' 0 → K (Int64.ofInt v) h') → (den w = none → ∀ h' r, eg h h' t p' 1 → K r h') → lm_call D M [.ref 92, .int 1] h (lm_kL K)
def ED (M dp p p' : Nat) : Prop := ∀ (D : Nat) (h : lm_H) (K : Int64 → lm_H → Prop) (t : Nat) (w : Nat → Int32) (lv : Int32), dp ≤ D → tke kk nu N h t w → lm_i h 92 19 = Int32.ofNat (400 * t + p) → dd lv (lm_i h 92 21) → (∀ h' r, eg h h' t p' (lm_i h 92 21) → K r h') → lm_call D M [.ref 92, .int lv] h (lm_kL K)
def ELt (M dp p p' : Nat) (dt : Int → dN) : Prop := ∀ (d : Nat) (h : lm_H) (K : Int64 → lm_H → Prop) (t : Nat) (w : Nat → Int32) (a : Int), dp ≤ d → tke kk nu N h t w → lm_i h 92 19 = Int32.ofNat (400 * t + p) → lm_i h 92 21 = 0 → bB a → (∀ v, dt a w = some v → ∀ h', eg h h' t p' 0 → K (Int64.ofInt v) h') → (dt a w = none → ∀ h' r, eg h h' t p' 1 → K r h') → lm_W d M 6 [some (.ref 92), some (.int 1), some (.long (Int64.ofInt a)), none, none, none, none] [] h (lm_kL K)
def EDt (M dp p p' : Nat) : Prop := ∀ (d : Nat) (h : lm_H) (K : Int64 → lm_H → Prop) (t : Nat) (w : Nat → Int32) (lv : Int32) (y : Int64), dp ≤ d → tke kk nu N h t w → lm_i h 92 19 = Int32.ofNat (400 * t + p) → dd lv (lm_i h 92 21) → (∀ h' r, eg h h' t p' (lm_i h 92 21) → K r h') → lm_W d M 6 [some (.ref 92), some (.int lv), some (.long y), none, none, none, none] [] h (lm_kL K)
def IL (M dp p p' : Nat) (den : dN) : Prop := ∀ (D : Nat) (h : lm_H) (K : Int32 → lm_H → Prop) (t : Nat) (w : Nat → Int32), dp ≤ D → tke kk nu N h t w → lm_i h 92 19 = Int32.ofNat (400 * t + p) → lm_i h 92 21 = 0 → (∀ v, den w = some v → ∀ h', eg h h' t p' 0 → K (bI v) h') → (den w = none → ∀ h' r, (r = 0 ∨ r = 1) → eg h h' t p' 1 → K r h') → lm_call D M [.ref 92, .int 1] h (lm_kI K)
def ID (M dp p p' : Nat) : Prop := ∀ (D : Nat) (h : lm_H) (K : Int32 → lm_H → Prop) (t : Nat) (w : Nat → Int32) (lv : Int32), dp ≤ D → tke kk nu N h t w → lm_i h 92 19 = Int32.ofNat (400 * t + p) → dd lv (lm_i h 92 21) → (∀ h' r, (r = 0 ∨ r = 1) → eg h h' t p' (lm_i h 92 21) → K r h') → lm_call D M [.ref 92, .int lv] h (lm_kI K)
def ILt (M dp p p' : Nat) (dt : Int → dN) : Prop := ∀ (d : Nat) (h : lm_H) (K : Int32 → lm_H → Prop) (t : Nat) (w : Nat → Int32) (a : Int), dp ≤ d → tke kk nu N h t w → lm_i h 92 19 = Int32.ofNat (400 * t + p) → lm_i h 92 21 = 0 → (∀ v, dt a w = some v → ∀ h', eg h h' t p' 0 → K (bI v) h') → (dt a w = none → ∀ h' r, (r = 0 ∨ r = 1) → eg h h' t p' 1 → K r h') → lm_W d M 6 [some (.ref 92), some (.int 1), some (.int (bI a)), none] [] h (lm_kI K)
def IDt (M dp p p' : Nat) : Prop := ∀ (d : Nat) (h : lm_H) (K : Int32 → lm_H → Prop) (t : Nat) (w : Nat → Int32) (lv y : Int32), dp ≤ d → tke kk nu N h t w → lm_i h 92 19 = Int32.ofNat (400 * t + p) → dd lv (lm_i h 92 21) → (y = 0 ∨ y = 1) → (∀ h' r, (r = 0 ∨ r = 1) → eg h h' t p' (lm_i h 92 21) → K r h') → lm_W d M 6 [some (.ref 92), some (.int lv), some (.int y), none] [] h (lm_kI K)
/-- behind o times not -/
def ILp (dp p p' o : Nat) (den : dN) : Prop := ∀ (d : Nat) (h : lm_H) (K : Int32 → lm_H → Prop) (t : Nat) (w : Nat → Int32), dp ≤ d → tke kk nu N h t w → lm_i h 92 19 = Int32.ofNat (400 * t + p) → lm_i h 92 21 = 0 → (∀ v, den w = some v → ∀ h', eg h h' t p' 0 → K (bI v) h') → (den w = none → ∀ h' r, (r = 0 ∨ r = 1) → eg h h' t p' 1 → K r h') → lm_W d 204 2 [some (.ref 92), some (.int 1), some (.int (Int32.ofNat o))] [] h (lm_kI K)
def IDp (dp p p' : Nat) : Prop := ∀ (d : Nat) (h : lm_H) (K : Int32 → lm_H → Prop) (t : Nat) (w : Nat → Int32) (lv y : Int32), dp ≤ d → tke kk nu N h t w → lm_i h 92 19 = Int32.ofNat (400 * t + p) → dd lv (lm_i h 92 21) → (y = 0 ∨ y = 1) → (∀ h' r, (r = 0 ∨ r = 1) → eg h h' t p' (lm_i h 92 21) → K r h') → lm_W d 204 2 [some (.ref 92), some (.int lv), some (.int y)] [] h (lm_kI K)
end AskM
theorem cl_198 {D : Nat} {h : lm_H} {K : Int64 → lm_H → Prop} {x : Int} (hD : 1 ≤ D) (hl : lm_Lay h) (hb : lm_i h 92 21 = 0) (hx : -4611686018427387904 ≤ x ∧ x ≤ 4611686018427387904) (hT : ∀ v, bN x = some v → K (Int64.ofInt v) h) (hF : bN x = none → K 0 (lm_si h 92 21 1)) : lm_call D 198 [.ref 92, .long (Int64.ofInt x), .int 1] h (lm_kL K) := by
  obtain ⟨d, rfl⟩ := q_dp hD
  refine e_198 _ _ hl ?_
  have e1 : (1000000000 : Int64) = Int64.ofInt 1000000000 := rfl
  have e2 : (-1000000000 : Int64) = Int64.ofInt (-1000000000) := rfl
  rw [if_neg (by decide), hb]
  by_cases c1 : 1000000000 < x
  · rw [if_pos (by rw [lg_cmp_gt, e1, l_ltB (by omega) hx]; exact c1)]
    exact hF (by unfold bN; rw [if_pos (Or.inl c1)])
  · rw [if_neg (by rw [lg_cmp_gt, e1, l_ltB (by omega) hx]; exact c1)]
    by_cases c2 : x < -1000000000
    · rw [if_pos (by rw [lg_cmp_lt, e2, l_ltB hx (by omega)]; exact c2)]
      exact hF (by unfold bN; rw [if_pos (Or.inr c2)])
    · rw [if_neg (by rw [lg_cmp_lt, e2, l_ltB hx (by omega)]; exact c2), if_pos rfl]
      exact hT x (by unfold bN; rw [if_neg (by omega)])
theorem cx_198 {D : Nat} {h : lm_H} {K : Int64 → lm_H → Prop} {x : Int64} {lv : Int32} (hD : 1 ≤ D) (hl : lm_Lay h) (hb : dd lv (lm_i h 92 21)) (hK : ∀ r, K r h) : lm_call D 198 [.ref 92, .long x, .int lv] h (lm_kL K) := by
  obtain ⟨d, rfl⟩ := q_dp hD
  refine e_198 _ _ hl ?_
  rcases hb with ⟨e, _⟩ | ⟨e, e2⟩
  · rw [if_pos e]
    split
    · exact hK _
    · exact hK _
  · have es : lm_si h 92 21 1 = h := by rw [← e2]; exact q_self h 92 21
    rw [if_neg (by rw [e]; decide), es, e2]
    split
    · exact hK _
    split
    · exact hK _
    rw [if_neg (by decide)]
    exact hK _
section AskMT
variable {kk nu pl : Nat → Nat} {N dp p p1 p2 : Nat} {d1 : dN} {dt : Int → dN}
theorem dd1 {b : Int32} (h : b = 1) : dd 1 b := Or.inr ⟨rfl, h⟩
theorem E_sL_199 (hd : 2 ≤ dp) (h1 : EL kk nu N 200 dp p p1 d1) (hb : ∀ w v, d1 w = some v → bB v) (h2 : ELt kk nu N 199 dp p1 p2 dt) (h3 : EDt kk nu N 199 dp p1 p2) : EL kk nu N 199 (dp + 1) p p2 (fun w => (d1 w).bind (fun a => dt a w)) := by
  intro D h K t w hD H hg hk hT hF
  obtain ⟨d, rfl⟩ := q_dp (k := 2) (D := D) (by omega)
  refine e_199 _ H.1 ?_
  refine h1 _ h _ t w (by omega) H hg hk (fun v hv h' c => ?_) (fun hn h' r c => ?_)
  · have e : (d1 w).bind (fun a => dt a w) = dt v w := by rw [hv]; rfl
    exact h2 _ h' K t w v (by omega) (tke_fr H c.1 (by decide)) c.2.1 c.2.2 (hb w v hv) (fun u hu h2 c2 => hT u (e.trans hu) h2 (eg_tr c.1 c2)) (fun hn h2 r c2 => hF (e.trans hn) h2 r (eg_tr c.1 c2))
  · have e : (d1 w).bind (fun a => dt a w) = none := by rw [hn]; rfl
    refine h3 _ h' K t w 1 r (by omega) (tke_fr H c.1 (by decide)) c.2.1 (dd1 c.2.2) (fun h2 r2 c2 => ?_)
    rw [c.2.2] at c2
    exact hF e h2 r2 (eg_tr c.1 c2)
theorem E_sD_199 (hd : 2 ≤ dp) (h1 : ED kk nu N 200 dp p p1) (h3 : EDt kk nu N 199 dp p1 p2) : ED kk nu N 199 (dp + 1) p p2 := by
  intro D h K t w lv hD H hg hk hK
  obtain ⟨d, rfl⟩ := q_dp (k := 2) (D := D) (by omega)
  refine e_199 _ H.1 ?_
  refine h1 _ h _ t w lv (by omega) H hg hk (fun h' r c => ?_)
  refine h3 _ h' K t w lv r (by omega) (tke_fr H c.1 (by decide)) c.2.1 (by rw [c.2.2]; exact hk) (fun h2 r2 c2 => ?_)
  rw [c.2.2] at c2
  exact hK h2 r2 (eg_tr c.1 c2)
theorem E_sL_200 (hd : 2 ≤ dp) (h1 : EL kk nu N 201 dp p p1 d1) (hb : ∀ w v, d1 w = some v → bB v) (h2 : ELt kk nu N 200 dp p1 p2 dt) (h3 : EDt kk nu N 200 dp p1 p2) : EL kk nu N 200 (dp + 1) p p2 (fun w => (d1 w).bind (fun a => dt a w)) := by
  intro D h K t w hD H hg hk hT hF
  obtain ⟨d, rfl⟩ := q_dp (k := 2) (D := D) (by omega)
  refine e_200 _ H.1 ?_
  refine h1 _ h _ t w (by omega) H hg hk (fun v hv h' c => ?_) (fun hn h' r c => ?_)
  · have e : (d1 w).bind (fun a => dt a w) = dt v w := by rw [hv]; rfl
    exact h2 _ h' K t w v (by omega) (tke_fr H c.1 (by decide)) c.2.1 c.2.2 (hb w v hv) (fun u hu h2 c2 => hT u (e.trans hu) h2 (eg_tr c.1 c2)) (fun hn h2 r c2 => hF (e.trans hn) h2 r (eg_tr c.1 c2))
  · have e : (d1 w).bind (fun a => dt a w) = none := by rw [hn]; rfl
    refine h3 _ h' K t w 1 r (by omega) (tke_fr H c.1 (by decide)) c.2.1 (dd1 c.2.2) (fun h2 r2 c2 => ?_)
    rw [c.2.2] at c2
    exact hF e h2 r2 (eg_tr c.1 c2)
theorem E_sD_200 (hd : 2 ≤ dp) (h1 : ED kk nu N 201 dp p p1) (h3 : EDt kk nu N 200 dp p1 p2) : ED kk nu N 200 (dp + 1) p p2 := by
  intro D h K t w lv hD H hg hk hK
  obtain ⟨d, rfl⟩ := q_dp (k := 2) (D := D) (by omega)
  refine e_200 _ H.1 ?_
  refine h1 _ h _ t w lv (by omega) H hg hk (fun h' r c => ?_)
  refine h3 _ h' K t w lv r (by omega) (tke_fr H c.1 (by decide)) c.2.1 (by rw [c.2.2]; exact hk) (fun h2 r2 c2 => ?_)
  rw [c.2.2] at c2
  exact hK h2 r2 (eg_tr c.1 c2)
theorem E_nL_199 (ht : tks kk nu pl N) (hp : p ≤ N) (hd : 2 ≤ dp) (hA : ¬ kk p = 43) (hB : ¬ kk p = 45) : ELt kk nu N 199 dp p p (fun a _ => some a) := by
  intro d h K t w a hD H hg hk ha hT hF
  obtain ⟨d, rfl⟩ := q_dp (k := 1) (D := d) (by omega)
  have hkk := (ht.2.1 p hp).1
  have hcl := cO_lt _ hkk
  refine b_199_6 _ _ H.1 ?_
  rw [hg]
  refine cl_196 (by omega) ht H hp ?_
  rw [if_neg (show ¬ Int32.ofNat (cO (kk p)) = 143 from fun q => hA ((cO_43 _ hkk).1 ((q_eq (b := 143) (by omega) (by omega)).mp q))), hg]
  refine cl_196 (by omega) ht H hp ?_
  rw [if_neg (show ¬ Int32.ofNat (cO (kk p)) = 145 from fun q => hB ((cO_45 _ hkk).1 ((q_eq (b := 145) (by omega) (by omega)).mp q)))]
  exact hT a rfl h ⟨fr_refl _ _ _, hg, hk⟩
theorem E_nD_199 (ht : tks kk nu pl N) (hp : p ≤ N) (hd : 2 ≤ dp) (hA : ¬ kk p = 43) (hB : ¬ kk p = 45) : EDt kk nu N 199 dp p p := by
  intro d h K t w lv y hD H hg hk hK
  obtain ⟨d, rfl⟩ := q_dp (k := 1) (D := d) (by omega)
  have hkk := (ht.2.1 p hp).1
  have hcl := cO_lt _ hkk
  refine b_199_6 _ _ H.1 ?_
  rw [hg]
  refine cl_196 (by omega) ht H hp ?_
  rw [if_neg (show ¬ Int32.ofNat (cO (kk p)) = 143 from fun q => hA ((cO_43 _ hkk).1 ((q_eq (b := 143) (by omega) (by omega)).mp q))), hg]
  refine cl_196 (by omega) ht H hp ?_
  rw [if_neg (show ¬ Int32.ofNat (cO (kk p)) = 145 from fun q => hB ((cO_45 _ hkk).1 ((q_eq (b := 145) (by omega) (by omega)).mp q)))]
  exact hK h y ⟨fr_refl _ _ _, hg, rfl⟩
theorem E_oL_199_43 (ht : tks kk nu pl N) (hp : p < N) (hd : 2 ≤ dp) (hop : kk p = 43) (h1 : EL kk nu N 200 dp (p + 1) p1 d1) (hb : ∀ w v, d1 w = some v → bB v) (h2 : ELt kk nu N 199 dp p1 p2 dt) (h3 : EDt kk nu N 199 dp p1 p2) : ELt kk nu N 199 dp p p2 (fun a w => (d1 w).bind (fun b => (fO 2 a b).bind (fun v => dt v w))) := by
  intro d h K t w a hD H hg hk ha hT hF
  obtain ⟨d, rfl⟩ := q_dp (k := 1) (D := d) (by omega)
  have hN := ht.1
  have h6 := H.2.1
  have eg0 : 400 * t + p + 1 = 400 * t + (p + 1) := by omega
  refine b_199_6 _ _ H.1 ?_
  rw [hg]
  refine cl_196 (by omega) ht H (by omega) ?_
  rw [if_pos (show Int32.ofNat (cO (kk p)) = 143 by rw [hop]; rfl), hg]
  refine cl_196 (by omega) ht H (by omega) ?_
  rw [if_pos (show Int32.ofNat (cO (kk p)) = 143 by rw [hop]; rfl), hg, q_a1]
  rw [eg0]
  have H1 := tke_fr H (fr_19 h (Int32.ofNat (400 * t + (p + 1)))) (by decide)
  refine h1 _ _ _ t w (by omega) H1 (g19 _ _) (by rw [b19]; exact hk) (fun b hv h' c => ?_) (fun hn h' r c => ?_)
  · have e : (d1 w).bind (fun b => (fO 2 a b).bind (fun v => dt v w)) = (fO 2 a b).bind (fun v => dt v w) := by rw [hv]; rfl
    have hbb := hb w b hv
    have H2 := tke_fr H1 c.1 (by decide)
    have f1 := fr_trans (fr_19 h (Int32.ofNat (400 * t + (p + 1)))) c.1
    have good : ∀ v, fO 2 a b = some v → lm_W (d + 1) 199 6 [some (.ref 92), some (.int 1), some (.long (Int64.ofInt v)), none, none, none, none] [] h' (lm_kL K) := by
      intro v hv2
      have e2 : (fO 2 a b).bind (fun v => dt v w) = dt v w := by rw [hv2]; rfl
      exact h2 _ h' K t w v (by omega) H2 c.2.1 c.2.2 (fO_b hv2) (fun u hu h2 c2 => hT u (e.trans (e2.trans hu)) h2 (eg_tr f1 c2)) (fun hn h2 r c2 => hF (e.trans (e2.trans hn)) h2 r (eg_tr f1 c2))
    have bad : fO 2 a b = none → ∀ r, lm_W (d + 1) 199 6 [some (.ref 92), some (.int 1), some (.long r), none, none, none, none] [] (lm_si h' 92 21 1) (lm_kL K) := by
      intro hn2 r
      refine h3 _ _ K t w 1 r (by omega) (tke_fr H2 (fr_21 h' 1) (by decide)) (by rw [g21]; exact c.2.1) (dd1 (b21 _ _)) (fun h2 r2 c2 => ?_)
      rw [b21] at c2
      exact hF (e.trans (by rw [hn2]; rfl)) h2 r2 (eg_tr (fr_trans f1 (fr_21 h' 1)) c2)
    have eF : fO 2 a b = bN (a + b) := rfl
    rw [l_add]
    refine cl_198 (by omega) H2.1 c.2.2 (by unfold bB at ha hbb; omega) (fun v hv => ?_) (fun hn => ?_)
    · exact good v (eF.trans hv)
    · exact bad (eF.trans hn) 0
  · have e : (d1 w).bind (fun b => (fO 2 a b).bind (fun v => dt v w)) = none := by rw [hn]; rfl
    have H2 := tke_fr H1 c.1 (by decide)
    have f1 := fr_trans (fr_19 h (Int32.ofNat (400 * t + (p + 1)))) c.1
    have rest : ∀ r, lm_W (d + 1) 199 6 [some (.ref 92), some (.int 1), some (.long r), none, none, none, none] [] h' (lm_kL K) := by
      intro r
      refine h3 _ h' K t w 1 r (by omega) H2 c.2.1 (dd1 c.2.2) (fun h2 r2 c2 => ?_)
      rw [c.2.2] at c2
      exact hF e h2 r2 (eg_tr f1 c2)
    exact cx_198 (by omega) H2.1 (dd1 c.2.2) (fun r2 => rest r2)
theorem E_oD_199_43 (ht : tks kk nu pl N) (hp : p < N) (hd : 2 ≤ dp) (hop : kk p = 43) (h1 : ED kk nu N 200 dp (p + 1) p1) (h3 : EDt kk nu N 199 dp p1 p2) : EDt kk nu N 199 dp p p2 := by
  intro d h K t w lv y hD H hg hk hK
  obtain ⟨d, rfl⟩ := q_dp (k := 1) (D := d) (by omega)
  have hN := ht.1
  have h6 := H.2.1
  have eg0 : 400 * t + p + 1 = 400 * t + (p + 1) := by omega
  refine b_199_6 _ _ H.1 ?_
  rw [hg]
  refine cl_196 (by omega) ht H (by omega) ?_
  rw [if_pos (show Int32.ofNat (cO (kk p)) = 143 by rw [hop]; rfl), hg]
  refine cl_196 (by omega) ht H (by omega) ?_
  rw [if_pos (show Int32.ofNat (cO (kk p)) = 143 by rw [hop]; rfl), hg, q_a1]
  rw [eg0]
  have H1 := tke_fr H (fr_19 h (Int32.ofNat (400 * t + (p + 1)))) (by decide)
  refine h1 _ _ _ t w lv (by omega) H1 (g19 _ _) (by rw [b19]; exact hk) (fun h' r c => ?_)
  have cc := eg_tr (fr_19 h (Int32.ofNat (400 * t + (p + 1)))) c
  have fin : ∀ r2, lm_W (d + 1) 199 6 [some (.ref 92), some (.int lv), some (.long r2), none, none, none, none] [] h' (lm_kL K) := by
    intro r2
    refine h3 _ h' K t w lv r2 (by omega) (tke_fr H cc.1 (by decide)) c.2.1 (by rw [c.2.2, b19]; exact hk) (fun h2 r3 c2 => ?_)
    rw [c.2.2, b19] at c2
    exact hK h2 r3 (eg_tr cc.1 c2)
  refine cx_198 (by omega) (fr_Lay cc.1 H.1) (by rw [c.2.2, b19]; exact hk) (fun r2 => ?_)
  exact fin r2
theorem E_oL_199_45 (ht : tks kk nu pl N) (hp : p < N) (hd : 2 ≤ dp) (hop : kk p = 45) (h1 : EL kk nu N 200 dp (p + 1) p1 d1) (hb : ∀ w v, d1 w = some v → bB v) (h2 : ELt kk nu N 199 dp p1 p2 dt) (h3 : EDt kk nu N 199 dp p1 p2) : ELt kk nu N 199 dp p p2 (fun a w => (d1 w).bind (fun b => (fO 3 a b).bind (fun v => dt v w))) := by
  intro d h K t w a hD H hg hk ha hT hF
  obtain ⟨d, rfl⟩ := q_dp (k := 1) (D := d) (by omega)
  have hN := ht.1
  have h6 := H.2.1
  have eg0 : 400 * t + p + 1 = 400 * t + (p + 1) := by omega
  refine b_199_6 _ _ H.1 ?_
  rw [hg]
  refine cl_196 (by omega) ht H (by omega) ?_
  rw [if_neg (show ¬ Int32.ofNat (cO (kk p)) = 143 by rw [hop]; decide), hg]
  refine cl_196 (by omega) ht H (by omega) ?_
  rw [if_pos (show Int32.ofNat (cO (kk p)) = 145 by rw [hop]; rfl), hg]
  refine cl_196 (by omega) ht H (by omega) ?_
  rw [if_neg (show ¬ Int32.ofNat (cO (kk p)) = 143 by rw [hop]; decide), hg, q_a1]
  rw [eg0]
  have H1 := tke_fr H (fr_19 h (Int32.ofNat (400 * t + (p + 1)))) (by decide)
  refine h1 _ _ _ t w (by omega) H1 (g19 _ _) (by rw [b19]; exact hk) (fun b hv h' c => ?_) (fun hn h' r c => ?_)
  · have e : (d1 w).bind (fun b => (fO 3 a b).bind (fun v => dt v w)) = (fO 3 a b).bind (fun v => dt v w) := by rw [hv]; rfl
    have hbb := hb w b hv
    have H2 := tke_fr H1 c.1 (by decide)
    have f1 := fr_trans (fr_19 h (Int32.ofNat (400 * t + (p + 1)))) c.1
    have good : ∀ v, fO 3 a b = some v → lm_W (d + 1) 199 6 [some (.ref 92), some (.int 1), some (.long (Int64.ofInt v)), none, none, none, none] [] h' (lm_kL K) := by
      intro v hv2
      have e2 : (fO 3 a b).bind (fun v => dt v w) = dt v w := by rw [hv2]; rfl
      exact h2 _ h' K t w v (by omega) H2 c.2.1 c.2.2 (fO_b hv2) (fun u hu h2 c2 => hT u (e.trans (e2.trans hu)) h2 (eg_tr f1 c2)) (fun hn h2 r c2 => hF (e.trans (e2.trans hn)) h2 r (eg_tr f1 c2))
    have bad : fO 3 a b = none → ∀ r, lm_W (d + 1) 199 6 [some (.ref 92), some (.int 1), some (.long r), none, none, none, none] [] (lm_si h' 92 21 1) (lm_kL K) := by
      intro hn2 r
      refine h3 _ _ K t w 1 r (by omega) (tke_fr H2 (fr_21 h' 1) (by decide)) (by rw [g21]; exact c.2.1) (dd1 (b21 _ _)) (fun h2 r2 c2 => ?_)
      rw [b21] at c2
      exact hF (e.trans (by rw [hn2]; rfl)) h2 r2 (eg_tr (fr_trans f1 (fr_21 h' 1)) c2)
    have eF : fO 3 a b = bN (a - b) := rfl
    rw [l_sub]
    refine cl_198 (by omega) H2.1 c.2.2 (by unfold bB at ha hbb; omega) (fun v hv => ?_) (fun hn => ?_)
    · exact good v (eF.trans hv)
    · exact bad (eF.trans hn) 0
  · have e : (d1 w).bind (fun b => (fO 3 a b).bind (fun v => dt v w)) = none := by rw [hn]; rfl
    have H2 := tke_fr H1 c.1 (by decide)
    have f1 := fr_trans (fr_19 h (Int32.ofNat (400 * t + (p + 1)))) c.1
    have rest : ∀ r, lm_W (d + 1) 199 6 [some (.ref 92), some (.int 1), some (.long r), none, none, none, none] [] h' (lm_kL K) := by
      intro r
      refine h3 _ h' K t w 1 r (by omega) H2 c.2.1 (dd1 c.2.2) (fun h2 r2 c2 => ?_)
      rw [c.2.2] at c2
      exact hF e h2 r2 (eg_tr f1 c2)
    exact cx_198 (by omega) H2.1 (dd1 c.2.2) (fun r2 => rest r2)
theorem E_oD_199_45 (ht : tks kk nu pl N) (hp : p < N) (hd : 2 ≤ dp) (hop : kk p = 45) (h1 : ED kk nu N 200 dp (p + 1) p1) (h3 : EDt kk nu N 199 dp p1 p2) : EDt kk nu N 199 dp p p2 := by
  intro d h K t w lv y hD H hg hk hK
  obtain ⟨d, rfl⟩ := q_dp (k := 1) (D := d) (by omega)
  have hN := ht.1
  have h6 := H.2.1
  have eg0 : 400 * t + p + 1 = 400 * t + (p + 1) := by omega
  refine b_199_6 _ _ H.1 ?_
  rw [hg]
  refine cl_196 (by omega) ht H (by omega) ?_
  rw [if_neg (show ¬ Int32.ofNat (cO (kk p)) = 143 by rw [hop]; decide), hg]
  refine cl_196 (by omega) ht H (by omega) ?_
  rw [if_pos (show Int32.ofNat (cO (kk p)) = 145 by rw [hop]; rfl), hg]
  refine cl_196 (by omega) ht H (by omega) ?_
  rw [if_neg (show ¬ Int32.ofNat (cO (kk p)) = 143 by rw [hop]; decide), hg, q_a1]
  rw [eg0]
  have H1 := tke_fr H (fr_19 h (Int32.ofNat (400 * t + (p + 1)))) (by decide)
  refine h1 _ _ _ t w lv (by omega) H1 (g19 _ _) (by rw [b19]; exact hk) (fun h' r c => ?_)
  have cc := eg_tr (fr_19 h (Int32.ofNat (400 * t + (p + 1)))) c
  have fin : ∀ r2, lm_W (d + 1) 199 6 [some (.ref 92), some (.int lv), some (.long r2), none, none, none, none] [] h' (lm_kL K) := by
    intro r2
    refine h3 _ h' K t w lv r2 (by omega) (tke_fr H cc.1 (by decide)) c.2.1 (by rw [c.2.2, b19]; exact hk) (fun h2 r3 c2 => ?_)
    rw [c.2.2, b19] at c2
    exact hK h2 r3 (eg_tr cc.1 c2)
  refine cx_198 (by omega) (fr_Lay cc.1 H.1) (by rw [c.2.2, b19]; exact hk) (fun r2 => ?_)
  exact fin r2
theorem E_nL_200 (ht : tks kk nu pl N) (hp : p ≤ N) (hd : 2 ≤ dp) (hA : ¬ kk p = 42) (hB : ¬ kk p = 47) : ELt kk nu N 200 dp p p (fun a _ => some a) := by
  intro d h K t w a hD H hg hk ha hT hF
  obtain ⟨d, rfl⟩ := q_dp (k := 1) (D := d) (by omega)
  have hkk := (ht.2.1 p hp).1
  have hcl := cO_lt _ hkk
  refine b_200_6 _ _ H.1 ?_
  rw [hg]
  refine cl_196 (by omega) ht H hp ?_
  rw [if_neg (show ¬ Int32.ofNat (cO (kk p)) = 142 from fun q => hA ((cO_42 _ hkk).1 ((q_eq (b := 142) (by omega) (by omega)).mp q))), hg]
  refine cl_196 (by omega) ht H hp ?_
  rw [if_neg (show ¬ Int32.ofNat (cO (kk p)) = 147 from fun q => hB ((cO_47 _ hkk).1 ((q_eq (b := 147) (by omega) (by omega)).mp q)))]
  exact hT a rfl h ⟨fr_refl _ _ _, hg, hk⟩
theorem E_nD_200 (ht : tks kk nu pl N) (hp : p ≤ N) (hd : 2 ≤ dp) (hA : ¬ kk p = 42) (hB : ¬ kk p = 47) : EDt kk nu N 200 dp p p := by
  intro d h K t w lv y hD H hg hk hK
  obtain ⟨d, rfl⟩ := q_dp (k := 1) (D := d) (by omega)
  have hkk := (ht.2.1 p hp).1
  have hcl := cO_lt _ hkk
  refine b_200_6 _ _ H.1 ?_
  rw [hg]
  refine cl_196 (by omega) ht H hp ?_
  rw [if_neg (show ¬ Int32.ofNat (cO (kk p)) = 142 from fun q => hA ((cO_42 _ hkk).1 ((q_eq (b := 142) (by omega) (by omega)).mp q))), hg]
  refine cl_196 (by omega) ht H hp ?_
  rw [if_neg (show ¬ Int32.ofNat (cO (kk p)) = 147 from fun q => hB ((cO_47 _ hkk).1 ((q_eq (b := 147) (by omega) (by omega)).mp q)))]
  exact hK h y ⟨fr_refl _ _ _, hg, rfl⟩
theorem E_oL_200_42 (ht : tks kk nu pl N) (hp : p < N) (hd : 2 ≤ dp) (hop : kk p = 42) (h1 : EL kk nu N 201 dp (p + 1) p1 d1) (hb : ∀ w v, d1 w = some v → bB v) (h2 : ELt kk nu N 200 dp p1 p2 dt) (h3 : EDt kk nu N 200 dp p1 p2) : ELt kk nu N 200 dp p p2 (fun a w => (d1 w).bind (fun b => (fO 4 a b).bind (fun v => dt v w))) := by
  intro d h K t w a hD H hg hk ha hT hF
  obtain ⟨d, rfl⟩ := q_dp (k := 1) (D := d) (by omega)
  have hN := ht.1
  have h6 := H.2.1
  have eg0 : 400 * t + p + 1 = 400 * t + (p + 1) := by omega
  refine b_200_6 _ _ H.1 ?_
  rw [hg]
  refine cl_196 (by omega) ht H (by omega) ?_
  rw [if_pos (show Int32.ofNat (cO (kk p)) = 142 by rw [hop]; rfl), hg]
  refine cl_196 (by omega) ht H (by omega) ?_
  rw [if_pos (show Int32.ofNat (cO (kk p)) = 142 by rw [hop]; rfl), hg, q_a1]
  rw [eg0]
  have H1 := tke_fr H (fr_19 h (Int32.ofNat (400 * t + (p + 1)))) (by decide)
  refine h1 _ _ _ t w (by omega) H1 (g19 _ _) (by rw [b19]; exact hk) (fun b hv h' c => ?_) (fun hn h' r c => ?_)
  · have e : (d1 w).bind (fun b => (fO 4 a b).bind (fun v => dt v w)) = (fO 4 a b).bind (fun v => dt v w) := by rw [hv]; rfl
    have hbb := hb w b hv
    have H2 := tke_fr H1 c.1 (by decide)
    have f1 := fr_trans (fr_19 h (Int32.ofNat (400 * t + (p + 1)))) c.1
    have good : ∀ v, fO 4 a b = some v → lm_W (d + 1) 200 6 [some (.ref 92), some (.int 1), some (.long (Int64.ofInt v)), none, none, none, none] [] h' (lm_kL K) := by
      intro v hv2
      have e2 : (fO 4 a b).bind (fun v => dt v w) = dt v w := by rw [hv2]; rfl
      exact h2 _ h' K t w v (by omega) H2 c.2.1 c.2.2 (fO_b hv2) (fun u hu h2 c2 => hT u (e.trans (e2.trans hu)) h2 (eg_tr f1 c2)) (fun hn h2 r c2 => hF (e.trans (e2.trans hn)) h2 r (eg_tr f1 c2))
    have bad : fO 4 a b = none → ∀ r, lm_W (d + 1) 200 6 [some (.ref 92), some (.int 1), some (.long r), none, none, none, none] [] (lm_si h' 92 21 1) (lm_kL K) := by
      intro hn2 r
      refine h3 _ _ K t w 1 r (by omega) (tke_fr H2 (fr_21 h' 1) (by decide)) (by rw [g21]; exact c.2.1) (dd1 (b21 _ _)) (fun h2 r2 c2 => ?_)
      rw [b21] at c2
      exact hF (e.trans (by rw [hn2]; rfl)) h2 r2 (eg_tr (fr_trans f1 (fr_21 h' 1)) c2)
    have eF : fO 4 a b = bN (a * b) := rfl
    rw [l_mul]
    refine cl_198 (by omega) H2.1 c.2.2 (bB_mul ha hbb) (fun v hv => ?_) (fun hn => ?_)
    · exact good v (eF.trans hv)
    · exact bad (eF.trans hn) 0
  · have e : (d1 w).bind (fun b => (fO 4 a b).bind (fun v => dt v w)) = none := by rw [hn]; rfl
    have H2 := tke_fr H1 c.1 (by decide)
    have f1 := fr_trans (fr_19 h (Int32.ofNat (400 * t + (p + 1)))) c.1
    have rest : ∀ r, lm_W (d + 1) 200 6 [some (.ref 92), some (.int 1), some (.long r), none, none, none, none] [] h' (lm_kL K) := by
      intro r
      refine h3 _ h' K t w 1 r (by omega) H2 c.2.1 (dd1 c.2.2) (fun h2 r2 c2 => ?_)
      rw [c.2.2] at c2
      exact hF e h2 r2 (eg_tr f1 c2)
    exact cx_198 (by omega) H2.1 (dd1 c.2.2) (fun r2 => rest r2)
theorem E_oD_200_42 (ht : tks kk nu pl N) (hp : p < N) (hd : 2 ≤ dp) (hop : kk p = 42) (h1 : ED kk nu N 201 dp (p + 1) p1) (h3 : EDt kk nu N 200 dp p1 p2) : EDt kk nu N 200 dp p p2 := by
  intro d h K t w lv y hD H hg hk hK
  obtain ⟨d, rfl⟩ := q_dp (k := 1) (D := d) (by omega)
  have hN := ht.1
  have h6 := H.2.1
  have eg0 : 400 * t + p + 1 = 400 * t + (p + 1) := by omega
  refine b_200_6 _ _ H.1 ?_
  rw [hg]
  refine cl_196 (by omega) ht H (by omega) ?_
  rw [if_pos (show Int32.ofNat (cO (kk p)) = 142 by rw [hop]; rfl), hg]
  refine cl_196 (by omega) ht H (by omega) ?_
  rw [if_pos (show Int32.ofNat (cO (kk p)) = 142 by rw [hop]; rfl), hg, q_a1]
  rw [eg0]
  have H1 := tke_fr H (fr_19 h (Int32.ofNat (400 * t + (p + 1)))) (by decide)
  refine h1 _ _ _ t w lv (by omega) H1 (g19 _ _) (by rw [b19]; exact hk) (fun h' r c => ?_)
  have cc := eg_tr (fr_19 h (Int32.ofNat (400 * t + (p + 1)))) c
  have fin : ∀ r2, lm_W (d + 1) 200 6 [some (.ref 92), some (.int lv), some (.long r2), none, none, none, none] [] h' (lm_kL K) := by
    intro r2
    refine h3 _ h' K t w lv r2 (by omega) (tke_fr H cc.1 (by decide)) c.2.1 (by rw [c.2.2, b19]; exact hk) (fun h2 r3 c2 => ?_)
    rw [c.2.2, b19] at c2
    exact hK h2 r3 (eg_tr cc.1 c2)
  refine cx_198 (by omega) (fr_Lay cc.1 H.1) (by rw [c.2.2, b19]; exact hk) (fun r2 => ?_)
  exact fin r2
theorem E_oL_200_47 (ht : tks kk nu pl N) (hp : p < N) (hd : 2 ≤ dp) (hop : kk p = 47) (h1 : EL kk nu N 201 dp (p + 1) p1 d1) (hb : ∀ w v, d1 w = some v → bB v) (h2 : ELt kk nu N 200 dp p1 p2 dt) (h3 : EDt kk nu N 200 dp p1 p2) : ELt kk nu N 200 dp p p2 (fun a w => (d1 w).bind (fun b => (fO 5 a b).bind (fun v => dt v w))) := by
  intro d h K t w a hD H hg hk ha hT hF
  obtain ⟨d, rfl⟩ := q_dp (k := 1) (D := d) (by omega)
  have hN := ht.1
  have h6 := H.2.1
  have eg0 : 400 * t + p + 1 = 400 * t + (p + 1) := by omega
  refine b_200_6 _ _ H.1 ?_
  rw [hg]
  refine cl_196 (by omega) ht H (by omega) ?_
  rw [if_neg (show ¬ Int32.ofNat (cO (kk p)) = 142 by rw [hop]; decide), hg]
  refine cl_196 (by omega) ht H (by omega) ?_
  rw [if_pos (show Int32.ofNat (cO (kk p)) = 147 by rw [hop]; rfl), hg]
  refine cl_196 (by omega) ht H (by omega) ?_
  rw [if_neg (show ¬ Int32.ofNat (cO (kk p)) = 142 by rw [hop]; decide), hg, q_a1]
  rw [eg0]
  have H1 := tke_fr H (fr_19 h (Int32.ofNat (400 * t + (p + 1)))) (by decide)
  refine h1 _ _ _ t w (by omega) H1 (g19 _ _) (by rw [b19]; exact hk) (fun b hv h' c => ?_) (fun hn h' r c => ?_)
  · have e : (d1 w).bind (fun b => (fO 5 a b).bind (fun v => dt v w)) = (fO 5 a b).bind (fun v => dt v w) := by rw [hv]; rfl
    have hbb := hb w b hv
    have H2 := tke_fr H1 c.1 (by decide)
    have f1 := fr_trans (fr_19 h (Int32.ofNat (400 * t + (p + 1)))) c.1
    have good : ∀ v, fO 5 a b = some v → lm_W (d + 1) 200 6 [some (.ref 92), some (.int 1), some (.long (Int64.ofInt v)), none, none, none, none] [] h' (lm_kL K) := by
      intro v hv2
      have e2 : (fO 5 a b).bind (fun v => dt v w) = dt v w := by rw [hv2]; rfl
      exact h2 _ h' K t w v (by omega) H2 c.2.1 c.2.2 (fO_b hv2) (fun u hu h2 c2 => hT u (e.trans (e2.trans hu)) h2 (eg_tr f1 c2)) (fun hn h2 r c2 => hF (e.trans (e2.trans hn)) h2 r (eg_tr f1 c2))
    have bad : fO 5 a b = none → ∀ r, lm_W (d + 1) 200 6 [some (.ref 92), some (.int 1), some (.long r), none, none, none, none] [] (lm_si h' 92 21 1) (lm_kL K) := by
      intro hn2 r
      refine h3 _ _ K t w 1 r (by omega) (tke_fr H2 (fr_21 h' 1) (by decide)) (by rw [g21]; exact c.2.1) (dd1 (b21 _ _)) (fun h2 r2 c2 => ?_)
      rw [b21] at c2
      exact hF (e.trans (by rw [hn2]; rfl)) h2 r2 (eg_tr (fr_trans f1 (fr_21 h' 1)) c2)
    have eF : fO 5 a b = (if b = 0 then none else bN (a.tdiv b)) := rfl
    by_cases c0 : b = 0
    · have eN : fO 5 a b = none := by rw [eF, if_pos c0]
      rw [if_pos (by rw [lg_cmp_eq, show (0 : Int64) = Int64.ofInt 0 from rfl, l_eqB (bB_big hbb) (by omega)]; exact c0), c.2.2, if_pos rfl, if_neg (by decide)]
      exact cx_198 (by omega) (lm_Lay_si H2.1 _ _ _) (dd1 (b21 _ _)) (fun r2 => bad eN r2)
    · rw [if_neg (by rw [lg_cmp_eq, show (0 : Int64) = Int64.ofInt 0 from rfl, l_eqB (bB_big hbb) (by omega)]; exact c0)]
      refine ⟨by rw [show (0 : Int64) = Int64.ofInt 0 from rfl, l_eqB (bB_big hbb) (by omega)]; exact c0, ?_⟩
      rw [l_tdiv ha hbb]
      have eG : fO 5 a b = bN (a.tdiv b) := by rw [eF, if_neg c0]
      refine cl_198 (by omega) H2.1 c.2.2 (bB_big (bB_div ha)) (fun v hv => ?_) (fun hn => ?_)
      · exact good v (eG.trans hv)
      · exact bad (eG.trans hn) 0
  · have e : (d1 w).bind (fun b => (fO 5 a b).bind (fun v => dt v w)) = none := by rw [hn]; rfl
    have H2 := tke_fr H1 c.1 (by decide)
    have f1 := fr_trans (fr_19 h (Int32.ofNat (400 * t + (p + 1)))) c.1
    have rest : ∀ r, lm_W (d + 1) 200 6 [some (.ref 92), some (.int 1), some (.long r), none, none, none, none] [] h' (lm_kL K) := by
      intro r
      refine h3 _ h' K t w 1 r (by omega) H2 c.2.1 (dd1 c.2.2) (fun h2 r2 c2 => ?_)
      rw [c.2.2] at c2
      exact hF e h2 r2 (eg_tr f1 c2)
    have es : lm_si h' 92 21 1 = h' := by rw [← c.2.2]; exact q_self h' 92 21
    have fx : ∀ x, lm_call (d + 1) 198 [.ref 92, .long x, .int 1] h' (lm_kL fun r8 h7 => lm_W (d + 1) 200 6 [some (.ref 92), some (.int 1), some (.long r8), none, none, none, none] [] h7 (lm_kL K)) := fun x => cx_198 (by omega) H2.1 (dd1 c.2.2) (fun r2 => rest r2)
    by_cases c0 : lg_cmp r 0 = 0
    · rw [if_pos c0, if_neg (by rw [c.2.2]; decide), es]
      exact fx _
    · rw [if_neg c0]
      exact ⟨fun q => c0 ((lg_cmp_eq _ _).2 q), fx _⟩
theorem E_oD_200_47 (ht : tks kk nu pl N) (hp : p < N) (hd : 2 ≤ dp) (hop : kk p = 47) (h1 : ED kk nu N 201 dp (p + 1) p1) (h3 : EDt kk nu N 200 dp p1 p2) : EDt kk nu N 200 dp p p2 := by
  intro d h K t w lv y hD H hg hk hK
  obtain ⟨d, rfl⟩ := q_dp (k := 1) (D := d) (by omega)
  have hN := ht.1
  have h6 := H.2.1
  have eg0 : 400 * t + p + 1 = 400 * t + (p + 1) := by omega
  refine b_200_6 _ _ H.1 ?_
  rw [hg]
  refine cl_196 (by omega) ht H (by omega) ?_
  rw [if_neg (show ¬ Int32.ofNat (cO (kk p)) = 142 by rw [hop]; decide), hg]
  refine cl_196 (by omega) ht H (by omega) ?_
  rw [if_pos (show Int32.ofNat (cO (kk p)) = 147 by rw [hop]; rfl), hg]
  refine cl_196 (by omega) ht H (by omega) ?_
  rw [if_neg (show ¬ Int32.ofNat (cO (kk p)) = 142 by rw [hop]; decide), hg, q_a1]
  rw [eg0]
  have H1 := tke_fr H (fr_19 h (Int32.ofNat (400 * t + (p + 1)))) (by decide)
  refine h1 _ _ _ t w lv (by omega) H1 (g19 _ _) (by rw [b19]; exact hk) (fun h' r c => ?_)
  have cc := eg_tr (fr_19 h (Int32.ofNat (400 * t + (p + 1)))) c
  have fin : ∀ r2, lm_W (d + 1) 200 6 [some (.ref 92), some (.int lv), some (.long r2), none, none, none, none] [] h' (lm_kL K) := by
    intro r2
    refine h3 _ h' K t w lv r2 (by omega) (tke_fr H cc.1 (by decide)) c.2.1 (by rw [c.2.2, b19]; exact hk) (fun h2 r3 c2 => ?_)
    rw [c.2.2, b19] at c2
    exact hK h2 r3 (eg_tr cc.1 c2)
  have hk' : dd lv (lm_i h' 92 21) := by rw [c.2.2, b19]; exact hk
  have fx : ∀ x, lm_call (d + 1) 198 [.ref 92, .long x, .int lv] h' (lm_kL fun r8 h7 => lm_W (d + 1) 200 6 [some (.ref 92), some (.int lv), some (.long r8), none, none, none, none] [] h7 (lm_kL K)) := fun x => cx_198 (by omega) (fr_Lay cc.1 H.1) hk' (fun r2 => fin r2)
  by_cases c0 : lg_cmp r 0 = 0
  · rw [if_pos c0]
    rcases hk' with ⟨e1, e2 | e2⟩ | ⟨e1, e2⟩
    · rw [if_pos e2, if_pos e1, show lm_si h' 92 21 0 = h' by rw [← e2]; exact q_self h' 92 21]
      exact fx _
    · rw [if_neg (by rw [e2]; decide), show lm_si h' 92 21 1 = h' by rw [← e2]; exact q_self h' 92 21]
      exact fx _
    · rw [if_neg (by rw [e2]; decide), show lm_si h' 92 21 1 = h' by rw [← e2]; exact q_self h' 92 21]
      exact fx _
  · rw [if_neg c0]
    exact ⟨fun q => c0 ((lg_cmp_eq _ _).2 q), fx _⟩
/-- what a part is -/
def pD (kk nu : Nat → Nat) (p : Nat) : dN := fun w => some (if kk p = 257 then (nu p : Int) else (w (kk p - 265)).toInt)
theorem E_pL (ht : tks kk nu pl N) (hp : p < N) (hd : 3 ≤ dp) (hc : 265 ≤ kk p ∨ (kk p = 257 ∧ nu p ≤ 1000)) : EL kk nu N 201 dp p (p + 1) (pD kk nu p) := by
  intro D h K t w hD H hg hk hT hF
  obtain ⟨d, rfl⟩ := q_dp (k := 2) (D := D) (by omega)
  have hN := ht.1
  have h6 := H.2.1
  have hkk := (ht.2.1 p (by omega)).1
  have hcl := cO_lt _ hkk
  refine e_201 _ H.1 ?_
  refine cl_197 (c := 191) (by omega) ht H hg (by omega) (by omega) (fun q => by have := (cO_91 _ hkk).1 q; omega) (fun _ => ?_)
  rw [if_pos rfl, hg]
  refine cl_196 (by omega) ht H (by omega) ?_
  rw [if_neg (by decide), if_pos hk, hg, q_a1]
  have hT' := hT _ rfl _ ⟨fr_19 h (Int32.ofNat (400 * t + (p + 1))), g19 _ _, by rw [b19]; exact hk⟩
  rcases hc with c1 | ⟨c1, c2⟩
  · rw [if_neg (show ¬ Int32.ofNat (cO (kk p)) = 50 from fun q => by have := (cO_257 _ hkk).1 ((q_eq (b := 50) (by omega) (by omega)).mp q); omega), cO_v _ hkk c1, show Int32.ofNat (kk p - 258) - 7 = Int32.ofNat (kk p - 258 - 7) from q_sub (b := 7) (by omega), show kk p - 258 - 7 = kk p - 265 by omega, q_in (by omega) (by omega), q_nat (by omega), H.2.2.2.2 _ (by omega), l_of]
    rw [if_neg (by omega)] at hT'
    exact hT'
  · rw [if_pos (show Int32.ofNat (cO (kk p)) = 50 by rw [c1]; rfl), show (2493 : Int32) = Int32.ofNat 2493 from rfl, q_add, q_s1 (by omega), show 2493 + (400 * t + p + 1) - 1 = 2493 + (400 * t + p) by omega, q_in (by omega) (by omega), q_nat (by omega), (H.2.2.2.1 p hp).2 c1 c2, l_nat (by omega)]
    rw [if_pos c1] at hT'
    exact hT'
theorem E_pD (ht : tks kk nu pl N) (hp : p < N) (hd : 3 ≤ dp) (hc : ¬ kk p = 91) : ED kk nu N 201 dp p (p + 1) := by
  intro D h K t w lv hD H hg hk hK
  obtain ⟨d, rfl⟩ := q_dp (k := 2) (D := D) (by omega)
  have hN := ht.1
  have h6 := H.2.1
  have hkk := (ht.2.1 p (by omega)).1
  have hcl := cO_lt _ hkk
  refine e_201 _ H.1 ?_
  refine cl_197 (c := 191) (by omega) ht H hg (by omega) (by omega) (fun q => absurd ((cO_91 _ hkk).1 q) hc) (fun _ => ?_)
  rw [if_pos rfl, hg]
  refine cl_196 (by omega) ht H (by omega) ?_
  have fin : ∀ r, K r (lm_si h 92 19 (Int32.ofNat (400 * t + (p + 1)))) := fun r => hK _ r ⟨fr_19 h _, g19 _ _, b19 _ _⟩
  rw [hg, q_a1]
  rcases hk with ⟨e1, _⟩ | ⟨e1, e2⟩
  · rw [if_pos e1]
    exact fin _
  · rw [if_neg (by rw [e1]; decide), if_neg (by rw [e2]; decide)]
    exact fin _
theorem E_bL (ht : tks kk nu pl N) (hp : p < N) (hp1 : p1 ≤ N) (hd : 3 ≤ dp) (hop : kk p = 91) (h1 : EL kk nu N 199 dp (p + 1) p1 d1) : EL kk nu N 201 (dp + 1) p (p1 + 1) d1 := by
  intro D h K t w hD H hg hk hT hF
  obtain ⟨d, rfl⟩ := q_dp (k := 2) (D := D) (by omega)
  have hkk := (ht.2.1 p (by omega)).1
  refine e_201 _ H.1 ?_
  refine cl_197 (c := 191) (by omega) ht H hg (by omega) (by omega) (fun _ => ?_) (fun q => absurd ((cO_91 _ hkk).2 hop) q)
  rw [if_neg (by decide)]
  have H1 := tke_fr H (fr_19 h (Int32.ofNat (400 * t + (p + 1)))) (by decide)
  refine h1 _ _ _ t w (by omega) H1 (g19 _ _) (by rw [b19]; exact hk) (fun v hv h' c => ?_) (fun hn h' r c => ?_)
  · rw [c.2.1, q_a1]
    exact hT v hv _ ⟨fr_trans (fr_trans (fr_19 h _) c.1) (fr_19 h' _), g19 _ _, by rw [b19]; exact c.2.2⟩
  · rw [c.2.1, q_a1]
    exact hF hn _ r ⟨fr_trans (fr_trans (fr_19 h _) c.1) (fr_19 h' _), g19 _ _, by rw [b19]; exact c.2.2⟩
theorem E_bD (ht : tks kk nu pl N) (hp : p < N) (hp1 : p1 ≤ N) (hd : 3 ≤ dp) (hop : kk p = 91) (h1 : ED kk nu N 199 dp (p + 1) p1) : ED kk nu N 201 (dp + 1) p (p1 + 1) := by
  intro D h K t w lv hD H hg hk hK
  obtain ⟨d, rfl⟩ := q_dp (k := 2) (D := D) (by omega)
  have hkk := (ht.2.1 p (by omega)).1
  refine e_201 _ H.1 ?_
  refine cl_197 (c := 191) (by omega) ht H hg (by omega) (by omega) (fun _ => ?_) (fun q => absurd ((cO_91 _ hkk).2 hop) q)
  rw [if_neg (by decide)]
  have H1 := tke_fr H (fr_19 h (Int32.ofNat (400 * t + (p + 1)))) (by decide)
  refine h1 _ _ _ t w lv (by omega) H1 (g19 _ _) (by rw [b19]; exact hk) (fun h' r c => ?_)
  rw [c.2.1, q_a1]
  exact hK _ r ⟨fr_trans (fr_trans (fr_19 h _) c.1) (fr_19 h' _), g19 _ _, by rw [b19, c.2.2, b19]⟩
end AskMT
