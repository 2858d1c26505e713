/-! Laws: pieces of code and what the judge makes of them. -/
abbrev dN : Type := (Nat → Int32) → Option Int
abbrev cD : Type := Nat → Nat → Int32
/-- l1 steps, then others -/
def cc1 (l1 : Nat) (c1 c2 : cD) : cD := fun z j => if j < l1 then c1 z j else c2 (z + l1) (j - l1)
/-- a jump over l steps, and they -/
def cj (s l : Nat) (c1 : cD) : cD := fun z j => if j = 0 then st s (z + 1 + l) else c1 (z + 1) (j - 1)
/-- l steps co, laid from z on, push den -/
def JS (l : Nat) (co : cD) (den : dN) : Prop := ∀ (d q E z x L t : Nat) (h : lm_H) (K : lm_H → Prop) (w : Nat → Int32), 3 ≤ d → jh h q L w → z + l ≤ E → E ≤ L → x ≤ z → t < z → (∀ j, j < l → lm_i h q (z + j) = co z j) → lm_i h 18 2 = Int32.ofNat t →
  (∀ v, den w = some v → ∀ h' x', jt h h' t v → x' ≤ z + l → JW d q E (z + l) x' h' K) → (den w = none → ∀ h' x', jb h h' → x' ≤ z + l → JW d q E E x' h' K) → JW d q E z x h K
/-- they put dt a for the a that lies on top -/
def JT (l : Nat) (co : cD) (dt : Int → dN) : Prop := ∀ (d q E z x L t : Nat) (h : lm_H) (K : lm_H → Prop) (w : Nat → Int32) (a : Int), 3 ≤ d → jh h q L w → z + l ≤ E → E ≤ L → x ≤ z → t + 1 < z → (∀ j, j < l → lm_i h q (z + j) = co z j) → lm_i h 18 2 = Int32.ofNat (t + 1) → lm_l h 20 t = Int64.ofInt a → bB a →
  (∀ v, dt a w = some v → ∀ h' x', jt h h' t v → x' ≤ z + l → JW d q E (z + l) x' h' K) → (dt a w = none → ∀ h' x', jb h h' → x' ≤ z + l → JW d q E E x' h' K) → JW d q E z x h K
theorem jt_tr {h h1 h2 : lm_H} {t : Nat} {v : Int} (a : jb h h1) (hl : ∀ j, j < t → lm_l h1 20 j = lm_l h 20 j) (b : jt h1 h2 t v) : jt h h2 t v :=
  ⟨fr_trans a.1 b.1, b.2.1.trans a.2.1, b.2.2.1.trans a.2.2, b.2.2.2.1, b.2.2.2.2.1, fun j hj => (b.2.2.2.2.2 j hj).trans (hl j hj)⟩
theorem cc1_lo {l1 : Nat} {c1 c2 : cD} {z j : Nat} (h : j < l1) : cc1 l1 c1 c2 z j = c1 z j := by rw [cc1, if_pos h]
theorem cc1_hi {l1 : Nat} {c1 c2 : cD} {z j : Nat} : cc1 l1 c1 c2 z (l1 + j) = c2 (z + l1) j := by rw [cc1, if_neg (by omega), Nat.add_sub_cancel_left]
theorem JS_seq {l1 l2 : Nat} {c1 c2 : cD} {d1 : dN} {dt : Int → dN} (h1 : JS l1 c1 d1) (hl : 1 ≤ l1) (hb : ∀ w v, d1 w = some v → bB v) (h2 : JT l2 c2 dt) : JS (l1 + l2) (cc1 l1 c1 c2) (fun w => (d1 w).bind (fun a => dt a w)) := by
  intro d q E z x L t h K w hd H hE hEL hx ht hc h18 hT hF
  refine h1 d q E z x L t h K w hd H (by omega) hEL hx ht (fun j hj => by rw [hc j (by omega), cc1_lo hj]) h18 (fun v hv h1 x1 j1 hx1 => ?_) (fun hn h1 x1 j1 hx1 => ?_)
  · have e : (d1 w).bind (fun a => dt a w) = dt v w := by rw [hv]; rfl
    refine h2 d q E (z + l1) x1 L t h1 K w v hd (jh_fr H j1.1) (by omega) hEL hx1 (by omega) (fun j hj => ?_) j1.2.2.2.1 j1.2.2.2.2.1 (hb w v hv) (fun u hu h2 x2 j2 hx2 => ?_) (fun hn h2 x2 j2 hx2 => ?_)
    · rw [jh_i H j1.1, Nat.add_assoc, hc _ (by omega), cc1_hi]
    · rw [Nat.add_assoc]
      exact hT u (e.trans hu) h2 x2 (jt_tr (jt_jb j1) j1.2.2.2.2.2 j2) (by omega)
    · exact hF (e.trans hn) h2 x2 (jb_tr (jt_jb j1) j2) (by omega)
  · exact hF (by show (d1 w).bind _ = none; rw [hn]; rfl) h1 x1 j1 (by omega)
theorem JT_nil (c : cD) : JT 0 c (fun a _ => some a) := by
  intro d q E z x L t h K w a hd H hE hEL hx ht hc h18 hA ha hT hF
  exact hT a rfl h x ⟨fr_refl _ _ _, rfl, rfl, h18, hA, fun _ _ => rfl⟩ (by omega)
theorem JT_op {l1 l2 s : Nat} {c1 c2 : cD} {d1 : dN} {dt : Int → dN} (h1 : JS l1 c1 d1) (hb : ∀ w v, d1 w = some v → bB v) (hs : 2 ≤ s ∧ s ≤ 8) (h2 : JT l2 c2 dt) : JT (l1 + (1 + l2)) (cc1 l1 c1 (cc1 1 (fun _ _ => st s 0) c2)) (fun a w => (d1 w).bind (fun b => (fO s a b).bind (fun v => dt v w))) := by
  intro d q E z x L t h K w a hd H hE hEL hx ht hc h18 hA ha hT hF
  have hL := H.2.2.1
  refine h1 d q E z x L (t + 1) h K w hd H (by omega) hEL hx ht (fun j hj => by rw [hc j (by omega), cc1_lo hj]) h18 (fun b hb1 h1 x1 j1 hx1 => ?_) (fun hn h1 x1 j1 hx1 => ?_)
  · have e : (d1 w).bind (fun b => (fO s a b).bind (fun v => dt v w)) = (fO s a b).bind (fun v => dt v w) := by rw [hb1]; rfl
    have hA1 : lm_l h1 20 t = Int64.ofInt a := by rw [j1.2.2.2.2.2 t (by omega)]; exact hA
    refine J_op (t := t) (s := s) hd (jh_fr H j1.1) (by omega) hx1 (by omega) hs ?_ ha (hb w b hb1) j1.2.2.2.1 hA1 j1.2.2.2.2.1 (fun v hv h2' j2 => ?_) (fun hn h2' j2 => ?_)
    · rw [jh_i H j1.1, hc l1 (by omega)]
      have := cc1_hi (l1 := l1) (c1 := c1) (c2 := cc1 1 (fun _ _ => st s 0) c2) (z := z) (j := 0)
      rw [Nat.add_zero] at this
      rw [this, cc1_lo (by omega)]
    · have e2 : (fO s a b).bind (fun v => dt v w) = dt v w := by rw [hv]; rfl
      have b2 : jb h h2' := jb_tr (jt_jb j1) (jt_jb j2)
      have l2' : ∀ j, j < t → lm_l h2' 20 j = lm_l h 20 j := fun j hj => (j2.2.2.2.2.2 j hj).trans (j1.2.2.2.2.2 j (by omega))
      refine h2 d q E (z + l1 + 1) (x1 + 1) L t h2' K w v hd (jh_fr H b2.1) (by omega) hEL (by omega) (by omega) (fun j hj => ?_) j2.2.2.2.1 j2.2.2.2.2.1 (fO_b hv) (fun u hu h3 x3 j3 hx3 => ?_) (fun hn h3 x3 j3 hx3 => ?_)
      · rw [jh_i H b2.1, show z + l1 + 1 + j = z + (l1 + (1 + j)) by omega, hc _ (by omega), cc1_hi, cc1_hi]
      · rw [show z + l1 + 1 + l2 = z + (l1 + (1 + l2)) by omega]
        exact hT u (e.trans (e2.trans hu)) h3 x3 (jt_tr b2 l2' j3) (by omega)
      · exact hF (e.trans (e2.trans hn)) h3 x3 (jb_tr b2 j3) (by omega)
    · exact hF (e.trans (by rw [hn]; rfl)) h2' _ (jb_tr (jt_jb j1) j2) (by omega)
  · exact hF (by show (d1 w).bind _ = none; rw [hn]; rfl) h1 x1 j1 (by omega)
theorem JT_not : JT 1 (fun _ _ => st 9 0) (fun a _ => some (if a = 0 then 1 else 0)) := by
  intro d q E z x L t h K w a hd H hE hEL hx ht hc h18 hA ha hT hF
  have hL := H.2.2.1
  refine J_not (t := t) (by omega) H (by omega) hx (by omega) (hc 0 (by omega)) ha h18 hA (fun h' j => ?_)
  exact hT _ rfl h' _ j (by omega)
theorem JT_or {l1 l2 : Nat} {c1 c2 : cD} {d1 : dN} {dt : Int → dN} (h1 : JS l1 c1 d1) (hl : 1 ≤ l1) (hb : ∀ w v, d1 w = some v → bB v) (h2 : JT l2 c2 dt) : JT (1 + l1 + l2) (cc1 (1 + l1) (cj 10 l1 c1) c2) (fun a w => if a = 0 then (d1 w).bind (fun b => dt b w) else dt a w) := by
  intro d q E z x L t h K w a hd H hE hEL hx ht hc h18 hA ha hT hF
  have hL := H.2.2.1
  refine J_or (t := t) (n := z + 1 + l1) (by omega) H (by omega) hx (by omega) (by omega) ?_ ha h18 hA (fun c h1' j1 => ?_) (fun c h1' j1 j2 j3 => ?_)
  · rw [show z = z + 0 from rfl, hc 0 (by omega), cc1_lo (by omega), cj, if_pos rfl]
  · have e : (if a = 0 then (d1 w).bind (fun b => dt b w) else dt a w) = dt a w := if_neg c
    refine h2 d q E (z + 1 + l1) (x + 1) L t h1' K w a hd (jh_fr H j1.1) (by omega) hEL (by omega) (by omega) (fun j hj => ?_) j1.2.2.2.1 j1.2.2.2.2.1 ha (fun u hu h3 x3 j3 hx3 => ?_) (fun hn h3 x3 j3 hx3 => ?_)
    · rw [jh_i H j1.1, show z + 1 + l1 + j = z + (1 + l1 + j) by omega, hc _ (by omega), cc1_hi, Nat.add_assoc]
    · rw [show z + 1 + l1 + l2 = z + (1 + l1 + l2) by omega]
      exact hT u (e.trans hu) h3 x3 (jt_tr (jt_jb j1) j1.2.2.2.2.2 j3) (by omega)
    · exact hF (e.trans hn) h3 x3 (jb_tr (jt_jb j1) j3) (by omega)
  · have e : (if a = 0 then (d1 w).bind (fun b => dt b w) else dt a w) = (d1 w).bind (fun b => dt b w) := if_pos c
    refine h1 d q E (z + 1) (x + 1) L t h1' K w hd (jh_fr H j1.1) (by omega) hEL (by omega) (by omega) (fun j hj => ?_) j2 (fun b hb1 h2' x2 j4 hx2 => ?_) (fun hn h2' x2 j4 hx2 => ?_)
    · rw [jh_i H j1.1, show z + 1 + j = z + (1 + j) by omega, hc _ (by omega), cc1_lo (by omega), cj, if_neg (by omega), Nat.add_sub_cancel_left]
    · have e2 : (d1 w).bind (fun b => dt b w) = dt b w := by rw [hb1]; rfl
      have b2 : jb h h2' := jb_tr j1 (jt_jb j4)
      have l2' : ∀ j, j < t → lm_l h2' 20 j = lm_l h 20 j := fun j hj => (j4.2.2.2.2.2 j hj).trans (j3 j hj)
      refine h2 d q E (z + 1 + l1) x2 L t h2' K w b hd (jh_fr H b2.1) (by omega) hEL hx2 (by omega) (fun j hj => ?_) j4.2.2.2.1 j4.2.2.2.2.1 (hb w b hb1) (fun u hu h3 x3 j5 hx3 => ?_) (fun hn h3 x3 j5 hx3 => ?_)
      · rw [jh_i H b2.1, show z + 1 + l1 + j = z + (1 + l1 + j) by omega, hc _ (by omega), cc1_hi, Nat.add_assoc]
      · rw [show z + 1 + l1 + l2 = z + (1 + l1 + l2) by omega]
        exact hT u (e.trans (e2.trans hu)) h3 x3 (jt_tr b2 l2' j5) (by omega)
      · exact hF (e.trans (e2.trans hn)) h3 x3 (jb_tr b2 j5) (by omega)
    · exact hF (e.trans (by rw [hn]; rfl)) h2' x2 (jb_tr j1 j4) (by omega)
theorem JT_and {l1 l2 : Nat} {c1 c2 : cD} {d1 : dN} {dt : Int → dN} (h1 : JS l1 c1 d1) (hl : 1 ≤ l1) (hb : ∀ w v, d1 w = some v → bB v) (h2 : JT l2 c2 dt) : JT (1 + l1 + l2) (cc1 (1 + l1) (cj 11 l1 c1) c2) (fun a w => if a = 0 then dt a w else (d1 w).bind (fun b => dt b w)) := by
  intro d q E z x L t h K w a hd H hE hEL hx ht hc h18 hA ha hT hF
  have hL := H.2.2.1
  refine J_and (t := t) (n := z + 1 + l1) (by omega) H (by omega) hx (by omega) (by omega) ?_ ha h18 hA (fun c h1' j1 => ?_) (fun c h1' j1 j2 j3 => ?_)
  · rw [show z = z + 0 from rfl, hc 0 (by omega), cc1_lo (by omega), cj, if_pos rfl]
  · have e : (if a = 0 then dt a w else (d1 w).bind (fun b => dt b w)) = dt a w := if_pos c
    refine h2 d q E (z + 1 + l1) (x + 1) L t h1' K w a hd (jh_fr H j1.1) (by omega) hEL (by omega) (by omega) (fun j hj => ?_) j1.2.2.2.1 j1.2.2.2.2.1 ha (fun u hu h3 x3 j3 hx3 => ?_) (fun hn h3 x3 j3 hx3 => ?_)
    · rw [jh_i H j1.1, show z + 1 + l1 + j = z + (1 + l1 + j) by omega, hc _ (by omega), cc1_hi, Nat.add_assoc]
    · rw [show z + 1 + l1 + l2 = z + (1 + l1 + l2) by omega]
      exact hT u (e.trans hu) h3 x3 (jt_tr (jt_jb j1) j1.2.2.2.2.2 j3) (by omega)
    · exact hF (e.trans hn) h3 x3 (jb_tr (jt_jb j1) j3) (by omega)
  · have e : (if a = 0 then dt a w else (d1 w).bind (fun b => dt b w)) = (d1 w).bind (fun b => dt b w) := if_neg c
    refine h1 d q E (z + 1) (x + 1) L t h1' K w hd (jh_fr H j1.1) (by omega) hEL (by omega) (by omega) (fun j hj => ?_) j2 (fun b hb1 h2' x2 j4 hx2 => ?_) (fun hn h2' x2 j4 hx2 => ?_)
    · rw [jh_i H j1.1, show z + 1 + j = z + (1 + j) by omega, hc _ (by omega), cc1_lo (by omega), cj, if_neg (by omega), Nat.add_sub_cancel_left]
    · have e2 : (d1 w).bind (fun b => dt b w) = dt b w := by rw [hb1]; rfl
      have b2 : jb h h2' := jb_tr j1 (jt_jb j4)
      have l2' : ∀ j, j < t → lm_l h2' 20 j = lm_l h 20 j := fun j hj => (j4.2.2.2.2.2 j hj).trans (j3 j hj)
      refine h2 d q E (z + 1 + l1) x2 L t h2' K w b hd (jh_fr H b2.1) (by omega) hEL hx2 (by omega) (fun j hj => ?_) j4.2.2.2.1 j4.2.2.2.2.1 (hb w b hb1) (fun u hu h3 x3 j5 hx3 => ?_) (fun hn h3 x3 j5 hx3 => ?_)
      · rw [jh_i H b2.1, show z + 1 + l1 + j = z + (1 + l1 + j) by omega, hc _ (by omega), cc1_hi, Nat.add_assoc]
      · rw [show z + 1 + l1 + l2 = z + (1 + l1 + l2) by omega]
        exact hT u (e.trans (e2.trans hu)) h3 x3 (jt_tr b2 l2' j5) (by omega)
      · exact hF (e.trans (e2.trans hn)) h3 x3 (jb_tr b2 j5) (by omega)
    · exact hF (e.trans (by rw [hn]; rfl)) h2' x2 (jb_tr j1 j4) (by omega)
theorem JS_leaf {s n : Nat} (hsn : s = 0 ∧ n ≤ 1000 ∨ s = 1 ∧ n < 7) : JS 1 (fun _ _ => st s n) (fun w => some (if s = 0 then (n : Int) else (w n).toInt)) := by
  intro d q E z x L t h K w hd H hE hEL hx ht hc h18 hT hF
  have hL := H.2.2.1
  refine J_leaf (t := t) (by omega) H (by omega) hx (by omega) hsn (hc 0 (by omega)) h18 (fun h' j => ?_)
  exact hT _ rfl h' _ j (by omega)
