/-! Laws: numbers, and the judge's steps (15 .. 22). -/
theorem l_toB {a : Int} (ha : -4611686018427387904 ≤ a ∧ a ≤ 4611686018427387904) : (Int64.ofInt a).toInt = a := Int64.toInt_ofInt_of_le (by omega) (by omega)
theorem l_ltB {a b : Int} (ha : -4611686018427387904 ≤ a ∧ a ≤ 4611686018427387904) (hb : -4611686018427387904 ≤ b ∧ b ≤ 4611686018427387904) : Int64.ofInt a < Int64.ofInt b ↔ a < b := by
  rw [Int64.lt_iff_toInt_lt, l_toB ha, l_toB hb]
theorem l_eqB {a b : Int} (ha : -4611686018427387904 ≤ a ∧ a ≤ 4611686018427387904) (hb : -4611686018427387904 ≤ b ∧ b ≤ 4611686018427387904) : Int64.ofInt a = Int64.ofInt b ↔ a = b := by
  rw [← Int64.toInt_inj, l_toB ha, l_toB hb]
theorem l_sub (a b : Int) : Int64.ofInt a - Int64.ofInt b = Int64.ofInt (a - b) := (Int64.ofInt_sub a b).symm
def bB (x : Int) : Prop := -2147483648 ≤ x ∧ x ≤ 2147483648
theorem bB_big {x : Int} (h : bB x) : -4611686018427387904 ≤ x ∧ x ≤ 4611686018427387904 := by
  unfold bB at h
  omega
theorem bB_mul {a b : Int} (ha : bB a) (hb : bB b) : -4611686018427387904 ≤ a * b ∧ a * b ≤ 4611686018427387904 := by
  unfold bB at ha hb
  have h1 : (a * b).natAbs = a.natAbs * b.natAbs := Int.natAbs_mul a b
  have h2 : a.natAbs * b.natAbs ≤ 2147483648 * 2147483648 := Nat.mul_le_mul (by omega) (by omega)
  omega
theorem bB_div {a b : Int} (ha : bB a) : bB (a.tdiv b) := by
  unfold bB at ha ⊢
  have h1 : (a.tdiv b).natAbs ≤ a.natAbs := by
    rw [Int.natAbs_tdiv]
    exact Nat.div_le_self _ _
  omega
theorem l_tdiv {a b : Int} (ha : bB a) (hb : bB b) : Int64.ofInt a / Int64.ofInt b = Int64.ofInt (a.tdiv b) := by
  have h1 := bB_div (b := b) ha
  rw [← Int64.toInt_inj, Int64.toInt_div, l_toB (bB_big ha), l_toB (bB_big hb), l_toB (bB_big h1)]
  unfold bB at h1
  exact Int.bmod_eq_of_le (by omega) (by omega)
theorem bB_i (x : Int32) : bB x.toInt := by
  have h1 := p_lo x
  have h2 := p_hi x
  unfold bB
  omega
/-- a result that may be too far -/
def bN (x : Int) : Option Int := if 1000000000 < x ∨ x < -1000000000 then none else some x
theorem bN_b {x v : Int} (h : bN x = some v) : bB v ∧ v = x := by
  unfold bN at h
  split at h
  · cases h
  · cases h
    unfold bB
    exact ⟨by omega, rfl⟩
/-- what the steps 2 .. 8 join -/
def fO (s : Nat) (a b : Int) : Option Int := if s = 2 then bN (a + b) else if s = 3 then bN (a - b) else if s = 4 then bN (a * b) else if s = 5 then (if b = 0 then none else bN (a.tdiv b)) else if s = 6 then some (if a < b then 1 else 0) else if s = 7 then some (if b < a then 1 else 0) else some (if a = b then 1 else 0)
theorem fO_b {s : Nat} {a b v : Int} (h : fO s a b = some v) : bB v := by
  have h01 : ∀ c : Prop, [Decidable c] → bB (if c then 1 else 0) := by
    intro c _
    unfold bB
    split <;> omega
  unfold fO at h
  split at h
  · exact (bN_b h).1
  split at h
  · exact (bN_b h).1
  split at h
  · exact (bN_b h).1
  split at h
  · split at h
    · cases h
    · exact (bN_b h).1
  split at h
  · cases h; exact h01 _
  split at h
  · cases h; exact h01 _
  · cases h; exact h01 _
theorem sh_fr {S T : List Nat} {h h' : lm_H} {q : Nat} (a : fr S T h h') (hq : q < 1000000) : lm_sh h' q = lm_sh h q := by
  unfold lm_sh
  rw [if_pos hq, if_pos hq, a.1]
/-- a law's steps lie in cell q, the words are w -/
def jh (h : lm_H) (q L : Nat) (w : Nat → Int32) : Prop := lm_Lay h ∧ lm_sh h q = some (1, L) ∧ L ≤ 401 ∧ 119 ≤ q ∧ q < 1000000 ∧ ∀ j, j < 7 → lm_i h 19 j = w j
theorem jh_fr {h h' : lm_H} {q L : Nat} {w : Nat → Int32} (H : jh h q L w) (a : fr [18, 20] [] h h') : jh h' q L w := by
  obtain ⟨h1, h2, h3, h4, h5, h6⟩ := H
  refine ⟨fr_Lay a h1, by rw [sh_fr a h5]; exact h2, h3, h4, h5, ?_⟩
  rw [fr_i a (by decide) (by decide)]
  exact h6
theorem jh_i {h h' : lm_H} {q L : Nat} {w : Nat → Int32} (H : jh h q L w) (a : fr [18, 20] [] h h') : lm_i h' q = lm_i h q := by
  have h4 := H.2.2.2.1
  refine fr_i a ?_ (by omega)
  have h1 : ¬ q = 18 := by omega
  have h2 : ¬ q = 20 := by omega
  simp [h1, h2]
def JW (d q E a x : Nat) (h : lm_H) (K : lm_H → Prop) : Prop := lm_W d 15 28 [some (.ref 18), none, some (.ref q), some (.int (Int32.ofNat E)), some (.int (Int32.ofNat a)), some (.int (Int32.ofNat x)), none, none, none] [] h (lm_kV K)
set_option maxRecDepth 20000 in
theorem st_all : ∀ n, n < 1002 → ∀ x, x < 16 → (st x n &&& 15 = Int32.ofNat x ∧ st x n >>> ((4 : Int32) &&& 31) = Int32.ofNat n) := by decide +kernel
theorem cl_18 {D t : Nat} {h : lm_H} {K : Int64 → lm_H → Prop} (hD : 1 ≤ D) (hl : lm_Lay h) (ht : t < 400) (h2 : lm_i h 18 2 = Int32.ofNat (t + 1)) (hK : K (lm_l h 20 t) (lm_si h 18 2 (Int32.ofNat t))) : lm_call D 18 [.ref 18] h (lm_kL K) := by
  obtain ⟨d, rfl⟩ := q_dp hD
  refine e_18 hl ?_
  rw [h2, if_pos (by rw [q_0l (by omega)]; omega), q_s1 (by omega), Nat.add_sub_cancel, q_in (by omega) (by omega), q_nat (by omega)]
  exact hK
theorem cl_17 {D t : Nat} {h : lm_H} {K : lm_H → Prop} (hD : 1 ≤ D) (hl : lm_Lay h) (ht : t < 400) (h2 : lm_i h 18 2 = Int32.ofNat t) (x : Int64) (hK : K (lm_si (lm_sl h 20 t x) 18 2 (Int32.ofNat (t + 1)))) : lm_call D 17 [.ref 18, .long x] h (lm_kV K) := by
  obtain ⟨d, rfl⟩ := q_dp hD
  refine e_17 _ hl ?_
  rw [h2, if_neg (by rw [q_lt0 (by omega)]; exact id), if_pos (by rw [show (400 : Int32) = Int32.ofNat 400 from rfl, q_lt (by omega) (by omega)]; omega), q_in (by omega) (by omega), q_nat (by omega), q_a1]
  exact hK
theorem cl_22 {D : Nat} {h : lm_H} {K : Int64 → lm_H → Prop} {x : Int} (hD : 1 ≤ D) (hl : lm_Lay h) (hx : -4611686018427387904 ≤ x ∧ x ≤ 4611686018427387904) (hT : ∀ v, bN x = some v → K (Int64.ofInt v) (lm_si h 18 3 0)) (hF : bN x = none → K (Int64.ofInt x) (lm_si h 18 3 1)) : lm_call D 22 [.ref 18, .long (Int64.ofInt x)] h (lm_kL K) := by
  obtain ⟨d, rfl⟩ := q_dp hD
  refine e_22 _ hl ?_
  have e1 : (1000000000 : Int64) = Int64.ofInt 1000000000 := rfl
  have e2 : (-1000000000 : Int64) = Int64.ofInt (-1000000000) := rfl
  by_cases c1 : 1000000000 < x
  · rw [if_pos (by rw [lg_cmp_gt, e1, l_ltB (by omega) hx]; exact c1)]
    exact hF (by unfold bN; rw [if_pos (Or.inl c1)])
  · rw [if_neg (by rw [lg_cmp_gt, e1, l_ltB (by omega) hx]; exact c1)]
    by_cases c2 : x < -1000000000
    · rw [if_pos (by rw [lg_cmp_lt, e2, l_ltB hx (by omega)]; exact c2)]
      exact hF (by unfold bN; rw [if_pos (Or.inr c2)])
    · rw [if_neg (by rw [lg_cmp_lt, e2, l_ltB hx (by omega)]; exact c2)]
      exact hT x (by unfold bN; rw [if_neg (by omega)])
theorem cl_21 {D s : Nat} {h : lm_H} {K : Int64 → lm_H → Prop} {a b : Int} (hD : 2 ≤ D) (hl : lm_Lay h) (hs : 2 ≤ s ∧ s ≤ 8) (ha : bB a) (hb : bB b) (h3 : lm_i h 18 3 = 0) (hT : ∀ v, fO s a b = some v → K (Int64.ofInt v) (lm_si h 18 3 0)) (hF : fO s a b = none → ∀ r, K r (lm_si h 18 3 1)) : lm_call D 21 [.ref 18, .int (Int32.ofNat s), .long (Int64.ofInt a), .long (Int64.ofInt b)] h (lm_kL K) := by
  obtain ⟨d, rfl⟩ := q_dp hD
  have e0 : (0 : Int64) = Int64.ofInt 0 := rfl
  have hself : lm_si h 18 3 0 = h := by rw [← h3]; exact q_self h 18 3
  have c01 : ∀ (c : Prop) [Decidable c] (c' : Prop) [Decidable c'], (c ↔ c') → K (Int64.ofInt (if c' then 1 else 0)) (lm_si h 18 3 0) → if c then K 1 h else K 0 h := by
    intro c _ c' _ hc hk
    rw [hself] at hk
    by_cases q : c
    · rw [if_pos q]; rw [if_pos (hc.1 q)] at hk; exact hk
    · rw [if_neg q]; rw [if_neg (fun z => q (hc.2 z))] at hk; exact hk
  refine e_21 _ _ _ hl ?_
  have hs' : s = 2 ∨ s = 3 ∨ s = 4 ∨ s = 5 ∨ s = 6 ∨ s = 7 ∨ s = 8 := by omega
  have hma := bB_mul ha hb
  have ha' := bB_big ha
  have hb' := bB_big hb
  have hdv := bB_div (b := b) ha
  unfold bB at ha hb
  rcases hs' with rfl | rfl | rfl | rfl | rfl | rfl | rfl
  · rw [if_pos (by decide), l_add]
    exact cl_22 (by omega) hl (by omega) (fun v q => hT v (by rw [fO]; exact q)) (fun q => hF (by rw [fO]; exact q) _)
  · rw [if_neg (by decide), if_pos (by decide), l_sub]
    exact cl_22 (by omega) hl (by omega) (fun v q => hT v (by rw [fO]; exact q)) (fun q => hF (by rw [fO]; exact q) _)
  · rw [if_neg (by decide), if_neg (by decide), if_pos (by decide), l_mul]
    exact cl_22 (by omega) hl hma (fun v q => hT v (by rw [fO]; exact q)) (fun q => hF (by rw [fO]; exact q) _)
  · rw [if_neg (by decide), if_neg (by decide), if_neg (by decide), if_pos (by decide)]
    by_cases c : b = 0
    · rw [if_pos (by rw [lg_cmp_eq, e0, l_eqB hb' (by omega)]; exact c)]
      exact hF (by simp [fO, c]) _
    · rw [if_neg (by rw [lg_cmp_eq, e0, l_eqB hb' (by omega)]; exact c)]
      refine ⟨by rw [e0, l_eqB hb' (by omega)]; exact c, ?_⟩
      rw [l_tdiv ha hb]
      refine cl_22 (by omega) hl (bB_big hdv) (fun v q => hT v ?_) (fun q => hF ?_ _)
      · simp only [fO, Nat.reduceEqDiff, if_false, if_true, c]; exact q
      · simp only [fO, Nat.reduceEqDiff, if_false, if_true, c]; exact q
  · rw [if_neg (by decide), if_neg (by decide), if_neg (by decide), if_neg (by decide), if_pos (by decide)]
    exact c01 _ (a < b) (by rw [lg_cmp_lt, l_ltB ha' hb']) (hT _ (by simp [fO]))
  · rw [if_neg (by decide), if_neg (by decide), if_neg (by decide), if_neg (by decide), if_neg (by decide), if_pos (by decide)]
    exact c01 _ (b < a) (by rw [lg_cmp_gt, l_ltB hb' ha']) (hT _ (by simp [fO]))
  · rw [if_neg (by decide), if_neg (by decide), if_neg (by decide), if_neg (by decide), if_neg (by decide), if_neg (by decide), if_pos (by decide)]
    exact c01 _ (a = b) (by rw [lg_cmp_eq, l_eqB ha' hb']) (hT _ (by simp [fO]))
/-- what a step leaves of the judge: the top t with v above -/
def jt (h h' : lm_H) (t : Nat) (v : Int) : Prop := fr [18, 20] [] h h' ∧ lm_i h' 18 4 = lm_i h 18 4 ∧ lm_i h' 18 5 = lm_i h 18 5 ∧ lm_i h' 18 2 = Int32.ofNat (t + 1) ∧ lm_l h' 20 t = Int64.ofInt v ∧ ∀ j, j < t → lm_l h' 20 j = lm_l h 20 j
/-- broken off -/
def jb (h h' : lm_H) : Prop := fr [18, 20] [] h h' ∧ lm_i h' 18 4 = lm_i h 18 4 ∧ lm_i h' 18 5 = lm_i h 18 5
theorem jt_jb {h h' : lm_H} {t : Nat} {v : Int} (H : jt h h' t v) : jb h h' := ⟨H.1, H.2.1, H.2.2.1⟩
theorem jb_tr {h h1 h2 : lm_H} (a : jb h h1) (b : jb h1 h2) : jb h h2 := ⟨fr_trans a.1 b.1, b.2.1.trans a.2.1, b.2.2.trans a.2.2⟩
theorem jt_push {h0 h : lm_H} {t : Nat} {v : Int} (H : jb h0 h) (hh : ∀ j, j < t → lm_l h 20 j = lm_l h0 20 j) : jt h0 (lm_si (lm_sl h 20 t (Int64.ofInt v)) 18 2 (Int32.ofNat (t + 1))) t v := by
  refine ⟨fr_si (fr_sl H.1 (by decide) (by decide) _ _) (by decide) (by decide) _ _, ?_, ?_, ?_, ?_, fun j hj => ?_⟩
  · rw [pi_si, if_pos rfl, if_neg (by decide)]; exact H.2.1
  · rw [pi_si, if_pos rfl, if_neg (by decide)]; exact H.2.2
  · rw [pi_si, if_pos rfl, if_pos rfl]
  · rw [pl_si, pl_sl, if_pos rfl, if_pos rfl]
  · rw [pl_si, pl_sl, if_pos rfl, if_neg (by omega)]; exact hh j hj
theorem jb_18 {h0 h : lm_H} (H : jb h0 h) {j : Nat} (hj : j = 2 ∨ j = 3) (v : Int32) : jb h0 (lm_si h 18 j v) := by
  refine ⟨fr_si H.1 (by decide) (by decide) _ _, ?_, ?_⟩
  · rw [pi_si, if_pos rfl, if_neg (by omega)]; exact H.2.1
  · rw [pi_si, if_pos rfl, if_neg (by omega)]; exact H.2.2
theorem jb_rf (h : lm_H) : jb h h := ⟨fr_refl _ _ _, rfl, rfl⟩
theorem J_op {d q E z x L t s : Nat} {h : lm_H} {K : lm_H → Prop} {w : Nat → Int32} {a b : Int} (hd : 3 ≤ d) (H : jh h q L w) (hz : z < L) (hx : x ≤ z) (ht : t + 1 < 400) (hs8 : 2 ≤ s ∧ s ≤ 8) (hs : lm_i h q z = st s 0) (ha : bB a) (hb : bB b) (h2 : lm_i h 18 2 = Int32.ofNat (t + 2)) (hA : lm_l h 20 t = Int64.ofInt a) (hB : lm_l h 20 (t + 1) = Int64.ofInt b)
    (hT : ∀ v, fO s a b = some v → ∀ h', jt h h' t v → JW d q E (z + 1) (x + 1) h' K) (hF : fO s a b = none → ∀ h', jb h h' → JW d q E E (x + 1) h' K) : JW d q E z x h K := by
  have hL := H.2.2.1
  obtain ⟨e15, e4⟩ := st_all 0 (by omega) s (by omega)
  obtain ⟨d, rfl⟩ := q_dp hd
  have nn : ∀ c, c < 20 → ¬ s = c → ¬ Int32.ofNat s = Int32.ofNat c := fun c hc q => by rw [q_eq (by omega) (by omega)]; exact q
  refine b_15_28 _ _ _ _ H.1 ?_
  refine ⟨L, H.2.1, ?_⟩
  rw [if_pos (by rw [q_lt (by omega) (by omega)]; omega), if_neg (by rw [q_lt0 (by omega)]; exact id)]
  refine ⟨L, H.2.1, ?_⟩
  rw [if_pos (by rw [q_lt (by omega) (by omega)]; omega)]
  refine ⟨L, H.2.1, ?_⟩
  rw [q_in (by omega) (by omega)]
  refine ⟨L, H.2.1, ?_⟩
  rw [q_in (by omega) (by omega), q_nat (by omega), hs, e15, e4]
  rw [if_neg (show ¬ Int32.ofNat s = 12 from nn 12 (by omega) (by omega)), if_neg (show ¬ Int32.ofNat s = 10 from nn 10 (by omega) (by omega)), if_neg (show ¬ Int32.ofNat s = 11 from nn 11 (by omega) (by omega)), if_neg (show ¬ Int32.ofNat s = 13 from nn 13 (by omega) (by omega)), if_neg (show ¬ Int32.ofNat s = 14 from nn 14 (by omega) (by omega)), q_a1, q_a1]
  refine e_20 _ _ (lm_Lay_si H.1 _ _ _) ?_
  rw [if_neg (show ¬ Int32.ofNat s = 0 from nn 0 (by omega) (by omega)), if_neg (show ¬ Int32.ofNat s = 1 from nn 1 (by omega) (by omega)), if_neg (show ¬ Int32.ofNat s = 9 from nn 9 (by omega) (by omega))]
  refine cl_18 (t := t + 1) (by omega) (lm_Lay_si H.1 _ _ _) (by omega) (by rw [pi_si, if_pos rfl, if_neg (by decide)]; exact h2) ?_
  refine cl_18 (t := t) (by omega) (lm_Lay_si (lm_Lay_si H.1 _ _ _) _ _ _) (by omega) (by rw [pi_si, if_pos rfl, if_pos rfl]) ?_
  have b3 : jb h (lm_si (lm_si (lm_si h 18 3 0) 18 2 (Int32.ofNat (t + 1))) 18 2 (Int32.ofNat t)) := jb_18 (jb_18 (jb_18 (jb_rf h) (Or.inr rfl) _) (Or.inl rfl) _) (Or.inl rfl) _
  rw [show lm_l (lm_si h 18 3 0) 20 (t + 1) = Int64.ofInt b from hB, show lm_l (lm_si (lm_si h 18 3 0) 18 2 (Int32.ofNat (t + 1))) 20 t = Int64.ofInt a from hA]
  refine cl_21 (by omega) (fr_Lay b3.1 H.1) hs8 ha hb (by simp only [pi_si, Nat.reduceEqDiff, if_true, if_false]) (fun v q => ?_) (fun q r => ?_)
  · refine cl_17 (t := t) (by omega) (fr_Lay (jb_18 b3 (Or.inr rfl) _).1 H.1) (by omega) (by simp only [pi_si, Nat.reduceEqDiff, if_true, if_false]) _ ?_
    rw [if_pos (by simp only [pi_si, pi_sl, Nat.reduceEqDiff, if_true, if_false])]
    exact hT v q _ (jt_push (jb_18 b3 (Or.inr rfl) _) (fun j _ => rfl))
  · refine cl_17 (t := t) (by omega) (fr_Lay (jb_18 b3 (Or.inr rfl) _).1 H.1) (by omega) (by simp only [pi_si, Nat.reduceEqDiff, if_true, if_false]) _ ?_
    rw [if_neg (by simp only [pi_si, pi_sl, Nat.reduceEqDiff, if_true, if_false]; decide)]
    refine hF q _ ?_
    have b4 := jb_18 b3 (Or.inr rfl) (1 : Int32)
    refine ⟨fr_si (fr_sl b4.1 (by decide) (by decide) _ _) (by decide) (by decide) _ _, ?_, ?_⟩
    · rw [pi_si, if_pos rfl, if_neg (by decide)]; exact b4.2.1
    · rw [pi_si, if_pos rfl, if_neg (by decide)]; exact b4.2.2
/-- a number or a word is pushed -/
theorem J_leaf {d q E z x L t s n : Nat} {h : lm_H} {K : lm_H → Prop} {w : Nat → Int32} (hd : 2 ≤ d) (H : jh h q L w) (hz : z < L) (hx : x ≤ z) (ht : t < 400) (hsn : s = 0 ∧ n ≤ 1000 ∨ s = 1 ∧ n < 7) (hs : lm_i h q z = st s n) (h2 : lm_i h 18 2 = Int32.ofNat t)
    (hT : ∀ h', jt h h' t (if s = 0 then (n : Int) else (w n).toInt) → JW d q E (z + 1) (x + 1) h' K) : JW d q E z x h K := by
  have hL := H.2.2.1
  obtain ⟨e15, e4⟩ := st_all n (by omega) s (by omega)
  obtain ⟨d, rfl⟩ := q_dp hd
  have nn : ∀ c, c < 20 → ¬ s = c → ¬ Int32.ofNat s = Int32.ofNat c := fun c hc q => by rw [q_eq (by omega) (by omega)]; exact q
  have b3 : jb h (lm_si h 18 3 0) := jb_18 (jb_rf h) (Or.inr rfl) _
  have t2 : lm_i (lm_si h 18 3 0) 18 2 = Int32.ofNat t := by rw [pi_si, if_pos rfl, if_neg (by decide)]; exact h2
  refine b_15_28 _ _ _ _ H.1 ?_
  refine ⟨L, H.2.1, ?_⟩
  rw [if_pos (by rw [q_lt (by omega) (by omega)]; omega), if_neg (by rw [q_lt0 (by omega)]; exact id)]
  refine ⟨L, H.2.1, ?_⟩
  rw [if_pos (by rw [q_lt (by omega) (by omega)]; omega)]
  refine ⟨L, H.2.1, ?_⟩
  rw [q_in (by omega) (by omega)]
  refine ⟨L, H.2.1, ?_⟩
  rw [q_in (by omega) (by omega), q_nat (by omega), hs, e15, e4]
  rw [if_neg (show ¬ Int32.ofNat s = 12 from nn 12 (by omega) (by omega)), if_neg (show ¬ Int32.ofNat s = 10 from nn 10 (by omega) (by omega)), if_neg (show ¬ Int32.ofNat s = 11 from nn 11 (by omega) (by omega)), if_neg (show ¬ Int32.ofNat s = 13 from nn 13 (by omega) (by omega)), if_neg (show ¬ Int32.ofNat s = 14 from nn 14 (by omega) (by omega)), q_a1, q_a1]
  refine e_20 _ _ (lm_Lay_si H.1 _ _ _) ?_
  rcases hsn with ⟨rfl, hn⟩ | ⟨rfl, hn⟩
  · rw [if_pos (by decide), l_nat (by omega)]
    refine cl_17 (t := t) (by omega) (lm_Lay_si H.1 _ _ _) ht t2 _ ?_
    rw [if_pos (by simp only [pi_si, pi_sl, Nat.reduceEqDiff, if_true, if_false])]
    exact hT _ (jt_push b3 (fun j _ => rfl))
  · rw [if_neg (by decide), if_pos (by decide), if_neg (by rw [q_lt0 (by omega)]; exact id), if_pos (by rw [show (7 : Int32) = Int32.ofNat 7 from rfl, q_lt (by omega) (by omega)]; exact hn), q_in (by omega) (by omega), q_nat (by omega), pi_si, if_neg (by decide), H.2.2.2.2.2 n hn, l_of]
    refine cl_17 (t := t) (by omega) (lm_Lay_si H.1 _ _ _) ht t2 _ ?_
    rw [if_pos (by simp only [pi_si, pi_sl, Nat.reduceEqDiff, if_true, if_false])]
    exact hT _ (jt_push b3 (fun j _ => rfl))
theorem J_not {d q E z x L t : Nat} {h : lm_H} {K : lm_H → Prop} {w : Nat → Int32} {a : Int} (hd : 2 ≤ d) (H : jh h q L w) (hz : z < L) (hx : x ≤ z) (ht : t < 400) (hs : lm_i h q z = st 9 0) (ha : bB a) (h2 : lm_i h 18 2 = Int32.ofNat (t + 1)) (hA : lm_l h 20 t = Int64.ofInt a)
    (hT : ∀ h', jt h h' t (if a = 0 then 1 else 0) → JW d q E (z + 1) (x + 1) h' K) : JW d q E z x h K := by
  have hL := H.2.2.1
  obtain ⟨e15, e4⟩ := st_all 0 (by omega) 9 (by omega)
  obtain ⟨d, rfl⟩ := q_dp hd
  have b3 : jb h (lm_si (lm_si h 18 3 0) 18 2 (Int32.ofNat t)) := jb_18 (jb_18 (jb_rf h) (Or.inr rfl) _) (Or.inl rfl) _
  have e0 : (0 : Int64) = Int64.ofInt 0 := rfl
  have e1 : (1 : Int64) = Int64.ofInt 1 := rfl
  refine b_15_28 _ _ _ _ H.1 ?_
  refine ⟨L, H.2.1, ?_⟩
  rw [if_pos (by rw [q_lt (by omega) (by omega)]; omega), if_neg (by rw [q_lt0 (by omega)]; exact id)]
  refine ⟨L, H.2.1, ?_⟩
  rw [if_pos (by rw [q_lt (by omega) (by omega)]; omega)]
  refine ⟨L, H.2.1, ?_⟩
  rw [q_in (by omega) (by omega)]
  refine ⟨L, H.2.1, ?_⟩
  rw [q_in (by omega) (by omega), q_nat (by omega), hs, e15, e4]
  rw [if_neg (by decide), if_neg (by decide), if_neg (by decide), if_neg (by decide), if_neg (by decide), q_a1, q_a1]
  refine e_20 _ _ (lm_Lay_si H.1 _ _ _) ?_
  rw [if_neg (by decide), if_neg (by decide), if_pos (by decide)]
  refine cl_18 (t := t) (by omega) (lm_Lay_si H.1 _ _ _) ht (by rw [pi_si, if_pos rfl, if_neg (by decide)]; exact h2) ?_
  rw [show lm_l (lm_si h 18 3 0) 20 t = Int64.ofInt a from hA]
  by_cases c : a = 0
  · rw [if_pos c] at hT
    rw [if_pos (by rw [lg_cmp_eq, e0, l_eqB (bB_big ha) (by omega)]; exact c), e1]
    refine cl_17 (t := t) (by omega) (fr_Lay b3.1 H.1) ht (by simp only [pi_si, if_true]) _ ?_
    rw [if_pos (by simp only [pi_si, pi_sl, Nat.reduceEqDiff, if_true, if_false])]
    exact hT _ (jt_push b3 (fun j _ => rfl))
  · rw [if_neg c] at hT
    rw [if_neg (by rw [lg_cmp_eq, e0, l_eqB (bB_big ha) (by omega)]; exact c), e0]
    refine cl_17 (t := t) (by omega) (fr_Lay b3.1 H.1) ht (by simp only [pi_si, if_true]) _ ?_
    rw [if_pos (by simp only [pi_si, pi_sl, Nat.reduceEqDiff, if_true, if_false])]
    exact hT _ (jt_push b3 (fun j _ => rfl))
/-- OR (10) and AND (11): on with the next, or behind it -/
theorem J_or {d q E z x L t n : Nat} {h : lm_H} {K : lm_H → Prop} {w : Nat → Int32} {a : Int} (hd : 1 ≤ d) (H : jh h q L w) (hz : z < L) (hx : x ≤ z) (ht : t < 400) (hn : n < 1002) (hs : lm_i h q z = st 10 n) (ha : bB a) (h2 : lm_i h 18 2 = Int32.ofNat (t + 1)) (hA : lm_l h 20 t = Int64.ofInt a)
    (hT : ¬ a = 0 → ∀ h', jt h h' t a → JW d q E n (x + 1) h' K) (hF : a = 0 → ∀ h', jb h h' → lm_i h' 18 2 = Int32.ofNat t → (∀ j, j < t → lm_l h' 20 j = lm_l h 20 j) → JW d q E (z + 1) (x + 1) h' K) : JW d q E z x h K := by
  have hL := H.2.2.1
  obtain ⟨e15, e4⟩ := st_all n (by omega) 10 (by omega)
  obtain ⟨d, rfl⟩ := q_dp hd
  have b3 : jb h (lm_si h 18 3 0) := jb_18 (jb_rf h) (Or.inr rfl) _
  have e0 : (0 : Int64) = Int64.ofInt 0 := rfl
  have t2 : lm_i (lm_si h 18 3 0) 18 2 = Int32.ofNat (t + 1) := by rw [pi_si, if_pos rfl, if_neg (by decide)]; exact h2
  have t3 : lm_i (lm_si h 18 3 0) 18 3 = 0 := by rw [pi_si, if_pos rfl, if_pos rfl]
  refine b_15_28 _ _ _ _ H.1 ?_
  refine ⟨L, H.2.1, ?_⟩
  rw [if_pos (by rw [q_lt (by omega) (by omega)]; omega), if_neg (by rw [q_lt0 (by omega)]; exact id)]
  refine ⟨L, H.2.1, ?_⟩
  rw [if_pos (by rw [q_lt (by omega) (by omega)]; omega)]
  refine ⟨L, H.2.1, ?_⟩
  rw [q_in (by omega) (by omega)]
  refine ⟨L, H.2.1, ?_⟩
  rw [q_in (by omega) (by omega), q_nat (by omega), hs, e15, e4]
  rw [if_neg (by decide), if_pos (by decide), q_a1, q_a1]
  refine e_16 (lm_Lay_si H.1 _ _ _) ?_
  rw [t2, if_pos (by rw [q_0l (by omega)]; omega), q_s1 (by omega), Nat.add_sub_cancel, q_in (by omega) (by omega), q_nat (by omega), show lm_l (lm_si h 18 3 0) 20 t = Int64.ofInt a from hA]
  by_cases c : a = 0
  · rw [if_pos (by rw [lg_cmp_eq, e0, l_eqB (bB_big ha) (by omega)]; exact c), if_pos (by decide), if_neg (by decide), if_pos t3]
    exact hF c _ (jb_18 b3 (Or.inl rfl) _) (by rw [pi_si, if_pos rfl, if_pos rfl]) (fun j _ => rfl)
  · rw [if_neg (by rw [lg_cmp_eq, e0, l_eqB (bB_big ha) (by omega)]; exact c), if_pos (by decide), if_pos rfl, if_pos t3]
    refine hT c _ ?_
    rw [show lm_si (lm_si h 18 3 0) 18 2 (Int32.ofNat (t + 1)) = lm_si h 18 3 0 by rw [← t2]; exact q_self _ 18 2]
    exact ⟨b3.1, b3.2.1, b3.2.2, t2, hA, fun j _ => rfl⟩
theorem J_and {d q E z x L t n : Nat} {h : lm_H} {K : lm_H → Prop} {w : Nat → Int32} {a : Int} (hd : 1 ≤ d) (H : jh h q L w) (hz : z < L) (hx : x ≤ z) (ht : t < 400) (hn : n < 1002) (hs : lm_i h q z = st 11 n) (ha : bB a) (h2 : lm_i h 18 2 = Int32.ofNat (t + 1)) (hA : lm_l h 20 t = Int64.ofInt a)
    (hT : a = 0 → ∀ h', jt h h' t a → JW d q E n (x + 1) h' K) (hF : ¬ a = 0 → ∀ h', jb h h' → lm_i h' 18 2 = Int32.ofNat t → (∀ j, j < t → lm_l h' 20 j = lm_l h 20 j) → JW d q E (z + 1) (x + 1) h' K) : JW d q E z x h K := by
  have hL := H.2.2.1
  obtain ⟨e15, e4⟩ := st_all n (by omega) 11 (by omega)
  obtain ⟨d, rfl⟩ := q_dp hd
  have b3 : jb h (lm_si h 18 3 0) := jb_18 (jb_rf h) (Or.inr rfl) _
  have e0 : (0 : Int64) = Int64.ofInt 0 := rfl
  have t2 : lm_i (lm_si h 18 3 0) 18 2 = Int32.ofNat (t + 1) := by rw [pi_si, if_pos rfl, if_neg (by decide)]; exact h2
  have t3 : lm_i (lm_si h 18 3 0) 18 3 = 0 := by rw [pi_si, if_pos rfl, if_pos rfl]
  refine b_15_28 _ _ _ _ H.1 ?_
  refine ⟨L, H.2.1, ?_⟩
  rw [if_pos (by rw [q_lt (by omega) (by omega)]; omega), if_neg (by rw [q_lt0 (by omega)]; exact id)]
  refine ⟨L, H.2.1, ?_⟩
  rw [if_pos (by rw [q_lt (by omega) (by omega)]; omega)]
  refine ⟨L, H.2.1, ?_⟩
  rw [q_in (by omega) (by omega)]
  refine ⟨L, H.2.1, ?_⟩
  rw [q_in (by omega) (by omega), q_nat (by omega), hs, e15, e4]
  rw [if_neg (by decide), if_neg (by decide), if_pos (by decide), q_a1, q_a1]
  refine e_16 (lm_Lay_si H.1 _ _ _) ?_
  rw [t2, if_pos (by rw [q_0l (by omega)]; omega), q_s1 (by omega), Nat.add_sub_cancel, q_in (by omega) (by omega), q_nat (by omega), show lm_l (lm_si h 18 3 0) 20 t = Int64.ofInt a from hA]
  by_cases c : a = 0
  · rw [if_pos (by rw [lg_cmp_eq, e0, l_eqB (bB_big ha) (by omega)]; exact c), if_neg (by decide), if_pos rfl, if_pos t3]
    refine hT c _ ?_
    rw [show lm_si (lm_si h 18 3 0) 18 2 (Int32.ofNat (t + 1)) = lm_si h 18 3 0 by rw [← t2]; exact q_self _ 18 2]
    exact ⟨b3.1, b3.2.1, b3.2.2, t2, hA, fun j _ => rfl⟩
  · rw [if_neg (by rw [lg_cmp_eq, e0, l_eqB (bB_big ha) (by omega)]; exact c), if_neg (by decide), if_neg (by decide), if_pos t3]
    exact hF c _ (jb_18 b3 (Or.inl rfl) _) (by rw [pi_si, if_pos rfl, if_pos rfl]) (fun j _ => rfl)
