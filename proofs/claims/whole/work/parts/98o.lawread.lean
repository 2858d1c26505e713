/-! law: a whole text, read by both sides. -/
section LawW
variable (kk nu pl : Nat → Nat) (N : Nat)
def CFw (q : Nat) : Prop := ∀ (d : Nat) (h : lm_H) (K : Option Nat → lm_H → Prop), 157 ≤ d → tkc kk nu pl N h → rs h 0 0 0 → (∀ h', cf pl h h' q → K none h') → lm_call d 37 [.ref 13] h (lm_kI fun r3 h2 => (lm_W (d) 25 40 [some (.ref 13), none, none, some (.int r3), some (.int 1)] [] h2 (lm_kR K)))
def COw (l : Nat) (co : cD) : Prop := ∀ (d : Nat) (h : lm_H) (K : Option Nat → lm_H → Prop), 157 ≤ d → tkc kk nu pl N h → rs h 0 0 0 → (∀ h' p' k', cg h h' 0 p' l k' co → lm_W d 25 118 [some (.ref 13), none, none, none, none] [] h' (lm_kR K)) → lm_call d 37 [.ref 13] h (lm_kI fun r3 h2 => (lm_W (d) 25 40 [some (.ref 13), none, none, some (.int r3), some (.int 1)] [] h2 (lm_kR K)))
def MFw (q : Nat) : Prop := ∀ (d : Nat) (h : lm_H) (K : Int32 → lm_H → Prop), 157 ≤ d + 1 → tkm kk nu pl N h → ms h 0 0 → lm_i h 92 15 = Int32.ofNat N → (∀ h', fr [] [11, 16, 17, 18] h h' → lm_i h' 92 11 = Int32.ofNat (pl q) → K 0 h') → lm_call (d + 1) 185 [.ref 92] h (lm_kV fun h2 => (lm_W (d + 1) 192 34 [some (.ref 92), some (.int 1)] [] h2 (lm_kI K)))
def MOw : Prop := ∀ (d : Nat) (h : lm_H) (K : Int32 → lm_H → Prop), 157 ≤ d + 1 → tkm kk nu pl N h → ms h 0 0 → lm_i h 92 15 = Int32.ofNat N → (∀ h', fr [] [11, 16, 17, 18] h h' → lm_i h' 92 11 = -1 → K 1 h') → lm_call (d + 1) 185 [.ref 92] h (lm_kV fun h2 => (lm_W (d + 1) 192 34 [some (.ref 92), some (.int 1)] [] h2 (lm_kI K)))
end LawW
theorem law_rd {kk nu pl : Nat → Nat} {N : Nat} (ht : tks kk nu pl N) (hb : (kk 0 = 263 ∨ kk 0 = 264) → N + 3 ≤ 400) : (∃ q, q ≤ N ∧ CFw kk nu pl N q ∧ MFw kk nu pl N q) ∨ ∃ (l : Nat) (co : cD) (ef : eF), l < 401 ∧ COw kk nu pl N l co ∧ MOw kk nu pl N ∧ JC l co ef ∧ ET kk nu N 0 ef ∧ eR ef := by
  have hN := ht.1
  have fail : ∀ q, q ≤ N → CFc kk nu pl N 157 0 0 q → MFc kk nu pl N 157 0 0 q → ∃ q, q ≤ N ∧ CFw kk nu pl N q ∧ MFw kk nu pl N q := by
    intro q hq f1 f2
    refine ⟨q, hq, ?_, ?_⟩
    · intro d h K hd H hr hK
      exact f1 d h _ 0 hd H hr (Nat.le_refl 0) (fun h' c => Cx_40 (fr_Lay c.1 H.1) (hK h' c))
    · intro d h K hd H hr h15 hK
      exact f2 _ h _ hd H hr (fun h' c => Mx_34 (by omega) (fr_Lay c.1 H.1) (mf_b ht hq c) (hK _ (mf_11 c).1 (mf_11 c).2))
  by_cases k0 : kk 0 = 263 ∨ kk 0 = 264
  · have h3 := hb k0
    rcases GC_all ht (p := 0) (k := 0) (by omega) (by omega) with ⟨q, hq, f1, f2⟩ | ⟨p1, k1, l1, co1, ef1, ⟨n1, n2, n3, n4, n5⟩, j2, j3, j4, j5, j6⟩
    · exact Or.inl (fail q hq f1 f2)
    rcases GL_all ht (N - p1 + 1) p1 k1 1 n2 (by omega) n3 (by omega) (by omega) with ⟨q, hq, f1, f2⟩ | ⟨p2, l2, co2, ef2, ⟨m1, m2, m3⟩, i2, i3, i4, i5, i6⟩
    · refine Or.inl ⟨q, hq, ?_, ?_⟩
      · intro d h K hd H hr hK
        refine j2 d h _ 0 hd H hr (Nat.le_refl 0) (fun h' c => ?_)
        exact f1 d h' K (0 + l1) hd (tkc_fr H c.1 (by decide)) c.2.1 (by omega) (fun h2 c2 => hK h2 (cf_tr c.1 c2))
      · intro d h K hd H hr h15 hK
        refine j3 _ h _ hd H hr (fun h' c => ?_)
        exact f2 d h' K hd (tkm_fr H c.1 (by decide)) c.2 (by rw [fr_m c.1 (by decide)]; exact h15) (fun h2 a1 a2 => hK h2 (fr_trans (fr_sub c.1 (by decide) (by decide)) a1) a2)
    · refine Or.inr ⟨l1 + l2, cc1 l1 co1 co2, fun w s => ef2 w (ef1 w s), by omega, ?_, ?_, JC_seq j4 i4, ?_, eR_seq j6 i6⟩
      · intro d h K hd H hr hK
        refine j2 d h _ 0 hd H hr (Nat.le_refl 0) (fun h' c => ?_)
        exact i2 d h' K (0 + l1) hd (tkc_fr H c.1 (by decide)) c.2.1 (by omega) (fun h2 k2 c2 => hK h2 _ k2 (cg_tr c c2))
      · intro d h K hd H hr h15 hK
        refine j3 _ h _ hd H hr (fun h' c => ?_)
        exact i3 d h' K hd (tkm_fr H c.1 (by decide)) c.2 (by rw [fr_m c.1 (by decide)]; exact h15) (fun h2 a1 a2 => hK h2 (fr_trans (fr_sub c.1 (by decide) (by decide)) a1) a2)
      · intro d h K t w hd H hg hr hK
        refine j5 d h K t w hd H hg hr.2 (fun h' a1 a2 a3 a4 => ?_)
        have hr' := j6 w (lm_i h 92 23, lm_i h 92 24) hr
        refine i5 d h' K t w hd (tke_fr H a1 (by decide)) a2 ?_ (fun h2 b1 b2 b3 => hK h2 (fr_trans a1 b1) ?_ ?_)
        · rw [a3, a4]; exact hr'
        · rw [b2, a3, a4]
        · rw [b3, a3, a4]
  · exact Or.inl (fail 0 (by omega) (Kc_f0 (dp := 156) ht (by omega) (by omega) (fun q => k0 (Or.inl q)) (fun q => k0 (Or.inr q))) (Mc_f0 (dp := 156) ht (by omega) (by omega) (fun q => k0 (Or.inl q)) (fun q => k0 (Or.inr q))))
section LawV
variable (T : Nat → Nat) (L : Nat)
def VFc (v : Nat) : Prop := ∀ (d : Nat) (h : lm_H) (K : Option Nat → lm_H → Prop), 160 ≤ d → lm_Lay h → (∀ j, j < L → lm_i h 12 j = Int32.ofNat (T j)) → (∀ h', fr [13, 14, 15, 16, 17] [] h h' → lm_i h' 13 7 = Int32.ofNat v → K none h') → lm_call d 25 [.ref 13, .ref 12, .int (Int32.ofNat L)] h (lm_kR K)
def VOc (l : Nat) (co : cD) : Prop := ∀ (d : Nat) (h : lm_H) (K : Option Nat → lm_H → Prop), 160 ≤ d → lm_Lay h → h.1.length + 1 < 1000000 → (∀ j, j < L → lm_i h 12 j = Int32.ofNat (T j)) → (∀ z, fr [13, 14, 15, 16, 17] [] h z → lm_i z 13 7 = -1 → (∀ j, j < l → lm_i z 17 j = co 0 j) → K (some z.1.length) (nlH z l)) → lm_call d 25 [.ref 13, .ref 12, .int (Int32.ofNat L)] h (lm_kR K)
def VFm (v : Nat) : Prop := ∀ (d : Nat) (h : lm_H) (K : Int32 → lm_H → Prop), 160 ≤ d → lm_Lay h → (∀ j, j < L → lm_i h 98 j = sb (T j)) → (∀ j, j < 64 → lm_i h 97 j = wR.getD j 0) → lm_i h 92 10 = Int32.ofNat L → (∀ h', fr [100, 101, 102] [10, 11, 15, 16, 17, 18] h h' → lm_i h' 92 10 = 0 → lm_i h' 92 11 = Int32.ofNat v → K 0 h') → lm_call d 192 [.ref 92] h (lm_kI K)
def VOm (kk nu : Nat → Nat) (N : Nat) : Prop := ∀ (d : Nat) (h : lm_H) (K : Int32 → lm_H → Prop), 160 ≤ d → lm_Lay h → (∀ j, j < L → lm_i h 98 j = sb (T j)) → (∀ j, j < 64 → lm_i h 97 j = wR.getD j 0) → lm_i h 92 10 = Int32.ofNat L → (∀ h', fr [100, 101, 102] [10, 11, 15, 16, 17, 18] h h' → lm_i h' 92 10 = 0 → lm_i h' 92 11 = -1 → lm_i h' 92 15 = Int32.ofNat N → (∀ p, p < N → lm_i h' 100 p = Int32.ofNat (cO (kk p)) ∧ (kk p = 257 → nu p ≤ 1000 → lm_i h' 101 p = Int32.ofNat (nu p))) → K 1 h') → lm_call d 192 [.ref 92] h (lm_kI K)
end LawV
theorem rd_all {T : Nat → Nat} {L : Nat} (hL : L ≤ 400) (hT : ∀ j, j < L → T j < 256) : (∃ v, VFc T L v ∧ VFm T L v) ∨ ∃ (l N : Nat) (co : cD) (ef : eF) (kk nu pl : Nat → Nat), l < 401 ∧ tks kk nu pl N ∧ VOc T L l co ∧ VOm T L kk nu N ∧ JC l co ef ∧ ET kk nu N 0 ef ∧ eR ef := by
  obtain ⟨N, kk, nu, pl, tp, tc, tm⟩ := tok_all hL hT (L + 1) 0 0 (by omega) (by omega) (by omega)
  obtain ⟨p1, p2, p3, p4⟩ := tp
  have ht : tks kk nu pl N := ⟨by omega, fun p hp => ⟨(p3 p (by omega) hp).1, (p3 p (by omega) hp).2.1⟩, fun p hp => (p3 p (by omega) hp).2.2.1, fun p hp => (p3 p (by omega) hp).2.2.2⟩
  have cgo : ∀ (d : Nat) (h : lm_H) (K : Option Nat → lm_H → Prop), 160 ≤ d → lm_Lay h → (∀ j, j < L → lm_i h 12 j = Int32.ofNat (T j)) → (∀ h1, fr [13, 14, 15, 16] [] h h1 → tkc kk nu pl N h1 → rs h1 0 0 0 → lm_i h1 13 7 = -1 → lm_call (d - 1) 37 [.ref 13] h1 (lm_kI fun r3 h2 => (lm_W ((d - 1)) 25 40 [some (.ref 13), none, none, some (.int r3), some (.int 1)] [] h2 (lm_kR K)))) → lm_call d 25 [.ref 13, .ref 12, .int (Int32.ofNat L)] h (lm_kR K) := by
    intro d h K hd hl hb hK
    obtain ⟨d, rfl⟩ := q_dp hd
    refine e_25 _ hl ?_
    rw [if_neg (by rw [show (400 : Int32) = Int32.ofNat 400 from rfl, q_lt (by omega) (by omega)]; omega)]
    refine e_26 (d := d + 157) _ hl ?_
    refine tc (d + 157) h _ (by omega) hl hb (fun h1 f1 _ t1 => ?_)
    have f2 : fr [13] [] h1 (lm_si (lm_si (lm_si (lm_si h1 13 4 0) 13 5 0) 13 6 0) 13 7 (-1)) := fr_si (fr_si (fr_si (fr_si (fr_refl _ _ _) (by decide) (by decide) _ _) (by decide) (by decide) _ _) (by decide) (by decide) _ _) (by decide) (by decide) _ _
    refine hK _ (fr_trans (fr_sub f1 (by decide) (by decide)) (fr_sub f2 (by decide) (by decide))) ⟨fr_Lay f2 (fr_Lay f1 hl), fun p hp => ?_⟩ ⟨rfl, rfl, rfl⟩ rfl
    rw [fr_i f2 (c := 14) (by decide) (by decide), fr_i f2 (c := 15) (by decide) (by decide), fr_i f2 (c := 16) (by decide) (by decide)]
    exact t1 p (by omega) hp
  have mgo : ∀ (d : Nat) (h : lm_H) (K : Int32 → lm_H → Prop), 160 ≤ d → lm_Lay h → (∀ j, j < L → lm_i h 98 j = sb (T j)) → (∀ j, j < 64 → lm_i h 97 j = wR.getD j 0) → lm_i h 92 10 = Int32.ofNat L → (∀ h1, fr [100, 101, 102] [10, 15, 16, 17, 18] h h1 → tkm kk nu pl N h1 → ms h1 0 0 → lm_i h1 92 15 = Int32.ofNat N → lm_i h1 92 10 = 0 → lm_call (d - 2 + 1) 185 [.ref 92] h1 (lm_kV fun h2 => (lm_W ((d - 2) + 1) 192 34 [some (.ref 92), some (.int 1)] [] h2 (lm_kI K)))) → lm_call d 192 [.ref 92] h (lm_kI K) := by
    intro d h K hd hl hb hw h10 hK
    obtain ⟨d, rfl⟩ := q_dp hd
    refine e_192 (d := d + 158) hl ?_
    rw [h10]
    refine e_178 (d := d + 157) _ hl ?_
    have f0 : fr [] [15] h (lm_si h 92 15 0) := fr_s92 (fr_refl _ _ _) (by decide) _
    refine tm (d + 157) _ _ (by omega) (fr_Lay f0 hl) (by rw [fr_i f0 (by decide) (by decide)]; exact hb) (by rw [fr_i f0 (by decide) (by decide)]; exact hw) rfl (fun h1 f1 t15 _ t1 => ?_)
    have f2 : fr [] [10, 16, 17, 18] h1 (lm_si (lm_si (lm_si (lm_si h1 92 10 0) 92 16 0) 92 17 0) 92 18 (-1)) := fr_s92 (fr_s92 (fr_s92 (fr_s92 (fr_refl _ _ _) (by decide) _) (by decide) _) (by decide) _) (by decide) _
    refine hK _ (fr_trans (fr_sub f0 (by decide) (by decide)) (fr_trans (fr_sub f1 (by decide) (by decide)) (fr_sub f2 (by decide) (by decide)))) ⟨fr_Lay f2 (fr_Lay f1 (fr_Lay f0 hl)), fun p hp => ?_⟩ ⟨rfl, rfl, rfl⟩ (by rw [fr_m f2 (by decide)]; exact t15) rfl
    rw [fr_i f2 (c := 100) (by decide) (by decide), fr_i f2 (c := 101) (by decide) (by decide), fr_i f2 (c := 102) (by decide) (by decide)]
    exact t1 p (by omega) hp
  rcases law_rd ht (fun q => by have := p4 q; omega) with ⟨q, hq, f1, f2⟩ | ⟨l, co, ef, l4, j1, j2, j3, j4, j5⟩
  · refine Or.inl ⟨pl q, ?_, ?_⟩
    · intro d h K hd hl hb hK
      refine cgo d h K hd hl hb (fun h1 g1 g2 g3 g4 => ?_)
      exact f1 (d - 1) h1 K (by omega) g2 g3 (fun h' c => hK h' (fr_trans (fr_sub g1 (by decide) (by decide)) (fr_sub c.1 (by decide) (by decide))) c.2.1)
    · intro d h K hd hl hb hw h10 hK
      refine mgo d h K hd hl hb hw h10 (fun h1 g1 g2 g3 g4 g5 => ?_)
      exact f2 (d - 2) h1 K (by omega) g2 g3 g4 (fun h' a1 a2 => hK h' (fr_trans (fr_sub g1 (by decide) (by decide)) (fr_sub a1 (by decide) (by decide))) (by rw [fr_m a1 (by decide)]; exact g5) a2)
  · refine Or.inr ⟨l, N, co, ef, kk, nu, pl, l4, ht, ?_, ?_, j3, j4, j5⟩
    · intro d h K hd hl hlen hb hK
      refine cgo d h K hd hl hb (fun h1 g1 g2 g3 g4 => ?_)
      refine j1 (d - 1) h1 K (by omega) g2 g3 (fun h' p' k' c => ?_)
      have gg : fr [13, 14, 15, 16, 17] [] h h' := fr_trans (fr_sub g1 (by decide) (by decide)) (fr_sub c.1 (by decide) (by decide))
      refine cl_25n (by omega) (fr_Lay gg hl) (by rw [gg.1]; exact hlen) l4 (by rw [c.2.1.2.1, Nat.zero_add]) ?_
      exact hK h' gg (by rw [c.2.2.1]; exact g4) (fun j hj => by have := c.2.2.2.2 j hj; rw [Nat.zero_add] at this; exact this)
    · intro d h K hd hl hb hw h10 hK
      refine mgo d h K hd hl hb hw h10 (fun h1 g1 g2 g3 g4 g5 => ?_)
      refine j2 (d - 2) h1 K (by omega) g2 g3 g4 (fun h' a1 a2 => hK h' (fr_trans (fr_sub g1 (by decide) (by decide)) (fr_sub a1 (by decide) (by decide))) (by rw [fr_m a1 (by decide)]; exact g5) a2 (by rw [fr_m a1 (by decide)]; exact g4) (fun p hp => ?_))
      rw [fr_i a1 (c := 100) (by decide) (by decide), fr_i a1 (c := 101) (by decide) (by decide)]
      obtain ⟨t1, t2, t3⟩ := g2.2 p (by omega)
      refine ⟨t1, fun k1 k2 => ?_⟩
      have := t3 k1
      rw [if_pos k2] at this
      exact this
