/-! Tokens: both sides cut a text alike. -/
def isL (x : Nat) : Bool := decide (97 ≤ x ∧ x ≤ 122)
def isD (x : Nat) : Bool := decide (48 ≤ x ∧ x ≤ 57)
/-- a byte as the reference has it -/
def sb (x : Nat) : Int32 := if x < 128 then Int32.ofNat x else Int32.ofNat x - 256
set_option maxRecDepth 20000 in
theorem sb_all : ∀ x, x < 256 → ((sb x = 32) ↔ x = 32) ∧ ((sb x < 97) ↔ (x < 97 ∨ 128 ≤ x)) ∧ ((sb x < 48) ↔ (x < 48 ∨ 128 ≤ x)) ∧ ((57 < sb x) ↔ (57 < x ∧ x < 128)) ∧ ((122 < sb x) ↔ (122 < x ∧ x < 128)) ∧ (sb x &&& 255) = Int32.ofNat x := by decide +kernel
/-- how far a run goes -/
theorem run_ex (P : Nat → Bool) (L : Nat) : ∀ m f, L - f = m → f < L → P f = true → ∃ t, f < t ∧ t ≤ L ∧ (∀ j, f ≤ j → j < t → P j = true) ∧ (t = L ∨ P t = false) := by
  intro m
  induction m with
  | zero => intro f h1 h2; omega
  | succ m ih =>
    intro f h1 h2 h3
    by_cases c : f + 1 < L ∧ P (f + 1) = true
    · obtain ⟨t, t1, t2, t3, t4⟩ := ih (f + 1) (by omega) c.1 c.2
      refine ⟨t, by omega, t2, fun j hj1 hj2 => ?_, t4⟩
      by_cases ej : j = f
      · rw [ej]; exact h3
      · exact t3 j (by omega) hj2
    · refine ⟨f + 1, by omega, by omega, fun j hj1 hj2 => ?_, ?_⟩
      · have : j = f := by omega
        rw [this]; exact h3
      · by_cases z : f + 1 = L
        · exact Or.inl z
        · refine Or.inr ?_
          cases hP : P (f + 1) with
          | false => rfl
          | true => exact absurd ⟨by omega, hP⟩ c
section TokD
variable (T : Nat → Nat) (L : Nat)
def TKc (f n N : Nat) (kk nu pl : Nat → Nat) : Prop := ∀ (d : Nat) (h : lm_H) (K : lm_H → Prop), 6 ≤ d + 1 → lm_Lay h → (∀ j, j < L → lm_i h 12 j = Int32.ofNat (T j)) → (∀ h', fr [14, 15, 16] [] h h' → (∀ p, p < n → lm_i h' 14 p = lm_i h 14 p ∧ lm_i h' 15 p = lm_i h 15 p ∧ lm_i h' 16 p = lm_i h 16 p) → (∀ p, n ≤ p → p ≤ N → lm_i h' 14 p = Int32.ofNat (kk p) ∧ lm_i h' 15 p = Int32.ofNat (pl p) ∧ (kk p = 257 → lm_i h' 16 p = Int32.ofNat (nu p))) → K h') → (lm_W (d + 1) 26 5 [some (.ref 13), some (.ref 12), some (.int (Int32.ofNat L)), some (.int (Int32.ofNat n)), some (.int (Int32.ofNat f)), none] [] h (lm_kV K))
def TKm (f n N : Nat) (kk nu pl : Nat → Nat) : Prop := ∀ (d : Nat) (h : lm_H) (K : lm_H → Prop), 1 ≤ d + 1 → lm_Lay h → (∀ j, j < L → lm_i h 98 j = sb (T j)) → (∀ j, j < 64 → lm_i h 97 j = wR.getD j 0) → lm_i h 92 15 = Int32.ofNat n → (∀ h', fr [100, 101, 102] [15] h h' → lm_i h' 92 15 = Int32.ofNat N → (∀ p, p < n → lm_i h' 100 p = lm_i h 100 p ∧ lm_i h' 101 p = lm_i h 101 p ∧ lm_i h' 102 p = lm_i h 102 p) → (∀ p, n ≤ p → p ≤ N → lm_i h' 100 p = Int32.ofNat (cO (kk p)) ∧ lm_i h' 102 p = Int32.ofNat (pl p) ∧ (kk p = 257 → if nu p ≤ 1000 then lm_i h' 101 p = Int32.ofNat (nu p) else 1000 < lm_i h' 101 p)) → K h') → (lm_W (d + 1) 178 7 [some (.ref 92), some (.int (Int32.ofNat L)), some (.int (Int32.ofNat f)), none, none, none] [] h (lm_kV K))
def TKp (f n N : Nat) (kk nu pl : Nat → Nat) : Prop := n ≤ N ∧ N - n ≤ L - f ∧ (∀ p, n ≤ p → p ≤ N → kk p < 272 ∧ (kk p = 256 ↔ p = N) ∧ pl p ≤ 400 ∧ nu p ≤ 1001) ∧ ((kk n = 263 ∨ kk n = 264) → N - n + 3 ≤ L - f)
end TokD
section TokT
variable {T : Nat → Nat} {L f n t N : Nat} {kk nu pl : Nat → Nat}
/-- what the class's step from f to t leaves: a token of kind c -/
theorem tc_add {c v : Nat} (hv : c = 257 → v ≤ 1001) (ht : f < t) (htL : t ≤ L) (hL : L ≤ 400) (hn : n ≤ f) (hp : TKp L t (n + 1) N kk nu pl) (hc : TKc T L t (n + 1) N kk nu pl) (d : Nat) (h : lm_H) (K : lm_H → Prop) (hd : 6 ≤ d + 1) (hl : lm_Lay h) (hb : ∀ j, j < L → lm_i h 12 j = Int32.ofNat (T j)) (h' : lm_H) (f1 : fr [14, 15, 16] [] h h') (e1 : ∀ p, ¬ p = n → lm_i h' 14 p = lm_i h 14 p ∧ lm_i h' 15 p = lm_i h 15 p ∧ lm_i h' 16 p = lm_i h 16 p) (e2 : lm_i h' 14 n = Int32.ofNat c) (e3 : lm_i h' 15 n = Int32.ofNat f) (e4 : c = 257 → lm_i h' 16 n = Int32.ofNat v)
    (hK : ∀ h', fr [14, 15, 16] [] h h' → (∀ p, p < n → lm_i h' 14 p = lm_i h 14 p ∧ lm_i h' 15 p = lm_i h 15 p ∧ lm_i h' 16 p = lm_i h 16 p) → (∀ p, n ≤ p → p ≤ N → lm_i h' 14 p = Int32.ofNat (if p = n then c else kk p) ∧ lm_i h' 15 p = Int32.ofNat (if p = n then f else pl p) ∧ ((if p = n then c else kk p) = 257 → lm_i h' 16 p = Int32.ofNat (if p = n then v else nu p))) → K h') : (lm_W (d + 1) 26 5 [some (.ref 13), some (.ref 12), some (.int (Int32.ofNat L)), some (.int (Int32.ofNat (n + 1))), some (.int (Int32.ofNat t)), none] [] h' (lm_kV K)) := by
  refine hc d h' K hd (fr_Lay f1 hl) (fun j hj => by rw [fr_i f1 (by decide) (by decide)]; exact hb j hj) (fun h2 f2 a1 a2 => hK h2 (fr_trans f1 f2) (fun p hp2 => ?_) (fun p hp1 hp2 => ?_))
  · obtain ⟨b1, b2, b3⟩ := a1 p (by omega)
    rw [b1, b2, b3]
    exact e1 p (by omega)
  · by_cases ep : p = n
    · obtain ⟨b1, b2, b3⟩ := a1 p (by omega)
      rw [b1, b2, b3, ep, if_pos rfl, if_pos rfl, if_pos rfl]
      exact ⟨e2, e3, e4⟩
    · rw [if_neg ep, if_neg ep, if_neg ep]
      exact a2 p (by omega) hp2
theorem tm_add {c v : Nat} (ht : f < t) (htL : t ≤ L) (hL : L ≤ 400) (hn : n ≤ f) (hm : TKm T L t (n + 1) N kk nu pl) (d : Nat) (h : lm_H) (K : lm_H → Prop) (hd : 1 ≤ d + 1) (hl : lm_Lay h) (hb : ∀ j, j < L → lm_i h 98 j = sb (T j)) (hw : ∀ j, j < 64 → lm_i h 97 j = wR.getD j 0) (h' : lm_H) (f1 : fr [100, 101, 102] [15] h h') (h15 : lm_i h' 92 15 = Int32.ofNat (n + 1)) (e1 : ∀ p, ¬ p = n → lm_i h' 100 p = lm_i h 100 p ∧ lm_i h' 101 p = lm_i h 101 p ∧ lm_i h' 102 p = lm_i h 102 p) (e2 : lm_i h' 100 n = Int32.ofNat (cO c)) (e3 : lm_i h' 102 n = Int32.ofNat f) (e4 : c = 257 → if v ≤ 1000 then lm_i h' 101 n = Int32.ofNat v else 1000 < lm_i h' 101 n)
    (hK : ∀ h', fr [100, 101, 102] [15] h h' → lm_i h' 92 15 = Int32.ofNat N → (∀ p, p < n → lm_i h' 100 p = lm_i h 100 p ∧ lm_i h' 101 p = lm_i h 101 p ∧ lm_i h' 102 p = lm_i h 102 p) → (∀ p, n ≤ p → p ≤ N → lm_i h' 100 p = Int32.ofNat (cO (if p = n then c else kk p)) ∧ lm_i h' 102 p = Int32.ofNat (if p = n then f else pl p) ∧ ((if p = n then c else kk p) = 257 → if (if p = n then v else nu p) ≤ 1000 then lm_i h' 101 p = Int32.ofNat (if p = n then v else nu p) else 1000 < lm_i h' 101 p)) → K h') : (lm_W (d + 1) 178 7 [some (.ref 92), some (.int (Int32.ofNat L)), some (.int (Int32.ofNat t)), none, none, none] [] h' (lm_kV K)) := by
  refine hm d h' K hd (fr_Lay f1 hl) (fun j hj => by rw [fr_i f1 (by decide) (by decide)]; exact hb j hj) (fun j hj => by rw [fr_i f1 (by decide) (by decide)]; exact hw j hj) h15 (fun h2 f2 a0 a1 a2 => hK h2 (fr_trans f1 f2) a0 (fun p hp2 => ?_) (fun p hp1 hp2 => ?_))
  · obtain ⟨b1, b2, b3⟩ := a1 p (by omega)
    rw [b1, b2, b3]
    exact e1 p (by omega)
  · by_cases ep : p = n
    · obtain ⟨b1, b2, b3⟩ := a1 p (by omega)
      simp only [ep, if_true] at b1 b2 b3 ⊢
      rw [b1, b2, b3]
      exact ⟨e2, e3, e4⟩
    · simp only [ep, if_false]
      exact a2 p (by omega) hp2
theorem tp_add {c v : Nat} (hc : c < 272) (h256 : ¬ c = 256) (hv : v ≤ 1001) (ht : f < t) (htL : t ≤ L) (hL : L ≤ 400) (hw : (c = 263 ∨ c = 264) → f + 4 ≤ t) (hp : TKp L t (n + 1) N kk nu pl) : TKp L f n N (fun p => if p = n then c else kk p) (fun p => if p = n then v else nu p) (fun p => if p = n then f else pl p) := by
  obtain ⟨a1, a2, a3, a4⟩ := hp
  refine ⟨by omega, by omega, fun p hp1 hp2 => ?_, fun z => ?_⟩
  · show (if p = n then c else kk p) < 272 ∧ ((if p = n then c else kk p) = 256 ↔ p = N) ∧ (if p = n then f else pl p) ≤ 400 ∧ (if p = n then v else nu p) ≤ 1001
    by_cases ep : p = n
    · rw [if_pos ep, if_pos ep, if_pos ep]
      exact ⟨hc, ⟨fun z => absurd z h256, fun z => by omega⟩, by omega, hv⟩
    · rw [if_neg ep, if_neg ep, if_neg ep]
      exact a3 p (by omega) hp2
  · have z : (if n = n then c else kk n) = 263 ∨ (if n = n then c else kk n) = 264 := z
    rw [if_pos rfl] at z
    have := hw z
    omega
/-- a sign by itself -/
theorem tok_sign (hL : L ≤ 400) (hT : ∀ j, j < L → T j < 256) (hf : f < L) (hn : n ≤ f) (h1 : isL (T f) = false) (h2 : isD (T f) = false) (h3 : ¬ T f = 32) (hp : TKp L (f + 1) (n + 1) N kk nu pl) (hc : TKc T L (f + 1) (n + 1) N kk nu pl) (hm : TKm T L (f + 1) (n + 1) N kk nu pl) : ∃ N kk nu pl, TKp L f n N kk nu pl ∧ TKc T L f n N kk nu pl ∧ TKm T L f n N kk nu pl := by
  have hx := hT f hf
  have h1' : ¬ (97 ≤ T f ∧ T f ≤ 122) := by simpa [isL] using h1
  have h2' : ¬ (48 ≤ T f ∧ T f ≤ 57) := by simpa [isD] using h2
  refine ⟨N, _, _, _, tp_add (c := T f) (v := 0) (by omega) (by omega) (by omega) (by omega) (by omega) hL (fun z => by omega) hp, ?_, ?_⟩
  · intro d h K hd hl hb hK
    have e : lm_i h 12 f = Int32.ofNat (T f) := hb f hf
    have l1 : (Int32.ofNat (T f) < 97) = (T f < 97) := q_lt (b := 97) (by omega) (by omega)
    have l2 : (Int32.ofNat (T f) < 48) = (T f < 48) := q_lt (b := 48) (by omega) (by omega)
    have l3 : (57 < Int32.ofNat (T f)) = (57 < T f) := q_lt (a := 57) (by omega) (by omega)
    have l4 : (122 < Int32.ofNat (T f)) = (122 < T f) := q_lt (a := 122) (by omega) (by omega)
    have l5 : (Int32.ofNat (T f) = 32) = (T f = 32) := q_eq (b := 32) (by omega) (by omega)
    have fin : lm_in (Int32.ofNat f) 400 False (lm_in (Int32.ofNat n) 401 False (lm_in (Int32.ofNat n) 401 False (lm_in (Int32.ofNat f) 400 False ((lm_W (d + 1) 26 5 [some (.ref 13), some (.ref 12), some (.int (Int32.ofNat L)), some (.int (Int32.ofNat (n + 1))), some (.int (Int32.ofNat (f + 1))), none] [] ((lm_si (lm_si h 14 n (Int32.ofNat (T f))) 15 n (Int32.ofNat f))) (lm_kV K)))))) := by
      refine p_inN (by omega) (by omega) (p_inN (by omega) (by omega) (p_inN (by omega) (by omega) (p_inN (by omega) (by omega) ?_)))
      refine tc_add (c := T f) (v := 0) (fun _ => by omega) (by omega) (by omega) hL hn hp hc d h K hd hl hb _ (fr_si (fr_si (fr_refl _ _ _) (by decide) (by decide) _ _) (by decide) (by decide) _ _) (fun p hp => ?_) ?_ ?_ (fun z => by omega) hK
      · simp only [pi_si, Nat.reduceEqDiff, if_true, if_false, hp, and_self]
      · simp only [pi_si, Nat.reduceEqDiff, if_true, if_false]
      · simp only [pi_si, if_true]
    refine b_26_5 _ _ _ hl ?_
    rw [if_pos (by rw [q_lt (by omega) (by omega)]; exact hf), q_in (by omega) (by omega), q_nat (by omega), q_nat (by omega), e]
    simp only [l1, l2, l3, l4, l5, h3, if_false]
    rw [q_a1, q_a1]
    by_cases c1 : T f < 97
    · rw [if_pos c1, q_in (by omega) (by omega)]
      by_cases c2 : T f < 48
      · rw [if_pos c2]; exact fin
      · rw [if_neg c2, if_pos (by omega)]; exact fin
    · rw [if_neg c1, if_pos (by omega), q_in (by omega) (by omega), if_neg (by omega), if_pos (by omega)]
      exact fin
  · intro d h K hd hl hb hw h15 hK
    have e : lm_i h 98 f = sb (T f) := hb f hf
    obtain ⟨s1, s2, s3, s4, s5, s6⟩ := sb_all (T f) hx
    have fin : lm_in (Int32.ofNat n) 401 False ((lm_W (d + 1) 178 169 [some (.ref 92), some (.int (Int32.ofNat L)), none, some (.int (sb (T f))), some (.int (Int32.ofNat (f + 1))), some (.int (Int32.ofNat f))] [] ((lm_si (lm_si (lm_si h 102 n (Int32.ofNat f)) 101 n 0) 100 n (100 + (sb (T f) &&& 255)))) (lm_kV K))) := by
      refine p_inN (by omega) (by omega) ?_
      have fr1 : fr [100, 101, 102] [15] h (lm_si (lm_si (lm_si h 102 n (Int32.ofNat f)) 101 n 0) 100 n (100 + (sb (T f) &&& 255))) := fr_si (fr_si (fr_si (fr_refl _ _ _) (by decide) (by decide) _ _) (by decide) (by decide) _ _) (by decide) (by decide) _ _
      have i15 : lm_i (lm_si (lm_si (lm_si h 102 n (Int32.ofNat f)) 101 n 0) 100 n (100 + (sb (T f) &&& 255))) 92 15 = Int32.ofNat n := h15
      refine b_178_169 _ _ _ _ (fr_Lay fr1 hl) ?_
      rw [if_pos (by rw [q_lt (by omega) (by omega)]; omega), i15, q_a1]
      have nx : (lm_W (d + 1) 178 7 [some (.ref 92), some (.int (Int32.ofNat L)), some (.int (Int32.ofNat (f + 1))), none, none, none] [] ((lm_si (lm_si (lm_si (lm_si h 102 n (Int32.ofNat f)) 101 n 0) 100 n (100 + (sb (T f) &&& 255))) 92 15 (Int32.ofNat (n + 1)))) (lm_kV K)) := by
        refine tm_add (c := T f) (v := 0) (by omega) (by omega) hL hn hm d h K hd hl hb hw _ (fr_s92 fr1 (by decide) _) (by rw [pi_si, if_pos rfl, if_pos rfl]) (fun p hp => ?_) ?_ ?_ (fun z => by omega) hK
        · simp only [pi_si, Nat.reduceEqDiff, if_true, if_false, hp, and_self]
        · simp only [pi_si, Nat.reduceEqDiff, if_true, if_false]
          rw [s6, show (100 : Int32) = Int32.ofNat 100 from rfl, q_add, cO, if_pos hx]
        · simp only [pi_si, Nat.reduceEqDiff, if_true, if_false]
      by_cases c2 : sb (T f) < 48
      · rw [if_pos c2]; exact nx
      · rw [if_neg c2, if_pos (s4.2 (by have := mt s3.2 c2; omega))]; exact nx
    refine b_178_7 _ _ hl ?_
    rw [if_pos (by rw [q_lt (by omega) (by omega)]; exact hf), q_in (by omega) (by omega), q_nat (by omega), e, h15, q_nat (by omega), if_neg (fun z => h3 (s1.1 z)), q_a1]
    by_cases c1 : sb (T f) < 97
    · simp only [if_pos c1]
      by_cases c2 : sb (T f) < 48
      · simp only [if_pos c2]
        exact p_inN (by omega) (by omega) (p_inN (by omega) (by omega) fin)
      · have c3 : 57 < sb (T f) := s4.2 (by have := mt s3.2 c2; omega)
        simp only [if_neg c2, if_pos c3]
        exact p_inN (by omega) (by omega) (p_inN (by omega) (by omega) fin)
    · have c4 : 122 < sb (T f) := s5.2 (by have := mt s2.2 c1; omega)
      have c2 : ¬ sb (T f) < 48 := fun z => by have := s3.1 z; have := mt s2.2 c1; omega
      have c3 : 57 < sb (T f) := s4.2 (by have := mt s3.2 c2; omega)
      simp only [if_neg c1, if_pos c4, if_neg c2, if_pos c3]
      exact p_inN (by omega) (by omega) (p_inN (by omega) (by omega) fin)
/-- a space -/
theorem tok_space (hL : L ≤ 400) (hf : f < L) (hn : n ≤ f) (h3 : T f = 32) (hp : TKp L (f + 1) n N kk nu pl) (hc : TKc T L (f + 1) n N kk nu pl) (hm : TKm T L (f + 1) n N kk nu pl) : TKp L f n N kk nu pl ∧ TKc T L f n N kk nu pl ∧ TKm T L f n N kk nu pl := by
  refine ⟨⟨hp.1, by have := hp.2.1; omega, hp.2.2.1, fun z => by have := hp.2.2.2 z; omega⟩, ?_, ?_⟩
  · intro d h K hd hl hb hK
    have e : lm_i h 12 f = 32 := by rw [hb f hf, h3]; rfl
    refine b_26_5 _ _ _ hl ?_
    rw [if_pos (by rw [q_lt (by omega) (by omega)]; exact hf), q_in (by omega) (by omega), q_nat (by omega), q_nat (by omega), e, if_pos (by decide), q_in (by omega) (by omega), if_pos (by decide), if_pos rfl, q_a1]
    refine p_inN (by omega) (by omega) (p_inN (by omega) (by omega) (p_inN (by omega) (by omega) (p_inN (by omega) (by omega) ?_)))
    have f1 : fr [14, 15, 16] [] h (lm_si (lm_si h 14 n 32) 15 n (Int32.ofNat f)) := fr_si (fr_si (fr_refl _ _ _) (by decide) (by decide) _ _) (by decide) (by decide) _ _
    refine hc d _ K hd (fr_Lay f1 hl) (fun j hj => by rw [fr_i f1 (by decide) (by decide)]; exact hb j hj) (fun h2 f2 a1 a2 => hK h2 (fr_trans f1 f2) (fun p hp2 => ?_) a2)
    obtain ⟨b1, b2, b3⟩ := a1 p hp2
    rw [b1, b2, b3]
    simp only [pi_si, Nat.reduceEqDiff, if_true, if_false, show ¬ p = n by omega, and_self]
  · intro d h K hd hl hb hw h15 hK
    have e : lm_i h 98 f = 32 := by rw [hb f hf, h3]; rfl
    refine b_178_7 _ _ hl ?_
    rw [if_pos (by rw [q_lt (by omega) (by omega)]; exact hf), q_in (by omega) (by omega), q_nat (by omega), e, if_pos rfl, q_a1]
    exact hm d h K hd hl hb hw h15 hK
/-- the end -/
theorem tok_end (hL : L ≤ 400) (hn : n ≤ L) : TKp L L n n (fun _ => 256) (fun _ => 0) (fun _ => L) ∧ TKc T L L n n (fun _ => 256) (fun _ => 0) (fun _ => L) ∧ TKm T L L n n (fun _ => 256) (fun _ => 0) (fun _ => L) := by
  refine ⟨⟨Nat.le_refl _, by omega, fun p h1 h2 => ⟨by show 256 < 272; omega, ⟨fun _ => by omega, fun _ => rfl⟩, hL, by show 0 ≤ 1001; omega⟩, fun z => by rcases z with z | z <;> cases z⟩, ?_, ?_⟩
  · intro d h K hd hl hb hK
    refine b_26_5 _ _ _ hl ?_
    rw [if_neg (by rw [q_lt (by omega) (by omega)]; omega), q_in (by omega) (by omega), q_in (by omega) (by omega), q_nat (by omega)]
    refine hK _ (fr_si (fr_si (fr_refl _ _ _) (by decide) (by decide) _ _) (by decide) (by decide) _ _) (fun p hp => ?_) (fun p h1 h2 => ?_)
    · simp only [pi_si, Nat.reduceEqDiff, if_true, if_false, show ¬ p = n by omega, and_self]
    · have : p = n := by omega
      subst this
      refine ⟨?_, ?_, fun z => absurd z (by show ¬ 256 = 257; omega)⟩
      · simp only [pi_si, Nat.reduceEqDiff, if_true, if_false]; rfl
      · simp only [pi_si, if_true]
  · intro d h K hd hl hb hw h15 hK
    refine b_178_7 _ _ hl ?_
    rw [if_neg (by rw [q_lt (by omega) (by omega)]; omega), h15, q_in (by omega) (by omega), q_in (by omega) (by omega), q_in (by omega) (by omega), q_nat (by omega)]
    refine hK _ (fr_si (fr_si (fr_si (fr_refl _ _ _) (by decide) (by decide) _ _) (by decide) (by decide) _ _) (by decide) (by decide) _ _) h15 (fun p hp => ?_) (fun p h1 h2 => ?_)
    · simp only [pi_si, Nat.reduceEqDiff, if_true, if_false, show ¬ p = n by omega, and_self]
    · have : p = n := by omega
      subst this
      refine ⟨?_, ?_, fun z => absurd z (by show ¬ 256 = 257; omega)⟩
      · simp only [pi_si, Nat.reduceEqDiff, if_true, if_false]; rfl
      · simp only [pi_si, Nat.reduceEqDiff, if_true, if_false]
end TokT
