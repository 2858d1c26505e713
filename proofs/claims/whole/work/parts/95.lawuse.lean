/-! Laws in use: hear (15), asksOf (206), the tables of both sides (62, 207). -/
/-- law t of the row c of laws, with its tokens in r, does ef -/
def LO (h : lm_H) (c : Nat) (r : Nat → Int32) (t : Nat) (ef : eF) : Prop := ∃ (p q l N : Nat) (co : cD) (kk nu pl : Nat → Nat), (lm_r h c t = some p ∧ 119 ≤ p ∧ p < 1000000 ∧ lm_sh h p = some (0, 2) ∧ lm_r h p 0 = some q ∧ 119 ≤ q ∧ q < 1000000 ∧ lm_sh h q = some (1, l) ∧ l ≤ 401 ∧ (∀ j, j < l → lm_i h q j = co 0 j) ∧ JC l co ef) ∧ tks kk nu pl N ∧ r (87 + t) = Int32.ofNat N ∧ (∀ p, p < N → r (93 + (400 * t + p)) = Int32.ofNat (cO (kk p)) ∧ (kk p = 257 → nu p ≤ 1000 → r (2493 + (400 * t + p)) = Int32.ofNat (nu p))) ∧ ET kk nu N 0 ef ∧ eR ef
/-- what a judge needs of the class's side -/
def LJ (h : lm_H) (p : Nat) (ef : eF) : Prop := ∃ (q l : Nat) (co : cD), lm_sh h p = some (0, 2) ∧ lm_r h p 0 = some q ∧ 119 ≤ q ∧ q < 1000000 ∧ lm_sh h q = some (1, l) ∧ l ≤ 401 ∧ (∀ j, j < l → lm_i h q j = co 0 j) ∧ JC l co ef
theorem LJ_fr {S T : List Nat} {h h' : lm_H} {p : Nat} {ef : eF} (H : LJ h p ef) (a : fr S T h h') (hS : ∀ c, 119 ≤ c → S.contains c = false) (hp : p < 1000000) : LJ h' p ef := by
  obtain ⟨q, l, co, h1, h2, h3, h4, h5, h6, h7, h8⟩ := H
  refine ⟨q, l, co, by rw [sh_fr a hp]; exact h1, by rw [fr_r a]; exact h2, h3, h4, by rw [sh_fr a h4]; exact h5, h6, ?_, h8⟩
  rw [fr_i a (hS q h3) (by omega)]
  exact h7
/-- seven words -/
def w7 (a0 a1 a2 a3 a4 a5 a6 : Int32) (j : Nat) : Int32 := if j = 0 then a0 else if j = 1 then a1 else if j = 2 then a2 else if j = 3 then a3 else if j = 4 then a4 else if j = 5 then a5 else a6
abbrev w7h (h : lm_H) : Nat → Int32 := w7 (lm_i h 19 0) (lm_i h 19 1) (lm_i h 19 2) (lm_i h 19 3) (lm_i h 19 4) (lm_i h 19 5) (lm_i h 19 6)
theorem w7_at (h : lm_H) {j : Nat} (hj : j < 7) : lm_i h 19 j = w7h h j := by
  have h7 : j = 0 ∨ j = 1 ∨ j = 2 ∨ j = 3 ∨ j = 4 ∨ j = 5 ∨ j = 6 := by omega
  unfold w7h w7
  rcases h7 with rfl | rfl | rfl | rfl | rfl | rfl | rfl <;> simp only [Nat.reduceEqDiff, if_true, if_false]
theorem cl_15 {D p : Nat} {h : lm_H} {K : lm_H → Prop} {ef : eF} (hD : 4 ≤ D) (hl : lm_Lay h) (H : LJ h p ef) (hK : ∀ h', fr [18, 20] [] h h' → lm_i h' 18 4 = (ef (w7h h) (lm_i h 19 2, 0)).1 → lm_i h' 18 5 = (ef (w7h h) (lm_i h 19 2, 0)).2 → K h') : lm_call D 15 [.ref 18, .ref p] h (lm_kV K) := by
  obtain ⟨d, rfl⟩ := q_dp hD
  obtain ⟨q, l, co, h1, h2, h3, h4, h5, h6, h7, h8⟩ := H
  refine e_15 p hl ⟨h1, q, h2, ?_⟩
  have f0 : fr [18, 20] [] h (lm_si (lm_si h 18 4 (lm_i h 19 2)) 18 5 0) := fr_si (fr_si (fr_refl _ _ _) (by decide) (by decide) _ _) (by decide) (by decide) _ _
  have i4 : lm_i (lm_si (lm_si h 18 4 (lm_i h 19 2)) 18 5 0) 18 4 = lm_i h 19 2 := by simp only [pi_si, Nat.reduceEqDiff, if_true, if_false]
  have i5 : lm_i (lm_si (lm_si h 18 4 (lm_i h 19 2)) 18 5 0) 18 5 = 0 := by simp only [pi_si, if_true]
  have nq : [18, 20].contains q = false := by
    have a1 : ¬ q = 18 := by omega
    have a2 : ¬ q = 20 := by omega
    simp [a1, a2]
  have J0 : jh (lm_si (lm_si h 18 4 (lm_i h 19 2)) 18 5 0) q l (w7h h) := ⟨fr_Lay f0 hl, by rw [sh_fr f0 h4]; exact h5, h6, h3, h4, fun j hj => by rw [fr_i f0 (by decide) (by decide)]; exact w7_at h hj⟩
  refine h8 (d + 3) q 0 0 0 l _ K (w7h h) (by omega) J0 (by omega) (by omega) (fun j hj => ?_) (fun h' x' E' j1 hx' => ?_)
  · rw [Nat.zero_add, fr_i f0 nq (by omega)]
    exact h7 j hj
  · rw [i4, i5] at j1
    have J1 := jh_fr J0 j1.1
    have fin := hK h' (fr_trans f0 j1.1) j1.2.1 j1.2.2
    refine b_15_28 _ _ _ _ J1.1 ?_
    refine ⟨l, J1.2.1, ?_⟩
    by_cases c : x' < l
    · rw [if_pos (by rw [q_lt (by omega) (by omega)]; exact c), if_neg (by rw [q_lt0 (by omega)]; exact id)]
      refine ⟨l, J1.2.1, ?_⟩
      rw [if_neg (by rw [q_lt (by omega) (by omega)]; omega)]
      exact fin
    · rw [if_neg (by rw [q_lt (by omega) (by omega)]; exact c)]
      exact fin
/-- the words of a host and a guest -/
def wd7 (k g : Nat) (b wi sr me ev : Int32) (j : Nat) : Int32 := if j = 0 then Int32.ofNat k else if j = 1 then Int32.ofNat g else if j = 2 then b else if j = 3 then wi else if j = 4 then sr else if j = 5 then me else ev
/-- an effect heeds the first seven words alone -/
theorem cl_206 {D t k g : Nat} {h : lm_H} {K : lm_H → Prop} {ef : eF} {kk nu pl : Nat → Nat} {N : Nat} {me ev : Int32} (hD : 158 ≤ D) (hl : lm_Lay h) (ht : t < 6) (hk : k < 5) (hg : g < 6) (h86 : lm_i h 94 86 = Int32.ofNat t) (hs : tks kk nu pl N) (h87 : lm_i h 94 (87 + t) = Int32.ofNat N) (htk : ∀ p, p < N → lm_i h 94 (93 + (400 * t + p)) = Int32.ofNat (cO (kk p)) ∧ (kk p = 257 → nu p ≤ 1000 → lm_i h 94 (2493 + (400 * t + p)) = Int32.ofNat (nu p))) (he : ET kk nu N 0 ef) (hb : -99 ≤ lm_i h 94 (11 + 6 * k + g) ∧ lm_i h 94 (11 + 6 * k + g) ≤ 99)
    (hK : ∀ h', fr [103] [19, 20, 21, 23, 24] h h' → lm_i h' 92 23 = (ef (wd7 k g (lm_i h 94 (11 + 6 * k + g)) (lm_i h 94 (5 + g)) (lm_i h 94 k) me ev) (lm_i h 94 (11 + 6 * k + g), 0)).1 → lm_i h' 92 24 = (ef (wd7 k g (lm_i h 94 (11 + 6 * k + g)) (lm_i h 94 (5 + g)) (lm_i h 94 k) me ev) (lm_i h 94 (11 + 6 * k + g), 0)).2 → K h') : lm_call D 206 [.ref 92, .int (Int32.ofNat k), .int (Int32.ofNat g), .int me, .int ev] h (lm_kV K) := by
  obtain ⟨d, rfl⟩ := q_dp hD
  have hN := hs.1
  refine e_206 _ _ _ _ hl ?_
  rw [q_6m, q_11, q_add, q_in (by omega) (by omega), q_nat (by omega), h86, if_neg (ne_m1 (by omega)), show (5 : Int32) = Int32.ofNat 5 from rfl, q_add, show (0 : Int32) + Int32.ofNat k = Int32.ofNat k from by rw [Int32.zero_add], q_87, q_in (by omega) (by omega), q_in (by omega) (by omega), q_in (by omega) (by omega), q_nat (by omega), q_nat (by omega), q_nat (by omega), h87, show (400 : Int32) = Int32.ofNat 400 from rfl, q_mul, q_add]
  have f0 : fr [103] [19, 20, 21, 23, 24] h (lm_si (lm_si (lm_si (lm_si (lm_si (lm_si (lm_si (lm_si (lm_si (lm_si (lm_si h 92 23 (lm_i h 94 (11 + 6 * k + g))) 92 24 0) 103 0 (Int32.ofNat k)) 103 1 (Int32.ofNat g)) 103 2 (lm_i h 94 (11 + 6 * k + g))) 103 3 (lm_i h 94 (5 + g))) 103 4 (lm_i h 94 k)) 103 5 me) 103 6 ev) 92 19 (Int32.ofNat (400 * t))) 92 20 (Int32.ofNat (400 * t + N))) :=
    fr_s92 (fr_s92 (fr_si (fr_si (fr_si (fr_si (fr_si (fr_si (fr_si (fr_s92 (fr_s92 (fr_refl _ _ _) (by decide) _) (by decide) _) (by decide) (by decide) _ _) (by decide) (by decide) _ _) (by decide) (by decide) _ _) (by decide) (by decide) _ _) (by decide) (by decide) _ _) (by decide) (by decide) _ _) (by decide) (by decide) _ _) (by decide) _) (by decide) _
  have g19 : lm_i (lm_si (lm_si (lm_si (lm_si (lm_si (lm_si (lm_si (lm_si (lm_si (lm_si (lm_si h 92 23 (lm_i h 94 (11 + 6 * k + g))) 92 24 0) 103 0 (Int32.ofNat k)) 103 1 (Int32.ofNat g)) 103 2 (lm_i h 94 (11 + 6 * k + g))) 103 3 (lm_i h 94 (5 + g))) 103 4 (lm_i h 94 k)) 103 5 me) 103 6 ev) 92 19 (Int32.ofNat (400 * t))) 92 20 (Int32.ofNat (400 * t + N))) 92 19 = Int32.ofNat (400 * t) := by simp only [pi_si, Nat.reduceEqDiff, if_true, if_false]
  have g20 : lm_i (lm_si (lm_si (lm_si (lm_si (lm_si (lm_si (lm_si (lm_si (lm_si (lm_si (lm_si h 92 23 (lm_i h 94 (11 + 6 * k + g))) 92 24 0) 103 0 (Int32.ofNat k)) 103 1 (Int32.ofNat g)) 103 2 (lm_i h 94 (11 + 6 * k + g))) 103 3 (lm_i h 94 (5 + g))) 103 4 (lm_i h 94 k)) 103 5 me) 103 6 ev) 92 19 (Int32.ofNat (400 * t))) 92 20 (Int32.ofNat (400 * t + N))) 92 20 = Int32.ofNat (400 * t + N) := by simp only [pi_si, if_true]
  have g23 : lm_i (lm_si (lm_si (lm_si (lm_si (lm_si (lm_si (lm_si (lm_si (lm_si (lm_si (lm_si h 92 23 (lm_i h 94 (11 + 6 * k + g))) 92 24 0) 103 0 (Int32.ofNat k)) 103 1 (Int32.ofNat g)) 103 2 (lm_i h 94 (11 + 6 * k + g))) 103 3 (lm_i h 94 (5 + g))) 103 4 (lm_i h 94 k)) 103 5 me) 103 6 ev) 92 19 (Int32.ofNat (400 * t))) 92 20 (Int32.ofNat (400 * t + N))) 92 23 = lm_i h 94 (11 + 6 * k + g) := by simp only [pi_si, Nat.reduceEqDiff, if_true, if_false]
  have g24 : lm_i (lm_si (lm_si (lm_si (lm_si (lm_si (lm_si (lm_si (lm_si (lm_si (lm_si (lm_si h 92 23 (lm_i h 94 (11 + 6 * k + g))) 92 24 0) 103 0 (Int32.ofNat k)) 103 1 (Int32.ofNat g)) 103 2 (lm_i h 94 (11 + 6 * k + g))) 103 3 (lm_i h 94 (5 + g))) 103 4 (lm_i h 94 k)) 103 5 me) 103 6 ev) 92 19 (Int32.ofNat (400 * t))) 92 20 (Int32.ofNat (400 * t + N))) 92 24 = 0 := by simp only [pi_si, Nat.reduceEqDiff, if_true, if_false]
  have g103 : ∀ j, j < 7 → lm_i (lm_si (lm_si (lm_si (lm_si (lm_si (lm_si (lm_si (lm_si (lm_si (lm_si (lm_si h 92 23 (lm_i h 94 (11 + 6 * k + g))) 92 24 0) 103 0 (Int32.ofNat k)) 103 1 (Int32.ofNat g)) 103 2 (lm_i h 94 (11 + 6 * k + g))) 103 3 (lm_i h 94 (5 + g))) 103 4 (lm_i h 94 k)) 103 5 me) 103 6 ev) 92 19 (Int32.ofNat (400 * t))) 92 20 (Int32.ofNat (400 * t + N))) 103 j = wd7 k g (lm_i h 94 (11 + 6 * k + g)) (lm_i h 94 (5 + g)) (lm_i h 94 k) me ev j := by
    intro j hj
    have h7 : j = 0 ∨ j = 1 ∨ j = 2 ∨ j = 3 ∨ j = 4 ∨ j = 5 ∨ j = 6 := by omega
    unfold wd7
    rcases h7 with rfl | rfl | rfl | rfl | rfl | rfl | rfl <;> simp only [pi_si, Nat.reduceEqDiff, if_true, if_false]
  generalize (lm_si (lm_si (lm_si (lm_si (lm_si (lm_si (lm_si (lm_si (lm_si (lm_si (lm_si h 92 23 (lm_i h 94 (11 + 6 * k + g))) 92 24 0) 103 0 (Int32.ofNat k)) 103 1 (Int32.ofNat g)) 103 2 (lm_i h 94 (11 + 6 * k + g))) 103 3 (lm_i h 94 (5 + g))) 103 4 (lm_i h 94 k)) 103 5 me) 103 6 ev) 92 19 (Int32.ofNat (400 * t))) 92 20 (Int32.ofNat (400 * t + N))) = h0 at f0 g19 g20 g23 g24 g103
  have z94 := fr_i f0 (c := 94) (by decide) (by decide)
  refine he (d + 157) h0 K t _ (by omega) ⟨fr_Lay f0 hl, ht, g20, fun p hp => by rw [z94]; exact htk p hp, g103⟩ (by rw [g19]; rfl) ⟨by rw [g23]; exact hb, Or.inl g24⟩ (fun h' f1 a1 a2 => ?_)
  rw [g23, g24] at a1 a2
  exact hK h' (fr_trans f0 (fr_sub f1 (by decide) (by decide))) a1 a2
