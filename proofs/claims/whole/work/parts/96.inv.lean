/-! What holds between two calls. -/
theorem tw_of {h h' : lm_H} {c : Nat} {r : Nat → Int32} (H : iv_tw h c r) (h0 : lm_i h' c = lm_i h c) (h1 : lm_i h' (c + 1) = lm_i h (c + 1)) (h2 : lm_i h' (c + 2) = lm_i h (c + 2)) (h3 : lm_i h' (c + 3) = lm_i h (c + 3)) (h4 : lm_i h' (c + 4) = lm_i h (c + 4)) (h5 : lm_i h' (c + 5) = lm_i h (c + 5)) (h6 : lm_i h' (c + 6) = lm_i h (c + 6)) : iv_tw h' c r := by
  unfold iv_tw at H ⊢
  rw [h0, h1, h2, h3, h4, h5, h6]
  exact H
/-- law cells stay -/
def OC (h h' : lm_H) : Prop := ∀ a x, 119 ≤ a → a < 1000000 → lm_sh h a = some x → lm_sh h' a = some x ∧ lm_i h' a = lm_i h a ∧ lm_r h' a = lm_r h a
theorem OC_fr {S T : List Nat} {h h' : lm_H} (a : fr S T h h') (hS : ∀ c, 119 ≤ c → S.contains c = false) : OC h h' := fun c x h1 h2 h3 => ⟨by rw [sh_fr a h2]; exact h3, fr_i a (hS c h1) (by omega), by rw [fr_r a]⟩
theorem LO_of {h h' : lm_H} {c c' t : Nat} {r r' : Nat → Int32} {ef : eF} (H : LO h c r t ef) (ho : OC h h') (hc : lm_r h' c' t = lm_r h c t) (hr : ∀ j, 87 ≤ j → r' j = r j) : LO h' c' r' t ef := by
  obtain ⟨p, q, l, N, co, kk, nu, pl, ⟨a1, a2, a3, a4, a5, a6, a7, a8, a9, a10, a11⟩, b1, b2, b3, b4, b5⟩ := H
  obtain ⟨p1, p2, p3⟩ := ho p _ a2 a3 a4
  obtain ⟨q1, q2, q3⟩ := ho q _ a6 a7 a8
  refine ⟨p, q, l, N, co, kk, nu, pl, ⟨by rw [hc]; exact a1, a2, a3, p1, by rw [p3]; exact a5, a6, a7, q1, a9, by rw [q2]; exact a10, a11⟩, b1, by rw [hr _ (by omega)]; exact b2, fun p hp => ?_, b4, b5⟩
  rw [hr _ (by omega), hr _ (by omega)]
  exact b3 p hp
/-- the laws told so far -/
def iL (h : lm_H) (c : Nat) (r : Nat → Int32) : Prop := (∀ t, t < 6 → Int32.ofNat t < r 85 → ∃ ef, LO h c r t ef) ∧ ∀ t, t < 6 → ∀ b, lm_r h c t = some b → 119 ≤ b ∧ b < 1000000 ∧ lm_sh h b = some (0, 2)
theorem iL_of {h h' : lm_H} {c c' : Nat} {r r' : Nat → Int32} (H : iL h c r) (ho : OC h h') (hc : ∀ t, t < 6 → lm_r h' c' t = lm_r h c t) (h85 : r' 85 = r 85) (hr : ∀ j, 87 ≤ j → r' j = r j) : iL h' c' r' := by
  refine ⟨fun t ht h1 => ?_, fun t ht b hb => ?_⟩
  · rw [h85] at h1
    obtain ⟨ef, e⟩ := H.1 t ht h1
    exact ⟨ef, LO_of e ho (hc t ht) hr⟩
  · rw [hc t ht] at hb
    obtain ⟨b1, b2, b3⟩ := H.2 t ht b hb
    exact ⟨b1, b2, (ho b _ b1 b2 b3).1⟩
/-- what was told and the dice of a street -/
def iv_d (r : Nat → Int32) : Prop := (∀ k : Nat, k < 5 → (k : Int) < (r 81).toInt → r (71 + k) < r 82) ∧ (∀ k g : Nat, k < 5 → g < 6 → (r 82).toInt ≤ g → r (41 + (6 * k + g)) = 0) ∧ ∀ k : Nat, k < 5 → (r (41 + (6 * k + 0))).toInt + (r (41 + (6 * k + 1))).toInt + (r (41 + (6 * k + 2))).toInt + (r (41 + (6 * k + 3))).toInt + (r (41 + (6 * k + 4))).toInt + (r (41 + (6 * k + 5))).toInt ≤ 10
def wf2 (r : Nat → Int32) : Prop := iv_wf r ∧ iv_d r
/-- image k, in cell c -/
def iI (h : lm_H) (k c : Nat) : Prop := lm_i h 10 k = lm_i h 96 k ∧ (lm_i h 96 k = 0 ∨ lm_i h 96 k = 1) ∧ (lm_i h 96 k = 1 → iv_tw h c (fun i => lm_i h 95 (4893 * k + i)) ∧ wf2 (fun i => lm_i h 95 (4893 * k + i)) ∧ iL h (c + 7) (fun i => lm_i h 95 (4893 * k + i)))
theorem iI_of {h h' : lm_H} {k c : Nat} (H : iI h k c) (ho : OC h h') (hc : ∀ t, lm_r h' (c + 7) t = lm_r h (c + 7) t) (h10 : lm_i h' 10 = lm_i h 10) (h96 : lm_i h' 96 = lm_i h 96) (h95 : lm_i h' 95 = lm_i h 95) (h0 : lm_i h' c = lm_i h c) (h1 : lm_i h' (c + 1) = lm_i h (c + 1)) (h2 : lm_i h' (c + 2) = lm_i h (c + 2)) (h3 : lm_i h' (c + 3) = lm_i h (c + 3)) (h4 : lm_i h' (c + 4) = lm_i h (c + 4)) (h5 : lm_i h' (c + 5) = lm_i h (c + 5)) (h6 : lm_i h' (c + 6) = lm_i h (c + 6)) : iI h' k c := by
  unfold iI at H ⊢
  rw [h10, h96, h95]
  refine ⟨H.1, H.2.1, fun z => ?_⟩
  obtain ⟨a1, a2, a3⟩ := H.2.2 z
  exact ⟨tw_of a1 h0 h1 h2 h3 h4 h5 h6, a2, iL_of a3 ho (fun t _ => hc t) rfl (fun _ _ => rfl)⟩
/-- the tape -/
def iT (h : lm_H) : Prop := (∃ n, n ≤ 400 ∧ lm_i h 92 10 = Int32.ofNat n) ∧ ∀ j, j < 400 → ∃ x, x < 256 ∧ lm_i h 12 j = Int32.ofNat x ∧ lm_i h 98 j = sb x
/-- gains of evenings, added -/
def gS (f : Nat → Int32) (j : Nat) : Nat → Int32
  | 0 => 0
  | i + 1 => gS f j i + f (5 * i + j)
/-- the latest year -/
def iY (h : lm_H) : Prop := ∃ N n : Nat, N ≤ 40 ∧ n ≤ 5 ∧ (N = 0 → n = 0) ∧ lm_i h 58 4 = Int32.ofNat N ∧ lm_i h 92 55 = Int32.ofNat N ∧ lm_i h 58 5 = Int32.ofNat n ∧ lm_i h 92 56 = Int32.ofNat n ∧ (∀ i, i < N → ∀ j, j < n → ∃ a c, a ≤ 6 ∧ c ≤ 6 ∧ lm_i h 64 (i * 5 + j) = Int32.ofNat a ∧ lm_i h 115 (5 * i + j) = nC a ∧ lm_i h 65 (i * 5 + j) = Int32.ofNat c ∧ lm_i h 116 (5 * i + j) = nC c) ∧ ∀ j, j < n → lm_i h 66 j = gS (lm_i h 117) j N
/-- what stays over a call that only asks -/
def INVs (h : lm_H) : Prop := (lm_Lay h ∧ iv_tw h 1 (lm_i h 94) ∧ wf2 (lm_i h 94) ∧ iv_ms h) ∧ (iI h 0 76 ∧ iI h 1 84) ∧ iT h ∧ (∀ j, j < 64 → lm_i h 97 j = wR.getD j 0) ∧ iL h 8 (lm_i h 94) ∧ iY h ∧ ∀ j, j < 30 → lm_i h 74 j = 0
/-- cells and slots that a call which only asks may change -/
abbrev SC : List Nat := [13, 14, 15, 16, 17, 18, 19, 20, 21, 22, 23, 24, 25, 26, 27, 28, 29, 30, 31, 32, 33, 34, 35, 36, 37, 38, 39, 40, 41, 42, 43, 44, 45, 46, 47, 48, 49, 50, 51, 52, 53, 54, 55, 56, 57, 59, 60, 61, 62, 63, 67, 68, 69, 70, 71, 72, 73, 99, 100, 101, 102, 103, 104, 105, 106, 107, 108, 109, 110, 111, 112, 113, 114, 118]
abbrev SL : List Nat := [15, 16, 17, 18, 19, 20, 21, 23, 24, 28, 30, 31, 32, 33, 34, 35, 36, 37, 39, 41, 42, 48, 49, 50, 57]
theorem SC_hi : ∀ c, 119 ≤ c → SC.contains c = false := by
  intro c hc
  have : ¬ c ∈ SC := by
    intro hm
    have := List.all_eq_true.1 (show SC.all (fun x => decide (x < 119)) = true by decide) c hm
    simp at this
    omega
  simpa using this
theorem INVs_fr {h h' : lm_H} (H : INVs h) (a : fr SC SL h h') : INVs h' := by
  obtain ⟨⟨a1, a2, a3, a4⟩, ⟨b0, b1⟩, c1, c2, c3, c4, c5⟩ := H
  have oc := OC_fr a SC_hi
  have fi : ∀ c, SC.contains c = false → ¬ c = 92 → lm_i h' c = lm_i h c := fun c h1 h2 => fr_i a h1 h2
  have e94 := fi 94 (by decide) (by decide)
  refine ⟨⟨fr_Lay a a1, ?_, by rw [e94]; exact a3, ?_⟩, ⟨?_, ?_⟩, ?_, ?_, ?_, ?_, ?_⟩
  · rw [e94]
    exact tw_of a2 (fi 1 (by decide) (by decide)) (fi 2 (by decide) (by decide)) (fi 3 (by decide) (by decide)) (fi 4 (by decide) (by decide)) (fi 5 (by decide) (by decide)) (fi 6 (by decide) (by decide)) (fi 7 (by decide) (by decide))
  · unfold iv_ms at a4 ⊢
    rw [fi 0 (by decide) (by decide), fi 11 (by decide) (by decide), fi 75 (by decide) (by decide), fi 93 (by decide) (by decide), fr_m a (s := 0) (by decide), fr_m a (s := 11) (by decide), fr_m a (s := 6) (by decide), fr_m a (s := 10) (by decide)]
    exact a4
  · exact iI_of b0 oc (fun t => by rw [fr_r a]) (fi 10 (by decide) (by decide)) (fi 96 (by decide) (by decide)) (fi 95 (by decide) (by decide)) (fi 76 (by decide) (by decide)) (fi 77 (by decide) (by decide)) (fi 78 (by decide) (by decide)) (fi 79 (by decide) (by decide)) (fi 80 (by decide) (by decide)) (fi 81 (by decide) (by decide)) (fi 82 (by decide) (by decide))
  · exact iI_of b1 oc (fun t => by rw [fr_r a]) (fi 10 (by decide) (by decide)) (fi 96 (by decide) (by decide)) (fi 95 (by decide) (by decide)) (fi 84 (by decide) (by decide)) (fi 85 (by decide) (by decide)) (fi 86 (by decide) (by decide)) (fi 87 (by decide) (by decide)) (fi 88 (by decide) (by decide)) (fi 89 (by decide) (by decide)) (fi 90 (by decide) (by decide))
  · unfold iT at c1 ⊢
    rw [fi 12 (by decide) (by decide), fi 98 (by decide) (by decide), fr_m a (s := 10) (by decide)]
    exact c1
  · rw [fi 97 (by decide) (by decide)]
    exact c2
  · exact iL_of c3 oc (fun t _ => by rw [fr_r a]) (by rw [e94]) (fun j _ => by rw [e94])
  · unfold iY at c4 ⊢
    rw [fi 58 (by decide) (by decide), fi 64 (by decide) (by decide), fi 65 (by decide) (by decide), fi 66 (by decide) (by decide), fi 115 (by decide) (by decide), fi 116 (by decide) (by decide), fi 117 (by decide) (by decide), fr_m a (s := 55) (by decide), fr_m a (s := 56) (by decide)]
    exact c4
  · rw [fi 74 (by decide) (by decide)]
    exact c5
/-- the table that belongs to the town -/
def isW (h : lm_H) (n m : Nat) (W B : Nat → Int32) : Prop := (lm_i h 94 86 = -1 → ∀ k, k < n → ∀ g, g < m → W (6 * k + g) = lm_i h 94 (11 + 6 * k + g) ∧ B (6 * k + g) = 0) ∧
  (∀ t, t < 6 → lm_i h 94 86 = Int32.ofNat t → ∃ ef, LO h 8 (lm_i h 94) t ef ∧ ∀ k, k < n → ∀ g, g < m → W (6 * k + g) = (ef (wd7 k g (lm_i h 94 (11 + 6 * k + g)) (lm_i h 94 (5 + g)) (lm_i h 94 k) 0 0) (lm_i h 94 (11 + 6 * k + g), 0)).1 ∧ B (6 * k + g) = (ef (wd7 k g (lm_i h 94 (11 + 6 * k + g)) (lm_i h 94 (5 + g)) (lm_i h 94 k) 0 0) (lm_i h 94 (11 + 6 * k + g), 0)).2) ∧
  W = nrm n m W ∧ B = nrm n m B
theorem isW_of {h h' : lm_H} {n m : Nat} {W B : Nat → Int32} (H : isW h n m W B) (ho : OC h h') (hc : lm_r h' 8 = lm_r h 8) (e94 : lm_i h' 94 = lm_i h 94) : isW h' n m W B := by
  unfold isW at H ⊢
  rw [e94]
  refine ⟨H.1, fun t ht h1 => ?_, H.2.2⟩
  obtain ⟨ef, e1, e2⟩ := H.2.1 t ht h1
  exact ⟨ef, LO_of e1 ho (by rw [hc]) (fun _ _ => rfl), e2⟩
