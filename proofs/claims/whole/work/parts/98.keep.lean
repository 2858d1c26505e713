/-! What holds between two calls, and how a call keeps it. -/
section Xl98keep
variable {xl : (Nat → Int32) × Nat}
/-- room -/
def RM (xl : (Nat → Int32) × Nat) (nc : Nat) (h : lm_H) : Prop := (h.1.length ≤ 119 + 2 * nc ∧ lm_sz h ≤ (lm_S.map lm_size).sum + 410 * nc) ∧ lm_i h 1000000 = xl.1 ∧ lm_r h 1000000 0 = some xl.2
/-- shapes and the script stay -/
def scr (h h' : lm_H) : Prop := h'.1 = h.1 ∧ lm_i h' 1000000 = lm_i h 1000000 ∧ lm_r h' 1000000 = lm_r h 1000000
theorem scr_rf (h : lm_H) : scr h h := ⟨rfl, rfl, rfl⟩
theorem scr_fr {S T : List Nat} {h h' : lm_H} (a : fr S T h h') (hS : S.contains 1000000 = false) : scr h h' := ⟨a.1, fr_i a hS (by decide), by rw [fr_r a]⟩
theorem scr_tr {h h1 h2 : lm_H} (a : scr h h1) (b : scr h1 h2) : scr h h2 := ⟨by rw [b.1, a.1], by rw [b.2.1, a.2.1], by rw [b.2.2, a.2.2]⟩
theorem RM_of {nc : Nat} {h h' : lm_H} (H : RM xl nc h) (e : scr h h') : RM xl (nc + 1) h' := by
  have h1 := H.1.1
  have h2 := H.1.2
  have h3 := H.2
  unfold RM lm_sz at *
  rw [e.1, e.2.1, e.2.2]
  exact ⟨⟨by omega, by omega⟩, h3⟩
def INV (xl : (Nat → Int32) × Nat) (nc : Nat) (h : lm_H) : Prop := RM xl nc h ∧ sI h ∧ ∃ v n m cu lo W B, v ≤ nc ∧ IB v n m cu lo W B h
theorem INV_s {nc : Nat} {h : lm_H} (H : INV xl nc h) : INVs h := by
  obtain ⟨_, _, v, n, m, cu, lo, W, B, _, I⟩ := H
  exact I.1
theorem INV_mono {nc : Nat} {h : lm_H} (H : INV xl nc h) : INV xl (nc + 1) h := by
  obtain ⟨h1, h2, v, n, m, cu, lo, W, B, h3, I⟩ := H
  exact ⟨RM_of h1 (scr_rf _), h2, v, n, m, cu, lo, W, B, by omega, I⟩
/-- after a call that only asked -/
theorem INV_end {nc v n m : Nat} {S T : List Nat} {cu lo : Int32} {W B : Nat → Int32} {h h1 h' : lm_H} (R : RM xl nc h) (hv : v ≤ nc) (e : scr h h1) (s : sI h1) (a : fr S T h1 h') (hS : ((List.range 16).all (fun c => !S.contains (31 + c)) && !S.contains 1000000) = true) (I : IB v n m cu lo W B h') : INV xl (nc + 1) h' := by
  rw [Bool.and_eq_true] at hS
  refine ⟨RM_of R (scr_tr e (scr_fr a (by simpa using hS.2))), sI_of s I.1.1.1 (fun c c1 c2 => ?_) (fr_l a (by have := List.all_eq_true.1 hS.1 14 (by decide); simpa using this) (by decide)), v, n, m, cu, lo, W, B, by omega, I⟩
  have := List.all_eq_true.1 hS.1 (c - 31) (by rw [List.mem_range]; omega)
  rw [show 31 + (c - 31) = c from by omega] at this
  exact fr_i a (by simpa using this) (by omega)
theorem tb_of {h h' : lm_H} {n m : Nat} {cu lo : Int32} {W B : Nat → Int32} (H : tb h n m cu lo W B) (ho : OC h h') (hr : lm_r h' 8 = lm_r h 8) (e94 : lm_i h' 94 = lm_i h 94) : tb h' n m cu lo W B := by
  obtain ⟨h1, h2, h3, h4, h5, h6, h7, h8⟩ := H
  exact ⟨h1, h2, by rw [e94]; exact h3, by rw [e94]; exact h4, by rw [e94]; exact h5, by rw [e94]; exact h6, isW_of h7 ho hr e94, h8⟩
/-- the town is left alone -/
abbrev SK : List Nat := [0, 11, 12, 75, 93, 98, 99]
abbrev TK : List Nat := [0, 6, 10, 11]
theorem hi_of {S : List Nat} (h : S.all (fun x => decide (x < 119)) = true) : ∀ c, 119 ≤ c → S.contains c = false := by
  intro c hc
  have : ¬ c ∈ S := by
    intro hm
    have := List.all_eq_true.1 h c hm
    simp at this
    omega
  simpa using this
theorem INVs_sm {h h' : lm_H} (H : INVs h) (a : fr SK TK h h') (ms : iv_ms h') (tp : iT h') : INVs h' := by
  obtain ⟨⟨a1, a2, a3, a4⟩, ⟨b0, b1⟩, c1, c2, c3, c4, c5⟩ := H
  have oc := OC_fr a (hi_of (by decide))
  have fi : ∀ c, SK.contains c = false → ¬ c = 92 → lm_i h' c = lm_i h c := fun c h1 h2 => fr_i a h1 h2
  have e94 := fi 94 (by decide) (by decide)
  refine ⟨⟨fr_Lay a a1, ?_, by rw [e94]; exact a3, ms⟩, ⟨?_, ?_⟩, tp, ?_, ?_, ?_, ?_⟩
  · rw [e94]
    exact tw_of a2 (fi 1 (by decide) (by decide)) (fi 2 (by decide) (by decide)) (fi 3 (by decide) (by decide)) (fi 4 (by decide) (by decide)) (fi 5 (by decide) (by decide)) (fi 6 (by decide) (by decide)) (fi 7 (by decide) (by decide))
  · exact iI_of b0 oc (fun t => by rw [fr_r a]) (fi 10 (by decide) (by decide)) (fi 96 (by decide) (by decide)) (fi 95 (by decide) (by decide)) (fi 76 (by decide) (by decide)) (fi 77 (by decide) (by decide)) (fi 78 (by decide) (by decide)) (fi 79 (by decide) (by decide)) (fi 80 (by decide) (by decide)) (fi 81 (by decide) (by decide)) (fi 82 (by decide) (by decide))
  · exact iI_of b1 oc (fun t => by rw [fr_r a]) (fi 10 (by decide) (by decide)) (fi 96 (by decide) (by decide)) (fi 95 (by decide) (by decide)) (fi 84 (by decide) (by decide)) (fi 85 (by decide) (by decide)) (fi 86 (by decide) (by decide)) (fi 87 (by decide) (by decide)) (fi 88 (by decide) (by decide)) (fi 89 (by decide) (by decide)) (fi 90 (by decide) (by decide))
  · rw [fi 97 (by decide) (by decide)]
    exact c2
  · exact iL_of c3 oc (fun t _ => by rw [fr_r a]) (by rw [e94]) (fun j _ => by rw [e94])
  · unfold iY at c4 ⊢
    rw [fi 58 (by decide) (by decide), fi 64 (by decide) (by decide), fi 65 (by decide) (by decide), fi 66 (by decide) (by decide), fi 115 (by decide) (by decide), fi 116 (by decide) (by decide), fi 117 (by decide) (by decide), fr_m a (s := 55) (by decide), fr_m a (s := 56) (by decide)]
    exact c4
  · rw [fi 74 (by decide) (by decide)]
    exact c5
theorem sI_fr {S T : List Nat} {h h' : lm_H} (s : sI h) (a : fr S T h h') (hl : lm_Lay h') (hS : (List.range 16).all (fun c => !S.contains (31 + c)) = true) : sI h' := by
  refine sI_of s hl (fun c c1 c2 => ?_) (fr_l a (by have := List.all_eq_true.1 hS 14 (by decide); simpa using this) (by decide))
  have := List.all_eq_true.1 hS (c - 31) (by rw [List.mem_range]; omega)
  rw [show 31 + (c - 31) = c from by omega] at this
  exact fr_i a (by simpa using this) (by omega)
theorem INV_sm {nc : Nat} {h h' : lm_H} (H : INV xl nc h) (a : fr SK TK h h') (ms : iv_ms h') (tp : iT h') : INV xl (nc + 1) h' := by
  obtain ⟨h1, h2, v, n, m, cu, lo, W, B, h3, i1, i2, i3, i4, i5, i6⟩ := H
  have I := INVs_sm i1 a ms tp
  refine ⟨RM_of h1 (scr_fr a (by decide)), sI_fr h2 a I.1.1 (by decide), v, n, m, cu, lo, W, B, by omega, I, tb_of i2 (OC_fr a (hi_of (by decide))) (by rw [fr_r a]) (fr_i a (by decide) (by decide)), CV_fr i3 a (by decide), fun q => ?_, fun q => ?_, fun q => ?_⟩
  · rw [fr_m a (by decide), fr_m a (by decide)] at q
    exact rt_fr a (i4 q) (by decide)
  · rw [fr_m a (by decide), fr_m a (by decide)] at q
    exact svm_fr (i5 q) a (by decide) (by decide)
  · rw [fr_m a (by decide), fr_m a (by decide)] at q
    exact alm_fr (i6 q) a (by decide) (by decide)
theorem iT_fr {S T : List Nat} {h h' : lm_H} (H : iT h) (a : fr S T h h') (hS : S.contains 12 = false ∧ S.contains 98 = false) (hT : T.contains 10 = false) : iT h' := by
  unfold iT at H ⊢
  rw [fr_i a hS.1 (by decide), fr_i a hS.2 (by decide), fr_m a hT]
  exact H
/-- refused on both sides -/
theorem rfz {nc i j : Nat} {h : lm_H} (H : INV xl nc h) (c : Int32) (hij : (i = 0 ∧ j = 1) ∨ (i = 1 ∧ j = 2) ∨ (i = 2 ∧ j = 3) ∨ (i = 3 ∧ j = 5) ∨ (i = 4 ∧ j = 6)) : INV xl (nc + 1) (lm_si (lm_si (lm_si (lm_si h 0 15 c) 75 i ((lm_i h 75 i) + 1)) 92 0 c) 93 j ((lm_i h 93 j) + 1)) := by
  have hs := INV_s H
  have a : fr [0, 75, 93] [0] h (lm_si (lm_si (lm_si (lm_si h 0 15 c) 75 i ((lm_i h 75 i) + 1)) 92 0 c) 93 j ((lm_i h 93 j) + 1)) := fr_si (fr_s92 (fr_si (fr_si (fr_refl _ _ _) (by decide) (by decide) _ _) (by decide) (by decide) _ _) (by decide) _) (by decide) (by decide) _ _
  refine INV_sm H (fr_sub a (by decide) (by decide)) ?_ (iT_fr hs.2.2.1 a (by decide) (by decide))
  obtain ⟨⟨m1, m2, m3, m4⟩, m5, m6, m7, m8, m9⟩ := hs.1.2.2.2
  unfold iv_ms
  rcases hij with ⟨rfl, rfl⟩ | ⟨rfl, rfl⟩ | ⟨rfl, rfl⟩ | ⟨rfl, rfl⟩ | ⟨rfl, rfl⟩ <;> simp only [pi_si, Nat.reduceEqDiff, if_true, if_false, m2, m3, m4, m5, m6, m7, m8, m9, and_self]
/-- the town is changed on both sides -/
abbrev SG : List Nat := [0, 1, 2, 3, 4, 5, 6, 7, 11, 75, 93, 94]
abbrev TG : List Nat := [0, 1, 6, 10]
theorem INV_gr {nc : Nat} {h h' : lm_H} (H : INV xl nc h) (hn : nc ≤ 10000) (a : fr SG TG h h') (tw : iv_tw h' 1 (lm_i h' 94)) (wf : wf2 (lm_i h' 94)) (ms : iv_ms h') (tp : iT h') (h85 : lm_i h' 94 85 = lm_i h 94 85) (h87 : ∀ j, 87 ≤ j → lm_i h' 94 j = lm_i h 94 j) (hv : lm_i h' 92 1 = lm_i h 92 1 + 1) : INV xl (nc + 1) h' := by
  obtain ⟨h1, h2, v, n, m, cu, lo, W, B, h3, i1, i2, i3, i4⟩ := H
  have oc := OC_fr a (hi_of (by decide))
  have fi : ∀ c, SG.contains c = false → ¬ c = 92 → lm_i h' c = lm_i h c := fun c h1 h2 => fr_i a h1 h2
  have I : INVs h' := by
    obtain ⟨⟨a1, a2, a3, a4⟩, ⟨b0, b1⟩, c1, c2, c3, c4, c5⟩ := i1
    refine ⟨⟨fr_Lay a a1, tw, wf, ms⟩, ⟨?_, ?_⟩, tp, ?_, ?_, ?_, ?_⟩
    · exact iI_of b0 oc (fun t => by rw [fr_r a]) (fi 10 (by decide) (by decide)) (fi 96 (by decide) (by decide)) (fi 95 (by decide) (by decide)) (fi 76 (by decide) (by decide)) (fi 77 (by decide) (by decide)) (fi 78 (by decide) (by decide)) (fi 79 (by decide) (by decide)) (fi 80 (by decide) (by decide)) (fi 81 (by decide) (by decide)) (fi 82 (by decide) (by decide))
    · exact iI_of b1 oc (fun t => by rw [fr_r a]) (fi 10 (by decide) (by decide)) (fi 96 (by decide) (by decide)) (fi 95 (by decide) (by decide)) (fi 84 (by decide) (by decide)) (fi 85 (by decide) (by decide)) (fi 86 (by decide) (by decide)) (fi 87 (by decide) (by decide)) (fi 88 (by decide) (by decide)) (fi 89 (by decide) (by decide)) (fi 90 (by decide) (by decide))
    · rw [fi 97 (by decide) (by decide)]
      exact c2
    · exact iL_of c3 oc (fun t _ => by rw [fr_r a]) h85 h87
    · unfold iY at c4 ⊢
      rw [fi 58 (by decide) (by decide), fi 64 (by decide) (by decide), fi 65 (by decide) (by decide), fi 66 (by decide) (by decide), fi 115 (by decide) (by decide), fi 116 (by decide) (by decide), fi 117 (by decide) (by decide), fr_m a (s := 55) (by decide), fr_m a (s := 56) (by decide)]
      exact c4
    · rw [fi 74 (by decide) (by decide)]
      exact c5
  obtain ⟨n', m', cu', lo', W', B', T'⟩ := tb_ex I
  obtain ⟨v1, v2, v3, v4⟩ := i3
  have e1 : lm_i h' 92 1 = Int32.ofNat (v + 1) := by
    rw [hv, v1]
    exact q_add v 1
  have old : ∀ x : Int32, (x = -1 ∨ ∃ b, b ≤ v ∧ x = Int32.ofNat b) → ¬ x = Int32.ofNat (v + 1) := by
    intro x hx q
    rcases hx with rfl | ⟨b, b1, rfl⟩
    · exact ne_m1 (by omega) q.symm
    · rw [q_eq (by omega) (by omega)] at q
      omega
  have up : ∀ x : Int32, (x = -1 ∨ ∃ b, b ≤ v ∧ x = Int32.ofNat b) → (x = -1 ∨ ∃ b, b ≤ v + 1 ∧ x = Int32.ofNat b) := by
    intro x hx
    rcases hx with q | ⟨b, b1, q⟩
    · exact Or.inl q
    · exact Or.inr ⟨b, by omega, q⟩
  have e28 := fr_m a (s := 28) (by decide)
  have e39 := fr_m a (s := 39) (by decide)
  have e50 := fr_m a (s := 50) (by decide)
  refine ⟨RM_of h1 (scr_fr a (by decide)), sI_fr h2 a I.1.1 (by decide), v + 1, n', m', cu', lo', W', B', by omega, I, T', ⟨e1, ?_, ?_, ?_⟩, fun q => ?_, fun q => ?_, fun q => ?_⟩
  · rw [e28]
    exact up _ v2
  · rw [e39]
    exact up _ v3
  · rw [e50]
    exact up _ v4
  · rw [e28, e1] at q
    exact absurd q (old _ v2)
  · rw [e39, e1] at q
    exact absurd q (old _ v3)
  · rw [e50, e1] at q
    exact absurd q (old _ v4)
/-- a bound below, said with one less -/
theorem lt_m1 {H x : Int32} (h0 : 0 ≤ H) (h6 : H ≤ 400) : (H - 1 < x) = ¬ x < H := by
  refine propext ?_
  rw [p_lt, p_lt]
  simp only [p_le, Int32.reduceToInt] at h0 h6
  rw [p_tI_sub (by simp only [Int32.reduceToInt]; omega) (by simp only [Int32.reduceToInt]; omega)]
  simp only [Int32.reduceToInt]
  omega
end Xl98keep
