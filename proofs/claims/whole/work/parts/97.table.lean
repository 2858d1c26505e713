/-! The town's table, on both sides, out of what holds between two calls. -/
theorem nrm_nrm {n m : Nat} (f : Nat → Int32) : nrm n m f = nrm n m (nrm n m f) := by
  funext j
  unfold nrm
  by_cases c : j / 6 < n ∧ j % 6 < m
  · simp only [if_pos c]
  · simp only [if_neg c]
theorem wf_cu {r : Nat → Int32} (hw : iv_wf r) : r 83 = 0 ∨ r 83 = 1 ∨ r 83 = 2 := by
  have h := hw.2.2.1
  simp only [p_le, p_eq, Int32.reduceToInt] at h ⊢
  omega
theorem wf_fo {r : Nat → Int32} (hw : iv_wf r) (h : ¬ r 86 = -1) : ∃ t, t < 6 ∧ r 86 = Int32.ofNat t ∧ Int32.ofNat t < r 85 := by
  obtain ⟨_, _, _, _, w5, w6, _⟩ := hw
  have h0 : 0 ≤ r 86 := by
    simp only [p_le, p_eq, Int32.reduceToInt] at h w6 ⊢
    omega
  obtain ⟨t, t1, t2, t3⟩ := p_ix h0
  refine ⟨t, ?_, t2, by rw [← t2]; exact w6.2⟩
  have := w6.2
  simp only [p_le, p_lt, Int32.reduceToInt] at this w5
  omega
theorem wf_ba {r : Nat → Int32} (hw : iv_wf r) {k g : Nat} (hk : k < 5) (hg : g < 6) : -99 ≤ r (11 + 6 * k + g) ∧ r (11 + 6 * k + g) ≤ 99 := by
  obtain ⟨_, _, _, _, _, _, _, _, w9, _⟩ := hw
  have := w9 (6 * k + g) (by omega)
  rw [← Nat.add_assoc] at this
  exact this
theorem isW_ex {h : lm_H} {n m : Nat} (hw : iv_wf (lm_i h 94)) (hL : iL h 8 (lm_i h 94)) (h5 : n ≤ 5) (h6 : m ≤ 6) : ∃ W B, isW h n m W B ∧ wd n m (lm_i h 94 83) (lm_i h 94 84) W ∧ bd n m B := by
  by_cases c : lm_i h 94 86 = -1
  · refine ⟨nrm n m (fun j => lm_i h 94 (11 + j)), nrm n m (fun _ => 0), ⟨fun _ k hk g hg => ?_, fun t ht q => ?_, nrm_nrm _, nrm_nrm _⟩, ⟨wf_cu hw, hw.2.2.2.1, fun k hk g hg => ?_⟩, fun k hk g hg => ?_⟩
    · rw [nrm_at h6 hk hg, nrm_at h6 hk hg, ← Nat.add_assoc]
      exact ⟨rfl, rfl⟩
    · rw [c] at q
      exact absurd q.symm (ne_m1 (by omega))
    · rw [nrm_at h6 hk hg, ← Nat.add_assoc]
      exact wf_ba hw (by omega) (by omega)
    · rw [nrm_at h6 hk hg]
      exact Or.inl rfl
  · obtain ⟨t, t1, t2, t3⟩ := wf_fo hw c
    obtain ⟨ef, e⟩ := hL.1 t t1 t3
    have er : eR ef := by
      obtain ⟨_, _, _, _, _, _, _, _, _, _, _, _, _, b⟩ := e
      exact b
    have rg : ∀ k, k < n → ∀ g, g < m → ∀ w, (-99 ≤ (ef w (lm_i h 94 (11 + 6 * k + g), 0)).1 ∧ (ef w (lm_i h 94 (11 + 6 * k + g), 0)).1 ≤ 99) ∧ ((ef w (lm_i h 94 (11 + 6 * k + g), 0)).2 = 0 ∨ (ef w (lm_i h 94 (11 + 6 * k + g), 0)).2 = 1) := fun k hk g hg w => er w _ ⟨wf_ba hw (by omega) (by omega), Or.inl rfl⟩
    have at1 : ∀ k g, k < n → g < m → (6 * k + g) / 6 = k ∧ (6 * k + g) % 6 = g := fun k g _ hg => by omega
    refine ⟨nrm n m (fun j => (ef (wd7 (j / 6) (j % 6) (lm_i h 94 (11 + 6 * (j / 6) + j % 6)) (lm_i h 94 (5 + j % 6)) (lm_i h 94 (j / 6)) 0 0) (lm_i h 94 (11 + 6 * (j / 6) + j % 6), 0)).1), nrm n m (fun j => (ef (wd7 (j / 6) (j % 6) (lm_i h 94 (11 + 6 * (j / 6) + j % 6)) (lm_i h 94 (5 + j % 6)) (lm_i h 94 (j / 6)) 0 0) (lm_i h 94 (11 + 6 * (j / 6) + j % 6), 0)).2), ⟨fun q => absurd q c, fun t' ht' q => ?_, nrm_nrm _, nrm_nrm _⟩, ⟨wf_cu hw, hw.2.2.2.1, fun k hk g hg => ?_⟩, fun k hk g hg => ?_⟩
    · rw [t2, q_eq (by omega) (by omega)] at q
      subst q
      refine ⟨ef, e, fun k hk g hg => ?_⟩
      rw [nrm_at h6 hk hg, nrm_at h6 hk hg, (at1 k g hk hg).1, (at1 k g hk hg).2]
      exact ⟨rfl, rfl⟩
    · rw [nrm_at h6 hk hg, (at1 k g hk hg).1, (at1 k g hk hg).2]
      exact (rg k hk g hg _).1
    · rw [nrm_at h6 hk hg, (at1 k g hk hg).1, (at1 k g hk hg).2]
      exact (rg k hk g hg _).2
/-- the town and its table -/
def tb (h : lm_H) (n m : Nat) (cu lo : Int32) (W B : Nat → Int32) : Prop := n ≤ 5 ∧ m ≤ 6 ∧ lm_i h 94 81 = Int32.ofNat n ∧ lm_i h 94 82 = Int32.ofNat m ∧ lm_i h 94 83 = cu ∧ lm_i h 94 84 = lo ∧ isW h n m W B ∧ wd n m cu lo W ∧ bd n m B
theorem tb_fr {h h' : lm_H} {n m : Nat} {cu lo : Int32} {W B : Nat → Int32} (H : tb h n m cu lo W B) (a : fr SC SL h h') : tb h' n m cu lo W B := by
  obtain ⟨h1, h2, h3, h4, h5, h6, h7, h8⟩ := H
  have e94 := fr_i a (c := 94) (by decide) (by decide)
  exact ⟨h1, h2, by rw [e94]; exact h3, by rw [e94]; exact h4, by rw [e94]; exact h5, by rw [e94]; exact h6, isW_of h7 (OC_fr a SC_hi) (by rw [fr_r a]) e94, h8⟩
theorem tb_ex {h : lm_H} (H : INVs h) : ∃ n m cu lo W B, tb h n m cu lo W B := by
  obtain ⟨⟨_, _, hw, _⟩, _, _, _, hL, _⟩ := H
  obtain ⟨n, _, n2, n3⟩ := p_ix hw.1.1.1
  obtain ⟨m, _, m2, m3⟩ := p_ix hw.1.2.1.1
  have a1 := hw.1.1.2
  have a2 := hw.1.2.1.2
  simp only [p_le, Int32.reduceToInt] at a1 a2
  obtain ⟨W, B, h1, h2, h3⟩ := isW_ex (n := n) (m := m) hw.1 hL (by omega) (by omega)
  exact ⟨n, m, _, _, W, B, by omega, by omega, n2, m2, rfl, rfl, h1, h2, h3⟩
theorem LJ_LO {h : lm_H} {c t p : Nat} {r : Nat → Int32} {ef : eF} (H : LO h c r t ef) (hp : lm_r h c t = some p) : p < 1000000 ∧ LJ h p ef := by
  obtain ⟨p', q, l, N, co, kk, nu, pl, ⟨a1, a2, a3, a4, a5, a6, a7, a8, a9, a10, a11⟩, _⟩ := H
  rw [hp] at a1
  obtain rfl := Option.some.inj a1
  exact ⟨a3, q, l, co, a4, a5, a6, a7, a8, a9, a10, a11⟩
theorem cf_62 {D n m : Nat} {h : lm_H} {K : lm_H → Prop} {cu lo : Int32} {W B : Nat → Int32} (hD : 5 ≤ D) (H : INVs h) (T : tb h n m cu lo W B) (hK : ∀ h', fr [18, 19, 20, 21, 22, 23, 24, 25] [] h h' → ct h' 21 n m cu lo W B → K h') : lm_call D 62 [.ref 21, .ref 1, .ref 18, .ref 74, .int 0] h (lm_kV K) := by
  obtain ⟨⟨hl, ht, hw, _⟩, _, _, _, hL, _, h74⟩ := H
  obtain ⟨h5, h6, hn, hm, hcu, hlo, ⟨i1, i2, _⟩, _, hB⟩ := T
  obtain ⟨⟨t0, t1, t2, t3, t4, t5⟩, s1, s2, s3, _⟩ := ht
  have eb : ∀ k, k < n → ∀ g, g < m → lm_i h 4 (k * 6 + g) = lm_i h 94 (11 + 6 * k + g) := fun k hk g hg => by
    rw [s3 (k * 6 + g) (by omega), show 11 + (k * 6 + g) = 11 + 6 * k + g from by omega]
  by_cases c : lm_i h 94 86 = -1
  · refine cl_62 (J := fun _ _ _ _ _ _ _ => (0, 0)) (by omega) hl h5 h6 (by rw [t0]; exact hn) (by rw [t1]; exact hm) (by rw [t2]; exact hcu) (by rw [t3]; exact hlo) (fun q k hk g hg => ?_) (fun q => ?_) hK
    · rw [eb k hk g hg]
      exact i1 c k hk g hg
    · rw [t5] at q
      exact absurd c q
  · obtain ⟨t, u1, u2, u3⟩ := wf_fo hw.1 c
    obtain ⟨ef, e1, e2⟩ := i2 t u1 u2
    have e3 := e1
    obtain ⟨p, q, l, N, co, kk, nu, pl, ⟨a1, _⟩, _⟩ := e3
    obtain ⟨p1, p2⟩ := LJ_LO e1 a1
    refine cl_62 (J := fun x0 x1 x2 x3 x4 x5 x6 => ef (w7 x0 x1 x2 x3 x4 x5 x6) (x2, 0)) (by omega) hl h5 h6 (by rw [t0]; exact hn) (by rw [t1]; exact hm) (by rw [t2]; exact hcu) (by rw [t3]; exact hlo) (fun q => ?_) (fun _ => ⟨t, p, u1, by rw [t5]; exact u2, a1, fun k hk g hg => ?_, fun z K2 D2 hD2 fz hz => ?_⟩) hK
    · rw [t5] at q
      exact absurd q c
    · rw [eb k hk g hg, s2 g (by omega), s1 k (by omega), h74 (k * 6 + g) (by omega)]
      exact ⟨(e2 k hk g hg).1, (e2 k hk g hg).2, hB k hk g hg⟩
    · refine cl_15 (ef := ef) (by omega) (fr_Lay fz hl) (LJ_fr p2 fz (fun x hx => ?_) p1) (fun z' f1 f2 f3 => hz z' f1 f2 f3)
      have : ¬ x ∈ [18, 19, 20, 21, 21 + 1, 21 + 2, 21 + 3, 21 + 4] := by
        simp only [List.mem_cons, List.not_mem_nil, or_false]
        omega
      simpa using this
/-- version and caches of the reference -/
def CV (v : Nat) (h : lm_H) : Prop := lm_i h 92 1 = Int32.ofNat v ∧ (lm_i h 92 28 = -1 ∨ ∃ b, b ≤ v ∧ lm_i h 92 28 = Int32.ofNat b) ∧ (lm_i h 92 39 = -1 ∨ ∃ b, b ≤ v ∧ lm_i h 92 39 = Int32.ofNat b) ∧ (lm_i h 92 50 = -1 ∨ ∃ b, b ≤ v ∧ lm_i h 92 50 = Int32.ofNat b)
def CR (h : lm_H) (n m : Nat) (cu lo : Int32) (W B : Nat → Int32) : Prop := (lm_i h 92 28 = lm_i h 92 1 → rt h n m cu lo W B) ∧ (lm_i h 92 39 = lm_i h 92 1 → svm n m cu lo W B h (wN (fun _ => true) (cc B m) n)) ∧ (lm_i h 92 50 = lm_i h 92 1 → alm h n m cu lo W B)
def IB (v n m : Nat) (cu lo : Int32) (W B : Nat → Int32) (h : lm_H) : Prop := INVs h ∧ tb h n m cu lo W B ∧ CV v h ∧ CR h n m cu lo W B
theorem svm_fr {S T : List Nat} {h h' : lm_H} {n m i : Nat} {cu lo : Int32} {W B : Nat → Int32} (H : svm n m cu lo W B h i) (a : fr S T h h') (h1 : S.contains 108 = false) (h2 : [30, 31, 32, 33, 34, 35, 36, 37].all (fun s => !T.contains s) = true) : svm n m cu lo W B h' i := by
  have e : ∀ s, s ∈ [30, 31, 32, 33, 34, 35, 36, 37] → lm_i h' 92 s = lm_i h 92 s := fun s hs => fr_m a (by have := List.all_eq_true.1 h2 s hs; simpa using this)
  unfold svm sv1 sv2 sv3 at H ⊢
  rw [e 30 (by decide), e 31 (by decide), e 32 (by decide), e 33 (by decide), e 34 (by decide), e 35 (by decide), e 36 (by decide), e 37 (by decide), fr_i a h1 (by decide)]
  exact H
theorem alm_fr {S T : List Nat} {h h' : lm_H} {n m : Nat} {cu lo : Int32} {W B : Nat → Int32} (H : alm h n m cu lo W B) (a : fr S T h h') (h1 : S.contains 114 = false) (h2 : T.contains 48 = false ∧ T.contains 49 = false) : alm h' n m cu lo W B := by
  unfold alm at H ⊢
  rw [fr_ml a h2.1, fr_m a h2.2, fr_i a h1 (by decide)]
  exact H
theorem CV_fr {S T : List Nat} {h h' : lm_H} {v : Nat} (H : CV v h) (a : fr S T h h') (h1 : T.contains 1 = false ∧ T.contains 28 = false ∧ T.contains 39 = false ∧ T.contains 50 = false) : CV v h' := by
  unfold CV at H ⊢
  rw [fr_m a h1.1, fr_m a h1.2.1, fr_m a h1.2.2.1, fr_m a h1.2.2.2]
  exact H
/-- what leaves the caches of the reference alone -/
abbrev SD : List Nat := [13, 14, 15, 16, 17, 18, 19, 20, 21, 22, 23, 24, 25, 26, 27, 28, 29, 30, 31, 32, 33, 34, 35, 36, 37, 38, 39, 40, 41, 42, 43, 44, 45, 46, 47, 48, 49, 50, 51, 52, 53, 54, 55, 56, 57, 59, 60, 61, 62, 63, 67, 68, 69, 70, 71, 72, 73, 99, 100, 101, 102, 103, 106, 107, 109, 110, 111, 112, 113, 118]
abbrev TD : List Nat := [15, 16, 17, 18, 19, 20, 21, 23, 24, 41, 42, 57]
theorem IB_fr {h h' : lm_H} {v n m : Nat} {cu lo : Int32} {W B : Nat → Int32} (H : IB v n m cu lo W B h) (a : fr SD TD h h') : IB v n m cu lo W B h' := by
  obtain ⟨h1, h2, h3, h4, h5, h6⟩ := H
  have b : fr SC SL h h' := fr_sub a (by decide) (by decide)
  refine ⟨INVs_fr h1 b, tb_fr h2 b, CV_fr h3 a (by decide), fun q => ?_, fun q => ?_, fun q => ?_⟩
  · rw [fr_m a (by decide), fr_m a (by decide)] at q
    exact rt_fr a (h4 q) (by decide)
  · rw [fr_m a (by decide), fr_m a (by decide)] at q
    exact svm_fr (h5 q) a (by decide) (by decide)
  · rw [fr_m a (by decide), fr_m a (by decide)] at q
    exact alm_fr (h6 q) a (by decide) (by decide)
theorem cr_206 {D n m k g : Nat} {h z : lm_H} {K : lm_H → Prop} {cu lo : Int32} {W B : Nat → Int32} (hD : 158 ≤ D) (H : INVs h) (T : tb h n m cu lo W B) (hk : k < n) (hg : g < m) (hz : fr SC SL h z) (hK : ∀ z', fr [103] [19, 20, 21, 23, 24] z z' → lm_i z' 92 23 = W (6 * k + g) → lm_i z' 92 24 = B (6 * k + g) → K z') : lm_call D 206 [.ref 92, .int (Int32.ofNat k), .int (Int32.ofNat g), .int 0, .int 0] z (lm_kV K) := by
  obtain ⟨⟨hl, ht, hw, _⟩, _, _, _, hL, _, h74⟩ := H
  obtain ⟨h5, h6, hn, hm, hcu, hlo, ⟨i1, i2, _⟩, _, hB⟩ := T
  have e94 := fr_i hz (c := 94) (by decide) (by decide)
  have lz := fr_Lay hz hl
  by_cases c : lm_i h 94 86 = -1
  · obtain ⟨d, rfl⟩ := q_dp hD
    refine e_206 _ _ _ _ lz ?_
    rw [q_6m, q_11, q_add, q_in (by omega) (by omega), q_nat (by omega), e94, if_pos c]
    refine hK _ (fr_s92 (fr_s92 (fr_refl _ _ _) (by decide) _) (by decide) _) ?_ ?_
    · simp only [pi_si, Nat.reduceEqDiff, if_true, if_false]
      exact (i1 c k hk g hg).1.symm
    · simp only [pi_si, Nat.reduceEqDiff, if_true, if_false]
      exact (i1 c k hk g hg).2.symm
  · obtain ⟨t, u1, u2, u3⟩ := wf_fo hw.1 c
    obtain ⟨ef, e1, e2⟩ := i2 t u1 u2
    obtain ⟨p, q, l, N, co, kk, nu, pl, _, b1, b2, b3, b4, b5⟩ := e1
    refine cl_206 (t := t) (ef := ef) (kk := kk) (nu := nu) (pl := pl) (N := N) hD lz u1 (by omega) (by omega) (by rw [e94]; exact u2) b1 (by rw [e94]; exact b2) (by rw [e94]; exact b3) b4 (by rw [e94]; exact wf_ba hw.1 (by omega) (by omega)) (fun z' f1 f2 f3 => hK z' f1 ?_ ?_)
    · rw [f2, e94]
      exact (e2 k hk g hg).1.symm
    · rw [f3, e94]
      exact (e2 k hk g hg).2.symm
theorem cr_208 {D v n m : Nat} {h : lm_H} {K : lm_H → Prop} {cu lo : Int32} {W B : Nat → Int32} (hD : 162 ≤ D) (H : IB v n m cu lo W B h) (hK : ∀ h', fr [103, 104, 105, 106] [19, 20, 21, 23, 24, 28] h h' → IB v n m cu lo W B h' → rt h' n m cu lo W B → K h') : lm_call D 208 [.ref 92] h (lm_kV K) := by
  obtain ⟨H1, T, V, R⟩ := H
  by_cases c : lm_i h 92 28 = lm_i h 92 1
  · obtain ⟨d, rfl⟩ := q_dp hD
    refine e_208 H1.1.1 ?_
    rw [if_pos c]
    exact hK h (fr_refl _ _ _) ⟨H1, T, V, R⟩ (R.1 c)
  · have T2 := T
    obtain ⟨h5, h6, hn, hm, hcu, hlo, _, _, hB⟩ := T2
    refine cl_208b (W := W) (B := B) (by omega) H1.1.1 h5 h6 hn hm hcu hlo hB c (fun z K2 D2 k g hD2 hk hg hz q => cr_206 (by omega) H1 T hk hg (fr_sub hz (by decide) (by decide)) q) (fun h' f1 f2 f3 => hK h' f1 ?_ f3)
    have b : fr SC SL h h' := fr_sub f1 (by decide) (by decide)
    have e1 : lm_i h' 92 1 = lm_i h 92 1 := fr_m f1 (by decide)
    refine ⟨INVs_fr H1 b, tb_fr T b, ?_, fun _ => f3, fun q => ?_, fun q => ?_⟩
    · unfold CV at V ⊢
      rw [f2, e1, fr_m f1 (s := 39) (by decide), fr_m f1 (s := 50) (by decide)]
      exact ⟨V.1, Or.inr ⟨v, Nat.le_refl v, V.1⟩, V.2.2⟩
    · rw [fr_m f1 (by decide), e1] at q
      exact svm_fr (R.2.1 q) f1 (by decide) (by decide)
    · rw [fr_m f1 (by decide), e1] at q
      exact alm_fr (R.2.2 q) f1 (by decide) (by decide)
theorem cr_223 {D v n m : Nat} {h : lm_H} {K : lm_H → Prop} {cu lo : Int32} {W B : Nat → Int32} (hD : 164 ≤ D) (H : IB v n m cu lo W B h) (hK : ∀ h', fr [103, 104, 105, 106, 107, 108] [19, 20, 21, 23, 24, 28, 30, 31, 32, 33, 34, 35, 36, 37, 39] h h' → IB v n m cu lo W B h' → rt h' n m cu lo W B → svm n m cu lo W B h' (wN (fun _ => true) (cc B m) n) → K h') : lm_call D 223 [.ref 92] h (lm_kV K) := by
  obtain ⟨d, rfl⟩ := q_dp hD
  refine e_223 H.1.1.1 ?_
  refine cr_208 (by omega) H (fun h1 f1 I1 r1 => ?_)
  by_cases c : lm_i h1 92 39 = lm_i h1 92 1
  · rw [if_pos c]
    exact hK h1 (fr_sub f1 (by decide) (by decide)) I1 r1 (I1.2.2.2.2.1 c)
  · rw [if_neg c]
    obtain ⟨H1, T, V, R⟩ := I1
    have f2 : fr [] [31, 34, 35, 39] h1 (lm_si (lm_si (lm_si (lm_si h1 92 39 (lm_i h1 92 1)) 92 31 0) 92 34 0) 92 35 0) := fr_s92 (fr_s92 (fr_s92 (fr_s92 (fr_refl _ _ _) (by decide) _) (by decide) _) (by decide) _) (by decide) _
    have g39 : lm_i (lm_si (lm_si (lm_si (lm_si h1 92 39 (lm_i h1 92 1)) 92 31 0) 92 34 0) 92 35 0) 92 39 = lm_i h1 92 1 := by simp only [pi_si, Nat.reduceEqDiff, if_true, if_false]
    refine cl_223b (by omega) (rt_fr f2 r1 (by decide)) T.2.2.2.2.2.2.2.1 (by simp only [pi_si, Nat.reduceEqDiff, if_true, if_false]) (by simp only [pi_si, Nat.reduceEqDiff, if_true, if_false]) (by simp only [pi_si, if_true]) (fun h2 f3 r2 s2 => ?_)
    have f4 : fr [107, 108] [30, 31, 32, 33, 34, 35, 36, 37, 39] h1 h2 := fr_trans (fr_sub f2 (by decide) (by decide)) (fr_sub f3 (by decide) (by decide))
    have b : fr SC SL h1 h2 := fr_sub f4 (by decide) (by decide)
    have e39 : lm_i h2 92 39 = lm_i h1 92 1 := by rw [fr_m f3 (by decide), g39]
    have e1 : lm_i h2 92 1 = lm_i h1 92 1 := fr_m f4 (by decide)
    refine hK h2 (fr_trans (fr_sub f1 (by decide) (by decide)) (fr_sub f4 (by decide) (by decide))) ⟨INVs_fr H1 b, tb_fr T b, ?_, fun _ => r2, fun _ => s2, fun q => ?_⟩ r2 s2
    · unfold CV at V ⊢
      rw [e39, e1, fr_m f4 (s := 28) (by decide), fr_m f4 (s := 50) (by decide)]
      exact ⟨V.1, V.2.1, Or.inr ⟨v, Nat.le_refl v, V.1⟩, V.2.2.2⟩
    · rw [fr_m f4 (by decide), e1] at q
      exact alm_fr (R.2.2 q) f4 (by decide) (by decide)
theorem cr_249 {D v n m : Nat} {h : lm_H} {K : lm_H → Prop} {cu lo : Int32} {W B : Nat → Int32} (hD : 166 ≤ D) (H : IB v n m cu lo W B h) (hK : ∀ h', fr [103, 104, 105, 106, 111, 112, 113, 114] [19, 20, 21, 23, 24, 28, 48, 49, 50] h h' → IB v n m cu lo W B h' → alm h' n m cu lo W B → K h') : lm_call D 249 [.ref 92] h (lm_kV K) := by
  obtain ⟨d, rfl⟩ := q_dp hD
  refine e_249 H.1.1.1 ?_
  by_cases c : lm_i h 92 50 = lm_i h 92 1
  · rw [if_pos c]
    exact hK h (fr_refl _ _ _) H (H.2.2.2.2.2 c)
  · rw [if_neg c]
    refine e_247 H.1.1.1 ?_
    refine cr_208 (by omega) H (fun h1 f1 I1 r1 => ?_)
    obtain ⟨H1, T, V, R⟩ := I1
    refine cl_247b (by omega) r1 T.2.2.2.2.2.2.2.1 (fun h2 f2 r2 a2 => ?_)
    have f3 : fr [111, 112, 113, 114] [48, 49, 50] h1 (lm_si h2 92 50 (lm_i h2 92 1)) := fr_s92 (fr_sub f2 (by decide) (by decide)) (by decide) _
    have f4 : fr [] [50] h2 (lm_si h2 92 50 (lm_i h2 92 1)) := fr_s92 (fr_refl _ _ _) (by decide) _
    have b : fr SC SL h1 (lm_si h2 92 50 (lm_i h2 92 1)) := fr_sub f3 (by decide) (by decide)
    have e1 : lm_i (lm_si h2 92 50 (lm_i h2 92 1)) 92 1 = lm_i h1 92 1 := fr_m f3 (by decide)
    have e50 : lm_i (lm_si h2 92 50 (lm_i h2 92 1)) 92 50 = lm_i h1 92 1 := by
      simp only [pi_si, if_true]
      exact fr_m f2 (by decide)
    have a3 := alm_fr a2 f4 (by decide) (by decide)
    refine hK _ (fr_trans (fr_sub f1 (by decide) (by decide)) (fr_sub f3 (by decide) (by decide))) ⟨INVs_fr H1 b, tb_fr T b, ?_, fun _ => rt_fr f4 r2 (by decide), fun q => ?_, fun _ => a3⟩ a3
    · unfold CV at V ⊢
      rw [e50, e1, fr_m f3 (s := 28) (by decide), fr_m f3 (s := 39) (by decide)]
      exact ⟨V.1, V.2.1, V.2.2.1, Or.inr ⟨v, Nat.le_refl v, V.1⟩⟩
    · rw [fr_m f3 (by decide), e1] at q
      exact svm_fr (R.2.1 q) f3 (by decide) (by decide)
