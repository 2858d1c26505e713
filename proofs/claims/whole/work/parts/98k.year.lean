/-! year: both sides live a year. -/
theorem WB_ex {h : lm_H} {n m : Nat} {cu lo : Int32} {W B : Nat → Int32} (H : INVs h) (Q : tb h n m cu lo W B) : ∃ WB : (Nat → Int32) → Nat → (Nat → Int32) × (Nat → Int32), (∀ M e, wd n m cu lo (WB M e).1) ∧
    (∀ (z : lm_H) (K2 : lm_H → Prop) (D2 : Nat) (M : Nat → Int32) (e : Nat), 5 ≤ D2 → fr YR [] h z → (∀ k, k < n → ∀ g, g < m → lm_i z 67 (k * 6 + g) = M (6 * k + g)) → (∀ z', fr [18, 19, 20, 59, 60, 61, 62, 63] [] z z' → ct z' 59 n m cu lo (WB M e).1 (WB M e).2 → K2 z') → lm_call D2 62 [.ref 59, .ref 1, .ref 18, .ref 67, .int (Int32.ofNat e)] z (lm_kV K2)) ∧
    ∀ (S T : List Nat) (z : lm_H) (K2 : lm_H → Prop) (D2 : Nat) (M : Nat → Int32) (e : Nat), 162 ≤ D2 → fr S T h z → S.contains 94 = false → (∀ k, k < n → ∀ g, g < m → lm_i z 106 (k * 6 + g) = M (6 * k + g)) → (∀ z', fr [103, 104, 105] [19, 20, 21, 23, 24] z z' → rt z' n m cu lo (WB M e).1 (WB M e).2 → K2 z') → lm_call D2 207 [.ref 92, .int (Int32.ofNat e)] z (lm_kV K2) := by
  obtain ⟨⟨hl, ht, hw, _⟩, _, _, _, hL, _, h74⟩ := H
  obtain ⟨h5, h6, hn, hm, hcu, hlo, ⟨i1, i2, _⟩, hwd, hB⟩ := Q
  obtain ⟨⟨t0, t1, t2, t3, t4, t5⟩, s1, s2, s3, _⟩ := ht
  have eb : ∀ k, k < n → ∀ g, g < m → lm_i h 4 (k * 6 + g) = lm_i h 94 (11 + 6 * k + g) := fun k hk g hg => by
    rw [s3 (k * 6 + g) (by omega), show 11 + (k * 6 + g) = 11 + 6 * k + g from by omega]
  by_cases c : lm_i h 94 86 = -1
  · refine ⟨fun _ _ => (fun j => lm_i h 94 (11 + j), fun _ => 0), fun M e => ⟨hwd.1, hwd.2.1, fun k hk g hg => ?_⟩, fun z K2 D2 M e hD fz hM hK => ?_, fun S T z K2 D2 M e hD fz hS hM hK => ?_⟩
    · have := wf_ba hw.1 (k := k) (g := g) (by omega) (by omega)
      rw [Nat.add_assoc] at this
      exact this
    · have fi : ∀ x, YR.contains x = false → ¬ x = 92 → lm_i z x = lm_i h x := fun x h1 h2 => fr_i fz h1 h2
      refine cl_62y (J := fun _ _ _ _ _ _ _ => (0, 0)) (by omega) (fr_Lay fz hl) h5 h6 (by rw [fi 1 (by decide) (by decide), t0]; exact hn) (by rw [fi 1 (by decide) (by decide), t1]; exact hm) (by rw [fi 1 (by decide) (by decide), t2]; exact hcu) (by rw [fi 1 (by decide) (by decide), t3]; exact hlo) (fun q k hk g hg => ?_) (fun q => ?_) hK
      · rw [fi 4 (by decide) (by decide), eb k hk g hg, Nat.add_assoc]
        exact ⟨rfl, rfl⟩
      · rw [fi 1 (by decide) (by decide), t5] at q
        exact absurd c q
    · have e94 := fr_i fz (c := 94) hS (by decide)
      refine cl_207 (by omega) (fr_Lay fz hl) h5 h6 (by rw [e94]; exact hn) (by rw [e94]; exact hm) (by rw [e94]; exact hcu) (by rw [e94]; exact hlo) (fun k hk g hg => Or.inl rfl) (fun z2 K3 D3 k g hD3 hk hg f2 hK3 => ?_) hK
      have e94b : lm_i z2 94 = lm_i h 94 := by rw [fr_i f2 (by decide) (by decide), e94]
      have hD4 : 1 ≤ D3 := by omega
      obtain ⟨d, rfl⟩ := q_dp hD4
      refine e_206 _ _ _ _ (fr_Lay f2 (fr_Lay fz hl)) ?_
      rw [q_6m, q_11, q_add, q_in (by omega) (by omega), q_nat (by omega), e94b, if_pos c]
      refine hK3 _ (fr_s92 (fr_s92 (fr_refl _ _ _) (by decide) _) (by decide) _) ?_ ?_
      · simp only [pi_si, Nat.reduceEqDiff, if_true, if_false]
        rw [Nat.add_assoc]
      · simp only [pi_si, Nat.reduceEqDiff, if_true, if_false]
  · obtain ⟨t, u1, u2, u3⟩ := wf_fo hw.1 c
    obtain ⟨ef, e1, e2⟩ := i2 t u1 u2
    have e3 := e1
    obtain ⟨p, q, l, N, co, kk, nu, pl, ⟨a1, _⟩, b1, b2, b3, b4, b5⟩ := e3
    obtain ⟨p1, p2⟩ := LJ_LO e1 a1
    have rg : ∀ k, k < n → ∀ g, g < m → ∀ w, (-99 ≤ (ef w (lm_i h 94 (11 + 6 * k + g), 0)).1 ∧ (ef w (lm_i h 94 (11 + 6 * k + g), 0)).1 ≤ 99) ∧ ((ef w (lm_i h 94 (11 + 6 * k + g), 0)).2 = 0 ∨ (ef w (lm_i h 94 (11 + 6 * k + g), 0)).2 = 1) := fun k hk g hg w => b5 w _ ⟨wf_ba hw.1 (by omega) (by omega), Or.inl rfl⟩
    have at1 : ∀ k g, g < m → (6 * k + g) / 6 = k ∧ (6 * k + g) % 6 = g := fun k g hg => by omega
    refine ⟨fun M e => (fun j => (ef (wd7 (j / 6) (j % 6) (lm_i h 94 (11 + 6 * (j / 6) + j % 6)) (lm_i h 94 (5 + j % 6)) (lm_i h 94 (j / 6)) (M j) (Int32.ofNat e)) (lm_i h 94 (11 + 6 * (j / 6) + j % 6), 0)).1, fun j => (ef (wd7 (j / 6) (j % 6) (lm_i h 94 (11 + 6 * (j / 6) + j % 6)) (lm_i h 94 (5 + j % 6)) (lm_i h 94 (j / 6)) (M j) (Int32.ofNat e)) (lm_i h 94 (11 + 6 * (j / 6) + j % 6), 0)).2), fun M e => ⟨hwd.1, hwd.2.1, fun k hk g hg => ?_⟩, fun z K2 D2 M e hD fz hM hK => ?_, fun S T z K2 D2 M e hD fz hS hM hK => ?_⟩
    · simp only [(at1 k g hg).1, (at1 k g hg).2]
      exact (rg k hk g hg _).1
    · have fi : ∀ x, YR.contains x = false → ¬ x = 92 → lm_i z x = lm_i h x := fun x h1 h2 => fr_i fz h1 h2
      refine cl_62y (J := fun x0 x1 x2 x3 x4 x5 x6 => ef (w7 x0 x1 x2 x3 x4 x5 x6) (x2, 0)) (by omega) (fr_Lay fz hl) h5 h6 (by rw [fi 1 (by decide) (by decide), t0]; exact hn) (by rw [fi 1 (by decide) (by decide), t1]; exact hm) (by rw [fi 1 (by decide) (by decide), t2]; exact hcu) (by rw [fi 1 (by decide) (by decide), t3]; exact hlo) (fun q => ?_) (fun _ => ⟨t, p, u1, by rw [fi 1 (by decide) (by decide), t5]; exact u2, by rw [fr_r fz]; exact a1, fun k hk g hg => ?_, fun z2 K3 D3 hD3 f2 hz => ?_⟩) hK
      · rw [fi 1 (by decide) (by decide), t5] at q
        exact absurd q c
      · rw [fi 4 (by decide) (by decide), fi 3 (by decide) (by decide), fi 2 (by decide) (by decide), hM k hk g hg, eb k hk g hg, s2 g (by omega), s1 k (by omega)]
        simp only [(at1 k g hg).1, (at1 k g hg).2]
        exact ⟨rfl, rfl, (rg k hk g hg _).2⟩
      · have f3 : fr YR [] h z2 := fr_trans fz (fr_sub f2 (by decide) (by decide))
        exact cl_15 (ef := ef) (by omega) (fr_Lay f3 hl) (LJ_fr p2 f3 (hi_of (by decide)) p1) (fun z' g1 g2 g3 => hz z' g1 g2 g3)
    · have e94 := fr_i fz (c := 94) hS (by decide)
      refine cl_207 (by omega) (fr_Lay fz hl) h5 h6 (by rw [e94]; exact hn) (by rw [e94]; exact hm) (by rw [e94]; exact hcu) (by rw [e94]; exact hlo) (fun k hk g hg => ?_) (fun z2 K3 D3 k g hD3 hk hg f2 hK3 => ?_) hK
      · simp only [(at1 k g hg).1, (at1 k g hg).2]
        exact (rg k hk g hg _).2
      · have e94b : lm_i z2 94 = lm_i h 94 := by rw [fr_i f2 (by decide) (by decide), e94]
        have hM2 : lm_i z 106 (6 * k + g) = M (6 * k + g) := by
          rw [show 6 * k + g = k * 6 + g from by omega, hM k hk g hg, show 6 * k + g = k * 6 + g from by omega]
        rw [hM2]
        refine cl_206 (t := t) (ef := ef) (kk := kk) (nu := nu) (pl := pl) (N := N) (by omega) (fr_Lay f2 (fr_Lay fz hl)) u1 (by omega) (by omega) (by rw [e94b]; exact u2) b1 (by rw [e94b]; exact b2) (by rw [e94b]; exact b3) b4 (by rw [e94b]; exact wf_ba hw.1 (by omega) (by omega)) (fun z' f3 g1 g2 => hK3 z' f3 ?_ ?_)
        · rw [g1, e94b]
          simp only [(at1 k g hg).1, (at1 k g hg).2]
        · rw [g2, e94b]
          simp only [(at1 k g hg).1, (at1 k g hg).2]
