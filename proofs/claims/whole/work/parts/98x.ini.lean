/-! What holds behind the constructors. -/
theorem kc_Ex : ∃ h1 h2, kc_R1 = some (none, h1) ∧ h1.1.length = 89 ∧ kc_R2 h1 = some (none, h2) ∧ kc_N h2 = true ∧ kc_Ck (pd h2) = true := by
  have h := kc_P_ok
  unfold kc_P at h
  generalize kc_R1 = x at h ⊢
  rcases x with _ | ⟨_ | v, h1⟩
  · cases h
  · simp only [Bool.and_eq_true, decide_eq_true_eq] at h
    obtain ⟨h3, h4⟩ := h
    generalize hx : kc_R2 h1 = y at h4
    rcases y with _ | ⟨_ | v, h2⟩
    · cases h4
    · have h4 : (kc_N h2 && kc_Ck (pd h2)) = true := h4
      rw [Bool.and_eq_true] at h4
      exact ⟨h1, h2, rfl, h3, hx, h4.1, h4.2⟩
    · cases h4
  · cases h
section Ini
variable {h g : lm_H}
theorem kc_z_of (H : lm_RL h g) (hk : kc_Zl.all (kc_z h) = true) (c n : Nat) (v : Int32) (hm : kc_Zl.contains (c, n, v) = true) (hc : c < 1000000) : ∀ j, j < n → lm_i g c j = v := by
  intro j hj
  have h1 := List.all_eq_true.1 hk (c, n, v) (by simpa using hm)
  unfold kc_z at h1
  have h2 := List.all_eq_true.1 h1 j (List.mem_range.2 hj)
  rw [(H.2 c hc).1]
  exact of_decide_eq_true h2
theorem kc_p_of (H : lm_RL h g) (hk : kc_Pl.all (kc_p h) = true) (c j : Nat) (v : Int32) (hm : kc_Pl.contains (c, j, v) = true) (hc : c < 1000000) : lm_i g c j = v := by
  have h1 := List.all_eq_true.1 hk (c, j, v) (by simpa using hm)
  unfold kc_p at h1
  rw [(H.2 c hc).1]
  exact of_decide_eq_true h1
theorem kc_Lay (H : lm_RL h g) (h1 : kc_S h = true) (h2 : kc_F h = true) : lm_Lay g := by
  have e : h.1 = lm_S := of_decide_eq_true h1
  refine ⟨fun a x hx => by rw [H.1, e]; exact hx, fun a k r hr => ?_⟩
  obtain ⟨x, hx, _⟩ := lm_Fs_in hr
  have ha : a < 119 := (List.getElem?_eq_some_iff.mp hx).1
  unfold lm_Fs at hr
  have h3 := List.all_eq_true.1 (List.all_eq_true.1 h2 a (List.mem_range.2 ha)) (k, r) (lm_lk_mem hr)
  rw [(H.2 a (by omega)).2.2]
  exact of_decide_eq_true h3
theorem kc_wf0 {r : Nat → Int32} (h0 : ∀ j, j < 86 → r j = 0) (h1 : r 86 = -1) : wf2 r := by
  refine ⟨⟨?_, ?_, ?_, ?_, ?_, ?_, ?_, ?_, ?_, ?_, ?_, ?_⟩, ?_, ?_, ?_⟩
  · rw [h0 81 (by omega)]; decide
  · rw [h0 82 (by omega)]; decide
  · rw [h0 83 (by omega)]; decide
  · rw [h0 84 (by omega)]; decide
  · rw [h0 85 (by omega)]; decide
  · rw [h1, h0 85 (by omega)]; decide
  · intro k hk; rw [h0 k (by omega)]; decide
  · intro k hk; rw [h0 (5 + k) (by omega)]; decide
  · intro k hk; rw [h0 (11 + k) (by omega)]; decide
  · intro k hk; rw [h0 (41 + k) (by omega)]; decide
  · intro k hk; rw [h0 (71 + k) (by omega), h0 82 (by omega)]; decide
  · intro k hk; rw [h0 (76 + k) (by omega)]; decide
  · intro k hk h2
    rw [h0 81 (by omega)] at h2
    have : (0 : Int32).toInt = 0 := rfl
    omega
  · intro k q hk hq _
    exact h0 _ (by omega)
  · intro k hk
    rw [h0 (41 + (6 * k + 0)) (by omega), h0 (41 + (6 * k + 1)) (by omega), h0 (41 + (6 * k + 2)) (by omega), h0 (41 + (6 * k + 3)) (by omega), h0 (41 + (6 * k + 4)) (by omega), h0 (41 + (6 * k + 5)) (by omega)]
    decide
theorem kc_INV {xl : (Nat → Int32) × Nat} (H : lm_RL h g) (hk : kc_Ck h = true) (s1 : lm_i g 1000000 = xl.1) (s2 : lm_r g 1000000 0 = some xl.2) : INV xl 0 g := by
  unfold kc_Ck at hk
  simp only [Bool.and_eq_true] at hk
  obtain ⟨k1, k2, k3, k4, k5, k6⟩ := hk
  have z := kc_z_of H k6
  have p := kc_p_of H k5
  have hl := kc_Lay H k1 k2
  have e : g.1 = lm_S := by rw [H.1]; exact of_decide_eq_true k1
  have z94 := z 94 86 0 rfl (by omega)
  have p86 := p 94 86 (-1) rfl (by omega)
  have z10 := z 10 2 0 rfl (by omega)
  have z96 := z 96 2 0 rfl (by omega)
  have img : ∀ k c, k < 2 → iI g k c := by
    intro k c hc
    refine ⟨by rw [z10 k hc, z96 k hc], Or.inl (z96 k hc), fun q => ?_⟩
    rw [z96 k hc] at q
    exact absurd q (by decide)
  have I : INVs g := by
    refine ⟨⟨hl, ⟨⟨?_, ?_, ?_, ?_, ?_, ?_⟩, ?_, ?_, ?_, ?_, ?_, ?_⟩, kc_wf0 z94 p86, ⟨⟨?_, ?_, ?_, ?_⟩, ?_, ?_, ?_, ?_, ?_⟩⟩, ⟨img 0 76 (by omega), img 1 84 (by omega)⟩, ⟨⟨0, by omega, ?_⟩, ?_⟩, ?_, ⟨?_, ?_⟩, ?_, z 74 30 0 rfl (by omega)⟩
    · rw [p 1 0 0 rfl (by omega), z94 81 (by omega)]
    · rw [p 1 1 0 rfl (by omega), z94 82 (by omega)]
    · rw [p 1 2 0 rfl (by omega), z94 83 (by omega)]
    · rw [p 1 3 0 rfl (by omega), z94 84 (by omega)]
    · rw [p 1 4 0 rfl (by omega), z94 85 (by omega)]
    · rw [p 1 5 (-1) rfl (by omega), p86]
    · intro k hk
      rw [z 2 5 0 rfl (by omega) k hk, z94 k (by omega)]
    · intro k hk
      rw [z 3 6 0 rfl (by omega) k hk, z94 (5 + k) (by omega)]
    · intro k hk
      rw [z 4 30 0 rfl (by omega) k hk, z94 (11 + k) (by omega)]
    · intro k hk
      rw [z 5 5 6 rfl (by omega) k hk, z94 81 (by omega), if_neg]
      have : (0 : Int32).toInt = 0 := rfl
      omega
    · intro k hk
      rw [z 6 30 0 rfl (by omega) k hk, z94 (41 + k) (by omega)]
    · intro k hk
      rw [z 7 5 0 rfl (by omega) k hk, z94 (76 + k) (by omega)]
    · rw [p 0 15 0 rfl (by omega), p 92 0 0 rfl (by omega)]
    · rw [p 0 16 (-1) rfl (by omega), p 92 11 (-1) rfl (by omega)]
    · rw [p 0 17 0 rfl (by omega), p 92 6 0 rfl (by omega)]
    · rw [p 11 1 0 rfl (by omega), p 92 10 0 rfl (by omega)]
    · rw [z 75 5 0 rfl (by omega) 0 (by omega), z 93 7 0 rfl (by omega) 1 (by omega)]
    · rw [z 75 5 0 rfl (by omega) 1 (by omega), z 93 7 0 rfl (by omega) 2 (by omega)]
    · rw [z 75 5 0 rfl (by omega) 2 (by omega), z 93 7 0 rfl (by omega) 3 (by omega)]
    · rw [z 75 5 0 rfl (by omega) 3 (by omega), z 93 7 0 rfl (by omega) 5 (by omega)]
    · rw [z 75 5 0 rfl (by omega) 4 (by omega), z 93 7 0 rfl (by omega) 6 (by omega)]
    · exact p 92 10 0 rfl (by omega)
    · intro j hj
      refine ⟨0, by omega, ?_, ?_⟩
      · exact z 12 400 0 rfl (by omega) j hj
      · rw [z 98 400 0 rfl (by omega) j hj]
        decide
    · intro j hj
      have h3 := List.all_eq_true.1 k3 j (List.mem_range.2 hj)
      rw [(H.2 97 (by omega)).1]
      exact of_decide_eq_true h3
    · intro t ht q
      rw [z94 85 (by omega), q_lt0 (by omega)] at q
      exact absurd q id
    · intro t ht b hb
      have h3 := List.all_eq_true.1 k4 t (List.mem_range.2 ht)
      rw [(H.2 8 (by omega)).2.2, of_decide_eq_true h3] at hb
      cases hb
    · refine ⟨0, 0, by omega, by omega, fun _ => rfl, p 58 4 0 rfl (by omega), p 92 55 0 rfl (by omega), p 58 5 0 rfl (by omega), p 92 56 0 rfl (by omega), fun i hi => ?_, fun j hj => ?_⟩
      · omega
      · omega
  obtain ⟨n, m, cu, lo, W, B, T⟩ := tb_ex I
  have v1 := p 92 1 0 rfl (by omega)
  have v28 := p 92 28 (-1) rfl (by omega)
  have v39 := p 92 39 (-1) rfl (by omega)
  have v50 := p 92 50 (-1) rfl (by omega)
  have no : ¬ (-1 : Int32) = 0 := by decide
  refine ⟨⟨⟨?_, ?_⟩, s1, s2⟩, ⟨fun j hj => ⟨0, by omega, z 38 5 0 rfl (by omega) j hj⟩, Or.inl (p 31 2 0 rfl (by omega))⟩, 0, n, m, cu, lo, W, B, Nat.le_refl _, I, T, ⟨v1, Or.inl v28, Or.inl v39, Or.inl v50⟩, fun q => ?_, fun q => ?_, fun q => ?_⟩
  · rw [e]
    exact Nat.le_of_ble_eq_true rfl
  · unfold lm_sz
    rw [e]
    exact Nat.le_add_right _ _
  · rw [v28, v1] at q
    exact absurd q no
  · rw [v39, v1] at q
    exact absurd q no
  · rw [v50, v1] at q
    exact absurd q no
end Ini
theorem lm_RL_0 (L : Nat) (xs : Nat → Int32) (fm : Option Nat) : lm_RL kc_h0 (lm_h0 L xs fm) := by
  refine ⟨rfl, fun a ha => ⟨?_, rfl, ?_⟩⟩
  · funext j
    show (if a = 1000000 then xs j else 0) = (0 : Int32)
    rw [if_neg (by omega)]
  · funext j
    show (if a = 1000000 then some L else if a = 1000001 then fm else none) = (none : Option Nat)
    rw [if_neg (by omega), if_neg (by omega)]
theorem kc_278 {L : Nat} {xs : Nat → Int32} {fm : Option Nat} {Q Q' : Option Value → lm_H → Prop} (hQ : ∀ v g h, Q v g → lm_RN g h → Q' (v.map kv) h) (k : ∀ h, INV (xs, L) 0 h → lm_W 1300 278 18 (LL 0) [] h Q) : lm_W 1300 278 0 (lm_entry 4 [.ref 1000000]) [] (lm_h0 L xs fm) Q' := by
  obtain ⟨h1, h2, r1, l1, r2, n2, c2⟩ := kc_Ex
  obtain ⟨g1, t1, R1⟩ := lm_run_rel _ r1 (lm_RL_new (lm_RL_0 L xs fm) (0, 11))
  obtain ⟨g2, t2, R2⟩ := lm_run_rel _ r2 (lm_RL_new R1 (0, 12))
  have lg : g1.1.length = 89 := by rw [R1.1]; exact l1
  have c1 := lm_run_sc _ t1
  have c2' := lm_run_sc _ t2
  have c0 : scp (lm_h0 L xs fm) (lm_new (lm_h0 L xs fm) (0, 11)) := scp_new (Nat.le_of_ble_eq_true rfl)
  have c3 : scp g1 (lm_new g1 (0, 12)) := scp_new (by omega)
  have sc := scp_tr (scp_tr c0 c1) (scp_tr c3 c2')
  unfold kc_N at n2
  rw [Bool.and_eq_true, decide_eq_true_eq] at n2
  show lm_W 1300 278 0 [some (.ref 1000000), none, none, none] [] (lm_h0 L xs fm) Q'
  refine ls_newL (e := (11, 10023)) f_278_0 (by decide +kernel) (Nat.le_of_ble_eq_true rfl) ?_
  show lm_W 1300 278 3 [some (.ref 1000000), none, none, none] [.ref 0] (lm_new (lm_h0 L xs fm) (0, 11)) Q'
  refine ls_dup f_278_3 rfl ?_
  refine ls_spec (a := 0) f_278_4 q_278_9 [] [.ref 0] rfl (Nat.le_of_ble_eq_true rfl) ?_
  refine ls_enter (d := 1299) [some (.ref 0), none] ml_97 (Nat.le_of_ble_eq_true rfl) rfl ⟨_, _, g1, t1, ?_⟩
  show lm_W 1300 278 7 [some (.ref 1000000), none, none, none] [.ref 0] g1 Q'
  refine ls_astore_n [some (.ref 1000000), some (.ref 0), none, none] f_278_7 (Nat.le_of_ble_eq_true rfl) rfl ?_
  refine ls_newL (e := (12, 15001)) f_278_8 (by decide +kernel) (by omega) ?_
  rw [lg]
  refine ls_dup f_278_11 rfl ?_
  refine ls_spec (a := 89) f_278_12 q_278_12 [] [.ref 89] rfl (Nat.le_of_ble_eq_true rfl) ?_
  refine ls_enter (d := 1299) [some (.ref 89)] ml_157 (Nat.le_of_ble_eq_true rfl) rfl ⟨_, _, g2, t2, ?_⟩
  show lm_W 1300 278 15 [some (.ref 1000000), some (.ref 0), none, none] [.ref 89] g2 Q'
  refine ls_astore_n [some (.ref 1000000), some (.ref 0), some (.ref 89), none] f_278_15 (Nat.le_of_ble_eq_true rfl) rfl ?_
  refine ls_iconst 0 f_278_16 (by decide) ?_
  refine ls_istore_n [some (.ref 1000000), some (.ref 0), some (.ref 89), some (.int 0)] f_278_17 (Nat.le_of_ble_eq_true rfl) rfl ?_
  have eL : kL (LL 0) = [some (.ref 1000000), some (.ref 0), some (.ref 89), some (.int 0)] := by
    show [some (Value.ref (kp 1000000)), some (Value.ref (kp 0)), some (Value.ref (kp 92)), some (Value.int (Int32.ofNat 0))] = _
    rw [kp_hi (Nat.le_refl _), kp_lo (show 0 < 46 by decide), kp_mid (show 49 ≤ 92 by decide) (by decide)]
    rfl
  rw [← eL]
  have I0 : INV (xs, L) 0 (pd g2) := by
    refine kc_INV (pd_RL R2) c2 ?_ ?_
    · have e : lm_i (pd g2) 1000000 = lm_i g2 1000000 := by
        funext j
        show g2.2.1 (kp 1000000) j = _
        rw [kp_hi (Nat.le_refl _)]
        rfl
      rw [e, sc.1]
      rfl
    · have e : lm_r (pd g2) 1000000 = lm_r g2 1000000 := by
        funext j
        show (if (1000000 : Nat) = 1000000 then g2.2.2.2 1000000 j else (g2.2.2.2 (kp 1000000) j).map kq) = g2.2.2.2 1000000 j
        rw [if_pos rfl]
      rw [e, sc.2]
      rfl
  refine lm_W_ren (st := []) (k (pd g2) I0) (pd_RN ?_ (fun x hx => ?_)) hQ
  · rw [R2.1]
    exact n2.1
  · rw [R2.1] at hx
    exact of_decide_eq_true (List.all_eq_true.1 n2.2 x hx)
theorem lm_S_sum : (lm_S.map lm_size).sum ≤ 5000000 := by decide +kernel
theorem kc_all (L : Nat) (xs : Nat → Int32) (fm : Option Nat) (hL : L ≤ 3072) (_ : fm = none ∨ fm = some 1000040) : ∃ (n : Nat) (h' : lm_H), lm_run n 1300 278 0 (lm_entry 4 [.ref 1000000]) [] (lm_h0 L xs fm) = some (some (.int 1), h') ∧ h'.1.length ≤ 600000 ∧ lm_sz h' ≤ 7302250 := by
  have w : lm_W 1300 278 0 (lm_entry 4 [.ref 1000000]) [] (lm_h0 L xs fm) (fun v h' => v = some (.int 1) ∧ h'.1.length ≤ 600000 ∧ lm_sz h' ≤ 7302250) := by
    refine kc_278 (Q := fun v h' => v = some (.int 1) ∧ h'.1.length ≤ 600000 ∧ lm_sz h' ≤ 7302250) (fun v g h ⟨e, a, b⟩ R => ⟨by rw [e]; rfl, by rw [RN_len R]; omega, Nat.le_trans (RN_sz R) b⟩) (fun h H => lp_278 (xl := (xs, L)) (by omega) hL (fun m h' hm I => ?_) (L + 6) 0 0 h (Nat.le_refl _) (Nat.zero_le _) (Nat.le_refl _) H)
    have := lm_S_sum
    obtain ⟨⟨b1, b2⟩, _⟩ := I.1
    exact ⟨rfl, by omega, by omega⟩
  obtain ⟨n, v, h', h1, rfl, h2, h3⟩ := w
  exact ⟨n, h', h1, h2, h3⟩
