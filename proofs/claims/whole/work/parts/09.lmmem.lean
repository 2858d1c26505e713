theorem lm_E_obj {base : Nat} {pre : Nat → Nat} {cs : Nat → ClassId} {h : lm_H} {a ci : Nat} : lm_E base pre cs h a (0, ci) = .inr (ci, (List.range (lm_nf ci)).map (lm_fv base pre h a ci)) := rfl
theorem lm_E_int {base : Nat} {pre : Nat → Nat} {cs : Nat → ClassId} {h : lm_H} {a g n : Nat} (h1 : 1 ≤ g) (h2 : g ≤ 3) : lm_E base pre cs h a (g, n) = .inl (cs g, n, .inl (h.2.1 a)) := by
  unfold lm_E
  rw [if_neg (by simp only; omega), if_neg (by simp only; omega), if_neg (by simp only; omega)]
theorem lm_E_long {base : Nat} {pre : Nat → Nat} {cs : Nat → ClassId} {h : lm_H} {a n : Nat} : lm_E base pre cs h a (4, n) = .inl (cs 4, n, .inr (.inl (h.2.2.1 a))) := rfl
theorem lm_E_ref {base : Nat} {pre : Nat → Nat} {cs : Nat → ClassId} {h : lm_H} {a g n : Nat} (h1 : 5 ≤ g) : lm_E base pre cs h a (g, n) = .inl (cs g, n, .inr (.inr (.inr (.inr (fun j => (h.2.2.2 a j).map (lm_ad base pre)))))) := by
  unfold lm_E
  rw [if_neg (by simp only; omega), if_neg (by simp only; omega), if_pos (by simp only; omega)]
theorem lm_nf_q {ci : Nat} {q : vw_C} (h : vwCl[ci]? = some q) : lm_nf ci = q.2.2 := by
  unfold lm_nf
  rw [List.getD_eq_getElem?_getD, List.getElem?_map, h]
  rfl
theorem lm_cl_lt {ci : Nat} (h : ci < 13) : ∃ q, vwCl[ci]? = some q := ⟨vwCl[ci]'h, List.getElem?_eq_getElem h⟩
theorem lm_fs_get {base : Nat} {pre : Nat → Nat} {h : lm_H} {a ci k : Nat} (hk : k < lm_nf ci) : ((List.range (lm_nf ci)).map (lm_fv base pre h a ci))[k]? = some (lm_fv base pre h a ci k) := by
  rw [List.getElem?_map, List.getElem?_range hk]
  rfl
/-- what a store leaves of the relation -/
theorem lm_R_store {D : va_G} {base : Nat} {pre : Nat → Nat} {cs : Nat → ClassId} {sL : Nat} {xs : Nat → Int32} {h h' : lm_H} {H H1 : Heap} {a : Nat} {x : Nat × Nat} {E' : va_E} (hR : lm_R D base pre cs sL xs h H) (hx : h.1[a]? = some x) (ha : a < 1000000) (hs : h'.1 = h.1)
    (ho : ∀ b, b ≠ a → h'.2.1 b = h.2.1 b ∧ h'.2.2.1 b = h.2.2.1 b ∧ h'.2.2.2 b = h.2.2.2 b) (hE : lm_E base pre cs h' a x = E') (hP : va_P D vwCl ((lm_ws base pre cs h).set a (base + a, E')) H1) : lm_R D base pre cs sL xs h' H1 := by
  obtain ⟨-, h2, h3, h4, h5, h6⟩ := hR
  have hn : (1000000 : Nat) ≠ a := by omega
  have hn1 : (1000001 : Nat) ≠ a := by omega
  refine ⟨?_, by rw [hs]; exact h2, by rw [hs]; exact h3, ?_, ?_, ?_⟩
  · rw [lm_ws_set hx hs ho, hE]
    exact hP
  · unfold lm_r at h4 ⊢
    rw [(ho _ hn).2.2]
    exact h4
  · unfold lm_i at h5 ⊢
    rw [(ho _ hn).1]
    exact h5
  · unfold lm_r at h6 ⊢
    rw [(ho _ hn1).2.2]
    exact h6
theorem lm_fs_set {base : Nat} {pre : Nat → Nat} {h h' : lm_H} {a ci k : Nat} {v : Value} (hk : k < lm_nf ci) (he : ∀ j, j < lm_nf ci → lm_fv base pre h' a ci j = if j = k then v else lm_fv base pre h a ci j) :
    (List.range (lm_nf ci)).map (lm_fv base pre h' a ci) = ((List.range (lm_nf ci)).map (lm_fv base pre h a ci)).set k v := by
  apply List.ext_getElem?
  intro j
  rw [List.getElem?_set, List.length_map, List.length_range]
  by_cases hj : j < lm_nf ci
  · rw [lm_fs_get hj, he j hj]
    by_cases hkj : k = j
    · subst hkj
      rw [if_pos rfl, if_pos rfl, if_pos hk]
    · rw [if_neg (fun h => hkj h.symm), if_neg hkj, lm_fs_get hj]
  · rw [List.getElem?_eq_none (by simp; omega)]
    by_cases hkj : k = j
    · omega
    · rw [if_neg hkj, List.getElem?_eq_none (by simp; omega)]
section LmMem
variable {p : Program} {l : Launch} {e : Env} {R : Room} {s : State} {m : MethodId} {args : Array Value} {below : List Frame} {meth : Method} {c : Code} {D : va_G} {base : Nat} {pre : Nat → Nat} {cs : Nat → ClassId} {sL : Nat} {xs : Nat → Int32} {M d : Nat} {h0 : lm_H} {Q : State → Prop}
theorem lm_okF_spec {o k : Nat} {f : Nat × Nat × Bool × Nat} (hf : lm_lk lm_pfs o k = some f) : ∃ q, vwCl[f.1]? = some q ∧ f.2.1 < q.2.2 ∧ (q.2.1 f.2.1).1 = q.1 ∧ parseFieldDescriptor (q.2.1 f.2.1).2.2.1 = some (lm_ty f.1 f.2.1) ∧
    lm_wd f.2.2.2 = some (if f.2.2.1 = true then .fieldLinkNest (lm_Rs.getD o "") k q.1 (q.2.1 f.2.1).2.1 (q.2.1 f.2.1).2.2.1 "SoleGuest" else .fieldLink (lm_Rs.getD o "") k q.1 (q.2.1 f.2.1).2.1 (q.2.1 f.2.1).2.2.1) := by
  have hk := lm_pfs_ok hf
  unfold lm_okF at hk
  cases hq : vwCl[f.1]? with
  | none => rw [hq] at hk; cases hk
  | some q =>
    rw [hq] at hk
    simp only [Bool.and_eq_true, decide_eq_true_eq] at hk
    exact ⟨q, rfl, hk.1, hk.2.1, hk.2.2.1, hk.2.2.2⟩

theorem lm_st_getfield {h : lm_H} {len pc : Nat} {L : lm_L} {st : List Value} {rty : Option FieldType} {RT : Option Value → Prop} {CL : Nat → List Value → List Value → Prop} {k : Nat} (hF : lm_F p R s m args meth c D base pre cs sL xs M d h0) (hdg : decode (lm_cs.getD M ⟨#[]⟩) pc = .ok (.getfield k, len)) (hlen : lm_lenok (.getfield k, len) = true)
    (hs : lm_stepK (lm_ct M) (lm_sh h) (lm_r h) (lm_own.getD M 0) rty (.getfield k) len pc L st h False (fun pc' L' st' h' => lm_rm R h0 h' ∧ lm_G p l e R s m args below meth c D base pre cs sL xs (lm_ml.getD M 0) h0 Q pc' L' st' h') RT CL) :
    lm_G p l e R s m args below meth c D base pre cs sL xs (lm_ml.getD M 0) h0 Q pc L st h := by
  obtain ⟨hx, hb, hml, hown, hts, hE, hsz, hct, hfr, hlo⟩ := hF
  intro hL h01 h02 H locs ls hR hS hl
  obtain rfl : len = 3 := by simpa [lm_lenok] using hlen
  replace hs := lm_pR_F hs
  obtain ⟨a, s1, rfl, hs⟩ := hs
  replace hs := lm_o_F hs
  obtain ⟨x, hx1, hs⟩ := hs
  replace hs := lm_if_B hs
  rcases hs with ⟨h8, hs⟩ | ⟨h8, hs⟩
  · obtain ⟨j, hj, rfl⟩ := lm_str hR.2.2.1 hx1 h8
    replace hs := lm_o_F hs
    obtain ⟨f, hf, hs⟩ := hs
    have hk := lm_pSs_ok hf
    unfold lm_okV at hk
    have hk := of_decide_eq_true hk
    obtain ⟨-, q2, q3, -⟩ := hE.2.2.2.1.1 j hj
    rw [List.map_cons, lm_vr_pre]
    replace hs := lm_if_B hs
    rcases hs with ⟨hc, hs⟩ | ⟨hc, hs⟩
    · rw [if_pos hc] at hk
      have hq := hs.2 hL h01 h02 H locs ls hR hS hl
      rw [List.map_cons, show 1000000 + (1 + j) + 19 = 1000000 + (20 + j) by omega, lm_vr_pre] at hq
      exact vk_getf hx hb q3 hS hown (hts _ (lm_wT hk rfl)) (fun _ h => h) hdg hq
    · rw [if_neg hc] at hk
      exact vk_getf hx hb q2 hS hown (hts _ (lm_wT hk rfl)) (fun _ h => h) hdg (hs.2 hL h01 h02 H locs ls hR hS hl)
  · replace hs := lm_o_F hs
    obtain ⟨f, hf, hs⟩ := hs
    replace hs := lm_if_F hs
    obtain ⟨⟨hc1, hc2⟩, hs⟩ := hs
    obtain ⟨x1, x2⟩ := x
    simp only at hc1 hc2
    subst hc1
    subst hc2
    obtain ⟨ha, hxa⟩ := lm_sh_lt hx1 (by simp)
    obtain ⟨q, hq, hkN, hdecl, -, hw⟩ := lm_okF_spec hf
    have hkn : f.2.1 < lm_nf f.1 := by rw [lm_nf_q hq]; exact hkN
    rw [List.map_cons, lm_vr_lt ha]
    have hn := hs.2 hL h01 h02 H locs ls hR hS hl
    cases hnest : f.2.2.1 with
    | true =>
      rw [hnest, if_pos rfl] at hw
      exact va_getN hx hb hts (lm_lay hq) hown hE.1 hR.1 a (lm_ws_get hxa) hq f.2.1 hkN (hts _ (lm_wT hw rfl)) (by rw [hdecl]; exact fun _ h => h) (v := lm_fv base pre h a f.1 f.2.1) (lm_fs_get hkn) hdg hn
    | false =>
      rw [hnest, if_neg (by decide)] at hw
      exact va_get hx hb hts (lm_lay hq) hown hE.1 hR.1 a (lm_ws_get hxa) hq f.2.1 hkN (hts _ (lm_wT hw rfl)) (by rw [hdecl]; exact fun _ h => h) (v := lm_fv base pre h a f.1 f.2.1) (lm_fs_get hkn) hdg hn

theorem lm_st_putfield {h : lm_H} {len pc : Nat} {L : lm_L} {st : List Value} {rty : Option FieldType} {RT : Option Value → Prop} {CL : Nat → List Value → List Value → Prop} {k : Nat} (hF : lm_F p R s m args meth c D base pre cs sL xs M d h0) (hdg : decode (lm_cs.getD M ⟨#[]⟩) pc = .ok (.putfield k, len)) (hlen : lm_lenok (.putfield k, len) = true)
    (hs : lm_stepK (lm_ct M) (lm_sh h) (lm_r h) (lm_own.getD M 0) rty (.putfield k) len pc L st h False (fun pc' L' st' h' => lm_rm R h0 h' ∧ lm_G p l e R s m args below meth c D base pre cs sL xs (lm_ml.getD M 0) h0 Q pc' L' st' h') RT CL) :
    lm_G p l e R s m args below meth c D base pre cs sL xs (lm_ml.getD M 0) h0 Q pc L st h := by
  obtain ⟨hx, hb, hml, hown, hts, hE, hsz, hct, hfr, hlo⟩ := hF
  intro hL h01 h02 H locs ls hR hS hl
  obtain rfl : len = 3 := by simpa [lm_lenok] using hlen
  replace hs := lm_o_F hs
  obtain ⟨f, hf, hs⟩ := hs
  obtain ⟨q, hq, hkN, hdecl, hty, hw⟩ := lm_okF_spec hf
  have hkn : f.2.1 < lm_nf f.1 := by rw [lm_nf_q hq]; exact hkN
  have hkl : f.2.1 < ((List.range (lm_nf f.1)).map (lm_fv base pre h 0 f.1)).length := by simpa using hkn
  have hnm := lm_nmok hq
  have htk := lm_tyok hq
  replace hs := lm_if_B hs
  rcases hs with ⟨hk1, hs⟩ | ⟨hk1, hs⟩
  · replace hs := lm_pL_F hs
    obtain ⟨v, s1, rfl, hs⟩ := hs
    replace hs := lm_pR_F hs
    obtain ⟨a, s2, rfl, hs⟩ := hs
    replace hs := lm_o_F hs
    obtain ⟨x, hx1, hs⟩ := hs
    replace hs := lm_if_F hs
    obtain ⟨⟨hc1, hc2⟩, hs⟩ := hs
    obtain ⟨x1, x2⟩ := x
    simp only at hc1 hc2
    subst hc1
    subst hc2
    obtain ⟨ha, hxa⟩ := lm_sh_lt hx1 (by simp)
    rw [List.map_cons, List.map_cons, lm_vr_lt ha]
    have ho : ∀ b, b ≠ a → (lm_sl h a f.2.1 v).2.1 b = h.2.1 b ∧ (lm_sl h a f.2.1 v).2.2.1 b = h.2.2.1 b ∧ (lm_sl h a f.2.1 v).2.2.2 b = h.2.2.2 b := fun b hb => ⟨rfl, lm_u_ne _ _ _ _ hb, rfl⟩
    have hEq : lm_E base pre cs (lm_sl h a f.2.1 v) a (0, f.1) = .inr (f.1, ((List.range (lm_nf f.1)).map (lm_fv base pre h a f.1)).set f.2.1 (.long v)) := by
      rw [lm_E_obj, lm_fs_set hkn]
      intro j hj
      unfold lm_fv lm_fget lm_l lm_i lm_r
      by_cases hjk : j = f.2.1
      · subst hjk
        rw [if_pos rfl]
        rw [hk1]; simp [lm_sl, lm_u, lm_v]
      · rw [if_neg hjk]
        show lm_v base pre _ = lm_v base pre _
        cases lm_fk (lm_ty f.1 j) with | zero => rfl | succ n => cases n with | zero => simp [lm_sl, lm_u, hjk] | succ n => cases n <;> rfl
    have hgo : ∀ (H1 : Heap) (locs1 : List Loc), va_P D vwCl ((lm_ws base pre cs h).set a (base + a, .inr (f.1, ((List.range (lm_nf f.1)).map (lm_fv base pre h a f.1)).set f.2.1 (.long v)))) H1 → va_D (lm_A base) ((lm_ws base pre cs h).set a (base + a, .inr (f.1, ((List.range (lm_nf f.1)).map (lm_fv base pre h a f.1)).set f.2.1 (.long v)))) → va_S (lm_A base) s.heap H1 locs1 → W p l e R s m args below meth c H1 locs1 (h.1.length - h0.1.length) (lm_sz h - lm_sz h0) Q (F0 m (pc + 3) ls (s2.map (lm_v base pre))) :=
      fun H1 locs1 hP1 _ hS1 => hs.2 hL h01 h02 H1 locs1 ls (lm_R_store hR hxa ha rfl ho hEq hP1) hS1 hl
    cases hnest : f.2.2.1 with
    | true =>
      rw [hnest, if_pos rfl] at hw
      exact va_putN hx hb hts (lm_lay hq) _ htk hnm hown hE.1 hR.1 (lm_ws_D base pre cs h) hS a (lm_ws_get hxa) hq f.2.1 hkN (hts _ (lm_wT hw rfl)) (by rw [hdecl]; exact fun _ h => h) ((lm_fin hq f.2.1 hkN).trans (lm_fkF (fun h9 => absurd (hk1.symm.trans h9) (by decide)))) hty (by rw [lm_fkL hk1]; rfl) (by rw [lm_fkL hk1]; rfl) (by simpa using hkn) hdg hgo
    | false =>
      rw [hnest, if_neg (by decide)] at hw
      exact va_put hx hb hts (lm_lay hq) _ htk hnm hown hE.1 hR.1 (lm_ws_D base pre cs h) hS a (lm_ws_get hxa) hq f.2.1 hkN (hts _ (lm_wT hw rfl)) (by rw [hdecl]; exact fun _ h => h) ((lm_fin hq f.2.1 hkN).trans (lm_fkF (fun h9 => absurd (hk1.symm.trans h9) (by decide)))) hty (by rw [lm_fkL hk1]; rfl) (by rw [lm_fkL hk1]; rfl) (by simpa using hkn) hdg hgo
  · replace hs := lm_if_B hs
    rcases hs with ⟨hk2, hs⟩ | ⟨hk2, hs⟩
    · replace hs := lm_if_F hs
      obtain ⟨⟨hct1, hof, hnn⟩, hs⟩ := hs
      replace hs := lm_pA_F hs
      obtain ⟨v, s1, rfl, hs⟩ := hs
      replace hs := lm_pR_F hs
      obtain ⟨a, s2, rfl, hs⟩ := hs
      replace hs := lm_o_F hs
      obtain ⟨x, hx1, hs⟩ := hs
      replace hs := lm_if_F hs
      obtain ⟨⟨hc1, hc2, -⟩, hs⟩ := hs
      obtain ⟨x1, x2⟩ := x
      simp only at hc1 hc2
      subst hc1
      subst hc2
      obtain ⟨ha, hxa⟩ := lm_sh_lt hx1 (by simp)
      rw [List.map_cons, List.map_cons, lm_vr_lt ha]
      rw [lm_v_rf]
      have ho : ∀ b, b ≠ a → (lm_sr h a f.2.1 v).2.1 b = h.2.1 b ∧ (lm_sr h a f.2.1 v).2.2.1 b = h.2.2.1 b ∧ (lm_sr h a f.2.1 v).2.2.2 b = h.2.2.2 b := fun b hb => ⟨rfl, rfl, lm_u_ne _ _ _ _ hb⟩
      have hEq : lm_E base pre cs (lm_sr h a f.2.1 v) a (0, f.1) = .inr (f.1, ((List.range (lm_nf f.1)).map (lm_fv base pre h a f.1)).set f.2.1 (va_rf (v.map (lm_ad base pre)))) := by
        rw [lm_E_obj, lm_fs_set hkn]
        intro j hj
        unfold lm_fv lm_fget lm_l lm_i lm_r
        by_cases hjk : j = f.2.1
        · subst hjk
          rw [if_pos rfl]
          rw [hk2]; simp [lm_sr, lm_u, lm_v_rf]
        · rw [if_neg hjk]
          show lm_v base pre _ = lm_v base pre _
          cases lm_fk (lm_ty f.1 j) with | zero => rfl | succ n => cases n with | zero => rfl | succ n => cases n with | zero => simp [lm_sr, lm_u, hjk] | succ n => rfl
      have hgo : ∀ (H1 : Heap) (locs1 : List Loc), va_P D vwCl ((lm_ws base pre cs h).set a (base + a, .inr (f.1, ((List.range (lm_nf f.1)).map (lm_fv base pre h a f.1)).set f.2.1 (va_rf (v.map (lm_ad base pre)))))) H1 → va_D (lm_A base) ((lm_ws base pre cs h).set a (base + a, .inr (f.1, ((List.range (lm_nf f.1)).map (lm_fv base pre h a f.1)).set f.2.1 (va_rf (v.map (lm_ad base pre)))))) → va_S (lm_A base) s.heap H1 locs1 → W p l e R s m args below meth c H1 locs1 (h.1.length - h0.1.length) (lm_sz h - lm_sz h0) Q (F0 m (pc + 3) ls (s2.map (lm_v base pre))) :=
        fun H1 locs1 hP1 _ hS1 => hs.2 hL h01 h02 H1 locs1 ls (lm_R_store hR hxa ha rfl ho hEq hP1) hS1 hl
      rw [hnn, if_neg (by decide)] at hw
      exact va_putF hx hb hts (lm_lay hq) _ htk hnm hown hE.1 hR.1 (lm_ws_D base pre cs h) hS a (lm_ws_get hxa) hq f.2.1 hkN (hts _ (lm_wT hw rfl)) (by rw [hdecl]; exact fun _ h => h) ((lm_fin hq f.2.1 hkN).trans (lm_fkT hk2)) (hct hct1) (by rw [hdecl, ← hof]; exact (lm_Rq hq).symm) hty (lm_fkR hk2 _).1 (lm_fkR hk2 _).2 (by simpa using hkn) hdg hgo
    · replace hs := lm_pI_F hs
      obtain ⟨v, s1, rfl, hs⟩ := hs
      replace hs := lm_pR_F hs
      obtain ⟨a, s2, rfl, hs⟩ := hs
      replace hs := lm_o_F hs
      obtain ⟨x, hx1, hs⟩ := hs
      replace hs := lm_if_F hs
      obtain ⟨⟨hc1, hc2⟩, hs⟩ := hs
      obtain ⟨x1, x2⟩ := x
      simp only at hc1 hc2
      subst hc1
      subst hc2
      obtain ⟨ha, hxa⟩ := lm_sh_lt hx1 (by simp)
      rw [List.map_cons, List.map_cons, lm_vr_lt ha]
      replace hs := lm_nar_F hs
      obtain ⟨hnar, hs⟩ := hs
      have ho : ∀ b, b ≠ a → (lm_si h a f.2.1 v).2.1 b = h.2.1 b ∧ (lm_si h a f.2.1 v).2.2.1 b = h.2.2.1 b ∧ (lm_si h a f.2.1 v).2.2.2 b = h.2.2.2 b := fun b hb => ⟨lm_u_ne _ _ _ _ hb, rfl, rfl⟩
      have hEq : lm_E base pre cs (lm_si h a f.2.1 v) a (0, f.1) = .inr (f.1, ((List.range (lm_nf f.1)).map (lm_fv base pre h a f.1)).set f.2.1 (.int v)) := by
        rw [lm_E_obj, lm_fs_set hkn]
        intro j hj
        unfold lm_fv lm_fget lm_l lm_i lm_r
        by_cases hjk : j = f.2.1
        · subst hjk
          rw [if_pos rfl]
          cases hz : lm_fk (lm_ty f.1 f.2.1) with | zero => simp [lm_si, lm_u, lm_v] | succ n => cases n with | zero => exact absurd hz hk1 | succ n => cases n with | zero => exact absurd hz hk2 | succ n => simp [lm_si, lm_u, lm_v]
        · rw [if_neg hjk]
          show lm_v base pre _ = lm_v base pre _
          cases lm_fk (lm_ty f.1 j) with | zero => simp [lm_si, lm_u, hjk] | succ n => cases n with | zero => rfl | succ n => cases n with | zero => rfl | succ n => simp [lm_si, lm_u, hjk]
      have hgo : ∀ (H1 : Heap) (locs1 : List Loc), va_P D vwCl ((lm_ws base pre cs h).set a (base + a, .inr (f.1, ((List.range (lm_nf f.1)).map (lm_fv base pre h a f.1)).set f.2.1 (.int v)))) H1 → va_D (lm_A base) ((lm_ws base pre cs h).set a (base + a, .inr (f.1, ((List.range (lm_nf f.1)).map (lm_fv base pre h a f.1)).set f.2.1 (.int v)))) → va_S (lm_A base) s.heap H1 locs1 → W p l e R s m args below meth c H1 locs1 (h.1.length - h0.1.length) (lm_sz h - lm_sz h0) Q (F0 m (pc + 3) ls (s2.map (lm_v base pre))) :=
        fun H1 locs1 hP1 _ hS1 => hs.2 hL h01 h02 H1 locs1 ls (lm_R_store hR hxa ha rfl ho hEq hP1) hS1 hl
      have hfit := lm_fitI (lm_tyk hq f.2.1 hkN) hk1 hk2 hnar
      cases hnest : f.2.2.1 with
      | true =>
        rw [hnest, if_pos rfl] at hw
        exact va_putN hx hb hts (lm_lay hq) _ htk hnm hown hE.1 hR.1 (lm_ws_D base pre cs h) hS a (lm_ws_get hxa) hq f.2.1 hkN (hts _ (lm_wT hw rfl)) (by rw [hdecl]; exact fun _ h => h) ((lm_fin hq f.2.1 hkN).trans (lm_fkF hk2)) hty hfit.1 hfit.2 (by simpa using hkn) hdg hgo
      | false =>
        rw [hnest, if_neg (by decide)] at hw
        exact va_put hx hb hts (lm_lay hq) _ htk hnm hown hE.1 hR.1 (lm_ws_D base pre cs h) hS a (lm_ws_get hxa) hq f.2.1 hkN (hts _ (lm_wT hw rfl)) (by rw [hdecl]; exact fun _ h => h) ((lm_fin hq f.2.1 hkN).trans (lm_fkF hk2)) hty hfit.1 hfit.2 (by simpa using hkn) hdg hgo

theorem lm_st_iaload {h : lm_H} {len pc : Nat} {L : lm_L} {st : List Value} {rty : Option FieldType} {RT : Option Value → Prop} {CL : Nat → List Value → List Value → Prop} (hF : lm_F p R s m args meth c D base pre cs sL xs M d h0) (hdg : decode (lm_cs.getD M ⟨#[]⟩) pc = .ok (.iaload, len)) (hlen : lm_lenok (.iaload, len) = true)
    (hs : lm_stepK (lm_ct M) (lm_sh h) (lm_r h) (lm_own.getD M 0) rty (.iaload) len pc L st h False (fun pc' L' st' h' => lm_rm R h0 h' ∧ lm_G p l e R s m args below meth c D base pre cs sL xs (lm_ml.getD M 0) h0 Q pc' L' st' h') RT CL) :
    lm_G p l e R s m args below meth c D base pre cs sL xs (lm_ml.getD M 0) h0 Q pc L st h := by
  obtain ⟨hx, hb, hml, hown, hts, hE, hsz, hct, hfr, hlo⟩ := hF
  intro hL h01 h02 H locs ls hR hS hl
  obtain rfl : len = 1 := by simpa [lm_lenok] using hlen
  replace hs := lm_pI_F hs
  obtain ⟨i, s1, rfl, hs⟩ := hs
  replace hs := lm_pR_F hs
  obtain ⟨a, s2, rfl, hs⟩ := hs
  replace hs := lm_o_F hs
  obtain ⟨x, hx1, hs⟩ := hs
  obtain ⟨x1, x2⟩ := x
  replace hs := lm_if_F hs
  obtain ⟨hc, hs⟩ := hs
  rcases hc with hc | hc
  · simp only at hc
    subst hc
    replace hs := lm_in_F hs
    obtain ⟨hin, hs⟩ := hs
    obtain ⟨ha, hxa⟩ := lm_sh_lt hx1 (by simp)
    rw [List.map_cons, List.map_cons, lm_vr_lt ha]
    exact va_iald hx hb hE.1 hR.1 a 0 ((lm_ws_get hxa).trans (by rw [lm_E_int (by omega) (by omega)] <;> rfl)) rfl hin hdg (hs.2 hL h01 h02 H locs ls hR hS hl)
  · obtain ⟨rfl, h2⟩ := lm_scr hR.2.2.1 hx1 hc
    replace hs := lm_in_F hs
    obtain ⟨hin, hs⟩ := hs
    simp only at h2
    rw [h2, hR.2.2.2.1] at hin
    have hn := hs.2 hL h01 h02 H locs ls hR hS hl
    rw [List.map_cons, hR.2.2.2.2.1] at hn
    rw [List.map_cons, List.map_cons, show (1000000 : Nat) = 1000000 + 0 by rfl, lm_vr_pre]
    exact va_sld hx hb hE.2.2.1.1 (Nat.lt_of_lt_of_le hE.2.2.1.2 hE.2.1) (Nat.not_le.mpr hE.2.2.1.2) hS hin hdg hn

theorem lm_st_baload {h : lm_H} {len pc : Nat} {L : lm_L} {st : List Value} {rty : Option FieldType} {RT : Option Value → Prop} {CL : Nat → List Value → List Value → Prop} (hF : lm_F p R s m args meth c D base pre cs sL xs M d h0) (hdg : decode (lm_cs.getD M ⟨#[]⟩) pc = .ok (.baload, len)) (hlen : lm_lenok (.baload, len) = true)
    (hs : lm_stepK (lm_ct M) (lm_sh h) (lm_r h) (lm_own.getD M 0) rty (.baload) len pc L st h False (fun pc' L' st' h' => lm_rm R h0 h' ∧ lm_G p l e R s m args below meth c D base pre cs sL xs (lm_ml.getD M 0) h0 Q pc' L' st' h') RT CL) :
    lm_G p l e R s m args below meth c D base pre cs sL xs (lm_ml.getD M 0) h0 Q pc L st h := by
  obtain ⟨hx, hb, hml, hown, hts, hE, hsz, hct, hfr, hlo⟩ := hF
  intro hL h01 h02 H locs ls hR hS hl
  obtain rfl : len = 1 := by simpa [lm_lenok] using hlen
  replace hs := lm_pI_F hs
  obtain ⟨i, s1, rfl, hs⟩ := hs
  replace hs := lm_pR_F hs
  obtain ⟨a, s2, rfl, hs⟩ := hs
  replace hs := lm_o_F hs
  obtain ⟨x, hx1, hs⟩ := hs
  obtain ⟨x1, x2⟩ := x
  replace hs := lm_if_B hs
  rcases hs with ⟨h9, hs⟩ | ⟨h9, hs⟩
  · obtain ⟨j, hj, rfl, h2⟩ := lm_byt hR.2.2.1 hx1 h9
    replace hs := lm_in_F hs
    obtain ⟨hin, hs⟩ := hs
    simp only at h2
    subst h2
    obtain ⟨-, -, -, q4⟩ := hE.2.2.2.1.1 x2 hj
    have hn := hs.2 hL h01 h02 H locs ls hR hS hl
    rw [List.map_cons, List.map_cons, lm_vr_pre]
    refine va_tb hx hb q4 hS ?_ rfl hdg hn
    have e9 : (lm_sb.map List.length).getD x2 0 = (lm_sb.getD x2 []).length := by
      rw [List.getD_eq_getElem?_getD, List.getD_eq_getElem?_getD, List.getElem?_map]
      cases lm_sb[x2]? <;> rfl
    rw [e9]
    exact hin
  · replace hs := lm_if_F hs
    obtain ⟨hc, hs⟩ := hs
    rcases hc with hc | hc
    · simp only at hc
      subst hc
      replace hs := lm_in_F hs
      obtain ⟨hin, hs⟩ := hs
      obtain ⟨ha, hxa⟩ := lm_sh_lt hx1 (by simp)
      rw [List.map_cons, List.map_cons, lm_vr_lt ha]
      exact va_zald hx hb hE.1 hR.1 a 1 ((lm_ws_get hxa).trans (by rw [lm_E_int (by omega) (by omega)] <;> rfl)) rfl hin hdg (hs.2 hL h01 h02 H locs ls hR hS hl)
    · simp only at hc
      subst hc
      replace hs := lm_in_F hs
      obtain ⟨hin, hs⟩ := hs
      obtain ⟨ha, hxa⟩ := lm_sh_lt hx1 (by simp)
      rw [List.map_cons, List.map_cons, lm_vr_lt ha]
      exact va_bald hx hb hE.1 hR.1 a 2 ((lm_ws_get hxa).trans (by rw [lm_E_int (by omega) (by omega)] <;> rfl)) rfl hin hdg (hs.2 hL h01 h02 H locs ls hR hS hl)

theorem lm_st_laload {h : lm_H} {len pc : Nat} {L : lm_L} {st : List Value} {rty : Option FieldType} {RT : Option Value → Prop} {CL : Nat → List Value → List Value → Prop} (hF : lm_F p R s m args meth c D base pre cs sL xs M d h0) (hdg : decode (lm_cs.getD M ⟨#[]⟩) pc = .ok (.laload, len)) (hlen : lm_lenok (.laload, len) = true)
    (hs : lm_stepK (lm_ct M) (lm_sh h) (lm_r h) (lm_own.getD M 0) rty (.laload) len pc L st h False (fun pc' L' st' h' => lm_rm R h0 h' ∧ lm_G p l e R s m args below meth c D base pre cs sL xs (lm_ml.getD M 0) h0 Q pc' L' st' h') RT CL) :
    lm_G p l e R s m args below meth c D base pre cs sL xs (lm_ml.getD M 0) h0 Q pc L st h := by
  obtain ⟨hx, hb, hml, hown, hts, hE, hsz, hct, hfr, hlo⟩ := hF
  intro hL h01 h02 H locs ls hR hS hl
  obtain rfl : len = 1 := by simpa [lm_lenok] using hlen
  replace hs := lm_pI_F hs
  obtain ⟨i, s1, rfl, hs⟩ := hs
  replace hs := lm_pR_F hs
  obtain ⟨a, s2, rfl, hs⟩ := hs
  replace hs := lm_o_F hs
  obtain ⟨x, hx1, hs⟩ := hs
  obtain ⟨x1, x2⟩ := x
  replace hs := lm_if_F hs
  obtain ⟨hc, hs⟩ := hs
  simp only at hc
  subst hc
  replace hs := lm_in_F hs
  obtain ⟨hin, hs⟩ := hs
  obtain ⟨ha, hxa⟩ := lm_sh_lt hx1 (by simp)
  rw [List.map_cons, List.map_cons, lm_vr_lt ha]
  exact va_lald hx hb hE.1 hR.1 a 3 ((lm_ws_get hxa).trans (by rw [lm_E_long] <;> rfl)) rfl hin hdg (hs.2 hL h01 h02 H locs ls hR hS hl)

theorem lm_st_aaload {h : lm_H} {len pc : Nat} {L : lm_L} {st : List Value} {rty : Option FieldType} {RT : Option Value → Prop} {CL : Nat → List Value → List Value → Prop} (hF : lm_F p R s m args meth c D base pre cs sL xs M d h0) (hdg : decode (lm_cs.getD M ⟨#[]⟩) pc = .ok (.aaload, len)) (hlen : lm_lenok (.aaload, len) = true)
    (hs : lm_stepK (lm_ct M) (lm_sh h) (lm_r h) (lm_own.getD M 0) rty (.aaload) len pc L st h False (fun pc' L' st' h' => lm_rm R h0 h' ∧ lm_G p l e R s m args below meth c D base pre cs sL xs (lm_ml.getD M 0) h0 Q pc' L' st' h') RT CL) :
    lm_G p l e R s m args below meth c D base pre cs sL xs (lm_ml.getD M 0) h0 Q pc L st h := by
  obtain ⟨hx, hb, hml, hown, hts, hE, hsz, hct, hfr, hlo⟩ := hF
  intro hL h01 h02 H locs ls hR hS hl
  obtain rfl : len = 1 := by simpa [lm_lenok] using hlen
  replace hs := lm_pI_F hs
  obtain ⟨i, s1, rfl, hs⟩ := hs
  replace hs := lm_pR_F hs
  obtain ⟨a, s2, rfl, hs⟩ := hs
  replace hs := lm_o_F hs
  obtain ⟨x, hx1, hs⟩ := hs
  obtain ⟨x1, x2⟩ := x
  replace hs := lm_if_F hs
  obtain ⟨hc, hs⟩ := hs
  rcases hc with hc | hc
  · simp only at hc
    subst hc
    replace hs := lm_in_F hs
    obtain ⟨hin, hs⟩ := hs
    obtain ⟨ha, hxa⟩ := lm_sh_lt hx1 (by simp)
    have hn := hs.2 hL h01 h02 H locs ls hR hS hl
    rw [List.map_cons, lm_v_rf] at hn
    rw [List.map_cons, List.map_cons, lm_vr_lt ha]
    exact va_aldq hx hb hE.1 hR.1 a 4 ((lm_ws_get hxa).trans (by rw [lm_E_ref (by omega)])) rfl hin hdg hn
  · simp only at hc
    subst hc
    replace hs := lm_in_F hs
    obtain ⟨hin, hs⟩ := hs
    obtain ⟨ha, hxa⟩ := lm_sh_lt hx1 (by simp)
    have hn := hs.2 hL h01 h02 H locs ls hR hS hl
    rw [List.map_cons, lm_v_rf] at hn
    rw [List.map_cons, List.map_cons, lm_vr_lt ha]
    exact va_aldq hx hb hE.1 hR.1 a 5 ((lm_ws_get hxa).trans (by rw [lm_E_ref (by omega)])) rfl hin hdg hn

theorem lm_st_iastore {h : lm_H} {len pc : Nat} {L : lm_L} {st : List Value} {rty : Option FieldType} {RT : Option Value → Prop} {CL : Nat → List Value → List Value → Prop} (hF : lm_F p R s m args meth c D base pre cs sL xs M d h0) (hdg : decode (lm_cs.getD M ⟨#[]⟩) pc = .ok (.iastore, len)) (hlen : lm_lenok (.iastore, len) = true)
    (hs : lm_stepK (lm_ct M) (lm_sh h) (lm_r h) (lm_own.getD M 0) rty (.iastore) len pc L st h False (fun pc' L' st' h' => lm_rm R h0 h' ∧ lm_G p l e R s m args below meth c D base pre cs sL xs (lm_ml.getD M 0) h0 Q pc' L' st' h') RT CL) :
    lm_G p l e R s m args below meth c D base pre cs sL xs (lm_ml.getD M 0) h0 Q pc L st h := by
  obtain ⟨hx, hb, hml, hown, hts, hE, hsz, hct, hfr, hlo⟩ := hF
  intro hL h01 h02 H locs ls hR hS hl
  obtain rfl : len = 1 := by simpa [lm_lenok] using hlen
  replace hs := lm_pI_F hs
  obtain ⟨v, s0, rfl, hs⟩ := hs
  replace hs := lm_pI_F hs
  obtain ⟨i, s1, rfl, hs⟩ := hs
  replace hs := lm_pR_F hs
  obtain ⟨a, s2, rfl, hs⟩ := hs
  replace hs := lm_o_F hs
  obtain ⟨x, hx1, hs⟩ := hs
  obtain ⟨x1, x2⟩ := x
  replace hs := lm_if_F hs
  obtain ⟨hc, hs⟩ := hs
  simp only at hc
  subst hc
  replace hs := lm_in_F hs
  obtain ⟨hin, hs⟩ := hs
  obtain ⟨ha, hxa⟩ := lm_sh_lt hx1 (by simp)
  rw [List.map_cons, List.map_cons, List.map_cons, lm_vr_lt ha]
  refine va_iast hx hb hE.1 hR.1 (lm_ws_D base pre cs h) hS a 0 ((lm_ws_get hxa).trans (by rw [lm_E_int (by omega) (by omega)])) rfl hin hdg (fun H1 locs1 hP1 _ hS1 => hs.2 hL h01 h02 H1 locs1 ls (lm_R_store hR hxa ha rfl (fun b hb9 => ⟨lm_u_ne _ _ _ _ hb9, rfl, rfl⟩) ?_ hP1) hS1 hl)
  rw [lm_E_int (by omega) (by omega)]
  rw [show (lm_si h a i.toNatClampNeg v).2.1 a = upd (h.2.1 a) i.toNatClampNeg v from lm_u_eq _ _ _ _]

theorem lm_st_bastore {h : lm_H} {len pc : Nat} {L : lm_L} {st : List Value} {rty : Option FieldType} {RT : Option Value → Prop} {CL : Nat → List Value → List Value → Prop} (hF : lm_F p R s m args meth c D base pre cs sL xs M d h0) (hdg : decode (lm_cs.getD M ⟨#[]⟩) pc = .ok (.bastore, len)) (hlen : lm_lenok (.bastore, len) = true)
    (hs : lm_stepK (lm_ct M) (lm_sh h) (lm_r h) (lm_own.getD M 0) rty (.bastore) len pc L st h False (fun pc' L' st' h' => lm_rm R h0 h' ∧ lm_G p l e R s m args below meth c D base pre cs sL xs (lm_ml.getD M 0) h0 Q pc' L' st' h') RT CL) :
    lm_G p l e R s m args below meth c D base pre cs sL xs (lm_ml.getD M 0) h0 Q pc L st h := by
  obtain ⟨hx, hb, hml, hown, hts, hE, hsz, hct, hfr, hlo⟩ := hF
  intro hL h01 h02 H locs ls hR hS hl
  obtain rfl : len = 1 := by simpa [lm_lenok] using hlen
  replace hs := lm_pI_F hs
  obtain ⟨v, s0, rfl, hs⟩ := hs
  replace hs := lm_pI_F hs
  obtain ⟨i, s1, rfl, hs⟩ := hs
  replace hs := lm_pR_F hs
  obtain ⟨a, s2, rfl, hs⟩ := hs
  replace hs := lm_o_F hs
  obtain ⟨x, hx1, hs⟩ := hs
  obtain ⟨x1, x2⟩ := x
  replace hs := lm_if_B hs
  rcases hs with ⟨hc, hs⟩ | ⟨hc, hs⟩
  · simp only at hc
    subst hc
    replace hs := lm_in_F hs
    obtain ⟨hin, hs⟩ := hs
    obtain ⟨ha, hxa⟩ := lm_sh_lt hx1 (by simp)
    rw [List.map_cons, List.map_cons, List.map_cons, lm_vr_lt ha]
    refine va_zast hx hb hE.1 hR.1 (lm_ws_D base pre cs h) hS a 1 ((lm_ws_get hxa).trans (by rw [lm_E_int (by omega) (by omega)])) rfl hin hdg (fun H1 locs1 hP1 _ hS1 => hs.2 hL h01 h02 H1 locs1 ls (lm_R_store hR hxa ha rfl (fun b hb9 => ⟨lm_u_ne _ _ _ _ hb9, rfl, rfl⟩) ?_ hP1) hS1 hl)
    rw [lm_E_int (by omega) (by omega)]
    rw [show (lm_si h a i.toNatClampNeg (vp_nar .boolean v)).2.1 a = upd (h.2.1 a) i.toNatClampNeg (vp_nar .boolean v) from lm_u_eq _ _ _ _]
  · replace hs := lm_if_F hs
    obtain ⟨hc, hs⟩ := hs
    simp only at hc
    subst hc
    replace hs := lm_in_F hs
    obtain ⟨hin, hs⟩ := hs
    obtain ⟨ha, hxa⟩ := lm_sh_lt hx1 (by simp)
    rw [List.map_cons, List.map_cons, List.map_cons, lm_vr_lt ha]
    refine va_bast hx hb hE.1 hR.1 (lm_ws_D base pre cs h) hS a 2 ((lm_ws_get hxa).trans (by rw [lm_E_int (by omega) (by omega)])) rfl hin hdg (fun H1 locs1 hP1 _ hS1 => hs.2 hL h01 h02 H1 locs1 ls (lm_R_store hR hxa ha rfl (fun b hb9 => ⟨lm_u_ne _ _ _ _ hb9, rfl, rfl⟩) ?_ hP1) hS1 hl)
    rw [lm_E_int (by omega) (by omega)]
    rw [show (lm_si h a i.toNatClampNeg (vp_nar .byte v)).2.1 a = upd (h.2.1 a) i.toNatClampNeg (vp_nar .byte v) from lm_u_eq _ _ _ _]

theorem lm_st_lastore {h : lm_H} {len pc : Nat} {L : lm_L} {st : List Value} {rty : Option FieldType} {RT : Option Value → Prop} {CL : Nat → List Value → List Value → Prop} (hF : lm_F p R s m args meth c D base pre cs sL xs M d h0) (hdg : decode (lm_cs.getD M ⟨#[]⟩) pc = .ok (.lastore, len)) (hlen : lm_lenok (.lastore, len) = true)
    (hs : lm_stepK (lm_ct M) (lm_sh h) (lm_r h) (lm_own.getD M 0) rty (.lastore) len pc L st h False (fun pc' L' st' h' => lm_rm R h0 h' ∧ lm_G p l e R s m args below meth c D base pre cs sL xs (lm_ml.getD M 0) h0 Q pc' L' st' h') RT CL) :
    lm_G p l e R s m args below meth c D base pre cs sL xs (lm_ml.getD M 0) h0 Q pc L st h := by
  obtain ⟨hx, hb, hml, hown, hts, hE, hsz, hct, hfr, hlo⟩ := hF
  intro hL h01 h02 H locs ls hR hS hl
  obtain rfl : len = 1 := by simpa [lm_lenok] using hlen
  replace hs := lm_pL_F hs
  obtain ⟨v, s0, rfl, hs⟩ := hs
  replace hs := lm_pI_F hs
  obtain ⟨i, s1, rfl, hs⟩ := hs
  replace hs := lm_pR_F hs
  obtain ⟨a, s2, rfl, hs⟩ := hs
  replace hs := lm_o_F hs
  obtain ⟨x, hx1, hs⟩ := hs
  obtain ⟨x1, x2⟩ := x
  replace hs := lm_if_F hs
  obtain ⟨hc, hs⟩ := hs
  simp only at hc
  subst hc
  replace hs := lm_in_F hs
  obtain ⟨hin, hs⟩ := hs
  obtain ⟨ha, hxa⟩ := lm_sh_lt hx1 (by simp)
  rw [List.map_cons, List.map_cons, List.map_cons, lm_vr_lt ha]
  refine va_last hx hb hE.1 hR.1 (lm_ws_D base pre cs h) hS a 3 ((lm_ws_get hxa).trans (by rw [lm_E_long])) rfl hin hdg (fun H1 locs1 hP1 _ hS1 => hs.2 hL h01 h02 H1 locs1 ls (lm_R_store hR hxa ha rfl (fun b hb9 => ⟨rfl, lm_u_ne _ _ _ _ hb9, rfl⟩) ?_ hP1) hS1 hl)
  rw [lm_E_long]
  rw [show (lm_sl h a i.toNatClampNeg v).2.2.1 a = vp_updL (h.2.2.1 a) i.toNatClampNeg v from lm_u_eq _ _ _ _]

theorem lm_st_aastore {h : lm_H} {len pc : Nat} {L : lm_L} {st : List Value} {rty : Option FieldType} {RT : Option Value → Prop} {CL : Nat → List Value → List Value → Prop} (hF : lm_F p R s m args meth c D base pre cs sL xs M d h0) (hdg : decode (lm_cs.getD M ⟨#[]⟩) pc = .ok (.aastore, len)) (hlen : lm_lenok (.aastore, len) = true)
    (hs : lm_stepK (lm_ct M) (lm_sh h) (lm_r h) (lm_own.getD M 0) rty (.aastore) len pc L st h False (fun pc' L' st' h' => lm_rm R h0 h' ∧ lm_G p l e R s m args below meth c D base pre cs sL xs (lm_ml.getD M 0) h0 Q pc' L' st' h') RT CL) :
    lm_G p l e R s m args below meth c D base pre cs sL xs (lm_ml.getD M 0) h0 Q pc L st h := by
  obtain ⟨hx, hb, hml, hown, hts, hE, hsz, hct, hfr, hlo⟩ := hF
  intro hL h01 h02 H locs ls hR hS hl
  obtain rfl : len = 1 := by simpa [lm_lenok] using hlen
  simp only [lm_stepK] at hs
  replace hs := lm_pA_F hs
  obtain ⟨v, s0, rfl, hs⟩ := hs
  replace hs := lm_pI_F hs
  obtain ⟨i, s1, rfl, hs⟩ := hs
  replace hs := lm_pR_F hs
  obtain ⟨a, s2, rfl, hs⟩ := hs
  replace hs := lm_o_F hs
  obtain ⟨x, hx1, hs⟩ := hs
  obtain ⟨x1, x2⟩ := x
  replace hs := lm_if_F hs
  obtain ⟨hc, hs⟩ := hs
  rcases hc with hc | ⟨hc, -⟩
  · simp only at hc
    subst hc
    replace hs := lm_in_F hs
    obtain ⟨hin, hs⟩ := hs
    obtain ⟨ha, hxa⟩ := lm_sh_lt hx1 (by simp)
    replace hs := lm_o_B hs
    rcases hs with ⟨rfl, hs⟩ | ⟨b, rfl, hs⟩
    · rw [List.map_cons, List.map_cons, List.map_cons, lm_vr_lt ha]
      refine va_astqN hx hb hE.1 hR.1 (lm_ws_D base pre cs h) hS a 4 ((lm_ws_get hxa).trans (by rw [lm_E_ref (by omega)])) rfl hin hdg (fun H1 locs1 hP1 _ hS1 => hs.2 hL h01 h02 H1 locs1 ls (lm_R_store hR hxa ha rfl (fun b hb9 => ⟨rfl, rfl, lm_u_ne _ _ _ _ hb9⟩) ?_ hP1) hS1 hl)
      rw [lm_E_ref (by omega), show (lm_sr h a i.toNatClampNeg none).2.2.2 a = (fun j => if j = i.toNatClampNeg then none else h.2.2.2 a j) from lm_u_eq _ _ _ _]
      congr 7
      funext j
      show Option.map _ (if _ then _ else _) = if _ then _ else _
      by_cases hj : j = i.toNatClampNeg
      · rw [if_pos hj, if_pos hj]
        rfl
      · rw [if_neg hj, if_neg hj]
    · replace hs := lm_o_F hs
      obtain ⟨y, hy1, hs⟩ := hs
      replace hs := lm_if_F hs
      obtain ⟨⟨hy0, hyc⟩, hs⟩ := hs
      obtain ⟨y1, y2⟩ := y
      simp only at hy0 hyc
      subst hy0
      obtain ⟨hby, hyb⟩ := lm_sh_lt hy1 (by simp)
      have hy2 : y2 = 2 := by omega
      subst hy2
      rw [List.map_cons, List.map_cons, List.map_cons, lm_vr_lt ha, show lm_v base pre (va_rf (some b)) = .ref (base + b) from lm_vr_lt hby]
      refine va_astq hx hb hE.1 hR.1 (lm_ws_D base pre cs h) hS a 4 b 2 ((lm_ws_get hxa).trans (by rw [lm_E_ref (by omega)])) (r := (RX2, TX2, 1)) rfl (lm_ws_get hyb) rfl hin hdg (fun H1 locs1 hP1 _ hS1 => hs.2 hL h01 h02 H1 locs1 ls (lm_R_store hR hxa ha rfl (fun b hb9 => ⟨rfl, rfl, lm_u_ne _ _ _ _ hb9⟩) ?_ hP1) hS1 hl)
      rw [lm_E_ref (by omega), show (lm_sr h a i.toNatClampNeg (some b)).2.2.2 a = (fun j => if j = i.toNatClampNeg then (some b) else h.2.2.2 a j) from lm_u_eq _ _ _ _]
      congr 7
      funext j
      show Option.map _ (if _ then _ else _) = if _ then _ else _
      by_cases hj : j = i.toNatClampNeg
      · rw [if_pos hj, if_pos hj]
        exact congrArg some (lm_ad_lt hby)
      · rw [if_neg hj, if_neg hj]
  · simp only at hc
    subst hc
    replace hs := lm_in_F hs
    obtain ⟨hin, hs⟩ := hs
    obtain ⟨ha, hxa⟩ := lm_sh_lt hx1 (by simp)
    replace hs := lm_o_B hs
    rcases hs with ⟨rfl, hs⟩ | ⟨b, rfl, hs⟩
    · rw [List.map_cons, List.map_cons, List.map_cons, lm_vr_lt ha]
      refine va_astqN hx hb hE.1 hR.1 (lm_ws_D base pre cs h) hS a 5 ((lm_ws_get hxa).trans (by rw [lm_E_ref (by omega)])) rfl hin hdg (fun H1 locs1 hP1 _ hS1 => hs.2 hL h01 h02 H1 locs1 ls (lm_R_store hR hxa ha rfl (fun b hb9 => ⟨rfl, rfl, lm_u_ne _ _ _ _ hb9⟩) ?_ hP1) hS1 hl)
      rw [lm_E_ref (by omega), show (lm_sr h a i.toNatClampNeg none).2.2.2 a = (fun j => if j = i.toNatClampNeg then none else h.2.2.2 a j) from lm_u_eq _ _ _ _]
      congr 7
      funext j
      show Option.map _ (if _ then _ else _) = if _ then _ else _
      by_cases hj : j = i.toNatClampNeg
      · rw [if_pos hj, if_pos hj]
        rfl
      · rw [if_neg hj, if_neg hj]
    · replace hs := lm_o_F hs
      obtain ⟨y, hy1, hs⟩ := hs
      replace hs := lm_if_F hs
      obtain ⟨⟨hy0, hyc⟩, hs⟩ := hs
      obtain ⟨y1, y2⟩ := y
      simp only at hy0 hyc
      subst hy0
      obtain ⟨hby, hyb⟩ := lm_sh_lt hy1 (by simp)
      have hy2 : y2 = 4 := by omega
      subst hy2
      rw [List.map_cons, List.map_cons, List.map_cons, lm_vr_lt ha, show lm_v base pre (va_rf (some b)) = .ref (base + b) from lm_vr_lt hby]
      refine va_astq hx hb hE.1 hR.1 (lm_ws_D base pre cs h) hS a 5 b 4 ((lm_ws_get hxa).trans (by rw [lm_E_ref (by omega)])) (r := (RX4, TX4, 13)) rfl (lm_ws_get hyb) rfl hin hdg (fun H1 locs1 hP1 _ hS1 => hs.2 hL h01 h02 H1 locs1 ls (lm_R_store hR hxa ha rfl (fun b hb9 => ⟨rfl, rfl, lm_u_ne _ _ _ _ hb9⟩) ?_ hP1) hS1 hl)
      rw [lm_E_ref (by omega), show (lm_sr h a i.toNatClampNeg (some b)).2.2.2 a = (fun j => if j = i.toNatClampNeg then (some b) else h.2.2.2 a j) from lm_u_eq _ _ _ _]
      congr 7
      funext j
      show Option.map _ (if _ then _ else _) = if _ then _ else _
      by_cases hj : j = i.toNatClampNeg
      · rw [if_pos hj, if_pos hj]
        exact congrArg some (lm_ad_lt hby)
      · rw [if_neg hj, if_neg hj]

theorem lm_st_arraylength {h : lm_H} {len pc : Nat} {L : lm_L} {st : List Value} {rty : Option FieldType} {RT : Option Value → Prop} {CL : Nat → List Value → List Value → Prop} (hF : lm_F p R s m args meth c D base pre cs sL xs M d h0) (hdg : decode (lm_cs.getD M ⟨#[]⟩) pc = .ok (.arraylength, len)) (hlen : lm_lenok (.arraylength, len) = true)
    (hs : lm_stepK (lm_ct M) (lm_sh h) (lm_r h) (lm_own.getD M 0) rty (.arraylength) len pc L st h False (fun pc' L' st' h' => lm_rm R h0 h' ∧ lm_G p l e R s m args below meth c D base pre cs sL xs (lm_ml.getD M 0) h0 Q pc' L' st' h') RT CL) :
    lm_G p l e R s m args below meth c D base pre cs sL xs (lm_ml.getD M 0) h0 Q pc L st h := by
  obtain ⟨hx, hb, hml, hown, hts, hE, hsz, hct, hfr, hlo⟩ := hF
  intro hL h01 h02 H locs ls hR hS hl
  obtain rfl : len = 1 := by simpa [lm_lenok] using hlen
  replace hs := lm_pR_F hs
  obtain ⟨a, s1, rfl, hs⟩ := hs
  replace hs := lm_o_F hs
  obtain ⟨x, hx1, hs⟩ := hs
  replace hs := lm_o_F hs
  obtain ⟨n, hn1, hs⟩ := hs
  obtain ⟨x1, x2⟩ := x
  by_cases h6 : x1 ≤ 6
  · obtain ⟨ha, hxa⟩ := lm_sh_lt hx1 h6
    have h1 : 1 ≤ x1 := by
      apply Classical.byContradiction
      intro h9
      obtain rfl : x1 = 0 := by omega
      cases hn1
    have e1 : n = x2 := by
      have : x1 = 1 ∨ x1 = 2 ∨ x1 = 3 ∨ x1 = 4 ∨ x1 = 5 ∨ x1 = 6 := by omega
      rcases this with h | h | h | h | h | h <;> subst h <;> exact (Option.some.inj hn1).symm
    subst e1
    rw [List.map_cons, lm_vr_lt ha]
    refine va_alen hx hb hE.1 hR.1 a (x1 - 1) (cA := cs x1) (x := (n, if x1 = 4 then .inr (.inl (h.2.2.1 a)) else if 5 ≤ x1 then .inr (.inr (.inr (.inr (fun j => (h.2.2.2 a j).map (lm_ad base pre))))) else .inl (h.2.1 a))) ((lm_ws_get hxa).trans ?_) (lm_tyl_get cs h1 h6) rfl hdg (hs.2 hL h01 h02 H locs ls hR hS hl)
    unfold lm_E
    rw [if_neg (by simp only; omega)]
  · by_cases h7 : x1 = 7
    · subst h7
      obtain ⟨rfl, h2⟩ := lm_scr hR.2.2.1 hx1 rfl
      simp only at h2
      have e1 : n = sL := by
        have : n = x2 := (Option.some.inj hn1).symm
        rw [this, h2, hR.2.2.2.1]
        rfl
      subst e1
      rw [List.map_cons, show (1000000 : Nat) = 1000000 + 0 by rfl, lm_vr_pre]
      exact va_slen hx hb hE.2.2.1.1 (Nat.lt_of_lt_of_le hE.2.2.1.2 hE.2.1) (Nat.not_le.mpr hE.2.2.1.2) hS hdg (hs.2 hL h01 h02 H locs ls hR hS hl)
    · have h9 : x1 = 9 := by
        apply Classical.byContradiction
        intro h9
        have hp := (lm_sh_pre hR.2.2.1 hx1 (by simp only; omega)).2
        unfold lm_pre at hp
        split at hp
        · cases hp; exact h7 rfl
        · split at hp
          · cases hp; cases hn1
          · split at hp
            · cases hp; exact h9 rfl
            · cases hp
      subst h9
      obtain ⟨j, hj, rfl, h2⟩ := lm_byt hR.2.2.1 hx1 rfl
      simp only at h2
      subst h2
      obtain ⟨-, -, -, q4⟩ := hE.2.2.2.1.1 x2 hj
      rw [List.map_cons, lm_vr_pre]
      refine va_tlen hx hb q4 hS ?_ hdg (hs.2 hL h01 h02 H locs ls hR hS hl)
      have e9 : (lm_sb.map List.length).getD x2 0 = (lm_sb.getD x2 []).length := by
        rw [List.getD_eq_getElem?_getD, List.getD_eq_getElem?_getD, List.getElem?_map]
        cases lm_sb[x2]? <;> rfl
      rw [e9, show n = (lm_sb.getD x2 []).length from (Option.some.inj hn1).symm]

end LmMem
