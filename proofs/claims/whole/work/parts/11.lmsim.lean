theorem lm_words {s U : State} {a a' : Array Value} (hW : s.WarmedH U.vm) (h : ∀ w ∈ lm_T, w.before a s = true) : ∀ w ∈ lm_T, w.before a' U = true := by
  intro w hw
  have hk := (List.mem_filter.mp hw).2
  have h1 := h w hw
  unfold lm_bk at hk
  split at hk
  · exact va_Nw.use rfl (va_Nw.warmF hW (va_Nw.of rfl h1))
  · exact va_Nw.use rfl (va_Nw.warmM hW (va_Nw.of rfl h1))
  · exact va_AO.use (va_AO.moved hW.alike (va_AO.of h1))
  · exact word_at hW (good_of_word hk) h1
theorem lm_Env_to {D : va_G} {base : Nat} {pre : Nat → Nat} {cs : Nat → ClassId} {sL : Nat} {xs : Nat → Int32} {u U : State} (hW : u.WarmedH U.vm) (hk : ∀ a, a < u.heap.size → ¬ lm_A base a → U.heap[a]? = u.heap[a]?) (hz : base ≤ U.heap.size) (h : lm_Env D base pre cs sL xs u) : lm_Env D base pre cs sL xs U := by
  obtain ⟨h1, h2, ⟨h3, h3'⟩, h4, h5, h6, h7⟩ := h
  refine ⟨h1.moved hW.alike, hz, ⟨(h3.moved hW.alike).kept (hk _ (Nat.lt_of_lt_of_le h3' h2) (Nat.not_le.mpr h3')), h3'⟩, (h4.moved hW.alike).kept hk, fun k e he => (h5 k e he).warm hW, (h6.moved hW.alike).kept hk, (h7.moved hW.alike).kept hk⟩
theorem lm_blind {D : va_G} {base : Nat} {pre : Nat → Nat} {cs : Nat → ClassId} {sL : Nat} {xs : Nat → Int32} (av : List Value) (h : lm_H) : FrameBlind (lm_Pc D base pre cs sL xs av h) := by
  rintro a U g mk ⟨e1, e2, e3, e4, e5⟩
  exact ⟨e1, lm_Env_to (U := U.calling g mk a) (State.WarmedH.refl U) (fun _ _ _ => rfl) e2.2.1 e2, e3, e4, lm_words (U := U.calling g mk a) (State.WarmedH.refl U) e5⟩
theorem lm_okY_spec {j : Nat} {y : Nat × Nat × Nat × Nat × Nat × Nat} (hy : lm_as[j]? = some y) (hj : j ≠ 278) :
    Cond.code (lm_y j) (lm_cs.getD j ⟨#[]⟩) (lm_ml.getD j 0) (lm_rs.getD j none) ∈ lm_T ∧ (y.2.1 = 1 → Cond.static (lm_y j) ∈ lm_T) ∧ (y.2.1 ≠ 1 → Cond.instanceMethod (lm_y j) ∈ lm_T) ∧ (y.2.1 = 0 → Cond.selects (lm_y j).cls (lm_y j) (lm_y j) ∈ lm_T) ∧ Cond.initialized (lm_y j).cls ∈ lm_T ∧
    (∀ sig, parseMethodDescriptor (lm_y j).desc = some sig → y.1 = sig.parameters.length) ∧ ((lm_y j).cls ≠ "java/lang/invoke/MethodHandle" ∧ (lm_y j).cls ≠ "java/lang/invoke/VarHandle") ∧ (lm_y j).cls = lm_Rs.getD (lm_own.getD j 0) "" ∧ plainName (lm_y j).cls = true ∧ (y.2.1 = 2 ↔ (lm_y j).name = "<init>") ∧ (y.2.1 = 2 → lm_rs.getD j none = none) ∧ lm_ml.getD j 0 ≤ 41 := by
  have h := lm_as_ok hy hj
  unfold lm_okY at h
  simp only [Bool.and_eq_true, decide_eq_true_eq] at h
  obtain ⟨h2, h3, h4, h5, h6, h7, h8, h9, h10, h11⟩ := h
  have hl := (List.getElem?_eq_some_iff.mp hy).1
  rw [lm_as_len] at hl
  refine ⟨lm_code_in (by omega), fun g => ?_, fun g => ?_, fun g => lm_wT (h3 g) rfl, lm_wT h4 rfl, fun sig hsig => ?_, h6, h7, h8, h9, h10, h11⟩
  · rw [if_pos g] at h2
    exact lm_wT h2 rfl
  · rw [if_neg g] at h2
    exact lm_wT h2 rfl
  · rw [hsig] at h5
    exact (Option.some.inj h5).symm
theorem lm_pop_spec {n : Nat} {st : List Value} {q : List Value × List Value} (h : lm_pop n st = some q) : st = q.1.reverse ++ q.2 ∧ q.1.length = n := by
  unfold lm_pop at h
  by_cases hn : n ≤ st.length
  · rw [if_pos hn] at h
    cases h
    simp [List.take_append_drop, Nat.min_eq_left hn]
  · rw [if_neg hn] at h
    cases h
section LmCall2
variable {p : Program} {l : Launch} {e : Env} {R : Room} {s : State} {m : MethodId} {args : Array Value} {below : List Frame} {meth : Method} {c : Code} {D : va_G} {base : Nat} {pre : Nat → Nat} {cs : Nat → ClassId} {sL : Nat} {xs : Nat → Int32} {M d : Nat} {h0 : lm_H} {Q : State → Prop}
/-- what a call needs of its callee, and of what comes behind it -/
def lm_CL (l : Launch) (R : Room) (D : va_G) (base : Nat) (pre : Nat → Nat) (cs : Nat → ClassId) (sL : Nat) (xs : Nat → Int32) (h0 : lm_H) (d : Nat) (h : lm_H) (G : List Value → lm_H → Prop) (j : Nat) (av rest : List Value) : Prop :=
  ∃ (d' : Nat) (v : Option Value) (h' : lm_H), d = d' + 1 ∧ ((∃ y, lm_as[j]? = some y) → j ≠ 278 → lm_M l D base pre cs sL xs d' j av h v h') ∧ lm_rm R h0 h' ∧ h.1.length ≤ h'.1.length ∧ lm_sz h ≤ lm_sz h' ∧ G (v.toList ++ rest) h'
theorem lm_after {h h' : lm_H} {pc : Nat} {L : lm_L} {v : Option Value} {rest st : List Value} {H : Heap} {locs : List Loc} {ls : Array Slot} {a : Array Value} (h01 : h0.1.length ≤ h.1.length) (h02 : lm_sz h0 ≤ lm_sz h) (h11 : h.1.length ≤ h'.1.length) (h12 : lm_sz h ≤ lm_sz h') (hL : L.length = lm_ml.getD M 0) (hS : va_S (lm_A base) s.heap H locs) (hl : lv_has ls (lm_ml.getD M 0) (lm_prs base pre L))
    (hr : va_Run p l e R s m args below meth c H locs (h.1.length - h0.1.length) (lm_sz h - lm_sz h0) (h'.1.length - h.1.length) (lm_sz h' - lm_sz h) (F0 m pc ls (st.map (lm_v base pre))) (rest.map (lm_v base pre)) (lm_Qc D base pre cs sL xs v h' a) (lm_A base))
    (hG : lm_G p l e R s m args below meth c D base pre cs sL xs (lm_ml.getD M 0) h0 Q (pc + 3) L (v.toList ++ rest) h') : W p l e R s m args below meth c H locs (h.1.length - h0.1.length) (lm_sz h - lm_sz h0) Q (F0 m pc ls (st.map (lm_v base pre))) := by
  intro T hT X
  obtain ⟨v', st₀, t, T', L', g0, X', hL', e1, e2, ⟨g1, g2, g3, g4⟩, go⟩ := hr T hT X
  cases g1
  have hq := hG hL (by omega) (by omega) T'.heap (locs ++ L') ls (by rw [e1]; exact g2) ⟨by rw [e1]; rw [g0] at g3; exact Nat.le_trans hS.1 g3, fun q q1 q2 => by
      rw [e1, g4 q (by rw [g0]; exact Nat.lt_of_lt_of_le q1 hS.1) q2, g0]
      exact hS.2.1 q q1 q2, fun q hq => by
      rcases List.mem_append.mp hq with g | g
      · exact hS.2.2 q g
      · exact hL' q g⟩ hl
  rw [show h'.1.length - h0.1.length = h.1.length - h0.1.length + (h'.1.length - h.1.length) by omega, show lm_sz h' - lm_sz h0 = lm_sz h - lm_sz h0 + (lm_sz h' - lm_sz h) by omega] at hq
  obtain ⟨t2, a1, b1⟩ := hq T' rfl X'
  refine ⟨t2, go t2 ?_, b1⟩
  have : (v.map (lm_v base pre)).toList ++ rest.map (lm_v base pre) = (v.toList ++ rest).map (lm_v base pre) := by
    cases v <;> simp
  rw [this]
  exact a1
theorem lm_catsum (st : List Value) : (((st.map (lm_v base pre)).map fun v => v.category).sum) = (st.map Value.category).sum := by
  rw [List.map_map]
  congr 1
  exact List.map_congr_left (fun v _ => lm_v_cat base pre v)
theorem lm_pcU {h : lm_H} {H : Heap} {locs : List Loc} {U : State} {av : List Value} (hE : lm_Env D base pre cs sL xs s) (hts : ∀ w ∈ lm_T, w.before args s = true) (hR : lm_R D base pre cs sL xs h H) (hS : va_S (lm_A base) s.heap H locs) (hz : H.size = base + h.1.length) (hU : U.heap = H) (hW : s.WarmedH U.vm) : lm_Pc D base pre cs sL xs av h (av.map (lm_v base pre)).toArray U := by
  refine ⟨rfl, lm_Env_to hW (fun a g1 g2 => by rw [hU]; exact hS.2.1 a g1 g2) (by rw [hU, hz]; omega) hE, by rw [hU]; exact hR, by rw [hU]; exact hz, lm_words hW hts⟩
theorem lm_CB {h h' : lm_H} {j d' : Nat} {y : Nat × Nat × Nat × Nat × Nat × Nat} (hy : lm_as[j]? = some y) (hj : j ≠ 278) (hts : ∀ w ∈ lm_T, w.before args s = true) (hfr : d' + 1 + 1 ≤ R.frames) (hlo : 60 * (d' + 1 + 1) ≤ R.locals) :
    ((lm_room d' (h'.1.length - h.1.length) (lm_sz h' - lm_sz h)).frames + 1 ≤ R.frames ∧ 8 + (lm_ml.getD j 0 + 11) + (lm_room d' (h'.1.length - h.1.length) (lm_sz h' - lm_sz h)).locals ≤ R.locals) ∧ (∀ w ∈ lm_ww j, ∀ (a' : Array Value) (U : State), s.WarmedH U.vm → w.before a' U = true) ∧ Cond.code (lm_y j) (lm_cs.getD j ⟨#[]⟩) (lm_ml.getD j 0) (lm_rs.getD j none) ∈ lm_ww j ∧ (Cond.code (lm_y j) (lm_cs.getD j ⟨#[]⟩) (lm_ml.getD j 0) (lm_rs.getD j none)).before args s = true ∧ (Cond.initialized (lm_y j).cls).before args s = true := by
  obtain ⟨h1, h2, h3, h4, h5, h6, h7, h8, h9, h10, h11, h12⟩ := lm_okY_spec hy hj
  refine ⟨⟨hfr, ?_⟩, fun w hw a' U hW => ?_, List.mem_singleton.mpr rfl, hts _ h1, hts _ h5⟩
  · show 8 + (lm_ml.getD j 0 + 11) + 60 * (d' + 1) ≤ _
    omega
  · rw [List.mem_singleton.mp hw]
    exact lm_words hW hts _ h1
theorem lm_st_invokestatic {h : lm_H} {len pc : Nat} {L : lm_L} {st : List Value} {rty : Option FieldType} {RT : Option Value → Prop} {k : Nat} (hF : lm_F p R s m args meth c D base pre cs sL xs M d h0) (hdg : decode (lm_cs.getD M ⟨#[]⟩) pc = .ok (.invokestatic k, len)) (hlen : lm_lenok (.invokestatic k, len) = true)
    (hs : lm_stepK (lm_ct M) (lm_sh h) (lm_r h) (lm_own.getD M 0) rty (.invokestatic k) len pc L st h False (fun pc' L' st' h' => lm_rm R h0 h' ∧ lm_G p l e R s m args below meth c D base pre cs sL xs (lm_ml.getD M 0) h0 Q pc' L' st' h') RT (lm_CL l R D base pre cs sL xs h0 d h (fun st' h' => lm_G p l e R s m args below meth c D base pre cs sL xs (lm_ml.getD M 0) h0 Q (pc + 3) L st' h'))) :
    lm_G p l e R s m args below meth c D base pre cs sL xs (lm_ml.getD M 0) h0 Q pc L st h := by
  obtain rfl : len = 3 := by simpa [lm_lenok] using hlen
  replace hs := lm_o_F hs
  obtain ⟨f, hf, hs⟩ := hs
  replace hs := lm_if_B hs
  rcases hs with ⟨hc, hs⟩ | ⟨hc, hs⟩
  · replace hs := lm_pI_F hs
    obtain ⟨n, s1, rfl, hs⟩ := hs
    replace hs := lm_pI_F hs
    obtain ⟨dp, s2, rfl, hs⟩ := hs
    replace hs := lm_pR_F hs
    obtain ⟨b, s3, rfl, hs⟩ := hs
    replace hs := lm_pI_F hs
    obtain ⟨sp, s4, rfl, hs⟩ := hs
    replace hs := lm_pR_F hs
    obtain ⟨a, s5, rfl, hs⟩ := hs
    replace hs := lm_o_F hs
    obtain ⟨x, hx1, hs⟩ := hs
    replace hs := lm_o_F hs
    obtain ⟨y, hy1, hs⟩ := hs
    replace hs := lm_if_F hs
    obtain ⟨hcc, hs⟩ := hs
    exact lm_st_arraycopy hF hdg hf hc hx1 hy1 hcc hs.2
  have hk := lm_pms_ok hf
  unfold lm_okM at hk
  simp only [Bool.and_eq_true, decide_eq_true_eq] at hk
  replace hs := lm_if_B hs
  rcases hs with ⟨hc1002, hs⟩ | ⟨hc1002, hs⟩
  · replace hs := lm_pI_F hs
    obtain ⟨y, s1, rfl, hs⟩ := hs
    replace hs := lm_pI_F hs
    obtain ⟨x, s2, rfl, hs⟩ := hs
    replace hs := lm_if_F hs
    obtain ⟨hcat, hs⟩ := hs
    obtain ⟨hx, hb, hml, hown, hts, hE, hsz, hct, hfr, hlo⟩ := hF
    intro hL h01 h02 H locs ls hR hS hl
    have hn2 := hk.2.2 (by omega)
    have hk1 := hk.1
    rw [hn2, if_neg (by decide), hc1002] at hk1
    exact va_mmax hx hb (by rw [hml]; exact hl.1.symm) hown (hts _ (lm_wT hk1 rfl)) (hts _ lm_mth_max_7cf53.1) (hts _ lm_mth) (hts _ lm_mth_max_7cf53.2) (by omega) (by rw [lm_catsum]; omega) hs.1.1 hs.1.2 hdg (hs.2 hL h01 h02 H locs ls hR hS hl)
  replace hs := lm_if_B hs
  rcases hs with ⟨hc1003, hs⟩ | ⟨hc1003, hs⟩
  · replace hs := lm_pI_F hs
    obtain ⟨y, s1, rfl, hs⟩ := hs
    replace hs := lm_pI_F hs
    obtain ⟨x, s2, rfl, hs⟩ := hs
    replace hs := lm_if_F hs
    obtain ⟨hcat, hs⟩ := hs
    obtain ⟨hx, hb, hml, hown, hts, hE, hsz, hct, hfr, hlo⟩ := hF
    intro hL h01 h02 H locs ls hR hS hl
    have hn2 := hk.2.2 (by omega)
    have hk1 := hk.1
    rw [hn2, if_neg (by decide), hc1003] at hk1
    exact va_mmin hx hb (by rw [hml]; exact hl.1.symm) hown (hts _ (lm_wT hk1 rfl)) (hts _ lm_mth_min_7cf53.1) (hts _ lm_mth) (hts _ lm_mth_min_7cf53.2) (by omega) (by rw [lm_catsum]; omega) hs.1.1 hs.1.2 hdg (hs.2 hL h01 h02 H locs ls hR hS hl)
  replace hs := lm_if_B hs
  rcases hs with ⟨hc1004, hs⟩ | ⟨hc1004, hs⟩
  · replace hs := lm_pL_F hs
    obtain ⟨y, s1, rfl, hs⟩ := hs
    replace hs := lm_pL_F hs
    obtain ⟨x, s2, rfl, hs⟩ := hs
    replace hs := lm_if_F hs
    obtain ⟨hcat, hs⟩ := hs
    obtain ⟨hx, hb, hml, hown, hts, hE, hsz, hct, hfr, hlo⟩ := hF
    intro hL h01 h02 H locs ls hR hS hl
    have hn2 := hk.2.2 (by omega)
    have hk1 := hk.1
    rw [hn2, if_neg (by decide), hc1004] at hk1
    exact va_mmax_long hx hb (by rw [hml]; exact hl.1.symm) hown (hts _ (lm_wT hk1 rfl)) (hts _ lm_mth_max_f86c9.1) (hts _ lm_mth) (hts _ lm_mth_max_f86c9.2) (by omega) (by rw [lm_catsum]; omega) hs.1.1 hs.1.2 hdg (hs.2 hL h01 h02 H locs ls hR hS hl)
  replace hs := lm_if_B hs
  rcases hs with ⟨hc1005, hs⟩ | ⟨hc1005, hs⟩
  · replace hs := lm_pL_F hs
    obtain ⟨y, s1, rfl, hs⟩ := hs
    replace hs := lm_pL_F hs
    obtain ⟨x, s2, rfl, hs⟩ := hs
    replace hs := lm_if_F hs
    obtain ⟨hcat, hs⟩ := hs
    obtain ⟨hx, hb, hml, hown, hts, hE, hsz, hct, hfr, hlo⟩ := hF
    intro hL h01 h02 H locs ls hR hS hl
    have hn2 := hk.2.2 (by omega)
    have hk1 := hk.1
    rw [hn2, if_neg (by decide), hc1005] at hk1
    exact va_mmin_long hx hb (by rw [hml]; exact hl.1.symm) hown (hts _ (lm_wT hk1 rfl)) (hts _ lm_mth_min_f86c9.1) (hts _ lm_mth) (hts _ lm_mth_min_f86c9.2) (by omega) (by rw [lm_catsum]; omega) hs.1.1 hs.1.2 hdg (hs.2 hL h01 h02 H locs ls hR hS hl)
  · replace hs := lm_o_F hs
    obtain ⟨y, hy, hs⟩ := hs
    replace hs := lm_o_F hs
    obtain ⟨q, hq, hs⟩ := hs
    replace hs := lm_if_F hs
    obtain ⟨⟨hk1, hcat⟩, hs⟩ := hs
    obtain ⟨d', v, h', rfl, hM, hrm, h11, h12, hG⟩ := hs
    obtain ⟨rfl, hnq⟩ := lm_pop_spec hq
    obtain ⟨hx, hb, hml, hown, hts, hE, hsz, hct, hfr, hlo⟩ := hF
    intro hL h01 h02 H locs ls hR hS hl
    have hj : f.1 ≠ 278 := hk.2.1
    have hM := hM ⟨y, hy⟩ hj
    have hlt : f.1 < 279 := by
      have := (List.getElem?_eq_some_iff.mp hy).1
      rw [lm_as_len] at this
      exact this
    have hyM : lm_yM f.1 = lm_y f.1 := by
      unfold lm_yM
      rw [if_neg (by omega), if_neg hc, if_neg hc1002, if_neg hc1003, if_neg hc1004, if_neg hc1005]
    rw [hyM] at hk
    obtain ⟨g1, g2, g3, g4, g5, g6, g7, g8, g9, g10, g11, g12⟩ := lm_okY_spec hy hj
    obtain ⟨⟨b1, b2⟩, b3, b4, b5, b6⟩ := lm_CB (h := h) (h' := h') (d' := d') (R := R) hy hj hts hfr hlo
    unfold lm_rm at hrm
    have hmc : h.1.length - h0.1.length + (h'.1.length - h.1.length) ≤ R.cells ∧ lm_sz h - lm_sz h0 + (lm_sz h' - lm_sz h) ≤ R.slots := ⟨by omega, by omega⟩
    refine lm_sized hsz h01 hS hR (fun hz => ?_)
    refine lm_after (M := M) h01 h02 h11 h12 hL hS hl (v := v) (rest := q.2) (a := (q.1.map (lm_v base pre)).toArray) ?_ hG
    have hstk : (q.1.reverse ++ q.2).map (lm_v base pre) = (q.1.map (lm_v base pre)).reverse ++ q.2.map (lm_v base pre) := by simp
    rw [hstk]
    cases hnest : f.2.1 with
    | false =>
      rw [hnest, if_neg (by decide)] at hk
      exact va_runS (As := q.1.map (lm_v base pre)) (n := y.1) ⟨hx, hb, hml, hown, hts⟩ hM ⟨⟨rfl, rfl, b1, b2, b3, b4, b5, b6, g7, g6, hts _ (lm_wT hk.1 rfl)⟩, hts _ (g2 hk1)⟩ ⟨lm_blind _ _, fun U hU hW => lm_pcU hE hts hR hS hz hU hW⟩ rfl (by rw [List.length_map]; exact hnq) hl.1 rfl (by rw [lm_catsum]; show 2 * 0 + _ ≤ _; omega) hdg hmc
    | true =>
      rw [hnest, if_pos rfl] at hk
      exact va_runSN (As := q.1.map (lm_v base pre)) (n := y.1) ⟨hx, hb, hml, hown, hts⟩ hM ⟨⟨⟨rfl, rfl, b1, b2, b3, b4⟩, b5, b6, g7, g6, hts _ (lm_wT hk.1 rfl)⟩, hts _ (g2 hk1), trivial⟩ ⟨lm_blind _ _, fun U hU hW => lm_pcU hE hts hR hS hz hU hW⟩ rfl (by rw [List.length_map]; exact hnq) hl.1 rfl (by rw [lm_catsum]; show 2 * 0 + _ ≤ _; omega) hdg hmc
theorem lm_st_invokespecial {h : lm_H} {len pc : Nat} {L : lm_L} {st : List Value} {rty : Option FieldType} {RT : Option Value → Prop} {k : Nat} (hF : lm_F p R s m args meth c D base pre cs sL xs M d h0) (hdg : decode (lm_cs.getD M ⟨#[]⟩) pc = .ok (.invokespecial k, len)) (hlen : lm_lenok (.invokespecial k, len) = true)
    (hs : lm_stepK (lm_ct M) (lm_sh h) (lm_r h) (lm_own.getD M 0) rty (.invokespecial k) len pc L st h False (fun pc' L' st' h' => lm_rm R h0 h' ∧ lm_G p l e R s m args below meth c D base pre cs sL xs (lm_ml.getD M 0) h0 Q pc' L' st' h') RT (lm_CL l R D base pre cs sL xs h0 d h (fun st' h' => lm_G p l e R s m args below meth c D base pre cs sL xs (lm_ml.getD M 0) h0 Q (pc + 3) L st' h'))) :
    lm_G p l e R s m args below meth c D base pre cs sL xs (lm_ml.getD M 0) h0 Q pc L st h := by
  obtain rfl : len = 3 := by simpa [lm_lenok] using hlen
  replace hs := lm_o_F hs
  obtain ⟨f, hf, hs⟩ := hs
  have hk := lm_pms_ok hf
  unfold lm_okM at hk
  simp only [Bool.and_eq_true, decide_eq_true_eq] at hk
  replace hs := lm_if_B hs
  rcases hs with ⟨hc, hs⟩ | ⟨hc, hs⟩
  · replace hs := lm_pR_F hs
    obtain ⟨a, s1, rfl, hs⟩ := hs
    replace hs := lm_if_F hs
    obtain ⟨hcat, hs⟩ := hs
    obtain ⟨hx, hb, hml, hown, hts, hE, hsz, hct, hfr, hlo⟩ := hF
    intro hL h01 h02 H locs ls hR hS hl
    have hn2 := hk.2.2 (by omega)
    rw [hn2, if_neg (by decide), hc] at hk
    rw [List.map_cons]
    exact W.objInit hx hb hown (hts _ (lm_wT hk.1 rfl)) (hts _ lm_obj.1) (hts _ lm_obj.2) rfl (by rw [hml]; exact hl.1) rfl hdg (by omega) (by rw [lm_catsum]; show 2 * 0 + _ + _ ≤ _; omega) (hs.2 hL h01 h02 H locs ls hR hS hl)
  · replace hs := lm_o_F hs
    obtain ⟨y, hy, hs⟩ := hs
    replace hs := lm_o_F hs
    obtain ⟨q, hq, hs⟩ := hs
    replace hs := lm_pR_F hs
    obtain ⟨a, As, hqa, hs⟩ := hs
    replace hs := lm_if_F hs
    obtain ⟨⟨hk1, hcat⟩, hs⟩ := hs
    obtain ⟨d', v, h', rfl, hM, hrm, h11, h12, hG⟩ := hs
    obtain ⟨rfl, hnq⟩ := lm_pop_spec hq
    obtain ⟨hx, hb, hml, hown, hts, hE, hsz, hct, hfr, hlo⟩ := hF
    intro hL h01 h02 H locs ls hR hS hl
    have hj : f.1 ≠ 278 := hk.2.1
    have hM := hM ⟨y, hy⟩ hj
    have hlt : f.1 < 279 := by rw [← lm_as_len]; exact (List.getElem?_eq_some_iff.mp hy).1
    have hyM : lm_yM f.1 = lm_y f.1 := by
      unfold lm_yM
      rw [if_neg hc, if_neg (by omega), if_neg (by omega), if_neg (by omega), if_neg (by omega), if_neg (by omega)]
    rw [hyM] at hk
    obtain ⟨g1, g2, g3, g4, g5, g6, g7, g8, g9, g10, g11, g12⟩ := lm_okY_spec hy hj
    obtain ⟨⟨b1, b2⟩, b3, b4, b5, b6⟩ := lm_CB (h := h) (h' := h') (d' := d') (R := R) hy hj hts hfr hlo
    unfold lm_rm at hrm
    have hmc : h.1.length - h0.1.length + (h'.1.length - h.1.length) ≤ R.cells ∧ lm_sz h - lm_sz h0 + (lm_sz h' - lm_sz h) ≤ R.slots := ⟨by omega, by omega⟩
    refine lm_sized hsz h01 hS hR (fun hz => ?_)
    refine lm_after (M := M) h01 h02 h11 h12 hL hS hl (v := v) (rest := q.2) (a := (q.1.map (lm_v base pre)).toArray) ?_ hG
    have hpc := fun (U : State) (hU : U.heap = H) (hW : s.WarmedH U.vm) => lm_pcU (av := q.1) hE hts hR hS hz hU hW
    rw [hqa] at hM hpc hnq ⊢
    have hstk : ((Value.ref a :: As).reverse ++ q.2).map (lm_v base pre) = (As.map (lm_v base pre)).reverse ++ .ref (lm_ad base pre a) :: q.2.map (lm_v base pre) := by
      simp
      rfl
    rw [hstk]
    rw [g11 hk1] at b4 b5
    unfold lm_M lm_ww at hM
    rw [g11 hk1] at hM
    have hww : lm_ww f.1 = [.code (lm_y f.1) (lm_cs.getD f.1 ⟨#[]⟩) (lm_ml.getD f.1 0) none] := by
      unfold lm_ww
      rw [g11 hk1]
    rw [hww] at b3 b4
    have hnA : (As.map (lm_v base pre)).length = y.1 := by
      rw [List.length_map]
      simpa using hnq
    cases hnest : f.2.1 with
    | false =>
      rw [hnest, if_neg (by decide)] at hk
      exact va_runI (As := As.map (lm_v base pre)) (b := lm_ad base pre a) (n := y.1) ⟨hx, hb, hml, hown, hts⟩ hM ⟨⟨rfl, rfl, b1, b2, b3, b4, b5, b6, g7, g6, hts _ (lm_wT hk.1 rfl)⟩, g10.mp hk1, hts _ (g3 (by omega))⟩ ⟨lm_blind _ _, hpc⟩ rfl hnA hl.1 rfl (by rw [lm_catsum]; show 2 * 0 + _ ≤ _; omega) hdg hmc
    | true =>
      rw [hnest, if_pos rfl] at hk
      exact va_runIN (As := As.map (lm_v base pre)) (b := lm_ad base pre a) (n := y.1) ⟨hx, hb, hml, hown, hts⟩ hM ⟨⟨⟨rfl, rfl, b1, b2, b3, b4⟩, b5, b6, g7, g6, hts _ (lm_wT hk.1 rfl)⟩, g10.mp hk1, hts _ (g3 (by omega))⟩ ⟨lm_blind _ _, hpc⟩ rfl hnA hl.1 rfl (by rw [lm_catsum]; show 2 * 0 + _ ≤ _; omega) hdg hmc
theorem lm_st_invokevirtual {h : lm_H} {len pc : Nat} {L : lm_L} {st : List Value} {rty : Option FieldType} {RT : Option Value → Prop} {k : Nat} (hF : lm_F p R s m args meth c D base pre cs sL xs M d h0) (hdg : decode (lm_cs.getD M ⟨#[]⟩) pc = .ok (.invokevirtual k, len)) (hlen : lm_lenok (.invokevirtual k, len) = true)
    (hs : lm_stepK (lm_ct M) (lm_sh h) (lm_r h) (lm_own.getD M 0) rty (.invokevirtual k) len pc L st h False (fun pc' L' st' h' => lm_rm R h0 h' ∧ lm_G p l e R s m args below meth c D base pre cs sL xs (lm_ml.getD M 0) h0 Q pc' L' st' h') RT (lm_CL l R D base pre cs sL xs h0 d h (fun st' h' => lm_G p l e R s m args below meth c D base pre cs sL xs (lm_ml.getD M 0) h0 Q (pc + 3) L st' h'))) :
    lm_G p l e R s m args below meth c D base pre cs sL xs (lm_ml.getD M 0) h0 Q pc L st h := by
  obtain rfl : len = 3 := by simpa [lm_lenok] using hlen
  replace hs := lm_o_F hs
  obtain ⟨f, hf, hs⟩ := hs
  have hk := lm_pms_ok hf
  unfold lm_okM at hk
  simp only [Bool.and_eq_true, decide_eq_true_eq] at hk
  replace hs := lm_o_F hs
  obtain ⟨y, hy, hs⟩ := hs
  replace hs := lm_o_F hs
  obtain ⟨q, hq, hs⟩ := hs
  replace hs := lm_pR_F hs
  obtain ⟨a, As, hqa, hs⟩ := hs
  replace hs := lm_o_F hs
  obtain ⟨x, hx1, hs⟩ := hs
  replace hs := lm_if_F hs
  obtain ⟨⟨hk1, hcat, hcls⟩, hs⟩ := hs
  obtain ⟨d', v, h', rfl, hM, hrm, h11, h12, hG⟩ := hs
  obtain ⟨rfl, hnq⟩ := lm_pop_spec hq
  obtain ⟨hx, hb, hml, hown, hts, hE, hsz, hct, hfr, hlo⟩ := hF
  intro hL h01 h02 H locs ls hR hS hl
  have hj : f.1 ≠ 278 := hk.2.1
  have hM := hM ⟨y, hy⟩ hj
  have hlt : f.1 < 279 := by rw [← lm_as_len]; exact (List.getElem?_eq_some_iff.mp hy).1
  have hyM : lm_yM f.1 = lm_y f.1 := by
    unfold lm_yM
    rw [if_neg (by omega), if_neg (by omega), if_neg (by omega), if_neg (by omega), if_neg (by omega), if_neg (by omega)]
  rw [hyM] at hk
  obtain ⟨g1, g2, g3, g4, g5, g6, g7, g8, g9, g10, g11, g12⟩ := lm_okY_spec hy hj
  obtain ⟨⟨b1, b2⟩, b3, b4, b5, b6⟩ := lm_CB (h := h) (h' := h') (d' := d') (R := R) hy hj hts hfr hlo
  unfold lm_rm at hrm
  have hmc : h.1.length - h0.1.length + (h'.1.length - h.1.length) ≤ R.cells ∧ lm_sz h - lm_sz h0 + (lm_sz h' - lm_sz h) ≤ R.slots := ⟨by omega, by omega⟩
  refine lm_sized hsz h01 hS hR (fun hz => ?_)
  refine lm_after (M := M) h01 h02 h11 h12 hL hS hl (v := v) (rest := q.2) (a := (q.1.map (lm_v base pre)).toArray) ?_ hG
  have hrecv : ∃ cellB : Cell, H[lm_ad base pre a]? = some cellB ∧ cellB.vm.isStatics = false ∧ s.vm.findClass (lm_y f.1).cls = some cellB.cls := by
    rcases hcls with ⟨hx0, hx2⟩ | ⟨hx8, ho⟩
    · obtain ⟨x1, x2⟩ := x
      simp only at hx0 hx2
      subst hx0
      obtain ⟨ha, hxa⟩ := lm_sh_lt hx1 (by simp)
      obtain ⟨w, hw⟩ := lm_cl_lt ((hR.2.2.1 a _ hxa).2 rfl)
      rw [lm_ad_lt ha, g8, ← hx2, lm_Rq hw]
      exact va_recv hE.1 hR.1 hw (lm_ws_get hxa)
    · obtain ⟨j, hj13, rfl⟩ := lm_str hR.2.2.1 hx1 hx8
      rw [lm_ad_pre, g8, ho]
      exact vk_recv (adK := fun j => pre (1 + j)) (adV := fun j => pre (20 + j)) (i := j) hE.2.2.2.1 hj13 hS
  have hpc := fun (U : State) (hU : U.heap = H) (hW : s.WarmedH U.vm) => lm_pcU (av := q.1) hE hts hR hS hz hU hW
  rw [hqa] at hM hpc hnq ⊢
  have hstk : ((Value.ref a :: As).reverse ++ q.2).map (lm_v base pre) = (As.map (lm_v base pre)).reverse ++ .ref (lm_ad base pre a) :: q.2.map (lm_v base pre) := by
    simp
    rfl
  rw [hstk]
  have hnA : (As.map (lm_v base pre)).length = y.1 := by
    rw [List.length_map]
    simpa using hnq
  cases hnest : f.2.1 with
  | false =>
    rw [hnest, if_neg (by decide)] at hk
    exact va_runV (As := As.map (lm_v base pre)) (b := lm_ad base pre a) (C := (lm_y f.1).cls) (n := y.1) ⟨hx, hb, hml, hown, hts⟩ hM ⟨⟨rfl, rfl, b1, b2, b3, b4, b5, b6, g7, g6, hts _ (lm_wT hk.1 rfl)⟩, hts _ (g3 (by omega)), hts _ (g4 hk1)⟩ ⟨lm_blind _ _, hrecv, hpc⟩ rfl hnA hl.1 rfl (by rw [lm_catsum]; show 2 * 0 + _ ≤ _; omega) hdg hmc
  | true =>
    rw [hnest, if_pos rfl] at hk
    exact va_runVN (As := As.map (lm_v base pre)) (b := lm_ad base pre a) (C := (lm_y f.1).cls) (n := y.1) ⟨hx, hb, hml, hown, hts⟩ hM ⟨⟨⟨rfl, rfl, b1, b2, b3, b4⟩, b5, b6, g7, g6, hts _ (lm_wT hk.1 rfl)⟩, hts _ (g3 (by omega)), hts _ (g4 hk1)⟩ ⟨lm_blind _ _, hrecv, hpc⟩ rfl hnA hl.1 rfl (by rw [lm_catsum]; show 2 * 0 + _ ≤ _; omega) hdg hmc
end LmCall2
