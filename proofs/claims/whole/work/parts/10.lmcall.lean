section LmNew
variable {p : Program} {l : Launch} {e : Env} {R : Room} {s : State} {m : MethodId} {args : Array Value} {below : List Frame} {meth : Method} {c : Code} {D : va_G} {base : Nat} {pre : Nat → Nat} {cs : Nat → ClassId} {sL : Nat} {xs : Nat → Int32} {M d : Nat} {h0 : lm_H} {Q : State → Prop}
theorem lm_R_new {h : lm_H} {H H1 : Heap} {x : Nat × Nat} (hR : lm_R D base pre cs sL xs h H) (hl : ¬ 1000000 ≤ h.1.length) (hx : x.1 ≤ 6 ∧ (x.1 = 0 → x.2 < 13)) (o1 : ∀ q, q < H.size → H1[q]? = H[q]?) (ha : va_at D vwCl (base + h.1.length, lm_E base pre cs (lm_new h x) h.1.length x) H1) : lm_R D base pre cs sL xs (lm_new h x) H1 := by
  obtain ⟨h1, h2, h3, h4, h5, h6⟩ := hR
  have hn : (1000000 : Nat) ≠ h.1.length := by omega
  have hn1 : (1000001 : Nat) ≠ h.1.length := by omega
  refine ⟨?_, ?_, ?_, ?_, ?_, ?_⟩
  · rw [lm_ws_new]
    refine va_P.app (h1.kept fun k q hk => o1 q.1 (h1 k q hk).lt) (fun k q hk => ?_)
    have hz : k < 1 := (List.getElem?_eq_some_iff.mp hk).1
    rw [show k = 0 by omega] at hk
    cases hk
    exact ha
  · show (h.1 ++ [x]).length ≤ _
    rw [List.length_append, List.length_singleton]
    omega
  · intro a y hy
    have hy : (h.1 ++ [x])[a]? = some y := hy
    by_cases hal : a < h.1.length
    · rw [List.getElem?_append_left hal] at hy
      exact h3 a y hy
    · rw [List.getElem?_append_right (by omega)] at hy
      have hz : a - h.1.length < 1 := (List.getElem?_eq_some_iff.mp hy).1
      rw [show a - h.1.length = 0 by omega] at hy
      cases hy
      exact hx
  · have e9 : (lm_new h x).2.2.2 1000000 = h.2.2.2 1000000 := lm_w_ne _ _ _ hn
    unfold lm_r
    rw [e9]
    exact h4
  · intro j
    have e9 : (lm_new h x).2.1 1000000 = h.2.1 1000000 := lm_w_ne _ _ _ hn
    unfold lm_i
    rw [e9]
    exact h5 j
  · have e9 : (lm_new h x).2.2.2 1000001 = h.2.2.2 1000001 := lm_w_ne _ _ _ hn1
    unfold lm_r
    rw [e9]
    exact h6
theorem lm_cnt_new {h : lm_H} (x : Nat × Nat) (h01 : h0.1.length ≤ h.1.length) (h02 : lm_sz h0 ≤ lm_sz h) : (lm_new h x).1.length - h0.1.length = h.1.length - h0.1.length + 1 ∧ lm_sz (lm_new h x) - lm_sz h0 = lm_sz h - lm_sz h0 + lm_size x ∧ h0.1.length ≤ (lm_new h x).1.length ∧ lm_sz h0 ≤ lm_sz (lm_new h x) := by
  have e1 : (lm_new h x).1.length = h.1.length + 1 := by
    show (h.1 ++ [x]).length = _
    simp
  rw [lm_sz_new, e1]
  omega
theorem lm_born {h : lm_H} {ci k : Nat} (ht : lm_tyb (lm_ty ci k) = true) : defaultValue (lm_ty ci k) = lm_fv base pre (lm_new h (0, ci)) h.1.length ci k := by
  unfold lm_fv lm_fget lm_i lm_l lm_r lm_new
  simp only [lm_w_eq]
  generalize lm_ty ci k = ty at ht
  cases ty <;> first | rfl | cases ht
theorem lm_st_new {h : lm_H} {len pc : Nat} {L : lm_L} {st : List Value} {rty : Option FieldType} {RT : Option Value → Prop} {CL : Nat → List Value → List Value → Prop} {k : Nat} (hF : lm_F p R s m args meth c D base pre cs sL xs M d h0) (hdg : decode (lm_cs.getD M ⟨#[]⟩) pc = .ok (.new k, len)) (hlen : lm_lenok (.new k, len) = true)
    (hs : lm_stepK (lm_ct M) (lm_sh h) (lm_r h) (lm_own.getD M 0) rty (.new k) len pc L st h False (fun pc' L' st' h' => lm_rm R h0 h' ∧ lm_G p l e R s m args below meth c D base pre cs sL xs (lm_ml.getD M 0) h0 Q pc' L' st' h') RT CL) :
    lm_G p l e R s m args below meth c D base pre cs sL xs (lm_ml.getD M 0) h0 Q pc L st h := by
  obtain ⟨hx, hb, hml, hown, hts, hE, hsz, hct, hfr, hlo⟩ := hF
  intro hL h01 h02 H locs ls hR hS hl
  obtain rfl : len = 3 := by simpa [lm_lenok] using hlen
  replace hs := lm_o_F hs
  obtain ⟨f, hf, hs⟩ := hs
  replace hs := lm_if_T hs
  obtain ⟨hcap, hs⟩ := hs
  have hk := lm_pns_ok hf
  unfold lm_okN at hk
  cases hq : vwCl[f.1]? with
  | none => rw [hq] at hk; cases hk
  | some q =>
    rw [hq] at hk
    have hk := of_decide_eq_true hk
    have hci : f.1 < 13 := (List.getElem?_eq_some_iff.mp hq).1
    obtain ⟨c1, c2, c3, c4⟩ := lm_cnt_new (0, f.1) h01 h02
    have hsize : lm_size (0, f.1) = q.2.2 := by
      show lm_nf f.1 = _
      exact lm_nf_q hq
    rw [hsize] at c2
    obtain ⟨hr, hg⟩ := hs
    unfold lm_rm at hr
    rw [c1, c2] at hr
    refine lm_sized hsz h01 hS hR (fun hz => ?_)
    refine W.newcK hx hb hown (hts _ (lm_wT hk rfl)) (hts _ (lm_inst hq).1) (hts _ (lm_inst hq).2) rfl hdg hr.1 hr.2 (hE.1.1 f.1 q hq).2.1 hz (fun H1 kC hkC e1 z1 o1 => ?_)
    have ha : va_at D vwCl (base + h.1.length, lm_E base pre cs (lm_new h (0, f.1)) h.1.length (0, f.1)) H1 := by
      refine ⟨q, hq, (u_born (lm_ty f.1) hts (lm_lay hq) (hE.1.1 f.1 q hq) hkC e1 (lm_tyok hq)).to (fun j hj => ?_)⟩
      rw [lm_born (lm_tyk hq j hj)]
      unfold vp_V
      rw [List.getD_eq_getElem?_getD, lm_fs_get (by rw [lm_nf_q hq]; exact hj)]
      rfl
    have hR' := lm_R_new hR hcap (x := (0, f.1)) ⟨by simp, fun _ => hci⟩ (fun w hw => o1 w (by rw [← hz]; exact hw)) ha
    have hn := hg hL c3 c4 H1 locs ls hR' ⟨by have := hS.1; omega, fun w g1 g2 => (o1 w (by have := hS.1; omega)).trans (hS.2.1 w g1 g2), hS.2.2⟩ hl
    rw [c1, c2, List.map_cons, lm_vr_lt (by omega)] at hn
    exact hn
theorem lm_st_newarray {h : lm_H} {len pc : Nat} {L : lm_L} {st : List Value} {rty : Option FieldType} {RT : Option Value → Prop} {CL : Nat → List Value → List Value → Prop} {t : ArrayType} (hF : lm_F p R s m args meth c D base pre cs sL xs M d h0) (hdg : decode (lm_cs.getD M ⟨#[]⟩) pc = .ok (.newarray t, len)) (hlen : lm_lenok (.newarray t, len) = true)
    (hs : lm_stepK (lm_ct M) (lm_sh h) (lm_r h) (lm_own.getD M 0) rty (.newarray t) len pc L st h False (fun pc' L' st' h' => lm_rm R h0 h' ∧ lm_G p l e R s m args below meth c D base pre cs sL xs (lm_ml.getD M 0) h0 Q pc' L' st' h') RT CL) :
    lm_G p l e R s m args below meth c D base pre cs sL xs (lm_ml.getD M 0) h0 Q pc L st h := by
  obtain ⟨hx, hb, hml, hown, hts, hE, hsz, hct, hfr, hlo⟩ := hF
  intro hL h01 h02 H locs ls hR hS hl
  obtain rfl : len = 2 := by simpa [lm_lenok] using hlen
  replace hs := lm_pI_F hs
  obtain ⟨n, s1, rfl, hs⟩ := hs
  replace hs := lm_o_F hs
  obtain ⟨g, hg0, hs⟩ := hs
  replace hs := lm_if_T hs
  obtain ⟨hcap, hs⟩ := hs
  have hn0 : ¬ n < 0 := fun h9 => hcap (Or.inl h9)
  have hn1 : n.toNatClampNeg ≤ 67108864 := by
    apply Classical.byContradiction
    intro h9
    exact hcap (Or.inr (Or.inl (by omega)))
  have hcap3 : ¬ 1000000 ≤ h.1.length := fun h9 => hcap (Or.inr (Or.inr h9))
  obtain ⟨c1, c2, c3, c4⟩ := lm_cnt_new (g, n.toNatClampNeg) h01 h02
  have hgt : (g = 1 ∧ t = .int) ∨ (g = 2 ∧ t = .boolean) ∨ (g = 3 ∧ t = .byte) ∨ (g = 4 ∧ t = .long) := by
    cases t <;> simp [lm_atag] at hg0 <;> subst hg0 <;> simp
  have hg1 : 1 ≤ g ∧ g ≤ 4 := by omega
  have hsize : lm_size (g, n.toNatClampNeg) = n.toNatClampNeg := by
    unfold lm_size
    rw [if_neg (by simp only; omega)]
  rw [hsize] at c2
  obtain ⟨hr, hg⟩ := hs
  unfold lm_rm at hr
  rw [c1, c2] at hr
  have hty : newarray.typeOf t = lm_aty g := by
    rcases hgt with ⟨a, b⟩ | ⟨a, b⟩ | ⟨a, b⟩ | ⟨a, b⟩ <;> subst a <;> subst b <;> rfl
  have hac : Cond.arrayClass (newarray.typeOf t) ∈ lm_T := by
    rcases hgt with ⟨a, b⟩ | ⟨a, b⟩ | ⟨a, b⟩ | ⟨a, b⟩ <;> subst a <;> subst b
    · exact lm_ac.1
    · exact lm_ac.2.1
    · exact lm_ac.2.2.1
    · exact lm_ac.2.2.2
  refine lm_sized hsz h01 hS hR (fun hz => ?_)
  refine va_newaK hx hb (atype := t) (hts _ hac) rfl hdg rfl hn0 rfl ?_ hr.1 hr.2 hz (fun H1 cA e1 z1 o1 _ hfc => ?_)
  · rw [hty]
    rcases hgt with ⟨a, b⟩ | ⟨a, b⟩ | ⟨a, b⟩ | ⟨a, b⟩ <;> subst a <;> simp [lm_aty, componentBytes] <;> omega
  have hcA : cA = cs g := by
    have h7 := (hE.1.2 _ _ (lm_tyl_get cs hg1.1 (by omega))).2
    rw [hty] at hfc
    have h8 : s.vm.findClass ("[" ++ (lm_aty g).toString) = some (cs g) := by
      rcases hgt with ⟨a, b⟩ | ⟨a, b⟩ | ⟨a, b⟩ | ⟨a, b⟩ <;> subst a <;> exact h7
    exact Option.some.inj (hfc.symm.trans h8)
  subst hcA
  have ha : va_at D vwCl (base + h.1.length, lm_E base pre cs (lm_new h (g, n.toNatClampNeg)) h.1.length (g, n.toNatClampNeg)) H1 := by
    rw [hty] at e1
    rcases hgt with ⟨a, b⟩ | ⟨a, b⟩ | ⟨a, b⟩ | ⟨a, b⟩ <;> subst a
    · rw [lm_E_int (by omega) (by omega), show (lm_new h (1, n.toNatClampNeg)).2.1 h.1.length = fun _ => 0 from lm_w_eq _ _ _]
      exact e1
    · rw [lm_E_int (by omega) (by omega), show (lm_new h (2, n.toNatClampNeg)).2.1 h.1.length = fun _ => 0 from lm_w_eq _ _ _]
      exact e1
    · rw [lm_E_int (by omega) (by omega), show (lm_new h (3, n.toNatClampNeg)).2.1 h.1.length = fun _ => 0 from lm_w_eq _ _ _]
      exact e1
    · rw [lm_E_long, show (lm_new h (4, n.toNatClampNeg)).2.2.1 h.1.length = fun _ => 0 from lm_w_eq _ _ _]
      exact e1
  have hR' := lm_R_new hR hcap3 (x := (g, n.toNatClampNeg)) ⟨by simp only; omega, fun h9 => by simp only at h9; omega⟩ (fun w hw => o1 w (by rw [← hz]; exact hw)) ha
  have hn := hg hL c3 c4 H1 locs ls hR' ⟨by have := hS.1; omega, fun w g1 g2 => (o1 w (by have := hS.1; omega)).trans (hS.2.1 w g1 g2), hS.2.2⟩ hl
  rw [c1, c2, List.map_cons, lm_vr_lt (by omega)] at hn
  exact hn
theorem lm_st_anewarray {h : lm_H} {len pc : Nat} {L : lm_L} {st : List Value} {rty : Option FieldType} {RT : Option Value → Prop} {CL : Nat → List Value → List Value → Prop} {k : Nat} (hF : lm_F p R s m args meth c D base pre cs sL xs M d h0) (hdg : decode (lm_cs.getD M ⟨#[]⟩) pc = .ok (.anewarray k, len)) (hlen : lm_lenok (.anewarray k, len) = true)
    (hs : lm_stepK (lm_ct M) (lm_sh h) (lm_r h) (lm_own.getD M 0) rty (.anewarray k) len pc L st h False (fun pc' L' st' h' => lm_rm R h0 h' ∧ lm_G p l e R s m args below meth c D base pre cs sL xs (lm_ml.getD M 0) h0 Q pc' L' st' h') RT CL) :
    lm_G p l e R s m args below meth c D base pre cs sL xs (lm_ml.getD M 0) h0 Q pc L st h := by
  obtain ⟨hx, hb, hml, hown, hts, hE, hsz, hct, hfr, hlo⟩ := hF
  intro hL h01 h02 H locs ls hR hS hl
  obtain rfl : len = 3 := by simpa [lm_lenok] using hlen
  replace hs := lm_pI_F hs
  obtain ⟨n, s1, rfl, hs⟩ := hs
  replace hs := lm_o_F hs
  obtain ⟨f, hf, hs⟩ := hs
  replace hs := lm_if_T hs
  obtain ⟨hcap, hs⟩ := hs
  have hk := lm_pas_ok hf
  unfold lm_okA at hk
  simp only [Bool.and_eq_true, decide_eq_true_eq] at hk
  obtain ⟨g, fp⟩ := f
  simp only at hk hs
  have hn0 : ¬ n < 0 := fun h9 => hcap (Or.inl h9)
  have hn1 : n.toNatClampNeg ≤ 67108864 := by
    apply Classical.byContradiction
    intro h9
    exact hcap (Or.inr (Or.inl (by omega)))
  have hcap3 : ¬ 1000000 ≤ h.1.length := fun h9 => hcap (Or.inr (Or.inr h9))
  obtain ⟨c1, c2, c3, c4⟩ := lm_cnt_new (g, n.toNatClampNeg) h01 h02
  have hg1 : 5 ≤ g ∧ g ≤ 6 := by omega
  have hsize : lm_size (g, n.toNatClampNeg) = n.toNatClampNeg := by
    unfold lm_size
    rw [if_neg (by simp only; omega)]
  rw [hsize] at c2
  obtain ⟨hr, hg⟩ := hs
  unfold lm_rm at hr
  rw [c1, c2] at hr
  have hty : lm_aty g = .object (lm_aC g) := by
    rcases hk.1 with a | a <;> subst a <;> rfl
  have hao : Cond.arrayOver (.object (lm_aC g)) ∈ lm_T := by
    rcases hk.1 with a | a <;> subst a
    · exact lm_ao.1
    · exact lm_ao.2
  refine lm_sized hsz h01 hS hR (fun hz => ?_)
  refine W.anew hx hb hown (hts _ (lm_wT hk.2 rfl)) (hts _ hao) rfl hdg rfl hn0 (by omega) hr.1 hr.2 (fun cA kA comp f1 f2 f3 f4 => ?_)
  have hcA : cA = cs g := by
    have h7 := (hE.1.2 _ _ (lm_tyl_get cs (by omega : 1 ≤ g) hg1.2)).2
    rw [hty] at h7
    obtain ⟨kA', comp', -, -, -, h8⟩ := h7
    exact Option.some.inj (f1.symm.trans h8)
  subst hcA
  generalize hH1 : (H.push { cls := cs g, slots := Array.replicate n.toNatClampNeg .null, vm := .none } : Heap) = H1
  have z1 : H1.size = H.size + 1 := by rw [← hH1, Array.size_push]
  have e1 : H1[H.size]? = some (arrV (cs g) n.toNatClampNeg (fun _ => .null)) := by rw [← hH1, Array.getElem?_push_size, ← arrV_new]
  have o1 : ∀ q : Nat, q < H.size → H1[q]? = H[q]? := fun q hq => by rw [← hH1, Array.getElem?_push, if_neg (Nat.ne_of_lt hq)]
  have ha : va_at D vwCl (base + h.1.length, lm_E base pre cs (lm_new h (g, n.toNatClampNeg)) h.1.length (g, n.toNatClampNeg)) H1 := by
    rw [lm_E_ref hg1.1, show (lm_new h (g, n.toNatClampNeg)).2.2.2 h.1.length = fun _ => none from lm_w_eq _ _ _]
    rw [hz] at e1
    exact e1
  have hR' := lm_R_new hR hcap3 (x := (g, n.toNatClampNeg)) ⟨hg1.2, fun h9 => by simp only at h9; omega⟩ o1 ha
  have hn := hg hL c3 c4 H1 locs ls hR' ⟨by have := hS.1; omega, fun w g1 g2 => (o1 w (by have := hS.1; omega)).trans (hS.2.1 w g1 g2), hS.2.2⟩ hl
  rw [c1, c2, List.map_cons, lm_vr_lt (by omega)] at hn
  rw [hz]
  exact hn
end LmNew
section LmCalls
variable {p : Program} {l : Launch} {e : Env} {R : Room} {s : State} {m : MethodId} {args : Array Value} {below : List Frame} {meth : Method} {c : Code} {D : va_G} {base : Nat} {pre : Nat → Nat} {cs : Nat → ClassId} {sL : Nat} {xs : Nat → Int32} {M d : Nat} {h0 : lm_H} {Q : State → Prop}
theorem lm_st_arraycopy {h : lm_H} {pc k : Nat} {L : lm_L} {n dp sp : Int32} {a b : Nat} {st : List Value} {x y : Nat × Nat} {f : Nat × Bool × Nat} (hF : lm_F p R s m args meth c D base pre cs sL xs M d h0) (hdg : decode (lm_cs.getD M ⟨#[]⟩) pc = .ok (.invokestatic k, 3)) (hf : lm_lk lm_pms (lm_own.getD M 0) k = some f) (hf1 : f.1 = 1001) (hxa : lm_sh h a = some x) (hyb : lm_sh h b = some y)
    (hc : x.1 = 1 ∧ y.1 = 1 ∧ ¬ (sp < 0 ∨ dp < 0 ∨ n < 0 ∨ x.2 < sp.toNatClampNeg + n.toNatClampNeg ∨ y.2 < dp.toNatClampNeg + n.toNatClampNeg) ∧ (st.map Value.category).sum ≤ 8)
    (hs : lm_G p l e R s m args below meth c D base pre cs sL xs (lm_ml.getD M 0) h0 Q (pc + 3) L st (lm_row h b (va_cpy (h.2.1 a) (h.2.1 b) sp.toNatClampNeg dp.toNatClampNeg n.toNatClampNeg))) :
    lm_G p l e R s m args below meth c D base pre cs sL xs (lm_ml.getD M 0) h0 Q pc L (.int n :: .int dp :: .ref b :: .int sp :: .ref a :: st) h := by
  obtain ⟨hx, hb, hml, hown, hts, hE, hsz, hct, hfr, hlo⟩ := hF
  intro hL h01 h02 H locs ls hR hS hl
  obtain ⟨x1, x2⟩ := x
  obtain ⟨y1, y2⟩ := y
  obtain ⟨c1, c2, c3, c4⟩ := hc
  simp only at c1 c2 c3
  subst c1
  subst c2
  obtain ⟨ha, hxa⟩ := lm_sh_lt hxa (by simp)
  obtain ⟨hbl, hyb⟩ := lm_sh_lt hyb (by simp)
  have hk := lm_pms_ok hf
  unfold lm_okM at hk
  simp only [Bool.and_eq_true, decide_eq_true_eq] at hk
  have hn2 : f.2.1 = false := by
    cases hz : f.2.1 with
    | false => rfl
    | true =>
      have := hk.2.2 (by omega)
      rw [hz] at this
      cases this
  rw [hn2, if_neg (by decide), hf1] at hk
  have hlink : (Cond.methodLink (lm_Rs.getD (lm_own.getD M 0) "") k arraycopyName).before args s = true := hts _ (lm_wT hk.1 rfl)
  rw [List.map_cons, List.map_cons, List.map_cons, List.map_cons, List.map_cons, lm_vr_lt ha, lm_vr_lt hbl]
  have hcat : (((st.map (lm_v base pre)).map fun v => v.category).sum) = (st.map Value.category).sum := by
    rw [List.map_map]
    congr 1
    exact List.map_congr_left (fun v _ => lm_v_cat base pre v)
  refine va_copyi hx hb (by rw [hml]; exact hl.1.symm) hown hlink (hts _ lm_acp.1) (hts _ lm_acp.2.1) (hts _ lm_acp.2.2) hE.1 hR.1 (lm_ws_D base pre cs h) hS a b 0 0 ((lm_ws_get hxa).trans (by rw [lm_E_int (by omega) (by omega)])) ((lm_ws_get hyb).trans (by rw [lm_E_int (by omega) (by omega)])) rfl rfl rfl
    (fun h9 => c3 (Or.inl h9)) (fun h9 => c3 (Or.inr (Or.inl h9))) (fun h9 => c3 (Or.inr (Or.inr (Or.inl h9)))) (Nat.le_of_not_lt fun h9 => c3 (Or.inr (Or.inr (Or.inr (Or.inl h9))))) (Nat.le_of_not_lt fun h9 => c3 (Or.inr (Or.inr (Or.inr (Or.inr h9))))) (fun i hi => rfl) (by omega) ?_ hdg (fun H1 locs1 hP1 _ hS1 => hs hL h01 h02 H1 locs1 ls (lm_R_store hR hyb hbl rfl (fun b' hb9 => ⟨lm_w_ne _ _ _ hb9, rfl, rfl⟩) ?_ hP1) hS1 hl)
  · rw [hcat]
    have : nativeFrameWords "java/lang/System" "arraycopy" 5 + 11 ≤ 40 := by decide +kernel
    omega
  · rw [lm_E_int (by omega) (by omega), show (lm_row h b (va_cpy (h.2.1 a) (h.2.1 b) sp.toNatClampNeg dp.toNatClampNeg n.toNatClampNeg)).2.1 b = va_cpy (h.2.1 a) (h.2.1 b) sp.toNatClampNeg dp.toNatClampNeg n.toNatClampNeg from lm_w_eq _ _ _]
-- the contract of a method, at one run of the light machine
def lm_Pc (D : va_G) (base : Nat) (pre : Nat → Nat) (cs : Nat → ClassId) (sL : Nat) (xs : Nat → Int32) (av : List Value) (h : lm_H) : Array Value → State → Prop := va_Pc (av.map (lm_v base pre)) (fun U => lm_Env D base pre cs sL xs U ∧ lm_R D base pre cs sL xs h U.heap ∧ U.heap.size = base + h.1.length ∧ ∀ w ∈ lm_T, w.before #[] U = true)
def lm_Qc (D : va_G) (base : Nat) (pre : Nat → Nat) (cs : Nat → ClassId) (sL : Nat) (xs : Nat → Int32) (v : Option Value) (h' : lm_H) : Array Value → State → Outcome → State → Prop := fun _ st oc t => oc = .returned (v.map (lm_v base pre)) ∧ lm_R D base pre cs sL xs h' t.heap ∧ va_F (lm_A base) st t
def lm_room (d mc ms : Nat) : Room := { frames := d + 1, cells := mc, slots := ms, locals := 60 * (d + 1) }
abbrev lm_y (j : Nat) : MethodName := lm_ys.getD j ⟨"", "", ""⟩
def lm_ww (j : Nat) : List Cond := [.code (lm_y j) (lm_cs.getD j ⟨#[]⟩) (lm_ml.getD j 0) (lm_rs.getD j none)]
def lm_M (l : Launch) (D : va_G) (base : Nat) (pre : Nat → Nat) (cs : Nat → ClassId) (sL : Nat) (xs : Nat → Int32) (d j : Nat) (av : List Value) (h : lm_H) (v : Option Value) (h' : lm_H) : Prop :=
  Met l (lm_y j) (lm_ww j) (lm_room d (h'.1.length - h.1.length) (lm_sz h' - lm_sz h)) (lm_Pc D base pre cs sL xs av h) (lm_Qc D base pre cs sL xs v h') (h'.1.length - h.1.length) (lm_sz h' - lm_sz h) (lm_A base)
end LmCalls
