/-! A new LAW: copyOf (271), its constructor (23), the end of read (25 from 118). -/
section LmNewLaw
variable {d M pc : Nat} {L : lm_L} {st : List Value} {h : lm_H} {Q : Option Value → lm_H → Prop}
theorem ls_newL {k : Nat} {e : Nat × Nat} (hf : lm_at M pc (.new k) 3) (hp : lm_lk lm_pns (lm_own.getD M 0) k = some e) (hlen : h.1.length < 1000000) (kk : lm_W d M (pc + 3) L (.ref h.1.length :: st) (lm_new h (0, e.1)) Q) : lm_W d M pc L st h Q := ls_of hf (by
  show lm_o (lm_lk lm_pns _ k) _ _
  rw [hp]
  show if 1000000 ≤ h.1.length then False else _
  rw [if_neg (by omega)]
  exact kk)
theorem ls_newA {n : Nat} (hf : lm_at M pc (.newarray .int) 2) (hn : n < 1000) (hlen : h.1.length < 1000000) (k : lm_W d M (pc + 2) L (.ref h.1.length :: st) (lm_new h (1, n)) Q) : lm_W d M pc L (.int (Int32.ofNat n) :: st) h Q := ls_of hf (by
  show if Int32.ofNat n < 0 ∨ 67108864 < (Int32.ofNat n).toNatClampNeg ∨ 1000000 ≤ h.1.length then False else _
  have hneg : ¬ (Int32.ofNat n < 0 ∨ 67108864 < (Int32.ofNat n).toNatClampNeg ∨ 1000000 ≤ h.1.length) := by
    rintro (q | q | q)
    · rw [q_lt0 (by omega)] at q
      exact q
    · rw [q_nat (by omega)] at q
      omega
    · omega
  rw [if_neg hneg, q_nat (by omega)]
  exact k)
theorem ls_spec {j m n a : Nat} (hf : lm_at M pc (.invokespecial j) 3) (hp : lm_mp M j m n 2) (As rest : List Value) (hst : lm_pop (n + 1) st = some (.ref a :: As, rest)) (hc : (rest.map Value.category).sum ≤ 8) (k : lm_call d m (.ref a :: As) h (fun v h' => lm_W d M (pc + 3) L (v.toList ++ rest) h' Q)) : lm_W d M pc L st h Q := ls_of hf (by
  obtain ⟨e, y, h1, rfl, h0, h2, rfl, h4⟩ := hp
  show lm_o (lm_lk lm_pms _ j) _ _
  rw [h1]
  show if e.1 = 1000 then _ else _
  rw [if_neg (by omega), h2]
  show lm_o (lm_pop (y.1 + 1) st) _ _
  rw [hst]
  show if y.2.1 = 2 ∧ _ then _ else _
  rw [if_pos ⟨h4, hc⟩]
  exact k)
theorem ls_obj {j a : Nat} {e : Nat × Bool × Nat} (hf : lm_at M pc (.invokespecial j) 3) (hp : lm_lk lm_pms (lm_own.getD M 0) j = some e) (he : e.1 = 1000) (hc : (st.map Value.category).sum ≤ 8) (k : lm_W d M (pc + 3) L st h Q) : lm_W d M pc L (.ref a :: st) h Q := ls_of hf (by
  show lm_o (lm_lk lm_pms _ j) _ _
  rw [hp]
  show if e.1 = 1000 then _ else _
  rw [if_pos he]
  show if _ then _ else _
  rw [if_pos hc]
  exact k)
theorem ls_cpyN {j a b na nb : Nat} {n dp sp : Int32} (hf : lm_at M pc (.invokestatic j) 3) (hp : ∃ e, lm_lk lm_pms (lm_own.getD M 0) j = some e ∧ e.1 = 1001) (ha : lm_sh h a = some (1, na)) (hb : lm_sh h b = some (1, nb)) (hc : ¬ (sp < 0 ∨ dp < 0 ∨ n < 0 ∨ na < sp.toNatClampNeg + n.toNatClampNeg ∨ nb < dp.toNatClampNeg + n.toNatClampNeg) ∧ (st.map Value.category).sum ≤ 8)
    (k : lm_W d M (pc + 3) L st (lm_row h b (va_cpy (h.2.1 a) (h.2.1 b) sp.toNatClampNeg dp.toNatClampNeg n.toNatClampNeg)) Q) : lm_W d M pc L (.int n :: .int dp :: .ref b :: .int sp :: .ref a :: st) h Q := ls_of hf (by
  obtain ⟨e, h1, h2⟩ := hp
  show lm_o (lm_lk lm_pms _ j) _ _
  rw [h1]
  show if e.1 = 1001 then _ else _
  rw [if_pos h2]
  show lm_o (lm_sh h a) _ _
  rw [ha]
  show lm_o (lm_sh h b) _ _
  rw [hb]
  show if (1 : Nat) = 1 ∧ (1 : Nat) = 1 ∧ _ ∧ _ then _ else _
  rw [if_pos ⟨rfl, rfl, hc.1, hc.2⟩]
  exact k)
theorem ls_alenD {a n : Nat} (hf : lm_at M pc .arraylength 1) (hs : lm_sh h a = some (1, n)) (k : lm_W d M (pc + 1) L (.int (Int32.ofNat n) :: st) h Q) : lm_W d M pc L (.ref a :: st) h Q := ls_of hf (by
  show lm_o (lm_sh h a) _ _
  rw [hs]
  exact k)
end LmNewLaw
theorem sh_new {h : lm_H} {x : Nat × Nat} (hlen : h.1.length < 1000000) : lm_sh (lm_new h x) h.1.length = some x := by
  unfold lm_sh
  rw [if_pos hlen]
  show (h.1 ++ [x])[h.1.length]? = some x
  rw [List.getElem?_append_right (Nat.le_refl _), Nat.sub_self]
  rfl
theorem sh_old {h : lm_H} {x y : Nat × Nat} {a : Nat} (ha : a < 1000000) (hs : lm_sh h a = some y) : lm_sh (lm_new h x) a = some y := by
  unfold lm_sh at hs ⊢
  rw [if_pos ha] at hs ⊢
  show (h.1 ++ [x])[a]? = some y
  have hlt : a < h.1.length := (List.getElem?_eq_some_iff.mp hs).1
  rw [List.getElem?_append_left hlt]
  exact hs
theorem S17 {h : lm_H} (hl : lm_Lay h) : lm_sh h 17 = some (1, 401) := by
  unfold lm_sh
  rw [if_pos (by omega)]
  exact hl.1 17 _ S_17
theorem cl_271 {D l : Nat} {h : lm_H} {K : Option Nat → lm_H → Prop} (hD : 1 ≤ D) (hl : lm_Lay h) (hlen : h.1.length < 1000000) (hn : l < 401) (hK : K (some h.1.length) (lm_row (lm_new h (1, l)) h.1.length (va_cpy ((lm_new h (1, l)).2.1 17) ((lm_new h (1, l)).2.1 h.1.length) 0 0 l))) : lm_call D 271 [.ref 17, .int (Int32.ofNat l)] h (lm_kR K) := by
  obtain ⟨d, rfl⟩ := q_dp hD
  refine ls_enter [some (.ref 17), some (.int (Int32.ofNat l)), none] ml_271 (Nat.le_of_ble_eq_true rfl) rfl ?_
  refine ls_iload_n f_271_0 rfl ?_
  refine ls_aload_n f_271_1 rfl ?_
  refine ls_alenD f_271_2 (S17 hl) ?_
  refine ls_icmp_ne_F 14 f_271_3 rfl (by rw [q_eq (by omega) (by omega)]; omega) ?_
  refine ls_iload_n f_271_14 rfl ?_
  refine ls_newA f_271_15 (by omega) hlen ?_
  refine ls_astore_n [some (.ref 17), some (.int (Int32.ofNat l)), some (.ref h.1.length)] f_271_17 (Nat.le_of_ble_eq_true rfl) rfl ?_
  refine ls_aload_n f_271_18 rfl ?_
  refine ls_iconst 0 f_271_19 (by decide) ?_
  refine ls_aload_n f_271_20 rfl ?_
  refine ls_iconst 0 f_271_21 (by decide) ?_
  refine ls_aload_n f_271_22 rfl ?_
  have s17 : lm_sh (lm_new h (1, l)) 17 = some (1, 401) := sh_old (by omega) (S17 hl)
  refine ls_alenD f_271_23 s17 ?_
  refine ls_iload_n f_271_24 rfl ?_
  refine ls_mathI (v := Int32.ofNat l) 1003 f_271_25 q_271_304 (Or.inr ⟨rfl, ?_⟩) (Nat.le_of_ble_eq_true rfl) ?_
  · rw [if_pos (by rw [q_lt (by omega) (by omega)]; exact hn)]
  refine ls_cpyN f_271_28 q_271_150 s17 (sh_new hlen) ⟨?_, Nat.le_of_ble_eq_true rfl⟩ ?_
  · rw [q_nat (by omega), q_lt0 (by omega)]
    have z0 : (0 : Int32).toNatClampNeg = 0 := rfl
    have z1 : ¬ (0 : Int32) < 0 := by decide
    rw [z0]
    intro q
    rcases q with q | q | q | q | q
    · exact z1 q
    · exact z1 q
    · exact q
    · omega
    · omega
  refine ls_aload_n f_271_31 rfl ?_
  refine ls_areturn (x := some h.1.length) f_271_32 rZ_271 rfl ?_
  rw [q_nat (by omega)]
  exact hK
theorem cl_23 {D a b : Nat} {h : lm_H} {K : lm_H → Prop} (hD : 1 ≤ D) (hs : lm_sh h a = some (0, 2)) (hr : lm_r h a 0 = none) (hK : K (lm_sr h a 0 (some b))) : lm_call D 23 [.ref a, .ref b] h (lm_kV K) := by
  obtain ⟨d, rfl⟩ := q_dp hD
  refine ls_enter [some (.ref a), some (.ref b)] ml_23 (Nat.le_of_ble_eq_true rfl) rfl ?_
  refine ls_aload_n f_23_0 rfl ?_
  refine ls_obj (e := (1000, false, 13061)) f_23_1 (by decide +kernel) rfl (Nat.le_of_ble_eq_true rfl) ?_
  refine ls_aload_n f_23_4 rfl ?_
  refine ls_aload_n f_23_5 rfl ?_
  refine ls_of f_23_6 ?_
  obtain ⟨f, g1, g2, g3, g4⟩ := p_23_7
  have ct : lm_ct 23 = true := by decide +kernel
  have ow : lm_own.getD 23 0 = 2 := ow_23
  have e7 : lm_lk lm_pfs (lm_own.getD 23 0) 7 = some (2, 0, false, 13062) := by decide +kernel
  have k2 : lm_fk (lm_ty 2 0) = 2 := by decide +kernel
  simp only [lm_stepK]
  rw [e7, ct, ow]
  simp only [lm_o, k2, lm_pA, lm_pR, hs, hr]
  simp only [Nat.reduceEqDiff, if_false, if_true, and_self]
  exact ls_return f_23_9 rV_23 hK
/-- the heap with a new law of the l steps that lie ready -/
def nlH (h : lm_H) (l : Nat) : lm_H := lm_sr (lm_row (lm_new (lm_new h (0, 2)) (1, l)) (h.1.length + 1) (va_cpy ((lm_new (lm_new h (0, 2)) (1, l)).2.1 17) ((lm_new (lm_new h (0, 2)) (1, l)).2.1 (h.1.length + 1)) 0 0 l)) h.1.length 0 (some (h.1.length + 1))
theorem len_new (h : lm_H) (x : Nat × Nat) : (lm_new h x).1.length = h.1.length + 1 := by
  show (h.1 ++ [x]).length = _
  rw [List.length_append]
  rfl
theorem cl_25n {d l : Nat} {h : lm_H} {K : Option Nat → lm_H → Prop} (hd : 1 ≤ d) (hl : lm_Lay h) (hlen : h.1.length + 1 < 1000000) (hn : l < 401) (h5 : lm_i h 13 5 = Int32.ofNat l) (hK : K (some h.1.length) (nlH h l)) : lm_W d 25 118 [some (.ref 13), none, none, none, none] [] h (lm_kR K) := by
  have hl1 : lm_Lay (lm_new h (0, 2)) := lm_Lay_new hl _
  have l13 : 119 ≤ h.1.length := by
    have := hl.1 118 _ S_118
    have := (List.getElem?_eq_some_iff.mp this).1
    omega
  have i13 : lm_i (lm_new h (0, 2)) 13 5 = Int32.ofNat l := by
    rw [← h5]
    show lm_w h.2.1 h.1.length (fun _ => 0) 13 5 = h.2.1 13 5
    unfold lm_w
    rw [if_neg (by omega)]
  refine ls_newL (e := (2, 13042)) f_25_118 (by decide +kernel) (by omega) ?_
  show lm_W d 25 121 [some (.ref 13), none, none, none, none] [.ref h.1.length] (lm_new h (0, 2)) (lm_kR K)
  refine ls_dup f_25_121 rfl ?_
  refine ls_aload_n f_25_122 rfl ?_
  refine ls_getR f_25_123 p_25_21 hl1 S_13 F_13_3 ?_
  refine ls_aload_n f_25_126 rfl ?_
  refine ls_getI f_25_127 p_25_28 hl1 S_13 ?_
  rw [i13]
  refine ls_invS f_25_130 q_25_60 [.ref 17, .int (Int32.ofNat l)] [.ref h.1.length, .ref h.1.length] rfl (Nat.le_of_ble_eq_true rfl) ?_
  have e1 := len_new h (0, 2)
  refine ls_call (cl_271 (K := fun r h' => r = some (h.1.length + 1) ∧ h' = lm_row (lm_new (lm_new h (0, 2)) (1, l)) (h.1.length + 1) (va_cpy ((lm_new (lm_new h (0, 2)) (1, l)).2.1 17) ((lm_new (lm_new h (0, 2)) (1, l)).2.1 (h.1.length + 1)) 0 0 l)) hd hl1 (by omega) hn ?_) hl1 (fun v h' hl' hyp => ?_)
  · rw [e1]
    exact ⟨rfl, rfl⟩
  refine ls_retR hyp (fun r hyp => ?_)
  obtain ⟨rfl, rfl⟩ := hyp
  refine ls_spec (a := h.1.length) f_25_133 q_25_66 [.ref (h.1.length + 1)] [.ref h.1.length] rfl (Nat.le_of_ble_eq_true rfl) ?_
  have s0 : lm_sh (lm_row (lm_new (lm_new h (0, 2)) (1, l)) (h.1.length + 1) (va_cpy ((lm_new (lm_new h (0, 2)) (1, l)).2.1 17) ((lm_new (lm_new h (0, 2)) (1, l)).2.1 (h.1.length + 1)) 0 0 l)) h.1.length = some (0, 2) := sh_old (by omega) (sh_new (by omega))
  have r0 : lm_r (lm_row (lm_new (lm_new h (0, 2)) (1, l)) (h.1.length + 1) (va_cpy ((lm_new (lm_new h (0, 2)) (1, l)).2.1 17) ((lm_new (lm_new h (0, 2)) (1, l)).2.1 (h.1.length + 1)) 0 0 l)) h.1.length 0 = none := by
    show lm_w (lm_w h.2.2.2 h.1.length (fun _ => none)) (lm_new h (0, 2)).1.length (fun _ => none) h.1.length 0 = none
    unfold lm_w
    rw [e1, if_neg (by omega), if_pos rfl]
  refine ls_call (cl_23 (K := fun h' => h' = nlH h l) hd s0 r0 rfl) hl' (fun v h' hl'' hyp => ?_)
  refine ls_retV hyp (fun hyp => ?_)
  subst hyp
  refine ls_goto 140 f_25_136 rfl ?_
  exact ls_areturn (x := some h.1.length) f_25_140 rZ_25 rfl hK
