def lm_rm (R : Room) (h0 h : lm_H) : Prop := h.1.length - h0.1.length ≤ R.cells ∧ lm_sz h - lm_sz h0 ≤ R.slots
/-- a frame of a method of the program -/
def lm_F (p : Program) (R : Room) (s : State) (m : MethodId) (args : Array Value) (meth : Method) (c : Code) (D : va_G) (base : Nat) (pre : Nat → Nat) (cs : Nat → ClassId) (sL : Nat) (xs : Nat → Int32) (M d : Nat) (h0 : lm_H) : Prop :=
  p.tables.exec = Jvm.exec ∧ c.code = lm_cs.getD M ⟨#[]⟩ ∧ c.maxLocals = lm_ml.getD M 0 ∧ s.vm.findClass (lm_Rs.getD (lm_own.getD M 0) "") = some m.cls ∧ (∀ w ∈ lm_T, w.before args s = true) ∧ lm_Env D base pre cs sL xs s ∧ s.heap.size = base + h0.1.length ∧ (lm_ct M = true → meth.name = "<init>") ∧ d + 1 ≤ R.frames ∧ 60 * (d + 1) ≤ R.locals
/-- the machine, where the light machine stands -/
def lm_G (p : Program) (l : Launch) (e : Env) (R : Room) (s : State) (m : MethodId) (args : Array Value) (below : List Frame) (meth : Method) (c : Code) (D : va_G) (base : Nat) (pre : Nat → Nat) (cs : Nat → ClassId) (sL : Nat) (xs : Nat → Int32) (nL : Nat) (h0 : lm_H) (Q : State → Prop) (pc : Nat) (L : lm_L) (st : List Value) (h : lm_H) : Prop :=
  L.length = nL → h0.1.length ≤ h.1.length → lm_sz h0 ≤ lm_sz h → ∀ (H : Heap) (locs : List Loc) (ls : Array Slot), lm_R D base pre cs sL xs h H → va_S (lm_A base) s.heap H locs → lv_has ls nL (lm_prs base pre L) →
    W p l e R s m args below meth c H locs (h.1.length - h0.1.length) (lm_sz h - lm_sz h0) Q (F0 m pc ls (st.map (lm_v base pre)))
theorem lm_o_B {γ : Type} {x : Option γ} {a : Prop} {k : γ → Prop} (h : lm_o x a k) : (x = none ∧ a) ∨ ∃ y, x = some y ∧ k y := by
  cases x with
  | none => exact Or.inl ⟨rfl, h⟩
  | some y => exact Or.inr ⟨y, rfl, h⟩
theorem lm_and1 (x : Int32) (h : x &&& 1 = x) : x = 0 ∨ x = 1 := by
  obtain ⟨j, hj, e⟩ := pk_andE x (m := 1) 1 (by decide)
  rw [h] at e
  have : j = 0 ∨ j = 1 := by omega
  rcases this with rfl | rfl
  · exact Or.inl e
  · exact Or.inr e
theorem lm_fitI {ty : FieldType} {x : Int32} (ht : lm_tyb ty = true) (hk : ¬ lm_fk ty = 1) (hk2 : ¬ lm_fk ty = 2) (hn : vp_nar ty x = x) : narrow ty (.int x) = .int x ∧ fits ty (.int x) = true := by
  cases ty with
  | int => exact ⟨rfl, rfl⟩
  | boolean =>
    have hn : x &&& 1 = x := hn
    refine ⟨by show Value.int (x &&& 1) = _; rw [hn], ?_⟩
    rcases lm_and1 x hn with h | h <;> subst h <;> decide
  | long => exact absurd rfl hk
  | object _ => exact absurd rfl hk2
  | array _ => exact absurd rfl hk2
  | _ => cases ht
theorem lm_fkL {ty : FieldType} (hk : lm_fk ty = 1) : ty = .long := by
  cases ty <;> first | rfl | cases hk
theorem lm_fkR {ty : FieldType} (hk : lm_fk ty = 2) (x : Option Nat) : narrow ty (va_rf x) = va_rf x ∧ fits ty (va_rf x) = true := by
  cases ty <;> first | (cases hk; done) | (cases x <;> exact ⟨rfl, rfl⟩)
theorem lm_fkF {ty : FieldType} (hk : ¬ lm_fk ty = 2) : lm_isR ty = false := by
  cases ty <;> first | rfl | exact absurd rfl hk
theorem lm_fkT {ty : FieldType} (hk : lm_fk ty = 2) : lm_isR ty = true := by
  cases ty <;> first | rfl | cases hk
theorem lm_narR {ty : FieldType} {x : Int32} (h : vp_nar ty x = x) : narrow ty (.int x) = .int x := by
  cases ty <;> first | rfl | (show Value.int _ = _; exact congrArg Value.int h)

def lm_wf (h : lm_H) : Prop := ∀ (a : Nat) (x : Nat × Nat), h.1[a]? = some x → x.1 ≤ 6 ∧ (x.1 = 0 → x.2 < 13)
theorem lm_sh_pre {h : lm_H} {a : Nat} {x : Nat × Nat} (hw : lm_wf h) (hs : lm_sh h a = some x) (hx : 7 ≤ x.1) : 1000000 ≤ a ∧ lm_pre h a = some x := by
  unfold lm_sh at hs
  by_cases ha : a < 1000000
  · rw [if_pos ha] at hs
    have := (hw a x hs).1
    omega
  · rw [if_neg ha] at hs
    exact ⟨by omega, hs⟩
theorem lm_scr {h : lm_H} {a : Nat} {x : Nat × Nat} (hw : lm_wf h) (hs : lm_sh h a = some x) (hx : x.1 = 7) : a = 1000000 ∧ x.2 = (lm_r h 1000000 0).getD 0 := by
  obtain ⟨-, hp⟩ := lm_sh_pre hw hs (by omega)
  unfold lm_pre at hp
  split at hp
  · cases hp
    exact ⟨by assumption, rfl⟩
  · split at hp
    · cases hp
      cases hx
    · split at hp
      · cases hp
        cases hx
      · cases hp
theorem lm_str {h : lm_H} {a : Nat} {x : Nat × Nat} (hw : lm_wf h) (hs : lm_sh h a = some x) (hx : x.1 = 8) : ∃ j, j < 13 ∧ a = 1000000 + (1 + j) := by
  obtain ⟨ha, hp⟩ := lm_sh_pre hw hs (by omega)
  unfold lm_pre at hp
  split at hp
  · cases hp
    cases hx
  · split at hp
    · exact ⟨a - 1000001, by omega, by omega⟩
    · split at hp
      · cases hp
        cases hx
      · cases hp
theorem lm_byt {h : lm_H} {a : Nat} {x : Nat × Nat} (hw : lm_wf h) (hs : lm_sh h a = some x) (hx : x.1 = 9) : ∃ j, j < 13 ∧ a = 1000000 + (20 + j) ∧ x.2 = j := by
  obtain ⟨ha, hp⟩ := lm_sh_pre hw hs (by omega)
  unfold lm_pre at hp
  split at hp
  · cases hp
    cases hx
  · split at hp
    · cases hp
      cases hx
    · split at hp
      · cases hp
        exact ⟨a - 1000020, by omega, by omega, rfl⟩
      · cases hp
theorem lm_ad_pre (base : Nat) (pre : Nat → Nat) (j : Nat) : lm_ad base pre (1000000 + j) = pre j := by
  unfold lm_ad
  rw [if_neg (by omega), Nat.add_sub_cancel_left]
theorem lm_vr_pre (base : Nat) (pre : Nat → Nat) (j : Nat) : lm_v base pre (.ref (1000000 + j)) = .ref (pre j) := congrArg Value.ref (lm_ad_pre base pre j)
theorem lm_vr_lt {base : Nat} {pre : Nat → Nat} {a : Nat} (h : a < 1000000) : lm_v base pre (.ref a) = .ref (base + a) := congrArg Value.ref (if_pos h)
theorem lm_sw_F {x : Int32} {k : Int → Prop} {d : Int} : ∀ {cs : List (Int × Int)}, lm_sw x cs d k → (∃ c ∈ cs, x = Int32.ofInt c.1 ∧ k c.2) ∨ ((∀ c ∈ cs, x ≠ Int32.ofInt c.1) ∧ k d) := by
  intro cs
  induction cs with
  | nil => exact fun h => Or.inr ⟨fun c hc => absurd hc List.not_mem_nil, h⟩
  | cons c cs ih =>
    intro h
    rcases lm_if_B (show if x = Int32.ofInt c.1 then k c.2 else lm_sw x cs d k from h) with ⟨h1, h2⟩ | ⟨h1, h2⟩
    · exact Or.inl ⟨c, List.mem_cons_self, h1, h2⟩
    · rcases ih h2 with ⟨c', g1, g2⟩ | ⟨g1, g2⟩
      · exact Or.inl ⟨c', List.mem_cons_of_mem _ g1, g2⟩
      · refine Or.inr ⟨fun c' hc' => ?_, g2⟩
        rcases List.mem_cons.mp hc' with rfl | hc'
        · exact h1
        · exact g1 c' hc'
theorem lm_ofInt_toInt {z : Int} (h1 : -2147483648 ≤ z) (h2 : z < 2147483648) : (Int32.ofInt z).toInt = z := Int32.toInt_ofInt_of_le (by omega) (by omega)
theorem lm_sw_L {x : Int32} {k : Int → Prop} {d : Int} : ∀ {cs : List (Int × Int)}, cs.all (fun c => decide (-2147483648 ≤ c.1 ∧ c.1 < 2147483648)) = true → lm_sw x cs d k → k (Op.lookupswitch.offset cs d x.toInt) := by
  intro cs
  induction cs with
  | nil => exact fun _ h => h
  | cons c cs ih =>
    intro hr h
    obtain ⟨a, o⟩ := c
    rw [List.all_cons, Bool.and_eq_true] at hr
    have hr1 := of_decide_eq_true hr.1
    simp only at hr1
    rw [Op.lookupswitch.offset_cons]
    rcases lm_if_B (show if x = Int32.ofInt a then k o else lm_sw x cs d k from h) with ⟨h1, h2⟩ | ⟨h1, h2⟩
    · rw [if_pos (by rw [h1, lm_ofInt_toInt hr1.1 hr1.2])]
      exact h2
    · rw [if_neg (fun e => h1 (by rw [e, Int32.ofInt_toInt]))]
      exact ih hr.2 h2
section LmStep
variable {p : Program} {l : Launch} {e : Env} {R : Room} {s : State} {m : MethodId} {args : Array Value} {below : List Frame} {meth : Method} {c : Code} {D : va_G} {base : Nat} {pre : Nat → Nat} {cs : Nat → ClassId} {sL : Nat} {xs : Nat → Int32} {M d : Nat} {h0 : lm_H} {Q : State → Prop}
/-- the heap has just the cells of the light heap -/
theorem lm_sized {h : lm_H} {H : Heap} {locs : List Loc} {g : JFrame} (hsz : s.heap.size = base + h0.1.length) (h01 : h0.1.length ≤ h.1.length) (hS : va_S (lm_A base) s.heap H locs) (hR : lm_R D base pre cs sL xs h H) {n : Nat}
    (k : H.size = base + h.1.length → W p l e R s m args below meth c H locs (h.1.length - h0.1.length) n Q g) : W p l e R s m args below meth c H locs (h.1.length - h0.1.length) n Q g := by
  intro T hT X
  refine k ?_ T hT X
  have h1 : T.heap.size ≤ s.heap.size + (h.1.length - h0.1.length) := X.same.2.2.1
  rw [hT] at h1
  have h2 : base + h.1.length ≤ H.size := by
    by_cases hz : h.1.length = 0
    · have := hS.1
      omega
    · have hl : h.1.length - 1 < h.1.length := by omega
      have := (hR.1 _ _ (lm_ws_get (List.getElem?_eq_getElem hl))).lt
      simp only at this
      omega
  omega

theorem lm_st_aconst_null {h : lm_H} {len pc : Nat} {L : lm_L} {st : List Value} {rty : Option FieldType} {RT : Option Value → Prop} {CL : Nat → List Value → List Value → Prop} (hF : lm_F p R s m args meth c D base pre cs sL xs M d h0) (hdg : decode (lm_cs.getD M ⟨#[]⟩) pc = .ok (.aconst_null, len)) (hlen : lm_lenok (.aconst_null, len) = true)
    (hs : lm_stepK (lm_ct M) (lm_sh h) (lm_r h) (lm_own.getD M 0) rty (.aconst_null) len pc L st h False (fun pc' L' st' h' => lm_rm R h0 h' ∧ lm_G p l e R s m args below meth c D base pre cs sL xs (lm_ml.getD M 0) h0 Q pc' L' st' h') RT CL) :
    lm_G p l e R s m args below meth c D base pre cs sL xs (lm_ml.getD M 0) h0 Q pc L st h := by
  obtain ⟨hx, hb, hml, hown, hts, hE, hsz, hct, hfr, hlo⟩ := hF
  intro hL h01 h02 H locs ls hR hS hl
  obtain rfl : len = 1 := by simpa [lm_lenok] using hlen
  exact lv_null hx hb hdg (hs.2 hL h01 h02 H locs ls hR hS hl)

theorem lm_st_iconst {h : lm_H} {len pc : Nat} {L : lm_L} {st : List Value} {rty : Option FieldType} {RT : Option Value → Prop} {CL : Nat → List Value → List Value → Prop} {n : Int} (hF : lm_F p R s m args meth c D base pre cs sL xs M d h0) (hdg : decode (lm_cs.getD M ⟨#[]⟩) pc = .ok (.iconst n, len)) (hlen : lm_lenok (.iconst n, len) = true)
    (hs : lm_stepK (lm_ct M) (lm_sh h) (lm_r h) (lm_own.getD M 0) rty (.iconst n) len pc L st h False (fun pc' L' st' h' => lm_rm R h0 h' ∧ lm_G p l e R s m args below meth c D base pre cs sL xs (lm_ml.getD M 0) h0 Q pc' L' st' h') RT CL) :
    lm_G p l e R s m args below meth c D base pre cs sL xs (lm_ml.getD M 0) h0 Q pc L st h := by
  obtain ⟨hx, hb, hml, hown, hts, hE, hsz, hct, hfr, hlo⟩ := hF
  intro hL h01 h02 H locs ls hR hS hl
  obtain rfl : len = 1 := by simpa [lm_lenok] using hlen
  exact lv_iconst hx hb hdg rfl (hs.2 hL h01 h02 H locs ls hR hS hl)

theorem lm_st_bipush {h : lm_H} {len pc : Nat} {L : lm_L} {st : List Value} {rty : Option FieldType} {RT : Option Value → Prop} {CL : Nat → List Value → List Value → Prop} {n : Int} (hF : lm_F p R s m args meth c D base pre cs sL xs M d h0) (hdg : decode (lm_cs.getD M ⟨#[]⟩) pc = .ok (.bipush n, len)) (hlen : lm_lenok (.bipush n, len) = true)
    (hs : lm_stepK (lm_ct M) (lm_sh h) (lm_r h) (lm_own.getD M 0) rty (.bipush n) len pc L st h False (fun pc' L' st' h' => lm_rm R h0 h' ∧ lm_G p l e R s m args below meth c D base pre cs sL xs (lm_ml.getD M 0) h0 Q pc' L' st' h') RT CL) :
    lm_G p l e R s m args below meth c D base pre cs sL xs (lm_ml.getD M 0) h0 Q pc L st h := by
  obtain ⟨hx, hb, hml, hown, hts, hE, hsz, hct, hfr, hlo⟩ := hF
  intro hL h01 h02 H locs ls hR hS hl
  obtain rfl : len = 2 := by simpa [lm_lenok] using hlen
  exact lv_bipush hx hb hdg rfl (hs.2 hL h01 h02 H locs ls hR hS hl)

theorem lm_st_sipush {h : lm_H} {len pc : Nat} {L : lm_L} {st : List Value} {rty : Option FieldType} {RT : Option Value → Prop} {CL : Nat → List Value → List Value → Prop} {n : Int} (hF : lm_F p R s m args meth c D base pre cs sL xs M d h0) (hdg : decode (lm_cs.getD M ⟨#[]⟩) pc = .ok (.sipush n, len)) (hlen : lm_lenok (.sipush n, len) = true)
    (hs : lm_stepK (lm_ct M) (lm_sh h) (lm_r h) (lm_own.getD M 0) rty (.sipush n) len pc L st h False (fun pc' L' st' h' => lm_rm R h0 h' ∧ lm_G p l e R s m args below meth c D base pre cs sL xs (lm_ml.getD M 0) h0 Q pc' L' st' h') RT CL) :
    lm_G p l e R s m args below meth c D base pre cs sL xs (lm_ml.getD M 0) h0 Q pc L st h := by
  obtain ⟨hx, hb, hml, hown, hts, hE, hsz, hct, hfr, hlo⟩ := hF
  intro hL h01 h02 H locs ls hR hS hl
  obtain rfl : len = 3 := by simpa [lm_lenok] using hlen
  exact lv_sipush hx hb hdg rfl (hs.2 hL h01 h02 H locs ls hR hS hl)

theorem lm_st_lconst {h : lm_H} {len pc : Nat} {L : lm_L} {st : List Value} {rty : Option FieldType} {RT : Option Value → Prop} {CL : Nat → List Value → List Value → Prop} {n : Fin 2} (hF : lm_F p R s m args meth c D base pre cs sL xs M d h0) (hdg : decode (lm_cs.getD M ⟨#[]⟩) pc = .ok (.lconst n, len)) (hlen : lm_lenok (.lconst n, len) = true)
    (hs : lm_stepK (lm_ct M) (lm_sh h) (lm_r h) (lm_own.getD M 0) rty (.lconst n) len pc L st h False (fun pc' L' st' h' => lm_rm R h0 h' ∧ lm_G p l e R s m args below meth c D base pre cs sL xs (lm_ml.getD M 0) h0 Q pc' L' st' h') RT CL) :
    lm_G p l e R s m args below meth c D base pre cs sL xs (lm_ml.getD M 0) h0 Q pc L st h := by
  obtain ⟨hx, hb, hml, hown, hts, hE, hsz, hct, hfr, hlo⟩ := hF
  intro hL h01 h02 H locs ls hR hS hl
  obtain rfl : len = 1 := by simpa [lm_lenok] using hlen
  exact lv_lconst hx hb hdg rfl (hs.2 hL h01 h02 H locs ls hR hS hl)

theorem lm_st_ldc {h : lm_H} {len pc : Nat} {L : lm_L} {st : List Value} {rty : Option FieldType} {RT : Option Value → Prop} {CL : Nat → List Value → List Value → Prop} {k : Nat} (hF : lm_F p R s m args meth c D base pre cs sL xs M d h0) (hdg : decode (lm_cs.getD M ⟨#[]⟩) pc = .ok (.ldc k, len)) (hlen : lm_lenok (.ldc k, len) = true)
    (hs : lm_stepK (lm_ct M) (lm_sh h) (lm_r h) (lm_own.getD M 0) rty (.ldc k) len pc L st h False (fun pc' L' st' h' => lm_rm R h0 h' ∧ lm_G p l e R s m args below meth c D base pre cs sL xs (lm_ml.getD M 0) h0 Q pc' L' st' h') RT CL) :
    lm_G p l e R s m args below meth c D base pre cs sL xs (lm_ml.getD M 0) h0 Q pc L st h := by
  obtain ⟨hx, hb, hml, hown, hts, hE, hsz, hct, hfr, hlo⟩ := hF
  intro hL h01 h02 H locs ls hR hS hl
  obtain rfl : len = 2 := by simpa [lm_lenok] using hlen
  replace hs := lm_o_B hs
  rcases hs with ⟨-, hs⟩ | ⟨v, hv, hs⟩
  · replace hs := lm_o_F hs
    obtain ⟨j, hj, hs⟩ := hs
    have hk := lm_pss_ok hj
    unfold lm_okS at hk
    simp only [Bool.and_eq_true, decide_eq_true_eq] at hk
    have hj3 := hj
    unfold lm_lk at hj3
    rw [hk.1.1] at hj3
    have hown3 : s.vm.findClass RX3 = some m.cls := by rw [hk.1.1] at hown; exact hown
    have hq := hs.2 hL h01 h02 H locs ls hR hS hl
    rw [List.map_cons, show (1000001 + j.1) = 1000000 + (1 + j.1) by omega, lm_vr_pre] at hq
    exact va_ldcS hx hb hown3 (hE.2.2.2.2.1 k j hj3) hdg hq
  · have hk := lm_pcs_ok hv
    unfold lm_okI at hk
    exact lv_ldc hx hb hown (hts _ (lm_wT (of_decide_eq_true hk) rfl)) hdg (hs.2 hL h01 h02 H locs ls hR hS hl)

theorem lm_st_ldc_w {h : lm_H} {len pc : Nat} {L : lm_L} {st : List Value} {rty : Option FieldType} {RT : Option Value → Prop} {CL : Nat → List Value → List Value → Prop} {k : Nat} (hF : lm_F p R s m args meth c D base pre cs sL xs M d h0) (hdg : decode (lm_cs.getD M ⟨#[]⟩) pc = .ok (.ldc_w k, len)) (hlen : lm_lenok (.ldc_w k, len) = true)
    (hs : lm_stepK (lm_ct M) (lm_sh h) (lm_r h) (lm_own.getD M 0) rty (.ldc_w k) len pc L st h False (fun pc' L' st' h' => lm_rm R h0 h' ∧ lm_G p l e R s m args below meth c D base pre cs sL xs (lm_ml.getD M 0) h0 Q pc' L' st' h') RT CL) :
    lm_G p l e R s m args below meth c D base pre cs sL xs (lm_ml.getD M 0) h0 Q pc L st h := by
  obtain ⟨hx, hb, hml, hown, hts, hE, hsz, hct, hfr, hlo⟩ := hF
  intro hL h01 h02 H locs ls hR hS hl
  obtain rfl : len = 3 := by simpa [lm_lenok] using hlen
  replace hs := lm_o_F hs
  obtain ⟨v, hv, hs⟩ := hs
  have hk := lm_pcs_ok hv
  unfold lm_okI at hk
  exact lv_ldcw hx hb hown (hts _ (lm_wT (of_decide_eq_true hk) rfl)) hdg (hs.2 hL h01 h02 H locs ls hR hS hl)

theorem lm_st_ldc2_w {h : lm_H} {len pc : Nat} {L : lm_L} {st : List Value} {rty : Option FieldType} {RT : Option Value → Prop} {CL : Nat → List Value → List Value → Prop} {k : Nat} (hF : lm_F p R s m args meth c D base pre cs sL xs M d h0) (hdg : decode (lm_cs.getD M ⟨#[]⟩) pc = .ok (.ldc2_w k, len)) (hlen : lm_lenok (.ldc2_w k, len) = true)
    (hs : lm_stepK (lm_ct M) (lm_sh h) (lm_r h) (lm_own.getD M 0) rty (.ldc2_w k) len pc L st h False (fun pc' L' st' h' => lm_rm R h0 h' ∧ lm_G p l e R s m args below meth c D base pre cs sL xs (lm_ml.getD M 0) h0 Q pc' L' st' h') RT CL) :
    lm_G p l e R s m args below meth c D base pre cs sL xs (lm_ml.getD M 0) h0 Q pc L st h := by
  obtain ⟨hx, hb, hml, hown, hts, hE, hsz, hct, hfr, hlo⟩ := hF
  intro hL h01 h02 H locs ls hR hS hl
  obtain rfl : len = 3 := by simpa [lm_lenok] using hlen
  replace hs := lm_o_F hs
  obtain ⟨v, hv, hs⟩ := hs
  have hk := lm_pls_ok hv
  unfold lm_okJ at hk
  exact lv_ldc2 hx hb hown (hts _ (lm_wT (of_decide_eq_true hk) rfl)) hdg (hs.2 hL h01 h02 H locs ls hR hS hl)

theorem lm_st_getstatic {h : lm_H} {len pc : Nat} {L : lm_L} {st : List Value} {rty : Option FieldType} {RT : Option Value → Prop} {CL : Nat → List Value → List Value → Prop} {k : Nat} (hF : lm_F p R s m args meth c D base pre cs sL xs M d h0) (hdg : decode (lm_cs.getD M ⟨#[]⟩) pc = .ok (.getstatic k, len)) (hlen : lm_lenok (.getstatic k, len) = true)
    (hs : lm_stepK (lm_ct M) (lm_sh h) (lm_r h) (lm_own.getD M 0) rty (.getstatic k) len pc L st h False (fun pc' L' st' h' => lm_rm R h0 h' ∧ lm_G p l e R s m args below meth c D base pre cs sL xs (lm_ml.getD M 0) h0 Q pc' L' st' h') RT CL) :
    lm_G p l e R s m args below meth c D base pre cs sL xs (lm_ml.getD M 0) h0 Q pc L st h := by
  obtain ⟨hx, hb, hml, hown, hts, hE, hsz, hct, hfr, hlo⟩ := hF
  intro hL h01 h02 H locs ls hR hS hl
  obtain rfl : len = 3 := by simpa [lm_lenok] using hlen
  replace hs := lm_o_F hs
  obtain ⟨v, hv, hs⟩ := hs
  have hk := lm_pgs_ok hv
  unfold lm_okG at hk
  have hk := of_decide_eq_true hk
  replace hs := lm_if_B hs
  rcases hs with ⟨hc, hs⟩ | ⟨hc, hs⟩
  · rw [if_pos hc] at hk
    exact va_gets hx hb hE.2.2.2.2.2.1 hS hown (hts _ (lm_wT hk rfl)) (fun _ h => h) hdg (hs.2 hL h01 h02 H locs ls hR hS hl)
  · rw [if_neg hc] at hk
    have hq := hs.2 hL h01 h02 H locs ls hR hS hl
    rw [List.map_cons, lm_v_rf, hR.2.2.2.2.2] at hq
    rw [show va_rf (Option.map (lm_ad base pre) (if pre 41 = 0 then none else some 1000040)) = (if pre 41 = 0 then .null else .ref (pre 40) : Value) from by split <;> rfl] at hq
    exact va_gets hx hb hE.2.2.2.2.2.2 hS hown (hts _ (lm_wT hk rfl)) (fun _ h => h) hdg hq

theorem lm_st_iload_n {h : lm_H} {len pc : Nat} {L : lm_L} {st : List Value} {rty : Option FieldType} {RT : Option Value → Prop} {CL : Nat → List Value → List Value → Prop} {k : Fin 4} (hF : lm_F p R s m args meth c D base pre cs sL xs M d h0) (hdg : decode (lm_cs.getD M ⟨#[]⟩) pc = .ok (.iload_n k, len)) (hlen : lm_lenok (.iload_n k, len) = true)
    (hs : lm_stepK (lm_ct M) (lm_sh h) (lm_r h) (lm_own.getD M 0) rty (.iload_n k) len pc L st h False (fun pc' L' st' h' => lm_rm R h0 h' ∧ lm_G p l e R s m args below meth c D base pre cs sL xs (lm_ml.getD M 0) h0 Q pc' L' st' h') RT CL) :
    lm_G p l e R s m args below meth c D base pre cs sL xs (lm_ml.getD M 0) h0 Q pc L st h := by
  obtain ⟨hx, hb, hml, hown, hts, hE, hsz, hct, hfr, hlo⟩ := hF
  intro hL h01 h02 H locs ls hR hS hl
  obtain rfl : len = 1 := by simpa [lm_lenok] using hlen
  replace hs := lm_o_F hs
  obtain ⟨v, hv, hs⟩ := hs
  replace hs := lm_pI_F hs
  obtain ⟨x, s1, e1, hs⟩ := hs
  cases e1
  exact lv_iload_n hx hb hdg rfl (lm_prs_at hl hv) (hs.2 hL h01 h02 H locs ls hR hS hl)

theorem lm_st_iload {h : lm_H} {len pc : Nat} {L : lm_L} {st : List Value} {rty : Option FieldType} {RT : Option Value → Prop} {CL : Nat → List Value → List Value → Prop} {k : Nat} (hF : lm_F p R s m args meth c D base pre cs sL xs M d h0) (hdg : decode (lm_cs.getD M ⟨#[]⟩) pc = .ok (.iload k, len)) (hlen : lm_lenok (.iload k, len) = true)
    (hs : lm_stepK (lm_ct M) (lm_sh h) (lm_r h) (lm_own.getD M 0) rty (.iload k) len pc L st h False (fun pc' L' st' h' => lm_rm R h0 h' ∧ lm_G p l e R s m args below meth c D base pre cs sL xs (lm_ml.getD M 0) h0 Q pc' L' st' h') RT CL) :
    lm_G p l e R s m args below meth c D base pre cs sL xs (lm_ml.getD M 0) h0 Q pc L st h := by
  obtain ⟨hx, hb, hml, hown, hts, hE, hsz, hct, hfr, hlo⟩ := hF
  intro hL h01 h02 H locs ls hR hS hl
  obtain rfl : len = 2 := by simpa [lm_lenok] using hlen
  replace hs := lm_o_F hs
  obtain ⟨v, hv, hs⟩ := hs
  replace hs := lm_pI_F hs
  obtain ⟨x, s1, e1, hs⟩ := hs
  cases e1
  exact lv_iload hx hb hdg (lm_prs_at hl hv) (hs.2 hL h01 h02 H locs ls hR hS hl)

theorem lm_st_lload_n {h : lm_H} {len pc : Nat} {L : lm_L} {st : List Value} {rty : Option FieldType} {RT : Option Value → Prop} {CL : Nat → List Value → List Value → Prop} {k : Fin 4} (hF : lm_F p R s m args meth c D base pre cs sL xs M d h0) (hdg : decode (lm_cs.getD M ⟨#[]⟩) pc = .ok (.lload_n k, len)) (hlen : lm_lenok (.lload_n k, len) = true)
    (hs : lm_stepK (lm_ct M) (lm_sh h) (lm_r h) (lm_own.getD M 0) rty (.lload_n k) len pc L st h False (fun pc' L' st' h' => lm_rm R h0 h' ∧ lm_G p l e R s m args below meth c D base pre cs sL xs (lm_ml.getD M 0) h0 Q pc' L' st' h') RT CL) :
    lm_G p l e R s m args below meth c D base pre cs sL xs (lm_ml.getD M 0) h0 Q pc L st h := by
  obtain ⟨hx, hb, hml, hown, hts, hE, hsz, hct, hfr, hlo⟩ := hF
  intro hL h01 h02 H locs ls hR hS hl
  obtain rfl : len = 1 := by simpa [lm_lenok] using hlen
  replace hs := lm_o_F hs
  obtain ⟨v, hv, hs⟩ := hs
  replace hs := lm_pL_F hs
  obtain ⟨x, s1, e1, hs⟩ := hs
  cases e1
  exact lv_lload_n hx hb hdg rfl (lm_prs_at hl hv) (hs.2 hL h01 h02 H locs ls hR hS hl)

theorem lm_st_lload {h : lm_H} {len pc : Nat} {L : lm_L} {st : List Value} {rty : Option FieldType} {RT : Option Value → Prop} {CL : Nat → List Value → List Value → Prop} {k : Nat} (hF : lm_F p R s m args meth c D base pre cs sL xs M d h0) (hdg : decode (lm_cs.getD M ⟨#[]⟩) pc = .ok (.lload k, len)) (hlen : lm_lenok (.lload k, len) = true)
    (hs : lm_stepK (lm_ct M) (lm_sh h) (lm_r h) (lm_own.getD M 0) rty (.lload k) len pc L st h False (fun pc' L' st' h' => lm_rm R h0 h' ∧ lm_G p l e R s m args below meth c D base pre cs sL xs (lm_ml.getD M 0) h0 Q pc' L' st' h') RT CL) :
    lm_G p l e R s m args below meth c D base pre cs sL xs (lm_ml.getD M 0) h0 Q pc L st h := by
  obtain ⟨hx, hb, hml, hown, hts, hE, hsz, hct, hfr, hlo⟩ := hF
  intro hL h01 h02 H locs ls hR hS hl
  obtain rfl : len = 2 := by simpa [lm_lenok] using hlen
  replace hs := lm_o_F hs
  obtain ⟨v, hv, hs⟩ := hs
  replace hs := lm_pL_F hs
  obtain ⟨x, s1, e1, hs⟩ := hs
  cases e1
  exact lv_lload hx hb hdg (lm_prs_at hl hv) (hs.2 hL h01 h02 H locs ls hR hS hl)

theorem lm_st_aload_n {h : lm_H} {len pc : Nat} {L : lm_L} {st : List Value} {rty : Option FieldType} {RT : Option Value → Prop} {CL : Nat → List Value → List Value → Prop} {k : Fin 4} (hF : lm_F p R s m args meth c D base pre cs sL xs M d h0) (hdg : decode (lm_cs.getD M ⟨#[]⟩) pc = .ok (.aload_n k, len)) (hlen : lm_lenok (.aload_n k, len) = true)
    (hs : lm_stepK (lm_ct M) (lm_sh h) (lm_r h) (lm_own.getD M 0) rty (.aload_n k) len pc L st h False (fun pc' L' st' h' => lm_rm R h0 h' ∧ lm_G p l e R s m args below meth c D base pre cs sL xs (lm_ml.getD M 0) h0 Q pc' L' st' h') RT CL) :
    lm_G p l e R s m args below meth c D base pre cs sL xs (lm_ml.getD M 0) h0 Q pc L st h := by
  obtain ⟨hx, hb, hml, hown, hts, hE, hsz, hct, hfr, hlo⟩ := hF
  intro hL h01 h02 H locs ls hR hS hl
  obtain rfl : len = 1 := by simpa [lm_lenok] using hlen
  replace hs := lm_o_F hs
  obtain ⟨v, hv, hs⟩ := hs
  replace hs := lm_pA_F hs
  obtain ⟨x, s1, e1, hs⟩ := hs
  cases x with
  | none => cases e1; exact lv_aload_nN hx hb hdg rfl (lm_prs_at hl hv) (hs.2 hL h01 h02 H locs ls hR hS hl)
  | some x => cases e1; exact lv_aload_n hx hb hdg rfl (lm_prs_at hl hv) (hs.2 hL h01 h02 H locs ls hR hS hl)

theorem lm_st_aload {h : lm_H} {len pc : Nat} {L : lm_L} {st : List Value} {rty : Option FieldType} {RT : Option Value → Prop} {CL : Nat → List Value → List Value → Prop} {k : Nat} (hF : lm_F p R s m args meth c D base pre cs sL xs M d h0) (hdg : decode (lm_cs.getD M ⟨#[]⟩) pc = .ok (.aload k, len)) (hlen : lm_lenok (.aload k, len) = true)
    (hs : lm_stepK (lm_ct M) (lm_sh h) (lm_r h) (lm_own.getD M 0) rty (.aload k) len pc L st h False (fun pc' L' st' h' => lm_rm R h0 h' ∧ lm_G p l e R s m args below meth c D base pre cs sL xs (lm_ml.getD M 0) h0 Q pc' L' st' h') RT CL) :
    lm_G p l e R s m args below meth c D base pre cs sL xs (lm_ml.getD M 0) h0 Q pc L st h := by
  obtain ⟨hx, hb, hml, hown, hts, hE, hsz, hct, hfr, hlo⟩ := hF
  intro hL h01 h02 H locs ls hR hS hl
  obtain rfl : len = 2 := by simpa [lm_lenok] using hlen
  replace hs := lm_o_F hs
  obtain ⟨v, hv, hs⟩ := hs
  replace hs := lm_pA_F hs
  obtain ⟨x, s1, e1, hs⟩ := hs
  cases x with
  | none => cases e1; exact lv_aloadN hx hb hdg (lm_prs_at hl hv) (hs.2 hL h01 h02 H locs ls hR hS hl)
  | some x => cases e1; exact lv_aload hx hb hdg (lm_prs_at hl hv) (hs.2 hL h01 h02 H locs ls hR hS hl)

theorem lm_st_istore_n {h : lm_H} {len pc : Nat} {L : lm_L} {st : List Value} {rty : Option FieldType} {RT : Option Value → Prop} {CL : Nat → List Value → List Value → Prop} {k : Fin 4} (hF : lm_F p R s m args meth c D base pre cs sL xs M d h0) (hdg : decode (lm_cs.getD M ⟨#[]⟩) pc = .ok (.istore_n k, len)) (hlen : lm_lenok (.istore_n k, len) = true)
    (hs : lm_stepK (lm_ct M) (lm_sh h) (lm_r h) (lm_own.getD M 0) rty (.istore_n k) len pc L st h False (fun pc' L' st' h' => lm_rm R h0 h' ∧ lm_G p l e R s m args below meth c D base pre cs sL xs (lm_ml.getD M 0) h0 Q pc' L' st' h') RT CL) :
    lm_G p l e R s m args below meth c D base pre cs sL xs (lm_ml.getD M 0) h0 Q pc L st h := by
  obtain ⟨hx, hb, hml, hown, hts, hE, hsz, hct, hfr, hlo⟩ := hF
  intro hL h01 h02 H locs ls hR hS hl
  obtain rfl : len = 1 := by simpa [lm_lenok] using hlen
  replace hs := lm_pI_F hs
  obtain ⟨x, s1, rfl, hs⟩ := hs
  replace hs := lm_if_F hs
  obtain ⟨hk, hs⟩ := hs
  exact lv_istore_n hx hb hdg rfl hl (by rw [← hL]; exact hk) rfl (fun ls' hl' => hs.2 (by rw [lm_put_len]; exact hL) h01 h02 H locs ls' hR hS (lm_has_of hl' lm_put_prs))

theorem lm_st_istore {h : lm_H} {len pc : Nat} {L : lm_L} {st : List Value} {rty : Option FieldType} {RT : Option Value → Prop} {CL : Nat → List Value → List Value → Prop} {k : Nat} (hF : lm_F p R s m args meth c D base pre cs sL xs M d h0) (hdg : decode (lm_cs.getD M ⟨#[]⟩) pc = .ok (.istore k, len)) (hlen : lm_lenok (.istore k, len) = true)
    (hs : lm_stepK (lm_ct M) (lm_sh h) (lm_r h) (lm_own.getD M 0) rty (.istore k) len pc L st h False (fun pc' L' st' h' => lm_rm R h0 h' ∧ lm_G p l e R s m args below meth c D base pre cs sL xs (lm_ml.getD M 0) h0 Q pc' L' st' h') RT CL) :
    lm_G p l e R s m args below meth c D base pre cs sL xs (lm_ml.getD M 0) h0 Q pc L st h := by
  obtain ⟨hx, hb, hml, hown, hts, hE, hsz, hct, hfr, hlo⟩ := hF
  intro hL h01 h02 H locs ls hR hS hl
  obtain rfl : len = 2 := by simpa [lm_lenok] using hlen
  replace hs := lm_pI_F hs
  obtain ⟨x, s1, rfl, hs⟩ := hs
  replace hs := lm_if_F hs
  obtain ⟨hk, hs⟩ := hs
  exact lv_istore hx hb hdg hl (by rw [← hL]; exact hk) rfl (fun ls' hl' => hs.2 (by rw [lm_put_len]; exact hL) h01 h02 H locs ls' hR hS (lm_has_of hl' lm_put_prs))

theorem lm_st_lstore_n {h : lm_H} {len pc : Nat} {L : lm_L} {st : List Value} {rty : Option FieldType} {RT : Option Value → Prop} {CL : Nat → List Value → List Value → Prop} {k : Fin 4} (hF : lm_F p R s m args meth c D base pre cs sL xs M d h0) (hdg : decode (lm_cs.getD M ⟨#[]⟩) pc = .ok (.lstore_n k, len)) (hlen : lm_lenok (.lstore_n k, len) = true)
    (hs : lm_stepK (lm_ct M) (lm_sh h) (lm_r h) (lm_own.getD M 0) rty (.lstore_n k) len pc L st h False (fun pc' L' st' h' => lm_rm R h0 h' ∧ lm_G p l e R s m args below meth c D base pre cs sL xs (lm_ml.getD M 0) h0 Q pc' L' st' h') RT CL) :
    lm_G p l e R s m args below meth c D base pre cs sL xs (lm_ml.getD M 0) h0 Q pc L st h := by
  obtain ⟨hx, hb, hml, hown, hts, hE, hsz, hct, hfr, hlo⟩ := hF
  intro hL h01 h02 H locs ls hR hS hl
  obtain rfl : len = 1 := by simpa [lm_lenok] using hlen
  replace hs := lm_pL_F hs
  obtain ⟨x, s1, rfl, hs⟩ := hs
  replace hs := lm_if_F hs
  obtain ⟨hk, hs⟩ := hs
  exact lv_lstore_n hx hb hdg rfl hl (by rw [← hL]; exact hk) rfl (fun ls' hl' => hs.2 (by rw [lm_putL_len]; exact hL) h01 h02 H locs ls' hR hS (lm_has_of hl' lm_putL_prs))

theorem lm_st_lstore {h : lm_H} {len pc : Nat} {L : lm_L} {st : List Value} {rty : Option FieldType} {RT : Option Value → Prop} {CL : Nat → List Value → List Value → Prop} {k : Nat} (hF : lm_F p R s m args meth c D base pre cs sL xs M d h0) (hdg : decode (lm_cs.getD M ⟨#[]⟩) pc = .ok (.lstore k, len)) (hlen : lm_lenok (.lstore k, len) = true)
    (hs : lm_stepK (lm_ct M) (lm_sh h) (lm_r h) (lm_own.getD M 0) rty (.lstore k) len pc L st h False (fun pc' L' st' h' => lm_rm R h0 h' ∧ lm_G p l e R s m args below meth c D base pre cs sL xs (lm_ml.getD M 0) h0 Q pc' L' st' h') RT CL) :
    lm_G p l e R s m args below meth c D base pre cs sL xs (lm_ml.getD M 0) h0 Q pc L st h := by
  obtain ⟨hx, hb, hml, hown, hts, hE, hsz, hct, hfr, hlo⟩ := hF
  intro hL h01 h02 H locs ls hR hS hl
  obtain rfl : len = 2 := by simpa [lm_lenok] using hlen
  replace hs := lm_pL_F hs
  obtain ⟨x, s1, rfl, hs⟩ := hs
  replace hs := lm_if_F hs
  obtain ⟨hk, hs⟩ := hs
  exact lv_lstore hx hb hdg hl (by rw [← hL]; exact hk) rfl (fun ls' hl' => hs.2 (by rw [lm_putL_len]; exact hL) h01 h02 H locs ls' hR hS (lm_has_of hl' lm_putL_prs))

theorem lm_st_astore_n {h : lm_H} {len pc : Nat} {L : lm_L} {st : List Value} {rty : Option FieldType} {RT : Option Value → Prop} {CL : Nat → List Value → List Value → Prop} {k : Fin 4} (hF : lm_F p R s m args meth c D base pre cs sL xs M d h0) (hdg : decode (lm_cs.getD M ⟨#[]⟩) pc = .ok (.astore_n k, len)) (hlen : lm_lenok (.astore_n k, len) = true)
    (hs : lm_stepK (lm_ct M) (lm_sh h) (lm_r h) (lm_own.getD M 0) rty (.astore_n k) len pc L st h False (fun pc' L' st' h' => lm_rm R h0 h' ∧ lm_G p l e R s m args below meth c D base pre cs sL xs (lm_ml.getD M 0) h0 Q pc' L' st' h') RT CL) :
    lm_G p l e R s m args below meth c D base pre cs sL xs (lm_ml.getD M 0) h0 Q pc L st h := by
  obtain ⟨hx, hb, hml, hown, hts, hE, hsz, hct, hfr, hlo⟩ := hF
  intro hL h01 h02 H locs ls hR hS hl
  obtain rfl : len = 1 := by simpa [lm_lenok] using hlen
  simp only [lm_stepK] at hs
  replace hs := lm_pA_F hs
  obtain ⟨x, s1, rfl, hs⟩ := hs
  replace hs := lm_if_F hs
  obtain ⟨hk, hs⟩ := hs
  cases x with
  | none => exact lv_astore_nN hx hb hdg rfl hl (by rw [← hL]; exact hk) rfl (fun ls' hl' => hs.2 (by rw [lm_put_len]; exact hL) h01 h02 H locs ls' hR hS (lm_has_of hl' lm_put_prs))
  | some x => exact lv_astore_n hx hb hdg rfl hl (by rw [← hL]; exact hk) rfl (fun ls' hl' => hs.2 (by rw [lm_put_len]; exact hL) h01 h02 H locs ls' hR hS (lm_has_of hl' lm_put_prs))

theorem lm_st_astore {h : lm_H} {len pc : Nat} {L : lm_L} {st : List Value} {rty : Option FieldType} {RT : Option Value → Prop} {CL : Nat → List Value → List Value → Prop} {k : Nat} (hF : lm_F p R s m args meth c D base pre cs sL xs M d h0) (hdg : decode (lm_cs.getD M ⟨#[]⟩) pc = .ok (.astore k, len)) (hlen : lm_lenok (.astore k, len) = true)
    (hs : lm_stepK (lm_ct M) (lm_sh h) (lm_r h) (lm_own.getD M 0) rty (.astore k) len pc L st h False (fun pc' L' st' h' => lm_rm R h0 h' ∧ lm_G p l e R s m args below meth c D base pre cs sL xs (lm_ml.getD M 0) h0 Q pc' L' st' h') RT CL) :
    lm_G p l e R s m args below meth c D base pre cs sL xs (lm_ml.getD M 0) h0 Q pc L st h := by
  obtain ⟨hx, hb, hml, hown, hts, hE, hsz, hct, hfr, hlo⟩ := hF
  intro hL h01 h02 H locs ls hR hS hl
  obtain rfl : len = 2 := by simpa [lm_lenok] using hlen
  simp only [lm_stepK] at hs
  replace hs := lm_pA_F hs
  obtain ⟨x, s1, rfl, hs⟩ := hs
  replace hs := lm_if_F hs
  obtain ⟨hk, hs⟩ := hs
  cases x with
  | none => exact lv_astoreN hx hb hdg hl (by rw [← hL]; exact hk) rfl (fun ls' hl' => hs.2 (by rw [lm_put_len]; exact hL) h01 h02 H locs ls' hR hS (lm_has_of hl' lm_put_prs))
  | some x => exact lv_astore hx hb hdg hl (by rw [← hL]; exact hk) rfl (fun ls' hl' => hs.2 (by rw [lm_put_len]; exact hL) h01 h02 H locs ls' hR hS (lm_has_of hl' lm_put_prs))

theorem lm_st_iinc {h : lm_H} {len pc : Nat} {L : lm_L} {st : List Value} {rty : Option FieldType} {RT : Option Value → Prop} {CL : Nat → List Value → List Value → Prop} {k : Nat} {n : Int} (hF : lm_F p R s m args meth c D base pre cs sL xs M d h0) (hdg : decode (lm_cs.getD M ⟨#[]⟩) pc = .ok (.iinc k n, len)) (hlen : lm_lenok (.iinc k n, len) = true)
    (hs : lm_stepK (lm_ct M) (lm_sh h) (lm_r h) (lm_own.getD M 0) rty (.iinc k n) len pc L st h False (fun pc' L' st' h' => lm_rm R h0 h' ∧ lm_G p l e R s m args below meth c D base pre cs sL xs (lm_ml.getD M 0) h0 Q pc' L' st' h') RT CL) :
    lm_G p l e R s m args below meth c D base pre cs sL xs (lm_ml.getD M 0) h0 Q pc L st h := by
  obtain ⟨hx, hb, hml, hown, hts, hE, hsz, hct, hfr, hlo⟩ := hF
  intro hL h01 h02 H locs ls hR hS hl
  obtain rfl : len = 3 := by simpa [lm_lenok] using hlen
  replace hs := lm_o_F hs
  obtain ⟨v, hv, hs⟩ := hs
  replace hs := lm_pI_F hs
  obtain ⟨x, s1, e1, hs⟩ := hs
  cases e1
  replace hs := lm_if_F hs
  obtain ⟨hk, hs⟩ := hs
  obtain ⟨j, hj⟩ := List.getElem?_of_mem (lm_prs_mem (base := base) (pre := pre) (q := (k, .int x)) |>.mpr ⟨_, hv, rfl⟩)
  exact lv_iinc hx hb hdg hl hj rfl (by rw [← hL]; exact hk) rfl (fun ls' hl' => hs.2 (by rw [lm_put_len]; exact hL) h01 h02 H locs ls' hR hS (lm_has_of hl' lm_put_prs))

theorem lm_st_iadd {h : lm_H} {len pc : Nat} {L : lm_L} {st : List Value} {rty : Option FieldType} {RT : Option Value → Prop} {CL : Nat → List Value → List Value → Prop} (hF : lm_F p R s m args meth c D base pre cs sL xs M d h0) (hdg : decode (lm_cs.getD M ⟨#[]⟩) pc = .ok (.iadd, len)) (hlen : lm_lenok (.iadd, len) = true)
    (hs : lm_stepK (lm_ct M) (lm_sh h) (lm_r h) (lm_own.getD M 0) rty (.iadd) len pc L st h False (fun pc' L' st' h' => lm_rm R h0 h' ∧ lm_G p l e R s m args below meth c D base pre cs sL xs (lm_ml.getD M 0) h0 Q pc' L' st' h') RT CL) :
    lm_G p l e R s m args below meth c D base pre cs sL xs (lm_ml.getD M 0) h0 Q pc L st h := by
  obtain ⟨hx, hb, hml, hown, hts, hE, hsz, hct, hfr, hlo⟩ := hF
  intro hL h01 h02 H locs ls hR hS hl
  obtain rfl : len = 1 := by simpa [lm_lenok] using hlen
  replace hs := lm_pI_F hs
  obtain ⟨y, s1, rfl, hs⟩ := hs
  replace hs := lm_pI_F hs
  obtain ⟨x, s2, rfl, hs⟩ := hs
  exact lv_iadd hx hb hdg (hs.2 hL h01 h02 H locs ls hR hS hl)

theorem lm_st_isub {h : lm_H} {len pc : Nat} {L : lm_L} {st : List Value} {rty : Option FieldType} {RT : Option Value → Prop} {CL : Nat → List Value → List Value → Prop} (hF : lm_F p R s m args meth c D base pre cs sL xs M d h0) (hdg : decode (lm_cs.getD M ⟨#[]⟩) pc = .ok (.isub, len)) (hlen : lm_lenok (.isub, len) = true)
    (hs : lm_stepK (lm_ct M) (lm_sh h) (lm_r h) (lm_own.getD M 0) rty (.isub) len pc L st h False (fun pc' L' st' h' => lm_rm R h0 h' ∧ lm_G p l e R s m args below meth c D base pre cs sL xs (lm_ml.getD M 0) h0 Q pc' L' st' h') RT CL) :
    lm_G p l e R s m args below meth c D base pre cs sL xs (lm_ml.getD M 0) h0 Q pc L st h := by
  obtain ⟨hx, hb, hml, hown, hts, hE, hsz, hct, hfr, hlo⟩ := hF
  intro hL h01 h02 H locs ls hR hS hl
  obtain rfl : len = 1 := by simpa [lm_lenok] using hlen
  replace hs := lm_pI_F hs
  obtain ⟨y, s1, rfl, hs⟩ := hs
  replace hs := lm_pI_F hs
  obtain ⟨x, s2, rfl, hs⟩ := hs
  exact lv_isub hx hb hdg (hs.2 hL h01 h02 H locs ls hR hS hl)

theorem lm_st_imul {h : lm_H} {len pc : Nat} {L : lm_L} {st : List Value} {rty : Option FieldType} {RT : Option Value → Prop} {CL : Nat → List Value → List Value → Prop} (hF : lm_F p R s m args meth c D base pre cs sL xs M d h0) (hdg : decode (lm_cs.getD M ⟨#[]⟩) pc = .ok (.imul, len)) (hlen : lm_lenok (.imul, len) = true)
    (hs : lm_stepK (lm_ct M) (lm_sh h) (lm_r h) (lm_own.getD M 0) rty (.imul) len pc L st h False (fun pc' L' st' h' => lm_rm R h0 h' ∧ lm_G p l e R s m args below meth c D base pre cs sL xs (lm_ml.getD M 0) h0 Q pc' L' st' h') RT CL) :
    lm_G p l e R s m args below meth c D base pre cs sL xs (lm_ml.getD M 0) h0 Q pc L st h := by
  obtain ⟨hx, hb, hml, hown, hts, hE, hsz, hct, hfr, hlo⟩ := hF
  intro hL h01 h02 H locs ls hR hS hl
  obtain rfl : len = 1 := by simpa [lm_lenok] using hlen
  replace hs := lm_pI_F hs
  obtain ⟨y, s1, rfl, hs⟩ := hs
  replace hs := lm_pI_F hs
  obtain ⟨x, s2, rfl, hs⟩ := hs
  exact lv_imul hx hb hdg (hs.2 hL h01 h02 H locs ls hR hS hl)

theorem lm_st_iand {h : lm_H} {len pc : Nat} {L : lm_L} {st : List Value} {rty : Option FieldType} {RT : Option Value → Prop} {CL : Nat → List Value → List Value → Prop} (hF : lm_F p R s m args meth c D base pre cs sL xs M d h0) (hdg : decode (lm_cs.getD M ⟨#[]⟩) pc = .ok (.iand, len)) (hlen : lm_lenok (.iand, len) = true)
    (hs : lm_stepK (lm_ct M) (lm_sh h) (lm_r h) (lm_own.getD M 0) rty (.iand) len pc L st h False (fun pc' L' st' h' => lm_rm R h0 h' ∧ lm_G p l e R s m args below meth c D base pre cs sL xs (lm_ml.getD M 0) h0 Q pc' L' st' h') RT CL) :
    lm_G p l e R s m args below meth c D base pre cs sL xs (lm_ml.getD M 0) h0 Q pc L st h := by
  obtain ⟨hx, hb, hml, hown, hts, hE, hsz, hct, hfr, hlo⟩ := hF
  intro hL h01 h02 H locs ls hR hS hl
  obtain rfl : len = 1 := by simpa [lm_lenok] using hlen
  replace hs := lm_pI_F hs
  obtain ⟨y, s1, rfl, hs⟩ := hs
  replace hs := lm_pI_F hs
  obtain ⟨x, s2, rfl, hs⟩ := hs
  exact lv_iand hx hb hdg (hs.2 hL h01 h02 H locs ls hR hS hl)

theorem lm_st_ior {h : lm_H} {len pc : Nat} {L : lm_L} {st : List Value} {rty : Option FieldType} {RT : Option Value → Prop} {CL : Nat → List Value → List Value → Prop} (hF : lm_F p R s m args meth c D base pre cs sL xs M d h0) (hdg : decode (lm_cs.getD M ⟨#[]⟩) pc = .ok (.ior, len)) (hlen : lm_lenok (.ior, len) = true)
    (hs : lm_stepK (lm_ct M) (lm_sh h) (lm_r h) (lm_own.getD M 0) rty (.ior) len pc L st h False (fun pc' L' st' h' => lm_rm R h0 h' ∧ lm_G p l e R s m args below meth c D base pre cs sL xs (lm_ml.getD M 0) h0 Q pc' L' st' h') RT CL) :
    lm_G p l e R s m args below meth c D base pre cs sL xs (lm_ml.getD M 0) h0 Q pc L st h := by
  obtain ⟨hx, hb, hml, hown, hts, hE, hsz, hct, hfr, hlo⟩ := hF
  intro hL h01 h02 H locs ls hR hS hl
  obtain rfl : len = 1 := by simpa [lm_lenok] using hlen
  replace hs := lm_pI_F hs
  obtain ⟨y, s1, rfl, hs⟩ := hs
  replace hs := lm_pI_F hs
  obtain ⟨x, s2, rfl, hs⟩ := hs
  exact lv_ior hx hb hdg (hs.2 hL h01 h02 H locs ls hR hS hl)

theorem lm_st_ixor {h : lm_H} {len pc : Nat} {L : lm_L} {st : List Value} {rty : Option FieldType} {RT : Option Value → Prop} {CL : Nat → List Value → List Value → Prop} (hF : lm_F p R s m args meth c D base pre cs sL xs M d h0) (hdg : decode (lm_cs.getD M ⟨#[]⟩) pc = .ok (.ixor, len)) (hlen : lm_lenok (.ixor, len) = true)
    (hs : lm_stepK (lm_ct M) (lm_sh h) (lm_r h) (lm_own.getD M 0) rty (.ixor) len pc L st h False (fun pc' L' st' h' => lm_rm R h0 h' ∧ lm_G p l e R s m args below meth c D base pre cs sL xs (lm_ml.getD M 0) h0 Q pc' L' st' h') RT CL) :
    lm_G p l e R s m args below meth c D base pre cs sL xs (lm_ml.getD M 0) h0 Q pc L st h := by
  obtain ⟨hx, hb, hml, hown, hts, hE, hsz, hct, hfr, hlo⟩ := hF
  intro hL h01 h02 H locs ls hR hS hl
  obtain rfl : len = 1 := by simpa [lm_lenok] using hlen
  replace hs := lm_pI_F hs
  obtain ⟨y, s1, rfl, hs⟩ := hs
  replace hs := lm_pI_F hs
  obtain ⟨x, s2, rfl, hs⟩ := hs
  exact lv_ixor hx hb hdg (hs.2 hL h01 h02 H locs ls hR hS hl)

theorem lm_st_ishl {h : lm_H} {len pc : Nat} {L : lm_L} {st : List Value} {rty : Option FieldType} {RT : Option Value → Prop} {CL : Nat → List Value → List Value → Prop} (hF : lm_F p R s m args meth c D base pre cs sL xs M d h0) (hdg : decode (lm_cs.getD M ⟨#[]⟩) pc = .ok (.ishl, len)) (hlen : lm_lenok (.ishl, len) = true)
    (hs : lm_stepK (lm_ct M) (lm_sh h) (lm_r h) (lm_own.getD M 0) rty (.ishl) len pc L st h False (fun pc' L' st' h' => lm_rm R h0 h' ∧ lm_G p l e R s m args below meth c D base pre cs sL xs (lm_ml.getD M 0) h0 Q pc' L' st' h') RT CL) :
    lm_G p l e R s m args below meth c D base pre cs sL xs (lm_ml.getD M 0) h0 Q pc L st h := by
  obtain ⟨hx, hb, hml, hown, hts, hE, hsz, hct, hfr, hlo⟩ := hF
  intro hL h01 h02 H locs ls hR hS hl
  obtain rfl : len = 1 := by simpa [lm_lenok] using hlen
  replace hs := lm_pI_F hs
  obtain ⟨y, s1, rfl, hs⟩ := hs
  replace hs := lm_pI_F hs
  obtain ⟨x, s2, rfl, hs⟩ := hs
  exact lv_ishl hx hb hdg (hs.2 hL h01 h02 H locs ls hR hS hl)

theorem lm_st_ishr {h : lm_H} {len pc : Nat} {L : lm_L} {st : List Value} {rty : Option FieldType} {RT : Option Value → Prop} {CL : Nat → List Value → List Value → Prop} (hF : lm_F p R s m args meth c D base pre cs sL xs M d h0) (hdg : decode (lm_cs.getD M ⟨#[]⟩) pc = .ok (.ishr, len)) (hlen : lm_lenok (.ishr, len) = true)
    (hs : lm_stepK (lm_ct M) (lm_sh h) (lm_r h) (lm_own.getD M 0) rty (.ishr) len pc L st h False (fun pc' L' st' h' => lm_rm R h0 h' ∧ lm_G p l e R s m args below meth c D base pre cs sL xs (lm_ml.getD M 0) h0 Q pc' L' st' h') RT CL) :
    lm_G p l e R s m args below meth c D base pre cs sL xs (lm_ml.getD M 0) h0 Q pc L st h := by
  obtain ⟨hx, hb, hml, hown, hts, hE, hsz, hct, hfr, hlo⟩ := hF
  intro hL h01 h02 H locs ls hR hS hl
  obtain rfl : len = 1 := by simpa [lm_lenok] using hlen
  replace hs := lm_pI_F hs
  obtain ⟨y, s1, rfl, hs⟩ := hs
  replace hs := lm_pI_F hs
  obtain ⟨x, s2, rfl, hs⟩ := hs
  exact lv_ishr hx hb hdg (hs.2 hL h01 h02 H locs ls hR hS hl)

theorem lm_st_iushr {h : lm_H} {len pc : Nat} {L : lm_L} {st : List Value} {rty : Option FieldType} {RT : Option Value → Prop} {CL : Nat → List Value → List Value → Prop} (hF : lm_F p R s m args meth c D base pre cs sL xs M d h0) (hdg : decode (lm_cs.getD M ⟨#[]⟩) pc = .ok (.iushr, len)) (hlen : lm_lenok (.iushr, len) = true)
    (hs : lm_stepK (lm_ct M) (lm_sh h) (lm_r h) (lm_own.getD M 0) rty (.iushr) len pc L st h False (fun pc' L' st' h' => lm_rm R h0 h' ∧ lm_G p l e R s m args below meth c D base pre cs sL xs (lm_ml.getD M 0) h0 Q pc' L' st' h') RT CL) :
    lm_G p l e R s m args below meth c D base pre cs sL xs (lm_ml.getD M 0) h0 Q pc L st h := by
  obtain ⟨hx, hb, hml, hown, hts, hE, hsz, hct, hfr, hlo⟩ := hF
  intro hL h01 h02 H locs ls hR hS hl
  obtain rfl : len = 1 := by simpa [lm_lenok] using hlen
  replace hs := lm_pI_F hs
  obtain ⟨y, s1, rfl, hs⟩ := hs
  replace hs := lm_pI_F hs
  obtain ⟨x, s2, rfl, hs⟩ := hs
  exact lv_iushr hx hb hdg rfl (hs.2 hL h01 h02 H locs ls hR hS hl)

theorem lm_st_idiv {h : lm_H} {len pc : Nat} {L : lm_L} {st : List Value} {rty : Option FieldType} {RT : Option Value → Prop} {CL : Nat → List Value → List Value → Prop} (hF : lm_F p R s m args meth c D base pre cs sL xs M d h0) (hdg : decode (lm_cs.getD M ⟨#[]⟩) pc = .ok (.idiv, len)) (hlen : lm_lenok (.idiv, len) = true)
    (hs : lm_stepK (lm_ct M) (lm_sh h) (lm_r h) (lm_own.getD M 0) rty (.idiv) len pc L st h False (fun pc' L' st' h' => lm_rm R h0 h' ∧ lm_G p l e R s m args below meth c D base pre cs sL xs (lm_ml.getD M 0) h0 Q pc' L' st' h') RT CL) :
    lm_G p l e R s m args below meth c D base pre cs sL xs (lm_ml.getD M 0) h0 Q pc L st h := by
  obtain ⟨hx, hb, hml, hown, hts, hE, hsz, hct, hfr, hlo⟩ := hF
  intro hL h01 h02 H locs ls hR hS hl
  obtain rfl : len = 1 := by simpa [lm_lenok] using hlen
  replace hs := lm_pI_F hs
  obtain ⟨y, s1, rfl, hs⟩ := hs
  replace hs := lm_pI_F hs
  obtain ⟨x, s2, rfl, hs⟩ := hs
  replace hs := lm_if_T hs
  obtain ⟨hne, hs⟩ := hs
  exact lv_idiv hx hb hdg hne (hs.2 hL h01 h02 H locs ls hR hS hl)

theorem lm_st_irem {h : lm_H} {len pc : Nat} {L : lm_L} {st : List Value} {rty : Option FieldType} {RT : Option Value → Prop} {CL : Nat → List Value → List Value → Prop} (hF : lm_F p R s m args meth c D base pre cs sL xs M d h0) (hdg : decode (lm_cs.getD M ⟨#[]⟩) pc = .ok (.irem, len)) (hlen : lm_lenok (.irem, len) = true)
    (hs : lm_stepK (lm_ct M) (lm_sh h) (lm_r h) (lm_own.getD M 0) rty (.irem) len pc L st h False (fun pc' L' st' h' => lm_rm R h0 h' ∧ lm_G p l e R s m args below meth c D base pre cs sL xs (lm_ml.getD M 0) h0 Q pc' L' st' h') RT CL) :
    lm_G p l e R s m args below meth c D base pre cs sL xs (lm_ml.getD M 0) h0 Q pc L st h := by
  obtain ⟨hx, hb, hml, hown, hts, hE, hsz, hct, hfr, hlo⟩ := hF
  intro hL h01 h02 H locs ls hR hS hl
  obtain rfl : len = 1 := by simpa [lm_lenok] using hlen
  replace hs := lm_pI_F hs
  obtain ⟨y, s1, rfl, hs⟩ := hs
  replace hs := lm_pI_F hs
  obtain ⟨x, s2, rfl, hs⟩ := hs
  replace hs := lm_if_T hs
  obtain ⟨hne, hs⟩ := hs
  exact lv_irem hx hb hdg hne (hs.2 hL h01 h02 H locs ls hR hS hl)

theorem lm_st_ladd {h : lm_H} {len pc : Nat} {L : lm_L} {st : List Value} {rty : Option FieldType} {RT : Option Value → Prop} {CL : Nat → List Value → List Value → Prop} (hF : lm_F p R s m args meth c D base pre cs sL xs M d h0) (hdg : decode (lm_cs.getD M ⟨#[]⟩) pc = .ok (.ladd, len)) (hlen : lm_lenok (.ladd, len) = true)
    (hs : lm_stepK (lm_ct M) (lm_sh h) (lm_r h) (lm_own.getD M 0) rty (.ladd) len pc L st h False (fun pc' L' st' h' => lm_rm R h0 h' ∧ lm_G p l e R s m args below meth c D base pre cs sL xs (lm_ml.getD M 0) h0 Q pc' L' st' h') RT CL) :
    lm_G p l e R s m args below meth c D base pre cs sL xs (lm_ml.getD M 0) h0 Q pc L st h := by
  obtain ⟨hx, hb, hml, hown, hts, hE, hsz, hct, hfr, hlo⟩ := hF
  intro hL h01 h02 H locs ls hR hS hl
  obtain rfl : len = 1 := by simpa [lm_lenok] using hlen
  replace hs := lm_pL_F hs
  obtain ⟨y, s1, rfl, hs⟩ := hs
  replace hs := lm_pL_F hs
  obtain ⟨x, s2, rfl, hs⟩ := hs
  exact lv_ladd hx hb hdg (hs.2 hL h01 h02 H locs ls hR hS hl)

theorem lm_st_lsub {h : lm_H} {len pc : Nat} {L : lm_L} {st : List Value} {rty : Option FieldType} {RT : Option Value → Prop} {CL : Nat → List Value → List Value → Prop} (hF : lm_F p R s m args meth c D base pre cs sL xs M d h0) (hdg : decode (lm_cs.getD M ⟨#[]⟩) pc = .ok (.lsub, len)) (hlen : lm_lenok (.lsub, len) = true)
    (hs : lm_stepK (lm_ct M) (lm_sh h) (lm_r h) (lm_own.getD M 0) rty (.lsub) len pc L st h False (fun pc' L' st' h' => lm_rm R h0 h' ∧ lm_G p l e R s m args below meth c D base pre cs sL xs (lm_ml.getD M 0) h0 Q pc' L' st' h') RT CL) :
    lm_G p l e R s m args below meth c D base pre cs sL xs (lm_ml.getD M 0) h0 Q pc L st h := by
  obtain ⟨hx, hb, hml, hown, hts, hE, hsz, hct, hfr, hlo⟩ := hF
  intro hL h01 h02 H locs ls hR hS hl
  obtain rfl : len = 1 := by simpa [lm_lenok] using hlen
  replace hs := lm_pL_F hs
  obtain ⟨y, s1, rfl, hs⟩ := hs
  replace hs := lm_pL_F hs
  obtain ⟨x, s2, rfl, hs⟩ := hs
  exact lv_lsub hx hb hdg (hs.2 hL h01 h02 H locs ls hR hS hl)

theorem lm_st_lmul {h : lm_H} {len pc : Nat} {L : lm_L} {st : List Value} {rty : Option FieldType} {RT : Option Value → Prop} {CL : Nat → List Value → List Value → Prop} (hF : lm_F p R s m args meth c D base pre cs sL xs M d h0) (hdg : decode (lm_cs.getD M ⟨#[]⟩) pc = .ok (.lmul, len)) (hlen : lm_lenok (.lmul, len) = true)
    (hs : lm_stepK (lm_ct M) (lm_sh h) (lm_r h) (lm_own.getD M 0) rty (.lmul) len pc L st h False (fun pc' L' st' h' => lm_rm R h0 h' ∧ lm_G p l e R s m args below meth c D base pre cs sL xs (lm_ml.getD M 0) h0 Q pc' L' st' h') RT CL) :
    lm_G p l e R s m args below meth c D base pre cs sL xs (lm_ml.getD M 0) h0 Q pc L st h := by
  obtain ⟨hx, hb, hml, hown, hts, hE, hsz, hct, hfr, hlo⟩ := hF
  intro hL h01 h02 H locs ls hR hS hl
  obtain rfl : len = 1 := by simpa [lm_lenok] using hlen
  replace hs := lm_pL_F hs
  obtain ⟨y, s1, rfl, hs⟩ := hs
  replace hs := lm_pL_F hs
  obtain ⟨x, s2, rfl, hs⟩ := hs
  exact lv_lmul hx hb hdg (hs.2 hL h01 h02 H locs ls hR hS hl)

theorem lm_st_land {h : lm_H} {len pc : Nat} {L : lm_L} {st : List Value} {rty : Option FieldType} {RT : Option Value → Prop} {CL : Nat → List Value → List Value → Prop} (hF : lm_F p R s m args meth c D base pre cs sL xs M d h0) (hdg : decode (lm_cs.getD M ⟨#[]⟩) pc = .ok (.land, len)) (hlen : lm_lenok (.land, len) = true)
    (hs : lm_stepK (lm_ct M) (lm_sh h) (lm_r h) (lm_own.getD M 0) rty (.land) len pc L st h False (fun pc' L' st' h' => lm_rm R h0 h' ∧ lm_G p l e R s m args below meth c D base pre cs sL xs (lm_ml.getD M 0) h0 Q pc' L' st' h') RT CL) :
    lm_G p l e R s m args below meth c D base pre cs sL xs (lm_ml.getD M 0) h0 Q pc L st h := by
  obtain ⟨hx, hb, hml, hown, hts, hE, hsz, hct, hfr, hlo⟩ := hF
  intro hL h01 h02 H locs ls hR hS hl
  obtain rfl : len = 1 := by simpa [lm_lenok] using hlen
  replace hs := lm_pL_F hs
  obtain ⟨y, s1, rfl, hs⟩ := hs
  replace hs := lm_pL_F hs
  obtain ⟨x, s2, rfl, hs⟩ := hs
  exact lv_land hx hb hdg (hs.2 hL h01 h02 H locs ls hR hS hl)

theorem lm_st_lor {h : lm_H} {len pc : Nat} {L : lm_L} {st : List Value} {rty : Option FieldType} {RT : Option Value → Prop} {CL : Nat → List Value → List Value → Prop} (hF : lm_F p R s m args meth c D base pre cs sL xs M d h0) (hdg : decode (lm_cs.getD M ⟨#[]⟩) pc = .ok (.lor, len)) (hlen : lm_lenok (.lor, len) = true)
    (hs : lm_stepK (lm_ct M) (lm_sh h) (lm_r h) (lm_own.getD M 0) rty (.lor) len pc L st h False (fun pc' L' st' h' => lm_rm R h0 h' ∧ lm_G p l e R s m args below meth c D base pre cs sL xs (lm_ml.getD M 0) h0 Q pc' L' st' h') RT CL) :
    lm_G p l e R s m args below meth c D base pre cs sL xs (lm_ml.getD M 0) h0 Q pc L st h := by
  obtain ⟨hx, hb, hml, hown, hts, hE, hsz, hct, hfr, hlo⟩ := hF
  intro hL h01 h02 H locs ls hR hS hl
  obtain rfl : len = 1 := by simpa [lm_lenok] using hlen
  replace hs := lm_pL_F hs
  obtain ⟨y, s1, rfl, hs⟩ := hs
  replace hs := lm_pL_F hs
  obtain ⟨x, s2, rfl, hs⟩ := hs
  exact lv_lor hx hb hdg (hs.2 hL h01 h02 H locs ls hR hS hl)

theorem lm_st_ldiv {h : lm_H} {len pc : Nat} {L : lm_L} {st : List Value} {rty : Option FieldType} {RT : Option Value → Prop} {CL : Nat → List Value → List Value → Prop} (hF : lm_F p R s m args meth c D base pre cs sL xs M d h0) (hdg : decode (lm_cs.getD M ⟨#[]⟩) pc = .ok (.ldiv, len)) (hlen : lm_lenok (.ldiv, len) = true)
    (hs : lm_stepK (lm_ct M) (lm_sh h) (lm_r h) (lm_own.getD M 0) rty (.ldiv) len pc L st h False (fun pc' L' st' h' => lm_rm R h0 h' ∧ lm_G p l e R s m args below meth c D base pre cs sL xs (lm_ml.getD M 0) h0 Q pc' L' st' h') RT CL) :
    lm_G p l e R s m args below meth c D base pre cs sL xs (lm_ml.getD M 0) h0 Q pc L st h := by
  obtain ⟨hx, hb, hml, hown, hts, hE, hsz, hct, hfr, hlo⟩ := hF
  intro hL h01 h02 H locs ls hR hS hl
  obtain rfl : len = 1 := by simpa [lm_lenok] using hlen
  replace hs := lm_pL_F hs
  obtain ⟨y, s1, rfl, hs⟩ := hs
  replace hs := lm_pL_F hs
  obtain ⟨x, s2, rfl, hs⟩ := hs
  replace hs := lm_if_T hs
  obtain ⟨hne, hs⟩ := hs
  exact lv_ldiv hx hb hdg hne (hs.2 hL h01 h02 H locs ls hR hS hl)

theorem lm_st_lrem {h : lm_H} {len pc : Nat} {L : lm_L} {st : List Value} {rty : Option FieldType} {RT : Option Value → Prop} {CL : Nat → List Value → List Value → Prop} (hF : lm_F p R s m args meth c D base pre cs sL xs M d h0) (hdg : decode (lm_cs.getD M ⟨#[]⟩) pc = .ok (.lrem, len)) (hlen : lm_lenok (.lrem, len) = true)
    (hs : lm_stepK (lm_ct M) (lm_sh h) (lm_r h) (lm_own.getD M 0) rty (.lrem) len pc L st h False (fun pc' L' st' h' => lm_rm R h0 h' ∧ lm_G p l e R s m args below meth c D base pre cs sL xs (lm_ml.getD M 0) h0 Q pc' L' st' h') RT CL) :
    lm_G p l e R s m args below meth c D base pre cs sL xs (lm_ml.getD M 0) h0 Q pc L st h := by
  obtain ⟨hx, hb, hml, hown, hts, hE, hsz, hct, hfr, hlo⟩ := hF
  intro hL h01 h02 H locs ls hR hS hl
  obtain rfl : len = 1 := by simpa [lm_lenok] using hlen
  replace hs := lm_pL_F hs
  obtain ⟨y, s1, rfl, hs⟩ := hs
  replace hs := lm_pL_F hs
  obtain ⟨x, s2, rfl, hs⟩ := hs
  replace hs := lm_if_T hs
  obtain ⟨hne, hs⟩ := hs
  exact lv_lrem hx hb hdg hne (hs.2 hL h01 h02 H locs ls hR hS hl)

theorem lm_st_lshl {h : lm_H} {len pc : Nat} {L : lm_L} {st : List Value} {rty : Option FieldType} {RT : Option Value → Prop} {CL : Nat → List Value → List Value → Prop} (hF : lm_F p R s m args meth c D base pre cs sL xs M d h0) (hdg : decode (lm_cs.getD M ⟨#[]⟩) pc = .ok (.lshl, len)) (hlen : lm_lenok (.lshl, len) = true)
    (hs : lm_stepK (lm_ct M) (lm_sh h) (lm_r h) (lm_own.getD M 0) rty (.lshl) len pc L st h False (fun pc' L' st' h' => lm_rm R h0 h' ∧ lm_G p l e R s m args below meth c D base pre cs sL xs (lm_ml.getD M 0) h0 Q pc' L' st' h') RT CL) :
    lm_G p l e R s m args below meth c D base pre cs sL xs (lm_ml.getD M 0) h0 Q pc L st h := by
  obtain ⟨hx, hb, hml, hown, hts, hE, hsz, hct, hfr, hlo⟩ := hF
  intro hL h01 h02 H locs ls hR hS hl
  obtain rfl : len = 1 := by simpa [lm_lenok] using hlen
  replace hs := lm_pI_F hs
  obtain ⟨y, s1, rfl, hs⟩ := hs
  replace hs := lm_pL_F hs
  obtain ⟨x, s2, rfl, hs⟩ := hs
  exact lv_lshl hx hb hdg rfl (hs.2 hL h01 h02 H locs ls hR hS hl)

theorem lm_st_lshr {h : lm_H} {len pc : Nat} {L : lm_L} {st : List Value} {rty : Option FieldType} {RT : Option Value → Prop} {CL : Nat → List Value → List Value → Prop} (hF : lm_F p R s m args meth c D base pre cs sL xs M d h0) (hdg : decode (lm_cs.getD M ⟨#[]⟩) pc = .ok (.lshr, len)) (hlen : lm_lenok (.lshr, len) = true)
    (hs : lm_stepK (lm_ct M) (lm_sh h) (lm_r h) (lm_own.getD M 0) rty (.lshr) len pc L st h False (fun pc' L' st' h' => lm_rm R h0 h' ∧ lm_G p l e R s m args below meth c D base pre cs sL xs (lm_ml.getD M 0) h0 Q pc' L' st' h') RT CL) :
    lm_G p l e R s m args below meth c D base pre cs sL xs (lm_ml.getD M 0) h0 Q pc L st h := by
  obtain ⟨hx, hb, hml, hown, hts, hE, hsz, hct, hfr, hlo⟩ := hF
  intro hL h01 h02 H locs ls hR hS hl
  obtain rfl : len = 1 := by simpa [lm_lenok] using hlen
  replace hs := lm_pI_F hs
  obtain ⟨y, s1, rfl, hs⟩ := hs
  replace hs := lm_pL_F hs
  obtain ⟨x, s2, rfl, hs⟩ := hs
  exact lv_lshr hx hb hdg rfl (hs.2 hL h01 h02 H locs ls hR hS hl)

theorem lm_st_lushr {h : lm_H} {len pc : Nat} {L : lm_L} {st : List Value} {rty : Option FieldType} {RT : Option Value → Prop} {CL : Nat → List Value → List Value → Prop} (hF : lm_F p R s m args meth c D base pre cs sL xs M d h0) (hdg : decode (lm_cs.getD M ⟨#[]⟩) pc = .ok (.lushr, len)) (hlen : lm_lenok (.lushr, len) = true)
    (hs : lm_stepK (lm_ct M) (lm_sh h) (lm_r h) (lm_own.getD M 0) rty (.lushr) len pc L st h False (fun pc' L' st' h' => lm_rm R h0 h' ∧ lm_G p l e R s m args below meth c D base pre cs sL xs (lm_ml.getD M 0) h0 Q pc' L' st' h') RT CL) :
    lm_G p l e R s m args below meth c D base pre cs sL xs (lm_ml.getD M 0) h0 Q pc L st h := by
  obtain ⟨hx, hb, hml, hown, hts, hE, hsz, hct, hfr, hlo⟩ := hF
  intro hL h01 h02 H locs ls hR hS hl
  obtain rfl : len = 1 := by simpa [lm_lenok] using hlen
  replace hs := lm_pI_F hs
  obtain ⟨y, s1, rfl, hs⟩ := hs
  replace hs := lm_pL_F hs
  obtain ⟨x, s2, rfl, hs⟩ := hs
  exact lv_lushr hx hb hdg rfl (hs.2 hL h01 h02 H locs ls hR hS hl)

theorem lm_st_lcmp {h : lm_H} {len pc : Nat} {L : lm_L} {st : List Value} {rty : Option FieldType} {RT : Option Value → Prop} {CL : Nat → List Value → List Value → Prop} (hF : lm_F p R s m args meth c D base pre cs sL xs M d h0) (hdg : decode (lm_cs.getD M ⟨#[]⟩) pc = .ok (.lcmp, len)) (hlen : lm_lenok (.lcmp, len) = true)
    (hs : lm_stepK (lm_ct M) (lm_sh h) (lm_r h) (lm_own.getD M 0) rty (.lcmp) len pc L st h False (fun pc' L' st' h' => lm_rm R h0 h' ∧ lm_G p l e R s m args below meth c D base pre cs sL xs (lm_ml.getD M 0) h0 Q pc' L' st' h') RT CL) :
    lm_G p l e R s m args below meth c D base pre cs sL xs (lm_ml.getD M 0) h0 Q pc L st h := by
  obtain ⟨hx, hb, hml, hown, hts, hE, hsz, hct, hfr, hlo⟩ := hF
  intro hL h01 h02 H locs ls hR hS hl
  obtain rfl : len = 1 := by simpa [lm_lenok] using hlen
  replace hs := lm_pL_F hs
  obtain ⟨y, s1, rfl, hs⟩ := hs
  replace hs := lm_pL_F hs
  obtain ⟨x, s2, rfl, hs⟩ := hs
  exact W.lcmp hx hb hdg (hs.2 hL h01 h02 H locs ls hR hS hl)

theorem lm_st_ineg {h : lm_H} {len pc : Nat} {L : lm_L} {st : List Value} {rty : Option FieldType} {RT : Option Value → Prop} {CL : Nat → List Value → List Value → Prop} (hF : lm_F p R s m args meth c D base pre cs sL xs M d h0) (hdg : decode (lm_cs.getD M ⟨#[]⟩) pc = .ok (.ineg, len)) (hlen : lm_lenok (.ineg, len) = true)
    (hs : lm_stepK (lm_ct M) (lm_sh h) (lm_r h) (lm_own.getD M 0) rty (.ineg) len pc L st h False (fun pc' L' st' h' => lm_rm R h0 h' ∧ lm_G p l e R s m args below meth c D base pre cs sL xs (lm_ml.getD M 0) h0 Q pc' L' st' h') RT CL) :
    lm_G p l e R s m args below meth c D base pre cs sL xs (lm_ml.getD M 0) h0 Q pc L st h := by
  obtain ⟨hx, hb, hml, hown, hts, hE, hsz, hct, hfr, hlo⟩ := hF
  intro hL h01 h02 H locs ls hR hS hl
  obtain rfl : len = 1 := by simpa [lm_lenok] using hlen
  replace hs := lm_pI_F hs
  obtain ⟨x, s1, rfl, hs⟩ := hs
  exact lv_ineg hx hb hdg (hs.2 hL h01 h02 H locs ls hR hS hl)

theorem lm_st_i2l {h : lm_H} {len pc : Nat} {L : lm_L} {st : List Value} {rty : Option FieldType} {RT : Option Value → Prop} {CL : Nat → List Value → List Value → Prop} (hF : lm_F p R s m args meth c D base pre cs sL xs M d h0) (hdg : decode (lm_cs.getD M ⟨#[]⟩) pc = .ok (.i2l, len)) (hlen : lm_lenok (.i2l, len) = true)
    (hs : lm_stepK (lm_ct M) (lm_sh h) (lm_r h) (lm_own.getD M 0) rty (.i2l) len pc L st h False (fun pc' L' st' h' => lm_rm R h0 h' ∧ lm_G p l e R s m args below meth c D base pre cs sL xs (lm_ml.getD M 0) h0 Q pc' L' st' h') RT CL) :
    lm_G p l e R s m args below meth c D base pre cs sL xs (lm_ml.getD M 0) h0 Q pc L st h := by
  obtain ⟨hx, hb, hml, hown, hts, hE, hsz, hct, hfr, hlo⟩ := hF
  intro hL h01 h02 H locs ls hR hS hl
  obtain rfl : len = 1 := by simpa [lm_lenok] using hlen
  replace hs := lm_pI_F hs
  obtain ⟨x, s1, rfl, hs⟩ := hs
  exact lv_i2l hx hb hdg rfl (hs.2 hL h01 h02 H locs ls hR hS hl)

theorem lm_st_l2i {h : lm_H} {len pc : Nat} {L : lm_L} {st : List Value} {rty : Option FieldType} {RT : Option Value → Prop} {CL : Nat → List Value → List Value → Prop} (hF : lm_F p R s m args meth c D base pre cs sL xs M d h0) (hdg : decode (lm_cs.getD M ⟨#[]⟩) pc = .ok (.l2i, len)) (hlen : lm_lenok (.l2i, len) = true)
    (hs : lm_stepK (lm_ct M) (lm_sh h) (lm_r h) (lm_own.getD M 0) rty (.l2i) len pc L st h False (fun pc' L' st' h' => lm_rm R h0 h' ∧ lm_G p l e R s m args below meth c D base pre cs sL xs (lm_ml.getD M 0) h0 Q pc' L' st' h') RT CL) :
    lm_G p l e R s m args below meth c D base pre cs sL xs (lm_ml.getD M 0) h0 Q pc L st h := by
  obtain ⟨hx, hb, hml, hown, hts, hE, hsz, hct, hfr, hlo⟩ := hF
  intro hL h01 h02 H locs ls hR hS hl
  obtain rfl : len = 1 := by simpa [lm_lenok] using hlen
  replace hs := lm_pL_F hs
  obtain ⟨x, s1, rfl, hs⟩ := hs
  exact lv_l2i hx hb hdg rfl (hs.2 hL h01 h02 H locs ls hR hS hl)

theorem lm_st_i2b {h : lm_H} {len pc : Nat} {L : lm_L} {st : List Value} {rty : Option FieldType} {RT : Option Value → Prop} {CL : Nat → List Value → List Value → Prop} (hF : lm_F p R s m args meth c D base pre cs sL xs M d h0) (hdg : decode (lm_cs.getD M ⟨#[]⟩) pc = .ok (.i2b, len)) (hlen : lm_lenok (.i2b, len) = true)
    (hs : lm_stepK (lm_ct M) (lm_sh h) (lm_r h) (lm_own.getD M 0) rty (.i2b) len pc L st h False (fun pc' L' st' h' => lm_rm R h0 h' ∧ lm_G p l e R s m args below meth c D base pre cs sL xs (lm_ml.getD M 0) h0 Q pc' L' st' h') RT CL) :
    lm_G p l e R s m args below meth c D base pre cs sL xs (lm_ml.getD M 0) h0 Q pc L st h := by
  obtain ⟨hx, hb, hml, hown, hts, hE, hsz, hct, hfr, hlo⟩ := hF
  intro hL h01 h02 H locs ls hR hS hl
  obtain rfl : len = 1 := by simpa [lm_lenok] using hlen
  replace hs := lm_pI_F hs
  obtain ⟨x, s1, rfl, hs⟩ := hs
  exact lv_i2b hx hb hdg rfl (hs.2 hL h01 h02 H locs ls hR hS hl)

theorem lm_st_i2c {h : lm_H} {len pc : Nat} {L : lm_L} {st : List Value} {rty : Option FieldType} {RT : Option Value → Prop} {CL : Nat → List Value → List Value → Prop} (hF : lm_F p R s m args meth c D base pre cs sL xs M d h0) (hdg : decode (lm_cs.getD M ⟨#[]⟩) pc = .ok (.i2c, len)) (hlen : lm_lenok (.i2c, len) = true)
    (hs : lm_stepK (lm_ct M) (lm_sh h) (lm_r h) (lm_own.getD M 0) rty (.i2c) len pc L st h False (fun pc' L' st' h' => lm_rm R h0 h' ∧ lm_G p l e R s m args below meth c D base pre cs sL xs (lm_ml.getD M 0) h0 Q pc' L' st' h') RT CL) :
    lm_G p l e R s m args below meth c D base pre cs sL xs (lm_ml.getD M 0) h0 Q pc L st h := by
  obtain ⟨hx, hb, hml, hown, hts, hE, hsz, hct, hfr, hlo⟩ := hF
  intro hL h01 h02 H locs ls hR hS hl
  obtain rfl : len = 1 := by simpa [lm_lenok] using hlen
  replace hs := lm_pI_F hs
  obtain ⟨x, s1, rfl, hs⟩ := hs
  exact lv_i2c hx hb hdg rfl (hs.2 hL h01 h02 H locs ls hR hS hl)

theorem lm_st_dup {h : lm_H} {len pc : Nat} {L : lm_L} {st : List Value} {rty : Option FieldType} {RT : Option Value → Prop} {CL : Nat → List Value → List Value → Prop} (hF : lm_F p R s m args meth c D base pre cs sL xs M d h0) (hdg : decode (lm_cs.getD M ⟨#[]⟩) pc = .ok (.dup, len)) (hlen : lm_lenok (.dup, len) = true)
    (hs : lm_stepK (lm_ct M) (lm_sh h) (lm_r h) (lm_own.getD M 0) rty (.dup) len pc L st h False (fun pc' L' st' h' => lm_rm R h0 h' ∧ lm_G p l e R s m args below meth c D base pre cs sL xs (lm_ml.getD M 0) h0 Q pc' L' st' h') RT CL) :
    lm_G p l e R s m args below meth c D base pre cs sL xs (lm_ml.getD M 0) h0 Q pc L st h := by
  obtain ⟨hx, hb, hml, hown, hts, hE, hsz, hct, hfr, hlo⟩ := hF
  intro hL h01 h02 H locs ls hR hS hl
  obtain rfl : len = 1 := by simpa [lm_lenok] using hlen
  replace hs := lm_pV_F hs
  obtain ⟨v, s1, rfl, hs⟩ := hs
  replace hs := lm_if_F hs
  obtain ⟨hc, hs⟩ := hs
  exact lv_dup hx hb hdg (by rw [lm_v_cat]; exact hc) (hs.2 hL h01 h02 H locs ls hR hS hl)

theorem lm_st_pop {h : lm_H} {len pc : Nat} {L : lm_L} {st : List Value} {rty : Option FieldType} {RT : Option Value → Prop} {CL : Nat → List Value → List Value → Prop} (hF : lm_F p R s m args meth c D base pre cs sL xs M d h0) (hdg : decode (lm_cs.getD M ⟨#[]⟩) pc = .ok (.pop, len)) (hlen : lm_lenok (.pop, len) = true)
    (hs : lm_stepK (lm_ct M) (lm_sh h) (lm_r h) (lm_own.getD M 0) rty (.pop) len pc L st h False (fun pc' L' st' h' => lm_rm R h0 h' ∧ lm_G p l e R s m args below meth c D base pre cs sL xs (lm_ml.getD M 0) h0 Q pc' L' st' h') RT CL) :
    lm_G p l e R s m args below meth c D base pre cs sL xs (lm_ml.getD M 0) h0 Q pc L st h := by
  obtain ⟨hx, hb, hml, hown, hts, hE, hsz, hct, hfr, hlo⟩ := hF
  intro hL h01 h02 H locs ls hR hS hl
  obtain rfl : len = 1 := by simpa [lm_lenok] using hlen
  replace hs := lm_pV_F hs
  obtain ⟨v, s1, rfl, hs⟩ := hs
  replace hs := lm_if_F hs
  obtain ⟨hc, hs⟩ := hs
  exact lv_pop hx hb hdg (by rw [lm_v_cat]; exact hc) (hs.2 hL h01 h02 H locs ls hR hS hl)

theorem lm_st_dup2 {h : lm_H} {len pc : Nat} {L : lm_L} {st : List Value} {rty : Option FieldType} {RT : Option Value → Prop} {CL : Nat → List Value → List Value → Prop} (hF : lm_F p R s m args meth c D base pre cs sL xs M d h0) (hdg : decode (lm_cs.getD M ⟨#[]⟩) pc = .ok (.dup2, len)) (hlen : lm_lenok (.dup2, len) = true)
    (hs : lm_stepK (lm_ct M) (lm_sh h) (lm_r h) (lm_own.getD M 0) rty (.dup2) len pc L st h False (fun pc' L' st' h' => lm_rm R h0 h' ∧ lm_G p l e R s m args below meth c D base pre cs sL xs (lm_ml.getD M 0) h0 Q pc' L' st' h') RT CL) :
    lm_G p l e R s m args below meth c D base pre cs sL xs (lm_ml.getD M 0) h0 Q pc L st h := by
  obtain ⟨hx, hb, hml, hown, hts, hE, hsz, hct, hfr, hlo⟩ := hF
  intro hL h01 h02 H locs ls hR hS hl
  obtain rfl : len = 1 := by simpa [lm_lenok] using hlen
  replace hs := lm_pV_F hs
  obtain ⟨v, s1, rfl, hs⟩ := hs
  replace hs := lm_if_B hs
  rcases hs with ⟨hc, hs⟩ | ⟨hc, hs⟩
  · exact lv_dup2_2 hx hb hdg (by rw [lm_v_cat]; exact hc) (hs.2 hL h01 h02 H locs ls hR hS hl)
  · replace hs := lm_pV_F hs
    obtain ⟨u, s2, rfl, hs⟩ := hs
    replace hs := lm_if_F hs
    obtain ⟨hc2, hs⟩ := hs
    have hc1 : v.category = 1 := by
      rcases lv_cat v with g | g
      · exact g
      · exact absurd g hc
    exact lv_dup2_11 hx hb hdg (by rw [lm_v_cat]; exact hc1) (by rw [lm_v_cat]; exact hc2) (hs.2 hL h01 h02 H locs ls hR hS hl)

theorem lm_st_ifCond {h : lm_H} {len pc : Nat} {L : lm_L} {st : List Value} {rty : Option FieldType} {RT : Option Value → Prop} {CL : Nat → List Value → List Value → Prop} {cc : ClassFile.Cond} {off : Int} (hF : lm_F p R s m args meth c D base pre cs sL xs M d h0) (hdg : decode (lm_cs.getD M ⟨#[]⟩) pc = .ok (.ifCond cc off, len)) (hlen : lm_lenok (.ifCond cc off, len) = true)
    (hs : lm_stepK (lm_ct M) (lm_sh h) (lm_r h) (lm_own.getD M 0) rty (.ifCond cc off) len pc L st h False (fun pc' L' st' h' => lm_rm R h0 h' ∧ lm_G p l e R s m args below meth c D base pre cs sL xs (lm_ml.getD M 0) h0 Q pc' L' st' h') RT CL) :
    lm_G p l e R s m args below meth c D base pre cs sL xs (lm_ml.getD M 0) h0 Q pc L st h := by
  obtain ⟨hx, hb, hml, hown, hts, hE, hsz, hct, hfr, hlo⟩ := hF
  intro hL h01 h02 H locs ls hR hS hl
  obtain rfl : len = 3 := by simpa [lm_lenok] using hlen
  simp only [lm_stepK] at hs
  replace hs := lm_pI_F hs
  obtain ⟨x, s1, rfl, hs⟩ := hs
  try dsimp only at hs
  replace hs := lm_tg_F hs
  obtain ⟨t, ht, hs⟩ := hs
  cases cc with
  | eq =>
    replace hs := lm_if_B hs
    rcases hs with ⟨hc, hs⟩ | ⟨hc, hs⟩
    · exact lv_if_eq hx hb hdg ht (fun _ => hs.2 hL h01 h02 H locs ls hR hS hl) (fun h9 => absurd hc h9)
    · exact lv_if_eq hx hb hdg ht (fun h9 => absurd h9 hc) (fun _ => hs.2 hL h01 h02 H locs ls hR hS hl)
  | ne =>
    replace hs := lm_if_B hs
    rcases hs with ⟨hc, hs⟩ | ⟨hc, hs⟩
    · exact lv_if_ne hx hb hdg ht (fun h9 => absurd hc h9) (fun _ => hs.2 hL h01 h02 H locs ls hR hS hl)
    · exact lv_if_ne hx hb hdg ht (fun _ => hs.2 hL h01 h02 H locs ls hR hS hl) (fun h9 => absurd h9 hc)
  | lt =>
    replace hs := lm_if_B hs
    rcases hs with ⟨hc, hs⟩ | ⟨hc, hs⟩
    · exact lv_if_lt hx hb hdg ht (fun _ => hs.2 hL h01 h02 H locs ls hR hS hl) (fun h9 => absurd hc h9)
    · exact lv_if_lt hx hb hdg ht (fun h9 => absurd h9 hc) (fun _ => hs.2 hL h01 h02 H locs ls hR hS hl)
  | ge =>
    replace hs := lm_if_B hs
    rcases hs with ⟨hc, hs⟩ | ⟨hc, hs⟩
    · exact lv_if_ge hx hb hdg ht (fun h9 => absurd hc (Int32.not_lt.mpr h9)) (fun _ => hs.2 hL h01 h02 H locs ls hR hS hl)
    · exact lv_if_ge hx hb hdg ht (fun _ => hs.2 hL h01 h02 H locs ls hR hS hl) (fun h9 => absurd (Int32.not_lt.mp hc) h9)
  | gt =>
    replace hs := lm_if_B hs
    rcases hs with ⟨hc, hs⟩ | ⟨hc, hs⟩
    · exact lv_if_gt hx hb hdg ht (fun _ => hs.2 hL h01 h02 H locs ls hR hS hl) (fun h9 => absurd hc h9)
    · exact lv_if_gt hx hb hdg ht (fun h9 => absurd h9 hc) (fun _ => hs.2 hL h01 h02 H locs ls hR hS hl)
  | le =>
    replace hs := lm_if_B hs
    rcases hs with ⟨hc, hs⟩ | ⟨hc, hs⟩
    · exact lv_if_le hx hb hdg ht (fun h9 => absurd hc (Int32.not_lt.mpr h9)) (fun _ => hs.2 hL h01 h02 H locs ls hR hS hl)
    · exact lv_if_le hx hb hdg ht (fun _ => hs.2 hL h01 h02 H locs ls hR hS hl) (fun h9 => absurd (Int32.not_lt.mp hc) h9)

theorem lm_st_if_icmp {h : lm_H} {len pc : Nat} {L : lm_L} {st : List Value} {rty : Option FieldType} {RT : Option Value → Prop} {CL : Nat → List Value → List Value → Prop} {cc : ClassFile.Cond} {off : Int} (hF : lm_F p R s m args meth c D base pre cs sL xs M d h0) (hdg : decode (lm_cs.getD M ⟨#[]⟩) pc = .ok (.if_icmp cc off, len)) (hlen : lm_lenok (.if_icmp cc off, len) = true)
    (hs : lm_stepK (lm_ct M) (lm_sh h) (lm_r h) (lm_own.getD M 0) rty (.if_icmp cc off) len pc L st h False (fun pc' L' st' h' => lm_rm R h0 h' ∧ lm_G p l e R s m args below meth c D base pre cs sL xs (lm_ml.getD M 0) h0 Q pc' L' st' h') RT CL) :
    lm_G p l e R s m args below meth c D base pre cs sL xs (lm_ml.getD M 0) h0 Q pc L st h := by
  obtain ⟨hx, hb, hml, hown, hts, hE, hsz, hct, hfr, hlo⟩ := hF
  intro hL h01 h02 H locs ls hR hS hl
  obtain rfl : len = 3 := by simpa [lm_lenok] using hlen
  simp only [lm_stepK] at hs
  replace hs := lm_pI_F hs
  obtain ⟨y, s1, rfl, hs⟩ := hs
  replace hs := lm_pI_F hs
  obtain ⟨x, s2, rfl, hs⟩ := hs
  try dsimp only at hs
  replace hs := lm_tg_F hs
  obtain ⟨t, ht, hs⟩ := hs
  cases cc with
  | eq =>
    replace hs := lm_if_B hs
    rcases hs with ⟨hc, hs⟩ | ⟨hc, hs⟩
    · exact lv_icmp_eq hx hb hdg ht (fun _ => hs.2 hL h01 h02 H locs ls hR hS hl) (fun h9 => absurd hc h9)
    · exact lv_icmp_eq hx hb hdg ht (fun h9 => absurd h9 hc) (fun _ => hs.2 hL h01 h02 H locs ls hR hS hl)
  | ne =>
    replace hs := lm_if_B hs
    rcases hs with ⟨hc, hs⟩ | ⟨hc, hs⟩
    · exact lv_icmp_ne hx hb hdg ht (fun h9 => absurd hc h9) (fun _ => hs.2 hL h01 h02 H locs ls hR hS hl)
    · exact lv_icmp_ne hx hb hdg ht (fun _ => hs.2 hL h01 h02 H locs ls hR hS hl) (fun h9 => absurd h9 hc)
  | lt =>
    replace hs := lm_if_B hs
    rcases hs with ⟨hc, hs⟩ | ⟨hc, hs⟩
    · exact lv_icmp_lt hx hb hdg ht (fun _ => hs.2 hL h01 h02 H locs ls hR hS hl) (fun h9 => absurd hc h9)
    · exact lv_icmp_lt hx hb hdg ht (fun h9 => absurd h9 hc) (fun _ => hs.2 hL h01 h02 H locs ls hR hS hl)
  | ge =>
    replace hs := lm_if_B hs
    rcases hs with ⟨hc, hs⟩ | ⟨hc, hs⟩
    · exact lv_icmp_ge hx hb hdg ht (fun h9 => absurd hc (Int32.not_lt.mpr h9)) (fun _ => hs.2 hL h01 h02 H locs ls hR hS hl)
    · exact lv_icmp_ge hx hb hdg ht (fun _ => hs.2 hL h01 h02 H locs ls hR hS hl) (fun h9 => absurd (Int32.not_lt.mp hc) h9)
  | gt =>
    replace hs := lm_if_B hs
    rcases hs with ⟨hc, hs⟩ | ⟨hc, hs⟩
    · exact lv_icmp_gt hx hb hdg ht (fun _ => hs.2 hL h01 h02 H locs ls hR hS hl) (fun h9 => absurd hc h9)
    · exact lv_icmp_gt hx hb hdg ht (fun h9 => absurd h9 hc) (fun _ => hs.2 hL h01 h02 H locs ls hR hS hl)
  | le =>
    replace hs := lm_if_B hs
    rcases hs with ⟨hc, hs⟩ | ⟨hc, hs⟩
    · exact lv_icmp_le hx hb hdg ht (fun h9 => absurd hc (Int32.not_lt.mpr h9)) (fun _ => hs.2 hL h01 h02 H locs ls hR hS hl)
    · exact lv_icmp_le hx hb hdg ht (fun _ => hs.2 hL h01 h02 H locs ls hR hS hl) (fun h9 => absurd (Int32.not_lt.mp hc) h9)

theorem lm_st_ifnull {h : lm_H} {len pc : Nat} {L : lm_L} {st : List Value} {rty : Option FieldType} {RT : Option Value → Prop} {CL : Nat → List Value → List Value → Prop} {off : Int} (hF : lm_F p R s m args meth c D base pre cs sL xs M d h0) (hdg : decode (lm_cs.getD M ⟨#[]⟩) pc = .ok (.ifnull off, len)) (hlen : lm_lenok (.ifnull off, len) = true)
    (hs : lm_stepK (lm_ct M) (lm_sh h) (lm_r h) (lm_own.getD M 0) rty (.ifnull off) len pc L st h False (fun pc' L' st' h' => lm_rm R h0 h' ∧ lm_G p l e R s m args below meth c D base pre cs sL xs (lm_ml.getD M 0) h0 Q pc' L' st' h') RT CL) :
    lm_G p l e R s m args below meth c D base pre cs sL xs (lm_ml.getD M 0) h0 Q pc L st h := by
  obtain ⟨hx, hb, hml, hown, hts, hE, hsz, hct, hfr, hlo⟩ := hF
  intro hL h01 h02 H locs ls hR hS hl
  obtain rfl : len = 3 := by simpa [lm_lenok] using hlen
  simp only [lm_stepK] at hs
  replace hs := lm_pA_F hs
  obtain ⟨x, s1, rfl, hs⟩ := hs
  replace hs := lm_tg_F hs
  obtain ⟨t, ht, hs⟩ := hs
  cases x with
  | none => exact lv_ifnullN hx hb hdg ht (hs.2 hL h01 h02 H locs ls hR hS hl)
  | some x => exact lv_ifnull hx hb hdg (hs.2 hL h01 h02 H locs ls hR hS hl)

theorem lm_st_ifnonnull {h : lm_H} {len pc : Nat} {L : lm_L} {st : List Value} {rty : Option FieldType} {RT : Option Value → Prop} {CL : Nat → List Value → List Value → Prop} {off : Int} (hF : lm_F p R s m args meth c D base pre cs sL xs M d h0) (hdg : decode (lm_cs.getD M ⟨#[]⟩) pc = .ok (.ifnonnull off, len)) (hlen : lm_lenok (.ifnonnull off, len) = true)
    (hs : lm_stepK (lm_ct M) (lm_sh h) (lm_r h) (lm_own.getD M 0) rty (.ifnonnull off) len pc L st h False (fun pc' L' st' h' => lm_rm R h0 h' ∧ lm_G p l e R s m args below meth c D base pre cs sL xs (lm_ml.getD M 0) h0 Q pc' L' st' h') RT CL) :
    lm_G p l e R s m args below meth c D base pre cs sL xs (lm_ml.getD M 0) h0 Q pc L st h := by
  obtain ⟨hx, hb, hml, hown, hts, hE, hsz, hct, hfr, hlo⟩ := hF
  intro hL h01 h02 H locs ls hR hS hl
  obtain rfl : len = 3 := by simpa [lm_lenok] using hlen
  simp only [lm_stepK] at hs
  replace hs := lm_pA_F hs
  obtain ⟨x, s1, rfl, hs⟩ := hs
  replace hs := lm_tg_F hs
  obtain ⟨t, ht, hs⟩ := hs
  cases x with
  | none => exact lv_ifnonnullN hx hb hdg (hs.2 hL h01 h02 H locs ls hR hS hl)
  | some x => exact lv_ifnonnull hx hb hdg ht (hs.2 hL h01 h02 H locs ls hR hS hl)

theorem lm_st_goto {h : lm_H} {len pc : Nat} {L : lm_L} {st : List Value} {rty : Option FieldType} {RT : Option Value → Prop} {CL : Nat → List Value → List Value → Prop} {off : Int} (hF : lm_F p R s m args meth c D base pre cs sL xs M d h0) (hdg : decode (lm_cs.getD M ⟨#[]⟩) pc = .ok (.goto off, len)) (hlen : lm_lenok (.goto off, len) = true)
    (hs : lm_stepK (lm_ct M) (lm_sh h) (lm_r h) (lm_own.getD M 0) rty (.goto off) len pc L st h False (fun pc' L' st' h' => lm_rm R h0 h' ∧ lm_G p l e R s m args below meth c D base pre cs sL xs (lm_ml.getD M 0) h0 Q pc' L' st' h') RT CL) :
    lm_G p l e R s m args below meth c D base pre cs sL xs (lm_ml.getD M 0) h0 Q pc L st h := by
  obtain ⟨hx, hb, hml, hown, hts, hE, hsz, hct, hfr, hlo⟩ := hF
  intro hL h01 h02 H locs ls hR hS hl
  obtain rfl : len = 3 := by simpa [lm_lenok] using hlen
  simp only [lm_stepK] at hs
  replace hs := lm_tg_F hs
  obtain ⟨t, ht, hs⟩ := hs
  exact lv_goto hx hb hdg ht (hs.2 hL h01 h02 H locs ls hR hS hl)

theorem lm_st_tableswitch {h : lm_H} {len pc : Nat} {L : lm_L} {st : List Value} {rty : Option FieldType} {RT : Option Value → Prop} {CL : Nat → List Value → List Value → Prop} {dflt lo hi : Int} {offs : Array Int} (hF : lm_F p R s m args meth c D base pre cs sL xs M d h0) (hdg : decode (lm_cs.getD M ⟨#[]⟩) pc = .ok (.tableswitch dflt lo hi offs, len)) (hlen : lm_lenok (.tableswitch dflt lo hi offs, len) = true)
    (hs : lm_stepK (lm_ct M) (lm_sh h) (lm_r h) (lm_own.getD M 0) rty (.tableswitch dflt lo hi offs) len pc L st h False (fun pc' L' st' h' => lm_rm R h0 h' ∧ lm_G p l e R s m args below meth c D base pre cs sL xs (lm_ml.getD M 0) h0 Q pc' L' st' h') RT CL) :
    lm_G p l e R s m args below meth c D base pre cs sL xs (lm_ml.getD M 0) h0 Q pc L st h := by
  obtain ⟨hx, hb, hml, hown, hts, hE, hsz, hct, hfr, hlo⟩ := hF
  intro hL h01 h02 H locs ls hR hS hl
  replace hs := lm_pI_F hs
  obtain ⟨x, s1, rfl, hs⟩ := hs
  replace hs := lm_if_F hs
  obtain ⟨⟨hr1, hr2, hr3⟩, hs⟩ := hs
  replace hs := lm_sw_F hs
  rcases hs with ⟨q, hq, hxq, hs⟩ | ⟨hno, hs⟩
  · obtain ⟨j, hj⟩ := List.getElem?_of_mem hq
    rw [List.getElem?_zip_eq_some, List.getElem?_map] at hj
    have hjl : j < offs.size := by
      apply Classical.byContradiction
      intro hn
      rw [List.getElem?_eq_none (by simp; omega)] at hj
      simp at hj
    rw [List.getElem?_range hjl, Option.map_some] at hj
    have e1 : lo + (j : Int) = q.1 := Option.some.inj hj.1
    have e2 : x.toInt = lo + (j : Int) := by rw [hxq, ← e1]; exact lm_ofInt_toInt (by omega) (by omega)
    replace hs := lm_tg_F hs
    obtain ⟨t, ht, hs⟩ := hs
    refine lv_tableIn hx hb hdg (by omega) (by omega) (off := q.2) ?_ ht (hs.2 hL h01 h02 H locs ls hR hS hl)
    rw [show (x.toInt - lo).toNat = j by omega, ← Array.getElem?_toList]
    exact hj.2
  · replace hs := lm_tg_F hs
    obtain ⟨t, ht, hs⟩ := hs
    refine lv_tableOut hx hb hdg ?_ ht (hs.2 hL h01 h02 H locs ls hR hS hl)
    apply Classical.byContradiction
    intro hn
    have h1 : lo ≤ x.toInt ∧ x.toInt ≤ hi := by omega
    have hjl : (x.toInt - lo).toNat < offs.size := by omega
    refine hno (lo + ((x.toInt - lo).toNat : Int), offs[(x.toInt - lo).toNat]) ?_ ?_
    · refine List.mem_of_getElem? (i := (x.toInt - lo).toNat) ?_
      rw [List.getElem?_zip_eq_some, List.getElem?_map, List.getElem?_range hjl]
      exact ⟨rfl, by rw [Array.getElem?_toList]; exact Array.getElem?_eq_getElem hjl⟩
    · show x = Int32.ofInt (lo + ((x.toInt - lo).toNat : Int))
      rw [show lo + ((x.toInt - lo).toNat : Int) = x.toInt by omega, Int32.ofInt_toInt]

theorem lm_st_lookupswitch {h : lm_H} {len pc : Nat} {L : lm_L} {st : List Value} {rty : Option FieldType} {RT : Option Value → Prop} {CL : Nat → List Value → List Value → Prop} {dflt : Int} {ps : Array (Int × Int)} (hF : lm_F p R s m args meth c D base pre cs sL xs M d h0) (hdg : decode (lm_cs.getD M ⟨#[]⟩) pc = .ok (.lookupswitch dflt ps, len)) (hlen : lm_lenok (.lookupswitch dflt ps, len) = true)
    (hs : lm_stepK (lm_ct M) (lm_sh h) (lm_r h) (lm_own.getD M 0) rty (.lookupswitch dflt ps) len pc L st h False (fun pc' L' st' h' => lm_rm R h0 h' ∧ lm_G p l e R s m args below meth c D base pre cs sL xs (lm_ml.getD M 0) h0 Q pc' L' st' h') RT CL) :
    lm_G p l e R s m args below meth c D base pre cs sL xs (lm_ml.getD M 0) h0 Q pc L st h := by
  obtain ⟨hx, hb, hml, hown, hts, hE, hsz, hct, hfr, hlo⟩ := hF
  intro hL h01 h02 H locs ls hR hS hl
  replace hs := lm_pI_F hs
  obtain ⟨x, s1, rfl, hs⟩ := hs
  replace hs := lm_if_F hs
  obtain ⟨⟨hr1, hr2⟩, hs⟩ := hs
  have hs := lm_sw_L hr2 hs
  replace hs := lm_tg_F hs
  obtain ⟨t, ht, hs⟩ := hs
  exact lv_lookup hx hb hdg hr1 rfl ht (hs.2 hL h01 h02 H locs ls hR hS hl)

end LmStep
