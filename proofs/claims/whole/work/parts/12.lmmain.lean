/-- the end of a method: which instruction answers what -/
def lm_ret (cc : ByteArray) (pc : Nat) (rty : Option FieldType) (v : Option Value) : Prop :=
  (v = none ∧ rty = none ∧ decode cc pc = .ok (.return_, 1)) ∨ (∃ (x : Int32) (ty : FieldType), v = some (.int x) ∧ rty = some ty ∧ narrow ty (.int x) = .int x ∧ decode cc pc = .ok (.ireturn, 1)) ∨
  (∃ x : Int64, v = some (.long x) ∧ rty = some .long ∧ decode cc pc = .ok (.lreturn, 1)) ∨ (∃ (x : Option Nat) (ty : FieldType), v = some (va_rf x) ∧ rty = some ty ∧ lm_fk ty = 2 ∧ decode cc pc = .ok (.areturn, 1))
section LmSim
variable {p : Program} {l : Launch} {e : Env} {R : Room} {s : State} {m : MethodId} {args : Array Value} {below : List Frame} {meth : Method} {c : Code} {D : va_G} {base : Nat} {pre : Nat → Nat} {cs : Nat → ClassId} {sL : Nat} {xs : Nat → Int32} {M d : Nat} {h0 : lm_H} {Q : State → Prop}
def lm_RT (p : Program) (l : Launch) (e : Env) (R : Room) (s : State) (m : MethodId) (args : Array Value) (below : List Frame) (meth : Method) (c : Code) (D : va_G) (base : Nat) (pre : Nat → Nat) (cs : Nat → ClassId) (sL : Nat) (xs : Nat → Int32) (M : Nat) (h0 : lm_H) (Q : State → Prop) (pc : Nat) (h : lm_H) (v : Option Value) : Prop :=
  ∀ (H : Heap) (locs : List Loc) (ls : Array Slot), lm_R D base pre cs sL xs h H → va_S (lm_A base) s.heap H locs → lm_ret (lm_cs.getD M ⟨#[]⟩) pc (lm_rs.getD M none) v → W p l e R s m args below meth c H locs (h.1.length - h0.1.length) (lm_sz h - lm_sz h0) Q (F0 m pc ls (v.toList.map (lm_v base pre)))
theorem lm_st {h : lm_H} {i : Instr} {len pc : Nat} {L : lm_L} {st : List Value} (hF : lm_F p R s m args meth c D base pre cs sL xs M d h0) (hdg : decode (lm_cs.getD M ⟨#[]⟩) pc = .ok (i, len)) (hlen : lm_lenok (i, len) = true)
    (hs : lm_stepK (lm_ct M) (lm_sh h) (lm_r h) (lm_own.getD M 0) (lm_rs.getD M none) i len pc L st h False (fun pc' L' st' h' => lm_rm R h0 h' ∧ lm_G p l e R s m args below meth c D base pre cs sL xs (lm_ml.getD M 0) h0 Q pc' L' st' h') (lm_RT p l e R s m args below meth c D base pre cs sL xs M h0 Q pc h) (lm_CL l R D base pre cs sL xs h0 d h (fun st' h' => lm_G p l e R s m args below meth c D base pre cs sL xs (lm_ml.getD M 0) h0 Q (pc + 3) L st' h'))) :
    lm_G p l e R s m args below meth c D base pre cs sL xs (lm_ml.getD M 0) h0 Q pc L st h := by
  cases i
  case aconst_null => exact lm_st_aconst_null hF hdg hlen hs
  case iconst => exact lm_st_iconst hF hdg hlen hs
  case bipush => exact lm_st_bipush hF hdg hlen hs
  case sipush => exact lm_st_sipush hF hdg hlen hs
  case lconst => exact lm_st_lconst hF hdg hlen hs
  case ldc => exact lm_st_ldc hF hdg hlen hs
  case ldc_w => exact lm_st_ldc_w hF hdg hlen hs
  case ldc2_w => exact lm_st_ldc2_w hF hdg hlen hs
  case getstatic => exact lm_st_getstatic hF hdg hlen hs
  case iload_n => exact lm_st_iload_n hF hdg hlen hs
  case iload => exact lm_st_iload hF hdg hlen hs
  case lload_n => exact lm_st_lload_n hF hdg hlen hs
  case lload => exact lm_st_lload hF hdg hlen hs
  case aload_n => exact lm_st_aload_n hF hdg hlen hs
  case aload => exact lm_st_aload hF hdg hlen hs
  case istore_n => exact lm_st_istore_n hF hdg hlen hs
  case istore => exact lm_st_istore hF hdg hlen hs
  case lstore_n => exact lm_st_lstore_n hF hdg hlen hs
  case lstore => exact lm_st_lstore hF hdg hlen hs
  case astore_n => exact lm_st_astore_n hF hdg hlen hs
  case astore => exact lm_st_astore hF hdg hlen hs
  case iinc => exact lm_st_iinc hF hdg hlen hs
  case iadd => exact lm_st_iadd hF hdg hlen hs
  case isub => exact lm_st_isub hF hdg hlen hs
  case imul => exact lm_st_imul hF hdg hlen hs
  case iand => exact lm_st_iand hF hdg hlen hs
  case ior => exact lm_st_ior hF hdg hlen hs
  case ixor => exact lm_st_ixor hF hdg hlen hs
  case ishl => exact lm_st_ishl hF hdg hlen hs
  case ishr => exact lm_st_ishr hF hdg hlen hs
  case iushr => exact lm_st_iushr hF hdg hlen hs
  case idiv => exact lm_st_idiv hF hdg hlen hs
  case irem => exact lm_st_irem hF hdg hlen hs
  case ladd => exact lm_st_ladd hF hdg hlen hs
  case lsub => exact lm_st_lsub hF hdg hlen hs
  case lmul => exact lm_st_lmul hF hdg hlen hs
  case land => exact lm_st_land hF hdg hlen hs
  case lor => exact lm_st_lor hF hdg hlen hs
  case ldiv => exact lm_st_ldiv hF hdg hlen hs
  case lrem => exact lm_st_lrem hF hdg hlen hs
  case lshl => exact lm_st_lshl hF hdg hlen hs
  case lshr => exact lm_st_lshr hF hdg hlen hs
  case lushr => exact lm_st_lushr hF hdg hlen hs
  case lcmp => exact lm_st_lcmp hF hdg hlen hs
  case ineg => exact lm_st_ineg hF hdg hlen hs
  case i2l => exact lm_st_i2l hF hdg hlen hs
  case l2i => exact lm_st_l2i hF hdg hlen hs
  case i2b => exact lm_st_i2b hF hdg hlen hs
  case i2c => exact lm_st_i2c hF hdg hlen hs
  case dup => exact lm_st_dup hF hdg hlen hs
  case pop => exact lm_st_pop hF hdg hlen hs
  case dup2 => exact lm_st_dup2 hF hdg hlen hs
  case ifCond => exact lm_st_ifCond hF hdg hlen hs
  case if_icmp => exact lm_st_if_icmp hF hdg hlen hs
  case ifnull => exact lm_st_ifnull hF hdg hlen hs
  case ifnonnull => exact lm_st_ifnonnull hF hdg hlen hs
  case goto => exact lm_st_goto hF hdg hlen hs
  case tableswitch => exact lm_st_tableswitch hF hdg hlen hs
  case lookupswitch => exact lm_st_lookupswitch hF hdg hlen hs
  case getfield => exact lm_st_getfield hF hdg hlen hs
  case putfield => exact lm_st_putfield hF hdg hlen hs
  case iaload => exact lm_st_iaload hF hdg hlen hs
  case baload => exact lm_st_baload hF hdg hlen hs
  case laload => exact lm_st_laload hF hdg hlen hs
  case aaload => exact lm_st_aaload hF hdg hlen hs
  case iastore => exact lm_st_iastore hF hdg hlen hs
  case bastore => exact lm_st_bastore hF hdg hlen hs
  case lastore => exact lm_st_lastore hF hdg hlen hs
  case aastore => exact lm_st_aastore hF hdg hlen hs
  case arraylength => exact lm_st_arraylength hF hdg hlen hs
  case new => exact lm_st_new hF hdg hlen hs
  case newarray => exact lm_st_newarray hF hdg hlen hs
  case anewarray => exact lm_st_anewarray hF hdg hlen hs
  case invokestatic => exact lm_st_invokestatic hF hdg hlen hs
  case invokespecial => exact lm_st_invokespecial hF hdg hlen hs
  case invokevirtual => exact lm_st_invokevirtual hF hdg hlen hs
  case ireturn =>
    obtain rfl : len = 1 := by simpa [lm_lenok] using hlen
    replace hs := lm_pI_F hs
    obtain ⟨x, s1, rfl, hs⟩ := hs
    replace hs := lm_0_F hs
    obtain ⟨rfl, hs⟩ := hs
    replace hs := lm_o_F hs
    obtain ⟨ty, hty, hs⟩ := hs
    replace hs := lm_nar_F hs
    obtain ⟨hn, hs⟩ := hs
    intro hL h01 h02 H locs ls hR hS hl
    exact hs H locs ls hR hS (Or.inr (Or.inl ⟨x, ty, rfl, hty, lm_narR hn, hdg⟩))
  case lreturn =>
    obtain rfl : len = 1 := by simpa [lm_lenok] using hlen
    replace hs := lm_pL_F hs
    obtain ⟨x, s1, rfl, hs⟩ := hs
    replace hs := lm_0_F hs
    obtain ⟨rfl, hs⟩ := hs
    replace hs := lm_o_F hs
    obtain ⟨ty, hty, hs⟩ := hs
    replace hs := lm_if_F hs
    obtain ⟨hn, hs⟩ := hs
    intro hL h01 h02 H locs ls hR hS hl
    exact hs H locs ls hR hS (Or.inr (Or.inr (Or.inl ⟨x, rfl, by rw [hty, lm_fkL hn], hdg⟩)))
  case areturn =>
    obtain rfl : len = 1 := by simpa [lm_lenok] using hlen
    simp only [lm_stepK] at hs
    replace hs := lm_pA_F hs
    obtain ⟨x, s1, rfl, hs⟩ := hs
    replace hs := lm_0_F hs
    obtain ⟨rfl, hs⟩ := hs
    replace hs := lm_o_F hs
    obtain ⟨ty, hty, hs⟩ := hs
    replace hs := lm_if_F hs
    obtain ⟨hn, hs⟩ := hs
    intro hL h01 h02 H locs ls hR hS hl
    exact hs H locs ls hR hS (Or.inr (Or.inr (Or.inr ⟨x, ty, rfl, hty, hn, hdg⟩)))
  case return_ =>
    obtain rfl : len = 1 := by simpa [lm_lenok] using hlen
    replace hs := lm_0_F hs
    obtain ⟨rfl, hs⟩ := hs
    replace hs := lm_o_B hs
    rcases hs with ⟨hty, hs⟩ | ⟨y, -, hs⟩
    · intro hL h01 h02 H locs ls hR hS hl
      exact hs H locs ls hR hS (Or.inl ⟨rfl, hty, hdg⟩)
    · exact hs.elim
  all_goals exact hs.elim
end LmSim
section LmGrow
theorem lm_pI_T {st : List Value} {k : Int32 → List Value → Prop} (h : ∀ x s, k x s) : lm_pI st True k := by
  cases st with
  | nil => trivial
  | cons v s => cases v <;> first | trivial | exact h _ _
theorem lm_pL_T {st : List Value} {k : Int64 → List Value → Prop} (h : ∀ x s, k x s) : lm_pL st True k := by
  cases st with
  | nil => trivial
  | cons v s => cases v <;> first | trivial | exact h _ _
theorem lm_pR_T {st : List Value} {k : Nat → List Value → Prop} (h : ∀ x s, k x s) : lm_pR st True k := by
  cases st with
  | nil => trivial
  | cons v s => cases v <;> first | trivial | exact h _ _
theorem lm_pA_T {st : List Value} {k : Option Nat → List Value → Prop} (h : ∀ x s, k x s) : lm_pA st True k := by
  cases st with
  | nil => trivial
  | cons v s => cases v <;> first | trivial | exact h _ _
theorem lm_pV_T {st : List Value} {k : Value → List Value → Prop} (h : ∀ x s, k x s) : lm_pV st True k := by
  cases st with
  | nil => trivial
  | cons v s => exact h _ _
theorem lm_0_T {st : List Value} {k : Prop} (h : k) : lm_0 st True k := by
  cases st with
  | nil => exact h
  | cons v s => trivial
theorem lm_o_T {γ : Type} {x : Option γ} {a : Prop} {k : γ → Prop} (ha : a) (h : ∀ y, k y) : lm_o x a k := by
  cases x with
  | none => exact ha
  | some y => exact h y
theorem lm_if_TT {c : Prop} [Decidable c] {a b : Prop} (ha : a) (hb : b) : if c then a else b := by
  by_cases h : c
  · rw [if_pos h]; exact ha
  · rw [if_neg h]; exact hb
theorem lm_in_T {x : Int32} {n : Nat} {k : Prop} (h : k) : lm_in x n True k := lm_if_TT trivial h
theorem lm_br_T {c : ClassFile.Cond} {x y : Int32} {a b : Prop} (ha : a) (hb : b) : lm_br c x y a b := by cases c <;> first | exact lm_if_TT ha hb | exact lm_if_TT hb ha
theorem lm_tg_T {pc : Nat} {off : Int} {k : Nat → Prop} (h : ∀ t, k t) : lm_tg pc off True k := lm_if_TT (h _) trivial
theorem lm_nar_T {ty : FieldType} {x : Int32} {k : Prop} (h : k) : lm_nar ty x True k := by cases ty <;> first | exact h | exact lm_if_TT h trivial
theorem lm_sw_T {x : Int32} {cs : List (Int × Int)} {d : Int} {k : Int → Prop} (h : ∀ y, k y) : lm_sw x cs d k := by
  induction cs with
  | nil => exact h _
  | cons c cs ih => exact lm_if_TT (h _) ih
def lm_gr (h h' : lm_H) : Prop := h.1.length ≤ h'.1.length ∧ lm_sz h ≤ lm_sz h'
theorem lm_gr_new (h : lm_H) (x : Nat × Nat) : lm_gr h (lm_new h x) := ⟨by show _ ≤ (h.1 ++ [x]).length; simp, by rw [lm_sz_new]; omega⟩
set_option maxHeartbeats 4000000 in
theorem lm_step_gr (ct : Bool) (sh : Nat → Option (Nat × Nat)) (rf : Nat → Nat → Option Nat) (o : Nat) (rty : Option FieldType) (i : Instr) (len : Nat) (pc : Nat) (L : lm_L) (st : List Value) (h : lm_H) :
    lm_stepK ct sh rf o rty i len pc L st h True (fun _ _ _ h' => lm_gr h h') (fun _ => True) (fun _ _ _ => True) := by
  have h0 : lm_gr h h := ⟨Nat.le_refl _, Nat.le_refl _⟩
  cases i <;> (simp only [lm_stepK]; repeat' (first | trivial | exact h0 | exact lm_gr_new _ _ | refine lm_pI_T fun _ _ => ?_ | refine lm_pL_T fun _ _ => ?_ | refine lm_pR_T fun _ _ => ?_ | refine lm_pA_T fun _ _ => ?_ | refine lm_pV_T fun _ _ => ?_ | refine lm_0_T ?_ | refine lm_in_T ?_ | refine lm_tg_T fun _ => ?_ | refine lm_nar_T ?_ | refine lm_sw_T fun _ => ?_ | refine lm_br_T ?_ ?_ | refine lm_o_T ?_ fun _ => ?_ | refine lm_if_TT ?_ ?_))
theorem lm_run_gr : ∀ (n : Nat) {d M pc : Nat} {L : lm_L} {st : List Value} {h : lm_H} {v : Option Value} {h' : lm_H}, lm_run n d M pc L st h = some (v, h') → lm_gr h h' := by
  intro n
  induction n with
  | zero => intro d M pc L st h v h' hr; simp [lm_run] at hr
  | succ n ih =>
    intro d M pc L st h v h' hr
    rw [lm_run] at hr
    cases hf : lm_f (lm_tabs.getD M []) pc with
    | none => rw [hf] at hr; simp [lm_o] at hr
    | some e =>
      rw [hf] at hr
      simp only [lm_o] at hr
      have hg := lm_step_gr (lm_ct M) (lm_sh h) (lm_r h) (lm_own.getD M 0) (lm_rs.getD M none) e.1 e.2 pc L st h
      rw [lm_stepK_elim] at hr hg
      cases hs : lm_step (lm_ct M) (lm_sh h) (lm_r h) (lm_own.getD M 0) (lm_rs.getD M none) e.1 e.2 pc L st h with
      | none => rw [hs] at hr; simp [lm_elim] at hr
      | some x =>
        rw [hs] at hr hg
        rcases x with ⟨a, b, c, e'⟩ | w | ⟨a, b, c⟩
        · simp only [lm_elim] at hr hg
          have h2 := ih hr
          exact ⟨Nat.le_trans hg.1 h2.1, Nat.le_trans hg.2 h2.2⟩
        · simp only [lm_elim, Option.some.injEq, Prod.mk.injEq] at hr
          rw [← hr.2]
          exact ⟨Nat.le_refl _, Nat.le_refl _⟩
        · simp only [lm_elim] at hr
          cases d with
          | zero => simp at hr
          | succ d =>
            simp only at hr
            by_cases hen : (lm_ent b).length ≤ lm_ml.getD a 0
            case neg => rw [if_neg hen] at hr; cases hr
            rw [if_pos hen] at hr
            cases hc : lm_run n d a 0 (lm_entry (lm_ml.getD a 0) b) [] h with
            | none => rw [hc] at hr; simp [lm_o] at hr
            | some q =>
              rw [hc] at hr
              simp only [lm_o] at hr
              have h1 := ih hc
              have h2 := ih hr
              exact ⟨Nat.le_trans h1.1 h2.1, Nat.le_trans h1.2 h2.2⟩
end LmGrow
theorem lm_args_at {base : Nat} {pre : Nat → Nat} : ∀ (av : List Value) (o i : Nat) (v : Value), (lm_ent av).getD i none = some v → (o + i, lm_v base pre v) ∈ lv_args o (av.map (lm_v base pre)) := by
  intro av
  induction av with
  | nil => intro o i v h; simp [lm_ent] at h
  | cons a av ih =>
    intro o i v h
    have he : lm_ent (a :: av) = (if a.category = 2 then [some a, none] else [some a]) ++ lm_ent av := by simp [lm_ent]
    rw [he] at h
    rw [List.map_cons]
    unfold lv_args
    rw [lm_v_cat]
    by_cases hc : a.category = 2
    · rw [if_pos hc] at h ⊢
      match i, h with
      | 0, h =>
        have h : some a = some v := h
        cases h
        exact List.mem_cons_self
      | 1, h =>
        have h : (none : Option Value) = some v := h
        cases h
      | i + 2, h =>
        have h : (lm_ent av).getD i none = some v := h
        have := ih (o + 2) i v h
        rw [show o + 2 + i = o + (i + 2) by omega] at this
        exact List.mem_cons_of_mem _ this
    · rw [if_neg hc] at h ⊢
      match i, h with
      | 0, h =>
        have h : some a = some v := h
        cases h
        exact List.mem_cons_self
      | i + 1, h =>
        have h : (lm_ent av).getD i none = some v := h
        have := ih (o + 1) i v h
        rw [show o + 1 + i = o + (i + 1) by omega] at this
        exact List.mem_cons_of_mem _ this
theorem lm_ent_sl (base : Nat) (pre : Nat → Nat) (av : List Value) : (lg_sl (av.map (lm_v base pre))).length = (lm_ent av).length := by
  unfold lg_sl lm_ent
  induction av with
  | nil => rfl
  | cons a av ih =>
    rw [List.map_cons, List.flatMap_cons, List.flatMap_cons, List.length_append, List.length_append, ih, lm_v_cat]
    split <;> rfl
theorem lm_entry_has {base : Nat} {pre : Nat → Nat} {av : List Value} {n : Nat} (h : (lm_ent av).length ≤ n) : lv_has ((lg_sl (av.map (lm_v base pre)) ++ List.replicate (n - (lg_sl (av.map (lm_v base pre))).length) Slot.unset).toArray) n (lm_prs base pre (lm_entry n av)) := by
  refine lm_has_of (lv_entry (av.map (lm_v base pre)) (n := n) (by rw [lm_ent_sl]; exact h)) (fun q hq => ?_)
  obtain ⟨v, h1, h2⟩ := lm_prs_mem.mp hq
  have h3 : (lm_ent av).getD q.1 none = some v := by
    unfold lm_entry at h1
    rw [List.getD_eq_getElem?_getD] at h1 ⊢
    by_cases hl : q.1 < (lm_ent av).length
    · rw [List.getElem?_append_left hl] at h1
      exact h1
    · rw [List.getElem?_append_right (by omega)] at h1
      rw [List.getElem?_replicate] at h1
      split at h1 <;> simp at h1
  have h4 := lm_args_at (base := base) (pre := pre) av 0 q.1 v h3
  rw [Nat.zero_add, ← h2] at h4
  exact h4
theorem lm_entry_len {av : List Value} {n : Nat} (h : (lm_ent av).length ≤ n) : (lm_entry n av).length = n := by
  unfold lm_entry
  rw [List.length_append, List.length_replicate]
  omega
theorem lm_met {l : Launch} {D : va_G} {base : Nat} {pre : Nat → Nat} {cs : Nat → ClassId} {sL : Nat} {xs : Nat → Int32} {d j : Nat} {av : List Value} {h h1 : lm_H} {w : Option Value} (hy : ∃ y, lm_as[j]? = some y) (hj : j ≠ 278) (hen : (lm_ent av).length ≤ lm_ml.getD j 0)
    (IH : ∀ (p : Program) (e : Env) (R : Room) (s : State) (m : MethodId) (args : Array Value) (below : List Frame) (meth : Method) (c : Code) (h0 : lm_H) (Q : State → Prop), lm_F p R s m args meth c D base pre cs sL xs j d h0 → lm_rm R h0 h1 → (∀ pcR, lm_RT p l e R s m args below meth c D base pre cs sL xs j h0 Q pcR h1 w) → lm_G p l e R s m args below meth c D base pre cs sL xs (lm_ml.getD j 0) h0 Q 0 (lm_entry (lm_ml.getD j 0) av) [] h) : lm_M l D base pre cs sL xs d j av h w h1 := by
  obtain ⟨y, hy⟩ := hy
  obtain ⟨g1, g2, g3, g4, g5, g6, g7, g8, g9, g10, g11, g12⟩ := lm_okY_spec hy hj
  unfold lm_M
  refine Met.ofW (cc := lm_cs.getD j ⟨#[]⟩) (maxL := lm_ml.getD j 0) (ret := lm_rs.getD j none) g9 rfl ?_
  intro p e s m args below meth c s₁ B hml hv
  obtain ⟨rfl, hE, hR, hz, hts0⟩ := hv
  have hts : ∀ w ∈ lm_T, w.before (av.map (lm_v base pre)).toArray s = true := lm_words (State.WarmedH.refl s) hts0
  have hown : s.vm.findClass (lm_Rs.getD (lm_own.getD j 0) "") = some m.cls := by
    rw [← g8]
    exact findClass_of_methodNamed B.named
  have hname := (name_of_methodNamed B.named B.method).1
  have hct : lm_ct j = true → meth.name = "<init>" := by
    intro hc
    unfold lm_ct at hc
    have hc := of_decide_eq_true hc
    rw [List.getD_eq_getElem?_getD, hy] at hc
    exact hname.trans (g10.mp hc)
  have hG := IH p e (lm_room d (h1.1.length - h.1.length) (lm_sz h1 - lm_sz h)) s m _ below meth c h (MQ below (lm_Qc D base pre cs sL xs w h1) (av.map (lm_v base pre)).toArray s (h1.1.length - h.1.length) (lm_sz h1 - lm_sz h) (lm_A base)) ⟨B.exec, B.bytes, hml, hown, hts, hE, hz, hct, Nat.le_refl _, Nat.le_refl _⟩ ⟨Nat.le_refl _, Nat.le_refl _⟩ ?_ (lm_entry_len hen) (Nat.le_refl _) (Nat.le_refl _) s.heap [] _ hR va_S.rf (lm_entry_has hen)
  · rw [Nat.sub_self, Nat.sub_self] at hG
    rw [lg_entry_eq]
    exact hG
  · intro pcR H locs ls hR' hS hret
    have hlocks := B.notSynchronized
    rcases hret with ⟨rfl, hrt, hdc⟩ | ⟨x, ty, rfl, hrt, hn, hdc⟩ | ⟨x, rfl, hrt, hdc⟩ | ⟨x, ty, rfl, hrt, hk, hdc⟩
    · exact W.vret B.exec B.bytes (by rw [B.returns]; exact hrt) (fun t ht hW => ⟨rfl, by rw [ht]; exact hR', hS.F ht⟩) hS.2.2 hdc hlocks
    · exact W.zret B.exec B.bytes (by rw [B.returns]; exact hrt) hn (fun t ht hW => ⟨rfl, by rw [ht]; exact hR', hS.F ht⟩) hS.2.2 hdc hlocks
    · exact W.lret B.exec B.bytes (by rw [B.returns]; exact hrt) (fun t ht hW => ⟨rfl, by rw [ht]; exact hR', hS.F ht⟩) hS.2.2 hdc hlocks
    · have hv : lm_v base pre (va_rf x) = .null ∨ ∃ a, lm_v base pre (va_rf x) = .ref a := by
        cases x with
        | none => exact Or.inl rfl
        | some x => exact Or.inr ⟨_, rfl⟩
      have hot : (∃ n, ty = .object n) ∨ ∃ t, ty = .array t := by
        cases ty <;> first | (cases hk; done) | exact Or.inl ⟨_, rfl⟩ | exact Or.inr ⟨_, rfl⟩
      exact W.aret B.exec B.bytes (by rw [B.returns]; exact hrt) hot hv (fun t ht hW => ⟨rfl, by rw [ht]; exact hR', hS.F ht⟩) hS.2.2 hdc hlocks
/-- THE SIMULATION: where the light machine comes to its end, the machine does -/
theorem lm_sim (l : Launch) (D : va_G) (base : Nat) (pre : Nat → Nat) (cs : Nat → ClassId) (sL : Nat) (xs : Nat → Int32) : ∀ (n d M pc : Nat) (L : lm_L) (st : List Value) (h : lm_H) (v : Option Value) (h' : lm_H), lm_run n d M pc L st h = some (v, h') →
    ∀ (p : Program) (e : Env) (R : Room) (s : State) (m : MethodId) (args : Array Value) (below : List Frame) (meth : Method) (c : Code) (h0 : lm_H) (Q : State → Prop), lm_F p R s m args meth c D base pre cs sL xs M d h0 → lm_rm R h0 h' → (∀ pcR, lm_RT p l e R s m args below meth c D base pre cs sL xs M h0 Q pcR h' v) → lm_G p l e R s m args below meth c D base pre cs sL xs (lm_ml.getD M 0) h0 Q pc L st h := by
  intro n
  induction n with
  | zero => intro d M pc L st h v h' hr; simp [lm_run] at hr
  | succ n ih =>
    intro d M pc L st h v h' hr p e R s m args below meth c h0 Q hF hrm hK
    rw [lm_run] at hr
    cases hf : lm_f (lm_tabs.getD M []) pc with
    | none => rw [hf] at hr; simp [lm_o] at hr
    | some e1 =>
      rw [hf] at hr
      simp only [lm_o] at hr
      obtain ⟨hdec, hlen⟩ := lm_fetch hf
      refine lm_st (i := e1.1) (len := e1.2) hF hdec hlen ?_
      rw [lm_stepK_elim] at hr ⊢
      cases hs : lm_step (lm_ct M) (lm_sh h) (lm_r h) (lm_own.getD M 0) (lm_rs.getD M none) e1.1 e1.2 pc L st h with
      | none => rw [hs] at hr; simp [lm_elim] at hr
      | some x =>
        rw [hs] at hr
        rcases x with ⟨a, b, cc, h1⟩ | w | ⟨j, av, rest⟩
        · simp only [lm_elim] at hr ⊢
          have hg := lm_run_gr n hr
          exact ⟨⟨by have := hg.1; have := hrm.1; omega, by have := hg.2; have := hrm.2; omega⟩, ih d M a b cc h1 v h' hr p e R s m args below meth c h0 Q hF hrm hK⟩
        · simp only [lm_elim, Option.some.injEq, Prod.mk.injEq] at hr ⊢
          obtain ⟨rfl, rfl⟩ := hr
          exact hK pc
        · simp only [lm_elim] at hr ⊢
          cases d with
          | zero => simp at hr
          | succ d =>
            simp only at hr
            by_cases hen : (lm_ent av).length ≤ lm_ml.getD j 0
            case neg => rw [if_neg hen] at hr; cases hr
            rw [if_pos hen] at hr
            cases hc : lm_run n d j 0 (lm_entry (lm_ml.getD j 0) av) [] h with
            | none => rw [hc] at hr; simp [lm_o] at hr
            | some q =>
              rw [hc] at hr
              simp only [lm_o] at hr
              obtain ⟨w, h1⟩ := q
              have hg1 : lm_gr h h1 := lm_run_gr n hc
              have hg2 : lm_gr h1 h' := lm_run_gr n hr
              refine ⟨d, w, h1, rfl, ?_, ⟨by have := hg2.1; have := hrm.1; omega, by have := hg2.2; have := hrm.2; omega⟩, hg1.1, hg1.2, ih (d + 1) M (pc + 3) L (w.toList ++ rest) h1 v h' hr p e R s m args below meth c h0 Q hF hrm hK⟩
              exact fun hy hj => lm_met hy hj hen (fun p e R s m args below meth c h0 Q hF hrm hK => ih d j 0 _ [] h w h1 hc p e R s m args below meth c h0 Q hF hrm hK)
