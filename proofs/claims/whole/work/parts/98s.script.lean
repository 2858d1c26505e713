/-! No step changes the script's array. -/
def scp (h h' : lm_H) : Prop := lm_i h' 1000000 = lm_i h 1000000 ∧ lm_r h' 1000000 = lm_r h 1000000
theorem scp_tr {h h1 h2 : lm_H} (a : scp h h1) (b : scp h1 h2) : scp h h2 := ⟨by rw [b.1, a.1], by rw [b.2, a.2]⟩
theorem ne7 {h : lm_H} {a : Nat} {x : Nat × Nat} (hx : lm_sh h a = some x) (h7 : ¬ x.1 = 7) : ¬ 1000000 = a := by
  intro q
  subst q
  unfold lm_sh lm_pre at hx
  rw [if_neg (by decide), if_pos rfl] at hx
  have := Option.some.inj hx
  rw [← this] at h7
  exact h7 rfl
theorem scp_si {h : lm_H} {a k : Nat} {v : Int32} (ha : ¬ 1000000 = a) : scp h (lm_si h a k v) := ⟨by funext j; rw [pi_si, if_neg ha], by funext j; rw [pr_si]⟩
theorem scp_sl {h : lm_H} {a k : Nat} {v : Int64} : scp h (lm_sl h a k v) := ⟨by funext j; rw [pi_sl], by funext j; rw [pr_sl]⟩
theorem scp_sr {h : lm_H} {a k : Nat} {v : Option Nat} (ha : ¬ 1000000 = a) : scp h (lm_sr h a k v) := ⟨by funext j; rw [pi_sr], by funext j; rw [pr_sr, if_neg ha]⟩
theorem scp_row {h : lm_H} {a : Nat} {f : Nat → Int32} (ha : ¬ 1000000 = a) : scp h (lm_row h a f) := ⟨by funext j; rw [pi_row, if_neg ha], by funext j; rw [pr_row]⟩
theorem scp_new {h : lm_H} {x : Nat × Nat} (ha : h.1.length < 1000000) : scp h (lm_new h x) := by
  constructor
  · funext j
    show lm_w h.2.1 h.1.length (fun _ => 0) 1000000 j = _
    unfold lm_w
    rw [if_neg (by omega)]
    rfl
  · funext j
    show lm_w h.2.2.2 h.1.length (fun _ => none) 1000000 j = _
    unfold lm_w
    rw [if_neg (by omega)]
    rfl
theorem lm_if_TB {c : Prop} [Decidable c] {a b : Prop} (ha : c → a) (hb : ¬ c → b) : if c then a else b := by
  by_cases h : c
  · rw [if_pos h]; exact ha h
  · rw [if_neg h]; exact hb h
set_option maxHeartbeats 4000000 in
theorem lm_step_sc (ct : Bool) (o : Nat) (rty : Option FieldType) (i : Instr) (len : Nat) (pc : Nat) (L : lm_L) (st : List Value) (h : lm_H) :
    lm_stepK ct (lm_sh h) (lm_r h) o rty i len pc L st h True (fun _ _ _ h' => scp h h') (fun _ => True) (fun _ _ _ => True) := by
  have hl : scp h h := ⟨rfl, rfl⟩
  cases i
  case aastore =>
    simp only [lm_stepK]
    refine lm_pA_T fun v s => lm_pI_T fun i s => lm_pR_T fun a s => lm_o_TT trivial fun x hx => lm_if_TI (fun hc => lm_in_T ?_) trivial
    have hn : ¬ 1000000 = a := ne7 hx (by rcases hc with hc | hc; omega; omega)
    exact lm_o_T (scp_sr hn) fun b => lm_o_T trivial fun y => lm_if_TT (scp_sr hn) trivial
  case putfield =>
    simp only [lm_stepK]
    refine lm_o_TT trivial fun e he => lm_if_TT ?_ (lm_if_TT (lm_if_TT ?_ trivial) ?_)
    · exact lm_pL_T fun v s => lm_pR_T fun a s => lm_o_T trivial fun x => lm_if_TT scp_sl trivial
    · exact lm_pA_T fun v s => lm_pR_T fun a s => lm_o_TT trivial fun x hx => lm_if_TI (fun hc => scp_sr (ne7 hx (by omega))) trivial
    · exact lm_pI_T fun v s => lm_pR_T fun a s => lm_o_TT trivial fun x hx => lm_if_TI (fun hc => lm_nar_T (scp_si (ne7 hx (by omega)))) trivial
  all_goals (simp only [lm_stepK]; repeat' (first | trivial | exact hl | exact scp_new (by omega) | exact scp_sl | exact scp_si (ne7 (by assumption) (by omega)) | exact scp_row (ne7 (by assumption) (by omega)) | refine lm_pI_T fun _ _ => ?_ | refine lm_pL_T fun _ _ => ?_ | refine lm_pR_T fun _ _ => ?_ | refine lm_pA_T fun _ _ => ?_ | refine lm_pV_T fun _ _ => ?_ | refine lm_0_T ?_ | refine lm_in_T ?_ | refine lm_tg_T fun _ => ?_ | refine lm_nar_T ?_ | refine lm_sw_T fun _ => ?_ | refine lm_br_T ?_ ?_ | refine lm_o_TT ?_ fun _ _ => ?_ | refine lm_if_TB (fun _ => ?_) (fun _ => ?_)))
theorem lm_run_sc : ∀ (n : Nat) {d M pc : Nat} {L : lm_L} {st : List Value} {h : lm_H} {v : Option Value} {h' : lm_H}, lm_run n d M pc L st h = some (v, h') → scp h h' := by
  intro n
  induction n with
  | zero => intro d M pc L st h v h' hr; simp [lm_run] at hr
  | succ n ih =>
    intro d M pc L st h v h' hr
    rw [lm_run] at hr
    cases hf : lm_f (lm_tabs.getD M []) pc with
    | none => rw [hf] at hr; simp [lm_o] at hr
    | some e =>
      rw [hf] at hr
      simp only [lm_o] at hr
      have hg := lm_step_sc (lm_ct M) (lm_own.getD M 0) (lm_rs.getD M none) e.1 e.2 pc L st h
      rw [lm_stepK_elim] at hr hg
      cases hs : lm_step (lm_ct M) (lm_sh h) (lm_r h) (lm_own.getD M 0) (lm_rs.getD M none) e.1 e.2 pc L st h with
      | none => rw [hs] at hr; simp [lm_elim] at hr
      | some x =>
        rw [hs] at hr hg
        rcases x with ⟨a, b, c, e'⟩ | w | ⟨a, b, c⟩
        · simp only [lm_elim] at hr hg
          exact scp_tr hg (ih hr)
        · simp only [lm_elim, Option.some.injEq, Prod.mk.injEq] at hr
          rw [← hr.2]
          exact ⟨rfl, rfl⟩
        · simp only [lm_elim] at hr
          cases d with
          | zero => simp at hr
          | succ d =>
            simp only at hr
            by_cases hen : (lm_ent b).length ≤ lm_ml.getD a 0
            case neg => rw [if_neg hen] at hr; cases hr
            rw [if_pos hen] at hr
            cases hc : lm_run n d a 0 (lm_entry (lm_ml.getD a 0) b) [] h with
            | none => rw [hc] at hr; simp [lm_o] at hr
            | some q =>
              rw [hc] at hr
              simp only [lm_o] at hr
              exact scp_tr (ih hc) (ih hr)
