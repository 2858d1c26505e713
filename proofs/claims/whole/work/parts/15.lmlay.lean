/-! WHERE THE CELLS LIE behind the two constructors, and a way to go through blocks of instructions at once -/
def lm_S : List (Nat × Nat) := [(0, 11), (0, 4), (1, 5), (1, 6), (1, 30), (1, 5), (1, 30), (1, 5), (5, 6), (6, 2), (2, 2), (0, 7), (1, 400), (0, 3), (1, 401), (1, 401), (1, 401), (1, 401), (0, 1), (1, 7), (4, 400), (0, 6), (1, 35), (2, 35), (1, 35), (1, 5), (0, 9), (1, 5), (1, 5), (1, 7), (1, 5), (0, 5), (0, 6), (1, 35), (2, 35), (1, 35), (1, 5), (0, 9), (1, 5), (1, 5), (1, 7), (1, 5), (1, 5), (1, 1120), (1, 5), (4, 263), (10, 0), (10, 0), (10, 0), (0, 8), (1, 5), (4, 263), (0, 0), (1, 30), (4, 5), (4, 66), (4, 77), (1, 77), (0, 10), (0, 6), (1, 35), (2, 35), (1, 35), (1, 5), (1, 200), (1, 200), (1, 5), (1, 30), (1, 30), (1, 5), (1, 5), (1, 5), (1, 5), (1, 5), (1, 30), (1, 5), (0, 4), (1, 5), (1, 6), (1, 30), (1, 5), (1, 30), (1, 5), (5, 6), (0, 4), (1, 5), (1, 6), (1, 30), (1, 5), (1, 30), (1, 5), (5, 6), (0, 12), (1, 7), (1, 4893), (1, 9786), (2, 2), (3, 64), (3, 400), (1, 5), (1, 401), (1, 401), (1, 401), (1, 7), (1, 30), (2, 30), (1, 30), (1, 5), (1, 16807), (2, 16807), (1, 5), (1, 30), (4, 6), (1, 6), (1, 6), (1, 200), (1, 200), (1, 200), (1, 30)]
def lm_Fl : List (List (Nat × Nat)) := [[(0, 1), (1, 9), (2, 10), (3, 11), (4, 13), (5, 18), (6, 21), (7, 26), (8, 31), (9, 49), (10, 52), (11, 58), (12, 73), (13, 74), (14, 75)], [(6, 2), (7, 3), (8, 4), (9, 5), (10, 6), (11, 7), (12, 8)], [], [], [], [], [], [], [], [(0, 76), (1, 84)], [], [(0, 12)], [], [(0, 14), (1, 15), (2, 16), (3, 17)], [], [], [], [], [(0, 19), (1, 20)], [], [], [(4, 22), (5, 23), (6, 24), (7, 25)], [], [], [], [], [(0, 27), (1, 28), (2, 29), (3, 30)], [], [], [], [], [(0, 32), (1, 37), (3, 42), (4, 43), (5, 44), (6, 45)], [(4, 33), (5, 34), (6, 35), (7, 36)], [], [], [], [], [(0, 38), (1, 39), (2, 40), (3, 41)], [], [], [], [], [], [], [], [], [], [], [], [(0, 50), (1, 51)], [], [], [(0, 53), (1, 54), (2, 55), (3, 56), (4, 57)], [], [], [], [], [], [(0, 59), (1, 64), (2, 65), (3, 66), (7, 67), (8, 68), (9, 69), (10, 70), (11, 71), (12, 72)], [(4, 60), (5, 61), (6, 62), (7, 63)], [], [], [], [], [], [], [], [], [], [], [], [], [], [], [], [], [(6, 77), (7, 78), (8, 79), (9, 80), (10, 81), (11, 82), (12, 83)], [], [], [], [], [], [], [], [(6, 85), (7, 86), (8, 87), (9, 88), (10, 89), (11, 90), (12, 91)], [], [], [], [], [], [], [], [(2, 93), (3, 94), (4, 95), (5, 96), (7, 97), (8, 98), (9, 99), (12, 100), (13, 101), (14, 102), (22, 103), (25, 104), (26, 105), (27, 106), (29, 107), (38, 108), (40, 109), (43, 110), (44, 111), (45, 112), (46, 113), (47, 114), (51, 115), (52, 116), (53, 117), (54, 118)], [], [], [], [], [], [], [], [], [], [], [], [], [], [], [], [], [], [], [], [], [], [], [], [], [], []]
def lm_Fs (a k : Nat) : Option Nat := (lm_Fl.getD a []).lookup k
def lm_shS (h : lm_H) (a : Nat) : Option (Nat × Nat) := match lm_S[a]? with
  | some x => some x
  | none => lm_sh h a
def lm_rfS (h : lm_H) (a k : Nat) : Option Nat := match lm_Fs a k with
  | some r => some r
  | none => lm_r h a k
def lm_Lay (h : lm_H) : Prop := (∀ (a : Nat) (x : Nat × Nat), lm_S[a]? = some x → h.1[a]? = some x) ∧ ∀ (a k r : Nat), lm_Fs a k = some r → lm_r h a k = some r
theorem lm_S_lt {a : Nat} {x : Nat × Nat} (h : lm_S[a]? = some x) : a < 1000000 := Nat.lt_of_lt_of_le (List.getElem?_eq_some_iff.mp h).1 (by decide +kernel)
theorem lm_shS_eq {h : lm_H} (hl : lm_Lay h) : lm_shS h = lm_sh h := by
  funext a
  unfold lm_shS
  cases hx : lm_S[a]? with
  | none => rfl
  | some x =>
    unfold lm_sh
    rw [if_pos (lm_S_lt hx), hl.1 a x hx]
theorem lm_rfS_eq {h : lm_H} (hl : lm_Lay h) : lm_rfS h = lm_r h := by
  funext a k
  unfold lm_rfS
  cases hx : lm_Fs a k with
  | none => rfl
  | some r => exact (hl.2 a k r hx).symm
def lm_Fok (q : Nat × List (Nat × Nat)) : Bool := q.2.all (fun _ => match lm_S[q.1]? with | some x => decide (x.1 = 0 ∨ x.1 = 6) | none => false)
theorem lm_Fok_all : (List.range 119).all (fun a => lm_Fok (a, lm_Fl.getD a [])) = true := by decide +kernel
theorem lm_Fl_len : lm_Fl.length = 119 := by decide +kernel
theorem lm_Fs_in {a k r : Nat} (h : lm_Fs a k = some r) : ∃ x, lm_S[a]? = some x ∧ (x.1 = 0 ∨ x.1 = 6) := by
  unfold lm_Fs at h
  have ha : a < 119 := by
    apply Classical.byContradiction
    intro hn
    rw [List.getD_eq_getElem?_getD, List.getElem?_eq_none (by rw [lm_Fl_len]; omega)] at h
    simp at h
  have h1 := List.all_eq_true.mp lm_Fok_all a (List.mem_range.mpr ha)
  unfold lm_Fok at h1
  have h2 := List.all_eq_true.mp h1 (k, r) (lm_lk_mem h)
  cases hx : lm_S[a]? with
  | none => rw [hx] at h2; cases h2
  | some x =>
    rw [hx] at h2
    exact ⟨x, rfl, of_decide_eq_true h2⟩
theorem lm_Lay_refs {h h' : lm_H} (hl : lm_Lay h) (h1 : h'.1 = h.1) (h2 : ∀ a k r, lm_r h a k = some r → lm_Fs a k = some r → lm_r h' a k = some r) : lm_Lay h' := ⟨fun a x hx => by rw [h1]; exact hl.1 a x hx, fun a k r hr => h2 a k r (hl.2 a k r hr) hr⟩
theorem lm_Lay_si {h : lm_H} (hl : lm_Lay h) (a k : Nat) (v : Int32) : lm_Lay (lm_si h a k v) := lm_Lay_refs hl rfl (fun _ _ _ h _ => h)
theorem lm_Lay_sl {h : lm_H} (hl : lm_Lay h) (a k : Nat) (v : Int64) : lm_Lay (lm_sl h a k v) := lm_Lay_refs hl rfl (fun _ _ _ h _ => h)
theorem lm_Lay_row {h : lm_H} (hl : lm_Lay h) (a : Nat) (f : Nat → Int32) : lm_Lay (lm_row h a f) := lm_Lay_refs hl rfl (fun _ _ _ h _ => h)
theorem lm_Lay_sr {h : lm_H} (hl : lm_Lay h) {a k : Nat} {v : Option Nat} (hn : lm_Fs a k = none) : lm_Lay (lm_sr h a k v) := by
  refine lm_Lay_refs hl rfl (fun b j r h1 h2 => ?_)
  unfold lm_r lm_sr lm_u
  by_cases hb : b = a
  · subst hb
    by_cases hj : j = k
    · subst hj
      rw [hn] at h2
      cases h2
    · simp only [if_true, if_neg hj]
      exact h1
  · simp only [if_neg hb]
    exact h1
theorem lm_Lay_new {h : lm_H} (hl : lm_Lay h) (x : Nat × Nat) : lm_Lay (lm_new h x) := by
  have hlt : ∀ (a : Nat) (y : Nat × Nat), lm_S[a]? = some y → a < h.1.length := fun a y hy => (List.getElem?_eq_some_iff.mp (hl.1 a y hy)).1
  refine ⟨fun a y hy => ?_, fun a k r hr => ?_⟩
  · show (h.1 ++ [x])[a]? = some y
    rw [List.getElem?_append_left (hlt a y hy)]
    exact hl.1 a y hy
  · obtain ⟨y, hy, -⟩ := lm_Fs_in hr
    have e9 : (lm_new h x).2.2.2 a = h.2.2.2 a := lm_w_ne _ _ _ (Nat.ne_of_lt (hlt a y hy))
    unfold lm_r
    rw [e9]
    exact hl.2 a k r hr
theorem lm_Fs_none_of {h : lm_H} (hl : lm_Lay h) {a k : Nat} (hn : lm_r h a k = none) : lm_Fs a k = none := by
  cases hx : lm_Fs a k with
  | none => rfl
  | some r => rw [hl.2 a k r hx] at hn; cases hn
theorem lm_Fs_none5 {h : lm_H} (hl : lm_Lay h) {a k : Nat} {x : Nat × Nat} (hx : lm_sh h a = some x) (h5 : x.1 = 5) : lm_Fs a k = none := by
  cases hr : lm_Fs a k with
  | none => rfl
  | some r =>
    obtain ⟨y, hy, hy2⟩ := lm_Fs_in hr
    have := hl.1 a y hy
    unfold lm_sh at hx
    rw [if_pos (lm_S_lt hy), this] at hx
    cases hx
    omega

theorem lm_o_TT {γ : Type} {x : Option γ} {a : Prop} {k : γ → Prop} (ha : a) (h : ∀ y, x = some y → k y) : lm_o x a k := by
  cases x with
  | none => exact ha
  | some y => exact h y rfl
theorem lm_if_TI {c : Prop} [Decidable c] {a b : Prop} (ha : c → a) (hb : b) : if c then a else b := by
  by_cases h : c
  · rw [if_pos h]; exact ha h
  · rw [if_neg h]; exact hb
set_option maxHeartbeats 4000000 in
theorem lm_step_Lay (ct : Bool) (o : Nat) (rty : Option FieldType) (i : Instr) (len : Nat) (pc : Nat) (L : lm_L) (st : List Value) (h : lm_H) (hl : lm_Lay h) :
    lm_stepK ct (lm_sh h) (lm_r h) o rty i len pc L st h True (fun _ _ _ h' => lm_Lay h') (fun _ => True) (fun _ _ _ => True) := by
  cases i
  case aastore =>
    simp only [lm_stepK]
    refine lm_pA_T fun v s => lm_pI_T fun i s => lm_pR_T fun a s => lm_o_TT trivial fun x hx => lm_if_TI (fun hc => lm_in_T ?_) trivial
    have hn : lm_Fs a i.toNatClampNeg = none := by
      rcases hc with hc | ⟨_, _, hc⟩
      · exact lm_Fs_none5 hl hx hc
      · exact lm_Fs_none_of hl hc
    exact lm_o_T (lm_Lay_sr hl hn) fun b => lm_o_T trivial fun y => lm_if_TT (lm_Lay_sr hl hn) trivial
  case putfield =>
    simp only [lm_stepK]
    refine lm_o_TT trivial fun e he => lm_if_TT ?_ (lm_if_TT (lm_if_TT ?_ trivial) ?_)
    · exact lm_pL_T fun v s => lm_pR_T fun a s => lm_o_T trivial fun x => lm_if_TT (lm_Lay_sl hl _ _ _) trivial
    · exact lm_pA_T fun v s => lm_pR_T fun a s => lm_o_TT trivial fun x hx => lm_if_TI (fun hc => lm_Lay_sr hl (lm_Fs_none_of hl hc.2.2)) trivial
    · exact lm_pI_T fun v s => lm_pR_T fun a s => lm_o_T trivial fun x => lm_if_TT (lm_nar_T (lm_Lay_si hl _ _ _)) trivial
  all_goals (simp only [lm_stepK]; repeat' (first | trivial | exact hl | exact lm_Lay_new hl _ | exact lm_Lay_si hl _ _ _ | exact lm_Lay_sl hl _ _ _ | exact lm_Lay_row hl _ _ | refine lm_pI_T fun _ _ => ?_ | refine lm_pL_T fun _ _ => ?_ | refine lm_pR_T fun _ _ => ?_ | refine lm_pA_T fun _ _ => ?_ | refine lm_pV_T fun _ _ => ?_ | refine lm_0_T ?_ | refine lm_in_T ?_ | refine lm_tg_T fun _ => ?_ | refine lm_nar_T ?_ | refine lm_sw_T fun _ => ?_ | refine lm_br_T ?_ ?_ | refine lm_o_TT ?_ fun _ _ => ?_ | refine lm_if_TI (fun _ => ?_) ?_))
theorem lm_run_Lay : ∀ (n : Nat) {d M pc : Nat} {L : lm_L} {st : List Value} {h : lm_H} {v : Option Value} {h' : lm_H}, lm_run n d M pc L st h = some (v, h') → lm_Lay h → lm_Lay h' := by
  intro n
  induction n with
  | zero => intro d M pc L st h v h' hr; simp [lm_run] at hr
  | succ n ih =>
    intro d M pc L st h v h' hr hl
    rw [lm_run] at hr
    cases hf : lm_f (lm_tabs.getD M []) pc with
    | none => rw [hf] at hr; simp [lm_o] at hr
    | some e =>
      rw [hf] at hr
      simp only [lm_o] at hr
      have hg := lm_step_Lay (lm_ct M) (lm_own.getD M 0) (lm_rs.getD M none) e.1 e.2 pc L st h hl
      rw [lm_stepK_elim] at hr hg
      cases hs : lm_step (lm_ct M) (lm_sh h) (lm_r h) (lm_own.getD M 0) (lm_rs.getD M none) e.1 e.2 pc L st h with
      | none => rw [hs] at hr; simp [lm_elim] at hr
      | some x =>
        rw [hs] at hr hg
        rcases x with ⟨a, b, c, e'⟩ | w | ⟨a, b, c⟩
        · simp only [lm_elim] at hr hg
          exact ih hr hg
        · simp only [lm_elim, Option.some.injEq, Prod.mk.injEq] at hr
          rw [← hr.2]
          exact hl
        · simp only [lm_elim] at hr
          cases d with
          | zero => simp at hr
          | succ d =>
            simp only at hr
            by_cases hen : (lm_ent b).length ≤ lm_ml.getD a 0
            case neg => rw [if_neg hen] at hr; cases hr
            rw [if_pos hen] at hr
            cases hc : lm_run n d a 0 (lm_entry (lm_ml.getD a 0) b) [] h with
            | none => rw [hc] at hr; simp [lm_o] at hr
            | some q =>
              rw [hc] at hr
              simp only [lm_o] at hr
              exact ih hr (ih hc hl)
-- fewer locals known
def lm_le (L L' : lm_L) : Prop := L.length = L'.length ∧ ∀ (i : Nat) (v : Value), L.getD i none = some v → L'.getD i none = some v
theorem lm_le_rfl (L : lm_L) : lm_le L L := ⟨rfl, fun _ _ h => h⟩
