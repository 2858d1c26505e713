/-- whether a method is a constructor -/
def lm_ct (M : Nat) : Bool := decide ((lm_as.getD M (0, 0, 0, 0, 0, 0)).2.1 = 2)
def lm_run : Nat → Nat → Nat → Nat → lm_L → List Value → lm_H → Option (Option Value × lm_H)
  | 0, _, _, _, _, _, _ => none
  | n + 1, d, M, pc, L, st, h => lm_o (lm_f (lm_tabs.getD M []) pc) none (fun e => lm_stepK (lm_ct M) (lm_sh h) (lm_r h) (lm_own.getD M 0) (lm_rs.getD M none) e.1 e.2 pc L st h none (fun pc' L' st' h' => lm_run n d M pc' L' st' h') (fun v => some (v, h))
      (fun m args rest => match d with
        | 0 => none
        | d + 1 => if (lm_ent args).length ≤ lm_ml.getD m 0 then lm_o (lm_run n d m 0 (lm_entry (lm_ml.getD m 0) args) [] h) none (fun r => lm_run n (d + 1) M (pc + 3) L (r.1.toList ++ rest) r.2) else none))
section LmNat
variable {α β : Type} (g : α → β)
theorem lm_pI_nat (st : List Value) (f : α) (k : Int32 → List Value → α) : g (lm_pI st f k) = lm_pI st (g f) (fun x s => g (k x s)) := by
  cases st with
  | nil => rfl
  | cons v s => cases v <;> rfl
theorem lm_pL_nat (st : List Value) (f : α) (k : Int64 → List Value → α) : g (lm_pL st f k) = lm_pL st (g f) (fun x s => g (k x s)) := by
  cases st with
  | nil => rfl
  | cons v s => cases v <;> rfl
theorem lm_pR_nat (st : List Value) (f : α) (k : Nat → List Value → α) : g (lm_pR st f k) = lm_pR st (g f) (fun x s => g (k x s)) := by
  cases st with
  | nil => rfl
  | cons v s => cases v <;> rfl
theorem lm_pA_nat (st : List Value) (f : α) (k : Option Nat → List Value → α) : g (lm_pA st f k) = lm_pA st (g f) (fun x s => g (k x s)) := by
  cases st with
  | nil => rfl
  | cons v s => cases v <;> rfl
theorem lm_pV_nat (st : List Value) (f : α) (k : Value → List Value → α) : g (lm_pV st f k) = lm_pV st (g f) (fun x s => g (k x s)) := by
  cases st with
  | nil => rfl
  | cons v s => rfl
theorem lm_0_nat (st : List Value) (f k : α) : g (lm_0 st f k) = lm_0 st (g f) (g k) := by
  cases st with
  | nil => rfl
  | cons v s => rfl
theorem lm_o_nat {γ : Type} (x : Option γ) (f : α) (k : γ → α) : g (lm_o x f k) = lm_o x (g f) (fun y => g (k y)) := by
  cases x <;> rfl
theorem lm_ite_nat (c : Prop) [Decidable c] (a b : α) : g (if c then a else b) = if c then g a else g b := by
  by_cases h : c <;> simp [h]
theorem lm_sw_nat (x : Int32) (cs : List (Int × Int)) (d : Int) (k : Int → α) : g (lm_sw x cs d k) = lm_sw x cs d (fun y => g (k y)) := by
  induction cs with
  | nil => rfl
  | cons c cs ih =>
    show g (if _ then _ else _) = if _ then _ else _
    rw [lm_ite_nat g, ih]
theorem lm_in_nat (x : Int32) (n : Nat) (f k : α) : g (lm_in x n f k) = lm_in x n (g f) (g k) := lm_ite_nat g _ _ _
theorem lm_br_nat (c : ClassFile.Cond) (x y : Int32) (t e : α) : g (lm_br c x y t e) = lm_br c x y (g t) (g e) := by
  cases c <;> exact lm_ite_nat g _ _ _
theorem lm_tg_nat (pc : Nat) (off : Int) (f : α) (k : Nat → α) : g (lm_tg pc off f k) = lm_tg pc off (g f) (fun t => g (k t)) := lm_ite_nat g _ _ _
theorem lm_nar_nat (ty : FieldType) (x : Int32) (f k : α) : g (lm_nar ty x f k) = lm_nar ty x (g f) (g k) := by
  cases ty <;> first | rfl | exact lm_ite_nat g _ _ _
set_option maxHeartbeats 4000000 in
theorem lm_stepK_nat (ct : Bool) (sh : Nat → Option (Nat × Nat)) (rf : Nat → Nat → Option Nat) (o : Nat) (rty : Option FieldType) (i : Instr) (len : Nat) (pc : Nat) (L : lm_L) (st : List Value) (h : lm_H) (f : α) (nx : Nat → lm_L → List Value → lm_H → α) (rt : Option Value → α) (cl : Nat → List Value → List Value → α) :
    g (lm_stepK ct sh rf o rty i len pc L st h f nx rt cl) = lm_stepK ct sh rf o rty i len pc L st h (g f) (fun a b c d => g (nx a b c d)) (fun v => g (rt v)) (fun a b c => g (cl a b c)) := by
  cases i <;> simp only [lm_stepK, lm_pI_nat g, lm_pL_nat g, lm_pR_nat g, lm_pA_nat g, lm_pV_nat g, lm_0_nat g, lm_o_nat g, lm_ite_nat g, lm_sw_nat g, lm_in_nat g, lm_br_nat g, lm_tg_nat g, lm_nar_nat g]
end LmNat
/-- the first-order result of a step -/
abbrev lm_Res : Type := Option ((Nat × lm_L × List Value × lm_H) ⊕ (Option Value ⊕ (Nat × List Value × List Value)))
def lm_step (ct : Bool) (sh : Nat → Option (Nat × Nat)) (rf : Nat → Nat → Option Nat) (o : Nat) (rty : Option FieldType) (i : Instr) (len : Nat) (pc : Nat) (L : lm_L) (st : List Value) (h : lm_H) : lm_Res :=
  lm_stepK ct sh rf o rty i len pc L st h none (fun a b c d => some (.inl (a, b, c, d))) (fun v => some (.inr (.inl v))) (fun a b c => some (.inr (.inr (a, b, c))))
def lm_elim {α : Type} (x : lm_Res) (f : α) (nx : Nat → lm_L → List Value → lm_H → α) (rt : Option Value → α) (cl : Nat → List Value → List Value → α) : α := match x with
  | none => f
  | some (.inl (a, b, c, d)) => nx a b c d
  | some (.inr (.inl v)) => rt v
  | some (.inr (.inr (a, b, c))) => cl a b c
theorem lm_stepK_elim {α : Type} (ct : Bool) (sh : Nat → Option (Nat × Nat)) (rf : Nat → Nat → Option Nat) (o : Nat) (rty : Option FieldType) (i : Instr) (len : Nat) (pc : Nat) (L : lm_L) (st : List Value) (h : lm_H) (f : α) (nx : Nat → lm_L → List Value → lm_H → α) (rt : Option Value → α) (cl : Nat → List Value → List Value → α) :
    lm_stepK ct sh rf o rty i len pc L st h f nx rt cl = lm_elim (lm_step ct sh rf o rty i len pc L st h) f nx rt cl :=
  (lm_stepK_nat (fun x : lm_Res => lm_elim x f nx rt cl) ct sh rf o rty i len pc L st h none (fun a b c d => some (.inl (a, b, c, d))) (fun v => some (.inr (.inl v))) (fun a b c => some (.inr (.inr (a, b, c))))).symm
/-- more fuel does no harm -/
theorem lm_run_mono : ∀ (n : Nat) {d M pc : Nat} {L : lm_L} {st : List Value} {h : lm_H} {r : Option Value × lm_H}, lm_run n d M pc L st h = some r → ∀ k : Nat, lm_run (n + k) d M pc L st h = some r := by
  intro n
  induction n with
  | zero =>
    intro d M pc L st h r hr
    simp [lm_run] at hr
  | succ n ih =>
    intro d M pc L st h r hr k
    rw [show n + 1 + k = (n + k) + 1 by omega]
    rw [lm_run] at hr ⊢
    cases hf : lm_f (lm_tabs.getD M []) pc with
    | none => rw [hf] at hr; simp [lm_o] at hr
    | some e =>
      rw [hf] at hr
      simp only [lm_o] at hr ⊢
      rw [lm_stepK_elim] at hr ⊢
      cases hs : lm_step (lm_ct M) (lm_sh h) (lm_r h) (lm_own.getD M 0) (lm_rs.getD M none) e.1 e.2 pc L st h with
      | none => rw [hs] at hr; simp [lm_elim] at hr
      | some x =>
        rw [hs] at hr
        rcases x with ⟨a, b, c, e'⟩ | v | ⟨a, b, c⟩
        · simp only [lm_elim] at hr ⊢
          exact ih hr k
        · simp only [lm_elim] at hr ⊢
          exact hr
        · simp only [lm_elim] at hr ⊢
          cases d with
          | zero => simp at hr
          | succ d =>
            simp only at hr ⊢
            by_cases hen : (lm_ent b).length ≤ lm_ml.getD a 0
            case neg => rw [if_neg hen] at hr; cases hr
            rw [if_pos hen] at hr ⊢
            cases hc : lm_run n d a 0 (lm_entry (lm_ml.getD a 0) b) [] h with
            | none => rw [hc] at hr; simp [lm_o] at hr
            | some q =>
              rw [hc] at hr
              rw [ih hc k]
              simp only at hr ⊢
              exact ih hr k
/-- the weakest precondition of running on, of a call -/
def lm_W (d M pc : Nat) (L : lm_L) (st : List Value) (h : lm_H) (Q : Option Value → lm_H → Prop) : Prop := ∃ (n : Nat) (v : Option Value) (h' : lm_H), lm_run n d M pc L st h = some (v, h') ∧ Q v h'
def lm_C (d M : Nat) (args : List Value) (h : lm_H) (Q : Option Value → lm_H → Prop) : Prop := lm_W d M 0 (lm_entry (lm_ml.getD M 0) args) [] h Q
def lm_call (d M : Nat) (args : List Value) (h : lm_H) (Q : Option Value → lm_H → Prop) : Prop := match d with
  | 0 => False
  | d + 1 => if (lm_ent args).length ≤ lm_ml.getD M 0 then lm_C d M args h Q else False
theorem lm_W_step (d M pc : Nat) (L : lm_L) (st : List Value) (h : lm_H) (Q : Option Value → lm_H → Prop) :
    lm_W d M pc L st h Q ↔ lm_o (lm_f (lm_tabs.getD M []) pc) False (fun e => lm_stepK (lm_ct M) (lm_sh h) (lm_r h) (lm_own.getD M 0) (lm_rs.getD M none) e.1 e.2 pc L st h False (fun pc' L' st' h' => lm_W d M pc' L' st' h' Q) (fun v => Q v h)
      (fun m args rest => lm_call d m args h (fun v h' => lm_W d M (pc + 3) L (v.toList ++ rest) h' Q))) := by
  cases hf : lm_f (lm_tabs.getD M []) pc with
  | none =>
    simp only [lm_o, iff_false]
    rintro ⟨n, v, h', hr, -⟩
    cases n with
    | zero => simp [lm_run] at hr
    | succ n =>
      rw [lm_run, hf] at hr
      simp [lm_o] at hr
  | some e =>
    simp only [lm_o]
    rw [lm_stepK_elim]
    cases hs : lm_step (lm_ct M) (lm_sh h) (lm_r h) (lm_own.getD M 0) (lm_rs.getD M none) e.1 e.2 pc L st h with
    | none =>
      simp only [lm_elim, iff_false]
      rintro ⟨n, v, h', hr, -⟩
      cases n with
      | zero => simp [lm_run] at hr
      | succ n =>
        rw [lm_run, hf] at hr
        simp only [lm_o] at hr
        rw [lm_stepK_elim, hs] at hr
        simp [lm_elim] at hr
    | some x =>
      rcases x with ⟨a, b, c, e'⟩ | v | ⟨a, b, c⟩
      · simp only [lm_elim]
        constructor
        · rintro ⟨n, v, h', hr, hq⟩
          cases n with
          | zero => simp [lm_run] at hr
          | succ n =>
            rw [lm_run, hf] at hr
            simp only [lm_o] at hr
            rw [lm_stepK_elim, hs] at hr
            exact ⟨n, v, h', hr, hq⟩
        · rintro ⟨n, v, h', hr, hq⟩
          refine ⟨n + 1, v, h', ?_, hq⟩
          rw [lm_run, hf]
          simp only [lm_o]
          rw [lm_stepK_elim, hs]
          exact hr
      · simp only [lm_elim]
        constructor
        · rintro ⟨n, w, h', hr, hq⟩
          cases n with
          | zero => simp [lm_run] at hr
          | succ n =>
            rw [lm_run, hf] at hr
            simp only [lm_o] at hr
            rw [lm_stepK_elim, hs] at hr
            simp only [lm_elim, Option.some.injEq, Prod.mk.injEq] at hr
            rw [hr.1, hr.2]
            exact hq
        · intro hq
          refine ⟨1, v, h, ?_, hq⟩
          rw [lm_run, hf]
          simp only [lm_o]
          rw [lm_stepK_elim, hs]
          rfl
      · simp only [lm_elim]
        constructor
        · rintro ⟨n, w, h', hr, hq⟩
          cases n with
          | zero => simp [lm_run] at hr
          | succ n =>
            rw [lm_run, hf] at hr
            simp only [lm_o] at hr
            rw [lm_stepK_elim, hs] at hr
            simp only [lm_elim] at hr
            cases d with
            | zero => simp at hr
            | succ d =>
              simp only at hr
              by_cases hen : (lm_ent b).length ≤ lm_ml.getD a 0
              case neg => rw [if_neg hen] at hr; cases hr
              rw [if_pos hen] at hr
              show if _ then _ else _
              rw [if_pos hen]
              cases hc : lm_run n d a 0 (lm_entry (lm_ml.getD a 0) b) [] h with
              | none => rw [hc] at hr; simp [lm_o] at hr
              | some q =>
                rw [hc] at hr
                exact ⟨n, q.1, q.2, hc, n, w, h', hr, hq⟩
        · intro hq
          cases d with
          | zero => exact hq.elim
          | succ d =>
            obtain ⟨hen, hq⟩ : (lm_ent b).length ≤ lm_ml.getD a 0 ∧ lm_C d a b h (fun v h' => lm_W (d + 1) M (pc + 3) L (v.toList ++ c) h' Q) := by
              by_cases hen : (lm_ent b).length ≤ lm_ml.getD a 0
              · have hq : if (lm_ent b).length ≤ lm_ml.getD a 0 then lm_C d a b h (fun v h' => lm_W (d + 1) M (pc + 3) L (v.toList ++ c) h' Q) else False := hq
                rw [if_pos hen] at hq
                exact ⟨hen, hq⟩
              · have hq : if (lm_ent b).length ≤ lm_ml.getD a 0 then lm_C d a b h (fun v h' => lm_W (d + 1) M (pc + 3) L (v.toList ++ c) h' Q) else False := hq
                rw [if_neg hen] at hq
                exact hq.elim
            obtain ⟨n, w, h', hr, n2, w2, h2, hr2, hq2⟩ := hq
            refine ⟨(n + n2) + 1, w2, h2, ?_, hq2⟩
            rw [lm_run, hf]
            simp only [lm_o]
            rw [lm_stepK_elim, hs]
            simp only [lm_elim]
            rw [if_pos hen, lm_run_mono n hr n2]
            simp only [lm_o]
            rw [Nat.add_comm n n2]
            exact lm_run_mono n2 hr2 n
theorem lm_W_mono {d M pc : Nat} {L : lm_L} {st : List Value} {h : lm_H} {Q Q' : Option Value → lm_H → Prop} (hw : lm_W d M pc L st h Q) (hq : ∀ v h', Q v h' → Q' v h') : lm_W d M pc L st h Q' := by
  obtain ⟨n, v, h', h1, h2⟩ := hw
  exact ⟨n, v, h', h1, hq v h' h2⟩
theorem lm_C_mono {d M : Nat} {args : List Value} {h : lm_H} {Q Q' : Option Value → lm_H → Prop} (hw : lm_C d M args h Q) (hq : ∀ v h', Q v h' → Q' v h') : lm_C d M args h Q' := lm_W_mono hw hq
