/-! A machine that knows nothing of the script: what it does on a closed heap the light machine does on every heap that has the same cells below 1000000. -/
def lm_shR (h : lm_H) (a : Nat) : Option (Nat × Nat) := if a < 1000000 then h.1[a]? else none
def lm_gs (i : Instr) : Bool := match i with
  | .getstatic _ => true
  | _ => false
def lm_runR : Nat → Nat → Nat → Nat → lm_L → List Value → lm_H → Option (Option Value × lm_H)
  | 0, _, _, _, _, _, _ => none
  | n + 1, d, M, pc, L, st, h => lm_o (lm_f (lm_tabs.getD M []) pc) none (fun e => if lm_gs e.1 = true then none else lm_stepK (lm_ct M) (lm_shR h) (lm_r h) (lm_own.getD M 0) (lm_rs.getD M none) e.1 e.2 pc L st h none (fun pc' L' st' h' => lm_runR n d M pc' L' st' h') (fun v => some (v, h))
      (fun m args rest => match d with
        | 0 => none
        | d + 1 => if (lm_ent args).length ≤ lm_ml.getD m 0 then lm_o (lm_runR n d m 0 (lm_entry (lm_ml.getD m 0) args) [] h) none (fun r => lm_runR n (d + 1) M (pc + 3) L (r.1.toList ++ rest) r.2) else none))
/-- the same cells below the script's -/
def lm_RL (h g : lm_H) : Prop := g.1 = h.1 ∧ ∀ a, a < 1000000 → lm_i g a = lm_i h a ∧ lm_l g a = lm_l h a ∧ lm_r g a = lm_r h a
theorem lm_RL_si {h g : lm_H} (H : lm_RL h g) (a k : Nat) (v : Int32) : lm_RL (lm_si h a k v) (lm_si g a k v) := by
  refine ⟨H.1, fun b hb => ⟨?_, (H.2 b hb).2.1, (H.2 b hb).2.2⟩⟩
  have e := (H.2 b hb).1
  funext j
  rw [pi_si, pi_si, e]
theorem lm_RL_sl {h g : lm_H} (H : lm_RL h g) (a k : Nat) (v : Int64) : lm_RL (lm_sl h a k v) (lm_sl g a k v) := by
  refine ⟨H.1, fun b hb => ⟨(H.2 b hb).1, ?_, (H.2 b hb).2.2⟩⟩
  have e := (H.2 b hb).2.1
  funext j
  show (if b = a then (if j = k then v else lm_l g b j) else lm_l g b j) = (if b = a then (if j = k then v else lm_l h b j) else lm_l h b j)
  rw [e]
theorem lm_RL_sr {h g : lm_H} (H : lm_RL h g) (a k : Nat) (v : Option Nat) : lm_RL (lm_sr h a k v) (lm_sr g a k v) := by
  refine ⟨H.1, fun b hb => ⟨(H.2 b hb).1, (H.2 b hb).2.1, ?_⟩⟩
  have e := (H.2 b hb).2.2
  funext j
  rw [pr_sr, pr_sr, e]
theorem lm_RL_row {h g : lm_H} (H : lm_RL h g) (a : Nat) (f : Nat → Int32) : lm_RL (lm_row h a f) (lm_row g a f) := by
  refine ⟨H.1, fun b hb => ⟨?_, (H.2 b hb).2.1, (H.2 b hb).2.2⟩⟩
  have e := (H.2 b hb).1
  funext j
  rw [pi_row, pi_row, e]
theorem lm_RL_new {h g : lm_H} (H : lm_RL h g) (x : Nat × Nat) : lm_RL (lm_new h x) (lm_new g x) := by
  have e1 := H.1
  refine ⟨?_, fun b hb => ⟨?_, ?_, ?_⟩⟩
  · show g.1 ++ [x] = h.1 ++ [x]
    rw [e1]
  · funext j
    show (if b = g.1.length then (0 : Int32) else lm_i g b j) = (if b = h.1.length then (0 : Int32) else lm_i h b j)
    rw [e1, (H.2 b hb).1]
  · funext j
    show (if b = g.1.length then (0 : Int64) else lm_l g b j) = (if b = h.1.length then (0 : Int64) else lm_l h b j)
    rw [e1, (H.2 b hb).2.1]
  · funext j
    show (if b = g.1.length then (none : Option Nat) else lm_r g b j) = (if b = h.1.length then (none : Option Nat) else lm_r h b j)
    rw [e1, (H.2 b hb).2.2]
theorem lm_oR_M {h g : lm_H} (H : lm_RL h g) {a : Nat} {k k' : Nat × Nat → Prop} (hk : ∀ x, lm_i g a = lm_i h a → lm_l g a = lm_l h a → lm_r g a = lm_r h a → k x → k' x) : lm_o (lm_shR h a) False k → lm_o (lm_sh g a) False k' := by
  intro hs
  obtain ⟨y, hy, h2⟩ := lm_o_F hs
  unfold lm_shR at hy
  by_cases ha : a < 1000000
  · rw [if_pos ha] at hy
    have e : lm_sh g a = some y := by
      unfold lm_sh
      rw [if_pos ha, H.1]
      exact hy
    rw [e]
    obtain ⟨e1, e2, e3⟩ := H.2 a ha
    exact hk y e1 e2 e3 h2
  · rw [if_neg ha] at hy
    cases hy
set_option maxHeartbeats 4000000 in
theorem lm_step_rel (ct : Bool) (o : Nat) (rty : Option FieldType) (i : Instr) (len : Nat) (pc : Nat) (L : lm_L) (st : List Value) {h g : lm_H} (hg : lm_RL h g) (hi : lm_gs i = false) {nx nx' : Nat → lm_L → List Value → lm_H → Prop} {rt : Option Value → Prop} {cl : Nat → List Value → List Value → Prop}
    (hn : ∀ pc L st h g, lm_RL h g → nx pc L st h → nx' pc L st g) : lm_stepK ct (lm_shR h) (lm_r h) o rty i len pc L st h False nx rt cl → lm_stepK ct (lm_sh g) (lm_r g) o rty i len pc L st g False nx' rt cl := by
  have e1 := hg.1
  cases i
  case getstatic => cases hi
  case getfield =>
    simp only [lm_stepK]
    refine lm_pR_M fun a s => lm_oR_M hg fun x q1 q2 q3 => lm_if_M (lm_o_M id fun e => lm_if_M (hn _ _ _ _ _ hg) (hn _ _ _ _ _ hg)) (lm_o_M id fun e => lm_if_M ?_ id)
    have q : lm_fget (lm_r g) g a e.1 e.2.1 = lm_fget (lm_r h) h a e.1 e.2.1 := by
      unfold lm_fget
      rw [q1, q2, q3]
    rw [q]
    exact hn _ _ _ _ _ hg
  case putfield =>
    simp only [lm_stepK]
    refine lm_o_M id fun e => lm_if_M ?_ (lm_if_M (lm_if_M ?_ id) ?_)
    · exact lm_pL_M fun v s => lm_pR_M fun a s => lm_oR_M hg fun x q1 q2 q3 => lm_if_M (hn _ _ _ _ _ (lm_RL_sl hg _ _ _)) id
    · refine lm_pA_M fun v s => lm_pR_M fun a s => lm_oR_M hg fun x q1 q2 q3 => ?_
      rw [q3]
      exact lm_if_M (hn _ _ _ _ _ (lm_RL_sr hg _ _ _)) id
    · exact lm_pI_M fun v s => lm_pR_M fun a s => lm_oR_M hg fun x q1 q2 q3 => lm_if_M (lm_nar_M id (hn _ _ _ _ _ (lm_RL_si hg _ _ _))) id
  case aastore =>
    simp only [lm_stepK]
    refine lm_pA_M fun v s => lm_pI_M fun i s => lm_pR_M fun a s => lm_oR_M hg fun x q1 q2 q3 => ?_
    rw [q3]
    exact lm_if_M (lm_in_M id (lm_o_M (hn _ _ _ _ _ (lm_RL_sr hg _ _ _)) fun b => lm_oR_M hg fun y _ _ _ => lm_if_M (hn _ _ _ _ _ (lm_RL_sr hg _ _ _)) id)) id
  case iaload =>
    simp only [lm_stepK]
    refine lm_pI_M fun i s => lm_pR_M fun a s => lm_oR_M hg fun x q1 q2 q3 => ?_
    rw [q1]
    exact lm_if_M (lm_in_M id (hn _ _ _ _ _ hg)) id
  case baload =>
    simp only [lm_stepK]
    refine lm_pI_M fun i s => lm_pR_M fun a s => lm_oR_M hg fun x q1 q2 q3 => ?_
    rw [q1]
    exact lm_if_M (lm_in_M id (hn _ _ _ _ _ hg)) (lm_if_M (lm_in_M id (hn _ _ _ _ _ hg)) id)
  case laload =>
    simp only [lm_stepK]
    refine lm_pI_M fun i s => lm_pR_M fun a s => lm_oR_M hg fun x q1 q2 q3 => ?_
    rw [q2]
    exact lm_if_M (lm_in_M id (hn _ _ _ _ _ hg)) id
  case aaload =>
    simp only [lm_stepK]
    refine lm_pI_M fun i s => lm_pR_M fun a s => lm_oR_M hg fun x q1 q2 q3 => ?_
    rw [q3]
    exact lm_if_M (lm_in_M id (hn _ _ _ _ _ hg)) id
  case newarray =>
    simp only [lm_stepK]
    rw [e1]
    exact lm_pI_M fun n s => lm_o_M id fun x => lm_if_M id (hn _ _ _ _ _ (lm_RL_new hg _))
  case anewarray =>
    simp only [lm_stepK]
    rw [e1]
    exact lm_pI_M fun n s => lm_o_M id fun x => lm_if_M id (hn _ _ _ _ _ (lm_RL_new hg _))
  case new =>
    simp only [lm_stepK]
    rw [e1]
    exact lm_o_M id fun x => lm_if_M id (hn _ _ _ _ _ (lm_RL_new hg _))
  case invokestatic =>
    simp only [lm_stepK]
    refine lm_o_M id fun e => lm_if_M ?_ ?_
    · refine lm_pI_M fun n s => lm_pI_M fun dp s => lm_pR_M fun b s => lm_pI_M fun sp s => lm_pR_M fun a s => lm_oR_M hg fun x q1 q2 q3 => lm_oR_M hg fun y p1 p2 p3 => lm_if_M ?_ id
      rw [show g.2.1 a = h.2.1 a from q1, show g.2.1 b = h.2.1 b from p1]
      exact hn _ _ _ _ _ (lm_RL_row hg _ _)
    · repeat' (first | exact id | exact hn _ _ _ _ _ hg | refine lm_pI_M fun _ _ => ?_ | refine lm_pL_M fun _ _ => ?_ | refine lm_o_M ?_ fun _ => ?_ | refine lm_if_M ?_ ?_)
  all_goals (simp only [lm_stepK]; repeat' (first | exact id | exact hn _ _ _ _ _ hg | exact hn _ _ _ _ _ (lm_RL_si hg _ _ _) | exact hn _ _ _ _ _ (lm_RL_sl hg _ _ _) | refine lm_oR_M hg fun _ _ _ _ => ?_ | refine lm_pI_M fun _ _ => ?_ | refine lm_pL_M fun _ _ => ?_ | refine lm_pR_M fun _ _ => ?_ | refine lm_pA_M fun _ _ => ?_ | refine lm_pV_M fun _ _ => ?_ | refine lm_0_M ?_ | refine lm_in_M ?_ ?_ | refine lm_tg_M ?_ fun _ => ?_ | refine lm_nar_M ?_ ?_ | refine lm_sw_M fun _ => ?_ | refine lm_br_M ?_ ?_ | refine lm_o_M ?_ fun _ => ?_ | refine lm_if_M ?_ ?_))
theorem lm_run_rel : ∀ (n : Nat) {d M pc : Nat} {L : lm_L} {st : List Value} {h g : lm_H} {v : Option Value} {h' : lm_H}, lm_runR n d M pc L st h = some (v, h') → lm_RL h g → ∃ g', lm_run n d M pc L st g = some (v, g') ∧ lm_RL h' g' := by
  intro n
  induction n with
  | zero => intro d M pc L st h g v h' hr; simp [lm_runR] at hr
  | succ n ih =>
    intro d M pc L st h g v h' hr hg
    rw [lm_runR] at hr
    rw [lm_run]
    cases hf : lm_f (lm_tabs.getD M []) pc with
    | none => rw [hf] at hr; simp [lm_o] at hr
    | some e =>
      rw [hf] at hr
      simp only [lm_o] at hr ⊢
      cases hi : lm_gs e.1 with
      | true => rw [hi, if_pos rfl] at hr; cases hr
      | false =>
        rw [hi, if_neg (by decide)] at hr
        have key := lm_step_rel (lm_ct M) (lm_own.getD M 0) (lm_rs.getD M none) e.1 e.2 pc L st hg hi (nx := fun pc' L1 st' h1 => lm_runR n d M pc' L1 st' h1 = some (v, h')) (nx' := fun pc' L1 st' g1 => ∃ g', lm_run n d M pc' L1 st' g1 = some (v, g') ∧ lm_RL h' g') (rt := fun w => some (w, h) = some (v, h')) (cl := fun m args rest => ∃ d1, d = d1 + 1 ∧ (lm_ent args).length ≤ lm_ml.getD m 0 ∧ ∃ r, lm_runR n d1 m 0 (lm_entry (lm_ml.getD m 0) args) [] h = some r ∧ lm_runR n d M (pc + 3) L (r.1.toList ++ rest) r.2 = some (v, h')) (fun pc1 L1 st1 h1 g1 hl1 hr1 => ih hr1 hl1) ?_
        · rw [lm_stepK_elim] at key ⊢
          cases hs : lm_step (lm_ct M) (lm_sh g) (lm_r g) (lm_own.getD M 0) (lm_rs.getD M none) e.1 e.2 pc L st g with
          | none => rw [hs] at key; exact key.elim
          | some x =>
            rw [hs] at key
            rcases x with ⟨a, b, c, e'⟩ | w | ⟨a, b, c⟩
            · exact key
            · simp only [lm_elim, Option.some.injEq, Prod.mk.injEq] at key ⊢
              exact ⟨g, ⟨key.1, rfl⟩, by rw [← key.2]; exact hg⟩
            · obtain ⟨d1, rfl, hen, r, h1, h2⟩ := key
              simp only [lm_elim]
              obtain ⟨g1, k1, k2⟩ := ih (v := r.1) (h' := r.2) h1 hg
              obtain ⟨g2, k3, k4⟩ := ih h2 k2
              rw [if_pos hen, k1]
              exact ⟨g2, k3, k4⟩
        · rw [lm_stepK_elim] at hr ⊢
          cases hs : lm_step (lm_ct M) (lm_shR h) (lm_r h) (lm_own.getD M 0) (lm_rs.getD M none) e.1 e.2 pc L st h with
          | none => rw [hs] at hr; simp [lm_elim] at hr
          | some x =>
            rw [hs] at hr
            rcases x with ⟨a, b, c, e'⟩ | w | ⟨a, b, c⟩
            · exact hr
            · exact hr
            · simp only [lm_elim] at hr ⊢
              cases d with
              | zero => simp at hr
              | succ d =>
                simp only at hr
                by_cases hen : (lm_ent b).length ≤ lm_ml.getD a 0
                case neg => rw [if_neg hen] at hr; cases hr
                rw [if_pos hen] at hr
                cases hc : lm_runR n d a 0 (lm_entry (lm_ml.getD a 0) b) [] h with
                | none => rw [hc] at hr; simp [lm_o] at hr
                | some q =>
                  rw [hc] at hr
                  exact ⟨d, rfl, hen, q, hc, hr⟩
