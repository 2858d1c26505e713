theorem lm_kill_get2 {L : lm_L} {k i : Nat} {v : Value} (h : L.getD i none = some v) (hn : ¬ (i + 1 = k ∧ v.category = 2)) : (lm_kill L k).getD i none = some v := by
  unfold lm_kill
  by_cases hk : k = 0
  · rw [if_pos hk]
    exact h
  · rw [if_neg hk]
    cases hw : L.getD (k - 1) none with
    | none => exact h
    | some w =>
      simp only
      by_cases hc : w.category = 2
      · rw [if_pos hc, List.getD_eq_getElem?_getD, List.getElem?_set]
        by_cases hi : k - 1 = i
        · subst hi
          rw [hw] at h
          cases h
          exact absurd ⟨by omega, hc⟩ hn
        · rw [if_neg hi, ← List.getD_eq_getElem?_getD]
          exact h
      · rw [if_neg hc]
        exact h
theorem lm_le_kill {L L' : lm_L} (h : lm_le L L') (k : Nat) : lm_le (lm_kill L k) (lm_kill L' k) := by
  refine ⟨by rw [lm_kill_len, lm_kill_len]; exact h.1, fun i v hv => ?_⟩
  obtain ⟨h1, h2⟩ := lm_kill_get hv
  exact lm_kill_get2 (h.2 i v h1) h2
theorem lm_le_set {L L' : lm_L} (h : lm_le L L') (k : Nat) (o : Option Value) : lm_le (L.set k o) (L'.set k o) := by
  refine ⟨by rw [List.length_set, List.length_set]; exact h.1, fun i v hv => ?_⟩
  rw [List.getD_eq_getElem?_getD, List.getElem?_set] at hv ⊢
  by_cases hk : k = i
  · rw [if_pos hk] at hv ⊢
    rw [← h.1]
    exact hv
  · rw [if_neg hk, ← List.getD_eq_getElem?_getD] at hv ⊢
    exact h.2 i v hv
theorem lm_le_put {L L' : lm_L} (h : lm_le L L') (k : Nat) (v : Value) : lm_le (lm_put L k v) (lm_put L' k v) := lm_le_set (lm_le_kill h k) k _
theorem lm_le_putL {L L' : lm_L} (h : lm_le L L') (k : Nat) (v : Value) : lm_le (lm_putL L k v) (lm_putL L' k v) := lm_le_set (lm_le_set (lm_le_kill h k) (k + 1) _) k _
section LmMono
theorem lm_pI_M {st : List Value} {a : Prop} {k k' : Int32 → List Value → Prop} (h : ∀ x s, k x s → k' x s) : lm_pI st a k → lm_pI st a k' := by
  cases st with
  | nil => exact id
  | cons v s => cases v <;> first | exact id | exact h _ _
theorem lm_pL_M {st : List Value} {a : Prop} {k k' : Int64 → List Value → Prop} (h : ∀ x s, k x s → k' x s) : lm_pL st a k → lm_pL st a k' := by
  cases st with
  | nil => exact id
  | cons v s => cases v <;> first | exact id | exact h _ _
theorem lm_pR_M {st : List Value} {a : Prop} {k k' : Nat → List Value → Prop} (h : ∀ x s, k x s → k' x s) : lm_pR st a k → lm_pR st a k' := by
  cases st with
  | nil => exact id
  | cons v s => cases v <;> first | exact id | exact h _ _
theorem lm_pA_M {st : List Value} {a : Prop} {k k' : Option Nat → List Value → Prop} (h : ∀ x s, k x s → k' x s) : lm_pA st a k → lm_pA st a k' := by
  cases st with
  | nil => exact id
  | cons v s => cases v <;> first | exact id | exact h _ _
theorem lm_pV_M {st : List Value} {a : Prop} {k k' : Value → List Value → Prop} (h : ∀ x s, k x s → k' x s) : lm_pV st a k → lm_pV st a k' := by
  cases st with
  | nil => exact id
  | cons v s => exact h _ _
theorem lm_0_M {st : List Value} {a k k' : Prop} (h : k → k') : lm_0 st a k → lm_0 st a k' := by
  cases st with
  | nil => exact h
  | cons v s => exact id
theorem lm_o_M {γ : Type} {x : Option γ} {a a' : Prop} {k k' : γ → Prop} (ha : a → a') (h : ∀ y, k y → k' y) : lm_o x a k → lm_o x a' k' := by
  cases x with
  | none => exact ha
  | some y => exact h y
theorem lm_oL_M {L L' : lm_L} (hle : lm_le L L') {i : Nat} {k k' : Value → Prop} (h : ∀ y, k y → k' y) : lm_o (L.getD i none) False k → lm_o (L'.getD i none) False k' := by
  intro hs
  obtain ⟨y, hy, hk⟩ := lm_o_F hs
  rw [hle.2 i y hy]
  exact h y hk
theorem lm_if_M {c : Prop} [Decidable c] {a b a' b' : Prop} (ha : a → a') (hb : b → b') : (if c then a else b) → if c then a' else b' := by
  by_cases h : c
  · rw [if_pos h, if_pos h]; exact ha
  · rw [if_neg h, if_neg h]; exact hb
theorem lm_ifL_M {c c' : Prop} [Decidable c] [Decidable c'] {a a' : Prop} (hc : c → c') (ha : a → a') : (if c then a else False) → if c' then a' else False := by
  intro h
  obtain ⟨h1, h2⟩ := lm_if_F h
  rw [if_pos (hc h1)]
  exact ha h2
theorem lm_in_M {x : Int32} {n : Nat} {a a' b b' : Prop} (ha : a → a') (hb : b → b') : lm_in x n a b → lm_in x n a' b' := lm_if_M ha hb
theorem lm_br_M {c : ClassFile.Cond} {x y : Int32} {a b a' b' : Prop} (ha : a → a') (hb : b → b') : lm_br c x y a b → lm_br c x y a' b' := by cases c <;> first | exact lm_if_M ha hb | exact lm_if_M hb ha
theorem lm_tg_M {pc : Nat} {off : Int} {a a' : Prop} {k k' : Nat → Prop} (ha : a → a') (h : ∀ t, k t → k' t) : lm_tg pc off a k → lm_tg pc off a' k' := lm_if_M (h _) ha
theorem lm_nar_M {ty : FieldType} {x : Int32} {a a' k k' : Prop} (ha : a → a') (h : k → k') : lm_nar ty x a k → lm_nar ty x a' k' := by cases ty <;> first | exact h | exact lm_if_M h ha
theorem lm_sw_M {x : Int32} {cs : List (Int × Int)} {d : Int} {k k' : Int → Prop} (h : ∀ y, k y → k' y) : lm_sw x cs d k → lm_sw x cs d k' := by
  induction cs with
  | nil => exact h _
  | cons c cs ih => exact lm_if_M (h _) ih
end LmMono
set_option maxHeartbeats 4000000 in
theorem lm_step_le (ct : Bool) (sh : Nat → Option (Nat × Nat)) (rf : Nat → Nat → Option Nat) (o : Nat) (rty : Option FieldType) (i : Instr) (len : Nat) (pc : Nat) {L L' : lm_L} (st : List Value) (h : lm_H) (hle : lm_le L L') {nx nx' : Nat → lm_L → List Value → lm_H → Prop} {rt : Option Value → Prop} {cl : Nat → List Value → List Value → Prop}
    (hn : ∀ pc L1 L1' st h, lm_le L1 L1' → nx pc L1 st h → nx' pc L1' st h) : lm_stepK ct sh rf o rty i len pc L st h False nx rt cl → lm_stepK ct sh rf o rty i len pc L' st h False nx' rt cl := by
  have hlt : ∀ k : Nat, k < L.length → k < L'.length := fun k h => by rw [← hle.1]; exact h
  cases i <;> (simp only [lm_stepK]; repeat' (first | exact id | exact hn _ _ _ _ _ hle | exact hn _ _ _ _ _ (lm_le_put hle _ _) | exact hn _ _ _ _ _ (lm_le_putL hle _ _) | refine lm_oL_M hle fun _ => ?_ | refine lm_ifL_M (hlt _) ?_ | refine lm_pI_M fun _ _ => ?_ | refine lm_pL_M fun _ _ => ?_ | refine lm_pR_M fun _ _ => ?_ | refine lm_pA_M fun _ _ => ?_ | refine lm_pV_M fun _ _ => ?_ | refine lm_0_M ?_ | refine lm_in_M ?_ ?_ | refine lm_tg_M ?_ fun _ => ?_ | refine lm_nar_M ?_ ?_ | refine lm_sw_M fun _ => ?_ | refine lm_br_M ?_ ?_ | refine lm_o_M ?_ fun _ => ?_ | refine lm_if_M ?_ ?_))
theorem lm_W_le {d M pc : Nat} {L L' : lm_L} {st : List Value} {h : lm_H} {Q : Option Value → lm_H → Prop} (hle : lm_le L L') (hw : lm_W d M pc L st h Q) : lm_W d M pc L' st h Q := by
  obtain ⟨n, v, h', hr, hq⟩ := hw
  refine ⟨n, v, h', ?_, hq⟩
  clear hq
  revert d M pc L L' st h
  induction n with
  | zero => intro d M pc L L' st h hle hr; simp [lm_run] at hr
  | succ n ih =>
    intro d M pc L L' st h hle hr
    rw [lm_run] at hr ⊢
    cases hf : lm_f (lm_tabs.getD M []) pc with
    | none => rw [hf] at hr; simp [lm_o] at hr
    | some e =>
      rw [hf] at hr
      simp only [lm_o] at hr ⊢
      have key := lm_step_le (lm_ct M) (lm_sh h) (lm_r h) (lm_own.getD M 0) (lm_rs.getD M none) e.1 e.2 pc st h hle (nx := fun pc' L1 st' h1 => lm_run n d M pc' L1 st' h1 = some (v, h')) (nx' := fun pc' L1 st' h1 => lm_run n d M pc' L1 st' h1 = some (v, h')) (rt := fun w => some (w, h) = some (v, h')) (cl := fun m args rest => ∃ d1, d = d1 + 1 ∧ (lm_ent args).length ≤ lm_ml.getD m 0 ∧ ∃ r, lm_run n d1 m 0 (lm_entry (lm_ml.getD m 0) args) [] h = some r ∧ lm_run n d M (pc + 3) L' (r.1.toList ++ rest) r.2 = some (v, h')) (fun pc1 L1 L1' st1 h1 hl1 hr1 => ih hl1 hr1) ?_
      · rw [lm_stepK_elim] at key ⊢
        cases hs : lm_step (lm_ct M) (lm_sh h) (lm_r h) (lm_own.getD M 0) (lm_rs.getD M none) e.1 e.2 pc L' st h with
        | none => rw [hs] at key; exact key.elim
        | some x =>
          rw [hs] at key
          rcases x with ⟨a, b, c, e'⟩ | w | ⟨a, b, c⟩
          · exact key
          · exact key
          · obtain ⟨d1, rfl, hen, r, h1, h2⟩ := key
            simp only [lm_elim]
            rw [if_pos hen, h1]
            exact h2
      · rw [lm_stepK_elim] at hr ⊢
        cases hs : lm_step (lm_ct M) (lm_sh h) (lm_r h) (lm_own.getD M 0) (lm_rs.getD M none) e.1 e.2 pc L st h with
        | none => rw [hs] at hr; simp [lm_elim] at hr
        | some x =>
          rw [hs] at hr
          rcases x with ⟨a, b, c, e'⟩ | w | ⟨a, b, c⟩
          · exact hr
          · exact hr
          · simp only [lm_elim] at hr ⊢
            cases d with
            | zero => simp at hr
            | succ d =>
              simp only at hr
              by_cases hen : (lm_ent b).length ≤ lm_ml.getD a 0
              case neg => rw [if_neg hen] at hr; cases hr
              rw [if_pos hen] at hr
              cases hc : lm_run n d a 0 (lm_entry (lm_ml.getD a 0) b) [] h with
              | none => rw [hc] at hr; simp [lm_o] at hr
              | some q =>
                rw [hc] at hr
                exact ⟨d, rfl, hen, q, hc, ih hle hr⟩
def lm_mask (m : List Bool) (L : lm_L) : lm_L := match m, L with
  | _, [] => []
  | [], l => l
  | b :: m, o :: l => (if b then o else none) :: lm_mask m l
theorem lm_mask_le : ∀ (m : List Bool) (L : lm_L), lm_le (lm_mask m L) L := by
  intro m
  induction m with
  | nil =>
    intro L
    cases L <;> exact lm_le_rfl _
  | cons b m ih =>
    intro L
    cases L with
    | nil => exact lm_le_rfl _
    | cons o l =>
      obtain ⟨h1, h2⟩ := ih l
      refine ⟨by show (lm_mask m l).length + 1 = l.length + 1; rw [h1], fun i v hv => ?_⟩
      cases i with
      | zero =>
        have hv : (if b then o else none) = some v := hv
        cases b
        · cases hv
        · exact hv
      | succ i => exact h2 i v hv
-- what comes back from a call, by its type
def lm_kI (K : Int32 → lm_H → Prop) (v : Option Value) (h : lm_H) : Prop := match v with
  | some (.int x) => K x h
  | _ => False
def lm_kL (K : Int64 → lm_H → Prop) (v : Option Value) (h : lm_H) : Prop := match v with
  | some (.long x) => K x h
  | _ => False
def lm_kR (K : Option Nat → lm_H → Prop) (v : Option Value) (h : lm_H) : Prop := match v with
  | some (.ref x) => K (some x) h
  | some .null => K none h
  | _ => False
def lm_kV (K : lm_H → Prop) (v : Option Value) (h : lm_H) : Prop := match v with
  | none => K h
  | _ => False
def lm_k (rty : Option FieldType) (K : List Value → lm_H → Prop) : Option Value → lm_H → Prop := match rty with
  | none => lm_kV (K [])
  | some ty => if lm_fk ty = 1 then lm_kL (fun x => K [.long x]) else if lm_fk ty = 2 then lm_kR (fun x => K [va_rf x]) else lm_kI (fun x => K [.int x])
theorem lm_k_spec {rty : Option FieldType} {K : List Value → lm_H → Prop} {v : Option Value} {h : lm_H} (hk : lm_k rty K v h) : K v.toList h := by
  unfold lm_k at hk
  cases rty with
  | none =>
    cases v with
    | none => exact hk
    | some w => exact hk.elim
  | some ty =>
    simp only at hk
    split at hk
    · cases v with
      | none => exact hk.elim
      | some w => cases w <;> first | exact hk | exact hk.elim
    · split at hk
      · cases v with
        | none => exact hk.elim
        | some w => cases w <;> first | exact hk | exact hk.elim
      · cases v with
        | none => exact hk.elim
        | some w => cases w <;> first | exact hk | exact hk.elim
/-- going on, block by block: cuts (with the locals that live there), methods that are gone through where they are called -/
def lm_P (inl : List Nat) : Nat → List (Nat × List Bool) → Nat → Nat → Nat → lm_L → List Value → lm_H → (Option Value → lm_H → Prop) → Prop
  | 0, _, d, M, pc, L, st, h, Q => lm_W d M pc L st h Q
  | n + 1, cut, d, M, pc, L, st, h, Q => lm_o (lm_f (lm_tabs.getD M []) pc) False (fun e => lm_stepK (lm_ct M) (lm_shS h) (lm_rfS h) (lm_own.getD M 0) (lm_rs.getD M none) e.1 e.2 pc L st h False
      (fun pc' L' st' h' => lm_o (cut.lookup pc') (lm_P inl n cut d M pc' L' st' h' Q) (fun m => lm_W d M pc' (lm_mask m L') st' h' Q)) (fun v => Q v h)
      (fun m args rest => if inl.contains m then (match d with
        | 0 => False
        | d + 1 => if (lm_ent args).length ≤ lm_ml.getD m 0 then lm_P inl n [] d m 0 (lm_entry (lm_ml.getD m 0) args) [] h (fun v h' => lm_P inl n cut (d + 1) M (pc + 3) L (v.toList ++ rest) h' Q) else False)
        else lm_call d m args h (lm_k (lm_rs.getD m none) (fun r h' => lm_P inl n cut d M (pc + 3) L (r ++ rest) h' Q))))
theorem lm_P_sound (inl : List Nat) : ∀ (n : Nat) (cut : List (Nat × List Bool)) {d M pc : Nat} {L : lm_L} {st : List Value} {h : lm_H} {Q : Option Value → lm_H → Prop}, lm_Lay h → lm_P inl n cut d M pc L st h Q → lm_W d M pc L st h Q := by
  intro n
  induction n with
  | zero => intro cut d M pc L st h Q _ hp; exact hp
  | succ n ih =>
    intro cut d M pc L st h Q hl hp
    rw [lm_P] at hp
    rw [lm_W_step]
    obtain ⟨e, he, hp⟩ := lm_o_F hp
    rw [he]
    simp only [lm_o]
    rw [lm_shS_eq hl, lm_rfS_eq hl] at hp
    have hg := lm_step_Lay (lm_ct M) (lm_own.getD M 0) (lm_rs.getD M none) e.1 e.2 pc L st h hl
    rw [lm_stepK_elim] at hp hg ⊢
    cases hs : lm_step (lm_ct M) (lm_sh h) (lm_r h) (lm_own.getD M 0) (lm_rs.getD M none) e.1 e.2 pc L st h with
    | none => rw [hs] at hp; exact hp.elim
    | some x =>
      rw [hs] at hp hg
      rcases x with ⟨a, b, c, h1⟩ | w | ⟨a, b, c⟩
      · simp only [lm_elim] at hp hg ⊢
        rcases lm_o_B hp with ⟨-, hp⟩ | ⟨m, -, hp⟩
        · exact ih cut hg hp
        · exact lm_W_le (lm_mask_le m b) hp
      · exact hp
      · simp only [lm_elim] at hp ⊢
        rcases lm_if_B hp with ⟨-, hp⟩ | ⟨-, hp⟩
        · cases d with
          | zero => exact hp.elim
          | succ d =>
            obtain ⟨hen, hp⟩ := lm_if_F hp
            show if _ then _ else _
            rw [if_pos hen]
            obtain ⟨k, v, h', hr, hq⟩ := ih [] hl hp
            exact ⟨k, v, h', hr, ih cut (lm_run_Lay k hr hl) hq⟩
        · cases d with
          | zero => exact hp.elim
          | succ d =>
            have hp : if (lm_ent b).length ≤ lm_ml.getD a 0 then lm_C d a b h (lm_k (lm_rs.getD a none) (fun r h' => lm_P inl n cut (d + 1) M (pc + 3) L (r ++ c) h' Q)) else False := hp
            obtain ⟨hen, hp⟩ := lm_if_F hp
            show if _ then _ else _
            rw [if_pos hen]
            obtain ⟨k, v, h', hr, hq⟩ := hp
            exact ⟨k, v, h', hr, ih cut (lm_run_Lay k hr hl) (lm_k_spec hq)⟩
