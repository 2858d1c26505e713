/-! Cells by other numbers: from 46 on a heap may lie three cells further up (with three cells between that nothing can touch); what the light machine does there it does here. -/
def kp (a : Nat) : Nat := if a < 46 then a else if a < 49 then a + 999951 else if a < 1000000 then a - 3 else a
def kq (a : Nat) : Nat := if a < 46 then a else if a < 999997 then a + 3 else if a < 1000000 then a - 999951 else a
theorem kp_inj {a b : Nat} (h : kp a = kp b) : a = b := by
  unfold kp at h
  split at h <;> split at h <;> (try split at h) <;> (try split at h) <;> (try split at h) <;> (try split at h) <;> omega
theorem kp_eq (a b : Nat) : (kp b = kp a) = (b = a) := propext ⟨kp_inj, fun h => by rw [h]⟩
theorem kp_kq (a : Nat) : kp (kq a) = a := by
  unfold kq kp
  by_cases h1 : a < 46
  · rw [if_pos h1, if_pos h1]
  · rw [if_neg h1]
    by_cases h2 : a < 999997
    · rw [if_pos h2, if_neg (by omega), if_neg (by omega), if_pos (by omega)]
      omega
    · rw [if_neg h2]
      by_cases h3 : a < 1000000
      · rw [if_pos h3, if_neg (by omega), if_pos (by omega)]
        omega
      · rw [if_neg h3, if_neg (by omega), if_neg (by omega), if_neg (by omega)]
theorem kp_hi {a : Nat} (h : 1000000 ≤ a) : kp a = a := by
  unfold kp
  rw [if_neg (by omega), if_neg (by omega), if_neg (by omega)]
theorem kp_mid {a : Nat} (h : 49 ≤ a) (h2 : a < 1000000) : kp a = a - 3 := by
  unfold kp
  rw [if_neg (by omega), if_neg (by omega), if_pos h2]
theorem kp_lo {a : Nat} (h : a < 46) : kp a = a := by
  unfold kp
  rw [if_pos h]
theorem kp_lt {a : Nat} (h : a < 1000000) : kp a < 1000000 := by
  unfold kp
  split
  · omega
  · split
    · omega
    · first | omega | (split <;> omega)
def kv (v : Value) : Value := match v with
  | .ref a => .ref (kp a)
  | w => w
theorem kv_cat (v : Value) : (kv v).category = v.category := by cases v <;> rfl
theorem kv_rf (x : Option Nat) : kv (va_rf x) = va_rf (x.map kp) := by cases x <;> rfl
abbrev kL (L : lm_L) : lm_L := L.map (Option.map kv)
theorem cat_K (s : List Value) : (s.map kv).map Value.category = s.map Value.category := by
  rw [List.map_map]
  exact List.map_congr_left (fun v _ => kv_cat v)
theorem pI_K {st : List Value} {k k' : Int32 → List Value → Prop} (h : ∀ x s, k x s → k' x (s.map kv)) : lm_pI st False k → lm_pI (st.map kv) False k' := by
  cases st with
  | nil => exact id
  | cons v s => cases v <;> first | exact h _ _ | exact fun q => q.elim
theorem pL_K {st : List Value} {k k' : Int64 → List Value → Prop} (h : ∀ x s, k x s → k' x (s.map kv)) : lm_pL st False k → lm_pL (st.map kv) False k' := by
  cases st with
  | nil => exact id
  | cons v s => cases v <;> first | exact h _ _ | exact fun q => q.elim
theorem pR_K {st : List Value} {k k' : Nat → List Value → Prop} (h : ∀ x s, k x s → k' (kp x) (s.map kv)) : lm_pR st False k → lm_pR (st.map kv) False k' := by
  cases st with
  | nil => exact id
  | cons v s => cases v <;> first | exact h _ _ | exact fun q => q.elim
theorem pA_K {st : List Value} {k k' : Option Nat → List Value → Prop} (h : ∀ x s, k x s → k' (x.map kp) (s.map kv)) : lm_pA st False k → lm_pA (st.map kv) False k' := by
  cases st with
  | nil => exact id
  | cons v s => cases v <;> first | exact h none _ | exact h (some _) _ | exact fun q => q.elim
theorem pV_K {st : List Value} {k k' : Value → List Value → Prop} (h : ∀ x s, k x s → k' (kv x) (s.map kv)) : lm_pV st False k → lm_pV (st.map kv) False k' := by
  cases st with
  | nil => exact id
  | cons v s => exact h _ _
theorem p0_K {st : List Value} {k k' : Prop} (h : k → k') : lm_0 st False k → lm_0 (st.map kv) False k' := by
  cases st with
  | nil => exact h
  | cons v s => exact id
theorem kL_get (L : lm_L) (k : Nat) : (kL L).getD k none = (L.getD k none).map kv := by
  show (L.map (Option.map kv)).getD k none = _
  rw [List.getD_eq_getElem?_getD, List.getD_eq_getElem?_getD, List.getElem?_map]
  cases L[k]? <;> rfl
theorem oL_K {L : lm_L} {k : Nat} {f f' : Value → Prop} (h : ∀ v, f v → f' (kv v)) : lm_o (L.getD k none) False f → lm_o ((kL L).getD k none) False f' := by
  rw [kL_get]
  cases L.getD k none with
  | none => exact id
  | some v => exact h v
theorem kL_kill (L : lm_L) (k : Nat) : kL (lm_kill L k) = lm_kill (kL L) k := by
  unfold lm_kill
  by_cases h : k = 0
  · rw [if_pos h, if_pos h]
  · rw [if_neg h, if_neg h, kL_get]
    cases L.getD (k - 1) none with
    | none => rfl
    | some w =>
      show kL (if w.category = 2 then L.set (k - 1) none else L) = if (kv w).category = 2 then (kL L).set (k - 1) none else kL L
      rw [kv_cat]
      by_cases c : w.category = 2
      · rw [if_pos c, if_pos c]
        exact List.map_set
      · rw [if_neg c, if_neg c]
theorem kL_put (L : lm_L) (k : Nat) (v : Value) : kL (lm_put L k v) = lm_put (kL L) k (kv v) := by
  unfold lm_put
  rw [← kL_kill]
  exact List.map_set
theorem kL_putL (L : lm_L) (k : Nat) (v : Value) : kL (lm_putL L k v) = lm_putL (kL L) k (kv v) := by
  unfold lm_putL
  rw [← kL_kill]
  show List.map (Option.map kv) (((lm_kill L k).set (k + 1) none).set k (some v)) = _
  rw [List.map_set, List.map_set]
  rfl
theorem kL_len (L : lm_L) : (kL L).length = L.length := List.length_map _
theorem oP_K {n : Nat} {st : List Value} {k k' : List Value × List Value → Prop} (h : ∀ a b, k (a, b) → k' (a.map kv, b.map kv)) : lm_o (lm_pop n st) False k → lm_o (lm_pop n (st.map kv)) False k' := by
  unfold lm_pop
  rw [List.length_map]
  by_cases c : n ≤ st.length
  · rw [if_pos c, if_pos c]
    show k ((st.take n).reverse, st.drop n) → k' (((st.map kv).take n).reverse, (st.map kv).drop n)
    rw [← List.map_take, ← List.map_drop, ← List.map_reverse]
    exact h _ _
  · rw [if_neg c, if_neg c]
    exact id
def lm_RN (g h : lm_H) : Prop := (h.1 = g.1.take 46 ++ g.1.drop 49 ∧ 49 ≤ g.1.length ∧ (∀ a, 46 ≤ a → a < 49 → g.1[a]? = some (10, 0)) ∧ ∀ (a : Nat) (x : Nat × Nat), g.1[a]? = some x → ¬ x.1 = 8) ∧ (∀ a, lm_i h (kp a) = lm_i g a ∧ lm_l h (kp a) = lm_l g a) ∧ lm_r h 1000000 = lm_r g 1000000 ∧ ∀ a, ¬ a = 1000000 → ∀ k, lm_r h (kp a) k = (lm_r g a k).map kp
theorem RN_len {g h : lm_H} (R : lm_RN g h) : h.1.length = g.1.length - 3 := by
  have := R.1.2.1
  rw [R.1.1, List.length_append, List.length_take, List.length_drop]
  omega
theorem RN_at {g h : lm_H} (R : lm_RN g h) {a : Nat} (ha : a < 1000000) (hn : ¬ (46 ≤ a ∧ a < 49)) : h.1[kp a]? = g.1[a]? := by
  have hl := R.1.2.1
  rw [R.1.1]
  by_cases c : a < 46
  · rw [kp_lo c, List.getElem?_append_left (by rw [List.length_take]; omega), List.getElem?_take, if_pos c]
  · rw [kp_mid (by omega) ha, List.getElem?_append_right (by rw [List.length_take]; omega), List.length_take, List.getElem?_drop]
    congr 1
    omega
theorem RN_sh {g h : lm_H} (R : lm_RN g h) {a : Nat} {x : Nat × Nat} (hx : lm_sh g a = some x) (hn : ¬ x.1 = 10) : lm_sh h (kp a) = some x := by
  unfold lm_sh at hx ⊢
  by_cases ha : a < 1000000
  · rw [if_pos ha] at hx
    rw [if_pos (kp_lt ha)]
    by_cases c : 46 ≤ a ∧ a < 49
    · rw [R.1.2.2.1 a c.1 c.2] at hx
      cases hx
      exact absurd rfl hn
    · rw [RN_at R ha c]
      exact hx
  · rw [if_neg ha] at hx
    rw [kp_hi (by omega), if_neg ha]
    unfold lm_pre at hx ⊢
    rw [R.2.2.1]
    exact hx
theorem RN_lt {g h : lm_H} (R : lm_RN g h) {a : Nat} {x : Nat × Nat} (hx : lm_sh g a = some x) (h6 : x.1 ≤ 6) : ¬ a = 1000000 := by
  have := (lm_sh_lt hx h6).1
  omega
theorem RN_si {g h : lm_H} (R : lm_RN g h) (a k : Nat) (v : Int32) : lm_RN (lm_si g a k v) (lm_si h (kp a) k v) := by
  refine ⟨R.1, fun b => ⟨?_, (R.2.1 b).2⟩, R.2.2⟩
  funext j
  rw [pi_si, pi_si, (R.2.1 b).1]
  simp only [kp_eq]
theorem RN_sl {g h : lm_H} (R : lm_RN g h) (a k : Nat) (v : Int64) : lm_RN (lm_sl g a k v) (lm_sl h (kp a) k v) := by
  refine ⟨R.1, fun b => ⟨(R.2.1 b).1, ?_⟩, R.2.2⟩
  funext j
  rw [pl_sl, pl_sl, (R.2.1 b).2]
  simp only [kp_eq]
theorem RN_row {g h : lm_H} (R : lm_RN g h) (a : Nat) (f : Nat → Int32) : lm_RN (lm_row g a f) (lm_row h (kp a) f) := by
  refine ⟨R.1, fun b => ⟨?_, (R.2.1 b).2⟩, R.2.2⟩
  funext j
  rw [pi_row, pi_row, (R.2.1 b).1]
  simp only [kp_eq]
theorem RN_sr {g h : lm_H} (R : lm_RN g h) {a : Nat} (ha : ¬ a = 1000000) (k : Nat) (v : Option Nat) : lm_RN (lm_sr g a k v) (lm_sr h (kp a) k (v.map kp)) := by
  refine ⟨R.1, R.2.1, ?_, fun b hb j => ?_⟩
  · funext j
    have e : ¬ 1000000 = kp a := by
      intro q
      rw [show (1000000 : Nat) = kp 1000000 from (kp_hi (Nat.le_refl _)).symm] at q
      exact ha (kp_inj q).symm
    rw [pr_sr, pr_sr, if_neg e, if_neg (fun q => ha q.symm), R.2.2.1]
  · rw [pr_sr, pr_sr, R.2.2.2 b hb j]
    simp only [kp_eq]
    split
    · split <;> rfl
    · rfl
theorem RN_new {g h : lm_H} (R : lm_RN g h) {x : Nat × Nat} (hx : ¬ x.1 = 8) (hl : g.1.length < 1000000) : lm_RN (lm_new g x) (lm_new h x) ∧ kp g.1.length = h.1.length := by
  have h49 := R.1.2.1
  have e0 : kp g.1.length = h.1.length := by rw [kp_mid h49 hl, RN_len R]
  have e1 : ∀ b, (b = h.1.length) = (b = kp g.1.length) := fun b => by rw [e0]
  refine ⟨⟨⟨?_, ?_, fun a h1 h2 => ?_, fun a y hy => ?_⟩, fun b => ⟨?_, ?_⟩, ?_, fun b hb j => ?_⟩, e0⟩
  · show h.1 ++ [x] = (g.1 ++ [x]).take 46 ++ (g.1 ++ [x]).drop 49
    rw [List.take_append_of_le_length (by omega), List.drop_append_of_le_length (by omega), R.1.1, List.append_assoc]
  · show 49 ≤ (g.1 ++ [x]).length
    rw [List.length_append]
    omega
  · show (g.1 ++ [x])[a]? = some (10, 0)
    rw [List.getElem?_append_left (by omega)]
    exact R.1.2.2.1 a h1 h2
  · have hy : (g.1 ++ [x])[a]? = some y := hy
    rcases Nat.lt_or_ge a g.1.length with c | c
    · rw [List.getElem?_append_left c] at hy
      exact R.1.2.2.2 a y hy
    · rw [List.getElem?_append_right c] at hy
      have : a - g.1.length = 0 := by
        apply Classical.byContradiction
        intro q
        rw [List.getElem?_eq_none (by simp; omega)] at hy
        cases hy
      rw [this] at hy
      cases hy
      exact hx
  · funext j
    show (if kp b = h.1.length then (0 : Int32) else lm_i h (kp b) j) = (if b = g.1.length then (0 : Int32) else lm_i g b j)
    rw [(R.2.1 b).1]
    simp only [e1, kp_eq]
  · funext j
    show (if kp b = h.1.length then (0 : Int64) else lm_l h (kp b) j) = (if b = g.1.length then (0 : Int64) else lm_l g b j)
    rw [(R.2.1 b).2]
    simp only [e1, kp_eq]
  · funext j
    show (if 1000000 = h.1.length then (none : Option Nat) else lm_r h 1000000 j) = (if 1000000 = g.1.length then (none : Option Nat) else lm_r g 1000000 j)
    rw [R.2.2.1, if_neg (by rw [RN_len R]; omega), if_neg (by omega)]
  · show (if kp b = h.1.length then (none : Option Nat) else lm_r h (kp b) j) = (if b = g.1.length then (none : Option Nat) else lm_r g b j).map kp
    rw [R.2.2.2 b hb j]
    simp only [e1, kp_eq]
    split <;> rfl
theorem oS_K {g h : lm_H} (R : lm_RN g h) {a : Nat} {k k' : Nat × Nat → Prop} (h10 : ∀ x, x.1 = 10 → k x → False) (hk : ∀ x, lm_sh g a = some x → k x → k' x) : lm_o (lm_sh g a) False k → lm_o (lm_sh h (kp a)) False k' := by
  intro hs
  obtain ⟨x, hx, h2⟩ := lm_o_F hs
  by_cases c : x.1 = 10
  · exact (h10 x c h2).elim
  · rw [RN_sh R hx c]
    exact hk x hx h2
theorem iN_F {c : Prop} [Decidable c] {a : Prop} (hc : ¬ c) (h : if c then a else False) : False := by
  rw [if_neg hc] at h
  exact h
theorem lm_o_some {α β : Type} (b : β) (f : α) (k : β → α) : lm_o (some b) f k = k b := rfl
theorem kv_fget {g h : lm_H} (R : lm_RN g h) {a : Nat} (ha : ¬ a = 1000000) (c k : Nat) : kv (lm_fget (lm_r g) g a c k) = lm_fget (lm_r h) h (kp a) c k := by
  unfold lm_fget
  generalize lm_fk (lm_ty c k) = n
  match n with
  | 0 =>
    show kv (.int (lm_i g a k)) = .int (lm_i h (kp a) k)
    rw [(R.2.1 a).1]
    rfl
  | 1 =>
    show kv (.long (lm_l g a k)) = .long (lm_l h (kp a) k)
    rw [(R.2.1 a).2]
    rfl
  | 2 =>
    show kv (va_rf (lm_r g a k)) = va_rf (lm_r h (kp a) k)
    rw [R.2.2.2 a ha k, kv_rf]
  | n + 3 =>
    show kv (.int (lm_i g a k)) = .int (lm_i h (kp a) k)
    rw [(R.2.1 a).1]
    rfl
set_option maxHeartbeats 8000000 in
theorem lm_step_ren (ct : Bool) (o : Nat) (rty : Option FieldType) (i : Instr) (len : Nat) (pc : Nat) (L : lm_L) (st : List Value) {g h : lm_H} (R : lm_RN g h) {nx nx' : Nat → lm_L → List Value → lm_H → Prop} {rt rt' : Option Value → Prop} {cl cl' : Nat → List Value → List Value → Prop}
    (hn : ∀ pc L st g h, lm_RN g h → nx pc L st g → nx' pc (kL L) (st.map kv) h) (hr : ∀ v, rt v → rt' (v.map kv)) (hc : ∀ m a b, cl m a b → cl' m (a.map kv) (b.map kv)) : lm_stepK ct (lm_sh g) (lm_r g) o rty i len pc L st g False nx rt cl → lm_stepK ct (lm_sh h) (lm_r h) o rty i len pc (kL L) (st.map kv) h False nx' rt' cl' := by
  have hf : ∀ pc L s x, nx pc L (va_rf x :: s) g → nx' pc (kL L) (va_rf (x.map kp) :: s.map kv) h := by
    intro pc L s x q
    have := hn _ _ _ _ _ R q
    rw [List.map_cons, kv_rf] at this
    exact this
  have hp : ∀ pc L k s x, nx pc (lm_put L k x) s g → nx' pc (lm_put (kL L) k (kv x)) (s.map kv) h := by
    intro pc L k s x q
    have := hn _ _ _ _ _ R q
    rw [kL_put] at this
    exact this
  have hpL : ∀ pc L k s x, nx pc (lm_putL L k x) s g → nx' pc (lm_putL (kL L) k (kv x)) (s.map kv) h := by
    intro pc L k s x q
    have := hn _ _ _ _ _ R q
    rw [kL_putL] at this
    exact this
  cases i
  case ldc k =>
    simp only [lm_stepK]
    refine lm_o_M (lm_o_M id fun j => ?_) fun v => hn _ _ _ _ _ R
    intro q
    have := hn _ _ _ _ _ R q
    rw [List.map_cons, show kv (.ref (1000001 + j.1)) = .ref (1000001 + j.1) from congrArg Value.ref (kp_hi (by omega))] at this
    exact this
  case getstatic k =>
    simp only [lm_stepK]
    refine lm_o_M id fun v => lm_if_M (hn _ _ _ _ _ R) ?_
    intro q
    have := hf _ _ _ _ q
    rw [← R.2.2.2 1000001 (by decide) 0, kp_hi (by decide)] at this
    exact this
  case iload_n k =>
    simp only [lm_stepK]
    refine oL_K fun v => ?_
    exact pI_K (st := [v]) fun x _ => hn _ _ _ _ _ R
  case iload k =>
    simp only [lm_stepK]
    refine oL_K fun v => ?_
    exact pI_K (st := [v]) fun x _ => hn _ _ _ _ _ R
  case lload_n k =>
    simp only [lm_stepK]
    refine oL_K fun v => ?_
    exact pL_K (st := [v]) fun x _ => hn _ _ _ _ _ R
  case lload k =>
    simp only [lm_stepK]
    refine oL_K fun v => ?_
    exact pL_K (st := [v]) fun x _ => hn _ _ _ _ _ R
  case aload_n k =>
    simp only [lm_stepK]
    refine oL_K fun v => ?_
    exact pA_K (st := [v]) fun x _ => hf _ _ _ _
  case aload k =>
    simp only [lm_stepK]
    refine oL_K fun v => ?_
    exact pA_K (st := [v]) fun x _ => hf _ _ _ _
  case istore_n k =>
    simp only [lm_stepK, kL_len]
    exact pI_K fun x s => lm_if_M (hp _ _ _ _ (.int x)) id
  case istore k =>
    simp only [lm_stepK, kL_len]
    exact pI_K fun x s => lm_if_M (hp _ _ _ _ (.int x)) id
  case lstore_n k =>
    simp only [lm_stepK, kL_len]
    exact pL_K fun x s => lm_if_M (hpL _ _ _ _ (.long x)) id
  case lstore k =>
    simp only [lm_stepK, kL_len]
    exact pL_K fun x s => lm_if_M (hpL _ _ _ _ (.long x)) id
  case astore_n k =>
    simp only [lm_stepK, kL_len]
    refine pA_K fun x s => lm_if_M ?_ id
    rw [← kv_rf]
    exact hp _ _ _ _ _
  case astore k =>
    simp only [lm_stepK, kL_len]
    refine pA_K fun x s => lm_if_M ?_ id
    rw [← kv_rf]
    exact hp _ _ _ _ _
  case iinc k n =>
    simp only [lm_stepK, kL_len]
    refine oL_K fun v => ?_
    exact pI_K (st := [v]) fun x _ => lm_if_M (hp _ _ _ _ (.int (x + Int32.ofInt n))) id
  case dup =>
    simp only [lm_stepK]
    refine pV_K fun v s => ?_
    rw [kv_cat]
    exact lm_if_M (hn _ _ _ _ _ R) id
  case pop =>
    simp only [lm_stepK]
    refine pV_K fun v s => ?_
    rw [kv_cat]
    exact lm_if_M (hn _ _ _ _ _ R) id
  case dup2 =>
    simp only [lm_stepK]
    refine pV_K fun v s => ?_
    rw [kv_cat]
    refine lm_if_M (hn _ _ _ _ _ R) (pV_K fun w s => ?_)
    rw [kv_cat]
    exact lm_if_M (hn _ _ _ _ _ R) id
  case ifnull off =>
    simp only [lm_stepK]
    refine pA_K fun x s => lm_tg_M id fun t => ?_
    cases x with
    | none => exact hn _ _ _ _ _ R
    | some x => exact hn _ _ _ _ _ R
  case ifnonnull off =>
    simp only [lm_stepK]
    refine pA_K fun x s => lm_tg_M id fun t => ?_
    cases x with
    | none => exact hn _ _ _ _ _ R
    | some x => exact hn _ _ _ _ _ R
  case getfield k =>
    simp only [lm_stepK]
    refine pR_K fun a s => oS_K R (fun x c q => ?_) fun x hx => ?_
    · rw [if_neg (by omega)] at q
      obtain ⟨e, _, q⟩ := lm_o_F q
      exact iN_F (by omega) q
    · by_cases c8 : x.1 = 8
      · rw [if_pos c8, if_pos c8]
        have ha : 1000000 ≤ a := by
          apply Classical.byContradiction
          intro hlt
          have hx2 : g.1[a]? = some x := by
            unfold lm_sh at hx
            rw [if_pos (by omega)] at hx
            exact hx
          exact R.1.2.2.2 a x hx2 c8
        refine lm_o_M id fun e => lm_if_M ?_ (hn _ _ _ _ _ R)
        intro q
        have := hn _ _ _ _ _ R q
        rw [List.map_cons, show kv (.ref (a + 19)) = .ref (kp a + 19) from congrArg Value.ref (by rw [kp_hi ha, kp_hi (by omega)])] at this
        exact this
      · rw [if_neg c8, if_neg c8]
        refine lm_o_M id fun e => ?_
        by_cases ce : x.1 = 0 ∧ x.2 = e.1
        · rw [if_pos ce, if_pos ce]
          intro q
          have := hn _ _ _ _ _ R q
          rw [List.map_cons, kv_fget R (RN_lt R hx (by omega))] at this
          exact this
        · rw [if_neg ce, if_neg ce]
          exact id
  case putfield k =>
    simp only [lm_stepK]
    refine lm_o_M id fun e => ?_
    refine lm_if_M ?_ (lm_if_M (lm_if_M ?_ id) ?_)
    · exact pL_K fun v s => pR_K fun a s => oS_K R (fun x c q => iN_F (by omega) q) fun x hx => lm_if_M (hn _ _ _ _ _ (RN_sl R _ _ _)) id
    · refine pA_K fun v s => pR_K fun a s => oS_K R (fun x c q => iN_F (fun p => by have := p.1; omega) q) fun x hx => ?_
      by_cases ce : x.1 = 0 ∧ x.2 = e.1 ∧ lm_r g a e.2.1 = none
      · have ha := RN_lt R hx (by have := ce.1; omega)
        rw [if_pos ce, if_pos ⟨ce.1, ce.2.1, by rw [R.2.2.2 a ha, ce.2.2]; rfl⟩]
        exact hn _ _ _ _ _ (RN_sr R ha _ _)
      · rw [if_neg ce]
        exact fun q => q.elim
    · exact pI_K fun v s => pR_K fun a s => oS_K R (fun x c q => iN_F (by omega) q) fun x hx => lm_if_M (lm_nar_M id (hn _ _ _ _ _ (RN_si R _ _ _))) id
  case iaload =>
    simp only [lm_stepK]
    refine pI_K fun i s => pR_K fun a s => oS_K R (fun x c q => iN_F (by omega) q) fun x hx => ?_
    rw [(R.2.1 a).1]
    exact lm_if_M (lm_in_M id (hn _ _ _ _ _ R)) id
  case baload =>
    simp only [lm_stepK]
    refine pI_K fun i s => pR_K fun a s => oS_K R (fun x c q => ?_) fun x hx => ?_
    · rw [if_neg (by omega)] at q
      exact iN_F (by omega) q
    · rw [(R.2.1 a).1]
      exact lm_if_M (lm_in_M id (hn _ _ _ _ _ R)) (lm_if_M (lm_in_M id (hn _ _ _ _ _ R)) id)
  case laload =>
    simp only [lm_stepK]
    refine pI_K fun i s => pR_K fun a s => oS_K R (fun x c q => iN_F (by omega) q) fun x hx => ?_
    rw [(R.2.1 a).2]
    exact lm_if_M (lm_in_M id (hn _ _ _ _ _ R)) id
  case aaload =>
    simp only [lm_stepK]
    refine pI_K fun i s => pR_K fun a s => oS_K R (fun x c q => iN_F (by omega) q) fun x hx => ?_
    by_cases ce : x.1 = 5 ∨ x.1 = 6
    · have ha := RN_lt R hx (by omega)
      rw [if_pos ce, if_pos ce, R.2.2.2 a ha]
      exact lm_in_M id (hf _ _ _ _)
    · rw [if_neg ce]
      exact fun q => q.elim
  case iastore =>
    simp only [lm_stepK]
    exact pI_K fun v s => pI_K fun i s => pR_K fun a s => oS_K R (fun x c q => iN_F (by omega) q) fun x hx => lm_if_M (lm_in_M id (hn _ _ _ _ _ (RN_si R _ _ _))) id
  case bastore =>
    simp only [lm_stepK]
    refine pI_K fun v s => pI_K fun i s => pR_K fun a s => oS_K R (fun x c q => ?_) fun x hx => ?_
    · rw [if_neg (by omega)] at q
      exact iN_F (by omega) q
    · exact lm_if_M (lm_in_M id (hn _ _ _ _ _ (RN_si R _ _ _))) (lm_if_M (lm_in_M id (hn _ _ _ _ _ (RN_si R _ _ _))) id)
  case lastore =>
    simp only [lm_stepK]
    exact pL_K fun v s => pI_K fun i s => pR_K fun a s => oS_K R (fun x c q => iN_F (by omega) q) fun x hx => lm_if_M (lm_in_M id (hn _ _ _ _ _ (RN_sl R _ _ _))) id
  case aastore =>
    simp only [lm_stepK]
    refine pA_K fun v s => pI_K fun i s => pR_K fun a s => oS_K R (fun x c q => iN_F (by rintro (p | p); omega; have := p.1; omega) q) fun x hx => ?_
    by_cases ce : x.1 = 5 ∨ (x.1 = 6 ∧ ct = true ∧ lm_r g a i.toNatClampNeg = none)
    · have h6 : x.1 ≤ 6 := by
        rcases ce with p | p
        · omega
        · have := p.1
          omega
      have ha := RN_lt R hx h6
      have ce2 : x.1 = 5 ∨ (x.1 = 6 ∧ ct = true ∧ lm_r h (kp a) i.toNatClampNeg = none) := by
        rcases ce with p | p
        · exact Or.inl p
        · exact Or.inr ⟨p.1, p.2.1, by rw [R.2.2.2 a ha, p.2.2]; rfl⟩
      rw [if_pos ce, if_pos ce2]
      refine lm_in_M id ?_
      cases v with
      | none => exact hn _ _ _ _ _ (RN_sr R ha _ none)
      | some b =>
        rw [lm_o_some, Option.map_some, lm_o_some]
        exact oS_K R (fun y c q => iN_F (fun p => by have := p.1; omega) q) fun y hy => lm_if_M (hn _ _ _ _ _ (RN_sr R ha _ (some b))) id
    · rw [if_neg ce]
      exact fun q => q.elim
  case arraylength =>
    simp only [lm_stepK]
    refine pR_K fun a s => oS_K R (fun x c q => ?_) fun x hx => lm_o_M id fun n => hn _ _ _ _ _ R
    obtain ⟨x1, x2⟩ := x
    have c : x1 = 10 := c
    subst c
    exact q
  case newarray t =>
    simp only [lm_stepK]
    refine pI_K fun n s q => ?_
    obtain ⟨t2, ht, q⟩ := lm_o_F q
    obtain ⟨hc2, q⟩ := lm_if_T q
    have hl : ¬ 1000000 ≤ g.1.length := fun p => hc2 (Or.inr (Or.inr p))
    have t8 : ¬ t2 = 8 := by
      cases t <;> simp [lm_atag] at ht <;> subst ht <;> decide
    obtain ⟨R2, e⟩ := RN_new R (x := (t2, n.toNatClampNeg)) t8 (by omega)
    rw [ht, lm_o_some, if_neg (fun p => hc2 (by
      rcases p with p | p | p
      · exact Or.inl p
      · exact Or.inr (Or.inl p)
      · rw [RN_len R] at p
        omega))]
    have := hn _ _ _ _ _ R2 q
    rw [List.map_cons, show kv (.ref g.1.length) = .ref h.1.length from congrArg Value.ref e] at this
    exact this
  case anewarray k =>
    simp only [lm_stepK]
    refine pI_K fun n s q => ?_
    obtain ⟨t2, ht, q⟩ := lm_o_F q
    obtain ⟨hc2, q⟩ := lm_if_T q
    have hl : ¬ 1000000 ≤ g.1.length := fun p => hc2 (Or.inr (Or.inr p))
    have t8 : ¬ t2.1 = 8 := by
      have hk := lm_pas_ok ht
      unfold lm_okA at hk
      simp only [Bool.and_eq_true, decide_eq_true_eq] at hk
      have := hk.1
      omega
    obtain ⟨R2, e⟩ := RN_new R (x := (t2.1, n.toNatClampNeg)) t8 (by omega)
    rw [ht, lm_o_some, if_neg (fun p => hc2 (by
      rcases p with p | p | p
      · exact Or.inl p
      · exact Or.inr (Or.inl p)
      · rw [RN_len R] at p
        omega))]
    have := hn _ _ _ _ _ R2 q
    rw [List.map_cons, show kv (.ref g.1.length) = .ref h.1.length from congrArg Value.ref e] at this
    exact this
  case new k =>
    simp only [lm_stepK]
    refine lm_o_M id fun e2 q => ?_
    obtain ⟨hc2, q⟩ := lm_if_T q
    obtain ⟨R2, e⟩ := RN_new R (x := (0, e2.1)) (show ¬ (0 : Nat) = 8 by decide) (by omega)
    rw [if_neg (by rw [RN_len R]; omega)]
    have := hn _ _ _ _ _ R2 q
    rw [List.map_cons, show kv (.ref g.1.length) = .ref h.1.length from congrArg Value.ref e] at this
    exact this
  case invokespecial k =>
    simp only [lm_stepK]
    refine lm_o_M id fun e => lm_if_M ?_ ?_
    · refine pR_K fun _ s => ?_
      rw [cat_K]
      exact lm_if_M (hn _ _ _ _ _ R) id
    · refine lm_o_M id fun y => oP_K fun a b => ?_
      dsimp only
      rw [cat_K]
      exact pR_K fun _ _ => lm_if_M (hc _ _ _) id
  case invokevirtual k =>
    simp only [lm_stepK]
    refine lm_o_M id fun e => lm_o_M id fun y => oP_K fun a b => ?_
    dsimp only
    rw [cat_K]
    exact pR_K fun r _ => oS_K R (fun x c q => iN_F (by omega) q) fun x hx => lm_if_M (hc _ _ _) id
  case invokestatic k =>
    simp only [lm_stepK]
    refine lm_o_M id fun e => lm_if_M ?_ (lm_if_M ?_ (lm_if_M ?_ (lm_if_M ?_ (lm_if_M ?_ ?_))))
    · refine pI_K fun n s => pI_K fun dp s => pR_K fun b s => pI_K fun sp s => pR_K fun a s => oS_K R (fun x c q => ?_) fun x hx => oS_K R (fun y c q => ?_) fun y hy => ?_
      · obtain ⟨y, _, q⟩ := lm_o_F q
        exact iN_F (fun p => by have := p.1; omega) q
      · exact iN_F (fun p => by have := p.2.1; omega) q
      · rw [cat_K, show h.2.1 (kp a) = g.2.1 a from (R.2.1 a).1, show h.2.1 (kp b) = g.2.1 b from (R.2.1 b).1]
        exact lm_if_M (hn _ _ _ _ _ (RN_row R _ _)) id
    · refine pI_K fun y s => pI_K fun x s => ?_
      rw [cat_K]
      exact lm_if_M (hn _ _ _ _ _ R) id
    · refine pI_K fun y s => pI_K fun x s => ?_
      rw [cat_K]
      exact lm_if_M (hn _ _ _ _ _ R) id
    · refine pL_K fun y s => pL_K fun x s => ?_
      rw [cat_K]
      exact lm_if_M (hn _ _ _ _ _ R) id
    · refine pL_K fun y s => pL_K fun x s => ?_
      rw [cat_K]
      exact lm_if_M (hn _ _ _ _ _ R) id
    · refine lm_o_M id fun y => oP_K fun a b => ?_
      dsimp only
      rw [cat_K]
      exact lm_if_M (hc _ _ _) id
  case ireturn =>
    simp only [lm_stepK]
    exact pI_K fun x s => p0_K (lm_o_M id fun ty => lm_nar_M id (hr _))
  case lreturn =>
    simp only [lm_stepK]
    exact pL_K fun x s => p0_K (lm_o_M id fun ty => lm_if_M (hr _) id)
  case areturn =>
    simp only [lm_stepK]
    refine pA_K fun x s => p0_K (lm_o_M id fun ty => lm_if_M ?_ id)
    intro q
    have := hr _ q
    rw [Option.map_some, kv_rf] at this
    exact this
  case return_ =>
    simp only [lm_stepK]
    exact p0_K (lm_o_M (hr _) fun _ => id)
  all_goals (simp only [lm_stepK]; repeat' (first | exact id | exact hn _ _ _ _ _ R | refine pI_K fun _ _ => ?_ | refine pL_K fun _ _ => ?_ | refine lm_tg_M ?_ fun _ => ?_ | refine lm_sw_M fun _ => ?_ | refine lm_br_M ?_ ?_ | refine lm_o_M ?_ fun _ => ?_ | refine lm_if_M ?_ ?_))
theorem kL_ent (args : List Value) : kL (lm_ent args) = lm_ent (args.map kv) := by
  induction args with
  | nil => rfl
  | cons v s ih =>
    show List.map (Option.map kv) ((if v.category = 2 then [some v, none] else [some v]) ++ lm_ent s) = (if (kv v).category = 2 then [some (kv v), none] else [some (kv v)]) ++ lm_ent (s.map kv)
    rw [List.map_append, kv_cat, ← ih]
    by_cases c : v.category = 2
    · rw [if_pos c, if_pos c]
      rfl
    · rw [if_neg c, if_neg c]
      rfl
theorem kL_entlen (args : List Value) : (lm_ent (args.map kv)).length = (lm_ent args).length := by rw [← kL_ent, kL_len]
theorem kL_entry (n : Nat) (args : List Value) : kL (lm_entry n args) = lm_entry n (args.map kv) := by
  unfold lm_entry
  rw [kL_entlen, ← kL_ent]
  show List.map (Option.map kv) (lm_ent args ++ List.replicate (n - (lm_ent args).length) none) = _
  rw [List.map_append, List.map_replicate]
  rfl
theorem toL_K (x : Option Value) (s : List Value) : (x.toList ++ s).map kv = (x.map kv).toList ++ s.map kv := by cases x <;> rfl
theorem lm_run_ren : ∀ (n : Nat) {d M pc : Nat} {L : lm_L} {st : List Value} {g h : lm_H} {v : Option Value} {g' : lm_H}, lm_run n d M pc L st g = some (v, g') → lm_RN g h → ∃ h', lm_run n d M pc (kL L) (st.map kv) h = some (v.map kv, h') ∧ lm_RN g' h' := by
  intro n
  induction n with
  | zero => intro d M pc L st g h v g' hr; simp [lm_run] at hr
  | succ n ih =>
    intro d M pc L st g h v g' hr R
    rw [lm_run] at hr
    rw [lm_run]
    cases hf : lm_f (lm_tabs.getD M []) pc with
    | none => rw [hf] at hr; simp [lm_o] at hr
    | some e =>
      rw [hf] at hr
      simp only [lm_o] at hr ⊢
      have key := lm_step_ren (lm_ct M) (lm_own.getD M 0) (lm_rs.getD M none) e.1 e.2 pc L st R (nx := fun pc' L1 st' g1 => lm_run n d M pc' L1 st' g1 = some (v, g')) (nx' := fun pc' L1 st' h1 => ∃ h', lm_run n d M pc' L1 st' h1 = some (v.map kv, h') ∧ lm_RN g' h') (rt := fun w => some (w, g) = some (v, g')) (rt' := fun w => w = v.map kv ∧ g' = g) (cl := fun m args rest => ∃ d1, d = d1 + 1 ∧ (lm_ent args).length ≤ lm_ml.getD m 0 ∧ ∃ r, lm_run n d1 m 0 (lm_entry (lm_ml.getD m 0) args) [] g = some r ∧ lm_run n d M (pc + 3) L (r.1.toList ++ rest) r.2 = some (v, g')) (cl' := fun m args rest => ∃ d1, d = d1 + 1 ∧ (lm_ent args).length ≤ lm_ml.getD m 0 ∧ ∃ r, lm_run n d1 m 0 (lm_entry (lm_ml.getD m 0) args) [] h = some r ∧ ∃ h', lm_run n d M (pc + 3) (kL L) (r.1.toList ++ rest) r.2 = some (v.map kv, h') ∧ lm_RN g' h') (fun pc1 L1 st1 g1 h1 R1 hr1 => ih hr1 R1) (fun w hw => ?_) (fun m args rest hc => ?_) ?_
      · rw [lm_stepK_elim] at key ⊢
        cases hs : lm_step (lm_ct M) (lm_sh h) (lm_r h) (lm_own.getD M 0) (lm_rs.getD M none) e.1 e.2 pc (kL L) (st.map kv) h with
        | none => rw [hs] at key; exact key.elim
        | some x =>
          rw [hs] at key
          rcases x with ⟨a, b, c, e'⟩ | w | ⟨a, b, c⟩
          · exact key
          · simp only [lm_elim] at key ⊢
            exact ⟨h, by rw [key.1], by rw [key.2]; exact R⟩
          · obtain ⟨d1, rfl, hen, r, h1, h', h2, h3⟩ := key
            simp only [lm_elim]
            rw [if_pos hen, h1]
            exact ⟨h', h2, h3⟩
      · simp only [Option.some.injEq, Prod.mk.injEq] at hw
        rw [hw.1, hw.2]
        exact ⟨rfl, rfl⟩
      · obtain ⟨d1, rfl, hen, r, h1, h2⟩ := hc
        obtain ⟨h3, k1, k2⟩ := ih (v := r.1) (g' := r.2) h1 R
        obtain ⟨h4, k3, k4⟩ := ih h2 k2
        rw [kL_entry] at k1
        rw [toL_K] at k3
        exact ⟨d1, rfl, by rw [kL_entlen]; exact hen, (r.1.map kv, h3), k1, h4, k3, k4⟩
      · rw [lm_stepK_elim] at hr ⊢
        cases hs : lm_step (lm_ct M) (lm_sh g) (lm_r g) (lm_own.getD M 0) (lm_rs.getD M none) e.1 e.2 pc L st g with
        | none => rw [hs] at hr; simp [lm_elim] at hr
        | some x =>
          rw [hs] at hr
          rcases x with ⟨a, b, c, e'⟩ | w | ⟨a, b, c⟩
          · exact hr
          · exact hr
          · simp only [lm_elim] at hr ⊢
            cases d with
            | zero => simp at hr
            | succ d =>
              simp only at hr
              by_cases hen : (lm_ent b).length ≤ lm_ml.getD a 0
              case neg => rw [if_neg hen] at hr; cases hr
              rw [if_pos hen] at hr
              cases hc : lm_run n d a 0 (lm_entry (lm_ml.getD a 0) b) [] g with
              | none => rw [hc] at hr; simp [lm_o] at hr
              | some q =>
                rw [hc] at hr
                exact ⟨d, rfl, hen, q, hc, hr⟩
theorem lm_W_ren {d M pc : Nat} {L : lm_L} {st : List Value} {g h : lm_H} {Q Q' : Option Value → lm_H → Prop} (w : lm_W d M pc L st g Q) (R : lm_RN g h) (hQ : ∀ v g' h', Q v g' → lm_RN g' h' → Q' (v.map kv) h') : lm_W d M pc (kL L) (st.map kv) h Q' := by
  obtain ⟨n, v, g', hr, q⟩ := w
  obtain ⟨h', hr', R'⟩ := lm_run_ren n hr R
  exact ⟨n, v.map kv, h', hr', hQ v g' h' q R'⟩
/-- the heap with its cells from 46 on three further up -/
def pd (h : lm_H) : lm_H := (h.1.take 46 ++ (10, 0) :: (10, 0) :: (10, 0) :: h.1.drop 46, fun a k => h.2.1 (kp a) k, fun a k => h.2.2.1 (kp a) k, fun a k => if a = 1000000 then h.2.2.2 a k else (h.2.2.2 (kp a) k).map kq)
theorem pd_RN {h : lm_H} (hl : 46 ≤ h.1.length) (h8 : ∀ x ∈ h.1, ¬ x.1 = 8) : lm_RN (pd h) h := by
  have e46 : (h.1.take 46).length = 46 := by rw [List.length_take]; omega
  refine ⟨⟨?_, ?_, fun a h1 h2 => ?_, fun a x hx => ?_⟩, fun a => ⟨rfl, rfl⟩, ?_, fun a ha k => ?_⟩
  · show h.1 = (h.1.take 46 ++ (10, 0) :: (10, 0) :: (10, 0) :: h.1.drop 46).take 46 ++ (h.1.take 46 ++ (10, 0) :: (10, 0) :: (10, 0) :: h.1.drop 46).drop 49
    rw [List.take_left' e46, List.drop_append, List.drop_eq_nil_of_le (by omega), e46]
    show h.1 = h.1.take 46 ++ h.1.drop 46
    rw [List.take_append_drop]
  · show 49 ≤ (h.1.take 46 ++ (10, 0) :: (10, 0) :: (10, 0) :: h.1.drop 46).length
    rw [List.length_append, e46]
    simp only [List.length_cons]
    omega
  · show (h.1.take 46 ++ (10, 0) :: (10, 0) :: (10, 0) :: h.1.drop 46)[a]? = some (10, 0)
    rw [List.getElem?_append_right (by omega), e46]
    have : a = 46 ∨ a = 47 ∨ a = 48 := by omega
    rcases this with e | e | e <;> subst e <;> rfl
  · have hm : x ∈ h.1.take 46 ++ (10, 0) :: (10, 0) :: (10, 0) :: h.1.drop 46 := List.mem_of_getElem? hx
    rw [List.mem_append] at hm
    rcases hm with q | q
    · exact h8 x (List.mem_of_mem_take q)
    · simp only [List.mem_cons] at q
      rcases q with q | q | q | q
      · rw [q]; decide
      · rw [q]; decide
      · rw [q]; decide
      · exact h8 x (List.mem_of_mem_drop q)
  · funext k
    show h.2.2.2 1000000 k = if (1000000 : Nat) = 1000000 then h.2.2.2 1000000 k else (h.2.2.2 (kp 1000000) k).map kq
    rw [if_pos rfl]
  · show h.2.2.2 (kp a) k = (if a = 1000000 then h.2.2.2 a k else (h.2.2.2 (kp a) k).map kq).map kp
    rw [if_neg ha]
    cases h.2.2.2 (kp a) k with
    | none => rfl
    | some r =>
      show some r = some (kp (kq r))
      rw [kp_kq]
theorem pd_RL {h g : lm_H} (H : lm_RL h g) : lm_RL (pd h) (pd g) := by
  refine ⟨?_, fun a ha => ⟨?_, ?_, ?_⟩⟩
  · show g.1.take 46 ++ (10, 0) :: (10, 0) :: (10, 0) :: g.1.drop 46 = h.1.take 46 ++ (10, 0) :: (10, 0) :: (10, 0) :: h.1.drop 46
    rw [H.1]
  · exact (H.2 (kp a) (kp_lt ha)).1
  · exact (H.2 (kp a) (kp_lt ha)).2.1
  · funext k
    show (if a = 1000000 then g.2.2.2 a k else (g.2.2.2 (kp a) k).map kq) = (if a = 1000000 then h.2.2.2 a k else (h.2.2.2 (kp a) k).map kq)
    rw [if_neg (by omega), if_neg (by omega), show g.2.2.2 (kp a) = h.2.2.2 (kp a) from (H.2 (kp a) (kp_lt ha)).2.2]
theorem RN_sz {g h : lm_H} (R : lm_RN g h) : lm_sz h ≤ lm_sz g := by
  have key : ∀ (l : List Nat) (k : Nat), (l.drop k).sum ≤ l.sum := by
    intro l k
    have := congrArg List.sum (List.take_append_drop k l)
    rw [List.sum_append] at this
    omega
  unfold lm_sz
  rw [R.1.1, List.map_append, List.sum_append, List.map_take, List.map_drop]
  have h1 := congrArg List.sum (List.take_append_drop 46 (g.1.map lm_size))
  rw [List.sum_append] at h1
  have h2 := key ((g.1.map lm_size).drop 46) 3
  rw [List.drop_drop, show 46 + 3 = 49 from rfl] at h2
  omega
