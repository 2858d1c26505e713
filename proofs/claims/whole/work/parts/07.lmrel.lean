/-! THE LIGHT MACHINE AND THE MACHINE: what a light heap says of a heap -/
theorem lm_pI_F {st : List Value} {k : Int32 → List Value → Prop} (h : lm_pI st False k) : ∃ x s, st = .int x :: s ∧ k x s := by
  cases st with
  | nil => exact h.elim
  | cons v s => cases v <;> first | exact ⟨_, _, rfl, h⟩ | exact h.elim
theorem lm_pL_F {st : List Value} {k : Int64 → List Value → Prop} (h : lm_pL st False k) : ∃ x s, st = .long x :: s ∧ k x s := by
  cases st with
  | nil => exact h.elim
  | cons v s => cases v <;> first | exact ⟨_, _, rfl, h⟩ | exact h.elim
theorem lm_pR_F {st : List Value} {k : Nat → List Value → Prop} (h : lm_pR st False k) : ∃ x s, st = .ref x :: s ∧ k x s := by
  cases st with
  | nil => exact h.elim
  | cons v s => cases v <;> first | exact ⟨_, _, rfl, h⟩ | exact h.elim
theorem lm_pA_F {st : List Value} {k : Option Nat → List Value → Prop} (h : lm_pA st False k) : ∃ x s, st = va_rf x :: s ∧ k x s := by
  cases st with
  | nil => exact h.elim
  | cons v s => cases v <;> first | exact ⟨none, _, rfl, h⟩ | exact ⟨some _, _, rfl, h⟩ | exact h.elim
theorem lm_pV_F {st : List Value} {k : Value → List Value → Prop} (h : lm_pV st False k) : ∃ x s, st = x :: s ∧ k x s := by
  cases st with
  | nil => exact h.elim
  | cons v s => exact ⟨_, _, rfl, h⟩
theorem lm_0_F {st : List Value} {k : Prop} (h : lm_0 st False k) : st = [] ∧ k := by
  cases st with
  | nil => exact ⟨rfl, h⟩
  | cons v s => exact h.elim
theorem lm_o_F {γ : Type} {x : Option γ} {k : γ → Prop} (h : lm_o x False k) : ∃ y, x = some y ∧ k y := by
  cases x with
  | none => exact h.elim
  | some y => exact ⟨y, rfl, h⟩
theorem lm_if_F {c : Prop} [Decidable c] {k : Prop} (h : if c then k else False) : c ∧ k := by
  by_cases hc : c
  · rw [if_pos hc] at h
    exact ⟨hc, h⟩
  · rw [if_neg hc] at h
    exact h.elim
theorem lm_if_T {c : Prop} [Decidable c] {k : Prop} (h : if c then False else k) : ¬ c ∧ k := by
  by_cases hc : c
  · rw [if_pos hc] at h
    exact h.elim
  · rw [if_neg hc] at h
    exact ⟨hc, h⟩
theorem lm_if_B {c : Prop} [Decidable c] {a b : Prop} (h : if c then a else b) : (c ∧ a) ∨ (¬ c ∧ b) := by
  by_cases hc : c
  · rw [if_pos hc] at h
    exact Or.inl ⟨hc, h⟩
  · rw [if_neg hc] at h
    exact Or.inr ⟨hc, h⟩
theorem lm_in_F {x : Int32} {n : Nat} {k : Prop} (h : lm_in x n False k) : vp_in x n ∧ k := lm_if_T h
theorem lm_tg_F {pc : Nat} {off : Int} {k : Nat → Prop} (h : lm_tg pc off False k) : ∃ t : Nat, (pc : Int) + off = (t : Int) ∧ k t := by
  obtain ⟨h1, h2⟩ := lm_if_F h
  exact ⟨_, by omega, h2⟩
theorem lm_nar_F {ty : FieldType} {x : Int32} {k : Prop} (h : lm_nar ty x False k) : vp_nar ty x = x ∧ k := by
  cases ty <;> first | exact lm_if_F h | exact ⟨rfl, h⟩
-- addresses and values
def lm_ad (base : Nat) (pre : Nat → Nat) (a : Nat) : Nat := if a < 1000000 then base + a else pre (a - 1000000)
def lm_v (base : Nat) (pre : Nat → Nat) (v : Value) : Value := match v with
  | .ref a => .ref (lm_ad base pre a)
  | w => w
theorem lm_v_cat (base : Nat) (pre : Nat → Nat) (v : Value) : (lm_v base pre v).category = v.category := by cases v <;> rfl
theorem lm_v_rf (base : Nat) (pre : Nat → Nat) (x : Option Nat) : lm_v base pre (va_rf x) = va_rf (x.map (lm_ad base pre)) := by cases x <;> rfl
def lm_nf (ci : Nat) : Nat := (vwCl.map (fun q => q.2.2)).getD ci 0
def lm_aty (g : Nat) : FieldType := if g = 1 then .int else if g = 2 then .boolean else if g = 3 then .byte else if g = 4 then .long else if g = 5 then .object RX2 else .object RX4
def lm_size (x : Nat × Nat) : Nat := if x.1 = 0 then lm_nf x.2 else x.2
def lm_sz (h : lm_H) : Nat := (h.1.map lm_size).sum
/-- a field's value, at the machine's addresses -/
def lm_fv (base : Nat) (pre : Nat → Nat) (h : lm_H) (a ci k : Nat) : Value := lm_v base pre (lm_fget (lm_r h) h a ci k)
def lm_E (base : Nat) (pre : Nat → Nat) (cs : Nat → ClassId) (h : lm_H) (a : Nat) (x : Nat × Nat) : va_E :=
  if x.1 = 0 then .inr (x.2, (List.range (lm_nf x.2)).map (lm_fv base pre h a x.2))
  else .inl (cs x.1, x.2, if x.1 = 4 then .inr (.inl (h.2.2.1 a)) else if 5 ≤ x.1 then .inr (.inr (.inr (.inr (fun j => (h.2.2.2 a j).map (lm_ad base pre))))) else .inl (h.2.1 a))
abbrev lm_tyl (cs : Nat → ClassId) : List (ClassId × FieldType) := [(cs 1, lm_aty 1), (cs 2, lm_aty 2), (cs 3, lm_aty 3), (cs 4, lm_aty 4), (cs 5, lm_aty 5), (cs 6, lm_aty 6)]
theorem lm_tyl_get (cs : Nat → ClassId) {g : Nat} (h1 : 1 ≤ g) (h2 : g ≤ 6) : (lm_tyl cs)[g - 1]? = some (cs g, lm_aty g) := by
  have : g = 1 ∨ g = 2 ∨ g = 3 ∨ g = 4 ∨ g = 5 ∨ g = 6 := by omega
  rcases this with h | h | h | h | h | h <;> subst h <;> rfl
def lm_ws (base : Nat) (pre : Nat → Nat) (cs : Nat → ClassId) (h : lm_H) : va_W := (List.range h.1.length).map (fun a => (base + a, lm_E base pre cs h a (h.1.getD a (0, 0))))
/-- the heap holds the light heap; the script's own row is as it was -/
def lm_R (D : va_G) (base : Nat) (pre : Nat → Nat) (cs : Nat → ClassId) (sL : Nat) (xs : Nat → Int32) (h : lm_H) (H : Heap) : Prop :=
  va_P D vwCl (lm_ws base pre cs h) H ∧ h.1.length ≤ 1000000 ∧ (∀ (a : Nat) (x : Nat × Nat), h.1[a]? = some x → x.1 ≤ 6 ∧ (x.1 = 0 → x.2 < 13)) ∧ lm_r h 1000000 0 = some sL ∧ (∀ j, lm_i h 1000000 j = xs j) ∧ lm_r h 1000001 0 = (if pre 41 = 0 then none else some 1000040)
abbrev lm_A (base : Nat) : Nat → Prop := fun q => base ≤ q
/-- what of the start every frame has -/
def lm_Env (D : va_G) (base : Nat) (pre : Nat → Nat) (cs : Nat → ClassId) (sL : Nat) (xs : Nat → Int32) (U : State) : Prop :=
  va_K D vwCl (lm_tyl cs) U ∧ base ≤ U.heap.size ∧ (va_X (pre 0) sL xs U U.heap ∧ pre 0 < base) ∧ vk_S 13 (lm_sb.map List.length) lm_sb (fun j => pre (1 + j)) (fun j => pre (20 + j)) (lm_A base) U U.heap ∧
  (∀ (k : Nat) (e : Nat × Nat), (lm_pss.getD 3 []).lookup k = some e → vk_R RX3 k (lm_tx.getD e.1 "") (pre (1 + e.1)) U) ∧
  va_Z "java/lang/String" "COMPACT_STRINGS" "Z" (.int 1) (lm_A base) U U.heap ∧ va_Z "jdk/internal/util/Preconditions" "SIOOBE_FORMATTER" "Ljava/util/function/BiFunction;" (if pre 41 = 0 then .null else .ref (pre 40)) (lm_A base) U U.heap
theorem lm_ad_lt {base : Nat} {pre : Nat → Nat} {a : Nat} (h : a < 1000000) : lm_ad base pre a = base + a := if_pos h
theorem lm_sh_lt {h : lm_H} {a : Nat} {x : Nat × Nat} (hs : lm_sh h a = some x) (hx : x.1 ≤ 6) : a < 1000000 ∧ h.1[a]? = some x := by
  unfold lm_sh at hs
  by_cases ha : a < 1000000
  · rw [if_pos ha] at hs
    exact ⟨ha, hs⟩
  · rw [if_neg ha] at hs
    unfold lm_pre at hs
    split at hs
    · cases hs
      simp at hx
    · split at hs
      · cases hs
        simp at hx
      · split at hs
        · cases hs
          simp at hx
        · cases hs
/-- locals -/
def lm_prs (base : Nat) (pre : Nat → Nat) (L : lm_L) : List (Nat × Value) := (List.range L.length).filterMap (fun i => (L.getD i none).map (fun v => (i, lm_v base pre v)))
theorem lm_prs_mem {base : Nat} {pre : Nat → Nat} {L : lm_L} {q : Nat × Value} : q ∈ lm_prs base pre L ↔ ∃ v, L.getD q.1 none = some v ∧ q.2 = lm_v base pre v := by
  unfold lm_prs
  rw [List.mem_filterMap]
  constructor
  · rintro ⟨i, hi, h⟩
    cases hv : L.getD i none with
    | none => rw [hv] at h; cases h
    | some v =>
      rw [hv] at h
      cases h
      exact ⟨v, hv, rfl⟩
  · rintro ⟨v, hv, h2⟩
    refine ⟨q.1, ?_, ?_⟩
    · rw [List.mem_range]
      apply Classical.byContradiction
      intro hn
      rw [List.getD_eq_getElem?_getD, List.getElem?_eq_none (by omega)] at hv
      cases hv
    · rw [hv]
      show some (q.1, lm_v base pre v) = some q
      rw [← h2]
theorem lm_prs_at {base : Nat} {pre : Nat → Nat} {L : lm_L} {ls : Array Slot} {nL : Nat} (hl : lv_has ls nL (lm_prs base pre L)) {k : Nat} {v : Value} (hk : L.getD k none = some v) : ls[k]? = some (.val (lm_v base pre v)) :=
  hl.2.2 (k, lm_v base pre v) (lm_prs_mem.mpr ⟨v, hk, rfl⟩)
theorem lm_has_of {ls : Array Slot} {nL : Nat} {l l' : List (Nat × Value)} (h : lv_has ls nL l) (hs : ∀ q ∈ l', q ∈ l) : lv_has ls nL l' := ⟨h.1, h.2.1, fun q hq => h.2.2 q (hs q hq)⟩
theorem lm_kill_get {L : lm_L} {k i : Nat} {v : Value} (h : (lm_kill L k).getD i none = some v) : L.getD i none = some v ∧ ¬ (i + 1 = k ∧ v.category = 2) := by
  unfold lm_kill at h
  by_cases hk : k = 0
  · rw [if_pos hk] at h
    exact ⟨h, fun g => by omega⟩
  · rw [if_neg hk] at h
    cases hw : L.getD (k - 1) none with
    | none =>
      rw [hw] at h
      refine ⟨h, fun g => ?_⟩
      rw [show i = k - 1 by omega, hw] at h
      cases h
    | some w =>
      rw [hw] at h
      simp only at h
      by_cases hc : w.category = 2
      · rw [if_pos hc] at h
        rw [List.getD_eq_getElem?_getD, List.getElem?_set] at h
        by_cases hi : k - 1 = i
        · rw [if_pos hi] at h
          split at h <;> simp at h
        · rw [if_neg hi, ← List.getD_eq_getElem?_getD] at h
          exact ⟨h, fun g => by omega⟩
      · rw [if_neg hc] at h
        refine ⟨h, fun g => ?_⟩
        rw [show i = k - 1 by omega, hw] at h
        cases h
        exact hc g.2
theorem lm_kill_len (L : lm_L) (k : Nat) : (lm_kill L k).length = L.length := by
  unfold lm_kill
  split
  · rfl
  · split
    · split
      · simp
      · rfl
    · rfl
theorem lm_put_len (L : lm_L) (k : Nat) (v : Value) : (lm_put L k v).length = L.length := by simp [lm_put, lm_kill_len]
theorem lm_putL_len (L : lm_L) (k : Nat) (v : Value) : (lm_putL L k v).length = L.length := by simp [lm_putL, lm_kill_len]
theorem lm_put_prs {base : Nat} {pre : Nat → Nat} {L : lm_L} {k : Nat} {v : Value} : ∀ q ∈ lm_prs base pre (lm_put L k v), q ∈ (k, lm_v base pre v) :: (lm_prs base pre L).filter (fun q => !(q.1 == k) && !(q.1 + 1 == k && q.2.category == 2)) := by
  intro q hq
  obtain ⟨w, h1, h2⟩ := lm_prs_mem.mp hq
  unfold lm_put at h1
  rw [List.getD_eq_getElem?_getD, List.getElem?_set] at h1
  by_cases hk : k = q.1
  · rw [if_pos hk] at h1
    split at h1
    · simp at h1
      subst h1
      refine List.mem_cons.mpr (Or.inl ?_)
      rw [← h2, hk]
    · simp at h1
  · rw [if_neg hk, ← List.getD_eq_getElem?_getD] at h1
    obtain ⟨g1, g2⟩ := lm_kill_get h1
    refine List.mem_cons_of_mem _ (List.mem_filter.mpr ⟨lm_prs_mem.mpr ⟨w, g1, h2⟩, ?_⟩)
    have e1 : (q.1 == k) = false := by simpa using fun h => hk h.symm
    have e2 : (q.1 + 1 == k && q.2.category == 2) = false := by
      rw [h2, lm_v_cat]
      cases e3 : (q.1 + 1 == k && w.category == 2) with
      | false => rfl
      | true =>
        simp only [Bool.and_eq_true, beq_iff_eq] at e3
        exact absurd e3 g2
    rw [e1, e2]
    rfl
theorem lm_putL_prs {base : Nat} {pre : Nat → Nat} {L : lm_L} {k : Nat} {v : Value} : ∀ q ∈ lm_prs base pre (lm_putL L k v), q ∈ (k, lm_v base pre v) :: (lm_prs base pre L).filter (fun q => !(q.1 == k) && (!(q.1 == k + 1) && !(q.1 + 1 == k && q.2.category == 2))) := by
  intro q hq
  obtain ⟨w, h1, h2⟩ := lm_prs_mem.mp hq
  unfold lm_putL at h1
  rw [List.getD_eq_getElem?_getD, List.getElem?_set] at h1
  by_cases hk : k = q.1
  · rw [if_pos hk] at h1
    split at h1
    · simp at h1
      subst h1
      refine List.mem_cons.mpr (Or.inl ?_)
      rw [← h2, hk]
    · simp at h1
  · rw [if_neg hk, List.getElem?_set] at h1
    by_cases hk1 : k + 1 = q.1
    · rw [if_pos hk1] at h1
      split at h1 <;> simp at h1
    · rw [if_neg hk1, ← List.getD_eq_getElem?_getD] at h1
      obtain ⟨g1, g2⟩ := lm_kill_get h1
      refine List.mem_cons_of_mem _ (List.mem_filter.mpr ⟨lm_prs_mem.mpr ⟨w, g1, h2⟩, ?_⟩)
      have e1 : (q.1 == k) = false := by simpa using fun h => hk h.symm
      have e0 : (q.1 == k + 1) = false := by simpa using fun h => hk1 h.symm
      have e2 : (q.1 + 1 == k && q.2.category == 2) = false := by
        rw [h2, lm_v_cat]
        cases e3 : (q.1 + 1 == k && w.category == 2) with
        | false => rfl
        | true =>
          simp only [Bool.and_eq_true, beq_iff_eq] at e3
          exact absurd e3 g2
      rw [e1, e0, e2]
      rfl
theorem lm_ws_len (base : Nat) (pre : Nat → Nat) (cs : Nat → ClassId) (h : lm_H) : (lm_ws base pre cs h).length = h.1.length := by simp [lm_ws]
theorem lm_ws_get {base : Nat} {pre : Nat → Nat} {cs : Nat → ClassId} {h : lm_H} {a : Nat} {x : Nat × Nat} (hx : h.1[a]? = some x) : (lm_ws base pre cs h)[a]? = some (base + a, lm_E base pre cs h a x) := by
  have hl : a < h.1.length := (List.getElem?_eq_some_iff.mp hx).1
  unfold lm_ws
  rw [List.getElem?_map, List.getElem?_range hl, Option.map_some, List.getD_eq_getElem?_getD, hx]
  rfl
theorem lm_ws_inv {base : Nat} {pre : Nat → Nat} {cs : Nat → ClassId} {h : lm_H} {a : Nat} {q : Nat × va_E} (hq : (lm_ws base pre cs h)[a]? = some q) : ∃ x, h.1[a]? = some x ∧ q = (base + a, lm_E base pre cs h a x) := by
  have hl : a < (lm_ws base pre cs h).length := (List.getElem?_eq_some_iff.mp hq).1
  rw [lm_ws_len] at hl
  obtain ⟨x, hx⟩ : ∃ x, h.1[a]? = some x := ⟨h.1[a], List.getElem?_eq_getElem hl⟩
  exact ⟨x, hx, Option.some.inj (hq.symm.trans (lm_ws_get hx))⟩
theorem lm_ws_D (base : Nat) (pre : Nat → Nat) (cs : Nat → ClassId) (h : lm_H) : va_D (lm_A base) (lm_ws base pre cs h) := by
  refine ⟨fun i j p q hi hj e => ?_, fun k q hk => ?_⟩
  · obtain ⟨x, -, rfl⟩ := lm_ws_inv hi
    obtain ⟨y, -, rfl⟩ := lm_ws_inv hj
    simp only at e
    omega
  · obtain ⟨x, -, rfl⟩ := lm_ws_inv hk
    exact Nat.le_add_right _ _
theorem lm_E_congr {base : Nat} {pre : Nat → Nat} {cs : Nat → ClassId} {h h' : lm_H} {b : Nat} (h1 : h'.2.1 b = h.2.1 b) (h2 : h'.2.2.1 b = h.2.2.1 b) (h3 : h'.2.2.2 b = h.2.2.2 b) (x : Nat × Nat) : lm_E base pre cs h' b x = lm_E base pre cs h b x := by
  have e : ∀ k, lm_fv base pre h' b x.2 k = lm_fv base pre h b x.2 k := by
    intro k
    unfold lm_fv lm_fget lm_i lm_l lm_r
    rw [h1, h2, h3]
  unfold lm_E
  rw [h1, h2, h3, show lm_fv base pre h' b x.2 = lm_fv base pre h b x.2 from funext e]
theorem lm_ws_set {base : Nat} {pre : Nat → Nat} {cs : Nat → ClassId} {h h' : lm_H} {a : Nat} {x : Nat × Nat} (hx : h.1[a]? = some x) (hs : h'.1 = h.1) (ho : ∀ b, b ≠ a → h'.2.1 b = h.2.1 b ∧ h'.2.2.1 b = h.2.2.1 b ∧ h'.2.2.2 b = h.2.2.2 b) : lm_ws base pre cs h' = (lm_ws base pre cs h).set a (base + a, lm_E base pre cs h' a x) := by
  have hl : a < h.1.length := (List.getElem?_eq_some_iff.mp hx).1
  apply List.ext_getElem?
  intro b
  rw [List.getElem?_set]
  by_cases hb : a = b
  · subst hb
    rw [if_pos rfl, lm_ws_len, if_pos hl]
    exact lm_ws_get (by rw [hs]; exact hx)
  · rw [if_neg hb]
    by_cases hbl : b < h.1.length
    · have hy : h.1[b]? = some h.1[b] := List.getElem?_eq_getElem hbl
      rw [lm_ws_get hy, lm_ws_get (h := h') (by rw [hs]; exact hy)]
      obtain ⟨o1, o2, o3⟩ := ho b (fun e => hb e.symm)
      rw [lm_E_congr o1 o2 o3]
    · rw [List.getElem?_eq_none (by rw [lm_ws_len, hs]; omega), List.getElem?_eq_none (by rw [lm_ws_len]; omega)]
theorem lm_u_ne {α : Type} (g : Nat → Nat → α) (a k : Nat) (v : α) {b : Nat} (h : b ≠ a) : lm_u g a k v b = g b := by
  funext j
  simp [lm_u, h]
theorem lm_u_eq {α : Type} (g : Nat → Nat → α) (a k : Nat) (v : α) : lm_u g a k v a = fun j => if j = k then v else g a j := by
  funext j
  simp [lm_u]
theorem lm_w_ne {α : Type} (g : Nat → Nat → α) (a : Nat) (r : Nat → α) {b : Nat} (h : b ≠ a) : lm_w g a r b = g b := by
  funext j
  simp [lm_w, h]
theorem lm_w_eq {α : Type} (g : Nat → Nat → α) (a : Nat) (r : Nat → α) : lm_w g a r a = r := by
  funext j
  simp [lm_w]
theorem lm_ws_new {base : Nat} {pre : Nat → Nat} {cs : Nat → ClassId} {h : lm_H} (x : Nat × Nat) : lm_ws base pre cs (lm_new h x) = lm_ws base pre cs h ++ [(base + h.1.length, lm_E base pre cs (lm_new h x) h.1.length x)] := by
  apply List.ext_getElem?
  intro b
  have hn : (lm_new h x).1 = h.1 ++ [x] := rfl
  rcases Nat.lt_trichotomy b h.1.length with hb | hb | hb
  · rw [List.getElem?_append_left (by rw [lm_ws_len]; exact hb)]
    have hy : h.1[b]? = some h.1[b] := List.getElem?_eq_getElem hb
    rw [lm_ws_get hy, lm_ws_get (h := lm_new h x) (x := h.1[b]) (by rw [hn, List.getElem?_append_left hb]; exact hy)]
    rw [lm_E_congr (lm_w_ne _ _ _ (Nat.ne_of_lt hb)) (lm_w_ne _ _ _ (Nat.ne_of_lt hb)) (lm_w_ne _ _ _ (Nat.ne_of_lt hb))]
  · subst hb
    rw [List.getElem?_append_right (by rw [lm_ws_len]; exact Nat.le_refl _), lm_ws_len, Nat.sub_self]
    exact lm_ws_get (h := lm_new h x) (by rw [hn, List.getElem?_append_right (Nat.le_refl _), Nat.sub_self]; rfl)
  · rw [List.getElem?_eq_none (by rw [lm_ws_len, hn]; simp; omega), List.getElem?_eq_none (by simp [lm_ws_len]; omega)]
theorem lm_sz_new (h : lm_H) (x : Nat × Nat) : lm_sz (lm_new h x) = lm_sz h + lm_size x := by simp [lm_sz, lm_new]
