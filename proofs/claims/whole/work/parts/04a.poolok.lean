def lm_tl : List (List Cond) := [k2_sels lw_privs_1, k2_sels lw_privs_2, k2_sels lw_privs_3, k2_sels lw_privs_4, k2_sels lw_privs_5, k2_sels lw_privs_6, k2_sels lw_privs_7, k2_sels lw_privs_8, k2_sels lw_privs_9, k2_sels lw_privs_10, tables_1_1, tables_1_2, tables_1_3, tables_1_4, tables_1_5, tables_1_6, tables_1_7, tables_1_8]
def lm_wd (n : Nat) : Option Cond := (lm_tl.getD (n / 1000) [])[n % 1000]?
theorem lm_tl_in : ∀ l ∈ lm_tl, ∀ w ∈ l, w ∈ lw_tbl := by
  intro l hl w hw
  have hp : ∀ q : List (MethodName × Nat), (∀ x ∈ q, x ∈ lw_privs) → w ∈ k2_sels q → w ∈ lw_tbl := by
    intro q h1 h2
    obtain ⟨y, hy, rfl⟩ := List.mem_map.mp h2
    exact List.mem_append_left _ (List.mem_map.mpr ⟨y, h1 y hy, rfl⟩)
  have ht : w ∈ tables_1 → w ∈ lw_tbl := fun h => List.mem_append_right _ h
  unfold lm_tl at hl
  simp only [List.mem_cons, List.not_mem_nil, or_false] at hl
  rcases hl with rfl | rfl | rfl | rfl | rfl | rfl | rfl | rfl | rfl | rfl | rfl | rfl | rfl | rfl | rfl | rfl | rfl | rfl
  · exact hp _ (fun x hx => by unfold lw_privs; simp only [List.mem_append]; simp only [hx, true_or, or_true]) hw
  · exact hp _ (fun x hx => by unfold lw_privs; simp only [List.mem_append]; simp only [hx, true_or, or_true]) hw
  · exact hp _ (fun x hx => by unfold lw_privs; simp only [List.mem_append]; simp only [hx, true_or, or_true]) hw
  · exact hp _ (fun x hx => by unfold lw_privs; simp only [List.mem_append]; simp only [hx, true_or, or_true]) hw
  · exact hp _ (fun x hx => by unfold lw_privs; simp only [List.mem_append]; simp only [hx, true_or, or_true]) hw
  · exact hp _ (fun x hx => by unfold lw_privs; simp only [List.mem_append]; simp only [hx, true_or, or_true]) hw
  · exact hp _ (fun x hx => by unfold lw_privs; simp only [List.mem_append]; simp only [hx, true_or, or_true]) hw
  · exact hp _ (fun x hx => by unfold lw_privs; simp only [List.mem_append]; simp only [hx, true_or, or_true]) hw
  · exact hp _ (fun x hx => by unfold lw_privs; simp only [List.mem_append]; simp only [hx, true_or, or_true]) hw
  · exact hp _ (fun x hx => by unfold lw_privs; simp only [List.mem_append]; simp only [hx, true_or, or_true]) hw
  · exact ht (by unfold tables_1; simp only [List.mem_append]; simp only [hw, true_or, or_true])
  · exact ht (by unfold tables_1; simp only [List.mem_append]; simp only [hw, true_or, or_true])
  · exact ht (by unfold tables_1; simp only [List.mem_append]; simp only [hw, true_or, or_true])
  · exact ht (by unfold tables_1; simp only [List.mem_append]; simp only [hw, true_or, or_true])
  · exact ht (by unfold tables_1; simp only [List.mem_append]; simp only [hw, true_or, or_true])
  · exact ht (by unfold tables_1; simp only [List.mem_append]; simp only [hw, true_or, or_true])
  · exact ht (by unfold tables_1; simp only [List.mem_append]; simp only [hw, true_or, or_true])
  · exact ht (by unfold tables_1; simp only [List.mem_append]; simp only [hw, true_or, or_true])
theorem lm_wd_in {n : Nat} {w : Cond} (h : lm_wd n = some w) : w ∈ lw_tbl := by
  unfold lm_wd at h
  have hw := List.mem_of_getElem? h
  rw [List.getD_eq_getElem?_getD] at hw
  cases hc : lm_tl[n / 1000]? with
  | none => rw [hc] at hw; cases hw
  | some l =>
    rw [hc] at hw
    exact lm_tl_in l (List.mem_of_getElem? hc) w hw
/-- the words that a frame keeps -/
def lm_bk (w : Cond) : Bool := match w with
  | .fieldLinkNest _ _ _ _ _ _ => true
  | .methodLinkNest _ _ _ _ => true
  | .arrayOver (.object _) => true
  | w => goodWord w
def lm_T : List Cond := lw_tbl.filter lm_bk
theorem lm_wT {n : Nat} {w : Cond} (h : lm_wd n = some w) (hb : lm_bk w = true) : w ∈ lm_T := List.mem_filter.mpr ⟨lm_wd_in h, hb⟩
def lm_okF (o k : Nat) (e : Nat × Nat × Bool × Nat) : Bool := match vwCl[e.1]? with
  | none => false
  | some q => decide (e.2.1 < q.2.2) && (decide ((q.2.1 e.2.1).1 = q.1) && (decide (parseFieldDescriptor (q.2.1 e.2.1).2.2.1 = some (lm_tys.getD e.1 (fun _ => .int) e.2.1)) && decide (lm_wd e.2.2.2 = some (if e.2.2.1 = true then .fieldLinkNest (lm_Rs.getD o "") k q.1 (q.2.1 e.2.1).2.1 (q.2.1 e.2.1).2.2.1 "SoleGuest" else .fieldLink (lm_Rs.getD o "") k q.1 (q.2.1 e.2.1).2.1 (q.2.1 e.2.1).2.2.1))))
def lm_yM (j : Nat) : MethodName := if j = 1000 then objectInit else if j = 1001 then arraycopyName else if j = 1002 then yJ9_max_7cf53 else if j = 1003 then yJ9_min_7cf53 else if j = 1004 then yJ9_max_f86c9 else if j = 1005 then yJ9_min_f86c9 else lm_ys.getD j ⟨"", "", ""⟩
def lm_okM (o k : Nat) (e : Nat × Bool × Nat) : Bool := decide (lm_wd e.2.2 = some (if e.2.1 = true then .methodLinkNest (lm_Rs.getD o "") k (lm_yM e.1) "SoleGuest" else .methodLink (lm_Rs.getD o "") k (lm_yM e.1))) && (decide (e.1 ≠ 278) && decide (1000 ≤ e.1 → e.2.1 = false))
def lm_okN (o k : Nat) (e : Nat × Nat) : Bool := match vwCl[e.1]? with
  | none => false
  | some q => decide (lm_wd e.2 = some (.classLink (lm_Rs.getD o "") k q.1))
def lm_aC (g : Nat) : String := if g = 5 then RX2 else RX4
def lm_okA (o k : Nat) (e : Nat × Nat) : Bool := decide (e.1 = 5 ∨ e.1 = 6) && decide (lm_wd e.2 = some (.classLink (lm_Rs.getD o "") k (lm_aC e.1)))
def lm_okI (o k : Nat) (e : Int32 × Nat) : Bool := decide (lm_wd e.2 = some (.constant (lm_Rs.getD o "") k e.1))
def lm_okJ (o k : Nat) (e : Int64 × Nat) : Bool := decide (lm_wd e.2 = some (.constantLong (lm_Rs.getD o "") k e.1))
def lm_tx : List String := ["if", "or", "and", "not", "worth", "bars", "host", "guest", "base", "wit", "street", "met", "evening"]
def lm_okS (o k : Nat) (e : Nat × Nat) : Bool := decide (o = 3 ∧ e.1 < 13) && decide (lm_wd e.2 = some (.stringRef (lm_Rs.getD o "") k (lm_tx.getD e.1 "")))
def lm_okG (o k : Nat) (e : Nat × Nat) : Bool := decide (lm_wd e.2 = some (if e.1 = 0 then .fieldLink (lm_Rs.getD o "") k "java/lang/String" "COMPACT_STRINGS" "Z" else .fieldLink (lm_Rs.getD o "") k "jdk/internal/util/Preconditions" "SIOOBE_FORMATTER" "Ljava/util/function/BiFunction;"))
def lm_okV (o k : Nat) (e : Nat × Nat) : Bool := decide (lm_wd e.2 = some (if e.1 = 0 then .fieldLink (lm_Rs.getD o "") k "java/lang/String" "value" "[B" else .fieldLink (lm_Rs.getD o "") k "java/lang/String" "coder" "B"))
theorem lm_lk_mem {β : Type} {t : List (Nat × β)} {k : Nat} {e : β} (he : t.lookup k = some e) : (k, e) ∈ t := by
  induction t with
  | nil => simp at he
  | cons x t ih =>
    obtain ⟨a, b⟩ := x
    by_cases h : k = a
    · subst h
      simp at he
      subst he
      exact List.mem_cons_self
    · have h2 : (k == a) = false := by simpa using h
      rw [List.lookup_cons, h2] at he
      exact List.mem_cons_of_mem _ (ih he)
theorem lm_lk_all {β : Type} {t : List (List (Nat × β))} {q : Nat → Nat → β → Bool} (hl : t.length ≤ 22) (h : ∀ o, o < 22 → (t.getD o []).all (fun e => q o e.1 e.2) = true) {o k : Nat} {e : β} (he : (t.getD o []).lookup k = some e) : q o k e = true := by
  by_cases ho : o < 22
  · exact List.all_eq_true.mp (h o ho) (k, e) (lm_lk_mem he)
  · rw [List.getD_eq_getElem?_getD, List.getElem?_eq_none (by omega)] at he
    simp at he
