/-! What a call leaves as it was; rows filled. -/
/-- nothing changed but rows of S, and of cell 92 the slots T -/
def fr (S T : List Nat) (h h' : lm_H) : Prop := h'.1 = h.1 ∧ h'.2.2.2 = h.2.2.2 ∧ (∀ a, S.contains a = false → ¬ a = 92 → h'.2.1 a = h.2.1 a ∧ h'.2.2.1 a = h.2.2.1 a) ∧ ∀ s, T.contains s = false → h'.2.1 92 s = h.2.1 92 s ∧ h'.2.2.1 92 s = h.2.2.1 92 s
theorem fr_refl (S T : List Nat) (h : lm_H) : fr S T h h := ⟨rfl, rfl, fun _ _ _ => ⟨rfl, rfl⟩, fun _ _ => ⟨rfl, rfl⟩⟩
theorem fr_trans {S T : List Nat} {h h1 h2 : lm_H} (a : fr S T h h1) (b : fr S T h1 h2) : fr S T h h2 :=
  ⟨b.1.trans a.1, b.2.1.trans a.2.1, fun c hc hn => ⟨(b.2.2.1 c hc hn).1.trans (a.2.2.1 c hc hn).1, (b.2.2.1 c hc hn).2.trans (a.2.2.1 c hc hn).2⟩, fun s hs => ⟨(b.2.2.2 s hs).1.trans (a.2.2.2 s hs).1, (b.2.2.2 s hs).2.trans (a.2.2.2 s hs).2⟩⟩
theorem fr_sub {S T S' T' : List Nat} {h h1 : lm_H} (a : fr S T h h1) (hS : S.all (fun x => S'.contains x) = true) (hT : T.all (fun x => T'.contains x) = true) : fr S' T' h h1 := by
  refine ⟨a.1, a.2.1, fun c hc hn => a.2.2.1 c ?_ hn, fun s hs => a.2.2.2 s ?_⟩
  · cases q : S.contains c with
    | false => rfl
    | true =>
      have h1 : c ∈ S := by simpa using q
      have h2 := List.all_eq_true.1 hS c h1
      rw [hc] at h2
      cases h2
  · cases q : T.contains s with
    | false => rfl
    | true =>
      have h1 : s ∈ T := by simpa using q
      have h2 := List.all_eq_true.1 hT s h1
      rw [hs] at h2
      cases h2
theorem fr_i {S T : List Nat} {h h' : lm_H} (a : fr S T h h') {c : Nat} (hc : S.contains c = false) (hn : ¬ c = 92) : lm_i h' c = lm_i h c := (a.2.2.1 c hc hn).1
theorem fr_l {S T : List Nat} {h h' : lm_H} (a : fr S T h h') {c : Nat} (hc : S.contains c = false) (hn : ¬ c = 92) : lm_l h' c = lm_l h c := (a.2.2.1 c hc hn).2
theorem fr_m {S T : List Nat} {h h' : lm_H} (a : fr S T h h') {s : Nat} (hs : T.contains s = false) : lm_i h' 92 s = lm_i h 92 s := (a.2.2.2 s hs).1
theorem fr_ml {S T : List Nat} {h h' : lm_H} (a : fr S T h h') {s : Nat} (hs : T.contains s = false) : lm_l h' 92 s = lm_l h 92 s := (a.2.2.2 s hs).2
theorem fr_r {S T : List Nat} {h h' : lm_H} (a : fr S T h h') : lm_r h' = lm_r h := by
  funext c k
  show h'.2.2.2 c k = h.2.2.2 c k
  rw [a.2.1]
theorem fr_Lay {S T : List Nat} {h h' : lm_H} (a : fr S T h h') (hl : lm_Lay h) : lm_Lay h' := lm_Lay_refs hl a.1 (fun c k r h1 _ => by rw [fr_r a]; exact h1)
theorem fr_si {S T : List Nat} {h h1 : lm_H} (a : fr S T h h1) {c : Nat} (hc : S.contains c = true) (hn : ¬ c = 92) (k : Nat) (v : Int32) : fr S T h (lm_si h1 c k v) := by
  refine ⟨a.1, a.2.1, fun b hb hn2 => ⟨?_, (a.2.2.1 b hb hn2).2⟩, fun s hs => ⟨?_, (a.2.2.2 s hs).2⟩⟩
  · rw [← (a.2.2.1 b hb hn2).1]
    have : b ≠ c := by rintro rfl; rw [hc] at hb; cases hb
    exact q_row (h := h1) this
  · rw [← (a.2.2.2 s hs).1]
    show lm_i (lm_si h1 c k v) 92 s = lm_i h1 92 s
    rw [pi_si, if_neg (fun q => hn q.symm)]
theorem fr_s92 {S T : List Nat} {h h1 : lm_H} (a : fr S T h h1) {k : Nat} (hk : T.contains k = true) (v : Int32) : fr S T h (lm_si h1 92 k v) := by
  refine ⟨a.1, a.2.1, fun b hb hn2 => ⟨?_, (a.2.2.1 b hb hn2).2⟩, fun s hs => ⟨?_, (a.2.2.2 s hs).2⟩⟩
  · rw [← (a.2.2.1 b hb hn2).1]
    exact q_row (h := h1) hn2
  · rw [← (a.2.2.2 s hs).1]
    show lm_i (lm_si h1 92 k v) 92 s = lm_i h1 92 s
    have : s ≠ k := by rintro rfl; rw [hk] at hs; cases hs
    rw [pi_si, if_pos rfl, if_neg this]
theorem fr_sl {S T : List Nat} {h h1 : lm_H} (a : fr S T h h1) {c : Nat} (hc : S.contains c = true) (hn : ¬ c = 92) (k : Nat) (v : Int64) : fr S T h (lm_sl h1 c k v) := by
  refine ⟨a.1, a.2.1, fun b hb hn2 => ⟨(a.2.2.1 b hb hn2).1, ?_⟩, fun s hs => ⟨(a.2.2.2 s hs).1, ?_⟩⟩
  · rw [← (a.2.2.1 b hb hn2).2]
    have : b ≠ c := by rintro rfl; rw [hc] at hb; cases hb
    funext j
    show lm_l (lm_sl h1 c k v) b j = lm_l h1 b j
    rw [pl_sl, if_neg this]
  · rw [← (a.2.2.2 s hs).2]
    show lm_l (lm_sl h1 c k v) 92 s = lm_l h1 92 s
    rw [pl_sl, if_neg (fun q => hn q.symm)]
theorem fr_s92l {S T : List Nat} {h h1 : lm_H} (a : fr S T h h1) {k : Nat} (hk : T.contains k = true) (v : Int64) : fr S T h (lm_sl h1 92 k v) := by
  refine ⟨a.1, a.2.1, fun b hb hn2 => ⟨(a.2.2.1 b hb hn2).1, ?_⟩, fun s hs => ⟨(a.2.2.2 s hs).1, ?_⟩⟩
  · rw [← (a.2.2.1 b hb hn2).2]
    funext j
    show lm_l (lm_sl h1 92 k v) b j = lm_l h1 b j
    rw [pl_sl, if_neg hn2]
  · rw [← (a.2.2.2 s hs).2]
    show lm_l (lm_sl h1 92 k v) 92 s = lm_l h1 92 s
    have : s ≠ k := by rintro rfl; rw [hk] at hs; cases hs
    rw [pl_sl, if_pos rfl, if_neg this]
theorem q_rowR {h : lm_H} {a b : Nat} {r : Nat → Int32} (hn : b ≠ a) : lm_i (lm_row h a r) b = lm_i h b := by
  funext j
  rw [pi_row, if_neg hn]
theorem fr_row {S T : List Nat} {h h1 : lm_H} (a : fr S T h h1) {c : Nat} (hc : S.contains c = true) (hn : ¬ c = 92) (r : Nat → Int32) : fr S T h (lm_row h1 c r) := by
  refine ⟨a.1, a.2.1, fun b hb hn2 => ⟨?_, (a.2.2.1 b hb hn2).2⟩, fun s hs => ⟨?_, (a.2.2.2 s hs).2⟩⟩
  · rw [← (a.2.2.1 b hb hn2).1]
    have : b ≠ c := by rintro rfl; rw [hc] at hb; cases hb
    exact q_rowR (h := h1) this
  · rw [← (a.2.2.2 s hs).1]
    show lm_i (lm_row h1 c r) 92 s = lm_i h1 92 s
    rw [pi_row, if_neg (fun q => hn q.symm)]
/-- a row of longs -/
def q_lr (h : lm_H) (c : Nat) (f : Nat → Int64) : lm_H := (h.1, h.2.1, fun a j => if a = c then f j else h.2.2.1 a j, h.2.2.2)
theorem pl_lr {h : lm_H} {c b j : Nat} {f : Nat → Int64} : lm_l (q_lr h c f) b j = if b = c then f j else lm_l h b j := rfl
theorem pi_lr {h : lm_H} {c b : Nat} {f : Nat → Int64} : lm_i (q_lr h c f) b = lm_i h b := rfl
theorem fr_lr {S T : List Nat} {h h1 : lm_H} (a : fr S T h h1) {c : Nat} (hc : S.contains c = true) (hn : ¬ c = 92) (r : Nat → Int64) : fr S T h (q_lr h1 c r) := by
  refine ⟨a.1, a.2.1, fun b hb hn2 => ⟨(a.2.2.1 b hb hn2).1, ?_⟩, fun s hs => ⟨(a.2.2.2 s hs).1, ?_⟩⟩
  · rw [← (a.2.2.1 b hb hn2).2]
    have : b ≠ c := by rintro rfl; rw [hc] at hb; cases hb
    funext j
    show lm_l (q_lr h1 c r) b j = lm_l h1 b j
    rw [pl_lr, if_neg this]
  · rw [← (a.2.2.2 s hs).2]
    show lm_l (q_lr h1 c r) 92 s = lm_l h1 92 s
    rw [pl_lr, if_neg (fun q => hn q.symm)]
theorem q_rowS (h : lm_H) (c k : Nat) (f : Nat → Int32) (v : Int32) : lm_si (lm_row h c f) c k v = lm_row h c (fun j => if j = k then v else f j) := by
  have : (lm_si (lm_row h c f) c k v).2.1 = (lm_row h c (fun j => if j = k then v else f j)).2.1 := by
    funext b j
    show lm_i (lm_si (lm_row h c f) c k v) b j = lm_i (lm_row h c (fun j => if j = k then v else f j)) b j
    rw [pi_si, pi_row, pi_row]
    by_cases e : b = c
    · simp only [e, if_true]
    · simp only [e, if_false]
  exact Prod.ext rfl (Prod.ext this rfl)
theorem q_rowI (h : lm_H) (c : Nat) : lm_row h c (lm_i h c) = h := by
  have : (lm_row h c (lm_i h c)).2.1 = h.2.1 := by
    funext b j
    show lm_i (lm_row h c (lm_i h c)) b j = lm_i h b j
    rw [pi_row]
    by_cases e : b = c
    · rw [if_pos e, e]
    · rw [if_neg e]
  exact Prod.ext rfl (Prod.ext this rfl)
theorem q_lrS (h : lm_H) (c k : Nat) (f : Nat → Int64) (v : Int64) : lm_sl (q_lr h c f) c k v = q_lr h c (fun j => if j = k then v else f j) := by
  have : (lm_sl (q_lr h c f) c k v).2.2.1 = (q_lr h c (fun j => if j = k then v else f j)).2.2.1 := by
    funext b j
    show lm_l (lm_sl (q_lr h c f) c k v) b j = lm_l (q_lr h c (fun j => if j = k then v else f j)) b j
    rw [pl_sl, pl_lr, pl_lr]
    by_cases e : b = c
    · simp only [e, if_true]
    · simp only [e, if_false]
  exact Prod.ext rfl (Prod.ext rfl (Prod.ext this rfl))
theorem q_lrI (h : lm_H) (c : Nat) : q_lr h c (lm_l h c) = h := by
  have : (q_lr h c (lm_l h c)).2.2.1 = h.2.2.1 := by
    funext b j
    show lm_l (q_lr h c (lm_l h c)) b j = lm_l h b j
    rw [pl_lr]
    by_cases e : b = c
    · rw [if_pos e, e]
    · rw [if_neg e]
  exact Prod.ext rfl (Prod.ext rfl (Prod.ext this rfl))
theorem lm_Lay_lr {h : lm_H} (hl : lm_Lay h) (c : Nat) (f : Nat → Int64) : lm_Lay (q_lr h c f) := lm_Lay_refs hl rfl (fun _ _ _ h _ => h)
theorem cl_270c29 {D : Nat} {h : lm_H} {K : lm_H → Prop} (hD : 1 ≤ D) (hl : lm_Lay h) (x : Int32) (hK : K (lm_row h 29 (fun j => if j < 7 then x else lm_i h 29 j))) : lm_call D 270 [.ref 29, .int x] h (lm_kV K) := by
  obtain ⟨d, rfl⟩ := q_dp hD
  refine e_270c29 x hl ?_
  have lp : ∀ r k : Nat, r + k = 7 → (lm_W (d) 270 5 [some (.ref 29), some (.int x), some (.int (Int32.ofNat k)), some (.int (Int32.ofNat 7))] [] (lm_row h 29 (fun j => if j < k then x else lm_i h 29 j)) (lm_kV K)) := by
    intro r
    induction r with
    | zero =>
      intro k hk
      refine b_270c29_5 _ _ _ (lm_Lay_row hl _ _) ?_
      simp (disch := omega) only [q_add, q_mul, q_m7, q_m6, q_6m, q_7m, q_a1, q_5m, q_m5, q_71, q_11, q_87, q_41, q_76, q_5a, q_0a, q_a6, q_nat, q_in, q_lt, q_eq, q_lt0, if_true, if_false]
      have : k = 7 := by omega
      subst this
      rw [if_neg (by omega)]
      exact hK
    | succ r ih =>
      intro k hk
      refine b_270c29_5 _ _ _ (lm_Lay_row hl _ _) ?_
      simp (disch := omega) only [q_add, q_mul, q_m7, q_m6, q_6m, q_7m, q_a1, q_5m, q_m5, q_71, q_11, q_87, q_41, q_76, q_5a, q_0a, q_a6, q_nat, q_in, q_lt, q_eq, q_lt0, if_true, if_false]
      rw [if_pos (by omega), q_rowS]
      have e : (fun j => if j = k then x else if j < k then x else lm_i h 29 j) = fun j => if j < k + 1 then x else lm_i h 29 j := by
        funext j
        by_cases c : j = k
        · rw [if_pos c, if_pos (by omega)]
        · rw [if_neg c]
          by_cases c2 : j < k
          · rw [if_pos c2, if_pos (by omega)]
          · rw [if_neg c2, if_neg (by omega)]
      rw [e]
      exact ih (k + 1) (by omega)
  have := lp 7 0 (by omega)
  have e : (fun j => if j < 0 then x else lm_i h 29 j) = lm_i h 29 := by
    funext j
    rw [if_neg (by omega)]
  rw [e, q_rowI] at this
  exact this
theorem cl_270c40 {D : Nat} {h : lm_H} {K : lm_H → Prop} (hD : 1 ≤ D) (hl : lm_Lay h) (x : Int32) (hK : K (lm_row h 40 (fun j => if j < 7 then x else lm_i h 40 j))) : lm_call D 270 [.ref 40, .int x] h (lm_kV K) := by
  obtain ⟨d, rfl⟩ := q_dp hD
  refine e_270c40 x hl ?_
  have lp : ∀ r k : Nat, r + k = 7 → (lm_W (d) 270 5 [some (.ref 40), some (.int x), some (.int (Int32.ofNat k)), some (.int (Int32.ofNat 7))] [] (lm_row h 40 (fun j => if j < k then x else lm_i h 40 j)) (lm_kV K)) := by
    intro r
    induction r with
    | zero =>
      intro k hk
      refine b_270c40_5 _ _ _ (lm_Lay_row hl _ _) ?_
      simp (disch := omega) only [q_add, q_mul, q_m7, q_m6, q_6m, q_7m, q_a1, q_5m, q_m5, q_71, q_11, q_87, q_41, q_76, q_5a, q_0a, q_a6, q_nat, q_in, q_lt, q_eq, q_lt0, if_true, if_false]
      have : k = 7 := by omega
      subst this
      rw [if_neg (by omega)]
      exact hK
    | succ r ih =>
      intro k hk
      refine b_270c40_5 _ _ _ (lm_Lay_row hl _ _) ?_
      simp (disch := omega) only [q_add, q_mul, q_m7, q_m6, q_6m, q_7m, q_a1, q_5m, q_m5, q_71, q_11, q_87, q_41, q_76, q_5a, q_0a, q_a6, q_nat, q_in, q_lt, q_eq, q_lt0, if_true, if_false]
      rw [if_pos (by omega), q_rowS]
      have e : (fun j => if j = k then x else if j < k then x else lm_i h 40 j) = fun j => if j < k + 1 then x else lm_i h 40 j := by
        funext j
        by_cases c : j = k
        · rw [if_pos c, if_pos (by omega)]
        · rw [if_neg c]
          by_cases c2 : j < k
          · rw [if_pos c2, if_pos (by omega)]
          · rw [if_neg c2, if_neg (by omega)]
      rw [e]
      exact ih (k + 1) (by omega)
  have := lp 7 0 (by omega)
  have e : (fun j => if j < 0 then x else lm_i h 40 j) = lm_i h 40 := by
    funext j
    rw [if_neg (by omega)]
  rw [e, q_rowI] at this
  exact this
theorem cl_270c66 {D : Nat} {h : lm_H} {K : lm_H → Prop} (hD : 1 ≤ D) (hl : lm_Lay h) (x : Int32) (hK : K (lm_row h 66 (fun j => if j < 5 then x else lm_i h 66 j))) : lm_call D 270 [.ref 66, .int x] h (lm_kV K) := by
  obtain ⟨d, rfl⟩ := q_dp hD
  refine e_270c66 x hl ?_
  have lp : ∀ r k : Nat, r + k = 5 → (lm_W (d) 270 5 [some (.ref 66), some (.int x), some (.int (Int32.ofNat k)), some (.int (Int32.ofNat 5))] [] (lm_row h 66 (fun j => if j < k then x else lm_i h 66 j)) (lm_kV K)) := by
    intro r
    induction r with
    | zero =>
      intro k hk
      refine b_270c66_5 _ _ _ (lm_Lay_row hl _ _) ?_
      simp (disch := omega) only [q_add, q_mul, q_m7, q_m6, q_6m, q_7m, q_a1, q_5m, q_m5, q_71, q_11, q_87, q_41, q_76, q_5a, q_0a, q_a6, q_nat, q_in, q_lt, q_eq, q_lt0, if_true, if_false]
      have : k = 5 := by omega
      subst this
      rw [if_neg (by omega)]
      exact hK
    | succ r ih =>
      intro k hk
      refine b_270c66_5 _ _ _ (lm_Lay_row hl _ _) ?_
      simp (disch := omega) only [q_add, q_mul, q_m7, q_m6, q_6m, q_7m, q_a1, q_5m, q_m5, q_71, q_11, q_87, q_41, q_76, q_5a, q_0a, q_a6, q_nat, q_in, q_lt, q_eq, q_lt0, if_true, if_false]
      rw [if_pos (by omega), q_rowS]
      have e : (fun j => if j = k then x else if j < k then x else lm_i h 66 j) = fun j => if j < k + 1 then x else lm_i h 66 j := by
        funext j
        by_cases c : j = k
        · rw [if_pos c, if_pos (by omega)]
        · rw [if_neg c]
          by_cases c2 : j < k
          · rw [if_pos c2, if_pos (by omega)]
          · rw [if_neg c2, if_neg (by omega)]
      rw [e]
      exact ih (k + 1) (by omega)
  have := lp 5 0 (by omega)
  have e : (fun j => if j < 0 then x else lm_i h 66 j) = lm_i h 66 := by
    funext j
    rw [if_neg (by omega)]
  rw [e, q_rowI] at this
  exact this
theorem cl_270c67 {D : Nat} {h : lm_H} {K : lm_H → Prop} (hD : 1 ≤ D) (hl : lm_Lay h) (x : Int32) (hK : K (lm_row h 67 (fun j => if j < 30 then x else lm_i h 67 j))) : lm_call D 270 [.ref 67, .int x] h (lm_kV K) := by
  obtain ⟨d, rfl⟩ := q_dp hD
  refine e_270c67 x hl ?_
  have lp : ∀ r k : Nat, r + k = 30 → (lm_W (d) 270 5 [some (.ref 67), some (.int x), some (.int (Int32.ofNat k)), some (.int (Int32.ofNat 30))] [] (lm_row h 67 (fun j => if j < k then x else lm_i h 67 j)) (lm_kV K)) := by
    intro r
    induction r with
    | zero =>
      intro k hk
      refine b_270c67_5 _ _ _ (lm_Lay_row hl _ _) ?_
      simp (disch := omega) only [q_add, q_mul, q_m7, q_m6, q_6m, q_7m, q_a1, q_5m, q_m5, q_71, q_11, q_87, q_41, q_76, q_5a, q_0a, q_a6, q_nat, q_in, q_lt, q_eq, q_lt0, if_true, if_false]
      have : k = 30 := by omega
      subst this
      rw [if_neg (by omega)]
      exact hK
    | succ r ih =>
      intro k hk
      refine b_270c67_5 _ _ _ (lm_Lay_row hl _ _) ?_
      simp (disch := omega) only [q_add, q_mul, q_m7, q_m6, q_6m, q_7m, q_a1, q_5m, q_m5, q_71, q_11, q_87, q_41, q_76, q_5a, q_0a, q_a6, q_nat, q_in, q_lt, q_eq, q_lt0, if_true, if_false]
      rw [if_pos (by omega), q_rowS]
      have e : (fun j => if j = k then x else if j < k then x else lm_i h 67 j) = fun j => if j < k + 1 then x else lm_i h 67 j := by
        funext j
        by_cases c : j = k
        · rw [if_pos c, if_pos (by omega)]
        · rw [if_neg c]
          by_cases c2 : j < k
          · rw [if_pos c2, if_pos (by omega)]
          · rw [if_neg c2, if_neg (by omega)]
      rw [e]
      exact ih (k + 1) (by omega)
  have := lp 30 0 (by omega)
  have e : (fun j => if j < 0 then x else lm_i h 67 j) = lm_i h 67 := by
    funext j
    rw [if_neg (by omega)]
  rw [e, q_rowI] at this
  exact this
theorem cl_270c68 {D : Nat} {h : lm_H} {K : lm_H → Prop} (hD : 1 ≤ D) (hl : lm_Lay h) (x : Int32) (hK : K (lm_row h 68 (fun j => if j < 30 then x else lm_i h 68 j))) : lm_call D 270 [.ref 68, .int x] h (lm_kV K) := by
  obtain ⟨d, rfl⟩ := q_dp hD
  refine e_270c68 x hl ?_
  have lp : ∀ r k : Nat, r + k = 30 → (lm_W (d) 270 5 [some (.ref 68), some (.int x), some (.int (Int32.ofNat k)), some (.int (Int32.ofNat 30))] [] (lm_row h 68 (fun j => if j < k then x else lm_i h 68 j)) (lm_kV K)) := by
    intro r
    induction r with
    | zero =>
      intro k hk
      refine b_270c68_5 _ _ _ (lm_Lay_row hl _ _) ?_
      simp (disch := omega) only [q_add, q_mul, q_m7, q_m6, q_6m, q_7m, q_a1, q_5m, q_m5, q_71, q_11, q_87, q_41, q_76, q_5a, q_0a, q_a6, q_nat, q_in, q_lt, q_eq, q_lt0, if_true, if_false]
      have : k = 30 := by omega
      subst this
      rw [if_neg (by omega)]
      exact hK
    | succ r ih =>
      intro k hk
      refine b_270c68_5 _ _ _ (lm_Lay_row hl _ _) ?_
      simp (disch := omega) only [q_add, q_mul, q_m7, q_m6, q_6m, q_7m, q_a1, q_5m, q_m5, q_71, q_11, q_87, q_41, q_76, q_5a, q_0a, q_a6, q_nat, q_in, q_lt, q_eq, q_lt0, if_true, if_false]
      rw [if_pos (by omega), q_rowS]
      have e : (fun j => if j = k then x else if j < k then x else lm_i h 68 j) = fun j => if j < k + 1 then x else lm_i h 68 j := by
        funext j
        by_cases c : j = k
        · rw [if_pos c, if_pos (by omega)]
        · rw [if_neg c]
          by_cases c2 : j < k
          · rw [if_pos c2, if_pos (by omega)]
          · rw [if_neg c2, if_neg (by omega)]
      rw [e]
      exact ih (k + 1) (by omega)
  have := lp 30 0 (by omega)
  have e : (fun j => if j < 0 then x else lm_i h 68 j) = lm_i h 68 := by
    funext j
    rw [if_neg (by omega)]
  rw [e, q_rowI] at this
  exact this
theorem cl_270c71 {D : Nat} {h : lm_H} {K : lm_H → Prop} (hD : 1 ≤ D) (hl : lm_Lay h) (x : Int32) (hK : K (lm_row h 71 (fun j => if j < 5 then x else lm_i h 71 j))) : lm_call D 270 [.ref 71, .int x] h (lm_kV K) := by
  obtain ⟨d, rfl⟩ := q_dp hD
  refine e_270c71 x hl ?_
  have lp : ∀ r k : Nat, r + k = 5 → (lm_W (d) 270 5 [some (.ref 71), some (.int x), some (.int (Int32.ofNat k)), some (.int (Int32.ofNat 5))] [] (lm_row h 71 (fun j => if j < k then x else lm_i h 71 j)) (lm_kV K)) := by
    intro r
    induction r with
    | zero =>
      intro k hk
      refine b_270c71_5 _ _ _ (lm_Lay_row hl _ _) ?_
      simp (disch := omega) only [q_add, q_mul, q_m7, q_m6, q_6m, q_7m, q_a1, q_5m, q_m5, q_71, q_11, q_87, q_41, q_76, q_5a, q_0a, q_a6, q_nat, q_in, q_lt, q_eq, q_lt0, if_true, if_false]
      have : k = 5 := by omega
      subst this
      rw [if_neg (by omega)]
      exact hK
    | succ r ih =>
      intro k hk
      refine b_270c71_5 _ _ _ (lm_Lay_row hl _ _) ?_
      simp (disch := omega) only [q_add, q_mul, q_m7, q_m6, q_6m, q_7m, q_a1, q_5m, q_m5, q_71, q_11, q_87, q_41, q_76, q_5a, q_0a, q_a6, q_nat, q_in, q_lt, q_eq, q_lt0, if_true, if_false]
      rw [if_pos (by omega), q_rowS]
      have e : (fun j => if j = k then x else if j < k then x else lm_i h 71 j) = fun j => if j < k + 1 then x else lm_i h 71 j := by
        funext j
        by_cases c : j = k
        · rw [if_pos c, if_pos (by omega)]
        · rw [if_neg c]
          by_cases c2 : j < k
          · rw [if_pos c2, if_pos (by omega)]
          · rw [if_neg c2, if_neg (by omega)]
      rw [e]
      exact ih (k + 1) (by omega)
  have := lp 5 0 (by omega)
  have e : (fun j => if j < 0 then x else lm_i h 71 j) = lm_i h 71 := by
    funext j
    rw [if_neg (by omega)]
  rw [e, q_rowI] at this
  exact this
theorem cl_269c51 {D : Nat} {h : lm_H} {K : lm_H → Prop} (hD : 1 ≤ D) (hl : lm_Lay h) (x : Int64) (hK : K (q_lr h 51 (fun j => if j < 263 then x else lm_l h 51 j))) : lm_call D 269 [.ref 51, .long x] h (lm_kV K) := by
  obtain ⟨d, rfl⟩ := q_dp hD
  refine e_269c51 x hl ?_
  have lp : ∀ r k : Nat, r + k = 263 → (lm_W (d) 269 6 [some (.ref 51), some (.long x), none, some (.int (Int32.ofNat k)), some (.int (Int32.ofNat 263))] [] (q_lr h 51 (fun j => if j < k then x else lm_l h 51 j)) (lm_kV K)) := by
    intro r
    induction r with
    | zero =>
      intro k hk
      refine b_269c51_6 _ _ _ (lm_Lay_lr hl _ _) ?_
      simp (disch := omega) only [q_add, q_mul, q_m7, q_m6, q_6m, q_7m, q_a1, q_5m, q_m5, q_71, q_11, q_87, q_41, q_76, q_5a, q_0a, q_a6, q_nat, q_in, q_lt, q_eq, q_lt0, if_true, if_false]
      have : k = 263 := by omega
      subst this
      rw [if_neg (by omega)]
      exact hK
    | succ r ih =>
      intro k hk
      refine b_269c51_6 _ _ _ (lm_Lay_lr hl _ _) ?_
      simp (disch := omega) only [q_add, q_mul, q_m7, q_m6, q_6m, q_7m, q_a1, q_5m, q_m5, q_71, q_11, q_87, q_41, q_76, q_5a, q_0a, q_a6, q_nat, q_in, q_lt, q_eq, q_lt0, if_true, if_false]
      rw [if_pos (by omega), q_lrS]
      have e : (fun j => if j = k then x else if j < k then x else lm_l h 51 j) = fun j => if j < k + 1 then x else lm_l h 51 j := by
        funext j
        by_cases c : j = k
        · rw [if_pos c, if_pos (by omega)]
        · rw [if_neg c]
          by_cases c2 : j < k
          · rw [if_pos c2, if_pos (by omega)]
          · rw [if_neg c2, if_neg (by omega)]
      rw [e]
      exact ih (k + 1) (by omega)
  have := lp 263 0 (by omega)
  have e : (fun j => if j < 0 then x else lm_l h 51 j) = lm_l h 51 := by
    funext j
    rw [if_neg (by omega)]
  rw [e, q_lrI] at this
  exact this
theorem cl_269c54 {D : Nat} {h : lm_H} {K : lm_H → Prop} (hD : 1 ≤ D) (hl : lm_Lay h) (x : Int64) (hK : K (q_lr h 54 (fun j => if j < 5 then x else lm_l h 54 j))) : lm_call D 269 [.ref 54, .long x] h (lm_kV K) := by
  obtain ⟨d, rfl⟩ := q_dp hD
  refine e_269c54 x hl ?_
  have lp : ∀ r k : Nat, r + k = 5 → (lm_W (d) 269 6 [some (.ref 54), some (.long x), none, some (.int (Int32.ofNat k)), some (.int (Int32.ofNat 5))] [] (q_lr h 54 (fun j => if j < k then x else lm_l h 54 j)) (lm_kV K)) := by
    intro r
    induction r with
    | zero =>
      intro k hk
      refine b_269c54_6 _ _ _ (lm_Lay_lr hl _ _) ?_
      simp (disch := omega) only [q_add, q_mul, q_m7, q_m6, q_6m, q_7m, q_a1, q_5m, q_m5, q_71, q_11, q_87, q_41, q_76, q_5a, q_0a, q_a6, q_nat, q_in, q_lt, q_eq, q_lt0, if_true, if_false]
      have : k = 5 := by omega
      subst this
      rw [if_neg (by omega)]
      exact hK
    | succ r ih =>
      intro k hk
      refine b_269c54_6 _ _ _ (lm_Lay_lr hl _ _) ?_
      simp (disch := omega) only [q_add, q_mul, q_m7, q_m6, q_6m, q_7m, q_a1, q_5m, q_m5, q_71, q_11, q_87, q_41, q_76, q_5a, q_0a, q_a6, q_nat, q_in, q_lt, q_eq, q_lt0, if_true, if_false]
      rw [if_pos (by omega), q_lrS]
      have e : (fun j => if j = k then x else if j < k then x else lm_l h 54 j) = fun j => if j < k + 1 then x else lm_l h 54 j := by
        funext j
        by_cases c : j = k
        · rw [if_pos c, if_pos (by omega)]
        · rw [if_neg c]
          by_cases c2 : j < k
          · rw [if_pos c2, if_pos (by omega)]
          · rw [if_neg c2, if_neg (by omega)]
      rw [e]
      exact ih (k + 1) (by omega)
  have := lp 5 0 (by omega)
  have e : (fun j => if j < 0 then x else lm_l h 54 j) = lm_l h 54 := by
    funext j
    rw [if_neg (by omega)]
  rw [e, q_lrI] at this
  exact this
