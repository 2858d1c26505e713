/-! Laws: reading by the class. -/
def cg (h h' : lm_H) (z p' l k' : Nat) (co : cD) : Prop := fr [13, 17] [] h h' ∧ rs h' p' (z + l) k' ∧ lm_i h' 13 7 = lm_i h 13 7 ∧ (∀ j, j < z → lm_i h' 17 j = lm_i h 17 j) ∧ ∀ j, j < l → lm_i h' 17 (z + j) = co z j
def cf (pl : Nat → Nat) (h h' : lm_H) (q : Nat) : Prop := fr [13, 17] [] h h' ∧ lm_i h' 13 7 = Int32.ofNat (pl q) ∧ ∃ z, z ≤ 401 ∧ lm_i h' 13 5 = Int32.ofNat z
theorem cg_tr {h h1 h2 : lm_H} {z p1 l1 k1 p2 l2 k2 : Nat} {c1 c2 : cD} (a : cg h h1 z p1 l1 k1 c1) (b : cg h1 h2 (z + l1) p2 l2 k2 c2) : cg h h2 z p2 (l1 + l2) k2 (cc1 l1 c1 c2) := by
  obtain ⟨a1, a2, a3, a4, a5⟩ := a
  obtain ⟨b1, b2, b3, b4, b5⟩ := b
  refine ⟨fr_trans a1 b1, by rw [← Nat.add_assoc]; exact b2, b3.trans a3, fun j hj => (b4 j (by omega)).trans (a4 j hj), fun j hj => ?_⟩
  by_cases c : j < l1
  · rw [cc1_lo c, b4 _ (by omega)]
    exact a5 j c
  · have e : j = l1 + (j - l1) := by omega
    rw [e, cc1_hi, ← Nat.add_assoc]
    exact b5 _ (by omega)
theorem cg_at {h h' : lm_H} {z p' l k' : Nat} {co : cD} {v : Int32} (a : cg (lm_si h 13 4 v) h' z p' l k' co) : cg h h' z p' l k' co := by
  obtain ⟨a1, a2, a3, a4, a5⟩ := a
  refine ⟨fr_trans (fr_si (fr_refl _ _ _) (by decide) (by decide) _ _) a1, a2, ?_, fun j hj => ?_, a5⟩
  · rw [a3, pi_si, if_pos rfl, if_neg (by decide)]
  · rw [a4 j hj, pi_si, if_neg (by decide)]
theorem cg_rf {h : lm_H} {z p k : Nat} (c : cD) (hr : rs h p z k) : cg h h z p 0 k c := ⟨fr_refl _ _ _, hr, rfl, fun _ _ => rfl, fun j hj => by omega⟩
theorem cg_emit {h : lm_H} {z p k x n : Nat} (hr : rs h p z k) : cg h (lm_si (lm_si h 17 z (st x n)) 13 5 (Int32.ofNat (z + 1))) z p 1 k (fun _ _ => st x n) := by
  refine ⟨fr_si (fr_si (fr_refl _ _ _) (by decide) (by decide) _ _) (by decide) (by decide) _ _, ⟨?_, ?_, ?_⟩, ?_, fun j hj => ?_, fun j hj => ?_⟩
  · simp only [pi_si, Nat.reduceEqDiff, if_true, if_false]; exact hr.1
  · simp only [pi_si, if_true]
  · simp only [pi_si, Nat.reduceEqDiff, if_true, if_false]; exact hr.2.2
  · simp only [pi_si, Nat.reduceEqDiff, if_true, if_false]
  · simp only [pi_si, Nat.reduceEqDiff, if_true, if_false, show ¬ j = z by omega]
  · have : j = 0 := by omega
    subst this
    simp only [pi_si, Nat.reduceEqDiff, if_true, if_false, Nat.add_zero]
theorem cf_tr {pl : Nat → Nat} {h h1 h2 : lm_H} {q : Nat} (a : fr [13, 17] [] h h1) (b : cf pl h1 h2 q) : cf pl h h2 q := ⟨fr_trans a b.1, b.2⟩
theorem cf_here {pl : Nat → Nat} {h : lm_H} {p z k q : Nat} (hr : rs h p z k) (hz : z ≤ 401) : cf pl h (lm_si h 13 7 (Int32.ofNat (pl q))) q :=
  ⟨fr_si (fr_refl _ _ _) (by decide) (by decide) _ _, by rw [pi_si, if_pos rfl, if_pos rfl], z, hz, by rw [pi_si, if_pos rfl, if_neg (by decide)]; exact hr.2.1⟩
theorem rs_at {h : lm_H} {p z k : Nat} (hr : rs h p z k) (v : Nat) : rs (lm_si h 13 4 (Int32.ofNat v)) v z k :=
  ⟨by rw [pi_si, if_pos rfl, if_pos rfl], by rw [pi_si, if_pos rfl, if_neg (by decide)]; exact hr.2.1, by rw [pi_si, if_pos rfl, if_neg (by decide)]; exact hr.2.2⟩
theorem fr_13 (h : lm_H) (j : Nat) (v : Int32) : fr [13, 17] [] h (lm_si h 13 j v) := fr_si (fr_refl _ _ _) (by decide) (by decide) _ _
/-- written behind a fault: no harm -/
theorem cf_35 {D q : Nat} {pl : Nat → Nat} {h0 h : lm_H} {K : lm_H → Prop} {x n : Int32} (hD : 1 ≤ D) (hl : lm_Lay h0) (a : cf pl h0 h q) (hK : ∀ h', cf pl h0 h' q → K h') : lm_call D 35 [.ref 13, .int x, .int n] h (lm_kV K) := by
  obtain ⟨d, rfl⟩ := q_dp hD
  obtain ⟨a1, a2, z, a3, a4⟩ := a
  refine e_35 _ _ (fr_Lay a1 hl) ?_
  rw [a4]
  by_cases c : z < 401
  · rw [if_pos (by rw [show (401 : Int32) = Int32.ofNat 401 from rfl, q_lt (by omega) (by omega)]; exact c), q_in (by omega) (by omega), q_nat (by omega), q_a1]
    refine hK _ ⟨fr_si (fr_si a1 (by decide) (by decide) _ _) (by decide) (by decide) _ _, ?_, z + 1, by omega, ?_⟩
    · simp only [pi_si, Nat.reduceEqDiff, if_true, if_false]; exact a2
    · simp only [pi_si, if_true]
  · rw [if_neg (by rw [show (401 : Int32) = Int32.ofNat 401 from rfl, q_lt (by omega) (by omega)]; exact c)]
    exact hK h ⟨a1, a2, z, a3, a4⟩
theorem cf_36 {D q s : Nat} {pl : Nat → Nat} {h0 h : lm_H} {K : lm_H → Prop} {x : Int32} (hD : 1 ≤ D) (hl : lm_Lay h0) (a : cf pl h0 h q) (hs : s < 401) (hK : ∀ h', cf pl h0 h' q → K h') : lm_call D 36 [.ref 13, .int (Int32.ofNat s), .int x] h (lm_kV K) := by
  obtain ⟨d, rfl⟩ := q_dp hD
  obtain ⟨a1, a2, z, a3, a4⟩ := a
  refine e_36 _ _ (fr_Lay a1 hl) ?_
  rw [if_pos (by rw [show (401 : Int32) = Int32.ofNat 401 from rfl, q_lt (by omega) (by omega)]; exact hs), q_in (by omega) (by omega), q_nat (by omega)]
  refine hK _ ⟨fr_si a1 (by decide) (by decide) _ _, ?_, z, a3, ?_⟩
  · rw [pi_si, if_neg (by decide)]; exact a2
  · rw [pi_si, if_neg (by decide)]; exact a4
theorem cg_end {h h' : lm_H} {z p l k v : Nat} {c : cD} (a : cg h h' z p l k c) : cg h (lm_si h' 13 4 (Int32.ofNat v)) z v l k c :=
  ⟨fr_si a.1 (by decide) (by decide) _ _, rs_at a.2.1 v, by rw [pi_si, if_pos rfl, if_neg (by decide)]; exact a.2.2.1, fun j hj => by rw [pi_si, if_neg (by decide)]; exact a.2.2.2.1 j hj, fun j hj => by rw [pi_si, if_neg (by decide)]; exact a.2.2.2.2 j hj⟩
section ReadC
variable (kk nu pl : Nat → Nat) (N : Nat)
def CF (M a dp p k q : Nat) : Prop := ∀ (D : Nat) (h : lm_H) (K : Int32 → lm_H → Prop) (z : Nat), dp ≤ D → tkc kk nu pl N h → rs h p z k → z ≤ p → (∀ h', cf pl h h' q → K 0 h') → lm_call D M [.ref 13, .int (Int32.ofNat a)] h (lm_kI K)
def CO (M a dp p k p' k' l : Nat) (co : cD) : Prop := ∀ (D : Nat) (h : lm_H) (K : Int32 → lm_H → Prop) (z : Nat), dp ≤ D → tkc kk nu pl N h → rs h p z k → z ≤ p → (∀ h', cg h h' z p' l k' co → K 1 h') → lm_call D M [.ref 13, .int (Int32.ofNat a)] h (lm_kI K)
def CFt (M a dp p k q : Nat) : Prop := ∀ (d : Nat) (h : lm_H) (K : Int32 → lm_H → Prop) (z x : Nat), dp ≤ d → tkc kk nu pl N h → rs h p z k → z ≤ p → x ≤ p → (∀ h', cf pl h h' q → K 0 h') → lm_W d M 8 [some (.ref 13), some (.int (Int32.ofNat a)), some (.int 1), some (.int (Int32.ofNat x)), none] [] h (lm_kI K)
def COt (M a dp p k p' k' l : Nat) (co : cD) : Prop := ∀ (d : Nat) (h : lm_H) (K : Int32 → lm_H → Prop) (z x : Nat), dp ≤ d → tkc kk nu pl N h → rs h p z k → z ≤ p → x ≤ p → (∀ h', cg h h' z p' l k' co → K 1 h') → lm_W d M 8 [some (.ref 13), some (.int (Int32.ofNat a)), some (.int 1), some (.int (Int32.ofNat x)), none] [] h (lm_kI K)
/-- behind o times not, o odd or even -/
def CFp (a dp p k o q : Nat) : Prop := ∀ (d : Nat) (h : lm_H) (K : Int32 → lm_H → Prop) (z x : Nat), dp ≤ d → tkc kk nu pl N h → rs h p z k → z + o ≤ p → x ≤ p → (∀ h', cf pl h h' q → K 0 h') → lm_W d 40 4 [some (.ref 13), some (.int (Int32.ofNat a)), some (.int (Int32.ofNat o)), some (.int (Int32.ofNat x))] [] h (lm_kI K)
def COp (a dp p k o p' k' l : Nat) (co : cD) : Prop := ∀ (d : Nat) (h : lm_H) (K : Int32 → lm_H → Prop) (z x : Nat), dp ≤ d → tkc kk nu pl N h → rs h p z k → z + o ≤ p → x ≤ p → (∀ h', cg h h' z p' l k' co → K 1 h') → lm_W d 40 4 [some (.ref 13), some (.int (Int32.ofNat a)), some (.int (Int32.ofNat o)), some (.int (Int32.ofNat x))] [] h (lm_kI K)
end ReadC
section ReadCT
variable {kk nu pl : Nat → Nat} {N a dp p k q p1 k1 l1 p2 k2 l2 : Nat} {c1 c2 : cD}
theorem nar0 : vp_nar .boolean 0 = 0 := q_b1or 0 (Or.inl rfl)
theorem nar1 : vp_nar .boolean 1 = 1 := q_b1or 1 (Or.inr rfl)
theorem C_f0_45 {q x : Nat} {d : Nat} {h0 h : lm_H} {K : Int32 → lm_H → Prop} {a x : Int32} (hl : lm_Lay h) (hK : K 0 h) : lm_W d 45 8 [some (.ref 13), some (.int a), some (.int 0), some (.int x), none] [] h (lm_kI K) := by
  refine b_45_8 _ _ _ hl ?_
  rw [if_pos rfl]
  exact ⟨nar0, hK⟩
theorem C_s1_45 (h1 : CF kk nu pl N 46 a dp p k q) : CF kk nu pl N 45 a (dp + 1) p k q := by
  intro D h K z hD H hr hz hK
  obtain ⟨d, rfl⟩ := q_dp (k := 1) (D := D) (by omega)
  refine e_45 _ H.1 ?_
  refine h1 d h _ z (by omega) H hr hz (fun h' c => ?_)
  exact C_f0_45 (q := 0) (x := 0) (h0 := h) (fr_Lay c.1 H.1) (hK h' c)
theorem C_s2_45 (h1 : CO kk nu pl N 46 a dp p k p1 k1 l1 c1) (hl : p + l1 ≤ p1) (h2 : CFt kk nu pl N 45 a dp p1 k1 q) : CF kk nu pl N 45 a (dp + 1) p k q := by
  intro D h K z hD H hr hz hK
  obtain ⟨d, rfl⟩ := q_dp (k := 1) (D := D) (by omega)
  refine e_45 _ H.1 ?_
  refine h1 d h _ z (by omega) H hr hz (fun h' c => ?_)
  exact h2 d h' K (z + l1) 0 (by omega) (tkc_fr H c.1 (by decide)) c.2.1 (by omega) (by omega) (fun h2 c2 => hK h2 (cf_tr c.1 c2))
theorem C_so_45 (h1 : CO kk nu pl N 46 a dp p k p1 k1 l1 c1) (hl : p + l1 ≤ p1) (h2 : COt kk nu pl N 45 a dp p1 k1 p2 k2 l2 c2) : CO kk nu pl N 45 a (dp + 1) p k p2 k2 (l1 + l2) (cc1 l1 c1 c2) := by
  intro D h K z hD H hr hz hK
  obtain ⟨d, rfl⟩ := q_dp (k := 1) (D := D) (by omega)
  refine e_45 _ H.1 ?_
  refine h1 d h _ z (by omega) H hr hz (fun h' c => ?_)
  exact h2 d h' K (z + l1) 0 (by omega) (tkc_fr H c.1 (by decide)) c.2.1 (by omega) (by omega) (fun h2 c2 => hK h2 (cg_tr c c2))
theorem C_f0_46 {q x : Nat} {d : Nat} {h0 h : lm_H} {K : Int32 → lm_H → Prop} {a x : Int32} (hl : lm_Lay h) (hK : K 0 h) : lm_W d 46 8 [some (.ref 13), some (.int a), some (.int 0), some (.int x), none] [] h (lm_kI K) := by
  refine b_46_8 _ _ _ hl ?_
  rw [if_pos rfl]
  exact ⟨nar0, hK⟩
theorem C_s1_46 (h1 : CF kk nu pl N 47 a dp p k q) : CF kk nu pl N 46 a (dp + 1) p k q := by
  intro D h K z hD H hr hz hK
  obtain ⟨d, rfl⟩ := q_dp (k := 1) (D := D) (by omega)
  refine e_46 _ H.1 ?_
  refine h1 d h _ z (by omega) H hr hz (fun h' c => ?_)
  exact C_f0_46 (q := 0) (x := 0) (h0 := h) (fr_Lay c.1 H.1) (hK h' c)
theorem C_s2_46 (h1 : CO kk nu pl N 47 a dp p k p1 k1 l1 c1) (hl : p + l1 ≤ p1) (h2 : CFt kk nu pl N 46 a dp p1 k1 q) : CF kk nu pl N 46 a (dp + 1) p k q := by
  intro D h K z hD H hr hz hK
  obtain ⟨d, rfl⟩ := q_dp (k := 1) (D := D) (by omega)
  refine e_46 _ H.1 ?_
  refine h1 d h _ z (by omega) H hr hz (fun h' c => ?_)
  exact h2 d h' K (z + l1) 0 (by omega) (tkc_fr H c.1 (by decide)) c.2.1 (by omega) (by omega) (fun h2 c2 => hK h2 (cf_tr c.1 c2))
theorem C_so_46 (h1 : CO kk nu pl N 47 a dp p k p1 k1 l1 c1) (hl : p + l1 ≤ p1) (h2 : COt kk nu pl N 46 a dp p1 k1 p2 k2 l2 c2) : CO kk nu pl N 46 a (dp + 1) p k p2 k2 (l1 + l2) (cc1 l1 c1 c2) := by
  intro D h K z hD H hr hz hK
  obtain ⟨d, rfl⟩ := q_dp (k := 1) (D := D) (by omega)
  refine e_46 _ H.1 ?_
  refine h1 d h _ z (by omega) H hr hz (fun h' c => ?_)
  exact h2 d h' K (z + l1) 0 (by omega) (tkc_fr H c.1 (by decide)) c.2.1 (by omega) (by omega) (fun h2 c2 => hK h2 (cg_tr c c2))
theorem C_f0_38 {q x : Nat} {d : Nat} {h0 h : lm_H} {K : Int32 → lm_H → Prop} {a x : Int32} (hl : lm_Lay h) (hK : K 0 h) : lm_W d 38 8 [some (.ref 13), some (.int a), some (.int 0), some (.int x), none] [] h (lm_kI K) := by
  refine b_38_8 _ _ _ hl ?_
  rw [if_pos rfl]
  exact ⟨nar0, hK⟩
theorem C_s1_38 (h1 : CF kk nu pl N 39 a dp p k q) : CF kk nu pl N 38 a (dp + 1) p k q := by
  intro D h K z hD H hr hz hK
  obtain ⟨d, rfl⟩ := q_dp (k := 1) (D := D) (by omega)
  refine e_38 _ H.1 ?_
  refine h1 d h _ z (by omega) H hr hz (fun h' c => ?_)
  exact C_f0_38 (q := 0) (x := 0) (h0 := h) (fr_Lay c.1 H.1) (hK h' c)
theorem C_s2_38 (h1 : CO kk nu pl N 39 a dp p k p1 k1 l1 c1) (hl : p + l1 ≤ p1) (h2 : CFt kk nu pl N 38 a dp p1 k1 q) : CF kk nu pl N 38 a (dp + 1) p k q := by
  intro D h K z hD H hr hz hK
  obtain ⟨d, rfl⟩ := q_dp (k := 1) (D := D) (by omega)
  refine e_38 _ H.1 ?_
  refine h1 d h _ z (by omega) H hr hz (fun h' c => ?_)
  exact h2 d h' K (z + l1) 0 (by omega) (tkc_fr H c.1 (by decide)) c.2.1 (by omega) (by omega) (fun h2 c2 => hK h2 (cf_tr c.1 c2))
theorem C_so_38 (h1 : CO kk nu pl N 39 a dp p k p1 k1 l1 c1) (hl : p + l1 ≤ p1) (h2 : COt kk nu pl N 38 a dp p1 k1 p2 k2 l2 c2) : CO kk nu pl N 38 a (dp + 1) p k p2 k2 (l1 + l2) (cc1 l1 c1 c2) := by
  intro D h K z hD H hr hz hK
  obtain ⟨d, rfl⟩ := q_dp (k := 1) (D := D) (by omega)
  refine e_38 _ H.1 ?_
  refine h1 d h _ z (by omega) H hr hz (fun h' c => ?_)
  exact h2 d h' K (z + l1) 0 (by omega) (tkc_fr H c.1 (by decide)) c.2.1 (by omega) (by omega) (fun h2 c2 => hK h2 (cg_tr c c2))
theorem C_f0_39 {q x : Nat} {d : Nat} {h0 h : lm_H} {K : Int32 → lm_H → Prop} {a x : Int32} (hl : lm_Lay h) (hK : K 0 h) : lm_W d 39 8 [some (.ref 13), some (.int a), some (.int 0), some (.int x), none] [] h (lm_kI K) := by
  refine b_39_8 _ _ _ hl ?_
  rw [if_pos rfl]
  exact ⟨nar0, hK⟩
theorem C_s1_39 (h1 : CF kk nu pl N 40 a dp p k q) : CF kk nu pl N 39 a (dp + 1) p k q := by
  intro D h K z hD H hr hz hK
  obtain ⟨d, rfl⟩ := q_dp (k := 1) (D := D) (by omega)
  refine e_39 _ H.1 ?_
  refine h1 d h _ z (by omega) H hr hz (fun h' c => ?_)
  exact C_f0_39 (q := 0) (x := 0) (h0 := h) (fr_Lay c.1 H.1) (hK h' c)
theorem C_s2_39 (h1 : CO kk nu pl N 40 a dp p k p1 k1 l1 c1) (hl : p + l1 ≤ p1) (h2 : CFt kk nu pl N 39 a dp p1 k1 q) : CF kk nu pl N 39 a (dp + 1) p k q := by
  intro D h K z hD H hr hz hK
  obtain ⟨d, rfl⟩ := q_dp (k := 1) (D := D) (by omega)
  refine e_39 _ H.1 ?_
  refine h1 d h _ z (by omega) H hr hz (fun h' c => ?_)
  exact h2 d h' K (z + l1) 0 (by omega) (tkc_fr H c.1 (by decide)) c.2.1 (by omega) (by omega) (fun h2 c2 => hK h2 (cf_tr c.1 c2))
theorem C_so_39 (h1 : CO kk nu pl N 40 a dp p k p1 k1 l1 c1) (hl : p + l1 ≤ p1) (h2 : COt kk nu pl N 39 a dp p1 k1 p2 k2 l2 c2) : CO kk nu pl N 39 a (dp + 1) p k p2 k2 (l1 + l2) (cc1 l1 c1 c2) := by
  intro D h K z hD H hr hz hK
  obtain ⟨d, rfl⟩ := q_dp (k := 1) (D := D) (by omega)
  refine e_39 _ H.1 ?_
  refine h1 d h _ z (by omega) H hr hz (fun h' c => ?_)
  exact h2 d h' K (z + l1) 0 (by omega) (tkc_fr H c.1 (by decide)) c.2.1 (by omega) (by omega) (fun h2 c2 => hK h2 (cg_tr c c2))
theorem kk_lt (ht : tks kk nu pl N ) (hp : p ≤ N) (h : ¬ kk p = 256) : p < N := by
  have := (ht.2.1 p hp).2
  by_cases c : p = N
  · exact absurd (this.2 c) h
  · omega
theorem kk_ne (ht : tks kk nu pl N) (hp : p ≤ N) {c : Nat} (hc : c < 300) : (Int32.ofNat (kk p) = Int32.ofNat c) = (kk p = c) := by
  have := (ht.2.1 p hp).1
  exact q_eq (by omega) (by omega)
theorem T_nil_45 (ht : tks kk nu pl N) (hp : p ≤ N) (hA : ¬ kk p = 43) (hB : ¬ kk p = 45) (hd : 1 ≤ dp) : COt kk nu pl N 45 a dp p k p k 0 c1 := by
  intro d h K z x hD H hr hz hx hK
  have hN := ht.1
  refine b_45_8 _ _ _ H.1 ?_
  rw [if_neg (by decide)]
  by_cases c : x < 400
  · rw [if_pos (by rw [show (400 : Int32) = Int32.ofNat 400 from rfl, q_lt (by omega) (by omega)]; exact c)]
    refine cl_33 (by omega) ht H hr hp ?_
    rw [if_neg (show ¬ Int32.ofNat (kk p) = 43 by rw [show (43 : Int32) = Int32.ofNat 43 from rfl, kk_ne ht hp (by omega)]; exact hA)]
    refine cl_33 (by omega) ht H hr hp ?_
    rw [if_neg (show ¬ Int32.ofNat (kk p) = 45 by rw [show (45 : Int32) = Int32.ofNat 45 from rfl, kk_ne ht hp (by omega)]; exact hB)]
    exact ⟨nar1, hK h (cg_rf _ hr)⟩
  · rw [if_neg (by rw [show (400 : Int32) = Int32.ofNat 400 from rfl, q_lt (by omega) (by omega)]; exact c)]
    exact ⟨nar1, hK h (cg_rf _ hr)⟩
theorem T_go_45_43 {d x z : Nat} {h : lm_H} {K : Int32 → lm_H → Prop} (ht : tks kk nu pl N) (hp : p < N) (hd : 1 ≤ d) (H : tkc kk nu pl N h) (hr : rs h p z k) (hx : x ≤ p) (hop : kk p = 43) (hyp : lm_call d 46 [.ref 13, .int (Int32.ofNat a)] (lm_si h 13 4 (Int32.ofNat (p + 1))) (lm_kI fun r6 h5 => lm_call d 35 [.ref 13, .int 2, .int 0] h5 (lm_kV fun h7 => lm_W d 45 8 [some (.ref 13), some (.int (Int32.ofNat a)), some (.int r6), some (.int (Int32.ofNat (x + 1))), none] [] h7 (lm_kI K)))) : lm_W d 45 8 [some (.ref 13), some (.int (Int32.ofNat a)), some (.int 1), some (.int (Int32.ofNat x)), none] [] h (lm_kI K) := by
  have hN := ht.1
  refine b_45_8 _ _ _ H.1 ?_
  rw [if_neg (by decide), if_pos (by rw [show (400 : Int32) = Int32.ofNat 400 from rfl, q_lt (by omega) (by omega)]; omega)]
  refine cl_33 (by omega) ht H hr (by omega) ?_
  rw [if_pos (show Int32.ofNat (kk p) = 43 by rw [hop]; rfl)]
  refine cl_33 (by omega) ht H hr (by omega) ?_
  rw [if_pos (show Int32.ofNat (kk p) = 43 by rw [hop]; rfl), hr.1, q_a1, q_a1]
  exact hyp
theorem T_f1_45_43 (ht : tks kk nu pl N) (hp : p < N) (hd : 1 ≤ dp) (hop : kk p = 43) (h1 : CF kk nu pl N 46 a dp (p + 1) k q) : CFt kk nu pl N 45 a dp p k q := by
  intro d h K z x hD H hr hz hx hK
  refine T_go_45_43 ht hp (by omega) H hr hx hop ?_
  refine h1 d _ _ z hD (tkc_fr H (fr_13 h 4 _) (by decide)) (rs_at hr _) (by omega) (fun h' c => ?_)
  refine cf_35 (by omega) H.1 (cf_tr (fr_13 h 4 _) c) (fun h2 c2 => ?_)
  exact C_f0_45 (q := 0) (x := 0) (h0 := h) (fr_Lay c2.1 H.1) (hK h2 c2)
theorem T_f2_45_43 (ht : tks kk nu pl N) (hp : p < N) (hd : 1 ≤ dp) (hop : kk p = 43) (h1 : CO kk nu pl N 46 a dp (p + 1) k p1 k1 l1 c1) (hl : p + 1 + l1 ≤ p1) (hp1 : p1 ≤ N) (h2 : CFt kk nu pl N 45 a dp p1 k1 q) : CFt kk nu pl N 45 a dp p k q := by
  intro d h K z x hD H hr hz hx hK
  have hN := ht.1
  refine T_go_45_43 ht hp (by omega) H hr hx hop ?_
  refine h1 d _ _ z hD (tkc_fr H (fr_13 h 4 _) (by decide)) (rs_at hr _) (by omega) (fun h' c => ?_)
  have c' := cg_at c
  have e := cg_emit (x := 2) (n := 0) c.2.1
  refine cl_35 (x := 2) (n := 0) (by omega) (fr_Lay c'.1 H.1) c.2.1 (by omega) ?_
  exact h2 d _ K (z + l1 + 1) (x + 1) hD (tkc_fr H (fr_trans c'.1 e.1) (by decide)) e.2.1 (by omega) (by omega) (fun h2 c2 => hK h2 (cf_tr (fr_trans c'.1 e.1) c2))
theorem T_o_45_43 (ht : tks kk nu pl N) (hp : p < N) (hd : 1 ≤ dp) (hop : kk p = 43) (h1 : CO kk nu pl N 46 a dp (p + 1) k p1 k1 l1 c1) (hl : p + 1 + l1 ≤ p1) (hp1 : p1 ≤ N) (h2 : COt kk nu pl N 45 a dp p1 k1 p2 k2 l2 c2) : COt kk nu pl N 45 a dp p k p2 k2 (l1 + (1 + l2)) (cc1 l1 c1 (cc1 1 (fun _ _ => st 2 0) c2)) := by
  intro d h K z x hD H hr hz hx hK
  have hN := ht.1
  refine T_go_45_43 ht hp (by omega) H hr hx hop ?_
  refine h1 d _ _ z hD (tkc_fr H (fr_13 h 4 _) (by decide)) (rs_at hr _) (by omega) (fun h' c => ?_)
  have c' := cg_at c
  have e := cg_emit (x := 2) (n := 0) c.2.1
  refine cl_35 (x := 2) (n := 0) (by omega) (fr_Lay c'.1 H.1) c.2.1 (by omega) ?_
  exact h2 d _ K (z + l1 + 1) (x + 1) hD (tkc_fr H (fr_trans c'.1 e.1) (by decide)) e.2.1 (by omega) (by omega) (fun h2 c2 => hK h2 (cg_tr c' (cg_tr e c2)))
theorem T_go_45_45 {d x z : Nat} {h : lm_H} {K : Int32 → lm_H → Prop} (ht : tks kk nu pl N) (hp : p < N) (hd : 1 ≤ d) (H : tkc kk nu pl N h) (hr : rs h p z k) (hx : x ≤ p) (hop : kk p = 45) (hyp : lm_call d 46 [.ref 13, .int (Int32.ofNat a)] (lm_si h 13 4 (Int32.ofNat (p + 1))) (lm_kI fun r6 h5 => lm_call d 35 [.ref 13, .int 3, .int 0] h5 (lm_kV fun h7 => lm_W d 45 8 [some (.ref 13), some (.int (Int32.ofNat a)), some (.int r6), some (.int (Int32.ofNat (x + 1))), none] [] h7 (lm_kI K)))) : lm_W d 45 8 [some (.ref 13), some (.int (Int32.ofNat a)), some (.int 1), some (.int (Int32.ofNat x)), none] [] h (lm_kI K) := by
  have hN := ht.1
  refine b_45_8 _ _ _ H.1 ?_
  rw [if_neg (by decide), if_pos (by rw [show (400 : Int32) = Int32.ofNat 400 from rfl, q_lt (by omega) (by omega)]; omega)]
  refine cl_33 (by omega) ht H hr (by omega) ?_
  rw [if_neg (show ¬ Int32.ofNat (kk p) = 43 by rw [hop]; decide)]
  refine cl_33 (by omega) ht H hr (by omega) ?_
  rw [if_pos (show Int32.ofNat (kk p) = 45 by rw [hop]; rfl)]
  refine cl_33 (by omega) ht H hr (by omega) ?_
  rw [if_neg (show ¬ Int32.ofNat (kk p) = 43 by rw [hop]; decide), hr.1, q_a1, q_a1]
  exact hyp
theorem T_f1_45_45 (ht : tks kk nu pl N) (hp : p < N) (hd : 1 ≤ dp) (hop : kk p = 45) (h1 : CF kk nu pl N 46 a dp (p + 1) k q) : CFt kk nu pl N 45 a dp p k q := by
  intro d h K z x hD H hr hz hx hK
  refine T_go_45_45 ht hp (by omega) H hr hx hop ?_
  refine h1 d _ _ z hD (tkc_fr H (fr_13 h 4 _) (by decide)) (rs_at hr _) (by omega) (fun h' c => ?_)
  refine cf_35 (by omega) H.1 (cf_tr (fr_13 h 4 _) c) (fun h2 c2 => ?_)
  exact C_f0_45 (q := 0) (x := 0) (h0 := h) (fr_Lay c2.1 H.1) (hK h2 c2)
theorem T_f2_45_45 (ht : tks kk nu pl N) (hp : p < N) (hd : 1 ≤ dp) (hop : kk p = 45) (h1 : CO kk nu pl N 46 a dp (p + 1) k p1 k1 l1 c1) (hl : p + 1 + l1 ≤ p1) (hp1 : p1 ≤ N) (h2 : CFt kk nu pl N 45 a dp p1 k1 q) : CFt kk nu pl N 45 a dp p k q := by
  intro d h K z x hD H hr hz hx hK
  have hN := ht.1
  refine T_go_45_45 ht hp (by omega) H hr hx hop ?_
  refine h1 d _ _ z hD (tkc_fr H (fr_13 h 4 _) (by decide)) (rs_at hr _) (by omega) (fun h' c => ?_)
  have c' := cg_at c
  have e := cg_emit (x := 3) (n := 0) c.2.1
  refine cl_35 (x := 3) (n := 0) (by omega) (fr_Lay c'.1 H.1) c.2.1 (by omega) ?_
  exact h2 d _ K (z + l1 + 1) (x + 1) hD (tkc_fr H (fr_trans c'.1 e.1) (by decide)) e.2.1 (by omega) (by omega) (fun h2 c2 => hK h2 (cf_tr (fr_trans c'.1 e.1) c2))
theorem T_o_45_45 (ht : tks kk nu pl N) (hp : p < N) (hd : 1 ≤ dp) (hop : kk p = 45) (h1 : CO kk nu pl N 46 a dp (p + 1) k p1 k1 l1 c1) (hl : p + 1 + l1 ≤ p1) (hp1 : p1 ≤ N) (h2 : COt kk nu pl N 45 a dp p1 k1 p2 k2 l2 c2) : COt kk nu pl N 45 a dp p k p2 k2 (l1 + (1 + l2)) (cc1 l1 c1 (cc1 1 (fun _ _ => st 3 0) c2)) := by
  intro d h K z x hD H hr hz hx hK
  have hN := ht.1
  refine T_go_45_45 ht hp (by omega) H hr hx hop ?_
  refine h1 d _ _ z hD (tkc_fr H (fr_13 h 4 _) (by decide)) (rs_at hr _) (by omega) (fun h' c => ?_)
  have c' := cg_at c
  have e := cg_emit (x := 3) (n := 0) c.2.1
  refine cl_35 (x := 3) (n := 0) (by omega) (fr_Lay c'.1 H.1) c.2.1 (by omega) ?_
  exact h2 d _ K (z + l1 + 1) (x + 1) hD (tkc_fr H (fr_trans c'.1 e.1) (by decide)) e.2.1 (by omega) (by omega) (fun h2 c2 => hK h2 (cg_tr c' (cg_tr e c2)))
theorem T_nil_46 (ht : tks kk nu pl N) (hp : p ≤ N) (hA : ¬ kk p = 42) (hB : ¬ kk p = 47) (hd : 1 ≤ dp) : COt kk nu pl N 46 a dp p k p k 0 c1 := by
  intro d h K z x hD H hr hz hx hK
  have hN := ht.1
  refine b_46_8 _ _ _ H.1 ?_
  rw [if_neg (by decide)]
  by_cases c : x < 400
  · rw [if_pos (by rw [show (400 : Int32) = Int32.ofNat 400 from rfl, q_lt (by omega) (by omega)]; exact c)]
    refine cl_33 (by omega) ht H hr hp ?_
    rw [if_neg (show ¬ Int32.ofNat (kk p) = 42 by rw [show (42 : Int32) = Int32.ofNat 42 from rfl, kk_ne ht hp (by omega)]; exact hA)]
    refine cl_33 (by omega) ht H hr hp ?_
    rw [if_neg (show ¬ Int32.ofNat (kk p) = 47 by rw [show (47 : Int32) = Int32.ofNat 47 from rfl, kk_ne ht hp (by omega)]; exact hB)]
    exact ⟨nar1, hK h (cg_rf _ hr)⟩
  · rw [if_neg (by rw [show (400 : Int32) = Int32.ofNat 400 from rfl, q_lt (by omega) (by omega)]; exact c)]
    exact ⟨nar1, hK h (cg_rf _ hr)⟩
theorem T_go_46_42 {d x z : Nat} {h : lm_H} {K : Int32 → lm_H → Prop} (ht : tks kk nu pl N) (hp : p < N) (hd : 1 ≤ d) (H : tkc kk nu pl N h) (hr : rs h p z k) (hx : x ≤ p) (hop : kk p = 42) (hyp : lm_call d 47 [.ref 13, .int (Int32.ofNat a)] (lm_si h 13 4 (Int32.ofNat (p + 1))) (lm_kI fun r6 h5 => lm_call d 35 [.ref 13, .int 4, .int 0] h5 (lm_kV fun h7 => lm_W d 46 8 [some (.ref 13), some (.int (Int32.ofNat a)), some (.int r6), some (.int (Int32.ofNat (x + 1))), none] [] h7 (lm_kI K)))) : lm_W d 46 8 [some (.ref 13), some (.int (Int32.ofNat a)), some (.int 1), some (.int (Int32.ofNat x)), none] [] h (lm_kI K) := by
  have hN := ht.1
  refine b_46_8 _ _ _ H.1 ?_
  rw [if_neg (by decide), if_pos (by rw [show (400 : Int32) = Int32.ofNat 400 from rfl, q_lt (by omega) (by omega)]; omega)]
  refine cl_33 (by omega) ht H hr (by omega) ?_
  rw [if_pos (show Int32.ofNat (kk p) = 42 by rw [hop]; rfl)]
  refine cl_33 (by omega) ht H hr (by omega) ?_
  rw [if_pos (show Int32.ofNat (kk p) = 42 by rw [hop]; rfl), hr.1, q_a1, q_a1]
  exact hyp
theorem T_f1_46_42 (ht : tks kk nu pl N) (hp : p < N) (hd : 1 ≤ dp) (hop : kk p = 42) (h1 : CF kk nu pl N 47 a dp (p + 1) k q) : CFt kk nu pl N 46 a dp p k q := by
  intro d h K z x hD H hr hz hx hK
  refine T_go_46_42 ht hp (by omega) H hr hx hop ?_
  refine h1 d _ _ z hD (tkc_fr H (fr_13 h 4 _) (by decide)) (rs_at hr _) (by omega) (fun h' c => ?_)
  refine cf_35 (by omega) H.1 (cf_tr (fr_13 h 4 _) c) (fun h2 c2 => ?_)
  exact C_f0_46 (q := 0) (x := 0) (h0 := h) (fr_Lay c2.1 H.1) (hK h2 c2)
theorem T_f2_46_42 (ht : tks kk nu pl N) (hp : p < N) (hd : 1 ≤ dp) (hop : kk p = 42) (h1 : CO kk nu pl N 47 a dp (p + 1) k p1 k1 l1 c1) (hl : p + 1 + l1 ≤ p1) (hp1 : p1 ≤ N) (h2 : CFt kk nu pl N 46 a dp p1 k1 q) : CFt kk nu pl N 46 a dp p k q := by
  intro d h K z x hD H hr hz hx hK
  have hN := ht.1
  refine T_go_46_42 ht hp (by omega) H hr hx hop ?_
  refine h1 d _ _ z hD (tkc_fr H (fr_13 h 4 _) (by decide)) (rs_at hr _) (by omega) (fun h' c => ?_)
  have c' := cg_at c
  have e := cg_emit (x := 4) (n := 0) c.2.1
  refine cl_35 (x := 4) (n := 0) (by omega) (fr_Lay c'.1 H.1) c.2.1 (by omega) ?_
  exact h2 d _ K (z + l1 + 1) (x + 1) hD (tkc_fr H (fr_trans c'.1 e.1) (by decide)) e.2.1 (by omega) (by omega) (fun h2 c2 => hK h2 (cf_tr (fr_trans c'.1 e.1) c2))
theorem T_o_46_42 (ht : tks kk nu pl N) (hp : p < N) (hd : 1 ≤ dp) (hop : kk p = 42) (h1 : CO kk nu pl N 47 a dp (p + 1) k p1 k1 l1 c1) (hl : p + 1 + l1 ≤ p1) (hp1 : p1 ≤ N) (h2 : COt kk nu pl N 46 a dp p1 k1 p2 k2 l2 c2) : COt kk nu pl N 46 a dp p k p2 k2 (l1 + (1 + l2)) (cc1 l1 c1 (cc1 1 (fun _ _ => st 4 0) c2)) := by
  intro d h K z x hD H hr hz hx hK
  have hN := ht.1
  refine T_go_46_42 ht hp (by omega) H hr hx hop ?_
  refine h1 d _ _ z hD (tkc_fr H (fr_13 h 4 _) (by decide)) (rs_at hr _) (by omega) (fun h' c => ?_)
  have c' := cg_at c
  have e := cg_emit (x := 4) (n := 0) c.2.1
  refine cl_35 (x := 4) (n := 0) (by omega) (fr_Lay c'.1 H.1) c.2.1 (by omega) ?_
  exact h2 d _ K (z + l1 + 1) (x + 1) hD (tkc_fr H (fr_trans c'.1 e.1) (by decide)) e.2.1 (by omega) (by omega) (fun h2 c2 => hK h2 (cg_tr c' (cg_tr e c2)))
theorem T_go_46_47 {d x z : Nat} {h : lm_H} {K : Int32 → lm_H → Prop} (ht : tks kk nu pl N) (hp : p < N) (hd : 1 ≤ d) (H : tkc kk nu pl N h) (hr : rs h p z k) (hx : x ≤ p) (hop : kk p = 47) (hyp : lm_call d 47 [.ref 13, .int (Int32.ofNat a)] (lm_si h 13 4 (Int32.ofNat (p + 1))) (lm_kI fun r6 h5 => lm_call d 35 [.ref 13, .int 5, .int 0] h5 (lm_kV fun h7 => lm_W d 46 8 [some (.ref 13), some (.int (Int32.ofNat a)), some (.int r6), some (.int (Int32.ofNat (x + 1))), none] [] h7 (lm_kI K)))) : lm_W d 46 8 [some (.ref 13), some (.int (Int32.ofNat a)), some (.int 1), some (.int (Int32.ofNat x)), none] [] h (lm_kI K) := by
  have hN := ht.1
  refine b_46_8 _ _ _ H.1 ?_
  rw [if_neg (by decide), if_pos (by rw [show (400 : Int32) = Int32.ofNat 400 from rfl, q_lt (by omega) (by omega)]; omega)]
  refine cl_33 (by omega) ht H hr (by omega) ?_
  rw [if_neg (show ¬ Int32.ofNat (kk p) = 42 by rw [hop]; decide)]
  refine cl_33 (by omega) ht H hr (by omega) ?_
  rw [if_pos (show Int32.ofNat (kk p) = 47 by rw [hop]; rfl)]
  refine cl_33 (by omega) ht H hr (by omega) ?_
  rw [if_neg (show ¬ Int32.ofNat (kk p) = 42 by rw [hop]; decide), hr.1, q_a1, q_a1]
  exact hyp
theorem T_f1_46_47 (ht : tks kk nu pl N) (hp : p < N) (hd : 1 ≤ dp) (hop : kk p = 47) (h1 : CF kk nu pl N 47 a dp (p + 1) k q) : CFt kk nu pl N 46 a dp p k q := by
  intro d h K z x hD H hr hz hx hK
  refine T_go_46_47 ht hp (by omega) H hr hx hop ?_
  refine h1 d _ _ z hD (tkc_fr H (fr_13 h 4 _) (by decide)) (rs_at hr _) (by omega) (fun h' c => ?_)
  refine cf_35 (by omega) H.1 (cf_tr (fr_13 h 4 _) c) (fun h2 c2 => ?_)
  exact C_f0_46 (q := 0) (x := 0) (h0 := h) (fr_Lay c2.1 H.1) (hK h2 c2)
theorem T_f2_46_47 (ht : tks kk nu pl N) (hp : p < N) (hd : 1 ≤ dp) (hop : kk p = 47) (h1 : CO kk nu pl N 47 a dp (p + 1) k p1 k1 l1 c1) (hl : p + 1 + l1 ≤ p1) (hp1 : p1 ≤ N) (h2 : CFt kk nu pl N 46 a dp p1 k1 q) : CFt kk nu pl N 46 a dp p k q := by
  intro d h K z x hD H hr hz hx hK
  have hN := ht.1
  refine T_go_46_47 ht hp (by omega) H hr hx hop ?_
  refine h1 d _ _ z hD (tkc_fr H (fr_13 h 4 _) (by decide)) (rs_at hr _) (by omega) (fun h' c => ?_)
  have c' := cg_at c
  have e := cg_emit (x := 5) (n := 0) c.2.1
  refine cl_35 (x := 5) (n := 0) (by omega) (fr_Lay c'.1 H.1) c.2.1 (by omega) ?_
  exact h2 d _ K (z + l1 + 1) (x + 1) hD (tkc_fr H (fr_trans c'.1 e.1) (by decide)) e.2.1 (by omega) (by omega) (fun h2 c2 => hK h2 (cf_tr (fr_trans c'.1 e.1) c2))
theorem T_o_46_47 (ht : tks kk nu pl N) (hp : p < N) (hd : 1 ≤ dp) (hop : kk p = 47) (h1 : CO kk nu pl N 47 a dp (p + 1) k p1 k1 l1 c1) (hl : p + 1 + l1 ≤ p1) (hp1 : p1 ≤ N) (h2 : COt kk nu pl N 46 a dp p1 k1 p2 k2 l2 c2) : COt kk nu pl N 46 a dp p k p2 k2 (l1 + (1 + l2)) (cc1 l1 c1 (cc1 1 (fun _ _ => st 5 0) c2)) := by
  intro d h K z x hD H hr hz hx hK
  have hN := ht.1
  refine T_go_46_47 ht hp (by omega) H hr hx hop ?_
  refine h1 d _ _ z hD (tkc_fr H (fr_13 h 4 _) (by decide)) (rs_at hr _) (by omega) (fun h' c => ?_)
  have c' := cg_at c
  have e := cg_emit (x := 5) (n := 0) c.2.1
  refine cl_35 (x := 5) (n := 0) (by omega) (fr_Lay c'.1 H.1) c.2.1 (by omega) ?_
  exact h2 d _ K (z + l1 + 1) (x + 1) hD (tkc_fr H (fr_trans c'.1 e.1) (by decide)) e.2.1 (by omega) (by omega) (fun h2 c2 => hK h2 (cg_tr c' (cg_tr e c2)))
theorem T_nil_38 (ht : tks kk nu pl N) (hp : p ≤ N) (hA : ¬ kk p = 260) (hd : 1 ≤ dp) : COt kk nu pl N 38 a dp p k p k 0 c1 := by
  intro d h K z x hD H hr hz hx hK
  have hN := ht.1
  refine b_38_8 _ _ _ H.1 ?_
  rw [if_neg (by decide)]
  by_cases c : x < 400
  · rw [if_pos (by rw [show (400 : Int32) = Int32.ofNat 400 from rfl, q_lt (by omega) (by omega)]; exact c)]
    refine cl_33 (by omega) ht H hr hp ?_
    rw [if_neg (show ¬ Int32.ofNat (kk p) = 260 by rw [show (260 : Int32) = Int32.ofNat 260 from rfl, kk_ne ht hp (by omega)]; exact hA)]
    exact ⟨nar1, hK h (cg_rf _ hr)⟩
  · rw [if_neg (by rw [show (400 : Int32) = Int32.ofNat 400 from rfl, q_lt (by omega) (by omega)]; exact c)]
    exact ⟨nar1, hK h (cg_rf _ hr)⟩
theorem T_go_38_260 {d x z : Nat} {h : lm_H} {K : Int32 → lm_H → Prop} (ht : tks kk nu pl N) (hp : p < N) (hd : 1 ≤ d) (H : tkc kk nu pl N h) (hr : rs h p z k) (hz : z ≤ p) (hx : x ≤ p) (hop : kk p = 260) (hyp : lm_call d 39 [.ref 13, .int (Int32.ofNat a)] (lm_si (lm_si (lm_si h 13 4 (Int32.ofNat (p + 1))) 17 z (st 10 0)) 13 5 (Int32.ofNat (z + 1))) (lm_kI fun r5 h4 => lm_call d 36 [.ref 13, .int (Int32.ofNat z), .int 10] h4 (lm_kV fun h6 => lm_W d 38 8 [some (.ref 13), some (.int (Int32.ofNat a)), some (.int r5), some (.int (Int32.ofNat (x + 1))), none] [] h6 (lm_kI K)))) : lm_W d 38 8 [some (.ref 13), some (.int (Int32.ofNat a)), some (.int 1), some (.int (Int32.ofNat x)), none] [] h (lm_kI K) := by
  have hN := ht.1
  refine b_38_8 _ _ _ H.1 ?_
  rw [if_neg (by decide), if_pos (by rw [show (400 : Int32) = Int32.ofNat 400 from rfl, q_lt (by omega) (by omega)]; omega)]
  refine cl_33 (by omega) ht H hr (by omega) ?_
  rw [if_pos (show Int32.ofNat (kk p) = 260 by rw [hop]; rfl), hr.1, q_a1, q_a1, hr.2.1]
  refine cl_35 (x := 10) (n := 0) (by omega) (lm_Lay_si H.1 _ _ _) (rs_at hr _) (by omega) ?_
  exact hyp
theorem T_f1_38_260 (ht : tks kk nu pl N) (hp : p < N) (hd : 1 ≤ dp) (hop : kk p = 260) (h1 : CF kk nu pl N 39 a dp (p + 1) k q) : CFt kk nu pl N 38 a dp p k q := by
  intro d h K z x hD H hr hz hx hK
  have hN := ht.1
  refine T_go_38_260 ht hp (by omega) H hr hz hx hop ?_
  have e := cg_at (cg_emit (x := 10) (n := 0) (rs_at hr (p + 1)))
  refine h1 d _ _ (z + 1) hD (tkc_fr H e.1 (by decide)) e.2.1 (by omega) (fun h' c => ?_)
  refine cf_36 (by omega) H.1 (cf_tr e.1 c) (by omega) (fun h2 c2 => ?_)
  exact C_f0_38 (q := 0) (x := 0) (h0 := h) (fr_Lay c2.1 H.1) (hK h2 c2)
theorem cg_10 {h h' : lm_H} {z p' k' l : Nat} {c : cD} (e : cg h h' z p' (1 + l) k' (cc1 1 (fun _ _ => st 10 0) c)) : cg h (lm_si h' 17 z (st 10 (z + 1 + l))) z p' (1 + l) k' (cj 10 l c) := by
  obtain ⟨e1, e2, e3, e4, e5⟩ := e
  refine ⟨fr_si e1 (by decide) (by decide) _ _, ⟨?_, ?_, ?_⟩, ?_, fun j hj => ?_, fun j hj => ?_⟩
  · rw [pi_si, if_neg (by decide)]; exact e2.1
  · rw [pi_si, if_neg (by decide)]; exact e2.2.1
  · rw [pi_si, if_neg (by decide)]; exact e2.2.2
  · rw [pi_si, if_neg (by decide)]; exact e3
  · rw [pi_si, if_pos rfl, if_neg (by omega)]; exact e4 j hj
  · rw [pi_si, if_pos rfl, cj]
    by_cases c0 : j = 0
    · rw [if_pos (by omega), if_pos c0]
    · rw [if_neg (by omega), if_neg c0, e5 j hj, cc1, if_neg (by omega)]
theorem T_f2_38_260 (ht : tks kk nu pl N) (hp : p < N) (hd : 1 ≤ dp) (hop : kk p = 260) (h1 : CO kk nu pl N 39 a dp (p + 1) k p1 k1 l1 c1) (hl : p + 1 + l1 ≤ p1) (hp1 : p1 ≤ N) (h2 : CFt kk nu pl N 38 a dp p1 k1 q) : CFt kk nu pl N 38 a dp p k q := by
  intro d h K z x hD H hr hz hx hK
  have hN := ht.1
  refine T_go_38_260 ht hp (by omega) H hr hz hx hop ?_
  have e := cg_at (cg_emit (x := 10) (n := 0) (rs_at hr (p + 1)))
  refine h1 d _ _ (z + 1) hD (tkc_fr H e.1 (by decide)) e.2.1 (by omega) (fun h' c => ?_)
  have e2 := cg_10 (cg_tr e c)
  refine cl_36 (x := 10) (by omega) (fr_Lay (fr_trans e.1 c.1) H.1) c.2.1 (by omega) ?_
  exact h2 d _ K (z + (1 + l1)) (x + 1) hD (tkc_fr H e2.1 (by decide)) e2.2.1 (by omega) (by omega) (fun h2 c2 => hK h2 (cf_tr e2.1 c2))
theorem T_o_38_260 (ht : tks kk nu pl N) (hp : p < N) (hd : 1 ≤ dp) (hop : kk p = 260) (h1 : CO kk nu pl N 39 a dp (p + 1) k p1 k1 l1 c1) (hl : p + 1 + l1 ≤ p1) (hp1 : p1 ≤ N) (h2 : COt kk nu pl N 38 a dp p1 k1 p2 k2 l2 c2) : COt kk nu pl N 38 a dp p k p2 k2 (1 + l1 + l2) (cc1 (1 + l1) (cj 10 l1 c1) c2) := by
  intro d h K z x hD H hr hz hx hK
  have hN := ht.1
  refine T_go_38_260 ht hp (by omega) H hr hz hx hop ?_
  have e := cg_at (cg_emit (x := 10) (n := 0) (rs_at hr (p + 1)))
  refine h1 d _ _ (z + 1) hD (tkc_fr H e.1 (by decide)) e.2.1 (by omega) (fun h' c => ?_)
  have e2 := cg_10 (cg_tr e c)
  refine cl_36 (x := 10) (by omega) (fr_Lay (fr_trans e.1 c.1) H.1) c.2.1 (by omega) ?_
  exact h2 d _ K (z + (1 + l1)) (x + 1) hD (tkc_fr H e2.1 (by decide)) e2.2.1 (by omega) (by omega) (fun h2 c2 => hK h2 (cg_tr e2 c2))
theorem T_nil_39 (ht : tks kk nu pl N) (hp : p ≤ N) (hA : ¬ kk p = 261) (hd : 1 ≤ dp) : COt kk nu pl N 39 a dp p k p k 0 c1 := by
  intro d h K z x hD H hr hz hx hK
  have hN := ht.1
  refine b_39_8 _ _ _ H.1 ?_
  rw [if_neg (by decide)]
  by_cases c : x < 400
  · rw [if_pos (by rw [show (400 : Int32) = Int32.ofNat 400 from rfl, q_lt (by omega) (by omega)]; exact c)]
    refine cl_33 (by omega) ht H hr hp ?_
    rw [if_neg (show ¬ Int32.ofNat (kk p) = 261 by rw [show (261 : Int32) = Int32.ofNat 261 from rfl, kk_ne ht hp (by omega)]; exact hA)]
    exact ⟨nar1, hK h (cg_rf _ hr)⟩
  · rw [if_neg (by rw [show (400 : Int32) = Int32.ofNat 400 from rfl, q_lt (by omega) (by omega)]; exact c)]
    exact ⟨nar1, hK h (cg_rf _ hr)⟩
theorem T_go_39_261 {d x z : Nat} {h : lm_H} {K : Int32 → lm_H → Prop} (ht : tks kk nu pl N) (hp : p < N) (hd : 1 ≤ d) (H : tkc kk nu pl N h) (hr : rs h p z k) (hz : z ≤ p) (hx : x ≤ p) (hop : kk p = 261) (hyp : lm_call d 40 [.ref 13, .int (Int32.ofNat a)] (lm_si (lm_si (lm_si h 13 4 (Int32.ofNat (p + 1))) 17 z (st 11 0)) 13 5 (Int32.ofNat (z + 1))) (lm_kI fun r5 h4 => lm_call d 36 [.ref 13, .int (Int32.ofNat z), .int 11] h4 (lm_kV fun h6 => lm_W d 39 8 [some (.ref 13), some (.int (Int32.ofNat a)), some (.int r5), some (.int (Int32.ofNat (x + 1))), none] [] h6 (lm_kI K)))) : lm_W d 39 8 [some (.ref 13), some (.int (Int32.ofNat a)), some (.int 1), some (.int (Int32.ofNat x)), none] [] h (lm_kI K) := by
  have hN := ht.1
  refine b_39_8 _ _ _ H.1 ?_
  rw [if_neg (by decide), if_pos (by rw [show (400 : Int32) = Int32.ofNat 400 from rfl, q_lt (by omega) (by omega)]; omega)]
  refine cl_33 (by omega) ht H hr (by omega) ?_
  rw [if_pos (show Int32.ofNat (kk p) = 261 by rw [hop]; rfl), hr.1, q_a1, q_a1, hr.2.1]
  refine cl_35 (x := 11) (n := 0) (by omega) (lm_Lay_si H.1 _ _ _) (rs_at hr _) (by omega) ?_
  exact hyp
theorem T_f1_39_261 (ht : tks kk nu pl N) (hp : p < N) (hd : 1 ≤ dp) (hop : kk p = 261) (h1 : CF kk nu pl N 40 a dp (p + 1) k q) : CFt kk nu pl N 39 a dp p k q := by
  intro d h K z x hD H hr hz hx hK
  have hN := ht.1
  refine T_go_39_261 ht hp (by omega) H hr hz hx hop ?_
  have e := cg_at (cg_emit (x := 11) (n := 0) (rs_at hr (p + 1)))
  refine h1 d _ _ (z + 1) hD (tkc_fr H e.1 (by decide)) e.2.1 (by omega) (fun h' c => ?_)
  refine cf_36 (by omega) H.1 (cf_tr e.1 c) (by omega) (fun h2 c2 => ?_)
  exact C_f0_39 (q := 0) (x := 0) (h0 := h) (fr_Lay c2.1 H.1) (hK h2 c2)
theorem cg_11 {h h' : lm_H} {z p' k' l : Nat} {c : cD} (e : cg h h' z p' (1 + l) k' (cc1 1 (fun _ _ => st 11 0) c)) : cg h (lm_si h' 17 z (st 11 (z + 1 + l))) z p' (1 + l) k' (cj 11 l c) := by
  obtain ⟨e1, e2, e3, e4, e5⟩ := e
  refine ⟨fr_si e1 (by decide) (by decide) _ _, ⟨?_, ?_, ?_⟩, ?_, fun j hj => ?_, fun j hj => ?_⟩
  · rw [pi_si, if_neg (by decide)]; exact e2.1
  · rw [pi_si, if_neg (by decide)]; exact e2.2.1
  · rw [pi_si, if_neg (by decide)]; exact e2.2.2
  · rw [pi_si, if_neg (by decide)]; exact e3
  · rw [pi_si, if_pos rfl, if_neg (by omega)]; exact e4 j hj
  · rw [pi_si, if_pos rfl, cj]
    by_cases c0 : j = 0
    · rw [if_pos (by omega), if_pos c0]
    · rw [if_neg (by omega), if_neg c0, e5 j hj, cc1, if_neg (by omega)]
theorem T_f2_39_261 (ht : tks kk nu pl N) (hp : p < N) (hd : 1 ≤ dp) (hop : kk p = 261) (h1 : CO kk nu pl N 40 a dp (p + 1) k p1 k1 l1 c1) (hl : p + 1 + l1 ≤ p1) (hp1 : p1 ≤ N) (h2 : CFt kk nu pl N 39 a dp p1 k1 q) : CFt kk nu pl N 39 a dp p k q := by
  intro d h K z x hD H hr hz hx hK
  have hN := ht.1
  refine T_go_39_261 ht hp (by omega) H hr hz hx hop ?_
  have e := cg_at (cg_emit (x := 11) (n := 0) (rs_at hr (p + 1)))
  refine h1 d _ _ (z + 1) hD (tkc_fr H e.1 (by decide)) e.2.1 (by omega) (fun h' c => ?_)
  have e2 := cg_11 (cg_tr e c)
  refine cl_36 (x := 11) (by omega) (fr_Lay (fr_trans e.1 c.1) H.1) c.2.1 (by omega) ?_
  exact h2 d _ K (z + (1 + l1)) (x + 1) hD (tkc_fr H e2.1 (by decide)) e2.2.1 (by omega) (by omega) (fun h2 c2 => hK h2 (cf_tr e2.1 c2))
theorem T_o_39_261 (ht : tks kk nu pl N) (hp : p < N) (hd : 1 ≤ dp) (hop : kk p = 261) (h1 : CO kk nu pl N 40 a dp (p + 1) k p1 k1 l1 c1) (hl : p + 1 + l1 ≤ p1) (hp1 : p1 ≤ N) (h2 : COt kk nu pl N 39 a dp p1 k1 p2 k2 l2 c2) : COt kk nu pl N 39 a dp p k p2 k2 (1 + l1 + l2) (cc1 (1 + l1) (cj 11 l1 c1) c2) := by
  intro d h K z x hD H hr hz hx hK
  have hN := ht.1
  refine T_go_39_261 ht hp (by omega) H hr hz hx hop ?_
  have e := cg_at (cg_emit (x := 11) (n := 0) (rs_at hr (p + 1)))
  refine h1 d _ _ (z + 1) hD (tkc_fr H e.1 (by decide)) e.2.1 (by omega) (fun h' c => ?_)
  have e2 := cg_11 (cg_tr e c)
  refine cl_36 (x := 11) (by omega) (fr_Lay (fr_trans e.1 c.1) H.1) c.2.1 (by omega) ?_
  exact h2 d _ K (z + (1 + l1)) (x + 1) hD (tkc_fr H e2.1 (by decide)) e2.2.1 (by omega) (by omega) (fun h2 c2 => hK h2 (cg_tr e2 c2))
/-- a part: a word or a number -/
theorem P_f (ht : tks kk nu pl N) (hp : p ≤ N) (hd : 1 ≤ dp) (ha : a ≤ 8) (hk : k ≤ 50) (hc : (kk p = 91 ∧ a = 8) ∨ (¬ kk p = 91 ∧ (k = 50 ∨ (kk p < 265 ∧ (¬ kk p = 257 ∨ 1000 < nu p))))) : CF kk nu pl N 47 a (dp + 1) p k p := by
  intro D h K z hD H hr hz hK
  obtain ⟨d, rfl⟩ := q_dp (k := 1) (D := D) (by omega)
  have hN := ht.1
  have hkk := (ht.2.1 p hp).1
  have hnu := ht.2.2.2 p hp
  have fin : lm_call d 34 [.ref 13] h (lm_kI fun r8 h7 => vp_nar .boolean r8 = r8 ∧ K r8 h7) := cl_34 (by omega) ht H hr hp ⟨nar0, hK _ (cf_here hr (by omega))⟩
  have hE : ∀ c, c < 300 → (Int32.ofNat (kk p) = Int32.ofNat c) = (kk p = c) := fun c hc => kk_ne ht hp hc
  have hLt : (Int32.ofNat (kk p) < 265) = (kk p < 265) := q_lt (b := 265) (by omega) (by omega)
  have hGt : (271 < Int32.ofNat (kk p)) = (271 < kk p) := q_lt (a := 271) (by omega) (by omega)
  refine e_47 _ H.1 ?_
  refine cl_33 (by omega) ht H hr hp ?_
  rcases hc with ⟨c1, c2⟩ | ⟨c1, c2⟩
  · rw [if_pos (show Int32.ofNat (kk p) = 91 by rw [c1]; rfl), if_neg (by rw [c2]; decide), if_pos (by rw [hLt]; omega), if_neg (show ¬ Int32.ofNat (kk p) = 257 by rw [c1]; decide)]
    exact fin
  · rw [if_neg (show ¬ Int32.ofNat (kk p) = 91 from fun q => c1 ((hE 91 (by omega)).mp q))]
    by_cases c3 : kk p < 265
    · rw [if_pos (by rw [hLt]; exact c3)]
      by_cases c4 : kk p = 257
      · rw [if_pos (show Int32.ofNat (kk p) = 257 by rw [c4]; rfl), hr.1, q_in (by omega) (by omega), q_nat (by omega), (H.2 p hp).2.2 c4]
        by_cases c5 : 1000 < nu p
        · rw [if_pos (by rw [show (1000 : Int32) = Int32.ofNat 1000 from rfl, q_lt (by omega) (by omega)]; exact c5)]
          exact fin
        · rw [if_neg (by rw [show (1000 : Int32) = Int32.ofNat 1000 from rfl, q_lt (by omega) (by omega)]; exact c5), hr.2.2, if_neg (by rw [show (50 : Int32) = Int32.ofNat 50 from rfl, q_lt (by omega) (by omega)]; omega)]
          exact fin
      · rw [if_neg (show ¬ Int32.ofNat (kk p) = 257 from fun q => c4 ((hE 257 (by omega)).mp q))]
        exact fin
    · rw [if_neg (by rw [hLt]; exact c3), if_neg (by rw [hGt]; omega), if_neg (show ¬ Int32.ofNat (kk p) = 257 from fun q => by have := (hE 257 (by omega)).mp q; omega), hr.2.2, if_neg (by rw [show (50 : Int32) = Int32.ofNat 50 from rfl, q_lt (by omega) (by omega)]; omega)]
      exact fin
/-- which step a part becomes -/
def pS (kk nu : Nat → Nat) (p : Nat) : Int32 := if kk p = 257 then st 0 (nu p) else st 1 (kk p - 265)
theorem P_o (ht : tks kk nu pl N) (hp : p ≤ N) (hd : 1 ≤ dp) (hk : k < 50) (hc : 265 ≤ kk p ∨ (kk p = 257 ∧ nu p ≤ 1000)) : CO kk nu pl N 47 a (dp + 1) p k (p + 1) (k + 1) 1 (fun _ _ => pS kk nu p) := by
  intro D h K z hD H hr hz hK
  obtain ⟨d, rfl⟩ := q_dp (k := 1) (D := D) (by omega)
  have hN := ht.1
  have hkk := (ht.2.1 p hp).1
  have hE : ∀ c, c < 300 → (Int32.ofNat (kk p) = Int32.ofNat c) = (kk p = c) := fun c hc => kk_ne ht hp hc
  have hLt : (Int32.ofNat (kk p) < 265) = (kk p < 265) := q_lt (b := 265) (by omega) (by omega)
  have hGt : (271 < Int32.ofNat (kk p)) = (271 < kk p) := q_lt (a := 271) (by omega) (by omega)
  have hr6 : rs (lm_si h 13 6 (Int32.ofNat (k + 1))) p z (k + 1) := ⟨by rw [pi_si, if_pos rfl, if_neg (by decide)]; exact hr.1, by rw [pi_si, if_pos rfl, if_neg (by decide)]; exact hr.2.1, by rw [pi_si, if_pos rfl, if_pos rfl]⟩
  have fin : ∀ x n, pS kk nu p = st x n → lm_call d 35 [.ref 13, .int (Int32.ofNat x), .int (Int32.ofNat n)] (lm_si h 13 6 (Int32.ofNat (k + 1))) (lm_kV fun h9 => K 1 (lm_si h9 13 4 (lm_i h9 13 4 + 1))) := by
    intro x n e
    have g := cg_emit (x := x) (n := n) hr6
    refine cl_35 (by omega) (lm_Lay_si H.1 _ _ _) hr6 (by omega) ?_
    rw [g.2.1.1, q_a1]
    refine hK _ ⟨fr_si (fr_trans (fr_13 h 6 _) g.1) (by decide) (by decide) _ _, rs_at g.2.1 (p + 1), ?_, fun j hj => ?_, fun j hj => ?_⟩
    · rw [pi_si, if_pos rfl, if_neg (by decide), g.2.2.1, pi_si, if_pos rfl, if_neg (by decide)]
    · rw [pi_si, if_neg (by decide), g.2.2.2.1 j hj, pi_si, if_neg (by decide)]
    · rw [pi_si, if_neg (by decide), g.2.2.2.2 j hj, e]
  have e50 : ¬ ¬ (Int32.ofNat k < 50) := fun q => q (by rw [show (50 : Int32) = Int32.ofNat 50 from rfl, q_lt (by omega) (by omega)]; exact hk)
  refine e_47 _ H.1 ?_
  refine cl_33 (by omega) ht H hr hp ?_
  rw [if_neg (show ¬ Int32.ofNat (kk p) = 91 from fun q => by have := (hE 91 (by omega)).mp q; omega)]
  rcases hc with c1 | ⟨c1, c2⟩
  · rw [if_neg (by rw [hLt]; omega), if_neg (by rw [hGt]; omega), if_neg (show ¬ Int32.ofNat (kk p) = 257 from fun q => by have := (hE 257 (by omega)).mp q; omega), hr.2.2, if_pos (Decidable.not_not.mp e50), q_a1, show Int32.ofNat (kk p) - 265 = Int32.ofNat (kk p - 265) from q_sub (b := 265) c1]
    exact fin 1 (kk p - 265) (by rw [pS, if_neg (by omega)])
  · rw [if_pos (by rw [hLt]; omega), if_pos (show Int32.ofNat (kk p) = 257 by rw [c1]; rfl), hr.1, q_in (by omega) (by omega), q_nat (by omega), (H.2 p hp).2.2 c1, if_neg (by rw [show (1000 : Int32) = Int32.ofNat 1000 from rfl, q_lt (by omega) (by omega)]; omega), hr.2.2, if_pos (Decidable.not_not.mp e50), q_in (by omega) (by omega), q_a1]
    exact fin 0 (nu p) (by rw [pS, if_pos c1])
/-- in brackets -/
theorem B_f1 (ht : tks kk nu pl N) (hp : p < N) (hd : 2 ≤ dp) (ha : a < 8) (hop : kk p = 91) (h1 : CF kk nu pl N 45 (a + 1) dp (p + 1) k q) : CF kk nu pl N 47 a (dp + 1) p k q := by
  intro D h K z hD H hr hz hK
  obtain ⟨d, rfl⟩ := q_dp (k := 1) (D := D) (by omega)
  refine e_47 _ H.1 ?_
  refine cl_33 (by omega) ht H hr (by omega) ?_
  rw [if_pos (show Int32.ofNat (kk p) = 91 by rw [hop]; rfl), if_pos (by rw [show (8 : Int32) = Int32.ofNat 8 from rfl, q_lt (by omega) (by omega)]; exact ha), hr.1, q_a1, q_a1]
  refine h1 d _ _ z (by omega) (tkc_fr H (fr_13 h 4 _) (by decide)) (rs_at hr _) (by omega) (fun h' c => ?_)
  rw [if_pos rfl]
  exact hK h' (cf_tr (fr_13 h 4 _) c)
theorem B_f2 (ht : tks kk nu pl N) (hp : p < N) (hd : 2 ≤ dp) (ha : a < 8) (hop : kk p = 91) (h1 : CO kk nu pl N 45 (a + 1) dp (p + 1) k p1 k1 l1 c1) (hl : p + 1 + l1 ≤ p1) (hp1 : p1 ≤ N) (hb : ¬ kk p1 = 93) : CF kk nu pl N 47 a (dp + 1) p k p1 := by
  intro D h K z hD H hr hz hK
  obtain ⟨d, rfl⟩ := q_dp (k := 1) (D := D) (by omega)
  have hN := ht.1
  refine e_47 _ H.1 ?_
  refine cl_33 (by omega) ht H hr (by omega) ?_
  rw [if_pos (show Int32.ofNat (kk p) = 91 by rw [hop]; rfl), if_pos (by rw [show (8 : Int32) = Int32.ofNat 8 from rfl, q_lt (by omega) (by omega)]; exact ha), hr.1, q_a1, q_a1]
  refine h1 d _ _ z (by omega) (tkc_fr H (fr_13 h 4 _) (by decide)) (rs_at hr _) (by omega) (fun h' c => ?_)
  have c' := cg_at c
  rw [if_neg (by decide)]
  refine cl_44 (c := 93) (by omega) ht (tkc_fr H c'.1 (by decide)) c.2.1 hp1 (by omega) (fun q => absurd q hb) (fun _ => ?_)
  rw [if_pos rfl]
  exact hK _ (cf_tr c'.1 (cf_here c.2.1 (by omega)))
theorem B_o (ht : tks kk nu pl N) (hp : p < N) (hd : 2 ≤ dp) (ha : a < 8) (hop : kk p = 91) (h1 : CO kk nu pl N 45 (a + 1) dp (p + 1) k p1 k1 l1 c1) (hl : p + 1 + l1 ≤ p1) (hp1 : p1 ≤ N) (hb : kk p1 = 93) : CO kk nu pl N 47 a (dp + 1) p k (p1 + 1) k1 l1 c1 := by
  intro D h K z hD H hr hz hK
  obtain ⟨d, rfl⟩ := q_dp (k := 1) (D := D) (by omega)
  have hN := ht.1
  refine e_47 _ H.1 ?_
  refine cl_33 (by omega) ht H hr (by omega) ?_
  rw [if_pos (show Int32.ofNat (kk p) = 91 by rw [hop]; rfl), if_pos (by rw [show (8 : Int32) = Int32.ofNat 8 from rfl, q_lt (by omega) (by omega)]; exact ha), hr.1, q_a1, q_a1]
  refine h1 d _ _ z (by omega) (tkc_fr H (fr_13 h 4 _) (by decide)) (rs_at hr _) (by omega) (fun h' c => ?_)
  have c' := cg_at c
  rw [if_neg (by decide)]
  refine cl_44 (c := 93) (by omega) ht (tkc_fr H c'.1 (by decide)) c.2.1 hp1 (by omega) (fun _ => ?_) (fun q => absurd hb q)
  rw [if_neg (by decide)]
  exact hK _ (cg_end c')
/-- tests in brackets -/
theorem R_f0 (ht : tks kk nu pl N) (hp : p ≤ N) (hd : 2 ≤ dp) (ha : a = 8) : CF kk nu pl N 41 a (dp + 1) p k p := by
  intro D h K z hD H hr hz hK
  obtain ⟨d, rfl⟩ := q_dp (k := 1) (D := D) (by omega)
  have hN := ht.1
  refine e_41 _ H.1 ?_
  rw [if_neg (by rw [ha]; decide)]
  exact cl_34 (by omega) ht H hr hp ⟨nar0, hK _ (cf_here hr (by omega))⟩
theorem R_f1 (ht : tks kk nu pl N) (hp : p < N) (hd : 2 ≤ dp) (ha : a < 8) (h1 : CF kk nu pl N 38 (a + 1) dp (p + 1) k q) : CF kk nu pl N 41 a (dp + 1) p k q := by
  intro D h K z hD H hr hz hK
  obtain ⟨d, rfl⟩ := q_dp (k := 1) (D := D) (by omega)
  refine e_41 _ H.1 ?_
  rw [if_pos (by rw [show (8 : Int32) = Int32.ofNat 8 from rfl, q_lt (by omega) (by omega)]; exact ha), hr.1, q_a1, q_a1]
  refine h1 d _ _ z (by omega) (tkc_fr H (fr_13 h 4 _) (by decide)) (rs_at hr _) (by omega) (fun h' c => ?_)
  rw [if_pos rfl]
  exact hK h' (cf_tr (fr_13 h 4 _) c)
theorem R_f2 (ht : tks kk nu pl N) (hp : p < N) (hd : 2 ≤ dp) (ha : a < 8) (h1 : CO kk nu pl N 38 (a + 1) dp (p + 1) k p1 k1 l1 c1) (hl : p + 1 + l1 ≤ p1) (hp1 : p1 ≤ N) (hb : ¬ kk p1 = 41) : CF kk nu pl N 41 a (dp + 1) p k p1 := by
  intro D h K z hD H hr hz hK
  obtain ⟨d, rfl⟩ := q_dp (k := 1) (D := D) (by omega)
  have hN := ht.1
  refine e_41 _ H.1 ?_
  rw [if_pos (by rw [show (8 : Int32) = Int32.ofNat 8 from rfl, q_lt (by omega) (by omega)]; exact ha), hr.1, q_a1, q_a1]
  refine h1 d _ _ z (by omega) (tkc_fr H (fr_13 h 4 _) (by decide)) (rs_at hr _) (by omega) (fun h' c => ?_)
  have c' := cg_at c
  rw [if_neg (by decide)]
  refine cl_44 (c := 41) (by omega) ht (tkc_fr H c'.1 (by decide)) c.2.1 hp1 (by omega) (fun q => absurd q hb) (fun _ => ?_)
  rw [if_pos rfl]
  exact hK _ (cf_tr c'.1 (cf_here c.2.1 (by omega)))
theorem R_o (ht : tks kk nu pl N) (hp : p < N) (hd : 2 ≤ dp) (ha : a < 8) (h1 : CO kk nu pl N 38 (a + 1) dp (p + 1) k p1 k1 l1 c1) (hl : p + 1 + l1 ≤ p1) (hp1 : p1 ≤ N) (hb : kk p1 = 41) : CO kk nu pl N 41 a (dp + 1) p k (p1 + 1) k1 l1 c1 := by
  intro D h K z hD H hr hz hK
  obtain ⟨d, rfl⟩ := q_dp (k := 1) (D := D) (by omega)
  have hN := ht.1
  refine e_41 _ H.1 ?_
  rw [if_pos (by rw [show (8 : Int32) = Int32.ofNat 8 from rfl, q_lt (by omega) (by omega)]; exact ha), hr.1, q_a1, q_a1]
  refine h1 d _ _ z (by omega) (tkc_fr H (fr_13 h 4 _) (by decide)) (rs_at hr _) (by omega) (fun h' c => ?_)
  have c' := cg_at c
  rw [if_neg (by decide)]
  refine cl_44 (c := 41) (by omega) ht (tkc_fr H c'.1 (by decide)) c.2.1 hp1 (by omega) (fun _ => ?_) (fun q => absurd hb q)
  rw [if_neg (by decide)]
  exact hK _ (cg_end c')
/-- the step of a comparison -/
def cS (c : Nat) : Nat := if c = 60 then 6 else if c = 62 then 7 else 8
theorem Q_f1 (hd : 2 ≤ dp) (h1 : CF kk nu pl N 45 a dp p k q) : CF kk nu pl N 42 a (dp + 1) p k q := by
  intro D h K z hD H hr hz hK
  obtain ⟨d, rfl⟩ := q_dp (k := 1) (D := D) (by omega)
  refine e_42 _ H.1 ?_
  refine h1 d h _ z (by omega) H hr hz (fun h' c => ?_)
  rw [if_pos rfl]
  exact hK h' c
theorem Q_f2 (ht : tks kk nu pl N) (hd : 2 ≤ dp) (h1 : CO kk nu pl N 45 a dp p k p1 k1 l1 c1) (hl : p + l1 ≤ p1) (hp1 : p1 ≤ N) (hc : ¬ (kk p1 = 60 ∨ kk p1 = 61 ∨ kk p1 = 62)) : CF kk nu pl N 42 a (dp + 1) p k p1 := by
  intro D h K z hD H hr hz hK
  obtain ⟨d, rfl⟩ := q_dp (k := 1) (D := D) (by omega)
  have hN := ht.1
  have hE : ∀ c, c < 300 → (Int32.ofNat (kk p1) = Int32.ofNat c) = (kk p1 = c) := fun c hc => kk_ne ht hp1 hc
  refine e_42 _ H.1 ?_
  refine h1 d h _ z (by omega) H hr hz (fun h' c => ?_)
  have H' := tkc_fr H c.1 (by decide)
  rw [if_neg (by decide)]
  refine cl_33 (by omega) ht H' c.2.1 hp1 ?_
  obtain ⟨d, rfl⟩ := q_dp (k := 1) (D := d) (by omega)
  refine e_43 _ H'.1 ?_
  rw [if_neg (show ¬ Int32.ofNat (kk p1) = 60 from fun q => hc (Or.inl ((hE 60 (by omega)).mp q))), if_neg (show ¬ Int32.ofNat (kk p1) = 61 from fun q => hc (Or.inr (Or.inl ((hE 61 (by omega)).mp q)))), if_neg (show ¬ Int32.ofNat (kk p1) = 62 from fun q => hc (Or.inr (Or.inr ((hE 62 (by omega)).mp q)))), if_pos rfl]
  exact cl_34 (by omega) ht H' c.2.1 hp1 ⟨nar0, hK _ (cf_tr c.1 (cf_here c.2.1 (by omega)))⟩
theorem Q_go {d : Nat} {h : lm_H} {K : Int32 → lm_H → Prop} (ht : tks kk nu pl N) (hd : 1 ≤ d) (H : tkc kk nu pl N h) {z : Nat} (hr : rs h p z k) (hp : p ≤ N) (hc : kk p = 60 ∨ kk p = 61 ∨ kk p = 62) (hyp : lm_call d 45 [.ref 13, .int (Int32.ofNat a)] (lm_si h 13 4 (Int32.ofNat (p + 1))) (lm_kI fun r10 h9 => (if r10 = 0 then (K 0 h9) else (lm_call d 35 [.ref 13, .int (Int32.ofNat (cS (kk p))), .int 0] h9 (lm_kV fun h11 => K 1 h11))))) : lm_call d 33 [.ref 13] h (lm_kI fun r4 h3 => lm_call d 43 [.int r4] h3 (lm_kI fun r6 h5 => (if r6 = (-1) then (lm_call d 34 [.ref 13] h5 (lm_kI fun r8 h7 => (vp_nar .boolean r8 = r8) ∧ K r8 h7)) else (lm_call d 45 [.ref 13, .int (Int32.ofNat a)] (lm_si h5 13 4 ((lm_i h5 13 4) + 1)) (lm_kI fun r10 h9 => (if r10 = 0 then (K 0 h9) else (lm_call d 35 [.ref 13, .int r6, .int 0] h9 (lm_kV fun h11 => K 1 h11)))))))) := by
  refine cl_33 (by omega) ht H hr hp ?_
  obtain ⟨d, rfl⟩ := q_dp (k := 1) (D := d) (by omega)
  refine e_43 _ H.1 ?_
  rw [hr.1, q_a1]
  rcases hc with c | c | c
  · rw [if_pos (show Int32.ofNat (kk p) = 60 by rw [c]; rfl), if_neg (by decide)]
    rw [c] at hyp
    exact hyp
  · rw [if_neg (show ¬ Int32.ofNat (kk p) = 60 by rw [c]; decide), if_pos (show Int32.ofNat (kk p) = 61 by rw [c]; rfl), if_neg (by decide)]
    rw [c] at hyp
    exact hyp
  · rw [if_neg (show ¬ Int32.ofNat (kk p) = 60 by rw [c]; decide), if_neg (show ¬ Int32.ofNat (kk p) = 61 by rw [c]; decide), if_pos (show Int32.ofNat (kk p) = 62 by rw [c]; rfl), if_neg (by decide)]
    rw [c] at hyp
    exact hyp
theorem Q_f3 (ht : tks kk nu pl N) (hd : 2 ≤ dp) (h1 : CO kk nu pl N 45 a dp p k p1 k1 l1 c1) (hl : p + l1 ≤ p1) (hp1 : p1 ≤ N) (hc : kk p1 = 60 ∨ kk p1 = 61 ∨ kk p1 = 62) (h2 : CF kk nu pl N 45 a dp (p1 + 1) k1 q) : CF kk nu pl N 42 a (dp + 1) p k q := by
  intro D h K z hD H hr hz hK
  obtain ⟨d, rfl⟩ := q_dp (k := 1) (D := D) (by omega)
  refine e_42 _ H.1 ?_
  refine h1 d h _ z (by omega) H hr hz (fun h' c => ?_)
  have H' := tkc_fr H c.1 (by decide)
  rw [if_neg (by decide)]
  refine Q_go ht (by omega) H' c.2.1 hp1 hc ?_
  refine h2 d _ _ (z + l1) (by omega) (tkc_fr H' (fr_13 h' 4 _) (by decide)) (rs_at c.2.1 _) (by omega) (fun h2 c2 => ?_)
  rw [if_pos rfl]
  exact hK h2 (cf_tr (fr_trans c.1 (fr_13 h' 4 _)) c2)
theorem Q_o (ht : tks kk nu pl N) (hd : 2 ≤ dp) (h1 : CO kk nu pl N 45 a dp p k p1 k1 l1 c1) (hl : p + l1 ≤ p1) (hp1 : p1 ≤ N) (hc : kk p1 = 60 ∨ kk p1 = 61 ∨ kk p1 = 62) (h2 : CO kk nu pl N 45 a dp (p1 + 1) k1 p2 k2 l2 c2) (hl2 : p1 + 1 + l2 ≤ p2) (hp2 : p2 ≤ N) : CO kk nu pl N 42 a (dp + 1) p k p2 k2 (l1 + (l2 + (1 + 0))) (cc1 l1 c1 (cc1 l2 c2 (cc1 1 (fun _ _ => st (cS (kk p1)) 0) c2))) := by
  intro D h K z hD H hr hz hK
  obtain ⟨d, rfl⟩ := q_dp (k := 1) (D := D) (by omega)
  have hN := ht.1
  refine e_42 _ H.1 ?_
  refine h1 d h _ z (by omega) H hr hz (fun h' c => ?_)
  have H' := tkc_fr H c.1 (by decide)
  rw [if_neg (by decide)]
  refine Q_go ht (by omega) H' c.2.1 hp1 hc ?_
  refine h2 d _ _ (z + l1) (by omega) (tkc_fr H' (fr_13 h' 4 _) (by decide)) (rs_at c.2.1 _) (by omega) (fun h2 e => ?_)
  rw [if_neg (by decide)]
  have e' := cg_at e
  refine cl_35 (n := 0) (by omega) (fr_Lay (fr_trans c.1 e'.1) H.1) e.2.1 (by omega) ?_
  have g := cg_emit (x := cS (kk p1)) (n := 0) e.2.1
  exact hK _ (cg_tr c (cg_tr e' (cg_tr g (cg_rf c2 g.2.1))))
/-- behind not .. -/
theorem N_f {o : Nat} (ht : tks kk nu pl N) (hp : p < N) (hd : 1 ≤ dp) (hop : kk p = 262) (ho : o ≤ 1) (h1 : CFp kk nu pl N a dp (p + 1) k (1 - o) q) : CFp kk nu pl N a dp p k o q := by
  intro d h K z x hD H hr hz hx hK
  have hN := ht.1
  refine b_40_4 _ _ _ H.1 ?_
  rw [if_pos (by rw [show (400 : Int32) = Int32.ofNat 400 from rfl, q_lt (by omega) (by omega)]; omega)]
  refine cl_33 (by omega) ht H hr (by omega) ?_
  rw [if_pos (show Int32.ofNat (kk p) = 262 by rw [hop]; rfl), hr.1, q_a1, q_a1]
  have fin := h1 d (lm_si h 13 4 (Int32.ofNat (p + 1))) K z (x + 1) hD (tkc_fr H (fr_13 h 4 _) (by decide)) (rs_at hr _) (by omega) (by omega) (fun h2 c2 => hK h2 (cf_tr (fr_13 h 4 _) c2))
  by_cases c : o = 0
  · rw [if_pos (by rw [c]; rfl)]
    rw [c] at fin
    exact fin
  · have c1 : o = 1 := by omega
    rw [if_neg (by rw [c1]; decide)]
    rw [c1] at fin
    exact fin
theorem N_o {o : Nat} (ht : tks kk nu pl N) (hp : p < N) (hd : 1 ≤ dp) (hop : kk p = 262) (ho : o ≤ 1) (h1 : COp kk nu pl N a dp (p + 1) k (1 - o) p1 k1 l1 c1) : COp kk nu pl N a dp p k o p1 k1 l1 c1 := by
  intro d h K z x hD H hr hz hx hK
  have hN := ht.1
  refine b_40_4 _ _ _ H.1 ?_
  rw [if_pos (by rw [show (400 : Int32) = Int32.ofNat 400 from rfl, q_lt (by omega) (by omega)]; omega)]
  refine cl_33 (by omega) ht H hr (by omega) ?_
  rw [if_pos (show Int32.ofNat (kk p) = 262 by rw [hop]; rfl), hr.1, q_a1, q_a1]
  have fin := h1 d (lm_si h 13 4 (Int32.ofNat (p + 1))) K z (x + 1) hD (tkc_fr H (fr_13 h 4 _) (by decide)) (rs_at hr _) (by omega) (by omega) (fun h2 c2 => hK h2 (cg_at c2))
  by_cases c : o = 0
  · rw [if_pos (by rw [c]; rfl)]
    rw [c] at fin
    exact fin
  · have c1 : o = 1 := by omega
    rw [if_neg (by rw [c1]; decide)]
    rw [c1] at fin
    exact fin
theorem N_go_b {d x o z : Nat} {h : lm_H} {K : Int32 → lm_H → Prop} (ht : tks kk nu pl N) (hp : p ≤ N) (hd : 1 ≤ d) (H : tkc kk nu pl N h) (hr : rs h p z k) (hx : x ≤ p) (hn : ¬ kk p = 262) (hop : kk p = 40) (hyp : lm_call d 41 [.ref 13, .int (Int32.ofNat a)] h (lm_kI fun r6 h5 => (if Int32.ofNat o = 0 then ((vp_nar .boolean r6 = r6) ∧ K r6 h5) else (lm_call d 35 [.ref 13, .int 9, .int 0] h5 (lm_kV fun h7 => (vp_nar .boolean r6 = r6) ∧ K r6 h7))))) : lm_W d 40 4 [some (.ref 13), some (.int (Int32.ofNat a)), some (.int (Int32.ofNat o)), some (.int (Int32.ofNat x))] [] h (lm_kI K) := by
  have hN := ht.1
  refine b_40_4 _ _ _ H.1 ?_
  by_cases c : x < 400
  · rw [if_pos (by rw [show (400 : Int32) = Int32.ofNat 400 from rfl, q_lt (by omega) (by omega)]; exact c)]
    refine cl_33 (by omega) ht H hr hp ?_
    rw [if_neg (show ¬ Int32.ofNat (kk p) = 262 from fun q => hn ((kk_ne ht hp (c := 262) (by omega)).mp q))]
    refine cl_33 (by omega) ht H hr hp ?_
    rw [if_pos (show Int32.ofNat (kk p) = 40 by rw [hop]; rfl)]
    exact hyp
  · rw [if_neg (by rw [show (400 : Int32) = Int32.ofNat 400 from rfl, q_lt (by omega) (by omega)]; exact c)]
    refine cl_33 (by omega) ht H hr hp ?_
    rw [if_pos (show Int32.ofNat (kk p) = 40 by rw [hop]; rfl)]
    exact hyp
theorem N_f_b {o : Nat} (ht : tks kk nu pl N) (hp : p ≤ N) (hd : 1 ≤ dp) (hn : ¬ kk p = 262) (hop : kk p = 40) (ho : o ≤ 1) (h1 : CF kk nu pl N 41 a dp p k q) : CFp kk nu pl N a dp p k o q := by
  intro d h K z x hD H hr hz hx hK
  refine N_go_b ht hp (by omega) H hr hx hn hop ?_
  refine h1 d h _ z hD H hr (by omega) (fun h' c => ?_)
  by_cases c0 : o = 0
  · rw [if_pos (by rw [c0]; rfl)]
    exact ⟨nar0, hK h' c⟩
  · rw [if_neg (by rw [q_e0 (by omega)]; exact c0)]
    exact cf_35 (by omega) H.1 c (fun h2 c2 => ⟨nar0, hK h2 c2⟩)
theorem N_o0_b (ht : tks kk nu pl N) (hp : p ≤ N) (hd : 1 ≤ dp) (hn : ¬ kk p = 262) (hop : kk p = 40) (h1 : CO kk nu pl N 41 a dp p k p1 k1 l1 c1) : COp kk nu pl N a dp p k 0 p1 k1 l1 c1 := by
  intro d h K z x hD H hr hz hx hK
  refine N_go_b ht hp (by omega) H hr hx hn hop ?_
  refine h1 d h _ z hD H hr (by omega) (fun h' c => ?_)
  rw [if_pos (by decide)]
  exact ⟨nar1, hK h' c⟩
theorem N_o1_b (ht : tks kk nu pl N) (hp : p ≤ N) (hd : 1 ≤ dp) (hn : ¬ kk p = 262) (hop : kk p = 40) (h1 : CO kk nu pl N 41 a dp p k p1 k1 l1 c1) (hl : p + l1 ≤ p1) (hp1 : p1 ≤ N) : COp kk nu pl N a dp p k 1 p1 k1 (l1 + 1) (cc1 l1 c1 (fun _ _ => st 9 0)) := by
  intro d h K z x hD H hr hz hx hK
  have hN := ht.1
  refine N_go_b ht hp (by omega) H hr hx hn hop ?_
  refine h1 d h _ z hD H hr (by omega) (fun h' c => ?_)
  rw [if_neg (by decide)]
  refine cl_35 (x := 9) (n := 0) (by omega) (fr_Lay c.1 H.1) c.2.1 (by omega) ?_
  exact ⟨nar1, hK _ (cg_tr c (cg_emit c.2.1))⟩
theorem N_go_q {d x o z : Nat} {h : lm_H} {K : Int32 → lm_H → Prop} (ht : tks kk nu pl N) (hp : p ≤ N) (hd : 1 ≤ d) (H : tkc kk nu pl N h) (hr : rs h p z k) (hx : x ≤ p) (hn : ¬ kk p = 262) (hop : ¬ kk p = 40) (hyp : lm_call d 42 [.ref 13, .int (Int32.ofNat a)] h (lm_kI fun r6 h5 => (if Int32.ofNat o = 0 then ((vp_nar .boolean r6 = r6) ∧ K r6 h5) else (lm_call d 35 [.ref 13, .int 9, .int 0] h5 (lm_kV fun h7 => (vp_nar .boolean r6 = r6) ∧ K r6 h7))))) : lm_W d 40 4 [some (.ref 13), some (.int (Int32.ofNat a)), some (.int (Int32.ofNat o)), some (.int (Int32.ofNat x))] [] h (lm_kI K) := by
  have hN := ht.1
  refine b_40_4 _ _ _ H.1 ?_
  by_cases c : x < 400
  · rw [if_pos (by rw [show (400 : Int32) = Int32.ofNat 400 from rfl, q_lt (by omega) (by omega)]; exact c)]
    refine cl_33 (by omega) ht H hr hp ?_
    rw [if_neg (show ¬ Int32.ofNat (kk p) = 262 from fun q => hn ((kk_ne ht hp (c := 262) (by omega)).mp q))]
    refine cl_33 (by omega) ht H hr hp ?_
    rw [if_neg (show ¬ Int32.ofNat (kk p) = 40 from fun q => hop ((kk_ne ht hp (c := 40) (by omega)).mp q))]
    exact hyp
  · rw [if_neg (by rw [show (400 : Int32) = Int32.ofNat 400 from rfl, q_lt (by omega) (by omega)]; exact c)]
    refine cl_33 (by omega) ht H hr hp ?_
    rw [if_neg (show ¬ Int32.ofNat (kk p) = 40 from fun q => hop ((kk_ne ht hp (c := 40) (by omega)).mp q))]
    exact hyp
theorem N_f_q {o : Nat} (ht : tks kk nu pl N) (hp : p ≤ N) (hd : 1 ≤ dp) (hn : ¬ kk p = 262) (hop : ¬ kk p = 40) (ho : o ≤ 1) (h1 : CF kk nu pl N 42 a dp p k q) : CFp kk nu pl N a dp p k o q := by
  intro d h K z x hD H hr hz hx hK
  refine N_go_q ht hp (by omega) H hr hx hn hop ?_
  refine h1 d h _ z hD H hr (by omega) (fun h' c => ?_)
  by_cases c0 : o = 0
  · rw [if_pos (by rw [c0]; rfl)]
    exact ⟨nar0, hK h' c⟩
  · rw [if_neg (by rw [q_e0 (by omega)]; exact c0)]
    exact cf_35 (by omega) H.1 c (fun h2 c2 => ⟨nar0, hK h2 c2⟩)
theorem N_o0_q (ht : tks kk nu pl N) (hp : p ≤ N) (hd : 1 ≤ dp) (hn : ¬ kk p = 262) (hop : ¬ kk p = 40) (h1 : CO kk nu pl N 42 a dp p k p1 k1 l1 c1) : COp kk nu pl N a dp p k 0 p1 k1 l1 c1 := by
  intro d h K z x hD H hr hz hx hK
  refine N_go_q ht hp (by omega) H hr hx hn hop ?_
  refine h1 d h _ z hD H hr (by omega) (fun h' c => ?_)
  rw [if_pos (by decide)]
  exact ⟨nar1, hK h' c⟩
theorem N_o1_q (ht : tks kk nu pl N) (hp : p ≤ N) (hd : 1 ≤ dp) (hn : ¬ kk p = 262) (hop : ¬ kk p = 40) (h1 : CO kk nu pl N 42 a dp p k p1 k1 l1 c1) (hl : p + l1 ≤ p1) (hp1 : p1 ≤ N) : COp kk nu pl N a dp p k 1 p1 k1 (l1 + 1) (cc1 l1 c1 (fun _ _ => st 9 0)) := by
  intro d h K z x hD H hr hz hx hK
  have hN := ht.1
  refine N_go_q ht hp (by omega) H hr hx hn hop ?_
  refine h1 d h _ z hD H hr (by omega) (fun h' c => ?_)
  rw [if_neg (by decide)]
  refine cl_35 (x := 9) (n := 0) (by omega) (fr_Lay c.1 H.1) c.2.1 (by omega) ?_
  exact ⟨nar1, hK _ (cg_tr c (cg_emit c.2.1))⟩
theorem N_top_f (hd : 1 ≤ dp) (h1 : CFp kk nu pl N a dp p k 0 q) : CF kk nu pl N 40 a (dp + 1) p k q := by
  intro D h K z hD H hr hz hK
  obtain ⟨d, rfl⟩ := q_dp (k := 1) (D := D) (by omega)
  refine e_40 _ H.1 ?_
  exact h1 d h K z 0 (by omega) H hr (by omega) (by omega) hK
theorem N_top_o (hd : 1 ≤ dp) (h1 : COp kk nu pl N a dp p k 0 p1 k1 l1 c1) : CO kk nu pl N 40 a (dp + 1) p k p1 k1 l1 c1 := by
  intro D h K z hD H hr hz hK
  obtain ⟨d, rfl⟩ := q_dp (k := 1) (D := D) (by omega)
  refine e_40 _ H.1 ?_
  exact h1 d h K z 0 (by omega) H hr (by omega) (by omega) hK
end ReadCT
