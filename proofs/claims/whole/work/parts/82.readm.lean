/-! Laws: reading by the reference. -/
def mg (h h' : lm_H) (p' k' : Nat) : Prop := fr [] [16, 17, 18] h h' ∧ ms h' p' k'
def mf (pl : Nat → Nat) (h h' : lm_H) (q : Nat) : Prop := fr [] [16, 17, 18] h h' ∧ lm_i h' 92 18 = Int32.ofNat (pl q)
theorem ms_at {h : lm_H} {p k : Nat} (hr : ms h p k) (v : Nat) : ms (lm_si h 92 16 (Int32.ofNat v)) v k :=
  ⟨by rw [pi_si, if_pos rfl, if_pos rfl], by rw [pi_si, if_pos rfl, if_neg (by decide)]; exact hr.2.1, by rw [pi_si, if_pos rfl, if_neg (by decide)]; exact hr.2.2⟩
theorem fr_16 (h : lm_H) (v : Int32) : fr [] [16, 17, 18] h (lm_si h 92 16 v) := fr_s92 (fr_refl _ _ _) (by decide) _
theorem mf_tr {pl : Nat → Nat} {h h1 h2 : lm_H} {q : Nat} (a : fr [] [16, 17, 18] h h1) (b : mf pl h1 h2 q) : mf pl h h2 q := ⟨fr_trans a b.1, b.2⟩
theorem mg_tr {h h1 h2 : lm_H} {p k : Nat} (a : fr [] [16, 17, 18] h h1) (b : mg h1 h2 p k) : mg h h2 p k := ⟨fr_trans a b.1, b.2⟩
theorem mf_here {pl : Nat → Nat} {h : lm_H} {q : Nat} : mf pl h (lm_si h 92 18 (Int32.ofNat (pl q))) q := ⟨fr_s92 (fr_refl _ _ _) (by decide) _, by rw [pi_si, if_pos rfl, if_pos rfl]⟩
section ReadM
variable (kk nu pl : Nat → Nat) (N : Nat)
def MF (M a dp p k q : Nat) : Prop := ∀ (D : Nat) (h : lm_H) (K : lm_H → Prop), dp ≤ D → tkm kk nu pl N h → ms h p k → (∀ h', mf pl h h' q → K h') → lm_call D M [.ref 92, .int (Int32.ofNat a)] h (lm_kV K)
def MO (M a dp p k p' k' : Nat) : Prop := ∀ (D : Nat) (h : lm_H) (K : lm_H → Prop), dp ≤ D → tkm kk nu pl N h → ms h p k → (∀ h', mg h h' p' k' → K h') → lm_call D M [.ref 92, .int (Int32.ofNat a)] h (lm_kV K)
def MFt (M a dp p k q : Nat) : Prop := ∀ (d : Nat) (h : lm_H) (K : lm_H → Prop), dp ≤ d → tkm kk nu pl N h → ms h p k → (∀ h', mf pl h h' q → K h') → lm_W d M 5 [some (.ref 92), some (.int (Int32.ofNat a))] [] h (lm_kV K)
def MOt (M a dp p k p' k' : Nat) : Prop := ∀ (d : Nat) (h : lm_H) (K : lm_H → Prop), dp ≤ d → tkm kk nu pl N h → ms h p k → (∀ h', mg h h' p' k' → K h') → lm_W d M 5 [some (.ref 92), some (.int (Int32.ofNat a))] [] h (lm_kV K)
def MFp (a dp p k q : Nat) : Prop := ∀ (d : Nat) (h : lm_H) (K : lm_H → Prop), dp ≤ d → tkm kk nu pl N h → ms h p k → (∀ h', mf pl h h' q → K h') → lm_W d 188 2 [some (.ref 92), some (.int (Int32.ofNat a)), some (.int 1), none] [] h (lm_kV K)
def MOp (a dp p k p' k' : Nat) : Prop := ∀ (d : Nat) (h : lm_H) (K : lm_H → Prop), dp ≤ d → tkm kk nu pl N h → ms h p k → (∀ h', mg h h' p' k' → K h') → lm_W d 188 2 [some (.ref 92), some (.int (Int32.ofNat a)), some (.int 1), none] [] h (lm_kV K)
end ReadM
theorem X_191 {D : Nat} {h : lm_H} {K : lm_H → Prop} {a : Int32} (hD : 2 ≤ D) (hl : lm_Lay h) (hb : ¬ lm_i h 92 18 = -1) (hK : K h) : lm_call D 191 [.ref 92, .int a] h (lm_kV K) := by
  obtain ⟨d, rfl⟩ := q_dp hD
  refine e_191 _ hl ?_
  rw [if_neg hb]
  exact hK
theorem XT_190 {d : Nat} {h : lm_H} {K : lm_H → Prop} {a : Int32} (hD : 2 ≤ d) (hl : lm_Lay h) (hb : ¬ lm_i h 92 18 = -1) (hK : K h) : lm_W d 190 5 [some (.ref 92), some (.int a)] [] h (lm_kV K) := by
  obtain ⟨d, rfl⟩ := q_dp (k := 1) (D := d) (by omega)
  refine b_190_5 _ hl ?_
  refine cx_181 (by omega) hl hb ?_
  rw [if_pos rfl]
  refine cx_181 (by omega) hl hb ?_
  rw [if_pos rfl]
  exact hK
theorem X_190 {D : Nat} {h : lm_H} {K : lm_H → Prop} {a : Int32} (hD : 3 ≤ D) (hl : lm_Lay h) (hb : ¬ lm_i h 92 18 = -1) (hK : K h) : lm_call D 190 [.ref 92, .int a] h (lm_kV K) := by
  obtain ⟨d, rfl⟩ := q_dp (k := 2) (D := D) (by omega)
  refine e_190 _ hl ?_
  refine X_191 (by omega) hl hb ?_
  exact XT_190 (by omega) hl hb hK
theorem XT_189 {d : Nat} {h : lm_H} {K : lm_H → Prop} {a : Int32} (hD : 2 ≤ d) (hl : lm_Lay h) (hb : ¬ lm_i h 92 18 = -1) (hK : K h) : lm_W d 189 5 [some (.ref 92), some (.int a)] [] h (lm_kV K) := by
  obtain ⟨d, rfl⟩ := q_dp (k := 1) (D := d) (by omega)
  refine b_189_5 _ hl ?_
  refine cx_181 (by omega) hl hb ?_
  rw [if_pos rfl]
  refine cx_181 (by omega) hl hb ?_
  rw [if_pos rfl]
  exact hK
theorem X_189 {D : Nat} {h : lm_H} {K : lm_H → Prop} {a : Int32} (hD : 4 ≤ D) (hl : lm_Lay h) (hb : ¬ lm_i h 92 18 = -1) (hK : K h) : lm_call D 189 [.ref 92, .int a] h (lm_kV K) := by
  obtain ⟨d, rfl⟩ := q_dp (k := 2) (D := D) (by omega)
  refine e_189 _ hl ?_
  refine X_190 (by omega) hl hb ?_
  exact XT_189 (by omega) hl hb hK
theorem X_188 {D : Nat} {h : lm_H} {K : lm_H → Prop} {a : Int32} (hD : 3 ≤ D) (hl : lm_Lay h) (hb : ¬ lm_i h 92 18 = -1) (hK : K h) : lm_call D 188 [.ref 92, .int a] h (lm_kV K) := by
  obtain ⟨d, rfl⟩ := q_dp (k := 2) (D := D) (by omega)
  refine e_188 _ hl ?_
  refine b_188_2 _ _ hl ?_
  rw [if_neg (by decide)]
  refine cx_181 (by omega) hl hb ?_
  refine b_188_2 _ _ hl ?_
  rw [if_pos rfl, if_neg hb]
  exact hK
theorem XT_187 {d : Nat} {h : lm_H} {K : lm_H → Prop} {a : Int32} (hD : 2 ≤ d) (hl : lm_Lay h) (hb : ¬ lm_i h 92 18 = -1) (hK : K h) : lm_W d 187 5 [some (.ref 92), some (.int a)] [] h (lm_kV K) := by
  refine b_187_5 _ hl ?_
  refine cx_181 (by omega) hl hb ?_
  rw [if_pos rfl]
  exact hK
theorem X_187 {D : Nat} {h : lm_H} {K : lm_H → Prop} {a : Int32} (hD : 4 ≤ D) (hl : lm_Lay h) (hb : ¬ lm_i h 92 18 = -1) (hK : K h) : lm_call D 187 [.ref 92, .int a] h (lm_kV K) := by
  obtain ⟨d, rfl⟩ := q_dp (k := 1) (D := D) (by omega)
  refine e_187 _ hl ?_
  refine X_188 (by omega) hl hb ?_
  exact XT_187 (by omega) hl hb hK
theorem XT_186 {d : Nat} {h : lm_H} {K : lm_H → Prop} {a : Int32} (hD : 2 ≤ d) (hl : lm_Lay h) (hb : ¬ lm_i h 92 18 = -1) (hK : K h) : lm_W d 186 5 [some (.ref 92), some (.int a)] [] h (lm_kV K) := by
  refine b_186_5 _ hl ?_
  refine cx_181 (by omega) hl hb ?_
  rw [if_pos rfl]
  exact hK
theorem X_186 {D : Nat} {h : lm_H} {K : lm_H → Prop} {a : Int32} (hD : 5 ≤ D) (hl : lm_Lay h) (hb : ¬ lm_i h 92 18 = -1) (hK : K h) : lm_call D 186 [.ref 92, .int a] h (lm_kV K) := by
  obtain ⟨d, rfl⟩ := q_dp (k := 1) (D := D) (by omega)
  refine e_186 _ hl ?_
  refine X_187 (by omega) hl hb ?_
  exact XT_186 (by omega) hl hb hK
section ReadMT
variable {kk nu pl : Nat → Nat} {N a dp p k q p1 k1 p2 k2 : Nat}
theorem mf_b (ht : tks kk nu pl N) {h h' : lm_H} (hq : q ≤ N) (c : mf pl h h' q) : ¬ lm_i h' 92 18 = -1 := by
  have := ht.2.2.1 q hq
  rw [c.2]
  exact ne_m1 (by omega)
theorem M_s1_190 (ht : tks kk nu pl N) (hq : q ≤ N) (hd : 2 ≤ dp) (h1 : MF kk nu pl N 191 a dp p k q) : MF kk nu pl N 190 a (dp + 1) p k q := by
  intro D h K hD H hr hK
  obtain ⟨d, rfl⟩ := q_dp (k := 2) (D := D) (by omega)
  refine e_190 _ H.1 ?_
  refine h1 _ h _ (by omega) H hr (fun h' c => ?_)
  exact XT_190 (by omega) (fr_Lay c.1 H.1) (mf_b ht hq c) (hK h' c)
theorem M_s2_190 (hd : 2 ≤ dp) (h1 : MO kk nu pl N 191 a dp p k p1 k1) (h2 : MFt kk nu pl N 190 a dp p1 k1 q) : MF kk nu pl N 190 a (dp + 1) p k q := by
  intro D h K hD H hr hK
  obtain ⟨d, rfl⟩ := q_dp (k := 2) (D := D) (by omega)
  refine e_190 _ H.1 ?_
  refine h1 _ h _ (by omega) H hr (fun h' c => ?_)
  exact h2 _ h' K (by omega) (tkm_fr H c.1 (by decide)) c.2 (fun h2 c2 => hK h2 (mf_tr c.1 c2))
theorem M_so_190 (hd : 2 ≤ dp) (h1 : MO kk nu pl N 191 a dp p k p1 k1) (h2 : MOt kk nu pl N 190 a dp p1 k1 p2 k2) : MO kk nu pl N 190 a (dp + 1) p k p2 k2 := by
  intro D h K hD H hr hK
  obtain ⟨d, rfl⟩ := q_dp (k := 2) (D := D) (by omega)
  refine e_190 _ H.1 ?_
  refine h1 _ h _ (by omega) H hr (fun h' c => ?_)
  exact h2 _ h' K (by omega) (tkm_fr H c.1 (by decide)) c.2 (fun h2 c2 => hK h2 (mg_tr c.1 c2))
theorem M_s1_189 (ht : tks kk nu pl N) (hq : q ≤ N) (hd : 2 ≤ dp) (h1 : MF kk nu pl N 190 a dp p k q) : MF kk nu pl N 189 a (dp + 1) p k q := by
  intro D h K hD H hr hK
  obtain ⟨d, rfl⟩ := q_dp (k := 2) (D := D) (by omega)
  refine e_189 _ H.1 ?_
  refine h1 _ h _ (by omega) H hr (fun h' c => ?_)
  exact XT_189 (by omega) (fr_Lay c.1 H.1) (mf_b ht hq c) (hK h' c)
theorem M_s2_189 (hd : 2 ≤ dp) (h1 : MO kk nu pl N 190 a dp p k p1 k1) (h2 : MFt kk nu pl N 189 a dp p1 k1 q) : MF kk nu pl N 189 a (dp + 1) p k q := by
  intro D h K hD H hr hK
  obtain ⟨d, rfl⟩ := q_dp (k := 2) (D := D) (by omega)
  refine e_189 _ H.1 ?_
  refine h1 _ h _ (by omega) H hr (fun h' c => ?_)
  exact h2 _ h' K (by omega) (tkm_fr H c.1 (by decide)) c.2 (fun h2 c2 => hK h2 (mf_tr c.1 c2))
theorem M_so_189 (hd : 2 ≤ dp) (h1 : MO kk nu pl N 190 a dp p k p1 k1) (h2 : MOt kk nu pl N 189 a dp p1 k1 p2 k2) : MO kk nu pl N 189 a (dp + 1) p k p2 k2 := by
  intro D h K hD H hr hK
  obtain ⟨d, rfl⟩ := q_dp (k := 2) (D := D) (by omega)
  refine e_189 _ H.1 ?_
  refine h1 _ h _ (by omega) H hr (fun h' c => ?_)
  exact h2 _ h' K (by omega) (tkm_fr H c.1 (by decide)) c.2 (fun h2 c2 => hK h2 (mg_tr c.1 c2))
theorem M_s1_187 (ht : tks kk nu pl N) (hq : q ≤ N) (hd : 2 ≤ dp) (h1 : MF kk nu pl N 188 a dp p k q) : MF kk nu pl N 187 a (dp + 1) p k q := by
  intro D h K hD H hr hK
  obtain ⟨d, rfl⟩ := q_dp (k := 1) (D := D) (by omega)
  refine e_187 _ H.1 ?_
  refine h1 _ h _ (by omega) H hr (fun h' c => ?_)
  exact XT_187 (by omega) (fr_Lay c.1 H.1) (mf_b ht hq c) (hK h' c)
theorem M_s2_187 (hd : 2 ≤ dp) (h1 : MO kk nu pl N 188 a dp p k p1 k1) (h2 : MFt kk nu pl N 187 a dp p1 k1 q) : MF kk nu pl N 187 a (dp + 1) p k q := by
  intro D h K hD H hr hK
  obtain ⟨d, rfl⟩ := q_dp (k := 1) (D := D) (by omega)
  refine e_187 _ H.1 ?_
  refine h1 _ h _ (by omega) H hr (fun h' c => ?_)
  exact h2 _ h' K (by omega) (tkm_fr H c.1 (by decide)) c.2 (fun h2 c2 => hK h2 (mf_tr c.1 c2))
theorem M_so_187 (hd : 2 ≤ dp) (h1 : MO kk nu pl N 188 a dp p k p1 k1) (h2 : MOt kk nu pl N 187 a dp p1 k1 p2 k2) : MO kk nu pl N 187 a (dp + 1) p k p2 k2 := by
  intro D h K hD H hr hK
  obtain ⟨d, rfl⟩ := q_dp (k := 1) (D := D) (by omega)
  refine e_187 _ H.1 ?_
  refine h1 _ h _ (by omega) H hr (fun h' c => ?_)
  exact h2 _ h' K (by omega) (tkm_fr H c.1 (by decide)) c.2 (fun h2 c2 => hK h2 (mg_tr c.1 c2))
theorem M_s1_186 (ht : tks kk nu pl N) (hq : q ≤ N) (hd : 2 ≤ dp) (h1 : MF kk nu pl N 187 a dp p k q) : MF kk nu pl N 186 a (dp + 1) p k q := by
  intro D h K hD H hr hK
  obtain ⟨d, rfl⟩ := q_dp (k := 1) (D := D) (by omega)
  refine e_186 _ H.1 ?_
  refine h1 _ h _ (by omega) H hr (fun h' c => ?_)
  exact XT_186 (by omega) (fr_Lay c.1 H.1) (mf_b ht hq c) (hK h' c)
theorem M_s2_186 (hd : 2 ≤ dp) (h1 : MO kk nu pl N 187 a dp p k p1 k1) (h2 : MFt kk nu pl N 186 a dp p1 k1 q) : MF kk nu pl N 186 a (dp + 1) p k q := by
  intro D h K hD H hr hK
  obtain ⟨d, rfl⟩ := q_dp (k := 1) (D := D) (by omega)
  refine e_186 _ H.1 ?_
  refine h1 _ h _ (by omega) H hr (fun h' c => ?_)
  exact h2 _ h' K (by omega) (tkm_fr H c.1 (by decide)) c.2 (fun h2 c2 => hK h2 (mf_tr c.1 c2))
theorem M_so_186 (hd : 2 ≤ dp) (h1 : MO kk nu pl N 187 a dp p k p1 k1) (h2 : MOt kk nu pl N 186 a dp p1 k1 p2 k2) : MO kk nu pl N 186 a (dp + 1) p k p2 k2 := by
  intro D h K hD H hr hK
  obtain ⟨d, rfl⟩ := q_dp (k := 1) (D := D) (by omega)
  refine e_186 _ H.1 ?_
  refine h1 _ h _ (by omega) H hr (fun h' c => ?_)
  exact h2 _ h' K (by omega) (tkm_fr H c.1 (by decide)) c.2 (fun h2 c2 => hK h2 (mg_tr c.1 c2))
theorem U_nil_189 (ht : tks kk nu pl N) (hp : p ≤ N) (h0 : ¬ kk p = 43) (h1 : ¬ kk p = 45) (hd : 2 ≤ dp) : MOt kk nu pl N 189 a dp p k p k := by
  intro d h K hD H hr hK
  obtain ⟨d, rfl⟩ := q_dp (k := 1) (D := d) (by omega)
  refine b_189_5 _ H.1 ?_
  refine cl_181 (c := 143) (by omega) ht H hr hp (by omega) (fun q => absurd ((cO_43 _ (ht.2.1 p hp).1).1 q) h0) (fun _ => ?_)
  rw [if_pos rfl]
  refine cl_181 (c := 145) (by omega) ht H hr hp (by omega) (fun q => absurd ((cO_45 _ (ht.2.1 p hp).1).1 q) h1) (fun _ => ?_)
  rw [if_pos rfl]
  exact hK h ⟨fr_refl _ _ _, hr⟩
theorem U_f1_189_43 (ht : tks kk nu pl N) (hp : p < N) (hq : q ≤ N) (hd : 2 ≤ dp) (hop : kk p = 43) (h1 : MF kk nu pl N 190 a dp (p + 1) k q) : MFt kk nu pl N 189 a dp p k q := by
  intro d h K hD H hr hK
  obtain ⟨d, rfl⟩ := q_dp (k := 1) (D := d) (by omega)
  refine b_189_5 _ H.1 ?_
  refine cl_181 (c := 143) (by omega) ht H hr (by omega) (by omega) (fun _ => ?_) (fun q => absurd ((cO_43 _ (ht.2.1 p (by omega)).1).2 hop) q)
  rw [if_neg (by decide)]
  refine h1 _ _ _ (by omega) (tkm_fr H (fr_16 h _) (by decide)) (ms_at hr _) (fun h' c => ?_)
  exact XT_189 (by omega) (fr_Lay (fr_trans (fr_16 h _) c.1) H.1) (mf_b ht hq c) (hK h' (mf_tr (fr_16 h _) c))
theorem U_f2_189_43 (ht : tks kk nu pl N) (hp : p < N) (hd : 2 ≤ dp) (hop : kk p = 43) (h1 : MO kk nu pl N 190 a dp (p + 1) k p1 k1) (h2 : MFt kk nu pl N 189 a dp p1 k1 q) : MFt kk nu pl N 189 a dp p k q := by
  intro d h K hD H hr hK
  obtain ⟨d, rfl⟩ := q_dp (k := 1) (D := d) (by omega)
  refine b_189_5 _ H.1 ?_
  refine cl_181 (c := 143) (by omega) ht H hr (by omega) (by omega) (fun _ => ?_) (fun q => absurd ((cO_43 _ (ht.2.1 p (by omega)).1).2 hop) q)
  rw [if_neg (by decide)]
  refine h1 _ _ _ (by omega) (tkm_fr H (fr_16 h _) (by decide)) (ms_at hr _) (fun h' c => ?_)
  exact h2 _ h' K (by omega) (tkm_fr H (fr_trans (fr_16 h _) c.1) (by decide)) c.2 (fun h2 c2 => hK h2 (mf_tr (fr_trans (fr_16 h _) c.1) c2))
theorem U_o_189_43 (ht : tks kk nu pl N) (hp : p < N) (hd : 2 ≤ dp) (hop : kk p = 43) (h1 : MO kk nu pl N 190 a dp (p + 1) k p1 k1) (h2 : MOt kk nu pl N 189 a dp p1 k1 p2 k2) : MOt kk nu pl N 189 a dp p k p2 k2 := by
  intro d h K hD H hr hK
  obtain ⟨d, rfl⟩ := q_dp (k := 1) (D := d) (by omega)
  refine b_189_5 _ H.1 ?_
  refine cl_181 (c := 143) (by omega) ht H hr (by omega) (by omega) (fun _ => ?_) (fun q => absurd ((cO_43 _ (ht.2.1 p (by omega)).1).2 hop) q)
  rw [if_neg (by decide)]
  refine h1 _ _ _ (by omega) (tkm_fr H (fr_16 h _) (by decide)) (ms_at hr _) (fun h' c => ?_)
  exact h2 _ h' K (by omega) (tkm_fr H (fr_trans (fr_16 h _) c.1) (by decide)) c.2 (fun h2 c2 => hK h2 (mg_tr (fr_trans (fr_16 h _) c.1) c2))
theorem U_f1_189_45 (ht : tks kk nu pl N) (hp : p < N) (hq : q ≤ N) (hd : 2 ≤ dp) (hop : kk p = 45) (h1 : MF kk nu pl N 190 a dp (p + 1) k q) : MFt kk nu pl N 189 a dp p k q := by
  intro d h K hD H hr hK
  obtain ⟨d, rfl⟩ := q_dp (k := 1) (D := d) (by omega)
  refine b_189_5 _ H.1 ?_
  refine cl_181 (c := 143) (by omega) ht H hr (by omega) (by omega) (fun q => by have := (cO_43 _ (ht.2.1 p (by omega)).1).1 q; omega) (fun _ => ?_)
  rw [if_pos rfl]
  refine cl_181 (c := 145) (by omega) ht H hr (by omega) (by omega) (fun _ => ?_) (fun q => absurd ((cO_45 _ (ht.2.1 p (by omega)).1).2 hop) q)
  rw [if_neg (by decide)]
  refine h1 _ _ _ (by omega) (tkm_fr H (fr_16 h _) (by decide)) (ms_at hr _) (fun h' c => ?_)
  exact XT_189 (by omega) (fr_Lay (fr_trans (fr_16 h _) c.1) H.1) (mf_b ht hq c) (hK h' (mf_tr (fr_16 h _) c))
theorem U_f2_189_45 (ht : tks kk nu pl N) (hp : p < N) (hd : 2 ≤ dp) (hop : kk p = 45) (h1 : MO kk nu pl N 190 a dp (p + 1) k p1 k1) (h2 : MFt kk nu pl N 189 a dp p1 k1 q) : MFt kk nu pl N 189 a dp p k q := by
  intro d h K hD H hr hK
  obtain ⟨d, rfl⟩ := q_dp (k := 1) (D := d) (by omega)
  refine b_189_5 _ H.1 ?_
  refine cl_181 (c := 143) (by omega) ht H hr (by omega) (by omega) (fun q => by have := (cO_43 _ (ht.2.1 p (by omega)).1).1 q; omega) (fun _ => ?_)
  rw [if_pos rfl]
  refine cl_181 (c := 145) (by omega) ht H hr (by omega) (by omega) (fun _ => ?_) (fun q => absurd ((cO_45 _ (ht.2.1 p (by omega)).1).2 hop) q)
  rw [if_neg (by decide)]
  refine h1 _ _ _ (by omega) (tkm_fr H (fr_16 h _) (by decide)) (ms_at hr _) (fun h' c => ?_)
  exact h2 _ h' K (by omega) (tkm_fr H (fr_trans (fr_16 h _) c.1) (by decide)) c.2 (fun h2 c2 => hK h2 (mf_tr (fr_trans (fr_16 h _) c.1) c2))
theorem U_o_189_45 (ht : tks kk nu pl N) (hp : p < N) (hd : 2 ≤ dp) (hop : kk p = 45) (h1 : MO kk nu pl N 190 a dp (p + 1) k p1 k1) (h2 : MOt kk nu pl N 189 a dp p1 k1 p2 k2) : MOt kk nu pl N 189 a dp p k p2 k2 := by
  intro d h K hD H hr hK
  obtain ⟨d, rfl⟩ := q_dp (k := 1) (D := d) (by omega)
  refine b_189_5 _ H.1 ?_
  refine cl_181 (c := 143) (by omega) ht H hr (by omega) (by omega) (fun q => by have := (cO_43 _ (ht.2.1 p (by omega)).1).1 q; omega) (fun _ => ?_)
  rw [if_pos rfl]
  refine cl_181 (c := 145) (by omega) ht H hr (by omega) (by omega) (fun _ => ?_) (fun q => absurd ((cO_45 _ (ht.2.1 p (by omega)).1).2 hop) q)
  rw [if_neg (by decide)]
  refine h1 _ _ _ (by omega) (tkm_fr H (fr_16 h _) (by decide)) (ms_at hr _) (fun h' c => ?_)
  exact h2 _ h' K (by omega) (tkm_fr H (fr_trans (fr_16 h _) c.1) (by decide)) c.2 (fun h2 c2 => hK h2 (mg_tr (fr_trans (fr_16 h _) c.1) c2))
theorem U_nil_190 (ht : tks kk nu pl N) (hp : p ≤ N) (h0 : ¬ kk p = 42) (h1 : ¬ kk p = 47) (hd : 2 ≤ dp) : MOt kk nu pl N 190 a dp p k p k := by
  intro d h K hD H hr hK
  obtain ⟨d, rfl⟩ := q_dp (k := 1) (D := d) (by omega)
  refine b_190_5 _ H.1 ?_
  refine cl_181 (c := 142) (by omega) ht H hr hp (by omega) (fun q => absurd ((cO_42 _ (ht.2.1 p hp).1).1 q) h0) (fun _ => ?_)
  rw [if_pos rfl]
  refine cl_181 (c := 147) (by omega) ht H hr hp (by omega) (fun q => absurd ((cO_47 _ (ht.2.1 p hp).1).1 q) h1) (fun _ => ?_)
  rw [if_pos rfl]
  exact hK h ⟨fr_refl _ _ _, hr⟩
theorem U_f1_190_42 (ht : tks kk nu pl N) (hp : p < N) (hq : q ≤ N) (hd : 2 ≤ dp) (hop : kk p = 42) (h1 : MF kk nu pl N 191 a dp (p + 1) k q) : MFt kk nu pl N 190 a dp p k q := by
  intro d h K hD H hr hK
  obtain ⟨d, rfl⟩ := q_dp (k := 1) (D := d) (by omega)
  refine b_190_5 _ H.1 ?_
  refine cl_181 (c := 142) (by omega) ht H hr (by omega) (by omega) (fun _ => ?_) (fun q => absurd ((cO_42 _ (ht.2.1 p (by omega)).1).2 hop) q)
  rw [if_neg (by decide)]
  refine h1 _ _ _ (by omega) (tkm_fr H (fr_16 h _) (by decide)) (ms_at hr _) (fun h' c => ?_)
  exact XT_190 (by omega) (fr_Lay (fr_trans (fr_16 h _) c.1) H.1) (mf_b ht hq c) (hK h' (mf_tr (fr_16 h _) c))
theorem U_f2_190_42 (ht : tks kk nu pl N) (hp : p < N) (hd : 2 ≤ dp) (hop : kk p = 42) (h1 : MO kk nu pl N 191 a dp (p + 1) k p1 k1) (h2 : MFt kk nu pl N 190 a dp p1 k1 q) : MFt kk nu pl N 190 a dp p k q := by
  intro d h K hD H hr hK
  obtain ⟨d, rfl⟩ := q_dp (k := 1) (D := d) (by omega)
  refine b_190_5 _ H.1 ?_
  refine cl_181 (c := 142) (by omega) ht H hr (by omega) (by omega) (fun _ => ?_) (fun q => absurd ((cO_42 _ (ht.2.1 p (by omega)).1).2 hop) q)
  rw [if_neg (by decide)]
  refine h1 _ _ _ (by omega) (tkm_fr H (fr_16 h _) (by decide)) (ms_at hr _) (fun h' c => ?_)
  exact h2 _ h' K (by omega) (tkm_fr H (fr_trans (fr_16 h _) c.1) (by decide)) c.2 (fun h2 c2 => hK h2 (mf_tr (fr_trans (fr_16 h _) c.1) c2))
theorem U_o_190_42 (ht : tks kk nu pl N) (hp : p < N) (hd : 2 ≤ dp) (hop : kk p = 42) (h1 : MO kk nu pl N 191 a dp (p + 1) k p1 k1) (h2 : MOt kk nu pl N 190 a dp p1 k1 p2 k2) : MOt kk nu pl N 190 a dp p k p2 k2 := by
  intro d h K hD H hr hK
  obtain ⟨d, rfl⟩ := q_dp (k := 1) (D := d) (by omega)
  refine b_190_5 _ H.1 ?_
  refine cl_181 (c := 142) (by omega) ht H hr (by omega) (by omega) (fun _ => ?_) (fun q => absurd ((cO_42 _ (ht.2.1 p (by omega)).1).2 hop) q)
  rw [if_neg (by decide)]
  refine h1 _ _ _ (by omega) (tkm_fr H (fr_16 h _) (by decide)) (ms_at hr _) (fun h' c => ?_)
  exact h2 _ h' K (by omega) (tkm_fr H (fr_trans (fr_16 h _) c.1) (by decide)) c.2 (fun h2 c2 => hK h2 (mg_tr (fr_trans (fr_16 h _) c.1) c2))
theorem U_f1_190_47 (ht : tks kk nu pl N) (hp : p < N) (hq : q ≤ N) (hd : 2 ≤ dp) (hop : kk p = 47) (h1 : MF kk nu pl N 191 a dp (p + 1) k q) : MFt kk nu pl N 190 a dp p k q := by
  intro d h K hD H hr hK
  obtain ⟨d, rfl⟩ := q_dp (k := 1) (D := d) (by omega)
  refine b_190_5 _ H.1 ?_
  refine cl_181 (c := 142) (by omega) ht H hr (by omega) (by omega) (fun q => by have := (cO_42 _ (ht.2.1 p (by omega)).1).1 q; omega) (fun _ => ?_)
  rw [if_pos rfl]
  refine cl_181 (c := 147) (by omega) ht H hr (by omega) (by omega) (fun _ => ?_) (fun q => absurd ((cO_47 _ (ht.2.1 p (by omega)).1).2 hop) q)
  rw [if_neg (by decide)]
  refine h1 _ _ _ (by omega) (tkm_fr H (fr_16 h _) (by decide)) (ms_at hr _) (fun h' c => ?_)
  exact XT_190 (by omega) (fr_Lay (fr_trans (fr_16 h _) c.1) H.1) (mf_b ht hq c) (hK h' (mf_tr (fr_16 h _) c))
theorem U_f2_190_47 (ht : tks kk nu pl N) (hp : p < N) (hd : 2 ≤ dp) (hop : kk p = 47) (h1 : MO kk nu pl N 191 a dp (p + 1) k p1 k1) (h2 : MFt kk nu pl N 190 a dp p1 k1 q) : MFt kk nu pl N 190 a dp p k q := by
  intro d h K hD H hr hK
  obtain ⟨d, rfl⟩ := q_dp (k := 1) (D := d) (by omega)
  refine b_190_5 _ H.1 ?_
  refine cl_181 (c := 142) (by omega) ht H hr (by omega) (by omega) (fun q => by have := (cO_42 _ (ht.2.1 p (by omega)).1).1 q; omega) (fun _ => ?_)
  rw [if_pos rfl]
  refine cl_181 (c := 147) (by omega) ht H hr (by omega) (by omega) (fun _ => ?_) (fun q => absurd ((cO_47 _ (ht.2.1 p (by omega)).1).2 hop) q)
  rw [if_neg (by decide)]
  refine h1 _ _ _ (by omega) (tkm_fr H (fr_16 h _) (by decide)) (ms_at hr _) (fun h' c => ?_)
  exact h2 _ h' K (by omega) (tkm_fr H (fr_trans (fr_16 h _) c.1) (by decide)) c.2 (fun h2 c2 => hK h2 (mf_tr (fr_trans (fr_16 h _) c.1) c2))
theorem U_o_190_47 (ht : tks kk nu pl N) (hp : p < N) (hd : 2 ≤ dp) (hop : kk p = 47) (h1 : MO kk nu pl N 191 a dp (p + 1) k p1 k1) (h2 : MOt kk nu pl N 190 a dp p1 k1 p2 k2) : MOt kk nu pl N 190 a dp p k p2 k2 := by
  intro d h K hD H hr hK
  obtain ⟨d, rfl⟩ := q_dp (k := 1) (D := d) (by omega)
  refine b_190_5 _ H.1 ?_
  refine cl_181 (c := 142) (by omega) ht H hr (by omega) (by omega) (fun q => by have := (cO_42 _ (ht.2.1 p (by omega)).1).1 q; omega) (fun _ => ?_)
  rw [if_pos rfl]
  refine cl_181 (c := 147) (by omega) ht H hr (by omega) (by omega) (fun _ => ?_) (fun q => absurd ((cO_47 _ (ht.2.1 p (by omega)).1).2 hop) q)
  rw [if_neg (by decide)]
  refine h1 _ _ _ (by omega) (tkm_fr H (fr_16 h _) (by decide)) (ms_at hr _) (fun h' c => ?_)
  exact h2 _ h' K (by omega) (tkm_fr H (fr_trans (fr_16 h _) c.1) (by decide)) c.2 (fun h2 c2 => hK h2 (mg_tr (fr_trans (fr_16 h _) c.1) c2))
theorem U_nil_186 (ht : tks kk nu pl N) (hp : p ≤ N) (h0 : ¬ kk p = 260) (hd : 2 ≤ dp) : MOt kk nu pl N 186 a dp p k p k := by
  intro d h K hD H hr hK
  refine b_186_5 _ H.1 ?_
  refine cl_181 (c := 4) (by omega) ht H hr hp (by omega) (fun q => absurd ((cO_260 _ (ht.2.1 p hp).1).1 q) h0) (fun _ => ?_)
  rw [if_pos rfl]
  exact hK h ⟨fr_refl _ _ _, hr⟩
theorem U_f1_186_260 (ht : tks kk nu pl N) (hp : p < N) (hq : q ≤ N) (hd : 2 ≤ dp) (hop : kk p = 260) (h1 : MF kk nu pl N 187 a dp (p + 1) k q) : MFt kk nu pl N 186 a dp p k q := by
  intro d h K hD H hr hK
  refine b_186_5 _ H.1 ?_
  refine cl_181 (c := 4) (by omega) ht H hr (by omega) (by omega) (fun _ => ?_) (fun q => absurd ((cO_260 _ (ht.2.1 p (by omega)).1).2 hop) q)
  rw [if_neg (by decide)]
  refine h1 _ _ _ (by omega) (tkm_fr H (fr_16 h _) (by decide)) (ms_at hr _) (fun h' c => ?_)
  exact XT_186 (by omega) (fr_Lay (fr_trans (fr_16 h _) c.1) H.1) (mf_b ht hq c) (hK h' (mf_tr (fr_16 h _) c))
theorem U_f2_186_260 (ht : tks kk nu pl N) (hp : p < N) (hd : 2 ≤ dp) (hop : kk p = 260) (h1 : MO kk nu pl N 187 a dp (p + 1) k p1 k1) (h2 : MFt kk nu pl N 186 a dp p1 k1 q) : MFt kk nu pl N 186 a dp p k q := by
  intro d h K hD H hr hK
  refine b_186_5 _ H.1 ?_
  refine cl_181 (c := 4) (by omega) ht H hr (by omega) (by omega) (fun _ => ?_) (fun q => absurd ((cO_260 _ (ht.2.1 p (by omega)).1).2 hop) q)
  rw [if_neg (by decide)]
  refine h1 _ _ _ (by omega) (tkm_fr H (fr_16 h _) (by decide)) (ms_at hr _) (fun h' c => ?_)
  exact h2 _ h' K (by omega) (tkm_fr H (fr_trans (fr_16 h _) c.1) (by decide)) c.2 (fun h2 c2 => hK h2 (mf_tr (fr_trans (fr_16 h _) c.1) c2))
theorem U_o_186_260 (ht : tks kk nu pl N) (hp : p < N) (hd : 2 ≤ dp) (hop : kk p = 260) (h1 : MO kk nu pl N 187 a dp (p + 1) k p1 k1) (h2 : MOt kk nu pl N 186 a dp p1 k1 p2 k2) : MOt kk nu pl N 186 a dp p k p2 k2 := by
  intro d h K hD H hr hK
  refine b_186_5 _ H.1 ?_
  refine cl_181 (c := 4) (by omega) ht H hr (by omega) (by omega) (fun _ => ?_) (fun q => absurd ((cO_260 _ (ht.2.1 p (by omega)).1).2 hop) q)
  rw [if_neg (by decide)]
  refine h1 _ _ _ (by omega) (tkm_fr H (fr_16 h _) (by decide)) (ms_at hr _) (fun h' c => ?_)
  exact h2 _ h' K (by omega) (tkm_fr H (fr_trans (fr_16 h _) c.1) (by decide)) c.2 (fun h2 c2 => hK h2 (mg_tr (fr_trans (fr_16 h _) c.1) c2))
theorem U_nil_187 (ht : tks kk nu pl N) (hp : p ≤ N) (h0 : ¬ kk p = 261) (hd : 2 ≤ dp) : MOt kk nu pl N 187 a dp p k p k := by
  intro d h K hD H hr hK
  refine b_187_5 _ H.1 ?_
  refine cl_181 (c := 5) (by omega) ht H hr hp (by omega) (fun q => absurd ((cO_261 _ (ht.2.1 p hp).1).1 q) h0) (fun _ => ?_)
  rw [if_pos rfl]
  exact hK h ⟨fr_refl _ _ _, hr⟩
theorem U_f1_187_261 (ht : tks kk nu pl N) (hp : p < N) (hq : q ≤ N) (hd : 2 ≤ dp) (hop : kk p = 261) (h1 : MF kk nu pl N 188 a dp (p + 1) k q) : MFt kk nu pl N 187 a dp p k q := by
  intro d h K hD H hr hK
  refine b_187_5 _ H.1 ?_
  refine cl_181 (c := 5) (by omega) ht H hr (by omega) (by omega) (fun _ => ?_) (fun q => absurd ((cO_261 _ (ht.2.1 p (by omega)).1).2 hop) q)
  rw [if_neg (by decide)]
  refine h1 _ _ _ (by omega) (tkm_fr H (fr_16 h _) (by decide)) (ms_at hr _) (fun h' c => ?_)
  exact XT_187 (by omega) (fr_Lay (fr_trans (fr_16 h _) c.1) H.1) (mf_b ht hq c) (hK h' (mf_tr (fr_16 h _) c))
theorem U_f2_187_261 (ht : tks kk nu pl N) (hp : p < N) (hd : 2 ≤ dp) (hop : kk p = 261) (h1 : MO kk nu pl N 188 a dp (p + 1) k p1 k1) (h2 : MFt kk nu pl N 187 a dp p1 k1 q) : MFt kk nu pl N 187 a dp p k q := by
  intro d h K hD H hr hK
  refine b_187_5 _ H.1 ?_
  refine cl_181 (c := 5) (by omega) ht H hr (by omega) (by omega) (fun _ => ?_) (fun q => absurd ((cO_261 _ (ht.2.1 p (by omega)).1).2 hop) q)
  rw [if_neg (by decide)]
  refine h1 _ _ _ (by omega) (tkm_fr H (fr_16 h _) (by decide)) (ms_at hr _) (fun h' c => ?_)
  exact h2 _ h' K (by omega) (tkm_fr H (fr_trans (fr_16 h _) c.1) (by decide)) c.2 (fun h2 c2 => hK h2 (mf_tr (fr_trans (fr_16 h _) c.1) c2))
theorem U_o_187_261 (ht : tks kk nu pl N) (hp : p < N) (hd : 2 ≤ dp) (hop : kk p = 261) (h1 : MO kk nu pl N 188 a dp (p + 1) k p1 k1) (h2 : MOt kk nu pl N 187 a dp p1 k1 p2 k2) : MOt kk nu pl N 187 a dp p k p2 k2 := by
  intro d h K hD H hr hK
  refine b_187_5 _ H.1 ?_
  refine cl_181 (c := 5) (by omega) ht H hr (by omega) (by omega) (fun _ => ?_) (fun q => absurd ((cO_261 _ (ht.2.1 p (by omega)).1).2 hop) q)
  rw [if_neg (by decide)]
  refine h1 _ _ _ (by omega) (tkm_fr H (fr_16 h _) (by decide)) (ms_at hr _) (fun h' c => ?_)
  exact h2 _ h' K (by omega) (tkm_fr H (fr_trans (fr_16 h _) c.1) (by decide)) c.2 (fun h2 c2 => hK h2 (mg_tr (fr_trans (fr_16 h _) c.1) c2))
theorem V_f (ht : tks kk nu pl N) (hp : p ≤ N) (hd : 4 ≤ dp) (ha : a ≤ 8) (hk : k ≤ 50) (hc : (kk p = 91 ∧ a = 8) ∨ (¬ kk p = 91 ∧ (k = 50 ∨ (kk p < 265 ∧ (¬ kk p = 257 ∨ 1000 < nu p))))) : MF kk nu pl N 191 a dp p k p := by
  intro D h K hD H hr hK
  obtain ⟨d, rfl⟩ := q_dp (k := 2) (D := D) (by omega)
  have hN := ht.1
  have hkk := (ht.2.1 p hp).1
  have hcl := cO_lt _ hkk
  have hE : ∀ c, c < 400 → (Int32.ofNat (cO (kk p)) = Int32.ofNat c) = (cO (kk p) = c) := fun c hc => q_eq (by omega) (by omega)
  refine e_191 _ H.1 ?_
  rw [if_pos hr.2.2, hr.1, q_in (by omega) (by omega), q_nat (by omega), (H.2 p hp).1]
  have fin : ∀ K2 : lm_H → Prop, (∀ h', mf pl h h' p → K2 h') → lm_call (d + 1) 180 [.ref 92] h (lm_kV K2) := fun K2 hK2 => cl_180 (by omega) ht H hr hp (hK2 _ mf_here)
  have leaf : k = 50 → lm_call (d + 1) 183 [.ref 92] h (lm_kV fun h8 => K h8) := by
    intro hk50
    obtain ⟨d, rfl⟩ := q_dp (k := 1) (D := d) (by omega)
    refine e_183 H.1 ?_
    rw [hr.2.1, if_pos (by rw [hk50]; rfl)]
    refine cl_180 (by omega) ht H hr hp ?_
    rw [if_neg (by rw [pi_si, if_pos rfl, if_pos rfl]; exact ne_m1 (by have := ht.2.2.1 p hp; omega))]
    refine hK _ ⟨fr_s92 (fr_s92 (fr_refl _ _ _) (by decide) _) (by decide) _, ?_⟩
    simp only [pi_si, Nat.reduceEqDiff, if_true, if_false]
  rcases hc with ⟨c1, c2⟩ | ⟨c1, c2⟩
  · rw [if_pos (show Int32.ofNat (cO (kk p)) = 191 by rw [c1]; rfl), if_pos (by rw [c2]; rfl)]
    refine cl_180 (by omega) ht H hr hp ?_
    rw [if_neg (by rw [pi_si, if_pos rfl, if_pos rfl]; exact ne_m1 (by have := ht.2.2.1 p hp; omega))]
    exact hK _ mf_here
  · rw [if_neg (show ¬ Int32.ofNat (cO (kk p)) = 191 from fun q => c1 ((cO_91 _ hkk).1 ((hE 191 (by omega)).mp q)))]
    have h7 : (Int32.ofNat (cO (kk p)) < 7) = (cO (kk p) < 7) := q_lt (b := 7) (by omega) (by omega)
    have h13 : (13 < Int32.ofNat (cO (kk p))) = (13 < cO (kk p)) := q_lt (a := 13) (by omega) (by omega)
    have hw := cO_w _ hkk
    by_cases c4 : kk p = 257
    · have c50 : cO (kk p) = 50 := (cO_257 _ hkk).2 c4
      rw [if_pos (show Int32.ofNat (cO (kk p)) = 50 by rw [c50]; rfl), q_in (by omega) (by omega)]
      have hv := (H.2 p hp).2.2 c4
      by_cases c5 : nu p ≤ 1000
      · rw [if_pos c5] at hv
        rw [hv, if_neg (by rw [show (1000 : Int32) = Int32.ofNat 1000 from rfl, q_lt (by omega) (by omega)]; omega)]
        exact leaf (by omega)
      · rw [if_neg c5] at hv
        rw [if_pos hv, if_neg (by rw [h7]; omega), if_pos (by rw [h13]; omega)]
        exact fin _ hK
    · rw [if_neg (show ¬ Int32.ofNat (cO (kk p)) = 50 from fun q => c4 ((cO_257 _ hkk).1 ((hE 50 (by omega)).mp q)))]
      by_cases c3 : kk p < 265
      · by_cases c6 : cO (kk p) < 7
        · rw [if_pos (by rw [h7]; exact c6)]
          exact fin _ hK
        · rw [if_neg (by rw [h7]; exact c6), if_pos (by rw [h13]; omega)]
          exact fin _ hK
      · rw [if_neg (by rw [h7]; omega), if_neg (by rw [h13]; omega)]
        exact leaf (by omega)
theorem V_o (ht : tks kk nu pl N) (hp : p ≤ N) (hd : 3 ≤ dp) (hk : k < 50) (hc : 265 ≤ kk p ∨ (kk p = 257 ∧ nu p ≤ 1000)) : MO kk nu pl N 191 a dp p k (p + 1) (k + 1) := by
  intro D h K hD H hr hK
  obtain ⟨d, rfl⟩ := q_dp (k := 2) (D := D) (by omega)
  have hN := ht.1
  have hkk := (ht.2.1 p hp).1
  have hcl := cO_lt _ hkk
  have hE : ∀ c, c < 400 → (Int32.ofNat (cO (kk p)) = Int32.ofNat c) = (cO (kk p) = c) := fun c hc => q_eq (by omega) (by omega)
  refine e_191 _ H.1 ?_
  rw [if_pos hr.2.2, hr.1, q_in (by omega) (by omega), q_nat (by omega), (H.2 p hp).1]
  have h7 : (Int32.ofNat (cO (kk p)) < 7) = (cO (kk p) < 7) := q_lt (b := 7) (by omega) (by omega)
  have h13 : (13 < Int32.ofNat (cO (kk p))) = (13 < cO (kk p)) := q_lt (a := 13) (by omega) (by omega)
  have hw := cO_w _ hkk
  have leaf : lm_call (d + 1) 183 [.ref 92] h (lm_kV fun h8 => K h8) := by
    obtain ⟨d, rfl⟩ := q_dp (k := 1) (D := d) (by omega)
    refine e_183 H.1 ?_
    rw [hr.2.1, if_neg (by rw [show (50 : Int32) = Int32.ofNat 50 from rfl, q_eq (by omega) (by omega)]; omega), if_pos hr.2.2, hr.1, q_a1, q_a1]
    refine hK _ ⟨fr_s92 (fr_s92 (fr_refl _ _ _) (by decide) _) (by decide) _, ?_, ?_, ?_⟩
    · simp only [pi_si, if_true]
    · simp only [pi_si, Nat.reduceEqDiff, if_true, if_false]
    · simp only [pi_si, Nat.reduceEqDiff, if_true, if_false]; exact hr.2.2
  rw [if_neg (show ¬ Int32.ofNat (cO (kk p)) = 191 from fun q => by have := (cO_91 _ hkk).1 ((hE 191 (by omega)).mp q); omega)]
  rcases hc with c1 | ⟨c1, c2⟩
  · rw [if_neg (show ¬ Int32.ofNat (cO (kk p)) = 50 from fun q => by have := (cO_257 _ hkk).1 ((hE 50 (by omega)).mp q); omega), if_neg (by rw [h7]; omega), if_neg (by rw [h13]; omega)]
    exact leaf
  · have c50 : cO (kk p) = 50 := (cO_257 _ hkk).2 c1
    have hv := (H.2 p hp).2.2 c1
    rw [if_pos c2] at hv
    rw [if_pos (show Int32.ofNat (cO (kk p)) = 50 by rw [c50]; rfl), q_in (by omega) (by omega), hv, if_neg (by rw [show (1000 : Int32) = Int32.ofNat 1000 from rfl, q_lt (by omega) (by omega)]; omega)]
    exact leaf
theorem W_f1 (ht : tks kk nu pl N) (hp : p < N) (hq : q ≤ N) (hd : 3 ≤ dp) (ha : a < 8) (hop : kk p = 91) (h1 : MF kk nu pl N 189 (a + 1) dp (p + 1) k q) : MF kk nu pl N 191 a (dp + 1) p k q := by
  intro D h K hD H hr hK
  obtain ⟨d, rfl⟩ := q_dp (k := 2) (D := D) (by omega)
  have hN := ht.1
  refine e_191 _ H.1 ?_
  rw [if_pos hr.2.2, hr.1, q_in (by omega) (by omega), q_nat (by omega), (H.2 p (by omega)).1, if_pos (show Int32.ofNat (cO (kk p)) = 191 by rw [hop]; rfl), if_neg (show ¬ Int32.ofNat a = 8 by rw [show (8 : Int32) = Int32.ofNat 8 from rfl, q_eq (by omega) (by omega)]; omega), if_pos hr.2.2, q_a1, q_a1]
  refine h1 _ _ _ (by omega) (tkm_fr H (fr_16 h _) (by decide)) (ms_at hr _) (fun h' c => ?_)
  exact cx_182 (by omega) (fr_Lay (fr_trans (fr_16 h _) c.1) H.1) (mf_b ht hq c) (hK h' (mf_tr (fr_16 h _) c))
theorem W_f2 (ht : tks kk nu pl N) (hp : p < N) (hp1 : p1 ≤ N) (hd : 3 ≤ dp) (ha : a < 8) (hop : kk p = 91) (h1 : MO kk nu pl N 189 (a + 1) dp (p + 1) k p1 k1) (hb : ¬ kk p1 = 93) : MF kk nu pl N 191 a (dp + 1) p k p1 := by
  intro D h K hD H hr hK
  obtain ⟨d, rfl⟩ := q_dp (k := 2) (D := D) (by omega)
  have hN := ht.1
  refine e_191 _ H.1 ?_
  rw [if_pos hr.2.2, hr.1, q_in (by omega) (by omega), q_nat (by omega), (H.2 p (by omega)).1, if_pos (show Int32.ofNat (cO (kk p)) = 191 by rw [hop]; rfl), if_neg (show ¬ Int32.ofNat a = 8 by rw [show (8 : Int32) = Int32.ofNat 8 from rfl, q_eq (by omega) (by omega)]; omega), if_pos hr.2.2, q_a1, q_a1]
  refine h1 _ _ _ (by omega) (tkm_fr H (fr_16 h _) (by decide)) (ms_at hr _) (fun h' c => ?_)
  refine cl_182 (c := 193) (by omega) ht (tkm_fr H (fr_trans (fr_16 h _) c.1) (by decide)) c.2 hp1 (by omega) (fun q => absurd ((cO_93 _ (ht.2.1 p1 hp1).1).1 q) hb) (fun _ => ?_)
  exact hK _ (mf_tr (fr_trans (fr_16 h _) c.1) mf_here)
theorem W_o (ht : tks kk nu pl N) (hp : p < N) (hp1 : p1 ≤ N) (hd : 3 ≤ dp) (ha : a < 8) (hop : kk p = 91) (h1 : MO kk nu pl N 189 (a + 1) dp (p + 1) k p1 k1) (hb : kk p1 = 93) : MO kk nu pl N 191 a (dp + 1) p k (p1 + 1) k1 := by
  intro D h K hD H hr hK
  obtain ⟨d, rfl⟩ := q_dp (k := 2) (D := D) (by omega)
  have hN := ht.1
  refine e_191 _ H.1 ?_
  rw [if_pos hr.2.2, hr.1, q_in (by omega) (by omega), q_nat (by omega), (H.2 p (by omega)).1, if_pos (show Int32.ofNat (cO (kk p)) = 191 by rw [hop]; rfl), if_neg (show ¬ Int32.ofNat a = 8 by rw [show (8 : Int32) = Int32.ofNat 8 from rfl, q_eq (by omega) (by omega)]; omega), if_pos hr.2.2, q_a1, q_a1]
  refine h1 _ _ _ (by omega) (tkm_fr H (fr_16 h _) (by decide)) (ms_at hr _) (fun h' c => ?_)
  refine cl_182 (c := 193) (by omega) ht (tkm_fr H (fr_trans (fr_16 h _) c.1) (by decide)) c.2 hp1 (by omega) (fun _ => ?_) (fun q => absurd ((cO_93 _ (ht.2.1 p1 hp1).1).2 hb) q)
  exact hK _ (mg_tr (fr_trans (fr_16 h _) c.1) ⟨fr_16 _ _, ms_at c.2 _⟩)
theorem Y_n_f (ht : tks kk nu pl N) (hp : p < N) (hd : 2 ≤ dp) (hop : kk p = 262) (h1 : MFp kk nu pl N a dp (p + 1) k q) : MFp kk nu pl N a dp p k q := by
  intro d h K hD H hr hK
  obtain ⟨d, rfl⟩ := q_dp (k := 1) (D := d) (by omega)
  refine b_188_2 _ _ H.1 ?_
  rw [if_neg (by decide)]
  refine cl_181 (c := 6) (by omega) ht H hr (by omega) (by omega) (fun _ => ?_) (fun q => absurd ((cO_262 _ (ht.2.1 p (by omega)).1).2 hop) q)
  exact h1 _ _ K (by omega) (tkm_fr H (fr_16 h _) (by decide)) (ms_at hr _) (fun h2 c2 => hK h2 (mf_tr (fr_16 h _) c2))
theorem Y_n_o (ht : tks kk nu pl N) (hp : p < N) (hd : 2 ≤ dp) (hop : kk p = 262) (h1 : MOp kk nu pl N a dp (p + 1) k p1 k1) : MOp kk nu pl N a dp p k p1 k1 := by
  intro d h K hD H hr hK
  obtain ⟨d, rfl⟩ := q_dp (k := 1) (D := d) (by omega)
  refine b_188_2 _ _ H.1 ?_
  rw [if_neg (by decide)]
  refine cl_181 (c := 6) (by omega) ht H hr (by omega) (by omega) (fun _ => ?_) (fun q => absurd ((cO_262 _ (ht.2.1 p (by omega)).1).2 hop) q)
  exact h1 _ _ K (by omega) (tkm_fr H (fr_16 h _) (by decide)) (ms_at hr _) (fun h2 c2 => hK h2 (mg_tr (fr_16 h _) c2))
theorem Y_b_f0 (ht : tks kk nu pl N) (hp : p ≤ N) (hd : 3 ≤ dp) (ha : a = 8) (hn : ¬ kk p = 262) (hop : kk p = 40) : MFp kk nu pl N a dp p k p := by
  intro d h K hD H hr hK
  obtain ⟨d, rfl⟩ := q_dp (k := 1) (D := d) (by omega)
  have hN := ht.1
  have hkk := (ht.2.1 p hp).1
  have hcl := cO_lt _ hkk
  refine b_188_2 _ _ H.1 ?_
  rw [if_neg (by decide)]
  refine cl_181 (c := 6) (by omega) ht H hr hp (by omega) (fun q => absurd ((cO_262 _ hkk).1 q) hn) (fun _ => ?_)
  refine b_188_2 _ _ H.1 ?_
  rw [if_pos rfl, if_pos hr.2.2, hr.1, q_in (by omega) (by omega), q_nat (by omega), (H.2 p hp).1]
  rw [if_pos (show Int32.ofNat (cO (kk p)) = 140 by rw [hop]; rfl), if_pos (by rw [ha]; rfl)]
  refine cl_180 (by omega) ht H hr hp ?_
  rw [if_neg (by rw [pi_si, if_pos rfl, if_pos rfl]; exact ne_m1 (by have := ht.2.2.1 p hp; omega))]
  exact hK _ mf_here
theorem Y_b_f1 (ht : tks kk nu pl N) (hp : p ≤ N) (hq : q ≤ N) (hd : 3 ≤ dp) (ha : a < 8) (hn : ¬ kk p = 262) (hop : kk p = 40) (h1 : MF kk nu pl N 186 (a + 1) dp (p + 1) k q) : MFp kk nu pl N a dp p k q := by
  intro d h K hD H hr hK
  obtain ⟨d, rfl⟩ := q_dp (k := 1) (D := d) (by omega)
  have hN := ht.1
  have hkk := (ht.2.1 p hp).1
  have hcl := cO_lt _ hkk
  refine b_188_2 _ _ H.1 ?_
  rw [if_neg (by decide)]
  refine cl_181 (c := 6) (by omega) ht H hr hp (by omega) (fun q => absurd ((cO_262 _ hkk).1 q) hn) (fun _ => ?_)
  refine b_188_2 _ _ H.1 ?_
  rw [if_pos rfl, if_pos hr.2.2, hr.1, q_in (by omega) (by omega), q_nat (by omega), (H.2 p hp).1]
  rw [if_pos (show Int32.ofNat (cO (kk p)) = 140 by rw [hop]; rfl), if_neg (show ¬ Int32.ofNat a = 8 by rw [show (8 : Int32) = Int32.ofNat 8 from rfl, q_eq (by omega) (by omega)]; omega), if_pos hr.2.2, q_a1, q_a1]
  refine h1 _ _ _ (by omega) (tkm_fr H (fr_16 h _) (by decide)) (ms_at hr _) (fun h' c => ?_)
  exact cx_182 (by omega) (fr_Lay (fr_trans (fr_16 h _) c.1) H.1) (mf_b ht hq c) (hK h' (mf_tr (fr_16 h _) c))
theorem Y_b_f2 (ht : tks kk nu pl N) (hp : p ≤ N) (hp1 : p1 ≤ N) (hd : 3 ≤ dp) (ha : a < 8) (hn : ¬ kk p = 262) (hop : kk p = 40) (h1 : MO kk nu pl N 186 (a + 1) dp (p + 1) k p1 k1) (hb : ¬ kk p1 = 41) : MFp kk nu pl N a dp p k p1 := by
  intro d h K hD H hr hK
  obtain ⟨d, rfl⟩ := q_dp (k := 1) (D := d) (by omega)
  have hN := ht.1
  have hkk := (ht.2.1 p hp).1
  have hcl := cO_lt _ hkk
  refine b_188_2 _ _ H.1 ?_
  rw [if_neg (by decide)]
  refine cl_181 (c := 6) (by omega) ht H hr hp (by omega) (fun q => absurd ((cO_262 _ hkk).1 q) hn) (fun _ => ?_)
  refine b_188_2 _ _ H.1 ?_
  rw [if_pos rfl, if_pos hr.2.2, hr.1, q_in (by omega) (by omega), q_nat (by omega), (H.2 p hp).1]
  rw [if_pos (show Int32.ofNat (cO (kk p)) = 140 by rw [hop]; rfl), if_neg (show ¬ Int32.ofNat a = 8 by rw [show (8 : Int32) = Int32.ofNat 8 from rfl, q_eq (by omega) (by omega)]; omega), if_pos hr.2.2, q_a1, q_a1]
  refine h1 _ _ _ (by omega) (tkm_fr H (fr_16 h _) (by decide)) (ms_at hr _) (fun h' c => ?_)
  refine cl_182 (c := 141) (by omega) ht (tkm_fr H (fr_trans (fr_16 h _) c.1) (by decide)) c.2 hp1 (by omega) (fun q => absurd ((cO_41 _ (ht.2.1 p1 hp1).1).1 q) hb) (fun _ => ?_)
  exact hK _ (mf_tr (fr_trans (fr_16 h _) c.1) mf_here)
theorem Y_b_o (ht : tks kk nu pl N) (hp : p ≤ N) (hp1 : p1 ≤ N) (hd : 3 ≤ dp) (ha : a < 8) (hn : ¬ kk p = 262) (hop : kk p = 40) (h1 : MO kk nu pl N 186 (a + 1) dp (p + 1) k p1 k1) (hb : kk p1 = 41) : MOp kk nu pl N a dp p k (p1 + 1) k1 := by
  intro d h K hD H hr hK
  obtain ⟨d, rfl⟩ := q_dp (k := 1) (D := d) (by omega)
  have hN := ht.1
  have hkk := (ht.2.1 p hp).1
  have hcl := cO_lt _ hkk
  refine b_188_2 _ _ H.1 ?_
  rw [if_neg (by decide)]
  refine cl_181 (c := 6) (by omega) ht H hr hp (by omega) (fun q => absurd ((cO_262 _ hkk).1 q) hn) (fun _ => ?_)
  refine b_188_2 _ _ H.1 ?_
  rw [if_pos rfl, if_pos hr.2.2, hr.1, q_in (by omega) (by omega), q_nat (by omega), (H.2 p hp).1]
  rw [if_pos (show Int32.ofNat (cO (kk p)) = 140 by rw [hop]; rfl), if_neg (show ¬ Int32.ofNat a = 8 by rw [show (8 : Int32) = Int32.ofNat 8 from rfl, q_eq (by omega) (by omega)]; omega), if_pos hr.2.2, q_a1, q_a1]
  refine h1 _ _ _ (by omega) (tkm_fr H (fr_16 h _) (by decide)) (ms_at hr _) (fun h' c => ?_)
  refine cl_182 (c := 141) (by omega) ht (tkm_fr H (fr_trans (fr_16 h _) c.1) (by decide)) c.2 hp1 (by omega) (fun _ => ?_) (fun q => absurd ((cO_41 _ (ht.2.1 p1 hp1).1).2 hb) q)
  exact hK _ (mg_tr (fr_trans (fr_16 h _) c.1) ⟨fr_16 _ _, ms_at c.2 _⟩)
theorem Y_q_f1 (ht : tks kk nu pl N) (hp : p ≤ N) (hq : q ≤ N) (hd : 4 ≤ dp) (hn : ¬ kk p = 262) (hop : ¬ kk p = 40) (h1 : MF kk nu pl N 189 a dp p k q) : MFp kk nu pl N a dp p k q := by
  intro d h K hD H hr hK
  obtain ⟨d, rfl⟩ := q_dp (k := 1) (D := d) (by omega)
  have hN := ht.1
  have hkk := (ht.2.1 p hp).1
  have hcl := cO_lt _ hkk
  refine b_188_2 _ _ H.1 ?_
  rw [if_neg (by decide)]
  refine cl_181 (c := 6) (by omega) ht H hr hp (by omega) (fun q => absurd ((cO_262 _ hkk).1 q) hn) (fun _ => ?_)
  refine b_188_2 _ _ H.1 ?_
  rw [if_pos rfl, if_pos hr.2.2, hr.1, q_in (by omega) (by omega), q_nat (by omega), (H.2 p hp).1]
  rw [if_neg (show ¬ Int32.ofNat (cO (kk p)) = 140 from fun q => hop ((cO_40 _ hkk).1 ((q_eq (by omega) (by omega)).mp q)))]
  refine h1 _ h _ (by omega) H hr (fun h' c => ?_)
  have hl := fr_Lay c.1 H.1
  have hb := mf_b ht hq c
  refine cx_181 (by omega) hl hb ?_
  rw [if_pos rfl]
  refine cx_181 (by omega) hl hb ?_
  rw [if_pos rfl]
  refine cx_182 (by omega) hl hb ?_
  exact X_189 (by omega) hl hb (hK h' c)
theorem Y_q_f2 (ht : tks kk nu pl N) (hp : p ≤ N) (hp1 : p1 ≤ N) (hd : 4 ≤ dp) (hn : ¬ kk p = 262) (hop : ¬ kk p = 40) (h1 : MO kk nu pl N 189 a dp p k p1 k1) (hc : ¬ (kk p1 = 60 ∨ kk p1 = 61 ∨ kk p1 = 62)) : MFp kk nu pl N a dp p k p1 := by
  intro d h K hD H hr hK
  obtain ⟨d, rfl⟩ := q_dp (k := 1) (D := d) (by omega)
  have hN := ht.1
  have hkk := (ht.2.1 p hp).1
  have hcl := cO_lt _ hkk
  refine b_188_2 _ _ H.1 ?_
  rw [if_neg (by decide)]
  refine cl_181 (c := 6) (by omega) ht H hr hp (by omega) (fun q => absurd ((cO_262 _ hkk).1 q) hn) (fun _ => ?_)
  refine b_188_2 _ _ H.1 ?_
  rw [if_pos rfl, if_pos hr.2.2, hr.1, q_in (by omega) (by omega), q_nat (by omega), (H.2 p hp).1]
  rw [if_neg (show ¬ Int32.ofNat (cO (kk p)) = 140 from fun q => hop ((cO_40 _ hkk).1 ((q_eq (by omega) (by omega)).mp q)))]
  refine h1 _ h _ (by omega) H hr (fun h' c => ?_)
  have H' := tkm_fr H c.1 (by decide)
  have hk1 := (ht.2.1 p1 hp1).1
  refine cl_181 (c := 160) (by omega) ht H' c.2 hp1 (by omega) (fun q => absurd ((cO_60 _ hk1).1 q) (fun z => hc (Or.inl z))) (fun _ => ?_)
  rw [if_pos rfl]
  refine cl_181 (c := 162) (by omega) ht H' c.2 hp1 (by omega) (fun q => absurd ((cO_62 _ hk1).1 q) (fun z => hc (Or.inr (Or.inr z)))) (fun _ => ?_)
  rw [if_pos rfl]
  refine cl_182 (c := 161) (by omega) ht H' c.2 hp1 (by omega) (fun q => absurd ((cO_61 _ hk1).1 q) (fun z => hc (Or.inr (Or.inl z)))) (fun _ => ?_)
  have f2 : mf pl h (lm_si h' 92 18 (Int32.ofNat (pl p1))) p1 := mf_tr c.1 mf_here
  exact X_189 (by omega) (fr_Lay f2.1 H.1) (mf_b ht hp1 f2) (hK _ f2)
theorem Y_q_go {d : Nat} {h : lm_H} {K : lm_H → Prop} (ht : tks kk nu pl N) (hd : 3 ≤ d) (H : tkm kk nu pl N h) (hr : ms h p k) (hp : p ≤ N) (hc : kk p = 60 ∨ kk p = 61 ∨ kk p = 62) (hyp : lm_call d 189 [.ref 92, .int (Int32.ofNat a)] (lm_si h 92 16 (Int32.ofNat (p + 1))) (lm_kV fun h14 => K h14)) : lm_call d 181 [.ref 92, .int 160] h (lm_kI fun r8 h7 => (if r8 = 0 then (lm_call d 181 [.ref 92, .int 162] h7 (lm_kI fun r10 h9 => (if r10 = 0 then (lm_call d 182 [.ref 92, .int 161] h9 (lm_kV fun h11 => lm_call d 189 [.ref 92, .int (Int32.ofNat a)] h11 (lm_kV fun h12 => K h12))) else (lm_call d 189 [.ref 92, .int (Int32.ofNat a)] h9 (lm_kV fun h13 => K h13))))) else (lm_call d 189 [.ref 92, .int (Int32.ofNat a)] h7 (lm_kV fun h14 => K h14)))) := by
  have hk1 := (ht.2.1 p hp).1
  refine cl_181 (c := 160) (by omega) ht H hr hp (by omega) (fun _ => ?_) (fun n1 => ?_)
  · rw [if_neg (by decide)]
    exact hyp
  · rw [if_pos rfl]
    refine cl_181 (c := 162) (by omega) ht H hr hp (by omega) (fun _ => ?_) (fun n2 => ?_)
    · rw [if_neg (by decide)]
      exact hyp
    · rw [if_pos rfl]
      refine cl_182 (c := 161) (by omega) ht H hr hp (by omega) (fun _ => ?_) (fun n3 => ?_)
      · exact hyp
      · exfalso
        rcases hc with c | c | c
        · exact n1 ((cO_60 _ hk1).2 c)
        · exact n3 ((cO_61 _ hk1).2 c)
        · exact n2 ((cO_62 _ hk1).2 c)
theorem Y_q_f3 (ht : tks kk nu pl N) (hp : p ≤ N) (hp1 : p1 ≤ N) (hd : 4 ≤ dp) (hn : ¬ kk p = 262) (hop : ¬ kk p = 40) (h1 : MO kk nu pl N 189 a dp p k p1 k1) (hc : kk p1 = 60 ∨ kk p1 = 61 ∨ kk p1 = 62) (h2 : MF kk nu pl N 189 a dp (p1 + 1) k1 q) : MFp kk nu pl N a dp p k q := by
  intro d h K hD H hr hK
  obtain ⟨d, rfl⟩ := q_dp (k := 1) (D := d) (by omega)
  have hN := ht.1
  have hkk := (ht.2.1 p hp).1
  have hcl := cO_lt _ hkk
  refine b_188_2 _ _ H.1 ?_
  rw [if_neg (by decide)]
  refine cl_181 (c := 6) (by omega) ht H hr hp (by omega) (fun q => absurd ((cO_262 _ hkk).1 q) hn) (fun _ => ?_)
  refine b_188_2 _ _ H.1 ?_
  rw [if_pos rfl, if_pos hr.2.2, hr.1, q_in (by omega) (by omega), q_nat (by omega), (H.2 p hp).1]
  rw [if_neg (show ¬ Int32.ofNat (cO (kk p)) = 140 from fun q => hop ((cO_40 _ hkk).1 ((q_eq (by omega) (by omega)).mp q)))]
  refine h1 _ h _ (by omega) H hr (fun h' c => ?_)
  have H' := tkm_fr H c.1 (by decide)
  refine Y_q_go ht (by omega) H' c.2 hp1 hc ?_
  exact h2 _ _ _ (by omega) (tkm_fr H' (fr_16 h' _) (by decide)) (ms_at c.2 _) (fun h2 c2 => hK h2 (mf_tr (fr_trans c.1 (fr_16 h' _)) c2))
theorem Y_q_o (ht : tks kk nu pl N) (hp : p ≤ N) (hp1 : p1 ≤ N) (hd : 4 ≤ dp) (hn : ¬ kk p = 262) (hop : ¬ kk p = 40) (h1 : MO kk nu pl N 189 a dp p k p1 k1) (hc : kk p1 = 60 ∨ kk p1 = 61 ∨ kk p1 = 62) (h2 : MO kk nu pl N 189 a dp (p1 + 1) k1 p2 k2) : MOp kk nu pl N a dp p k p2 k2 := by
  intro d h K hD H hr hK
  obtain ⟨d, rfl⟩ := q_dp (k := 1) (D := d) (by omega)
  have hN := ht.1
  have hkk := (ht.2.1 p hp).1
  have hcl := cO_lt _ hkk
  refine b_188_2 _ _ H.1 ?_
  rw [if_neg (by decide)]
  refine cl_181 (c := 6) (by omega) ht H hr hp (by omega) (fun q => absurd ((cO_262 _ hkk).1 q) hn) (fun _ => ?_)
  refine b_188_2 _ _ H.1 ?_
  rw [if_pos rfl, if_pos hr.2.2, hr.1, q_in (by omega) (by omega), q_nat (by omega), (H.2 p hp).1]
  rw [if_neg (show ¬ Int32.ofNat (cO (kk p)) = 140 from fun q => hop ((cO_40 _ hkk).1 ((q_eq (by omega) (by omega)).mp q)))]
  refine h1 _ h _ (by omega) H hr (fun h' c => ?_)
  have H' := tkm_fr H c.1 (by decide)
  refine Y_q_go ht (by omega) H' c.2 hp1 hc ?_
  exact h2 _ _ _ (by omega) (tkm_fr H' (fr_16 h' _) (by decide)) (ms_at c.2 _) (fun h2 c2 => hK h2 (mg_tr (fr_trans c.1 (fr_16 h' _)) c2))
theorem Y_top_f (hd : 2 ≤ dp) (h1 : MFp kk nu pl N a dp p k q) : MF kk nu pl N 188 a (dp + 1) p k q := by
  intro D h K hD H hr hK
  obtain ⟨d, rfl⟩ := q_dp (k := 2) (D := D) (by omega)
  refine e_188 _ H.1 ?_
  exact h1 _ h K (by omega) H hr hK
theorem Y_top_o (hd : 2 ≤ dp) (h1 : MOp kk nu pl N a dp p k p1 k1) : MO kk nu pl N 188 a (dp + 1) p k p1 k1 := by
  intro D h K hD H hr hK
  obtain ⟨d, rfl⟩ := q_dp (k := 2) (D := D) (by omega)
  refine e_188 _ H.1 ?_
  exact h1 _ h K (by omega) H hr hK
end ReadMT
