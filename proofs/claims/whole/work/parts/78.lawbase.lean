/-! Laws: tokens, and what the readers' small methods do. -/
/-- the reference's code of a kind of token -/
def cO (k : Nat) : Nat := if k < 256 then 100 + k else if k = 257 then 50 else if k = 259 then 3 else if k = 260 then 4 else if k = 261 then 5 else if k = 262 then 6 else if k = 263 then 1 else if k = 264 then 2 else if 265 ≤ k then k - 258 else 0
set_option maxRecDepth 20000 in
theorem cO_lt : ∀ k, k < 272 → cO k < 400 := by decide +kernel
set_option maxRecDepth 20000 in
theorem cO_40 : ∀ k, k < 272 → (cO k = 140 ↔ k = 40) := by decide +kernel
set_option maxRecDepth 20000 in
theorem cO_41 : ∀ k, k < 272 → (cO k = 141 ↔ k = 41) := by decide +kernel
set_option maxRecDepth 20000 in
theorem cO_42 : ∀ k, k < 272 → (cO k = 142 ↔ k = 42) := by decide +kernel
set_option maxRecDepth 20000 in
theorem cO_43 : ∀ k, k < 272 → (cO k = 143 ↔ k = 43) := by decide +kernel
set_option maxRecDepth 20000 in
theorem cO_45 : ∀ k, k < 272 → (cO k = 145 ↔ k = 45) := by decide +kernel
set_option maxRecDepth 20000 in
theorem cO_47 : ∀ k, k < 272 → (cO k = 147 ↔ k = 47) := by decide +kernel
set_option maxRecDepth 20000 in
theorem cO_59 : ∀ k, k < 272 → (cO k = 159 ↔ k = 59) := by decide +kernel
set_option maxRecDepth 20000 in
theorem cO_60 : ∀ k, k < 272 → (cO k = 160 ↔ k = 60) := by decide +kernel
set_option maxRecDepth 20000 in
theorem cO_61 : ∀ k, k < 272 → (cO k = 161 ↔ k = 61) := by decide +kernel
set_option maxRecDepth 20000 in
theorem cO_62 : ∀ k, k < 272 → (cO k = 162 ↔ k = 62) := by decide +kernel
set_option maxRecDepth 20000 in
theorem cO_91 : ∀ k, k < 272 → (cO k = 191 ↔ k = 91) := by decide +kernel
set_option maxRecDepth 20000 in
theorem cO_93 : ∀ k, k < 272 → (cO k = 193 ↔ k = 93) := by decide +kernel
set_option maxRecDepth 20000 in
theorem cO_257 : ∀ k, k < 272 → (cO k = 50 ↔ k = 257) := by decide +kernel
set_option maxRecDepth 20000 in
theorem cO_259 : ∀ k, k < 272 → (cO k = 3 ↔ k = 259) := by decide +kernel
set_option maxRecDepth 20000 in
theorem cO_260 : ∀ k, k < 272 → (cO k = 4 ↔ k = 260) := by decide +kernel
set_option maxRecDepth 20000 in
theorem cO_261 : ∀ k, k < 272 → (cO k = 5 ↔ k = 261) := by decide +kernel
set_option maxRecDepth 20000 in
theorem cO_262 : ∀ k, k < 272 → (cO k = 6 ↔ k = 262) := by decide +kernel
set_option maxRecDepth 20000 in
theorem cO_263 : ∀ k, k < 272 → (cO k = 1 ↔ k = 263) := by decide +kernel
set_option maxRecDepth 20000 in
theorem cO_264 : ∀ k, k < 272 → (cO k = 2 ↔ k = 264) := by decide +kernel
set_option maxRecDepth 20000 in
theorem cO_w : ∀ k, k < 272 → ((7 ≤ cO k ∧ cO k ≤ 13) ↔ 265 ≤ k) := by decide +kernel
set_option maxRecDepth 20000 in
theorem cO_v : ∀ k, k < 272 → 265 ≤ k → cO k = k - 258 := by decide +kernel
section LawBase
variable (kk nu pl : Nat → Nat) (N : Nat)
/-- kinds, numbers, places of N tokens and the end -/
def tks : Prop := N ≤ 400 ∧ (∀ p, p ≤ N → kk p < 272 ∧ (kk p = 256 ↔ p = N)) ∧ (∀ p, p ≤ N → pl p ≤ 400) ∧ ∀ p, p ≤ N → nu p ≤ 1001
/-- the class has them -/
def tkc (h : lm_H) : Prop := lm_Lay h ∧ ∀ p, p ≤ N → lm_i h 14 p = Int32.ofNat (kk p) ∧ lm_i h 15 p = Int32.ofNat (pl p) ∧ (kk p = 257 → lm_i h 16 p = Int32.ofNat (nu p))
/-- the reference has them, for reading -/
def tkm (h : lm_H) : Prop := lm_Lay h ∧ ∀ p, p ≤ N → lm_i h 100 p = Int32.ofNat (cO (kk p)) ∧ lm_i h 102 p = Int32.ofNat (pl p) ∧ (kk p = 257 → if nu p ≤ 1000 then lm_i h 101 p = Int32.ofNat (nu p) else 1000 < lm_i h 101 p)
/-- the reference has them, as law t, for asking, and the words -/
def tke (h : lm_H) (t : Nat) (w : Nat → Int32) : Prop := lm_Lay h ∧ t < 6 ∧ lm_i h 92 20 = Int32.ofNat (400 * t + N) ∧ (∀ p, p < N → lm_i h 94 (93 + (400 * t + p)) = Int32.ofNat (cO (kk p)) ∧ (kk p = 257 → nu p ≤ 1000 → lm_i h 94 (2493 + (400 * t + p)) = Int32.ofNat (nu p))) ∧ ∀ j, j < 7 → lm_i h 103 j = w j
end LawBase
/-- where the class's reader is: at, size, parts -/
def rs (h : lm_H) (p z k : Nat) : Prop := lm_i h 13 4 = Int32.ofNat p ∧ lm_i h 13 5 = Int32.ofNat z ∧ lm_i h 13 6 = Int32.ofNat k
section LawLeaf
variable {kk nu pl : Nat → Nat} {N : Nat}
theorem tkc_fr {h h' : lm_H} {S T : List Nat} (H : tkc kk nu pl N h) (a : fr S T h h') (hS : S.contains 14 = false ∧ S.contains 15 = false ∧ S.contains 16 = false) : tkc kk nu pl N h' := by
  refine ⟨fr_Lay a H.1, ?_⟩
  rw [fr_i a hS.1 (by decide), fr_i a hS.2.1 (by decide), fr_i a hS.2.2 (by decide)]
  exact H.2
theorem tkm_fr {h h' : lm_H} {S T : List Nat} (H : tkm kk nu pl N h) (a : fr S T h h') (hS : S.contains 100 = false ∧ S.contains 101 = false ∧ S.contains 102 = false) : tkm kk nu pl N h' := by
  refine ⟨fr_Lay a H.1, ?_⟩
  rw [fr_i a hS.1 (by decide), fr_i a hS.2.1 (by decide), fr_i a hS.2.2 (by decide)]
  exact H.2
theorem tke_fr {h h' : lm_H} {S T : List Nat} {t : Nat} {w : Nat → Int32} (H : tke kk nu N h t w) (a : fr S T h h') (hS : S.contains 94 = false ∧ S.contains 103 = false ∧ T.contains 20 = false) : tke kk nu N h' t w := by
  refine ⟨fr_Lay a H.1, H.2.1, ?_, ?_⟩
  · rw [fr_m a hS.2.2]; exact H.2.2.1
  · rw [fr_i a hS.1 (by decide), fr_i a hS.2.1 (by decide)]
    exact H.2.2.2
theorem cl_33 {D p z k : Nat} {h : lm_H} {K : Int32 → lm_H → Prop} (hD : 1 ≤ D) (ht : tks kk nu pl N) (H : tkc kk nu pl N h) (hr : rs h p z k) (hp : p ≤ N) (hK : K (Int32.ofNat (kk p)) h) : lm_call D 33 [.ref 13] h (lm_kI K) := by
  obtain ⟨d, rfl⟩ := q_dp hD
  have hN := ht.1
  have e4 : (400 : Int32) = Int32.ofNat 400 := rfl
  refine e_33 H.1 ?_
  rw [hr.1, if_neg (by rw [q_lt0 (by omega)]; exact id), if_neg (by rw [e4, q_lt (by omega) (by omega)]; omega), q_in (by omega) (by omega), q_nat (by omega), (H.2 p hp).1]
  exact hK
theorem cl_34 {D p z k : Nat} {h : lm_H} {K : Int32 → lm_H → Prop} (hD : 1 ≤ D) (ht : tks kk nu pl N) (H : tkc kk nu pl N h) (hr : rs h p z k) (hp : p ≤ N) (hK : K 0 (lm_si h 13 7 (Int32.ofNat (pl p)))) : lm_call D 34 [.ref 13] h (lm_kI K) := by
  obtain ⟨d, rfl⟩ := q_dp hD
  have hN := ht.1
  have e4 : (400 : Int32) = Int32.ofNat 400 := rfl
  refine e_34 H.1 ?_
  rw [hr.1, if_neg (by rw [q_lt0 (by omega)]; exact id), if_neg (by rw [e4, q_lt (by omega) (by omega)]; omega), q_in (by omega) (by omega), q_nat (by omega), (H.2 p hp).2.1]
  exact hK
/-- a step as it is written -/
def st (x n : Nat) : Int32 := (Int32.ofNat n <<< ((4 : Int32) &&& 31)) ||| Int32.ofNat x
theorem cl_35 {D p z k x n : Nat} {h : lm_H} {K : lm_H → Prop} (hD : 1 ≤ D) (hl : lm_Lay h) (hr : rs h p z k) (hz : z < 401) (hK : K (lm_si (lm_si h 17 z (st x n)) 13 5 (Int32.ofNat (z + 1)))) : lm_call D 35 [.ref 13, .int (Int32.ofNat x), .int (Int32.ofNat n)] h (lm_kV K) := by
  obtain ⟨d, rfl⟩ := q_dp hD
  have e4 : (401 : Int32) = Int32.ofNat 401 := rfl
  refine e_35 _ _ hl ?_
  rw [hr.2.1, if_pos (by rw [e4, q_lt (by omega) (by omega)]; omega), q_in (by omega) (by omega), q_nat (by omega), q_a1]
  exact hK
theorem cl_36 {D p z k s x : Nat} {h : lm_H} {K : lm_H → Prop} (hD : 1 ≤ D) (hl : lm_Lay h) (hr : rs h p z k) (hs : s < 401) (hK : K (lm_si h 17 s (st x z))) : lm_call D 36 [.ref 13, .int (Int32.ofNat s), .int (Int32.ofNat x)] h (lm_kV K) := by
  obtain ⟨d, rfl⟩ := q_dp hD
  have e4 : (401 : Int32) = Int32.ofNat 401 := rfl
  refine e_36 _ _ hl ?_
  rw [hr.2.1, if_pos (by rw [e4, q_lt (by omega) (by omega)]; omega), q_in (by omega) (by omega), q_nat (by omega)]
  exact hK
/-- a sign that must be there -/
theorem cl_44 {D p z k c : Nat} {h : lm_H} {K : Int32 → lm_H → Prop} (hD : 2 ≤ D) (ht : tks kk nu pl N) (H : tkc kk nu pl N h) (hr : rs h p z k) (hp : p ≤ N) (hc : c < 272) (hT : kk p = c → K 1 (lm_si h 13 4 (Int32.ofNat (p + 1)))) (hF : ¬ kk p = c → K 0 (lm_si h 13 7 (Int32.ofNat (pl p)))) : lm_call D 44 [.ref 13, .int (Int32.ofNat c)] h (lm_kI K) := by
  obtain ⟨d, rfl⟩ := q_dp hD
  have hk := (ht.2.1 p hp).1
  have hN := ht.1
  refine e_44 _ H.1 ?_
  refine cl_33 (by omega) ht H hr hp ?_
  by_cases c1 : kk p = c
  · rw [if_pos (by rw [c1]), hr.1, q_a1]
    exact hT c1
  · rw [if_neg (by rw [q_eq (by omega) (by omega)]; exact c1)]
    exact cl_34 (by omega) ht H hr hp ⟨rfl, hF c1⟩
/-- the reference's reader: where it is, fine -/
def ms (h : lm_H) (p k : Nat) : Prop := lm_i h 92 16 = Int32.ofNat p ∧ lm_i h 92 17 = Int32.ofNat k ∧ lm_i h 92 18 = -1
theorem ne_m1 {a : Nat} (h : a < 2147483648) : ¬ Int32.ofNat a = -1 := by
  intro q
  have := congrArg Int32.toInt q
  rw [p_onI h] at this
  have e : (-1 : Int32).toInt = -1 := rfl
  omega
theorem cl_181 {D p k c : Nat} {h : lm_H} {K : Int32 → lm_H → Prop} (hD : 2 ≤ D) (ht : tks kk nu pl N) (H : tkm kk nu pl N h) (hr : ms h p k) (hp : p ≤ N) (hc : c < 400) (hT : cO (kk p) = c → K 1 (lm_si h 92 16 (Int32.ofNat (p + 1)))) (hF : ¬ cO (kk p) = c → K 0 h) : lm_call D 181 [.ref 92, .int (Int32.ofNat c)] h (lm_kI K) := by
  obtain ⟨d, rfl⟩ := q_dp hD
  have hk := cO_lt _ (ht.2.1 p hp).1
  have hN := ht.1
  refine e_181 _ H.1 ?_
  rw [hr.2.2, if_pos rfl, hr.1, q_in (by omega) (by omega), q_nat (by omega), (H.2 p hp).1, q_a1]
  by_cases c1 : cO (kk p) = c
  · rw [if_pos (by rw [c1])]
    exact hT c1
  · rw [if_neg (by rw [q_eq (by omega) (by omega)]; exact c1)]
    exact hF c1
theorem cx_181 {D : Nat} {c : Int32} {h : lm_H} {K : Int32 → lm_H → Prop} (hD : 2 ≤ D) (hl : lm_Lay h) (hb : ¬ lm_i h 92 18 = -1) (hK : K 0 h) : lm_call D 181 [.ref 92, .int c] h (lm_kI K) := by
  obtain ⟨d, rfl⟩ := q_dp hD
  refine e_181 _ hl ?_
  rw [if_neg hb]
  exact hK
theorem cl_180 {D p k : Nat} {h : lm_H} {K : lm_H → Prop} (hD : 2 ≤ D) (ht : tks kk nu pl N) (H : tkm kk nu pl N h) (hr : ms h p k) (hp : p ≤ N) (hK : K (lm_si h 92 18 (Int32.ofNat (pl p)))) : lm_call D 180 [.ref 92] h (lm_kV K) := by
  obtain ⟨d, rfl⟩ := q_dp hD
  have hN := ht.1
  refine e_180 H.1 ?_
  rw [hr.2.2, if_pos rfl, hr.1, q_in (by omega) (by omega), q_nat (by omega), (H.2 p hp).2.1]
  exact hK
theorem cx_180 {D : Nat} {h : lm_H} {K : lm_H → Prop} (hD : 2 ≤ D) (hl : lm_Lay h) (hb : ¬ lm_i h 92 18 = -1) (hK : K h) : lm_call D 180 [.ref 92] h (lm_kV K) := by
  obtain ⟨d, rfl⟩ := q_dp hD
  refine e_180 hl ?_
  rw [if_neg hb]
  exact hK
theorem cl_182 {D p k c : Nat} {h : lm_H} {K : lm_H → Prop} (hD : 3 ≤ D) (ht : tks kk nu pl N) (H : tkm kk nu pl N h) (hr : ms h p k) (hp : p ≤ N) (hc : c < 400) (hT : cO (kk p) = c → K (lm_si h 92 16 (Int32.ofNat (p + 1)))) (hF : ¬ cO (kk p) = c → K (lm_si h 92 18 (Int32.ofNat (pl p)))) : lm_call D 182 [.ref 92, .int (Int32.ofNat c)] h (lm_kV K) := by
  obtain ⟨d, rfl⟩ := q_dp hD
  refine e_182 _ H.1 ?_
  refine cl_181 (by omega) ht H hr hp hc (fun q => ?_) (fun q => ?_)
  · rw [if_neg (by decide)]
    exact hT q
  · rw [if_pos rfl]
    exact cl_180 (by omega) ht H hr hp (hF q)
theorem cx_182 {D : Nat} {c : Int32} {h : lm_H} {K : lm_H → Prop} (hD : 3 ≤ D) (hl : lm_Lay h) (hb : ¬ lm_i h 92 18 = -1) (hK : K h) : lm_call D 182 [.ref 92, .int c] h (lm_kV K) := by
  obtain ⟨d, rfl⟩ := q_dp hD
  refine e_182 _ hl ?_
  refine cx_181 (by omega) hl hb ?_
  rw [if_pos rfl]
  exact cx_180 (by omega) hl hb hK
/-- the reference's code where it goes -/
theorem cl_196 {D t p : Nat} {h : lm_H} {K : Int32 → lm_H → Prop} {w : Nat → Int32} (hD : 1 ≤ D) (ht : tks kk nu pl N) (H : tke kk nu N h t w) (hp : p ≤ N) (hK : K (Int32.ofNat (cO (kk p))) h) : lm_call D 196 [.ref 92, .int (Int32.ofNat (400 * t + p))] h (lm_kI K) := by
  obtain ⟨d, rfl⟩ := q_dp hD
  have hN := ht.1
  have h6 := H.2.1
  refine e_196 _ H.1 ?_
  rw [H.2.2.1]
  simp only [q_lt (a := 400 * t + p) (b := 400 * t + N) (by omega) (by omega)]
  by_cases c : p < N
  · rw [if_pos (by omega), show (93 : Int32) = Int32.ofNat 93 from rfl, q_add, q_in (by omega) (by omega), q_nat (by omega), (H.2.2.2.1 p c).1]
    exact hK
  · rw [if_neg (by omega)]
    have e : kk p = 256 := (ht.2.1 p hp).2.2 (by omega)
    rw [e] at hK
    exact hK
theorem cl_197 {D t p c : Nat} {h : lm_H} {K : Int32 → lm_H → Prop} {w : Nat → Int32} (hD : 2 ≤ D) (ht : tks kk nu pl N) (H : tke kk nu N h t w) (hg : lm_i h 92 19 = Int32.ofNat (400 * t + p)) (hp : p ≤ N) (hc : c < 400) (hT : cO (kk p) = c → K 1 (lm_si h 92 19 (Int32.ofNat (400 * t + (p + 1))))) (hF : ¬ cO (kk p) = c → K 0 h) : lm_call D 197 [.ref 92, .int (Int32.ofNat c)] h (lm_kI K) := by
  obtain ⟨d, rfl⟩ := q_dp hD
  have hk := cO_lt _ (ht.2.1 p hp).1
  refine e_197 _ H.1 ?_
  rw [hg]
  refine cl_196 (by omega) ht H hp ?_
  by_cases c1 : cO (kk p) = c
  · rw [if_pos (by rw [c1]), hg, q_a1]
    exact hT c1
  · rw [if_neg (by rw [q_eq (by omega) (by omega)]; exact c1)]
    exact hF c1
end LawLeaf
