/-! Tokens: words and numbers. -/
/-- the bytes f .. t spell word s -/
def mtw (T : Nat → Nat) (f t s : Nat) : Prop := t - f = (lm_sb.getD s []).length ∧ ∀ i, i < t - f → Int32.ofNat (T (f + i)) = (lm_sb.getD s []).getD i 0
theorem sl_all : ∀ s, s < 13 → (Int32.ofNat (lm_sb.getD s []).length >>> ((0 : Int32) &&& 31)) = Int32.ofNat (lm_sb.getD s []).length := by decide +kernel
theorem sl_8 : ∀ s, s < 13 → (lm_sb.getD s []).length < 8 := by decide +kernel
theorem sc_all : ∀ s, s < 13 → ∀ i, i < (lm_sb.getD s []).length → vp_nar .char (((((lm_sb.getD s []).getD i 0) &&& 255).toUInt32 % 65536).toInt32) = (((((lm_sb.getD s []).getD i 0) &&& 255).toUInt32 % 65536).toInt32) ∧ (((((lm_sb.getD s []).getD i 0) &&& 255).toUInt32 % 65536).toInt32) = (lm_sb.getD s []).getD i 0 := by decide +kernel
theorem su_all : ∀ s, s < 13 → ∀ u, u < 13 → (lm_sb.getD s []).length = (lm_sb.getD u []).length → (∀ i, i < (lm_sb.getD s []).length → (lm_sb.getD s []).getD i 0 = (lm_sb.getD u []).getD i 0) → s = u := by decide +kernel
theorem mtw_u {T : Nat → Nat} {f t s u : Nat} (hs : s < 13) (hu : u < 13) (h1 : mtw T f t s) (h2 : mtw T f t u) : s = u := by
  refine su_all s hs u hu (h1.1.symm.trans h2.1) (fun i hi => ?_)
  have hi' : i < t - f := by rw [h1.1]; exact hi
  rw [← h1.2 i hi', ← h2.2 i hi']
theorem cl_263 {D s : Nat} {h : lm_H} {K : Int32 → lm_H → Prop} (hD : 2 ≤ D) (hl : lm_Lay h) (hs : s < 13) (hK : K (Int32.ofNat (lm_sb.getD s []).length) h) : lm_call D 263 [.ref (1000001 + s)] h (lm_kI K) := by
  obtain ⟨d, rfl⟩ := q_dp hD
  refine e_263 s hs hl ?_
  refine e_265 s hs hl ?_
  rw [sl_all s hs]
  exact hK
theorem cl_272 {D i n : Nat} {h : lm_H} {K : Int32 → lm_H → Prop} {o : Option Nat} (hD : 1 ≤ D) (hl : lm_Lay h) (hi : i < n) (hn : n < 1000) (hK : K (Int32.ofNat i) h) : lm_call D 272 [.int (Int32.ofNat i), .int (Int32.ofNat n), va_rf o] h (lm_kI K) := by
  obtain ⟨d, rfl⟩ := q_dp hD
  have e : (if Int32.ofNat i < 0 then False else (if Int32.ofNat i < Int32.ofNat n then K (Int32.ofNat i) h else False)) := by
    rw [if_neg (by rw [q_lt0 (by omega)]; exact id), if_pos (by rw [q_lt (by omega) (by omega)]; exact hi)]
    exact hK
  cases o with
  | none => exact e_272n _ _ hl e
  | some w => exact e_272r _ _ w hl e
theorem cl_264 {D s i : Nat} {h : lm_H} {K : Int32 → lm_H → Prop} (hD : 4 ≤ D) (hl : lm_Lay h) (hs : s < 13) (hi : i < (lm_sb.getD s []).length) (hK : K ((lm_sb.getD s []).getD i 0) h) : lm_call D 264 [.ref (1000001 + s), .int (Int32.ofNat i)] h (lm_kI K) := by
  obtain ⟨d, rfl⟩ := q_dp hD
  have h8 := sl_8 s hs
  obtain ⟨c1, c2⟩ := sc_all s hs i hi
  refine e_264 s _ hs hl ?_
  refine e_266 s hs hl ?_
  rw [if_neg (by decide)]
  refine e_268 s _ hs hl ?_
  refine e_267 _ _ hl ?_
  refine cl_272 (by omega) hl hi (by omega) ?_
  refine p_inN hi (by omega) ?_
  rw [q_nat (by omega)]
  refine ⟨c1, ?_⟩
  rw [c2]
  rw [c2] at c1
  exact ⟨c1, hK⟩
theorem cl_32 {D f t s : Nat} {h : lm_H} {K : Int32 → lm_H → Prop} {T : Nat → Nat} (hD : 5 ≤ D) (hl : lm_Lay h) (hb : ∀ j, f ≤ j → j < t → lm_i h 12 j = Int32.ofNat (T j)) (hft : f ≤ t) (ht : t ≤ 400) (hs : s < 13) (hT : mtw T f t s → K 1 h) (hF : ¬ mtw T f t s → K 0 h) : lm_call D 32 [.ref 12, .int (Int32.ofNat f), .int (Int32.ofNat t), .ref (1000001 + s)] h (lm_kI K) := by
  obtain ⟨d, rfl⟩ := q_dp hD
  have h8 := sl_8 s hs
  refine e_32 _ _ s hs hl ?_
  refine cl_263 (by omega) hl hs ?_
  rw [q_sub hft]
  by_cases c : t - f = (lm_sb.getD s []).length
  · rw [if_pos (by rw [c])]
    have lp : ∀ r i : Nat, r + i = t - f → (∀ j, j < i → Int32.ofNat (T (f + j)) = (lm_sb.getD s []).getD j 0) → (lm_W ((d + 4)) 32 15 [some (.ref 12), some (.int (Int32.ofNat f)), some (.int (Int32.ofNat t)), some (.ref (1000001 + s)), some (.int (Int32.ofNat (f + i)))] [] h (lm_kI K)) := by
      intro r
      induction r with
      | zero =>
        intro i hi hj
        refine b_32_15 _ _ s _ hs hl ?_
        rw [if_neg (by rw [q_lt (by omega) (by omega)]; omega)]
        exact hT ⟨c, fun j hj2 => hj j (by omega)⟩
      | succ r ih =>
        intro i hi hj
        refine b_32_15 _ _ s _ hs hl ?_
        rw [if_pos (by rw [q_lt (by omega) (by omega)]; omega), q_in (by omega) (by omega), q_nat (by omega), q_sub (by omega), Nat.add_sub_cancel_left, q_a1]
        refine cl_264 (by omega) hl hs (by omega) ?_
        rw [hb _ (by omega) (by omega)]
        by_cases c2 : Int32.ofNat (T (f + i)) = (lm_sb.getD s []).getD i 0
        · rw [if_pos c2]
          refine ih (i + 1) (by omega) (fun j hj2 => ?_)
          by_cases ej : j = i
          · rw [ej]; exact c2
          · exact hj j (by omega)
        · rw [if_neg c2]
          exact hF (fun m => c2 (m.2 i (by omega)))
    exact lp (t - f) 0 (by omega) (fun j hj => by omega)
  · rw [if_neg (by rw [q_eq (by omega) (by omega)]; exact c)]
    exact hF (fun m => c m.1)
theorem cl_31 {D s : Nat} {h : lm_H} {K : Option Nat → lm_H → Prop} (hD : 1 ≤ D) (hl : lm_Lay h) (hs : s < 13) (hK : K (some (1000001 + s)) h) : lm_call D 31 [.int (Int32.ofNat (259 + s))] h (lm_kR K) := by
  obtain ⟨d, rfl⟩ := q_dp hD
  refine e_31 _ hl ?_
  have h13 : s = 0 ∨ s = 1 ∨ s = 2 ∨ s = 3 ∨ s = 4 ∨ s = 5 ∨ s = 6 ∨ s = 7 ∨ s = 8 ∨ s = 9 ∨ s = 10 ∨ s = 11 ∨ s = 12 := by omega
  rcases h13 with rfl | rfl | rfl | rfl | rfl | rfl | rfl | rfl | rfl | rfl | rfl | rfl | rfl
  · rw [if_pos (by decide)]
    exact hK
  · rw [if_neg (by decide), if_pos (by decide)]
    exact hK
  · rw [if_neg (by decide), if_neg (by decide), if_pos (by decide)]
    exact hK
  · rw [if_neg (by decide), if_neg (by decide), if_neg (by decide), if_pos (by decide)]
    exact hK
  · rw [if_neg (by decide), if_neg (by decide), if_neg (by decide), if_neg (by decide), if_pos (by decide)]
    exact hK
  · rw [if_neg (by decide), if_neg (by decide), if_neg (by decide), if_neg (by decide), if_neg (by decide), if_pos (by decide)]
    exact hK
  · rw [if_neg (by decide), if_neg (by decide), if_neg (by decide), if_neg (by decide), if_neg (by decide), if_neg (by decide), if_pos (by decide)]
    exact hK
  · rw [if_neg (by decide), if_neg (by decide), if_neg (by decide), if_neg (by decide), if_neg (by decide), if_neg (by decide), if_neg (by decide), if_pos (by decide)]
    exact hK
  · rw [if_neg (by decide), if_neg (by decide), if_neg (by decide), if_neg (by decide), if_neg (by decide), if_neg (by decide), if_neg (by decide), if_neg (by decide), if_pos (by decide)]
    exact hK
  · rw [if_neg (by decide), if_neg (by decide), if_neg (by decide), if_neg (by decide), if_neg (by decide), if_neg (by decide), if_neg (by decide), if_neg (by decide), if_neg (by decide), if_pos (by decide)]
    exact hK
  · rw [if_neg (by decide), if_neg (by decide), if_neg (by decide), if_neg (by decide), if_neg (by decide), if_neg (by decide), if_neg (by decide), if_neg (by decide), if_neg (by decide), if_neg (by decide), if_pos (by decide)]
    exact hK
  · rw [if_neg (by decide), if_neg (by decide), if_neg (by decide), if_neg (by decide), if_neg (by decide), if_neg (by decide), if_neg (by decide), if_neg (by decide), if_neg (by decide), if_neg (by decide), if_neg (by decide), if_pos (by decide)]
    exact hK
  · rw [if_neg (by decide), if_neg (by decide), if_neg (by decide), if_neg (by decide), if_neg (by decide), if_neg (by decide), if_neg (by decide), if_neg (by decide), if_neg (by decide), if_neg (by decide), if_neg (by decide), if_neg (by decide)]
    exact hK
theorem cl_30 {D f t : Nat} {h : lm_H} {K : Int32 → lm_H → Prop} {T : Nat → Nat} (hD : 6 ≤ D) (hl : lm_Lay h) (hb : ∀ j, f ≤ j → j < t → lm_i h 12 j = Int32.ofNat (T j)) (hft : f ≤ t) (ht : t ≤ 400) (hT : ∀ s, s < 13 → mtw T f t s → K (Int32.ofNat (259 + s)) h) (hF : (∀ s, s < 13 → ¬ mtw T f t s) → K 258 h) : lm_call D 30 [.ref 12, .int (Int32.ofNat f), .int (Int32.ofNat t)] h (lm_kI K) := by
  obtain ⟨d, rfl⟩ := q_dp hD
  refine e_30 _ _ hl ?_
  have lp : ∀ r s : Nat, r + s = 13 → (∀ u, u < s → ¬ mtw T f t u) → (lm_W ((d + 5)) 30 4 [some (.ref 12), some (.int (Int32.ofNat f)), some (.int (Int32.ofNat t)), some (.int (Int32.ofNat (259 + s)))] [] h (lm_kI K)) := by
    intro r
    induction r with
    | zero =>
      intro s hs hu
      refine b_30_4 _ _ _ hl ?_
      rw [if_pos (by rw [show (271 : Int32) = Int32.ofNat 271 from rfl, q_lt (by omega) (by omega)]; omega)]
      exact hF (fun u h13 => hu u (by omega))
    | succ r ih =>
      intro s hs hu
      refine b_30_4 _ _ _ hl ?_
      rw [if_neg (by rw [show (271 : Int32) = Int32.ofNat 271 from rfl, q_lt (by omega) (by omega)]; omega)]
      refine cl_31 (by omega) hl (by omega) ?_
      refine cl_32 (T := T) (by omega) hl hb hft ht (by omega) (fun m => ?_) (fun m => ?_)
      · rw [if_neg (by decide)]
        exact hT s (by omega) m
      · rw [if_pos rfl, q_a1]
        refine ih (s + 1) (by omega) (fun u hu2 => ?_)
        by_cases eu : u = s
        · rw [eu]; exact m
        · exact hu u (by omega)
  exact lp 13 0 (by omega) (fun u hu => by omega)
/-- the class's numbers, and the reference's -/
def nC1 (T : Nat → Nat) (f : Nat) : Nat → Nat
  | 0 => 0
  | i + 1 => if 1001 < nC1 T f i * 10 + T (f + i) - 48 then 1001 else nC1 T f i * 10 + T (f + i) - 48
def nM1 (T : Nat → Nat) (f : Nat) : Nat → Nat
  | 0 => 0
  | i + 1 => if 1000000 < nM1 T f i then nM1 T f i else 10 * nM1 T f i + T (f + i) - 48
theorem nn_r {T : Nat → Nat} {f : Nat} : ∀ i, (∀ j, j < i → 48 ≤ T (f + j) ∧ T (f + j) ≤ 57) → ((nC1 T f i ≤ 1000 ∧ nM1 T f i = nC1 T f i) ∨ (nC1 T f i = 1001 ∧ 1000 < nM1 T f i)) ∧ nM1 T f i ≤ 10000009 := by
  intro i
  induction i with
  | zero => intro _; exact ⟨Or.inl ⟨Nat.zero_le _, rfl⟩, Nat.zero_le _⟩
  | succ i ih =>
    intro hd
    have h0 := hd i (by omega)
    obtain ⟨h1, h2⟩ := ih (fun j hj => hd j (by omega))
    rw [nC1, nM1]
    generalize nC1 T f i = c at h1
    generalize nM1 T f i = r at h1 h2
    generalize T (f + i) = x at h0
    split <;> split <;> omega
theorem cl_29 {D f t : Nat} {h : lm_H} {K : Int32 → lm_H → Prop} {T : Nat → Nat} (hD : 1 ≤ D) (hl : lm_Lay h) (hb : ∀ j, f ≤ j → j < t → lm_i h 12 j = Int32.ofNat (T j)) (hft : f ≤ t) (ht : t ≤ 400) (hdg : ∀ j, f ≤ j → j < t → 48 ≤ T j ∧ T j ≤ 57) (hK : K (Int32.ofNat (nC1 T f (t - f))) h) : lm_call D 29 [.ref 12, .int (Int32.ofNat f), .int (Int32.ofNat t)] h (lm_kI K) := by
  obtain ⟨d, rfl⟩ := q_dp hD
  refine e_29 _ _ hl ?_
  have lp : ∀ r i : Nat, r + i = t - f → (lm_W (d) 29 5 [some (.ref 12), none, some (.int (Int32.ofNat t)), some (.int (Int32.ofNat (nC1 T f i))), some (.int (Int32.ofNat (f + i)))] [] h (lm_kI K)) := by
    intro r
    induction r with
    | zero =>
      intro i hi
      have ei : i = t - f := by omega
      refine b_29_5 _ _ _ hl ?_
      rw [if_neg (by rw [q_lt (by omega) (by omega)]; omega), ei]
      exact hK
    | succ r ih =>
      intro i hi
      have h0 := hdg (f + i) (by omega) (by omega)
      have hr := (nn_r (T := T) (f := f) i (fun j hj => hdg (f + j) (by omega) (by omega))).1
      have hi2 := ih (i + 1) (by omega)
      rw [nC1] at hi2
      refine b_29_5 _ _ _ hl ?_
      rw [if_pos (by rw [q_lt (by omega) (by omega)]; omega), q_in (by omega) (by omega), q_nat (by omega), hb _ (by omega) (by omega), show (10 : Int32) = Int32.ofNat 10 from rfl, q_mul, q_add, show (48 : Int32) = Int32.ofNat 48 from rfl, q_sub (by omega), q_a1]
      have e : (if 1001 < Int32.ofNat (nC1 T f i * 10 + T (f + i) - 48) then 1001 else Int32.ofNat (nC1 T f i * 10 + T (f + i) - 48)) = Int32.ofNat (if 1001 < nC1 T f i * 10 + T (f + i) - 48 then 1001 else nC1 T f i * 10 + T (f + i) - 48) := by
        by_cases c : 1001 < nC1 T f i * 10 + T (f + i) - 48
        · rw [if_pos c, if_pos (by rw [show (1001 : Int32) = Int32.ofNat 1001 from rfl, q_lt (by omega) (by omega)]; exact c)]
          rfl
        · rw [if_neg c, if_neg (by rw [show (1001 : Int32) = Int32.ofNat 1001 from rfl, q_lt (by omega) (by omega)]; exact c)]
      rw [e]
      exact hi2
  exact lp (t - f) 0 (by omega)
/-- the reference's row of words -/
def wR : List Int32 := [119, 111, 114, 116, 104, 32, 98, 97, 114, 115, 32, 105, 102, 32, 111, 114, 32, 97, 110, 100, 32, 110, 111, 116, 32, 104, 111, 115, 116, 32, 103, 117, 101, 115, 116, 32, 98, 97, 115, 101, 32, 119, 105, 116, 32, 115, 116, 114, 101, 101, 116, 32, 109, 101, 116, 32, 101, 118, 101, 110, 105, 110, 103, 32]
def oL : List Nat := [0, 6, 11, 14, 17, 21, 25, 30, 36, 41, 45, 52, 56, 64]
def sL : List Nat := [4, 5, 0, 1, 2, 3, 6, 7, 8, 9, 10, 11, 12]
theorem w_all : ∀ w, w < 13 → sL.getD w 0 < 13 ∧ cO (259 + sL.getD w 0) = w + 1 ∧ oL.getD (w + 1) 0 = oL.getD w 0 + (lm_sb.getD (sL.getD w 0) []).length + 1 ∧ oL.getD w 0 + (lm_sb.getD (sL.getD w 0) []).length < 64 ∧ wR.getD (oL.getD w 0 + (lm_sb.getD (sL.getD w 0) []).length) 0 = 32 := by decide +kernel
theorem w_byt : ∀ w, w < 13 → ∀ i, i < (lm_sb.getD (sL.getD w 0) []).length → ¬ wR.getD (oL.getD w 0 + i) 0 = 32 ∧ wR.getD (oL.getD w 0 + i) 0 = (lm_sb.getD (sL.getD w 0) []).getD i 0 := by decide +kernel
theorem w_inv : ∀ s, s < 13 → ∃ w, w < 13 ∧ sL.getD w 0 = s := by decide +kernel
theorem cl_177 {D f t : Nat} {h : lm_H} {K : Int32 → lm_H → Prop} {T : Nat → Nat} (hD : 1 ≤ D) (hl : lm_Lay h) (hw : ∀ j, j < 64 → lm_i h 97 j = wR.getD j 0) (hb : ∀ j, f ≤ j → j < t → lm_i h 98 j = Int32.ofNat (T j)) (hft : f ≤ t) (ht : t ≤ 400) (hT : ∀ s, s < 13 → mtw T f t s → K (Int32.ofNat (cO (259 + s))) h) (hF : (∀ s, s < 13 → ¬ mtw T f t s) → K 0 h) : lm_call D 177 [.ref 92, .int (Int32.ofNat f), .int (Int32.ofNat t)] h (lm_kI K) := by
  obtain ⟨d, rfl⟩ := q_dp hD
  refine e_177 _ _ hl ?_
  have lp : ∀ r w : Nat, r + w = 13 → (∀ u, u < w → ¬ mtw T f t (sL.getD u 0)) → (lm_W (d) 177 5 [some (.ref 92), some (.int (Int32.ofNat f)), some (.int (Int32.ofNat t)), some (.int (Int32.ofNat (w + 1))), some (.int (Int32.ofNat (oL.getD w 0))), none, none, none] [] h (lm_kI K)) := by
    intro r
    induction r with
    | zero =>
      intro w hw13 hu
      have ew : w = 13 := by omega
      refine b_177_5 _ _ _ _ hl ?_
      rw [ew, if_neg (by decide)]
      refine hF (fun s hs m => ?_)
      obtain ⟨u, hu2, eu⟩ := w_inv s hs
      rw [← eu] at m
      exact hu u (by omega) m
    | succ r ih =>
      intro w hw13 hu
      obtain ⟨a1, a2, a3, a4, a5⟩ := w_all w (by omega)
      have a6 := w_byt w (by omega)
      have h8 := sl_8 _ a1
      refine b_177_5 _ _ _ _ hl ?_
      rw [if_pos (by rw [show (64 : Int32) = Int32.ofNat 64 from rfl, q_lt (by omega) (by omega)]; omega)]
      -- the next word
      have nxt : ¬ mtw T f t (sL.getD w 0) → (lm_W (d) 177 5 [some (.ref 92), some (.int (Int32.ofNat f)), some (.int (Int32.ofNat t)), some (.int (Int32.ofNat (w + 1) + 1)), some (.int (Int32.ofNat (oL.getD w 0) + (Int32.ofNat (lm_sb.getD (sL.getD w 0) []).length + 1))), none, none, none] [] h (lm_kI K)) := by
        intro m
        rw [q_a1, q_a1, q_add, ← Nat.add_assoc, ← a3]
        refine ih (w + 1) (by omega) (fun u hu2 => ?_)
        by_cases eu : u = w
        · rw [eu]; exact m
        · exact hu u (by omega)
      -- comparing
      have cmp : ∀ q i : Nat, q + i = (lm_sb.getD (sL.getD w 0) []).length → ∀ v : Int32, (v = 0 ∨ v = 1) → (v = 1 → t - f = (lm_sb.getD (sL.getD w 0) []).length ∧ ∀ j, j < i → Int32.ofNat (T (f + j)) = (lm_sb.getD (sL.getD w 0) []).getD j 0) → (v = 0 → ¬ mtw T f t (sL.getD w 0)) → (lm_W (d) 177 57 [some (.ref 92), some (.int (Int32.ofNat f)), some (.int (Int32.ofNat t)), some (.int (Int32.ofNat (w + 1))), some (.int (Int32.ofNat (oL.getD w 0))), some (.int (Int32.ofNat (lm_sb.getD (sL.getD w 0) []).length)), some (.int v), some (.int (Int32.ofNat i))] [] h (lm_kI K)) := by
        intro q
        induction q with
        | zero =>
          intro i hi v hv hv1 hv0
          refine b_177_57 _ _ _ _ _ _ _ hl ?_
          rw [if_neg (by rw [q_lt (by omega) (by omega)]; omega)]
          by_cases c : v = 0
          · rw [if_pos c]
            exact nxt (hv0 c)
          · rw [if_neg c]
            have c1 : v = 1 := by
              rcases hv with z | z
              · exact absurd z c
              · exact z
            obtain ⟨b1, b2⟩ := hv1 c1
            have := hT _ a1 ⟨b1, fun j hj => b2 j (by omega)⟩
            rw [a2] at this
            exact this
        | succ q ihq =>
          intro i hi v hv hv1 hv0
          refine b_177_57 _ _ _ _ _ _ _ hl ?_
          rw [if_pos (by rw [q_lt (by omega) (by omega)]; omega)]
          by_cases c : v = 0
          · rw [if_pos c, if_pos c]
            exact nxt (hv0 c)
          · have c1 : v = 1 := by
              rcases hv with z | z
              · exact absurd z c
              · exact z
            obtain ⟨b1, b2⟩ := hv1 c1
            rw [if_neg c, q_add, q_add, q_in (by omega) (by omega), q_in (by omega) (by omega), q_nat (by omega), q_nat (by omega), hw _ (by omega), hb _ (by omega) (by omega), (a6 i (by omega)).2, q_a1]
            by_cases c2 : (lm_sb.getD (sL.getD w 0) []).getD i 0 = Int32.ofNat (T (f + i))
            · rw [if_pos c2]
              refine ihq (i + 1) (by omega) 1 (Or.inr rfl) (fun _ => ⟨b1, fun j hj => ?_⟩) (fun z => absurd z (by decide))
              by_cases ej : j = i
              · rw [ej]; exact c2.symm
              · exact b2 j (by omega)
            · rw [if_neg c2]
              exact ihq (i + 1) (by omega) 0 (Or.inl rfl) (fun z => absurd z (by decide)) (fun _ m => c2 (m.2 i (by omega)).symm)
      have cnt : ∀ q i : Nat, q + i = (lm_sb.getD (sL.getD w 0) []).length → (lm_W (d) 177 18 [some (.ref 92), some (.int (Int32.ofNat f)), some (.int (Int32.ofNat t)), some (.int (Int32.ofNat (w + 1))), some (.int (Int32.ofNat (oL.getD w 0))), some (.int (Int32.ofNat i)), none, none] [] h (lm_kI K)) := by
        intro q
        induction q with
        | zero =>
          intro i hi
          have ei : i = (lm_sb.getD (sL.getD w 0) []).length := by omega
          refine b_177_18 _ _ _ _ _ hl ?_
          rw [ei, q_add, q_in (by omega) (by omega), q_nat (by omega), hw _ (by omega), if_pos a5, q_sub hft]
          by_cases c : (lm_sb.getD (sL.getD w 0) []).length = t - f
          · rw [if_pos (by rw [c])]
            exact cmp _ 0 (Nat.add_zero _) 1 (Or.inr rfl) (fun _ => ⟨c.symm, fun j hj => by omega⟩) (fun z => absurd z (by decide))
          · rw [if_neg (by rw [q_eq (by omega) (by omega)]; exact c)]
            exact cmp _ 0 (Nat.add_zero _) 0 (Or.inl rfl) (fun z => absurd z (by decide)) (fun _ m => c m.1.symm)
        | succ q ihq =>
          intro i hi
          refine b_177_18 _ _ _ _ _ hl ?_
          rw [q_add, q_in (by omega) (by omega), q_nat (by omega), hw _ (by omega), if_neg (a6 i (by omega)).1, q_a1]
          exact ihq (i + 1) (by omega)
      exact cnt _ 0 (Nat.add_zero _)
  exact lp 13 0 (by omega) (fun u hu => by omega)
