theorem lm_iN {h : lm_H} {a k b j : Nat} {v X : Int32} (hn : b ≠ a) (hr : lm_i h b j = X) : lm_i (lm_si h a k v) b j = X := by
  rw [← hr]
  show (if b = a then _ else _) = _
  rw [if_neg hn]
  rfl
theorem lm_iM {h : lm_H} {a k j : Nat} {v X : Int32} (hn : j ≠ k) (hr : lm_i h a j = X) : lm_i (lm_si h a k v) a j = X := by
  rw [← hr]
  show (if a = a then (if j = k then _ else _) else _) = _
  rw [if_pos rfl, if_neg hn]
  rfl
theorem lm_iE {h : lm_H} {a k : Nat} {v : Int32} : lm_i (lm_si h a k v) a k = v := by
  show (if a = a then (if k = k then _ else _) else _) = _
  rw [if_pos rfl, if_pos rfl]
theorem lm_lN {h : lm_H} {a k b j : Nat} {v X : Int64} (hn : b ≠ a) (hr : lm_l h b j = X) : lm_l (lm_sl h a k v) b j = X := by
  rw [← hr]
  show (if b = a then _ else _) = _
  rw [if_neg hn]
  rfl
theorem lm_lM {h : lm_H} {a k j : Nat} {v X : Int64} (hn : j ≠ k) (hr : lm_l h a j = X) : lm_l (lm_sl h a k v) a j = X := by
  rw [← hr]
  show (if a = a then (if j = k then _ else _) else _) = _
  rw [if_pos rfl, if_neg hn]
  rfl
theorem lm_lE {h : lm_H} {a k : Nat} {v : Int64} : lm_l (lm_sl h a k v) a k = v := by
  show (if a = a then (if k = k then _ else _) else _) = _
  rw [if_pos rfl, if_pos rfl]
theorem lm_iL {h : lm_H} {a k b j : Nat} {v : Int64} {X : Int32} (hr : lm_i h b j = X) : lm_i (lm_sl h a k v) b j = X := hr
theorem lm_iR {h : lm_H} {a k b j : Nat} {v : Option Nat} {X : Int32} (hr : lm_i h b j = X) : lm_i (lm_sr h a k v) b j = X := hr
theorem lm_lI {h : lm_H} {a k b j : Nat} {v : Int32} {X : Int64} (hr : lm_l h b j = X) : lm_l (lm_si h a k v) b j = X := hr
theorem lm_lR {h : lm_H} {a k b j : Nat} {v : Option Nat} {X : Int64} (hr : lm_l h b j = X) : lm_l (lm_sr h a k v) b j = X := hr
theorem lm_lW {h : lm_H} {a b j : Nat} {r : Nat → Int32} {X : Int64} (hr : lm_l h b j = X) : lm_l (lm_row h a r) b j = X := hr
theorem lm_iW {h : lm_H} {a b j : Nat} {r : Nat → Int32} {X : Int32} (hn : b ≠ a) (hr : lm_i h b j = X) : lm_i (lm_row h a r) b j = X := by
  rw [← hr]
  show (if b = a then _ else _) = _
  rw [if_neg hn]
  rfl
theorem lm_kill_rf {L : lm_L} {k : Nat} {o : Option Nat} (h : L.getD (k - 1) none = some (va_rf o)) : lm_kill L k = L := by
  unfold lm_kill
  by_cases hk : k = 0
  · rw [if_pos hk]
  · rw [if_neg hk, h]
    cases o <;> simp [va_rf, Value.category]
theorem lm_put_rf {L L' : lm_L} {k : Nat} {o : Option Nat} {v : Value} (h : L.getD (k - 1) none = some (va_rf o)) (h2 : L.set k (some v) = L') : lm_put L k v = L' := by
  unfold lm_put
  rw [lm_kill_rf h, h2]
theorem lm_putL_rf {L L' : lm_L} {k : Nat} {o : Option Nat} {v : Value} (h : L.getD (k - 1) none = some (va_rf o)) (h2 : (L.set (k + 1) none).set k (some v) = L') : lm_putL L k v = L' := by
  unfold lm_putL
  rw [lm_kill_rf h, h2]
theorem lm_m1 (x : Int32) : x + Int32.ofInt (-1) = x - 1 := by rw [Int32.sub_eq_add_neg]; rfl
theorem lm_m8 (x : Int32) : x + Int32.ofInt (-8) = x - 8 := by rw [Int32.sub_eq_add_neg]; rfl
theorem ls_swT {x : Int32} {c o : Int} {cs : List (Int × Int)} {dd : Int} {k : Int → Prop} (hv : x = Int32.ofInt c) (ka : k o) : lm_sw x ((c, o) :: cs) dd k := by
  show if x = Int32.ofInt c then _ else _
  rw [if_pos hv]
  exact ka
theorem ls_swF {x : Int32} {c o : Int} {cs : List (Int × Int)} {dd : Int} {k : Int → Prop} (hv : ¬ x = Int32.ofInt c) (kb : lm_sw x cs dd k) : lm_sw x ((c, o) :: cs) dd k := by
  show if x = Int32.ofInt c then _ else _
  rw [if_neg hv]
  exact kb
theorem ls_swD {x : Int32} {dd : Int} {k : Int → Prop} (h : k dd) : lm_sw x [] dd k := h
section LmMore
variable {d M pc : Nat} {L : lm_L} {st : List Value} {h : lm_H} {Q : Option Value → lm_H → Prop}
theorem ls_aloadQ_n {j : Fin 4} {o : Option Nat} (hf : lm_at M pc (.aload_n j) 1) (hL : L.getD j none = some (va_rf o)) (k : lm_W d M (pc + 1) L (va_rf o :: st) h Q) : lm_W d M pc L st h Q := by
  cases o with
  | none => exact ls_aloadN_n hf hL k
  | some x => exact ls_aload_n hf hL k
theorem ls_aloadQ {j : Nat} {o : Option Nat} (hf : lm_at M pc (.aload j) 2) (hL : L.getD j none = some (va_rf o)) (k : lm_W d M (pc + 2) L (va_rf o :: st) h Q) : lm_W d M pc L st h Q := by
  cases o with
  | none => exact ls_aloadN hf hL k
  | some x => exact ls_aload hf hL k
theorem ls_astoreQ_n {j : Fin 4} {o : Option Nat} (L' : lm_L) (hf : lm_at M pc (.astore_n j) 1) (hk : j < L.length) (hL : lm_put L j (va_rf o) = L') (k : lm_W d M (pc + 1) L' st h Q) : lm_W d M pc L (va_rf o :: st) h Q := by
  cases o with
  | none => exact ls_astoreN_n L' hf hk hL k
  | some x => exact ls_astore_n L' hf hk hL k
theorem ls_astoreQ {j : Nat} {o : Option Nat} (L' : lm_L) (hf : lm_at M pc (.astore j) 2) (hk : j < L.length) (hL : lm_put L j (va_rf o) = L') (k : lm_W d M (pc + 2) L' st h Q) : lm_W d M pc L (va_rf o :: st) h Q := by
  cases o with
  | none => exact ls_astoreN L' hf hk hL k
  | some x => exact ls_astore L' hf hk hL k
/-- a LAW out of a row of LAWS -/
theorem ls_aald {a n : Nat} {i : Int32} {A : Prop} (hf : lm_at M pc .aaload 1) (hl : lm_Lay h) (hs : lm_S[a]? = some (5, n)) (hyp : lm_in i n False A) (k : A → lm_W d M (pc + 1) L (va_rf (lm_r h a i.toNatClampNeg) :: st) h Q) : lm_W d M pc L (.int i :: .ref a :: st) h Q := ls_of hf (by
  obtain ⟨hi, hA⟩ := lm_in_F hyp
  have hs2 : lm_sh h a = some (5, n) := by rw [← lm_shS_eq hl]; exact lm_shS_of hs
  show lm_o (lm_sh h a) _ _
  rw [hs2]
  simp [lm_o]
  exact lm_in_of hi (k hA))
theorem ls_aast {a n : Nat} {i : Int32} {o : Option Nat} {A : Prop} (hf : lm_at M pc .aastore 1) (hl : lm_Lay h) (hs : lm_S[a]? = some (5, n)) (hyp : lm_in i n False ((∀ b, o = some b → lm_sh h b = some (0, 2)) ∧ A)) (k : A → lm_W d M (pc + 1) L st (lm_sr h a i.toNatClampNeg o) Q) : lm_W d M pc L (va_rf o :: .int i :: .ref a :: st) h Q := by
  obtain ⟨hi, hb, hA⟩ := lm_in_F hyp
  have hs2 : lm_sh h a = some (5, n) := by rw [← lm_shS_eq hl]; exact lm_shS_of hs
  cases o with
  | none =>
    refine ls_of hf ?_
    simp only [lm_stepK, va_rf, lm_pA, lm_pI, lm_pR]
    rw [hs2]
    simp [lm_o]
    exact lm_in_of hi (k hA)
  | some b =>
    refine ls_of hf ?_
    simp only [lm_stepK, va_rf, lm_pA, lm_pI, lm_pR]
    rw [hs2]
    simp only [lm_o, true_or, if_true]
    refine lm_in_of hi ?_
    rw [hb b rfl]
    simp
    exact k hA
theorem lm_Lay_srL {h : lm_H} (hl : lm_Lay h) {a n : Nat} (hs : lm_S[a]? = some (5, n)) (k : Nat) (v : Option Nat) : lm_Lay (lm_sr h a k v) := lm_Lay_sr hl (lm_Fs_none5 hl (x := (5, n)) (by rw [← lm_shS_eq hl]; exact lm_shS_of hs) rfl)
/-- a field of a LAW: its row of steps -/
theorem ls_getW {j a : Nat} {A : Nat → Prop} (hf : lm_at M pc (.getfield j) 3) (hp : lm_fp M j 2 0 2) (hyp : lm_sh h a = some (0, 2) ∧ ∃ r, lm_r h a 0 = some r ∧ A r) (k : ∀ r, lm_r h a 0 = some r → A r → lm_W d M (pc + 3) L (.ref r :: st) h Q) : lm_W d M pc L (.ref a :: st) h Q := by
  obtain ⟨h1, r, h2, h3⟩ := hyp
  exact ls_getD hf hp h1 h2 (k r h2 h3)
theorem ls_ialdW {a : Nat} {i : Int32} {A : Prop} (hf : lm_at M pc .iaload 1) (hyp : ∃ n, lm_sh h a = some (1, n) ∧ lm_in i n False A) (k : A → lm_W d M (pc + 1) L (.int (lm_i h a i.toNatClampNeg) :: st) h Q) : lm_W d M pc L (.int i :: .ref a :: st) h Q := ls_of hf (by
  obtain ⟨n, hs, hyp⟩ := hyp
  obtain ⟨hi, hA⟩ := lm_in_F hyp
  show lm_o (lm_sh h a) _ _
  rw [hs]
  simp [lm_o]
  exact lm_in_of hi (k hA))
theorem ls_alenW {a : Nat} {A : Nat → Prop} (hf : lm_at M pc .arraylength 1) (hyp : ∃ n, lm_sh h a = some (1, n) ∧ A n) (k : ∀ n, A n → lm_W d M (pc + 1) L (.int (Int32.ofNat n) :: st) h Q) : lm_W d M pc L (.ref a :: st) h Q := ls_of hf (by
  obtain ⟨n, hs, hA⟩ := hyp
  show lm_o (lm_sh h a) _ _
  rw [hs]
  exact k n hA)
/-- an IMAGE's street -/
theorem ls_img {i : Int32} {A B : Prop} (hf : lm_at M pc .aaload 1) (hl : lm_Lay h) (hyp : if i = 0 then A else (if i = 1 then B else False)) (ka : i = 0 → A → lm_W d M (pc + 1) L (.ref 76 :: st) h Q) (kb : i = 1 → B → lm_W d M (pc + 1) L (.ref 84 :: st) h Q) : lm_W d M pc L (.int i :: .ref 9 :: st) h Q := by
  refine ls_if hyp (fun h1 h2 => ?_) (fun _ hyp => ls_if hyp (fun h1 h2 => ?_) (fun _ h2 => h2.elim))
  · refine ls_ofS hl hf ?_
    subst h1
    exact ka rfl h2
  · refine ls_ofS hl hf ?_
    subst h1
    exact kb rfl h2
theorem ls_cpy {j a b na nb : Nat} {n dp sp : Int32} (hf : lm_at M pc (.invokestatic j) 3) (hp : ∃ e, lm_lk lm_pms (lm_own.getD M 0) j = some e ∧ e.1 = 1001) (hl : lm_Lay h) (ha : lm_S[a]? = some (1, na)) (hb : lm_S[b]? = some (1, nb)) (hc : ¬ (sp < 0 ∨ dp < 0 ∨ n < 0 ∨ na < sp.toNatClampNeg + n.toNatClampNeg ∨ nb < dp.toNatClampNeg + n.toNatClampNeg) ∧ (st.map Value.category).sum ≤ 8)
    (k : lm_W d M (pc + 3) L st (lm_row h b (va_cpy (h.2.1 a) (h.2.1 b) sp.toNatClampNeg dp.toNatClampNeg n.toNatClampNeg)) Q) : lm_W d M pc L (.int n :: .int dp :: .ref b :: .int sp :: .ref a :: st) h Q := ls_ofS hl hf (by
  obtain ⟨e, h1, h2⟩ := hp
  show lm_o (lm_lk lm_pms _ j) _ _
  rw [h1]
  show if e.1 = 1001 then _ else _
  rw [if_pos h2]
  show lm_o (lm_shS h a) _ _
  rw [lm_shS_of ha]
  show lm_o (lm_shS h b) _ _
  rw [lm_shS_of hb]
  show if (1 : Nat) = 1 ∧ (1 : Nat) = 1 ∧ _ ∧ _ then _ else _
  rw [if_pos ⟨rfl, rfl, hc.1, hc.2⟩]
  exact k)
end LmMore
