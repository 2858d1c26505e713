/-! Laws: all that is read and asked agrees, by induction over the tokens left. -/
section LawMono
variable {kk nu pl : Nat → Nat} {N M a dp dp' p k q p1 k1 l1 : Nat} {c1 : cD} {d1 : dN}
theorem CF_m (h : CF kk nu pl N M a dp p k q) (hd : dp ≤ dp') : CF kk nu pl N M a dp' p k q := fun D h' K z hD => h D h' K z (by omega)
theorem CO_m (h : CO kk nu pl N M a dp p k p1 k1 l1 c1) (hd : dp ≤ dp') : CO kk nu pl N M a dp' p k p1 k1 l1 c1 := fun D h' K z hD => h D h' K z (by omega)
theorem MF_m (h : MF kk nu pl N M a dp p k q) (hd : dp ≤ dp') : MF kk nu pl N M a dp' p k q := fun D h' K hD => h D h' K (by omega)
theorem MO_m (h : MO kk nu pl N M a dp p k p1 k1) (hd : dp ≤ dp') : MO kk nu pl N M a dp' p k p1 k1 := fun D h' K hD => h D h' K (by omega)
theorem EL_m (h : EL kk nu N M dp p p1 d1) (hd : dp ≤ dp') : EL kk nu N M dp' p p1 d1 := fun D h' K t w hD => h D h' K t w (by omega)
theorem ED_m (h : ED kk nu N M dp p p1) (hd : dp ≤ dp') : ED kk nu N M dp' p p1 := fun D h' K t w lv hD => h D h' K t w lv (by omega)
theorem IL_m (h : IL kk nu N M dp p p1 d1) (hd : dp ≤ dp') : IL kk nu N M dp' p p1 d1 := fun D h' K t w hD => h D h' K t w (by omega)
theorem ID_m (h : ID kk nu N M dp p p1) (hd : dp ≤ dp') : ID kk nu N M dp' p p1 := fun D h' K t w lv hD => h D h' K t w lv (by omega)
end LawMono
section LawAll
variable (kk nu pl : Nat → Nat) (N : Nat)
def GS (M1 M2 M3 r a p k : Nat) : Prop := (∃ q, q ≤ N ∧ CF kk nu pl N M1 a (16 * (9 - a) + r) p k q ∧ MF kk nu pl N M2 a (16 * (9 - a) + r) p k q) ∨
  ∃ (p1 k1 l : Nat) (co : cD) (den : dN), (p < p1 ∧ p1 ≤ N ∧ k1 ≤ 50 ∧ p + l ≤ p1 ∧ 1 ≤ l) ∧ CO kk nu pl N M1 a (16 * (9 - a) + r) p k p1 k1 l co ∧ MO kk nu pl N M2 a (16 * (9 - a) + r) p k p1 k1 ∧ JS l co den ∧ (∀ w v, den w = some v → bB v) ∧ EL kk nu N M3 (16 * (9 - a) + r) p p1 den ∧ ED kk nu N M3 (16 * (9 - a) + r) p p1
def GSt (M1 M2 M3 r a p k : Nat) : Prop := (∃ q, q ≤ N ∧ CFt kk nu pl N M1 a (16 * (9 - a) + r) p k q ∧ MFt kk nu pl N M2 a (16 * (9 - a) + r) p k q) ∨
  ∃ (p1 k1 l : Nat) (co : cD) (dt : Int → dN), (p ≤ p1 ∧ p1 ≤ N ∧ k1 ≤ 50 ∧ p + l ≤ p1) ∧ COt kk nu pl N M1 a (16 * (9 - a) + r) p k p1 k1 l co ∧ MOt kk nu pl N M2 a (16 * (9 - a) + r) p k p1 k1 ∧ JT l co dt ∧ (∀ a w v, bB a → dt a w = some v → bB v) ∧ ELt kk nu N M3 (16 * (9 - a) + r) p p1 dt ∧ EDt kk nu N M3 (16 * (9 - a) + r) p p1
def GT (M1 M2 M3 r a p k : Nat) : Prop := (∃ q, q ≤ N ∧ CF kk nu pl N M1 a (16 * (9 - a) + r) p k q ∧ MF kk nu pl N M2 a (16 * (9 - a) + r) p k q) ∨
  ∃ (p1 k1 l : Nat) (co : cD) (den : dN), (p < p1 ∧ p1 ≤ N ∧ k1 ≤ 50 ∧ p + l ≤ p1 ∧ 1 ≤ l) ∧ CO kk nu pl N M1 a (16 * (9 - a) + r) p k p1 k1 l co ∧ MO kk nu pl N M2 a (16 * (9 - a) + r) p k p1 k1 ∧ JS l co den ∧ (∀ w v, den w = some v → bB v) ∧ IL kk nu N M3 (16 * (9 - a) + r) p p1 den ∧ ID kk nu N M3 (16 * (9 - a) + r) p p1
def GTt (M1 M2 M3 r a p k : Nat) : Prop := (∃ q, q ≤ N ∧ CFt kk nu pl N M1 a (16 * (9 - a) + r) p k q ∧ MFt kk nu pl N M2 a (16 * (9 - a) + r) p k q) ∨
  ∃ (p1 k1 l : Nat) (co : cD) (dt : Int → dN), (p ≤ p1 ∧ p1 ≤ N ∧ k1 ≤ 50 ∧ p + l ≤ p1) ∧ COt kk nu pl N M1 a (16 * (9 - a) + r) p k p1 k1 l co ∧ MOt kk nu pl N M2 a (16 * (9 - a) + r) p k p1 k1 ∧ JT l co dt ∧ (∀ a w v, bB a → dt a w = some v → bB v) ∧ ILt kk nu N M3 (16 * (9 - a) + r) p p1 dt ∧ IDt kk nu N M3 (16 * (9 - a) + r) p p1
/-- plain, behind o times not -/
def GP (a p k o : Nat) : Prop := (∃ q, q ≤ N ∧ CFp kk nu pl N a (16 * (9 - a) + 9) p k o q ∧ MFp kk nu pl N a (16 * (9 - a) + 9) p k q) ∨
  ∃ (p1 k1 l : Nat) (co : cD) (den : dN), (p < p1 ∧ p1 ≤ N ∧ k1 ≤ 50 ∧ p + l ≤ p1 + o ∧ 1 ≤ l) ∧ COp kk nu pl N a (16 * (9 - a) + 9) p k o p1 k1 l co ∧ MOp kk nu pl N a (16 * (9 - a) + 9) p k p1 k1 ∧ JS l co den ∧ (∀ w v, den w = some v → bB v) ∧ ILp kk nu N (16 * (9 - a) + 9) p p1 o den ∧ IDp kk nu N (16 * (9 - a) + 9) p p1
end LawAll
section LawSteps
variable {kk nu pl : Nat → Nat} {N a p k : Nat}
theorem bind_b {d1 : dN} {dt : Int → dN} (hb : ∀ w v, d1 w = some v → bB v) (h2 : ∀ a w v, bB a → dt a w = some v → bB v) : ∀ w v, (d1 w).bind (fun a => dt a w) = some v → bB v := by
  intro w v h
  cases e : d1 w with
  | none => rw [e] at h; cases h
  | some b => rw [e] at h; exact h2 b w v (hb w b e) h
theorem op_b {d1 : dN} {s : Nat} {dt : Int → dN} (h2 : ∀ a w v, bB a → dt a w = some v → bB v) : ∀ (a : Int) w v, bB a → (d1 w).bind (fun b => (fO s a b).bind (fun v => dt v w)) = some v → bB v := by
  intro a w v ha h
  cases e : d1 w with
  | none => rw [e] at h; cases h
  | some b =>
    rw [e] at h
    have h : (fO s a b).bind (fun v => dt v w) = some v := h
    cases e2 : fO s a b with
    | none => rw [e2] at h; cases h
    | some u => rw [e2] at h; exact h2 u w v (fO_b e2) h
theorem A_46 (ht : tks kk nu pl N) (hp : p ≤ N) (hk : k ≤ 50) (ha : a ≤ 8) (ih1 : p < N → GS kk nu pl N 47 191 201 6 a (p + 1) k) (ih2 : ∀ p' k', p < p' → p' ≤ N → k' ≤ 50 → GSt kk nu pl N 46 190 200 6 a p' k') : GSt kk nu pl N 46 190 200 6 a p k := by
  by_cases c0 : kk p = 42
  · have hpN : p < N := kk_lt ht hp (by omega)
    rcases ih1 hpN with ⟨q, hq, f1, f2⟩ | ⟨p1, k1, l1, co1, d1, ⟨n1, n2, n3, n4, n5⟩, j2, j3, j4, j5, j6, j7⟩
    · exact Or.inl ⟨q, hq, T_f1_46_42 ht hpN (by omega) c0 f1, U_f1_190_42 ht hpN hq (by omega) c0 f2⟩
    rcases ih2 p1 k1 (by omega) n2 n3 with ⟨q, hq, f1, f2⟩ | ⟨p2, k2, l2, co2, dt, ⟨m1, m2, m3, m4⟩, i2, i3, i4, i5, i6, i7⟩
    · exact Or.inl ⟨q, hq, T_f2_46_42 ht hpN (by omega) c0 j2 n4 n2 f1, U_f2_190_42 ht hpN (by omega) c0 j3 f2⟩
    · refine Or.inr ⟨p2, k2, _, _, _, ⟨by omega, m2, m3, ?_⟩, T_o_46_42 ht hpN (by omega) c0 j2 n4 n2 i2, U_o_190_42 ht hpN (by omega) c0 j3 i3, JT_op j4 j5 (by omega) i4, op_b i5, E_oL_200_42 ht hpN (by omega) c0 j6 j5 i6 i7, E_oD_200_42 ht hpN (by omega) c0 j7 i7⟩
      omega
  by_cases c1 : kk p = 47
  · have hpN : p < N := kk_lt ht hp (by omega)
    rcases ih1 hpN with ⟨q, hq, f1, f2⟩ | ⟨p1, k1, l1, co1, d1, ⟨n1, n2, n3, n4, n5⟩, j2, j3, j4, j5, j6, j7⟩
    · exact Or.inl ⟨q, hq, T_f1_46_47 ht hpN (by omega) c1 f1, U_f1_190_47 ht hpN hq (by omega) c1 f2⟩
    rcases ih2 p1 k1 (by omega) n2 n3 with ⟨q, hq, f1, f2⟩ | ⟨p2, k2, l2, co2, dt, ⟨m1, m2, m3, m4⟩, i2, i3, i4, i5, i6, i7⟩
    · exact Or.inl ⟨q, hq, T_f2_46_47 ht hpN (by omega) c1 j2 n4 n2 f1, U_f2_190_47 ht hpN (by omega) c1 j3 f2⟩
    · refine Or.inr ⟨p2, k2, _, _, _, ⟨by omega, m2, m3, ?_⟩, T_o_46_47 ht hpN (by omega) c1 j2 n4 n2 i2, U_o_190_47 ht hpN (by omega) c1 j3 i3, JT_op j4 j5 (by omega) i4, op_b i5, E_oL_200_47 ht hpN (by omega) c1 j6 j5 i6 i7, E_oD_200_47 ht hpN (by omega) c1 j7 i7⟩
      omega
  exact Or.inr ⟨p, k, 0, fun _ _ => 0, _, ⟨Nat.le_refl _, hp, hk, by omega⟩, T_nil_46 ht hp c0 c1 (by omega), U_nil_190 ht hp c0 c1 (by omega), JT_nil _, fun a w v hab h => by cases h; exact hab, E_nL_200 ht hp (by omega) c0 c1, E_nD_200 ht hp (by omega) c0 c1⟩
theorem A_45 (ht : tks kk nu pl N) (hp : p ≤ N) (hk : k ≤ 50) (ha : a ≤ 8) (ih1 : p < N → GS kk nu pl N 46 190 200 7 a (p + 1) k) (ih2 : ∀ p' k', p < p' → p' ≤ N → k' ≤ 50 → GSt kk nu pl N 45 189 199 7 a p' k') : GSt kk nu pl N 45 189 199 7 a p k := by
  by_cases c0 : kk p = 43
  · have hpN : p < N := kk_lt ht hp (by omega)
    rcases ih1 hpN with ⟨q, hq, f1, f2⟩ | ⟨p1, k1, l1, co1, d1, ⟨n1, n2, n3, n4, n5⟩, j2, j3, j4, j5, j6, j7⟩
    · exact Or.inl ⟨q, hq, T_f1_45_43 ht hpN (by omega) c0 f1, U_f1_189_43 ht hpN hq (by omega) c0 f2⟩
    rcases ih2 p1 k1 (by omega) n2 n3 with ⟨q, hq, f1, f2⟩ | ⟨p2, k2, l2, co2, dt, ⟨m1, m2, m3, m4⟩, i2, i3, i4, i5, i6, i7⟩
    · exact Or.inl ⟨q, hq, T_f2_45_43 ht hpN (by omega) c0 j2 n4 n2 f1, U_f2_189_43 ht hpN (by omega) c0 j3 f2⟩
    · refine Or.inr ⟨p2, k2, _, _, _, ⟨by omega, m2, m3, ?_⟩, T_o_45_43 ht hpN (by omega) c0 j2 n4 n2 i2, U_o_189_43 ht hpN (by omega) c0 j3 i3, JT_op j4 j5 (by omega) i4, op_b i5, E_oL_199_43 ht hpN (by omega) c0 j6 j5 i6 i7, E_oD_199_43 ht hpN (by omega) c0 j7 i7⟩
      omega
  by_cases c1 : kk p = 45
  · have hpN : p < N := kk_lt ht hp (by omega)
    rcases ih1 hpN with ⟨q, hq, f1, f2⟩ | ⟨p1, k1, l1, co1, d1, ⟨n1, n2, n3, n4, n5⟩, j2, j3, j4, j5, j6, j7⟩
    · exact Or.inl ⟨q, hq, T_f1_45_45 ht hpN (by omega) c1 f1, U_f1_189_45 ht hpN hq (by omega) c1 f2⟩
    rcases ih2 p1 k1 (by omega) n2 n3 with ⟨q, hq, f1, f2⟩ | ⟨p2, k2, l2, co2, dt, ⟨m1, m2, m3, m4⟩, i2, i3, i4, i5, i6, i7⟩
    · exact Or.inl ⟨q, hq, T_f2_45_45 ht hpN (by omega) c1 j2 n4 n2 f1, U_f2_189_45 ht hpN (by omega) c1 j3 f2⟩
    · refine Or.inr ⟨p2, k2, _, _, _, ⟨by omega, m2, m3, ?_⟩, T_o_45_45 ht hpN (by omega) c1 j2 n4 n2 i2, U_o_189_45 ht hpN (by omega) c1 j3 i3, JT_op j4 j5 (by omega) i4, op_b i5, E_oL_199_45 ht hpN (by omega) c1 j6 j5 i6 i7, E_oD_199_45 ht hpN (by omega) c1 j7 i7⟩
      omega
  exact Or.inr ⟨p, k, 0, fun _ _ => 0, _, ⟨Nat.le_refl _, hp, hk, by omega⟩, T_nil_45 ht hp c0 c1 (by omega), U_nil_189 ht hp c0 c1 (by omega), JT_nil _, fun a w v hab h => by cases h; exact hab, E_nL_199 ht hp (by omega) c0 c1, E_nD_199 ht hp (by omega) c0 c1⟩
theorem A_39 (ht : tks kk nu pl N) (hp : p ≤ N) (hk : k ≤ 50) (ha : a ≤ 8) (ih1 : p < N → GT kk nu pl N 40 188 204 10 a (p + 1) k) (ih2 : ∀ p' k', p < p' → p' ≤ N → k' ≤ 50 → GTt kk nu pl N 39 187 203 10 a p' k') : GTt kk nu pl N 39 187 203 10 a p k := by
  by_cases c0 : kk p = 261
  · have hpN : p < N := kk_lt ht hp (by omega)
    rcases ih1 hpN with ⟨q, hq, f1, f2⟩ | ⟨p1, k1, l1, co1, d1, ⟨n1, n2, n3, n4, n5⟩, j2, j3, j4, j5, j6, j7⟩
    · exact Or.inl ⟨q, hq, T_f1_39_261 ht hpN (by omega) c0 f1, U_f1_187_261 ht hpN hq (by omega) c0 f2⟩
    rcases ih2 p1 k1 (by omega) n2 n3 with ⟨q, hq, f1, f2⟩ | ⟨p2, k2, l2, co2, dt, ⟨m1, m2, m3, m4⟩, i2, i3, i4, i5, i6, i7⟩
    · exact Or.inl ⟨q, hq, T_f2_39_261 ht hpN (by omega) c0 j2 n4 n2 f1, U_f2_187_261 ht hpN (by omega) c0 j3 f2⟩
    · refine Or.inr ⟨p2, k2, _, _, _, ⟨by omega, m2, m3, ?_⟩, T_o_39_261 ht hpN (by omega) c0 j2 n4 n2 i2, U_o_187_261 ht hpN (by omega) c0 j3 i3, JT_and j4 (by omega) j5 i4, fun a w v hab h => by
        by_cases z : a = 0
        · rw [if_pos z] at h; exact i5 a w v hab h
        · rw [if_neg z] at h; exact bind_b j5 i5 w v h, I_oL_203 ht hpN (by omega) c0 j6 j7 i6 i7, I_oD_203 ht hpN (by omega) c0 j7 i7⟩
      omega
  exact Or.inr ⟨p, k, 0, fun _ _ => 0, _, ⟨Nat.le_refl _, hp, hk, by omega⟩, T_nil_39 ht hp c0 (by omega), U_nil_187 ht hp c0 (by omega), JT_nil _, fun a w v hab h => by cases h; exact hab, I_nL_203 ht hp (by omega) c0, I_nD_203 ht hp (by omega) c0⟩
theorem A_38 (ht : tks kk nu pl N) (hp : p ≤ N) (hk : k ≤ 50) (ha : a ≤ 8) (ih1 : p < N → GT kk nu pl N 39 187 203 11 a (p + 1) k) (ih2 : ∀ p' k', p < p' → p' ≤ N → k' ≤ 50 → GTt kk nu pl N 38 186 202 11 a p' k') : GTt kk nu pl N 38 186 202 11 a p k := by
  by_cases c0 : kk p = 260
  · have hpN : p < N := kk_lt ht hp (by omega)
    rcases ih1 hpN with ⟨q, hq, f1, f2⟩ | ⟨p1, k1, l1, co1, d1, ⟨n1, n2, n3, n4, n5⟩, j2, j3, j4, j5, j6, j7⟩
    · exact Or.inl ⟨q, hq, T_f1_38_260 ht hpN (by omega) c0 f1, U_f1_186_260 ht hpN hq (by omega) c0 f2⟩
    rcases ih2 p1 k1 (by omega) n2 n3 with ⟨q, hq, f1, f2⟩ | ⟨p2, k2, l2, co2, dt, ⟨m1, m2, m3, m4⟩, i2, i3, i4, i5, i6, i7⟩
    · exact Or.inl ⟨q, hq, T_f2_38_260 ht hpN (by omega) c0 j2 n4 n2 f1, U_f2_186_260 ht hpN (by omega) c0 j3 f2⟩
    · refine Or.inr ⟨p2, k2, _, _, _, ⟨by omega, m2, m3, ?_⟩, T_o_38_260 ht hpN (by omega) c0 j2 n4 n2 i2, U_o_186_260 ht hpN (by omega) c0 j3 i3, JT_or j4 (by omega) j5 i4, fun a w v hab h => by
        by_cases z : a = 0
        · rw [if_pos z] at h; exact bind_b j5 i5 w v h
        · rw [if_neg z] at h; exact i5 a w v hab h, I_oL_202 ht hpN (by omega) c0 j6 j7 i6 i7, I_oD_202 ht hpN (by omega) c0 j7 i7⟩
      omega
  exact Or.inr ⟨p, k, 0, fun _ _ => 0, _, ⟨Nat.le_refl _, hp, hk, by omega⟩, T_nil_38 ht hp c0 (by omega), U_nil_186 ht hp c0 (by omega), JT_nil _, fun a w v hab h => by cases h; exact hab, I_nL_202 ht hp (by omega) c0, I_nD_202 ht hp (by omega) c0⟩
theorem B_46 (ht : tks kk nu pl N) (hp : p ≤ N) (ha : a ≤ 8) (h1 : GS kk nu pl N 47 191 201 6 a p k) (ih2 : ∀ p' k', p < p' → p' ≤ N → k' ≤ 50 → GSt kk nu pl N 46 190 200 6 a p' k') : GS kk nu pl N 46 190 200 (6 + 1) a p k := by
  rcases h1 with ⟨q, hq, f1, f2⟩ | ⟨p1, k1, l1, co1, d1, ⟨n1, n2, n3, n4, n5⟩, j2, j3, j4, j5, j6, j7⟩
  · exact Or.inl ⟨q, hq, C_s1_46 f1, M_s1_190 ht hq (by omega) f2⟩
  rcases ih2 p1 k1 n1 n2 n3 with ⟨q, hq, f1, f2⟩ | ⟨p2, k2, l2, co2, dt, ⟨m1, m2, m3, m4⟩, i2, i3, i4, i5, i6, i7⟩
  · exact Or.inl ⟨q, hq, C_s2_46 j2 n4 f1, M_s2_190 (by omega) j3 f2⟩
  · exact Or.inr ⟨p2, k2, _, _, _, ⟨by omega, m2, m3, by omega, by omega⟩, C_so_46 j2 n4 i2, M_so_190 (by omega) j3 i3, JS_seq j4 n5 j5 i4, bind_b j5 i5, E_sL_200 (by omega) j6 j5 i6 i7, E_sD_200 (by omega) j7 i7⟩
theorem B_45 (ht : tks kk nu pl N) (hp : p ≤ N) (ha : a ≤ 8) (h1 : GS kk nu pl N 46 190 200 7 a p k) (ih2 : ∀ p' k', p < p' → p' ≤ N → k' ≤ 50 → GSt kk nu pl N 45 189 199 7 a p' k') : GS kk nu pl N 45 189 199 (7 + 1) a p k := by
  rcases h1 with ⟨q, hq, f1, f2⟩ | ⟨p1, k1, l1, co1, d1, ⟨n1, n2, n3, n4, n5⟩, j2, j3, j4, j5, j6, j7⟩
  · exact Or.inl ⟨q, hq, C_s1_45 f1, M_s1_189 ht hq (by omega) f2⟩
  rcases ih2 p1 k1 n1 n2 n3 with ⟨q, hq, f1, f2⟩ | ⟨p2, k2, l2, co2, dt, ⟨m1, m2, m3, m4⟩, i2, i3, i4, i5, i6, i7⟩
  · exact Or.inl ⟨q, hq, C_s2_45 j2 n4 f1, M_s2_189 (by omega) j3 f2⟩
  · exact Or.inr ⟨p2, k2, _, _, _, ⟨by omega, m2, m3, by omega, by omega⟩, C_so_45 j2 n4 i2, M_so_189 (by omega) j3 i3, JS_seq j4 n5 j5 i4, bind_b j5 i5, E_sL_199 (by omega) j6 j5 i6 i7, E_sD_199 (by omega) j7 i7⟩
theorem B_39 (ht : tks kk nu pl N) (hp : p ≤ N) (ha : a ≤ 8) (h1 : GT kk nu pl N 40 188 204 10 a p k) (ih2 : ∀ p' k', p < p' → p' ≤ N → k' ≤ 50 → GTt kk nu pl N 39 187 203 10 a p' k') : GT kk nu pl N 39 187 203 (10 + 1) a p k := by
  rcases h1 with ⟨q, hq, f1, f2⟩ | ⟨p1, k1, l1, co1, d1, ⟨n1, n2, n3, n4, n5⟩, j2, j3, j4, j5, j6, j7⟩
  · exact Or.inl ⟨q, hq, C_s1_39 f1, M_s1_187 ht hq (by omega) f2⟩
  rcases ih2 p1 k1 n1 n2 n3 with ⟨q, hq, f1, f2⟩ | ⟨p2, k2, l2, co2, dt, ⟨m1, m2, m3, m4⟩, i2, i3, i4, i5, i6, i7⟩
  · exact Or.inl ⟨q, hq, C_s2_39 j2 n4 f1, M_s2_187 (by omega) j3 f2⟩
  · exact Or.inr ⟨p2, k2, _, _, _, ⟨by omega, m2, m3, by omega, by omega⟩, C_so_39 j2 n4 i2, M_so_187 (by omega) j3 i3, JS_seq j4 n5 j5 i4, bind_b j5 i5, I_sL_203 (by omega) j6 i6 i7, I_sD_203 (by omega) j7 i7⟩
theorem B_38 (ht : tks kk nu pl N) (hp : p ≤ N) (ha : a ≤ 8) (h1 : GT kk nu pl N 39 187 203 11 a p k) (ih2 : ∀ p' k', p < p' → p' ≤ N → k' ≤ 50 → GTt kk nu pl N 38 186 202 11 a p' k') : GT kk nu pl N 38 186 202 (11 + 1) a p k := by
  rcases h1 with ⟨q, hq, f1, f2⟩ | ⟨p1, k1, l1, co1, d1, ⟨n1, n2, n3, n4, n5⟩, j2, j3, j4, j5, j6, j7⟩
  · exact Or.inl ⟨q, hq, C_s1_38 f1, M_s1_186 ht hq (by omega) f2⟩
  rcases ih2 p1 k1 n1 n2 n3 with ⟨q, hq, f1, f2⟩ | ⟨p2, k2, l2, co2, dt, ⟨m1, m2, m3, m4⟩, i2, i3, i4, i5, i6, i7⟩
  · exact Or.inl ⟨q, hq, C_s2_38 j2 n4 f1, M_s2_186 (by omega) j3 f2⟩
  · exact Or.inr ⟨p2, k2, _, _, _, ⟨by omega, m2, m3, by omega, by omega⟩, C_so_38 j2 n4 i2, M_so_186 (by omega) j3 i3, JS_seq j4 n5 j5 i4, bind_b j5 i5, I_sL_202 (by omega) j6 i6 i7, I_sD_202 (by omega) j7 i7⟩
theorem JS_part (hc : 265 ≤ kk p ∨ (kk p = 257 ∧ nu p ≤ 1000)) (hk : kk p < 272) : JS 1 (fun _ _ => pS kk nu p) (pD kk nu p) := by
  by_cases c : kk p = 257
  · have e1 : pS kk nu p = st 0 (nu p) := by rw [pS, if_pos c]
    have e2 : pD kk nu p = fun w => some (if (0 : Nat) = 0 then (nu p : Int) else (w (nu p)).toInt) := by
      funext w
      rw [pD, if_pos c, if_pos rfl]
    rw [e1, e2]
    exact JS_leaf (Or.inl ⟨rfl, by omega⟩)
  · have e1 : pS kk nu p = st 1 (kk p - 265) := by rw [pS, if_neg c]
    have e2 : pD kk nu p = fun w => some (if (1 : Nat) = 0 then ((kk p - 265 : Nat) : Int) else (w (kk p - 265)).toInt) := by
      funext w
      rw [pD, if_neg c, if_neg (by decide)]
    rw [e1, e2]
    exact JS_leaf (Or.inr ⟨rfl, by omega⟩)
theorem pD_b (hn : nu p ≤ 1001) : ∀ w v, pD kk nu p w = some v → bB v := by
  intro w v h
  unfold pD at h
  cases h
  split
  · unfold bB; omega
  · exact bB_i _
theorem A_part (ht : tks kk nu pl N) (hp : p ≤ N) (hk : k ≤ 50) (ha : a ≤ 8) (ih : a < 8 → p < N → GS kk nu pl N 45 189 199 8 (a + 1) (p + 1) k) : GS kk nu pl N 47 191 201 6 a p k := by
  have hkk := (ht.2.1 p hp).1
  have hnu := ht.2.2.2 p hp
  by_cases c1 : kk p = 91
  · by_cases c2 : a = 8
    · exact Or.inl ⟨p, hp, P_f ht hp (by omega) ha hk (Or.inl ⟨c1, c2⟩), V_f ht hp (by omega) ha hk (Or.inl ⟨c1, c2⟩)⟩
    have hpN : p < N := kk_lt ht hp (by omega)
    rcases ih (by omega) hpN with ⟨q, hq, f1, f2⟩ | ⟨p1, k1, l1, co1, d1, ⟨n1, n2, n3, n4, n5⟩, j2, j3, j4, j5, j6, j7⟩
    · exact Or.inl ⟨q, hq, CF_m (B_f1 ht hpN (by omega) (by omega) c1 f1) (by omega), MF_m (W_f1 ht hpN hq (by omega) (by omega) c1 f2) (by omega)⟩
    by_cases c3 : kk p1 = 93
    · have hp1 : p1 < N := kk_lt ht n2 (by omega)
      exact Or.inr ⟨p1 + 1, k1, l1, co1, d1, ⟨by omega, by omega, n3, by omega, n5⟩, CO_m (B_o ht hpN (by omega) (by omega) c1 j2 n4 n2 c3) (by omega), MO_m (W_o ht hpN n2 (by omega) (by omega) c1 j3 c3) (by omega), j4, j5, EL_m (E_bL ht hpN n2 (by omega) c1 j6) (by omega), ED_m (E_bD ht hpN n2 (by omega) c1 j7) (by omega)⟩
    · exact Or.inl ⟨p1, n2, CF_m (B_f2 ht hpN (by omega) (by omega) c1 j2 n4 n2 c3) (by omega), MF_m (W_f2 ht hpN n2 (by omega) (by omega) c1 j3 c3) (by omega)⟩
  · by_cases c2 : k < 50 ∧ (265 ≤ kk p ∨ (kk p = 257 ∧ nu p ≤ 1000))
    · have hpN : p < N := kk_lt ht hp (by omega)
      exact Or.inr ⟨p + 1, k + 1, 1, _, pD kk nu p, ⟨by omega, by omega, by omega, by omega, by omega⟩, P_o ht hp (by omega) c2.1 c2.2, V_o ht hp (by omega) c2.1 c2.2, JS_part c2.2 hkk, pD_b hnu, E_pL ht hpN (by omega) c2.2, E_pD ht hpN (by omega) c1⟩
    · have c3 : k = 50 ∨ (kk p < 265 ∧ (¬ kk p = 257 ∨ 1000 < nu p)) := by
        by_cases z : k = 50
        · exact Or.inl z
        · refine Or.inr ⟨?_, ?_⟩
          · by_cases z2 : 265 ≤ kk p
            · exact absurd ⟨by omega, Or.inl z2⟩ c2
            · omega
          · by_cases z3 : kk p = 257
            · by_cases z4 : nu p ≤ 1000
              · exact absurd ⟨by omega, Or.inr ⟨z3, z4⟩⟩ c2
              · exact Or.inr (by omega)
            · exact Or.inl z3
      exact Or.inl ⟨p, hp, P_f ht hp (by omega) ha hk (Or.inr ⟨c1, c3⟩), V_f ht hp (by omega) ha hk (Or.inr ⟨c1, c3⟩)⟩
theorem not_b {d1 : dN} : ∀ w v, (d1 w).bind (fun a => some (if a = 0 then (1 : Int) else 0)) = some v → bB v := by
  intro w v h
  cases e : d1 w with
  | none => rw [e] at h; cases h
  | some b =>
    rw [e] at h
    cases h
    unfold bB
    split <;> omega
theorem cS_r (c : Nat) : 2 ≤ cS c ∧ cS c ≤ 8 := by
  unfold cS
  split
  · omega
  · split <;> omega
/-- a plain test, from what stands behind not .. -/
theorem A_plain {o : Nat} (ht : tks kk nu pl N) (hp : p ≤ N) (hk : k ≤ 50) (ha : a ≤ 8) (ho : o ≤ 1) (ihn : p < N → GP kk nu pl N a (p + 1) k (1 - o)) (iht : a < 8 → p < N → GT kk nu pl N 38 186 202 12 (a + 1) (p + 1) k) (hs : GS kk nu pl N 45 189 199 8 a p k) (ihs : ∀ p' k', p < p' → p' ≤ N → k' ≤ 50 → GS kk nu pl N 45 189 199 8 a p' k') : GP kk nu pl N a p k o := by
  by_cases c1 : kk p = 262
  · have hpN : p < N := kk_lt ht hp (by omega)
    rcases ihn hpN with ⟨q, hq, f1, f2⟩ | ⟨p1, k1, l1, co1, d1, ⟨n1, n2, n3, n4, n5⟩, j2, j3, j4, j5, j6, j7⟩
    · exact Or.inl ⟨q, hq, N_f ht hpN (by omega) c1 ho f1, Y_n_f ht hpN (by omega) c1 f2⟩
    · exact Or.inr ⟨p1, k1, l1, co1, d1, ⟨by omega, n2, n3, by omega, n5⟩, N_o ht hpN (by omega) c1 ho j2, Y_n_o ht hpN (by omega) c1 j3, j4, j5, I_pN ht hpN (by omega) c1 ho j6, I_pND ht hpN (by omega) c1 j7⟩
  by_cases c2 : kk p = 40
  · have hpN : p < N := kk_lt ht hp (by omega)
    by_cases c3 : a = 8
    · exact Or.inl ⟨p, hp, N_f_b ht hp (by omega) c1 c2 ho (R_f0 (dp := 16 * (9 - a) + 8) ht hp (by omega) c3), Y_b_f0 ht hp (by omega) c3 c1 c2⟩
    rcases iht (by omega) hpN with ⟨q, hq, f1, f2⟩ | ⟨p1, k1, l1, co1, d1, ⟨n1, n2, n3, n4, n5⟩, j2, j3, j4, j5, j6, j7⟩
    · exact Or.inl ⟨q, hq, N_f_b ht hp (by omega) c1 c2 ho (CF_m (R_f1 ht hpN (by omega) (by omega) f1) (by omega)), Y_b_f1 ht hp hq (by omega) (by omega) c1 c2 (MF_m f2 (by omega))⟩
    by_cases c4 : kk p1 = 41
    · have hp1 : p1 < N := kk_lt ht n2 (by omega)
      have r1 := CO_m (dp' := 16 * (9 - a) + 9) (R_o ht hpN (by omega) (by omega) j2 n4 n2 c4) (by omega)
      have r2 := Y_b_o ht hp n2 (by omega) (by omega) c1 c2 (MO_m (dp' := 16 * (9 - a) + 9) j3 (by omega)) c4
      have r3 := IL_m (dp' := 16 * (9 - a) + 9) (I_bL ht hpN n2 (by omega) c2 j6) (by omega)
      have r4 := I_pD ht hp (by omega) c1 (ID_m (dp' := 16 * (9 - a) + 9) (I_bD ht hpN n2 (by omega) c2 j7) (by omega))
      have ho' : o = 0 ∨ o = 1 := by omega
      rcases ho' with rfl | rfl
      · exact Or.inr ⟨p1 + 1, k1, l1, co1, d1, ⟨by omega, by omega, n3, by omega, n5⟩, N_o0_b ht hp (by omega) c1 c2 r1, r2, j4, j5, I_p0 ht hp (by omega) c1 r3, r4⟩
      · exact Or.inr ⟨p1 + 1, k1, _, _, _, ⟨by omega, by omega, n3, by omega, by omega⟩, N_o1_b ht hp (by omega) c1 c2 r1 (by omega) (by omega), r2, JS_seq j4 n5 j5 JT_not, not_b, I_p1 ht hp (by omega) c1 r3, r4⟩
    · exact Or.inl ⟨p1, n2, N_f_b ht hp (by omega) c1 c2 ho (CF_m (R_f2 ht hpN (by omega) (by omega) j2 n4 n2 c4) (by omega)), Y_b_f2 ht hp n2 (by omega) (by omega) c1 c2 (MO_m j3 (by omega)) c4⟩
  rcases hs with ⟨q, hq, f1, f2⟩ | ⟨p1, k1, l1, co1, d1, ⟨n1, n2, n3, n4, n5⟩, j2, j3, j4, j5, j6, j7⟩
  · exact Or.inl ⟨q, hq, N_f_q ht hp (by omega) c1 c2 ho (Q_f1 (by omega) f1), Y_q_f1 ht hp hq (by omega) c1 c2 (MF_m f2 (by omega))⟩
  by_cases c3 : kk p1 = 60 ∨ kk p1 = 61 ∨ kk p1 = 62
  · have hp1 : p1 < N := kk_lt ht n2 (by omega)
    rcases ihs (p1 + 1) k1 (by omega) (by omega) n3 with ⟨q, hq, f1, f2⟩ | ⟨p2, k2, l2, co2, d2, ⟨m1, m2, m3, m4, m5⟩, i2, i3, i4, i5, i6, i7⟩
    · exact Or.inl ⟨q, hq, N_f_q ht hp (by omega) c1 c2 ho (Q_f3 ht (by omega) j2 n4 n2 c3 f1), Y_q_f3 ht hp n2 (by omega) c1 c2 (MO_m j3 (by omega)) c3 (MF_m f2 (by omega))⟩
    · have r1 := Q_o ht (by omega) j2 n4 n2 c3 i2 m4 m2
      have r2 := Y_q_o ht hp n2 (by omega) c1 c2 (MO_m (dp' := 16 * (9 - a) + 9) j3 (by omega)) c3 (MO_m (dp' := 16 * (9 - a) + 9) i3 (by omega))
      have r3 := I_qL ht hp hp1 (by omega) c2 j6 j5 c3 i6 i5 i7
      have r4 := I_pD ht hp (by omega) c1 (I_qD ht hp hp1 (by omega) c2 j7 i7)
      have jj : JS (l1 + (l2 + (1 + 0))) (cc1 l1 co1 (cc1 l2 co2 (cc1 1 (fun _ _ => st (cS (kk p1)) 0) co2))) (fun w => (d1 w).bind (fun a => (d2 w).bind (fun b => (fO (cS (kk p1)) a b).bind (fun v => some v)))) := JS_seq j4 n5 j5 (JT_op i4 i5 (cS_r _) (JT_nil co2))
      have jb : ∀ w v, (d1 w).bind (fun a => (d2 w).bind (fun b => (fO (cS (kk p1)) a b).bind (fun v => some v))) = some v → bB v := bind_b (dt := fun a w => (d2 w).bind (fun b => (fO (cS (kk p1)) a b).bind (fun v => some v))) j5 (op_b (dt := fun v _ => some v) (fun a w v ha h => by cases h; exact ha))
      have ho' : o = 0 ∨ o = 1 := by omega
      rcases ho' with rfl | rfl
      · exact Or.inr ⟨p2, k2, _, _, _, ⟨by omega, m2, m3, by omega, by omega⟩, N_o0_q ht hp (by omega) c1 c2 r1, r2, jj, jb, I_p0 ht hp (by omega) c1 r3, r4⟩
      · exact Or.inr ⟨p2, k2, _, _, _, ⟨by omega, m2, m3, by omega, by omega⟩, N_o1_q ht hp (by omega) c1 c2 r1 (by omega) m2, r2, JS_seq jj (by omega) jb JT_not, not_b, I_p1 ht hp (by omega) c1 r3, r4⟩
  · exact Or.inl ⟨p1, n2, N_f_q ht hp (by omega) c1 c2 ho (Q_f2 ht (by omega) j2 n4 n2 c3), Y_q_f2 ht hp n2 (by omega) c1 c2 (MO_m j3 (by omega)) c3⟩
theorem B_plain (h1 : GP kk nu pl N a p k 0) : GT kk nu pl N 40 188 204 10 a p k := by
  rcases h1 with ⟨q, hq, f1, f2⟩ | ⟨p1, k1, l1, co1, d1, ⟨n1, n2, n3, n4, n5⟩, j2, j3, j4, j5, j6, j7⟩
  · exact Or.inl ⟨q, hq, N_top_f (by omega) f1, Y_top_f (by omega) f2⟩
  · exact Or.inr ⟨p1, k1, l1, co1, d1, ⟨n1, n2, n3, by omega, n5⟩, N_top_o (by omega) j2, Y_top_o (by omega) j3, j4, j5, I_tL j6, I_tD j7⟩
end LawSteps
def GA (kk nu pl : Nat → Nat) (N p : Nat) : Prop := ∀ a, a ≤ 8 → ∀ k, k ≤ 50 → GSt kk nu pl N 46 190 200 6 a p k ∧ GSt kk nu pl N 45 189 199 7 a p k ∧ GTt kk nu pl N 39 187 203 10 a p k ∧ GTt kk nu pl N 38 186 202 11 a p k ∧ GS kk nu pl N 47 191 201 6 a p k ∧ GS kk nu pl N 46 190 200 7 a p k ∧ GS kk nu pl N 45 189 199 8 a p k ∧ GP kk nu pl N a p k 0 ∧ GP kk nu pl N a p k 1 ∧ GT kk nu pl N 40 188 204 10 a p k ∧ GT kk nu pl N 39 187 203 11 a p k ∧ GT kk nu pl N 38 186 202 12 a p k
theorem law_all {kk nu pl : Nat → Nat} {N : Nat} (ht : tks kk nu pl N) : ∀ n p, p ≤ N → N - p < n → GA kk nu pl N p := by
  intro n
  induction n with
  | zero => intro p _ h; omega
  | succ n ih0 =>
    intro p hp hn a ha k hk
    have ih : ∀ p', p < p' → p' ≤ N → GA kk nu pl N p' := fun p' h1 h2 => ih0 p' h2 (by omega)
    have g1 := A_46 ht hp hk ha (fun h => (ih (p + 1) (by omega) (by omega) a ha k hk).2.2.2.2.1) (fun p' k' h1 h2 h3 => (ih p' h1 h2 a ha k' h3).1)
    have g2 := A_45 ht hp hk ha (fun h => (ih (p + 1) (by omega) (by omega) a ha k hk).2.2.2.2.2.1) (fun p' k' h1 h2 h3 => (ih p' h1 h2 a ha k' h3).2.1)
    have g3 := A_39 ht hp hk ha (fun h => (ih (p + 1) (by omega) (by omega) a ha k hk).2.2.2.2.2.2.2.2.2.1) (fun p' k' h1 h2 h3 => (ih p' h1 h2 a ha k' h3).2.2.1)
    have g4 := A_38 ht hp hk ha (fun h => (ih (p + 1) (by omega) (by omega) a ha k hk).2.2.2.2.2.2.2.2.2.2.1) (fun p' k' h1 h2 h3 => (ih p' h1 h2 a ha k' h3).2.2.2.1)
    have g5 := A_part ht hp hk ha (fun h8 h => (ih (p + 1) (by omega) (by omega) (a + 1) (by omega) k hk).2.2.2.2.2.2.1)
    have g6 := B_46 ht hp ha g5 (fun p' k' h1 h2 h3 => (ih p' h1 h2 a ha k' h3).1)
    have g7 := B_45 ht hp ha g6 (fun p' k' h1 h2 h3 => (ih p' h1 h2 a ha k' h3).2.1)
    have g8 : ∀ o, o ≤ 1 → GP kk nu pl N a p k o := fun o ho => A_plain ht hp hk ha ho (fun h => by
      have q := ih (p + 1) (by omega) (by omega) a ha k hk
      have ho' : o = 0 ∨ o = 1 := by omega
      rcases ho' with rfl | rfl
      · exact q.2.2.2.2.2.2.2.2.1
      · exact q.2.2.2.2.2.2.2.1) (fun h8 h => (ih (p + 1) (by omega) (by omega) (a + 1) (by omega) k hk).2.2.2.2.2.2.2.2.2.2.2) g7 (fun p' k' h1 h2 h3 => (ih p' h1 h2 a ha k' h3).2.2.2.2.2.2.1)
    have g10 := B_plain (g8 0 (by omega))
    have g11 := B_39 ht hp ha g10 (fun p' k' h1 h2 h3 => (ih p' h1 h2 a ha k' h3).2.2.1)
    have g12 := B_38 ht hp ha g11 (fun p' k' h1 h2 h3 => (ih p' h1 h2 a ha k' h3).2.2.2.1)
    exact ⟨g1, g2, g3, g4, g5, g6, g7, g8 0 (by omega), g8 1 (by omega), g10, g11, g12⟩
