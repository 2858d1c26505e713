/-! Long.bitCount (277), bitAt (276), steadyAt (275). -/
theorem cl_277 {D : Nat} {h : lm_H} {K : Int32 → lm_H → Prop} (hD : 1 ≤ D) (hl : lm_Lay h) (x : Int64) (hK : K (Int32.ofNat (q_cn (fun j => x.toBitVec.getLsbD j) 64)) h) : lm_call D 277 [.long x] h (lm_kI K) := by
  obtain ⟨d, rfl⟩ := q_dp hD
  rw [← lb_all] at hK
  refine e_277 x hl ?_
  refine b_277_10 _ hl ?_
  refine b_277_24 _ hl ?_
  refine b_277_34 _ hl ?_
  refine b_277_41 _ hl ?_
  refine b_277_48 _ hl ?_
  refine b_277_55 _ hl ?_
  exact hK
set_option maxRecDepth 20000 in
theorem q_i64 : ∀ p, p < 64 → (Int32.ofNat p).toInt64 &&& 63 = Int64.ofNat p ∧ ((Int64.ofNat p).toBitVec.smod 64).toNat = p := by decide +kernel
theorem q_and1 (z : Int64) : z &&& 1 = 1 ↔ z.toBitVec.getLsbD 0 = true := by
  constructor
  · intro q
    have := congrArg (fun y : Int64 => y.toBitVec.getLsbD 0) q
    simp only [Int64.toBitVec_and, BitVec.getLsbD_and, show (1 : Int64).toBitVec = 1#64 from rfl, BitVec.getLsbD_one] at this
    simpa using this
  · intro q
    apply Int64.toBitVec_inj.1
    rw [Int64.toBitVec_and]
    apply BitVec.eq_of_getLsbD_eq
    intro i hi
    rw [BitVec.getLsbD_and, show (1 : Int64).toBitVec = 1#64 from rfl, BitVec.getLsbD_one]
    by_cases e : i = 0
    · subst e
      simp [q]
    · simp [e]
theorem q_bitx (x : Int64) {p : Nat} (hp : p < 64) : (lg_cmp ((x >>> ((Int32.ofNat p).toInt64 &&& 63)) &&& 1) 1 = 0) = (x.toBitVec.getLsbD p = true) := by
  rw [lg_cmp_eq]
  refine propext ?_
  rw [q_and1, (q_i64 p hp).1, Int64.toBitVec_shiftRight]
  show (x.toBitVec.sshiftRight ((Int64.ofNat p).toBitVec.smod 64).toNat).getLsbD 0 = true ↔ _
  rw [(q_i64 p hp).2, BitVec.getLsbD_sshiftRight]
  simp [hp]
theorem cl_276 {D i : Nat} {h : lm_H} {K : Int32 → lm_H → Prop} {x : Int64} (hD : 1 ≤ D) (hl : lm_Lay h) (hi : i < q_cn (fun j => x.toBitVec.getLsbD j) 64) (hK : ∀ p, p < 64 → x.toBitVec.getLsbD p = true → q_cn (fun j => x.toBitVec.getLsbD j) p = i → K (Int32.ofNat p) h) : lm_call D 276 [.long x, .int (Int32.ofNat i)] h (lm_kI K) := by
  obtain ⟨d, rfl⟩ := q_dp hD
  have hle : ∀ p, q_cn (fun j => x.toBitVec.getLsbD j) p ≤ p := fun p => q_cn_le (fun j => x.toBitVec.getLsbD j) p
  have hz : q_cn (fun j => x.toBitVec.getLsbD j) 0 = 0 := rfl
  have hs : ∀ p, q_cn (fun j => x.toBitVec.getLsbD j) (p + 1) = q_cn (fun j => x.toBitVec.getLsbD j) p + (if x.toBitVec.getLsbD p then 1 else 0) := fun p => rfl
  refine e_276 _ _ hl ?_
  generalize q_cn (fun j => x.toBitVec.getLsbD j) = Q at hi hK hle hz hs
  have hi64 := hle 64
  have lp : ∀ r p : Nat, r + p = 64 → Q p ≤ i → (lm_W (d) 276 5 [some (.long x), none, some (.int (Int32.ofNat i)), some (.int (Int32.ofNat (Q p))), some (.int (Int32.ofNat p))] [] h (lm_kI K)) := by
    intro r
    induction r with
    | zero =>
      intro p hp hc
      have e : p = 64 := by omega
      rw [e] at hc
      omega
    | succ r ih =>
      intro p hp hc
      have ihp := ih (p + 1) (by omega)
      have hqp := hle p
      rw [hs] at ihp
      refine b_276_5 _ _ _ _ hl ?_
      rw [show (64 : Int32) = Int32.ofNat 64 from rfl, if_pos (by rw [q_lt (by omega) (by omega)]; omega), q_a1, q_a1]
      by_cases c : x.toBitVec.getLsbD p = true
      · rw [if_pos (by rw [q_bitx x (by omega)]; exact c)]
        rw [if_pos c] at ihp
        by_cases c2 : Q p = i
        · rw [if_pos (by rw [c2])]
          exact hK p (by omega) c c2
        · rw [if_neg (by rw [q_eq (by omega) (by omega)]; exact c2)]
          exact ihp (by omega)
      · rw [if_neg (by rw [q_bitx x (by omega)]; exact c)]
        rw [if_neg c] at ihp
        exact ihp (by omega)
  have fin := lp 64 0 (by omega) (by rw [hz]; exact Nat.zero_le _)
  rw [hz] at fin
  exact fin
theorem cl_275 {D i : Nat} {h : lm_H} {K : Int32 → lm_H → Prop} {V : Nat → Bool} (hD : 2 ≤ D) (hl : lm_Lay h) (hb : bq (lm_l h 45) V) (hi : i < 2147483648) (hK : ∀ j, j < 16832 → V j = true → q_cn V j = i → K (Int32.ofNat j) h) (hN : ¬ i < q_cn V 16832 → K (-1) h) : lm_call D 275 [.ref 31, .int (Int32.ofNat i)] h (lm_kI K) := by
  obtain ⟨d, rfl⟩ := q_dp hD
  have hw : ∀ w, w < 263 → ∀ b, b < 64 → (lm_l h 45 w).toBitVec.getLsbD b = V (64 * w + b) := by
    intro w hw b hb2
    have := hb (64 * w + b) (by omega)
    rw [show (64 * w + b) / 64 = w by omega, show (64 * w + b) % 64 = b by omega] at this
    exact this
  have hle : ∀ p, q_cn V p ≤ p := fun p => q_cn_le V p
  have hz : q_cn V 0 = 0 := rfl
  have hs : ∀ w, w < 263 → ∀ b, b ≤ 64 → q_cn V (64 * w + b) = q_cn V (64 * w) + q_cn (fun j => (lm_l h 45 w).toBitVec.getLsbD j) b := by
    intro w hw1 b hb1
    rw [cn_add]
    congr 1
    exact q_cn_c (fun j hj => (hw w hw1 j (by omega)).symm)
  have h64 : ∀ w, q_cn (fun j => (lm_l h 45 w).toBitVec.getLsbD j) 64 ≤ 64 := fun w => q_cn_le _ 64
  refine e_275 _ hl ?_
  generalize q_cn V = Q at hK hN hle hz hs
  have lp : ∀ r w : Nat, r + w = 263 → Q (64 * w) ≤ i → (lm_W ((d + 1)) 275 4 [some (.ref 31), some (.int (Int32.ofNat i)), some (.int (Int32.ofNat (Q (64 * w)))), some (.int (Int32.ofNat w)), none] [] h (lm_kI K)) := by
    intro r
    induction r with
    | zero =>
      intro w hw2 hc
      have e : w = 263 := by omega
      refine b_275_4 _ _ _ hl ?_
      rw [show (263 : Int32) = Int32.ofNat 263 from rfl, if_neg (by rw [q_lt (by omega) (by omega)]; omega)]
      rw [e] at hc
      exact hN (fun q => Nat.lt_irrefl _ (Nat.lt_of_lt_of_le q hc))
    | succ r ih =>
      intro w hw2 hc
      have ihw := ih (w + 1) (by omega)
      have hlw := hle (64 * w)
      have hl6 := h64 w
      have ha := hs w (by omega) 64 (by omega)
      have hs2 := hs w (by omega)
      rw [show 64 * w + 64 = 64 * (w + 1) by omega] at ha
      refine b_275_4 _ _ _ hl ?_
      rw [show (263 : Int32) = Int32.ofNat 263 from rfl, if_pos (by rw [q_lt (by omega) (by omega)]; omega), q_in (by omega) (by omega), q_nat (by omega)]
      refine cl_277 (by omega) hl _ ?_
      have h76 : ∀ (i2 : Nat) (K2 : Int32 → lm_H → Prop), i2 < q_cn (fun j => (lm_l h 45 w).toBitVec.getLsbD j) 64 → (∀ p, p < 64 → (lm_l h 45 w).toBitVec.getLsbD p = true → q_cn (fun j => (lm_l h 45 w).toBitVec.getLsbD j) p = i2 → K2 (Int32.ofNat p) h) → lm_call (d + 1) 276 [.long (lm_l h 45 w), .int (Int32.ofNat i2)] h (lm_kI K2) := fun i2 K2 a b => cl_276 (by omega) hl a b
      generalize q_cn (fun j => (lm_l h 45 w).toBitVec.getLsbD j) = R at ha hs2 hl6 h76 ⊢
      rw [q_add, ← ha, q_a1]
      by_cases c : i < Q (64 * (w + 1))
      · rw [if_pos (by rw [q_lt (by omega) (by omega)]; exact c), q_in (by omega) (by omega), q_sub hc]
        refine h76 _ _ (by omega) (fun p hp hp2 hp3 => ?_)
        rw [show (64 : Int32) = Int32.ofNat 64 from rfl, q_mul, q_add, show w * 64 + p = 64 * w + p by omega]
        rw [hw w (by omega) p hp] at hp2
        refine hK (64 * w + p) (by omega) hp2 ?_
        rw [hs2 p (by omega), hp3]
        omega
      · rw [if_neg (by rw [q_lt (by omega) (by omega)]; exact c)]
        exact ihw (by omega)
  have fin := lp 263 0 (by omega) (by rw [Nat.mul_zero, hz]; exact Nat.zero_le _)
  rw [Nat.mul_zero, hz] at fin
  exact fin
