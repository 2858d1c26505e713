/-! feed: both sides take five words, byte by byte. -/
section Xl98ifeed
variable {xl : (Nat → Int32) × Nat}
/-- byte i of a word -/
def bB4 (w : Int32) (i : Nat) : Nat := (w.toBitVec.toNat >>> (24 - 8 * i)) % 256
set_option maxRecDepth 20000 in
theorem sbx : ∀ x, x < 256 → (BitVec.ofNat 8 x).signExtend 32 = (sb x).toBitVec := by decide +kernel
theorem nar_b (x : Int8) : vp_nar .byte x.toInt32 = x.toInt32 := by
  show x.toInt32.toInt8.toInt32 = x.toInt32
  rw [Int8.toInt8_toInt32]
theorem by8f (w k : Int32) {s : Nat} (hs : s ≤ 24) (h1 : (w.toUInt32 >>> (k.toUInt32 &&& Int32.toUInt32 31)).toBitVec = w.toBitVec >>> s) (h2 : (w >>> (k &&& 31)).toBitVec = w.toBitVec.sshiftRight s) : ((w.toUInt32 >>> (k.toUInt32 &&& Int32.toUInt32 31)).toInt32) &&& 255 = Int32.ofNat ((w.toBitVec.toNat >>> s) % 256) ∧ vp_nar .byte ((w >>> (k &&& 31)).toInt8.toInt32) = sb ((w.toBitVec.toNat >>> s) % 256) := by
  constructor
  · apply Int32.toBitVec_inj.1
    show (w.toUInt32 >>> (k.toUInt32 &&& Int32.toUInt32 31)).toBitVec &&& 255#32 = BitVec.ofNat 32 ((w.toBitVec.toNat >>> s) % 256)
    rw [h1]
    apply BitVec.eq_of_toNat_eq
    rw [BitVec.toNat_and, BitVec.toNat_ushiftRight, BitVec.toNat_ofNat, BitVec.toNat_ofNat]
    rw [show 255 % 2 ^ 32 = 2 ^ 8 - 1 from rfl, Nat.and_two_pow_sub_one_eq_mod]
    have : (w.toBitVec.toNat >>> s) % 256 < 256 := Nat.mod_lt _ (by decide)
    rw [Nat.mod_eq_of_lt (a := (w.toBitVec.toNat >>> s) % 256) (by omega)]
  · rw [nar_b]
    apply Int32.toBitVec_inj.1
    rw [← sbx _ (Nat.mod_lt _ (by decide))]
    show ((w >>> (k &&& 31)).toBitVec.signExtend 8).signExtend 32 = _
    rw [h2]
    congr 1
    apply BitVec.eq_of_getLsbD_eq
    intro i hi
    rw [BitVec.getLsbD_signExtend, BitVec.getLsbD_sshiftRight, BitVec.getLsbD_ofNat]
    rw [show (256 : Nat) = 2 ^ 8 from rfl, Nat.testBit_mod_two_pow, Nat.testBit_shiftRight]
    have e1 : ¬ 32 ≤ i := by omega
    have e2 : s + i < 32 := by omega
    have e3 : i < 32 := by omega
    simp only [hi, decide_true, Bool.true_and, e2, e3, if_true, BitVec.getLsbD]
    simp [e1]
def xs4 (i : Nat) : Int32 := 24 - 8 * Int32.ofNat i
theorem b8w (w : Int32) {i : Nat} (hi : i < 4) : ((w.toUInt32 >>> ((xs4 i).toUInt32 &&& Int32.toUInt32 31)).toInt32) &&& 255 = Int32.ofNat (bB4 w i) ∧ vp_nar .byte ((w >>> ((xs4 i) &&& 31)).toInt8.toInt32) = sb (bB4 w i) := by
  have h4 : i = 0 ∨ i = 1 ∨ i = 2 ∨ i = 3 := by omega
  rcases h4 with rfl | rfl | rfl | rfl
  · exact by8f w (xs4 0) (s := 24) (by decide) rfl rfl
  · exact by8f w (xs4 1) (s := 16) (by decide) rfl rfl
  · exact by8f w (xs4 2) (s := 8) (by decide) rfl rfl
  · exact by8f w (xs4 3) (s := 0) (by decide) rfl rfl
theorem xs4_n : ∀ i, i < 4 → ¬ xs4 i < 0 ∧ xs4 i - 8 = xs4 (i + 1) := by decide
theorem cl_74 {D L : Nat} {h : lm_H} {K : lm_H → Prop} (hD : 1 ≤ D) (w : Int32) (hl : lm_Lay h) (hL : lm_i h 11 1 = Int32.ofNat L) (h4 : L + 4 ≤ 400) (hK : ∀ h', fr [11, 12] [] h h' → (∀ s, ¬ s = 1 → lm_i h' 11 s = lm_i h 11 s) → lm_i h' 11 1 = Int32.ofNat (L + 4) → (∀ j, (j < L ∨ L + 4 ≤ j) → lm_i h' 12 j = lm_i h 12 j) → (∀ i, i < 4 → lm_i h' 12 (L + i) = Int32.ofNat (bB4 w i)) → K h') : lm_call D 74 [.ref 11, .int w] h (lm_kV K) := by
  obtain ⟨d, rfl⟩ := q_dp hD
  refine e_74 _ hl ?_
  have lp : ∀ r i : Nat, r + i = 4 → ∀ z, fr [11, 12] [] h z → (∀ s, ¬ s = 1 → lm_i z 11 s = lm_i h 11 s) → lm_i z 11 1 = Int32.ofNat (L + i) → (∀ j, (j < L ∨ L + i ≤ j) → lm_i z 12 j = lm_i h 12 j) → (∀ a, a < i → lm_i z 12 (L + a) = Int32.ofNat (bB4 w a)) → (lm_W (d) 74 3 [some (.ref 11), some (.int w), some (.int (xs4 i))] [] z (lm_kV K)) := by
    intro r
    induction r with
    | zero =>
      intro i hi z f1 f0 z1 z2 z3
      have : i = 4 := by omega
      subst this
      refine b_74_3 _ _ (fr_Lay f1 hl) ?_
      rw [if_pos (by decide)]
      exact hK z f1 f0 z1 z2 z3
    | succ r ih =>
      intro i hi z f1 f0 z1 z2 z3
      have e4 := xs4_n i (by omega)
      refine b_74_3 _ _ (fr_Lay f1 hl) ?_
      rw [if_neg e4.1, z1, if_pos (by rw [show (400 : Int32) = Int32.ofNat 400 from rfl, q_lt (by omega) (by omega)]; omega), q_in (by omega) (by decide), q_nat (by omega), (b8w w (by omega)).1, q_a1, e4.2]
      refine ih (i + 1) (by omega) _ (fr_si (fr_si f1 (by decide) (by decide) _ _) (by decide) (by decide) _ _) (fun s hs => ?_) ?_ (fun j hj => ?_) (fun a ha => ?_)
      · simp only [pi_si, Nat.reduceEqDiff, if_true, if_false, if_neg hs]
        exact f0 s hs
      · simp only [pi_si, if_true]
        rfl
      · simp only [pi_si, Nat.reduceEqDiff, if_true, if_false]
        rw [if_neg (by omega)]
        exact z2 j (by omega)
      · simp only [pi_si, Nat.reduceEqDiff, if_true, if_false]
        by_cases e : a = i
        · subst e
          rw [if_pos rfl]
        · rw [if_neg (by omega)]
          exact z3 a (by omega)
  exact lp 4 0 (by omega) h (fr_refl _ _ _) (fun _ _ => rfl) hL (fun _ _ => rfl) (fun a ha => by omega)
/-- n words taken -/
def BY (h0 z : lm_H) (L n : Nat) (ws : Nat → Int32) : Prop := fr [11, 12] [] h0 z ∧ (∀ s, ¬ s = 1 → lm_i z 11 s = lm_i h0 11 s) ∧ lm_i z 11 1 = Int32.ofNat (L + 4 * n) ∧ (∀ j, (j < L ∨ L + 4 * n ≤ j) → lm_i z 12 j = lm_i h0 12 j) ∧ ∀ i, i < 4 * n → lm_i z 12 (L + i) = Int32.ofNat (bB4 (ws (i / 4)) (i % 4))
theorem BY_go {D L n : Nat} {h0 z : lm_H} {K : lm_H → Prop} {ws : Nat → Int32} (hD : 1 ≤ D) (hl : lm_Lay h0) (H : BY h0 z L n ws) (hn : n < 5) (hL : L + 20 ≤ 400) (hK : ∀ z', BY h0 z' L (n + 1) ws → K z') : lm_call D 74 [.ref 11, .int (ws n)] z (lm_kV K) := by
  obtain ⟨f1, f0, z1, z2, z3⟩ := H
  refine cl_74 hD _ (fr_Lay f1 hl) z1 (by omega) (fun z' g1 g0 y1 y2 y3 => hK z' ⟨fr_trans f1 g1, fun s hs => by rw [g0 s hs]; exact f0 s hs, y1, fun j hj => ?_, fun i hi => ?_⟩)
  · rw [y2 j (by omega)]
    exact z2 j (by omega)
  · by_cases c : i < 4 * n
    · rw [y2 _ (by omega)]
      exact z3 i c
    · have := y3 (i - 4 * n) (by omega)
      rw [show L + 4 * n + (i - 4 * n) = L + i from by omega] at this
      rw [this, show i / 4 = n from by omega, show i % 4 = i - 4 * n from by omega]
theorem xs4_r {i : Nat} (hi : i < 20) : (24 - (8 * (Int32.ofNat i - Int32.ofNat i / 4 * 4))) = xs4 (i % 4) ∧ Int32.ofNat i / 4 = Int32.ofNat (i / 4) := by
  have e : Int32.ofNat i / 4 = Int32.ofNat (i / 4) := q_div (b := 4) (by omega) (by omega)
  have e2 : Int32.ofNat i - Int32.ofNat (i / 4) * 4 = Int32.ofNat (i % 4) := q_mod (b := 4)
  rw [e, e2]
  exact ⟨rfl, rfl⟩
theorem lp_173 {d L : Nat} {h : lm_H} {K : Int32 → lm_H → Prop} {ws : Nat → Int32} (hl : lm_Lay h) (hL : lm_i h 92 10 = Int32.ofNat L) (h4 : L + 20 ≤ 400) (h99 : ∀ q, q < 5 → lm_i h 99 q = ws q) (hK : ∀ h', fr [98] [10] h h' → lm_i h' 92 10 = Int32.ofNat (L + 20) → (∀ j, (j < L ∨ L + 20 ≤ j) → lm_i h' 98 j = lm_i h 98 j) → (∀ i, i < 20 → lm_i h' 98 (L + i) = sb (bB4 (ws (i / 4)) (i % 4))) → K (Int32.ofNat (L + 20)) h') : (lm_W (d) 173 55 [some (.ref 92), none, none, none, none, none, some (.int 0)] [] h (lm_kI K)) := by
  have lp : ∀ r i : Nat, r + i = 20 → ∀ z, fr [98] [] h z → (∀ j, (j < L ∨ L + i ≤ j) → lm_i z 98 j = lm_i h 98 j) → (∀ a, a < i → lm_i z 98 (L + a) = sb (bB4 (ws (a / 4)) (a % 4))) → (lm_W (d) 173 55 [some (.ref 92), none, none, none, none, none, some (.int (Int32.ofNat i))] [] z (lm_kI K)) := by
    intro r
    induction r with
    | zero =>
      intro i hi z f1 z2 z3
      have : i = 20 := by omega
      subst this
      refine b_173_55 _ (fr_Lay f1 hl) ?_
      have z1 : lm_i z 92 10 = Int32.ofNat L := by rw [fr_m f1 (by decide)]; exact hL
      rw [if_neg (by decide), z1, show (20 : Int32) = Int32.ofNat 20 from rfl, q_add]
      refine hK _ (fr_s92 (fr_sub f1 (by decide) (by decide)) (by decide) _) ?_ z2 z3
      simp only [pi_si, if_true]
    | succ r ih =>
      intro i hi z f1 z2 z3
      obtain ⟨e1, e2⟩ := xs4_r (i := i) (by omega)
      have z1 : lm_i z 92 10 = Int32.ofNat L := by rw [fr_m f1 (by decide)]; exact hL
      refine b_173_55 _ (fr_Lay f1 hl) ?_
      rw [if_pos (by rw [show (20 : Int32) = Int32.ofNat 20 from rfl, q_lt (by omega) (by omega)]; omega), e1, e2, q_in (by omega) (by decide), z1, q_add, q_in (by omega) (by decide), q_nat (by omega), q_nat (by omega), fr_i f1 (c := 99) (by decide) (by decide), h99 _ (by omega), (b8w _ (Nat.mod_lt _ (by decide))).2, q_a1]
      refine ih (i + 1) (by omega) _ (fr_si f1 (by decide) (by decide) _ _) (fun j hj => ?_) (fun a ha => ?_)
      · simp only [pi_si, if_true]
        rw [if_neg (by omega)]
        exact z2 j (by omega)
      · simp only [pi_si, if_true]
        by_cases e : a = i
        · subst e
          rw [if_pos rfl]
        · rw [if_neg (by omega)]
          exact z3 a (by omega)
  exact lp 20 0 (by omega) h (fr_refl _ _ _) (fun _ _ => rfl) (fun a ha => by omega)
def wv (a b c d e : Int32) (q : Nat) : Int32 := if q = 0 then a else if q = 1 then b else if q = 2 then c else if q = 3 then d else e
theorem op_103 {D nc : Nat} {h : lm_H} (hD : 170 ≤ D) (hn : nc ≤ 10000) (H : INV xl nc h) (x1 x2 x3 x4 x5 : Int32) : lm_call D 103 [.ref 0, .int x1, .int x2, .int x3, .int x4, .int x5] h (lm_kI fun r h1 => lm_call D 173 [.ref 92, .int x1, .int x2, .int x3, .int x4, .int x5] h1 (lm_kI fun r2 h2 => r = r2 ∧ INV xl (nc + 1) h2)) := by
  obtain ⟨d, rfl⟩ := q_dp hD
  have J := INV_mono H
  obtain ⟨⟨hl, ht, hw, ⟨m1, m2, m3, m4⟩, m5, m6, m7, m8, m9⟩, _, ⟨⟨L, L4, l1⟩, tp⟩, _⟩ := INV_s H
  refine e_103 _ _ _ _ _ hl ?_
  have t20 : (400 < Int32.ofNat L + 20) = ¬ L + 20 ≤ 400 := by
    rw [show (20 : Int32) = Int32.ofNat 20 from rfl, q_add, show (400 : Int32) = Int32.ofNat 400 from rfl, q_lt (by omega) (by omega), Nat.not_le]
  rw [m4, l1]
  by_cases c : ¬ L + 20 ≤ 400
  · rw [if_pos (by rw [t20]; exact c)]
    refine e_173 _ _ _ _ _ hl ?_
    rw [l1, if_pos (by rw [t20]; exact c)]
    exact ⟨rfl, J⟩
  have c2 := Decidable.not_not.1 c
  rw [if_neg (by rw [t20]; exact c)]
  have B0 : BY h h L 0 (wv x1 x2 x3 x4 x5) := ⟨fr_refl _ _ _, fun _ _ => rfl, by rw [m4]; exact l1, fun _ _ => rfl, fun i hi => by omega⟩
  refine BY_go (by omega) hl B0 (by decide) c2 (fun z1 B1 => ?_)
  refine BY_go (by omega) hl B1 (by decide) c2 (fun z2 B2 => ?_)
  refine BY_go (by omega) hl B2 (by decide) c2 (fun z3 B3 => ?_)
  refine BY_go (by omega) hl B3 (by decide) c2 (fun z4 B4 => ?_)
  refine BY_go (by omega) hl B4 (by decide) c2 (fun z5 B5 => ?_)
  obtain ⟨f1, f0, g1, g2, g3⟩ := B5
  rw [g1]
  have l5 : lm_i z5 92 10 = Int32.ofNat L := by rw [fr_m f1 (by decide)]; exact l1
  refine e_173 _ _ _ _ _ (fr_Lay f1 hl) ?_
  rw [l5, if_neg (by rw [t20]; exact c)]
  have f2 : fr [99] [] z5 (lm_si (lm_si (lm_si (lm_si (lm_si z5 99 0 x1) 99 1 x2) 99 2 x3) 99 3 x4) 99 4 x5) := fr_si (fr_si (fr_si (fr_si (fr_si (fr_refl _ _ _) (by decide) (by decide) _ _) (by decide) (by decide) _ _) (by decide) (by decide) _ _) (by decide) (by decide) _ _) (by decide) (by decide) _ _
  refine lp_173 (ws := wv x1 x2 x3 x4 x5) (fr_Lay f2 (fr_Lay f1 hl)) (by rw [fr_m f2 (by decide)]; exact l5) c2 (fun q hq => ?_) (fun h' f3 y1 y2 y3 => ?_)
  · have h5 : q = 0 ∨ q = 1 ∨ q = 2 ∨ q = 3 ∨ q = 4 := by omega
    unfold wv
    rcases h5 with rfl | rfl | rfl | rfl | rfl <;> simp only [pi_si, Nat.reduceEqDiff, if_true, if_false]
  have fa : fr SK TK h h' := fr_trans (fr_sub f1 (by decide) (by decide)) (fr_trans (fr_sub f2 (by decide) (by decide)) (fr_sub f3 (by decide) (by decide)))
  have fb2 : fr [11, 12, 98, 99] [10] h h' := fr_trans (fr_sub f1 (by decide) (by decide)) (fr_trans (fr_sub f2 (by decide) (by decide)) (fr_sub f3 (by decide) (by decide)))
  have r11 : lm_i h' 11 = lm_i z5 11 := by rw [fr_i f3 (by decide) (by decide), fr_i f2 (by decide) (by decide)]
  have r12 : lm_i h' 12 = lm_i z5 12 := by rw [fr_i f3 (by decide) (by decide), fr_i f2 (by decide) (by decide)]
  have r98 : ∀ j, (j < L ∨ L + 20 ≤ j) → lm_i h' 98 j = lm_i h 98 j := fun j hj => by rw [y2 j hj, fr_i f2 (by decide) (by decide), fr_i f1 (by decide) (by decide)]
  refine ⟨rfl, INV_sm H fa ⟨⟨?_, ?_, ?_, ?_⟩, ?_⟩ ⟨⟨L + 20, c2, y1⟩, fun j hj => ?_⟩⟩
  · rw [fr_i fb2 (by decide) (by decide), fr_m fb2 (by decide)]
    exact m1
  · rw [fr_i fb2 (by decide) (by decide), fr_m fb2 (by decide)]
    exact m2
  · rw [fr_i fb2 (by decide) (by decide), fr_m fb2 (by decide)]
    exact m3
  · rw [r11, g1, y1]
  · rw [fr_i fb2 (c := 75) (by decide) (by decide), fr_i fb2 (c := 93) (by decide) (by decide)]
    exact ⟨m5, m6, m7, m8, m9⟩
  · rw [r12]
    by_cases k : j < L ∨ L + 20 ≤ j
    · rw [g2 j (by omega), r98 j k]
      exact tp j hj
    · have a1 := g3 (j - L) (by omega)
      have a2 := y3 (j - L) (by omega)
      rw [show L + (j - L) = j from by omega] at a1 a2
      rw [a1, a2]
      exact ⟨_, Nat.mod_lt _ (by decide), rfl, rfl⟩
end Xl98ifeed
