/-! Bits of longs: a row of bits, Long.bitCount (277), bitAt (276), steadyAt (275). -/
def bq (w : Nat → Int64) (V : Nat → Bool) : Prop := ∀ c, c < 16832 → (w (c / 64)).toBitVec.getLsbD (c % 64) = V c
set_option maxRecDepth 20000 in
theorem q_one64 : ∀ b, b < 64 → ∀ c, c < 64 → ((1 : Int64) <<< Int64.ofNat b).toBitVec.getLsbD c = decide (b = c) := by decide +kernel
theorem bq_set {w : Nat → Int64} {V : Nat → Bool} (H : bq w V) {c : Nat} (hc : c < 16832) : bq (fun j => if j = c / 64 then w (c / 64) ||| ((1 : Int64) <<< Int64.ofNat (c % 64)) else w j) (fun j => decide (j = c) || V j) := by
  intro e he
  have h0 := H e he
  show (if e / 64 = c / 64 then w (c / 64) ||| ((1 : Int64) <<< Int64.ofNat (c % 64)) else w (e / 64)).toBitVec.getLsbD (e % 64) = (decide (e = c) || V e)
  by_cases ew : e / 64 = c / 64
  · rw [if_pos ew, Int64.toBitVec_or, BitVec.getLsbD_or, q_one64 (c % 64) (by omega) (e % 64) (by omega), ← ew, h0]
    by_cases ec : e = c
    · subst ec
      simp
    · have : ¬ c % 64 = e % 64 := by omega
      simp [ec, this]
  · rw [if_neg ew, h0]
    have : ¬ e = c := by
      intro q
      rw [q] at ew
      exact ew rfl
    simp [this]
theorem bq_zero {w : Nat → Int64} (H : ∀ j, j < 263 → w j = 0) : bq w (fun _ => false) := by
  intro c hc
  rw [H (c / 64) (by omega), show (0 : Int64).toBitVec = 0#64 from rfl, BitVec.getLsbD_zero]
theorem bq_c {w : Nat → Int64} {V V' : Nat → Bool} (H : bq w V) (h : ∀ c, c < 16832 → V c = V' c) : bq w V' := fun c hc => by rw [H c hc, h c hc]
theorem cn_add (P : Nat → Bool) (a : Nat) : ∀ b, q_cn P (a + b) = q_cn P a + q_cn (fun j => P (a + j)) b := by
  intro b
  induction b with
  | zero => rfl
  | succ b ih =>
    show q_cn P (a + b) + (if P (a + b) then 1 else 0) = q_cn P a + (q_cn (fun j => P (a + j)) b + (if P (a + b) then 1 else 0))
    rw [ih, Nat.add_assoc]
theorem cn_mono {P : Nat → Bool} {a b : Nat} (h : a ≤ b) : q_cn P a ≤ q_cn P b := by
  have := cn_add P a (b - a)
  rw [show a + (b - a) = b by omega] at this
  omega
