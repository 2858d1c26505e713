/-! bits 7 -/
def btx (X i : Nat) : Nat := X / 2 ^ (8 * i) % 2 ^ 8
theorem btx_by {X : Nat} (h : X < 2 ^ 64) : X = by8 (btx X) := by
  have t : ∀ a b : Nat, b = a * 256 → X / a = X / a % 2 ^ 8 + 256 * (X / b) := by
    intro a b e
    rw [e, ← Nat.div_div_eq_div_mul]
    generalize X / a = q
    omega
  have z : X / 2 ^ 64 = 0 := Nat.div_eq_of_lt h
  have e7 := t (2 ^ 56) (2 ^ 64) (by decide +kernel)
  rw [z, Nat.mul_zero, Nat.add_zero] at e7
  show X = X / 2 ^ 0 % 2 ^ 8 + 256 * (X / 2 ^ 8 % 2 ^ 8 + 256 * (X / 2 ^ 16 % 2 ^ 8 + 256 * (X / 2 ^ 24 % 2 ^ 8 + 256 * (X / 2 ^ 32 % 2 ^ 8 + 256 * (X / 2 ^ 40 % 2 ^ 8 + 256 * (X / 2 ^ 48 % 2 ^ 8 + 256 * (X / 2 ^ 56 % 2 ^ 8)))))))
  rw [← e7, ← t (2 ^ 48) (2 ^ 56) (by decide +kernel), ← t (2 ^ 40) (2 ^ 48) (by decide +kernel), ← t (2 ^ 32) (2 ^ 40) (by decide +kernel), ← t (2 ^ 24) (2 ^ 32) (by decide +kernel), ← t (2 ^ 16) (2 ^ 24) (by decide +kernel), ← t (2 ^ 8) (2 ^ 16) (by decide +kernel), ← t (2 ^ 0) (2 ^ 8) (by decide +kernel), Nat.pow_zero, Nat.div_one]
theorem btx_cn (X i : Nat) : pcb (btx X i) = q_cn (fun j => Nat.testBit X (8 * i + j)) 8 := by
  unfold pcb
  refine q_cn_c (fun j hj => ?_)
  unfold btx
  rw [Nat.testBit_mod_two_pow, Nat.testBit_div_two_pow, Nat.add_comm j]
  simp [hj]
theorem lb_all (x : Int64) : (lb32 (lb16 (lb8 (lb4 (lb2 (lb1 x)))))).toInt32 &&& 127 = Int32.ofNat (q_cn (fun j => x.toBitVec.getLsbD j) 64) := by
  have hb : ∀ i, i < 8 → btx (nb x) i < 256 := fun i _ => Nat.mod_lt _ (by decide)
  have h1 := lb1_by hb (btx_by (nb_lt x))
  have h2 := lb2_by (fun i hi => (g1b_all _ (hb i hi)).2.2) h1
  have h4 := lb4_by hb h2
  have h8 := lb32_by (fun i hi => (g4b_all _ (hb i hi)).2.2.1) h4
  refine l2i7 _ (h8.trans ?_)
  have s : ∀ i, q_cn (fun j => x.toBitVec.getLsbD j) (8 * i + 8) = q_cn (fun j => x.toBitVec.getLsbD j) (8 * i) + pcb (btx (nb x) i) := by
    intro i
    rw [cn_add, btx_cn]
    rfl
  have z : q_cn (fun j => x.toBitVec.getLsbD j) 0 = 0 := rfl
  generalize q_cn (fun j => x.toBitVec.getLsbD j) = Q at s z ⊢
  have s0 := s 0
  have s1 := s 1
  have s2 := s 2
  have s3 := s 3
  have s4 := s 4
  have s5 := s 5
  have s6 := s 6
  have s7 := s 7
  simp only [Nat.reduceMul, Nat.reduceAdd] at s0 s1 s2 s3 s4 s5 s6 s7
  rw [s7, s6, s5, s4, s3, s2, s1, s0, z, Nat.zero_add]
