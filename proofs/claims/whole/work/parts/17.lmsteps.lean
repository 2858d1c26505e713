/-! A ROW AN INSTRUCTION, over the light machine with its cells where they lie -/
abbrev lm_at (M pc : Nat) (i : Instr) (n : Nat) : Prop := lm_f (lm_tabs.getD M []) pc = some (i, n)
section LmSteps
variable {d M pc : Nat} {L : lm_L} {st : List Value} {h : lm_H} {Q : Option Value → lm_H → Prop}
theorem ls_of {i : Instr} {n : Nat} (hf : lm_at M pc i n) (hp : lm_stepK (lm_ct M) (lm_sh h) (lm_r h) (lm_own.getD M 0) (lm_rs.getD M none) i n pc L st h False (fun pc' L' st' h' => lm_W d M pc' L' st' h' Q) (fun v => Q v h)
      (fun m args rest => lm_call d m args h (fun v h' => lm_W d M (pc + 3) L (v.toList ++ rest) h' Q))) : lm_W d M pc L st h Q := by
  rw [lm_W_step, hf]
  exact hp
theorem ls_ofS {i : Instr} {n : Nat} (hl : lm_Lay h) (hf : lm_at M pc i n) (hp : lm_stepK (lm_ct M) (lm_shS h) (lm_rfS h) (lm_own.getD M 0) (lm_rs.getD M none) i n pc L st h False (fun pc' L' st' h' => lm_W d M pc' L' st' h' Q) (fun v => Q v h)
      (fun m args rest => lm_call d m args h (fun v h' => lm_W d M (pc + 3) L (v.toList ++ rest) h' Q))) : lm_W d M pc L st h Q := by
  rw [lm_shS_eq hl, lm_rfS_eq hl] at hp
  exact ls_of hf hp
theorem lm_shS_of {a : Nat} {x : Nat × Nat} (hs : lm_S[a]? = some x) : lm_shS h a = some x := by
  unfold lm_shS
  rw [hs]
theorem lm_in_of {α : Prop} {x : Int32} {n : Nat} (hi : ¬ (x < 0 ∨ n ≤ x.toNatClampNeg)) (k : α) : lm_in x n False α := by
  unfold lm_in
  rw [if_neg hi]
  exact k
theorem ls_if {c : Prop} [Decidable c] {A B X : Prop} (hyp : if c then A else B) (ha : c → A → X) (hb : ¬ c → B → X) : X := by
  rcases lm_if_B hyp with ⟨h1, h2⟩ | ⟨h1, h2⟩
  · exact ha h1 h2
  · exact hb h1 h2

theorem ls_null (hf : lm_at M pc (.aconst_null) 1) (k : lm_W d M (pc + 1) L (.null :: st) h Q) : lm_W d M pc L (st) h Q := ls_of hf k
theorem ls_iconst {n : Int} (v : Int32) (hf : lm_at M pc (.iconst n) 1) (hv : Int32.ofInt n = v) (k : lm_W d M (pc + 1) L (.int v :: st) h Q) : lm_W d M pc L st h Q := ls_of hf (by subst hv; exact k)
theorem ls_bipush {n : Int} (v : Int32) (hf : lm_at M pc (.bipush n) 2) (hv : (Int8.ofInt n).toInt32 = v) (k : lm_W d M (pc + 2) L (.int v :: st) h Q) : lm_W d M pc L st h Q := ls_of hf (by subst hv; exact k)
theorem ls_sipush {n : Int} (v : Int32) (hf : lm_at M pc (.sipush n) 3) (hv : (Int16.ofInt n).toInt32 = v) (k : lm_W d M (pc + 3) L (.int v :: st) h Q) : lm_W d M pc L st h Q := ls_of hf (by subst hv; exact k)
theorem ls_lconst {n : Fin 2} (v : Int64) (hf : lm_at M pc (.lconst n) 1) (hv : Int64.ofNat (n : Nat) = v) (k : lm_W d M (pc + 1) L (.long v :: st) h Q) : lm_W d M pc L st h Q := ls_of hf (by subst hv; exact k)
theorem ls_ldc {j : Nat} {e : Int32 × Nat} (hf : lm_at M pc (.ldc j) 2) (hc : lm_lk lm_pcs (lm_own.getD M 0) j = some e) (k : lm_W d M (pc + 2) L (.int e.1 :: st) h Q) : lm_W d M pc L st h Q := ls_of hf (by
  show lm_o (lm_lk lm_pcs _ j) _ _
  rw [hc]
  exact k)
theorem ls_ldcS {j : Nat} {e : Nat × Nat} (hf : lm_at M pc (.ldc j) 2) (hn : lm_lk lm_pcs (lm_own.getD M 0) j = none) (hc : lm_lk lm_pss (lm_own.getD M 0) j = some e) (k : lm_W d M (pc + 2) L (.ref (1000001 + e.1) :: st) h Q) : lm_W d M pc L st h Q := ls_of hf (by
  show lm_o (lm_lk lm_pcs _ j) (lm_o (lm_lk lm_pss _ j) _ _) _
  rw [hn, hc]
  exact k)
theorem ls_ldcw {j : Nat} {e : Int32 × Nat} (hf : lm_at M pc (.ldc_w j) 3) (hc : lm_lk lm_pcs (lm_own.getD M 0) j = some e) (k : lm_W d M (pc + 3) L (.int e.1 :: st) h Q) : lm_W d M pc L st h Q := ls_of hf (by
  show lm_o (lm_lk lm_pcs _ j) _ _
  rw [hc]
  exact k)
theorem ls_ldc2 {j : Nat} {e : Int64 × Nat} (hf : lm_at M pc (.ldc2_w j) 3) (hc : lm_lk lm_pls (lm_own.getD M 0) j = some e) (k : lm_W d M (pc + 3) L (.long e.1 :: st) h Q) : lm_W d M pc L st h Q := ls_of hf (by
  show lm_o (lm_lk lm_pls _ j) _ _
  rw [hc]
  exact k)
theorem ls_getst {j : Nat} {e : Nat × Nat} (hf : lm_at M pc (.getstatic j) 3) (hc : lm_lk lm_pgs (lm_own.getD M 0) j = some e) (h0 : e.1 = 0) (k : lm_W d M (pc + 3) L (.int 1 :: st) h Q) : lm_W d M pc L st h Q := ls_of hf (by
  show lm_o (lm_lk lm_pgs _ j) _ _
  rw [hc]
  show if e.1 = 0 then _ else _
  rw [if_pos h0]
  exact k)
theorem ls_getstR {j : Nat} {e : Nat × Nat} {r : Option Nat} (hf : lm_at M pc (.getstatic j) 3) (hc : lm_lk lm_pgs (lm_own.getD M 0) j = some e) (h0 : e.1 ≠ 0) (hr : lm_r h 1000001 0 = r) (k : lm_W d M (pc + 3) L (va_rf r :: st) h Q) : lm_W d M pc L st h Q := ls_of hf (by
  show lm_o (lm_lk lm_pgs _ j) _ _
  rw [hc]
  show if e.1 = 0 then _ else _
  rw [if_neg h0, hr]
  exact k)
theorem ls_iload_n {j : Fin 4} {x : Int32} (hf : lm_at M pc (.iload_n j) 1) (hL : L.getD j none = some (.int x)) (k : lm_W d M (pc + 1) L (.int x :: st) h Q) : lm_W d M pc L st h Q := ls_of hf (by
  show lm_o (L.getD j none) _ _
  rw [hL]
  exact k)
theorem ls_istore_n {j : Fin 4} {x : Int32} (L' : lm_L) (hf : lm_at M pc (.istore_n j) 1) (hk : j < L.length) (hL : lm_put L j (.int x) = L') (k : lm_W d M (pc + 1) L' st h Q) : lm_W d M pc L (.int x :: st) h Q := ls_of hf (by
  show if j < L.length then _ else _
  rw [if_pos hk]
  subst hL
  exact k)
theorem ls_iload {j : Nat} {x : Int32} (hf : lm_at M pc (.iload j) 2) (hL : L.getD j none = some (.int x)) (k : lm_W d M (pc + 2) L (.int x :: st) h Q) : lm_W d M pc L st h Q := ls_of hf (by
  show lm_o (L.getD j none) _ _
  rw [hL]
  exact k)
theorem ls_istore {j : Nat} {x : Int32} (L' : lm_L) (hf : lm_at M pc (.istore j) 2) (hk : j < L.length) (hL : lm_put L j (.int x) = L') (k : lm_W d M (pc + 2) L' st h Q) : lm_W d M pc L (.int x :: st) h Q := ls_of hf (by
  show if j < L.length then _ else _
  rw [if_pos hk]
  subst hL
  exact k)
theorem ls_lload_n {j : Fin 4} {x : Int64} (hf : lm_at M pc (.lload_n j) 1) (hL : L.getD j none = some (.long x)) (k : lm_W d M (pc + 1) L (.long x :: st) h Q) : lm_W d M pc L st h Q := ls_of hf (by
  show lm_o (L.getD j none) _ _
  rw [hL]
  exact k)
theorem ls_lstore_n {j : Fin 4} {x : Int64} (L' : lm_L) (hf : lm_at M pc (.lstore_n j) 1) (hk : j.val + 1 < L.length) (hL : lm_putL L j (.long x) = L') (k : lm_W d M (pc + 1) L' st h Q) : lm_W d M pc L (.long x :: st) h Q := ls_of hf (by
  show if j.val + 1 < L.length then _ else _
  rw [if_pos hk]
  subst hL
  exact k)
theorem ls_lload {j : Nat} {x : Int64} (hf : lm_at M pc (.lload j) 2) (hL : L.getD j none = some (.long x)) (k : lm_W d M (pc + 2) L (.long x :: st) h Q) : lm_W d M pc L st h Q := ls_of hf (by
  show lm_o (L.getD j none) _ _
  rw [hL]
  exact k)
theorem ls_lstore {j : Nat} {x : Int64} (L' : lm_L) (hf : lm_at M pc (.lstore j) 2) (hk : j + 1 < L.length) (hL : lm_putL L j (.long x) = L') (k : lm_W d M (pc + 2) L' st h Q) : lm_W d M pc L (.long x :: st) h Q := ls_of hf (by
  show if j + 1 < L.length then _ else _
  rw [if_pos hk]
  subst hL
  exact k)
theorem ls_aload_n {j : Fin 4} {x : Nat} (hf : lm_at M pc (.aload_n j) 1) (hL : L.getD j none = some (.ref x)) (k : lm_W d M (pc + 1) L (.ref x :: st) h Q) : lm_W d M pc L st h Q := ls_of hf (by
  show lm_o (L.getD j none) _ _
  rw [hL]
  exact k)
theorem ls_astore_n {j : Fin 4} {x : Nat} (L' : lm_L) (hf : lm_at M pc (.astore_n j) 1) (hk : j < L.length) (hL : lm_put L j (.ref x) = L') (k : lm_W d M (pc + 1) L' st h Q) : lm_W d M pc L (.ref x :: st) h Q := ls_of hf (by
  show if j < L.length then _ else _
  rw [if_pos hk]
  subst hL
  exact k)
theorem ls_aload {j : Nat} {x : Nat} (hf : lm_at M pc (.aload j) 2) (hL : L.getD j none = some (.ref x)) (k : lm_W d M (pc + 2) L (.ref x :: st) h Q) : lm_W d M pc L st h Q := ls_of hf (by
  show lm_o (L.getD j none) _ _
  rw [hL]
  exact k)
theorem ls_astore {j : Nat} {x : Nat} (L' : lm_L) (hf : lm_at M pc (.astore j) 2) (hk : j < L.length) (hL : lm_put L j (.ref x) = L') (k : lm_W d M (pc + 2) L' st h Q) : lm_W d M pc L (.ref x :: st) h Q := ls_of hf (by
  show if j < L.length then _ else _
  rw [if_pos hk]
  subst hL
  exact k)
theorem ls_aloadN_n {j : Fin 4} (hf : lm_at M pc (.aload_n j) 1) (hL : L.getD j none = some .null) (k : lm_W d M (pc + 1) L (.null :: st) h Q) : lm_W d M pc L st h Q := ls_of hf (by
  show lm_o (L.getD j none) _ _
  rw [hL]
  exact k)
theorem ls_astoreN_n {j : Fin 4} (L' : lm_L) (hf : lm_at M pc (.astore_n j) 1) (hk : j < L.length) (hL : lm_put L j .null = L') (k : lm_W d M (pc + 1) L' st h Q) : lm_W d M pc L (.null :: st) h Q := ls_of hf (by
  show if _ then _ else _
  rw [if_pos hk]
  subst hL
  exact k)
theorem ls_aloadN {j : Nat} (hf : lm_at M pc (.aload j) 2) (hL : L.getD j none = some .null) (k : lm_W d M (pc + 2) L (.null :: st) h Q) : lm_W d M pc L st h Q := ls_of hf (by
  show lm_o (L.getD j none) _ _
  rw [hL]
  exact k)
theorem ls_astoreN {j : Nat} (L' : lm_L) (hf : lm_at M pc (.astore j) 2) (hk : j < L.length) (hL : lm_put L j .null = L') (k : lm_W d M (pc + 2) L' st h Q) : lm_W d M pc L (.null :: st) h Q := ls_of hf (by
  show if _ then _ else _
  rw [if_pos hk]
  subst hL
  exact k)
theorem ls_iinc {j : Nat} {n : Int} {x : Int32} (v : Int32) (L' : lm_L) (hf : lm_at M pc (.iinc j n) 3) (hL : L.getD j none = some (.int x)) (hk : j < L.length) (hv : x + Int32.ofInt n = v) (hL' : lm_put L j (.int v) = L') (k : lm_W d M (pc + 3) L' st h Q) : lm_W d M pc L st h Q := ls_of hf (by
  show lm_o (L.getD j none) _ _
  rw [hL]
  show if j < L.length then _ else _
  rw [if_pos hk]
  subst hL'
  subst hv
  exact k)
theorem ls_iadd {x y : Int32} (v : Int32) (hf : lm_at M pc .iadd 1) (hv : x + y = v) (k : lm_W d M (pc + 1) L (.int v :: st) h Q) : lm_W d M pc L (.int y :: .int x :: st) h Q := ls_of hf (by subst hv; exact k)
theorem ls_isub {x y : Int32} (v : Int32) (hf : lm_at M pc .isub 1) (hv : x - y = v) (k : lm_W d M (pc + 1) L (.int v :: st) h Q) : lm_W d M pc L (.int y :: .int x :: st) h Q := ls_of hf (by subst hv; exact k)
theorem ls_imul {x y : Int32} (v : Int32) (hf : lm_at M pc .imul 1) (hv : x * y = v) (k : lm_W d M (pc + 1) L (.int v :: st) h Q) : lm_W d M pc L (.int y :: .int x :: st) h Q := ls_of hf (by subst hv; exact k)
theorem ls_iand {x y : Int32} (v : Int32) (hf : lm_at M pc .iand 1) (hv : x &&& y = v) (k : lm_W d M (pc + 1) L (.int v :: st) h Q) : lm_W d M pc L (.int y :: .int x :: st) h Q := ls_of hf (by subst hv; exact k)
theorem ls_ior {x y : Int32} (v : Int32) (hf : lm_at M pc .ior 1) (hv : x ||| y = v) (k : lm_W d M (pc + 1) L (.int v :: st) h Q) : lm_W d M pc L (.int y :: .int x :: st) h Q := ls_of hf (by subst hv; exact k)
theorem ls_ixor {x y : Int32} (v : Int32) (hf : lm_at M pc .ixor 1) (hv : x ^^^ y = v) (k : lm_W d M (pc + 1) L (.int v :: st) h Q) : lm_W d M pc L (.int y :: .int x :: st) h Q := ls_of hf (by subst hv; exact k)
theorem ls_ishl {x y : Int32} (v : Int32) (hf : lm_at M pc .ishl 1) (hv : x <<< (y &&& 31) = v) (k : lm_W d M (pc + 1) L (.int v :: st) h Q) : lm_W d M pc L (.int y :: .int x :: st) h Q := ls_of hf (by subst hv; exact k)
theorem ls_ishr {x y : Int32} (v : Int32) (hf : lm_at M pc .ishr 1) (hv : x >>> (y &&& 31) = v) (k : lm_W d M (pc + 1) L (.int v :: st) h Q) : lm_W d M pc L (.int y :: .int x :: st) h Q := ls_of hf (by subst hv; exact k)
theorem ls_iushr {x y : Int32} (v : Int32) (hf : lm_at M pc .iushr 1) (hv : (x.toUInt32 >>> (y.toUInt32 &&& Int32.toUInt32 31)).toInt32 = v) (k : lm_W d M (pc + 1) L (.int v :: st) h Q) : lm_W d M pc L (.int y :: .int x :: st) h Q := ls_of hf (by subst hv; exact k)
theorem ls_ladd {x y : Int64} (v : Int64) (hf : lm_at M pc .ladd 1) (hv : x + y = v) (k : lm_W d M (pc + 1) L (.long v :: st) h Q) : lm_W d M pc L (.long y :: .long x :: st) h Q := ls_of hf (by subst hv; exact k)
theorem ls_lsub {x y : Int64} (v : Int64) (hf : lm_at M pc .lsub 1) (hv : x - y = v) (k : lm_W d M (pc + 1) L (.long v :: st) h Q) : lm_W d M pc L (.long y :: .long x :: st) h Q := ls_of hf (by subst hv; exact k)
theorem ls_lmul {x y : Int64} (v : Int64) (hf : lm_at M pc .lmul 1) (hv : x * y = v) (k : lm_W d M (pc + 1) L (.long v :: st) h Q) : lm_W d M pc L (.long y :: .long x :: st) h Q := ls_of hf (by subst hv; exact k)
theorem ls_land {x y : Int64} (v : Int64) (hf : lm_at M pc .land 1) (hv : x &&& y = v) (k : lm_W d M (pc + 1) L (.long v :: st) h Q) : lm_W d M pc L (.long y :: .long x :: st) h Q := ls_of hf (by subst hv; exact k)
theorem ls_lor {x y : Int64} (v : Int64) (hf : lm_at M pc .lor 1) (hv : x ||| y = v) (k : lm_W d M (pc + 1) L (.long v :: st) h Q) : lm_W d M pc L (.long y :: .long x :: st) h Q := ls_of hf (by subst hv; exact k)
theorem ls_idiv {x y : Int32} (v : Int32) (hf : lm_at M pc .idiv 1) (hy : ¬ y = 0) (hv : x / y = v) (k : lm_W d M (pc + 1) L (.int v :: st) h Q) : lm_W d M pc L (.int y :: .int x :: st) h Q := ls_of hf (by
  show if y = 0 then _ else _
  rw [if_neg hy]
  subst hv
  exact k)
theorem ls_irem {x y : Int32} (v : Int32) (hf : lm_at M pc .irem 1) (hy : ¬ y = 0) (hv : x - x / y * y = v) (k : lm_W d M (pc + 1) L (.int v :: st) h Q) : lm_W d M pc L (.int y :: .int x :: st) h Q := ls_of hf (by
  show if y = 0 then _ else _
  rw [if_neg hy]
  subst hv
  exact k)
theorem ls_ldiv {x y : Int64} (v : Int64) (hf : lm_at M pc .ldiv 1) (hy : ¬ y = 0) (hv : x / y = v) (k : lm_W d M (pc + 1) L (.long v :: st) h Q) : lm_W d M pc L (.long y :: .long x :: st) h Q := ls_of hf (by
  show if y = 0 then _ else _
  rw [if_neg hy]
  subst hv
  exact k)
theorem ls_lrem {x y : Int64} (v : Int64) (hf : lm_at M pc .lrem 1) (hy : ¬ y = 0) (hv : x - x / y * y = v) (k : lm_W d M (pc + 1) L (.long v :: st) h Q) : lm_W d M pc L (.long y :: .long x :: st) h Q := ls_of hf (by
  show if y = 0 then _ else _
  rw [if_neg hy]
  subst hv
  exact k)
theorem ls_lshl {y : Int32} {x : Int64} (v : Int64) (hf : lm_at M pc .lshl 1) (hv : x <<< (y.toInt64 &&& 63) = v) (k : lm_W d M (pc + 1) L (.long v :: st) h Q) : lm_W d M pc L (.int y :: .long x :: st) h Q := ls_of hf (by subst hv; exact k)
theorem ls_lshr {y : Int32} {x : Int64} (v : Int64) (hf : lm_at M pc .lshr 1) (hv : x >>> (y.toInt64 &&& 63) = v) (k : lm_W d M (pc + 1) L (.long v :: st) h Q) : lm_W d M pc L (.int y :: .long x :: st) h Q := ls_of hf (by subst hv; exact k)
theorem ls_lushr {y : Int32} {x : Int64} (v : Int64) (hf : lm_at M pc .lushr 1) (hv : (x.toUInt64 >>> (y.toInt64.toUInt64 &&& Int64.toUInt64 63)).toInt64 = v) (k : lm_W d M (pc + 1) L (.long v :: st) h Q) : lm_W d M pc L (.int y :: .long x :: st) h Q := ls_of hf (by subst hv; exact k)
theorem ls_lcmp {x y : Int64} (hf : lm_at M pc .lcmp 1) (k : lm_W d M (pc + 1) L (.int (lg_cmp x y) :: st) h Q) : lm_W d M pc L (.long y :: .long x :: st) h Q := ls_of hf k
theorem ls_ineg {x : Int32} (v : Int32) (hf : lm_at M pc .ineg 1) (hv : -x = v) (k : lm_W d M (pc + 1) L (.int v :: st) h Q) : lm_W d M pc L (.int x :: st) h Q := ls_of hf (by subst hv; exact k)
theorem ls_i2l {x : Int32} (v : Int64) (hf : lm_at M pc .i2l 1) (hv : x.toInt64 = v) (k : lm_W d M (pc + 1) L (.long v :: st) h Q) : lm_W d M pc L (.int x :: st) h Q := ls_of hf (by subst hv; exact k)
theorem ls_l2i {x : Int64} (v : Int32) (hf : lm_at M pc .l2i 1) (hv : x.toInt32 = v) (k : lm_W d M (pc + 1) L (.int v :: st) h Q) : lm_W d M pc L (.long x :: st) h Q := ls_of hf (by subst hv; exact k)
theorem ls_i2b {x : Int32} (v : Int32) (hf : lm_at M pc .i2b 1) (hv : x.toInt8.toInt32 = v) (k : lm_W d M (pc + 1) L (.int v :: st) h Q) : lm_W d M pc L (.int x :: st) h Q := ls_of hf (by subst hv; exact k)
theorem ls_i2c {x : Int32} (v : Int32) (hf : lm_at M pc .i2c 1) (hv : (x.toUInt32 % 65536).toInt32 = v) (k : lm_W d M (pc + 1) L (.int v :: st) h Q) : lm_W d M pc L (.int x :: st) h Q := ls_of hf (by subst hv; exact k)
theorem ls_dup {v : Value} (hf : lm_at M pc .dup 1) (hv : v.category = 1) (k : lm_W d M (pc + 1) L (v :: v :: st) h Q) : lm_W d M pc L (v :: st) h Q := ls_of hf (by
  show if v.category = 1 then _ else _
  rw [if_pos hv]
  exact k)
theorem ls_pop {v : Value} (hf : lm_at M pc .pop 1) (hv : v.category = 1) (k : lm_W d M (pc + 1) L st h Q) : lm_W d M pc L (v :: st) h Q := ls_of hf (by
  show if v.category = 1 then _ else _
  rw [if_pos hv]
  exact k)
theorem ls_dup2 {v u : Value} (hf : lm_at M pc .dup2 1) (hv : v.category = 1) (hu : u.category = 1) (k : lm_W d M (pc + 1) L (v :: u :: v :: u :: st) h Q) : lm_W d M pc L (v :: u :: st) h Q := ls_of hf (by
  show if v.category = 2 then _ else (if u.category = 1 then _ else _)
  rw [if_neg (by rw [hv]; decide), if_pos hu]
  exact k)
theorem ls_goto {off : Int} (t : Nat) (hf : lm_at M pc (.goto off) 3) (ht : (pc : Int) + off = (t : Int)) (k : lm_W d M t L st h Q) : lm_W d M pc L st h Q := ls_of hf (by
  simp only [lm_stepK]
  unfold lm_tg
  rw [ht, if_pos (Int.natCast_nonneg t), Int.toNat_natCast]
  exact k)
theorem lm_tg_of {off : Int} {t : Nat} {k : Nat → Prop} (ht : (pc : Int) + off = (t : Int)) (hk : k t) : lm_tg pc off False k := by
  unfold lm_tg
  rw [ht, if_pos (Int.natCast_nonneg t), Int.toNat_natCast]
  exact hk
theorem ls_icmp_eq {off : Int} {x y : Int32} {A B : Prop} (t : Nat) (hf : lm_at M pc (.if_icmp .eq off) 3) (ht : (pc : Int) + off = (t : Int)) (hyp : if x = y then A else B) (ka : x = y → A → lm_W d M (t) L st h Q) (kb : ¬ x = y → B → lm_W d M (pc + 3) L st h Q) : lm_W d M pc L (.int y :: .int x :: st) h Q := ls_of hf (by
  simp only [lm_stepK, lm_pI]
  refine lm_tg_of ht ?_
  simp only [lm_br]
  exact ls_if hyp (fun h1 h2 => by rw [if_pos h1]; exact ka h1 h2) (fun h1 h2 => by rw [if_neg h1]; exact kb h1 h2))
theorem ls_icmp_eq_T {off : Int} {x y : Int32} (t : Nat) (hf : lm_at M pc (.if_icmp .eq off) 3) (ht : (pc : Int) + off = (t : Int)) (hc : x = y) (k : lm_W d M (t) L st h Q) : lm_W d M pc L (.int y :: .int x :: st) h Q := ls_of hf (by
  simp only [lm_stepK, lm_pI]
  refine lm_tg_of ht ?_
  simp only [lm_br]
  rw [if_pos hc]
  exact k)
theorem ls_icmp_eq_F {off : Int} {x y : Int32} (t : Nat) (hf : lm_at M pc (.if_icmp .eq off) 3) (ht : (pc : Int) + off = (t : Int)) (hc : ¬ x = y) (k : lm_W d M (pc + 3) L st h Q) : lm_W d M pc L (.int y :: .int x :: st) h Q := ls_of hf (by
  simp only [lm_stepK, lm_pI]
  refine lm_tg_of ht ?_
  simp only [lm_br]
  rw [if_neg hc]
  exact k)
theorem ls_if_eq {off : Int} {x : Int32} {A B : Prop} (t : Nat) (hf : lm_at M pc (.ifCond .eq off) 3) (ht : (pc : Int) + off = (t : Int)) (hyp : if x = 0 then A else B) (ka : x = 0 → A → lm_W d M (t) L st h Q) (kb : ¬ x = 0 → B → lm_W d M (pc + 3) L st h Q) : lm_W d M pc L (.int x :: st) h Q := ls_of hf (by
  simp only [lm_stepK, lm_pI]
  refine lm_tg_of ht ?_
  simp only [lm_br]
  exact ls_if hyp (fun h1 h2 => by rw [if_pos h1]; exact ka h1 h2) (fun h1 h2 => by rw [if_neg h1]; exact kb h1 h2))
theorem ls_if_eq_T {off : Int} {x : Int32} (t : Nat) (hf : lm_at M pc (.ifCond .eq off) 3) (ht : (pc : Int) + off = (t : Int)) (hc : x = 0) (k : lm_W d M (t) L st h Q) : lm_W d M pc L (.int x :: st) h Q := ls_of hf (by
  simp only [lm_stepK, lm_pI]
  refine lm_tg_of ht ?_
  simp only [lm_br]
  rw [if_pos hc]
  exact k)
theorem ls_if_eq_F {off : Int} {x : Int32} (t : Nat) (hf : lm_at M pc (.ifCond .eq off) 3) (ht : (pc : Int) + off = (t : Int)) (hc : ¬ x = 0) (k : lm_W d M (pc + 3) L st h Q) : lm_W d M pc L (.int x :: st) h Q := ls_of hf (by
  simp only [lm_stepK, lm_pI]
  refine lm_tg_of ht ?_
  simp only [lm_br]
  rw [if_neg hc]
  exact k)
theorem ls_icmp_ne {off : Int} {x y : Int32} {A B : Prop} (t : Nat) (hf : lm_at M pc (.if_icmp .ne off) 3) (ht : (pc : Int) + off = (t : Int)) (hyp : if x = y then A else B) (ka : x = y → A → lm_W d M (pc + 3) L st h Q) (kb : ¬ x = y → B → lm_W d M (t) L st h Q) : lm_W d M pc L (.int y :: .int x :: st) h Q := ls_of hf (by
  simp only [lm_stepK, lm_pI]
  refine lm_tg_of ht ?_
  simp only [lm_br]
  exact ls_if hyp (fun h1 h2 => by rw [if_pos h1]; exact ka h1 h2) (fun h1 h2 => by rw [if_neg h1]; exact kb h1 h2))
theorem ls_icmp_ne_T {off : Int} {x y : Int32} (t : Nat) (hf : lm_at M pc (.if_icmp .ne off) 3) (ht : (pc : Int) + off = (t : Int)) (hc : x = y) (k : lm_W d M (pc + 3) L st h Q) : lm_W d M pc L (.int y :: .int x :: st) h Q := ls_of hf (by
  simp only [lm_stepK, lm_pI]
  refine lm_tg_of ht ?_
  simp only [lm_br]
  rw [if_pos hc]
  exact k)
theorem ls_icmp_ne_F {off : Int} {x y : Int32} (t : Nat) (hf : lm_at M pc (.if_icmp .ne off) 3) (ht : (pc : Int) + off = (t : Int)) (hc : ¬ x = y) (k : lm_W d M (t) L st h Q) : lm_W d M pc L (.int y :: .int x :: st) h Q := ls_of hf (by
  simp only [lm_stepK, lm_pI]
  refine lm_tg_of ht ?_
  simp only [lm_br]
  rw [if_neg hc]
  exact k)
theorem ls_if_ne {off : Int} {x : Int32} {A B : Prop} (t : Nat) (hf : lm_at M pc (.ifCond .ne off) 3) (ht : (pc : Int) + off = (t : Int)) (hyp : if x = 0 then A else B) (ka : x = 0 → A → lm_W d M (pc + 3) L st h Q) (kb : ¬ x = 0 → B → lm_W d M (t) L st h Q) : lm_W d M pc L (.int x :: st) h Q := ls_of hf (by
  simp only [lm_stepK, lm_pI]
  refine lm_tg_of ht ?_
  simp only [lm_br]
  exact ls_if hyp (fun h1 h2 => by rw [if_pos h1]; exact ka h1 h2) (fun h1 h2 => by rw [if_neg h1]; exact kb h1 h2))
theorem ls_if_ne_T {off : Int} {x : Int32} (t : Nat) (hf : lm_at M pc (.ifCond .ne off) 3) (ht : (pc : Int) + off = (t : Int)) (hc : x = 0) (k : lm_W d M (pc + 3) L st h Q) : lm_W d M pc L (.int x :: st) h Q := ls_of hf (by
  simp only [lm_stepK, lm_pI]
  refine lm_tg_of ht ?_
  simp only [lm_br]
  rw [if_pos hc]
  exact k)
theorem ls_if_ne_F {off : Int} {x : Int32} (t : Nat) (hf : lm_at M pc (.ifCond .ne off) 3) (ht : (pc : Int) + off = (t : Int)) (hc : ¬ x = 0) (k : lm_W d M (t) L st h Q) : lm_W d M pc L (.int x :: st) h Q := ls_of hf (by
  simp only [lm_stepK, lm_pI]
  refine lm_tg_of ht ?_
  simp only [lm_br]
  rw [if_neg hc]
  exact k)
theorem ls_icmp_lt {off : Int} {x y : Int32} {A B : Prop} (t : Nat) (hf : lm_at M pc (.if_icmp .lt off) 3) (ht : (pc : Int) + off = (t : Int)) (hyp : if x < y then A else B) (ka : x < y → A → lm_W d M (t) L st h Q) (kb : ¬ x < y → B → lm_W d M (pc + 3) L st h Q) : lm_W d M pc L (.int y :: .int x :: st) h Q := ls_of hf (by
  simp only [lm_stepK, lm_pI]
  refine lm_tg_of ht ?_
  simp only [lm_br]
  exact ls_if hyp (fun h1 h2 => by rw [if_pos h1]; exact ka h1 h2) (fun h1 h2 => by rw [if_neg h1]; exact kb h1 h2))
theorem ls_icmp_lt_T {off : Int} {x y : Int32} (t : Nat) (hf : lm_at M pc (.if_icmp .lt off) 3) (ht : (pc : Int) + off = (t : Int)) (hc : x < y) (k : lm_W d M (t) L st h Q) : lm_W d M pc L (.int y :: .int x :: st) h Q := ls_of hf (by
  simp only [lm_stepK, lm_pI]
  refine lm_tg_of ht ?_
  simp only [lm_br]
  rw [if_pos hc]
  exact k)
theorem ls_icmp_lt_F {off : Int} {x y : Int32} (t : Nat) (hf : lm_at M pc (.if_icmp .lt off) 3) (ht : (pc : Int) + off = (t : Int)) (hc : ¬ x < y) (k : lm_W d M (pc + 3) L st h Q) : lm_W d M pc L (.int y :: .int x :: st) h Q := ls_of hf (by
  simp only [lm_stepK, lm_pI]
  refine lm_tg_of ht ?_
  simp only [lm_br]
  rw [if_neg hc]
  exact k)
theorem ls_if_lt {off : Int} {x : Int32} {A B : Prop} (t : Nat) (hf : lm_at M pc (.ifCond .lt off) 3) (ht : (pc : Int) + off = (t : Int)) (hyp : if x < 0 then A else B) (ka : x < 0 → A → lm_W d M (t) L st h Q) (kb : ¬ x < 0 → B → lm_W d M (pc + 3) L st h Q) : lm_W d M pc L (.int x :: st) h Q := ls_of hf (by
  simp only [lm_stepK, lm_pI]
  refine lm_tg_of ht ?_
  simp only [lm_br]
  exact ls_if hyp (fun h1 h2 => by rw [if_pos h1]; exact ka h1 h2) (fun h1 h2 => by rw [if_neg h1]; exact kb h1 h2))
theorem ls_if_lt_T {off : Int} {x : Int32} (t : Nat) (hf : lm_at M pc (.ifCond .lt off) 3) (ht : (pc : Int) + off = (t : Int)) (hc : x < 0) (k : lm_W d M (t) L st h Q) : lm_W d M pc L (.int x :: st) h Q := ls_of hf (by
  simp only [lm_stepK, lm_pI]
  refine lm_tg_of ht ?_
  simp only [lm_br]
  rw [if_pos hc]
  exact k)
theorem ls_if_lt_F {off : Int} {x : Int32} (t : Nat) (hf : lm_at M pc (.ifCond .lt off) 3) (ht : (pc : Int) + off = (t : Int)) (hc : ¬ x < 0) (k : lm_W d M (pc + 3) L st h Q) : lm_W d M pc L (.int x :: st) h Q := ls_of hf (by
  simp only [lm_stepK, lm_pI]
  refine lm_tg_of ht ?_
  simp only [lm_br]
  rw [if_neg hc]
  exact k)
theorem ls_icmp_ge {off : Int} {x y : Int32} {A B : Prop} (t : Nat) (hf : lm_at M pc (.if_icmp .ge off) 3) (ht : (pc : Int) + off = (t : Int)) (hyp : if x < y then A else B) (ka : x < y → A → lm_W d M (pc + 3) L st h Q) (kb : ¬ x < y → B → lm_W d M (t) L st h Q) : lm_W d M pc L (.int y :: .int x :: st) h Q := ls_of hf (by
  simp only [lm_stepK, lm_pI]
  refine lm_tg_of ht ?_
  simp only [lm_br]
  exact ls_if hyp (fun h1 h2 => by rw [if_pos h1]; exact ka h1 h2) (fun h1 h2 => by rw [if_neg h1]; exact kb h1 h2))
theorem ls_icmp_ge_T {off : Int} {x y : Int32} (t : Nat) (hf : lm_at M pc (.if_icmp .ge off) 3) (ht : (pc : Int) + off = (t : Int)) (hc : x < y) (k : lm_W d M (pc + 3) L st h Q) : lm_W d M pc L (.int y :: .int x :: st) h Q := ls_of hf (by
  simp only [lm_stepK, lm_pI]
  refine lm_tg_of ht ?_
  simp only [lm_br]
  rw [if_pos hc]
  exact k)
theorem ls_icmp_ge_F {off : Int} {x y : Int32} (t : Nat) (hf : lm_at M pc (.if_icmp .ge off) 3) (ht : (pc : Int) + off = (t : Int)) (hc : ¬ x < y) (k : lm_W d M (t) L st h Q) : lm_W d M pc L (.int y :: .int x :: st) h Q := ls_of hf (by
  simp only [lm_stepK, lm_pI]
  refine lm_tg_of ht ?_
  simp only [lm_br]
  rw [if_neg hc]
  exact k)
theorem ls_if_ge {off : Int} {x : Int32} {A B : Prop} (t : Nat) (hf : lm_at M pc (.ifCond .ge off) 3) (ht : (pc : Int) + off = (t : Int)) (hyp : if x < 0 then A else B) (ka : x < 0 → A → lm_W d M (pc + 3) L st h Q) (kb : ¬ x < 0 → B → lm_W d M (t) L st h Q) : lm_W d M pc L (.int x :: st) h Q := ls_of hf (by
  simp only [lm_stepK, lm_pI]
  refine lm_tg_of ht ?_
  simp only [lm_br]
  exact ls_if hyp (fun h1 h2 => by rw [if_pos h1]; exact ka h1 h2) (fun h1 h2 => by rw [if_neg h1]; exact kb h1 h2))
theorem ls_if_ge_T {off : Int} {x : Int32} (t : Nat) (hf : lm_at M pc (.ifCond .ge off) 3) (ht : (pc : Int) + off = (t : Int)) (hc : x < 0) (k : lm_W d M (pc + 3) L st h Q) : lm_W d M pc L (.int x :: st) h Q := ls_of hf (by
  simp only [lm_stepK, lm_pI]
  refine lm_tg_of ht ?_
  simp only [lm_br]
  rw [if_pos hc]
  exact k)
theorem ls_if_ge_F {off : Int} {x : Int32} (t : Nat) (hf : lm_at M pc (.ifCond .ge off) 3) (ht : (pc : Int) + off = (t : Int)) (hc : ¬ x < 0) (k : lm_W d M (t) L st h Q) : lm_W d M pc L (.int x :: st) h Q := ls_of hf (by
  simp only [lm_stepK, lm_pI]
  refine lm_tg_of ht ?_
  simp only [lm_br]
  rw [if_neg hc]
  exact k)
theorem ls_icmp_gt {off : Int} {x y : Int32} {A B : Prop} (t : Nat) (hf : lm_at M pc (.if_icmp .gt off) 3) (ht : (pc : Int) + off = (t : Int)) (hyp : if y < x then A else B) (ka : y < x → A → lm_W d M (t) L st h Q) (kb : ¬ y < x → B → lm_W d M (pc + 3) L st h Q) : lm_W d M pc L (.int y :: .int x :: st) h Q := ls_of hf (by
  simp only [lm_stepK, lm_pI]
  refine lm_tg_of ht ?_
  simp only [lm_br]
  exact ls_if hyp (fun h1 h2 => by rw [if_pos h1]; exact ka h1 h2) (fun h1 h2 => by rw [if_neg h1]; exact kb h1 h2))
theorem ls_icmp_gt_T {off : Int} {x y : Int32} (t : Nat) (hf : lm_at M pc (.if_icmp .gt off) 3) (ht : (pc : Int) + off = (t : Int)) (hc : y < x) (k : lm_W d M (t) L st h Q) : lm_W d M pc L (.int y :: .int x :: st) h Q := ls_of hf (by
  simp only [lm_stepK, lm_pI]
  refine lm_tg_of ht ?_
  simp only [lm_br]
  rw [if_pos hc]
  exact k)
theorem ls_icmp_gt_F {off : Int} {x y : Int32} (t : Nat) (hf : lm_at M pc (.if_icmp .gt off) 3) (ht : (pc : Int) + off = (t : Int)) (hc : ¬ y < x) (k : lm_W d M (pc + 3) L st h Q) : lm_W d M pc L (.int y :: .int x :: st) h Q := ls_of hf (by
  simp only [lm_stepK, lm_pI]
  refine lm_tg_of ht ?_
  simp only [lm_br]
  rw [if_neg hc]
  exact k)
theorem ls_if_gt {off : Int} {x : Int32} {A B : Prop} (t : Nat) (hf : lm_at M pc (.ifCond .gt off) 3) (ht : (pc : Int) + off = (t : Int)) (hyp : if 0 < x then A else B) (ka : 0 < x → A → lm_W d M (t) L st h Q) (kb : ¬ 0 < x → B → lm_W d M (pc + 3) L st h Q) : lm_W d M pc L (.int x :: st) h Q := ls_of hf (by
  simp only [lm_stepK, lm_pI]
  refine lm_tg_of ht ?_
  simp only [lm_br]
  exact ls_if hyp (fun h1 h2 => by rw [if_pos h1]; exact ka h1 h2) (fun h1 h2 => by rw [if_neg h1]; exact kb h1 h2))
theorem ls_if_gt_T {off : Int} {x : Int32} (t : Nat) (hf : lm_at M pc (.ifCond .gt off) 3) (ht : (pc : Int) + off = (t : Int)) (hc : 0 < x) (k : lm_W d M (t) L st h Q) : lm_W d M pc L (.int x :: st) h Q := ls_of hf (by
  simp only [lm_stepK, lm_pI]
  refine lm_tg_of ht ?_
  simp only [lm_br]
  rw [if_pos hc]
  exact k)
theorem ls_if_gt_F {off : Int} {x : Int32} (t : Nat) (hf : lm_at M pc (.ifCond .gt off) 3) (ht : (pc : Int) + off = (t : Int)) (hc : ¬ 0 < x) (k : lm_W d M (pc + 3) L st h Q) : lm_W d M pc L (.int x :: st) h Q := ls_of hf (by
  simp only [lm_stepK, lm_pI]
  refine lm_tg_of ht ?_
  simp only [lm_br]
  rw [if_neg hc]
  exact k)
theorem ls_icmp_le {off : Int} {x y : Int32} {A B : Prop} (t : Nat) (hf : lm_at M pc (.if_icmp .le off) 3) (ht : (pc : Int) + off = (t : Int)) (hyp : if y < x then A else B) (ka : y < x → A → lm_W d M (pc + 3) L st h Q) (kb : ¬ y < x → B → lm_W d M (t) L st h Q) : lm_W d M pc L (.int y :: .int x :: st) h Q := ls_of hf (by
  simp only [lm_stepK, lm_pI]
  refine lm_tg_of ht ?_
  simp only [lm_br]
  exact ls_if hyp (fun h1 h2 => by rw [if_pos h1]; exact ka h1 h2) (fun h1 h2 => by rw [if_neg h1]; exact kb h1 h2))
theorem ls_icmp_le_T {off : Int} {x y : Int32} (t : Nat) (hf : lm_at M pc (.if_icmp .le off) 3) (ht : (pc : Int) + off = (t : Int)) (hc : y < x) (k : lm_W d M (pc + 3) L st h Q) : lm_W d M pc L (.int y :: .int x :: st) h Q := ls_of hf (by
  simp only [lm_stepK, lm_pI]
  refine lm_tg_of ht ?_
  simp only [lm_br]
  rw [if_pos hc]
  exact k)
theorem ls_icmp_le_F {off : Int} {x y : Int32} (t : Nat) (hf : lm_at M pc (.if_icmp .le off) 3) (ht : (pc : Int) + off = (t : Int)) (hc : ¬ y < x) (k : lm_W d M (t) L st h Q) : lm_W d M pc L (.int y :: .int x :: st) h Q := ls_of hf (by
  simp only [lm_stepK, lm_pI]
  refine lm_tg_of ht ?_
  simp only [lm_br]
  rw [if_neg hc]
  exact k)
theorem ls_if_le {off : Int} {x : Int32} {A B : Prop} (t : Nat) (hf : lm_at M pc (.ifCond .le off) 3) (ht : (pc : Int) + off = (t : Int)) (hyp : if 0 < x then A else B) (ka : 0 < x → A → lm_W d M (pc + 3) L st h Q) (kb : ¬ 0 < x → B → lm_W d M (t) L st h Q) : lm_W d M pc L (.int x :: st) h Q := ls_of hf (by
  simp only [lm_stepK, lm_pI]
  refine lm_tg_of ht ?_
  simp only [lm_br]
  exact ls_if hyp (fun h1 h2 => by rw [if_pos h1]; exact ka h1 h2) (fun h1 h2 => by rw [if_neg h1]; exact kb h1 h2))
theorem ls_if_le_T {off : Int} {x : Int32} (t : Nat) (hf : lm_at M pc (.ifCond .le off) 3) (ht : (pc : Int) + off = (t : Int)) (hc : 0 < x) (k : lm_W d M (pc + 3) L st h Q) : lm_W d M pc L (.int x :: st) h Q := ls_of hf (by
  simp only [lm_stepK, lm_pI]
  refine lm_tg_of ht ?_
  simp only [lm_br]
  rw [if_pos hc]
  exact k)
theorem ls_if_le_F {off : Int} {x : Int32} (t : Nat) (hf : lm_at M pc (.ifCond .le off) 3) (ht : (pc : Int) + off = (t : Int)) (hc : ¬ 0 < x) (k : lm_W d M (t) L st h Q) : lm_W d M pc L (.int x :: st) h Q := ls_of hf (by
  simp only [lm_stepK, lm_pI]
  refine lm_tg_of ht ?_
  simp only [lm_br]
  rw [if_neg hc]
  exact k)
theorem ls_table {dflt lo hi : Int} {offs : Array Int} {n : Nat} {x : Int32} (hf : lm_at M pc (.tableswitch dflt lo hi offs) n) (hc : 0 ≤ lo + 2147483648 ∧ lo + offs.size ≤ 2147483648 ∧ hi = lo + offs.size - 1) (k : lm_sw x (((List.range offs.size).map (fun (j : Nat) => lo + (j : Int))).zip offs.toList) dflt (fun off => lm_tg pc off False (fun t => lm_W d M t L st h Q))) : lm_W d M pc L (.int x :: st) h Q := ls_of hf (by
  show if _ then _ else _
  rw [if_pos hc]
  exact k)
theorem ls_look {dflt : Int} {ps : Array (Int × Int)} {n : Nat} {x : Int32} (hf : lm_at M pc (.lookupswitch dflt ps) n) (hc : (ps.toList.zip (ps.toList.drop 1)).all (fun (a, next) => a.1 < next.1) = true ∧ ps.toList.all (fun c => decide (-2147483648 ≤ c.1 ∧ c.1 < 2147483648)) = true) (k : lm_sw x ps.toList dflt (fun off => lm_tg pc off False (fun t => lm_W d M t L st h Q))) : lm_W d M pc L (.int x :: st) h Q := ls_of hf (by
  show if _ then _ else _
  rw [if_pos hc]
  exact k)
theorem ls_swC {x v : Int32} {c o : Int} {cs : List (Int × Int)} {dd : Int} {k : Int → Prop} {A B : Prop} (hv : Int32.ofInt c = v) (hyp : if x = v then A else B) (ka : x = v → A → k o) (kb : ¬ x = v → B → lm_sw x cs dd k) : lm_sw x ((c, o) :: cs) dd k := by
  subst hv
  show if x = Int32.ofInt c then _ else _
  exact ls_if hyp (fun h1 h2 => by rw [if_pos h1]; exact ka h1 h2) (fun h1 h2 => by rw [if_neg h1]; exact kb h1 h2)
theorem ls_ifnull {off : Int} {x : Option Nat} {A : Prop} {B : Nat → Prop} (t : Nat) (hf : lm_at M pc (.ifnull off) 3) (ht : (pc : Int) + off = (t : Int)) (hyp : lm_o x A B) (ka : x = none → A → lm_W d M t L st h Q) (kb : ∀ r, x = some r → B r → lm_W d M (pc + 3) L st h Q) : lm_W d M pc L (va_rf x :: st) h Q := by
  cases x with
  | none => exact ls_of hf (by simp only [lm_stepK, va_rf, lm_pA]; exact lm_tg_of ht (ka rfl hyp))
  | some r => exact ls_of hf (by simp only [lm_stepK, va_rf, lm_pA]; exact lm_tg_of ht (kb r rfl hyp))
theorem ls_ifnonnull {off : Int} {x : Option Nat} {A : Prop} {B : Nat → Prop} (t : Nat) (hf : lm_at M pc (.ifnonnull off) 3) (ht : (pc : Int) + off = (t : Int)) (hyp : lm_o x A B) (ka : x = none → A → lm_W d M (pc + 3) L st h Q) (kb : ∀ r, x = some r → B r → lm_W d M t L st h Q) : lm_W d M pc L (va_rf x :: st) h Q := by
  cases x with
  | none => exact ls_of hf (by simp only [lm_stepK, va_rf, lm_pA]; exact lm_tg_of ht (ka rfl hyp))
  | some r => exact ls_of hf (by simp only [lm_stepK, va_rf, lm_pA]; exact lm_tg_of ht (kb r rfl hyp))
abbrev lm_fp (M j ci sl kd : Nat) : Prop := ∃ f, lm_lk lm_pfs (lm_own.getD M 0) j = some f ∧ f.1 = ci ∧ f.2.1 = sl ∧ lm_fk (lm_ty ci sl) = kd
theorem ls_getI {j a ci sl : Nat} (hf : lm_at M pc (.getfield j) 3) (hp : lm_fp M j ci sl 0) (hl : lm_Lay h) (hs : lm_S[a]? = some (0, ci)) (k : lm_W d M (pc + 3) L (.int (lm_i h a sl) :: st) h Q) : lm_W d M pc L (.ref a :: st) h Q := ls_ofS hl hf (by
  obtain ⟨f, h1, rfl, rfl, h4⟩ := hp
  show lm_o (lm_shS h a) _ _
  rw [lm_shS_of hs]
  show lm_o (lm_lk lm_pfs _ j) _ _
  rw [h1]
  show if (0 : Nat) = 0 ∧ f.1 = f.1 then _ else _
  rw [if_pos ⟨rfl, rfl⟩]
  unfold lm_fget
  rw [h4]
  exact k)
theorem ls_getL {j a ci sl : Nat} (hf : lm_at M pc (.getfield j) 3) (hp : lm_fp M j ci sl 1) (hl : lm_Lay h) (hs : lm_S[a]? = some (0, ci)) (k : lm_W d M (pc + 3) L (.long (lm_l h a sl) :: st) h Q) : lm_W d M pc L (.ref a :: st) h Q := ls_ofS hl hf (by
  obtain ⟨f, h1, rfl, rfl, h4⟩ := hp
  show lm_o (lm_shS h a) _ _
  rw [lm_shS_of hs]
  show lm_o (lm_lk lm_pfs _ j) _ _
  rw [h1]
  show if (0 : Nat) = 0 ∧ f.1 = f.1 then _ else _
  rw [if_pos ⟨rfl, rfl⟩]
  unfold lm_fget
  rw [h4]
  exact k)
theorem ls_getR {j a ci sl r : Nat} (hf : lm_at M pc (.getfield j) 3) (hp : lm_fp M j ci sl 2) (hl : lm_Lay h) (hs : lm_S[a]? = some (0, ci)) (hr : lm_Fs a sl = some r) (k : lm_W d M (pc + 3) L (.ref r :: st) h Q) : lm_W d M pc L (.ref a :: st) h Q := ls_ofS hl hf (by
  obtain ⟨f, h1, rfl, rfl, h4⟩ := hp
  show lm_o (lm_shS h a) _ _
  rw [lm_shS_of hs]
  show lm_o (lm_lk lm_pfs _ j) _ _
  rw [h1]
  show if (0 : Nat) = 0 ∧ f.1 = f.1 then _ else _
  rw [if_pos ⟨rfl, rfl⟩]
  unfold lm_fget lm_rfS
  rw [h4, hr]
  exact k)
theorem ls_getD {j a ci sl : Nat} {r : Option Nat} (hf : lm_at M pc (.getfield j) 3) (hp : lm_fp M j ci sl 2) (hs : lm_sh h a = some (0, ci)) (hr : lm_r h a sl = r) (k : lm_W d M (pc + 3) L (va_rf r :: st) h Q) : lm_W d M pc L (.ref a :: st) h Q := ls_of hf (by
  obtain ⟨f, h1, rfl, rfl, h4⟩ := hp
  show lm_o (lm_sh h a) _ _
  rw [hs]
  show lm_o (lm_lk lm_pfs _ j) _ _
  rw [h1]
  show if (0 : Nat) = 0 ∧ f.1 = f.1 then _ else _
  rw [if_pos ⟨rfl, rfl⟩]
  unfold lm_fget
  rw [h4, hr]
  exact k)
theorem ls_putI {j a ci sl : Nat} {v : Int32} (hf : lm_at M pc (.putfield j) 3) (hp : lm_fp M j ci sl 0) (hl : lm_Lay h) (hs : lm_S[a]? = some (0, ci)) (hn : vp_nar (lm_ty ci sl) v = v) (k : lm_W d M (pc + 3) L st (lm_si h a sl v) Q) : lm_W d M pc L (.int v :: .ref a :: st) h Q := ls_ofS hl hf (by
  obtain ⟨f, h1, rfl, rfl, h4⟩ := hp
  show lm_o (lm_lk lm_pfs _ j) _ _
  rw [h1]
  show if lm_fk (lm_ty f.1 f.2.1) = 1 then _ else (if lm_fk (lm_ty f.1 f.2.1) = 2 then _ else _)
  rw [if_neg (by rw [h4]; decide), if_neg (by rw [h4]; decide)]
  show lm_o (lm_shS h a) _ _
  rw [lm_shS_of hs]
  show if (0 : Nat) = 0 ∧ f.1 = f.1 then _ else _
  rw [if_pos ⟨rfl, rfl⟩]
  unfold lm_nar
  split
  · exact k
  · rw [if_pos hn]
    exact k)
theorem ls_putL {j a ci sl : Nat} {v : Int64} (hf : lm_at M pc (.putfield j) 3) (hp : lm_fp M j ci sl 1) (hl : lm_Lay h) (hs : lm_S[a]? = some (0, ci)) (k : lm_W d M (pc + 3) L st (lm_sl h a sl v) Q) : lm_W d M pc L (.long v :: .ref a :: st) h Q := ls_ofS hl hf (by
  obtain ⟨f, h1, rfl, rfl, h4⟩ := hp
  show lm_o (lm_lk lm_pfs _ j) _ _
  rw [h1]
  show if lm_fk (lm_ty f.1 f.2.1) = 1 then _ else _
  rw [if_pos h4]
  show lm_o (lm_shS h a) _ _
  rw [lm_shS_of hs]
  show if (0 : Nat) = 0 ∧ f.1 = f.1 then _ else _
  rw [if_pos ⟨rfl, rfl⟩]
  exact k)
theorem ls_iald {a n : Nat} {i : Int32} {A : Prop} (hf : lm_at M pc .iaload 1) (hl : lm_Lay h) (hs : lm_S[a]? = some (1, n)) (hyp : lm_in i n False A) (k : A → lm_W d M (pc + 1) L (.int (lm_i h a i.toNatClampNeg) :: st) h Q) : lm_W d M pc L (.int i :: .ref a :: st) h Q := ls_ofS hl hf (by
  obtain ⟨hi, hA⟩ := lm_in_F hyp
  show lm_o (lm_shS h a) _ _
  rw [lm_shS_of hs]
  simp [lm_o]
  exact lm_in_of hi (k hA))
theorem ls_ialdC {a n : Nat} {i : Int32} (j : Nat) (hf : lm_at M pc .iaload 1) (hl : lm_Lay h) (hs : lm_S[a]? = some (1, n)) (hj : i.toNatClampNeg = j ∧ ¬ i < 0 ∧ j < n) (k : lm_W d M (pc + 1) L (.int (lm_i h a j) :: st) h Q) : lm_W d M pc L (.int i :: .ref a :: st) h Q := ls_ofS hl hf (by
  obtain ⟨h1, h2, h3⟩ := hj
  subst h1
  show lm_o (lm_shS h a) _ _
  rw [lm_shS_of hs]
  simp [lm_o]
  exact lm_in_of (fun h9 => h9.elim h2 (fun h8 => absurd h3 (Nat.not_lt.mpr h8))) k)
theorem ls_zald {a n : Nat} {i : Int32} {A : Prop} (hf : lm_at M pc .baload 1) (hl : lm_Lay h) (hs : lm_S[a]? = some (2, n)) (hyp : lm_in i n False A) (k : A → lm_W d M (pc + 1) L (.int (lm_i h a i.toNatClampNeg) :: st) h Q) : lm_W d M pc L (.int i :: .ref a :: st) h Q := ls_ofS hl hf (by
  obtain ⟨hi, hA⟩ := lm_in_F hyp
  show lm_o (lm_shS h a) _ _
  rw [lm_shS_of hs]
  simp [lm_o]
  exact lm_in_of hi (k hA))
theorem ls_zaldC {a n : Nat} {i : Int32} (j : Nat) (hf : lm_at M pc .baload 1) (hl : lm_Lay h) (hs : lm_S[a]? = some (2, n)) (hj : i.toNatClampNeg = j ∧ ¬ i < 0 ∧ j < n) (k : lm_W d M (pc + 1) L (.int (lm_i h a j) :: st) h Q) : lm_W d M pc L (.int i :: .ref a :: st) h Q := ls_ofS hl hf (by
  obtain ⟨h1, h2, h3⟩ := hj
  subst h1
  show lm_o (lm_shS h a) _ _
  rw [lm_shS_of hs]
  simp [lm_o]
  exact lm_in_of (fun h9 => h9.elim h2 (fun h8 => absurd h3 (Nat.not_lt.mpr h8))) k)
theorem ls_bald {a n : Nat} {i : Int32} {A : Prop} (hf : lm_at M pc .baload 1) (hl : lm_Lay h) (hs : lm_S[a]? = some (3, n)) (hyp : lm_in i n False A) (k : A → lm_W d M (pc + 1) L (.int (lm_i h a i.toNatClampNeg) :: st) h Q) : lm_W d M pc L (.int i :: .ref a :: st) h Q := ls_ofS hl hf (by
  obtain ⟨hi, hA⟩ := lm_in_F hyp
  show lm_o (lm_shS h a) _ _
  rw [lm_shS_of hs]
  simp [lm_o]
  exact lm_in_of hi (k hA))
theorem ls_baldC {a n : Nat} {i : Int32} (j : Nat) (hf : lm_at M pc .baload 1) (hl : lm_Lay h) (hs : lm_S[a]? = some (3, n)) (hj : i.toNatClampNeg = j ∧ ¬ i < 0 ∧ j < n) (k : lm_W d M (pc + 1) L (.int (lm_i h a j) :: st) h Q) : lm_W d M pc L (.int i :: .ref a :: st) h Q := ls_ofS hl hf (by
  obtain ⟨h1, h2, h3⟩ := hj
  subst h1
  show lm_o (lm_shS h a) _ _
  rw [lm_shS_of hs]
  simp [lm_o]
  exact lm_in_of (fun h9 => h9.elim h2 (fun h8 => absurd h3 (Nat.not_lt.mpr h8))) k)
theorem ls_lald {a n : Nat} {i : Int32} {A : Prop} (hf : lm_at M pc .laload 1) (hl : lm_Lay h) (hs : lm_S[a]? = some (4, n)) (hyp : lm_in i n False A) (k : A → lm_W d M (pc + 1) L (.long (lm_l h a i.toNatClampNeg) :: st) h Q) : lm_W d M pc L (.int i :: .ref a :: st) h Q := ls_ofS hl hf (by
  obtain ⟨hi, hA⟩ := lm_in_F hyp
  show lm_o (lm_shS h a) _ _
  rw [lm_shS_of hs]
  simp [lm_o]
  exact lm_in_of hi (k hA))
theorem ls_laldC {a n : Nat} {i : Int32} (j : Nat) (hf : lm_at M pc .laload 1) (hl : lm_Lay h) (hs : lm_S[a]? = some (4, n)) (hj : i.toNatClampNeg = j ∧ ¬ i < 0 ∧ j < n) (k : lm_W d M (pc + 1) L (.long (lm_l h a j) :: st) h Q) : lm_W d M pc L (.int i :: .ref a :: st) h Q := ls_ofS hl hf (by
  obtain ⟨h1, h2, h3⟩ := hj
  subst h1
  show lm_o (lm_shS h a) _ _
  rw [lm_shS_of hs]
  simp [lm_o]
  exact lm_in_of (fun h9 => h9.elim h2 (fun h8 => absurd h3 (Nat.not_lt.mpr h8))) k)
theorem ls_iast {a n : Nat} {i : Int32} {v : Int32} {A : Prop} (hf : lm_at M pc .iastore 1) (hl : lm_Lay h) (hs : lm_S[a]? = some (1, n)) (hyp : lm_in i n False A) (k : A → lm_W d M (pc + 1) L st (lm_si h a i.toNatClampNeg v) Q) : lm_W d M pc L (.int v :: .int i :: .ref a :: st) h Q := ls_ofS hl hf (by
  obtain ⟨hi, hA⟩ := lm_in_F hyp
  show lm_o (lm_shS h a) _ _
  rw [lm_shS_of hs]
  simp [lm_o]
  exact lm_in_of hi (k hA))
theorem ls_iastC {a n : Nat} {i : Int32} {v : Int32} (j : Nat) (hf : lm_at M pc .iastore 1) (hl : lm_Lay h) (hs : lm_S[a]? = some (1, n)) (hj : i.toNatClampNeg = j ∧ ¬ i < 0 ∧ j < n) (k : lm_W d M (pc + 1) L st (lm_si h a j v) Q) : lm_W d M pc L (.int v :: .int i :: .ref a :: st) h Q := ls_ofS hl hf (by
  obtain ⟨h1, h2, h3⟩ := hj
  subst h1
  show lm_o (lm_shS h a) _ _
  rw [lm_shS_of hs]
  simp [lm_o]
  exact lm_in_of (fun h9 => h9.elim h2 (fun h8 => absurd h3 (Nat.not_lt.mpr h8))) k)
theorem ls_zast {a n : Nat} {i : Int32} {v : Int32} {A : Prop} (hf : lm_at M pc .bastore 1) (hl : lm_Lay h) (hs : lm_S[a]? = some (2, n)) (hyp : lm_in i n False A) (k : A → lm_W d M (pc + 1) L st (lm_si h a i.toNatClampNeg (vp_nar .boolean v)) Q) : lm_W d M pc L (.int v :: .int i :: .ref a :: st) h Q := ls_ofS hl hf (by
  obtain ⟨hi, hA⟩ := lm_in_F hyp
  show lm_o (lm_shS h a) _ _
  rw [lm_shS_of hs]
  simp [lm_o]
  exact lm_in_of hi (k hA))
theorem ls_zastC {a n : Nat} {i : Int32} {v : Int32} (j : Nat) (hf : lm_at M pc .bastore 1) (hl : lm_Lay h) (hs : lm_S[a]? = some (2, n)) (hj : i.toNatClampNeg = j ∧ ¬ i < 0 ∧ j < n) (k : lm_W d M (pc + 1) L st (lm_si h a j (vp_nar .boolean v)) Q) : lm_W d M pc L (.int v :: .int i :: .ref a :: st) h Q := ls_ofS hl hf (by
  obtain ⟨h1, h2, h3⟩ := hj
  subst h1
  show lm_o (lm_shS h a) _ _
  rw [lm_shS_of hs]
  simp [lm_o]
  exact lm_in_of (fun h9 => h9.elim h2 (fun h8 => absurd h3 (Nat.not_lt.mpr h8))) k)
theorem ls_bast {a n : Nat} {i : Int32} {v : Int32} {A : Prop} (hf : lm_at M pc .bastore 1) (hl : lm_Lay h) (hs : lm_S[a]? = some (3, n)) (hyp : lm_in i n False A) (k : A → lm_W d M (pc + 1) L st (lm_si h a i.toNatClampNeg (vp_nar .byte v)) Q) : lm_W d M pc L (.int v :: .int i :: .ref a :: st) h Q := ls_ofS hl hf (by
  obtain ⟨hi, hA⟩ := lm_in_F hyp
  show lm_o (lm_shS h a) _ _
  rw [lm_shS_of hs]
  simp [lm_o]
  exact lm_in_of hi (k hA))
theorem ls_bastC {a n : Nat} {i : Int32} {v : Int32} (j : Nat) (hf : lm_at M pc .bastore 1) (hl : lm_Lay h) (hs : lm_S[a]? = some (3, n)) (hj : i.toNatClampNeg = j ∧ ¬ i < 0 ∧ j < n) (k : lm_W d M (pc + 1) L st (lm_si h a j (vp_nar .byte v)) Q) : lm_W d M pc L (.int v :: .int i :: .ref a :: st) h Q := ls_ofS hl hf (by
  obtain ⟨h1, h2, h3⟩ := hj
  subst h1
  show lm_o (lm_shS h a) _ _
  rw [lm_shS_of hs]
  simp [lm_o]
  exact lm_in_of (fun h9 => h9.elim h2 (fun h8 => absurd h3 (Nat.not_lt.mpr h8))) k)
theorem ls_last {a n : Nat} {i : Int32} {v : Int64} {A : Prop} (hf : lm_at M pc .lastore 1) (hl : lm_Lay h) (hs : lm_S[a]? = some (4, n)) (hyp : lm_in i n False A) (k : A → lm_W d M (pc + 1) L st (lm_sl h a i.toNatClampNeg v) Q) : lm_W d M pc L (.long v :: .int i :: .ref a :: st) h Q := ls_ofS hl hf (by
  obtain ⟨hi, hA⟩ := lm_in_F hyp
  show lm_o (lm_shS h a) _ _
  rw [lm_shS_of hs]
  simp [lm_o]
  exact lm_in_of hi (k hA))
theorem ls_lastC {a n : Nat} {i : Int32} {v : Int64} (j : Nat) (hf : lm_at M pc .lastore 1) (hl : lm_Lay h) (hs : lm_S[a]? = some (4, n)) (hj : i.toNatClampNeg = j ∧ ¬ i < 0 ∧ j < n) (k : lm_W d M (pc + 1) L st (lm_sl h a j v) Q) : lm_W d M pc L (.long v :: .int i :: .ref a :: st) h Q := ls_ofS hl hf (by
  obtain ⟨h1, h2, h3⟩ := hj
  subst h1
  show lm_o (lm_shS h a) _ _
  rw [lm_shS_of hs]
  simp [lm_o]
  exact lm_in_of (fun h9 => h9.elim h2 (fun h8 => absurd h3 (Nat.not_lt.mpr h8))) k)
theorem ls_alen {a g n : Nat} (hf : lm_at M pc .arraylength 1) (hl : lm_Lay h) (hs : lm_S[a]? = some (g, n)) (hg : lm_alen (g, n) = some n) (k : lm_W d M (pc + 1) L (.int (Int32.ofNat n) :: st) h Q) : lm_W d M pc L (.ref a :: st) h Q := ls_ofS hl hf (by
  show lm_o (lm_shS h a) _ _
  rw [lm_shS_of hs]
  show lm_o (lm_alen (g, n)) _ _
  rw [hg]
  exact k)
-- returns
abbrev lm_rI (M : Nat) : Prop := ∃ ty, lm_rs.getD M none = some ty ∧ ty = .int
abbrev lm_rZ (M : Nat) (ty : FieldType) : Prop := lm_rs.getD M none = some ty
theorem ls_ireturn {x : Int32} (hf : lm_at M pc .ireturn 1) (hr : lm_rI M) (k : Q (some (.int x)) h) : lm_W d M pc L [.int x] h Q := ls_of hf (by
  obtain ⟨ty, h1, rfl⟩ := hr
  show lm_o (lm_rs.getD M none) _ _
  rw [h1]
  exact k)
theorem ls_zreturn {x : Int32} {ty : FieldType} (hf : lm_at M pc .ireturn 1) (hr : lm_rZ M ty) (hn : vp_nar ty x = x) (k : Q (some (.int x)) h) : lm_W d M pc L [.int x] h Q := ls_of hf (by
  show lm_o (lm_rs.getD M none) _ _
  rw [show lm_rs.getD M none = some ty from hr]
  show lm_nar ty x _ _
  unfold lm_nar
  split
  · exact k
  · rw [if_pos hn]
    exact k)
theorem ls_lreturn {x : Int64} {ty : FieldType} (hf : lm_at M pc .lreturn 1) (hr : lm_rZ M ty) (hk : lm_fk ty = 1) (k : Q (some (.long x)) h) : lm_W d M pc L [.long x] h Q := ls_of hf (by
  show lm_o (lm_rs.getD M none) _ _
  rw [show lm_rs.getD M none = some ty from hr]
  show if lm_fk ty = 1 then _ else _
  rw [if_pos hk]
  exact k)
theorem ls_return (hf : lm_at M pc .return_ 1) (hr : lm_rs.getD M none = none) (k : Q none h) : lm_W d M pc L [] h Q := ls_of hf (by
  show lm_o (lm_rs.getD M none) _ _
  rw [hr]
  exact k)
theorem ls_areturn {x : Option Nat} {ty : FieldType} (hf : lm_at M pc .areturn 1) (hr : lm_rZ M ty) (hk : lm_fk ty = 2) (k : Q (some (va_rf x)) h) : lm_W d M pc L [va_rf x] h Q := by
  cases x with
  | none =>
    refine ls_of hf ?_
    show lm_o (lm_rs.getD M none) _ _
    rw [show lm_rs.getD M none = some ty from hr]
    show if lm_fk ty = 2 then _ else _
    rw [if_pos hk]
    exact k
  | some r =>
    refine ls_of hf ?_
    show lm_o (lm_rs.getD M none) _ _
    rw [show lm_rs.getD M none = some ty from hr]
    show if lm_fk ty = 2 then _ else _
    rw [if_pos hk]
    exact k
-- calls: a: the receiver's cell; m: the method, av: all values that it takes
abbrev lm_mp (M j m n kd : Nat) : Prop := ∃ e y, lm_lk lm_pms (lm_own.getD M 0) j = some e ∧ e.1 = m ∧ m < 1000 ∧ lm_as[m]? = some y ∧ y.1 = n ∧ y.2.1 = kd
theorem ls_invS {j m n : Nat} (hf : lm_at M pc (.invokestatic j) 3) (hp : lm_mp M j m n 1) (av rest : List Value) (hst : lm_pop n st = some (av, rest)) (hc : (rest.map Value.category).sum ≤ 8) (k : lm_call d m av h (fun v h' => lm_W d M (pc + 3) L (v.toList ++ rest) h' Q)) : lm_W d M pc L st h Q := ls_of hf (by
  obtain ⟨e, y, h1, rfl, h0, h2, rfl, h4⟩ := hp
  show lm_o (lm_lk lm_pms _ j) _ _
  rw [h1]
  show if e.1 = 1001 then _ else (if e.1 = 1002 then _ else (if e.1 = 1003 then _ else (if e.1 = 1004 then _ else (if e.1 = 1005 then _ else _))))
  rw [if_neg (by omega), if_neg (by omega), if_neg (by omega), if_neg (by omega), if_neg (by omega), h2]
  show lm_o (lm_pop y.1 st) _ _
  rw [hst]
  show if y.2.1 = 1 ∧ _ then _ else _
  rw [if_pos ⟨h4, hc⟩]
  exact k)
theorem ls_invV {j m n a ci : Nat} (hf : lm_at M pc (.invokevirtual j) 3) (hp : lm_mp M j m n 0) (As rest : List Value) (hst : lm_pop (n + 1) st = some (.ref a :: As, rest)) (hc : (rest.map Value.category).sum ≤ 8) (hl : lm_Lay h) (hs : lm_S[a]? = some (0, ci)) (ho : lm_own.getD m 0 = ci) (k : lm_call d m (.ref a :: As) h (fun v h' => lm_W d M (pc + 3) L (v.toList ++ rest) h' Q)) : lm_W d M pc L st h Q := ls_ofS hl hf (by
  obtain ⟨e, y, h1, rfl, h0, h2, rfl, h4⟩ := hp
  show lm_o (lm_lk lm_pms _ j) _ _
  rw [h1]
  show lm_o (lm_as[e.1]?) _ _
  rw [h2]
  show lm_o (lm_pop (y.1 + 1) st) _ _
  rw [hst]
  show lm_o (lm_shS h a) _ _
  rw [lm_shS_of hs]
  show if y.2.1 = 0 ∧ _ ∧ _ then _ else _
  rw [if_pos ⟨h4, hc, Or.inl ⟨rfl, ho.symm⟩⟩]
  exact k)
theorem ls_call {m : Nat} {av : List Value} {K : Option Value → lm_H → Prop} (hyp : lm_call d m av h K) (hl : lm_Lay h) (k : ∀ v h', lm_Lay h' → K v h' → Q v h') : lm_call d m av h Q := by
  cases d with
  | zero => exact hyp.elim
  | succ d =>
    obtain ⟨h1, n, v, h', h2, h3⟩ := lm_if_F (show if (lm_ent av).length ≤ lm_ml.getD m 0 then lm_C d m av h K else False from hyp)
    show if _ then _ else _
    rw [if_pos h1]
    exact ⟨n, v, h', h2, k v h' (lm_run_Lay n h2 hl) h3⟩
theorem ls_enter {m nL : Nat} {av : List Value} (L' : lm_L) (hn : lm_ml.getD m 0 = nL) (h1 : (lm_ent av).length ≤ nL) (hL : lm_entry nL av = L') (k : lm_W d m 0 L' [] h Q) : lm_call (d + 1) m av h Q := by
  subst hn
  subst hL
  show if _ then _ else _
  rw [if_pos h1]
  exact k
theorem ls_kI {K K' : Int32 → lm_H → Prop} {v : Option Value} (hk : lm_kI K v h) (hq : ∀ x, K x h → K' x h) : lm_kI K' v h := by
  cases v with
  | none => exact hk
  | some w => cases w <;> first | exact hk | exact hq _ hk
theorem ls_mathI {j : Nat} {x y v : Int32} (m : Nat) (hf : lm_at M pc (.invokestatic j) 3) (hp : ∃ e, lm_lk lm_pms (lm_own.getD M 0) j = some e ∧ e.1 = m) (hm : (m = 1002 ∧ (if x < y then y else x) = v) ∨ (m = 1003 ∧ (if y < x then y else x) = v)) (hc : (st.map Value.category).sum ≤ 8) (k : lm_W d M (pc + 3) L (.int v :: st) h Q) : lm_W d M pc L (.int y :: .int x :: st) h Q := ls_of hf (by
  obtain ⟨e, h1, rfl⟩ := hp
  show lm_o (lm_lk lm_pms _ j) _ _
  rw [h1]
  show if e.1 = 1001 then _ else (if e.1 = 1002 then (if _ then _ else _) else (if e.1 = 1003 then (if _ then _ else _) else _))
  rcases hm with ⟨g1, rfl⟩ | ⟨g1, rfl⟩
  · rw [if_neg (by omega), if_pos g1, if_pos hc]
    exact k
  · rw [if_neg (by omega), if_neg (by omega), if_pos g1, if_pos hc]
    exact k)
theorem ls_mathL {j : Nat} {x y v : Int64} (m : Nat) (hf : lm_at M pc (.invokestatic j) 3) (hp : ∃ e, lm_lk lm_pms (lm_own.getD M 0) j = some e ∧ e.1 = m) (hm : (m = 1004 ∧ (if y < x then x else y) = v) ∨ (m = 1005 ∧ (if y < x then y else x) = v)) (hc : (st.map Value.category).sum ≤ 8) (k : lm_W d M (pc + 3) L (.long v :: st) h Q) : lm_W d M pc L (.long y :: .long x :: st) h Q := ls_of hf (by
  obtain ⟨e, h1, rfl⟩ := hp
  show lm_o (lm_lk lm_pms _ j) _ _
  rw [h1]
  show if e.1 = 1001 then _ else (if e.1 = 1002 then _ else (if e.1 = 1003 then _ else (if e.1 = 1004 then (if _ then _ else _) else (if e.1 = 1005 then (if _ then _ else _) else _))))
  rcases hm with ⟨g1, rfl⟩ | ⟨g1, rfl⟩
  · rw [if_neg (by omega), if_neg (by omega), if_neg (by omega), if_pos g1, if_pos hc]
    exact k
  · rw [if_neg (by omega), if_neg (by omega), if_neg (by omega), if_neg (by omega), if_pos g1, if_pos hc]
    exact k)
theorem ls_cut {L' : lm_L} (hm : lm_le L' L) (k : lm_W d M pc L' st h Q) : lm_W d M pc L st h Q := lm_W_le hm k
theorem ls_mask (m : List Bool) (L' : lm_L) (hL : lm_mask m L = L') (k : lm_W d M pc L' st h Q) : lm_W d M pc L st h Q := by
  subst hL
  exact lm_W_le (lm_mask_le m L) k
theorem ls_retI {K : Int32 → lm_H → Prop} {v : Option Value} {rest : List Value} (hyp : lm_kI K v h) (k : ∀ r, K r h → lm_W d M pc L (.int r :: rest) h Q) : lm_W d M pc L (v.toList ++ rest) h Q := by
  cases v with
  | none => exact hyp.elim
  | some w => cases w <;> first | exact hyp.elim | exact k _ hyp
theorem ls_retL {K : Int64 → lm_H → Prop} {v : Option Value} {rest : List Value} (hyp : lm_kL K v h) (k : ∀ r, K r h → lm_W d M pc L (.long r :: rest) h Q) : lm_W d M pc L (v.toList ++ rest) h Q := by
  cases v with
  | none => exact hyp.elim
  | some w => cases w <;> first | exact hyp.elim | exact k _ hyp
theorem ls_retR {K : Option Nat → lm_H → Prop} {v : Option Value} {rest : List Value} (hyp : lm_kR K v h) (k : ∀ r, K r h → lm_W d M pc L (va_rf r :: rest) h Q) : lm_W d M pc L (v.toList ++ rest) h Q := by
  cases v with
  | none => exact hyp.elim
  | some w => cases w <;> first | exact hyp.elim | exact k none hyp | exact k (some _) hyp
theorem ls_retV {K : lm_H → Prop} {v : Option Value} {rest : List Value} (hyp : lm_kV K v h) (k : K h → lm_W d M pc L rest h Q) : lm_W d M pc L (v.toList ++ rest) h Q := by
  cases v with
  | none => exact k hyp
  | some w => exact hyp.elim
theorem ls_top {x : Int32} (v : Int32) (hv : x = v) (k : lm_W d M pc L (.int v :: st) h Q) : lm_W d M pc L (.int x :: st) h Q := by
  subst hv
  exact k
theorem ls_topl {x : Int64} (v : Int64) (hv : x = v) (k : lm_W d M pc L (.long v :: st) h Q) : lm_W d M pc L (.long x :: st) h Q := by
  subst hv
  exact k
theorem ls_heap {h : lm_H} (h' : lm_H) (hv : h = h') (k : lm_W d M pc L st h' Q) : lm_W d M pc L st h Q := by
  subst hv
  exact k
end LmSteps
