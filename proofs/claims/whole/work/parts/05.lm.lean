/-! THE LIGHT MACHINE: bytecode over a plain heap of numbered cells. A cell's shape: (0, class), (1, n) int[], (2, n) boolean[], (3, n) byte[], (4, n) long[], (5, n) Law[], (6, n) Street[]. References from 1000000 on: (7, n) the script, (8, j) a String constant, (9, j) its bytes. -/
abbrev lm_H : Type := List (Nat × Nat) × (Nat → Nat → Int32) × (Nat → Nat → Int64) × (Nat → Nat → Option Nat)
abbrev lm_L : Type := List (Option Value)
def lm_i (h : lm_H) (a k : Nat) : Int32 := h.2.1 a k
def lm_l (h : lm_H) (a k : Nat) : Int64 := h.2.2.1 a k
def lm_r (h : lm_H) (a k : Nat) : Option Nat := h.2.2.2 a k
def lm_u {α : Type} (g : Nat → Nat → α) (a k : Nat) (v : α) : Nat → Nat → α := fun b j => if b = a then (if j = k then v else g b j) else g b j
def lm_w {α : Type} (g : Nat → Nat → α) (a : Nat) (r : Nat → α) : Nat → Nat → α := fun b j => if b = a then r j else g b j
def lm_si (h : lm_H) (a k : Nat) (v : Int32) : lm_H := (h.1, lm_u h.2.1 a k v, h.2.2.1, h.2.2.2)
def lm_sl (h : lm_H) (a k : Nat) (v : Int64) : lm_H := (h.1, h.2.1, lm_u h.2.2.1 a k v, h.2.2.2)
def lm_sr (h : lm_H) (a k : Nat) (v : Option Nat) : lm_H := (h.1, h.2.1, h.2.2.1, lm_u h.2.2.2 a k v)
def lm_row (h : lm_H) (a : Nat) (r : Nat → Int32) : lm_H := (h.1, lm_w h.2.1 a r, h.2.2.1, h.2.2.2)
def lm_new (h : lm_H) (x : Nat × Nat) : lm_H := (h.1 ++ [x], lm_w h.2.1 h.1.length (fun _ => 0), lm_w h.2.2.1 h.1.length (fun _ => 0), lm_w h.2.2.2 h.1.length (fun _ => none))
/-- the bytes of the String constants -/
def lm_sb : List (List Int32) := [[105, 102], [111, 114], [97, 110, 100], [110, 111, 116], [119, 111, 114, 116, 104], [98, 97, 114, 115], [104, 111, 115, 116], [103, 117, 101, 115, 116], [98, 97, 115, 101], [119, 105, 116], [115, 116, 114, 101, 101, 116], [109, 101, 116], [101, 118, 101, 110, 105, 110, 103]]
/-- the shape of a cell -/
def lm_pre (h : lm_H) (a : Nat) : Option (Nat × Nat) := if a = 1000000 then some (7, (lm_r h 1000000 0).getD 0) else if a < 1000014 then some (8, a - 1000001) else if 1000020 ≤ a ∧ a < 1000033 then some (9, a - 1000020) else none
def lm_sh (h : lm_H) (a : Nat) : Option (Nat × Nat) := if a < 1000000 then h.1[a]? else lm_pre h a
def lm_fk (ty : FieldType) : Nat := match ty with
  | .long => 1
  | .object _ => 2
  | .array _ => 2
  | _ => 0
def lm_ty (ci k : Nat) : FieldType := lm_tys.getD ci (fun _ => .int) k
-- taking a value off the stack
def lm_pI {α : Type} (st : List Value) (f : α) (k : Int32 → List Value → α) : α := match st with
  | .int x :: s => k x s
  | _ => f
def lm_pL {α : Type} (st : List Value) (f : α) (k : Int64 → List Value → α) : α := match st with
  | .long x :: s => k x s
  | _ => f
def lm_pR {α : Type} (st : List Value) (f : α) (k : Nat → List Value → α) : α := match st with
  | .ref x :: s => k x s
  | _ => f
def lm_pA {α : Type} (st : List Value) (f : α) (k : Option Nat → List Value → α) : α := match st with
  | .ref x :: s => k (some x) s
  | .null :: s => k none s
  | _ => f
def lm_pV {α : Type} (st : List Value) (f : α) (k : Value → List Value → α) : α := match st with
  | v :: s => k v s
  | _ => f
def lm_0 {α : Type} (st : List Value) (f k : α) : α := match st with
  | [] => k
  | _ => f
def lm_o {α : Type} {β : Type} (x : Option β) (f : α) (k : β → α) : α := match x with
  | some y => k y
  | none => f
def lm_sw {α : Type} (x : Int32) (cs : List (Int × Int)) (d : Int) (k : Int → α) : α := match cs with
  | [] => k d
  | c :: cs => if x = Int32.ofInt c.1 then k c.2 else lm_sw x cs d k
def lm_lk {β : Type} (t : List (List (Nat × β))) (o k : Nat) : Option β := (t.getD o []).lookup k
def lm_kill (L : lm_L) (k : Nat) : lm_L := if k = 0 then L else match L.getD (k - 1) none with
  | some w => if w.category = 2 then L.set (k - 1) none else L
  | none => L
def lm_put (L : lm_L) (k : Nat) (v : Value) : lm_L := (lm_kill L k).set k (some v)
def lm_putL (L : lm_L) (k : Nat) (v : Value) : lm_L := ((lm_kill L k).set (k + 1) none).set k (some v)
def lm_ent (args : List Value) : lm_L := args.flatMap (fun v => if v.category = 2 then [some v, none] else [some v])
def lm_entry (n : Nat) (args : List Value) : lm_L := lm_ent args ++ List.replicate (n - (lm_ent args).length) none
def lm_in {α : Type} (x : Int32) (n : Nat) (f k : α) : α := if x < 0 ∨ n ≤ x.toNatClampNeg then f else k
def lm_cmp (c : ClassFile.Cond) (x y : Int32) : Prop := match c with
  | .eq => x = y
  | .ne => ¬ x = y
  | .lt => x < y
  | .ge => y ≤ x
  | .gt => y < x
  | .le => x ≤ y
/-- a value that a field or an answer of a small type may be -/
def lm_nar {α : Type} (ty : FieldType) (x : Int32) (f k : α) : α := match ty with
  | .int => k
  | t => if vp_nar t x = x then k else f
def lm_br {α : Type} (c : ClassFile.Cond) (x y : Int32) (t e : α) : α := match c with
  | .eq => if x = y then t else e
  | .ne => if x = y then e else t
  | .lt => if x < y then t else e
  | .ge => if x < y then e else t
  | .gt => if y < x then t else e
  | .le => if y < x then e else t
def lm_tg {α : Type} (pc : Nat) (off : Int) (f : α) (k : Nat → α) : α := if 0 ≤ (pc : Int) + off then k ((pc : Int) + off).toNat else f
def lm_alen (x : Nat × Nat) : Option Nat := match x.1 with
  | 0 => none
  | 8 => none
  | 9 => some (lm_sb.getD x.2 []).length
  | 10 => none
  | _ => some x.2
def lm_atag (t : ArrayType) : Option Nat := match t with
  | .int => some 1
  | .boolean => some 2
  | .byte => some 3
  | .long => some 4
  | _ => none
def lm_fget (rf : Nat → Nat → Option Nat) (h : lm_H) (a ci k : Nat) : Value := match lm_fk (lm_ty ci k) with
  | 1 => .long (lm_l h a k)
  | 2 => va_rf (rf a k)
  | _ => .int (lm_i h a k)
def lm_pop (n : Nat) (st : List Value) : Option (List Value × List Value) := if n ≤ st.length then some ((st.take n).reverse, st.drop n) else none
/-- one instruction: what fails, goes on, returns, calls. ct: whether references may be put into fields (constructors alone do it) -/
def lm_stepK {α : Type} (ct : Bool) (sh : Nat → Option (Nat × Nat)) (rf : Nat → Nat → Option Nat) (o : Nat) (rty : Option FieldType) (i : Instr) (len : Nat) (pc : Nat) (L : lm_L) (st : List Value) (h : lm_H) (f : α) (nx : Nat → lm_L → List Value → lm_H → α) (rt : Option Value → α) (cl : Nat → List Value → List Value → α) : α := match i with
  | .aconst_null => nx (pc + 1) L (.null :: st) h
  | .iconst n => nx (pc + 1) L (.int (Int32.ofInt n) :: st) h
  | .bipush n => nx (pc + 2) L (.int (Int8.ofInt n).toInt32 :: st) h
  | .sipush n => nx (pc + 3) L (.int (Int16.ofInt n).toInt32 :: st) h
  | .lconst n => nx (pc + 1) L (.long (Int64.ofNat n) :: st) h
  | .ldc k => lm_o (lm_lk lm_pcs o k) (lm_o (lm_lk lm_pss o k) f (fun j => nx (pc + 2) L (.ref (1000001 + j.1) :: st) h)) (fun v => nx (pc + 2) L (.int v.1 :: st) h)
  | .ldc_w k => lm_o (lm_lk lm_pcs o k) f (fun v => nx (pc + 3) L (.int v.1 :: st) h)
  | .ldc2_w k => lm_o (lm_lk lm_pls o k) f (fun v => nx (pc + 3) L (.long v.1 :: st) h)
  | .getstatic k => lm_o (lm_lk lm_pgs o k) f (fun v => if v.1 = 0 then nx (pc + 3) L (.int 1 :: st) h else nx (pc + 3) L (va_rf (rf 1000001 0) :: st) h)
  | .iload_n k => lm_o (L.getD k none) f (fun v => lm_pI [v] f (fun x _ => nx (pc + 1) L (.int x :: st) h))
  | .iload k => lm_o (L.getD k none) f (fun v => lm_pI [v] f (fun x _ => nx (pc + 2) L (.int x :: st) h))
  | .lload_n k => lm_o (L.getD k none) f (fun v => lm_pL [v] f (fun x _ => nx (pc + 1) L (.long x :: st) h))
  | .lload k => lm_o (L.getD k none) f (fun v => lm_pL [v] f (fun x _ => nx (pc + 2) L (.long x :: st) h))
  | .aload_n k => lm_o (L.getD k none) f (fun v => lm_pA [v] f (fun x _ => nx (pc + 1) L (va_rf x :: st) h))
  | .aload k => lm_o (L.getD k none) f (fun v => lm_pA [v] f (fun x _ => nx (pc + 2) L (va_rf x :: st) h))
  | .istore_n k => lm_pI st f (fun x s => if k < L.length then nx (pc + 1) (lm_put L k (.int x)) s h else f)
  | .istore k => lm_pI st f (fun x s => if k < L.length then nx (pc + 2) (lm_put L k (.int x)) s h else f)
  | .lstore_n k => lm_pL st f (fun x s => if k.val + 1 < L.length then nx (pc + 1) (lm_putL L k (.long x)) s h else f)
  | .lstore k => lm_pL st f (fun x s => if k + 1 < L.length then nx (pc + 2) (lm_putL L k (.long x)) s h else f)
  | .astore_n k => lm_pA st f (fun x s => if k < L.length then nx (pc + 1) (lm_put L k (va_rf x)) s h else f)
  | .astore k => lm_pA st f (fun x s => if k < L.length then nx (pc + 2) (lm_put L k (va_rf x)) s h else f)
  | .iinc k n => lm_o (L.getD k none) f (fun v => lm_pI [v] f (fun x _ => if k < L.length then nx (pc + 3) (lm_put L k (.int (x + Int32.ofInt n))) st h else f))
  | .iadd => lm_pI st f (fun y s => lm_pI s f (fun x s => nx (pc + 1) L (.int (x + y) :: s) h))
  | .isub => lm_pI st f (fun y s => lm_pI s f (fun x s => nx (pc + 1) L (.int (x - y) :: s) h))
  | .imul => lm_pI st f (fun y s => lm_pI s f (fun x s => nx (pc + 1) L (.int (x * y) :: s) h))
  | .iand => lm_pI st f (fun y s => lm_pI s f (fun x s => nx (pc + 1) L (.int (x &&& y) :: s) h))
  | .ior => lm_pI st f (fun y s => lm_pI s f (fun x s => nx (pc + 1) L (.int (x ||| y) :: s) h))
  | .ixor => lm_pI st f (fun y s => lm_pI s f (fun x s => nx (pc + 1) L (.int (x ^^^ y) :: s) h))
  | .idiv => lm_pI st f (fun y s => lm_pI s f (fun x s => if y = 0 then f else nx (pc + 1) L (.int (x / y) :: s) h))
  | .irem => lm_pI st f (fun y s => lm_pI s f (fun x s => if y = 0 then f else nx (pc + 1) L (.int (x - x / y * y) :: s) h))
  | .ineg => lm_pI st f (fun x s => nx (pc + 1) L (.int (-x) :: s) h)
  | .ishl => lm_pI st f (fun y s => lm_pI s f (fun x s => nx (pc + 1) L (.int (x <<< (y &&& 31)) :: s) h))
  | .ishr => lm_pI st f (fun y s => lm_pI s f (fun x s => nx (pc + 1) L (.int (x >>> (y &&& 31)) :: s) h))
  | .iushr => lm_pI st f (fun y s => lm_pI s f (fun x s => nx (pc + 1) L (.int (x.toUInt32 >>> (y.toUInt32 &&& Int32.toUInt32 31)).toInt32 :: s) h))
  | .ladd => lm_pL st f (fun y s => lm_pL s f (fun x s => nx (pc + 1) L (.long (x + y) :: s) h))
  | .lsub => lm_pL st f (fun y s => lm_pL s f (fun x s => nx (pc + 1) L (.long (x - y) :: s) h))
  | .lmul => lm_pL st f (fun y s => lm_pL s f (fun x s => nx (pc + 1) L (.long (x * y) :: s) h))
  | .land => lm_pL st f (fun y s => lm_pL s f (fun x s => nx (pc + 1) L (.long (x &&& y) :: s) h))
  | .lor => lm_pL st f (fun y s => lm_pL s f (fun x s => nx (pc + 1) L (.long (x ||| y) :: s) h))
  | .ldiv => lm_pL st f (fun y s => lm_pL s f (fun x s => if y = 0 then f else nx (pc + 1) L (.long (x / y) :: s) h))
  | .lrem => lm_pL st f (fun y s => lm_pL s f (fun x s => if y = 0 then f else nx (pc + 1) L (.long (x - x / y * y) :: s) h))
  | .lshl => lm_pI st f (fun y s => lm_pL s f (fun x s => nx (pc + 1) L (.long (x <<< (y.toInt64 &&& 63)) :: s) h))
  | .lshr => lm_pI st f (fun y s => lm_pL s f (fun x s => nx (pc + 1) L (.long (x >>> (y.toInt64 &&& 63)) :: s) h))
  | .lushr => lm_pI st f (fun y s => lm_pL s f (fun x s => nx (pc + 1) L (.long (x.toUInt64 >>> (y.toInt64.toUInt64 &&& Int64.toUInt64 63)).toInt64 :: s) h))
  | .lcmp => lm_pL st f (fun y s => lm_pL s f (fun x s => nx (pc + 1) L (.int (lg_cmp x y) :: s) h))
  | .i2l => lm_pI st f (fun x s => nx (pc + 1) L (.long x.toInt64 :: s) h)
  | .l2i => lm_pL st f (fun x s => nx (pc + 1) L (.int x.toInt32 :: s) h)
  | .i2b => lm_pI st f (fun x s => nx (pc + 1) L (.int x.toInt8.toInt32 :: s) h)
  | .i2c => lm_pI st f (fun x s => nx (pc + 1) L (.int (x.toUInt32 % 65536).toInt32 :: s) h)
  | .dup => lm_pV st f (fun v s => if v.category = 1 then nx (pc + 1) L (v :: v :: s) h else f)
  | .pop => lm_pV st f (fun v s => if v.category = 1 then nx (pc + 1) L s h else f)
  | .dup2 => lm_pV st f (fun v s => if v.category = 2 then nx (pc + 1) L (v :: v :: s) h else lm_pV s f (fun w s => if w.category = 1 then nx (pc + 1) L (v :: w :: v :: w :: s) h else f))
  | .ifCond c off => lm_pI st f (fun x s => lm_tg pc off f (fun t => lm_br c x 0 (nx t L s h) (nx (pc + 3) L s h)))
  | .if_icmp c off => lm_pI st f (fun y s => lm_pI s f (fun x s => lm_tg pc off f (fun t => lm_br c x y (nx t L s h) (nx (pc + 3) L s h))))
  | .ifnull off => lm_pA st f (fun x s => lm_tg pc off f (fun t => lm_o x (nx t L s h) (fun _ => nx (pc + 3) L s h)))
  | .ifnonnull off => lm_pA st f (fun x s => lm_tg pc off f (fun t => lm_o x (nx (pc + 3) L s h) (fun _ => nx t L s h)))
  | .goto off => lm_tg pc off f (fun t => nx t L st h)
  | .tableswitch dflt lo hi offs => lm_pI st f (fun x s => if 0 ≤ lo + 2147483648 ∧ lo + offs.size ≤ 2147483648 ∧ hi = lo + offs.size - 1 then lm_sw x (((List.range offs.size).map (fun (j : Nat) => lo + (j : Int))).zip offs.toList) dflt (fun off => lm_tg pc off f (fun t => nx t L s h)) else f)
  | .lookupswitch dflt ps => lm_pI st f (fun x s => if (ps.toList.zip (ps.toList.drop 1)).all (fun (a, next) => a.1 < next.1) = true ∧ ps.toList.all (fun c => decide (-2147483648 ≤ c.1 ∧ c.1 < 2147483648)) = true then lm_sw x ps.toList dflt (fun off => lm_tg pc off f (fun t => nx t L s h)) else f)
  | .getfield k => lm_pR st f (fun a s => lm_o (sh a) f (fun x => if x.1 = 8 then lm_o (lm_lk lm_pSs o k) f (fun e => if e.1 = 0 then nx (pc + 3) L (.ref (a + 19) :: s) h else nx (pc + 3) L (.int 0 :: s) h) else lm_o (lm_lk lm_pfs o k) f (fun e => if x.1 = 0 ∧ x.2 = e.1 then nx (pc + 3) L (lm_fget rf h a e.1 e.2.1 :: s) h else f)))
  | .putfield k => lm_o (lm_lk lm_pfs o k) f (fun e => if lm_fk (lm_ty e.1 e.2.1) = 1 then lm_pL st f (fun v s => lm_pR s f (fun a s => lm_o (sh a) f (fun x => if x.1 = 0 ∧ x.2 = e.1 then nx (pc + 3) L s (lm_sl h a e.2.1 v) else f)))
    else if lm_fk (lm_ty e.1 e.2.1) = 2 then (if ct = true ∧ e.1 = o ∧ e.2.2.1 = false then lm_pA st f (fun v s => lm_pR s f (fun a s => lm_o (sh a) f (fun x => if x.1 = 0 ∧ x.2 = e.1 ∧ rf a e.2.1 = none then nx (pc + 3) L s (lm_sr h a e.2.1 v) else f))) else f)
    else lm_pI st f (fun v s => lm_pR s f (fun a s => lm_o (sh a) f (fun x => if x.1 = 0 ∧ x.2 = e.1 then lm_nar (lm_ty e.1 e.2.1) v f (nx (pc + 3) L s (lm_si h a e.2.1 v)) else f))))
  | .iaload => lm_pI st f (fun i s => lm_pR s f (fun a s => lm_o (sh a) f (fun x => if x.1 = 1 ∨ x.1 = 7 then lm_in i x.2 f (nx (pc + 1) L (.int (lm_i h a i.toNatClampNeg) :: s) h) else f)))
  | .baload => lm_pI st f (fun i s => lm_pR s f (fun a s => lm_o (sh a) f (fun x => if x.1 = 9 then lm_in i (lm_sb.getD x.2 []).length f (nx (pc + 1) L (.int ((lm_sb.getD x.2 []).getD i.toNatClampNeg 0) :: s) h) else if x.1 = 2 ∨ x.1 = 3 then lm_in i x.2 f (nx (pc + 1) L (.int (lm_i h a i.toNatClampNeg) :: s) h) else f)))
  | .laload => lm_pI st f (fun i s => lm_pR s f (fun a s => lm_o (sh a) f (fun x => if x.1 = 4 then lm_in i x.2 f (nx (pc + 1) L (.long (lm_l h a i.toNatClampNeg) :: s) h) else f)))
  | .aaload => lm_pI st f (fun i s => lm_pR s f (fun a s => lm_o (sh a) f (fun x => if x.1 = 5 ∨ x.1 = 6 then lm_in i x.2 f (nx (pc + 1) L (va_rf (rf a i.toNatClampNeg) :: s) h) else f)))
  | .iastore => lm_pI st f (fun v s => lm_pI s f (fun i s => lm_pR s f (fun a s => lm_o (sh a) f (fun x => if x.1 = 1 then lm_in i x.2 f (nx (pc + 1) L s (lm_si h a i.toNatClampNeg v)) else f))))
  | .bastore => lm_pI st f (fun v s => lm_pI s f (fun i s => lm_pR s f (fun a s => lm_o (sh a) f (fun x => if x.1 = 2 then lm_in i x.2 f (nx (pc + 1) L s (lm_si h a i.toNatClampNeg (vp_nar .boolean v))) else if x.1 = 3 then lm_in i x.2 f (nx (pc + 1) L s (lm_si h a i.toNatClampNeg (vp_nar .byte v))) else f))))
  | .lastore => lm_pL st f (fun v s => lm_pI s f (fun i s => lm_pR s f (fun a s => lm_o (sh a) f (fun x => if x.1 = 4 then lm_in i x.2 f (nx (pc + 1) L s (lm_sl h a i.toNatClampNeg v)) else f))))
  | .aastore => lm_pA st f (fun v s => lm_pI s f (fun i s => lm_pR s f (fun a s => lm_o (sh a) f (fun x => if x.1 = 5 ∨ (x.1 = 6 ∧ ct = true ∧ rf a i.toNatClampNeg = none) then lm_in i x.2 f (lm_o v (nx (pc + 1) L s (lm_sr h a i.toNatClampNeg none)) (fun b => lm_o (sh b) f (fun y => if y.1 = 0 ∧ ((x.1 = 5 ∧ y.2 = 2) ∨ (x.1 = 6 ∧ y.2 = 4)) then nx (pc + 1) L s (lm_sr h a i.toNatClampNeg (some b)) else f))) else f))))
  | .arraylength => lm_pR st f (fun a s => lm_o (sh a) f (fun x => lm_o (lm_alen x) f (fun n => nx (pc + 1) L (.int (Int32.ofNat n) :: s) h)))
  | .newarray t => lm_pI st f (fun n s => lm_o (lm_atag t) f (fun g => if n < 0 ∨ 67108864 < n.toNatClampNeg ∨ 1000000 ≤ h.1.length then f else nx (pc + 2) L (.ref h.1.length :: s) (lm_new h (g, n.toNatClampNeg))))
  | .anewarray k => lm_pI st f (fun n s => lm_o (lm_lk lm_pas o k) f (fun g => if n < 0 ∨ 67108864 < n.toNatClampNeg ∨ 1000000 ≤ h.1.length then f else nx (pc + 3) L (.ref h.1.length :: s) (lm_new h (g.1, n.toNatClampNeg))))
  | .new k => lm_o (lm_lk lm_pns o k) f (fun e => if 1000000 ≤ h.1.length then f else nx (pc + 3) L (.ref h.1.length :: st) (lm_new h (0, e.1)))
  | .invokespecial k => lm_o (lm_lk lm_pms o k) f (fun e => if e.1 = 1000 then lm_pR st f (fun _ s => if (s.map Value.category).sum ≤ 8 then nx (pc + 3) L s h else f) else lm_o (lm_as[e.1]?) f (fun y => lm_o (lm_pop (y.1 + 1) st) f (fun q => lm_pR q.1 f (fun _ _ => if y.2.1 = 2 ∧ (q.2.map Value.category).sum ≤ 8 then cl e.1 q.1 q.2 else f))))
  | .invokevirtual k => lm_o (lm_lk lm_pms o k) f (fun e => lm_o (lm_as[e.1]?) f (fun y => lm_o (lm_pop (y.1 + 1) st) f (fun q => lm_pR q.1 f (fun a _ => lm_o (sh a) f (fun x => if y.2.1 = 0 ∧ (q.2.map Value.category).sum ≤ 8 ∧ ((x.1 = 0 ∧ x.2 = lm_own.getD e.1 0) ∨ (x.1 = 8 ∧ lm_own.getD e.1 0 = 16)) then cl e.1 q.1 q.2 else f)))))
  | .invokestatic k => lm_o (lm_lk lm_pms o k) f (fun e => if e.1 = 1001 then lm_pI st f (fun n s => lm_pI s f (fun dp s => lm_pR s f (fun b s => lm_pI s f (fun sp s => lm_pR s f (fun a s => lm_o (sh a) f (fun x => lm_o (sh b) f (fun y => if x.1 = 1 ∧ y.1 = 1 ∧ ¬ (sp < 0 ∨ dp < 0 ∨ n < 0 ∨ x.2 < sp.toNatClampNeg + n.toNatClampNeg ∨ y.2 < dp.toNatClampNeg + n.toNatClampNeg) ∧ (s.map Value.category).sum ≤ 8 then nx (pc + 3) L s (lm_row h b (va_cpy (h.2.1 a) (h.2.1 b) sp.toNatClampNeg dp.toNatClampNeg n.toNatClampNeg)) else f)))))))
    else if e.1 = 1002 then lm_pI st f (fun y s => lm_pI s f (fun x s => if (s.map Value.category).sum ≤ 8 then nx (pc + 3) L (.int (if x < y then y else x) :: s) h else f))
    else if e.1 = 1003 then lm_pI st f (fun y s => lm_pI s f (fun x s => if (s.map Value.category).sum ≤ 8 then nx (pc + 3) L (.int (if y < x then y else x) :: s) h else f))
    else if e.1 = 1004 then lm_pL st f (fun y s => lm_pL s f (fun x s => if (s.map Value.category).sum ≤ 8 then nx (pc + 3) L (.long (if y < x then x else y) :: s) h else f))
    else if e.1 = 1005 then lm_pL st f (fun y s => lm_pL s f (fun x s => if (s.map Value.category).sum ≤ 8 then nx (pc + 3) L (.long (if y < x then y else x) :: s) h else f))
    else lm_o (lm_as[e.1]?) f (fun y => lm_o (lm_pop y.1 st) f (fun q => if y.2.1 = 1 ∧ (q.2.map Value.category).sum ≤ 8 then cl e.1 q.1 q.2 else f)))
  | .ireturn => lm_pI st f (fun x s => lm_0 s f (lm_o rty f (fun ty => lm_nar ty x f (rt (some (.int x))))))
  | .lreturn => lm_pL st f (fun x s => lm_0 s f (lm_o rty f (fun ty => if lm_fk ty = 1 then rt (some (.long x)) else f)))
  | .areturn => lm_pA st f (fun x s => lm_0 s f (lm_o rty f (fun ty => if lm_fk ty = 2 then rt (some (va_rf x)) else f)))
  | .return_ => lm_0 st f (lm_o rty (rt none) (fun _ => f))
  | _ => f
