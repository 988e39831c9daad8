/-! THE ABSTRACT MACHINE: values are whole numbers and abstract addresses; a heap is six maps; code is a list of resolved instructions. -/
abbrev AV : Type := Int ⊕ (Int ⊕ (Nat ⊕ Unit))
abbrev jI (x : Int) : AV := .inl x
abbrev jL (x : Int) : AV := .inr (.inl x)
abbrev jP (a : Nat) : AV := .inr (.inr (.inl a))
abbrev jU : AV := .inr (.inr (.inr ()))
/-- tags, lengths, ints, longs, references, the next address, slots used -/
abbrev AH : Type := (Nat → Nat) × (Nat → Nat) × (Nat → Nat → Int) × (Nat → Nat → Int) × (Nat → Nat → Nat) × Nat × Nat
def jt (h : AH) (a : Nat) : Nat := h.1 a
def jn (h : AH) (a : Nat) : Nat := h.2.1 a
def ji (h : AH) (a k : Nat) : Int := h.2.2.1 a k
def jl (h : AH) (a k : Nat) : Int := h.2.2.2.1 a k
def jr (h : AH) (a k : Nat) : Nat := h.2.2.2.2.1 a k
def jx (h : AH) : Nat := h.2.2.2.2.2.1
def ju (h : AH) : Nat := h.2.2.2.2.2.2
def u1 {α : Type} (f : Nat → α) (a : Nat) (x : α) : Nat → α := fun b => if b = a then x else f b
def u2 {α : Type} (f : Nat → Nat → α) (a k : Nat) (x : α) : Nat → Nat → α := fun b j => if b = a ∧ j = k then x else f b j
def uz {α : Type} (f : Nat → Nat → α) (a : Nat) (x : α) : Nat → Nat → α := fun b j => if b = a then x else f b j
def wi (h : AH) (a k : Nat) (x : Int) : AH := (h.1, h.2.1, u2 h.2.2.1 a k x, h.2.2.2.1, h.2.2.2.2.1, h.2.2.2.2.2.1, h.2.2.2.2.2.2)
def wl (h : AH) (a k : Nat) (x : Int) : AH := (h.1, h.2.1, h.2.2.1, u2 h.2.2.2.1 a k x, h.2.2.2.2.1, h.2.2.2.2.2.1, h.2.2.2.2.2.2)
def wr (h : AH) (a k : Nat) (x : Nat) : AH := (h.1, h.2.1, h.2.2.1, h.2.2.2.1, u2 h.2.2.2.2.1 a k x, h.2.2.2.2.2.1, h.2.2.2.2.2.2)
/-- a new cell of tag t with n slots, all 0 -/
def nw (h : AH) (t n : Nat) : AH := (u1 h.1 (jx h) t, u1 h.2.1 (jx h) n, uz h.2.2.1 (jx h) 0, uz h.2.2.2.1 (jx h) 0, uz h.2.2.2.2.1 (jx h) 0, jx h + 1, ju h + n)
/-- new long[n][k] -/
def nm2 (h : AH) (n k : Nat) : AH :=
  (fun b => if b = jx h then 26 else if jx h < b ∧ b ≤ jx h + n then 21 else h.1 b, fun b => if b = jx h then n else if jx h < b ∧ b ≤ jx h + n then k else h.2.1 b,
   fun b j => if jx h ≤ b ∧ b ≤ jx h + n then 0 else h.2.2.1 b j, fun b j => if jx h ≤ b ∧ b ≤ jx h + n then 0 else h.2.2.2.1 b j,
   fun b j => if b = jx h then (if j < n then jx h + 1 + j else 0) else if jx h < b ∧ b ≤ jx h + n then 0 else h.2.2.2.2.1 b j, jx h + 1 + n, ju h + n + n * k)
def w32 (x : Int) : Int := (x + 2147483648) % 4294967296 - 2147483648
def w64 (x : Int) : Int := (x + 9223372036854775808) % 18446744073709551616 - 9223372036854775808
def r32 (x : Int) : Prop := -2147483648 ≤ x ∧ x ≤ 2147483647
def r64 (x : Int) : Prop := -9223372036854775808 ≤ x ∧ x ≤ 9223372036854775807
def isL : AV → Bool
  | .inr (.inl _) => true
  | _ => false
def jcat (v : AV) : Nat := if isL v then 2 else 1
def clrL (v : AV) : AV := if isL v then jU else v
def lset (i : Nat) (v : AV) (loc : List AV) : List AV := (loc.set (i - 1) (clrL (loc.getD (i - 1) jU))).set i v
def lset2 (i : Nat) (v : AV) (loc : List AV) : List AV := (lset i v loc).set (i + 1) jU
def s1I : List AV → (Int → List AV → Prop) → Prop
  | .inl x :: r, k => k x r
  | _, _ => False
def s1L : List AV → (Int → List AV → Prop) → Prop
  | .inr (.inl x) :: r, k => k x r
  | _, _ => False
def s1P : List AV → (Nat → List AV → Prop) → Prop
  | .inr (.inr (.inl x)) :: r, k => k x r
  | _, _ => False
def s1V : List AV → (AV → List AV → Prop) → Prop
  | v :: r, k => isL v = false ∧ k v r
  | _, _ => False
theorem s1I_e {st : List AV} {k : Int → List AV → Prop} (h : s1I st k) : ∃ x r, st = jI x :: r ∧ k x r := by
  match st, h with
  | .inl x :: r, h => exact ⟨x, r, rfl, h⟩
theorem s1L_e {st : List AV} {k : Int → List AV → Prop} (h : s1L st k) : ∃ x r, st = jL x :: r ∧ k x r := by
  match st, h with
  | .inr (.inl x) :: r, h => exact ⟨x, r, rfl, h⟩
theorem s1P_e {st : List AV} {k : Nat → List AV → Prop} (h : s1P st k) : ∃ x r, st = jP x :: r ∧ k x r := by
  match st, h with
  | .inr (.inr (.inl x)) :: r, h => exact ⟨x, r, rfl, h⟩
theorem s1V_e {st : List AV} {k : AV → List AV → Prop} (h : s1V st k) : ∃ x r, st = x :: r ∧ isL x = false ∧ k x r := by
  match st, h with
  | v :: r, h => exact ⟨v, r, rfl, h.1, h.2⟩
def j2 (f : Int32 → Int32 → Int32) (x y : Int) : Int := (f (Int32.ofInt x) (Int32.ofInt y)).toInt
def j1 (f : Int32 → Int32) (x : Int) : Int := (f (Int32.ofInt x)).toInt
def j2L (f : Int64 → Int64 → Int64) (x y : Int) : Int := (f (Int64.ofInt x) (Int64.ofInt y)).toInt
def j2S (f : Int64 → Int32 → Int64) (x y : Int) : Int := (f (Int64.ofInt x) (Int32.ofInt y)).toInt
def jand (x y : Int) : Int := j2 (fun a b => a &&& b) x y
def jor (x y : Int) : Int := j2 (fun a b => a ||| b) x y
def jxor (x y : Int) : Int := j2 (fun a b => a ^^^ b) x y
def jshl (x y : Int) : Int := j2 (fun a b => a <<< (b &&& 31)) x y
def jshr (x y : Int) : Int := j2 (fun a b => a >>> (b &&& 31)) x y
def jush (x y : Int) : Int := j2 (fun a b => (a.toUInt32 >>> (b.toUInt32 &&& Int32.toUInt32 31)).toInt32) x y
def jandL (x y : Int) : Int := j2L (fun a b => a &&& b) x y
def jorL (x y : Int) : Int := j2L (fun a b => a ||| b) x y
def jshlL (x y : Int) : Int := j2S (fun a b => a <<< (b.toInt64 &&& 63)) x y
def jshrL (x y : Int) : Int := j2S (fun a b => a >>> (b.toInt64 &&& 63)) x y
def jushL (x y : Int) : Int := j2S (fun a b => (a.toUInt64 >>> (b.toInt64.toUInt64 &&& Int64.toUInt64 63)).toInt64) x y
def ji2b (x : Int) : Int := j1 (fun a => a.toInt8.toInt32) x
def ji2c (x : Int) : Int := j1 (fun a => (a.toUInt32 % 65536).toInt32) x
def jcmp (x y : Int) : Int := if y < x then 1 else if x = y then 0 else -1
def cnd (c : Jvm.ClassFile.Cond) (x y : Int) : Prop := match c with
  | .eq => x = y
  | .ne => ¬ x = y
  | .lt => x < y
  | .ge => y ≤ x
  | .gt => y < x
  | .le => x ≤ y
/-- a field or an element of type ty -/
def jfl (ty : FieldType) (h : AH) (a k : Nat) : AV := match ty with
  | .long => jL (jl h a k)
  | .object _ => jP (jr h a k)
  | .array _ => jP (jr h a k)
  | _ => jI (ji h a k)
def jpf (ty : FieldType) (stk : List AV) (h : AH) (k : Nat) (K : Nat → List AV → AH → Prop) : Prop := match ty with
  | .long => s1L stk fun x r => s1P r fun a r => K a r (wl h a k x)
  | .object _ => s1P stk fun b r => s1P r fun a r => K a r (wr h a k b)
  | .array _ => s1P stk fun b r => s1P r fun a r => K a r (wr h a k b)
  | .int => s1I stk fun x r => s1P r fun a r => K a r (wi h a k x)
  | .boolean => s1I stk fun x r => s1P r fun a r => (x = 0 ∨ x = 1) ∧ K a r (wi h a k x)
  | _ => False
/-- the element type of the arrays of tag 20 + n (ours) and 40 + n (old ones, never written) -/
def aTy (n : Nat) : FieldType := match n with
  | 0 => .int
  | 1 => .long
  | 2 => .byte
  | 3 => .boolean
  | 5 => .object "ProblemTexts$Part"
  | 6 => .array .long
  | _ => .float
def aT (t : Jvm.ClassFile.ArrayType) : Nat := match t with
  | .int => 0
  | .long => 1
  | .byte => 2
  | .boolean => 3
  | _ => 9
/-- the tag of an object of class ci; a String's is 60 -/
def tg (ci : Nat) : Nat := if ci = 12 then 60 else ci + 1
def inA (h : AH) (a n : Nat) (i : Int) : Prop := (jt h a = 20 + n ∨ jt h a = 40 + n) ∧ 0 ≤ i ∧ i < (jn h a : Int)
def inW (h : AH) (a n : Nat) (i : Int) : Prop := jt h a = 20 + n ∧ 0 ≤ i ∧ i < (jn h a : Int)
def jcl (cl : Nat → List AV → AH → Option AV → AH → Prop) (y : Nat) (stk : List AV) (h : AH) (K : List AV → AH → Prop) : Prop :=
  (mT y).2.2.2.2.2.1 ≤ stk.length ∧ ((stk.drop (mT y).2.2.2.2.2.1).map jcat).sum ≤ 8 ∧ ∃ v h', cl y (stk.take (mT y).2.2.2.2.2.1).reverse h v h' ∧ K (v.toList ++ stk.drop (mT y).2.2.2.2.2.1) h'
def jlook (d : Int) : List (Int × Int) → Int → Int
  | [], _ => d
  | (a, t) :: r, x => if x = a then t else jlook d r x
/-- one step: an instruction over locals, stack and heap; K goes on, R ends the method -/
def jS (cl : Nat → List AV → AH → Option AV → AH → Prop) (ins : Instr) (pc len : Nat) (loc stk : List AV) (h : AH) (K : Nat → List AV → List AV → AH → Prop) (R : Option AV → AH → Prop) : Prop :=
  match ins with
  | .sipush c => r32 c ∧ K (pc + len) loc (jI c :: stk) h
  | .jsr_w c => r64 c ∧ K (pc + len) loc (jL c :: stk) h
  | .jsr a => K (pc + len) loc (jP a.toNat :: stk) h
  | .iload i => s1I [loc.getD i jU] fun x _ => K (pc + len) loc (jI x :: stk) h
  | .lload i => s1L [loc.getD i jU] fun x _ => K (pc + len) loc (jL x :: stk) h
  | .aload i => s1P [loc.getD i jU] fun x _ => K (pc + len) loc (jP x :: stk) h
  | .istore i => s1I stk fun x r => i < loc.length ∧ K (pc + len) (lset i (jI x) loc) r h
  | .lstore i => s1L stk fun x r => i + 1 < loc.length ∧ K (pc + len) (lset2 i (jL x) loc) r h
  | .astore i => s1P stk fun x r => i < loc.length ∧ K (pc + len) (lset i (jP x) loc) r h
  | .iinc i c => s1I [loc.getD i jU] fun x _ => i < loc.length ∧ K (pc + len) (lset i (jI (w32 (x + c))) loc) stk h
  | .iadd => s1I stk fun y r => s1I r fun x r => K (pc + len) loc (jI (w32 (x + y)) :: r) h
  | .isub => s1I stk fun y r => s1I r fun x r => K (pc + len) loc (jI (w32 (x - y)) :: r) h
  | .imul => s1I stk fun y r => s1I r fun x r => K (pc + len) loc (jI (w32 (x * y)) :: r) h
  | .idiv => s1I stk fun y r => s1I r fun x r => ¬ y = 0 ∧ K (pc + len) loc (jI (w32 (Int.tdiv x y)) :: r) h
  | .irem => s1I stk fun y r => s1I r fun x r => ¬ y = 0 ∧ K (pc + len) loc (jI (w32 (Int.tmod x y)) :: r) h
  | .ineg => s1I stk fun x r => K (pc + len) loc (jI (w32 (-x)) :: r) h
  | .iand => s1I stk fun y r => s1I r fun x r => K (pc + len) loc (jI (jand x y) :: r) h
  | .ior => s1I stk fun y r => s1I r fun x r => K (pc + len) loc (jI (jor x y) :: r) h
  | .ixor => s1I stk fun y r => s1I r fun x r => K (pc + len) loc (jI (jxor x y) :: r) h
  | .ishl => s1I stk fun y r => s1I r fun x r => K (pc + len) loc (jI (jshl x y) :: r) h
  | .ishr => s1I stk fun y r => s1I r fun x r => K (pc + len) loc (jI (jshr x y) :: r) h
  | .iushr => s1I stk fun y r => s1I r fun x r => K (pc + len) loc (jI (jush x y) :: r) h
  | .ladd => s1L stk fun y r => s1L r fun x r => K (pc + len) loc (jL (w64 (x + y)) :: r) h
  | .lsub => s1L stk fun y r => s1L r fun x r => K (pc + len) loc (jL (w64 (x - y)) :: r) h
  | .lmul => s1L stk fun y r => s1L r fun x r => K (pc + len) loc (jL (w64 (x * y)) :: r) h
  | .ldiv => s1L stk fun y r => s1L r fun x r => ¬ y = 0 ∧ K (pc + len) loc (jL (w64 (Int.tdiv x y)) :: r) h
  | .lrem => s1L stk fun y r => s1L r fun x r => ¬ y = 0 ∧ K (pc + len) loc (jL (w64 (Int.tmod x y)) :: r) h
  | .lneg => s1L stk fun x r => K (pc + len) loc (jL (w64 (-x)) :: r) h
  | .land => s1L stk fun y r => s1L r fun x r => K (pc + len) loc (jL (jandL x y) :: r) h
  | .lor => s1L stk fun y r => s1L r fun x r => K (pc + len) loc (jL (jorL x y) :: r) h
  | .lshl => s1I stk fun y r => s1L r fun x r => K (pc + len) loc (jL (jshlL x y) :: r) h
  | .lshr => s1I stk fun y r => s1L r fun x r => K (pc + len) loc (jL (jshrL x y) :: r) h
  | .lushr => s1I stk fun y r => s1L r fun x r => K (pc + len) loc (jL (jushL x y) :: r) h
  | .i2l => s1I stk fun x r => K (pc + len) loc (jL x :: r) h
  | .l2i => s1L stk fun x r => K (pc + len) loc (jI (w32 x) :: r) h
  | .i2b => s1I stk fun x r => K (pc + len) loc (jI (ji2b x) :: r) h
  | .i2c => s1I stk fun x r => K (pc + len) loc (jI (ji2c x) :: r) h
  | .lcmp => s1L stk fun y r => s1L r fun x r => K (pc + len) loc (jI (jcmp x y) :: r) h
  | .dup => s1V stk fun v r => K (pc + len) loc (v :: v :: r) h
  | .pop => s1V stk fun _ r => K (pc + len) loc r h
  | .dup2 => s1V stk fun v r => s1V r fun w r => K (pc + len) loc (v :: w :: v :: w :: r) h
  | .ifCond c t => s1I stk fun x r => (cnd c x 0 → K t.toNat loc r h) ∧ (¬ cnd c x 0 → K (pc + len) loc r h)
  | .if_icmp c t => s1I stk fun y r => s1I r fun x r => (cnd c x y → K t.toNat loc r h) ∧ (¬ cnd c x y → K (pc + len) loc r h)
  | .ifnull t => s1P stk fun a r => ¬ a = 1 ∧ (a = 0 → K t.toNat loc r h) ∧ (¬ a = 0 → K (pc + len) loc r h)
  | .ifnonnull t => s1P stk fun a r => ¬ a = 1 ∧ (¬ a = 0 → K t.toNat loc r h) ∧ (a = 0 → K (pc + len) loc r h)
  | .goto t => K t.toNat loc stk h
  | .tableswitch d lo hi ts => s1I stk fun x r => ((x < lo ∨ hi < x) → K d.toNat loc r h) ∧ (¬ (x < lo ∨ hi < x) → ∃ t, ts.toList[(x - lo).toNat]? = some t ∧ K t.toNat loc r h)
  | .lookupswitch d ps => s1I stk fun x r => K (jlook d ps.toList x).toNat loc r h
  | .getfield e => s1P stk fun a r => jt h a = tg (e / 100) ∧ K (pc + len) loc (jfl (kTy (e / 100) (e % 100)) h a (e % 100) :: r) h
  | .putfield e => jpf (kTy (e / 100) (e % 100)) stk h (e % 100) fun a r h' => jt h a = tg (e / 100) ∧ e / 100 < 12 ∧ K (pc + len) loc r h'
  | .new ci => ci < 12 ∧ K (pc + len) loc (jP (jx h) :: stk) (nw h (ci + 1) (kC ci).2.2)
  | .newarray t => s1I stk fun n r => 0 ≤ n ∧ n ≤ 1000000 ∧ aT t < 4 ∧ K (pc + len) loc (jP (jx h) :: r) (nw h (20 + aT t) n.toNat)
  | .anewarray e => s1I stk fun n r => 0 ≤ n ∧ n ≤ 1000000 ∧ e = 5 ∧ K (pc + len) loc (jP (jx h) :: r) (nw h 25 n.toNat)
  | .multianewarray _ _ => s1I stk fun k r => s1I r fun n r => 0 ≤ n ∧ n ≤ 1000 ∧ 0 ≤ k ∧ k ≤ 1000 ∧ K (pc + len) loc (jP (jx h) :: r) (nm2 h n.toNat k.toNat)
  | .arraylength => s1P stk fun a r => 20 ≤ jt h a ∧ jt h a < 60 ∧ K (pc + len) loc (jI (jn h a) :: r) h
  | .iaload => s1I stk fun i r => s1P r fun a r => inA h a 0 i ∧ K (pc + len) loc (jI (ji h a i.toNat) :: r) h
  | .laload => s1I stk fun i r => s1P r fun a r => inA h a 1 i ∧ K (pc + len) loc (jL (jl h a i.toNat) :: r) h
  | .baload => s1I stk fun i r => s1P r fun a r => (inA h a 2 i ∨ inA h a 3 i) ∧ K (pc + len) loc (jI (ji h a i.toNat) :: r) h
  | .aaload => s1I stk fun i r => s1P r fun a r => (inA h a 5 i ∨ inA h a 6 i) ∧ K (pc + len) loc (jP (jr h a i.toNat) :: r) h
  | .iastore => s1I stk fun x r => s1I r fun i r => s1P r fun a r => inW h a 0 i ∧ K (pc + len) loc r (wi h a i.toNat x)
  | .lastore => s1L stk fun x r => s1I r fun i r => s1P r fun a r => inW h a 1 i ∧ K (pc + len) loc r (wl h a i.toNat x)
  | .bastore => s1I stk fun x r => s1I r fun i r => s1P r fun a r => ((inW h a 2 i ∧ -128 ≤ x ∧ x ≤ 127) ∨ (inW h a 3 i ∧ (x = 0 ∨ x = 1))) ∧ K (pc + len) loc r (wi h a i.toNat x)
  | .aastore => s1P stk fun b r => s1I r fun i r => s1P r fun a r => inW h a 5 i ∧ (b = 0 ∨ jt h b = 6) ∧ K (pc + len) loc r (wr h a i.toNat b)
  | .invokevirtual y => (∃ a, ((stk.take (mT y).2.2.2.2.2.1).reverse)[0]? = some (jP a) ∧ jt h a = tg (mT y).2.2.2.2.1) ∧ jcl cl y stk h fun st h' => K (pc + len) loc st h'
  | .invokestatic y => jcl cl y stk h fun st h' => K (pc + len) loc st h'
  | .invokespecial e => (∃ a, ((stk.take (mT (e % 1000)).2.2.2.2.2.1).reverse)[0]? = some (jP a) ∧ 2 ≤ a) ∧ jcl cl (e % 1000) stk h fun st h' => K (pc + len) loc st h'
  | .saload => s1I stk fun y r => s1I r fun x r => (r.map jcat).sum ≤ 8 ∧ K (pc + len) loc (jI (if x < y then y else x) :: r) h
  | .sastore => s1I stk fun y r => s1I r fun x r => (r.map jcat).sum ≤ 8 ∧ K (pc + len) loc (jI (if y < x then y else x) :: r) h
  | .caload => s1L stk fun y r => s1L r fun x r => (r.map jcat).sum ≤ 8 ∧ K (pc + len) loc (jL (if y < x then y else x) :: r) h
  | .monitorenter => s1P stk fun a r => 2 ≤ a ∧ (r.map jcat).sum ≤ 8 ∧ K (pc + len) loc r h
  | .ireturn => s1I stk fun x r => r = [] ∧ R (some (jI x)) h
  | .lreturn => s1L stk fun x r => r = [] ∧ R (some (jL x)) h
  | .areturn => s1P stk fun x r => r = [] ∧ R (some (jP x)) h
  | .return_ => stk = [] ∧ R none h
  | _ => False
def jc : List (Nat × Instr × Nat) → Nat → Option (Instr × Nat)
  | [], _ => none
  | (p, i) :: r, q => bif Nat.beq p q then some i else jc r q
def rtOK (rt : Option FieldType) (v : Option AV) : Prop := match rt, v with
  | none, none => True
  | some .int, some (.inl _) => True
  | some .boolean, some (.inl x) => x = 0 ∨ x = 1
  | some .byte, some (.inl x) => -128 ≤ x ∧ x ≤ 127
  | some .char, some (.inl x) => 0 ≤ x ∧ x ≤ 65535
  | some .long, some (.inr (.inl _)) => True
  | some (.object _), some (.inr (.inr (.inl _))) => True
  | some (.array _), some (.inr (.inr (.inl _))) => True
  | _, _ => False
/-- from pc the frame comes within n steps to its end with the answer v0 and the heap h0 -/
def jPa (cl : Nat → List AV → AH → Option AV → AH → Prop) (cd : List (Nat × Instr × Nat)) (rt : Option FieldType) (v0 : Option AV) (h0 : AH) : Nat → Nat → List AV → List AV → AH → Prop
  | 0, _, _, _, _ => False
  | n + 1, pc, loc, stk, h => match jc cd pc with
    | some q => jS cl q.1 pc q.2 loc stk h (jPa cl cd rt v0 h0 n) (fun v h' => rtOK rt v ∧ v = v0 ∧ h' = h0)
    | none => False
def jarg : List AV → List AV
  | [] => []
  | v :: r => if isL v then v :: jU :: jarg r else v :: jarg r
/-- the locals at a method's entry -/
def jent (n : Nat) (as : List AV) : List AV := jarg as ++ List.replicate (n - (jarg as).length) jU
/-- method y, called with as at h, answers v and leaves h'; at most d frames stand -/
def jE : Nat → Nat → List AV → AH → Option AV → AH → Prop
  | 0, _, _, _, _, _ => False
  | d + 1, y, as, h, v, h' => (jarg as).length ≤ (mT y).2.2.1 ∧ ∃ n, jPa (jE d) (jcode y) (mT y).2.2.2.1 v h' n 0 (jent (mT y).2.2.1 as) [] h
