/-! the abstract machine: its memory, its locals, one instruction, a block, a method -/
/-- the memory: ints (fields and places of arrays of int, byte, boolean), longs, references; by id and place -/
abbrev AM : Type := (Nat → Nat → Int32) × (Nat → Nat → Int64) × (Nat → Nat → Option Nat)
abbrev LV : Type := List (Nat × Value)
abbrev DT : Type := List Value → AM → Option (Option Value × AM)
/-- an instruction, its length, two hints -/
abbrev Ent : Type := Instr × Nat × Nat × Nat
/-- a callee: 0 virtual, 1 static, 2 System.arraycopy, 3 to 6 Math.min, max of ints, of longs; the receiver's kind; how many arguments (the receiver with); what it does -/
abbrev Cal : Type := Nat × Nat × Nat × DT
/-- a block: its place, which locals it reads, its instructions -/
abbrev Blk : Type := Nat × List Nat × List Ent
def u2 {α : Type} (f : Nat → Nat → α) (a k : Nat) (x : α) : Nat → Nat → α := fun b j => if b = a then (if j = k then x else f b j) else f b j
def lk : LV → Nat → Option Value
  | [], _ => none
  | q :: r, i => if q.1 = i then some q.2 else lk r i
def st1 (lv : LV) (i : Nat) (v : Value) : LV := (i, v) :: lv.filter (fun q => !(q.1 == i) && !(q.1 + 1 == i && q.2.category == 2))
def st2 (lv : LV) (i : Nat) (v : Value) : LV := (i, v) :: lv.filter (fun q => !(q.1 == i) && (!(q.1 == i + 1) && !(q.1 + 1 == i && q.2.category == 2)))
/-- a list, told out row by row, and what is done with it -/
def frc {α β : Type} : List β → (List β → Option α) → Option α
  | [], k => k []
  | a :: r, k => frc r (fun r' => k (a :: r'))
def pick (ks : List Nat) (lv : LV) : LV := ks.filterMap (fun i => (lk lv i).map (fun v => (i, v)))
def inB (i : Int32) (n : Nat) : Prop := ¬ i < 0 ∧ i.toNatClampNeg < n
/-- a test that is due at run time; one that a program decides -/
noncomputable def gd {α : Type} (b : Prop) (x : Option α) : Option α := @ite _ b (Classical.propDecidable b) x none
noncomputable def ifc {α : Type} (b : Prop) (x y : Option α) : Option α := @ite _ b (Classical.propDecidable b) x y
def gk {α : Type} (b : Bool) (x : Option α) : Option α := match b with
  | true => x
  | false => none
def isB (x : Int32) : Prop := x = 0 ∨ x = 1
/-- the number minus m -/
def nM (m : Nat) : Int32 := -(nI m)
def cI (n : Int) : Int32 := match n with
  | .ofNat m => nI m
  | .negSucc m => nM (m + 1)
def tgt (pc : Nat) (o : Int) : Nat := ((pc : Int) + o).toNat
def popI {α : Type} (st : List Value) (f : Int32 → List Value → Option α) : Option α := match st with
  | .int x :: r => f x r
  | _ => none
def popL {α : Type} (st : List Value) (f : Int64 → List Value → Option α) : Option α := match st with
  | .long x :: r => f x r
  | _ => none
def popR {α : Type} (st : List Value) (f : Nat → List Value → Option α) : Option α := match st with
  | .ref x :: r => f x r
  | _ => none
def getL {α : Type} (lv : LV) (i : Nat) (f : Value → Option α) : Option α := match lk lv i with
  | some v => f v
  | none => none
def asI {α : Type} (v : Value) (f : Int32 → Option α) : Option α := match v with
  | .int x => f x
  | _ => none
def asL {α : Type} (v : Value) (f : Int64 → Option α) : Option α := match v with
  | .long x => f x
  | _ => none
def asR {α : Type} (v : Value) (f : Nat → Option α) : Option α := match v with
  | .ref x => f x
  | _ => none
def someR {α : Type} (v : Option Nat) (f : Nat → Option α) : Option α := match v with
  | some x => f x
  | none => none
def bM {α : Type} (b : Bool) (x y : Option α) : Option α := match b with
  | true => x
  | false => y
def scR {α β : Type} (o : Option β) (f : β → Option α) : Option α := match o with
  | some q => f q
  | none => none
def f4 {α : Type} (n : Nat) (x1 x2 x3 x0 : Option α) : Option α := match n with
  | 1 => x1
  | 2 => x2
  | 3 => x3
  | _ => x0
noncomputable def swT {α : Type} (k : Nat → Option α) (x : Int32) (pc : Nat) (d : Int) : Int → List Int → Option α
  | _, [] => k (tgt pc d)
  | lo, o :: r => ifc (x = cI lo) (k (tgt pc o)) (swT k x pc d (lo + 1) r)
noncomputable def swL {α : Type} (k : Nat → Option α) (x : Int32) (pc : Nat) (d : Int) : List (Int × Int) → Option α
  | [] => k (tgt pc d)
  | q :: r => ifc (x = cI q.1) (k (tgt pc q.2)) (swL k x pc d r)
def catS (st : List Value) : Nat := (st.map fun v => v.category).sum
noncomputable def cmpZ {α : Type} (c : ClassFile.Cond) (x : Int32) (a b : Option α) : Option α := match c with
  | .eq => ifc (x = 0) a b
  | .ne => ifc (x = 0) b a
  | .lt => ifc (x < 0) a b
  | .ge => ifc (x < 0) b a
  | .gt => ifc (0 < x) a b
  | .le => ifc (0 < x) b a
noncomputable def cmpI {α : Type} (c : ClassFile.Cond) (x y : Int32) (a b : Option α) : Option α := match c with
  | .eq => ifc (x = y) a b
  | .ne => ifc (x = y) b a
  | .lt => ifc (x < y) a b
  | .ge => ifc (x < y) b a
  | .gt => ifc (y < x) a b
  | .le => ifc (y < x) b a
/-- what a callee leaves: its answer by its kind; the references stay -/
noncomputable def crV {α : Type} (o : Option (Option Value × AM)) (M : AM) (f : (Nat → Nat → Int32) → (Nat → Nat → Int64) → Option α) : Option α := match o with
  | some (none, M') => @ite _ (M'.2.2 = M.2.2) (Classical.propDecidable _) (f M'.1 M'.2.1) none
  | _ => none
noncomputable def crI {α : Type} (o : Option (Option Value × AM)) (M : AM) (f : Int32 → (Nat → Nat → Int32) → (Nat → Nat → Int64) → Option α) : Option α := match o with
  | some (some (.int x), M') => @ite _ (M'.2.2 = M.2.2) (Classical.propDecidable _) (f x M'.1 M'.2.1) none
  | _ => none
noncomputable def crL {α : Type} (o : Option (Option Value × AM)) (M : AM) (f : Int64 → (Nat → Nat → Int32) → (Nat → Nat → Int64) → Option α) : Option α := match o with
  | some (some (.long x), M') => @ite _ (M'.2.2 = M.2.2) (Classical.propDecidable _) (f x M'.1 M'.2.1) none
  | _ => none
/-- the same of a callee that moves references among those that may -/
noncomputable def rpOf (R : Nat → Nat → Option Nat) : Option (Nat × Nat × Nat) := @dite _ (∃ q : Nat × Nat × Nat, R = Rp q.1 q.2.1 q.2.2) (Classical.propDecidable _) (fun h => some h.choose) (fun _ => none)
noncomputable def cmV {α : Type} (o : Option (Option Value × AM)) (f : (Nat → Nat → Int32) → (Nat → Nat → Int64) → Nat → Nat → Nat → Option α) : Option α := match o with
  | some (none, M') => (match rpOf M'.2.2 with
    | some q => f M'.1 M'.2.1 q.1 q.2.1 q.2.2
    | none => none)
  | _ => none
noncomputable def cmI {α : Type} (o : Option (Option Value × AM)) (f : Int32 → (Nat → Nat → Int32) → (Nat → Nat → Int64) → Nat → Nat → Nat → Option α) : Option α := match o with
  | some (some (.int x), M') => (match rpOf M'.2.2 with
    | some q => f x M'.1 M'.2.1 q.1 q.2.1 q.2.2
    | none => none)
  | _ => none
def cpy2 (f : Nat → Nat → Int32) (a sp b dp n : Nat) : Nat → Nat → Int32 := fun c j => if c = b then (if dp ≤ j ∧ j < dp + n then f a (sp + (j - dp)) else f c j) else f c j
def mnI (x y : Int32) : Int32 := if y < x then y else x
def mxI (x y : Int32) : Int32 := if x < y then y else x
def mnL (x y : Int64) : Int64 := if y < x then y else x
def mxL (x y : Int64) : Int64 := if y < x then x else y
def rcv (c : Nat) (as : List Value) : Bool := match as with
  | .ref a :: _ => gK a == c && Nat.blt a lyN
  | _ => false
def obj (c a : Nat) : Bool := gK a == c && Nat.blt a lyN
/-- the script: an array that is read alone, its id -/
def idS : Nat := 1000
/-- a method's own: how many locals, what it answers (0 nothing, 1 int, 2 long, 3 boolean), its callees, its blocks, the script -/
abbrev MC : Type := Nat × Nat × List Cal × List Blk × Option (Nat × (Nat → Int32))
/-- one instruction: nx: it goes on behind it; k: it jumps; rt: it answers -/
noncomputable def i1 {α : Type} (C : MC) (k : Nat → LV → List Value → AM → Option α) (rt : Option Value → AM → Option α) (nx : LV → List Value → AM → Option α) (pc : Nat) (i : Instr) (h1 h2 : Nat) (lv : LV) (st : List Value) (M : AM) : Option α :=
  match i with
  | .iconst n => nx lv (.int (cI n) :: st) M
  | .bipush n => nx lv (.int (cI n) :: st) M
  | .sipush n => nx lv (.int (cI n) :: st) M
  | .lconst n => nx lv (.long (lN n.val) :: st) M
  | .ldc _ => nx lv (.int (nI h1) :: st) M
  | .ldc_w _ => nx lv (.int (nI h1) :: st) M
  | .ldc2_w _ => nx lv (.long (lN h1) :: st) M
  | .iload_n n => getL lv n.val fun v => asI v fun x => nx lv (.int x :: st) M
  | .iload n => getL lv n fun v => asI v fun x => nx lv (.int x :: st) M
  | .lload_n n => getL lv n.val fun v => asL v fun x => nx lv (.long x :: st) M
  | .lload n => getL lv n fun v => asL v fun x => nx lv (.long x :: st) M
  | .aload_n n => getL lv n.val fun v => asR v fun x => nx lv (.ref x :: st) M
  | .aload n => getL lv n fun v => asR v fun x => nx lv (.ref x :: st) M
  | .istore_n n => popI st fun x st => gk (Nat.blt n.val C.1) (frc (st1 lv n.val (.int x)) fun lv => nx lv st M)
  | .istore n => popI st fun x st => gk (Nat.blt n C.1) (frc (st1 lv n (.int x)) fun lv => nx lv st M)
  | .lstore_n n => popL st fun x st => gk (Nat.blt (n.val + 1) C.1) (frc (st2 lv n.val (.long x)) fun lv => nx lv st M)
  | .lstore n => popL st fun x st => gk (Nat.blt (n + 1) C.1) (frc (st2 lv n (.long x)) fun lv => nx lv st M)
  | .astore_n n => popR st fun x st => gk (Nat.blt n.val C.1) (frc (st1 lv n.val (.ref x)) fun lv => nx lv st M)
  | .astore n => popR st fun x st => gk (Nat.blt n C.1) (frc (st1 lv n (.ref x)) fun lv => nx lv st M)
  | .iinc n c => getL lv n fun v => asI v fun x => gk (Nat.blt n C.1) (frc (st1 lv n (.int (x + cI c))) fun lv => nx lv st M)
  | .iadd => popI st fun y st => popI st fun x st => nx lv (.int (x + y) :: st) M
  | .isub => popI st fun y st => popI st fun x st => nx lv (.int (x - y) :: st) M
  | .imul => popI st fun y st => popI st fun x st => nx lv (.int (x * y) :: st) M
  | .iand => popI st fun y st => popI st fun x st => nx lv (.int (x &&& y) :: st) M
  | .ior => popI st fun y st => popI st fun x st => nx lv (.int (x ||| y) :: st) M
  | .ixor => popI st fun y st => popI st fun x st => nx lv (.int (x ^^^ y) :: st) M
  | .ishl => popI st fun y st => popI st fun x st => nx lv (.int (x <<< (y &&& 31)) :: st) M
  | .ishr => popI st fun y st => popI st fun x st => nx lv (.int (x >>> (y &&& 31)) :: st) M
  | .iushr => popI st fun y st => popI st fun x st => nx lv (.int (x.toUInt32 >>> (y.toUInt32 &&& Int32.toUInt32 31)).toInt32 :: st) M
  | .idiv => popI st fun y st => popI st fun x st => gd (y ≠ 0) (nx lv (.int (x / y) :: st) M)
  | .irem => popI st fun y st => popI st fun x st => gd (y ≠ 0) (nx lv (.int (x - x / y * y) :: st) M)
  | .ladd => popL st fun y st => popL st fun x st => nx lv (.long (x + y) :: st) M
  | .lsub => popL st fun y st => popL st fun x st => nx lv (.long (x - y) :: st) M
  | .lmul => popL st fun y st => popL st fun x st => nx lv (.long (x * y) :: st) M
  | .land => popL st fun y st => popL st fun x st => nx lv (.long (x &&& y) :: st) M
  | .ldiv => popL st fun y st => popL st fun x st => gd (y ≠ 0) (nx lv (.long (x / y) :: st) M)
  | .lrem => popL st fun y st => popL st fun x st => gd (y ≠ 0) (nx lv (.long (x - x / y * y) :: st) M)
  | .lneg => popL st fun x st => nx lv (.long (-x) :: st) M
  | .lcmp => popL st fun y st => popL st fun x st => nx lv (.int (lg_cmp x y) :: st) M
  | .i2l => popI st fun x st => nx lv (.long x.toInt64 :: st) M
  | .l2i => popL st fun x st => nx lv (.int x.toInt32 :: st) M
  | .i2b => popI st fun x st => nx lv (.int x.toInt8.toInt32 :: st) M
  | .dup => (match st with
    | v :: st => gk (Nat.beq v.category 1) (nx lv (v :: v :: st) M)
    | _ => none)
  | .pop => (match st with
    | v :: st => gk (Nat.beq v.category 1) (nx lv st M)
    | _ => none)
  | .dup2 => (match st with
    | v :: w :: st => gk (Nat.beq v.category 1 && Nat.beq w.category 1) (nx lv (v :: w :: v :: w :: st) M)
    | _ => none)
  | .goto _ => k h1 lv st M
  | .ifCond c _ => popI st fun x st => cmpZ c x (k h1 lv st M) (nx lv st M)
  | .if_icmp c _ => popI st fun y st => popI st fun x st => cmpI c x y (k h1 lv st M) (nx lv st M)
  | .tableswitch d lo _ os => popI st fun x st => swT (fun t => k t lv st M) x pc d lo os.toList
  | .lookupswitch d ps => popI st fun x st => swL (fun t => k t lv st M) x pc d ps.toList
  | .getfield _ => popR st fun a st => gk (obj h1 a && Nat.blt h2 (cN h1)) (f4 (fk h1 h2) (nx lv (.long (M.2.1 a h2) :: st) M) (someR (M.2.2 a h2) fun b => nx lv (.ref b :: st) M) (nx lv (.int (M.1 a h2) :: st) M) (nx lv (.int (M.1 a h2) :: st) M))
  | .putfield _ => gk (Nat.blt h2 (cN h1) && !fFin h1 h2) (f4 (fk h1 h2)
    (popL st fun x st => popR st fun a st => gk (obj h1 a) (nx lv st (M.1, u2 M.2.1 a h2 x, M.2.2)))
    (popR st fun x st => popR st fun a st => gk (obj h1 a) (nx lv st (M.1, M.2.1, u2 M.2.2 a h2 (some x))))
    (popI st fun x st => popR st fun a st => gk (obj h1 a) (gd (isB x) (nx lv st (u2 M.1 a h2 x, M.2.1, M.2.2))))
    (popI st fun x st => popR st fun a st => gk (obj h1 a) (nx lv st (u2 M.1 a h2 x, M.2.1, M.2.2))))
  | .iaload => popI st fun j st => popR st fun a st => bM (Nat.beq a idS) (scR C.2.2.2.2 fun q => gd (inB j q.1) (nx lv (.int (q.2 j.toNatClampNeg) :: st) M))
    (gk (obj 12 a) (gd (inB j (gN a)) (nx lv (.int (M.1 a j.toNatClampNeg) :: st) M)))
  | .baload => popI st fun j st => popR st fun a st => gk (obj 11 a || obj 14 a) (gd (inB j (gN a)) (nx lv (.int (M.1 a j.toNatClampNeg) :: st) M))
  | .laload => popI st fun j st => popR st fun a st => gk (obj 13 a) (gd (inB j (gN a)) (nx lv (.long (M.2.1 a j.toNatClampNeg) :: st) M))
  | .iastore => popI st fun x st => popI st fun j st => popR st fun a st => gk (obj 12 a) (gd (inB j (gN a)) (nx lv st (u2 M.1 a j.toNatClampNeg x, M.2.1, M.2.2)))
  | .bastore => popI st fun x st => popI st fun j st => popR st fun a st => bM (obj 11 a) (gd (inB j (gN a)) (nx lv st (u2 M.1 a j.toNatClampNeg x.toInt8.toInt32, M.2.1, M.2.2)))
    (gk (obj 14 a) (gd (inB j (gN a)) (nx lv st (u2 M.1 a j.toNatClampNeg (x &&& 1), M.2.1, M.2.2))))
  | .lastore => popL st fun x st => popI st fun j st => popR st fun a st => gk (obj 13 a) (gd (inB j (gN a)) (nx lv st (M.1, u2 M.2.1 a j.toNatClampNeg x, M.2.2)))
  | .arraylength => popR st fun a st => bM (Nat.beq a idS) (scR C.2.2.2.2 fun q => nx lv (.int (nI q.1) :: st) M)
    (gk (obj 11 a || (obj 12 a || (obj 13 a || obj 14 a))) (nx lv (.int (nI (gN a)) :: st) M))
  | .invokevirtual _ => (match C.2.2.1[h1]? with
    | some (0, c, n, D) => gk (Nat.ble n st.length && rcv c (st.take n).reverse && Nat.ble (catS (st.drop n)) 8) (match h2 with
      | 0 => crV (D (st.take n).reverse M) M fun i l => nx lv (st.drop n) (i, l, M.2.2)
      | 1 => crI (D (st.take n).reverse M) M fun x i l => nx lv (.int x :: st.drop n) (i, l, M.2.2)
      | 2 => crL (D (st.take n).reverse M) M fun x i l => nx lv (.long x :: st.drop n) (i, l, M.2.2)
      | 3 => cmV (D (st.take n).reverse M) fun i l s r p => nx lv (st.drop n) (i, l, Rp s r p)
      | _ => cmI (D (st.take n).reverse M) fun x i l s r p => nx lv (.int x :: st.drop n) (i, l, Rp s r p))
    | _ => none)
  | .invokestatic _ => (match C.2.2.1[h1]? with
    | some (1, _, n, D) => gk (Nat.ble n st.length && Nat.ble (catS (st.drop n)) 8) (match h2 with
      | 0 => crV (D (st.take n).reverse M) M fun i l => nx lv (st.drop n) (i, l, M.2.2)
      | 1 => crI (D (st.take n).reverse M) M fun x i l => nx lv (.int x :: st.drop n) (i, l, M.2.2)
      | _ => crL (D (st.take n).reverse M) M fun x i l => nx lv (.long x :: st.drop n) (i, l, M.2.2))
    | some (2, _, _, _) => popI st fun n st => popI st fun dp st => popR st fun b st => popI st fun sp st => popR st fun a st =>
      gk (obj 12 a && obj 12 b && Nat.ble (catS st) 8) (gd (¬ sp < 0 ∧ ¬ dp < 0 ∧ ¬ n < 0 ∧ sp.toNatClampNeg + n.toNatClampNeg ≤ gN a ∧ dp.toNatClampNeg + n.toNatClampNeg ≤ gN b)
        (nx lv st (cpy2 M.1 a sp.toNatClampNeg b dp.toNatClampNeg n.toNatClampNeg, M.2.1, M.2.2)))
    | some (3, _, _, _) => popI st fun y st => popI st fun x st => gk (Nat.ble (catS st) 8) (nx lv (.int (mnI x y) :: st) M)
    | some (4, _, _, _) => popI st fun y st => popI st fun x st => gk (Nat.ble (catS st) 8) (nx lv (.int (mxI x y) :: st) M)
    | some (5, _, _, _) => popL st fun y st => popL st fun x st => gk (Nat.ble (catS st) 8) (nx lv (.long (mnL x y) :: st) M)
    | some (6, _, _, _) => popL st fun y st => popL st fun x st => gk (Nat.ble (catS st) 8) (nx lv (.long (mxL x y) :: st) M)
    | _ => none)
  | .return_ => gk (Nat.beq C.2.1 0 && st.isEmpty) (rt none M)
  | .ireturn => popI st fun x st => gk (st.isEmpty && (Nat.beq C.2.1 1 || Nat.beq C.2.1 3)) (bM (Nat.beq C.2.1 3) (gd (isB x) (rt (some (.int x)) M)) (rt (some (.int x)) M))
  | .lreturn => popL st fun x st => gk (st.isEmpty && Nat.beq C.2.1 2) (rt (some (.long x)) M)
  | _ => none
noncomputable def exB {α : Type} (C : MC) (k : Nat → LV → List Value → AM → Option α) (rt : Option Value → AM → Option α) : List Ent → Nat → LV → List Value → AM → Option α
  | [], pc, lv, st, M => k pc lv st M
  | e :: is, pc, lv, st, M => i1 C k rt (fun lv st M => exB C k rt is (pc + e.2.1) lv st M) pc e.1 e.2.2.1 e.2.2.2 lv st M
def bAt : List Blk → Nat → Option (List Nat × List Ent)
  | [], _ => none
  | b :: r, pc => if b.1 = pc then some b.2 else bAt r pc
noncomputable def iF (C : MC) : Nat → Nat → LV → List Value → AM → Option (Option Value × AM)
  | 0, _, _, _, _ => none
  | n + 1, pc, lv, st, M => match bAt C.2.2.2.1 pc with
    | none => none
    | some b => exB C (iF C n) (fun v M => some (v, M)) b.2 pc (pick b.1 lv) st M
/-- a method from a block on, to its end -/
noncomputable def it (C : MC) (pc : Nat) (lv : LV) (st : List Value) (M : AM) : Option (Option Value × AM) :=
  @dite _ (∃ n, (iF C n pc lv st M).isSome = true) (Classical.propDecidable _) (fun h => iF C h.choose pc lv st M) (fun _ => none)
