/-! the abstract machine: a world is what ints, longs, references the cells hold, by address and place, their shapes, the next address, the slots made -/
abbrev Wd : Type := (Nat → Nat → Int32) × (Nat → Nat → Int64) × (Nat → Nat → Option Nat) × (Nat → Nat × Nat) × Nat × Nat
def rdI (w : Wd) (a k : Nat) : Int32 := w.1 a k
def rdJ (w : Wd) (a k : Nat) : Int64 := w.2.1 a k
def rdR (w : Wd) (a k : Nat) : Option Nat := w.2.2.1 a k
def shp (w : Wd) (a : Nat) : Nat × Nat := w.2.2.2.1 a
def nxt (w : Wd) : Nat := w.2.2.2.2.1
def slt (w : Wd) : Nat := w.2.2.2.2.2
def up2 {α : Type} (f : Nat → Nat → α) (a k : Nat) (v : α) : Nat → Nat → α := fun b j => if b = a ∧ j = k then v else f b j
def wrI (w : Wd) (a k : Nat) (v : Int32) : Wd := (up2 w.1 a k v, w.2)
def wrJ (w : Wd) (a k : Nat) (v : Int64) : Wd := (w.1, up2 w.2.1 a k v, w.2.2)
def wrR (w : Wd) (a k : Nat) (v : Option Nat) : Wd := (w.1, w.2.1, up2 w.2.2.1 a k v, w.2.2.2)
def cpI (w : Wd) (sa sp da dp n : Nat) : Wd := (fun b j => if b = da ∧ dp ≤ j ∧ j < dp + n then w.1 sa (sp + (j - dp)) else w.1 b j, w.2)
def cpJ (w : Wd) (sa sp da dp n : Nat) : Wd := (w.1, fun b j => if b = da ∧ dp ≤ j ∧ j < dp + n then w.2.1 sa (sp + (j - dp)) else w.2.1 b j, w.2.2)
/-- a new cell at the next address: all 0, null -/
def mk1 (w : Wd) (k len sz : Nat) : Wd :=
  (fun b j => if b = nxt w then 0 else w.1 b j, fun b j => if b = nxt w then 0 else w.2.1 b j, fun b j => if b = nxt w then none else w.2.2.1 b j,
   fun b => if b = nxt w then (k, len) else shp w b, nxt w + 1, slt w + sz)
/-- new long[n][k]: the outer row, then the inner ones -/
def mk2 (w : Wd) (n k : Nat) : Wd :=
  (fun b j => if nxt w ≤ b then 0 else w.1 b j, fun b j => if nxt w ≤ b then 0 else w.2.1 b j, fun b j => if b = nxt w then (if j < n then some (nxt w + 1 + j) else none) else if nxt w ≤ b then none else w.2.2.1 b j,
   fun b => if b = nxt w then (17, n) else if nxt w < b ∧ b < nxt w + 1 + n then (11, k) else shp w b, nxt w + 1 + n, slt w + (n + n * k))
def tyT (ci : Nat) : u_T := match ci with
  | 0 => TX0 | 1 => TX1 | 2 => TX2 | 3 => TX3 | 4 => TX4 | 5 => TX5 | 6 => TX6 | 7 => TX7 | 8 => TX8 | _ => TX9
def fty (ci : Nat) : Nat → FieldType := match ci with
  | 0 => tyX0 | 1 => tyX1 | 2 => tyX2 | 3 => tyX3 | 4 => tyX4 | 5 => tyX5 | 6 => tyX6 | 7 => tyX7 | 8 => tyX8 | _ => tyX9
def nfl (ci : Nat) : Nat := match ci with
  | 0 => 2 | 1 => 2 | 2 => 2 | 3 => 3 | 4 => 4 | 5 => 5 | 6 => 5 | 7 => 17 | 8 => 11 | _ => 28
def clN (ci : Nat) : String := match ci with
  | 0 => RX0 | 1 => RX1 | 2 => RX2 | 3 => RX3 | 4 => RX4 | 5 => RX5 | 6 => RX6 | 7 => RX7 | 8 => RX8 | _ => RX9
/-- the arrays' kinds: 10 ints, 11 longs, 12 booleans, 13 chars, 14 Fractions, 15 Scenes, 16 Zones, 17 rows of longs -/
def aty (k : Nat) : FieldType := match k with
  | 10 => .int | 11 => .long | 12 => .boolean | 13 => .char | 14 => .object RX0 | 15 => .object RX4 | 16 => .object RX7 | _ => .array .long
def fval (ty : FieldType) (w : Wd) (a k : Nat) : Value := match ty with
  | .long => .long (rdJ w a k)
  | .object _ => va_rf (rdR w a k)
  | .array _ => va_rf (rdR w a k)
  | _ => .int (rdI w a k)
def arrE (k : Nat) (w : Wd) (a : Nat) : (Nat → Int32) ⊕ (Nat → Int64) ⊕ (Nat → UInt32) ⊕ (Nat → UInt64) ⊕ (Nat → Option Nat) :=
  if k = 11 then .inr (.inl (w.2.1 a)) else if 14 ≤ k then .inr (.inr (.inr (.inr (w.2.2.1 a)))) else .inl (w.1 a)
def cellE (cy : Nat → ClassId) (w : Wd) (a : Nat) : va_E :=
  if (shp w a).1 < 10 then .inr ((shp w a).1, (List.range (nfl (shp w a).1)).map (fun k => fval (fty (shp w a).1 k) w a k))
  else .inl (cy (shp w a).1, (shp w a).2, arrE (shp w a).1 w a)
def tysOf (cy : Nat → ClassId) : List (ClassId × FieldType) := [(cy 10, .int), (cy 11, .long), (cy 12, .boolean), (cy 13, .char), (cy 14, .object RX0), (cy 15, .object RX4), (cy 16, .object RX7), (cy 17, .array .long)]
/-- the heap holds the world: from b0 on, up to the next address -/
def Pic (ex : Bool) (D : va_G) (cy : Nat → ClassId) (b0 : Nat) (w : Wd) (H : Heap) : Prop :=
  (ex = true → H.size = nxt w) ∧ nxt w ≤ H.size ∧ b0 ≤ nxt w ∧ (∀ a, b0 ≤ a → a < nxt w → va_at D vwCl (a, cellE cy w a) H) ∧ ∀ a, ¬ (b0 ≤ a ∧ a < nxt w) → 100 ≤ (shp w a).1
/-! ### the steps -/
abbrev Lsx : Type := List (Option Value)
abbrev Nx : Type := Nat × Lsx × List Value × Wd
abbrev Fnc : Type := List Value → Wd → Option (Option Value × Wd)
/-- a method: code, fields, ints, longs, calls, classes to make, its answer's type, its class, whether it is <init> -/
abbrev Mth : Type := (Nat → Option Instr) × (Nat → Option (Nat × Nat)) × (Nat → Option Int32) × (Nat → Option Int64) × (Nat → Option (Nat × Nat × Fnc)) × (Nat → Option Nat) × Option FieldType × Nat × Bool
def mCode (M : Mth) (pc : Nat) : Option Instr := M.1 pc
def mFld (M : Mth) (i : Nat) : Option (Nat × Nat) := M.2.1 i
def mInt (M : Mth) (i : Nat) : Option Int32 := M.2.2.1 i
def mLng (M : Mth) (i : Nat) : Option Int64 := M.2.2.2.1 i
def mCal (M : Mth) (i : Nat) : Option (Nat × Nat × Fnc) := M.2.2.2.2.1 i
def mCls (M : Mth) (i : Nat) : Option Nat := M.2.2.2.2.2.1 i
def mRet (M : Mth) : Option FieldType := M.2.2.2.2.2.2.1
def mOwn (M : Mth) : Nat := M.2.2.2.2.2.2.2.1
def mIni (M : Mth) : Bool := M.2.2.2.2.2.2.2.2
def isc2 (x : Option (Option Value)) : Bool := match x with
  | some (some (.long _)) => true
  | some (some (.double _)) => true
  | _ => false
def ldI (i d pc : Nat) (ls : Lsx) (st : List Value) (w : Wd) : Option Nx := match ls[i]? with
  | some (some (.int x)) => some (pc + d, ls, .int x :: st, w)
  | _ => none
def ldJ (i d pc : Nat) (ls : Lsx) (st : List Value) (w : Wd) : Option Nx := match ls[i]? with
  | some (some (.long x)) => some (pc + d, ls, .long x :: st, w)
  | _ => none
def ldA (i d pc : Nat) (ls : Lsx) (st : List Value) (w : Wd) : Option Nx := match ls[i]? with
  | some (some (.ref x)) => some (pc + d, ls, .ref x :: st, w)
  | _ => none
def okS (ls : Lsx) (i : Nat) : Bool := decide (i < ls.length) && (decide (i = 0) || !isc2 (ls[i - 1]?))
def stI (i d pc : Nat) (ls : Lsx) (st : List Value) (w : Wd) : Option Nx := match st with
  | .int x :: r => if okS ls i then some (pc + d, ls.set i (some (.int x)), r, w) else none
  | _ => none
def stA (i d pc : Nat) (ls : Lsx) (st : List Value) (w : Wd) : Option Nx := match st with
  | .ref x :: r => if okS ls i then some (pc + d, ls.set i (some (.ref x)), r, w) else none
  | _ => none
def stJ (i d pc : Nat) (ls : Lsx) (st : List Value) (w : Wd) : Option Nx := match st with
  | .long x :: r => if okS ls i && decide (i + 1 < ls.length) then some (pc + d, (ls.set i (some (.long x))).set (i + 1) none, r, w) else none
  | _ => none
def incI (i : Nat) (n : Int) (pc : Nat) (ls : Lsx) (st : List Value) (w : Wd) : Option Nx := match ls[i]? with
  | some (some (.int x)) => if okS ls i then some (pc + 3, ls.set i (some (.int (x + Int32.ofInt n))), st, w) else none
  | _ => none
def bnI (f : Int32 → Int32 → Int32) (pc : Nat) (ls : Lsx) (st : List Value) (w : Wd) : Option Nx := match st with
  | .int y :: .int x :: r => some (pc + 1, ls, .int (f x y) :: r, w)
  | _ => none
def bnIz (f : Int32 → Int32 → Int32) (pc : Nat) (ls : Lsx) (st : List Value) (w : Wd) : Option Nx := match st with
  | .int y :: .int x :: r => if y = 0 then none else some (pc + 1, ls, .int (f x y) :: r, w)
  | _ => none
def bnJ (f : Int64 → Int64 → Int64) (pc : Nat) (ls : Lsx) (st : List Value) (w : Wd) : Option Nx := match st with
  | .long y :: .long x :: r => some (pc + 1, ls, .long (f x y) :: r, w)
  | _ => none
def bnJz (f : Int64 → Int64 → Int64) (pc : Nat) (ls : Lsx) (st : List Value) (w : Wd) : Option Nx := match st with
  | .long y :: .long x :: r => if y = 0 then none else some (pc + 1, ls, .long (f x y) :: r, w)
  | _ => none
def unI (f : Int32 → Value) (pc : Nat) (ls : Lsx) (st : List Value) (w : Wd) : Option Nx := match st with
  | .int x :: r => some (pc + 1, ls, f x :: r, w)
  | _ => none
def unJ (f : Int64 → Value) (pc : Nat) (ls : Lsx) (st : List Value) (w : Wd) : Option Nx := match st with
  | .long x :: r => some (pc + 1, ls, f x :: r, w)
  | _ => none
def cmpC (c : Jvm.ClassFile.Cond) (x y : Int32) : Bool := match c with
  | .eq => decide (x = y) | .ne => decide (x ≠ y) | .lt => decide (x < y) | .ge => decide (y ≤ x) | .gt => decide (y < x) | .le => decide (x ≤ y)
def jmp (off : Int) (pc : Nat) (ls : Lsx) (st : List Value) (w : Wd) : Option Nx := if 0 ≤ (pc : Int) + off then some (((pc : Int) + off).toNat, ls, st, w) else none
def if1 (c : Jvm.ClassFile.Cond) (off : Int) (pc : Nat) (ls : Lsx) (st : List Value) (w : Wd) : Option Nx := match st with
  | .int x :: r => if 0 ≤ (pc : Int) + off then (if cmpC c x 0 then some (((pc : Int) + off).toNat, ls, r, w) else some (pc + 3, ls, r, w)) else none
  | _ => none
def if2 (c : Jvm.ClassFile.Cond) (off : Int) (pc : Nat) (ls : Lsx) (st : List Value) (w : Wd) : Option Nx := match st with
  | .int y :: .int x :: r => if 0 ≤ (pc : Int) + off then (if cmpC c x y then some (((pc : Int) + off).toNat, ls, r, w) else some (pc + 3, ls, r, w)) else none
  | _ => none
def swT (d lo hi : Int) (os : Array Int) (pc : Nat) (ls : Lsx) (st : List Value) (w : Wd) : Option Nx := match st with
  | .int x :: r => if x.toInt < lo ∨ hi < x.toInt then jmp d pc ls r w else match os[(x.toInt - lo).toNat]? with
    | some o => jmp o pc ls r w
    | none => none
  | _ => none
def getF (M : Mth) (i pc : Nat) (ls : Lsx) (st : List Value) (w : Wd) : Option Nx := match st with
  | .ref a :: r => match mFld M i with
    | some (ci, k) => if (shp w a).1 = ci then some (pc + 3, ls, fval (fty ci k) w a k :: r, w) else none
    | none => none
  | _ => none
def putV (ty : FieldType) (w : Wd) (a k : Nat) (v : Value) : Option Wd := match ty with
  | .int => match v with | .int x => some (wrI w a k x) | _ => none
  | .boolean => match v with | .int x => if x = 0 ∨ x = 1 then some (wrI w a k x) else none | _ => none
  | .long => match v with | .long x => some (wrJ w a k x) | _ => none
  | .object _ => match v with | .ref q => some (wrR w a k (some q)) | _ => none
  | .array _ => match v with | .ref q => some (wrR w a k (some q)) | _ => none
  | _ => none
def putF (M : Mth) (i pc : Nat) (ls : Lsx) (st : List Value) (w : Wd) : Option Nx := match st with
  | v :: .ref a :: r => match mFld M i with
    | some (ci, k) => if (shp w a).1 = ci ∧ ((tyT ci k).2.2.2 = false ∨ (mIni M = true ∧ mOwn M = ci)) then (putV (fty ci k) w a k v).map (fun w' => (pc + 3, ls, r, w')) else none
    | none => none
  | _ => none
def inA (i : Int32) (n : Nat) : Bool := decide (0 ≤ i) && decide (i.toNatClampNeg < n)
def ald (ks : List Nat) (f : Wd → Nat → Nat → Value) (pc : Nat) (ls : Lsx) (st : List Value) (w : Wd) : Option Nx := match st with
  | .int i :: .ref a :: r => if (shp w a).1 ∈ ks ∧ inA i (shp w a).2 = true then some (pc + 1, ls, f w a i.toNatClampNeg :: r, w) else none
  | _ => none
def astI (k : Nat) (nar : Int32 → Int32) (pc : Nat) (ls : Lsx) (st : List Value) (w : Wd) : Option Nx := match st with
  | .int x :: .int i :: .ref a :: r => if (shp w a).1 = k ∧ inA i (shp w a).2 = true then some (pc + 1, ls, r, wrI w a i.toNatClampNeg (nar x)) else none
  | _ => none
def astJ (pc : Nat) (ls : Lsx) (st : List Value) (w : Wd) : Option Nx := match st with
  | .long x :: .int i :: .ref a :: r => if (shp w a).1 = 11 ∧ inA i (shp w a).2 = true then some (pc + 1, ls, r, wrJ w a i.toNatClampNeg x) else none
  | _ => none
/-- the class of an array's elements -/
def elC (k : Nat) : Nat := match k with | 14 => 0 | 15 => 4 | 16 => 7 | _ => 99
def astA (pc : Nat) (ls : Lsx) (st : List Value) (w : Wd) : Option Nx := match st with
  | .ref x :: .int i :: .ref a :: r => if (14 ≤ (shp w a).1 ∧ (shp w a).1 ≤ 16) ∧ (shp w x).1 = elC (shp w a).1 ∧ inA i (shp w a).2 = true then some (pc + 1, ls, r, wrR w a i.toNatClampNeg (some x)) else none
  | _ => none
def aln (pc : Nat) (ls : Lsx) (st : List Value) (w : Wd) : Option Nx := match st with
  | .ref a :: r => if 10 ≤ (shp w a).1 ∧ (shp w a).1 ≤ 17 then some (pc + 1, ls, .int (Int32.ofNat (shp w a).2) :: r, w) else none
  | _ => none
def clM (M : Mth) (kd i pc : Nat) (ls : Lsx) (st : List Value) (w : Wd) : Option Nx := match mCal M i with
  | some (kd', n, fn) => if kd' = kd ∧ n ≤ st.length ∧ ((st.drop n).map (fun v => v.category)).sum ≤ 8 then match fn (st.take n).reverse w with
    | some (r, w') => some (pc + 3, ls, r.toList ++ st.drop n, w')
    | none => none
    else none
  | none => none
def newO (M : Mth) (i pc : Nat) (ls : Lsx) (st : List Value) (w : Wd) : Option Nx := match mCls M i with
  | some ci => if ci < 10 then some (pc + 3, ls, .ref (nxt w) :: st, mk1 w ci 0 (nfl ci)) else none
  | none => none
def newA (M : Mth) (at_ : ArrayType) (pc : Nat) (ls : Lsx) (st : List Value) (w : Wd) : Option Nx := match st with
  | .int n :: r => match at_ with
    | .int => if mCls M 0 = some 18 ∧ 0 ≤ n ∧ n.toNatClampNeg ≤ 65536 then some (pc + 2, ls, .ref (nxt w) :: r, mk1 w 10 n.toNatClampNeg n.toNatClampNeg) else none
    | .long => if mCls M 0 = some 18 ∧ 0 ≤ n ∧ n.toNatClampNeg ≤ 65536 then some (pc + 2, ls, .ref (nxt w) :: r, mk1 w 11 n.toNatClampNeg n.toNatClampNeg) else none
    | .boolean => if mCls M 0 = some 18 ∧ 0 ≤ n ∧ n.toNatClampNeg ≤ 65536 then some (pc + 2, ls, .ref (nxt w) :: r, mk1 w 12 n.toNatClampNeg n.toNatClampNeg) else none
    | .char => if mCls M 0 = some 18 ∧ 0 ≤ n ∧ n.toNatClampNeg ≤ 65536 then some (pc + 2, ls, .ref (nxt w) :: r, mk1 w 13 n.toNatClampNeg n.toNatClampNeg) else none
    | _ => none
  | _ => none
def newR (M : Mth) (i pc : Nat) (ls : Lsx) (st : List Value) (w : Wd) : Option Nx := match st with
  | .int n :: r => match mCls M (i + 100000) with
    | some k => if (14 ≤ k ∧ k ≤ 16) ∧ 0 ≤ n ∧ n.toNatClampNeg ≤ 65536 then some (pc + 3, ls, .ref (nxt w) :: r, mk1 w k n.toNatClampNeg n.toNatClampNeg) else none
    | none => none
  | _ => none
def newM (M : Mth) (i pc : Nat) (ls : Lsx) (st : List Value) (w : Wd) : Option Nx := match st with
  | .int k :: .int n :: r => if mCls M i = some 17 ∧ (0 ≤ n ∧ n.toNatClampNeg ≤ 65536) ∧ (0 ≤ k ∧ k.toNatClampNeg ≤ 65536) then some (pc + 4, ls, .ref (nxt w) :: r, mk2 w n.toNatClampNeg k.toNatClampNeg) else none
  | _ => none
def dp1 (pc : Nat) (ls : Lsx) (st : List Value) (w : Wd) : Option Nx := match st with
  | .int x :: r => some (pc + 1, ls, .int x :: .int x :: r, w)
  | .ref x :: r => some (pc + 1, ls, .ref x :: .ref x :: r, w)
  | _ => none
def dp2 (pc : Nat) (ls : Lsx) (st : List Value) (w : Wd) : Option Nx := match st with
  | .int x :: .ref y :: r => some (pc + 1, ls, .int x :: .ref y :: .int x :: .ref y :: r, w)
  | .long x :: r => some (pc + 1, ls, .long x :: .long x :: r, w)
  | _ => none
def stepM (M : Mth) (i : Instr) (pc : Nat) (ls : Lsx) (st : List Value) (w : Wd) : Option Nx := match i with
  | .iconst n => some (pc + 1, ls, .int (Int32.ofInt n) :: st, w)
  | .bipush n => some (pc + 2, ls, .int (Int8.ofInt n).toInt32 :: st, w)
  | .sipush n => some (pc + 3, ls, .int (Int16.ofInt n).toInt32 :: st, w)
  | .lconst n => some (pc + 1, ls, .long (Int64.ofNat n.val) :: st, w)
  | .ldc k => match mInt M k with | some v => some (pc + 2, ls, .int v :: st, w) | none => none
  | .ldc_w k => match mInt M k with | some v => some (pc + 3, ls, .int v :: st, w) | none => none
  | .ldc2_w k => match mLng M k with | some v => some (pc + 3, ls, .long v :: st, w) | none => none
  | .iload_n k => ldI k.val 1 pc ls st w
  | .iload k => ldI k 2 pc ls st w
  | .lload_n k => ldJ k.val 1 pc ls st w
  | .lload k => ldJ k 2 pc ls st w
  | .aload_n k => ldA k.val 1 pc ls st w
  | .aload k => ldA k 2 pc ls st w
  | .istore_n k => stI k.val 1 pc ls st w
  | .istore k => stI k 2 pc ls st w
  | .lstore_n k => stJ k.val 1 pc ls st w
  | .lstore k => stJ k 2 pc ls st w
  | .astore_n k => stA k.val 1 pc ls st w
  | .astore k => stA k 2 pc ls st w
  | .iinc k n => incI k n pc ls st w
  | .iadd => bnI (fun x y => x + y) pc ls st w
  | .isub => bnI (fun x y => x - y) pc ls st w
  | .imul => bnI (fun x y => x * y) pc ls st w
  | .iand => bnI (fun x y => x &&& y) pc ls st w
  | .ior => bnI (fun x y => x ||| y) pc ls st w
  | .ixor => bnI (fun x y => x ^^^ y) pc ls st w
  | .ishl => bnI (fun x y => x <<< (y &&& 31)) pc ls st w
  | .ishr => bnI (fun x y => x >>> (y &&& 31)) pc ls st w
  | .iushr => bnI (fun x y => (x.toUInt32 >>> (y.toUInt32 &&& Int32.toUInt32 31)).toInt32) pc ls st w
  | .idiv => bnIz (fun x y => x / y) pc ls st w
  | .irem => bnIz (fun x y => x - x / y * y) pc ls st w
  | .ineg => unI (fun x => .int (-x)) pc ls st w
  | .ladd => bnJ (fun x y => x + y) pc ls st w
  | .lsub => bnJ (fun x y => x - y) pc ls st w
  | .lmul => bnJ (fun x y => x * y) pc ls st w
  | .land => bnJ (fun x y => x &&& y) pc ls st w
  | .lor => bnJ (fun x y => x ||| y) pc ls st w
  | .ldiv => bnJz (fun x y => x / y) pc ls st w
  | .lrem => bnJz (fun x y => x - x / y * y) pc ls st w
  | .lneg => unJ (fun x => .long (-x)) pc ls st w
  | .lshl => match st with
    | .int y :: .long x :: r => some (pc + 1, ls, .long (x <<< (y.toInt64 &&& 63)) :: r, w)
    | _ => none
  | .lcmp => match st with
    | .long y :: .long x :: r => some (pc + 1, ls, .int (lg_cmp x y) :: r, w)
    | _ => none
  | .i2l => unI (fun x => .long x.toInt64) pc ls st w
  | .i2b => unI (fun x => .int x.toInt8.toInt32) pc ls st w
  | .i2s => unI (fun x => .int x.toInt16.toInt32) pc ls st w
  | .i2c => unI (fun x => .int (x.toUInt32 % 65536).toInt32) pc ls st w
  | .l2i => unJ (fun x => .int x.toInt32) pc ls st w
  | .dup => dp1 pc ls st w
  | .dup2 => dp2 pc ls st w
  | .ifCond c off => if1 c off pc ls st w
  | .if_icmp c off => if2 c off pc ls st w
  | .goto off => jmp off pc ls st w
  | .tableswitch d lo hi os => swT d lo hi os pc ls st w
  | .getfield k => getF M k pc ls st w
  | .putfield k => putF M k pc ls st w
  | .iaload => ald [10] (fun w a j => .int (rdI w a j)) pc ls st w
  | .baload => ald [12] (fun w a j => .int (rdI w a j)) pc ls st w
  | .caload => ald [13] (fun w a j => .int (rdI w a j)) pc ls st w
  | .laload => ald [11] (fun w a j => .long (rdJ w a j)) pc ls st w
  | .aaload => ald [14, 15, 16, 17] (fun w a j => va_rf (rdR w a j)) pc ls st w
  | .iastore => astI 10 (fun x => x) pc ls st w
  | .bastore => astI 12 (fun x => vp_nar .boolean x) pc ls st w
  | .castore => astI 13 (fun x => vp_nar .char x) pc ls st w
  | .lastore => astJ pc ls st w
  | .aastore => astA pc ls st w
  | .arraylength => aln pc ls st w
  | .invokevirtual k => clM M 0 k pc ls st w
  | .invokespecial k => clM M 1 k pc ls st w
  | .invokestatic k => clM M 2 k pc ls st w
  | .new k => newO M k pc ls st w
  | .newarray t => newA M t pc ls st w
  | .anewarray k => newR M k pc ls st w
  | .multianewarray k d => if d = 2 then newM M k pc ls st w else none
  | _ => none
/-- an end: the answer -/
def retM (M : Mth) (i : Instr) (st : List Value) : Option (Option Value) := match i with
  | .return_ => if mRet M = none ∧ st = [] then some none else none
  | .ireturn => match st with
    | [.int v] => match mRet M with
      | some .int => some (some (.int v))
      | some .boolean => if v = 0 ∨ v = 1 then some (some (.int v)) else none
      | some .char => if narrow .char (.int v) = .int v then some (some (.int v)) else none
      | _ => none
    | _ => none
  | .lreturn => match st with
    | [.long v] => if mRet M = some .long then some (some (.long v)) else none
    | _ => none
  | _ => none
def runM (M : Mth) : Nat → Nat → Lsx → List Value → Wd → Option (Option Value × Wd)
  | 0, _, _, _, _ => none
  | n + 1, pc, ls, st, w => match mCode M pc with
    | none => none
    | some i => match retM M i st with
      | some v => some (v, w)
      | none => match stepM M i pc ls st w with
        | none => none
        | some q => runM M n q.1 q.2.1 q.2.2.1 q.2.2.2
def entS : List Value → Lsx
  | [] => []
  | v :: vs => if v.category = 2 then some v :: none :: entS vs else some v :: entS vs
def entL (n : Nat) (vs : List Value) : Lsx := entS vs ++ List.replicate (n - (entS vs).length) none
/-- the length of an instruction -/
def ilen (pc : Nat) : Instr → Nat
  | .bipush _ => 2 | .sipush _ => 3 | .ldc _ => 2 | .ldc_w _ => 3 | .ldc2_w _ => 3
  | .iload _ => 2 | .lload _ => 2 | .aload _ => 2 | .istore _ => 2 | .lstore _ => 2 | .astore _ => 2 | .iinc _ _ => 3
  | .ifCond _ _ => 3 | .if_icmp _ _ => 3 | .goto _ => 3 | .tableswitch _ _ _ os => 1 + (3 - pc % 4) + 12 + 4 * os.size
  | .getfield _ => 3 | .putfield _ => 3 | .invokevirtual _ => 3 | .invokespecial _ => 3 | .invokestatic _ => 3
  | .new _ => 3 | .newarray _ => 2 | .anewarray _ => 3 | .multianewarray _ _ => 4
  | _ => 1
