/-! the small machine: what each instruction does to places, locals, stack and memory; 65535: no place of any method (a guard that fails goes there) -/
abbrev zX : Type := (Nat × List Value × List Value × zM) ⊕ ((zMt × List Value × Nat × List Value) ⊕ Option Value)
abbrev zSc : Type := Nat × (Nat → Int32)
def zt (pc : Nat) : Int → Option Nat
  | .ofNat n => some (pc + n)
  | .negSucc n => bif Nat.ble (n + 1) pc then some (pc - (n + 1)) else none
def zn (pc : Nat) (ls st : List Value) (M : zM) : Option zX := some (.inl (pc, ls, st, M))
def zkill (ls : List Value) : Nat → List Value
  | 0 => ls
  | k + 1 => match zgt ls k with
    | some (.long _) => ls.set k .null
    | some (.double _) => ls.set k .null
    | _ => ls
def zsto1 (ls : List Value) (i : Nat) (v : Value) : List Value := (zkill ls i).set i v
def zsto2 (ls : List Value) (i : Nat) (v : Value) : List Value := ((zkill ls i).set i v).set (i + 1) .null
def zval (I : zI) (L : zL) (a k : Nat) : zF → Value
  | .inl 1 => .long (L a k)
  | .inl _ => .int (I a k)
  | .inr none => .null
  | .inr (some q) => .ref q
def zbr (c : ClassFile.Cond) (x y : Int32) (t f : Nat) : Nat := match c with
  | .eq => if x = y then t else f
  | .ne => if x = y then f else t
  | .lt => if x < y then t else f
  | .ge => if y ≤ x then t else f
  | .gt => if y < x then t else f
  | .le => if x ≤ y then t else f
def ztsw (pc : Nat) (d lo hi : Int) (offs : Array Int) (x : Int32) : Option Nat :=
  if x.toInt < lo ∨ hi < x.toInt then zt pc d else match zgt offs.toList (x.toInt - lo).toNat with
    | some o => zt pc o
    | none => none
def zargs : Nat → List Value → List Value → Option (List Value × List Value)
  | 0, as, st => some (as, st)
  | n + 1, as, v :: st => zargs n (v :: as) st
  | _ + 1, _, [] => none
def zsp : List Value → List Value
  | [] => []
  | .long x :: vs => .long x :: .null :: zsp vs
  | .double x :: vs => .double x :: .null :: zsp vs
  | v :: vs => v :: zsp vs
def zpad : Nat → List Value → List Value
  | 0, l => l
  | n + 1, [] => .null :: zpad n []
  | n + 1, v :: l => v :: zpad n l
def zent (n : Nat) (as : List Value) : List Value := zpad n (zsp as)
def zcat : List Value → Nat
  | [] => 0
  | .long _ :: l => zcat l + 2
  | .double _ :: l => zcat l + 2
  | _ :: l => zcat l + 1
def zcls (S : List zS) (a : Nat) : Option Nat := match zgt S a with
  | some (.inr (c, _)) => some c
  | _ => none
def zld (v : Option Value) (pc : Nat) (ls st : List Value) (M : zM) : Option zX := match v with
  | some .null => none
  | some v => zn pc ls (v :: st) M
  | none => none
def zbi (f : Int32 → Int32 → Int32) (pc : Nat) (ls st : List Value) (M : zM) : Option zX := match st with
  | .int y :: .int x :: r => zn pc ls (.int (f x y) :: r) M
  | _ => none
def zbl (f : Int64 → Int64 → Int64) (pc : Nat) (ls st : List Value) (M : zM) : Option zX := match st with
  | .long y :: .long x :: r => zn pc ls (.long (f x y) :: r) M
  | _ => none
def zbd (f : UInt64 → UInt64 → UInt64) (pc : Nat) (ls st : List Value) (M : zM) : Option zX := match st with
  | .double y :: .double x :: r => zn (if f x y &&& 0x7fffffffffffffff ≤ 0x7ff0000000000000 then pc else 65535) ls (.double (f x y) :: r) M
  | _ => none
def zs1 (k pc : Nat) (ls r : List Value) (v : Value) (M : zM) : Option zX := bif Nat.blt k ls.length then zn pc (zsto1 ls k v) r M else none
def zs2 (k pc : Nat) (ls r : List Value) (v : Value) (M : zM) : Option zX := bif Nat.blt (k + 1) ls.length then zn pc (zsto2 ls k v) r M else none
def zisto (k pc : Nat) (ls st : List Value) (M : zM) : Option zX := match st with
  | .int x :: r => zs1 k pc ls r (.int x) M
  | _ => none
def zasto (k pc : Nat) (ls st : List Value) (M : zM) : Option zX := match st with
  | .ref x :: r => zs1 k pc ls r (.ref x) M
  | _ => none
def zlsto (k pc : Nat) (ls st : List Value) (M : zM) : Option zX := match st with
  | .long x :: r => zs2 k pc ls r (.long x) M
  | _ => none
def zdsto (k pc : Nat) (ls st : List Value) (M : zM) : Option zX := match st with
  | .double x :: r => zs2 k pc ls r (.double x) M
  | _ => none
def zli (k pc : Nat) (ls st : List Value) (M : zM) : Option zX := match zgt ls k with
  | some (.int x) => zn pc ls (.int x :: st) M
  | _ => none
def zll (k pc : Nat) (ls st : List Value) (M : zM) : Option zX := match zgt ls k with
  | some (.long x) => zn pc ls (.long x :: st) M
  | _ => none
def zlf (k pc : Nat) (ls st : List Value) (M : zM) : Option zX := match zgt ls k with
  | some (.float x) => zn pc ls (.float x :: st) M
  | _ => none
def zldd (k pc : Nat) (ls st : List Value) (M : zM) : Option zX := match zgt ls k with
  | some (.double x) => zn pc ls (.double x :: st) M
  | _ => none
def zla (k pc : Nat) (ls st : List Value) (M : zM) : Option zX := match zgt ls k with
  | some (.ref x) => zn pc ls (.ref x :: st) M
  | some (.retAddr x) => zn pc ls (.retAddr x :: st) M
  | _ => none
def zgetf (own idx pc : Nat) (ls st : List Value) (M : zM) : Option zX := match st with
  | .ref a :: r => match zlkF own idx with
    | some (ci, k, _) => match zgt M.1 a with
      | some (.inr (cj, fs)) => bif Nat.beq ci cj then (match zgt fs k with
        | some kd => zn pc ls (zval M.2.1 M.2.2 a k kd :: r) M
        | none => none) else none
      | _ => none
    | none => none
  | _ => none
def zput (a k cj : Nat) (fs : List zF) (pc : Nat) (ls r : List Value) (v : Value) (M : zM) : zF → Option zX
  | .inl 0 => match v with
    | .int x => zn pc ls r (M.1, va_up M.2.1 a (upd (M.2.1 a) k x), M.2.2)
    | _ => none
  | .inl 1 => match v with
    | .long x => zn pc ls r (M.1, M.2.1, va_up M.2.2 a (vp_updL (M.2.2 a) k x))
    | _ => none
  | .inl _ => match v with
    | .int x => zn (if x = 0 ∨ x = 1 then pc else 65535) ls r (M.1, va_up M.2.1 a (upd (M.2.1 a) k x), M.2.2)
    | _ => none
  | .inr _ => match v with
    | .ref q => zn pc ls r (M.1.set a (.inr (cj, fs.set k (.inr (some q)))), M.2)
    | .null => zn pc ls r (M.1.set a (.inr (cj, fs.set k (.inr none))), M.2)
    | _ => none
/-- a field's kind, as its class has it -/
def zkd (ci k : Nat) : Option zF := match zgt zdfs ci with
  | some d => zgt d k
  | none => none
def zke : zF → zF → Bool
  | .inl a, .inl b => Nat.beq a b
  | .inr _, .inr _ => true
  | _, _ => false
def zputf (own idx pc : Nat) (ls st : List Value) (M : zM) : Option zX := match st with
  | v :: .ref a :: r => match zlkF own idx with
    | some (ci, k, _) => match zgt M.1 a with
      | some (.inr (cj, fs)) => bif Nat.beq ci cj then (match zgt fs k, zkd ci k with
        | some kd, some kd0 => bif zke kd kd0 then zput a k ci fs pc ls r v M kd else none
        | _, _ => none) else none
      | _ => none
    | none => none
  | _ => none
def zild (X : zSc) (pc : Nat) (ls st : List Value) (M : zM) : Option zX := match st with
  | .int i :: .ref a :: r => match zgt M.1 a with
    | some (.inl (0, n)) => zn (if i < 0 ∨ n ≤ i.toNatClampNeg then 65535 else pc) ls (.int (M.2.1 a i.toNatClampNeg) :: r) M
    | _ => none
  | .int i :: .retAddr 2 :: r => zn (if i < 0 ∨ X.1 ≤ i.toNatClampNeg then 65535 else pc) ls (.int (X.2 i.toNatClampNeg) :: r) M
  | _ => none
def zlld (pc : Nat) (ls st : List Value) (M : zM) : Option zX := match st with
  | .int i :: .ref a :: r => match zgt M.1 a with
    | some (.inl (1, n)) => zn (if i < 0 ∨ n ≤ i.toNatClampNeg then 65535 else pc) ls (.long (M.2.2 a i.toNatClampNeg) :: r) M
    | _ => none
  | _ => none
def zbld (pc : Nat) (ls st : List Value) (M : zM) : Option zX := match st with
  | .int i :: .ref a :: r => match zgt M.1 a with
    | some (.inl (2, n)) => zn (if i < 0 ∨ n ≤ i.toNatClampNeg then 65535 else pc) ls (.int (M.2.1 a i.toNatClampNeg) :: r) M
    | some (.inl (3, n)) => zn (if i < 0 ∨ n ≤ i.toNatClampNeg then 65535 else pc) ls (.int (M.2.1 a i.toNatClampNeg) :: r) M
    | _ => none
  | _ => none
def zias (pc : Nat) (ls st : List Value) (M : zM) : Option zX := match st with
  | .int x :: .int i :: .ref a :: r => match zgt M.1 a with
    | some (.inl (0, n)) => zn (if i < 0 ∨ n ≤ i.toNatClampNeg then 65535 else pc) ls r (M.1, va_up M.2.1 a (upd (M.2.1 a) i.toNatClampNeg x), M.2.2)
    | _ => none
  | _ => none
def zlas (pc : Nat) (ls st : List Value) (M : zM) : Option zX := match st with
  | .long x :: .int i :: .ref a :: r => match zgt M.1 a with
    | some (.inl (1, n)) => zn (if i < 0 ∨ n ≤ i.toNatClampNeg then 65535 else pc) ls r (M.1, M.2.1, va_up M.2.2 a (vp_updL (M.2.2 a) i.toNatClampNeg x))
    | _ => none
  | _ => none
def zbas (pc : Nat) (ls st : List Value) (M : zM) : Option zX := match st with
  | .int x :: .int i :: .ref a :: r => match zgt M.1 a with
    | some (.inl (2, n)) => zn (if i < 0 ∨ n ≤ i.toNatClampNeg then 65535 else pc) ls r (M.1, va_up M.2.1 a (upd (M.2.1 a) i.toNatClampNeg (vp_nar .byte x)), M.2.2)
    | some (.inl (3, n)) => zn (if i < 0 ∨ n ≤ i.toNatClampNeg then 65535 else pc) ls r (M.1, va_up M.2.1 a (upd (M.2.1 a) i.toNatClampNeg (vp_nar .boolean x)), M.2.2)
    | _ => none
  | _ => none
def zlen (X : zSc) (pc : Nat) (ls st : List Value) (M : zM) : Option zX := match st with
  | .retAddr 2 :: r => zn pc ls (.int (Int32.ofNat X.1) :: r) M
  | _ => none
def zadd (s : zS) (pc : Nat) (ls r : List Value) (M : zM) : Option zX := zn pc ls (.ref M.1.length :: r) (M.1 ++ [s], va_up M.2.1 M.1.length (fun _ => 0), va_up M.2.2 M.1.length (fun _ => 0))
def znew (own idx pc : Nat) (ls st : List Value) (M : zM) : Option zX := match zlkC own idx with
  | some (ci, _) => match zgt zdfs ci with
    | some fs => zadd (.inr (ci, fs)) pc ls st M
    | none => none
  | none => none
def znat (t pc : Nat) (ls st : List Value) (M : zM) : Option zX := match st with
  | .int k :: r => zadd (.inl (t, k.toNatClampNeg)) (if k < 0 ∨ 100000 < k.toNatClampNeg then 65535 else pc) ls r M
  | _ => none
def zch (i : Nat) : Int32 := match i with
  | 0 => 32
  | 1 => 82
  | 2 => 69
  | _ => 86
def zp0 (pc : Nat) (ls st : List Value) (M : zM) : Option zX := match st with
  | .ref _ :: r => bif Nat.ble (zcat r) 8 then zn pc ls r M else none
  | _ => none
def zp1 (pc : Nat) (ls st : List Value) (M : zM) : Option zX := match st with
  | .int n :: .int dp :: .ref d :: .int sp :: .ref a :: r => bif Nat.ble (zcat r) 8 then (match zgt M.1 a, zgt M.1 d with
    | some (.inl (0, la)), some (.inl (0, ld)) => zn (if sp < 0 ∨ dp < 0 ∨ n < 0 ∨ la < sp.toNatClampNeg + n.toNatClampNeg ∨ ld < dp.toNatClampNeg + n.toNatClampNeg then 65535 else pc) ls r (M.1, va_up M.2.1 d (va_cpy (M.2.1 a) (M.2.1 d) sp.toNatClampNeg dp.toNatClampNeg n.toNatClampNeg), M.2.2)
    | some (.inl (1, la)), some (.inl (1, ld)) => zn (if sp < 0 ∨ dp < 0 ∨ n < 0 ∨ la < sp.toNatClampNeg + n.toNatClampNeg ∨ ld < dp.toNatClampNeg + n.toNatClampNeg then 65535 else pc) ls r (M.1, M.2.1, va_up M.2.2 d (va_cpy (M.2.2 a) (M.2.2 d) sp.toNatClampNeg dp.toNatClampNeg n.toNatClampNeg))
    | _, _ => none) else none
  | _ => none
def zp2 (pc : Nat) (ls st : List Value) (M : zM) : Option zX := match st with
  | .double b :: r => bif Nat.ble (zcat r) 8 then zn pc ls (.long b.toInt64 :: r) M else none
  | _ => none
def zp3 (pc : Nat) (ls st : List Value) (M : zM) : Option zX := match st with
  | .float b :: r => bif Nat.ble (zcat r) 8 then zn pc ls (.int b.toInt32 :: r) M else none
  | _ => none
def zp4 (pc : Nat) (ls st : List Value) (M : zM) : Option zX := match st with
  | .retAddr k :: r => bif Nat.blt k 2 && Nat.ble (zcat r) 8 then zn pc ls (.int 4 :: r) M else none
  | _ => none
def zp5 (pc : Nat) (ls st : List Value) (M : zM) : Option zX := match st with
  | .int i :: .retAddr k :: r => bif Nat.blt k 2 && Nat.ble (zcat r) 8 then zn (if i < 0 ∨ 4 ≤ i.toNatClampNeg then 65535 else pc) ls (.int (zch i.toNatClampNeg) :: r) M else none
  | _ => none
def zpc (q kind : Nat) (m : zMt) (pc : Nat) (ls st : List Value) (M : zM) : Option zX := match q, kind with
  | 0, 2 => zp0 pc ls st M
  | 1, 1 => zp1 pc ls st M
  | 2, 1 => zp2 pc ls st M
  | 3, 1 => zp3 pc ls st M
  | 4, 0 => bif Nat.ble 4 (zlv m) then zp4 pc ls st M else none
  | 5, 0 => bif Nat.ble 4 (zlv m) then zp5 pc ls st M else none
  | _, _ => none
def zcall (m : zMt) (idx kind pc : Nat) (ls st : List Value) (M : zM) : Option zX := match zlkM (zow m) idx with
  | some (kd, na, mj) => bif Nat.beq kd kind && Nat.blt (zlv mj) (zlv m) then (match zargs na [] st with
    | some (as, rest) => bif Nat.ble (zcat rest) 8 && Nat.ble (zsp as).length (zmx mj) then (match kind, as with
      | 0, .ref a :: _ => match zcls M.1 a with
        | some c => bif Nat.beq c (zow mj) then some (.inr (.inl (mj, as, pc, rest))) else none
        | none => none
      | 1, _ => some (.inr (.inl (mj, as, pc, rest)))
      | 2, .ref _ :: _ => some (.inr (.inl (mj, as, pc, rest)))
      | 3, .ref _ :: _ => some (.inr (.inl (mj, as, pc, rest)))
      | _, _ => none) else none
    | none => none) else none
  | none => none
def zinv (m : zMt) (idx kind pc : Nat) (ls st : List Value) (M : zM) : Option zX := match zlkP (zow m) idx with
  | some (q, _) => zpc q kind m pc ls st M
  | none => zcall m idx kind pc ls st M
def zspec (m : zMt) (idx pc : Nat) (ls st : List Value) (M : zM) : Option zX := match zlkM (zow m) idx with
  | some (3, _, _) => zcall m idx 3 pc ls st M
  | _ => zinv m idx 2 pc ls st M
def zclr : List Nat → List Value → List Value
  | [], ls => ls
  | i :: l, ls => zclr l (ls.set i .null)
def zfgt (o : Option (List Nat)) (ls : List Value) : List Value := match o with
  | none => ls
  | some l => zclr l ls
def zret (m : zMt) (st : List Value) : Option zX := match st with
  | [.int v] => match zrt m with
    | some .int => some (.inr (.inr (some (.int v))))
    | some .boolean => if v = 0 ∨ v = 1 then some (.inr (.inr (some (.int v)))) else none
    | _ => none
  | _ => none
def zx (X : zSc) (m : zMt) (pc : Nat) (ls st : List Value) (M : zM) (n : Nat) : Instr → Option zX
  | .iconst i => zn (pc + n) ls (.int (zic i) :: st) M
  | .bipush i => zn (pc + n) ls (.int (zic i) :: st) M
  | .sipush i => zn (pc + n) ls (.int (zic i) :: st) M
  | .lconst i => zn (pc + n) ls (.long (Int64.ofNat (i : Nat)) :: st) M
  | .dconst i => match i with
    | 0 => zn (pc + n) ls (.double FP.dconst0 :: st) M
    | 1 => zn (pc + n) ls (.double FP.dconst1 :: st) M
  | .aconst_null => zn (pc + n) ls (.null :: st) M
  | .ldc idx => match zlkI (zow m) idx with
    | some (v, _) => zn (pc + n) ls (.int v :: st) M
    | none => match zlkS (zow m) idx with
      | some q => zn (pc + n) ls (.retAddr q :: st) M
      | none => none
  | .ldc2_w idx => match zlkJ (zow m) idx with
    | some (v, _) => zn (pc + n) ls (.long v :: st) M
    | none => match zlkD (zow m) idx with
      | some (v, _) => zn (pc + n) ls (.double v :: st) M
      | none => none
  | .iload k => zli k (pc + n) ls st M
  | .iload_n k => zli k (pc + n) ls st M
  | .lload k => zll k (pc + n) ls st M
  | .lload_n k => zll k (pc + n) ls st M
  | .fload_n k => zlf k (pc + n) ls st M
  | .dload k => zldd k (pc + n) ls st M
  | .dload_n k => zldd k (pc + n) ls st M
  | .aload k => zla k (pc + n) ls st M
  | .aload_n k => zla k (pc + n) ls st M
  | .istore k => zisto k (pc + n) ls st M
  | .istore_n k => zisto k (pc + n) ls st M
  | .lstore k => zlsto k (pc + n) ls st M
  | .lstore_n k => zlsto k (pc + n) ls st M
  | .dstore k => zdsto k (pc + n) ls st M
  | .astore k => zasto k (pc + n) ls st M
  | .astore_n k => zasto k (pc + n) ls st M
  | .iinc k c => match zgt ls k with
    | some (.int x) => zs1 k (pc + n) ls st (.int (x + zic c)) M
    | _ => none
  | .iadd => zbi (fun x y => x + y) (pc + n) ls st M
  | .isub => zbi (fun x y => x - y) (pc + n) ls st M
  | .imul => zbi (fun x y => x * y) (pc + n) ls st M
  | .iand => zbi (fun x y => x &&& y) (pc + n) ls st M
  | .ladd => zbl (fun x y => x + y) (pc + n) ls st M
  | .lsub => zbl (fun x y => x - y) (pc + n) ls st M
  | .lmul => zbl (fun x y => x * y) (pc + n) ls st M
  | .land => zbl (fun x y => x &&& y) (pc + n) ls st M
  | .lor => zbl (fun x y => x ||| y) (pc + n) ls st M
  | .idiv => match st with
    | .int y :: .int x :: r => zn (if y = 0 then 65535 else pc + n) ls (.int (x / y) :: r) M
    | _ => none
  | .irem => match st with
    | .int y :: .int x :: r => zn (if y = 0 then 65535 else pc + n) ls (.int (x - x / y * y) :: r) M
    | _ => none
  | .ldiv => match st with
    | .long y :: .long x :: r => zn (if y = 0 then 65535 else pc + n) ls (.long (x / y) :: r) M
    | _ => none
  | .lrem => match st with
    | .long y :: .long x :: r => zn (if y = 0 then 65535 else pc + n) ls (.long (x - x / y * y) :: r) M
    | _ => none
  | .ineg => match st with
    | .int x :: r => zn (pc + n) ls (.int (-x) :: r) M
    | _ => none
  | .lneg => match st with
    | .long x :: r => zn (pc + n) ls (.long (-x) :: r) M
    | _ => none
  | .lshl => match st with
    | .int y :: .long x :: r => zn (pc + n) ls (.long (x <<< (y.toInt64 &&& 63)) :: r) M
    | _ => none
  | .lshr => match st with
    | .int y :: .long x :: r => zn (pc + n) ls (.long (x >>> (y.toInt64 &&& 63)) :: r) M
    | _ => none
  | .i2l => match st with
    | .int x :: r => zn (pc + n) ls (.long x.toInt64 :: r) M
    | _ => none
  | .l2i => match st with
    | .long x :: r => zn (pc + n) ls (.int x.toInt32 :: r) M
    | _ => none
  | .i2b => match st with
    | .int x :: r => zn (pc + n) ls (.int x.toInt8.toInt32 :: r) M
    | _ => none
  | .l2d => match st with
    | .long x :: r => zn (pc + n) ls (.double (FP.l2d x) :: r) M
    | _ => none
  | .d2i => match st with
    | .double x :: r => zn (pc + n) ls (.int (FP.d2i x) :: r) M
    | _ => none
  | .d2l => match st with
    | .double x :: r => zn (pc + n) ls (.long (FP.d2l x) :: r) M
    | _ => none
  | .d2f => match st with
    | .double x :: r => zn (if FP.d2f x &&& 0x7fffffff ≤ 0x7f800000 then pc + n else 65535) ls (.float (FP.d2f x) :: r) M
    | _ => none
  | .f2d => match st with
    | .float x :: r => zn (if FP.f2d x &&& 0x7fffffffffffffff ≤ 0x7ff0000000000000 then pc + n else 65535) ls (.double (FP.f2d x) :: r) M
    | _ => none
  | .ddiv => zbd FP.ddiv (pc + n) ls st M
  | .dmul => zbd FP.dmul (pc + n) ls st M
  | .dsub => zbd FP.dsub (pc + n) ls st M
  | .dneg => match st with
    | .double x :: r => zn (pc + n) ls (.double (FP.dneg x) :: r) M
    | _ => none
  | .lcmp => match st with
    | .long y :: .long x :: r => zn (pc + n) ls (.int (lg_cmp x y) :: r) M
    | _ => none
  | .dcmp op => match st with
    | .double y :: .double x :: r => zn (pc + n) ls (.int (Op.cmpValue (FP.dcmp x y) op) :: r) M
    | _ => none
  | .fcmp op => match st with
    | .float y :: .float x :: r => zn (pc + n) ls (.int (Op.cmpValue (FP.fcmp x y) op) :: r) M
    | _ => none
  | .ifCond c off => match st with
    | .int x :: r => match zt pc off with
      | some t => zn (zbr c x 0 t (pc + n)) ls r M
      | none => none
    | _ => none
  | .if_icmp c off => match st with
    | .int y :: .int x :: r => match zt pc off with
      | some t => zn (zbr c x y t (pc + n)) ls r M
      | none => none
    | _ => none
  | .ifnonnull off => match st with
    | .ref _ :: r => match zt pc off with
      | some t => zn t ls r M
      | none => none
    | .null :: r => zn (pc + n) ls r M
    | _ => none
  | .goto off => match zt pc off with
    | some t => zn t (bif Nat.ble t pc then zfgt (zfd (zfg m) t) ls else ls) st M
    | none => none
  | .tableswitch d lo hi offs => match st with
    | .int x :: r => match ztsw pc d lo hi offs x with
      | some t => zn t ls r M
      | none => none
    | _ => none
  | .dup => match st with
    | .int x :: r => zn (pc + n) ls (.int x :: .int x :: r) M
    | .ref x :: r => zn (pc + n) ls (.ref x :: .ref x :: r) M
    | _ => none
  | .dup2 => match st with
    | .int x :: .ref a :: r => zn (pc + n) ls (.int x :: .ref a :: .int x :: .ref a :: r) M
    | _ => none
  | .pop => match st with
    | .int _ :: r => zn (pc + n) ls r M
    | .ref _ :: r => zn (pc + n) ls r M
    | _ => none
  | .getfield idx => zgetf (zow m) idx (pc + n) ls st M
  | .putfield idx => zputf (zow m) idx (pc + n) ls st M
  | .iaload => zild X (pc + n) ls st M
  | .laload => zlld (pc + n) ls st M
  | .baload => zbld (pc + n) ls st M
  | .iastore => zias (pc + n) ls st M
  | .lastore => zlas (pc + n) ls st M
  | .bastore => zbas (pc + n) ls st M
  | .arraylength => zlen X (pc + n) ls st M
  | .new idx => znew (zow m) idx (pc + n) ls st M
  | .newarray t => match t with
    | .int => znat 0 (pc + n) ls st M
    | .long => znat 1 (pc + n) ls st M
    | .byte => znat 2 (pc + n) ls st M
    | .boolean => znat 3 (pc + n) ls st M
    | _ => none
  | .invokevirtual idx => zinv m idx 0 (pc + n) ls st M
  | .invokestatic idx => zinv m idx 1 (pc + n) ls st M
  | .invokespecial idx => zspec m idx (pc + n) ls st M
  | .ireturn => zret m st
  | .lreturn => match st with
    | [.long v] => match zrt m with
      | some .long => some (.inr (.inr (some (.long v))))
      | _ => none
    | _ => none
  | .dreturn => match st with
    | [.double v] => match zrt m with
      | some .double => some (.inr (.inr (some (.double v))))
      | _ => none
    | _ => none
  | .return_ => match st with
    | [] => match zrt m with
      | none => some (.inr (.inr none))
      | _ => none
    | _ => none
  | _ => none
def zstep (X : zSc) (m : zMt) (pc : Nat) (ls st : List Value) (M : zM) : Option zX := match zfd2 (zcd m) pc with
  | some (i, n) => zx X m pc ls st M n i
  | none => none
def zrun (X : zSc) : Nat → zMt → Nat → List Value → List Value → zM → Option (Option Value × zM)
  | 0, _, _, _, _, _ => none
  | f + 1, m, pc, ls, st, M => match zstep X m pc ls st M with
    | none => none
    | some (.inl (pc', ls', st', M')) => zrun X f m pc' ls' st' M'
    | some (.inr (.inl (mj, as, pc', rest))) => match zrun X f mj 0 (zent (zmx mj) as) [] M with
      | none => none
      | some (v, M') => zrun X f m pc' ls (v.toList ++ rest) M'
    | some (.inr (.inr v)) => some (v, M)
def zEv (X : zSc) (m : zMt) (pc : Nat) (ls st : List Value) (M : zM) (r : Option Value × zM) : Prop := ∃ f, zrun X f m pc ls st M = some r
def zgo (X : zSc) (m : zMt) : Nat → Nat → List Value → List Value → zM → Option (Nat × List Value × List Value × zM)
  | 0, pc, ls, st, M => some (pc, ls, st, M)
  | k + 1, pc, ls, st, M => match zstep X m pc ls st M with
    | some (.inl (pc', ls', st', M')) => zgo X m k pc' ls' st' M'
    | _ => none
theorem zrun_le (X : zSc) : ∀ (f : Nat) (m : zMt) (pc : Nat) (ls st : List Value) (M : zM) (r : Option Value × zM), zrun X f m pc ls st M = some r → zrun X (f + 1) m pc ls st M = some r := by
  intro f
  induction f with
  | zero => intro m pc ls st M r h; cases h
  | succ f ih =>
    intro m pc ls st M r h
    rw [zrun] at h ⊢
    split at h
    · cases h
    · exact ih _ _ _ _ _ _ h
    · split at h
      · cases h
      · next v M' e =>
        rw [ih _ _ _ _ _ _ e]
        exact ih _ _ _ _ _ _ h
    · exact h
theorem zrun_mono (X : zSc) {f g : Nat} (hfg : f ≤ g) {m : zMt} {pc : Nat} {ls st : List Value} {M : zM} {r : Option Value × zM} (h : zrun X f m pc ls st M = some r) : zrun X g m pc ls st M = some r := by
  induction hfg with
  | refl => exact h
  | step _ ih => exact zrun_le X _ _ _ _ _ _ _ ih
theorem ev_go {X : zSc} {m : zMt} (k : Nat) {pc : Nat} {ls st : List Value} {M : zM} (pc' : Nat) (ls' st' : List Value) (M' : zM) {r : Option Value × zM} (h : zgo X m k pc ls st M = some (pc', ls', st', M')) (K : zEv X m pc' ls' st' M' r) : zEv X m pc ls st M r := by
  induction k generalizing pc ls st M with
  | zero =>
    rw [zgo] at h
    injection h with h
    injection h with e1 h
    injection h with e2 h
    injection h with e3 e4
    subst e1; subst e2; subst e3; subst e4
    exact K
  | succ k ih =>
    rw [zgo] at h
    split at h
    · next pc1 ls1 st1 M1 e =>
      obtain ⟨f, hf⟩ := ih h
      refine ⟨f + 1, ?_⟩
      rw [zrun, e]
      exact hf
    · cases h
theorem ev_if {X : zSc} {m : zMt} {c : Prop} [Decidable c] {a b : Nat} {ls st : List Value} {M : zM} {r : Option Value × zM} (h : c) (K : zEv X m a ls st M r) : zEv X m (if c then a else b) ls st M r := by
  rw [if_pos h]; exact K
theorem ev_nif {X : zSc} {m : zMt} {c : Prop} [Decidable c] {a b : Nat} {ls st : List Value} {M : zM} {r : Option Value × zM} (h : ¬ c) (K : zEv X m b ls st M r) : zEv X m (if c then a else b) ls st M r := by
  rw [if_neg h]; exact K
theorem ev_call {X : zSc} {m : zMt} {pc : Nat} {ls st : List Value} {M M' : zM} {r : Option Value × zM} {v : Option Value} (mj : zMt) (as : List Value) (pc' : Nat) (rest st' : List Value) (h : zstep X m pc ls st M = some (.inr (.inl (mj, as, pc', rest)))) (hs : v.toList ++ rest = st') (C : zEv X mj 0 (zent (zmx mj) as) [] M (v, M')) (K : zEv X m pc' ls st' M' r) : zEv X m pc ls st M r := by
  subst hs
  obtain ⟨f, hf⟩ := C
  obtain ⟨g, hg⟩ := K
  refine ⟨(f + g) + 1, ?_⟩
  rw [zrun, h]
  dsimp only
  rw [zrun_mono X (Nat.le_add_right f g) hf]
  exact zrun_mono X (Nat.le_add_left g f) hg
theorem ev_ret {X : zSc} {m : zMt} {pc : Nat} {ls st : List Value} {M : zM} {v : Option Value} (h : zstep X m pc ls st M = some (.inr (.inr v))) : zEv X m pc ls st M (v, M) := ⟨1, by rw [zrun, h]⟩
theorem ev_retz {X : zSc} {m : zMt} {pc : Nat} {ls : List Value} {M : zM} {v : Int32} (hd : zfd2 (zcd m) pc = some (.ireturn, 1)) (hr : zrt m = some .boolean) (h : v = 0 ∨ v = 1) : zEv X m pc ls [.int v] M (some (.int v), M) := ev_ret (by
  unfold zstep
  rw [hd]
  show zret m [.int v] = _
  unfold zret
  rw [hr]
  exact if_pos h)
