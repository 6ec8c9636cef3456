/-! THE SMALL MACHINE: the program's instructions over a heap that is a list (cell k of it lies at the address n0 + k), for the proof's sake.
A cell: its kind (0 ints, 1 longs, 2 booleans, 3 units; 10 + c an object of the type c; 100 + e an exception that was thrown) and its values. References are numbers of cells; retAddr 0 stands for 'not set', 1 for the script, 2 for a caught exception. -/
abbrev zH : Type := List (Nat × List Value)
abbrev zC : Type := Nat × List Value × List Value
def zm (y : Nat) : zM := zMs.getD y (x, code, 0, none, [], 0, 0)
def zname (y : Nat) : MethodName := (zm y).1
def zbyt (y : Nat) : ByteArray := (zm y).2.1
def zmax (y : Nat) : Nat := (zm y).2.2.1
def zret (y : Nat) : Option FieldType := (zm y).2.2.2.1
def zhan (y : Nat) : List (Nat × Nat × Nat × Nat) := (zm y).2.2.2.2.1
def zcls (y : Nat) : Nat := (zm y).2.2.2.2.2.1
def znar (y : Nat) : Nat := (zm y).2.2.2.2.2.2
def zfind : List (Nat × Instr × Nat) → Nat → Option (Instr × Nat)
  | [], _ => none
  | q :: r, pc => bif Nat.beq q.1 pc then some q.2 else zfind r pc
def zat (y pc : Nat) : Option (Instr × Nat) := zfind (zTs.getD y []) pc
def zlook : List (Nat × Nat × Nat × Nat) → Nat → Option (Nat × Nat × Nat)
  | [], _ => none
  | q :: r, i => bif Nat.beq q.1 i then some q.2 else zlook r i
def zpool (y i : Nat) : Option (Nat × Nat × Nat) := zlook (zPs.getD (zcls y) []) i
def zki (l : List (Nat × Nat × Int32)) (c i : Nat) : Option Int32 := match l with
  | [] => none
  | q :: r => bif Nat.beq q.1 c && Nat.beq q.2.1 i then some q.2.2 else zki r c i
def zkl (l : List (Nat × Nat × Int64)) (c i : Nat) : Option Int64 := match l with
  | [] => none
  | q :: r => bif Nat.beq q.1 c && Nat.beq q.2.1 i then some q.2.2 else zkl r c i
def zty (ci k : Nat) : FieldType := match ci with
  | 0 => tyX0 k
  | 1 => tyX1 k
  | 2 => tyX2 k
  | _ => tyX3 k
def zfd (ci k : Nat) : String × String × String × Bool := match ci with
  | 0 => TX0 k
  | 1 => TX1 k
  | 2 => TX2 k
  | _ => TX3 k
def znf (ci : Nat) : Nat := match ci with
  | 0 => 5
  | 1 => 10
  | 2 => 10
  | _ => 22
def zcn (c : Nat) : String := match c with
  | 0 => RX0
  | 1 => RX1
  | 2 => RX2
  | 3 => RX3
  | _ => RL
def zdefs (ci : Nat) : List Value := (List.range (znf ci)).map (fun k => defaultValue (zty ci k))
def zfits : FieldType → Value → Bool
  | .int, .int _ => true
  | .long, .long _ => true
  | .object _, .ref _ => true
  | .object _, .null => true
  | .array _, .ref _ => true
  | .array _, .null => true
  | _, _ => false
def zok : Value → Bool
  | .retAddr _ => false
  | _ => true
/-- a local, 'not set' beyond the end -/
def zg : List Value → Nat → Value
  | [], _ => .retAddr 0
  | v :: _, 0 => v
  | _ :: r, n + 1 => zg r n
def zwide (v : Value) : Bool := Nat.beq v.category 2
def zkill (L : List Value) : Nat → List Value
  | 0 => L
  | j + 1 => bif zwide (zg L j) then L.set j (.retAddr 0) else L
def zset1 (L : List Value) (i : Nat) (v : Value) : List Value := (zkill L i).set i v
def zset2 (L : List Value) (i : Nat) (v : Value) : List Value := ((zkill L i).set i v).set (i + 1) (.retAddr 0)
def zpush (nx : Nat) (L S : List Value) (h : zH) (v : Value) : Option (zC × zH) := some ((nx, L, v :: S), h)
def zldi (nx : Nat) (L S : List Value) (h : zH) (i : Nat) : Option (zC × zH) := match zg L i with
  | .int v => zpush nx L S h (.int v)
  | _ => none
def zldl (nx : Nat) (L S : List Value) (h : zH) (i : Nat) : Option (zC × zH) := match zg L i with
  | .long v => zpush nx L S h (.long v)
  | _ => none
def zlda (nx : Nat) (L S : List Value) (h : zH) (i : Nat) : Option (zC × zH) := match zg L i with
  | .ref k => zpush nx L S h (.ref k)
  | .null => zpush nx L S h .null
  | .retAddr (k + 1) => zpush nx L S h (.retAddr (k + 1))
  | _ => none
def zsti (nx : Nat) (L S : List Value) (h : zH) (i : Nat) : Option (zC × zH) := match S with
  | .int v :: r => bif Nat.blt i L.length then some ((nx, zset1 L i (.int v), r), h) else none
  | _ => none
def zsta (nx : Nat) (L S : List Value) (h : zH) (i : Nat) : Option (zC × zH) := match S with
  | .ref k :: r => bif Nat.blt i L.length then some ((nx, zset1 L i (.ref k), r), h) else none
  | .null :: r => bif Nat.blt i L.length then some ((nx, zset1 L i .null, r), h) else none
  | .retAddr (k + 1) :: r => bif Nat.blt i L.length then some ((nx, zset1 L i (.retAddr (k + 1)), r), h) else none
  | _ => none
def zstl (nx : Nat) (L S : List Value) (h : zH) (i : Nat) : Option (zC × zH) := match S with
  | .long v :: r => bif Nat.blt (i + 1) L.length then some ((nx, zset2 L i (.long v), r), h) else none
  | _ => none
def zii (nx : Nat) (L S : List Value) (h : zH) (f : Int32 → Int32 → Int32) : Option (zC × zH) := match S with
  | .int b :: .int a :: r => zpush nx L r h (.int (f a b))
  | _ => none
def zll (nx : Nat) (L S : List Value) (h : zH) (f : Int64 → Int64 → Int64) : Option (zC × zH) := match S with
  | .long b :: .long a :: r => zpush nx L r h (.long (f a b))
  | _ => none
/-- a jump's aim -/
def zto (pc : Nat) (off : Int) : Nat := ((pc : Int) + off).toNat
def zcond (c : ClassFile.Cond) (a b : Int32) : Prop := match c with
  | .eq => a = b
  | .ne => ¬ a = b
  | .lt => a < b
  | .ge => b ≤ a
  | .gt => b < a
  | .le => a ≤ b
theorem zcond_dec (c : ClassFile.Cond) (a b : Int32) : zcond c a b ∨ ¬ zcond c a b := Classical.em _
def zcb (c : ClassFile.Cond) (a b : Int32) : Bool := match c with
  | .eq => decide (a = b)
  | .ne => !decide (a = b)
  | .lt => decide (a < b)
  | .ge => decide (b ≤ a)
  | .gt => decide (b < a)
  | .le => decide (a ≤ b)
def zreq : Value → Value → Option Bool
  | .ref a, .ref b => some (Nat.beq a b)
  | .null, .null => some true
  | .ref _, .null => some false
  | .null, .ref _ => some false
  | _, _ => none
def znul : Value → Option Bool
  | .ref _ => some false
  | .null => some true
  | _ => none
def zjump (pc nx : Nat) (off : Int) (L S : List Value) (h : zH) (b : Bool) : Option (zC × zH) := some ((bif b then zto pc off else nx, L, S), h)
def zsw (pc : Nat) (dflt lo hi : Int) (offs : Array Int) (v : Int32) : Option Nat := if v.toInt < lo ∨ hi < v.toInt then some (zto pc dflt) else (offs[(v.toInt - lo).toNat]?).map (zto pc)
/-- reads place i of the row at cell a, of the kind t -/
def zrd (nx : Nat) (L S : List Value) (h : zH) (t : Nat) : Option (zC × zH) := match S with
  | .int i :: .ref a :: r => match h[a]? with
    | some q => bif Nat.beq q.1 t then (if i < 0 then none else match q.2[i.toNatClampNeg]? with
      | some v => zpush nx L r h v
      | none => none) else none
    | none => none
  | _ => none
def zwr (nx : Nat) (L : List Value) (h : zH) (t : Nat) (v : Value) (i : Int32) (a : Nat) (r : List Value) : Option (zC × zH) := match h[a]? with
  | some q => bif Nat.beq q.1 t then (if i < 0 then none else if i.toNatClampNeg < q.2.length then some ((nx, L, r), h.set a (q.1, q.2.set i.toNatClampNeg v)) else none) else none
  | none => none
def zkind : ArrayType → Option Nat
  | .int => some 0
  | .long => some 1
  | .boolean => some 2
  | _ => none
def zsim (sL : Nat) (sx : Nat → Int32) (y : Nat) (ins : Instr) (len pc : Nat) (L S : List Value) (h : zH) : Option (zC × zH) := match ins with
  | .iconst n => zpush (pc + len) L S h (.int (Int32.ofInt n))
  | .bipush n => zpush (pc + len) L S h (.int (Int8.ofInt n).toInt32)
  | .sipush n => zpush (pc + len) L S h (.int (Int16.ofInt n).toInt32)
  | .lconst n => zpush (pc + len) L S h (.long (Int64.ofNat (n : Nat)))
  | .aconst_null => zpush (pc + len) L S h .null
  | .ldc i => match zki zKI (zcls y) i with
    | some v => zpush (pc + len) L S h (.int v)
    | none => none
  | .ldc2_w i => match zkl zKL (zcls y) i with
    | some v => zpush (pc + len) L S h (.long v)
    | none => none
  | .iload i => zldi (pc + len) L S h i
  | .iload_n i => zldi (pc + len) L S h i
  | .lload i => zldl (pc + len) L S h i
  | .lload_n i => zldl (pc + len) L S h i
  | .aload i => zlda (pc + len) L S h i
  | .aload_n i => zlda (pc + len) L S h i
  | .istore i => zsti (pc + len) L S h i
  | .istore_n i => zsti (pc + len) L S h i
  | .astore i => zsta (pc + len) L S h i
  | .astore_n i => zsta (pc + len) L S h i
  | .lstore i => zstl (pc + len) L S h i
  | .lstore_n i => zstl (pc + len) L S h i
  | .iinc i n => match zg L i with
    | .int v => bif Nat.blt i L.length then some ((pc + len, zset1 L i (.int (v + Int32.ofInt n)), S), h) else none
    | _ => none
  | .iadd => zii (pc + len) L S h (fun a b => a + b)
  | .isub => zii (pc + len) L S h (fun a b => a - b)
  | .imul => zii (pc + len) L S h (fun a b => a * b)
  | .iand => zii (pc + len) L S h (fun a b => a &&& b)
  | .ior => zii (pc + len) L S h (fun a b => a ||| b)
  | .ishl => zii (pc + len) L S h (fun a b => a <<< (b &&& 31))
  | .ladd => zll (pc + len) L S h (fun a b => a + b)
  | .land => zll (pc + len) L S h (fun a b => a &&& b)
  | .lor => zll (pc + len) L S h (fun a b => a ||| b)
  | .lshl => match S with
    | .int b :: .long a :: r => zpush (pc + len) L r h (.long (a <<< (b.toInt64 &&& 63)))
    | _ => none
  | .i2l => match S with
    | .int a :: r => zpush (pc + len) L r h (.long a.toInt64)
    | _ => none
  | .lcmp => match S with
    | .long b :: .long a :: r => zpush (pc + len) L r h (.int (lg_cmp a b))
    | _ => none
  | .dup => match S with
    | v :: r => bif Nat.beq v.category 1 then some ((pc + len, L, v :: v :: r), h) else none
    | _ => none
  | .dup2 => match S with
    | v :: w :: r => bif Nat.beq v.category 1 && Nat.beq w.category 1 then some ((pc + len, L, v :: w :: v :: w :: r), h) else none
    | _ => none
  | .goto off => zjump pc (pc + len) off L S h true
  | .ifCond c off => match S with
    | .int a :: r => zjump pc (pc + len) off L r h (zcb c a 0)
    | _ => none
  | .if_icmp c off => match S with
    | .int b :: .int a :: r => zjump pc (pc + len) off L r h (zcb c a b)
    | _ => none
  | .if_acmp c off => match S with
    | b :: a :: r => match zreq a b with
      | some q => zjump pc (pc + len) off L r h (match c with | .eq => q | .ne => !q)
      | none => none
    | _ => none
  | .ifnull off => match S with
    | a :: r => match znul a with
      | some q => zjump pc (pc + len) off L r h q
      | none => none
    | _ => none
  | .ifnonnull off => match S with
    | a :: r => match znul a with
      | some q => zjump pc (pc + len) off L r h (!q)
      | none => none
    | _ => none
  | .tableswitch dflt lo hi offs => match S with
    | .int v :: r => match zsw pc dflt lo hi offs v with
      | some t => some ((t, L, r), h)
      | none => none
    | _ => none
  | .getfield i => match zpool y i with
    | some (0, ci, k) => match S with
      | .ref a :: r => match h[a]? with
        | some q => bif Nat.beq q.1 (10 + ci) then (match q.2[k]? with
          | some v => zpush (pc + len) L r h v
          | none => none) else none
        | none => none
      | _ => none
    | _ => none
  | .putfield i => match zpool y i with
    | some (0, ci, k) => match S with
      | v :: .ref a :: r => match h[a]? with
        | some q => bif Nat.beq q.1 (10 + ci) && zfits (zty ci k) v && Nat.blt k q.2.length && (!(zfd ci k).2.2.2 || (Nat.beq (zcls y) ci && decide ((zname y).name = "<init>"))) then some ((pc + len, L, r), h.set a (q.1, q.2.set k v)) else none
        | none => none
      | _ => none
    | _ => none
  | .iaload => match S with
    | .int i :: .retAddr 1 :: r => if i < 0 then none else if i.toNatClampNeg < sL then zpush (pc + len) L r h (.int (sx i.toNatClampNeg)) else none
    | _ => zrd (pc + len) L S h 0
  | .laload => zrd (pc + len) L S h 1
  | .baload => zrd (pc + len) L S h 2
  | .aaload => zrd (pc + len) L S h 3
  | .iastore => match S with
    | .int v :: .int i :: .ref a :: r => zwr (pc + len) L h 0 (.int v) i a r
    | _ => none
  | .lastore => match S with
    | .long v :: .int i :: .ref a :: r => zwr (pc + len) L h 1 (.long v) i a r
    | _ => none
  | .bastore => match S with
    | .int v :: .int i :: .ref a :: r => if v = 0 ∨ v = 1 then zwr (pc + len) L h 2 (.int v) i a r else none
    | _ => none
  | .aastore => match S with
    | .ref v :: .int i :: .ref a :: r => match h[v]? with
      | some q => bif Nat.beq q.1 11 then zwr (pc + len) L h 3 (.ref v) i a r else none
      | none => none
    | _ => none
  | .arraylength => match S with
    | .retAddr 1 :: r => zpush (pc + len) L r h (.int (Int32.ofNat sL))
    | _ => none
  | .newarray t => match zkind t with
    | some k => match S with
      | .int n :: r => if n < 0 then none else if n.toNatClampNeg ≤ 1000 then some ((pc + len, L, .ref h.length :: r), h ++ [(k, List.replicate n.toNatClampNeg (defaultValue (newarray.typeOf t)))]) else none
      | _ => none
    | none => none
  | .anewarray i => match zpool y i with
    | some (6, 1, _) => match S with
      | .int n :: r => if n < 0 then none else if n.toNatClampNeg ≤ 1000 then some ((pc + len, L, .ref h.length :: r), h ++ [(3, List.replicate n.toNatClampNeg .null)]) else none
      | _ => none
    | _ => none
  | .new i => match zpool y i with
    | some (6, ci, _) => bif Nat.blt ci 4 then some ((pc + len, L, .ref h.length :: S), h ++ [(10 + ci, zdefs ci)]) else none
    | _ => none
  | _ => none
/-- which handler takes the exception e -/
def zcatch (y pc e : Nat) : List (Nat × Nat × Nat × Nat) → Option Nat
  | [] => none
  | (a, b, hp, ct) :: r => bif Nat.ble a pc && Nat.blt pc b then (match zpool y ct with
    | some (7, e2, _) => bif Nat.beq e2 e then some hp else zcatch y pc e r
    | _ => none) else zcatch y pc e r
/-- a method's locals at its start -/
def zent (mx : Nat) (As : List Value) : List Value := (As.flatMap fun v => bif zwide v then [v, .retAddr 0] else [v]) ++ List.replicate (mx - (As.flatMap fun v => bif zwide v then [v, .retAddr 0] else [v]).length) (.retAddr 0)
def zwt (S : List Value) : Nat := (S.map fun v => v.category).sum
/-- is 'new; dup; ldc; invokespecial; athrow' of the exception e here, and may this method throw it? -/
def zthrows (d y pc : Nat) (S : List Value) (e : Nat) : Bool := Nat.ble 7 d && Nat.ble (zwt S) 8 && (zhan y).isEmpty && match zat y (pc + 3), zat y (pc + 4) with
  | some (.dup, 1), some (.ldc is, 2) => (zSt.any fun q => Nat.beq q.1 (zcls y) && Nat.beq q.2.1 is) && (match zat y (pc + 6), zat y (pc + 9) with
    | some (.invokespecial ic, 3), some (.athrow, 1) => match zpool y ic with
      | some (8, e2, _) => Nat.beq e2 e
      | _ => false
    | _, _ => false)
  | some (.dup, 1), some (.ldc_w is, 3) => (zSt.any fun q => Nat.beq q.1 (zcls y) && Nat.beq q.2.1 is) && (match zat y (pc + 7), zat y (pc + 10) with
    | some (.invokespecial ic, 3), some (.athrow, 1) => match zpool y ic with
      | some (8, e2, _) => Nat.beq e2 e
      | _ => false
    | _, _ => false)
  | _, _ => false
/-- may the method z be called so: its values, of which the first is an object of its own type (but for a static one), none a script or an exception -/
def zcallok (z : Nat) (stat : Bool) (As rest : List Value) (h : zH) : Bool := Nat.beq As.length (znar z) && As.all zok && Nat.ble (zwt rest) 8 && Nat.ble ((As.flatMap fun v => bif zwide v then [v, Value.retAddr 0] else [v]).length) (zmax z) && (stat || match As with
  | .ref a :: _ => match h[a]? with
    | some q => Nat.beq q.1 (10 + zcls z)
    | none => false
  | _ => false)
/-- how a call goes: the method's number, is it static, may it throw -/
def zcalls (y : Nat) (ins : Instr) : Option (Nat × Bool × Bool) := match ins with
  | .invokevirtual i => match zpool y i with
    | some (1, z, _) => some (z, false, true)
    | _ => none
  | .invokestatic i => match zpool y i with
    | some (2, z, _) => some (z, true, true)
    | some (3, z, _) => some (z, true, false)
    | _ => none
  | .invokespecial i => match zpool y i with
    | some (4, z, _) => some (z, false, false)
    | some (5, z, _) => some (z, false, false)
    | _ => none
  | _ => none
/-- what is called but walked over: Object's constructor, the greater of two -/
def zskip (d y : Nat) (ins : Instr) (pc : Nat) (L S : List Value) (h : zH) : Option (zC × zH) := match ins with
  | .invokespecial i => match zpool y i with
    | some (9, _, _) => match S with
      | .ref _ :: r => bif Nat.ble 1 d && Nat.ble (zwt r) 8 then some ((pc + 3, L, r), h) else none
      | _ => none
    | _ => none
  | .invokestatic i => match zpool y i with
    | some (10, _, _) => match S with
      | .int b :: .int a :: r => bif Nat.ble 1 d && Nat.ble (zwt r) 8 then some ((pc + 3, L, .int (if a < b then b else a) :: r), h) else none
      | _ => none
    | _ => none
  | _ => none
def zends (y : Nat) (ins : Instr) (S : List Value) : Option (Option Value) := match ins with
  | .ireturn => match S, zret y with
    | [.int v], some .int => some (some (.int v))
    | [.int v], some .boolean => if v = 0 ∨ v = 1 then some (some (.int v)) else none
    | _, _ => none
  | .lreturn => match S, zret y with
    | [.long v], some .long => some (some (.long v))
    | _, _ => none
  | .areturn => match S, zret y with
    | [.ref k], some (.object _) => some (some (.ref k))
    | [.null], some (.object _) => some (some .null)
    | _, _ => none
  | .return_ => match S, zret y with
    | [], none => some none
    | _, _ => none
  | _ => none
def zthr (y : Nat) (ins : Instr) : Option Nat := match ins with
  | .new i => match zpool y i with
    | some (7, e, _) => some e
    | _ => none
  | _ => none
def zexec (sL : Nat) (sx : Nat → Int32) : Nat → Nat → Nat → Nat → List Value → List Value → zH → Option (Outcome × zH)
  | 0, _, _, _, _, _, _ => none
  | n + 1, d, y, pc, L, S, h => match zat y pc with
    | none => none
    | some (ins, len) => match zends y ins S with
      | some v => some (.returned v, h)
      | none => match zthr y ins with
        | some e => bif zthrows d y pc S e then some (.threw e, h ++ [(100 + e, [])]) else none
        | none => match zskip d y ins pc L S h with
          | some r => zexec sL sx n d y r.1.1 r.1.2.1 r.1.2.2 r.2
          | none => match zcalls y ins with
            | some (z, stat, mt) => match d with
              | 0 => none
              | d' + 1 => bif zcallok z stat (S.take (znar z)).reverse (S.drop (znar z)) h then (match zexec sL sx n d' z 0 (zent (zmax z) (S.take (znar z)).reverse) [] h with
                | some (.returned v, h1) => zexec sL sx n (d' + 1) y (pc + 3) L (v.toList ++ S.drop (znar z)) h1
                | some (.threw e, h1) => bif mt then (bif (zhan y).isEmpty then some (.threw e, h1) else (match zcatch y pc e (zhan y) with
                  | some hp => bif L.all (fun v => !decide (v = .retAddr 2)) then zexec sL sx n (d' + 1) y hp L [.retAddr 2] h1 else none
                  | none => none)) else none
                | none => none) else none
            | none => match zsim sL sx y ins len pc L S h with
              | some r => zexec sL sx n d y r.1.1 r.1.2.1 r.1.2.2 r.2
              | none => none
