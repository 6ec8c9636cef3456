/-! the tables of the program hold against the code and against the Statement's words -/
def zen (e : Nat) : String := (zEx.getD e ("", [])).1
def zes (e : Nat) : List String := (zEx.getD e ("", [])).2
/-- by which entry, and by which bytes, the exception's constructor calls its parent's -/
def zej (e : Nat) : Nat := match e with
  | 4 => 13
  | _ => 7
def zeb (e : Nat) : ByteArray := match e with
  | 4 => prog_17_method_4_code
  | _ => Bundle.six
/-- the length of an instruction that the small machine knows -/
def zlen : Instr → Option Nat
  | .iconst _ | .lconst _ | .aconst_null | .iload_n _ | .lload_n _ | .aload_n _ | .istore_n _ | .astore_n _ | .lstore_n _ => some 1
  | .iadd | .isub | .imul | .iand | .ior | .ishl | .ladd | .land | .lor | .lshl | .i2l | .lcmp | .dup | .dup2 => some 1
  | .iaload | .laload | .baload | .aaload | .iastore | .lastore | .bastore | .aastore | .arraylength => some 1
  | .ireturn | .lreturn | .areturn | .return_ | .athrow => some 1
  | .bipush _ | .ldc _ | .iload _ | .lload _ | .aload _ | .istore _ | .astore _ | .lstore _ | .newarray _ => some 2
  | .sipush _ | .ldc2_w _ | .ldc_w _ | .iinc _ _ | .goto _ | .ifCond _ _ | .if_icmp _ _ | .if_acmp _ _ | .ifnull _ | .ifnonnull _ => some 3
  | .getfield _ | .putfield _ | .invokevirtual _ | .invokestatic _ | .invokespecial _ | .new _ | .anewarray _ => some 3
  | _ => none
def zaim (pc : Nat) : Instr → Bool
  | .goto off | .ifCond _ off | .if_icmp _ off | .if_acmp _ off | .ifnull off | .ifnonnull off => decide (0 ≤ (pc : Int) + off)
  | .tableswitch d _ _ offs => decide (0 ≤ (pc : Int) + d) && offs.toList.all (fun o => decide (0 ≤ (pc : Int) + o))
  | _ => true
def zrow (b : ByteArray) (r : Nat × Instr × Nat) : Bool := decide (decode b r.1 = .ok (r.2.1, r.2.2)) && zaim r.1 r.2.1 && (match zlen r.2.1 with | some k => Nat.beq k r.2.2 | none => true)
/-- a method's own word -/
def zwd (y : Nat) : Cond := bif (zhan y).isEmpty then .code (zname y) (zbyt y) (zmax y) (zret y) else .codeWith (zname y) (zbyt y) (zmax y) (zret y) (zhan y)
def zisX (w : Cond) : Bool := match w with
  | .declares _ => true
  | .castable _ _ => true
  | .methodLinkNest _ _ _ _ => true
  | _ => false
/-- the words that an entry of a type's pool needs -/
def zws (c : Nat) (q : Nat × Nat × Nat × Nat) : List Cond := match q.2.1 with
  | 0 => [.fieldLink (zcn c) q.1 (zfd q.2.2.1 q.2.2.2).1 (zfd q.2.2.1 q.2.2.2).2.1 (zfd q.2.2.1 q.2.2.2).2.2.1]
  | 1 => [.methodLink (zcn c) q.1 (zname q.2.2.1), .instanceMethod (zname q.2.2.1), .selects (zcn (zcls q.2.2.1)) (zname q.2.2.1) (zname q.2.2.1), .initialized (zcn (zcls q.2.2.1)), zwd q.2.2.1]
  | 2 => [.methodLink (zcn c) q.1 (zname q.2.2.1), .static (zname q.2.2.1), .initialized (zcn c), zwd q.2.2.1]
  | 3 => [.methodLinkNest (zcn c) q.1 (zname q.2.2.1) RX2, .static (zname q.2.2.1), .initialized (zcn (zcls q.2.2.1)), zwd q.2.2.1]
  | 4 => [.methodLink (zcn c) q.1 (zname q.2.2.1), .instanceMethod (zname q.2.2.1), .initialized (zcn (zcls q.2.2.1)), zwd q.2.2.1]
  | 5 => [.methodLinkNest (zcn c) q.1 (zname q.2.2.1) RX2, .instanceMethod (zname q.2.2.1), .initialized (zcn (zcls q.2.2.1)), zwd q.2.2.1]
  | 6 => bif Nat.blt q.2.2.1 4 then [.classLink (zcn c) q.1 (zcn q.2.2.1), .instantiable (zcn q.2.2.1) (znf q.2.2.1), .initialized (zcn q.2.2.1)] else []
  | 7 => [.classLink (zcn c) q.1 (zen q.2.2.1), .initialized (zen q.2.2.1), .castable (zen q.2.2.1) (zen q.2.2.1)]
  | 8 => zt_at (zcn c) q.1 (zen q.2.2.1) (zes q.2.2.1) (zej q.2.2.1) (zeb q.2.2.1)
  | 9 => [.methodLink (zcn c) q.1 objectInit, .instanceMethod objectInit, .code objectInit ⟨#[0xb1]⟩ 1 none]
  | _ => [.methodLink (zcn c) q.1 Lib.Math.max.name, .static Lib.Math.max.name, .initialized "java/lang/Math", .code Lib.Math.max.name Lib.Math.max.code 2 (some .int)]
