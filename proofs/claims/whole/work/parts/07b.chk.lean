/-- do the numbers beside an instruction fit it -/
def xchk (own : String) (pc : Nat) (i : Instr) (e : Ex) (v : Int32) : Bool := match i with
  | .iload k => decide (k = e.1)
  | .iload_n k => decide ((k : Nat) = e.1)
  | .istore k => decide (k = e.1)
  | .istore_n k => decide ((k : Nat) = e.1)
  | .lload k => decide (k = e.1)
  | .lload_n k => decide ((k : Nat) = e.1)
  | .lstore k => decide (k = e.1)
  | .lstore_n k => decide ((k : Nat) = e.1)
  | .dload k => decide (k = e.1)
  | .dload_n k => decide ((k : Nat) = e.1)
  | .dstore k => decide (k = e.1)
  | .dstore_n k => decide ((k : Nat) = e.1)
  | .aload k => decide (k = e.1)
  | .aload_n k => decide ((k : Nat) = e.1)
  | .astore k => decide (k = e.1)
  | .astore_n k => decide ((k : Nat) = e.1)
  | .iinc k z => decide (k = e.1) && decide (Int32.ofInt z = v)
  | .iconst z => decide (Int32.ofInt z = v)
  | .bipush z => decide ((Int8.ofInt z).toInt32 = v)
  | .sipush z => decide ((Int16.ofInt z).toInt32 = v)
  | .lconst z => decide (z = 0)
  | .dconst z => decide (z = 0)
  | .if_icmp _ off => decide ((pc : Int) + off = (e.1 : Int))
  | .ifCond _ off => decide ((pc : Int) + off = (e.1 : Int))
  | .goto off => decide ((pc : Int) + off = (e.1 : Int))
  | .ifnonnull off => decide ((pc : Int) + off = (e.1 : Int))
  | .getfield idx => decide ((own, idx, e.1, e.2.1) ∈ frT) && decide (fT e.1 e.2.1 = (e.2.2.1, e.2.2.2.1, e.2.2.2.2.1, e.2.2.2.2.2)) && decide (e.2.2.1 ≤ 2)
  | .putfield idx => decide ((own, idx, e.1, e.2.1) ∈ frT) && ((decide (e.2.2.1 = 0) && decide ((e.1, e.2.1) ∈ fpL0) && decide ((fT e.1 e.2.1).1 = 0)) || (decide (e.2.2.1 = 1) && decide ((e.1, e.2.1) ∈ fpL1) && decide ((fT e.1 e.2.1).1 = 1)) || (decide (e.2.2.1 = 3) && decide ((e.1, e.2.1) ∈ fpL3) && decide ((fT e.1 e.2.1).1 = 0)))
  | _ => true
def ilen : Instr → Nat
  | .iload _ => 2
  | .lload _ => 2
  | .dload _ => 2
  | .aload _ => 2
  | .istore _ => 2
  | .lstore _ => 2
  | .dstore _ => 2
  | .astore _ => 2
  | .bipush _ => 2
  | .sipush _ => 3
  | .if_icmp _ _ => 3
  | .ifCond _ _ => 3
  | .goto _ => 3
  | .ifnonnull _ => 3
  | .getfield _ => 3
  | .putfield _ => 3
  | .iinc _ _ => 3
  | _ => 1
def dcd (own : String) (cc : ByteArray) : Nat → List Op3 → Bool
  | _, [] => true
  | pc, (q, i, len, e, v) :: r => decide (q = pc) && decide (len = ilen i) && decide (decode cc pc = .ok (i, len)) && xchk own pc i e v && dcd own cc (pc + len) r
