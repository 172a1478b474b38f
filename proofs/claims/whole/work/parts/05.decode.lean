/-- the instruction as the bytes have it -/
def unl (pc : Int) (idx : Nat) (i : Instr) : Instr := match i with
  | .getfield _ => .getfield idx
  | .putfield _ => .putfield idx
  | .getstatic _ => .getstatic idx
  | .ldc _ => .ldc idx
  | .ldc_w _ => .ldc_w idx
  | .ldc2_w _ => .ldc2_w idx
  | .new _ => .new idx
  | .anewarray _ => .anewarray idx
  | .multianewarray _ k => .multianewarray idx k
  | .invokestatic _ => .invokestatic idx
  | .invokevirtual _ => .invokevirtual idx
  | .invokespecial _ => .invokespecial idx
  | .monitorexit => .invokespecial idx
  | .monitorenter => .invokestatic idx
  | .ret _ => .new idx
  | .ifCond c t => .ifCond c (t - pc)
  | .if_icmp c t => .if_icmp c (t - pc)
  | .goto t => .goto (t - pc)
  | .tableswitch d lo hi offs => .tableswitch (d - pc) lo hi (offs.map (fun t => t - pc))
  | .lookupswitch d ps => .lookupswitch (d - pc) (ps.map (fun q => (q.1, q.2 - pc)))
  | i => i
def stdLen (i : Instr) : Nat := match i with
  | .bipush _ => 2
  | .sipush _ => 3
  | .iload _ => 2
  | .aload _ => 2
  | .lload _ => 2
  | .istore _ => 2
  | .astore _ => 2
  | .lstore _ => 2
  | .iinc _ _ => 3
  | .ifCond _ _ => 3
  | .if_icmp _ _ => 3
  | .goto _ => 3
  | .getfield _ => 3
  | .putfield _ => 3
  | .getstatic _ => 3
  | .ldc _ => 2
  | .ldc_w _ => 3
  | .ldc2_w _ => 3
  | .new _ => 3
  | .newarray _ => 2
  | .anewarray _ => 3
  | .multianewarray _ _ => 4
  | .invokestatic _ => 3
  | .invokevirtual _ => 3
  | .invokespecial _ => 3
  | .monitorexit => 3
  | .monitorenter => 3
  | _ => 1
/-- a switch: its targets are places of the code; else nothing -/
def okT (i : Instr) : Bool := match i with
  | .ifCond _ t => decide (0 ≤ t)
  | .if_icmp _ t => decide (0 ≤ t)
  | .goto t => decide (0 ≤ t)
  | .tableswitch d _ _ offs => decide (0 ≤ d) && offs.toList.all (fun t => decide (0 ≤ t))
  | .lookupswitch d ps => decide (0 ≤ d) && (ps.toList.all (fun q => decide (0 ≤ q.2)) && (ps.toList.zip (ps.toList.drop 1)).all (fun (a, next) => a.1 < next.1))
  | _ => true
def has4 (l : List (Nat × Nat × Nat × Nat)) (o idx g : Nat) : Bool := l.any (fun e => e.1 == o && (e.2.1 == idx && e.2.2.1 == g))
def has3 (l : List (Nat × Nat × Nat)) (o idx g : Nat) : Bool := l.any (fun e => e.1 == o && (e.2.1 == idx && e.2.2 == g))
def hasC (l : List (Nat × Nat × Nat × Cond)) (o idx g : Nat) : Bool := l.any (fun e => e.1 == o && (e.2.1 == idx && e.2.2.1 == g))
def lnk (o idx : Nat) (i : Instr) : Bool := match i with
  | .getfield g => has4 lfT o idx g
  | .putfield g => has4 lfT o idx g
  | .getstatic j => has3 lsT o idx j
  | .ldc j => hasC lcT o idx j
  | .ldc_w j => hasC lcT o idx j
  | .ldc2_w j => hasC lcT o idx j
  | .new c => has3 lnT o idx c
  | .anewarray c => has3 lnT o idx (if c = 23 then 5 else 9)
  | .multianewarray c _ => has3 lnT o idx c
  | .invokestatic M => has4 lmT o idx M
  | .invokevirtual M => has4 lmT o idx M
  | .invokespecial M => has4 lmT o idx M
  | .monitorexit => has4 lmT o idx 1000
  | .monitorenter => has4 lmT o idx 1001
  | _ => true
def isSw (i : Instr) : Bool := match i with
  | .tableswitch _ _ _ _ => true
  | .lookupswitch _ _ => true
  | .ret _ => true
  | _ => false
def isRet (i : Instr) : Bool := match i with
  | .ret _ => true
  | _ => false
def okE (o : Nat) (b : ByteArray) (e : Nat × Nat × Nat × Instr) : Bool :=
  (match decode b e.1 with
    | .ok (i, n) => decide (i = unl e.1 e.2.2.1 e.2.2.2) && (n == e.2.1 || isRet e.2.2.2)
    | .error _ => false) && (lnk o e.2.2.1 e.2.2.2 && (okT e.2.2.2 && (isSw e.2.2.2 || stdLen e.2.2.2 == e.2.1)))
