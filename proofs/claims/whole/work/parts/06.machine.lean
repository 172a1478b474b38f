/-! THE PURE MACHINE: a memory of names; kind, length and references of a thing (PS); its ints, its longs; the next name; how many exceptions were made -/
abbrev PS : Type := Nat × Nat × List Value
abbrev PM : Type := (Nat → PS) × (Nat → Nat → Int32) × (Nat → Nat → Int64) × Nat × Nat
abbrev POut : Type := Option Value ⊕ Nat
def upR {α : Type} (f : Nat → α) (c : Nat) (g : α) : Nat → α := fun a => if a = c then g else f a
theorem upR_same {α : Type} (f : Nat → α) (c : Nat) (g : α) : upR f c g c = g := if_pos rfl
theorem upR_ne {α : Type} {f : Nat → α} {c a : Nat} {g : α} (h : a ≠ c) : upR f c g a = f a := if_neg h
theorem upR_upR {α : Type} (f : Nat → α) (c : Nat) (g h : α) : upR (upR f c g) c h = upR f c h := by
  funext a
  unfold upR
  by_cases q : a = c <;> simp [q]
/-- a local that holds nothing known -/
def noV : Value := .float 0
def isNo (v : Value) : Bool := match v with
  | .float _ => true
  | _ => false
def isLo (v : Value) : Bool := match v with
  | .long _ => true
  | .double _ => true
  | _ => false
/-- storing one word, two words -/
def lst1 (ls : List Value) (k : Nat) (v : Value) : Option (List Value) :=
  if k < ls.length ∧ (k = 0 ∨ isLo (ls.getD (k - 1) noV) = false) then some (ls.set k v) else none
def lst2 (ls : List Value) (k : Nat) (v : Value) : Option (List Value) :=
  if k + 1 < ls.length ∧ (k = 0 ∨ isLo (ls.getD (k - 1) noV) = false) then some ((ls.set k v).set (k + 1) noV) else none
/-- how many fields an object of a kind has, and which hold references: a reference's place holds null at first, a number's place a number -/
def fdef : List (List Value) := [[.null, .null, .int 0], [.int 0, .int 0], [.null, .null, .null, .null, .int 0, .int 0, .int 0, .int 0], [.null, .null], [.null, .null, .null, .int 0], [.null], [.null, .null, .null, .null, .null, .int 0, .int 0, .int 0], [.null, .int 0, .int 0, .int 0, .int 0, .int 0, .int 0], [.null, .null, .null], [.null, .int 0], [.null, .null, .int 0, .int 0], [.null, .null, .null, .null, .null, .null, .null, .null, .null, .null, .null, .null, .null, .null, .null, .int 0, .int 0, .int 0], [.int 0, .int 0, .int 0, .int 0, .int 0, .int 0, .int 0, .int 0, .int 0, .null, .null, .null, .null, .null, .null, .null, .null, .null, .int 0, .int 0, .null, .null, .null, .null, .null, .null, .null, .int 0, .null, .null, .null, .null, .null, .int 0, .int 0, .int 0, .int 0, .int 0, .int 0, .int 0, .int 0, .null, .int 0]]
def pgf (μ : PM) (c k : Nat) : Option Value := match (μ.1 c).2.2[k]? with
  | some (.int _) => some (.int (μ.2.1 c k))
  | some v => some v
  | none => none
def ppf (μ : PM) (c k : Nat) (v : Value) : Option PM := match (μ.1 c).2.2[k]?, v with
  | some (.int _), .int x => some (μ.1, upR μ.2.1 c (upd (μ.2.1 c) k x), μ.2.2)
  | some .null, .ref r => some (upR μ.1 c ((μ.1 c).1, (μ.1 c).2.1, (μ.1 c).2.2.set k (.ref r)), μ.2)
  | _, _ => none
def ftyOk (g : Nat) (v : Value) : Bool := match (fdef.getD (g / 64) [])[g % 64]?, v with
  | some (.int _), .int _ => true
  | some .null, .ref _ => true
  | _, _ => false
def pnx (pc : Nat) (ls st : List Value) (μ : PM) : Option (Nat × List Value × List Value × PM) := some (pc, ls, st, μ)
def pld (pc : Nat) (ls st : List Value) (μ : PM) (k : Nat) : Option (Nat × List Value × List Value × PM) := match ls[k]? with
  | some (.int x) => pnx pc ls (.int x :: st) μ
  | _ => none
def plr (pc : Nat) (ls st : List Value) (μ : PM) (k : Nat) : Option (Nat × List Value × List Value × PM) := match ls[k]? with
  | some (.ref x) => pnx pc ls (.ref x :: st) μ
  | _ => none
def pll (pc : Nat) (ls st : List Value) (μ : PM) (k : Nat) : Option (Nat × List Value × List Value × PM) := match ls[k]? with
  | some (.long x) => pnx pc ls (.long x :: st) μ
  | _ => none
def psi (pc : Nat) (ls st : List Value) (μ : PM) (k : Nat) : Option (Nat × List Value × List Value × PM) := match st with
  | .int x :: r => (lst1 ls k (.int x)).map (fun l => (pc, l, r, μ))
  | _ => none
def psr (pc : Nat) (ls st : List Value) (μ : PM) (k : Nat) : Option (Nat × List Value × List Value × PM) := match st with
  | .ref x :: r => (lst1 ls k (.ref x)).map (fun l => (pc, l, r, μ))
  | _ => none
def psl (pc : Nat) (ls st : List Value) (μ : PM) (k : Nat) : Option (Nat × List Value × List Value × PM) := match st with
  | .long x :: r => (lst2 ls k (.long x)).map (fun l => (pc, l, r, μ))
  | _ => none
def pii (pc : Nat) (ls st : List Value) (μ : PM) (f : Int32 → Int32 → Int32) : Option (Nat × List Value × List Value × PM) := match st with
  | .int y :: .int x :: r => pnx pc ls (.int (f x y) :: r) μ
  | _ => none
def pij (pc : Nat) (ls st : List Value) (μ : PM) (f : Int64 → Int64 → Int64) : Option (Nat × List Value × List Value × PM) := match st with
  | .long y :: .long x :: r => pnx pc ls (.long (f x y) :: r) μ
  | _ => none
def pbr {α : Type} (c : ClassFile.Cond) (x y : Int32) (a b : α) : α := match c with
  | .eq => if x = y then a else b
  | .ne => if x = y then b else a
  | .lt => if x < y then a else b
  | .ge => if y ≤ x then a else b
  | .gt => if y < x then a else b
  | .le => if x ≤ y then a else b
def ptb (dflt lo hi : Int) (offs : Array Int) (x : Int32) : Option Nat := if x.toInt < lo ∨ hi < x.toInt then some dflt.toNat else (offs[(x.toInt - lo).toNat]?).map Int.toNat
def plu (dflt : Int) : List (Int × Int) → Int32 → Nat
  | [], _ => dflt.toNat
  | (a, o) :: r, x => if x.toInt = a then o.toNat else plu dflt r x
/-- the names of a thing that is made: kind, length, places -/
def pal (μ : PM) (s : PS) : PM := (upR μ.1 μ.2.2.2.1 s, upR μ.2.1 μ.2.2.2.1 (fun _ => 0), upR μ.2.2.1 μ.2.2.2.1 (fun _ => 0), μ.2.2.2.1 + 1, μ.2.2.2.2)
def palN (s : PS) : Nat → PM → PM
  | 0, μ => μ
  | n + 1, μ => palN s n (pal μ s)
def capT : Nat := 1200
def capX : Nat := 600
/-- an instruction that is no call and no end -/
def pst (i : Instr) (pc len : Nat) (ls st : List Value) (μ : PM) : Option (Nat × List Value × List Value × PM) := match i with
  | .iconst n => pnx (pc + len) ls (.int (Int32.ofInt n) :: st) μ
  | .bipush n => pnx (pc + len) ls (.int (Int8.ofInt n).toInt32 :: st) μ
  | .sipush n => pnx (pc + len) ls (.int (Int16.ofInt n).toInt32 :: st) μ
  | .lconst n => pnx (pc + len) ls (.long (Int64.ofNat n) :: st) μ
  | .iload k => pld (pc + len) ls st μ k
  | .iload_n k => pld (pc + len) ls st μ k
  | .aload k => plr (pc + len) ls st μ k
  | .aload_n k => plr (pc + len) ls st μ k
  | .lload k => pll (pc + len) ls st μ k
  | .lload_n k => pll (pc + len) ls st μ k
  | .istore k => psi (pc + len) ls st μ k
  | .istore_n k => psi (pc + len) ls st μ k
  | .astore k => psr (pc + len) ls st μ k
  | .astore_n k => psr (pc + len) ls st μ k
  | .lstore k => psl (pc + len) ls st μ k
  | .lstore_n k => psl (pc + len) ls st μ k
  | .iinc k n => (match ls[k]? with
    | some (.int x) => (lst1 ls k (.int (x + Int32.ofInt n))).map (fun l => (pc + len, l, st, μ))
    | _ => none)
  | .iadd => pii (pc + len) ls st μ (fun x y => x + y)
  | .isub => pii (pc + len) ls st μ (fun x y => x - y)
  | .imul => pii (pc + len) ls st μ (fun x y => x * y)
  | .iand => pii (pc + len) ls st μ (fun x y => x &&& y)
  | .ior => pii (pc + len) ls st μ (fun x y => x ||| y)
  | .ixor => pii (pc + len) ls st μ (fun x y => x ^^^ y)
  | .ishl => pii (pc + len) ls st μ (fun x y => x <<< (y &&& 31))
  | .ishr => pii (pc + len) ls st μ (fun x y => x >>> (y &&& 31))
  | .iushr => pii (pc + len) ls st μ (fun x y => (x.toUInt32 >>> (y.toUInt32 &&& Int32.toUInt32 31)).toInt32)
  | .idiv => (match st with
    | .int y :: .int x :: r => if y = 0 then none else pnx (pc + len) ls (.int (x / y) :: r) μ
    | _ => none)
  | .irem => (match st with
    | .int y :: .int x :: r => if y = 0 then none else pnx (pc + len) ls (.int (x - x / y * y) :: r) μ
    | _ => none)
  | .ineg => (match st with
    | .int x :: r => pnx (pc + len) ls (.int (-x) :: r) μ
    | _ => none)
  | .ladd => pij (pc + len) ls st μ (fun x y => x + y)
  | .lmul => pij (pc + len) ls st μ (fun x y => x * y)
  | .ldiv => (match st with
    | .long y :: .long x :: r => if y = 0 then none else pnx (pc + len) ls (.long (x / y) :: r) μ
    | _ => none)
  | .lrem => (match st with
    | .long y :: .long x :: r => if y = 0 then none else pnx (pc + len) ls (.long (x - x / y * y) :: r) μ
    | _ => none)
  | .lshl => (match st with
    | .int y :: .long x :: r => pnx (pc + len) ls (.long (x <<< (y.toInt64 &&& 63)) :: r) μ
    | _ => none)
  | .lcmp => (match st with
    | .long y :: .long x :: r => pnx (pc + len) ls (.int (lg_cmp x y) :: r) μ
    | _ => none)
  | .i2l => (match st with
    | .int x :: r => pnx (pc + len) ls (.long x.toInt64 :: r) μ
    | _ => none)
  | .i2c => (match st with
    | .int x :: r => pnx (pc + len) ls (.int (x.toUInt32 % 65536).toInt32 :: r) μ
    | _ => none)
  | .dup => (match st with
    | .int x :: r => pnx (pc + len) ls (.int x :: .int x :: r) μ
    | .ref x :: r => pnx (pc + len) ls (.ref x :: .ref x :: r) μ
    | _ => none)
  | .dup2 => (match st with
    | .long x :: r => pnx (pc + len) ls (.long x :: .long x :: r) μ
    | .int x :: .ref y :: r => pnx (pc + len) ls (.int x :: .ref y :: .int x :: .ref y :: r) μ
    | _ => none)
  | .pop => (match st with
    | .int _ :: r => pnx (pc + len) ls r μ
    | _ => none)
  | .ifCond c t => (match st with
    | .int x :: r => pbr c x 0 (pnx t.toNat ls r μ) (pnx (pc + len) ls r μ)
    | _ => none)
  | .if_icmp c t => (match st with
    | .int y :: .int x :: r => pbr c x y (pnx t.toNat ls r μ) (pnx (pc + len) ls r μ)
    | _ => none)
  | .goto t => pnx t.toNat ls st μ
  | .tableswitch dflt lo hi offs => (match st with
    | .int x :: r => (ptb dflt lo hi offs x).map (fun t => (t, ls, r, μ))
    | _ => none)
  | .lookupswitch dflt ps => (match st with
    | .int x :: r => pnx (plu dflt ps.toList x) ls r μ
    | _ => none)
  | .getfield g => (match st with
    | .ref c :: r => if (μ.1 c).1 = g / 64 ∧ c < μ.2.2.2.1 then (pgf μ c (g % 64)).map (fun v => (pc + len, ls, v :: r, μ)) else none
    | _ => none)
  | .putfield g => (match st with
    | v :: .ref c :: r => if (μ.1 c).1 = g / 64 ∧ (9 ≤ c ∧ c < μ.2.2.2.1) ∧ ftyOk g v = true then (ppf μ c (g % 64) v).map (fun m => (pc + len, ls, r, m)) else none
    | _ => none)
  | .getstatic 0 => pnx (pc + len) ls (.ref 6 :: st) μ
  | .getstatic 1 => pnx (pc + len) ls (.int 1 :: st) μ
  | .getstatic 2 => pnx (pc + len) ls (.ref 8 :: st) μ
  | .ldc j => (match cval[j]? with
    | some (.int x) => pnx (pc + len) ls (.int x :: st) μ
    | some (.ref x) => pnx (pc + len) ls (.ref x :: st) μ
    | _ => none)
  | .ldc_w j => (match cval[j]? with
    | some (.int x) => pnx (pc + len) ls (.int x :: st) μ
    | _ => none)
  | .ldc2_w j => (match cval[j]? with
    | some (.long x) => pnx (pc + len) ls (.long x :: st) μ
    | _ => none)
  | .iaload => (match st with
    | .int i :: .ref a :: r => if (μ.1 a).1 = 20 ∧ a < μ.2.2.2.1 ∧ ¬ (i < 0 ∨ (μ.1 a).2.1 ≤ i.toNatClampNeg) then pnx (pc + len) ls (.int (μ.2.1 a i.toNatClampNeg) :: r) μ else none
    | _ => none)
  | .baload => (match st with
    | .int i :: .ref a :: r => if (μ.1 a).1 = 25 ∧ a < 9 ∧ ¬ (i < 0 ∨ (μ.1 a).2.1 ≤ i.toNatClampNeg) then pnx (pc + len) ls (.int (μ.2.1 a i.toNatClampNeg) :: r) μ else none
    | _ => none)
  | .laload => (match st with
    | .int i :: .ref a :: r => if (μ.1 a).1 = 21 ∧ (9 ≤ a ∧ a < μ.2.2.2.1) ∧ ¬ (i < 0 ∨ (μ.1 a).2.1 ≤ i.toNatClampNeg) then pnx (pc + len) ls (.long (μ.2.2.1 a i.toNatClampNeg) :: r) μ else none
    | _ => none)
  | .aaload => (match st with
    | .int i :: .ref a :: r => if ((μ.1 a).1 = 22 ∨ (μ.1 a).1 = 23 ∨ (μ.1 a).1 = 24) ∧ (9 ≤ a ∧ a < μ.2.2.2.1) ∧ ¬ (i < 0 ∨ (μ.1 a).2.1 ≤ i.toNatClampNeg) then ((μ.1 a).2.2[i.toNatClampNeg]?).bind (fun v => match v with
        | .ref q => pnx (pc + len) ls (.ref q :: r) μ
        | _ => none) else none
    | _ => none)
  | .iastore => (match st with
    | .int x :: .int i :: .ref a :: r => if (μ.1 a).1 = 20 ∧ (9 ≤ a ∧ a < μ.2.2.2.1) ∧ ¬ (i < 0 ∨ (μ.1 a).2.1 ≤ i.toNatClampNeg) then pnx (pc + len) ls r (μ.1, upR μ.2.1 a (upd (μ.2.1 a) i.toNatClampNeg x), μ.2.2) else none
    | _ => none)
  | .lastore => (match st with
    | .long x :: .int i :: .ref a :: r => if (μ.1 a).1 = 21 ∧ (9 ≤ a ∧ a < μ.2.2.2.1) ∧ ¬ (i < 0 ∨ (μ.1 a).2.1 ≤ i.toNatClampNeg) then pnx (pc + len) ls r (μ.1, μ.2.1, upR μ.2.2.1 a (vp_updL (μ.2.2.1 a) i.toNatClampNeg x), μ.2.2.2) else none
    | _ => none)
  | .aastore => (match st with
    | .ref q :: .int i :: .ref a :: r => if ((μ.1 a).1 = 23 ∧ (μ.1 q).1 = 5 ∨ (μ.1 a).1 = 24 ∧ (μ.1 q).1 = 9) ∧ (9 ≤ a ∧ a < μ.2.2.2.1 ∧ 9 ≤ q ∧ q < μ.2.2.2.1) ∧ ¬ (i < 0 ∨ (μ.1 a).2.1 ≤ i.toNatClampNeg) ∧ i.toNatClampNeg < (μ.1 a).2.2.length then pnx (pc + len) ls r (upR μ.1 a ((μ.1 a).1, (μ.1 a).2.1, (μ.1 a).2.2.set i.toNatClampNeg (.ref q)), μ.2) else none
    | _ => none)
  | .arraylength => (match st with
    | .ref a :: r => if ((μ.1 a).1 = 20 ∨ (μ.1 a).1 = 25 ∧ a < 9 ∨ ((μ.1 a).1 = 23 ∨ (μ.1 a).1 = 24) ∧ 9 ≤ a) ∧ a < μ.2.2.2.1 then pnx (pc + len) ls (.int (Int32.ofNat (μ.1 a).2.1) :: r) μ else none
    | _ => none)
  | .new ci => if ci < 13 ∧ μ.2.2.2.2 = 0 ∧ μ.2.2.2.1 + 1 ≤ capT then pnx (pc + len) ls (.ref μ.2.2.2.1 :: st) (pal μ (ci, (fdef.getD ci []).length, fdef.getD ci [])) else none
  | .newarray t => (match st with
    | .int n :: r => if (t = .int ∨ t = .long) ∧ μ.2.2.2.2 = 0 ∧ μ.2.2.2.1 + 1 ≤ capT ∧ ¬ n < 0 ∧ n.toNatClampNeg ≤ 1500 then pnx (pc + len) ls (.ref μ.2.2.2.1 :: r) (pal μ (if t = .int then 20 else 21, n.toNatClampNeg, [])) else none
    | _ => none)
  | .anewarray k => (match st with
    | .int n :: r => if (k = 23 ∨ k = 24) ∧ μ.2.2.2.2 = 0 ∧ μ.2.2.2.1 + 1 ≤ capT ∧ ¬ n < 0 ∧ n.toNatClampNeg ≤ 1500 then pnx (pc + len) ls (.ref μ.2.2.2.1 :: r) (pal μ (k, n.toNatClampNeg, List.replicate n.toNatClampNeg .null)) else none
    | _ => none)
  | .multianewarray 22 2 => (match st with
    | .int k :: .int n :: r => if μ.2.2.2.2 = 0 ∧ μ.2.2.2.1 + (1 + n.toNatClampNeg) ≤ capT ∧ ¬ n < 0 ∧ ¬ k < 0 ∧ n.toNatClampNeg ≤ 1500 ∧ k.toNatClampNeg ≤ 1499 then
        pnx (pc + len) ls (.ref μ.2.2.2.1 :: r) (palN (20, k.toNatClampNeg, []) n.toNatClampNeg (pal μ (22, n.toNatClampNeg, (List.range n.toNatClampNeg).map (fun j => .ref (μ.2.2.2.1 + 1 + j))))) else none
    | _ => none)
  | .monitorexit => (match st with
    | .ref a :: r => if 9 ≤ a ∧ r.length ≤ 16 then pnx (pc + len) ls r μ else none
    | _ => none)
  | .monitorenter => (match st with
    | .int n :: .int dp :: .ref a :: .int sp :: .ref b :: r => if (μ.1 a).1 = 20 ∧ (μ.1 b).1 = 20 ∧ (9 ≤ a ∧ a < μ.2.2.2.1) ∧ (9 ≤ b ∨ b = 6) ∧ b < μ.2.2.2.1 ∧ ¬ sp < 0 ∧ ¬ dp < 0 ∧ ¬ n < 0 ∧ sp.toNatClampNeg + n.toNatClampNeg ≤ (μ.1 b).2.1 ∧ dp.toNatClampNeg + n.toNatClampNeg ≤ (μ.1 a).2.1 ∧ r.length ≤ 16 then
        pnx (pc + len) ls r (μ.1, upR μ.2.1 a (va_cpy (μ.2.1 b) (μ.2.1 a) sp.toNatClampNeg dp.toNatClampNeg n.toNatClampNeg), μ.2.2) else none
    | _ => none)
  | _ => none
def fetch (M pc : Nat) : Option (Nat × Nat × Instr) := ((ctab M).find? (fun e => e.1 == pc)).map (fun e => e.2)
def entL (M : Nat) (as : List Value) : List Value := as ++ List.replicate (mMax M - as.length) noV
def okRecv (μ : PM) (M : Nat) (v : Option Value) : Bool := match v with
  | some (.ref c) => (μ.1 c).1 == mOwn M && Nat.blt c μ.2.2.2.1
  | _ => false
def okArg (v : Value) : Bool := match v with
  | .int _ => true
  | .ref _ => true
  | _ => false
/-- a call: the method, its arguments, what is left on the stack -/
def pcl (i : Instr) (st : List Value) (μ : PM) : Option (Nat × List Value × List Value) := match i with
  | .invokestatic M => if mNa M ≤ st.length ∧ (st.drop (mNa M)).length ≤ 16 ∧ mKi M = 0 ∧ Nat.blt M 362 = true ∧ (st.take (mNa M)).all okArg = true then some (M, (st.take (mNa M)).reverse, st.drop (mNa M)) else none
  | .invokevirtual M => if mNa M ≤ st.length ∧ (st.drop (mNa M)).length ≤ 16 ∧ mKi M = 1 ∧ Nat.blt M 362 = true ∧ (st.take (mNa M)).all okArg = true ∧ okRecv μ M (st.take (mNa M)).reverse.head? = true then some (M, (st.take (mNa M)).reverse, st.drop (mNa M)) else none
  | .invokespecial M => if mNa M ≤ st.length ∧ (st.drop (mNa M)).length ≤ 16 ∧ mKi M = 2 ∧ Nat.blt M 362 = true ∧ (st.take (mNa M)).all okArg = true ∧ okRecv μ M (st.take (mNa M)).reverse.head? = true then some (M, (st.take (mNa M)).reverse, st.drop (mNa M)) else none
  | _ => none
def pfin (M : Nat) (i : Instr) (st : List Value) (μ : PM) : Option (POut × PM) := match i with
  | .ireturn => (match st, mRet M with
    | [.int v], some ty => some (.inl (some (narrow ty (.int v))), μ)
    | _, _ => none)
  | .lreturn => (match st, mRet M with
    | [.long v], some .long => some (.inl (some (.long v)), μ)
    | _, _ => none)
  | .return_ => (match st, mRet M with
    | [], none => some (.inl none, μ)
    | _, _ => none)
  | .ret k => if μ.2.2.2.2 + 1 ≤ capX ∧ st.length ≤ 16 then some (.inr k, (μ.1, μ.2.1, μ.2.2.1, μ.2.2.2.1, μ.2.2.2.2 + 1)) else none
  | _ => none
def hnd (M pc k : Nat) : Option Int32 := (htab.find? (fun h => h.1 == M && (h.2.1 == k && (Nat.ble h.2.2.1 pc && Nat.blt pc h.2.2.2.1)))).map (fun h => Int32.ofNat h.2.2.2.2.2)
def prun : Nat → Nat → Nat → Nat → List Value → List Value → PM → Option (POut × PM)
  | 0, _, _, _, _, _, _ => none
  | n + 1, d, M, pc, ls, st, μ => match fetch M pc with
    | none => none
    | some (len, _, i) => match pcl i st μ with
      | some (M', as, rest) => (match d with
        | 0 => none
        | d' + 1 => match prun n d' M' 0 (entL M' as) [] μ with
          | none => none
          | some (.inl v, μ') => prun n (d' + 1) M (pc + len) ls (v.toList ++ rest) μ'
          | some (.inr k, μ') => match hnd M pc k with
            | some v => some (.inl (some (.int v)), μ')
            | none => if Nat.blt M 330 = true then some (.inr k, μ') else none)
      | none => match pfin M i st μ with
        | some r => some r
        | none => match pst i pc len ls st μ with
          | some (pc', ls', st', μ') => prun n d M pc' ls' st' μ'
          | none => none
