/-! ROWS: one instruction of the pure machine, as a rewriting -/
def shL (n : Nat) : List PS := [(13, 2, [.ref 3, .int 0]), (13, 2, [.ref 4, .int 0]), (13, 2, [.ref 5, .int 0]), (25, 24, []), (25, 61, []), (25, 40, []), (20, 9, []), (20, n, []), (99, 0, []), (11, 18, [.ref 10, .ref 12, .ref 18, .ref 24, .ref 28, .ref 32, .ref 37, .ref 38, .ref 39, .ref 40, .ref 42, .ref 44, .ref 46, .ref 61, .ref 65, .int 0, .int 0, .int 0]), (7, 7, [.ref 11, .int 0, .int 0, .int 0, .int 0, .int 0, .int 0]), (20, 600, []), (6, 8, [.ref 13, .ref 14, .ref 15, .ref 16, .ref 17, .int 0, .int 0, .int 0]), (20, 7, []), (20, 7, []), (20, 6, []), (20, 6, []), (20, 42, []), (6, 8, [.ref 19, .ref 20, .ref 21, .ref 22, .ref 23, .int 0, .int 0, .int 0]), (20, 7, []), (20, 7, []), (20, 6, []), (20, 6, []), (20, 42, []), (4, 4, [.ref 25, .ref 26, .ref 27, .int 0]), (20, 150, []), (20, 150, []), (20, 9, []), (4, 4, [.ref 29, .ref 30, .ref 31, .int 0]), (20, 150, []), (20, 150, []), (20, 9, []), (2, 8, [.ref 33, .ref 34, .ref 35, .ref 36, .int 0, .int 0, .int 0, .int 0]), (20, 30, []), (20, 30, []), (20, 30, []), (20, 30, []), (1, 2, [.int 0, .int 0]), (1, 2, [.int 0, .int 0]), (3, 2, [.ref 12, .ref 24]), (5, 1, [.ref 41]), (20, 84, []), (5, 1, [.ref 43]), (20, 84, []), (9, 2, [.ref 45, .int 0]), (20, 1344, []), (0, 3, [.ref 47, .ref 54, .int 0]), (23, 3, [.ref 48, .ref 50, .ref 52]), (5, 1, [.ref 49]), (20, 84, []), (5, 1, [.ref 51]), (20, 84, []), (5, 1, [.ref 53]), (20, 84, []), (24, 3, [.ref 55, .ref 57, .ref 59]), (9, 2, [.ref 56, .int 0]), (20, 1344, []), (9, 2, [.ref 58, .int 0]), (20, 1344, []), (9, 2, [.ref 60, .int 0]), (20, 1344, []), (8, 3, [.ref 62, .ref 63, .ref 64]), (20, 64, []), (20, 6, []), (20, 64, []), (10, 4, [.ref 66, .ref 68, .int 0, .int 0]), (5, 1, [.ref 67]), (20, 84, []), (5, 1, [.ref 69]), (20, 84, []), (12, 43, [.int 0, .int 0, .int 0, .int 0, .int 0, .int 0, .int 0, .int 0, .int 0, .ref 71, .ref 72, .ref 73, .ref 74, .ref 75, .ref 83, .ref 91, .ref 98, .ref 105, .int 0, .int 0, .ref 113, .ref 274, .ref 435, .ref 443, .ref 451, .ref 452, .ref 453, .int 0, .ref 534, .ref 535, .ref 536, .ref 537, .ref 554, .int 0, .int 0, .int 0, .int 0, .int 0, .int 0, .int 0, .int 0, .ref 558, .int 0]), (20, 600, []), (20, 2, []), (20, 3, []), (20, 3, []), (22, 7, (List.range 7).map (fun j => .ref (76 + j))), (20, 2, []), (20, 2, []), (20, 2, []), (20, 2, []), (20, 2, []), (20, 2, []), (20, 2, []), (22, 7, (List.range 7).map (fun j => .ref (84 + j))), (20, 2, []), (20, 2, []), (20, 2, []), (20, 2, []), (20, 2, []), (20, 2, []), (20, 2, []), (22, 6, (List.range 6).map (fun j => .ref (92 + j))), (20, 2, []), (20, 2, []), (20, 2, []), (20, 2, []), (20, 2, []), (20, 2, []), (22, 6, (List.range 6).map (fun j => .ref (99 + j))), (20, 2, []), (20, 2, []), (20, 2, []), (20, 2, []), (20, 2, []), (20, 2, []), (22, 7, (List.range 7).map (fun j => .ref (106 + j))), (20, 6, []), (20, 6, []), (20, 6, []), (20, 6, []), (20, 6, []), (20, 6, []), (20, 6, []), (22, 160, (List.range 160).map (fun j => .ref (114 + j))), (20, 2, []), (20, 2, []), (20, 2, []), (20, 2, []), (20, 2, []), (20, 2, []), (20, 2, []), (20, 2, []), (20, 2, []), (20, 2, []), (20, 2, []), (20, 2, []), (20, 2, []), (20, 2, []), (20, 2, []), (20, 2, []), (20, 2, []), (20, 2, []), (20, 2, []), (20, 2, []), (20, 2, []), (20, 2, []), (20, 2, []), (20, 2, []), (20, 2, []), (20, 2, []), (20, 2, []), (20, 2, []), (20, 2, []), (20, 2, []), (20, 2, []), (20, 2, []), (20, 2, []), (20, 2, []), (20, 2, []), (20, 2, []), (20, 2, []), (20, 2, []), (20, 2, []), (20, 2, []), (20, 2, []), (20, 2, []), (20, 2, []), (20, 2, []), (20, 2, []), (20, 2, []), (20, 2, []), (20, 2, []), (20, 2, []), (20, 2, []), (20, 2, []), (20, 2, []), (20, 2, []), (20, 2, []), (20, 2, []), (20, 2, []), (20, 2, []), (20, 2, []), (20, 2, []), (20, 2, []), (20, 2, []), (20, 2, []), (20, 2, []), (20, 2, []), (20, 2, []), (20, 2, []), (20, 2, []), (20, 2, []), (20, 2, []), (20, 2, []), (20, 2, []), (20, 2, []), (20, 2, []), (20, 2, []), (20, 2, []), (20, 2, []), (20, 2, []), (20, 2, []), (20, 2, []), (20, 2, []), (20, 2, []), (20, 2, []), (20, 2, []), (20, 2, []), (20, 2, []), (20, 2, []), (20, 2, []), (20, 2, []), (20, 2, []), (20, 2, []), (20, 2, []), (20, 2, []), (20, 2, []), (20, 2, []), (20, 2, []), (20, 2, []), (20, 2, []), (20, 2, []), (20, 2, []), (20, 2, []), (20, 2, []), (20, 2, []), (20, 2, []), (20, 2, []), (20, 2, []), (20, 2, []), (20, 2, []), (20, 2, []), (20, 2, []), (20, 2, []), (20, 2, []), (20, 2, []), (20, 2, []), (20, 2, []), (20, 2, []), (20, 2, []), (20, 2, []), (20, 2, []), (20, 2, []), (20, 2, []), (20, 2, []), (20, 2, []), (20, 2, []), (20, 2, []), (20, 2, []), (20, 2, []), (20, 2, []), (20, 2, []), (20, 2, []), (20, 2, []), (20, 2, []), (20, 2, []), (20, 2, []), (20, 2, []), (20, 2, []), (20, 2, []), (20, 2, []), (20, 2, []), (20, 2, []), (20, 2, []), (20, 2, []), (20, 2, []), (20, 2, []), (20, 2, []), (20, 2, []), (20, 2, []), (20, 2, []), (20, 2, []), (20, 2, []), (20, 2, []), (20, 2, []), (20, 2, []), (20, 2, []), (20, 2, []), (20, 2, []), (20, 2, []), (20, 2, []), (20, 2, []), (20, 2, []), (20, 2, []), (22, 160, (List.range 160).map (fun j => .ref (275 + j))), (20, 2, []), (20, 2, []), (20, 2, []), (20, 2, []), (20, 2, []), (20, 2, []), (20, 2, []), (20, 2, []), (20, 2, []), (20, 2, []), (20, 2, []), (20, 2, []), (20, 2, []), (20, 2, []), (20, 2, []), (20, 2, []), (20, 2, []), (20, 2, []), (20, 2, []), (20, 2, []), (20, 2, []), (20, 2, []), (20, 2, []), (20, 2, []), (20, 2, []), (20, 2, []), (20, 2, []), (20, 2, []), (20, 2, []), (20, 2, []), (20, 2, []), (20, 2, []), (20, 2, []), (20, 2, []), (20, 2, []), (20, 2, []), (20, 2, []), (20, 2, []), (20, 2, []), (20, 2, []), (20, 2, []), (20, 2, []), (20, 2, []), (20, 2, []), (20, 2, []), (20, 2, []), (20, 2, []), (20, 2, []), (20, 2, []), (20, 2, []), (20, 2, []), (20, 2, []), (20, 2, []), (20, 2, []), (20, 2, []), (20, 2, []), (20, 2, []), (20, 2, []), (20, 2, []), (20, 2, []), (20, 2, []), (20, 2, []), (20, 2, []), (20, 2, []), (20, 2, []), (20, 2, []), (20, 2, []), (20, 2, []), (20, 2, []), (20, 2, []), (20, 2, []), (20, 2, []), (20, 2, []), (20, 2, []), (20, 2, []), (20, 2, []), (20, 2, []), (20, 2, []), (20, 2, []), (20, 2, []), (20, 2, []), (20, 2, []), (20, 2, []), (20, 2, []), (20, 2, []), (20, 2, []), (20, 2, []), (20, 2, []), (20, 2, []), (20, 2, []), (20, 2, []), (20, 2, []), (20, 2, []), (20, 2, []), (20, 2, []), (20, 2, []), (20, 2, []), (20, 2, []), (20, 2, []), (20, 2, []), (20, 2, []), (20, 2, []), (20, 2, []), (20, 2, []), (20, 2, []), (20, 2, []), (20, 2, []), (20, 2, []), (20, 2, []), (20, 2, []), (20, 2, []), (20, 2, []), (20, 2, []), (20, 2, []), (20, 2, []), (20, 2, []), (20, 2, []), (20, 2, []), (20, 2, []), (20, 2, []), (20, 2, []), (20, 2, []), (20, 2, []), (20, 2, []), (20, 2, []), (20, 2, []), (20, 2, []), (20, 2, []), (20, 2, []), (20, 2, []), (20, 2, []), (20, 2, []), (20, 2, []), (20, 2, []), (20, 2, []), (20, 2, []), (20, 2, []), (20, 2, []), (20, 2, []), (20, 2, []), (20, 2, []), (20, 2, []), (20, 2, []), (20, 2, []), (20, 2, []), (20, 2, []), (20, 2, []), (20, 2, []), (20, 2, []), (20, 2, []), (20, 2, []), (20, 2, []), (20, 2, []), (20, 2, []), (20, 2, []), (20, 2, []), (20, 2, []), (20, 2, []), (20, 2, []), (20, 2, []), (22, 7, (List.range 7).map (fun j => .ref (436 + j))), (20, 2, []), (20, 2, []), (20, 2, []), (20, 2, []), (20, 2, []), (20, 2, []), (20, 2, []), (22, 7, (List.range 7).map (fun j => .ref (444 + j))), (20, 2, []), (20, 2, []), (20, 2, []), (20, 2, []), (20, 2, []), (20, 2, []), (20, 2, []), (20, 160, []), (20, 9, []), (22, 80, (List.range 80).map (fun j => .ref (454 + j))), (20, 5, []), (20, 5, []), (20, 5, []), (20, 5, []), (20, 5, []), (20, 5, []), (20, 5, []), (20, 5, []), (20, 5, []), (20, 5, []), (20, 5, []), (20, 5, []), (20, 5, []), (20, 5, []), (20, 5, []), (20, 5, []), (20, 5, []), (20, 5, []), (20, 5, []), (20, 5, []), (20, 5, []), (20, 5, []), (20, 5, []), (20, 5, []), (20, 5, []), (20, 5, []), (20, 5, []), (20, 5, []), (20, 5, []), (20, 5, []), (20, 5, []), (20, 5, []), (20, 5, []), (20, 5, []), (20, 5, []), (20, 5, []), (20, 5, []), (20, 5, []), (20, 5, []), (20, 5, []), (20, 5, []), (20, 5, []), (20, 5, []), (20, 5, []), (20, 5, []), (20, 5, []), (20, 5, []), (20, 5, []), (20, 5, []), (20, 5, []), (20, 5, []), (20, 5, []), (20, 5, []), (20, 5, []), (20, 5, []), (20, 5, []), (20, 5, []), (20, 5, []), (20, 5, []), (20, 5, []), (20, 5, []), (20, 5, []), (20, 5, []), (20, 5, []), (20, 5, []), (20, 5, []), (20, 5, []), (20, 5, []), (20, 5, []), (20, 5, []), (20, 5, []), (20, 5, []), (20, 5, []), (20, 5, []), (20, 5, []), (20, 5, []), (20, 5, []), (20, 5, []), (20, 5, []), (20, 5, []), (20, 84, []), (20, 84, []), (20, 7, []), (22, 16, (List.range 16).map (fun j => .ref (538 + j))), (20, 84, []), (20, 84, []), (20, 84, []), (20, 84, []), (20, 84, []), (20, 84, []), (20, 84, []), (20, 84, []), (20, 84, []), (20, 84, []), (20, 84, []), (20, 84, []), (20, 84, []), (20, 84, []), (20, 84, []), (20, 84, []), (22, 3, (List.range 3).map (fun j => .ref (555 + j))), (20, 1429, []), (20, 1429, []), (20, 1429, []), (21, 14, []), (21, 1, [])]
/-- the shapes of all that is made, once both sides are made -/
def sh0 (n c : Nat) : PS := (shL n).getD c (99, 0, [])
def mk (n : Nat) (I : Nat → Nat → Int32) (L : Nat → Nat → Int64) (x : Nat) : PM := (sh0 n, I, L, 560, x)
def isCl (i : Instr) : Bool := match i with
  | .invokestatic _ => true
  | .invokevirtual _ => true
  | .invokespecial _ => true
  | _ => false
def isFi (i : Instr) : Bool := match i with
  | .ireturn => true
  | .lreturn => true
  | .return_ => true
  | .ret _ => true
  | _ => false
theorem pcl_no {i : Instr} (h : isCl i = false) (st : List Value) (μ : PM) : pcl i st μ = none := by
  cases i <;> first | rfl | cases h
theorem pfin_no {i : Instr} (h : isFi i = false) (M : Nat) (st : List Value) (μ : PM) : pfin M i st μ = none := by
  cases i <;> first | rfl | cases h
section Rw
variable {d M pc len idx pc' k n c : Nat} {i : Instr} {ls st ls' st' : List Value} {μ μ' : PM} {Φ : POut → PM → Prop} {I : Nat → Nat → Int32} {L : Nat → Nat → Int64} {x : Nat}
theorem wp_go (hf : fetch M pc = some (len, idx, i)) (hc : isCl i = false) (hn : isFi i = false) (hs : pst i pc len ls st μ = some (pc', ls', st', μ')) : wp d M pc ls st μ Φ ↔ wp d M pc' ls' st' μ' Φ := by
  rw [wp_pst hf (pcl_no hc _ _) (pfin_no hn _ _ _), hs]
  rfl
theorem lst1_ok {v : Value} (hk : k < ls.length) (hp : k = 0 ∨ isLo (ls.getD (k - 1) noV) = false) : lst1 ls k v = some (ls.set k v) := if_pos ⟨hk, hp⟩
theorem lst2_ok {v : Value} (hk : k + 1 < ls.length) (hp : k = 0 ∨ isLo (ls.getD (k - 1) noV) = false) : lst2 ls k v = some ((ls.set k v).set (k + 1) noV) := if_pos ⟨hk, hp⟩
theorem wp_is {v : Int32} (hf : fetch M pc = some (len, idx, .istore k)) (hk : k < ls.length) (hp : k = 0 ∨ isLo (ls.getD (k - 1) noV) = false) : wp d M pc ls (.int v :: st) μ Φ ↔ wp d M (pc + len) (ls.set k (.int v)) st μ Φ :=
  wp_go hf rfl rfl (by show (lst1 ls k (.int v)).map _ = _; rw [lst1_ok hk hp]; rfl)
theorem wp_isn {k4 : Fin 4} {v : Int32} (hf : fetch M pc = some (len, idx, .istore_n k4)) (hk : (k4 : Nat) < ls.length) (hp : (k4 : Nat) = 0 ∨ isLo (ls.getD ((k4 : Nat) - 1) noV) = false) : wp d M pc ls (.int v :: st) μ Φ ↔ wp d M (pc + len) (ls.set (k4 : Nat) (.int v)) st μ Φ :=
  wp_go hf rfl rfl (by show (lst1 ls (k4 : Nat) (.int v)).map _ = _; rw [lst1_ok hk hp]; rfl)
theorem wp_as {v : Nat} (hf : fetch M pc = some (len, idx, .astore k)) (hk : k < ls.length) (hp : k = 0 ∨ isLo (ls.getD (k - 1) noV) = false) : wp d M pc ls (.ref v :: st) μ Φ ↔ wp d M (pc + len) (ls.set k (.ref v)) st μ Φ :=
  wp_go hf rfl rfl (by show (lst1 ls k (.ref v)).map _ = _; rw [lst1_ok hk hp]; rfl)
theorem wp_asn {k4 : Fin 4} {v : Nat} (hf : fetch M pc = some (len, idx, .astore_n k4)) (hk : (k4 : Nat) < ls.length) (hp : (k4 : Nat) = 0 ∨ isLo (ls.getD ((k4 : Nat) - 1) noV) = false) : wp d M pc ls (.ref v :: st) μ Φ ↔ wp d M (pc + len) (ls.set (k4 : Nat) (.ref v)) st μ Φ :=
  wp_go hf rfl rfl (by show (lst1 ls (k4 : Nat) (.ref v)).map _ = _; rw [lst1_ok hk hp]; rfl)
theorem wp_lst {v : Int64} (hf : fetch M pc = some (len, idx, .lstore k)) (hk : k + 1 < ls.length) (hp : k = 0 ∨ isLo (ls.getD (k - 1) noV) = false) : wp d M pc ls (.long v :: st) μ Φ ↔ wp d M (pc + len) ((ls.set k (.long v)).set (k + 1) noV) st μ Φ :=
  wp_go hf rfl rfl (by show (lst2 ls k (.long v)).map _ = _; rw [lst2_ok hk hp]; rfl)
theorem wp_lsn {k4 : Fin 4} {v : Int64} (hf : fetch M pc = some (len, idx, .lstore_n k4)) (hk : (k4 : Nat) + 1 < ls.length) (hp : (k4 : Nat) = 0 ∨ isLo (ls.getD ((k4 : Nat) - 1) noV) = false) : wp d M pc ls (.long v :: st) μ Φ ↔ wp d M (pc + len) ((ls.set (k4 : Nat) (.long v)).set ((k4 : Nat) + 1) noV) st μ Φ :=
  wp_go hf rfl rfl (by show (lst2 ls (k4 : Nat) (.long v)).map _ = _; rw [lst2_ok hk hp]; rfl)
theorem wp_inc {v : Int32} {z : Int} (hf : fetch M pc = some (len, idx, .iinc k z)) (hv : ls[k]? = some (.int v)) (hp : k = 0 ∨ isLo (ls.getD (k - 1) noV) = false) : wp d M pc ls st μ Φ ↔ wp d M (pc + len) (ls.set k (.int (v + Int32.ofInt z))) st μ Φ :=
  wp_go hf rfl rfl (by simp only [pst, hv]; rw [lst1_ok (List.getElem?_eq_some_iff.mp hv).1 hp]; rfl)
theorem stK_br {c : ClassFile.Cond} {a b : Int32} {p q : Option (Nat × List Value × List Value × PM)} : stK d M Φ (pbr c a b p q) ↔ pbr c a b (stK d M Φ p) (stK d M Φ q) := by
  cases c <;> (simp only [pbr]; split <;> exact Iff.rfl)
theorem wp_if {cc : ClassFile.Cond} {t : Int} {a : Int32} (hf : fetch M pc = some (len, idx, .ifCond cc t)) : wp d M pc ls (.int a :: st) μ Φ ↔ pbr cc a 0 (wp d M t.toNat ls st μ Φ) (wp d M (pc + len) ls st μ Φ) := by
  rw [wp_pst hf rfl rfl]
  exact stK_br
theorem wp_ic {cc : ClassFile.Cond} {t : Int} {a b : Int32} (hf : fetch M pc = some (len, idx, .if_icmp cc t)) : wp d M pc ls (.int b :: .int a :: st) μ Φ ↔ pbr cc a b (wp d M t.toNat ls st μ Φ) (wp d M (pc + len) ls st μ Φ) := by
  rw [wp_pst hf rfl rfl]
  exact stK_br
theorem wp_dv {a b : Int32} (hf : fetch M pc = some (len, idx, .idiv)) (hb : b ≠ 0) : wp d M pc ls (.int b :: .int a :: st) μ Φ ↔ wp d M (pc + len) ls (.int (a / b) :: st) μ Φ := wp_go hf rfl rfl (if_neg hb)
theorem wp_rm {a b : Int32} (hf : fetch M pc = some (len, idx, .irem)) (hb : b ≠ 0) : wp d M pc ls (.int b :: .int a :: st) μ Φ ↔ wp d M (pc + len) ls (.int (a - a / b * b) :: st) μ Φ := wp_go hf rfl rfl (if_neg hb)
theorem wp_ldv {a b : Int64} (hf : fetch M pc = some (len, idx, .ldiv)) (hb : b ≠ 0) : wp d M pc ls (.long b :: .long a :: st) μ Φ ↔ wp d M (pc + len) ls (.long (a / b) :: st) μ Φ := wp_go hf rfl rfl (if_neg hb)
theorem wp_lrm {a b : Int64} (hf : fetch M pc = some (len, idx, .lrem)) (hb : b ≠ 0) : wp d M pc ls (.long b :: .long a :: st) μ Φ ↔ wp d M (pc + len) ls (.long (a - a / b * b) :: st) μ Φ := wp_go hf rfl rfl (if_neg hb)
theorem wp_ts {dflt lo hi : Int} {offs : Array Int} {a : Int32} {t : Nat} (hf : fetch M pc = some (len, idx, .tableswitch dflt lo hi offs)) (ht : ptb dflt lo hi offs a = some t) : wp d M pc ls (.int a :: st) μ Φ ↔ wp d M t ls st μ Φ :=
  wp_go hf rfl rfl (by show (ptb dflt lo hi offs a).map _ = _; rw [ht]; rfl)
theorem wp_ls {dflt : Int} {ps : Array (Int × Int)} {a : Int32} {t : Nat} (hf : fetch M pc = some (len, idx, .lookupswitch dflt ps)) (ht : plu dflt ps.toList a = t) : wp d M pc ls (.int a :: st) μ Φ ↔ wp d M t ls st μ Φ :=
  wp_go hf rfl rfl (by rw [← ht]; rfl)
/-- fields -/
theorem wp_gi {g : Nat} (hf : fetch M pc = some (len, idx, .getfield g)) (h1 : (sh0 n c).1 = g / 64) (h2 : c < 560) (h3 : (sh0 n c).2.2[g % 64]? = some (.int 0)) : wp d M pc ls (.ref c :: st) (mk n I L x) Φ ↔ wp d M (pc + len) ls (.int (I c (g % 64)) :: st) (mk n I L x) Φ := by
  refine wp_go hf rfl rfl ?_
  show (if (sh0 n c).1 = g / 64 ∧ c < 560 then (pgf (mk n I L x) c (g % 64)).map _ else none) = _
  rw [if_pos ⟨h1, h2⟩]
  unfold pgf mk
  dsimp only
  rw [h3]
  rfl
theorem wp_gr {g r : Nat} (hf : fetch M pc = some (len, idx, .getfield g)) (h1 : (sh0 n c).1 = g / 64) (h2 : c < 560) (h3 : (sh0 n c).2.2[g % 64]? = some (.ref r)) : wp d M pc ls (.ref c :: st) (mk n I L x) Φ ↔ wp d M (pc + len) ls (.ref r :: st) (mk n I L x) Φ := by
  refine wp_go hf rfl rfl ?_
  show (if (sh0 n c).1 = g / 64 ∧ c < 560 then (pgf (mk n I L x) c (g % 64)).map _ else none) = _
  rw [if_pos ⟨h1, h2⟩]
  unfold pgf mk
  dsimp only
  rw [h3]
  rfl
/-- memory of ints after a store -/
def wrI (I : Nat → Nat → Int32) (a i : Nat) (v : Int32) : Nat → Nat → Int32 := upR I a (upd (I a) i v)
def wrL (L : Nat → Nat → Int64) (a i : Nat) (v : Int64) : Nat → Nat → Int64 := upR L a (vp_updL (L a) i v)
theorem wp_pi {g : Nat} {v : Int32} (hf : fetch M pc = some (len, idx, .putfield g)) (h1 : (sh0 n c).1 = g / 64) (h9 : 9 ≤ c) (h2 : c < 560) (h3 : (sh0 n c).2.2[g % 64]? = some (.int 0)) (h4 : ftyOk g (.int 0) = true) : wp d M pc ls (.int v :: .ref c :: st) (mk n I L x) Φ ↔ wp d M (pc + len) ls st (mk n (wrI I c (g % 64) v) L x) Φ := by
  refine wp_go hf rfl rfl ?_
  have h5 : ftyOk g (.int v) = true := by
    unfold ftyOk at h4 ⊢
    split at h4
    · rename_i h6 h7
      rw [h6]
    · rename_i h6 h7
      cases h7
    · cases h4
  show (if (sh0 n c).1 = g / 64 ∧ (9 ≤ c ∧ c < 560) ∧ ftyOk g (.int v) = true then (ppf (mk n I L x) c (g % 64) (.int v)).map _ else none) = _
  rw [if_pos ⟨h1, ⟨h9, h2⟩, h5⟩]
  unfold ppf mk
  dsimp only
  rw [h3]
  rfl
/-- arrays -/
theorem wp_il {a : Nat} {i : Int32} (hf : fetch M pc = some (len, idx, .iaload)) (h1 : (sh0 n a).1 = 20) (h2 : a < 560) (h3 : 0 ≤ i) (h4 : i.toNatClampNeg < (sh0 n a).2.1) : wp d M pc ls (.int i :: .ref a :: st) (mk n I L x) Φ ↔ wp d M (pc + len) ls (.int (I a i.toNatClampNeg) :: st) (mk n I L x) Φ := by
  refine wp_go hf rfl rfl ?_
  show (if (sh0 n a).1 = 20 ∧ a < 560 ∧ ¬ (i < 0 ∨ (sh0 n a).2.1 ≤ i.toNatClampNeg) then pnx _ _ _ _ else none) = _
  rw [if_pos ⟨h1, h2, fun h => h.elim (fun q => Int32.not_lt.mpr h3 q) (fun q => Nat.not_le.mpr h4 q)⟩]
  rfl
theorem wp_bl {a : Nat} {i : Int32} (hf : fetch M pc = some (len, idx, .baload)) (h1 : (sh0 n a).1 = 25) (h2 : a < 9) (h3 : 0 ≤ i) (h4 : i.toNatClampNeg < (sh0 n a).2.1) : wp d M pc ls (.int i :: .ref a :: st) (mk n I L x) Φ ↔ wp d M (pc + len) ls (.int (I a i.toNatClampNeg) :: st) (mk n I L x) Φ := by
  refine wp_go hf rfl rfl ?_
  show (if (sh0 n a).1 = 25 ∧ a < 9 ∧ ¬ (i < 0 ∨ (sh0 n a).2.1 ≤ i.toNatClampNeg) then pnx _ _ _ _ else none) = _
  rw [if_pos ⟨h1, h2, fun h => h.elim (fun q => Int32.not_lt.mpr h3 q) (fun q => Nat.not_le.mpr h4 q)⟩]
  rfl
theorem wp_ll {a : Nat} {i : Int32} (hf : fetch M pc = some (len, idx, .laload)) (h1 : (sh0 n a).1 = 21) (h9 : 9 ≤ a) (h2 : a < 560) (h3 : 0 ≤ i) (h4 : i.toNatClampNeg < (sh0 n a).2.1) : wp d M pc ls (.int i :: .ref a :: st) (mk n I L x) Φ ↔ wp d M (pc + len) ls (.long (L a i.toNatClampNeg) :: st) (mk n I L x) Φ := by
  refine wp_go hf rfl rfl ?_
  show (if (sh0 n a).1 = 21 ∧ (9 ≤ a ∧ a < 560) ∧ ¬ (i < 0 ∨ (sh0 n a).2.1 ≤ i.toNatClampNeg) then pnx _ _ _ _ else none) = _
  rw [if_pos ⟨h1, ⟨h9, h2⟩, fun h => h.elim (fun q => Int32.not_lt.mpr h3 q) (fun q => Nat.not_le.mpr h4 q)⟩]
  rfl
theorem wp_al {a r : Nat} {i : Int32} (hf : fetch M pc = some (len, idx, .aaload)) (h1 : (sh0 n a).1 = 22 ∨ (sh0 n a).1 = 23 ∨ (sh0 n a).1 = 24) (h9 : 9 ≤ a) (h2 : a < 560) (h3 : 0 ≤ i) (h4 : i.toNatClampNeg < (sh0 n a).2.1) (h5 : (sh0 n a).2.2[i.toNatClampNeg]? = some (.ref r)) : wp d M pc ls (.int i :: .ref a :: st) (mk n I L x) Φ ↔ wp d M (pc + len) ls (.ref r :: st) (mk n I L x) Φ := by
  refine wp_go hf rfl rfl ?_
  show (if ((sh0 n a).1 = 22 ∨ (sh0 n a).1 = 23 ∨ (sh0 n a).1 = 24) ∧ (9 ≤ a ∧ a < 560) ∧ ¬ (i < 0 ∨ (sh0 n a).2.1 ≤ i.toNatClampNeg) then ((sh0 n a).2.2[i.toNatClampNeg]?).bind _ else none) = _
  rw [if_pos ⟨h1, ⟨h9, h2⟩, fun h => h.elim (fun q => Int32.not_lt.mpr h3 q) (fun q => Nat.not_le.mpr h4 q)⟩, h5]
  rfl
theorem wp_iw {a : Nat} {i v : Int32} (hf : fetch M pc = some (len, idx, .iastore)) (h1 : (sh0 n a).1 = 20) (h9 : 9 ≤ a) (h2 : a < 560) (h3 : 0 ≤ i) (h4 : i.toNatClampNeg < (sh0 n a).2.1) : wp d M pc ls (.int v :: .int i :: .ref a :: st) (mk n I L x) Φ ↔ wp d M (pc + len) ls st (mk n (wrI I a i.toNatClampNeg v) L x) Φ := by
  refine wp_go hf rfl rfl ?_
  show (if (sh0 n a).1 = 20 ∧ (9 ≤ a ∧ a < 560) ∧ ¬ (i < 0 ∨ (sh0 n a).2.1 ≤ i.toNatClampNeg) then pnx _ _ _ _ else none) = _
  rw [if_pos ⟨h1, ⟨h9, h2⟩, fun h => h.elim (fun q => Int32.not_lt.mpr h3 q) (fun q => Nat.not_le.mpr h4 q)⟩]
  rfl
theorem wp_lw {a : Nat} {i : Int32} {v : Int64} (hf : fetch M pc = some (len, idx, .lastore)) (h1 : (sh0 n a).1 = 21) (h9 : 9 ≤ a) (h2 : a < 560) (h3 : 0 ≤ i) (h4 : i.toNatClampNeg < (sh0 n a).2.1) : wp d M pc ls (.long v :: .int i :: .ref a :: st) (mk n I L x) Φ ↔ wp d M (pc + len) ls st (mk n I (wrL L a i.toNatClampNeg v) x) Φ := by
  refine wp_go hf rfl rfl ?_
  show (if (sh0 n a).1 = 21 ∧ (9 ≤ a ∧ a < 560) ∧ ¬ (i < 0 ∨ (sh0 n a).2.1 ≤ i.toNatClampNeg) then pnx _ _ _ _ else none) = _
  rw [if_pos ⟨h1, ⟨h9, h2⟩, fun h => h.elim (fun q => Int32.not_lt.mpr h3 q) (fun q => Nat.not_le.mpr h4 q)⟩]
  rfl
theorem wp_an {a : Nat} (hf : fetch M pc = some (len, idx, .arraylength)) (h1 : (sh0 n a).1 = 20 ∨ (sh0 n a).1 = 25 ∧ a < 9 ∨ ((sh0 n a).1 = 23 ∨ (sh0 n a).1 = 24) ∧ 9 ≤ a) (h2 : a < 560) : wp d M pc ls (.ref a :: st) (mk n I L x) Φ ↔ wp d M (pc + len) ls (.int (Int32.ofNat (sh0 n a).2.1) :: st) (mk n I L x) Φ := by
  refine wp_go hf rfl rfl ?_
  show (if ((sh0 n a).1 = 20 ∨ (sh0 n a).1 = 25 ∧ a < 9 ∨ ((sh0 n a).1 = 23 ∨ (sh0 n a).1 = 24) ∧ 9 ≤ a) ∧ a < 560 then pnx _ _ _ _ else none) = _
  rw [if_pos ⟨h1, h2⟩]
  rfl
def cpI (I : Nat → Nat → Int32) (b sp a dp m : Nat) : Nat → Nat → Int32 := upR I a (va_cpy (I b) (I a) sp dp m)
theorem wp_cp {a b : Nat} {m dp sp : Int32} (hf : fetch M pc = some (len, idx, .monitorenter)) (h1 : (sh0 n a).1 = 20) (h2 : (sh0 n b).1 = 20) (h3 : 9 ≤ a) (h4 : a < 560) (h5 : 9 ≤ b ∨ b = 6) (h6 : b < 560) (h7 : ¬ sp < 0) (h8 : ¬ dp < 0) (h9 : ¬ m < 0) (h10 : sp.toNatClampNeg + m.toNatClampNeg ≤ (sh0 n b).2.1) (h11 : dp.toNatClampNeg + m.toNatClampNeg ≤ (sh0 n a).2.1) (h12 : st.length ≤ 16) :
    wp d M pc ls (.int m :: .int dp :: .ref a :: .int sp :: .ref b :: st) (mk n I L x) Φ ↔ wp d M (pc + len) ls st (mk n (cpI I b sp.toNatClampNeg a dp.toNatClampNeg m.toNatClampNeg) L x) Φ := by
  refine wp_go hf rfl rfl ?_
  show (if (sh0 n a).1 = 20 ∧ (sh0 n b).1 = 20 ∧ (9 ≤ a ∧ a < 560) ∧ (9 ≤ b ∨ b = 6) ∧ b < 560 ∧ ¬ sp < 0 ∧ ¬ dp < 0 ∧ ¬ m < 0 ∧ sp.toNatClampNeg + m.toNatClampNeg ≤ (sh0 n b).2.1 ∧ dp.toNatClampNeg + m.toNatClampNeg ≤ (sh0 n a).2.1 ∧ st.length ≤ 16 then pnx _ _ _ _ else none) = _
  rw [if_pos ⟨h1, h2, ⟨h3, h4⟩, h5, h6, h7, h8, h9, h10, h11, h12⟩]
  rfl
/-- calls -/
theorem take_rev {a b : List Value} {m : Nat} (h : a.length = m) : (a.reverse ++ b).take m = a.reverse := by
  rw [← h, ← List.length_reverse]
  simp
theorem drop_rev {a b : List Value} {m : Nat} (h : a.length = m) : (a.reverse ++ b).drop m = b := by
  rw [← h, ← List.length_reverse]
  simp
theorem wp_cs {M' : Nat} {as : List Value} (hf : fetch M pc = some (len, idx, .invokestatic M')) (hk : mKi M' = 0) (hM : Nat.blt M' 362 = true) (ha : as.all okArg = true) (hn : as.length = mNa M') (hl : st.length ≤ 16) : wp (d + 1) M pc ls (as.reverse ++ st) μ Φ ↔ wpc d M' as μ (kont d M pc len ls st Φ) := by
  refine wp_call hf ?_
  have e1 : (as.reverse ++ st).take (mNa M') = as.reverse := by rw [← hn, ← List.length_reverse]; simp
  have e2 : (as.reverse ++ st).drop (mNa M') = st := by rw [← hn, ← List.length_reverse]; simp
  unfold pcl
  dsimp only
  rw [e1, e2, if_pos ⟨by rw [List.length_append, List.length_reverse]; omega, hl, hk, hM, by rw [List.all_reverse]; exact ha⟩, List.reverse_reverse]
theorem wp_cv {M' : Nat} {as : List Value} (hf : fetch M pc = some (len, idx, .invokevirtual M')) (hk : mKi M' = 1) (hM : Nat.blt M' 362 = true) (ha : as.all okArg = true) (hn : as.length + 1 = mNa M') (hl : st.length ≤ 16) (h1 : (sh0 n c).1 = mOwn M') (h2 : c < 560) : wp (d + 1) M pc ls (as.reverse ++ .ref c :: st) (mk n I L x) Φ ↔ wpc d M' (.ref c :: as) (mk n I L x) (kont d M pc len ls st Φ) := by
  refine wp_call hf ?_
  have e0 : as.reverse ++ .ref c :: st = (Value.ref c :: as).reverse ++ st := by simp
  have e1 := take_rev (b := st) (show (Value.ref c :: as).length = mNa M' from hn)
  have e2 := drop_rev (b := st) (show (Value.ref c :: as).length = mNa M' from hn)
  rw [e0]
  unfold pcl
  dsimp only
  rw [e1, e2, if_pos ⟨by rw [List.length_append, List.length_reverse, List.length_cons]; omega, hl, hk, hM, by rw [List.all_reverse]; exact ha, by rw [List.reverse_reverse]; show ((sh0 n c).1 == mOwn M' && Nat.blt c 560) = true; rw [h1]; simpa using h2⟩, List.reverse_reverse]
theorem hnd_small {k9 : Nat} (h : Nat.blt M 330 = true) : hnd M pc k9 = none := by
  unfold hnd
  have h9 : ∀ q ∈ htab, 330 ≤ q.1 := by decide
  rw [List.find?_eq_none.mpr]
  · rfl
  · intro q hq
    have := h9 q hq
    have h8 : M < 330 := by simpa using h
    simp
    omega
theorem kont_v {v : Value} : kont d M pc len ls st Φ (.inl (some v)) μ ↔ wp (d + 1) M (pc + len) ls (v :: st) μ Φ := Iff.rfl
theorem kont_n : kont d M pc len ls st Φ (.inl none) μ ↔ wp (d + 1) M (pc + len) ls st μ Φ := Iff.rfl
theorem kont_x {k9 : Nat} (h : Nat.blt M 330 = true) : kont d M pc len ls st Φ (.inr k9) μ ↔ Φ (.inr k9) μ := by
  show (match hnd M pc k9 with
    | some v => Φ (.inl (some (.int v))) μ
    | none => Nat.blt M 330 = true ∧ Φ (.inr k9) μ) ↔ _
  rw [hnd_small h]
  exact ⟨fun h => h.2, fun h2 => ⟨h, h2⟩⟩
/-- ends -/
theorem wp_ri {v : Int32} {ty : FieldType} (hf : fetch M pc = some (len, idx, .ireturn)) (hr : mRet M = some ty) : wp d M pc ls [.int v] μ Φ ↔ Φ (.inl (some (narrow ty (.int v)))) μ := by
  refine wp_fin (r := (.inl (some (narrow ty (.int v))), μ)) hf rfl ?_
  unfold pfin
  dsimp only
  rw [hr]
theorem wp_rl {v : Int64} (hf : fetch M pc = some (len, idx, .lreturn)) (hr : mRet M = some .long) : wp d M pc ls [.long v] μ Φ ↔ Φ (.inl (some (.long v))) μ := by
  refine wp_fin (r := (.inl (some (.long v)), μ)) hf rfl ?_
  unfold pfin
  dsimp only
  rw [hr]
theorem wp_rv (hf : fetch M pc = some (len, idx, .return_)) (hr : mRet M = none) : wp d M pc ls [] μ Φ ↔ Φ (.inl none) μ := by
  refine wp_fin (r := (.inl none, μ)) hf rfl ?_
  unfold pfin
  dsimp only
  rw [hr]
theorem wp_th {k9 : Nat} (hf : fetch M pc = some (len, idx, .ret k9)) (h1 : x + 1 ≤ 600) (h2 : st.length ≤ 16) : wp d M pc ls st (mk n I L x) Φ ↔ Φ (.inr k9) (mk n I L (x + 1)) := by
  refine wp_fin (r := (.inr k9, mk n I L (x + 1))) hf rfl ?_
  show (if x + 1 ≤ capX ∧ st.length ≤ 16 then _ else none) = _
  rw [if_pos ⟨h1, h2⟩]
  rfl
end Rw
def NL (v : Value) : Prop := isLo v = false
theorem lo_i (v : Int32) : NL (.int v) := rfl
theorem lo_r (v : Nat) : NL (.ref v) := rfl
theorem lo_n : NL noV := rfl
def nb (v : Int32) : Int32 := v &&& 1
