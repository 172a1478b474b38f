/-! WHAT HOLDS IN EVERY INVOCATION: words of the tables, constants of the old heap, room -/
def kOk (q : Cond) : Bool := match q with
  | .fieldLinkNest .. => true
  | .methodLinkNest .. => true
  | q => goodWord q || (q.onTables && q.keepsFace)
theorem kOk_at {q : Cond} {A A' : Array Value} {s U : State} (hW : s.WarmedH U.vm) (h : kOk q = true) (hw : q.before A s = true) : q.before A' U = true := by
  by_cases hg : goodWord q = true
  · exact word_at hW (good_of_word hg) hw
  · by_cases hf : (q.onTables && q.keepsFace) = true
    · simp only [Bool.and_eq_true] at hf
      have h1 : q.before A (s.setVm U.vm) = true := Cond.before_shiftedFace (State.Shifted.of_warmed hW) q hf.2 hw
      exact va_tabs hf.1 (rfl : (s.setVm U.vm).vm = U.vm) h1
    · have hno : (goodWord q || (q.onTables && q.keepsFace)) = false := by
        simp only [Bool.not_eq_true] at hg hf
        rw [hg, hf]; rfl
      cases q with
      | fieldLinkNest a i b n d hst => exact va_Nw.use rfl (va_Nw.warmF hW (va_Nw.of rfl hw))
      | methodLinkNest a i x hst => exact va_Nw.use rfl (va_Nw.warmM hW (va_Nw.of rfl hw))
      | _ => exact absurd (hno.symm.trans h) (by decide)
def adr (G : GP) (c : Nat) : Nat := (gAd G c).getD 0
def tysOf (G : GP) : List (ClassId × FieldType) := [(gA G 20, .int), (gA G 21, .long), (gA G 22, .array .int), (gA G 23, .object "AlarmRule$Morning"), (gA G 24, .object "AlarmRule$Works")]
def sT (i : Nat) : String := match i with
  | 0 => "sleeper clock near socks"
  | 1 => "loud near depth sock hour day awake spring sleeper least most"
  | _ => "set let wind sock move snooze hour again"
def sLen : List Nat := [24, 61, 40]
def sByt : List (List Int32) := [[115, 108, 101, 101, 112, 101, 114, 32, 99, 108, 111, 99, 107, 32, 110, 101, 97, 114, 32, 115, 111, 99, 107, 115], [108, 111, 117, 100, 32, 110, 101, 97, 114, 32, 100, 101, 112, 116, 104, 32, 115, 111, 99, 107, 32, 104, 111, 117, 114, 32, 100, 97, 121, 32, 97, 119, 97, 107, 101, 32, 115, 112, 114, 105, 110, 103, 32, 115, 108, 101, 101, 112, 101, 114, 32, 108, 101, 97, 115, 116, 32, 109, 111, 115, 116], [115, 101, 116, 32, 108, 101, 116, 32, 119, 105, 110, 100, 32, 115, 111, 99, 107, 32, 109, 111, 118, 101, 32, 115, 110, 111, 111, 122, 101, 32, 104, 111, 117, 114, 32, 97, 103, 97, 105, 110]]
/-- arrays of arrays of ints can be made -/
def va_AOI (U : State) : Prop := ∃ comp c k, U.vm.findClass (FieldType.array FieldType.int).toString = some comp ∧ (U.vm.classes.findIdx? fun (x : Class) => match x.kind with | .array component _ => component == comp | _ => false) = some c ∧ U.vm.classes[c]? = some k ∧ k.kind = .array comp (.array .int) ∧ U.vm.findClass ("[" ++ (FieldType.array FieldType.int).toString) = some c
theorem va_AOI.of {A : Array Value} {U : State} (h : (Cond.arrayOver (.array .int)).before A U = true) : va_AOI U := arrayOverA_spec h
theorem va_AOI.use {A : Array Value} {U : State} (h : va_AOI U) : (Cond.arrayOver (.array .int)).before A U = true := by
  obtain ⟨comp, c, k, h1, h2, h3, h4, h5⟩ := h
  unfold Cond.before Cond.holds
  simp only [Cond.value]
  rw [h1, Option.bind_some]
  refine (congrArg (fun o : Option Nat => (o.bind (fun c => (U.vm.classes[c]?).map fun (k : Class) => match k.kind with | .array _ ty => decide (ty = FieldType.array FieldType.int) && decide (U.vm.findClass ("[" ++ (FieldType.array FieldType.int).toString) = some c) | _ => false) == some true)) h2).trans ?_
  simp [h3, h4, h5]
theorem va_AOI.moved {u U : State} (hvm : u.vm.Alike U.vm) (h : va_AOI u) : va_AOI U := by
  obtain ⟨comp, c, k, h1, h2, h3, h4, h5⟩ := h
  obtain ⟨k', hk', he⟩ := hvm.2.2 _ _ h3
  refine ⟨comp, c, k', by rw [hvm.findClass]; exact h1, ?_, hk', by rw [he]; exact h4, by rw [hvm.findClass]; exact h5⟩
  have hb : u.vm.bare = U.vm.bare := by first | exact hvm.bare_eq | exact hvm.bare_eq.symm
  exact (va_idx_bare U.vm comp).symm.trans ((congrArg (fun vm : Vm => vm.classes.findIdx? fun (x : Class) => match x.kind with | .array component _ => component == comp | _ => false) hb.symm).trans ((va_idx_bare u.vm comp).trans h2))
def CS (G : GP) (s : State) : Prop :=
  vk_S 3 sLen sByt (adr G) (fun i => adr G (i + 3)) (gN G) s s.heap ∧
  (vk_R "AlarmRule$Republic" 62 (sT 0) (adr G 0) s ∧ vk_R "AlarmRule$Law" 78 (sT 1) (adr G 1) s ∧ vk_R "AlarmRule$Chores" 54 (sT 2) (adr G 2) s) ∧
  ((∃ a, vk_R "AlarmRule" 426 "no such sleeper" a s) ∧ (∃ a, vk_R "AlarmRule" 431 "no such clock" a s) ∧ ∃ a, vk_R "AlarmRule" 435 "no such argument" a s) ∧
  (va_T .int (adr G 6) 9 (fun j => .int (gI G 6 j)) (gN G) s s.heap ∧ va_Z "AlarmRule$Law" "PLAIN" "[I" (.ref (adr G 6)) (gN G) s s.heap) ∧
  va_Z "java/lang/String" "COMPACT_STRINGS" "Z" (.int 1) (gN G) s s.heap ∧
  va_Z "jdk/internal/util/Preconditions" "SIOOBE_FORMATTER" "Ljava/util/function/BiFunction;" (va_rf (gAd G 8)) (gN G) s s.heap ∧
  (va_X (adr G 7) (gS G 7).2.1 (gI G 7) s s.heap ∧ adr G 7 < gBs G) ∧
  (vx_Zq Jvm.Bundle.tN "UNASSIGNED_STACK" Jvm.Bundle.steD (gN G) s s.heap ∧ vx_Zq Jvm.Bundle.tN "SUPPRESSED_SENTINEL" Jvm.Bundle.listD (gN G) s s.heap) ∧
  (va_AO "AlarmRule$Morning" s ∧ va_AO "AlarmRule$Works" s ∧ va_AOI s ∧ va_Nc "java/lang/IllegalArgumentException" "java/util/NoSuchElementException" s)
/-- the old things as the pure memory has them -/
def CG (G : GP) : Prop := gTop G ∧ (∀ i, i < 3 → gS G i = (13, 2, [.ref (i + 3), .int 0]) ∧ gI G i 1 = 0 ∧ gS G (i + 3) = (25, sLen.getD i 0, []) ∧ ∀ j, gI G (i + 3) j = (sByt.getD i []).getD j 0) ∧ gS G 6 = (20, 9, []) ∧ (gS G 7).1 = 20 ∧ (gS G 7).2.1 < 2 ^ 31 ∧ (gS G 8).1 = 99
def ES (G : GP) (s : State) : Prop := (∀ q ∈ lw_tbl, kOk q = true → q.before #[] s = true) ∧ va_K (gC G, gF G) vwCl (tysOf G) s ∧ gBs G ≤ s.heap.size ∧ (∀ q, q < gBs G → s.heap[q]? = (gH G)[q]?) ∧ CS G s
theorem ES.w {G : GP} {s : State} (h : ES G s) {q : Cond} (hq : q ∈ lw_tbl) (hk : kOk q = true) (A : Array Value) : q.before A s = true := kOk_at (State.WarmedH.refl s) hk (h.1 q hq hk)
theorem ES.moved {G : GP} {s U : State} (h : ES G s) (hW : s.WarmedH U.vm) (hz : s.heap.size ≤ U.heap.size) (ho : ∀ q, q < gBs G → U.heap[q]? = (gH G)[q]?) : ES G U := by
  obtain ⟨h1, h2, h3, h4, c1, ⟨c2, c3, c4⟩, ⟨⟨a5, c5⟩, ⟨a6, c6⟩, a7, c7⟩, ⟨c8, c9⟩, c10, c11, ⟨c12, c13⟩, ⟨c14, c15⟩, c16, c17, c18, c19⟩ := h
  have hk : ∀ a : Nat, a < s.heap.size → ¬ gN G a → U.heap[a]? = s.heap[a]? := fun a _ hn => by
    have ha : a < gBs G := Nat.not_le.mp hn
    rw [ho a ha, h4 a ha]
  have ha := hW.alike
  refine ⟨fun q hq hkq => kOk_at hW hkq (h1 q hq hkq), va_K.moved ha h2, by omega, ho, (c1.kept hk).moved ha, ⟨c2.warm hW, c3.warm hW, c4.warm hW⟩, ⟨⟨a5, c5.warm hW⟩, ⟨a6, c6.warm hW⟩, a7, c7.warm hW⟩, ⟨(c8.kept hk).moved ha, (c9.kept hk).moved ha⟩, (c10.kept hk).moved ha, (c11.kept hk).moved ha, ⟨va_X.moved ha (c12.kept (hk _ (by omega) (Nat.not_le.mpr c13))), c13⟩, ⟨(c14.kept hk).moved ha, (c15.kept hk).moved ha⟩, c16.moved ha, c17.moved ha, c18.moved ha, c19.moved ha⟩
def RoomOK (R : Room) (cells slots : Nat) (μ : PM) (d : Nat) : Prop := cells + (capT - μ.2.2.2.1) + (capX - μ.2.2.2.2) ≤ R.cells ∧ slots + 1500 * (capT - μ.2.2.2.1) + 6 * (capX - μ.2.2.2.2) ≤ R.slots ∧ d + 8 ≤ R.frames ∧ 80 * d + 200 ≤ R.locals ∧ μ.2.2.2.1 ≤ capT ∧ μ.2.2.2.2 ≤ capX
/-- the method that is walked is M -/
def MC (p : Program) (G : GP) (M : Nat) (s : State) (m : MethodId) (meth : Method) (c : Code) : Prop := p.tables.exec = Jvm.exec ∧ c.code = mCd M ∧ c.maxLocals = mMax M ∧ meth.sig.returnType = mRet M ∧ meth.locks = false ∧ s.vm.findClass (cnS (mOwn M)) = some m.cls ∧ (mKi M = 2 → meth.name = "<init>") ∧ c.exceptionTable.toList = tableOf (hwOf M) ∧ ES G s
