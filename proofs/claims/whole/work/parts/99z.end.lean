/-! THE CLAIM OUT OF THE RUN OF THE PURE MACHINE -/
def GN : Cond := Jvm.Cond.and given_1 narrow_1
def tmS (i : Nat) : Term := match i with
  | 0 => .string "AlarmRule$Republic" 62
  | 1 => .string "AlarmRule$Law" 78
  | _ => .string "AlarmRule$Chores" 54
def elE (i j : Nat) : Cond := .eq (.elem (.field (tmS i) "java/lang/String" "value" "[B") (.int (Int32.ofNat j))) (.int ((sByt.getD i []).getD j 0))
def strL (i : Nat) : List Cond := [.exactly (tmS i) "java/lang/String", .eq (.field (tmS i) "java/lang/String" "coder" "B") (.int 0), .arrayOf (.field (tmS i) "java/lang/String" "value" "[B") .byte, .eq (.length (.field (tmS i) "java/lang/String" "value" "[B")) (.int (Int32.ofNat (sLen.getD i 0)))] ++ (List.range (sLen.getD i 0)).map (elE i)
def plE (j : Nat) : Cond := .eq (.elem (.static "AlarmRule$Law" "PLAIN" "[I") (.int (Int32.ofNat j))) (.int (plain j))
def ysT : List Cond := [.initialized "java/lang/Throwable", .laysStatic "AlarmRule$Law" "PLAIN" "[I", .arrayOver (.object "AlarmRule$Morning"), .arrayOver (.object "AlarmRule$Works"), .laysStatic "java/lang/Throwable" "UNASSIGNED_STACK" "[Ljava/lang/StackTraceElement;", .laysStatic "java/lang/Throwable" "SUPPRESSED_SENTINEL" "Ljava/util/List;", .stringRef "AlarmRule" 435 "no such argument", .stringRef "AlarmRule$Republic" 62 (sT 0), .laysStatic "java/lang/String" "COMPACT_STRINGS" "Z", .laysStatic "jdk/internal/util/Preconditions" "SIOOBE_FORMATTER" "Ljava/util/function/BiFunction;", .stringRef "AlarmRule$Law" 78 (sT 1), .stringRef "AlarmRule$Chores" 54 (sT 2), .stringRef "AlarmRule" 426 "no such sleeper", .stringRef "AlarmRule" 431 "no such clock", .arrayOver (.array .int)]
set_option maxRecDepth 100000 in
theorem ysT_ok : scn (List.zip [110, 103, 112, 2, 371, 1, 10, 48, 18, 15, 134, 39, 177, 25, 314] ysT) lw_tbl = true := by decide +kernel
theorem ysT_in : ∀ e ∈ ysT, e ∈ lw_tbl := fun e h => scn_in ysT_ok (by decide +kernel) h
def ygT : List Cond := [.arrayOf (.static "AlarmRule$Law" "PLAIN" "[I") .int, .eq (.length (.static "AlarmRule$Law" "PLAIN" "[I")) (.int (Int32.ofNat 9)), .isRef (.static "java/lang/Throwable" "UNASSIGNED_STACK" "[Ljava/lang/StackTraceElement;"), .isRef (.static "java/lang/Throwable" "SUPPRESSED_SENTINEL" "Ljava/util/List;"), .eq (.static "java/lang/String" "COMPACT_STRINGS" "Z") (.int 1), .isRef (.static "jdk/internal/util/Preconditions" "SIOOBE_FORMATTER" "Ljava/util/function/BiFunction;"), .not (.castable "java/lang/IllegalArgumentException" "java/util/NoSuchElementException"), .exactly (.string "AlarmRule" 435) "java/lang/String", .not (.eq (tmS 0) (tmS 1)), .not (.eq (tmS 0) (tmS 2)), .not (.eq (tmS 1) (tmS 2)), .exactly (.string "AlarmRule" 426) "java/lang/String", .exactly (.string "AlarmRule" 431) "java/lang/String"]
set_option maxRecDepth 100000 in
theorem ygT_ok : scn (List.zip [5, 0, 9, 0, 0, 0, 30, 32, 114, 45, 0, 0, 22] ygT) (flatC GN) = true := by decide +kernel
theorem ygT_in : ∀ e ∈ ygT, e ∈ flatC GN := fun e h => scn_in ygT_ok (by decide +kernel) h
set_option maxRecDepth 100000 in
theorem sl_0 : scn (List.zip (103 :: List.replicate 27 0) (strL 0)) (flatC GN) = true := by decide +kernel
set_option maxRecDepth 100000 in
theorem sl_1 : scn (List.zip (132 :: List.replicate 64 0) (strL 1)) (flatC GN) = true := by decide +kernel
set_option maxRecDepth 100000 in
theorem sl_2 : scn (List.zip (199 :: List.replicate 43 0) (strL 2)) (flatC GN) = true := by decide +kernel
set_option maxRecDepth 100000 in
theorem pl_9 : scn (List.zip (7 :: List.replicate 8 0) ((List.range 9).map plE)) (flatC GN) = true := by decide +kernel
theorem sl_in {i : Nat} (hi : i < 3) : ∀ w ∈ strL i, w ∈ flatC GN := by
  have : i = 0 ∨ i = 1 ∨ i = 2 := by omega
  rcases this with rfl | rfl | rfl
  · exact fun w h => scn_in sl_0 (by decide +kernel) h
  · exact fun w h => scn_in sl_1 (by decide +kernel) h
  · exact fun w h => scn_in sl_2 (by decide +kernel) h
def mkG (adK adV : Nat → Nat) (t6 b : Nat) (a8 : Option Nat) (H : Heap) (dK : Nat → ClassId × (Nat → Nat)) (gAf : Nat → ClassId) (L : Nat) (xs : Nat → Int32) : GP := (fun c => if c < 3 then some (adK c) else if c < 6 then some (adV (c - 3)) else if c = 6 then some t6 else if c = 7 then some b else if c = 8 then a8 else some (H.size + (c - 9)), H.size, H, fun c => (dK c).1, fun c => (dK c).2, gAf, (sub7 (20, L, []) xs b9).1, (sub7 (20, L, []) xs b9).2.1)
section En
variable {adK adV : Nat → Nat} {t6 b L : Nat} {a8 : Option Nat} {H : Heap} {dK : Nat → ClassId × (Nat → Nat)} {gAf : Nat → ClassId} {xs : Nat → Int32}
theorem adr_K {i : Nat} (h : i < 3) : adr (mkG adK adV t6 b a8 H dK gAf L xs) i = adK i := by
  show (if i < 3 then some (adK i) else _).getD 0 = _
  rw [if_pos h]
  rfl
theorem adr_V {i : Nat} (h : i < 3) : adr (mkG adK adV t6 b a8 H dK gAf L xs) (i + 3) = adV i := by
  show (if i + 3 < 3 then some (adK (i + 3)) else if i + 3 < 6 then some (adV (i + 3 - 3)) else if i + 3 = 6 then some t6 else if i + 3 = 7 then some b else if i + 3 = 8 then a8 else some (H.size + (i + 3 - 9))).getD 0 = _
  rw [if_neg (by omega), if_pos (by omega), Nat.add_sub_cancel]
  rfl
theorem top_G : gTop (mkG adK adV t6 b a8 H dK gAf L xs) := by
  refine ⟨rfl, fun c hc => ?_, fun c hc => ?_⟩
  · show (if c < 3 then some (adK c) else if c < 6 then some (adV (c - 3)) else if c = 6 then some t6 else if c = 7 then some b else if c = 8 then a8 else some (H.size + (c - 9))) = some (H.size + (c - 9))
    rw [if_neg (by omega), if_neg (by omega), if_neg (by omega), if_neg (by omega), if_neg (by omega)]
  · show ∃ a, (if c < 3 then some (adK c) else if c < 6 then some (adV (c - 3)) else if c = 6 then some t6 else if c = 7 then some b else if c = 8 then a8 else some (H.size + (c - 9))) = some a
    by_cases h3 : c < 3
    · exact ⟨_, if_pos h3⟩
    · rw [if_neg h3]
      by_cases h6 : c < 6
      · exact ⟨_, if_pos h6⟩
      · rw [if_neg h6]
        by_cases h7 : c = 6
        · exact ⟨_, if_pos h7⟩
        · rw [if_neg h7, if_pos (by omega)]
          exact ⟨_, rfl⟩
theorem cg_G (hL : L ≤ 5120) : CG (mkG adK adV t6 b a8 H dK gAf L xs) := by
  refine ⟨top_G, fun i hi => ?_, rfl, rfl, ?_, rfl⟩
  · have : i = 0 ∨ i = 1 ∨ i = 2 := by omega
    rcases this with rfl | rfl | rfl
    · exact ⟨rfl, rfl, rfl, fun _ => rfl⟩
    · exact ⟨rfl, rfl, rfl, fun _ => rfl⟩
    · exact ⟨rfl, rfl, rfl, fun _ => rfl⟩
  · show L < 2 ^ 31
    omega
theorem rel_G : RelH (mkG adK adV t6 b a8 H dK gAf L xs) (sub7 (20, L, []) xs b9) H := by
  refine ⟨fun k q hq => ?_, Nat.le_refl _, fun _ _ => rfl, Nat.le_refl 9, Nat.le_refl _, fun _ => rfl, fun c _ => ⟨rfl, rfl⟩⟩
  have e : wsOf (mkG adK adV t6 b a8 H dK gAf L xs) (sub7 (20, L, []) xs b9) = [] := rfl
  rw [e] at hq
  simp at hq
end En
theorem arrT {s : State} {c : ClassId} {k : Class} {comp : ClassId} {ty : FieldType} (h1 : s.vm.classes[c]? = some k) (h2 : k.kind = .array comp ty) : ArrOfT s c ty := fun n z => ⟨(fun k h => by cases h), k, h1, comp, h2⟩
set_option maxHeartbeats 4000000 in
/-- the old things of the start, as the pure memory has them -/
theorem es_start {s : State} {b L : Nat} {xs : Nat → Int32} (hts : ∀ w ∈ lw_tbl, w.before #[Value.ref b] s = true) (hgv : GN.before #[Value.ref b] s = true) (hX : va_X b L xs s s.heap) (hbl : b < s.heap.size) : ∃ adK adV t6 a8 dK gAf, ES (mkG adK adV t6 b a8 s.heap dK gAf L xs) s := by
  have hA : ∀ a : Nat, a < s.heap.size → ¬ (fun q : Nat => s.heap.size ≤ q) a := fun a h => Nat.not_le.mpr h
  have hg : ∀ w ∈ flatC GN, w.before #[Value.ref b] s = true := flat_of_before _ hgv
  have hini : ∀ o, o < 21 → (Cond.initialized (cnS o)).before #[Value.ref b] s = true := fun o ho => by
    have h1 := List.all_eq_true.mp mi_all o (List.mem_range.mpr ho)
    exact hts _ (miT_in o (by simpa using h1))
  have hk : ∀ ci : Nat, ∃ q : ClassId × (Nat → Nat), ∀ r, vwCl[ci]? = some r → u_Kn s r.1 r.2.1 r.2.2 q.1 q.2 := by
    intro ci
    cases hr : vwCl[ci]? with
    | none => exact ⟨(0, fun _ => 0), fun r h => nomatch h⟩
    | some r =>
      have h1 := List.all_eq_true.mp in_all ci (List.mem_range.mpr (vw_lt hr))
      have h2 := inT_in ci (by simpa using h1)
      unfold inC at h2
      rw [hr] at h2
      obtain ⟨cC, iS, h⟩ := u_known (C := r.1) (T := r.2.1) (N := r.2.2) (n := r.2.2) hts (fun w hw => (ly_in hr w hw).1) (hts _ h2)
      exact ⟨(cC, iS), fun r' h' => by cases h'; exact h⟩
  obtain ⟨dK, hdK⟩ := Classical.axiomOfChoice hk
  obtain ⟨c20, k20, p20, i1, i2, i3⟩ := Cond.arrayClass_spec (args := #[Value.ref b]) (first := s) (o := none) (s := s) (idx := []) (type := .int) (hts (.arrayClass .int) (xxT_in _ (List.mem_of_getElem? (i := 4) rfl)))
  obtain ⟨c21, k21, p21, l1, l2, l3⟩ := Cond.arrayClass_spec (args := #[Value.ref b]) (first := s) (o := none) (s := s) (idx := []) (type := .long) (hts (.arrayClass .long) (xxT_in _ (List.mem_of_getElem? (i := 14) rfl)))
  have hoI := (hts (.arrayOver (.array .int)) (ysT_in _ (List.mem_of_getElem? (i := 14) rfl)))
  have hoM := (hts (.arrayOver (.object "AlarmRule$Morning")) (ysT_in _ (List.mem_of_getElem? (i := 2) rfl)))
  have hoW := (hts (.arrayOver (.object "AlarmRule$Works")) (ysT_in _ (List.mem_of_getElem? (i := 3) rfl)))
  obtain ⟨p22, c22, k22, a1, -, a3, a4, a5⟩ := arrayOverA_spec (args := #[Value.ref b]) (first := s) (o := none) (s := s) (idx := []) (t := .int) hoI
  obtain ⟨p23, c23, k23, m1, -, m3, m4, m5⟩ := Cond.arrayOver_spec (args := #[Value.ref b]) (first := s) (o := none) (s := s) (idx := []) (n := "AlarmRule$Morning") hoM
  obtain ⟨p24, c24, k24, w1, -, w3, w4, w5⟩ := Cond.arrayOver_spec (args := #[Value.ref b]) (first := s) (o := none) (s := s) (idx := []) (n := "AlarmRule$Works") hoW
  have hstr : ∀ i, i < 3 → ∀ w ∈ strL i, w.before #[Value.ref b] s = true := fun i hi w hw => hg w (sl_in hi w hw)
  have n01 := (hg (.not (.eq (tmS 0) (tmS 1))) (ygT_in _ (List.mem_of_getElem? (i := 8) rfl)))
  have n02 := (hg (.not (.eq (tmS 0) (tmS 2))) (ygT_in _ (List.mem_of_getElem? (i := 9) rfl)))
  have n12 := (hg (.not (.eq (tmS 1) (tmS 2))) (ygT_in _ (List.mem_of_getElem? (i := 10) rfl)))
  obtain ⟨adK, adV, hS, hE⟩ := vk_Sof (args := #[Value.ref b]) (s := s) (N := 3) (tm := tmS) (len := sLen) (byt := sByt) (A := fun q : Nat => s.heap.size ≤ q)
    (fun i hi => by
      have : i = 0 ∨ i = 1 ∨ i = 2 := by omega
      rcases this with rfl | rfl | rfl <;> decide)
    (fun i hi => hstr i hi _ (List.mem_append_left _ List.mem_cons_self))
    (fun i hi => hstr i hi _ (List.mem_append_left _ (List.mem_cons_of_mem _ List.mem_cons_self)))
    (fun i hi => hstr i hi _ (List.mem_append_left _ (List.mem_cons_of_mem _ (List.mem_cons_of_mem _ List.mem_cons_self))))
    (fun i hi => hstr i hi _ (List.mem_append_left _ (List.mem_cons_of_mem _ (List.mem_cons_of_mem _ (List.mem_cons_of_mem _ List.mem_cons_self)))))
    (fun i hi j hj => hstr i hi (elE i j) (List.mem_append_right _ (List.mem_map_of_mem (List.mem_range.mpr hj))))
    (fun i j hi hj hij => by
      have e1 : i = 0 ∨ i = 1 ∨ i = 2 := by omega
      have e2 : j = 0 ∨ j = 1 ∨ j = 2 := by omega
      rcases e1 with rfl | rfl | rfl <;> rcases e2 with rfl | rfl | rfl
      · exact absurd rfl hij
      · exact Or.inl n01
      · exact Or.inl n02
      · exact Or.inr n01
      · exact absurd rfl hij
      · exact Or.inl n12
      · exact Or.inr n02
      · exact Or.inr n12
      · exact absurd rfl hij) hA
  obtain ⟨t6, ht6, hT6⟩ := va_Tof (args := #[Value.ref b]) (s := s) (tm := (.static "AlarmRule$Law" "PLAIN" "[I")) (ty := .int) (N := 9) (f := fun j => .int (plain j)) (A := fun q : Nat => s.heap.size ≤ q) (by decide) (hg (.arrayOf (.static "AlarmRule$Law" "PLAIN" "[I") .int) (ygT_in _ (List.mem_of_getElem? (i := 0) rfl))) (va_eqt (hg (.eq (.length (.static "AlarmRule$Law" "PLAIN" "[I")) (.int (Int32.ofNat 9))) (ygT_in _ (List.mem_of_getElem? (i := 1) rfl)))) (fun j hj => va_eqt (hg (plE j) (scn_in pl_9 (by decide +kernel) (List.mem_map_of_mem (List.mem_range.mpr hj))))) hA
  have hZ6 := va_Zof (hts (.laysStatic "AlarmRule$Law" "PLAIN" "[I") (ysT_in _ (List.mem_of_getElem? (i := 1) rfl))) (hini 4 (by decide)) ht6 hA
  have hZc := va_Zof (hts (.laysStatic "java/lang/String" "COMPACT_STRINGS" "Z") (ysT_in _ (List.mem_of_getElem? (i := 8) rfl))) (hini 13 (by decide)) (va_eqt (hg (.eq (.static "java/lang/String" "COMPACT_STRINGS" "Z") (.int 1)) (ygT_in _ (List.mem_of_getElem? (i := 4) rfl)))) hA
  obtain ⟨v8, hv8, hr8⟩ := Cond.isRef_spec (args := #[Value.ref b]) (first := s) (o := none) (s := s) (idx := []) (hg (.isRef (.static "jdk/internal/util/Preconditions" "SIOOBE_FORMATTER" "Ljava/util/function/BiFunction;")) (ygT_in _ (List.mem_of_getElem? (i := 5) rfl)))
  have h8 : ∃ o, v8 = va_rf o := by
    cases v8 with
    | null => exact ⟨none, rfl⟩
    | ref a => exact ⟨some a, rfl⟩
    | _ => cases hr8
  obtain ⟨a8, rfl⟩ := h8
  have hZ8 := va_Zof (hts (.laysStatic "jdk/internal/util/Preconditions" "SIOOBE_FORMATTER" "Ljava/util/function/BiFunction;") (ysT_in _ (List.mem_of_getElem? (i := 9) rfl))) (hini 20 (by decide)) hv8 hA
  obtain ⟨x0, -, -, -, hx0, -⟩ := Cond.exactly_spec (args := #[Value.ref b]) (first := s) (o := none) (s := s) (idx := []) (hg (.exactly (.string "AlarmRule" 435) "java/lang/String") (ygT_in _ (List.mem_of_getElem? (i := 7) rfl)))
  obtain ⟨x1, -, -, -, hx1, -⟩ := Cond.exactly_spec (args := #[Value.ref b]) (first := s) (o := none) (s := s) (idx := []) (hg (.exactly (.string "AlarmRule" 426) "java/lang/String") (ygT_in _ (List.mem_of_getElem? (i := 11) rfl)))
  obtain ⟨x2, -, -, -, hx2, -⟩ := Cond.exactly_spec (args := #[Value.ref b]) (first := s) (o := none) (s := s) (idx := []) (hg (.exactly (.string "AlarmRule" 431) "java/lang/String") (ygT_in _ (List.mem_of_getElem? (i := 12) rfl)))
  refine ⟨adK, adV, t6, a8, dK, fun k => if k = 20 then c20 else if k = 21 then c21 else if k = 22 then c22 else if k = 23 then c23 else c24, fun q hq hkq => kOk_at (State.WarmedH.refl s) hkq (hts q hq), ⟨fun ci r hr => hdK ci r hr, fun k q hq => ?_⟩, Nat.le_refl _, fun _ _ => rfl, ?_⟩
  · have hk5 : k < 5 := (List.getElem?_eq_some_iff.mp hq).1
    have : k = 0 ∨ k = 1 ∨ k = 2 ∨ k = 3 ∨ k = 4 := by omega
    rcases this with rfl | rfl | rfl | rfl | rfl
    · cases hq; exact ⟨arrT i2 i3, i1⟩
    · cases hq; exact ⟨arrT l2 l3, l1⟩
    · cases hq; exact ⟨arrT a3 a4, a5⟩
    · cases hq; exact ⟨arrT m3 m4, k23, p23, m3, m4, m1, m5⟩
    · cases hq; exact ⟨arrT w3 w4, k24, p24, w3, w4, w1, w5⟩
  · refine ⟨⟨fun i hi => ?_, fun i j hi hj e => ?_⟩, ⟨vk_R.of (hts (.stringRef "AlarmRule$Republic" 62 (sT 0)) (ysT_in _ (List.mem_of_getElem? (i := 7) rfl))) (hE 0 (by decide)), vk_R.of (hts (.stringRef "AlarmRule$Law" 78 (sT 1)) (ysT_in _ (List.mem_of_getElem? (i := 10) rfl))) (hE 1 (by decide)), vk_R.of (hts (.stringRef "AlarmRule$Chores" 54 (sT 2)) (ysT_in _ (List.mem_of_getElem? (i := 11) rfl))) (hE 2 (by decide))⟩, ⟨⟨x1, vk_R.of (hts (.stringRef "AlarmRule" 426 "no such sleeper") (ysT_in _ (List.mem_of_getElem? (i := 12) rfl))) hx1⟩, ⟨x2, vk_R.of (hts (.stringRef "AlarmRule" 431 "no such clock") (ysT_in _ (List.mem_of_getElem? (i := 13) rfl))) hx2⟩, ⟨x0, vk_R.of (hts (.stringRef "AlarmRule" 435 "no such argument") (ysT_in _ (List.mem_of_getElem? (i := 6) rfl))) hx0⟩⟩, ⟨hT6, hZ6⟩, hZc, hZ8, ⟨hX, hbl⟩, ⟨vx_Zqof (hts (.laysStatic "java/lang/Throwable" "UNASSIGNED_STACK" "[Ljava/lang/StackTraceElement;") (ysT_in _ (List.mem_of_getElem? (i := 4) rfl))) (hts (.initialized "java/lang/Throwable") (ysT_in _ (List.mem_of_getElem? (i := 0) rfl))) (hg (.isRef (.static "java/lang/Throwable" "UNASSIGNED_STACK" "[Ljava/lang/StackTraceElement;")) (ygT_in _ (List.mem_of_getElem? (i := 2) rfl))) hA, vx_Zqof (hts (.laysStatic "java/lang/Throwable" "SUPPRESSED_SENTINEL" "Ljava/util/List;") (ysT_in _ (List.mem_of_getElem? (i := 5) rfl))) (hts (.initialized "java/lang/Throwable") (ysT_in _ (List.mem_of_getElem? (i := 0) rfl))) (hg (.isRef (.static "java/lang/Throwable" "SUPPRESSED_SENTINEL" "Ljava/util/List;")) (ygT_in _ (List.mem_of_getElem? (i := 3) rfl))) hA⟩, va_AO.of hoM, va_AO.of hoW, va_AOI.of hoI, va_Nc.of (hg (.not (.castable "java/lang/IllegalArgumentException" "java/util/NoSuchElementException")) (ygT_in _ (List.mem_of_getElem? (i := 6) rfl)))⟩
    · rw [adr_K hi]
      show _ ∧ _ ∧ va_OF "java/lang/String" "value" "[B" (.ref (adr (mkG adK adV t6 b a8 s.heap dK _ L xs) (i + 3))) (adK i) _ s s.heap ∧ va_T .byte (adr (mkG adK adV t6 b a8 s.heap dK _ L xs) (i + 3)) _ _ _ s s.heap
      rw [adr_V hi]
      exact hS.1 i hi
    · rw [adr_K hi, adr_K hj] at e
      exact hS.2 i j hi hj e
def R_law : String := "AlarmRuleLaw"
def lw_P (b : Addr) (xs : List Int32) (args : Array Value) (s : State) : Prop := args = #[.ref b] ∧ s.IntsAt b xs ∧ xs.length ≤ 5120 ∧ (Jvm.Cond.and given_1 narrow_1).before args s = true
def lw_Q (_ : Array Value) (s : State) (o : Outcome) (t : State) : Prop := o = .returned (some (.int 1)) ∧ Framed s o t [] 601024 7293034
def lw_Z (below : List Frame) (a : Array Value) (s : State) : State → Prop := fun t => ∃ o, t.status = .running ∧ Ended t below o ∧ lw_Q a s o t
def lw_At (p : Program) (s : State) (m : MethodId) (meth : Method) (c : Code) (b L : Nat) (xs : Nat → Int32) : Prop :=
  p.tables.exec = Jvm.exec ∧ c.code = code ∧ meth.sig.returnType = ret ∧ c.maxLocals = 8 ∧ s.vm.findClass R_law = some m.cls ∧ (∀ w ∈ lw_tbl, w.before #[Value.ref b] s = true) ∧ va_X b L xs s s.heap ∧ b < s.heap.size ∧ meth.locks = false ∧ (Jvm.Cond.and given_1 narrow_1).before #[Value.ref b] s = true ∧ c.exceptionTable.isEmpty = true
theorem mCd_law : code = mCd 362 := rfl
theorem mMax_law : mMax 362 = 8 := by decide +kernel
theorem mRet_law : ret = mRet 362 := rfl
theorem hw_law : tableOf (hwOf 362) = [] := by
  have h : hwOf 362 = [] := by decide +kernel
  rw [h]
  rfl
set_option maxHeartbeats 4000000 in
theorem whole_start {p : Program} {e : Env} {s : State} {m : MethodId} {below : List Frame} {meth : Method} {c : Code} (l : Launch) (hl : l.stackTraces = false) {b L : Nat} {xs : Nat → Int32} (hL : L ≤ 5120) (C0 : lw_At p s m meth c b L xs) : W p l e room_1 s m #[Value.ref b] below meth c s.heap [] 0 0 (lw_Z below #[Value.ref b] s) (entryFrame m ([Value.ref b] : List Value).toArray 8) := by
  obtain ⟨hx, hb, hr, hml, hown, hts, hX, hbl, hlocks, hgv, hex⟩ := C0
  obtain ⟨adK, adV, t6, a8, dK, gAf, hES⟩ := es_start hts hgv hX hbl
  have hC := cg_G (adK := adK) (adV := adV) (t6 := t6) (b := b) (a8 := a8) (H := s.heap) (dK := dK) (gAf := gAf) (xs := xs) hL
  have hRel := rel_G (adK := adK) (adV := adV) (t6 := t6) (b := b) (a8 := a8) (H := s.heap) (dK := dK) (gAf := gAf) (L := L) (xs := xs)
  generalize hG : mkG adK adV t6 b a8 s.heap dK gAf L xs = G at hES hC hRel
  have h7 : gAd G 7 = some b := by rw [← hG]; rfl
  have hBs : gBs G = s.heap.size := by rw [← hG]; rfl
  have hMC : MC p G 362 s m meth c := ⟨hx, hb.trans mCd_law, hml.trans mMax_law.symm, hr.trans mRet_law, hlocks, hown, fun h => absurd h (by decide +kernel), by rw [hw_law]; simpa using hex, hES⟩
  obtain ⟨k, ⟨o, μ'⟩, hrun, hΦ⟩ := lawx (d := 0) (n := L) (f := xs) hL
  have hΦ : o = .inl (some (.int 1)) := hΦ
  subst hΦ
  have hmap : ([Value.ref (7 : Nat)].map (rv G)) = [Value.ref b] := by
    show [va_rf (gAd G 7)] = _
    rw [h7]
    rfl
  have hent := entry_eq m ([Value.ref (7 : Nat)].map (rv G)) (all_okArg (show [Value.ref (7 : Nat)].all okArg = true from rfl) G) (mMax 362)
  have hRL := RLs.entry (G := G) (M := 362) (as := [Value.ref (7 : Nat)]) rfl (by decide +kernel)
  have hro : RoomOK room_1 0 0 (sub7 (20, L, []) xs b9) 36 := by
    show 0 + (1200 - 9) + (600 - 0) ≤ 601024 ∧ 0 + 1500 * (1200 - 9) + 6 * (600 - 0) ≤ 7293034 ∧ 36 + 8 ≤ 2048 ∧ 80 * 36 + 200 ≤ 84000 ∧ 9 ≤ 1200 ∧ 0 ≤ 600
    decide
  have hw := sound (p := p) (l := l) (e := e) hl hC k 36 362 0 (entL 362 [Value.ref (7 : Nat)]) [] _ _ _ (by decide) hrun room_1 s m #[Value.ref b] below meth c s.heap [] 0 0 _ hMC hRel hRL (fun q hq => nomatch hq) hro (Nat.le_refl _)
  rw [← mMax_law]
  rw [hmap] at hent hw
  rw [hent]
  intro T hT X
  obtain ⟨t, st, q1, q2, ⟨Lc, k9, n9, q3, q4, q5, q6, -⟩, -, q8⟩ := hw T hT X
  refine ⟨t, st, .returned (some (.int 1)), q1, q8, rfl, ⟨_, rfl⟩, q2, ?_⟩
  obtain ⟨z1, z2, z3, z4, z5, z6⟩ := q3
  have q5 : k9 + (capT - μ'.2.2.2.1) + (capX - μ'.2.2.2.2) ≤ 601024 := q5
  have q6 : n9 + 1500 * (capT - μ'.2.2.2.1) + 6 * (capX - μ'.2.2.2.2) ≤ 7293034 := q6
  refine ⟨z1, z2, Nat.le_trans z3 (by omega), z4, Nat.le_trans z5 (by omega), fun a c9 hc => ?_⟩
  obtain ⟨c', y1, y2, y3, y4⟩ := z6 a c9 hc
  refine ⟨c', y1, y2, y3, fun i _ => y4 i (fun hm => ?_)⟩
  have h9 : a < s.heap.size := (Array.getElem?_eq_some_iff.mp hc).1
  have h10 : gBs G ≤ a := q4 _ hm
  rw [hBs] at h10
  exact absurd h9 (Nat.not_lt.mpr h10)
set_option maxHeartbeats 4000000 in
theorem lw_walk (l : Launch) (hl : l.stackTraces = false) (b : Addr) (xs : List Int32) : MetFree l x (headSpec (Jvm.Cond.code x code maxLocals ret :: tables_1) room_1) (lw_P b xs) (fun _ _ _ _ _ => True) lw_Q := by
  refine MetFree.of_bodyS (code := code) (maxLocals := maxLocals) (ret := ret) (by decide) ?_ ?_
  · intro args s m h hn
    obtain ⟨meth, c, h1, h2, h3, h4, h5, h6, -, -⟩ := Cond.code_spec hn (atoms_spec (ws := Jvm.Cond.code x code maxLocals ret :: tables_1) h _ List.mem_cons_self)
    exact ⟨meth, c, h1, h2, h3, h4, h5, h6⟩
  · intro p e s m args below meth c s₁ B hml0 hP _
    obtain ⟨rfl, hx, hbd, hgv⟩ := hP
    obtain ⟨scr, harrAt, hlist, hof, hsmall⟩ := hx
    obtain ⟨hcb, hkn, -, -⟩ := State.arrayAt?_spec harrAt
    have hown : s.vm.findClass R_law = some m.cls := findClass_of_methodNamed B.named
    have hts0 : ∀ c ∈ (Jvm.Cond.code x code maxLocals ret :: tables_1), c.before #[Value.ref b] s = true := atoms_spec (ws := Jvm.Cond.code x code maxLocals ret :: tables_1) B.pre
    have hts : ∀ w ∈ lw_tbl, w.before #[Value.ref b] s = true := k2_hts_sels lw_privs (fun w hw => hts0 w (List.mem_cons_of_mem _ hw)) lw_privs_ok
    have hml : c.maxLocals = 8 := B.maxLocals_eq (hts0 _ List.mem_cons_self)
    have X₀ : Stand p l e room_1 s m #[Value.ref b] below meth c s₁ [] 0 0 := Stand.of_body B
    have hh0 : s₁.heap = s.heap := by rw [B.state]; rfl
    have hsz : scr.slots.size = xs.length := by rw [← Array.length_toList, hlist, List.length_map]
    have hval : ∀ j : Nat, j < xs.length → scr.slots[j]? = some (.int (xs.getD j 0)) := fun j hj => by
      rw [← Array.getElem?_toList, hlist]
      simp [hj]
    have hbl : b < s.heap.size := (Array.getElem?_eq_some_iff.mp hcb).1
    have hX : va_X b xs.length (fun j => xs.getD j 0) s s.heap := ⟨scr, hcb, hof, hkn, hsz, hval⟩
    have K : W p l e room_1 s m #[Value.ref b] below meth c s₁.heap [] 0 0 (lw_Z below #[Value.ref b] s) (entryFrame m ([Value.ref b] : List Value).toArray 8) := by
      rw [hh0]
      exact whole_start l hl hbd ⟨B.exec, B.bytes, B.returns, hml, hown, hts, hX, hbl, B.notSynchronized, hgv, B.noHandlers (hts0 _ List.mem_cons_self)⟩
    obtain ⟨t, a1, o, b1, b2, b3⟩ := K s₁ rfl X₀
    exact ⟨t, o, a1, b1, b2, b3⟩
theorem lw_pre_spec {args : Array Value} {s : State} (h : (Jvm.Cond.and given_1 narrow_1).before args s = true) (hr : rest_1_c.before args s = true) : ∃ (b : Addr) (xs : List Int32), lw_P b xs args s := by
  have hs := flat_of_before _ h
  have hq := flat_of_before _ hr
  have hc : (Cond.count 1).before args s = true := hs _ (by decide +kernel)
  have harr : (Cond.arrayOf (.arg 0) .int).before args s = true := hs _ (by decide +kernel)
  have hle : (Cond.le (.length (.arg 0)) (.int 5120)).before args s = true := hs _ (by decide +kernel)
  have hlen : (Cond.isInt (.length (.arg 0))).before args s = true := hq _ (by decide +kernel)
  have hall : (Cond.all (.arg 0) (.isInt (.elem (.arg 0) (.index 0)))).before args s = true := hq _ (by decide +kernel)
  obtain ⟨b, xs, hb, hx⟩ := State.ints_of_pre rfl harr hlen hall
  have hsm : xs.length < 2 ^ 31 := hx.choose_spec.2.2.2
  have hev : (Term.length (.arg 0)).eval args s none [] s = some (.int xs.length.toInt32) := hx.length_eval hb
  have hv := Cond.le_ints hev (show (Term.int 5120).eval args s none [] s = some (.int 5120) from rfl)
  have hd : xs.length.toInt32 ≤ 5120 := by
    simpa [Cond.before, Cond.holds, hv] using hle
  have hN : xs.length ≤ 5120 := (Int32.ofNat_le_ofNat hsm (by decide)).mp (show Int32.ofNat xs.length ≤ Int32.ofNat 5120 from hd)
  exact ⟨b, xs, Cond.one_arg hc (show args[0]? = some (.ref b) from hb), hx, hN, h⟩
theorem lw_comes (l : Launch) (hl : l.stackTraces = false) : Comes l x (Jvm.Cond.code x code maxLocals ret :: tables_1) room_1 (fun tb e args s => Calls_1 tb e args s ∧ rest_1 tb e args s ∧ Pre_1 tb e args s)
    (fun _ _ args s o t => lw_Q args s o t) := by
  intro p e ha hc hk s m args below hf hfit hheap happ hpre
  obtain ⟨b, xs, hP⟩ := lw_pre_spec hpre.2.2 hpre.2.1
  obtain ⟨k, o, h1, h2, h3, hQ⟩ := lw_walk l hl b xs p e ha hc hk s m args below hf ((Spec.applies_iff_loose hf).mp happ).1 hP trivial
  exact ⟨k, o, h1, h2, h3, hQ⟩
theorem lw_frame {s t : State} {o : Outcome} {args : Array Value} (h : Framed s o t [] 601024 7293034) :
    Framed s o t (fieldLocs frame_1_writes args s ++ arrayLocs frame_1_arrays args s ++ staticLocs frame_1_statics s) 601024 7293034 := h
theorem lw_limb (L : Cond) (hL : ∀ (args : Array Value) (s t : State), L.after args s (.returned (some (.int 1))) t = true) :
    ArmFor flags0 classFile x code maxLocals ret World_1 tables_1 room_1 Calls_1 rest_1 Pre_1
      (fun tb e a s o t => postC L tb e a s o t ∧ Framed s o t (fieldLocs frame_1_writes a s ++ arrayLocs frame_1_arrays a s ++ staticLocs frame_1_statics s) 601024 7293034) := by
  intro l hfl _ _ p e ha hc hk s m args below hf hfit hheap happ hpre
  obtain ⟨k, o, h1, h2, h3, rfl, hF⟩ := lw_comes l (by unfold Launch.stackTraces; rw [hfl]; decide) p e ha hc hk s m args below hf hfit hheap happ hpre
  exact ⟨k, _, h1, h2, h3, hL args s _, lw_frame hF⟩
theorem i_vc : Claimed_1_1 ∧ Claimed_1_2 := ⟨lw_limb limb_1_1 (fun args s t => by simp [limb_1_1, Cond.after, Cond.holds, Cond.value]), lw_limb limb_1_2 (fun args s t => Cond.after_iff.mpr (by
  first | (rw [show limb_1_2 = Cond.eq .result (.int 1) from rfl, Cond.eq_ints (x := 1) (y := 1) rfl rfl]; simp; done) | (simp [limb_1_2, Cond.value, Term.eval]; done)))⟩

