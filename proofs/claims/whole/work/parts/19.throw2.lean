/-! THE THREE PLACES THAT THROW -/
def six13 : ByteArray := ⟨#[0x2a, 0x2b, 0xb7, 0x00, 0x0d, 0xb1]⟩
def thrA : List Cond := thrAt "AlarmRule" 437 "java/lang/IllegalArgumentException" "java/lang/RuntimeException" ["java/lang/Exception"] 7 Bundle.six
def thrB : List Cond := thrAt "AlarmRule" 428 "java/util/NoSuchElementException" "java/lang/RuntimeException" ["java/lang/Exception"] 13 six13
set_option maxRecDepth 100000 in
theorem xA_in : ∀ w ∈ thrA.filter vx_no, w ∈ lw_tbl := by decide +kernel
set_option maxRecDepth 100000 in
theorem xB_in : ∀ w ∈ thrB.filter vx_no, w ∈ lw_tbl := by decide +kernel
set_option maxRecDepth 100000 in
theorem xA_1 : (thrA.filter vx_no).all (fun w => kOk w && vx_ot w) = true := by decide +kernel
set_option maxRecDepth 100000 in
theorem xB_1 : (thrB.filter vx_no).all (fun w => kOk w && vx_ot w) = true := by decide +kernel
set_option maxRecDepth 100000 in
theorem x_fit : Bundle.fit "java/lang/IllegalArgumentException" = true ∧ Bundle.fit "java/util/NoSuchElementException" = true ∧ Bundle.fit "java/lang/RuntimeException" = true ∧ (∀ n ∈ ["java/lang/Exception"], Bundle.fit n = true) := by decide +kernel
theorem x_six : (decode Bundle.six 0 = .ok (.aload_n 0, 1) ∧ decode Bundle.six 1 = .ok (.aload_n 1, 1) ∧ decode Bundle.six 2 = .ok (.invokespecial 7, 3) ∧ decode Bundle.six 5 = .ok (.return_, 1)) ∧ (decode six13 0 = .ok (.aload_n 0, 1) ∧ decode six13 1 = .ok (.aload_n 1, 1) ∧ decode six13 2 = .ok (.invokespecial 13, 3) ∧ decode six13 5 = .ok (.return_, 1)) := by decide +kernel
set_option maxRecDepth 100000 in
theorem x_dec1 : decode (mCd 179) 27 = .ok (.new 424, 3) ∧ decode (mCd 179) (27 + 3) = .ok (.dup, 1) ∧ decode (mCd 179) (27 + 4) = .ok (.ldc_w 426, 3) ∧ decode (mCd 179) (27 + 7) = .ok (.invokespecial 428, 3) ∧ decode (mCd 179) (27 + 10) = .ok (.athrow, 1) := by decide +kernel
set_option maxRecDepth 100000 in
theorem x_dec2 : decode (mCd 180) 27 = .ok (.new 424, 3) ∧ decode (mCd 180) (27 + 3) = .ok (.dup, 1) ∧ decode (mCd 180) (27 + 4) = .ok (.ldc_w 431, 3) ∧ decode (mCd 180) (27 + 7) = .ok (.invokespecial 428, 3) ∧ decode (mCd 180) (27 + 10) = .ok (.athrow, 1) := by decide +kernel
set_option maxRecDepth 100000 in
theorem x_dec3 : decode (mCd 181) 14 = .ok (.new 433, 3) ∧ decode (mCd 181) (14 + 3) = .ok (.dup, 1) ∧ decode (mCd 181) (14 + 4) = .ok (.ldc_w 435, 3) ∧ decode (mCd 181) (14 + 7) = .ok (.invokespecial 437, 3) ∧ decode (mCd 181) (14 + 10) = .ok (.athrow, 1) := by decide +kernel
def retE (M pc : Nat) (i : Instr) : Bool := match i with
  | .ret k => (M == 179 && (pc == 27 && k == 1)) || ((M == 180 && (pc == 27 && k == 1)) || (M == 181 && (pc == 14 && k == 2)))
  | _ => true
set_option maxRecDepth 100000 in
theorem ret_all : (List.range 363).all (fun M => (ctab M).all (fun e => retE M e.1 e.2.2.2 && pfE M e.2.2.1 e.2.2.2)) = true := by decide +kernel
set_option maxRecDepth 100000 in
theorem x_own : mOwn 179 = 11 ∧ mOwn 180 = 11 ∧ mOwn 181 = 11 ∧ hwOf 179 = [] ∧ hwOf 180 = [] ∧ hwOf 181 = [] ∧ cnS 11 = "AlarmRule" := by decide +kernel
theorem ret_pf {M : Nat} (hM : M < 363) {e : Nat × Nat × Nat × Instr} (h : e ∈ ctab M) : retE M e.1 e.2.2.2 = true ∧ pfE M e.2.2.1 e.2.2.2 = true := by
  have h1 := List.all_eq_true.mp ret_all M (List.mem_range.mpr hM)
  have h2 := List.all_eq_true.mp h1 e h
  simpa using h2
/-- how an invocation ended -/
def EndO (G : GP) (below : List Frame) (s : State) (o : POut) (t : State) : Prop := match o with
  | .inl v => Ended t below (.returned (v.map (rv G)))
  | .inr k => ∃ (q : Nat) (ce : Cell), Ended t below (.threw q) ∧ t.heap[q]? = some ce ∧ ce.vm = .none ∧ s.vm.findClass (eNm k) = some ce.cls
def EndQ (G : GP) (R : Room) (d : Nat) (below : List Frame) (s : State) (o : POut) (μ : PM) : State → Prop := fun t =>
  t.status = .running ∧ s.WarmedH t.vm ∧ (∃ (L : List Loc) (k n : Nat), s.sameButNew ({ t with vm := s.vm } : State) L k n ∧ LocOK G L ∧ RoomOK R k n μ d) ∧ RelH G μ t.heap ∧ EndO G below s o t
section Thw
variable {p : Program} {l : Launch} {e : Env} {R : Room} {s : State} {m : MethodId} {args : Array Value} {below : List Frame} {meth : Method} {c : Code} {H : Heap} {locs : List Loc} {cells slots : Nat} {G : GP} {M : Nat} {rls : Array Slot} {μ : PM} {pc d : Nat} {st : List Value}
set_option maxHeartbeats 4000000 in
theorem thrW (hC : CG G) (hx : p.tables.exec = Jvm.exec) (hb : c.code = mCd M) (hl : l.stackTraces = false) (hES : ES G s) (hlocks : meth.locks = false) (hex : c.exceptionTable.toList = []) (hsize : rls.size = c.maxLocals)
    (hR : RelH G μ H) (hlo : LocOK G locs) (hro : RoomOK R cells slots μ d) (hz : s.heap.size ≤ H.size) (hX : μ.2.2.2.2 + 1 ≤ capX) (h16 : st.length ≤ 16)
    {k : Nat} {text : String} {ik is ic sa idx : Nat} {by9 : ByteArray} (hown : s.vm.findClass "AlarmRule" = some m.cls) (hE : Bundle.fit (eNm k) = true)
    (b0 : decode by9 0 = .ok (.aload_n 0, 1)) (b1 : decode by9 1 = .ok (.aload_n 1, 1)) (b2 : decode by9 2 = .ok (.invokespecial idx, 3)) (b5 : decode by9 5 = .ok (.return_, 1))
    (hk : (Cond.classLink "AlarmRule" ik (eNm k)).before #[] s = true) (hini : (Cond.initialized (eNm k)).before #[] s = true) (hstr : vk_R "AlarmRule" is text sa s)
    (hin : ∀ w ∈ (thrAt "AlarmRule" ic (eNm k) "java/lang/RuntimeException" ["java/lang/Exception"] idx by9).filter vx_no, w ∈ lw_tbl)
    (hgd : ((thrAt "AlarmRule" ic (eNm k) "java/lang/RuntimeException" ["java/lang/Exception"] idx by9).filter vx_no).all (fun w => kOk w && vx_ot w) = true)
    (d0 : decode (mCd M) pc = .ok (.new ik, 3)) (d3 : decode (mCd M) (pc + 3) = .ok (.dup, 1)) (d4 : decode (mCd M) (pc + 4) = .ok (.ldc_w is, 3)) (d7 : decode (mCd M) (pc + 7) = .ok (.invokespecial ic, 3)) (d10 : decode (mCd M) (pc + 10) = .ok (.athrow, 1)) :
    W p l e R s m args below meth c H locs cells slots (EndQ G R d below s (.inr k) (μ.1, μ.2.1, μ.2.2.1, μ.2.2.2.1, μ.2.2.2.2 + 1)) (F0 m pc rls (st.map (rv G))) := by
  obtain ⟨o1, o2, o3, o4, o5, o6⟩ := id hro
  have hcs := cat_sum G st
  have hS := hR.S2 hES.2.2.2.1 hz hlo
  obtain ⟨hU, hN⟩ := hES.2.2.2.2.2.2.2.2.2.2.2.1
  intro T hT X
  have htr : e.platform.stackTraces = false := (show e.platform.stackTraces = l.stackTraces by rw [X.admits.platform]).trans hl
  have Y := vx_rebase X (R' := { frames := R.frames, locals := R.locals, cells := 1, slots := 6 }) (Nat.le_refl _) (Nat.le_refl _) (show cells + 1 ≤ R.cells by omega) (show slots + 6 ≤ R.slots by omega)
  obtain ⟨s', hA⟩ : ∃ z, z = (T.setVm s.vm).setFrames (.invoking m args :: below) := ⟨_, rfl⟩
  rw [← hA] at Y
  have hvm : s'.vm = s.vm := by rw [hA]; rfl
  have hhp : s'.heap = H := by rw [hA]; exact hT
  have hW0 : s.WarmedH s'.vm := by rw [hvm]; exact State.WarmedH.refl s
  have hES' : ES G s' := hES.moved hW0 (by rw [hhp]; exact hz) (by rw [hhp]; exact hR.2.2.1)
  have hat' : ∀ w ∈ (thrAt "AlarmRule" ic (eNm k) "java/lang/RuntimeException" ["java/lang/Exception"] idx by9).filter vx_no, w.before args s' = true := fun w hw => by
    have := List.all_eq_true.mp hgd w hw
    simp only [Bool.and_eq_true] at this
    exact hES'.w (hin w hw) this.1 args
  have hk' : (Cond.classLink "AlarmRule" ik (eNm k)).before args s' = true := vx_ot_at hW0 hvm.symm rfl hk
  have hini' : (Cond.initialized (eNm k)).before args s' = true := vx_ot_at hW0 hvm.symm rfl hini
  have hU' : vx_Zq Jvm.Bundle.tN "UNASSIGNED_STACK" Jvm.Bundle.steD (gN G) s' s'.heap := by rw [hhp]; exact vx_Zq.moved hW0.alike (hU.kept hS.2.1)
  have hN' : vx_Zq Jvm.Bundle.tN "SUPPRESSED_SENTINEL" Jvm.Bundle.listD (gN G) s' s'.heap := by rw [hhp]; exact vx_Zq.moved hW0.alike (hN.kept hS.2.1)
  have h : ∀ w ∈ thrAt "AlarmRule" ic (eNm k) "java/lang/RuntimeException" ["java/lang/Exception"] idx by9, w.before args s' = true := vx_own hat' (vx_isRefq hU'.1) (vx_isRefq hN'.1) hU'.2.word hN'.2.word
  have hown' : s'.vm.findClass "AlarmRule" = some m.cls := by rw [hvm]; exact hown
  have hins : (Cond.instantiable (eNm k) 6).before args s' = true := h _ (by simp [thrAt, thrTail])
  obtain ⟨vm₁, cX, kX, hfX, hkX, -, -, X₁, st1⟩ := Y.newCold hx (own := "AlarmRule") (C := eNm k) (index := ik) (n := 6) hown' hk' hins hini'
    (g := F0 m pc rls (st.map (rv G))) rfl (by rw [hb]; exact d0) (Nat.le_refl _) (Nat.le_refl _)
  generalize hT1 : (T.setVm vm₁).pushCell { cls := cX, slots := kX.instanceTypes.map defaultValue, vm := .none } = T1 at X₁ st1
  have hcat : (Value.ref T.heap.size).category = 1 := rfl
  have hcellA : T1.heap[T.heap.size]? = some (freshCell cX kX) := by rw [← hT1]; exact State.heap_pushCell_size _ _
  have d3' : decode c.code (pc + 3) = .ok (.dup, 1) := by rw [hb]; exact d3
  have d4' : decode c.code (pc + 4) = .ok (.ldc_w is, 3) := by rw [hb]; exact d4
  have hstr' : vk_R "AlarmRule" is text sa s' := vk_R.warm hW0 hstr
  obtain ⟨U, hsteps, hrun, hend, hW, hsame, ce, hce, hv, hcl⟩ := thrGo X₁ hx htr (own := "AlarmRule") (E := eNm k) (ic := ic) hown' hE x_fit.2.2.1 x_fit.2.2.2 b0 b1 b2 b5 h (fun x hx => nomatch hx) hfX hkX hcellA (by rw [hhp, hT]; exact Nat.le_refl _) (msg := .ref sa) rfl
    (g := { method := m, pc := pc + 7, locals := rls, stack := .ref sa :: .ref T.heap.size :: .ref T.heap.size :: st.map (rv G), locked := none }) rfl hsize rfl rfl (rest := st.map (rv G)) rfl
    (by rw [hb]; exact d7) (by rw [hb]; exact d10) (fun x hx => by rw [hex] at hx; cases hx) (show 1 + 4 < R.frames by omega) (by simp only [List.map_cons, List.sum_cons, hcat, List.length_cons, List.length_nil]; show 2 * 0 + _ + _ ≤ R.locals; omega) hlocks
  obtain ⟨f1, f2⟩ := vx_frame hsame
  rw [hhp] at f1 f2
  have hWs : s.WarmedH U.vm := State.WarmedH.trans hW0 hW
  rw [hvm] at hcl
  have hall : s.sameButNew ({ U with vm := s.vm } : State) locs (cells + 1) (slots + 6) := by
    subst hA
    obtain ⟨e1, e2⟩ := hsame
    rw [State.setFrames_setFrames] at e1
    have h2 : (T.setVm s.vm).sameButNew ({ U with vm := s.vm } : State) [] (0 + 1) (0 + 6) := ⟨e1, e2⟩
    have h3 := X.same.trans h2
    rw [List.append_nil] at h3
    exact h3.mono (by omega) (by omega)
  refine ⟨U, ?_, hrun, hWs, ⟨locs, cells + 1, slots + 6, hall, hlo, by show _ + (capT - μ.2.2.2.1) + (capX - (μ.2.2.2.2 + 1)) ≤ _; omega, by show _ + 1500 * (capT - μ.2.2.2.1) + 6 * (capX - (μ.2.2.2.2 + 1)) ≤ _; omega, o3, o4, o5, hX⟩, hR.exc (fun q hq => f2 q hq (fun z hz => nomatch hz)) f1, _, ce, hend, hce, hv, hcl⟩
  refine st1 _ ?_
  show Steps p.tables e below (T1.setTop { method := m, pc := pc + 3, locals := rls, stack := .ref T.heap.size :: st.map (rv G), locked := none }) _
  jvm_step X₁.here [X₁.here.top, hx, d3', Value.category]
  exact X₁.ldcStringW hx (own := "AlarmRule") (text := text) (index := is) (a := sa) hown' hstr'.1 hstr'.2
    (g := { method := m, pc := pc + 4, locals := rls, stack := .ref T.heap.size :: .ref T.heap.size :: st.map (rv G), locked := none }) rfl d4' _ hsteps
end Thw
