/-! CALLS -/
set_option maxRecDepth 100000 in
theorem mt_a : (List.range 362).all (fun M => mcT.contains M && (mkT.contains M && (mKi M != 1 || msT.contains M))) = true := by decide +kernel
set_option maxRecDepth 100000 in
theorem mt_b : (List.range 362).all (fun M => decide ((mNm M).cls = cnS (mOwn M)) && (Nat.blt (mOwn M) 21 && (Nat.ble (mNa M) (mMax M) && (Nat.ble (mMax M) 20 && (mKi M == 0 || (Nat.ble 1 (mNa M) && Nat.ble (mOwn M) 13)))))) = true := by decide +kernel
set_option maxRecDepth 100000 in
theorem mt_c : (List.range 362).all (fun M => decide ((parseMethodDescriptor (mNm M).desc).map (fun s => s.parameters.length) = some (mNa M - (if mKi M = 0 then 0 else 1)))) = true := by decide +kernel
set_option maxRecDepth 100000 in
theorem mt_d : (List.range 362).all (fun M => mKi M != 2 || (decide (mRet M = none) && ((hwOf M).isEmpty && decide ((mNm M).name = "<init>")))) = true := by decide +kernel
set_option maxRecDepth 100000 in
theorem mt_e : (List.range 362).all (fun M => plainFor (mNm M)) = true := by decide +kernel
set_option maxRecDepth 100000 in
theorem mt_f : (List.range 21).all (fun o => decide (cnS o ≠ "java/lang/invoke/MethodHandle" ∧ cnS o ≠ "java/lang/invoke/VarHandle")) = true := by decide +kernel
def CodeOK (s : State) (M : Nat) (mk : MethodId) (methk : Method) (ck : Code) : Prop := s.methodNamed? (mNm M) = some mk ∧ s.vm.method? mk = some methk ∧ methk.code = some ck ∧ ck.code = mCd M ∧ ck.maxLocals = mMax M ∧ methk.sig.returnType = mRet M ∧ methk.locks = false ∧ ck.exceptionTable.toList = tableOf (hwOf M) ∧ parseMethodDescriptor (mNm M).desc = some methk.sig
theorem code_of {G : GP} {s : State} (h : ES G s) {M : Nat} (hM : M < 362) : ∃ mk methk ck, CodeOK s M mk methk ck := by
  have h1 := List.all_eq_true.mp mt_a M (List.mem_range.mpr hM)
  simp only [Bool.and_eq_true] at h1
  have hmem : codeC M ∈ lw_tbl := mcT_in M (by simpa using h1.1)
  unfold codeC at hmem
  split at hmem
  · rename_i he
    have hw := h.w hmem rfl #[]
    obtain ⟨mk, hn⟩ := Cond.code_named hw
    obtain ⟨meth, c, a1, a2, a3, a4, a5, a6, a7, a8⟩ := Cond.code_spec hn hw
    refine ⟨mk, meth, c, hn, a1, a2, a3, a4, a5, a6, ?_, a8⟩
    rw [List.isEmpty_iff.mp he, Array.isEmpty_iff.mp a7]
    rfl
  · have hw := h.w hmem rfl #[]
    obtain ⟨mk, meth, c, hn, a1, a2, a3, a4, a5, a6, a7, a8⟩ := Cond.codeWith_spec hw
    refine ⟨mk, meth, c, hn, a1, a2, a3, a4, a6, a7, ?_, a8⟩
    rw [← a5, table_eq]
/-- what the tables say of a method -/
theorem mt_facts {M : Nat} (hM : M < 362) : (mNm M).cls = cnS (mOwn M) ∧ mOwn M < 21 ∧ mNa M ≤ mMax M ∧ mMax M ≤ 20 ∧ (mKi M = 0 ∨ (1 ≤ mNa M ∧ mOwn M ≤ 13)) := by
  have h1 := List.all_eq_true.mp mt_b M (List.mem_range.mpr hM)
  simp only [Bool.and_eq_true, decide_eq_true_eq, Bool.or_eq_true, beq_iff_eq] at h1
  obtain ⟨a1, a2, a3, a4, a5⟩ := h1
  refine ⟨a1, by simpa using a2, by simpa using a3, by simpa using a4, ?_⟩
  rcases a5 with q | ⟨q, q2⟩
  · exact Or.inl q
  · exact Or.inr ⟨by simpa using q, by simpa using q2⟩
theorem mt_na {M : Nat} (hM : M < 362) {sig : _} (h : parseMethodDescriptor (mNm M).desc = some sig) : sig.parameters.length = mNa M - (if mKi M = 0 then 0 else 1) := by
  have h1 := List.all_eq_true.mp mt_c M (List.mem_range.mpr hM)
  simp only [decide_eq_true_eq] at h1
  rw [h] at h1
  exact Option.some.inj h1
theorem mt_hd {M : Nat} (hM : M < 362) : (mNm M).cls ≠ "java/lang/invoke/MethodHandle" ∧ (mNm M).cls ≠ "java/lang/invoke/VarHandle" := by
  obtain ⟨a1, a2, -⟩ := mt_facts hM
  have h1 := List.all_eq_true.mp mt_f (mOwn M) (List.mem_range.mpr a2)
  rw [a1]
  exact of_decide_eq_true h1
