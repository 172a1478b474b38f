/-! ONE CALL -/
theorem okArg_cat {v : Value} (h : okArg v = true) (G : GP) : (rv G v).category = 1 := by
  rw [rv_cat]
  cases v <;> first | rfl | cases h
theorem all_okArg {as : List Value} (h : as.all okArg = true) (G : GP) : ∀ v ∈ as.map (rv G), v.category = 1 := by
  intro v hv
  obtain ⟨w, hw, rfl⟩ := List.mem_map.mp hv
  exact okArg_cat (List.all_eq_true.mp h w hw) G
/-- the locals at a method's start -/
theorem RLs.entry {G : GP} {M : Nat} {as : List Value} (h : as.all okArg = true) (hl : as.length ≤ mMax M) : RLs G (entL M as) (((as.map (rv G)).map Slot.val ++ List.replicate (mMax M - (as.map (rv G)).length) Slot.unset).toArray) (mMax M) := by
  have hat : ∀ (i : Nat) (z : Slot), (((as.map (rv G)).map Slot.val ++ List.replicate (mMax M - (as.map (rv G)).length) Slot.unset).toArray)[i]? = some z → (∃ v, as[i]? = some v ∧ z = .val (rv G v)) ∨ z = .unset := by
    intro i z hz
    rw [List.getElem?_toArray] at hz
    by_cases hi : i < as.length
    · rw [List.getElem?_append_left (by simpa using hi), List.getElem?_map, List.getElem?_map, List.getElem?_eq_getElem hi] at hz
      exact Or.inl ⟨as[i], List.getElem?_eq_getElem hi, (Option.some.inj hz).symm⟩
    · rw [List.getElem?_append_right (by simpa using hi), List.getElem?_replicate] at hz
      split at hz
      · exact Or.inr (Option.some.inj hz).symm
      · cases hz
  refine ⟨?_, ?_, ⟨?_, ?_⟩, ?_⟩
  · simp [entL]; omega
  · simp; omega
  · intro i v hi hc
    rcases hat i _ hi with ⟨w, hw, e⟩ | e
    · cases e
      have := okArg_cat (List.all_eq_true.mp h w (List.mem_of_getElem? hw)) G
      omega
    · cases e
  · intro i hi
    rcases hat i _ hi with ⟨w, hw, e⟩ | e <;> cases e
  · intro k v hk hn
    unfold entL at hk
    by_cases hi : k < as.length
    · rw [List.getElem?_append_left hi] at hk
      rw [List.getElem?_toArray, List.getElem?_append_left (by simpa using hi), List.getElem?_map, List.getElem?_map, hk]
      rfl
    · rw [List.getElem?_append_right (by omega), List.getElem?_replicate] at hk
      split at hk
      · cases hk
        cases hn
      · cases hk
theorem pcl_inv {i : Instr} {st as rest : List Value} {μ : PM} {M' : Nat} (h : pcl i st μ = some (M', as, rest)) : M' < 362 ∧ as.all okArg = true ∧ rest.length ≤ 16 ∧ as.length = mNa M' ∧ st = as.reverse ++ rest ∧
    ((i = .invokestatic M' ∧ mKi M' = 0) ∨ (i = .invokevirtual M' ∧ mKi M' = 1 ∧ okRecv μ M' as.head? = true) ∨ (i = .invokespecial M' ∧ mKi M' = 2 ∧ okRecv μ M' as.head? = true)) := by
  have hrev : ∀ n : Nat, st = (st.take n).reverse.reverse ++ st.drop n := fun n => by rw [List.reverse_reverse, List.take_append_drop]
  unfold pcl at h
  split at h
  · split at h
    · rename_i hk
      cases h
      obtain ⟨a1, a2, a3, a4, a5⟩ := hk
      exact ⟨by simpa using a4, by rw [List.all_reverse]; exact a5, a2, by rw [List.length_reverse, List.length_take]; omega, hrev _, Or.inl ⟨rfl, a3⟩⟩
    · cases h
  · split at h
    · rename_i hk
      cases h
      obtain ⟨a1, a2, a3, a4, a5, a6⟩ := hk
      exact ⟨by simpa using a4, by rw [List.all_reverse]; exact a5, a2, by rw [List.length_reverse, List.length_take]; omega, hrev _, Or.inr (Or.inl ⟨rfl, a3, a6⟩)⟩
    · cases h
  · split at h
    · rename_i hk
      cases h
      obtain ⟨a1, a2, a3, a4, a5, a6⟩ := hk
      exact ⟨by simpa using a4, by rw [List.all_reverse]; exact a5, a2, by rw [List.length_reverse, List.length_take]; omega, hrev _, Or.inr (Or.inr ⟨rfl, a3, a6⟩)⟩
    · cases h
  · cases h
section Cal
variable {p : Program} {l : Launch} {e : Env} {R : Room} {s : State} {m : MethodId} {args : Array Value} {below : List Frame} {meth : Method} {c : Code} {H : Heap} {locs : List Loc} {cells slots : Nat} {Q : State → Prop} {G : GP} {M : Nat} {rls : Array Slot} {μ μ' : PM} {pc len idx pc' d : Nat} {ls st ls' st' : List Value} {T : State}
/-- the receiver of a call -/
theorem recv_ok (hC : CG G) (hES : ES G s) (hR : RelH G μ H) (hlo : LocOK G locs) (hz : s.heap.size ≤ H.size) {M' : Nat} {v : Option Value} (h13 : mOwn M' ≤ 13) (h : okRecv μ M' v = true) : ∃ (cx a : Nat) (cell : Cell), v = some (.ref cx) ∧ rv G (.ref cx) = .ref a ∧ H[a]? = some cell ∧ cell.vm.isStatics = false ∧ s.vm.findClass (cnS (mOwn M')) = some cell.cls := by
  unfold okRecv at h
  split at h
  · rename_i cx
    obtain ⟨cx, rfl⟩ : ∃ y : Nat, y = cx := ⟨cx, rfl⟩
    simp only [Bool.and_eq_true, beq_iff_eq, Nat.blt_eq] at h
    obtain ⟨k1, k2⟩ := h
    by_cases h9 : cx < 9
    · obtain ⟨r1, r2⟩ := hR.2.2.2.2.2.2 cx h9
      rw [r1] at k1
      have h3 : cx < 3 ∧ mOwn M' = 13 := by
        rcases old_kind hC h9 with ⟨a1, a2⟩ | ⟨a1, a2, a3⟩ | ⟨a1, a2⟩ | ⟨a1, a2⟩ | ⟨a1, a2⟩ <;> omega
      obtain ⟨⟨cell, w1, w2, w3, w4⟩, -⟩ := hES.2.2.2.2.1.1 cx h3.1
      have hS := hR.S2 hES.2.2.2.1 hz hlo
      refine ⟨cx, adr G cx, cell, rfl, rv_old hC (by omega), ?_, w2, by rw [h3.2]; exact w3⟩
      rw [hS.2.1 _ (Array.getElem?_eq_some_iff.mp w1).1 w4]
      exact w1
    · have h9 : 9 ≤ cx := by omega
      have hat := hR.at h9 k2
      rw [enc_obj (by rw [k1]; omega), k1] at hat
      obtain ⟨r9, hr9, cell, g1, g2, g3, -⟩ := hat
      refine ⟨cx, gBs G + (cx - 9), cell, rfl, rv_new hC.1 h9, g1, by rw [g3]; rfl, ?_⟩
      rw [g2, ← cn_ok hr9]
      exact (hES.2.1.1 _ _ hr9).2.1
  · cases h
/-- going into a method -/
theorem call_go (hC : CG G) (hM : MC p G M s m meth c) {i : Instr} (hE : okE (mOwn M) (mCd M) (pc, len, idx, i) = true) (hR : RelH G μ H) (hL : RLs G ls rls (mMax M)) (hlo : LocOK G locs) (hz : s.heap.size ≤ H.size) {M' : Nat} {as rest : List Value} (hc : pcl i st μ = some (M', as, rest))
    (hT : T.heap = H) (X : Stand p l e R s m args below meth c T locs cells slots) :
    len = 3 ∧ (∃ ig, decode (mCd M) pc = .ok (ig, 3)) ∧ ∃ vm' mk methk ck, Stand p l e R s m args below meth c (T.setVm vm') locs cells slots ∧ CodeOK s M' mk methk ck ∧
      ∀ target, (∀ acts, Steps p.tables e below (doInvoke e ((T.setVm vm').setTop (F0 m pc rls (rest.map (rv G)))) acts mk (as.map (rv G)).toArray).1 target) → Steps p.tables e below (T.setTop (F0 m pc rls (st.map (rv G)))) target := by
  obtain ⟨hx, hb, hml, -, -, hown, -, -, hES⟩ := hM
  obtain ⟨hM', hok, hr16, hna, hst, hcase⟩ := pcl_inv hc
  obtain ⟨f1, f2, f3, f4, f5⟩ := mt_facts hM'
  obtain ⟨mk, methk, ck, hco⟩ := code_of hES hM'
  obtain ⟨n1, n2, n3, n4, n5, n6, n7, n8, n9⟩ := id hco
  have hhd := mt_hd hM'
  have hin := List.all_eq_true.mp mt_a M' (List.mem_range.mpr hM')
  simp only [Bool.and_eq_true, Bool.or_eq_true, bne_iff_ne] at hin
  have hkin : kindC M' ∈ lw_tbl := mkT_in M' (by simpa using hin.2.1)
  have hpn := mt_na hM' n9
  rcases hcase with ⟨rfl, k0⟩ | ⟨rfl, k0, hrec⟩ | ⟨rfl, k0, hrec⟩
  · obtain ⟨hdc, hlk, -, hsw⟩ := okE_spec hE rfl
    have hln := (hsw.resolve_left (by intro h; cases h)).symm
    simp only [stdLen] at hln
    subst hln
    obtain ⟨ne, hne⟩ := has4_of hlk
    have hl := hES.w (lmT_in _ hne) (mC_ok _ _ _ _) args
    have hyo : yOf M' = mNm M' := by unfold yOf; rw [if_neg (by omega), if_neg (by omega)]
    dsimp only at hl
    unfold kindC at hkin
    rw [if_pos k0] at hkin
    have hstat : methk.isStatic = true := Cond.static_spec n1 n2 (hES.w hkin rfl args)
    obtain ⟨kP, hkP, -⟩ := className_of_methodNamed n1
    have hini : (Cond.initialized (mNm M').cls).before args s = true := by rw [f1]; exact hES.ini f2 args
    have hinitP : kP.init = .initialized := Cond.initialized_spec (findClass_of_methodNamed n1) hkP hini
    rw [if_pos k0] at hpn
    have hlen : (as.map (rv G)).length = methk.sig.parameters.length := by rw [List.length_map]; omega
    have hstk : (F0 m pc rls (st.map (rv G))).stack = (as.map (rv G)).reverse ++ rest.map (rv G) := by
      show st.map (rv G) = _
      rw [hst, List.map_append, List.map_reverse]
    have hdc' : decode c.code (F0 m pc rls (st.map (rv G))).pc = .ok (.invokestatic idx, 3) := by rw [hb]; exact hdc
    refine ⟨rfl, ⟨_, hdc⟩, ?_⟩
    unfold mCond at hl
    split at hl
    · rw [hyo] at hl
      obtain ⟨vm₁, X₁, hstep⟩ := X.invokestatic hx hown hl n1 n2 hstat hkP hinitP hhd (g := F0 m pc rls (st.map (rv G))) rfl hlen hstk hdc'
      exact ⟨vm₁, mk, methk, ck, X₁, hco, hstep⟩
    · rw [hyo] at hl
      obtain ⟨vm₁, X₁, hstep⟩ := X.invokestaticNest hx hown hl n1 n2 hstat hkP hinitP hhd (g := F0 m pc rls (st.map (rv G))) rfl hlen hstk hdc'
      exact ⟨vm₁, mk, methk, ck, X₁, hco, hstep⟩
  · obtain ⟨hdc, hlk, -, hsw⟩ := okE_spec hE rfl
    have hln := (hsw.resolve_left (by intro h; cases h)).symm
    simp only [stdLen] at hln
    subst hln
    obtain ⟨ne, hne⟩ := has4_of hlk
    have hl := hES.w (lmT_in _ hne) (mC_ok _ _ _ _) args
    have hyo : yOf M' = mNm M' := by unfold yOf; rw [if_neg (by omega), if_neg (by omega)]
    dsimp only at hl
    unfold kindC at hkin
    rw [if_neg (by omega)] at hkin
    have h13 : 1 ≤ mNa M' ∧ mOwn M' ≤ 13 := f5.resolve_left (by omega)
    obtain ⟨cx, a, cell, hv, ha, hcell, hsta, hcl⟩ := recv_ok hC hES hR hlo hz h13.2 hrec
    obtain ⟨as', has⟩ : ∃ as', as = .ref cx :: as' := by
      cases as with
      | nil => cases hv
      | cons x r => cases hv; exact ⟨r, rfl⟩
    subst has
    obtain ⟨mk2, methM, q1, q2, hstM, habM⟩ := Cond.instanceMethod_spec (hES.w hkin rfl args)
    cases n1.symm.trans q1
    cases n2.symm.trans q2
    have hsl : selC M' ∈ lw_tbl := msT_in M' (by simpa using hin.2.2.resolve_left (by omega))
    obtain ⟨c2, r2, m2, z1, z2, z3, z4, kP, hkP, hkPi⟩ := Cond.selects_spec (hES.w hsl rfl args)
    rw [f1] at z1
    cases hcl.symm.trans z1
    cases (State.methodFound?_of_named n1 hhd).symm.trans z2
    cases n1.symm.trans z3
    have hselP : selectMethod e.platform s.vm cell.cls mk = .method mk := by rw [Launch.admits_selectMethod X.admits]; exact z4
    rw [if_neg (by omega)] at hpn
    have hlen : (as'.map (rv G)).length = methk.sig.parameters.length := by rw [List.length_map]; simp only [List.length_cons] at hna; omega
    have hstk : (F0 m pc rls (st.map (rv G))).stack = (as'.map (rv G)).reverse ++ .ref a :: rest.map (rv G) := by
      show st.map (rv G) = _
      rw [hst, List.map_append, List.map_reverse, List.map_cons, ha, List.reverse_cons, List.append_assoc]
      rfl
    have hdc' : decode c.code (F0 m pc rls (st.map (rv G))).pc = .ok (.invokevirtual idx, 3) := by rw [hb]; exact hdc
    have hcell' : T.heap[a]? = some cell := by rw [hT]; exact hcell
    have hobj : ∀ z, cell.vm ≠ .statics z := fun z h => by rw [h] at hsta; cases hsta
    refine ⟨rfl, ⟨_, hdc⟩, ?_⟩
    unfold mCond at hl
    split at hl
    · rw [hyo] at hl
      obtain ⟨vm₁, X₁, hstep⟩ := X.invokevirtual hx hown hl n1 n2 hstM hkP hkPi hhd hcell' hobj hselP n2 habM hkP hkPi (g := F0 m pc rls (st.map (rv G))) rfl hlen hstk hdc'
      refine ⟨vm₁, mk, methk, ck, X₁, hco, ?_⟩
      rw [List.map_cons, ha]
      exact hstep
    · rw [hyo] at hl
      obtain ⟨vm₁, X₁, hstep⟩ := X.invokevirtualNest hx hown hl n1 n2 hstM hkP hkPi hhd hcell' hobj hselP n2 habM hkP hkPi (g := F0 m pc rls (st.map (rv G))) rfl hlen hstk hdc'
      refine ⟨vm₁, mk, methk, ck, X₁, hco, ?_⟩
      rw [List.map_cons, ha]
      exact hstep
  · obtain ⟨hdc, hlk, -, hsw⟩ := okE_spec hE rfl
    have hln := (hsw.resolve_left (by intro h; cases h)).symm
    simp only [stdLen] at hln
    subst hln
    obtain ⟨ne, hne⟩ := has4_of hlk
    have hl := hES.w (lmT_in _ hne) (mC_ok _ _ _ _) args
    have hyo : yOf M' = mNm M' := by unfold yOf; rw [if_neg (by omega), if_neg (by omega)]
    dsimp only at hl
    unfold kindC at hkin
    rw [if_neg (by omega)] at hkin
    have h13 : 1 ≤ mNa M' ∧ mOwn M' ≤ 13 := f5.resolve_left (by omega)
    obtain ⟨cx, a, cell, hv, ha, hcell, hsta, hcl⟩ := recv_ok hC hES hR hlo hz h13.2 hrec
    obtain ⟨as', has⟩ : ∃ as', as = .ref cx :: as' := by
      cases as with
      | nil => cases hv
      | cons x r => cases hv; exact ⟨r, rfl⟩
    subst has
    have h2 := List.all_eq_true.mp mt_d M' (List.mem_range.mpr hM')
    simp only [Bool.or_eq_true, bne_iff_ne, Bool.and_eq_true, decide_eq_true_eq] at h2
    obtain ⟨y1, y2, y3⟩ := h2.resolve_left (by omega)
    have hcode : (Cond.code (mNm M') (mCd M') (mMax M') none).before args s = true := by
      have hmem : codeC M' ∈ lw_tbl := mcT_in M' (by simpa using hin.1)
      unfold codeC at hmem
      rw [if_pos y2, y1] at hmem
      exact hES.w hmem rfl args
    rw [if_neg (by omega)] at hpn
    have hlen : ∀ sig, parseMethodDescriptor (mNm M').desc = some sig → (as'.map (rv G)).length = sig.parameters.length := fun sig hsig => by
      have h8 := mt_na hM' hsig
      rw [if_neg (by omega)] at h8
      rw [List.length_map]
      simp only [List.length_cons] at hna
      omega
    have hstk : (F0 m pc rls (st.map (rv G))).stack = (as'.map (rv G)).reverse ++ .ref a :: rest.map (rv G) := by
      show st.map (rv G) = _
      rw [hst, List.map_append, List.map_reverse, List.map_cons, ha, List.reverse_cons, List.append_assoc]
      rfl
    have hdc' : decode c.code (F0 m pc rls (st.map (rv G))).pc = .ok (.invokespecial idx, 3) := by rw [hb]; exact hdc
    have hpl : e.platform.magicAccessors = ({} : Platform).magicAccessors := by rw [X.admits.platform]
    refine ⟨rfl, ⟨_, hdc⟩, ?_⟩
    unfold mCond at hl
    split at hl
    · rw [hyo] at hl
      obtain ⟨mk2, methM, cM, kP, vm₁, p1, p2, p3, -, -, -, -, -, hW₁, hstep⟩ := Steps.initColdArgs (e := e) X.here hx X.warmed hpl hown y3 hhd hl (hES.w hkin rfl args) hcode (f := F0 m pc rls (st.map (rv G))) rfl hlen hstk hdc'
      cases n1.symm.trans p1
      refine ⟨vm₁, mk, methk, ck, X.noted hW₁, hco, ?_⟩
      rw [List.map_cons, ha]
      exact hstep
    · rw [hyo] at hl
      obtain ⟨mk2, methM, cM, kP, vm₁, p1, p2, p3, -, -, -, -, -, hW₁, hstep⟩ := Steps.initColdArgsNest (e := e) X.here hx X.warmed hpl hown y3 hhd hl (hES.w hkin rfl args) hcode (f := F0 m pc rls (st.map (rv G))) rfl hlen hstk hdc'
      cases n1.symm.trans p1
      refine ⟨vm₁, mk, methk, ck, X.noted hW₁, hco, ?_⟩
      rw [List.map_cons, ha]
      exact hstep
end Cal
