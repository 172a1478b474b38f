/-! HOW AN INVOCATION ENDS: returns, handlers -/
theorem rv_narrow (G : GP) (ty : FieldType) (v : Int32) : rv G (narrow ty (.int v)) = narrow ty (.int v) := by
  cases ty <;> rfl
theorem stepsUp {tb : Tables} {e : Env} {below : List Frame} {f : Frame} {s t : State} (h : Steps tb e (f :: below) s t) : Steps tb e below s t := by
  obtain ⟨n, h1, h2⟩ := h
  exact ⟨n, h1, fun k hk => Within.weaken (mid := [f]) (h2 k hk)⟩
theorem fetch_in {M pc len idx : Nat} {i : Instr} (h : fetch M pc = some (len, idx, i)) : (pc, len, idx, i) ∈ ctab M := by
  unfold fetch at h
  obtain ⟨q, hq, e⟩ := Option.map_eq_some_iff.mp h
  have h1 := List.mem_of_find?_eq_some hq
  have h2 := List.find?_some hq
  obtain ⟨a, b⟩ := q
  have h3 : a = pc := by simpa using h2
  subst h3
  have h4 : b = (len, idx, i) := e
  subst h4
  exact h1
section Ende
variable {p : Program} {l : Launch} {e : Env} {R : Room} {s : State} {m : MethodId} {args : Array Value} {below : List Frame} {meth : Method} {c : Code} {H : Heap} {locs : List Loc} {cells slots : Nat} {G : GP} {M : Nat} {rls : Array Slot} {μ : PM} {pc len idx d : Nat} {st : List Value}
theorem end_i (hM : MC p G M s m meth c) (hR : RelH G μ H) (hlo : LocOK G locs) (hro : RoomOK R cells slots μ d) {v : Int32} {ty : FieldType} (hr : mRet M = some ty) (hdc : decode (mCd M) pc = .ok (.ireturn, 1)) :
    W p l e R s m args below meth c H locs cells slots (EndQ G R d below s (.inl (some (narrow ty (.int v)))) μ) (F0 m pc rls [.int v]) := by
  obtain ⟨hx, hb, hml, hrt, hlocks, hown, -, -, hES⟩ := hM
  have hr : meth.sig.returnType = some ty := hrt.trans hr
  intro T hT X
  obtain ⟨fs, hret, hrun, hended, hW, hframe⟩ := X.leave (v := some (narrow ty (.int v))) (fun h => by rw [hr] at h; cases h)
  have hmeth' : T.vm.method? m = some meth := X.method'
  refine ⟨T.setFrames fs, ?_, hrun, hW, ⟨locs, cells, slots, hframe, hlo, hro⟩, by show RelH G μ T.heap; rw [hT]; exact hR, by show Ended _ below (.returned (some (rv G (narrow ty (.int v))))); rw [rv_narrow]; exact hended⟩
  jvm_step X.here [X.here.top, hx, hb, hdc, hmeth', hr]
  (try refine ⟨rfl, ?_⟩); (try refine ⟨rfl, ?_⟩)
  first | (intro acts; rw [hret _ acts rfl rfl rfl]) | rw [hret _ _ rfl rfl rfl]
  exact Steps.refl _
theorem end_l (hM : MC p G M s m meth c) (hR : RelH G μ H) (hlo : LocOK G locs) (hro : RoomOK R cells slots μ d) {v : Int64} (hr : mRet M = some .long) (hdc : decode (mCd M) pc = .ok (.lreturn, 1)) :
    W p l e R s m args below meth c H locs cells slots (EndQ G R d below s (.inl (some (.long v))) μ) (F0 m pc rls [.long v]) := by
  obtain ⟨hx, hb, hml, hrt, hlocks, hown, -, -, hES⟩ := hM
  have hr : meth.sig.returnType = some .long := hrt.trans hr
  intro T hT X
  obtain ⟨fs, hret, hrun, hended, hW, hframe⟩ := X.leave (v := some (.long v)) (fun h => by rw [hr] at h; cases h)
  have hmeth' : T.vm.method? m = some meth := X.method'
  refine ⟨T.setFrames fs, ?_, hrun, hW, ⟨locs, cells, slots, hframe, hlo, hro⟩, by show RelH G μ T.heap; rw [hT]; exact hR, hended⟩
  jvm_step X.here [X.here.top, hx, hb, hdc, hmeth', hr, narrow]
  (try refine ⟨rfl, ?_⟩); (try refine ⟨rfl, ?_⟩)
  first | (intro acts; rw [hret _ acts rfl rfl rfl]) | rw [hret _ _ rfl rfl rfl]
  exact Steps.refl _
theorem end_v (hM : MC p G M s m meth c) (hR : RelH G μ H) (hlo : LocOK G locs) (hro : RoomOK R cells slots μ d) (hr : mRet M = none) (hdc : decode (mCd M) pc = .ok (.return_, 1)) :
    W p l e R s m args below meth c H locs cells slots (EndQ G R d below s (.inl none) μ) (F0 m pc rls []) := by
  obtain ⟨hx, hb, hml, hrt, hlocks, hown, -, -, hES⟩ := hM
  have hr : meth.sig.returnType = none := hrt.trans hr
  intro T hT X
  obtain ⟨fs, hret, hrun, hended, hW, hframe⟩ := X.leave (v := none) (fun _ => rfl)
  have hmeth' : T.vm.method? m = some meth := X.method'
  refine ⟨T.setFrames fs, ?_, hrun, hW, ⟨locs, cells, slots, hframe, hlo, hro⟩, by show RelH G μ T.heap; rw [hT]; exact hR, hended⟩
  jvm_step X.here [X.here.top, hx, hb, hdc, hmeth', hr]
  (try refine ⟨rfl, ?_⟩); (try refine ⟨rfl, ?_⟩)
  first | (intro acts; rw [hret _ acts rfl rfl rfl]) | rw [hret _ _ rfl rfl rfl]
  exact Steps.refl _
end Ende
def hCode (M q v : Nat) : Bool := decide (decode (mCd M) q = .ok (.iconst (v : Int), 1)) && (decide (decode (mCd M) (q + 1) = .ok (.ireturn, 1)) && (decide (mRet M = some .int) && decide (Int32.ofInt (v : Int) = Int32.ofNat v)))
def ctk (k : Nat) : Nat := if k = 1 then 31 else 13
def hHead (M k : Nat) (x : Nat × Nat × Nat × Nat) : Bool := match hwOf M with
  | y :: r => decide (y = x) || (k == 2 && (y.2.2.2 == 31 && (match r with
    | z :: _ => decide (z = x)
    | [] => false)))
  | [] => false
def hChk (h : Nat × Nat × Nat × Nat × Nat × Nat) : Bool :=
  decide (h.1 < 362) && (decide (mOwn h.1 = 14) && ((h.2.1 == 1 || h.2.1 == 2) && (hHead h.1 h.2.1 (h.2.2.1, h.2.2.2.1, h.2.2.2.2.1, ctk h.2.1) && (match decode (mCd h.1) h.2.2.2.2.1 with
    | .ok (.astore_n n, 1) => decide ((n : Nat) < mMax h.1) && hCode h.1 (h.2.2.2.2.1 + 1) h.2.2.2.2.2
    | .ok (.astore n, 2) => decide (n < mMax h.1) && hCode h.1 (h.2.2.2.2.1 + 2) h.2.2.2.2.2
    | _ => false))))
set_option maxRecDepth 100000 in
theorem h_all : htab.all hChk = true := by decide +kernel
theorem hCode_spec {M q v : Nat} (h : hCode M q v = true) : decode (mCd M) q = .ok (.iconst (v : Int), 1) ∧ decode (mCd M) (q + 1) = .ok (.ireturn, 1) ∧ mRet M = some .int ∧ Int32.ofInt (v : Int) = Int32.ofNat v := by
  unfold hCode at h
  simp only [Bool.and_eq_true, decide_eq_true_eq] at h
  exact h
section Hnd
variable {p : Program} {l : Launch} {e : Env} {R : Room} {s : State} {m : MethodId} {args : Array Value} {below : List Frame} {meth : Method} {c : Code} {H : Heap} {locs : List Loc} {cells slots : Nat} {G : GP} {M : Nat} {rls : Array Slot} {μ : PM} {pc len idx d : Nat} {st : List Value}
theorem hnd_code (hC : CG G) (hM : MC p G M s m meth c) (hR : RelH G μ H) (hlo : LocOK G locs) (hro : RoomOK R cells slots μ d) {q v : Nat} (h : hCode M q v = true) : W p l e R s m args below meth c H locs cells slots (EndQ G R d below s (.inl (some (.int (Int32.ofNat v)))) μ) (F0 m q rls []) := by
  obtain ⟨h1, h2, h3, h4⟩ := hCode_spec h
  have K := end_i (l := l) (e := e) (args := args) (below := below) (rls := rls) (v := Int32.ofNat v) hM hR hlo hro h3 h2
  refine lv_iconst hM.1 hM.2.1 h1 rfl ?_
  rw [h4]
  exact K
theorem wrapper_catch (hC : CG G) (hM : MC p G M s m meth c) (hR : RelH G μ H) (hlo : LocOK G locs) (hro : RoomOK R cells slots μ d) (hsz : rls.size = mMax M) (hwf : lv_wf rls) {k : Nat} {v : Int32} (hh : hnd M pc k = some v) {q : Nat} {ce : Cell} (hcell : H[q]? = some ce) (hv : ce.vm = .none) (hcl : s.vm.findClass (eNm k) = some ce.cls) {rest : List Value} :
    vx_W p l e R s m args below meth c H locs cells slots (EndQ G R d below s (.inl (some (.int v))) μ) (F0 m pc rls rest) q := by
  unfold hnd at hh
  obtain ⟨h, hf, rfl⟩ := Option.map_eq_some_iff.mp hh
  have hmem := List.mem_of_find?_eq_some hf
  have hcov := List.find?_some hf
  simp only [Bool.and_eq_true, beq_iff_eq, Nat.ble_eq, Nat.blt_eq] at hcov
  obtain ⟨e1, e2, e3, e4⟩ := hcov
  have hck := List.all_eq_true.mp h_all h hmem
  obtain ⟨hM9, hk9, from9, to9, hp, val⟩ := h
  dsimp only at e1 e2 e3 e4 hck ⊢
  subst e1
  subst e2
  unfold hChk at hck
  simp only [Bool.and_eq_true, decide_eq_true_eq, Bool.or_eq_true, beq_iff_eq] at hck
  obtain ⟨c1, c2, c3, c4, c5⟩ := hck
  obtain ⟨hx, hb, hml, hrt, hlocks, hown, -, hext, hES⟩ := id hM
  rw [c2] at hown
  have hL : s.vm.findClass "AlarmRuleLaw" = some m.cls := hown
  have hcast : (Cond.castable (eNm hk9) (eNm hk9)).before args s = true := by
    rcases c3 with rfl | rfl
    · exact hES.w (xxT_in _ (by simp [xxT, xxT_0, eNm])) rfl args
    · exact hES.w (xxT_in _ (by simp [xxT, xxT_0, eNm])) rfl args
  have hlink : (Cond.classLink "AlarmRuleLaw" (ctk hk9) (eNm hk9)).before args s = true := by
    rcases c3 with rfl | rfl
    · exact hES.w (xxT_in _ (by simp [xxT, xxT_0, eNm, ctk])) rfl args
    · exact hES.w (xxT_in _ (by simp [xxT, xxT_0, eNm, ctk])) rfl args
  have hkk : W p l e R s m args below meth c H locs cells slots (EndQ G R d below s (.inl (some (.int (Int32.ofNat val)))) μ) (F0 m hp rls [.ref q]) := by
    split at c5
    · rename_i n hd
      obtain ⟨b1, b2⟩ := Bool.and_eq_true_iff.mp c5
      exact lv_astore_n hx hb hd rfl (show lv_has rls (mMax hM9) [] from ⟨hsz, hwf, fun _ h => nomatch h⟩) (of_decide_eq_true b1) rfl (fun ls9 _ => hnd_code hC hM hR hlo hro b2)
    · rename_i n hd
      obtain ⟨b1, b2⟩ := Bool.and_eq_true_iff.mp c5
      exact lv_astore hx hb hd (show lv_has rls (mMax hM9) [] from ⟨hsz, hwf, fun _ h => nomatch h⟩) (of_decide_eq_true b1) rfl (fun ls9 _ => hnd_code hC hM hR hlo hro b2)
    · cases c5
  have hct : ctk hk9 ≠ 0 := by unfold ctk; split <;> decide
  have hcv : ∀ ct : Nat, covers ⟨from9, to9, hp, ct⟩ pc = true := fun ct => by simp [covers, e3, e4]
  unfold hHead at c4
  split at c4
  · rename_i y r hw
    rw [Bool.or_eq_true] at c4
    rcases c4 with c4 | c4
    · have c4 := of_decide_eq_true c4
      subst c4
      refine vx_catch (E := eNm hk9) (name := eNm hk9) (ce := ce) hL [] ⟨from9, to9, hp, ctk hk9⟩ (tableOf r) (by rw [hext, hw]; rfl) (fun z hz => nomatch hz) (hcv _) hct hlink hcast hcell hv hcl hkk
    · simp only [Bool.and_eq_true, beq_iff_eq] at c4
      obtain ⟨z1, z2, z3⟩ := c4
      subst z1
      split at z3
      · rename_i z r9
        have z3 := of_decide_eq_true z3
        subst z3
        refine vx_catch (E := eNm 2) (name := eNm 2) (ce := ce) hL [⟨y.1, y.2.1, y.2.2.1, y.2.2.2⟩] ⟨from9, to9, hp, ctk 2⟩ (tableOf r9) (by rw [hext, hw]; rfl) (fun z hz => ?_) (hcv _) hct hlink hcast hcell hv hcl hkk
        have hz := List.mem_singleton.mp hz
        subst hz
        refine Or.inr ⟨by show y.2.2.2 ≠ 0; rw [z2]; decide, "java/util/NoSuchElementException", ?_, hES.2.2.2.2.2.2.2.2.2.2.2.2.2.2.2⟩
        show (Cond.classLink "AlarmRuleLaw" y.2.2.2 "java/util/NoSuchElementException").before args s = true
        rw [z2]
        exact hES.w (xxT_in _ (by simp [xxT, xxT_0])) rfl args
      · cases z3
  · cases c4
end Hnd
