/-! BIG STEPS -/
theorem hw_small {M : Nat} (h : Nat.blt M 330 = true) : hwOf M = [] := by
  unfold hwOf
  rw [if_pos (by simpa using h)]
section Big
variable {p : Program} {l : Launch} {e : Env} {G : GP}
/-- what a run of the pure machine says of the machine -/
def Snd (p : Program) (l : Launch) (e : Env) (G : GP) (d M pc : Nat) (ls st : List Value) (μ : PM) (o : POut) (μ' : PM) : Prop :=
  ∀ (R : Room) (s : State) (m : MethodId) (args : Array Value) (below : List Frame) (meth : Method) (c : Code) (H : Heap) (locs : List Loc) (cells slots : Nat) (rls : Array Slot),
    MC p G M s m meth c → RelH G μ H → RLs G ls rls (mMax M) → LocOK G locs → RoomOK R cells slots μ d → s.heap.size ≤ H.size → W p l e R s m args below meth c H locs cells slots (EndQ G R d below s o μ') (F0 m pc rls (st.map (rv G)))
set_option maxHeartbeats 4000000 in
theorem snd_call (hl : l.stackTraces = false) (hC : CG G) {d M pc len idx M' : Nat} {i : Instr} {ls st as rest : List Value} {μ μ1 μ' : PM} {o1 o : POut} (hE : okE (mOwn M) (mCd M) (pc, len, idx, i) = true)
    (hc : pcl i st μ = some (M', as, rest)) (h1 : Snd p l e G d M' 0 (entL M' as) [] μ o1 μ1)
    (h2 : match o1 with
      | .inl v => Snd p l e G (d + 1) M (pc + len) ls (v.toList ++ rest) μ1 o μ'
      | .inr k => match hnd M pc k with
        | some v => o = .inl (some (.int v)) ∧ μ' = μ1
        | none => Nat.blt M 330 = true ∧ o = .inr k ∧ μ' = μ1) : Snd p l e G (d + 1) M pc ls st μ o μ' := by
  intro R s m args below meth c H locs cells slots rls hM hR hL hlo hro hz T hT X
  obtain ⟨hx, hb, hml, -, hlocks, hown, -, hext, hES⟩ := id hM
  obtain ⟨hM', hok, hr16, hna, hst, -⟩ := pcl_inv hc
  obtain ⟨f1, f2, f3, f4, f5⟩ := mt_facts hM'
  obtain ⟨rfl, ⟨ig, hdg⟩, vm', mk, methk, ck, X₁, hco, hstep⟩ := call_go hC hM hE hR hL hlo hz hc hT X
  obtain ⟨n1, n2, n3, n4, n5, n6, n7, n8, n9⟩ := id hco
  obtain ⟨o1', o2', o3', o4', o5', o6'⟩ := id hro
  have hcs := cat_sum G rest
  have hal := X₁.warmed.alike
  have hmk : (T.setVm vm').vm.method? mk = some methk := by rw [hal.method?]; exact n2
  have hnm : (T.setVm vm').methodNamed? (mNm M') = some mk := X₁.named n1
  have hpk : (T.setVm vm').plainMethod mk := State.plainMethod.of_named (by
    have := List.all_eq_true.mp mt_e M' (List.mem_range.mpr hM')
    exact this) hnm hmk
  generalize hgg : F0 m pc rls (rest.map (rv G)) = g at hstep
  have hgm : g.method = m := by rw [← hgg]
  have hgs : g.locals.size = c.maxLocals := by rw [← hgg, hml]; exact hL.2.1
  have hgp : g.pc = pc := by rw [← hgg]
  have hgst : g.stack = rest.map (rv G) := by rw [← hgg]
  have hgmr : g.monitorRoom = 0 := by rw [← hgg]
  have hdg' : decode c.code g.pc = .ok (ig, 3) := by rw [hb, hgp]; exact hdg
  obtain ⟨Xc, hdo⟩ := X₁.into (g := g) hgm hgs hdg' (as.map (rv G)).toArray (R' := { frames := R.frames - 1, locals := R.locals - 80, cells := R.cells - cells, slots := R.slots - slots }) hmk n3 n7 hpk
    (show R.frames - 1 + 1 ≤ R.frames by omega) (by rw [hgmr, hgst, n5]; show 2 * 0 + _ + _ + (R.locals - 80) ≤ R.locals; omega) (show cells + (R.cells - cells) ≤ R.cells by omega) (show slots + (R.slots - slots) ≤ R.slots by omega)
  generalize hs' : (T.setVm vm').calling g mk (as.map (rv G)).toArray = s' at Xc
  have hvm' : s'.vm = vm' := by rw [← hs']; rfl
  have hhp' : s'.heap = H := by rw [← hs']; exact hT
  have hW' : s.WarmedH s'.vm := by rw [hvm']; exact X₁.warmed
  have hES' : ES G s' := hES.moved hW' (by rw [hhp']; exact hz) (by rw [hhp']; exact hR.2.2.1)
  have hMC : MC p G M' s' mk methk ck := by
    refine ⟨hx, n4, n5, n6, n7, ?_, fun h2 => ?_, n8, hES'⟩
    · rw [hW'.alike.findClass, ← f1]
      exact findClass_of_methodNamed n1
    · have h3 := List.all_eq_true.mp mt_d M' (List.mem_range.mpr hM')
      simp only [Bool.or_eq_true, bne_iff_ne, Bool.and_eq_true, decide_eq_true_eq] at h3
      obtain ⟨-, -, y3⟩ := h3.resolve_left (by omega)
      rw [(name_of_methodNamed n1 n2).1]
      exact y3
  have hent : entryFrame mk (as.map (rv G)).toArray ck.maxLocals = F0 mk 0 (((as.map (rv G)).map Slot.val ++ List.replicate (mMax M' - (as.map (rv G)).length) Slot.unset).toArray) [] := by
    rw [n5]
    exact entry_eq mk (as.map (rv G)) (all_okArg hok G) (mMax M')
  have hrun := h1 { frames := R.frames - 1, locals := R.locals - 80, cells := R.cells - cells, slots := R.slots - slots } s' mk (as.map (rv G)).toArray (.java g :: below) methk ck H [] 0 0 (((as.map (rv G)).map Slot.val ++ List.replicate (mMax M' - (as.map (rv G)).length) Slot.unset).toArray)
    hMC hR (RLs.entry hok (by omega)) (fun q hq => nomatch hq) ⟨show 0 + (capT - μ.2.2.2.1) + (capX - μ.2.2.2.2) ≤ R.cells - cells by omega, show 0 + 1500 * (capT - μ.2.2.2.1) + 6 * (capX - μ.2.2.2.2) ≤ R.slots - slots by omega, show d + 8 ≤ R.frames - 1 by omega, show 80 * d + 200 ≤ R.locals - 80 by omega, o5', o6'⟩ (by rw [hhp']; exact Nat.le_refl _)
  obtain ⟨t, hsteps, r1, r2, ⟨L, k9, n0, r3, r4, ⟨q1, q2, q3, q4, q5, q6⟩⟩, r5, r6⟩ := hrun _ (by exact hT) Xc
  have hup := stepsUp hsteps
  have q1 : k9 + (capT - μ1.2.2.2.1) + (capX - μ1.2.2.2.2) ≤ R.cells - cells := q1
  have q2 : n0 + 1500 * (capT - μ1.2.2.2.1) + 6 * (capX - μ1.2.2.2.2) ≤ R.slots - slots := q2
  have hgo : ∀ acts, Steps p.tables e below (doInvoke e ((T.setVm vm').setTop g) acts mk (as.map (rv G)).toArray).1 t := fun acts => by
    rw [hent] at hup hdo
    rw [hdo acts]
    exact hup
  have hgrow := (vx_frame r3).1
  rw [hhp'] at hgrow
  have hro1 : RoomOK R (cells + k9) (slots + n0) μ1 (d + 1) := ⟨by omega, by omega, o3', o4', q5, q6⟩
  have hlo1 : LocOK G (locs ++ L) := fun q hq => (List.mem_append.mp hq).elim (hlo q) (r4 q)
  cases o1 with
  | inl v =>
    dsimp only at h2
    subst hs'
    obtain ⟨T', X', w1, w2, ht⟩ := X₁.outOf (g := g) hgm hdg' r6 r2 r3
    have hT' : T'.heap = t.heap := by rw [ht]; rfl
    obtain ⟨t2, st2, hq2⟩ := h2 R s m args below meth c T'.heap (locs ++ L) (cells + k9) (slots + n0) rls hM (by rw [hT']; exact r5) hL hlo1 hro1 (by rw [hT']; omega) T' rfl X'
    refine ⟨t2, hstep t2 (fun acts => (hgo acts).trans ?_), hq2⟩
    rw [ht, ← hgg]
    have hmap : (v.map (rv G)).toList ++ rest.map (rv G) = (v.toList ++ rest).map (rv G) := by cases v <;> simp
    show Steps p.tables e below (T'.setTop (F0 m (pc + 3) rls ((v.map (rv G)).toList ++ rest.map (rv G)))) t2
    rw [hmap]
    exact st2
  | inr k =>
    dsimp only at h2
    obtain ⟨q, ce, hend, hce, hv, hcl⟩ := r6
    rw [hW'.alike.findClass] at hcl
    subst hs'
    obtain ⟨T', X', w1, w2, ht⟩ := X₁.outOfThrown (g := g) hgm hend r2 r3
    have hT' : T'.heap = t.heap := by rw [ht]; rfl
    cases hh : hnd M pc k with
    | some v =>
      rw [hh] at h2
      obtain ⟨rfl, rfl⟩ := h2
      have hcat := wrapper_catch (l := l) (e := e) (R := R) (args := args) (below := below) (H := t.heap) (locs := locs ++ L) (cells := cells + k9) (slots := slots + n0) (rls := rls) (d := d + 1) (rest := rest.map (rv G)) hC hM r5 hlo1 hro1 hL.2.1 hL.2.2.1 hh hce hv hcl
      obtain ⟨t2, st2, hq2⟩ := hcat T' hT' X'
      refine ⟨t2, hstep t2 (fun acts => (hgo acts).trans ?_), hq2⟩
      rw [ht, ← hgg]
      exact st2
    | none =>
      rw [hh] at h2
      obtain ⟨hsm, rfl, rfl⟩ := h2
      obtain ⟨st1, g1, g2, g3, g4⟩ := X'.leaveThrown q (g := g) hgm (by rw [← hgg]) (by rw [← hgg]) (fun x hx => by rw [hext, hw_small hsm] at hx; cases hx) hlocks
      refine ⟨_, hstep _ (fun acts => (hgo acts).trans (by rw [ht]; exact st1)), g1, g3, ⟨locs ++ L, cells + k9, slots + n0, g4, hlo1, hro1⟩, by show RelH G μ' T'.heap; rw [hT']; exact r5, q, ce, g2, by show T'.heap[q]? = _; rw [hT']; exact hce, hv, hcl⟩
theorem sound (hl : l.stackTraces = false) (hC : CG G) : ∀ (n d M pc : Nat) (ls st : List Value) (μ : PM) (o : POut) (μ' : PM), M < 363 → prun n d M pc ls st μ = some (o, μ') → Snd p l e G d M pc ls st μ o μ' := by
  intro n
  induction n with
  | zero => intro d M pc ls st μ o μ' _ h; simp [prun] at h
  | succ n ih =>
    intro d M pc ls st μ o μ' hM h
    rw [prun] at h
    cases hf : fetch M pc with
    | none => rw [hf] at h; cases h
    | some x =>
      obtain ⟨len, idx, i⟩ := x
      rw [hf] at h
      dsimp only at h
      have hin := fetch_in hf
      have hE := tab_ok hin
      obtain ⟨hre, hpf⟩ := ret_pf hM hin
      cases hc : pcl i st μ with
      | some y =>
        obtain ⟨M', as, rest⟩ := y
        rw [hc] at h
        dsimp only at h
        cases d with
        | zero => cases h
        | succ d' =>
          dsimp only at h
          cases hr : prun n d' M' 0 (entL M' as) [] μ with
          | none => rw [hr] at h; cases h
          | some q =>
            rw [hr] at h
            obtain ⟨o1, μ1⟩ := q
            have hM' : M' < 363 := by have := (pcl_inv hc).1; omega
            refine snd_call hl hC hE hc (ih _ _ _ _ _ _ _ _ hM' hr) ?_
            cases o1 with
            | inl v => exact ih _ _ _ _ _ _ _ _ hM h
            | inr k =>
              dsimp only at h ⊢
              cases hh : hnd M pc k with
              | some v => rw [hh] at h; cases h; exact ⟨rfl, rfl⟩
              | none =>
                rw [hh] at h
                dsimp only at h ⊢
                split at h
                · rename_i hb; cases h; exact ⟨hb, rfl, rfl⟩
                · cases h
      | none =>
        rw [hc] at h
        dsimp only at h
        intro R s m args below meth c H locs cells slots rls hMC hR hL hlo hro hz
        cases hp : pfin M i st μ with
        | some q =>
          rw [hp] at h
          cases h
          exact fin_all hl hC hMC hE hre hR hL.2.1 hlo hro hz hp
        | none =>
          rw [hp] at h
          dsimp only at h
          cases hs : pst i pc len ls st μ with
          | none => rw [hs] at h; cases h
          | some q =>
            obtain ⟨pc', ls', st', μ1⟩ := q
            rw [hs] at h
            dsimp only at h
            exact stp_all hC hMC hE hpf hR hL hlo hro hz hs (fun H' locs' cells' slots' rls' a1 a2 a3 a4 a5 => ih _ _ _ _ _ _ _ _ hM h R s m args below meth c H' locs' cells' slots' rls' hMC a1 a2 a3 a4 a5)
end Big
