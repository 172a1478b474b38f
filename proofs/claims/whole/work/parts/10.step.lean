/-! ONE INSTRUCTION -/
theorem okE_spec {o : Nat} {b : ByteArray} {pc len idx : Nat} {i : Instr} (h : okE o b (pc, len, idx, i) = true) (hr : isRet i = false) : decode b pc = .ok (unl pc idx i, len) ∧ lnk o idx i = true ∧ okT i = true ∧ (isSw i = true ∨ stdLen i = len) := by
  unfold okE at h
  simp only [Bool.and_eq_true] at h
  obtain ⟨h1, h2, h3, h4⟩ := h
  cases hd : decode b pc with
  | error e => rw [hd] at h1; cases h1
  | ok q =>
    obtain ⟨i', n⟩ := q
    rw [hd] at h1
    simp only [Bool.and_eq_true, decide_eq_true_eq, Bool.or_eq_true, beq_iff_eq, hr, Bool.false_eq_true, or_false] at h1
    refine ⟨by rw [h1.1, h1.2], h2, h3, ?_⟩
    simpa [Bool.or_eq_true, beq_iff_eq] using h4
theorem pii_inv {pc : Nat} {ls st : List Value} {μ : PM} {f : Int32 → Int32 → Int32} {q : Nat × List Value × List Value × PM} (h : pii pc ls st μ f = some q) : ∃ y x r, st = .int y :: .int x :: r ∧ q = (pc, ls, .int (f x y) :: r, μ) := by
  unfold pii pnx at h
  split at h
  · cases h; exact ⟨_, _, _, rfl, rfl⟩
  · cases h
theorem pij_inv {pc : Nat} {ls st : List Value} {μ : PM} {f : Int64 → Int64 → Int64} {q : Nat × List Value × List Value × PM} (h : pij pc ls st μ f = some q) : ∃ y x r, st = .long y :: .long x :: r ∧ q = (pc, ls, .long (f x y) :: r, μ) := by
  unfold pij pnx at h
  split at h
  · cases h; exact ⟨_, _, _, rfl, rfl⟩
  · cases h
theorem pld_inv {pc k : Nat} {ls st : List Value} {μ : PM} {q : Nat × List Value × List Value × PM} (h : pld pc ls st μ k = some q) : ∃ x, ls[k]? = some (.int x) ∧ q = (pc, ls, .int x :: st, μ) := by
  unfold pld pnx at h
  split at h
  · rename_i hk; cases h; exact ⟨_, hk, rfl⟩
  · cases h
theorem pll_inv {pc k : Nat} {ls st : List Value} {μ : PM} {q : Nat × List Value × List Value × PM} (h : pll pc ls st μ k = some q) : ∃ x, ls[k]? = some (.long x) ∧ q = (pc, ls, .long x :: st, μ) := by
  unfold pll pnx at h
  split at h
  · rename_i hk; cases h; exact ⟨_, hk, rfl⟩
  · cases h
theorem plr_inv {pc k : Nat} {ls st : List Value} {μ : PM} {q : Nat × List Value × List Value × PM} (h : plr pc ls st μ k = some q) : ∃ x, ls[k]? = some (.ref x) ∧ q = (pc, ls, .ref x :: st, μ) := by
  unfold plr pnx at h
  split at h
  · rename_i hk; cases h; exact ⟨_, hk, rfl⟩
  · cases h
theorem psi_inv {pc k : Nat} {ls st : List Value} {μ : PM} {q : Nat × List Value × List Value × PM} (h : psi pc ls st μ k = some q) : ∃ x r l, st = .int x :: r ∧ lst1 ls k (.int x) = some l ∧ q = (pc, l, r, μ) := by
  unfold psi at h
  split at h
  · obtain ⟨l, h1, h2⟩ := Option.map_eq_some_iff.mp h
    exact ⟨_, _, l, rfl, h1, h2.symm⟩
  · cases h
theorem psr_inv {pc k : Nat} {ls st : List Value} {μ : PM} {q : Nat × List Value × List Value × PM} (h : psr pc ls st μ k = some q) : ∃ x r l, st = .ref x :: r ∧ lst1 ls k (.ref x) = some l ∧ q = (pc, l, r, μ) := by
  unfold psr at h
  split at h
  · obtain ⟨l, h1, h2⟩ := Option.map_eq_some_iff.mp h
    exact ⟨_, _, l, rfl, h1, h2.symm⟩
  · cases h
theorem psl_inv {pc k : Nat} {ls st : List Value} {μ : PM} {q : Nat × List Value × List Value × PM} (h : psl pc ls st μ k = some q) : ∃ x r l, st = .long x :: r ∧ lst2 ls k (.long x) = some l ∧ q = (pc, l, r, μ) := by
  unfold psl at h
  split at h
  · obtain ⟨l, h1, h2⟩ := Option.map_eq_some_iff.mp h
    exact ⟨_, _, l, rfl, h1, h2.symm⟩
  · cases h
theorem has4_of {l : List (Nat × Nat × Nat × Nat)} {o idx g : Nat} (h : has4 l o idx g = true) : ∃ ne, (o, idx, g, ne) ∈ l := by
  unfold has4 at h
  obtain ⟨e, he, hb⟩ := List.any_eq_true.mp h
  simp only [Bool.and_eq_true, beq_iff_eq] at hb
  obtain ⟨a, b, c, d⟩ := e
  obtain ⟨rfl, rfl, rfl⟩ := hb
  exact ⟨d, he⟩
theorem has3_of {l : List (Nat × Nat × Nat)} {o idx g : Nat} (h : has3 l o idx g = true) : (o, idx, g) ∈ l := by
  unfold has3 at h
  obtain ⟨e, he, hb⟩ := List.any_eq_true.mp h
  simp only [Bool.and_eq_true, beq_iff_eq] at hb
  obtain ⟨a, b, c⟩ := e
  obtain ⟨rfl, rfl, rfl⟩ := hb
  exact he
theorem hasC_of {l : List (Nat × Nat × Nat × Cond)} {o idx g : Nat} (h : hasC l o idx g = true) : ∃ q, (o, idx, g, q) ∈ l := by
  unfold hasC at h
  obtain ⟨e, he, hb⟩ := List.any_eq_true.mp h
  simp only [Bool.and_eq_true, beq_iff_eq] at hb
  obtain ⟨a, b, c, d⟩ := e
  obtain ⟨rfl, rfl, rfl⟩ := hb
  exact ⟨d, he⟩
/-- instructions that touch the heap, the tables or make things -/
def isHp (i : Instr) : Bool := match i with
  | .getfield _ => true
  | .putfield _ => true
  | .getstatic _ => true
  | .ldc _ => true
  | .ldc_w _ => true
  | .ldc2_w _ => true
  | .iaload => true
  | .baload => true
  | .laload => true
  | .aaload => true
  | .iastore => true
  | .lastore => true
  | .aastore => true
  | .arraylength => true
  | .new _ => true
  | .newarray _ => true
  | .anewarray _ => true
  | .multianewarray _ _ => true
  | .monitorexit => true
  | .monitorenter => true
  | _ => false
theorem plu_off {dflt : Int} {pc : Nat} {x : Int32} (hd : 0 ≤ dflt) : ∀ (l : List (Int × Int)), l.all (fun q => decide (0 ≤ q.2)) = true → Op.lookupswitch.offset (l.map (fun q => (q.1, q.2 - (pc : Int)))) (dflt - (pc : Int)) x.toInt = ((plu dflt l x : Nat) : Int) - (pc : Int)
  | [], _ => by
    rw [List.map_nil, Op.lookupswitch.offset_nil]
    show dflt - (pc : Int) = ((dflt.toNat : Nat) : Int) - (pc : Int)
    omega
  | (a, o) :: r, h => by
    simp only [List.all_cons, Bool.and_eq_true, decide_eq_true_eq] at h
    rw [List.map_cons, Op.lookupswitch.offset_cons]
    unfold plu
    by_cases q : x.toInt = a
    · rw [if_pos (by first | exact q | exact q.symm), if_pos q]
      have := h.1
      omega
    · rw [if_neg (by first | exact q | exact fun z => q z.symm), if_neg q]
      exact plu_off hd r h.2
section Stp
variable {p : Program} {l : Launch} {e : Env} {R : Room} {s : State} {m : MethodId} {args : Array Value} {below : List Frame} {meth : Method} {c : Code} {H : Heap} {locs : List Loc} {cells slots : Nat} {Q : State → Prop} {G : GP} {M : Nat} {rls : Array Slot} {μ μ' : PM} {pc len idx pc' d : Nat} {ls st ls' st' : List Value}
/-- going on behind an instruction -/
def Kk (p : Program) (l : Launch) (e : Env) (R : Room) (s : State) (m : MethodId) (args : Array Value) (below : List Frame) (meth : Method) (c : Code) (Q : State → Prop) (G : GP) (M d : Nat) (q : Nat × List Value × List Value × PM) : Prop :=
  ∀ (H' : Heap) (locs' : List Loc) (cells' slots' : Nat) (rls' : Array Slot), RelH G q.2.2.2 H' → RLs G q.2.1 rls' (mMax M) → LocOK G locs' → RoomOK R cells' slots' q.2.2.2 d → s.heap.size ≤ H'.size → W p l e R s m args below meth c H' locs' cells' slots' Q (F0 m q.1 rls' (q.2.2.1.map (rv G)))
/-- an instruction that touches the locals and the stack alone -/
def Tight (G : GP) (M : Nat) (μ : PM) (ls : List Value) (rls : Array Slot) : Prop := RLs G ls rls (mMax M)
set_option maxHeartbeats 4000000 in
theorem stp_pure {i : Instr} {q : Nat × List Value × List Value × PM} (hC : CG G) (hM : MC p G M s m meth c) (hE : okE (mOwn M) (mCd M) (pc, len, idx, i) = true) (hR : RelH G μ H) (hL : RLs G ls rls (mMax M)) (hlo : LocOK G locs) (hro : RoomOK R cells slots μ d) (hz : s.heap.size ≤ H.size)
    (hi : isHp i = false) (hs : pst i pc len ls st μ = some q) (kk : Kk p l e R s m args below meth c Q G M d q) : W p l e R s m args below meth c H locs cells slots Q (F0 m pc rls (st.map (rv G))) := by
  obtain ⟨hx, hb, hml, -, -, hown, -, -, hES⟩ := hM
  cases i with
  | iconst n =>
    obtain ⟨hdc, hlk, hot, hsw⟩ := okE_spec hE rfl
    have hln := (hsw.resolve_left (by intro h; cases h)).symm
    simp only [stdLen] at hln
    subst hln
    cases hs
    exact lv_iconst hx hb hdc rfl (kk H locs cells slots rls hR hL hlo hro hz)
  | bipush n =>
    obtain ⟨hdc, hlk, hot, hsw⟩ := okE_spec hE rfl
    have hln := (hsw.resolve_left (by intro h; cases h)).symm
    simp only [stdLen] at hln
    subst hln
    cases hs
    exact lv_bipush hx hb hdc rfl (kk H locs cells slots rls hR hL hlo hro hz)
  | sipush n =>
    obtain ⟨hdc, hlk, hot, hsw⟩ := okE_spec hE rfl
    have hln := (hsw.resolve_left (by intro h; cases h)).symm
    simp only [stdLen] at hln
    subst hln
    cases hs
    exact lv_sipush hx hb hdc rfl (kk H locs cells slots rls hR hL hlo hro hz)
  | lconst n =>
    obtain ⟨hdc, hlk, hot, hsw⟩ := okE_spec hE rfl
    have hln := (hsw.resolve_left (by intro h; cases h)).symm
    simp only [stdLen] at hln
    subst hln
    cases hs
    exact lv_lconst hx hb hdc rfl (kk H locs cells slots rls hR hL hlo hro hz)
  | iload k =>
    obtain ⟨hdc, hlk, hot, hsw⟩ := okE_spec hE rfl
    have hln := (hsw.resolve_left (by intro h; cases h)).symm
    simp only [stdLen] at hln
    subst hln
    obtain ⟨x, hk, rfl⟩ := pld_inv hs
    exact lv_iload hx hb hdc (hL.at hk rfl) (kk H locs cells slots rls hR hL hlo hro hz)
  | iload_n k =>
    obtain ⟨hdc, hlk, hot, hsw⟩ := okE_spec hE rfl
    have hln := (hsw.resolve_left (by intro h; cases h)).symm
    simp only [stdLen] at hln
    subst hln
    obtain ⟨x, hk, rfl⟩ := pld_inv hs
    exact lv_iload_n hx hb hdc rfl (hL.at hk rfl) (kk H locs cells slots rls hR hL hlo hro hz)
  | lload k =>
    obtain ⟨hdc, hlk, hot, hsw⟩ := okE_spec hE rfl
    have hln := (hsw.resolve_left (by intro h; cases h)).symm
    simp only [stdLen] at hln
    subst hln
    obtain ⟨x, hk, rfl⟩ := pll_inv hs
    exact lv_lload hx hb hdc (hL.at hk rfl) (kk H locs cells slots rls hR hL hlo hro hz)
  | lload_n k =>
    obtain ⟨hdc, hlk, hot, hsw⟩ := okE_spec hE rfl
    have hln := (hsw.resolve_left (by intro h; cases h)).symm
    simp only [stdLen] at hln
    subst hln
    obtain ⟨x, hk, rfl⟩ := pll_inv hs
    exact lv_lload_n hx hb hdc rfl (hL.at hk rfl) (kk H locs cells slots rls hR hL hlo hro hz)
  | aload k =>
    obtain ⟨hdc, hlk, hot, hsw⟩ := okE_spec hE rfl
    have hln := (hsw.resolve_left (by intro h; cases h)).symm
    simp only [stdLen] at hln
    subst hln
    obtain ⟨x, hk, rfl⟩ := plr_inv hs
    have h1 := hL.at hk rfl
    have K := kk H locs cells slots rls hR hL hlo hro hz
    change W p l e R s m args below meth c H locs cells slots Q (F0 m (pc + 2) rls (va_rf (gAd G x) :: st.map (rv G))) at K
    change rls[k]? = some (.val (va_rf (gAd G x))) at h1
    cases ha : gAd G x with
    | none => rw [ha] at h1 K; exact lv_aloadN hx hb hdc h1 K
    | some a => rw [ha] at h1 K; exact lv_aload hx hb hdc h1 K
  | aload_n k =>
    obtain ⟨hdc, hlk, hot, hsw⟩ := okE_spec hE rfl
    have hln := (hsw.resolve_left (by intro h; cases h)).symm
    simp only [stdLen] at hln
    subst hln
    obtain ⟨x, hk, rfl⟩ := plr_inv hs
    have h1 := hL.at hk rfl
    have K := kk H locs cells slots rls hR hL hlo hro hz
    change W p l e R s m args below meth c H locs cells slots Q (F0 m (pc + 1) rls (va_rf (gAd G x) :: st.map (rv G))) at K
    change rls[(k : Nat)]? = some (.val (va_rf (gAd G x))) at h1
    cases ha : gAd G x with
    | none => rw [ha] at h1 K; exact lv_aload_nN hx hb hdc rfl h1 K
    | some a => rw [ha] at h1 K; exact lv_aload_n hx hb hdc rfl h1 K
  | istore k =>
    obtain ⟨hdc, hlk, hot, hsw⟩ := okE_spec hE rfl
    have hln := (hsw.resolve_left (by intro h; cases h)).symm
    simp only [stdLen] at hln
    subst hln
    obtain ⟨x, r, lx, rfl, hk, rfl⟩ := psi_inv hs
    exact lv_istore hx hb hdc hL.has (by have := lst1_lt hk; have := hL.1; omega) rfl (fun ls9 hl9 => kk H locs cells slots ls9 hR (hL.st1 hk rfl rfl hl9) hlo hro hz)
  | istore_n k =>
    obtain ⟨hdc, hlk, hot, hsw⟩ := okE_spec hE rfl
    have hln := (hsw.resolve_left (by intro h; cases h)).symm
    simp only [stdLen] at hln
    subst hln
    obtain ⟨x, r, lx, rfl, hk, rfl⟩ := psi_inv hs
    exact lv_istore_n hx hb hdc rfl hL.has (by have := lst1_lt hk; have := hL.1; omega) rfl (fun ls9 hl9 => kk H locs cells slots ls9 hR (hL.st1 hk rfl rfl hl9) hlo hro hz)
  | lstore k =>
    obtain ⟨hdc, hlk, hot, hsw⟩ := okE_spec hE rfl
    have hln := (hsw.resolve_left (by intro h; cases h)).symm
    simp only [stdLen] at hln
    subst hln
    obtain ⟨x, r, lx, rfl, hk, rfl⟩ := psl_inv hs
    exact lv_lstore hx hb hdc hL.has (by have := lst2_lt hk; have := hL.1; omega) rfl (fun ls9 hl9 => kk H locs cells slots ls9 hR (hL.st2 hk rfl hl9) hlo hro hz)
  | lstore_n k =>
    obtain ⟨hdc, hlk, hot, hsw⟩ := okE_spec hE rfl
    have hln := (hsw.resolve_left (by intro h; cases h)).symm
    simp only [stdLen] at hln
    subst hln
    obtain ⟨x, r, lx, rfl, hk, rfl⟩ := psl_inv hs
    exact lv_lstore_n hx hb hdc rfl hL.has (by have := lst2_lt hk; have := hL.1; omega) rfl (fun ls9 hl9 => kk H locs cells slots ls9 hR (hL.st2 hk rfl hl9) hlo hro hz)
  | astore k =>
    obtain ⟨hdc, hlk, hot, hsw⟩ := okE_spec hE rfl
    have hln := (hsw.resolve_left (by intro h; cases h)).symm
    simp only [stdLen] at hln
    subst hln
    obtain ⟨x, r, lx, rfl, hk, rfl⟩ := psr_inv hs
    have hlt : (k : Nat) < mMax M := by have := lst1_lt hk; have := hL.1; omega
    have K : ∀ ls9 : Array Slot, lv_has ls9 (mMax M) (((k : Nat), rv G (.ref x)) :: (lvl G ls).filter (fun q => !(q.1 == (k : Nat)) && !(q.1 + 1 == (k : Nat) && q.2.category == 2))) → W p l e R s m args below meth c H locs cells slots Q (F0 m (pc + 2) ls9 (r.map (rv G))) := fun ls9 hl9 => kk H locs cells slots ls9 hR (hL.st1 hk rfl rfl hl9) hlo hro hz
    change W p l e R s m args below meth c H locs cells slots Q (F0 m pc rls (va_rf (gAd G x) :: r.map (rv G)))
    change ∀ ls9 : Array Slot, lv_has ls9 (mMax M) (((k : Nat), va_rf (gAd G x)) :: _) → _ at K
    cases ha : gAd G x with
    | none => rw [ha] at K; exact lv_astoreN hx hb hdc hL.has hlt rfl K
    | some a => rw [ha] at K; exact lv_astore hx hb hdc hL.has hlt rfl K
  | astore_n k =>
    obtain ⟨hdc, hlk, hot, hsw⟩ := okE_spec hE rfl
    have hln := (hsw.resolve_left (by intro h; cases h)).symm
    simp only [stdLen] at hln
    subst hln
    obtain ⟨x, r, lx, rfl, hk, rfl⟩ := psr_inv hs
    have hlt : (k : Nat) < mMax M := by have := lst1_lt hk; have := hL.1; omega
    have K : ∀ ls9 : Array Slot, lv_has ls9 (mMax M) (((k : Nat), rv G (.ref x)) :: (lvl G ls).filter (fun q => !(q.1 == (k : Nat)) && !(q.1 + 1 == (k : Nat) && q.2.category == 2))) → W p l e R s m args below meth c H locs cells slots Q (F0 m (pc + 1) ls9 (r.map (rv G))) := fun ls9 hl9 => kk H locs cells slots ls9 hR (hL.st1 hk rfl rfl hl9) hlo hro hz
    change W p l e R s m args below meth c H locs cells slots Q (F0 m pc rls (va_rf (gAd G x) :: r.map (rv G)))
    change ∀ ls9 : Array Slot, lv_has ls9 (mMax M) (((k : Nat), va_rf (gAd G x)) :: _) → _ at K
    cases ha : gAd G x with
    | none => rw [ha] at K; exact lv_astore_nN hx hb hdc rfl hL.has hlt rfl K
    | some a => rw [ha] at K; exact lv_astore_n hx hb hdc rfl hL.has hlt rfl K
  | iinc k n =>
    obtain ⟨hdc, hlk, hot, hsw⟩ := okE_spec hE rfl
    have hln := (hsw.resolve_left (by intro h; cases h)).symm
    simp only [stdLen] at hln
    subst hln
    simp only [pst] at hs
    split at hs
    · rename_i x hk
      obtain ⟨lx, h1, rfl⟩ := Option.map_eq_some_iff.mp hs
      have hmem := lvl_mem (G := G) hk rfl
      obtain ⟨k9, hk9⟩ := List.getElem?_of_mem hmem
      exact lv_iinc hx hb hdc hL.has hk9 rfl (by have := lst1_lt h1; have := hL.1; omega) rfl (fun ls9 hl9 => kk H locs cells slots ls9 hR (hL.st1 h1 rfl rfl hl9) hlo hro hz)
    · cases hs
  | iadd =>
    obtain ⟨hdc, hlk, hot, hsw⟩ := okE_spec hE rfl
    have hln := (hsw.resolve_left (by intro h; cases h)).symm
    simp only [stdLen] at hln
    subst hln
    obtain ⟨y, x, r, rfl, rfl⟩ := pii_inv hs
    exact lv_iadd hx hb hdc (kk H locs cells slots rls hR hL hlo hro hz)
  | isub =>
    obtain ⟨hdc, hlk, hot, hsw⟩ := okE_spec hE rfl
    have hln := (hsw.resolve_left (by intro h; cases h)).symm
    simp only [stdLen] at hln
    subst hln
    obtain ⟨y, x, r, rfl, rfl⟩ := pii_inv hs
    exact lv_isub hx hb hdc (kk H locs cells slots rls hR hL hlo hro hz)
  | imul =>
    obtain ⟨hdc, hlk, hot, hsw⟩ := okE_spec hE rfl
    have hln := (hsw.resolve_left (by intro h; cases h)).symm
    simp only [stdLen] at hln
    subst hln
    obtain ⟨y, x, r, rfl, rfl⟩ := pii_inv hs
    exact lv_imul hx hb hdc (kk H locs cells slots rls hR hL hlo hro hz)
  | iand =>
    obtain ⟨hdc, hlk, hot, hsw⟩ := okE_spec hE rfl
    have hln := (hsw.resolve_left (by intro h; cases h)).symm
    simp only [stdLen] at hln
    subst hln
    obtain ⟨y, x, r, rfl, rfl⟩ := pii_inv hs
    exact lv_iand hx hb hdc (kk H locs cells slots rls hR hL hlo hro hz)
  | ior =>
    obtain ⟨hdc, hlk, hot, hsw⟩ := okE_spec hE rfl
    have hln := (hsw.resolve_left (by intro h; cases h)).symm
    simp only [stdLen] at hln
    subst hln
    obtain ⟨y, x, r, rfl, rfl⟩ := pii_inv hs
    exact lv_ior hx hb hdc (kk H locs cells slots rls hR hL hlo hro hz)
  | ixor =>
    obtain ⟨hdc, hlk, hot, hsw⟩ := okE_spec hE rfl
    have hln := (hsw.resolve_left (by intro h; cases h)).symm
    simp only [stdLen] at hln
    subst hln
    obtain ⟨y, x, r, rfl, rfl⟩ := pii_inv hs
    exact lv_ixor hx hb hdc (kk H locs cells slots rls hR hL hlo hro hz)
  | ishl =>
    obtain ⟨hdc, hlk, hot, hsw⟩ := okE_spec hE rfl
    have hln := (hsw.resolve_left (by intro h; cases h)).symm
    simp only [stdLen] at hln
    subst hln
    obtain ⟨y, x, r, rfl, rfl⟩ := pii_inv hs
    exact lv_ishl hx hb hdc (kk H locs cells slots rls hR hL hlo hro hz)
  | ishr =>
    obtain ⟨hdc, hlk, hot, hsw⟩ := okE_spec hE rfl
    have hln := (hsw.resolve_left (by intro h; cases h)).symm
    simp only [stdLen] at hln
    subst hln
    obtain ⟨y, x, r, rfl, rfl⟩ := pii_inv hs
    exact lv_ishr hx hb hdc (kk H locs cells slots rls hR hL hlo hro hz)
  | iushr =>
    obtain ⟨hdc, hlk, hot, hsw⟩ := okE_spec hE rfl
    have hln := (hsw.resolve_left (by intro h; cases h)).symm
    simp only [stdLen] at hln
    subst hln
    obtain ⟨y, x, r, rfl, rfl⟩ := pii_inv hs
    exact lv_iushr hx hb hdc rfl (kk H locs cells slots rls hR hL hlo hro hz)
  | ladd =>
    obtain ⟨hdc, hlk, hot, hsw⟩ := okE_spec hE rfl
    have hln := (hsw.resolve_left (by intro h; cases h)).symm
    simp only [stdLen] at hln
    subst hln
    obtain ⟨y, x, r, rfl, rfl⟩ := pij_inv hs
    exact lv_ladd hx hb hdc (kk H locs cells slots rls hR hL hlo hro hz)
  | lmul =>
    obtain ⟨hdc, hlk, hot, hsw⟩ := okE_spec hE rfl
    have hln := (hsw.resolve_left (by intro h; cases h)).symm
    simp only [stdLen] at hln
    subst hln
    obtain ⟨y, x, r, rfl, rfl⟩ := pij_inv hs
    exact lv_lmul hx hb hdc (kk H locs cells slots rls hR hL hlo hro hz)
  | idiv =>
    obtain ⟨hdc, hlk, hot, hsw⟩ := okE_spec hE rfl
    have hln := (hsw.resolve_left (by intro h; cases h)).symm
    simp only [stdLen] at hln
    subst hln
    simp only [pst] at hs
    split at hs
    · split at hs
      · cases hs
      · rename_i hne
        cases hs
        exact lv_idiv hx hb hdc hne (kk H locs cells slots rls hR hL hlo hro hz)
    · cases hs
  | irem =>
    obtain ⟨hdc, hlk, hot, hsw⟩ := okE_spec hE rfl
    have hln := (hsw.resolve_left (by intro h; cases h)).symm
    simp only [stdLen] at hln
    subst hln
    simp only [pst] at hs
    split at hs
    · split at hs
      · cases hs
      · rename_i hne
        cases hs
        exact lv_irem hx hb hdc hne (kk H locs cells slots rls hR hL hlo hro hz)
    · cases hs
  | ldiv =>
    obtain ⟨hdc, hlk, hot, hsw⟩ := okE_spec hE rfl
    have hln := (hsw.resolve_left (by intro h; cases h)).symm
    simp only [stdLen] at hln
    subst hln
    simp only [pst] at hs
    split at hs
    · split at hs
      · cases hs
      · rename_i hne
        cases hs
        exact lv_ldiv hx hb hdc hne (kk H locs cells slots rls hR hL hlo hro hz)
    · cases hs
  | lrem =>
    obtain ⟨hdc, hlk, hot, hsw⟩ := okE_spec hE rfl
    have hln := (hsw.resolve_left (by intro h; cases h)).symm
    simp only [stdLen] at hln
    subst hln
    simp only [pst] at hs
    split at hs
    · split at hs
      · cases hs
      · rename_i hne
        cases hs
        exact lv_lrem hx hb hdc hne (kk H locs cells slots rls hR hL hlo hro hz)
    · cases hs
  | ineg =>
    obtain ⟨hdc, hlk, hot, hsw⟩ := okE_spec hE rfl
    have hln := (hsw.resolve_left (by intro h; cases h)).symm
    simp only [stdLen] at hln
    subst hln
    simp only [pst] at hs
    split at hs
    · cases hs
      exact lv_ineg hx hb hdc (kk H locs cells slots rls hR hL hlo hro hz)
    · cases hs
  | i2l =>
    obtain ⟨hdc, hlk, hot, hsw⟩ := okE_spec hE rfl
    have hln := (hsw.resolve_left (by intro h; cases h)).symm
    simp only [stdLen] at hln
    subst hln
    simp only [pst] at hs
    split at hs
    · cases hs
      exact lv_i2l hx hb hdc rfl (kk H locs cells slots rls hR hL hlo hro hz)
    · cases hs
  | i2c =>
    obtain ⟨hdc, hlk, hot, hsw⟩ := okE_spec hE rfl
    have hln := (hsw.resolve_left (by intro h; cases h)).symm
    simp only [stdLen] at hln
    subst hln
    simp only [pst] at hs
    split at hs
    · cases hs
      exact lv_i2c hx hb hdc rfl (kk H locs cells slots rls hR hL hlo hro hz)
    · cases hs
  | lshl =>
    obtain ⟨hdc, hlk, hot, hsw⟩ := okE_spec hE rfl
    have hln := (hsw.resolve_left (by intro h; cases h)).symm
    simp only [stdLen] at hln
    subst hln
    simp only [pst] at hs
    split at hs
    · cases hs
      exact lv_lshl hx hb hdc rfl (kk H locs cells slots rls hR hL hlo hro hz)
    · cases hs
  | lcmp =>
    obtain ⟨hdc, hlk, hot, hsw⟩ := okE_spec hE rfl
    have hln := (hsw.resolve_left (by intro h; cases h)).symm
    simp only [stdLen] at hln
    subst hln
    simp only [pst] at hs
    split at hs
    · cases hs
      exact W.lcmp hx hb hdc (kk H locs cells slots rls hR hL hlo hro hz)
    · cases hs
  | dup =>
    obtain ⟨hdc, hlk, hot, hsw⟩ := okE_spec hE rfl
    have hln := (hsw.resolve_left (by intro h; cases h)).symm
    simp only [stdLen] at hln
    subst hln
    simp only [pst] at hs
    split at hs
    · cases hs
      exact lv_dup hx hb hdc rfl (kk H locs cells slots rls hR hL hlo hro hz)
    · cases hs
      exact lv_dup hx hb hdc (rv_cat G _) (kk H locs cells slots rls hR hL hlo hro hz)
    · cases hs
  | dup2 =>
    obtain ⟨hdc, hlk, hot, hsw⟩ := okE_spec hE rfl
    have hln := (hsw.resolve_left (by intro h; cases h)).symm
    simp only [stdLen] at hln
    subst hln
    simp only [pst] at hs
    split at hs
    · cases hs
      exact lv_dup2_2 hx hb hdc rfl (kk H locs cells slots rls hR hL hlo hro hz)
    · cases hs
      exact lv_dup2_11 hx hb hdc rfl (rv_cat G _) (kk H locs cells slots rls hR hL hlo hro hz)
    · cases hs
  | pop =>
    obtain ⟨hdc, hlk, hot, hsw⟩ := okE_spec hE rfl
    have hln := (hsw.resolve_left (by intro h; cases h)).symm
    simp only [stdLen] at hln
    subst hln
    simp only [pst] at hs
    split at hs
    · cases hs
      exact lv_pop hx hb hdc rfl (kk H locs cells slots rls hR hL hlo hro hz)
    · cases hs
  | ifCond cc t =>
    obtain ⟨hdc, hlk, hot, hsw⟩ := okE_spec hE rfl
    have hln := (hsw.resolve_left (by intro h; cases h)).symm
    simp only [stdLen] at hln
    subst hln
    simp only [okT, decide_eq_true_eq] at hot
    have htt : (pc : Int) + (t - (pc : Int)) = ((t.toNat : Nat) : Int) := by omega
    simp only [pst] at hs
    split at hs
    · rename_i x r
      cases cc with
      | eq =>
        by_cases hc : x = 0
        · simp only [pbr, hc, if_true, pnx] at hs
          cases hs
          exact lv_if_eq hx hb hdc htt (fun _ => kk H locs cells slots rls hR hL hlo hro hz) (fun q => absurd hc q)
        · simp only [pbr, hc, if_false, pnx] at hs
          cases hs
          exact lv_if_eq hx hb hdc htt (fun q => absurd q hc) (fun _ => kk H locs cells slots rls hR hL hlo hro hz)
      | ne =>
        by_cases hc : x = 0
        · simp only [pbr, hc, if_true, pnx] at hs
          cases hs
          exact lv_if_ne hx hb hdc htt (fun q => absurd hc q) (fun _ => kk H locs cells slots rls hR hL hlo hro hz)
        · simp only [pbr, hc, if_false, pnx] at hs
          cases hs
          exact lv_if_ne hx hb hdc htt (fun _ => kk H locs cells slots rls hR hL hlo hro hz) (fun q => absurd q (by simpa using hc))
      | lt =>
        by_cases hc : x < 0
        · simp only [pbr, hc, if_true, pnx] at hs
          cases hs
          exact lv_if_lt hx hb hdc htt (fun _ => kk H locs cells slots rls hR hL hlo hro hz) (fun q => absurd hc q)
        · simp only [pbr, hc, if_false, pnx] at hs
          cases hs
          exact lv_if_lt hx hb hdc htt (fun q => absurd q hc) (fun _ => kk H locs cells slots rls hR hL hlo hro hz)
      | ge =>
        by_cases hc : 0 ≤ x
        · simp only [pbr, hc, if_true, pnx] at hs
          cases hs
          exact lv_if_ge hx hb hdc htt (fun _ => kk H locs cells slots rls hR hL hlo hro hz) (fun q => absurd hc q)
        · simp only [pbr, hc, if_false, pnx] at hs
          cases hs
          exact lv_if_ge hx hb hdc htt (fun q => absurd q hc) (fun _ => kk H locs cells slots rls hR hL hlo hro hz)
      | gt =>
        by_cases hc : 0 < x
        · simp only [pbr, hc, if_true, pnx] at hs
          cases hs
          exact lv_if_gt hx hb hdc htt (fun _ => kk H locs cells slots rls hR hL hlo hro hz) (fun q => absurd hc q)
        · simp only [pbr, hc, if_false, pnx] at hs
          cases hs
          exact lv_if_gt hx hb hdc htt (fun q => absurd q hc) (fun _ => kk H locs cells slots rls hR hL hlo hro hz)
      | le =>
        by_cases hc : x ≤ 0
        · simp only [pbr, hc, if_true, pnx] at hs
          cases hs
          exact lv_if_le hx hb hdc htt (fun _ => kk H locs cells slots rls hR hL hlo hro hz) (fun q => absurd hc q)
        · simp only [pbr, hc, if_false, pnx] at hs
          cases hs
          exact lv_if_le hx hb hdc htt (fun q => absurd q hc) (fun _ => kk H locs cells slots rls hR hL hlo hro hz)
    · cases hs
  | if_icmp cc t =>
    obtain ⟨hdc, hlk, hot, hsw⟩ := okE_spec hE rfl
    have hln := (hsw.resolve_left (by intro h; cases h)).symm
    simp only [stdLen] at hln
    subst hln
    simp only [okT, decide_eq_true_eq] at hot
    have htt : (pc : Int) + (t - (pc : Int)) = ((t.toNat : Nat) : Int) := by omega
    simp only [pst] at hs
    split at hs
    · rename_i y x r
      cases cc with
      | eq =>
        by_cases hc : x = y
        · simp only [pbr, hc, if_true, pnx] at hs
          cases hs
          exact lv_icmp_eq hx hb hdc htt (fun _ => kk H locs cells slots rls hR hL hlo hro hz) (fun q => absurd hc q)
        · simp only [pbr, hc, if_false, pnx] at hs
          cases hs
          exact lv_icmp_eq hx hb hdc htt (fun q => absurd q hc) (fun _ => kk H locs cells slots rls hR hL hlo hro hz)
      | ne =>
        by_cases hc : x = y
        · simp only [pbr, hc, if_true, pnx] at hs
          cases hs
          exact lv_icmp_ne hx hb hdc htt (fun q => absurd hc q) (fun _ => kk H locs cells slots rls hR hL hlo hro hz)
        · simp only [pbr, hc, if_false, pnx] at hs
          cases hs
          exact lv_icmp_ne hx hb hdc htt (fun _ => kk H locs cells slots rls hR hL hlo hro hz) (fun q => absurd q (by simpa using hc))
      | lt =>
        by_cases hc : x < y
        · simp only [pbr, hc, if_true, pnx] at hs
          cases hs
          exact lv_icmp_lt hx hb hdc htt (fun _ => kk H locs cells slots rls hR hL hlo hro hz) (fun q => absurd hc q)
        · simp only [pbr, hc, if_false, pnx] at hs
          cases hs
          exact lv_icmp_lt hx hb hdc htt (fun q => absurd q hc) (fun _ => kk H locs cells slots rls hR hL hlo hro hz)
      | ge =>
        by_cases hc : y ≤ x
        · simp only [pbr, hc, if_true, pnx] at hs
          cases hs
          exact lv_icmp_ge hx hb hdc htt (fun _ => kk H locs cells slots rls hR hL hlo hro hz) (fun q => absurd hc q)
        · simp only [pbr, hc, if_false, pnx] at hs
          cases hs
          exact lv_icmp_ge hx hb hdc htt (fun q => absurd q hc) (fun _ => kk H locs cells slots rls hR hL hlo hro hz)
      | gt =>
        by_cases hc : y < x
        · simp only [pbr, hc, if_true, pnx] at hs
          cases hs
          exact lv_icmp_gt hx hb hdc htt (fun _ => kk H locs cells slots rls hR hL hlo hro hz) (fun q => absurd hc q)
        · simp only [pbr, hc, if_false, pnx] at hs
          cases hs
          exact lv_icmp_gt hx hb hdc htt (fun q => absurd q hc) (fun _ => kk H locs cells slots rls hR hL hlo hro hz)
      | le =>
        by_cases hc : x ≤ y
        · simp only [pbr, hc, if_true, pnx] at hs
          cases hs
          exact lv_icmp_le hx hb hdc htt (fun _ => kk H locs cells slots rls hR hL hlo hro hz) (fun q => absurd hc q)
        · simp only [pbr, hc, if_false, pnx] at hs
          cases hs
          exact lv_icmp_le hx hb hdc htt (fun q => absurd q hc) (fun _ => kk H locs cells slots rls hR hL hlo hro hz)
    · cases hs
  | goto t =>
    obtain ⟨hdc, hlk, hot, hsw⟩ := okE_spec hE rfl
    have hln := (hsw.resolve_left (by intro h; cases h)).symm
    simp only [stdLen] at hln
    subst hln
    simp only [okT, decide_eq_true_eq] at hot
    have htt : (pc : Int) + (t - (pc : Int)) = ((t.toNat : Nat) : Int) := by omega
    cases hs
    exact lv_goto hx hb hdc htt (kk H locs cells slots rls hR hL hlo hro hz)
  | tableswitch dflt lo hi offs =>
    obtain ⟨hdc, hlk, hot, hsw⟩ := okE_spec hE rfl
    simp only [okT, Bool.and_eq_true, decide_eq_true_eq] at hot
    obtain ⟨hd0, hof⟩ := hot
    simp only [pst] at hs
    split at hs
    · rename_i x r
      obtain ⟨t9, h1, rfl⟩ := Option.map_eq_some_iff.mp hs
      unfold ptb at h1
      split at h1
      · rename_i hout
        cases h1
        exact lv_tableOut hx hb hdc hout (by omega) (kk H locs cells slots rls hR hL hlo hro hz)
      · rename_i hin
        obtain ⟨t8, h2, rfl⟩ := Option.map_eq_some_iff.mp h1
        have h0 : 0 ≤ t8 := by
          have hm := Array.mem_of_getElem? h2
          have := List.all_eq_true.mp hof t8 (by simpa using hm)
          simpa using this
        refine lv_tableIn hx hb hdc (fun q => hin (Or.inl q)) (fun q => hin (Or.inr q)) (off := t8 - (pc : Int)) ?_ (by omega) (kk H locs cells slots rls hR hL hlo hro hz)
        rw [Array.getElem?_map, h2]
        rfl
    · cases hs
  | lookupswitch dflt ps =>
    obtain ⟨hdc, hlk, hot, hsw⟩ := okE_spec hE rfl
    simp only [okT, Bool.and_eq_true, decide_eq_true_eq] at hot
    obtain ⟨hd0, hof, hso⟩ := hot
    simp only [pst] at hs
    split at hs
    · rename_i x r
      cases hs
      refine lv_lookup hx hb hdc ?_ (off := ((plu dflt ps.toList x : Nat) : Int) - (pc : Int)) ?_ (by omega) (kk H locs cells slots rls hR hL hlo hro hz)
      · rw [Array.toList_map, ← List.map_drop, List.zip_map, List.all_map]
        exact hso
      · rw [Array.toList_map]
        exact plu_off hd0 ps.toList hof
    · cases hs
  | _ => first | (cases hi; done) | (cases hs; done) | (simp [pst] at hs; done)
end Stp
