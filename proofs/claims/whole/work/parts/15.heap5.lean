/-! OBJECT'S INIT, COPIES, ARRAYS OF ARRAYS -/
set_option maxRecDepth 100000 in
theorem lm_k0 : lmT.all (fun e => Nat.blt e.2.2.1 1000 || e.2.2.2 == 0) = true := by decide +kernel
set_option maxRecDepth 100000 in
set_option maxHeartbeats 4000000 in
theorem oi_pk : [Cond.code objectInit ⟨#[0xb1]⟩ 1 none] = pick [128] lw_tbl := by rfl
theorem oi_in : Cond.code objectInit ⟨#[0xb1]⟩ 1 none ∈ lw_tbl := pick_mem _ _ _ (oi_pk ▸ List.mem_singleton.mpr rfl)
theorem palN_succ (s : PS) : ∀ (n : Nat) (μ : PM), palN s (n + 1) μ = pal (palN s n μ) s
  | 0, _ => rfl
  | n + 1, μ => by
    show palN s (n + 1) (pal μ s) = pal (palN s n (pal μ s)) s
    exact palN_succ s n (pal μ s)
theorem palN_top (s : PS) : ∀ (n : Nat) (μ : PM), (palN s n μ).2.2.2.1 = μ.2.2.2.1 + n ∧ (palN s n μ).2.2.2.2 = μ.2.2.2.2
  | 0, _ => ⟨rfl, rfl⟩
  | n + 1, μ => by
    obtain ⟨h1, h2⟩ := palN_top s n (pal μ s)
    refine ⟨?_, h2⟩
    show (palN s n (pal μ s)).2.2.2.1 = _
    rw [h1]
    show μ.2.2.2.1 + 1 + n = _
    omega
theorem ext_get {H : Heap} {n q : Nat} (h : q < n) : (H.extract 0 n)[q]? = H[q]? := by
  rw [Array.getElem?_extract]
  by_cases hq : q < H.size
  · rw [if_pos (by omega)]; simp
  · rw [if_neg (by omega), Array.getElem?_eq_none (by omega)]
theorem RelH.extH {G : GP} {μ : PM} {H : Heap} (h : RelH G μ H) {H1 : Heap} (e : ∀ q : Nat, H1[q]? = H[q]?) : RelH G μ H1 := by
  have : H1 = H := Array.ext_getElem? e
  rw [this]
  exact h
/-- an array of rows that is made -/
theorem RelH.rows {G : GP} (hC : CG G) {μ : PM} {H F : Heap} {n k : Nat} (h : RelH G μ H) (hx : μ.2.2.2.2 = 0) (hz : F.size = H.size + 1 + n) (ho : ∀ q, q < H.size → F[q]? = H[q]?)
    (f2 : F[H.size]? = some (arrV (gA G 22) n (fun j => va_rf (if j < n then some (H.size + 1 + j) else none)))) (f3 : ∀ j, j < n → F[H.size + 1 + j]? = some (arrV (gA G 20) k (fun _ => .int 0))) :
    RelH G (palN (20, k, []) n (pal μ (22, n, (List.range n).map (fun j => .ref (μ.2.2.2.1 + 1 + j))))) F := by
  have h9 := h.2.2.2.1
  have hsz : H.size = gBs G + (μ.2.2.2.1 - 9) := h.2.2.2.2.2.1 hx
  have key : ∀ i, i ≤ n → RelH G (palN (20, k, []) i (pal μ (22, n, (List.range n).map (fun j => .ref (μ.2.2.2.1 + 1 + j))))) (F.extract 0 (H.size + 1 + i)) := by
    intro i
    induction i with
    | zero =>
      intro _
      refine h.new hx ?_ (fun q hq => by rw [ext_get (by omega)]; exact ho q hq) (by rw [Array.size_extract]; omega)
      have hsame : (pal μ (22, n, (List.range n).map (fun j => .ref (μ.2.2.2.1 + 1 + j)))).1 μ.2.2.2.1 = (22, n, (List.range n).map (fun j => .ref (μ.2.2.2.1 + 1 + j))) := upR_same _ _ _
      rw [enc_r (by rw [hsame]; exact Or.inl rfl), hsame]
      show (F.extract 0 (H.size + 1 + 0))[gBs G + (μ.2.2.2.1 - 9)]? = some (arrV (gA G 22) n (fun j => va_rf (encR G ((List.range n).map (fun j => .ref (μ.2.2.2.1 + 1 + j))) j)))
      rw [← hsz, ext_get (by omega), f2]
      congr 2
      funext j
      unfold encR
      rw [List.getElem?_map]
      by_cases hj : j < n
      · rw [List.getElem?_range hj, if_pos hj]
        show _ = va_rf (gAd G (μ.2.2.2.1 + 1 + j))
        rw [hC.1.2.1 _ (by omega)]
        congr 2
        omega
      · rw [List.getElem?_eq_none (by simpa using hj), if_neg hj]
        rfl
    | succ i ih =>
      intro hi
      have ih := ih (by omega)
      obtain ⟨t1, t2⟩ := palN_top (20, k, []) i (pal μ (22, n, (List.range n).map (fun j => .ref (μ.2.2.2.1 + 1 + j))))
      have t1 : (palN (20, k, []) i (pal μ (22, n, (List.range n).map (fun j => .ref (μ.2.2.2.1 + 1 + j))))).2.2.2.1 = μ.2.2.2.1 + 1 + i := t1
      rw [palN_succ]
      refine ih.new (by rw [t2]; exact hx) ?_ (fun q hq => ?_) (by rw [Array.size_extract, Array.size_extract]; omega)
      · generalize hm : palN (20, k, []) i (pal μ (22, n, (List.range n).map (fun j => .ref (μ.2.2.2.1 + 1 + j)))) = m9 at t1 ih
        have hsame : (pal m9 (20, k, [])).1 m9.2.2.2.1 = (20, k, []) := upR_same _ _ _
        have hsI : (pal m9 (20, k, [])).2.1 m9.2.2.2.1 = fun _ => 0 := upR_same _ _ _
        rw [enc_i (by rw [hsame]), hsame, hsI, t1]
        show (F.extract 0 (H.size + 1 + (i + 1)))[gBs G + (μ.2.2.2.1 + 1 + i - 9)]? = some (arrV (gA G 20) k (fun _ => .int 0))
        rw [show gBs G + (μ.2.2.2.1 + 1 + i - 9) = H.size + 1 + i by omega, ext_get (by omega)]
        exact f3 i (by omega)
      · rw [Array.size_extract] at hq
        rw [ext_get (by omega), ext_get (by omega)]
  refine RelH.extH (key n (Nat.le_refl n)) (fun q => ?_)
  by_cases hq : q < H.size + 1 + n
  · rw [ext_get hq]
  · rw [Array.getElem?_eq_none (by omega), Array.getElem?_eq_none (by rw [Array.size_extract]; omega)]
section Hp5
variable {p : Program} {l : Launch} {e : Env} {R : Room} {s : State} {m : MethodId} {args : Array Value} {below : List Frame} {meth : Method} {c : Code} {H : Heap} {locs : List Loc} {cells slots : Nat} {Q : State → Prop} {G : GP} {M : Nat} {rls : Array Slot} {μ μ' : PM} {pc len idx pc' d : Nat} {ls st ls' st' : List Value} {q : Nat × List Value × List Value × PM}
set_option maxHeartbeats 4000000 in
theorem hp_oi (hC : CG G) (hM : MC p G M s m meth c) (hE : okE (mOwn M) (mCd M) (pc, len, idx, .monitorexit) = true) (hR : RelH G μ H) (hL : RLs G ls rls (mMax M)) (hlo : LocOK G locs) (hro : RoomOK R cells slots μ d) (hz : s.heap.size ≤ H.size)
    (hs : pst .monitorexit pc len ls st μ = some q) (kk : Kk p l e R s m args below meth c Q G M d q) : W p l e R s m args below meth c H locs cells slots Q (F0 m pc rls (st.map (rv G))) := by
  obtain ⟨hx, hb, hml, -, -, hown, -, -, hES⟩ := hM
  obtain ⟨hdc, hlk, hot, hsw⟩ := okE_spec hE rfl
  have hln := (hsw.resolve_left (by intro h; cases h)).symm
  simp only [stdLen] at hln
  subst hln
  obtain ⟨ne, hne⟩ := has4_of hlk
  have hne0 : ne = 0 := by
    have := List.all_eq_true.mp lm_k0 _ hne
    simpa using this
  subst hne0
  have hl := hES.w (lmT_in _ hne) (mC_ok _ _ _ _) args
  have hl : (Cond.methodLink (cnS (mOwn M)) idx objectInit).before args s = true := hl
  simp only [pst] at hs
  split at hs
  · rename_i a r
    obtain ⟨a, rfl⟩ : ∃ y : Nat, y = a := ⟨a, rfl⟩
    split at hs
    · rename_i hk
      cases hs
      obtain ⟨o1, o2, o3, o4, o5, o6⟩ := id hro
      have hcs := cat_sum G r
      have K := kk H locs cells slots rls hR hL hlo hro hz
      change W p l e R s m args below meth c H locs cells slots Q (F0 m pc rls (rv G (.ref a) :: r.map (rv G)))
      rw [rv_new hC.1 hk.1]
      exact W.objInit hx hb hown hl (hES.w (xxT_in _ (by simp [xxT, xxT_0])) rfl args) (hES.w oi_in rfl args) (g := F0 m pc rls (.ref (gBs G + (a - 9)) :: r.map (rv G))) rfl (by rw [hml]; exact hL.2.1) rfl hdc (by omega) (by show 2 * 0 + _ + 12 ≤ _; have := hk.2; omega) K
    · cases hs
  · cases hs
set_option maxHeartbeats 4000000 in
theorem hp_copy (hC : CG G) (hM : MC p G M s m meth c) (hE : okE (mOwn M) (mCd M) (pc, len, idx, .monitorenter) = true) (hR : RelH G μ H) (hL : RLs G ls rls (mMax M)) (hlo : LocOK G locs) (hro : RoomOK R cells slots μ d) (hz : s.heap.size ≤ H.size)
    (hs : pst .monitorenter pc len ls st μ = some q) (kk : Kk p l e R s m args below meth c Q G M d q) : W p l e R s m args below meth c H locs cells slots Q (F0 m pc rls (st.map (rv G))) := by
  obtain ⟨hx, hb, hml, -, -, hown, -, -, hES⟩ := hM
  obtain ⟨hdc, hlk, hot, hsw⟩ := okE_spec hE rfl
  have hln := (hsw.resolve_left (by intro h; cases h)).symm
  simp only [stdLen] at hln
  subst hln
  obtain ⟨ne, hne⟩ := has4_of hlk
  have hne0 : ne = 0 := by
    have := List.all_eq_true.mp lm_k0 _ hne
    simpa using this
  subst hne0
  have hl := hES.w (lmT_in _ hne) (mC_ok _ _ _ _) args
  have hl : (Cond.methodLink (cnS (mOwn M)) idx arraycopyName).before args s = true := hl
  simp only [pst] at hs
  split at hs
  · rename_i n dp a sp b r
    obtain ⟨a, rfl⟩ : ∃ y : Nat, y = a := ⟨a, rfl⟩
    obtain ⟨b, rfl⟩ : ∃ y : Nat, y = b := ⟨b, rfl⟩
    split at hs
    · rename_i hk
      obtain ⟨k1, k2, ⟨h9, k4⟩, k5, k6, h1, h2, h3, h4, h5, k7⟩ := hk
      have h9 : (9 : Nat) ≤ a := h9
      cases hs
      obtain ⟨o1, o2, o3, o4, o5, o6⟩ := id hro
      have hcs := cat_sum G r
      have hnw : nativeFrameWords "java/lang/System" "arraycopy" 5 + 11 ≤ 100 := by decide
      have nn : ∀ z : Int32, ¬ z < 0 → z.toInt = (z.toNatClampNeg : Int) := by
        intro z hz
        have hz0 : (0 : Int) ≤ z.toInt := by
          have := Int32.not_lt.mp hz
          simpa using Int32.le_iff_toInt_le.mp this
        show z.toInt = ((z.toInt.toNat : Nat) : Int)
        omega
      change W p l e R s m args below meth c H locs cells slots Q (F0 m pc rls (.int n :: .int dp :: rv G (.ref a) :: .int sp :: rv G (.ref b) :: r.map (rv G)))
      have hat := hR.at h9 k4
      rw [enc_i k1] at hat
      have hc1 : H[gBs G + (a - 9)]? = some (arrV (gA G 20) (μ.1 a).2.1 (fun j => .int (μ.2.1 a j))) := hat
      have hsrc : ∃ (ab : Nat) (scr : Cell), rv G (.ref b) = .ref ab ∧ H[ab]? = some scr ∧ s.isArrayOf scr .int ∧ scr.vm ≠ .unknown ∧ (μ.1 b).2.1 ≤ scr.slots.size ∧ ∀ j : Nat, j < (μ.1 b).2.1 → scr.slots[j]? = some (.int (μ.2.1 b j)) := by
        rcases k5 with z | z
        · have hab := hR.at z k6
          rw [enc_i k2] at hab
          have hc0 : H[gBs G + (b - 9)]? = some (arrV (gA G 20) (μ.1 b).2.1 (fun j => .int (μ.2.1 b j))) := hab
          refine ⟨_, _, rv_new hC.1 z, hc0, (hES.2.1.2 0 _ (tyG G).1).1 _ _, ?_, ?_, fun j hj => arrV_read _ _ hj⟩
          · intro h
            cases h
          · rw [arrV_size]
            exact Nat.le_refl _
        · have z : b = 6 := z
          subst z
          obtain ⟨r1, r2⟩ := hR.2.2.2.2.2.2 6 (by omega)
          obtain ⟨scr, z1, z2, z3, z4, -, z6, z7⟩ := hES.2.2.2.2.2.2.2.1.1
          have hS := hR.S2 hES.2.2.2.1 hz hlo
          refine ⟨adr G 6, scr, rv_old hC (by omega), ?_, z2, z3, by rw [r1, hC.2.2.1]; exact z4, fun j hj => ?_⟩
          · rw [hS.2.1 _ (Array.getElem?_eq_some_iff.mp z1).1 z7]
            exact z1
          · rw [r1, hC.2.2.1] at hj
            rw [r2]
            exact z6 j hj
      obtain ⟨ab, scr, q1, q2, q3, q4, q5, q6⟩ := hsrc
      rw [q1, rv_new hC.1 h9]
      intro T hT X
      obtain ⟨hs6, k0, hk0, cm0, hkk0⟩ := q3
      obtain ⟨-, kk1, hk1, cm1, hkk1⟩ := (hES.2.1.2 0 _ (tyG G).1).1 (μ.1 a).2.1 (fun j => .int (μ.2.1 a j))
      obtain ⟨vm', X', step⟩ := X.arraycopy hx hown hl (hES.w (xxT_in _ (by simp [xxT, xxT_0])) rfl args) (hES.w (xxT_in _ (by simp [xxT, xxT_0])) rfl args) (hES.w (xxT_in _ (by simp [xxT, xxT_0])) rfl args) (src := ab) (dst := gBs G + (a - 9)) (cs := scr) (cd := arrV (gA G 20) (μ.1 a).2.1 (fun j => .int (μ.2.1 a j))) (srcPos := sp) (destPos := dp) (n := n) (by rw [hT]; exact q2) (by rw [hT]; exact hc1)
        hs6 (fun _ h => by cases h) q4 (fun h => by cases h) hk0 hk1 hkk0 hkk1 (by simp [refKind]) h1 h2 h3
        (by rw [nn sp h1, nn n h3]; omega)
        (by rw [nn dp h2, nn n h3, arrV_size]; omega)
        (fun vm₁ _ i hi => by
          have e : scr.slots.getD (sp.toNatClampNeg + i) .null = .int (μ.2.1 b (sp.toNatClampNeg + i)) := by
            rw [Array.getD_eq_getD_getElem?, q6 _ (by omega)]
            rfl
          refine ⟨?_, ?_⟩
          · rw [e]
            rfl
          · rw [e]
            exact trivial)
        (g := F0 m pc rls (.int n :: .int dp :: .ref (gBs G + (a - 9)) :: .int sp :: .ref ab :: r.map (rv G))) rfl (by rw [hml]; exact hL.2.1) (rest := r.map (rv G)) rfl (by rw [hb]; exact hdc) (by omega) (by show 2 * 0 + _ + _ ≤ _; omega)
      have e1 : copied scr (arrV (gA G 20) (μ.1 a).2.1 (fun j => .int (μ.2.1 a j))) sp dp n = arrV (gA G 20) (μ.1 a).2.1 (fun j => .int (va_cpy (μ.2.1 b) (μ.2.1 a) sp.toNatClampNeg dp.toNatClampNeg n.toNatClampNeg j)) := va_copiedX (fun z => .int z) scr (gA G 20) (μ.2.1 b) (μ.2.1 a) q6 h4
      rw [e1] at X' step
      have hlt : gBs G + (a - 9) < H.size := (Array.getElem?_eq_some_iff.mp hc1).1
      generalize hcl : arrV (gA G 20) (μ.1 a).2.1 (fun j => .int (va_cpy (μ.2.1 b) (μ.2.1 a) sp.toNatClampNeg dp.toNatClampNeg n.toNatClampNeg j)) = cl9 at X' step
      have hheap : ((T.setVm vm').setCell (gBs G + (a - 9)) cl9).heap = H.setIfInBounds (gBs G + (a - 9)) cl9 := by rw [← hT]; rfl
      obtain ⟨t, a1, b1⟩ := kk (H.setIfInBounds (gBs G + (a - 9)) cl9) _ cells slots rls (hR.put (c := a) (μ' := (μ.1, upR μ.2.1 a (va_cpy (μ.2.1 b) (μ.2.1 a) sp.toNatClampNeg dp.toNatClampNeg n.toNatClampNeg), μ.2.2)) h9 k4 rfl (fun b9 hb9 => enc_congr rfl (upR_ne hb9) rfl) (fun b9 hb9 => ⟨rfl, upR_ne (by omega)⟩) (by
          rw [enc_i (μ := (μ.1, upR μ.2.1 a (va_cpy (μ.2.1 b) (μ.2.1 a) sp.toNatClampNeg dp.toNatClampNeg n.toNatClampNeg), μ.2.2)) k1]
          show (H.setIfInBounds (gBs G + (a - 9)) cl9)[gBs G + (a - 9)]? = some (arrV (gA G 20) (μ.1 a).2.1 (fun j => .int (upR μ.2.1 a (va_cpy (μ.2.1 b) (μ.2.1 a) sp.toNatClampNeg dp.toNatClampNeg n.toNatClampNeg) a j)))
          rw [upR_same, hcl]
          simp [Array.getElem?_setIfInBounds, hlt]) (fun q9 hq9 => by simp [Array.getElem?_setIfInBounds, Ne.symm hq9]) (by simp)) hL (fun q9 hq9 => by
          rcases List.mem_append.mp hq9 with h | h
          · exact hlo q9 h
          · obtain ⟨z, -, hz9⟩ := List.mem_map.mp h
            rw [← hz9]
            show gBs G ≤ gBs G + (a - 9)
            omega) hro (by simp; exact hz) _ hheap X'
      exact ⟨t, step t a1, b1⟩
    · cases hs
  · cases hs
set_option maxHeartbeats 4000000 in
theorem hp_multi {k9 j9 : Nat} (hC : CG G) (hM : MC p G M s m meth c) (hE : okE (mOwn M) (mCd M) (pc, len, idx, .multianewarray k9 j9) = true) (hR : RelH G μ H) (hL : RLs G ls rls (mMax M)) (hlo : LocOK G locs) (hro : RoomOK R cells slots μ d) (hz : s.heap.size ≤ H.size)
    (hs : pst (.multianewarray k9 j9) pc len ls st μ = some q) (kk : Kk p l e R s m args below meth c Q G M d q) : W p l e R s m args below meth c H locs cells slots Q (F0 m pc rls (st.map (rv G))) := by
  obtain ⟨hx, hb, hml, -, -, hown, -, -, hES⟩ := hM
  obtain ⟨hdc, hlk, hot, hsw⟩ := okE_spec hE rfl
  have hln := (hsw.resolve_left (by intro h; cases h)).symm
  simp only [stdLen] at hln
  subst hln
  have hkj : k9 = 22 ∧ j9 = 2 := by
    unfold pst at hs
    split at hs <;> simp_all
  obtain ⟨rfl, rfl⟩ := hkj
  have hcl := hES.w (lnT_in _ (has3_of hlk)) rfl args
  simp only [pst] at hs
  split at hs
  · rename_i k n r
    split at hs
    · rename_i hk
      obtain ⟨k1, k2, k3, k4, k5, k6⟩ := hk
      cases hs
      obtain ⟨o1, o2, o3, o4, o5, o6⟩ := id hro
      have hsz : H.size = gBs G + (μ.2.2.2.1 - 9) := hR.2.2.2.2.2.1 k1
      have h9 := hR.2.2.2.1
      have hmul : n.toNatClampNeg * k.toNatClampNeg ≤ n.toNatClampNeg * 1499 := Nat.mul_le_mul_left _ k6
      change W p l e R s m args below meth c H locs cells slots Q (F0 m pc rls (.int k :: .int n :: r.map (rv G)))
      intro T hT X
      obtain ⟨vm₁, cA, comp, -, fA, fC, hO, -, X', step⟩ := X.multianewarray2F (ty := .int) hx hown hcl hES.2.2.2.2.2.2.2.2.2.2.2.2.2.2.1.use (hES.w (xxT_in _ (by simp [xxT, xxT_0])) rfl args) (g := F0 m pc rls (.int k :: .int n :: r.map (rv G))) rfl (by rw [hb]; exact hdc) rfl k3 k4 (by omega) (by show _ * 4 ≤ _; omega) (by omega) rfl rfl (by omega) (by omega)
      have eA : cA = gA G 22 := Option.some.inj (fA.symm.trans (hES.2.1.2 2 _ (tyG G).2.2.1).2)
      have eC : comp = gA G 20 := Option.some.inj (fC.symm.trans (hES.2.1.2 0 _ (tyG G).1).2)
      subst eA
      subst eC
      have hTh : (T.setVm vm₁).heap = H := hT
      obtain ⟨f1, f2, -, -⟩ := Jvm.Free.Multi.fill_facts (T.setVm vm₁) (gA G 22) (gA G 20) n.toNatClampNeg k.toNatClampNeg (defaultValue .int) n.toNatClampNeg
      have hold : ∀ x : Nat, x < H.size → (Jvm.Free.Multi.fill (T.setVm vm₁) (gA G 22) (gA G 20) n.toNatClampNeg k.toNatClampNeg (defaultValue .int) n.toNatClampNeg).heap[x]? = H[x]? := fun x hx9 => by
        rw [Jvm.Free.Multi.fill_old (T.setVm vm₁) (gA G 22) (gA G 20) n.toNatClampNeg k.toNatClampNeg (defaultValue .int) (a := x) (by rw [hTh]; exact hx9) n.toNatClampNeg, hTh]
      have hrow : ∀ j : Nat, j < n.toNatClampNeg → (Jvm.Free.Multi.fill (T.setVm vm₁) (gA G 22) (gA G 20) n.toNatClampNeg k.toNatClampNeg (defaultValue .int) n.toNatClampNeg).heap[H.size + 1 + j]? = some (arrV (gA G 20) k.toNatClampNeg (fun _ => .int 0)) := fun j hj => by
        have h8 := Jvm.Free.Multi.fill_inner (T.setVm vm₁) (gA G 22) (gA G 20) n.toNatClampNeg k.toNatClampNeg (defaultValue .int) n.toNatClampNeg j hj
        rw [hTh] at h8
        rw [h8]
        show some ({ cls := gA G 20, slots := Array.replicate k.toNatClampNeg (.int 0), vm := .none } : Cell) = _
        rw [arrV_new]
      rw [hTh] at f1 f2
      rw [vr_outer] at f2
      generalize hF : Jvm.Free.Multi.fill (T.setVm vm₁) (gA G 22) (gA G 20) n.toNatClampNeg k.toNatClampNeg (defaultValue .int) n.toNatClampNeg = F at X' step f1 f2 hold hrow
      have hR' := RelH.rows hC (n := n.toNatClampNeg) (k := k.toNatClampNeg) hR k1 f1 hold f2 hrow
      obtain ⟨t1, t2⟩ := palN_top (20, k.toNatClampNeg, []) n.toNatClampNeg (pal μ (22, n.toNatClampNeg, (List.range n.toNatClampNeg).map (fun j => .ref (μ.2.2.2.1 + 1 + j))))
      have t1 : _ = μ.2.2.2.1 + 1 + n.toNatClampNeg := t1
      have t2 : _ = μ.2.2.2.2 := t2
      have K := kk F.heap locs (cells + 1 + n.toNatClampNeg) (slots + n.toNatClampNeg + n.toNatClampNeg * k.toNatClampNeg) rls hR' hL hlo (by
        unfold RoomOK
        dsimp only
        rw [t1, t2]
        exact ⟨by omega, by omega, o3, o4, by omega, o6⟩) (by omega)
      change W p l e R s m args below meth c F.heap locs (cells + 1 + n.toNatClampNeg) (slots + n.toNatClampNeg + n.toNatClampNeg * k.toNatClampNeg) Q (F0 m (pc + 4) rls (rv G (.ref μ.2.2.2.1) :: r.map (rv G))) at K
      rw [rv_new hC.1 h9, ← hsz, ← hT] at K
      obtain ⟨t, a1, b1⟩ := K F rfl X'
      exact ⟨t, step t a1, b1⟩
    · cases hs
  · cases hs
end Hp5
