/-! THINGS THAT ARE MADE, CONSTANTS, COPIES -/
theorem cat_sum (G : GP) : ∀ r : List Value, ((r.map (rv G)).map fun v => v.category).sum ≤ 2 * r.length
  | [] => by simp
  | v :: r => by
    have h := cat_sum G r
    have h1 : (rv G v).category ≤ 2 := by rcases lv_cat (rv G v) with q | q <;> omega
    simp only [List.map_cons, List.sum_cons, List.length_cons]
    omega
theorem cn_ok {ci : Nat} {r : vw_C} (h : vwCl[ci]? = some r) : r.1 = cnS ci :=
  vw_cases h (P := fun ci r => r.1 = cnS ci) rfl rfl rfl rfl rfl rfl rfl rfl rfl rfl rfl rfl rfl
theorem nf_ok {ci : Nat} {r : vw_C} (h : vwCl[ci]? = some r) : r.2.2 ≤ 43 :=
  vw_cases h (P := fun _ r => r.2.2 ≤ 43) (by decide) (by decide) (by decide) (by decide) (by decide) (by decide) (by decide) (by decide) (by decide) (by decide) (by decide) (by decide) (by decide)
theorem vw_some {ci : Nat} (h : ci < 13) : ∃ r, vwCl[ci]? = some r := ⟨_, List.getElem?_eq_getElem h⟩
theorem in_all : (List.range 13).all (fun ci => inT.contains ci) = true := by decide +kernel
theorem mi_all : (List.range 21).all (fun ci => miT.contains ci) = true := by decide +kernel
theorem ES.ini {G : GP} {s : State} (h : ES G s) {o : Nat} (ho : o < 21) (A : Array Value) : (Cond.initialized (cnS o)).before A s = true := by
  have h1 := List.all_eq_true.mp mi_all o (List.mem_range.mpr ho)
  exact h.w (miT_in o (by simpa using h1)) rfl A
theorem ES.ins {G : GP} {s : State} (h : ES G s) {ci : Nat} {r : vw_C} (hr : vwCl[ci]? = some r) (A : Array Value) : (Cond.instantiable r.1 r.2.2).before A s = true := by
  have h1 := List.all_eq_true.mp in_all ci (List.mem_range.mpr (vw_lt hr))
  have h2 := inT_in ci (by simpa using h1)
  unfold inC at h2
  rw [hr] at h2
  exact h.w h2 rfl A
theorem lc_spec {o idx j : Nat} {q : Cond} (h : (o, idx, j, q) ∈ lcT) : (∃ v, q = .constant (cnS o) idx v ∧ cval[j]? = some (.int v)) ∨ (∃ v, q = .constantLong (cnS o) idx v ∧ cval[j]? = some (.long v)) ∨ (q = .stringRef (cnS o) idx (sT 0) ∧ cval[j]? = some (.ref 0) ∧ cnS o = "AlarmRule$Republic" ∧ idx = 62) ∨ (q = .stringRef (cnS o) idx (sT 1) ∧ cval[j]? = some (.ref 1) ∧ cnS o = "AlarmRule$Law" ∧ idx = 78) ∨ (q = .stringRef (cnS o) idx (sT 2) ∧ cval[j]? = some (.ref 2) ∧ cnS o = "AlarmRule$Chores" ∧ idx = 54) := by
  simp only [lcT, lcT_0, List.mem_cons, Prod.mk.injEq, List.not_mem_nil, or_false] at h
  rcases h with ⟨rfl, rfl, rfl, rfl⟩ | ⟨rfl, rfl, rfl, rfl⟩ | ⟨rfl, rfl, rfl, rfl⟩ | ⟨rfl, rfl, rfl, rfl⟩ | ⟨rfl, rfl, rfl, rfl⟩ | ⟨rfl, rfl, rfl, rfl⟩ | ⟨rfl, rfl, rfl, rfl⟩ | ⟨rfl, rfl, rfl, rfl⟩ | ⟨rfl, rfl, rfl, rfl⟩ | ⟨rfl, rfl, rfl, rfl⟩ | ⟨rfl, rfl, rfl, rfl⟩
  all_goals first
    | exact Or.inl ⟨_, rfl, rfl⟩
    | exact Or.inr (Or.inl ⟨_, rfl, rfl⟩)
    | exact Or.inr (Or.inr (Or.inl ⟨rfl, rfl, rfl, rfl⟩))
    | exact Or.inr (Or.inr (Or.inr (Or.inl ⟨rfl, rfl, rfl, rfl⟩)))
    | exact Or.inr (Or.inr (Or.inr (Or.inr ⟨rfl, rfl, rfl, rfl⟩)))
section Hp4
variable {p : Program} {l : Launch} {e : Env} {R : Room} {s : State} {m : MethodId} {args : Array Value} {below : List Frame} {meth : Method} {c : Code} {H : Heap} {locs : List Loc} {cells slots : Nat} {Q : State → Prop} {G : GP} {M : Nat} {rls : Array Slot} {μ μ' : PM} {pc len idx pc' d : Nat} {ls st ls' st' : List Value} {q : Nat × List Value × List Value × PM}
set_option maxHeartbeats 4000000 in
theorem hp_gets {j : Nat} (hC : CG G) (hM : MC p G M s m meth c) (hE : okE (mOwn M) (mCd M) (pc, len, idx, .getstatic j) = true) (hR : RelH G μ H) (hL : RLs G ls rls (mMax M)) (hlo : LocOK G locs) (hro : RoomOK R cells slots μ d) (hz : s.heap.size ≤ H.size)
    (hs : pst (.getstatic j) pc len ls st μ = some q) (kk : Kk p l e R s m args below meth c Q G M d q) : W p l e R s m args below meth c H locs cells slots Q (F0 m pc rls (st.map (rv G))) := by
  obtain ⟨hx, hb, hml, -, -, hown, -, -, hES⟩ := hM
  obtain ⟨hdc, hlk, hot, hsw⟩ := okE_spec hE rfl
  have hln := (hsw.resolve_left (by intro h; cases h)).symm
  simp only [stdLen] at hln
  subst hln
  have hl3 := hES.w (lsT_in _ (has3_of hlk)) rfl args
  have hS := hR.S2 hES.2.2.2.1 hz hlo
  match j, hs with
  | 0, hs =>
    cases hs
    have K := kk H locs cells slots rls hR hL hlo hro hz
    change W p l e R s m args below meth c H locs cells slots Q (F0 m (pc + 3) rls (rv G (.ref 6) :: st.map (rv G))) at K
    rw [rv_old hC (by omega)] at K
    exact va_gets hx hb hES.2.2.2.2.2.2.2.1.2 hS hown hl3 (fun _ h => h) hdc K
  | 1, hs =>
    cases hs
    exact va_gets hx hb hES.2.2.2.2.2.2.2.2.1 hS hown hl3 (fun _ h => h) hdc (kk H locs cells slots rls hR hL hlo hro hz)
  | 2, hs =>
    cases hs
    exact va_gets hx hb hES.2.2.2.2.2.2.2.2.2.1 hS hown hl3 (fun _ h => h) hdc (kk H locs cells slots rls hR hL hlo hro hz)
  | n + 3, hs => simp [pst] at hs
set_option maxHeartbeats 4000000 in
theorem hp_ldc {j : Nat} (hC : CG G) (hM : MC p G M s m meth c) (hE : okE (mOwn M) (mCd M) (pc, len, idx, .ldc j) = true) (hR : RelH G μ H) (hL : RLs G ls rls (mMax M)) (hlo : LocOK G locs) (hro : RoomOK R cells slots μ d) (hz : s.heap.size ≤ H.size)
    (hs : pst (.ldc j) pc len ls st μ = some q) (kk : Kk p l e R s m args below meth c Q G M d q) : W p l e R s m args below meth c H locs cells slots Q (F0 m pc rls (st.map (rv G))) := by
  obtain ⟨hx, hb, hml, -, -, hown, -, -, hES⟩ := hM
  obtain ⟨hdc, hlk, hot, hsw⟩ := okE_spec hE rfl
  have hln := (hsw.resolve_left (by intro h; cases h)).symm
  simp only [stdLen] at hln
  subst hln
  obtain ⟨qc, hqc⟩ := hasC_of hlk
  have hin := lcT_in _ hqc
  obtain ⟨-, ⟨s0, s1, s2⟩, -⟩ := id hES.2.2.2.2
  simp only [pst] at hs
  rcases lc_spec hqc with ⟨x, rfl, h2⟩ | ⟨x, rfl, h2⟩ | ⟨rfl, h2, h3, h4⟩ | ⟨rfl, h2, h3, h4⟩ | ⟨rfl, h2, h3, h4⟩
  · rw [h2] at hs
    cases hs
    exact lv_ldc hx hb hown (hES.w hin rfl args) hdc (kk H locs cells slots rls hR hL hlo hro hz)
  · rw [h2] at hs
    cases hs
  · rw [h2] at hs
    cases hs
    have K := kk H locs cells slots rls hR hL hlo hro hz
    change W p l e R s m args below meth c H locs cells slots Q (F0 m (pc + 2) rls (rv G (.ref 0) :: st.map (rv G))) at K
    rw [rv_old hC (by omega)] at K
    subst h4
    exact va_ldcS hx hb (h3 ▸ hown) s0 hdc K
  · rw [h2] at hs
    cases hs
    have K := kk H locs cells slots rls hR hL hlo hro hz
    change W p l e R s m args below meth c H locs cells slots Q (F0 m (pc + 2) rls (rv G (.ref 1) :: st.map (rv G))) at K
    rw [rv_old hC (by omega)] at K
    subst h4
    exact va_ldcS hx hb (h3 ▸ hown) s1 hdc K
  · rw [h2] at hs
    cases hs
    have K := kk H locs cells slots rls hR hL hlo hro hz
    change W p l e R s m args below meth c H locs cells slots Q (F0 m (pc + 2) rls (rv G (.ref 2) :: st.map (rv G))) at K
    rw [rv_old hC (by omega)] at K
    subst h4
    exact va_ldcS hx hb (h3 ▸ hown) s2 hdc K
set_option maxHeartbeats 4000000 in
theorem hp_ldcw {j : Nat} (hC : CG G) (hM : MC p G M s m meth c) (hE : okE (mOwn M) (mCd M) (pc, len, idx, .ldc_w j) = true) (hR : RelH G μ H) (hL : RLs G ls rls (mMax M)) (hlo : LocOK G locs) (hro : RoomOK R cells slots μ d) (hz : s.heap.size ≤ H.size)
    (hs : pst (.ldc_w j) pc len ls st μ = some q) (kk : Kk p l e R s m args below meth c Q G M d q) : W p l e R s m args below meth c H locs cells slots Q (F0 m pc rls (st.map (rv G))) := by
  obtain ⟨hx, hb, hml, -, -, hown, -, -, hES⟩ := hM
  obtain ⟨hdc, hlk, hot, hsw⟩ := okE_spec hE rfl
  have hln := (hsw.resolve_left (by intro h; cases h)).symm
  simp only [stdLen] at hln
  subst hln
  obtain ⟨qc, hqc⟩ := hasC_of hlk
  have hin := lcT_in _ hqc
  simp only [pst] at hs
  rcases lc_spec hqc with ⟨x, rfl, h2⟩ | ⟨x, rfl, h2⟩ | ⟨rfl, h2, h3, h4⟩ | ⟨rfl, h2, h3, h4⟩ | ⟨rfl, h2, h3, h4⟩
  · rw [h2] at hs
    cases hs
    have K := kk H locs cells slots rls hR hL hlo hro hz
    intro T hT X
    obtain ⟨t, a1, b1⟩ := K T hT X
    exact ⟨t, X.ldcWInt hx hown (hES.w hin rfl args) (g := F0 m pc rls (st.map (rv G))) rfl (by rw [hb]; exact hdc) t a1, b1⟩
  all_goals (rw [h2] at hs; cases hs)
set_option maxHeartbeats 4000000 in
theorem hp_ldc2 {j : Nat} (hC : CG G) (hM : MC p G M s m meth c) (hE : okE (mOwn M) (mCd M) (pc, len, idx, .ldc2_w j) = true) (hR : RelH G μ H) (hL : RLs G ls rls (mMax M)) (hlo : LocOK G locs) (hro : RoomOK R cells slots μ d) (hz : s.heap.size ≤ H.size)
    (hs : pst (.ldc2_w j) pc len ls st μ = some q) (kk : Kk p l e R s m args below meth c Q G M d q) : W p l e R s m args below meth c H locs cells slots Q (F0 m pc rls (st.map (rv G))) := by
  obtain ⟨hx, hb, hml, -, -, hown, -, -, hES⟩ := hM
  obtain ⟨hdc, hlk, hot, hsw⟩ := okE_spec hE rfl
  have hln := (hsw.resolve_left (by intro h; cases h)).symm
  simp only [stdLen] at hln
  subst hln
  obtain ⟨qc, hqc⟩ := hasC_of hlk
  have hin := lcT_in _ hqc
  simp only [pst] at hs
  rcases lc_spec hqc with ⟨x, rfl, h2⟩ | ⟨x, rfl, h2⟩ | ⟨rfl, h2, h3, h4⟩ | ⟨rfl, h2, h3, h4⟩ | ⟨rfl, h2, h3, h4⟩
  · rw [h2] at hs
    cases hs
  · rw [h2] at hs
    cases hs
    exact lv_ldc2 hx hb hown (hES.w hin rfl args) hdc (kk H locs cells slots rls hR hL hlo hro hz)
  all_goals (rw [h2] at hs; cases hs)
set_option maxHeartbeats 4000000 in
theorem hp_aast (hC : CG G) (hM : MC p G M s m meth c) (hE : okE (mOwn M) (mCd M) (pc, len, idx, .aastore) = true) (hR : RelH G μ H) (hL : RLs G ls rls (mMax M)) (hlo : LocOK G locs) (hro : RoomOK R cells slots μ d) (hz : s.heap.size ≤ H.size)
    (hs : pst .aastore pc len ls st μ = some q) (kk : Kk p l e R s m args below meth c Q G M d q) : W p l e R s m args below meth c H locs cells slots Q (F0 m pc rls (st.map (rv G))) := by
  obtain ⟨hx, hb, hml, -, -, hown, -, -, hES⟩ := hM
  obtain ⟨hdc, hlk, hot, hsw⟩ := okE_spec hE rfl
  have hln := (hsw.resolve_left (by intro h; cases h)).symm
  simp only [stdLen] at hln
  subst hln
  simp only [pst] at hs
  split at hs
  · rename_i q9 i a r
    obtain ⟨a, rfl⟩ : ∃ y : Nat, y = a := ⟨a, rfl⟩
    obtain ⟨q9, rfl⟩ : ∃ y : Nat, y = q9 := ⟨q9, rfl⟩
    split at hs
    · rename_i hk
      obtain ⟨hk1, ⟨h9, hk2, g9, hg2⟩, hk3, hk4⟩ := hk
      have h9 : (9 : Nat) ≤ a := h9
      have g9 : (9 : Nat) ≤ q9 := g9
      cases hs
      change W p l e R s m args below meth c H locs cells slots Q (F0 m pc rls (rv G (.ref q9) :: .int i :: rv G (.ref a) :: r.map (rv G)))
      have hkr : (μ.1 a).1 = 22 ∨ (μ.1 a).1 = 23 ∨ (μ.1 a).1 = 24 := by rcases hk1 with ⟨z, -⟩ | ⟨z, -⟩ <;> omega
      have hq20 : (μ.1 q9).1 < 20 := by rcases hk1 with ⟨-, z⟩ | ⟨-, z⟩ <;> omega
      have hat := hR.at h9 hk2
      rw [enc_r hkr] at hat
      have hcell : H[gBs G + (a - 9)]? = some (arrV (gA G (μ.1 a).1) (μ.1 a).2.1 (fun j => va_rf (encR G (μ.1 a).2.2 j))) := hat
      have haq := hR.at g9 hg2
      rw [enc_obj hq20] at haq
      obtain ⟨r9, hr9, cellV, g1, g2, g3, -⟩ := haq
      rw [rv_new hC.1 h9, rv_new hC.1 g9]
      have h0 : ¬ i < 0 := fun q => hk3 (Or.inl q)
      have hlt : i.toNatClampNeg < (μ.1 a).2.1 := Nat.not_le.mp fun z => hk3 (Or.inr z)
      have hcls := (hES.2.1.1 _ _ hr9).2
      have hRA : ∃ (kA : Class) (comp : ClassId), s.vm.classes[gA G (μ.1 a).1]? = some kA ∧ kA.kind = .array comp (.object r9.1) ∧ s.vm.findClass r9.1 = some comp := by
        rcases hk1 with ⟨z, z2⟩ | ⟨z, z2⟩
        · rw [z2] at hr9
          cases hr9
          rw [z]
          obtain ⟨kA, comp, k1, k2, k3, -⟩ := (hES.2.1.2 3 _ (tyG G).2.2.2.1).2
          exact ⟨kA, comp, k1, k2, k3⟩
        · rw [z2] at hr9
          cases hr9
          rw [z]
          obtain ⟨kA, comp, k1, k2, k3, -⟩ := (hES.2.1.2 4 _ (tyG G).2.2.2.2).2
          exact ⟨kA, comp, k1, k2, k3⟩
      obtain ⟨kA, comp, k1, k2, k3⟩ := hRA
      have hcomp : comp = (gC G, gF G).1 (μ.1 q9).1 := Option.some.inj (k3.symm.trans hcls.1)
      subst hcomp
      obtain ⟨kC, hkC, -⟩ := id hcls.2
      refine W.aast hx hb hcell (fun q h => by cases h) (fun h => by cases h) k1 k2 rfl hkC ⟨h0, by rw [arrV_size]; exact hlt⟩ g1 (fun q h => by rw [g3] at h; cases h) (by rw [g2]; exact hkC) (by rw [g2]; exact va_assign hcls) rfl rfl hdc fun H1 e1 e2 e3 => ?_
      refine kk H1 _ cells slots rls (hR.put (c := a) (μ' := (upR μ.1 a ((μ.1 a).1, (μ.1 a).2.1, (μ.1 a).2.2.set i.toNatClampNeg (.ref q9)), μ.2)) h9 hk2 rfl (fun b hb9 => enc_congr (upR_ne hb9) rfl rfl) (fun b hb9 => ⟨upR_ne (by omega), rfl⟩) ?_ e3 e2) hL (hlo.app (by omega)) hro (by rw [e2]; exact hz)
      have hsm : (upR μ.1 a ((μ.1 a).1, (μ.1 a).2.1, (μ.1 a).2.2.set i.toNatClampNeg (.ref q9)) a) = ((μ.1 a).1, (μ.1 a).2.1, (μ.1 a).2.2.set i.toNatClampNeg (.ref q9)) := upR_same _ _ _
      rw [enc_r (μ := (upR μ.1 a ((μ.1 a).1, (μ.1 a).2.1, (μ.1 a).2.2.set i.toNatClampNeg (.ref q9)), μ.2)) (by dsimp only; rw [hsm]; exact hkr)]
      dsimp only
      rw [hsm]
      show H1[gBs G + (a - 9)]? = some (arrV (gA G (μ.1 a).1) (μ.1 a).2.1 (fun j => va_rf (encR G ((μ.1 a).2.2.set i.toNatClampNeg (.ref q9)) j)))
      rw [e1, arrV_store]
      congr 2
      funext j
      by_cases ej : j = i.toNatClampNeg
      · subst ej
        simp only [updV, if_true, encR]
        rw [List.getElem?_set_self hk4]
        show Value.ref (gBs G + (q9 - 9)) = va_rf (gAd G q9)
        rw [hC.1.2.1 q9 g9]
        rfl
      · simp only [updV, if_neg ej, encR]
        rw [List.getElem?_set_ne (Ne.symm ej)]
    · cases hs
  · cases hs
set_option maxHeartbeats 4000000 in
theorem hp_new {ci : Nat} (hC : CG G) (hM : MC p G M s m meth c) (hE : okE (mOwn M) (mCd M) (pc, len, idx, .new ci) = true) (hR : RelH G μ H) (hL : RLs G ls rls (mMax M)) (hlo : LocOK G locs) (hro : RoomOK R cells slots μ d) (hz : s.heap.size ≤ H.size)
    (hs : pst (.new ci) pc len ls st μ = some q) (kk : Kk p l e R s m args below meth c Q G M d q) : W p l e R s m args below meth c H locs cells slots Q (F0 m pc rls (st.map (rv G))) := by
  obtain ⟨hx, hb, hml, -, -, hown, -, -, hES⟩ := hM
  obtain ⟨hdc, hlk, hot, hsw⟩ := okE_spec hE rfl
  have hln := (hsw.resolve_left (by intro h; cases h)).symm
  simp only [stdLen] at hln
  subst hln
  simp only [pst] at hs
  split at hs
  · rename_i hk
    obtain ⟨hk1, hk2, hk3⟩ := hk
    cases hs
    obtain ⟨r9, hr9⟩ := vw_some hk1
    have hcl := hES.w (lnT_in _ (has3_of hlk)) rfl args
    have hkn : kNm ci = r9.1 := vw_cases hr9 (P := fun ci r => kNm ci = r.1) rfl rfl rfl rfl rfl rfl rfl rfl rfl rfl rfl rfl rfl
    dsimp only at hcl
    rw [hkn] at hcl
    have hKn := hES.2.1.1 ci _ hr9
    have hini : (Cond.initialized r9.1).before args s = true := by rw [cn_ok hr9]; exact hES.ini (by omega) args
    obtain ⟨o1, o2, o3, o4, o5, o6⟩ := id hro
    have hnf := nf_ok hr9
    have hsz : H.size = gBs G + (μ.2.2.2.1 - 9) := hR.2.2.2.2.2.1 hk2
    have h9 := hR.2.2.2.1
    have hfd := fd_at hr9
    refine W.newcK hx hb hown hcl (hES.ins hr9 args) hini rfl hdc (by omega) (by omega) hKn.2.1 rfl fun H1 kC hkC e1 z1 q1 => ?_
    have K := kk H1 locs (cells + 1) (slots + r9.2.2) rls (hR.new (s := (ci, (fdef.getD ci []).length, fdef.getD ci [])) hk2 ?_ q1 z1) hL hlo ⟨by show _ + (capT - (μ.2.2.2.1 + 1)) + (capX - μ.2.2.2.2) ≤ _; omega, by show _ + 1500 * (capT - (μ.2.2.2.1 + 1)) + 6 * (capX - μ.2.2.2.2) ≤ _; omega, o3, o4, hk3, o6⟩ (by omega)
    · change W p l e R s m args below meth c H1 locs (cells + 1) (slots + r9.2.2) Q (F0 m (pc + 3) rls (rv G (.ref μ.2.2.2.1) :: st.map (rv G))) at K
      rw [rv_new hC.1 h9, ← hsz] at K
      exact K
    · have hsame : (pal μ (ci, (fdef.getD ci []).length, fdef.getD ci [])).1 μ.2.2.2.1 = (ci, (fdef.getD ci []).length, fdef.getD ci []) := upR_same _ _ _
      have hsI : (pal μ (ci, (fdef.getD ci []).length, fdef.getD ci [])).2.1 μ.2.2.2.1 = fun _ => 0 := upR_same _ _ _
      rw [enc_obj (by rw [hsame]; show ci < 20; omega), hsame]
      refine ⟨_, hr9, ?_⟩
      rw [← hsz]
      refine (u_born (tyOf ci) (hES.ly hr9 args) (fun _ h => h) hKn hkC e1 (ty_ok hr9)).to (fun j hj => ?_)
      rw [fsOf_V]
      obtain ⟨f3, f4⟩ := hfd.2 j hj
      have hget : (fdef.getD ci [])[j]? = some ((fdef.getD ci []).getD j .null) := getD_self (by rw [hfd.1]; exact hj)
      unfold pgf
      rw [hsame, hsI]
      dsimp only
      rw [hget]
      rcases f4 with t | ⟨t, t2⟩
      · rw [f3, t]; rfl
      · rw [t2, ← f3, t2]; rfl
  · cases hs
set_option maxHeartbeats 4000000 in
theorem hp_newa {at9 : ArrayType} (hC : CG G) (hM : MC p G M s m meth c) (hE : okE (mOwn M) (mCd M) (pc, len, idx, .newarray at9) = true) (hR : RelH G μ H) (hL : RLs G ls rls (mMax M)) (hlo : LocOK G locs) (hro : RoomOK R cells slots μ d) (hz : s.heap.size ≤ H.size)
    (hs : pst (.newarray at9) pc len ls st μ = some q) (kk : Kk p l e R s m args below meth c Q G M d q) : W p l e R s m args below meth c H locs cells slots Q (F0 m pc rls (st.map (rv G))) := by
  obtain ⟨hx, hb, hml, -, -, hown, -, -, hES⟩ := hM
  obtain ⟨hdc, hlk, hot, hsw⟩ := okE_spec hE rfl
  have hln := (hsw.resolve_left (by intro h; cases h)).symm
  simp only [stdLen] at hln
  subst hln
  simp only [pst] at hs
  split at hs
  · rename_i n r
    split at hs
    · rename_i hk
      obtain ⟨hk1, hk2, hk3, hk4, hk5⟩ := hk
      cases hs
      obtain ⟨o1, o2, o3, o4, o5, o6⟩ := id hro
      have hsz : H.size = gBs G + (μ.2.2.2.1 - 9) := hR.2.2.2.2.2.1 hk2
      have h9 := hR.2.2.2.1
      have hro' : RoomOK R (cells + 1) (slots + n.toNatClampNeg) (pal μ (if at9 = .int then 20 else 21, n.toNatClampNeg, [])) d := ⟨by show _ + (capT - (μ.2.2.2.1 + 1)) + (capX - μ.2.2.2.2) ≤ _; omega, by show _ + 1500 * (capT - (μ.2.2.2.1 + 1)) + 6 * (capX - μ.2.2.2.2) ≤ _; omega, o3, o4, hk3, o6⟩
      change W p l e R s m args below meth c H locs cells slots Q (F0 m pc rls (.int n :: r.map (rv G)))
      rcases hk1 with rfl | rfl
      · have harr : (Cond.arrayClass .int).before args s = true := hES.w (xxT_in _ (by simp [xxT, xxT_0])) rfl args
        refine va_newaK (atype := .int) hx hb harr (g := F0 m pc rls (.int n :: r.map (rv G))) rfl hdc rfl hk4 rfl (by show n.toNatClampNeg * 4 ≤ _; omega) (by omega) (by omega) rfl fun H1 cA e1 z1 q1 hA hN => ?_
        have ec : cA = gA G 20 := Option.some.inj (hN.symm.trans (hES.2.1.2 0 _ (tyG G).1).2)
        subst ec
        have K := kk H1 locs (cells + 1) (slots + n.toNatClampNeg) rls (hR.new (s := (20, n.toNatClampNeg, [])) hk2 ?_ q1 z1) hL hlo hro' (by omega)
        · change W p l e R s m args below meth c H1 locs (cells + 1) (slots + n.toNatClampNeg) Q (F0 m (pc + 2) rls (rv G (.ref μ.2.2.2.1) :: r.map (rv G))) at K
          rw [rv_new hC.1 h9, ← hsz] at K
          exact K
        · have hsame : (pal μ (20, n.toNatClampNeg, [])).1 μ.2.2.2.1 = (20, n.toNatClampNeg, []) := upR_same _ _ _
          have hsI : (pal μ (20, n.toNatClampNeg, [])).2.1 μ.2.2.2.1 = fun _ => 0 := upR_same _ _ _
          rw [enc_i (by rw [hsame]), hsame, hsI, ← hsz]
          exact e1
      · have harr : (Cond.arrayClass .long).before args s = true := hES.w (xxT_in _ (by simp [xxT, xxT_0])) rfl args
        refine va_newaK (atype := .long) hx hb harr (g := F0 m pc rls (.int n :: r.map (rv G))) rfl hdc rfl hk4 rfl (by show n.toNatClampNeg * 8 ≤ _; omega) (by omega) (by omega) rfl fun H1 cA e1 z1 q1 hA hN => ?_
        have ec : cA = gA G 21 := Option.some.inj (hN.symm.trans (hES.2.1.2 1 _ (tyG G).2.1).2)
        subst ec
        have K := kk H1 locs (cells + 1) (slots + n.toNatClampNeg) rls (hR.new (s := (21, n.toNatClampNeg, [])) hk2 ?_ q1 z1) hL hlo hro' (by omega)
        · change W p l e R s m args below meth c H1 locs (cells + 1) (slots + n.toNatClampNeg) Q (F0 m (pc + 2) rls (rv G (.ref μ.2.2.2.1) :: r.map (rv G))) at K
          rw [rv_new hC.1 h9, ← hsz] at K
          exact K
        · have hsame : (pal μ (21, n.toNatClampNeg, [])).1 μ.2.2.2.1 = (21, n.toNatClampNeg, []) := upR_same _ _ _
          have hsI : (pal μ (21, n.toNatClampNeg, [])).2.2.1 μ.2.2.2.1 = fun _ => 0 := upR_same _ _ _
          rw [enc_l (by rw [hsame]), hsame, hsI, ← hsz]
          exact e1
    · cases hs
  · cases hs
set_option maxHeartbeats 4000000 in
theorem hp_anew {k9 : Nat} (hC : CG G) (hM : MC p G M s m meth c) (hE : okE (mOwn M) (mCd M) (pc, len, idx, .anewarray k9) = true) (hR : RelH G μ H) (hL : RLs G ls rls (mMax M)) (hlo : LocOK G locs) (hro : RoomOK R cells slots μ d) (hz : s.heap.size ≤ H.size)
    (hs : pst (.anewarray k9) pc len ls st μ = some q) (kk : Kk p l e R s m args below meth c Q G M d q) : W p l e R s m args below meth c H locs cells slots Q (F0 m pc rls (st.map (rv G))) := by
  obtain ⟨hx, hb, hml, -, -, hown, -, -, hES⟩ := hM
  obtain ⟨hdc, hlk, hot, hsw⟩ := okE_spec hE rfl
  have hln := (hsw.resolve_left (by intro h; cases h)).symm
  simp only [stdLen] at hln
  subst hln
  simp only [pst] at hs
  split at hs
  · rename_i n r
    split at hs
    · rename_i hk
      obtain ⟨hk1, hk2, hk3, hk4, hk5⟩ := hk
      cases hs
      obtain ⟨o1, o2, o3, o4, o5, o6⟩ := id hro
      have hsz : H.size = gBs G + (μ.2.2.2.1 - 9) := hR.2.2.2.2.2.1 hk2
      have h9 := hR.2.2.2.1
      have hro' : RoomOK R (cells + 1) (slots + n.toNatClampNeg) (pal μ (k9, n.toNatClampNeg, List.replicate n.toNatClampNeg .null)) d := ⟨by show _ + (capT - (μ.2.2.2.1 + 1)) + (capX - μ.2.2.2.2) ≤ _; omega, by show _ + 1500 * (capT - (μ.2.2.2.1 + 1)) + 6 * (capX - μ.2.2.2.2) ≤ _; omega, o3, o4, hk3, o6⟩
      have hnul : encR G (List.replicate n.toNatClampNeg .null) = fun _ => none := by
        funext j
        unfold encR
        by_cases hj : j < n.toNatClampNeg
        · rw [List.getElem?_replicate, if_pos hj]
        · rw [List.getElem?_replicate, if_neg hj]
      have hsame : (pal μ (k9, n.toNatClampNeg, List.replicate n.toNatClampNeg .null)).1 μ.2.2.2.1 = (k9, n.toNatClampNeg, List.replicate n.toNatClampNeg .null) := upR_same _ _ _
      have hcl := hES.w (lnT_in _ (has3_of hlk)) rfl args
      dsimp only at hcl
      change W p l e R s m args below meth c H locs cells slots Q (F0 m pc rls (.int n :: r.map (rv G)))
      have fin : ∀ (H1 : Heap), H1[H.size]? = some (arrV (gA G k9) n.toNatClampNeg (fun _ => .null)) → (∀ q, q < H.size → H1[q]? = H[q]?) → H1.size = H.size + 1 → W p l e R s m args below meth c H1 locs (cells + 1) (slots + n.toNatClampNeg) Q (F0 m (pc + 3) rls (.ref H.size :: r.map (rv G))) := by
        intro H1 e1 q1 z1
        have K := kk H1 locs (cells + 1) (slots + n.toNatClampNeg) rls (hR.new (s := (k9, n.toNatClampNeg, List.replicate n.toNatClampNeg .null)) hk2 ?_ q1 z1) hL hlo hro' (by omega)
        · change W p l e R s m args below meth c H1 locs (cells + 1) (slots + n.toNatClampNeg) Q (F0 m (pc + 3) rls (rv G (.ref μ.2.2.2.1) :: r.map (rv G))) at K
          rw [rv_new hC.1 h9, ← hsz] at K
          exact K
        · rw [enc_r (by rw [hsame]; exact Or.inr hk1), hsame, hnul, ← hsz]
          exact e1
      rcases hk1 with rfl | rfl
      · refine W.anew hx hb hown (C := "AlarmRule$Morning") hcl (va_AO.use hES.2.2.2.2.2.2.2.2.2.2.2.2.1) rfl hdc rfl hk4 (by omega) (by omega) (by omega) fun cA kA comp f1 f2 f3 f4 => ?_
        have ec : cA = gA G 23 := by
          obtain ⟨_, _, -, -, -, z⟩ := (hES.2.1.2 3 _ (tyG G).2.2.2.1).2
          exact Option.some.inj (f1.symm.trans z)
        subst ec
        exact fin _ (by rw [Array.getElem?_push_size, ← arrV_new]) (fun q hq => by rw [Array.getElem?_push, if_neg (Nat.ne_of_lt hq)]) (by rw [Array.size_push])
      · refine W.anew hx hb hown (C := "AlarmRule$Works") hcl (va_AO.use hES.2.2.2.2.2.2.2.2.2.2.2.2.2.1) rfl hdc rfl hk4 (by omega) (by omega) (by omega) fun cA kA comp f1 f2 f3 f4 => ?_
        have ec : cA = gA G 24 := by
          obtain ⟨_, _, -, -, -, z⟩ := (hES.2.1.2 4 _ (tyG G).2.2.2.2).2
          exact Option.some.inj (f1.symm.trans z)
        subst ec
        exact fin _ (by rw [Array.getElem?_push_size, ← arrV_new]) (fun q hq => by rw [Array.getElem?_push, if_neg (Nat.ne_of_lt hq)]) (by rw [Array.size_push])
    · cases hs
  · cases hs
end Hp4
