/-! THE PURE MACHINE IS THE MACHINE -/
section Sound
variable {p : Program} {l : Launch} {e : Env} {G : GP}
theorem stp_all {R : Room} {s : State} {m : MethodId} {args : Array Value} {below : List Frame} {meth : Method} {c : Code} {H : Heap} {locs : List Loc} {cells slots : Nat} {Q : State → Prop} {M : Nat} {rls : Array Slot} {μ : PM} {pc len idx d : Nat} {ls st : List Value} {i : Instr} {q : Nat × List Value × List Value × PM}
    (hC : CG G) (hM : MC p G M s m meth c) (hE : okE (mOwn M) (mCd M) (pc, len, idx, i) = true) (hF : pfE M idx i = true) (hR : RelH G μ H) (hL : RLs G ls rls (mMax M)) (hlo : LocOK G locs) (hro : RoomOK R cells slots μ d) (hz : s.heap.size ≤ H.size)
    (hs : pst i pc len ls st μ = some q) (kk : Kk p l e R s m args below meth c Q G M d q) : W p l e R s m args below meth c H locs cells slots Q (F0 m pc rls (st.map (rv G))) := by
  by_cases hi : isHp i = false
  · exact stp_pure hC hM hE hR hL hlo hro hz hi hs kk
  · cases i with
    | getfield g => exact hp_getf hC hM hE hR hL hlo hro hz hs kk
    | putfield g => exact hp_putf hC hM hE hF hR hL hlo hro hz hs kk
    | getstatic j => exact hp_gets hC hM hE hR hL hlo hro hz hs kk
    | ldc j => exact hp_ldc hC hM hE hR hL hlo hro hz hs kk
    | ldc_w j => exact hp_ldcw hC hM hE hR hL hlo hro hz hs kk
    | ldc2_w j => exact hp_ldc2 hC hM hE hR hL hlo hro hz hs kk
    | iaload => exact hp_iald hC hM hE hR hL hlo hro hz hs kk
    | baload => exact hp_bald hC hM hE hR hL hlo hro hz hs kk
    | laload => exact hp_lald hC hM hE hR hL hlo hro hz hs kk
    | aaload => exact hp_aald hC hM hE hR hL hlo hro hz hs kk
    | iastore => exact hp_iast hC hM hE hR hL hlo hro hz hs kk
    | lastore => exact hp_last hC hM hE hR hL hlo hro hz hs kk
    | aastore => exact hp_aast hC hM hE hR hL hlo hro hz hs kk
    | arraylength => exact hp_alen hC hM hE hR hL hlo hro hz hs kk
    | new ci => exact hp_new hC hM hE hR hL hlo hro hz hs kk
    | newarray t => exact hp_newa hC hM hE hR hL hlo hro hz hs kk
    | anewarray k => exact hp_anew hC hM hE hR hL hlo hro hz hs kk
    | multianewarray k j => exact hp_multi hC hM hE hR hL hlo hro hz hs kk
    | monitorexit => exact hp_oi hC hM hE hR hL hlo hro hz hs kk
    | monitorenter => exact hp_copy hC hM hE hR hL hlo hro hz hs kk
    | _ => exact absurd rfl hi
theorem fin_all {R : Room} {s : State} {m : MethodId} {args : Array Value} {below : List Frame} {meth : Method} {c : Code} {H : Heap} {locs : List Loc} {cells slots : Nat} {M : Nat} {rls : Array Slot} {μ μ' : PM} {pc len idx d : Nat} {st : List Value} {i : Instr} {o : POut}
    (hl : l.stackTraces = false) (hC : CG G) (hM : MC p G M s m meth c) (hE : okE (mOwn M) (mCd M) (pc, len, idx, i) = true) (hF : retE M pc i = true) (hR : RelH G μ H) (hsz : rls.size = mMax M) (hlo : LocOK G locs) (hro : RoomOK R cells slots μ d) (hz : s.heap.size ≤ H.size)
    (hs : pfin M i st μ = some (o, μ')) : W p l e R s m args below meth c H locs cells slots (EndQ G R d below s o μ') (F0 m pc rls (st.map (rv G))) := by
  unfold pfin at hs
  split at hs
  · obtain ⟨hdc, -, -, hsw⟩ := okE_spec hE rfl
    have hln := (hsw.resolve_left (by intro h; cases h)).symm
    simp only [stdLen] at hln
    subst hln
    split at hs
    · rename_i hr
      cases hs
      exact end_i hM hR hlo hro hr hdc
    · cases hs
  · obtain ⟨hdc, -, -, hsw⟩ := okE_spec hE rfl
    have hln := (hsw.resolve_left (by intro h; cases h)).symm
    simp only [stdLen] at hln
    subst hln
    split at hs
    · rename_i hr
      cases hs
      exact end_l hM hR hlo hro hr hdc
    · cases hs
  · obtain ⟨hdc, -, -, hsw⟩ := okE_spec hE rfl
    have hln := (hsw.resolve_left (by intro h; cases h)).symm
    simp only [stdLen] at hln
    subst hln
    split at hs
    · rename_i hr
      cases hs
      exact end_v hM hR hlo hro hr hdc
    · cases hs
  · rename_i k
    split at hs
    · rename_i hk
      cases hs
      obtain ⟨hx, hb, hml, -, hlocks, hown, -, hext, hES⟩ := id hM
      obtain ⟨w1, w2, w3, w4, w5, w6, w7⟩ := x_own
      obtain ⟨-, -, ⟨⟨a5, c5⟩, ⟨a6, c6⟩, a7, c7⟩, -⟩ := id hES.2.2.2.2
      simp only [retE, Bool.or_eq_true, Bool.and_eq_true, beq_iff_eq] at hF
      rcases hF with ⟨rfl, rfl, rfl⟩ | ⟨rfl, rfl, rfl⟩ | ⟨rfl, rfl, rfl⟩
      · rw [w1] at hown
        obtain ⟨d0, d3, d4, d7, d10⟩ := x_dec1
        exact thrW hC hx hb hl hES hlocks (by rw [hext, w4]; rfl) (by rw [hml]; exact hsz) hR hlo hro hz hk.1 hk.2 (k := 1) hown x_fit.2.1 x_six.2.1 x_six.2.2.1 x_six.2.2.2.1 x_six.2.2.2.2 (hES.w (xxT_in _ (by simp [xxT, xxT_0, eNm])) rfl #[]) (hES.w (xxT_in _ (by simp [xxT, xxT_0, eNm])) rfl #[]) c5 xB_in xB_1 d0 d3 d4 d7 d10
      · rw [w2] at hown
        obtain ⟨d0, d3, d4, d7, d10⟩ := x_dec2
        exact thrW hC hx hb hl hES hlocks (by rw [hext, w5]; rfl) (by rw [hml]; exact hsz) hR hlo hro hz hk.1 hk.2 (k := 1) hown x_fit.2.1 x_six.2.1 x_six.2.2.1 x_six.2.2.2.1 x_six.2.2.2.2 (hES.w (xxT_in _ (by simp [xxT, xxT_0, eNm])) rfl #[]) (hES.w (xxT_in _ (by simp [xxT, xxT_0, eNm])) rfl #[]) c6 xB_in xB_1 d0 d3 d4 d7 d10
      · rw [w3] at hown
        obtain ⟨d0, d3, d4, d7, d10⟩ := x_dec3
        exact thrW hC hx hb hl hES hlocks (by rw [hext, w6]; rfl) (by rw [hml]; exact hsz) hR hlo hro hz hk.1 hk.2 (k := 2) hown x_fit.1 x_six.1.1 x_six.1.2.1 x_six.1.2.2.1 x_six.1.2.2.2 (hES.w (xxT_in _ (by simp [xxT, xxT_0, eNm])) rfl #[]) (hES.w (xxT_in _ (by simp [xxT, xxT_0, eNm])) rfl #[]) c7 xA_in xA_1 d0 d3 d4 d7 d10
    · cases hs
  · cases hs
end Sound
