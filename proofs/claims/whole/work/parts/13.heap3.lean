/-! ARRAYS AND CONSTANTS -/
section Hp3
variable {p : Program} {l : Launch} {e : Env} {R : Room} {s : State} {m : MethodId} {args : Array Value} {below : List Frame} {meth : Method} {c : Code} {H : Heap} {locs : List Loc} {cells slots : Nat} {Q : State → Prop} {G : GP} {M : Nat} {rls : Array Slot} {μ μ' : PM} {pc len idx pc' d : Nat} {ls st ls' st' : List Value} {q : Nat × List Value × List Value × PM}
set_option maxHeartbeats 4000000 in
theorem hp_iald (hC : CG G) (hM : MC p G M s m meth c) (hE : okE (mOwn M) (mCd M) (pc, len, idx, .iaload) = true) (hR : RelH G μ H) (hL : RLs G ls rls (mMax M)) (hlo : LocOK G locs) (hro : RoomOK R cells slots μ d) (hz : s.heap.size ≤ H.size)
    (hs : pst .iaload pc len ls st μ = some q) (kk : Kk p l e R s m args below meth c Q G M d q) : W p l e R s m args below meth c H locs cells slots Q (F0 m pc rls (st.map (rv G))) := by
  obtain ⟨hx, hb, hml, -, -, hown, -, -, hES⟩ := hM
  obtain ⟨hdc, hlk, hot, hsw⟩ := okE_spec hE rfl
  have hln := (hsw.resolve_left (by intro h; cases h)).symm
  simp only [stdLen] at hln
  subst hln
  simp only [pst] at hs
  split at hs
  · rename_i i a r
    obtain ⟨a, rfl⟩ : ∃ y : Nat, y = a := ⟨a, rfl⟩
    split at hs
    · rename_i hk
      obtain ⟨hk1, hk2, hk3⟩ := hk
      cases hs
      have K := kk H locs cells slots rls hR hL hlo hro hz
      change W p l e R s m args below meth c H locs cells slots Q (F0 m pc rls (.int i :: rv G (.ref a) :: r.map (rv G)))
      change W p l e R s m args below meth c H locs cells slots Q (F0 m (pc + 1) rls (.int (μ.2.1 a i.toNatClampNeg) :: r.map (rv G))) at K
      by_cases h9 : a < 9
      · obtain ⟨r1, r2⟩ := hR.2.2.2.2.2.2 a h9
        have hS := hR.S2 hES.2.2.2.1 hz hlo
        rw [r1] at hk1 hk3
        rw [r2] at K
        rcases old_kind hC h9 with ⟨a1, a2⟩ | ⟨a1, a2, a3⟩ | ⟨rfl, a2⟩ | ⟨rfl, a2⟩ | ⟨a1, a2⟩
        · omega
        · omega
        · rw [rv_old hC (by omega)]
          rw [hC.2.2.1] at hk3
          exact va_ti hx hb hES.2.2.2.2.2.2.2.1.1 hS hk3 rfl hdc K
        · rw [rv_old hC (by omega)]
          obtain ⟨x1, x2⟩ := hES.2.2.2.2.2.2.2.2.2.2.1
          exact va_sld hx hb x1 (Nat.lt_of_lt_of_le x2 hES.2.2.1) (Nat.not_le.mpr x2) hS hk3 hdc K
        · omega
      · have h9 : 9 ≤ a := by omega
        have he := wsOf_get (G := G) h9 hk2
        rw [enc_i hk1] at he
        rw [rv_new hC.1 h9]
        exact va_iald (D := (gC G, gF G)) (cl := vwCl) hx hb hES.2.1 hR.1 (a - 9) 0 he (tyG G).1 hk3 hdc K
    · cases hs
  · cases hs
set_option maxHeartbeats 4000000 in
theorem hp_bald (hC : CG G) (hM : MC p G M s m meth c) (hE : okE (mOwn M) (mCd M) (pc, len, idx, .baload) = true) (hR : RelH G μ H) (hL : RLs G ls rls (mMax M)) (hlo : LocOK G locs) (hro : RoomOK R cells slots μ d) (hz : s.heap.size ≤ H.size)
    (hs : pst .baload pc len ls st μ = some q) (kk : Kk p l e R s m args below meth c Q G M d q) : W p l e R s m args below meth c H locs cells slots Q (F0 m pc rls (st.map (rv G))) := by
  obtain ⟨hx, hb, hml, -, -, hown, -, -, hES⟩ := hM
  obtain ⟨hdc, hlk, hot, hsw⟩ := okE_spec hE rfl
  have hln := (hsw.resolve_left (by intro h; cases h)).symm
  simp only [stdLen] at hln
  subst hln
  simp only [pst] at hs
  split at hs
  · rename_i i a r
    obtain ⟨a, rfl⟩ : ∃ y : Nat, y = a := ⟨a, rfl⟩
    split at hs
    · rename_i hk
      obtain ⟨hk1, h9, hk3⟩ := hk
      cases hs
      have K := kk H locs cells slots rls hR hL hlo hro hz
      change W p l e R s m args below meth c H locs cells slots Q (F0 m pc rls (.int i :: rv G (.ref a) :: r.map (rv G)))
      change W p l e R s m args below meth c H locs cells slots Q (F0 m (pc + 1) rls (.int (μ.2.1 a i.toNatClampNeg) :: r.map (rv G))) at K
      obtain ⟨r1, r2⟩ := hR.2.2.2.2.2.2 a h9
      have hS := hR.S2 hES.2.2.2.1 hz hlo
      rw [r1] at hk1 hk3
      rw [r2] at K
      rcases old_kind hC h9 with ⟨a1, a2⟩ | ⟨a1, a2, a3⟩ | ⟨rfl, a2⟩ | ⟨rfl, a2⟩ | ⟨a1, a2⟩
      · omega
      · rw [rv_old hC (by omega)]
        obtain ⟨d1, d2, d3, d4⟩ := hC.2.1 (a - 3) (by omega)
        obtain ⟨w1, w2, w3, w4⟩ := hES.2.2.2.2.1.1 (a - 3) (by omega)
        dsimp only at w4
        rw [show a - 3 + 3 = a by omega] at d3 d4 w4
        rw [d3] at hk3
        rw [d4] at K
        exact va_tb hx hb w4 hS hk3 rfl hdc K
      · omega
      · omega
      · omega
    · cases hs
  · cases hs
set_option maxHeartbeats 4000000 in
theorem hp_alen (hC : CG G) (hM : MC p G M s m meth c) (hE : okE (mOwn M) (mCd M) (pc, len, idx, .arraylength) = true) (hR : RelH G μ H) (hL : RLs G ls rls (mMax M)) (hlo : LocOK G locs) (hro : RoomOK R cells slots μ d) (hz : s.heap.size ≤ H.size)
    (hs : pst .arraylength pc len ls st μ = some q) (kk : Kk p l e R s m args below meth c Q G M d q) : W p l e R s m args below meth c H locs cells slots Q (F0 m pc rls (st.map (rv G))) := by
  obtain ⟨hx, hb, hml, -, -, hown, -, -, hES⟩ := hM
  obtain ⟨hdc, hlk, hot, hsw⟩ := okE_spec hE rfl
  have hln := (hsw.resolve_left (by intro h; cases h)).symm
  simp only [stdLen] at hln
  subst hln
  simp only [pst] at hs
  split at hs
  · rename_i a r
    obtain ⟨a, rfl⟩ : ∃ y : Nat, y = a := ⟨a, rfl⟩
    split at hs
    · rename_i hk
      obtain ⟨hk1, hk2⟩ := hk
      cases hs
      have K := kk H locs cells slots rls hR hL hlo hro hz
      change W p l e R s m args below meth c H locs cells slots Q (F0 m pc rls (rv G (.ref a) :: r.map (rv G)))
      change W p l e R s m args below meth c H locs cells slots Q (F0 m (pc + 1) rls (.int (Int32.ofNat (μ.1 a).2.1) :: r.map (rv G))) at K
      by_cases h9 : a < 9
      · obtain ⟨r1, r2⟩ := hR.2.2.2.2.2.2 a h9
        have hS := hR.S2 hES.2.2.2.1 hz hlo
        rw [r1] at hk1 K
        rcases old_kind hC h9 with ⟨a1, a2⟩ | ⟨a1, a2, a3⟩ | ⟨rfl, a2⟩ | ⟨rfl, a2⟩ | ⟨a1, a2⟩
        · omega
        · rw [rv_old hC (by omega)]
          obtain ⟨d1, d2, d3, d4⟩ := hC.2.1 (a - 3) (by omega)
          obtain ⟨w1, w2, w3, w4⟩ := hES.2.2.2.2.1.1 (a - 3) (by omega)
          dsimp only at w4
          rw [show a - 3 + 3 = a by omega] at d3 w4
          rw [d3] at K
          exact va_tlen hx hb w4 hS rfl hdc K
        · rw [rv_old hC (by omega)]
          rw [hC.2.2.1] at K
          exact va_tlen hx hb hES.2.2.2.2.2.2.2.1.1 hS rfl hdc K
        · rw [rv_old hC (by omega)]
          obtain ⟨x1, x2⟩ := hES.2.2.2.2.2.2.2.2.2.2.1
          exact va_slen hx hb x1 (Nat.lt_of_lt_of_le x2 hES.2.2.1) (Nat.not_le.mpr x2) hS hdc K
        · omega
      · have h9 : 9 ≤ a := by omega
        have he := wsOf_get (G := G) h9 hk2
        rw [rv_new hC.1 h9]
        rcases hk1 with z | ⟨-, z⟩ | ⟨z | z, -⟩
        · rw [enc_i z] at he
          exact va_alen (D := (gC G, gF G)) (cl := vwCl) hx hb hES.2.1 hR.1 (a - 9) 0 he (tyG G).1 rfl hdc K
        · exact absurd z (Nat.not_lt.mpr h9)
        · rw [enc_r (Or.inr (Or.inl z)), z] at he
          exact va_alen (D := (gC G, gF G)) (cl := vwCl) hx hb hES.2.1 hR.1 (a - 9) 3 he (tyG G).2.2.2.1 rfl hdc K
        · rw [enc_r (Or.inr (Or.inr z)), z] at he
          exact va_alen (D := (gC G, gF G)) (cl := vwCl) hx hb hES.2.1 hR.1 (a - 9) 4 he (tyG G).2.2.2.2 rfl hdc K
    · cases hs
  · cases hs
set_option maxHeartbeats 4000000 in
theorem hp_lald (hC : CG G) (hM : MC p G M s m meth c) (hE : okE (mOwn M) (mCd M) (pc, len, idx, .laload) = true) (hR : RelH G μ H) (hL : RLs G ls rls (mMax M)) (hlo : LocOK G locs) (hro : RoomOK R cells slots μ d) (hz : s.heap.size ≤ H.size)
    (hs : pst .laload pc len ls st μ = some q) (kk : Kk p l e R s m args below meth c Q G M d q) : W p l e R s m args below meth c H locs cells slots Q (F0 m pc rls (st.map (rv G))) := by
  obtain ⟨hx, hb, hml, -, -, hown, -, -, hES⟩ := hM
  obtain ⟨hdc, hlk, hot, hsw⟩ := okE_spec hE rfl
  have hln := (hsw.resolve_left (by intro h; cases h)).symm
  simp only [stdLen] at hln
  subst hln
  simp only [pst] at hs
  split at hs
  · rename_i i a r
    obtain ⟨a, rfl⟩ : ∃ y : Nat, y = a := ⟨a, rfl⟩
    split at hs
    · rename_i hk
      obtain ⟨hk1, ⟨h9, hk2⟩, hk3⟩ := hk
      have h9 : (9 : Nat) ≤ a := h9
      cases hs
      have K := kk H locs cells slots rls hR hL hlo hro hz
      change W p l e R s m args below meth c H locs cells slots Q (F0 m pc rls (.int i :: rv G (.ref a) :: r.map (rv G)))
      have he := wsOf_get (G := G) h9 hk2
      rw [enc_l hk1] at he
      rw [rv_new hC.1 h9]
      exact va_lald (D := (gC G, gF G)) (cl := vwCl) hx hb hES.2.1 hR.1 (a - 9) 1 he (tyG G).2.1 hk3 hdc K
    · cases hs
  · cases hs
set_option maxHeartbeats 4000000 in
theorem hp_aald (hC : CG G) (hM : MC p G M s m meth c) (hE : okE (mOwn M) (mCd M) (pc, len, idx, .aaload) = true) (hR : RelH G μ H) (hL : RLs G ls rls (mMax M)) (hlo : LocOK G locs) (hro : RoomOK R cells slots μ d) (hz : s.heap.size ≤ H.size)
    (hs : pst .aaload pc len ls st μ = some q) (kk : Kk p l e R s m args below meth c Q G M d q) : W p l e R s m args below meth c H locs cells slots Q (F0 m pc rls (st.map (rv G))) := by
  obtain ⟨hx, hb, hml, -, -, hown, -, -, hES⟩ := hM
  obtain ⟨hdc, hlk, hot, hsw⟩ := okE_spec hE rfl
  have hln := (hsw.resolve_left (by intro h; cases h)).symm
  simp only [stdLen] at hln
  subst hln
  simp only [pst] at hs
  split at hs
  · rename_i i a r
    obtain ⟨a, rfl⟩ : ∃ y : Nat, y = a := ⟨a, rfl⟩
    split at hs
    · rename_i hk
      obtain ⟨hk1, ⟨h9, hk2⟩, hk3⟩ := hk
      have h9 : (9 : Nat) ≤ a := h9
      obtain ⟨v, hv, hs⟩ := Option.bind_eq_some_iff.mp hs
      split at hs
      · rename_i q9
        cases hs
        have K := kk H locs cells slots rls hR hL hlo hro hz
        change W p l e R s m args below meth c H locs cells slots Q (F0 m pc rls (.int i :: rv G (.ref a) :: r.map (rv G)))
        change W p l e R s m args below meth c H locs cells slots Q (F0 m (pc + 1) rls (va_rf (gAd G q9) :: r.map (rv G))) at K
        have hat := hR.at h9 hk2
        rw [enc_r hk1] at hat
        rw [rv_new hC.1 h9]
        have hcell : H[gBs G + (a - 9)]? = some (arrV (gA G (μ.1 a).1) (μ.1 a).2.1 (fun j => va_rf (encR G (μ.1 a).2.2 j))) := hat
        have hlt : i.toNatClampNeg < (μ.1 a).2.1 := Nat.not_le.mp fun z => hk3 (Or.inr z)
        have hval : encR G (μ.1 a).2.2 i.toNatClampNeg = gAd G q9 := by unfold encR; rw [hv]
        have hrd : (arrV (gA G (μ.1 a).1) (μ.1 a).2.1 (fun j => va_rf (encR G (μ.1 a).2.2 j))).slots[i.toNatClampNeg]? = some (va_rf (gAd G q9)) := by rw [arrV_read _ _ hlt, hval]
        have hin : ¬ (i < 0 ∨ (arrV (gA G (μ.1 a).1) (μ.1 a).2.1 (fun j => va_rf (encR G (μ.1 a).2.2 j))).slots.size ≤ i.toNatClampNeg) := by rw [arrV_size]; exact hk3
        rcases hk1 with z | z | z
        · rw [z] at hcell hrd hin
          exact W.aald hx hb hcell ((hES.2.1.2 2 _ (tyG G).2.2.1).1 _ _) rfl (fun h => by cases h) hin hrd rfl rfl hdc K
        · rw [z] at hcell hrd hin
          exact W.aald hx hb hcell ((hES.2.1.2 3 _ (tyG G).2.2.2.1).1 _ _) rfl (fun h => by cases h) hin hrd rfl rfl hdc K
        · rw [z] at hcell hrd hin
          exact W.aald hx hb hcell ((hES.2.1.2 4 _ (tyG G).2.2.2.2).1 _ _) rfl (fun h => by cases h) hin hrd rfl rfl hdc K
      · cases hs
    · cases hs
  · cases hs
set_option maxHeartbeats 4000000 in
theorem hp_iast (hC : CG G) (hM : MC p G M s m meth c) (hE : okE (mOwn M) (mCd M) (pc, len, idx, .iastore) = true) (hR : RelH G μ H) (hL : RLs G ls rls (mMax M)) (hlo : LocOK G locs) (hro : RoomOK R cells slots μ d) (hz : s.heap.size ≤ H.size)
    (hs : pst .iastore pc len ls st μ = some q) (kk : Kk p l e R s m args below meth c Q G M d q) : W p l e R s m args below meth c H locs cells slots Q (F0 m pc rls (st.map (rv G))) := by
  obtain ⟨hx, hb, hml, -, -, hown, -, -, hES⟩ := hM
  obtain ⟨hdc, hlk, hot, hsw⟩ := okE_spec hE rfl
  have hln := (hsw.resolve_left (by intro h; cases h)).symm
  simp only [stdLen] at hln
  subst hln
  simp only [pst] at hs
  split at hs
  · rename_i x i a r
    obtain ⟨a, rfl⟩ : ∃ y : Nat, y = a := ⟨a, rfl⟩
    split at hs
    · rename_i hk
      obtain ⟨hk1, ⟨h9, hk2⟩, hk3⟩ := hk
      have h9 : (9 : Nat) ≤ a := h9
      cases hs
      change W p l e R s m args below meth c H locs cells slots Q (F0 m pc rls (.int x :: .int i :: rv G (.ref a) :: r.map (rv G)))
      have hat := hR.at h9 hk2
      rw [enc_i hk1] at hat
      have hcell : H[gBs G + (a - 9)]? = some (arrV (gA G 20) (μ.1 a).2.1 (fun j => .int (μ.2.1 a j))) := hat
      rw [rv_new hC.1 h9]
      refine W.iast hx hb hcell ((hES.2.1.2 0 _ (tyG G).1).1 _ _) (fun h => by cases h) (by rw [arrV_size]; exact hk3) rfl rfl hdc (fun H' e1 e2 e3 => ?_)
      refine kk H' _ cells slots rls (hR.put (c := a) (μ' := (μ.1, upR μ.2.1 a (upd (μ.2.1 a) i.toNatClampNeg x), μ.2.2)) h9 hk2 rfl (fun b hb9 => enc_congr rfl (upR_ne hb9) rfl) (fun b hb9 => ⟨rfl, upR_ne (by omega)⟩) ?_ e3 e2) hL (hlo.app (by omega)) hro (by rw [e2]; exact hz)
      rw [enc_i (μ := (μ.1, upR μ.2.1 a (upd (μ.2.1 a) i.toNatClampNeg x), μ.2.2)) hk1]
      show H'[gBs G + (a - 9)]? = some (arrV (gA G 20) (μ.1 a).2.1 (fun j => .int (upR μ.2.1 a (upd (μ.2.1 a) i.toNatClampNeg x) a j)))
      rw [e1, arrV_store, upR_same]
      congr 2
      funext j
      by_cases ej : j = i.toNatClampNeg <;> simp [updV, upd, ej]
    · cases hs
  · cases hs
set_option maxHeartbeats 4000000 in
theorem hp_last (hC : CG G) (hM : MC p G M s m meth c) (hE : okE (mOwn M) (mCd M) (pc, len, idx, .lastore) = true) (hR : RelH G μ H) (hL : RLs G ls rls (mMax M)) (hlo : LocOK G locs) (hro : RoomOK R cells slots μ d) (hz : s.heap.size ≤ H.size)
    (hs : pst .lastore pc len ls st μ = some q) (kk : Kk p l e R s m args below meth c Q G M d q) : W p l e R s m args below meth c H locs cells slots Q (F0 m pc rls (st.map (rv G))) := by
  obtain ⟨hx, hb, hml, -, -, hown, -, -, hES⟩ := hM
  obtain ⟨hdc, hlk, hot, hsw⟩ := okE_spec hE rfl
  have hln := (hsw.resolve_left (by intro h; cases h)).symm
  simp only [stdLen] at hln
  subst hln
  simp only [pst] at hs
  split at hs
  · rename_i x i a r
    obtain ⟨a, rfl⟩ : ∃ y : Nat, y = a := ⟨a, rfl⟩
    split at hs
    · rename_i hk
      obtain ⟨hk1, ⟨h9, hk2⟩, hk3⟩ := hk
      have h9 : (9 : Nat) ≤ a := h9
      cases hs
      change W p l e R s m args below meth c H locs cells slots Q (F0 m pc rls (.long x :: .int i :: rv G (.ref a) :: r.map (rv G)))
      have hat := hR.at h9 hk2
      rw [enc_l hk1] at hat
      have hcell : H[gBs G + (a - 9)]? = some (arrV (gA G 21) (μ.1 a).2.1 (fun j => .long (μ.2.2.1 a j))) := hat
      rw [rv_new hC.1 h9]
      refine W.last hx hb hcell ((hES.2.1.2 1 _ (tyG G).2.1).1 _ _) (fun h => by cases h) (by rw [arrV_size]; exact hk3) rfl rfl hdc (fun H' e1 e2 e3 => ?_)
      refine kk H' _ cells slots rls (hR.put (c := a) (μ' := (μ.1, μ.2.1, upR μ.2.2.1 a (vp_updL (μ.2.2.1 a) i.toNatClampNeg x), μ.2.2.2)) h9 hk2 rfl (fun b hb9 => enc_congr rfl rfl (upR_ne hb9)) (fun b hb9 => ⟨rfl, rfl⟩) ?_ e3 e2) hL (hlo.app (by omega)) hro (by rw [e2]; exact hz)
      rw [enc_l (μ := (μ.1, μ.2.1, upR μ.2.2.1 a (vp_updL (μ.2.2.1 a) i.toNatClampNeg x), μ.2.2.2)) hk1]
      show H'[gBs G + (a - 9)]? = some (arrV (gA G 21) (μ.1 a).2.1 (fun j => .long (upR μ.2.2.1 a (vp_updL (μ.2.2.1 a) i.toNatClampNeg x) a j)))
      rw [e1, arrV_store, upR_same]
      congr 2
      funext j
      by_cases ej : j = i.toNatClampNeg <;> simp [updV, vp_updL, ej]
    · cases hs
  · cases hs
end Hp3
