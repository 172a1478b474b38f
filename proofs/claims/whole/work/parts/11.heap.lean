/-! INSTRUCTIONS ON THE HEAP -/
set_option maxRecDepth 100000 in
theorem lf_k0 : lfT.all (fun e => match vwCl[e.2.2.1 / 64]? with
  | some r => decide (e.2.2.1 % 64 < r.2.2)
  | none => decide (e.2.2.1 / 64 = 13 ∧ e.2.2.1 % 64 < 2 ∧ e.2.2.2 = 0)) = true := by decide +kernel
theorem lf_k {o idx g ne : Nat} (h : (o, idx, g, ne) ∈ lfT) {r : vw_C} (hr : vwCl[g / 64]? = some r) : g % 64 < r.2.2 := by
  have := List.all_eq_true.mp lf_k0 _ h
  dsimp only at this
  rw [hr] at this
  simpa using this
theorem lf_s {o idx g ne : Nat} (h : (o, idx, g, ne) ∈ lfT) (hr : vwCl[g / 64]? = none) : g / 64 = 13 ∧ g % 64 < 2 ∧ ne = 0 := by
  have := List.all_eq_true.mp lf_k0 _ h
  dsimp only at this
  rw [hr] at this
  simpa using this
set_option maxRecDepth 100000 in
theorem ly_all : (List.range 13).all (fun ci => match vwCl[ci]? with
  | some r => (List.range r.2.2).all (fun k => lyT.contains (ci, k))
  | none => false) = true := by decide +kernel
theorem vw_lt {ci : Nat} {r : vw_C} (h : vwCl[ci]? = some r) : ci < 13 := (List.getElem?_eq_some_iff.mp h).1
theorem ly_in {ci : Nat} {r : vw_C} (h : vwCl[ci]? = some r) : ∀ q ∈ u_ws r.1 r.2.1 r.2.2, q ∈ lw_tbl ∧ kOk q = true := by
  intro q hq
  obtain ⟨k, hk, rfl⟩ := List.mem_map.mp hq
  have h1 := List.all_eq_true.mp ly_all ci (List.mem_range.mpr (vw_lt h))
  rw [h] at h1
  have h2 := List.all_eq_true.mp h1 k hk
  have h3 := lyT_in (ci, k) (by simpa using h2)
  refine ⟨?_, ?_⟩
  · simpa [lyC, h] using h3
  · unfold u_lay
    split <;> rfl
theorem ES.ly {G : GP} {s : State} (h : ES G s) {ci : Nat} {r : vw_C} (hr : vwCl[ci]? = some r) (A : Array Value) : ∀ q ∈ u_ws r.1 r.2.1 r.2.2, q.before A s = true := fun q hq => h.w (ly_in hr q hq).1 (ly_in hr q hq).2 A
theorem fC_ok (o idx g ne : Nat) : kOk (fCond o idx g ne) = true := by unfold fCond; split <;> rfl
theorem mC_ok (o idx M ne : Nat) : kOk (mCond o idx M ne) = true := by unfold mCond; split <;> rfl
def fsOf (G : GP) (μ : PM) (c : Nat) : List Value := (List.range (μ.1 c).2.2.length).map (fun k => rv G ((pgf μ c k).getD .null))
theorem pgf_lt {μ : PM} {c k : Nat} {v : Value} (h : pgf μ c k = some v) : k < (μ.1 c).2.2.length := by
  unfold pgf at h
  cases hk : (μ.1 c).2.2[k]? with
  | none => rw [hk] at h; cases h
  | some x => exact (List.getElem?_eq_some_iff.mp hk).1
theorem pgf_none {μ : PM} {c k : Nat} (h : (μ.1 c).2.2.length ≤ k) : pgf μ c k = none := by
  unfold pgf
  rw [List.getElem?_eq_none h]
theorem fsOf_V (G : GP) (μ : PM) (c j : Nat) : vp_V (fsOf G μ c) j = rv G ((pgf μ c j).getD .null) := by
  unfold vp_V fsOf
  rw [List.getD_eq_getElem?_getD, List.getElem?_map]
  by_cases h : j < (μ.1 c).2.2.length
  · rw [List.getElem?_range h]; rfl
  · rw [List.getElem?_eq_none (by simpa using h), pgf_none (by omega)]; rfl
theorem fsOf_get {G : GP} {μ : PM} {c k : Nat} {v : Value} (h : pgf μ c k = some v) : (fsOf G μ c)[k]? = some (rv G v) := by
  unfold fsOf
  rw [List.getElem?_map, List.getElem?_range (pgf_lt h), Option.map_some, h]
  rfl
theorem enc_obj {G : GP} {μ : PM} {c : Nat} (h : (μ.1 c).1 < 20) : enc G μ c = .inr ((μ.1 c).1, fsOf G μ c) := by
  unfold enc
  rw [if_neg (by omega), if_neg (by omega), if_neg (by omega)]
  rfl
theorem enc_i {G : GP} {μ : PM} {c : Nat} (h : (μ.1 c).1 = 20) : enc G μ c = .inl (gA G 20, (μ.1 c).2.1, .inl (μ.2.1 c)) := by
  unfold enc
  rw [if_pos h]
theorem enc_l {G : GP} {μ : PM} {c : Nat} (h : (μ.1 c).1 = 21) : enc G μ c = .inl (gA G 21, (μ.1 c).2.1, .inr (.inl (μ.2.2.1 c))) := by
  unfold enc
  rw [if_neg (by omega), if_pos h]
theorem enc_r {G : GP} {μ : PM} {c : Nat} (h : (μ.1 c).1 = 22 ∨ (μ.1 c).1 = 23 ∨ (μ.1 c).1 = 24) : enc G μ c = .inl (gA G (μ.1 c).1, (μ.1 c).2.1, .inr (.inr (.inr (.inr (encR G (μ.1 c).2.2))))) := by
  unfold enc
  rw [if_neg (by omega), if_neg (by omega), if_pos h]
/-- the old things -/
theorem old_kind {G : GP} (hC : CG G) {c : Nat} (h : c < 9) : (c < 3 ∧ (gS G c).1 = 13) ∨ (3 ≤ c ∧ c < 6 ∧ (gS G c).1 = 25) ∨ (c = 6 ∧ (gS G c).1 = 20) ∨ (c = 7 ∧ (gS G c).1 = 20) ∨ (c = 8 ∧ (gS G c).1 = 99) := by
  obtain ⟨-, h1, h2, h3, -, h4⟩ := hC
  rcases (by omega : c < 3 ∨ (3 ≤ c ∧ c < 6) ∨ c = 6 ∨ c = 7 ∨ c = 8) with q | ⟨q, q2⟩ | rfl | rfl | rfl
  · exact Or.inl ⟨q, by rw [(h1 c q).1]⟩
  · refine Or.inr (Or.inl ⟨q, q2, ?_⟩)
    have := (h1 (c - 3) (by omega)).2.2.1
    rw [show c - 3 + 3 = c by omega] at this
    rw [this]
  · exact Or.inr (Or.inr (Or.inl ⟨rfl, by rw [h2]⟩))
  · exact Or.inr (Or.inr (Or.inr (Or.inl ⟨rfl, h3⟩)))
  · exact Or.inr (Or.inr (Or.inr (Or.inr ⟨rfl, h4⟩)))
theorem rv_old {G : GP} (hC : CG G) {c : Nat} (h : c < 8) : rv G (.ref c) = .ref (adr G c) := by
  obtain ⟨a, ha⟩ := hC.1.2.2 c h
  show va_rf (gAd G c) = _
  unfold adr
  rw [ha]
  rfl
theorem tyG (G : GP) : (tysOf G)[0]? = some (gA G 20, .int) ∧ (tysOf G)[1]? = some (gA G 21, .long) ∧ (tysOf G)[2]? = some (gA G 22, .array .int) ∧ (tysOf G)[3]? = some (gA G 23, .object "AlarmRule$Morning") ∧ (tysOf G)[4]? = some (gA G 24, .object "AlarmRule$Works") := ⟨rfl, rfl, rfl, rfl, rfl⟩
theorem vp_in_of2 {i : Int32} {n : Nat} (h : ¬ (i < 0 ∨ n ≤ i.toNatClampNeg)) : vp_in i n := h
section Hps
variable {p : Program} {l : Launch} {e : Env} {R : Room} {s : State} {m : MethodId} {args : Array Value} {below : List Frame} {meth : Method} {c : Code} {H : Heap} {locs : List Loc} {cells slots : Nat} {Q : State → Prop} {G : GP} {M : Nat} {rls : Array Slot} {μ μ' : PM} {pc len idx pc' d : Nat} {ls st ls' st' : List Value} {q : Nat × List Value × List Value × PM}
set_option maxHeartbeats 4000000 in
theorem hp_getf {g : Nat} (hC : CG G) (hM : MC p G M s m meth c) (hE : okE (mOwn M) (mCd M) (pc, len, idx, .getfield g) = true) (hR : RelH G μ H) (hL : RLs G ls rls (mMax M)) (hlo : LocOK G locs) (hro : RoomOK R cells slots μ d) (hz : s.heap.size ≤ H.size)
    (hs : pst (.getfield g) pc len ls st μ = some q) (kk : Kk p l e R s m args below meth c Q G M d q) : W p l e R s m args below meth c H locs cells slots Q (F0 m pc rls (st.map (rv G))) := by
  obtain ⟨hx, hb, hml, -, -, hown, -, -, hES⟩ := hM
  obtain ⟨hdc, hlk, hot, hsw⟩ := okE_spec hE rfl
  have hln := (hsw.resolve_left (by intro h; cases h)).symm
  simp only [stdLen] at hln
  subst hln
  obtain ⟨ne, hne⟩ := has4_of hlk
  have hfc := hES.w (lfT_in _ hne) (fC_ok _ _ _ _) args
  dsimp only at hfc
  simp only [pst] at hs
  split at hs
  · rename_i cx r
    obtain ⟨cx, rfl⟩ : ∃ y : Nat, y = cx := ⟨cx, rfl⟩
    split at hs
    · rename_i hk
      obtain ⟨v, hv, rfl⟩ := Option.map_eq_some_iff.mp hs
      have K := kk H locs cells slots rls hR hL hlo hro hz
      by_cases h9 : cx < 9
      · obtain ⟨r1, r2⟩ := hR.2.2.2.2.2.2 cx h9
        have hk1 := hk.1
        rw [r1] at hk1
        have hno : vwCl[g / 64]? = none := by
          rcases old_kind hC h9 with ⟨a1, a2⟩ | ⟨a1, a2, a3⟩ | ⟨a1, a2⟩ | ⟨a1, a2⟩ | ⟨a1, a2⟩ <;> exact List.getElem?_eq_none (by rw [← hk1]; first | (rw [a2]; decide) | (rw [a3]; decide))
        obtain ⟨g1, g2, g3⟩ := lf_s hne hno
        have h3 : cx < 3 := by
          rcases old_kind hC h9 with ⟨a1, a2⟩ | ⟨a1, a2, a3⟩ | ⟨a1, a2⟩ | ⟨a1, a2⟩ | ⟨a1, a2⟩ <;> omega
        obtain ⟨d1, d2, d3, d4⟩ := hC.2.1 cx h3
        obtain ⟨w1, w2, w3, w4⟩ := hES.2.2.2.2.1.1 cx h3
        have hS := hR.S2 hES.2.2.2.1 hz hlo
        subst g3
        have hfc : (Cond.fieldLink (cnS (mOwn M)) idx (fInf g).1 (fInf g).2.1 (fInf g).2.2).before args s = true := hfc
        unfold fInf at hfc
        rw [hno] at hfc
        unfold pgf at hv
        rw [r1, d1] at hv
        change W p l e R s m args below meth c H locs cells slots Q (F0 m pc rls (rv G (.ref cx) :: r.map (rv G)))
        rw [rv_old hC (by omega)]
        rcases (by omega : g % 64 = 0 ∨ g % 64 = 1) with z | z
        · rw [z] at hv hfc
          cases hv
          refine vk_getf hx hb w3 hS hown hfc (fun _ h => h) hdc ?_
          change W p l e R s m args below meth c H locs cells slots Q (F0 m (pc + 3) rls (rv G (.ref (cx + 3)) :: r.map (rv G))) at K
          rw [rv_old hC (by omega)] at K
          exact K
        · rw [z] at hv hfc
          cases hv
          refine vk_getf hx hb w2 hS hown hfc (fun _ h => h) hdc ?_
          change W p l e R s m args below meth c H locs cells slots Q (F0 m (pc + 3) rls (.int (μ.2.1 cx 1) :: r.map (rv G))) at K
          rw [r2, d2] at K
          exact K
      · have h9 : 9 ≤ cx := by omega
        obtain ⟨hk1, hk2⟩ := hk
        have hat := hR.at h9 hk2
        have hlt : (μ.1 cx).1 < 20 := by
          rw [hk1]
          cases hv9 : vwCl[g / 64]? with
          | some r9 => have := vw_lt hv9; omega
          | none => have := (lf_s hne hv9).1; omega
        rw [enc_obj hlt] at hat
        obtain ⟨r9, hr9, -⟩ := id hat
        rw [hk1] at hr9
        have hkN := lf_k hne hr9
        change W p l e R s m args below meth c H locs cells slots Q (F0 m pc rls (rv G (.ref cx) :: r.map (rv G)))
        rw [rv_new hC.1 h9]
        have he := wsOf_get (G := G) h9 hk2
        rw [enc_obj hlt, hk1] at he
        have hfi : fInf g = ((r9.2.1 (g % 64)).1, (r9.2.1 (g % 64)).2.1, (r9.2.1 (g % 64)).2.2.1) := by
          unfold fInf
          rw [hr9]
        unfold fCond at hfc
        split at hfc
        · rw [hfi] at hfc
          exact va_get (D := (gC G, gF G)) (C := r9.1) (T := r9.2.1) (N := r9.2.2) (tys := tysOf G) hx hb (hES.ly hr9 args) (fun _ h => h) hown hES.2.1 hR.1 (cx - 9) he hr9 (g % 64) hkN hfc (fun _ h => h) (fsOf_get hv) hdc K
        · rw [hfi] at hfc
          exact va_getN (D := (gC G, gF G)) (C := r9.1) (T := r9.2.1) (N := r9.2.2) (tys := tysOf G) hx hb (hES.ly hr9 args) (fun _ h => h) hown hES.2.1 hR.1 (cx - 9) he hr9 (g % 64) hkN hfc (fun _ h => h) (fsOf_get hv) hdc K
    · cases hs
  · cases hs
end Hps
