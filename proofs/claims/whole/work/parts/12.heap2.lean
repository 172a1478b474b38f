/-! STORES, ARRAYS, NEW THINGS -/
def pfE (M idx : Nat) (i : Instr) : Bool := match i with
  | .putfield g => lfT.contains (mOwn M, idx, g, 0) && (match vwCl[g / 64]? with
    | some r => !(r.2.1 (g % 64)).2.2.2 || (mKi M == 2 && mOwn M == g / 64)
    | none => false)
  | _ => true
def tyT : List (Nat → FieldType) := [tyX0, tyX1, tyX2, tyX3, tyX4, tyX5, tyX6, tyX7, tyX8, tyX9, tyX10, tyX11, tyX12]
def tyOf (ci : Nat) : Nat → FieldType := tyT.getD ci tyX0
theorem vw_cases {ci : Nat} {r : vw_C} (h : vwCl[ci]? = some r) {P : Nat → vw_C → Prop} (h0 : P 0 (RX0, TX0, 3)) (h1 : P 1 (RX1, TX1, 2)) (h2 : P 2 (RX2, TX2, 8)) (h3 : P 3 (RX3, TX3, 2)) (h4 : P 4 (RX4, TX4, 4)) (h5 : P 5 (RX5, TX5, 1)) (h6 : P 6 (RX6, TX6, 8)) (h7 : P 7 (RX7, TX7, 7)) (h8 : P 8 (RX8, TX8, 3)) (h9 : P 9 (RX9, TX9, 2)) (h10 : P 10 (RX10, TX10, 4)) (h11 : P 11 (RX11, TX11, 18)) (h12 : P 12 (RX12, TX12, 43)) : P ci r := by
  have hl := vw_lt h
  match ci, hl, h with
  | 0, _, h => cases h; exact h0
  | 1, _, h => cases h; exact h1
  | 2, _, h => cases h; exact h2
  | 3, _, h => cases h; exact h3
  | 4, _, h => cases h; exact h4
  | 5, _, h => cases h; exact h5
  | 6, _, h => cases h; exact h6
  | 7, _, h => cases h; exact h7
  | 8, _, h => cases h; exact h8
  | 9, _, h => cases h; exact h9
  | 10, _, h => cases h; exact h10
  | 11, _, h => cases h; exact h11
  | 12, _, h => cases h; exact h12
theorem ty_ok {ci : Nat} {r : vw_C} (h : vwCl[ci]? = some r) : ∀ k, k < r.2.2 → parseFieldDescriptor (r.2.1 k).2.2.1 = some (tyOf ci k) :=
  vw_cases h (P := fun ci r => ∀ k, k < r.2.2 → parseFieldDescriptor (r.2.1 k).2.2.1 = some (tyOf ci k)) tyX0_ok tyX1_ok tyX2_ok tyX3_ok tyX4_ok tyX5_ok tyX6_ok tyX7_ok tyX8_ok tyX9_ok tyX10_ok tyX11_ok tyX12_ok
theorem nm_ok {ci : Nat} {r : vw_C} (h : vwCl[ci]? = some r) : ∀ a, a < r.2.2 → ∀ b, b < r.2.2 → a ≠ b → (r.2.1 a).2.1 ≠ (r.2.1 b).2.1 :=
  vw_cases h (P := fun _ r => ∀ a, a < r.2.2 → ∀ b, b < r.2.2 → a ≠ b → (r.2.1 a).2.1 ≠ (r.2.1 b).2.1) nmX0 nmX1 nmX2 nmX3 nmX4 nmX5 nmX6 nmX7 nmX8 nmX9 nmX10 nmX11 nmX12
set_option maxRecDepth 100000 in
theorem fd_all : (List.range 13).all (fun ci => match vwCl[ci]? with
  | some r => decide ((fdef.getD ci []).length = r.2.2) && ((List.range r.2.2).all (fun k => decide ((fdef.getD ci []).getD k .null = defaultValue (tyOf ci k)) && (decide (tyOf ci k = .int) || (decide ((tyOf ci k).isReference = true) && decide ((fdef.getD ci []).getD k .null = .null)))))
  | none => false) = true := by decide +kernel
theorem fd_at {ci : Nat} {r : vw_C} (h : vwCl[ci]? = some r) : (fdef.getD ci []).length = r.2.2 ∧ ∀ k, k < r.2.2 → (fdef.getD ci []).getD k .null = defaultValue (tyOf ci k) ∧ (tyOf ci k = .int ∨ ((tyOf ci k).isReference = true ∧ (fdef.getD ci []).getD k .null = .null)) := by
  have h1 := List.all_eq_true.mp fd_all ci (List.mem_range.mpr (vw_lt h))
  rw [h] at h1
  simp only [Bool.and_eq_true, decide_eq_true_eq] at h1
  refine ⟨h1.1, fun k hk => ?_⟩
  have h2 := List.all_eq_true.mp h1.2 k (List.mem_range.mpr hk)
  simpa [Bool.and_eq_true, Bool.or_eq_true, decide_eq_true_eq] using h2
theorem decl_ok {ci : Nat} {r : vw_C} (h : vwCl[ci]? = some r) : ∀ k, k < r.2.2 → (r.2.1 k).1 = cnS ci :=
  vw_cases h (P := fun ci r => ∀ k, k < r.2.2 → (r.2.1 k).1 = cnS ci) (by decide +kernel) (by decide +kernel) (by decide +kernel) (by decide +kernel) (by decide +kernel) (by decide +kernel) (by decide +kernel) (by decide +kernel) (by decide +kernel) (by decide +kernel) (by decide +kernel) (by decide +kernel) (by decide +kernel)
theorem getD_self {α : Type} {l : List α} {k : Nat} {d : α} (h : k < l.length) : l[k]? = some (l.getD k d) := by
  rw [List.getD_eq_getElem?_getD, List.getElem?_eq_getElem h]
  rfl
theorem ref_fits {ty : FieldType} (h : ty.isReference = true) (r : Option Nat) : narrow ty (va_rf r) = va_rf r ∧ fits ty (va_rf r) = true := by
  cases ty <;> first | (cases r <;> exact ⟨rfl, rfl⟩) | (exact absurd h (by decide))
theorem ftyOk_spec {ci k : Nat} {r : vw_C} {v : Value} (h : vwCl[ci]? = some r) (hk : k < r.2.2) {g : Nat} (hg : g / 64 = ci) (hg2 : g % 64 = k) (hv : ftyOk g v = true) (G : GP) : narrow (tyOf ci k) (rv G v) = rv G v ∧ fits (tyOf ci k) (rv G v) = true := by
  obtain ⟨f1, f2⟩ := fd_at h
  obtain ⟨f3, f4⟩ := f2 k hk
  unfold ftyOk at hv
  rw [hg, hg2] at hv
  have hget : (fdef.getD ci [])[k]? = some ((fdef.getD ci []).getD k .null) := by
    have hl : k < (fdef.getD ci []).length := by omega
    exact getD_self hl
  rw [hget] at hv
  rcases f4 with t | ⟨t, t2⟩
  · rw [t]
    rw [f3, t] at hv
    cases v <;> first | exact ⟨rfl, rfl⟩ | (exact absurd hv (by simp [defaultValue]))
  · rw [t2] at hv
    cases v with
    | ref q => exact ref_fits t _
    | _ => exact absurd hv (by simp)
theorem ppf_inv {μ m : PM} {c k : Nat} {v : Value} (h : ppf μ c k v = some m) : m.2.2.2 = μ.2.2.2 ∧ (∀ a, a ≠ c → m.1 a = μ.1 a ∧ m.2.1 a = μ.2.1 a ∧ m.2.2.1 a = μ.2.2.1 a) ∧ (m.1 c).1 = (μ.1 c).1 ∧ k < (μ.1 c).2.2.length ∧ ∀ j, pgf m c j = if j = k then some v else pgf μ c j := by
  unfold ppf at h
  split at h
  · rename_i z x hz
    cases h
    refine ⟨rfl, fun a ha => ⟨rfl, upR_ne ha, rfl⟩, rfl, (List.getElem?_eq_some_iff.mp hz).1, fun j => ?_⟩
    unfold pgf
    by_cases e : j = k
    · subst e
      rw [if_pos rfl]
      show (match (μ.1 c).2.2[j]? with | some (Value.int _) => some (Value.int (upR μ.2.1 c (upd (μ.2.1 c) j x) c j)) | some v => some v | none => none) = _
      rw [hz, upR_same]
      simp [upd]
    · rw [if_neg e]
      show (match (μ.1 c).2.2[j]? with | some (Value.int _) => some (Value.int (upR μ.2.1 c (upd (μ.2.1 c) k x) c j)) | some v => some v | none => none) = _
      rw [upR_same]
      simp only [upd, e, if_false]
      rfl
  · rename_i q hz
    cases h
    have hk := (List.getElem?_eq_some_iff.mp hz).1
    refine ⟨rfl, fun a ha => ⟨upR_ne ha, rfl, rfl⟩, (show (upR μ.1 c ((μ.1 c).1, (μ.1 c).2.1, (μ.1 c).2.2.set k (.ref q)) c).1 = (μ.1 c).1 by rw [upR_same]), hk, fun j => ?_⟩
    unfold pgf
    show (match (upR μ.1 c ((μ.1 c).1, (μ.1 c).2.1, (μ.1 c).2.2.set k (.ref q)) c).2.2[j]? with | some (Value.int _) => some (Value.int (μ.2.1 c j)) | some v => some v | none => none) = _
    rw [upR_same]
    by_cases e : j = k
    · subst e
      rw [if_pos rfl, List.getElem?_set_self hk]
    · rw [if_neg e, List.getElem?_set_ne (Ne.symm e)]
      rfl
  · cases h
theorem LocOK.app {G : GP} {locs : List Loc} {a i : Nat} (h : LocOK G locs) (ha : gBs G ≤ a) : LocOK G (locs ++ [⟨a, i⟩]) := by
  intro q hq
  rcases List.mem_append.mp hq with z | z
  · exact h q z
  · rw [List.mem_singleton.mp z]
    exact ha
section Hp2
variable {p : Program} {l : Launch} {e : Env} {R : Room} {s : State} {m : MethodId} {args : Array Value} {below : List Frame} {meth : Method} {c : Code} {H : Heap} {locs : List Loc} {cells slots : Nat} {Q : State → Prop} {G : GP} {M : Nat} {rls : Array Slot} {μ μ' : PM} {pc len idx pc' d : Nat} {ls st ls' st' : List Value} {q : Nat × List Value × List Value × PM}
set_option maxHeartbeats 4000000 in
theorem hp_putf {g : Nat} (hC : CG G) (hM : MC p G M s m meth c) (hE : okE (mOwn M) (mCd M) (pc, len, idx, .putfield g) = true) (hF : pfE M idx (.putfield g) = true) (hR : RelH G μ H) (hL : RLs G ls rls (mMax M)) (hlo : LocOK G locs) (hro : RoomOK R cells slots μ d) (hz : s.heap.size ≤ H.size)
    (hs : pst (.putfield g) pc len ls st μ = some q) (kk : Kk p l e R s m args below meth c Q G M d q) : W p l e R s m args below meth c H locs cells slots Q (F0 m pc rls (st.map (rv G))) := by
  obtain ⟨hx, hb, hml, -, -, hown, hini, -, hES⟩ := hM
  obtain ⟨hdc, hlk, hot, hsw⟩ := okE_spec hE rfl
  have hln := (hsw.resolve_left (by intro h; cases h)).symm
  simp only [stdLen] at hln
  subst hln
  simp only [pfE, Bool.and_eq_true] at hF
  obtain ⟨hF1, hF2⟩ := hF
  have hmem : (mOwn M, idx, g, 0) ∈ lfT := by simpa using hF1
  have hfc := hES.w (lfT_in _ hmem) (fC_ok _ _ _ _) args
  simp only [pst] at hs
  split at hs
  · rename_i v cx r
    obtain ⟨cx, rfl⟩ : ∃ y : Nat, y = cx := ⟨cx, rfl⟩
    split at hs
    · rename_i hk
      obtain ⟨hk1, ⟨h9, hk2⟩, hty⟩ := hk
      have h9 : (9 : Nat) ≤ cx := h9
      obtain ⟨mu, hv, rfl⟩ := Option.map_eq_some_iff.mp hs
      obtain ⟨i1, i2, i3, i4, i5⟩ := ppf_inv hv
      cases hv9 : vwCl[g / 64]? with
      | none => rw [hv9] at hF2; cases hF2
      | some r9 =>
        rw [hv9] at hF2
        have hlt : (μ.1 cx).1 < 20 := by have := vw_lt hv9; omega
        have hlt' : (mu.1 cx).1 < 20 := by rw [i3]; exact hlt
        have hat := hR.at h9 hk2
        rw [enc_obj hlt, hk1] at hat
        obtain ⟨r8, hr8, cell, q1, q2, q3, q4⟩ := id hat
        have er : r8 = r9 := Option.some.inj (hr8.symm.trans hv9)
        subst er
        have hkN := lf_k hmem hv9
        obtain ⟨hn, hfit⟩ := ftyOk_spec hv9 hkN rfl rfl hty G
        have hts := hES.ly hv9 args
        have hap := va_apart (own := cnS (mOwn M)) hts (fun _ h => h) (tyOf (g / 64)) (ty_ok hv9) (nm_ok hv9) hES.2.1 hv9
        obtain ⟨hSl, hfcl, kC, hkC, hkind⟩ := hES.2.1.1 (g / 64) _ hv9
        obtain ⟨cf, kf, fi, f, hi, hsl⟩ := hSl (g % 64) hkN
        have hst := (u_facts hfcl hkC (u_lays hts (fun _ h => h) hkN) hi).1
        have hfi : fInf g = ((r8.2.1 (g % 64)).1, (r8.2.1 (g % 64)).2.1, (r8.2.1 (g % 64)).2.2.1) := by
          unfold fInf
          rw [hv9]
        have hfc : (Cond.fieldLink (cnS (mOwn M)) idx (r8.2.1 (g % 64)).1 (r8.2.1 (g % 64)).2.1 (r8.2.1 (g % 64)).2.2.1).before args s = true := by
          have h8 := hfc
          unfold fCond at h8
          rw [if_pos rfl, hfi] at h8
          exact h8
        change W p l e R s m args below meth c H locs cells slots Q (F0 m pc rls (rv G v :: rv G (.ref cx) :: r.map (rv G)))
        rw [rv_new hC.1 h9]
        have K : ∀ H' : Heap, H'[gBs G + (cx - 9)]? = some (cell.setSlot f.slot (rv G v)) → H'.size = H.size → (∀ q, q ≠ gBs G + (cx - 9) → H'[q]? = H[q]?) → W p l e R s m args below meth c H' (locs ++ [⟨gBs G + (cx - 9), f.slot⟩]) cells slots Q (F0 m (pc + 3) rls (r.map (rv G))) := by
          intro H' e1 e2 e3
          refine kk H' _ cells slots rls (hR.put (c := cx) h9 hk2 i1 (fun a ha => enc_congr (i2 a ha).1 (i2 a ha).2.1 (i2 a ha).2.2) (fun a ha => ⟨(i2 a (by omega)).1, (i2 a (by omega)).2.1⟩) ?_ e3 e2) hL (hlo.app (by omega)) (by unfold RoomOK; rw [i1]; exact hro) (by rw [e2]; exact hz)
          rw [enc_obj hlt', i3, hk1]
          rw [hsl] at e1
          refine ⟨_, hv9, t_OB.to (V := updV (vp_V (fsOf G μ cx)) (g % 64) (rv G v)) ⟨_, e1, q2, q3, t_set q4 hap hkN (rv G v)⟩ (fun j _ => ?_)⟩
          rw [fsOf_V, i5 j]
          by_cases ej : j = g % 64
          · subst ej
            simp [updV]
          · rw [if_neg ej]
            simp only [updV, if_neg ej]
            rw [fsOf_V]
        have hlay := hts _ (u_in_lay hkN)
        unfold u_lay at hlay
        cases hfl : (r8.2.1 (g % 64)).2.2.2 with
        | false =>
          rw [if_neg (by rw [hfl]; decide)] at hlay
          have h6 := u_store hfcl hkC hkind hlay hi (ty_ok hv9 _ hkN) hn hfit
          exact W.putK hx hb (f := f) ⟨hown, hfc, ⟨_, _, _, hi⟩, hst⟩ (by rw [q2]; exact h6) q1 q3 (by rw [hsl]; exact k2_hasslot (q4 _ hkN)) rfl rfl hdc K
        | true =>
          rw [if_pos hfl] at hlay
          simp only [hfl, Bool.not_true, Bool.false_or, Bool.and_eq_true, beq_iff_eq] at hF2
          have hdecl : (r8.2.1 (g % 64)).1 = cnS (mOwn M) := by
            rw [hF2.2]
            exact decl_ok hv9 _ hkN
          have hcf : m.cls = cf := by
            obtain ⟨_, _, c', _, _, _, -, -, hf', -, -, -, hown2, -⟩ := Cond.laysFinal_spec hlay
            have e1 : c' = cf := by have := hi.symm.trans hf'; simp at this; exact this.1.symm
            rw [hdecl] at hown2
            rw [← e1]; exact Option.some.inj (hown.symm.trans hown2)
          have h6 := u_fits hfcl hkC hkind (Or.inr hlay) hi (ty_ok hv9 _ hkN) hn hfit
          exact W.putFinK hx hb hown hfc hi hst hcf (hini hF2.1) (by rw [q2]; exact h6) q1 q3 (by rw [hsl]; exact k2_hasslot (q4 _ hkN)) rfl rfl hdc K
    · cases hs
  · cases hs
end Hp2
