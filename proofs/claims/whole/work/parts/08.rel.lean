/-! THE PURE MEMORY IN THE HEAP: names, addresses, cells -/
abbrev GP : Type := (Nat → Option Nat) × Nat × Heap × (Nat → ClassId) × (Nat → Nat → Nat) × (Nat → ClassId) × (Nat → PS) × (Nat → Nat → Int32)
def gAd (G : GP) : Nat → Option Nat := G.1
def gBs (G : GP) : Nat := G.2.1
def gH (G : GP) : Heap := G.2.2.1
def gC (G : GP) : Nat → ClassId := G.2.2.2.1
def gF (G : GP) : Nat → Nat → Nat := G.2.2.2.2.1
def gA (G : GP) : Nat → ClassId := G.2.2.2.2.2.1
def gS (G : GP) : Nat → PS := G.2.2.2.2.2.2.1
def gI (G : GP) : Nat → Nat → Int32 := G.2.2.2.2.2.2.2
def gN (G : GP) : Nat → Prop := fun q => gBs G ≤ q
/-- a pure value as the machine has it -/
def rv (G : GP) (v : Value) : Value := match v with
  | .ref c => va_rf (gAd G c)
  | v => v
theorem rv_int (G : GP) (x : Int32) : rv G (.int x) = .int x := rfl
theorem rv_long (G : GP) (x : Int64) : rv G (.long x) = .long x := rfl
theorem rv_null (G : GP) : rv G .null = .null := rfl
theorem rv_cat (G : GP) (v : Value) : (rv G v).category = v.category := by
  cases v <;> try rfl
  rename_i c
  show (va_rf (gAd G c)).category = 1
  cases gAd G c <;> rfl
def gTop (G : GP) : Prop := (gH G).size = gBs G ∧ (∀ c, 9 ≤ c → gAd G c = some (gBs G + (c - 9))) ∧ ∀ c, c < 8 → ∃ a, gAd G c = some a
theorem rv_new {G : GP} (h : gTop G) {c : Nat} (hc : 9 ≤ c) : rv G (.ref c) = .ref (gBs G + (c - 9)) := by
  show va_rf (gAd G c) = _
  rw [h.2.1 c hc]
  rfl
def encR (G : GP) (rs : List Value) : Nat → Option Nat := fun j => match rs[j]? with
  | some (.ref q) => gAd G q
  | _ => none
def enc (G : GP) (μ : PM) (c : Nat) : va_E :=
  if (μ.1 c).1 = 20 then .inl (gA G 20, (μ.1 c).2.1, .inl (μ.2.1 c))
  else if (μ.1 c).1 = 21 then .inl (gA G 21, (μ.1 c).2.1, .inr (.inl (μ.2.2.1 c)))
  else if (μ.1 c).1 = 22 ∨ (μ.1 c).1 = 23 ∨ (μ.1 c).1 = 24 then .inl (gA G (μ.1 c).1, (μ.1 c).2.1, .inr (.inr (.inr (.inr (encR G (μ.1 c).2.2)))))
  else .inr ((μ.1 c).1, (List.range (μ.1 c).2.2.length).map (fun k => rv G ((pgf μ c k).getD .null)))
def wsOf (G : GP) (μ : PM) : va_W := (List.range (μ.2.2.2.1 - 9)).map (fun j => (gBs G + j, enc G μ (j + 9)))
theorem wsOf_get {G : GP} {μ : PM} {c : Nat} (h9 : 9 ≤ c) (hc : c < μ.2.2.2.1) : (wsOf G μ)[c - 9]? = some (gBs G + (c - 9), enc G μ c) := by
  unfold wsOf
  rw [List.getElem?_map, List.getElem?_range (by omega)]
  show some (gBs G + (c - 9), enc G μ (c - 9 + 9)) = _
  rw [show c - 9 + 9 = c by omega]
theorem map_range_set {α : Type} {f g : Nat → α} {n j0 : Nat} {x : α} (h : ∀ j, j < n → j ≠ j0 → g j = f j) (h0 : g j0 = x) : ((List.range n).map f).set j0 x = (List.range n).map g := by
  apply List.ext_getElem?
  intro k
  by_cases hk : k < n
  · rw [List.getElem?_map, List.getElem?_range hk]
    by_cases e : j0 = k
    · subst e
      rw [List.getElem?_set_self (by simpa using hk)]
      simp [h0]
    · rw [List.getElem?_set_ne e, List.getElem?_map, List.getElem?_range hk]
      simp [h k hk (Ne.symm e)]
  · rw [List.getElem?_eq_none (by simp; omega), List.getElem?_eq_none (by simp; omega)]
/-- one thing of the memory changes -/
theorem wsOf_set {G : GP} {μ μ' : PM} {c : Nat} (h9 : 9 ≤ c) (ht : μ'.2.2.2.1 = μ.2.2.2.1) (ho : ∀ a, a ≠ c → enc G μ' a = enc G μ a) : (wsOf G μ).set (c - 9) (gBs G + (c - 9), enc G μ' c) = wsOf G μ' := by
  unfold wsOf
  rw [ht]
  refine map_range_set (fun j _ hne => ?_) ?_
  · rw [ho (j + 9) (by omega)]
  · rw [show c - 9 + 9 = c by omega]
theorem enc_congr {G : GP} {μ μ' : PM} {a : Nat} (h1 : μ'.1 a = μ.1 a) (h2 : μ'.2.1 a = μ.2.1 a) (h3 : μ'.2.2.1 a = μ.2.2.1 a) : enc G μ' a = enc G μ a := by
  have hp : ∀ k, pgf μ' a k = pgf μ a k := fun k => by unfold pgf; rw [h1, h2]
  unfold enc
  rw [h1, h2, h3]
  simp only [hp]
theorem wsOf_D (G : GP) (μ : PM) : va_D (gN G) (wsOf G μ) := by
  have key : ∀ (k : Nat) (q : Nat × va_E), (wsOf G μ)[k]? = some q → q.1 = gBs G + k := by
    intro k q hk
    unfold wsOf at hk
    rw [List.getElem?_map] at hk
    cases hr : (List.range (μ.2.2.2.1 - 9))[k]? with
    | none => rw [hr] at hk; cases hk
    | some z =>
      rw [hr] at hk
      have hz : z = k := by
        have h1 := (List.getElem?_eq_some_iff.mp hr).1
        rw [List.getElem?_range (by simpa using h1)] at hr
        exact (Option.some.inj hr).symm
      cases hk
      rw [hz]
  refine ⟨fun i j x y hi hj hxy => ?_, fun k q hk => ?_⟩
  · have h1 := key i x hi
    have h2 := key j y hj
    omega
  · show gBs G ≤ q.1
    rw [key k q hk]
    omega
def RelH (G : GP) (μ : PM) (H : Heap) : Prop :=
  va_P (gC G, gF G) vwCl (wsOf G μ) H ∧ gBs G ≤ H.size ∧ (∀ q, q < gBs G → H[q]? = (gH G)[q]?) ∧ 9 ≤ μ.2.2.2.1 ∧ gBs G + (μ.2.2.2.1 - 9) ≤ H.size ∧ (μ.2.2.2.2 = 0 → H.size = gBs G + (μ.2.2.2.1 - 9)) ∧ ∀ c, c < 9 → μ.1 c = gS G c ∧ μ.2.1 c = gI G c
def LocOK (G : GP) (locs : List Loc) : Prop := ∀ q ∈ locs, gBs G ≤ q.base
theorem RelH.S {G : GP} {μ : PM} {H : Heap} {locs : List Loc} (h : RelH G μ H) (hG : gTop G) (hl : LocOK G locs) : va_S (gN G) (gH G) H locs := ⟨by rw [hG.1]; exact h.2.1, fun q hq _ => h.2.2.1 q (by rw [← hG.1]; exact hq), hl⟩
/-- the heap of an invocation's start, and a later one -/
theorem RelH.S2 {G : GP} {μ : PM} {H H1 : Heap} {locs : List Loc} (h : RelH G μ H) (ho : ∀ q, q < gBs G → H1[q]? = (gH G)[q]?) (hz : H1.size ≤ H.size) (hl : LocOK G locs) : va_S (gN G) H1 H locs := ⟨hz, fun q _ hn => by
  have hq : q < gBs G := Nat.not_le.mp hn
  rw [h.2.2.1 q hq, ho q hq], hl⟩
/-- a cell that is written -/
theorem RelH.put {G : GP} {μ μ' : PM} {H H1 : Heap} {c : Nat} (h : RelH G μ H) (h9 : 9 ≤ c) (hc : c < μ.2.2.2.1) (ht : μ'.2.2.2 = μ.2.2.2) (ho : ∀ a, a ≠ c → enc G μ' a = enc G μ a) (hr : ∀ a, a < 9 → μ'.1 a = μ.1 a ∧ μ'.2.1 a = μ.2.1 a)
    (he : va_at (gC G, gF G) vwCl (gBs G + (c - 9), enc G μ' c) H1) (oq : ∀ q, q ≠ gBs G + (c - 9) → H1[q]? = H[q]?) (hz : H1.size = H.size) : RelH G μ' H1 := by
  obtain ⟨a1, a2, a3, a4, a5, a6, a7⟩ := h
  have e1 : μ'.2.2.2.1 = μ.2.2.2.1 := by rw [ht]
  have e2 : μ'.2.2.2.2 = μ.2.2.2.2 := by rw [ht]
  refine ⟨?_, by rw [hz]; exact a2, fun q hq => ?_, by rw [e1]; exact a4, by rw [e1, hz]; exact a5, fun hx => by rw [e1, hz]; exact a6 (by rw [← e2]; exact hx), fun k hk => ?_⟩
  · have hP := va_P.set a1 (wsOf_D G μ) (wsOf_get h9 hc) he oq
    rw [wsOf_set h9 e1 ho] at hP
    exact hP
  · rw [oq q (by omega)]
    exact a3 q hq
  · obtain ⟨r1, r2⟩ := hr k hk
    obtain ⟨q1, q2⟩ := a7 k hk
    exact ⟨r1.trans q1, r2.trans q2⟩
theorem wsOf_pal {G : GP} {μ : PM} {s : PS} (h9 : 9 ≤ μ.2.2.2.1) : wsOf G (pal μ s) = wsOf G μ ++ [(gBs G + (μ.2.2.2.1 - 9), enc G (pal μ s) μ.2.2.2.1)] := by
  unfold wsOf
  rw [show (pal μ s).2.2.2.1 - 9 = (μ.2.2.2.1 - 9) + 1 by show μ.2.2.2.1 + 1 - 9 = _; omega, List.range_succ, List.map_append]
  congr 1
  · apply List.map_congr_left
    intro j hj
    have hj' := List.mem_range.mp hj
    have hne : j + 9 ≠ μ.2.2.2.1 := by omega
    rw [enc_congr (μ := μ) (μ' := pal μ s) (upR_ne hne) (upR_ne hne) (upR_ne hne)]
  · simp only [List.map_cons, List.map_nil]
    rw [show μ.2.2.2.1 - 9 + 9 = μ.2.2.2.1 by omega]
/-- a cell that is made -/
theorem RelH.new {G : GP} {μ : PM} {s : PS} {H H1 : Heap} (h : RelH G μ H) (hx : μ.2.2.2.2 = 0) (he : va_at (gC G, gF G) vwCl (gBs G + (μ.2.2.2.1 - 9), enc G (pal μ s) μ.2.2.2.1) H1) (oq : ∀ q, q < H.size → H1[q]? = H[q]?) (hz : H1.size = H.size + 1) : RelH G (pal μ s) H1 := by
  obtain ⟨a1, a2, a3, a4, a5, a6, a7⟩ := h
  have a6 := a6 hx
  have et : (pal μ s).2.2.2.1 = μ.2.2.2.1 + 1 := rfl
  refine ⟨?_, by omega, fun q hq => ?_, by rw [et]; omega, by rw [et]; omega, fun _ => by rw [et]; omega, fun k hk => ?_⟩
  · rw [wsOf_pal a4]
    refine va_P.app (a1.kept (fun k q hq => oq q.1 ((a1 k q hq).lt))) (fun k q hq => ?_)
    have h0 : k < 1 := (List.getElem?_eq_some_iff.mp hq).1
    rw [show k = 0 by omega] at hq
    cases hq
    exact he
  · rw [oq q (by omega)]
    exact a3 q hq
  · have hne : k ≠ μ.2.2.2.1 := by omega
    obtain ⟨q1, q2⟩ := a7 k hk
    exact ⟨(upR_ne hne).trans q1, (upR_ne hne).trans q2⟩
/-- a cell of no name comes: an exception -/
theorem RelH.exc {G : GP} {μ : PM} {H H1 : Heap} (h : RelH G μ H) (oq : ∀ q, q < H.size → H1[q]? = H[q]?) (hz : H.size ≤ H1.size) : RelH G (μ.1, μ.2.1, μ.2.2.1, μ.2.2.2.1, μ.2.2.2.2 + 1) H1 := by
  obtain ⟨a1, a2, a3, a4, a5, a6, a7⟩ := h
  refine ⟨a1.kept (fun k q hq => oq q.1 ((a1 k q hq).lt)), by omega, fun q hq => ?_, a4, by show _ + (μ.2.2.2.1 - 9) ≤ _; omega, fun hx => by have : μ.2.2.2.2 + 1 = 0 := hx; omega, a7⟩
  rw [oq q (by omega)]
  exact a3 q hq
theorem RelH.at {G : GP} {μ : PM} {H : Heap} (h : RelH G μ H) {c : Nat} (h9 : 9 ≤ c) (hc : c < μ.2.2.2.1) : va_at (gC G, gF G) vwCl (gBs G + (c - 9), enc G μ c) H := h.1 (c - 9) _ (wsOf_get h9 hc)
/-- the locals -/
def RLs (G : GP) (ls : List Value) (rls : Array Slot) (n : Nat) : Prop := ls.length = n ∧ rls.size = n ∧ lv_wf rls ∧ ∀ (k : Nat) (v : Value), ls[k]? = some v → isNo v = false → rls[k]? = some (Slot.val (rv G v))
def lvl (G : GP) (ls : List Value) : List (Nat × Value) := (List.range ls.length).filterMap (fun k => match ls[k]? with
  | some v => if isNo v then none else some (k, rv G v)
  | none => none)
theorem lvl_mem {G : GP} {ls : List Value} {k : Nat} {v : Value} (h : ls[k]? = some v) (hn : isNo v = false) : (k, rv G v) ∈ lvl G ls := by
  unfold lvl
  refine List.mem_filterMap.mpr ⟨k, List.mem_range.mpr (List.getElem?_eq_some_iff.mp h).1, ?_⟩
  rw [h]
  simp [hn]
theorem lvl_of {G : GP} {ls : List Value} {q : Nat × Value} (h : q ∈ lvl G ls) : ∃ v, ls[q.1]? = some v ∧ isNo v = false ∧ q.2 = rv G v := by
  unfold lvl at h
  obtain ⟨k, -, hk⟩ := List.mem_filterMap.mp h
  cases hv : ls[k]? with
  | none => rw [hv] at hk; cases hk
  | some v =>
    rw [hv] at hk
    cases hn : isNo v with
    | true => simp [hn] at hk
    | false =>
      simp only [hn] at hk
      cases hk
      exact ⟨v, hv, hn, rfl⟩
theorem RLs.has {G : GP} {ls : List Value} {rls : Array Slot} {n : Nat} (h : RLs G ls rls n) : lv_has rls n (lvl G ls) := ⟨h.2.1, h.2.2.1, fun q hq => by
  obtain ⟨v, h1, h2, h3⟩ := lvl_of hq
  rw [h3]
  exact h.2.2.2 _ _ h1 h2⟩
theorem RLs.at {G : GP} {ls : List Value} {rls : Array Slot} {n k : Nat} {v : Value} (h : RLs G ls rls n) (hk : ls[k]? = some v) (hn : isNo v = false) : rls[k]? = some (.val (rv G v)) := h.2.2.2 k v hk hn
/-- one word is stored -/
theorem RLs.st1 {G : GP} {ls ls' : List Value} {rls : Array Slot} {n k : Nat} {v : Value} (h : RLs G ls rls n) (hs : lst1 ls k v = some ls') (hc : v.category = 1) (hn : isNo v = false) {rls' : Array Slot}
    (hl : lv_has rls' n ((k, rv G v) :: (lvl G ls).filter (fun q => !(q.1 == k) && !(q.1 + 1 == k && q.2.category == 2)))) : RLs G ls' rls' n := by
  unfold lst1 at hs
  split at hs
  · rename_i hk
    cases hs
    refine ⟨by rw [List.length_set]; exact h.1, hl.1, hl.2.1, fun j w hj hw => ?_⟩
    by_cases e : k = j
    · subst e
      rw [List.getElem?_set_self hk.1] at hj
      cases hj
      exact hl.2.2 _ List.mem_cons_self
    · rw [List.getElem?_set_ne e] at hj
      refine hl.2.2 (j, rv G w) (List.mem_cons_of_mem _ (List.mem_filter.mpr ⟨lvl_mem hj hw, ?_⟩))
      have e1 : (j == k) = false := by simpa using Ne.symm e
      have e2 : (j + 1 == k && (rv G w).category == 2) = false := by
        rw [rv_cat]
        by_cases e3 : j + 1 = k
        · rcases hk.2 with h0 | h0
          · omega
          · have e4 : ls.getD (k - 1) noV = w := by
              rw [show k - 1 = j by omega, List.getD_eq_getElem?_getD, hj]
              rfl
            rw [e4] at h0
            have e5 : w.category = 1 := by
              cases w <;> simp_all [isLo, Value.category]
            simp [e5]
        · simp [e3]
      simp [e1, e2]
  · cases hs
theorem RLs.st2 {G : GP} {ls ls' : List Value} {rls : Array Slot} {n k : Nat} {v : Value} (h : RLs G ls rls n) (hs : lst2 ls k v = some ls') (hn : isNo v = false) {rls' : Array Slot}
    (hl : lv_has rls' n ((k, rv G v) :: (lvl G ls).filter (fun q => !(q.1 == k) && (!(q.1 == k + 1) && !(q.1 + 1 == k && q.2.category == 2))))) : RLs G ls' rls' n := by
  unfold lst2 at hs
  split at hs
  · rename_i hk
    cases hs
    refine ⟨by rw [List.length_set, List.length_set]; exact h.1, hl.1, hl.2.1, fun j w hj hw => ?_⟩
    by_cases e0 : k + 1 = j
    · subst e0
      rw [List.getElem?_set_self (by rw [List.length_set]; exact hk.1)] at hj
      cases hj
      cases hw
    · rw [List.getElem?_set_ne e0] at hj
      by_cases e : k = j
      · subst e
        rw [List.getElem?_set_self (by omega)] at hj
        cases hj
        exact hl.2.2 _ List.mem_cons_self
      · rw [List.getElem?_set_ne e] at hj
        refine hl.2.2 (j, rv G w) (List.mem_cons_of_mem _ (List.mem_filter.mpr ⟨lvl_mem hj hw, ?_⟩))
        have e1 : (j == k) = false := by simpa using Ne.symm e
        have e6 : (j == k + 1) = false := by simpa using Ne.symm e0
        have e2 : (j + 1 == k && (rv G w).category == 2) = false := by
          rw [rv_cat]
          by_cases e3 : j + 1 = k
          · rcases hk.2 with h0 | h0
            · omega
            · have e4 : ls.getD (k - 1) noV = w := by
                rw [show k - 1 = j by omega, List.getD_eq_getElem?_getD, hj]
                rfl
              rw [e4] at h0
              have e5 : w.category = 1 := by
                cases w <;> simp_all [isLo, Value.category]
              simp [e5]
          · simp [e3]
        simp [e1, e6, e2]
  · cases hs
theorem lst1_lt {ls ls' : List Value} {k : Nat} {v : Value} (h : lst1 ls k v = some ls') : k < ls.length := by
  unfold lst1 at h
  split at h
  · rename_i hk; exact hk.1
  · cases h
theorem lst2_lt {ls ls' : List Value} {k : Nat} {v : Value} (h : lst2 ls k v = some ls') : k + 1 < ls.length := by
  unfold lst2 at h
  split at h
  · rename_i hk; exact hk.1
  · cases h
