/-! WHAT IS SEEN OF THE MEMORY; the rest is scratch -/
def scrR (a : Nat) : Bool := decide ((18 ≤ a ∧ a ≤ 23) ∨ (26 ≤ a ∧ a ≤ 36) ∨ a = 38 ∨ a = 43 ∨ (62 ≤ a ∧ a ≤ 65) ∨ a = 67 ∨ a = 69 ∨ a = 72 ∨ a = 73 ∨ (75 ≤ a ∧ a ≤ 82) ∨ (91 ≤ a ∧ a ≤ 97) ∨ (105 ≤ a ∧ a ≤ 112) ∨ (274 ≤ a ∧ a ≤ 434) ∨ (443 ≤ a ∧ a ≤ 533) ∨ a = 535 ∨ a = 536)
/-- rows of mornings that are scratch: nothing stands behind their 84 cells -/
def scrM (a : Nat) : Bool := decide (a = 43 ∨ a = 67 ∨ a = 69 ∨ a = 535)
def scr4 (a : Nat) : Bool := decide (a = 43 ∨ a = 67 ∨ a = 69 ∨ a = 535 ∨ a = 64)
theorem scrM_4 {a : Nat} (h : scrM a = true) : scr4 a = true ∧ a ≠ 64 := by
  unfold scrM at h
  unfold scr4
  rw [decide_eq_true_eq] at h ⊢
  omega
def vis (a k : Nat) : Bool := if scr4 a then (if a = 64 then decide (k = 0) else decide (84 ≤ k)) else if a = 70 then [1, 3, 18, 33, 34, 35, 36].contains k else if a = 10 then [1, 6].contains k else if a = 9 then k == 15 else !(scrR a)
def view (I : Nat → Nat → Int32) : Nat → Nat → Int32 := fun a k => if vis a k then I a k else 0
section Vw
variable {I J : Nat → Nat → Int32} {a k : Nat} {g : Nat → Int32} {v : Int32} {q : Scr}
theorem vw (h : view J = view I) (hv : vis a k = true) : J a k = I a k := by
  have e := congrFun (congrFun h a) k
  unfold view at e
  rw [if_pos hv, if_pos hv] at e
  exact e
theorem vr (h : view J = view I) (hv : ∀ k, vis a k = true) : J a = I a := funext (fun k => vw h (hv k))
theorem scr4_R (h4 : scrR a = false) : scr4 a = false := by
  unfold scrR at h4
  unfold scr4
  rw [decide_eq_false_iff_not] at h4 ⊢
  omega
theorem vis_row (h1 : a ≠ 70) (h2 : a ≠ 10) (h3 : a ≠ 9) (h4 : scrR a = false) (k : Nat) : vis a k = true := by
  unfold vis
  rw [if_neg (by rw [scr4_R h4]; decide), if_neg h1, if_neg h2, if_neg h3, h4]
  rfl
theorem vrr (h : view J = view I) (h1 : a ≠ 70) (h2 : a ≠ 10) (h3 : a ≠ 9) (h4 : scrR a = false) : J a = I a := vr h (vis_row h1 h2 h3 h4)
theorem vrl (h : view J = view I) (h1 : (!(a == 70) && !(a == 10) && !(a == 9) && !(scrR a)) = true) : J a = I a := by
  simp only [Bool.and_eq_true, Bool.not_eq_true', beq_eq_false_iff_ne] at h1
  exact vrr h h1.1.1.1 h1.1.1.2 h1.1.2 h1.2
theorem view_up (h : ∀ k, vis a k = false) : view (upR I a g) = view I := by
  funext b k
  unfold view
  by_cases hb : b = a
  · subst hb
    rw [h k]
    rfl
  · rw [upR_ne hb]
theorem scr_vis (h4 : (!(a == 70) && !(a == 10) && !(a == 9) && (scrR a && !(scr4 a))) = true) (k : Nat) : vis a k = false := by
  simp only [Bool.and_eq_true, Bool.not_eq_true', beq_eq_false_iff_ne] at h4
  unfold vis
  rw [if_neg (by rw [h4.2.2]; decide), if_neg h4.1.1.1, if_neg h4.1.1.2, if_neg h4.1.2, h4.2.1]
  rfl
/-- a row of a morning that is scratch -/
theorem view_4 (h4 : scrM a = true) (hg : ∀ j, 84 ≤ j → g j = I a j) : view (upR I a g) = view I := by
  funext b k
  unfold view
  by_cases hb : b = a
  · subst hb
    rw [upR_same]
    unfold vis
    rw [if_pos (scrM_4 h4).1, if_neg (scrM_4 h4).2]
    by_cases hk : 84 ≤ k
    · rw [hg k hk]
    · simp [hk]
  · rw [upR_ne hb]
theorem view_64 (hg : g 0 = I 64 0) : view (upR I 64 g) = view I := by
  funext b k
  unfold view
  by_cases hb : b = 64
  · subst hb
    rw [upR_same, show vis 64 k = decide (k = 0) from rfl]
    by_cases hk : k = 0
    · rw [hk, hg]
    · simp [hk]
  · rw [upR_ne hb]
theorem view_s (h4 : (!(a == 70) && !(a == 10) && !(a == 9) && (scrR a && !(scr4 a))) = true) : view (upR I a g) = view I := view_up (scr_vis h4)
theorem view_wr (h : vis a k = false) : view (wrI I a k v) = view I := by
  funext b j
  unfold view
  by_cases hb : b = a
  · subst hb
    by_cases hj : j = k
    · subst hj
      rw [h]
      rfl
    · rw [wrI_at, up_ne hj]
  · rw [wrI_ne hb]
theorem view_scr : view (scr I q) = view I := by
  unfold scr
  rw [view_s (by decide), view_s (by decide)]
theorem view_scm : view (scm I q) = view I := by
  unfold scm
  rw [view_s (by decide), view_s (by decide)]
theorem view_hm {w : Int32} {F : Nat → Int32} (hz : ∀ j, 84 ≤ j → I 535 j = 0) : view (hm I 535 g w F) = view I := by
  unfold hm
  rw [view_4 (by decide), view_s (by decide), view_wr (by decide)]
  intro j hj
  rw [upR_ne (by decide), wrI_ne (by decide), hz j hj]
  unfold vc
  rw [if_neg (by omega), if_neg (by omega), if_neg (by omega), if_neg (by omega), if_neg (by omega)]
end Vw
/-! WHAT CLASS AND REFERENCE HOLD ALIKE -/
/-- votes, depths -/
def IV (I : Nat → Nat → Int32) : Prop := (∀ s, s < sI I → (1 ≤ I 13 s ∧ I 13 s ≤ 60) ∧ (1 ≤ I 14 s ∧ I 14 s ≤ 9)) ∧ (∀ s, sI I ≤ s → s < 7 → I 14 s = 0)
/-- mornings kept for undo: rows of class and reference -/
def WK (I : Nat → Nat → Int32) (w : Nat) (R : Nat → Int32) (B : Nat → Nat → Int32) : Prop := ∀ i, i < w → RO I (fun k => R (84 * i + k)) ∧ ∀ k, k < 84 → B i k = vc (fun k => R (84 * i + k)) k
def IW (I : Nat → Nat → Int32) : Prop := ∃ w, w ≤ 16 ∧ I 44 1 = nt w ∧ I 70 34 = nt w ∧ WK I w (I 45) (fun i => I (538 + i))
def IA (I : Nat → Nat → Int32) : Prop := ∃ m, m ≤ 3 ∧ I 46 2 = nt m ∧ I 70 36 = nt m ∧ ∀ j, j < m → ∃ w, w ≤ 16 ∧ I (55 + 2 * j) 1 = nt w ∧ I (555 + j) 0 = nt w ∧ RO I (I (49 + 2 * j)) ∧ (∀ k, k < 84 → I (555 + j) (1 + k) = vc (I (49 + 2 * j)) k) ∧ WK I w (I (56 + 2 * j)) (fun i k => I (555 + j) (85 + 84 * i + k))
/-- lines of the book -/
def IB (I : Nat → Nat → Int32) : Prop := ∃ (m : Nat) (s : Nat → Nat) (b : Nat → Bool), m ≤ 7 ∧ I 70 33 = nt m ∧ (∀ k, k < m → s k < sI I ∧ I (436 + k) 0 = nt (s k) ∧ I (436 + k) 1 = if b k then 1 else 0) ∧ (∀ k j, k < m → j < m → s k = s j → k = j) ∧ I 37 0 = foldN (fun k v => v ||| bt (s k)) m 0 ∧ I 37 1 = foldN (fun k v => v ||| (if b k then bt (s k) else 0)) m 0
/-- the tape -/
def IT (I : Nat → Nat → Int32) : Prop := (∃ z, z ≤ 600 ∧ I 10 1 = nt z ∧ I 70 1 = nt z ∧ ∀ k, k < z → I 71 k = I 11 k ∧ 0 ≤ I 11 k ∧ I 11 k < 256) ∧ I 70 3 = I 10 6
/-- what never changes -/
def wd0 : List Nat := [115, 108, 101, 101, 112, 101, 114, 32, 99, 108, 111, 99, 107, 32, 110, 101, 97, 114, 32, 115, 111, 99, 107, 115]
def wd1 : List Nat := [108, 111, 117, 100, 32, 110, 101, 97, 114, 32, 100, 101, 112, 116, 104, 32, 115, 111, 99, 107, 32, 104, 111, 117, 114, 32, 100, 97, 121, 32, 97, 119, 97, 107, 101, 32, 115, 112, 114, 105, 110, 103, 32, 115, 108, 101, 101, 112, 101, 114, 32, 108, 101, 97, 115, 116, 32, 109, 111, 115, 116]
def wd2 : List Nat := [115, 101, 116, 32, 108, 101, 116, 32, 119, 105, 110, 100, 32, 115, 111, 99, 107, 32, 109, 111, 118, 101, 32, 115, 110, 111, 111, 122, 101, 32, 104, 111, 117, 114, 32, 97, 103, 97, 105, 110]
def IZ (I : Nat → Nat → Int32) : Prop := ∀ j, 84 ≤ j → I 41 j = 0 ∧ I 43 j = 0 ∧ I 67 j = 0 ∧ I 69 j = 0 ∧ I 535 j = 0
def IK (I : Nat → Nat → Int32) : Prop := (∀ k, k < 9 → I 6 k = plain k) ∧ (I 0 1 = 0 ∧ I 1 1 = 0 ∧ I 2 1 = 0) ∧ IZ I ∧ (∀ k, k < 24 → I 3 k = nt (wd0.getD k 0)) ∧ (∀ k, k < 61 → I 4 k = nt (wd1.getD k 0)) ∧ (∀ k, k < 40 → I 5 k = nt (wd2.getD k 0)) ∧ I 64 0 = 0
def Inv (I : Nat → Nat → Int32) : Prop := MI I ∧ (RO I (I 41) ∧ I 534 = vc (I 41)) ∧ IV I ∧ IW I ∧ IA I ∧ IB I ∧ IT I ∧ IK I ∧ I 70 35 = I 9 15
section Tr
variable {I J : Nat → Nat → Int32}
theorem tr_s (h : view J = view I) : sI J = sI I := by unfold sI; rw [vrl h (a := 12) (by decide)]
theorem tr_c (h : view J = view I) : cI J = cI I := by unfold cI; rw [vrl h (a := 12) (by decide)]
theorem tr_l (h : view J = view I) : lnI J = lnI I := by unfold lnI; rw [vrl h (a := 24) (by decide)]
theorem tr_RO (h : view J = view I) {f : Nat → Int32} (ho : RO I f) : RO J f := by
  unfold RO
  rw [tr_s h, tr_c h]
  exact ho
theorem vR (h : view J = view I) {a : Nat} (h1 : 84 ≤ a) (h2 : a < 274) (h3 : a < 91 ∨ 98 ≤ a) (h4 : a < 105 ∨ 113 ≤ a) : J a = I a := by
  refine vrr h (by omega) (by omega) (by omega) ?_
  unfold scrR
  exact decide_eq_false (by omega)
theorem vR2 (h : view J = view I) {a : Nat} (h1 : 435 ≤ a) (h2 : a < 443 ∨ 537 ≤ a) : J a = I a := by
  refine vrr h (by omega) (by omega) (by omega) ?_
  unfold scrR
  exact decide_eq_false (by omega)
theorem vR3 (h : view J = view I) {a : Nat} (h1 : 44 ≤ a) (h2 : a < 62) : J a = I a := by
  refine vrr h (by omega) (by omega) (by omega) ?_
  unfold scrR
  exact decide_eq_false (by omega)
theorem tr_MI (h : view J = view I) (hM : MI I) : MI J := by
  obtain ⟨⟨⟨a1, a2⟩, ⟨a3, a4⟩, ⟨a5, a6⟩, a7⟩, ⟨b1, b2⟩, c1, d1, e1⟩ := hM
  have e24 := vrl h (a := 24) (by decide)
  have e25 := vrl h (a := 25) (by decide)
  have e12 := vrl h (a := 12) (by decide)
  have e13 := vrl h (a := 13) (by decide)
  have e14 := vrl h (a := 14) (by decide)
  have e15 := vrl h (a := 15) (by decide)
  have e74 := vrl h (a := 74) (by decide)
  refine ⟨⟨⟨?_, ?_⟩, ⟨?_, ?_⟩, ⟨?_, ?_⟩, ?_⟩, ⟨?_, ?_⟩, ?_, ?_, ?_⟩
  · rw [e24, tr_l h]; exact a1
  · rw [e25, tr_l h]; exact a2
  · rw [e12, tr_c h]; exact a3
  · rw [tr_c h]; exact a4
  · rw [e12, tr_s h]; exact a5
  · rw [tr_s h]; exact a6
  · rw [e13, tr_s h]; exact a7
  · rw [e74, tr_s h]; exact b1
  · rw [e74, tr_c h]; exact b2
  · intro s hs
    rw [tr_s h] at hs
    rw [vR h (a := 84 + s) (by omega) (by omega) (by omega) (by omega), e13, e14]
    exact c1 s hs
  · intro c hc
    rw [tr_c h] at hc
    rw [vR h (a := 99 + c) (by omega) (by omega) (by omega) (by omega), e15]
    exact d1 c hc
  · unfold LC
    rw [vw h (a := 70) (k := 18) rfl, tr_l h, e25]
    rcases e1 with e1 | ⟨e2, e3⟩
    · exact Or.inl e1
    · refine Or.inr ⟨e2, fun k hk => ?_⟩
      have hl := a2.2.2
      rw [vR h (a := 114 + k) (by omega) (by omega) (by omega) (by omega)]
      exact e3 k hk
theorem tr_WK (h : view J = view I) {w : Nat} {R : Nat → Int32} {B B' : Nat → Nat → Int32} (hB : ∀ i, i < w → B' i = B i) (hW : WK I w R B) : WK J w R B' := by
  intro i hi
  obtain ⟨h1, h2⟩ := hW i hi
  refine ⟨tr_RO h h1, ?_⟩
  rw [hB i hi]
  exact h2
theorem tr_Inv (h : view J = view I) (hI : Inv I) : Inv J := by
  obtain ⟨hM, ⟨ho, hr⟩, hv, ⟨w, w1, w2, w3, w4⟩, ⟨m, m1, m2, m3, m4⟩, ⟨b, s, bb, b1, b2, b3, b4, b5, b6⟩, ⟨⟨z, z1, z2, z3, z4⟩, z5⟩, ⟨k1, k2, k3, k4, k5, k6, k7⟩, r5⟩ := hI
  have e41 := vrl h (a := 41) (by decide)
  have e534 := vrl h (a := 534) (by decide)
  have h7 := hM.1.2.2.1.2
  refine ⟨tr_MI h hM, ⟨?_, ?_⟩, ?_, ⟨w, w1, ?_, ?_, ?_⟩, ⟨m, m1, ?_, ?_, ?_⟩, ⟨b, s, bb, b1, ?_, ?_, b4, ?_, ?_⟩, ⟨⟨z, z1, ?_, ?_, ?_⟩, ?_⟩, ⟨?_, ?_, ?_, ?_, ?_, ?_, ?_⟩, ?_⟩
  · rw [e41]; exact tr_RO h ho
  · rw [e41, e534]; exact hr
  · unfold IV
    rw [tr_s h, vrl h (a := 13) (by decide), vrl h (a := 14) (by decide)]
    exact hv
  · rw [vrl h (a := 44) (by decide)]; exact w2
  · rw [vw h (a := 70) (k := 34) rfl]; exact w3
  · rw [vrl h (a := 45) (by decide)]
    exact tr_WK h (fun i hi => vR2 h (by omega) (by omega)) w4
  · rw [vrl h (a := 46) (by decide)]; exact m2
  · rw [vw h (a := 70) (k := 36) rfl]; exact m3
  · intro j hj
    obtain ⟨v, v1, v2, v3, v4, v5, v6⟩ := m4 j hj
    rw [vR3 h (a := 55 + 2 * j) (by omega) (by omega), vR3 h (a := 49 + 2 * j) (by omega) (by omega), vR3 h (a := 56 + 2 * j) (by omega) (by omega), vR2 h (a := 555 + j) (by omega) (by omega)]
    exact ⟨v, v1, v2, v3, tr_RO h v4, v5, tr_WK h (fun i hi => rfl) v6⟩
  · rw [vw h (a := 70) (k := 33) rfl]; exact b2
  · intro k hk
    rw [tr_s h, vR2 h (a := 436 + k) (by omega) (by omega)]
    exact b3 k hk
  · rw [vrl h (a := 37) (by decide)]; exact b5
  · rw [vrl h (a := 37) (by decide)]; exact b6
  · rw [vw h (a := 10) (k := 1) rfl]; exact z2
  · rw [vw h (a := 70) (k := 1) rfl]; exact z3
  · rw [vrl h (a := 71) (by decide), vrl h (a := 11) (by decide)]; exact z4
  · rw [vw h (a := 70) (k := 3) rfl, vw h (a := 10) (k := 6) rfl]; exact z5
  · rw [vrl h (a := 6) (by decide)]; exact k1
  · rw [vrl h (a := 0) (by decide), vrl h (a := 1) (by decide), vrl h (a := 2) (by decide)]; exact k2
  · intro j hj
    have e4 : ∀ a, scrM a = true → J a j = I a j := fun a ha => vw h (by unfold vis; rw [if_pos (scrM_4 ha).1, if_neg (scrM_4 ha).2]; exact decide_eq_true hj)
    rw [e41, e4 43 rfl, e4 67 rfl, e4 69 rfl, e4 535 rfl]
    exact k3 j hj
  · rw [vrl h (a := 3) (by decide)]; exact k4
  · rw [vrl h (a := 4) (by decide)]; exact k5
  · rw [vrl h (a := 5) (by decide)]; exact k6
  · rw [vw h (a := 64) (k := 0) rfl]; exact k7
  · rw [vw h (a := 70) (k := 35) rfl, vw h (a := 9) (k := 15) rfl]; exact r5
end Tr
/-- a memory that differs in scratch alone -/
def Sm (I J : Nat → Nat → Int32) : Prop := view J = view I ∧ J 9 = I 9 ∧ J 72 = I 72
def okQ (n : Nat) (I : Nat → Nat → Int32) (L : Nat → Nat → Int64) (x : Nat) (Φ : POut → PM → Prop) (A : Int32) : Prop := ∀ J, Sm I J → Φ (.inl (some (.int A))) (mk n J L x)
def exQ (n : Nat) (I : Nat → Nat → Int32) (L : Nat → Nat → Int64) (x : Nat) (Φ : POut → PM → Prop) (t : Nat) : Prop := ∀ J, Sm I J → Φ (.inr t) (mk n (wrI J 9 (15 + t) (J 9 (15 + t) + 1)) L (x + 1))
def okU (n : Nat) (I : Nat → Nat → Int32) (L : Nat → Nat → Int64) (x : Nat) (Φ : POut → PM → Prop) (A : Int32) : Prop := ∀ J L', Sm I J → J 70 0 = 0 → L' 559 = L 559 → Φ (.inl (some (.int A))) (mk n J L' x)
def exU (n : Nat) (I : Nat → Nat → Int32) (L : Nat → Nat → Int64) (x : Nat) (Φ : POut → PM → Prop) (t c : Nat) : Prop := ∀ J, view J = view I → J 9 = I 9 → J 72 = upd (I 72) (t - 1) (I 72 (t - 1) + 1) → J 70 0 = nt c → Φ (.inl (some (.int 0))) (mk n J L x)
theorem sm_refl (I : Nat → Nat → Int32) : Sm I I := ⟨rfl, rfl, rfl⟩
theorem sm_scr {I : Nat → Nat → Int32} {q : Scr} : Sm I (scr I q) := ⟨view_scr, rfl, rfl⟩
theorem sm_scm {I : Nat → Nat → Int32} {q : Scr} : Sm I (scm I q) := ⟨view_scm, rfl, rfl⟩
theorem sm_trans {I J K : Nat → Nat → Int32} (h1 : Sm I J) (h2 : Sm J K) : Sm I K := ⟨h2.1.trans h1.1, h2.2.1.trans h1.2.1, h2.2.2.trans h1.2.2⟩
theorem sm_up {I : Nat → Nat → Int32} {a : Nat} {g : Nat → Int32} (h : (!(a == 70) && !(a == 10) && !(a == 9) && (scrR a && !(scr4 a))) = true) (h2 : a ≠ 72) : Sm I (upR I a g) := by
  refine ⟨view_s h, upR_ne ?_, upR_ne (Ne.symm h2)⟩
  simp only [Bool.and_eq_true, Bool.not_eq_true', beq_eq_false_iff_ne] at h
  exact Ne.symm h.1.2
theorem sm_4 {I : Nat → Nat → Int32} {a : Nat} {g : Nat → Int32} (h : scrM a = true) (hg : ∀ j, 84 ≤ j → g j = I a j) : Sm I (upR I a g) := by
  have h2 : a ≠ 9 ∧ a ≠ 72 := by
    unfold scrM at h
    rw [decide_eq_true_eq] at h
    omega
  exact ⟨view_4 h hg, upR_ne (Ne.symm h2.1), upR_ne (Ne.symm h2.2)⟩
theorem sm_wr {I : Nat → Nat → Int32} {k : Nat} {v : Int32} (h : vis 70 k = false) : Sm I (wrI I 70 k v) := ⟨view_wr h, wrI_ne (by decide), wrI_ne (by decide)⟩
/-! an hour leaves a row that is one -/
theorem upd81_RO {I : Nat → Nat → Int32} {f : Nat → Int32} {v : Int32} (ho : RO I f) (hv : 0 ≤ v ∧ v < 24) : RO I (upd f 81 v) := by
  obtain ⟨o1, o2, o3, o4, o5, o6, o7⟩ := ho
  have e : ∀ j, j < 81 → upd f 81 v j = f j := fun j hj => up_ne (by omega)
  refine ⟨fun c h1 h2 => ?_, fun s h1 h2 => ?_, fun s hs => ?_, ?_, fun c hc => ?_, fun c hc => ?_, fun c hc => ?_⟩
  · rw [e _ (by omega), e _ (by omega), e _ (by omega)]; exact o1 c h1 h2
  · rw [e _ (by omega), e _ (by omega)]; exact o2 s h1 h2
  · rw [e _ (by omega)]; exact o3 s hs
  · rw [up_same]; exact hv
  · rw [e _ (by omega)]; exact o5 c hc
  · rw [e _ (by omega)]; exact o6 c hc
  · rw [e _ (by omega)]; exact o7 c hc
theorem updhi_RO {I : Nat → Nat → Int32} {f : Nat → Int32} {v : Int32} {i : Nat} (hi : i = 82 ∨ i = 83 ∨ (18 ≤ i ∧ i < 60) ∨ (67 ≤ i ∧ i < 74)) (ho : RO I f) : RO I (upd f i v) := by
  obtain ⟨o1, o2, o3, o4, o5, o6, o7⟩ := ho
  refine ⟨fun c h1 h2 => ?_, fun s h1 h2 => ?_, fun s hs => ?_, ?_, fun c hc => ?_, fun c hc => ?_, fun c hc => ?_⟩
  · rw [up_ne (by omega), up_ne (by omega), up_ne (by omega)]; exact o1 c h1 h2
  · rw [up_ne (by omega), up_ne (by omega)]; exact o2 s h1 h2
  · rw [up_ne (by omega)]; exact o3 s hs
  · rw [up_ne (by omega)]; exact o4
  · rw [up_ne (by omega)]; exact o5 c hc
  · rw [up_ne (by omega)]; exact o6 c hc
  · rw [up_ne (by omega)]; exact o7 c hc
theorem led_RO {I : Nat → Nat → Int32} {f : Nat → Int32} {v : Int32} {j : Nat} (hj : j < sI I) (h7 : sI I ≤ 7) (ho : RO I f) : RO I (upd f (74 + j) v) := by
  obtain ⟨o1, o2, o3, o4, o5, o6, o7⟩ := ho
  refine ⟨fun c h1 h2 => ?_, fun s h1 h2 => ?_, fun s hs => ?_, ?_, fun c hc => ?_, fun c hc => ?_, fun c hc => ?_⟩
  · rw [up_ne (by omega), up_ne (by omega), up_ne (by omega)]; exact o1 c h1 h2
  · rw [up_ne (by omega), up_ne (by omega)]; exact o2 s h1 h2
  · rw [up_ne (by omega)]; exact o3 s hs
  · rw [up_ne (by omega)]; exact o4
  · rw [up_ne (by omega)]; exact o5 c hc
  · rw [up_ne (by omega)]; exact o6 c hc
  · rw [up_ne (by omega)]; exact o7 c hc
theorem slp_RO {I : Nat → Nat → Int32} {f : Nat → Int32} (ho : RO I f) : RO I (slp f) := by
  obtain ⟨o1, o2, o3, o4, o5, o6, o7⟩ := ho
  have e : ∀ j, (j < 60 ∨ 67 ≤ j) → slp f j = f j := fun j hj => by rw [slp_at, if_neg (by omega)]
  have e2 : ∀ s, s < 7 → slp f (60 + s) = -1 := fun s hs => by rw [slp_at, if_pos (by omega)]
  refine ⟨fun c h1 h2 => ?_, fun s h1 h2 => ?_, fun s hs => ?_, ?_, fun c hc => ?_, fun c hc => ?_, fun c hc => ?_⟩
  · rw [e _ (by omega), e _ (by omega), e _ (by omega)]; exact o1 c h1 h2
  · rw [e2 s h2, e (74 + s) (by omega)]; exact ⟨rfl, (o2 s h1 h2).2⟩
  · exact Or.inl (e2 s hs)
  · rw [e _ (by omega)]; exact o4
  · rw [e _ (by omega)]; exact o5 c hc
  · rw [e _ (by omega)]; exact o6 c hc
  · rw [e _ (by omega)]; exact o7 c hc
theorem succ24 {a : Int32} (h : 0 ≤ a ∧ a < 24) (h2 : ¬ 23 ≤ a) : 0 ≤ a + 1 ∧ a + 1 < 24 := by
  obtain ⟨e, h3⟩ := int_nt h.1
  rw [e] at h h2 ⊢
  have h4 : a.toNatClampNeg < 23 := by
    rw [show (23 : Int32) = nt 23 from rfl, nt_le (by decide) h3] at h2
    omega
  rw [nt_succ]
  exact ⟨nt_ge (by omega), by rw [show (24 : Int32) = nt 24 from rfl, nt_lt (by omega) (by decide)]; omega⟩
theorem ro_ph {I : Nat → Nat → Int32} {f : Nat → Int32} (h7 : sI I ≤ 7) (ho : RO I f) : RO I (phR I f) := by
  have hg := ro_hwk h7 ho
  rw [show phR I f = trn (hwk I f) from rfl]
  unfold trn
  generalize hwk I f = g at hg ⊢
  split
  · refine updhi_RO (Or.inl rfl) (upd81_RO (slp_RO ?_) (by decide))
    split
    · exact hg
    · rename_i hn
      rcases ldr_rng g with h | ⟨j, hj, hl, hw⟩
      · exact absurd h hn
      · have hj' : j < sI I := by
          rcases Nat.lt_or_ge j (sI I) with h | h
          · exact h
          · exact absurd (hg.2.1 j h hj).1 hw
        rw [hl, show (74 : Int32) = nt 74 from rfl, st_b 74 (by omega) (by decide)]
        exact led_RO hj' h7 hg
  · rename_i hn
    exact upd81_RO hg (succ24 hg.2.2.2.1 hn)

