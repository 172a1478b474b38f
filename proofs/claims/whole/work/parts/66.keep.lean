/-! WHAT A CHANGE KEEPS -/
def okc (xr x70 : Nat → Bool) (I K : Nat → Nat → Int32) : Prop := (∀ a, xr a = false → scrR a = false → a ≠ 70 → a ≠ 10 → a ≠ 9 → K a = I a) ∧ (∀ k, x70 k = false → vis 70 k = true → K 70 k = I 70 k)
def spc (I K : Nat → Nat → Int32) : Prop := (∀ j, 84 ≤ j → K 43 j = I 43 j ∧ K 67 j = I 67 j ∧ K 69 j = I 69 j ∧ K 535 j = I 535 j) ∧ K 64 0 = I 64 0
section Kp
variable {I J K : Nat → Nat → Int32} {xr x70 : Nat → Bool}
theorem okr (h : okc xr x70 I K) {a : Nat} (ha : (!(xr a) && (!(scrR a) && (!(a == 70) && (!(a == 10) && !(a == 9))))) = true) : K a = I a := by
  simp only [Bool.and_eq_true, Bool.not_eq_true', beq_eq_false_iff_ne] at ha
  exact h.1 a ha.1 ha.2.1 ha.2.2.1 ha.2.2.2.1 ha.2.2.2.2
/-- a family of rows -/
def okL (xr : Nat → Bool) (l : List Nat) : Bool := l.all (fun a => !(xr a) && (!(scrR a) && (!(a == 70) && (!(a == 10) && !(a == 9)))))
theorem okl (h : okc xr x70 I K) {l : List Nat} (hl : okL xr l = true) {a : Nat} (ha : a ∈ l) : K a = I a := okr h (List.all_eq_true.mp hl a ha)
def rnM : List Nat := [12, 13, 14, 15, 24, 25, 74] ++ ((List.range 7).map (fun k => 84 + k) ++ ((List.range 6).map (fun k => 99 + k) ++ (List.range 160).map (fun k => 114 + k)))
def rnW : List Nat := [12, 44, 45] ++ (List.range 16).map (fun k => 538 + k)
def rnA : List Nat := [12, 46, 49, 51, 53, 55, 56, 57, 58, 59, 60, 555, 556, 557]
def rnB : List Nat := [12, 37] ++ (List.range 7).map (fun k => 436 + k)
theorem in_map {b n k : Nat} (h : k < n) : b + k ∈ (List.range n).map (fun k => b + k) := List.mem_map.mpr ⟨k, List.mem_range.mpr h, rfl⟩
theorem kRO {f : Nat → Int32} (h12 : K 12 = I 12) (ho : RO I f) : RO K f := by
  unfold RO sI cI at *
  rw [h12]
  exact ho
theorem kM (h : okc xr x70 I K) (hl : okL xr rnM = true) (h18 : x70 18 = false) (hM : MI I) : MI K := by
  have e : ∀ a, a ∈ rnM → K a = I a := fun a ha => okl h hl ha
  have e12 := e 12 (by decide)
  have e13 := e 13 (by decide)
  have e14 := e 14 (by decide)
  have e15 := e 15 (by decide)
  have e24 := e 24 (by decide)
  have e25 := e 25 (by decide)
  have e74 := e 74 (by decide)
  have es : sI K = sI I := by unfold sI; rw [e12]
  have ec : cI K = cI I := by unfold cI; rw [e12]
  have el : lnI K = lnI I := by unfold lnI; rw [e24]
  obtain ⟨⟨⟨a1, a2⟩, ⟨a3, a4⟩, ⟨a5, a6⟩, a7⟩, ⟨b1, b2⟩, c1, d1, e1⟩ := hM
  refine ⟨⟨⟨?_, ?_⟩, ⟨?_, ?_⟩, ⟨?_, ?_⟩, ?_⟩, ⟨?_, ?_⟩, ?_, ?_, ?_⟩
  · rw [e24, el]; exact a1
  · rw [e25, el]; exact a2
  · rw [e12, ec]; exact a3
  · rw [ec]; exact a4
  · rw [e12, es]; exact a5
  · rw [es]; exact a6
  · rw [e13, es]; exact a7
  · rw [e74, es]; exact b1
  · rw [e74, ec]; exact b2
  · intro s hs
    rw [es] at hs
    rw [e (84 + s) (List.mem_append_right _ (List.mem_append_left _ (in_map (by omega)))), e13, e14]
    exact c1 s hs
  · intro c hc
    rw [ec] at hc
    rw [e (99 + c) (List.mem_append_right _ (List.mem_append_right _ (List.mem_append_left _ (in_map (by omega))))), e15]
    exact d1 c hc
  · unfold LC
    rw [h.2 18 h18 rfl, el, e25]
    rcases e1 with e1 | ⟨e2, e3⟩
    · exact Or.inl e1
    · refine Or.inr ⟨e2, fun k hk => ?_⟩
      have hl2 := a2.2.2
      rw [e (114 + k) (List.mem_append_right _ (List.mem_append_right _ (List.mem_append_right _ (in_map (by omega)))))]
      exact e3 k hk
theorem kV (h : okc xr x70 I K) (hl : okL xr [12, 13, 14] = true) (hV : IV I) : IV K := by
  have e : ∀ a, a ∈ [12, 13, 14] → K a = I a := fun a ha => okl h hl ha
  unfold IV sI
  rw [e 12 (by decide), e 13 (by decide), e 14 (by decide)]
  exact hV
theorem kR (h : okc xr x70 I K) (hl : okL xr [12, 41, 534] = true) (hR : RO I (I 41) ∧ I 534 = vc (I 41)) : RO K (K 41) ∧ K 534 = vc (K 41) := by
  have e : ∀ a, a ∈ [12, 41, 534] → K a = I a := fun a ha => okl h hl ha
  rw [e 41 (by decide), e 534 (by decide)]
  exact ⟨kRO (e 12 (by decide)) hR.1, hR.2⟩
theorem kWK (h12 : K 12 = I 12) {w : Nat} {R : Nat → Int32} {B B' : Nat → Nat → Int32} (hB : ∀ i, i < w → B' i = B i) (hW : WK I w R B) : WK K w R B' := by
  intro i hi
  obtain ⟨h1, h2⟩ := hW i hi
  refine ⟨kRO h12 h1, ?_⟩
  rw [hB i hi]
  exact h2
theorem kW (h : okc xr x70 I K) (hl : okL xr rnW = true) (h34 : x70 34 = false) (hW : IW I) : IW K := by
  have e : ∀ a, a ∈ rnW → K a = I a := fun a ha => okl h hl ha
  obtain ⟨w, w1, w2, w3, w4⟩ := hW
  refine ⟨w, w1, ?_, ?_, ?_⟩
  · rw [e 44 (by decide)]; exact w2
  · rw [h.2 34 h34 rfl]; exact w3
  · rw [e 45 (by decide)]
    exact kWK (e 12 (by decide)) (fun i hi => e (538 + i) (List.mem_append_right _ (in_map (by omega)))) w4
theorem kA (h : okc xr x70 I K) (hl : okL xr rnA = true) (h36 : x70 36 = false) (hA : IA I) : IA K := by
  have e : ∀ a, a ∈ rnA → K a = I a := fun a ha => okl h hl ha
  obtain ⟨m, m1, m2, m3, m4⟩ := hA
  have f : ∀ j, j < 3 → K (55 + 2 * j) = I (55 + 2 * j) ∧ K (49 + 2 * j) = I (49 + 2 * j) ∧ K (56 + 2 * j) = I (56 + 2 * j) ∧ K (555 + j) = I (555 + j) := by
    intro j hj
    match j, hj with
    | 0, _ => exact ⟨e 55 (by decide), e 49 (by decide), e 56 (by decide), e 555 (by decide)⟩
    | 1, _ => exact ⟨e 57 (by decide), e 51 (by decide), e 58 (by decide), e 556 (by decide)⟩
    | 2, _ => exact ⟨e 59 (by decide), e 53 (by decide), e 60 (by decide), e 557 (by decide)⟩
  refine ⟨m, m1, ?_, ?_, fun j hj => ?_⟩
  · rw [e 46 (by decide)]; exact m2
  · rw [h.2 36 h36 rfl]; exact m3
  · obtain ⟨v, v1, v2, v3, v4, v5, v6⟩ := m4 j hj
    obtain ⟨f1, f2, f3, f4⟩ := f j (by omega)
    rw [f1, f2, f3, f4]
    exact ⟨v, v1, v2, v3, kRO (e 12 (by decide)) v4, v5, kWK (e 12 (by decide)) (fun i hi => rfl) v6⟩
theorem kB (h : okc xr x70 I K) (hl : okL xr rnB = true) (h33 : x70 33 = false) (hB : IB I) : IB K := by
  have e : ∀ a, a ∈ rnB → K a = I a := fun a ha => okl h hl ha
  obtain ⟨m, s, b, b1, b2, b3, b4, b5, b6⟩ := hB
  have es : sI K = sI I := by unfold sI; rw [e 12 (by decide)]
  refine ⟨m, s, b, b1, ?_, fun k hk => ?_, b4, ?_, ?_⟩
  · rw [h.2 33 h33 rfl]; exact b2
  · rw [es, e (436 + k) (List.mem_append_right _ (in_map (by omega)))]
    exact b3 k hk
  · rw [e 37 (by decide)]; exact b5
  · rw [e 37 (by decide)]; exact b6
theorem kK (h : okc xr x70 I K) (hs : spc I K) (hl : okL xr [0, 1, 2, 3, 4, 5, 6] = true) (h41 : ∀ j, 84 ≤ j → K 41 j = 0) (hK : IK I) : IK K := by
  have e : ∀ a, a ∈ [0, 1, 2, 3, 4, 5, 6] → K a = I a := fun a ha => okl h hl ha
  obtain ⟨k1, k2, k3, k4, k5, k6, k7⟩ := hK
  refine ⟨?_, ?_, ?_, ?_, ?_, ?_, ?_⟩
  · rw [e 6 (by decide)]; exact k1
  · rw [e 0 (by decide), e 1 (by decide), e 2 (by decide)]; exact k2
  · intro j hj
    obtain ⟨s1, s2, s3, s4⟩ := hs.1 j hj
    rw [h41 j hj, s1, s2, s3, s4]
    exact ⟨rfl, (k3 j hj).2⟩
  · rw [e 3 (by decide)]; exact k4
  · rw [e 4 (by decide)]; exact k5
  · rw [e 5 (by decide)]; exact k6
  · rw [hs.2]; exact k7
theorem kT (h : okc xr x70 I K) (hl : okL xr [11, 71] = true) (h1 : x70 1 = false) (h3 : x70 3 = false) (t1 : K 10 1 = I 10 1) (t6 : K 10 6 = I 10 6) (hT : IT I) : IT K := by
  have e : ∀ a, a ∈ [11, 71] → K a = I a := fun a ha => okl h hl ha
  obtain ⟨⟨z, z1, z2, z3, z4⟩, z5⟩ := hT
  refine ⟨⟨z, z1, ?_, ?_, ?_⟩, ?_⟩
  · rw [t1]; exact z2
  · rw [h.2 1 h1 rfl]; exact z3
  · rw [e 11 (by decide), e 71 (by decide)]; exact z4
  · rw [h.2 3 h3 rfl, t6]; exact z5
end Kp
/-! HALVES: the class writes below 70, the reference from 70 on -/
def hiE (I J : Nat → Nat → Int32) : Prop := ∀ a, 70 ≤ a → J a = I a
def loE (I J : Nat → Nat → Int32) : Prop := ∀ a, a < 70 → J a = I a
theorem hi_refl (I : Nat → Nat → Int32) : hiE I I := fun _ _ => rfl
theorem lo_refl (I : Nat → Nat → Int32) : loE I I := fun _ _ => rfl
theorem hi_up {I J : Nat → Nat → Int32} {a : Nat} {g : Nat → Int32} (h : hiE I J) (ha : a < 70) : hiE I (upR J a g) := fun b hb => by rw [upR_ne (by omega)]; exact h b hb
theorem hi_wr {I J : Nat → Nat → Int32} {a k : Nat} {v : Int32} (h : hiE I J) (ha : a < 70) : hiE I (wrI J a k v) := fun b hb => by rw [wrI_ne (by omega)]; exact h b hb
theorem hi_cp {I J : Nat → Nat → Int32} {b sp a dp m : Nat} (h : hiE I J) (ha : a < 70) : hiE I (cpI J b sp a dp m) := hi_up h ha
theorem lo_up {I J : Nat → Nat → Int32} {a : Nat} {g : Nat → Int32} (h : loE I J) (ha : 70 ≤ a) : loE I (upR J a g) := fun b hb => by rw [upR_ne (by omega)]; exact h b hb
theorem lo_wr {I J : Nat → Nat → Int32} {a k : Nat} {v : Int32} (h : loE I J) (ha : 70 ≤ a) : loE I (wrI J a k v) := fun b hb => by rw [wrI_ne (by omega)]; exact h b hb
theorem hi_scr {I J : Nat → Nat → Int32} {q : Scr} (h : hiE I J) : hiE I (scr J q) := fun b hb => by rw [scr_ne (by omega) (by omega)]; exact h b hb
theorem lo_scm {I J : Nat → Nat → Int32} {q : Scr} (h : loE I J) : loE I (scm J q) := fun b hb => by rw [scm_ne (by omega) (by omega)]; exact h b hb

