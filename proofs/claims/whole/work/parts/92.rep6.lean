/-! A REPUBLIC: the class starts anew -/
section Rw
variable {d n x N z : Nat} {Φ : POut → PM → Prop} {I J K G : Nat → Nat → Int32} {L : Nat → Nat → Int64} {v : Int32} {τ : RSt}
theorem c27 (h : ∀ J', (∀ r, r ≠ 24 → r ≠ 25 → J' r = J r) → J' 24 3 = 9 → (∀ k, k < 9 → J' 25 k = J 6 k) → Φ (.inl none) (mk n J' L x)) : wpc d 27 [.ref (24 : Nat)] (mk n J L x) Φ := by
  have k24 : K4 24 := Or.inl rfl
  have a0 : sh0 n 25 = (20, 150, []) := eq_of_heq HEq.rfl
  have a6 : sh0 n 6 = (20, 9, []) := eq_of_heq HEq.rfl
  have e9 : Int32.ofNat 9 = 9 := rfl
  have e9' : (9 : Int32).toNatClampNeg = 9 := rfl
  show wp d 27 0 [.ref (24 : Nat)] [] (mk n J L x) Φ
  simp (config := {decide := true}) only [r27_0, r27_3, r27_4, r27_5, r27_8, r27_9, r27_12, r27_13, r27_16, r27_17, r27_20, r27_21, r27_24, if_true, if_false, Nat.reduceAdd, Int32.reduceToNatClampNeg, lo_i, lo_r, lo_n, kont_v, kont_n, List.length_nil, List.length_cons, k24, a0, a6, true_or, e9, e9']
  refine h _ (fun r h1 h2 => ?_) ?_ (fun k hk => ?_)
  · simp only [cpI]; rw [wrI_ne h1, upR_ne h2]
  · rw [wr_eq]
  · simp (config := {decide := true}) only [cpI, wrI, upR_same, upR_ne, ne_eq, not_false_eq_true]
    rw [cpy_at (by omega), Nat.zero_add, Nat.sub_zero]
theorem c177 (h : ∀ J', (∀ r, r ≠ 41 → r ≠ 24 → r ≠ 25 → r ≠ 37 → r ≠ 44 → r ≠ 46 → r ≠ 9 → J' r = J r) → (∀ j, j < 84 → J' 41 j = frsh J j) → (∀ j, 84 ≤ j → J' 41 j = J 41 j) → J' 24 3 = 9 → (∀ k, k < 9 → J' 25 k = J 6 k) → J' 37 0 = 0 → J' 37 1 = 0 → J' 44 1 = 0 → J' 46 2 = 0 → J' 9 15 = 0 → (∀ i, i ≠ 15 → J' 9 i = J 9 i) → Φ (.inl none) (mk n J' L x)) : wpc (d + 2) 177 [.ref (9 : Nat)] (mk n J L x) Φ := by
  have k12 : K6 12 := Or.inl rfl
  have k40 : K5 40 := Or.inl rfl
  have k24 : K4 24 := Or.inl rfl
  have k37 : K1 37 := Or.inl rfl
  have k44 : K9 44 := Or.inl rfl
  show wp (d + 2) 177 0 [.ref (9 : Nat)] [] (mk n J L x) Φ
  simp (config := {decide := true}) only [r177_0, r177_1, r177_4, r177_5, r177_8, if_true, if_false, Nat.reduceAdd, Int32.reduceToNatClampNeg, lo_i, lo_r, lo_n, kont_v, kont_n, List.length_nil, List.length_cons, k12, k40]
  refine c41 (fun f f1 f2 => kont_n.mpr ?_)
  simp (config := {decide := true}) only [r177_11, r177_12, r177_15, if_true, if_false, Nat.reduceAdd, Int32.reduceToNatClampNeg, lo_i, lo_r, lo_n, kont_v, kont_n, List.length_nil, List.length_cons, k24]
  refine c27 (fun J2 e1 e2 e3 => kont_n.mpr ?_)
  simp (config := {decide := true}) only [r177_18, r177_19, r177_22, r177_25, r177_26, r177_29, r177_32, r177_33, r177_36, r177_39, r177_40, r177_41, r177_44, if_true, if_false, Nat.reduceAdd, Int32.reduceToNatClampNeg, lo_i, lo_r, lo_n, kont_v, kont_n, List.length_nil, List.length_cons, c8 k37, k37, c119 k44, k44, c4]
  refine h _ (fun r h1 h2 h3 h4 h5 h6 h7 => ?_) (fun j hj => ?_) (fun j hj => ?_) ?_ (fun k hk => ?_) ?_ ?_ ?_ ?_ ?_ (fun i hi => ?_)
  · rw [wrI_ne h7, wrI_ne h6, wrI_ne h5, upR_ne h4, e1 r h2 h3, upR_ne h1]
  · rw [wrI_ne (by decide), wrI_ne (by decide), wrI_ne (by decide), upR_ne (by decide), e1 41 (by decide) (by decide), upR_same]; exact f1 j hj
  · rw [wrI_ne (by decide), wrI_ne (by decide), wrI_ne (by decide), upR_ne (by decide), e1 41 (by decide) (by decide), upR_same]; exact f2 j hj
  · rw [wrI_ne (by decide), wrI_ne (by decide), wrI_ne (by decide), upR_ne (by decide)]; exact e2
  · rw [wrI_ne (by decide), wrI_ne (by decide), wrI_ne (by decide), upR_ne (by decide), e3 k hk, upR_ne (by decide)]
  · rw [wrI_ne (by decide), wrI_ne (by decide), wrI_ne (by decide), upR_same, up_ne (by decide), up_same]
  · rw [wrI_ne (by decide), wrI_ne (by decide), wrI_ne (by decide), upR_same, up_same]
  · rw [wrI_ne (by decide), wrI_ne (by decide), wr_eq]
  · rw [wrI_ne (by decide), wr_eq]
  · rw [wr_eq]
  · rw [wr_k hi, wrI_ne (by decide), wrI_ne (by decide), upR_ne (by decide), e1 9 (by decide) (by decide), upR_ne (by decide)]
end Rw

