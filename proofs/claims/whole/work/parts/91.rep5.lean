/-! A REPUBLIC: taken over by the class -/
theorem fold_up {o : Nat} {w : Int32} {g : Nat → Int32} {j : Nat} : ∀ m, foldN (fun k g => upd g (o + k) w) m g j = if o ≤ j ∧ j < o + m then w else g j
  | 0 => by rw [if_neg (by omega)]; rfl
  | m + 1 => by
    show upd (foldN (fun k g => upd g (o + k) w) m g) (o + m) w j = _
    by_cases h : j = o + m
    · subst h
      rw [up_same, if_pos (by omega)]
    · rw [up_ne h, fold_up m]
      by_cases h2 : o ≤ j ∧ j < o + m
      · rw [if_pos h2, if_pos (by omega)]
      · rw [if_neg h2, if_neg (by omega)]
theorem cpy_at {f g : Nat → Int32} {sp dp m j : Nat} (h : dp ≤ j ∧ j < dp + m) : va_cpy f g sp dp m j = f (sp + (j - dp)) := by
  unfold va_cpy
  simp [h]
theorem cpy_no {f g : Nat → Int32} {sp dp m j : Nat} (h : ¬ (dp ≤ j ∧ j < dp + m)) : va_cpy f g sp dp m j = g j := by
  unfold va_cpy
  simp [h]
/-- a fresh morning -/
def frsh (J : Nat → Nat → Int32) (j : Nat) : Int32 := if j < 6 then J 16 j else if j < 12 then -1 else if j < 18 then 0 else if j < 60 then J 17 (j - 18) else if j < 67 then -1 else if j = 83 then J 12 7 else 0
section Rv
variable {d n x : Nat} {Φ : POut → PM → Prop} {I J K G : Nat → Nat → Int32} {L : Nat → Nat → Int64} {v : Int32}
theorem c74 (h : ∀ J', (∀ r, r < 12 ∨ 17 < r → J' r = J r) → (J' 12 5 = J 18 5 ∧ J' 12 6 = J 18 6 ∧ J' 12 7 = J 18 7) → (∀ k, k < 7 → J' 13 k = J 19 k) → (∀ k, k < 7 → J' 14 k = J 20 k) → (∀ k, k < 6 → J' 15 k = J 21 k) → (∀ k, k < 6 → J' 16 k = J 22 k) → (∀ k, k < 42 → J' 17 k = J 23 k) → Φ (.inl none) (mk n J' L x)) : wpc d 74 [.ref (12 : Nat), .ref (18 : Nat)] (mk n J L x) Φ := by
  have k12 : K6 12 := Or.inl rfl
  have k18 : K6 18 := Or.inr rfl
  have a1 : sh0 n 13 = (20, 7, []) := sh6a k12
  have a2 : sh0 n 14 = (20, 7, []) := sh6b k12
  have a3 : sh0 n 15 = (20, 6, []) := sh6c k12
  have a4 : sh0 n 16 = (20, 6, []) := sh6d k12
  have a5 : sh0 n 17 = (20, 42, []) := sh6e k12
  have b1 : sh0 n 19 = (20, 7, []) := sh6a k18
  have b2 : sh0 n 20 = (20, 7, []) := sh6b k18
  have b3 : sh0 n 21 = (20, 6, []) := sh6c k18
  have b4 : sh0 n 22 = (20, 6, []) := sh6d k18
  have b5 : sh0 n 23 = (20, 42, []) := sh6e k18
  show wp d 74 0 [.ref (12 : Nat), .ref (18 : Nat)] [] (mk n J L x) Φ
  simp (config := {decide := true}) only [r74_0, r74_1, r74_4, r74_5, r74_6, r74_9, r74_10, r74_12, r74_15, r74_16, r74_19, r74_20, r74_21, r74_24, r74_25, r74_27, r74_30, r74_31, r74_34, r74_35, r74_36, r74_39, r74_40, r74_42, r74_45, r74_46, r74_49, r74_50, r74_51, r74_54, r74_55, r74_57, r74_60, r74_61, r74_64, r74_65, r74_66, r74_69, r74_70, r74_72, r74_75, r74_76, r74_77, r74_80, r74_83, r74_84, r74_85, r74_88, r74_91, r74_92, r74_93, r74_96, r74_99, if_true, if_false, Nat.reduceAdd, Int32.reduceToNatClampNeg, lo_i, lo_r, lo_n, kont_v, kont_n, List.length_nil, List.length_cons, k12, k18, a1, a2, a3, a4, a5, b1, b2, b3, b4, b5, true_or]
  refine h _ (fun r hr => ?_) ⟨?_, ?_, ?_⟩ (fun k hk => ?_) (fun k hk => ?_) (fun k hk => ?_) (fun k hk => ?_) (fun k hk => ?_)
  · simp only [cpI]
    rw [wrI_ne (by omega), wrI_ne (by omega), wrI_ne (by omega), upR_ne (by omega), upR_ne (by omega), upR_ne (by omega), upR_ne (by omega), upR_ne (by omega)]
  · simp (config := {decide := true}) only [cpI, wrI, upR_same, upR_ne, ne_eq, upd, if_true, if_false, not_false_eq_true]
  · simp (config := {decide := true}) only [cpI, wrI, upR_same, upR_ne, ne_eq, upd, if_true, if_false, not_false_eq_true]
  · simp (config := {decide := true}) only [cpI, wrI, upR_same, upR_ne, ne_eq, upd, if_true, if_false, not_false_eq_true]
  · simp (config := {decide := true}) only [cpI, wrI, upR_same, upR_ne, ne_eq, not_false_eq_true]
    rw [cpy_at (by omega), Nat.zero_add, Nat.sub_zero]
  · simp (config := {decide := true}) only [cpI, wrI, upR_same, upR_ne, ne_eq, not_false_eq_true]
    rw [cpy_at (by omega), Nat.zero_add, Nat.sub_zero]
  · simp (config := {decide := true}) only [cpI, wrI, upR_same, upR_ne, ne_eq, not_false_eq_true]
    rw [cpy_at (by omega), Nat.zero_add, Nat.sub_zero]
  · simp (config := {decide := true}) only [cpI, wrI, upR_same, upR_ne, ne_eq, not_false_eq_true]
    rw [cpy_at (by omega), Nat.zero_add, Nat.sub_zero]
  · simp (config := {decide := true}) only [cpI, wrI, upR_same, upR_ne, ne_eq, not_false_eq_true]
    rw [cpy_at (by omega), Nat.zero_add, Nat.sub_zero]
theorem c41 (h : ∀ f, (∀ j, j < 84 → f j = frsh J j) → (∀ j, 84 ≤ j → f j = J 41 j) → Φ (.inl none) (mk n (upR J 41 f) L x)) : wpc (d + 1) 41 [.ref (40 : Nat), .ref (12 : Nat)] (mk n J L x) Φ := by
  have k12 : K6 12 := Or.inl rfl
  have k40 : K5 40 := Or.inl rfl
  have a4 : sh0 n 16 = (20, 6, []) := sh6d k12
  have a5 : sh0 n 17 = (20, 42, []) := sh6e k12
  have a0 : sh0 n 41 = (20, 84, []) := sh5a k40
  show wp (d + 1) 41 0 [.ref (40 : Nat), .ref (12 : Nat), noV] [] (mk n J L x) Φ
  simp (config := {decide := true}) only [r41_0, r41_1, r41_4, r41_5, r41_8, r41_9, r41_12, r41_13, r41_14, r41_17, r41_18, r41_20, r41_23, r41_24, r41_27, r41_28, r41_29, r41_32, r41_34, r41_36, r41_39, r41_41, if_true, if_false, Nat.reduceAdd, Int32.reduceToNatClampNeg, lo_i, lo_r, lo_n, kont_v, kont_n, List.length_nil, List.length_cons, k12, k40, a0, a4, a5, true_or, c328]
  have eg : ∃ g, cpI (cpI (fillv J 41 84 0) 16 0 41 0 6) 17 0 41 18 42 = upR J 41 g ∧ (∀ j, j < 84 → g j = if j < 6 then J 16 j else if 18 ≤ j ∧ j < 60 then J 17 (j - 18) else 0) ∧ ∀ j, 84 ≤ j → g j = J 41 j := by
    refine ⟨va_cpy (J 17) (va_cpy (J 16) (fun j => if j < 84 then 0 else J 41 j) 0 0 6) 0 18 42, ?_, fun j hj => ?_, fun j hj => ?_⟩
    · simp (config := {decide := true}) only [cpI, fillv, upR_same, upR_upR, upR_ne, ne_eq, not_false_eq_true]
    · by_cases h1 : 18 ≤ j ∧ j < 60
      · rw [cpy_at (by omega), if_neg (by omega), if_pos h1, Nat.zero_add]
      · rw [cpy_no (by omega)]
        by_cases h2 : j < 6
        · rw [cpy_at (by omega), if_pos h2, Nat.zero_add, Nat.sub_zero]
        · rw [cpy_no (by omega), if_neg h2, if_neg h1, if_pos hj]
    · rw [cpy_no (by omega), cpy_no (by omega), if_neg (by omega)]
  obtain ⟨g, hg, g1, g2⟩ := eg
  rw [hg]
  have hl := loopN (P := fun k g => wp (d + 1) 41 42 [.ref (40 : Nat), .ref (12 : Nat), .int (nt (6 + k))] [] (mk n (upR J 41 g) L x) Φ) (Q := fun g => wp (d + 1) 41 61 [.ref (40 : Nat), .ref (12 : Nat), .int (nt 12)] [] (mk n (upR J 41 g) L x) Φ) (n := 6) (f := fun k g => upd g (6 + k) (-1)) ?_ ?_ g
  · refine hl.mpr ?_
    simp (config := {decide := true}) only [r41_61, r41_62, r41_65, r41_66, r41_69, r41_71, r41_72, r41_75, r41_76, if_true, if_false, Nat.reduceAdd, Int32.reduceToNatClampNeg, lo_i, lo_r, lo_n, kont_v, kont_n, List.length_nil, List.length_cons, k12, k40, a0, c71 k40, upR_same, upR_upR, wr_up]
    refine h _ (fun j hj => ?_) (fun j hj => ?_)
    · unfold frsh slp
      by_cases h83 : j = 83
      · subst h83
        rw [up_same, upR_ne (by decide)]
        rfl
      · rw [up_ne h83, fold_up, fold_up]
        by_cases q1 : j < 6
        · rw [if_neg (by omega), if_neg (by omega), g1 j hj, if_pos q1, if_pos q1]
        · by_cases q2 : j < 12
          · rw [if_neg (by omega), if_pos (by omega), if_neg q1, if_pos q2]
          · by_cases q3 : j < 18
            · rw [if_neg (by omega), if_neg (by omega), g1 j hj, if_neg q1, if_neg (by omega), if_neg q1, if_neg q2, if_pos q3]
            · by_cases q4 : j < 60
              · rw [if_neg (by omega), if_neg (by omega), g1 j hj, if_neg q1, if_pos (by omega), if_neg q1, if_neg q2, if_neg q3, if_pos q4]
              · by_cases q5 : j < 67
                · rw [if_pos (by omega), if_neg q1, if_neg q2, if_neg q3, if_neg q4, if_pos q5]
                · rw [if_neg (by omega), if_neg (by omega), g1 j hj, if_neg q1, if_neg (by omega), if_neg q1, if_neg q2, if_neg q3, if_neg q4, if_neg q5, if_neg h83]
    · unfold slp
      rw [up_ne (by omega), fold_up, fold_up, if_neg (by omega), if_neg (by omega)]
      exact g2 j hj
  · intro k g hk
    have e1 : ¬ (12 ≤ nt (6 + k)) := nt_nle (m := 12) (by omega) (by decide)
    have e2 : (nt (6 + k)).toNatClampNeg = 6 + k := nt_clamp (by omega)
    have e3 : (0 : Int32) ≤ nt (6 + k) := nt_ge (by omega)
    have e4 : 6 + k < 84 := by omega
    rw [r41_42]
    simp (config := {decide := true}) only [r41_43, r41_45, r41_48, r41_49, r41_52, r41_53, r41_54, r41_55, r41_58, if_true, if_false, Nat.reduceAdd, Int32.reduceToNatClampNeg, lo_i, lo_r, lo_n, kont_v, kont_n, List.length_nil, List.length_cons, e1, e2, e3, e4, k40, a0, wr_up, nt_succ]
    rw [show 6 + k + 1 = 6 + (k + 1) by omega]
  · intro g
    rw [r41_42]
    simp (config := {decide := true}) only [r41_43, r41_45, r41_48, r41_49, r41_52, r41_53, r41_54, r41_55, r41_58, if_true, if_false, Nat.reduceAdd, Int32.reduceToNatClampNeg, lo_i, lo_r, lo_n, kont_v, kont_n, List.length_nil, List.length_cons, show nt 12 = (12 : Int32) from rfl, Int32.le_refl]
end Rv

