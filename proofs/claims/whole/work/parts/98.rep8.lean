/-! A REPUBLIC: what both hold then -/
theorem wfs_plain {sg : Nat → Int32} (h : ∀ k, k < 9 → sg k = plain k) : wfs sg 9 := by
  have e : ∀ k, k ≤ 9 → ht sg k = ht plain k := fun k hk => foldN_cong k (fun j b hj => by rw [h j (by omega)])
  have p1 : ∀ k, k < 9 → 2000 ≤ plain k → 2 ≤ ht plain k := by decide +kernel
  have p2 : 1 ≤ ht plain 9 := by decide +kernel
  exact ⟨fun k hk h2 => by rw [e k (by omega)]; exact p1 k hk (by rw [← h k hk]; exact h2), by rw [e 9 (by decide)]; exact p2, by decide⟩
theorem frT_vc {τ : RSt} (ho : okR τ) {j : Nat} (hj : j < 84) : (if j = 81 then nt (τ.2.2 5 0) else fE (fun i => nt (τ.2.2 4 i)) (fun c => nt (τ.2.2 3 c)) τ.2.1 6 j) = vc (frT τ) j := by
  by_cases q0 : j = 81
  · subst q0
    rfl
  rw [if_neg q0]
  unfold fE fD vc
  by_cases q1 : j < 21
  · rw [if_neg (by omega), if_neg (by omega), if_pos q1]
    unfold frT
    rw [if_neg (show ¬ 60 + j < 6 by omega), if_neg (show ¬ 60 + j < 12 by omega), if_neg (show ¬ 60 + j < 18 by omega), if_neg (show ¬ 60 + j < 60 by omega)]
    by_cases q2 : j < 7
    · rw [if_pos q2, if_pos (show 60 + j < 67 by omega)]
    · rw [if_neg q2, if_neg (show ¬ (39 ≤ j ∧ j < 39 + 42) by omega), if_neg (show ¬ 60 + j < 67 by omega), if_neg (show ¬ 60 + j = 83 by omega)]
  · rw [if_neg q1]
    by_cases q3 : j < 81
    · rw [if_pos q3]
      unfold frT
      by_cases q4 : j < 27
      · rw [if_neg (show ¬ (27 ≤ j ∧ j < 27 + 6) by omega), if_pos (show 21 ≤ j ∧ j < 21 + 6 by omega), if_pos (show j - 21 < 6 by omega)]
        by_cases q5 : j - 21 < τ.2.1
        · rw [if_pos q5]
        · rw [if_neg q5, (ho.2.2.2.2.1 (j - 21) (by omega)).2]
          rfl
      · by_cases q6 : j < 33
        · rw [if_pos (show 27 ≤ j ∧ j < 27 + 6 by omega), if_neg (show ¬ j - 21 < 6 by omega), if_pos (show j - 21 < 12 by omega)]
        · rw [if_neg (show ¬ (27 ≤ j ∧ j < 27 + 6) by omega), if_neg (show ¬ (21 ≤ j ∧ j < 21 + 6) by omega), if_neg (show ¬ j < 7 by omega), if_neg (show ¬ j - 21 < 6 by omega), if_neg (show ¬ j - 21 < 12 by omega)]
          by_cases q7 : j < 39
          · rw [if_neg (show ¬ (39 ≤ j ∧ j < 39 + 42) by omega), if_pos (show j - 21 < 18 by omega)]
          · rw [if_pos (show 39 ≤ j ∧ j < 39 + 42 by omega), if_neg (show ¬ j - 21 < 18 by omega), if_pos (show j - 21 < 60 by omega), show j - 21 - 18 = j - 39 by omega]
    · have : j = 82 ∨ j = 83 := by omega
      rcases this with rfl | rfl <;> rfl

