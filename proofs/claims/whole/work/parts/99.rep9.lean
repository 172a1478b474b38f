/-! A REPUBLIC: a fresh morning is in order -/
theorem frT_RO {τ : RSt} {K : Nat → Nat → Int32} (ho : okR τ) (hs : sI K = τ.1) (hc : cI K = τ.2.1) {f : Nat → Int32} (hf : ∀ j, j < 84 → f j = frT τ j) : RO K f := by
  obtain ⟨⟨o1, o2⟩, o3, o4, o5, o6, o7, o8⟩ := ho
  have a0 : ∀ c, c < 6 → f c = nt (τ.2.2 3 c) := fun c h => by rw [hf c (by omega)]; unfold frT; rw [if_pos h]
  have a1 : ∀ c, c < 6 → f (6 + c) = -1 := fun c h => by rw [hf (6 + c) (by omega)]; unfold frT; rw [if_neg (show ¬ 6 + c < 6 by omega), if_pos (show 6 + c < 12 by omega)]
  have a2 : ∀ c, c < 6 → f (12 + c) = 0 := fun c h => by rw [hf (12 + c) (by omega)]; unfold frT; rw [if_neg (show ¬ 12 + c < 6 by omega), if_neg (show ¬ 12 + c < 12 by omega), if_pos (show 12 + c < 18 by omega)]
  have a3 : ∀ s, s < 7 → f (60 + s) = -1 := fun s h => by rw [hf (60 + s) (by omega)]; unfold frT; rw [if_neg (show ¬ 60 + s < 6 by omega), if_neg (show ¬ 60 + s < 12 by omega), if_neg (show ¬ 60 + s < 18 by omega), if_neg (show ¬ 60 + s < 60 by omega), if_pos (show 60 + s < 67 by omega)]
  have a4 : ∀ s, s < 7 → f (74 + s) = 0 := fun s h => by rw [hf (74 + s) (by omega)]; unfold frT; rw [if_neg (show ¬ 74 + s < 6 by omega), if_neg (show ¬ 74 + s < 12 by omega), if_neg (show ¬ 74 + s < 18 by omega), if_neg (show ¬ 74 + s < 60 by omega), if_neg (show ¬ 74 + s < 67 by omega), if_neg (show ¬ 74 + s = 83 by omega)]
  have a5 : f 81 = 0 := by rw [hf 81 (by decide)]; rfl
  have le20 : ∀ c, c < 6 → τ.2.2 3 c ≤ 20 := by
    intro c h
    by_cases q : c < τ.2.1
    · exact (o5 c q).2
    · rw [(o6 c (by omega)).2]; exact Nat.zero_le 20
  refine ⟨fun c h1 h2 => ⟨?_, a1 c h2, a2 c h2⟩, fun s h1 h2 => ⟨a3 s h2, a4 s h2⟩, fun s h => Or.inl (a3 s h), by rw [a5]; decide, fun c h => Or.inl (a2 c h), fun c h => ?_, fun c h => Or.inl (a1 c h)⟩
  · rw [a0 c h2, (o6 c (by omega)).2]; rfl
  · have := le20 c h
    rw [a0 c h]
    exact ⟨nt_ge (by omega), by rw [show (20 : Int32) = nt 20 from rfl, nt_le (by omega) (by decide)]; exact this⟩

