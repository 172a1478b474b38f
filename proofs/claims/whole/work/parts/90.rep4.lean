/-! A REPUBLIC: what is read keeps its bounds -/
def okR (σ : RSt) : Prop := (σ.1 ≤ 7 ∧ σ.2.1 ≤ 6) ∧ (∀ k, k < σ.1 → (1 ≤ σ.2.2 0 k ∧ σ.2.2 0 k ≤ 60) ∧ (1 ≤ σ.2.2 1 k ∧ σ.2.2 1 k ≤ 9)) ∧ (∀ k, σ.1 ≤ k → σ.2.2 0 k = 0 ∧ σ.2.2 1 k = 0) ∧ (∀ k, k < σ.2.1 → (1 ≤ σ.2.2 2 k ∧ σ.2.2 2 k ≤ 30) ∧ σ.2.2 3 k ≤ 20) ∧ (∀ k, σ.2.1 ≤ k → σ.2.2 2 k = 0 ∧ σ.2.2 3 k = 0) ∧ σ.2.2 5 0 ≤ 9 ∧ ∀ k, σ.2.2 4 k ≤ 9
theorem rNum_bd {B : Nat → Int32} {N p V b lo hi : Nat} (hl : lo < 1000) (hh : hi < 1000) (h : rNum B N (nt lo) (nt hi) p = .inl (V, b)) : lo ≤ V ∧ V ≤ hi := by
  obtain ⟨h1, h2, h3⟩ := rNum_in h
  rw [nt_le (by omega) (by omega)] at h2 h3
  exact ⟨h2, h3⟩
theorem r2_bd {B : Nat → Int32} {N p b l1 h1 l2 h2 : Nat} {u : Nat × Nat} (q1 : l1 < 1000) (q2 : h1 < 1000) (q3 : l2 < 1000) (q4 : h2 < 1000) (h : r2 B N (nt l1) (nt h1) (nt l2) (nt h2) p = .inl (u, b)) : (l1 ≤ u.1 ∧ u.1 ≤ h1) ∧ (l2 ≤ u.2 ∧ u.2 ≤ h2) := by
  unfold r2 at h
  split at h
  · cases h
  · rename_i v p1 e1
    split at h
    · cases h
    · rename_i w p2 e2
      cases h
      exact ⟨rNum_bd q1 q2 e1, rNum_bd q3 q4 e2⟩
theorem r3_bd {B : Nat → Int32} {N p b sn cn : Nat} {u : Nat × Nat × Nat} (h : r3 B N sn cn p = .inl (u, b)) : u.2.2 ≤ 9 := by
  unfold r3 at h
  split at h
  · cases h
  · split at h
    · cases h
    · split at h
      · cases h
      · rename_i v p3 e3
        cases h
        exact rNum_1 (H := 9) (by decide) e3
theorem mpR_in {α β : Type} {f : α → β} {r : RD α} {u : β} {p : Nat} (h : mpR f r = .inl (u, p)) : ∃ v, r = .inl (v, p) ∧ u = f v := by
  unfold mpR at h
  split at h
  · cases h
  · cases h; exact ⟨_, rfl, rfl⟩
theorem rBd_ok {B : Nat → Int32} {N k p p' : Nat} {σ τ : RSt} (hk : k < 4) (hσ : okR σ) (h7 : k = 0 → σ.1 < 7) (h6 : k = 1 → σ.2.1 < 6) (h : rBd B N k σ p = .inl (τ, p')) : okR τ := by
  obtain ⟨⟨o1, o2⟩, o3, o4, o5, o6, o7, o8⟩ := hσ
  unfold rBd at h
  have : k = 0 ∨ k = 1 ∨ k = 2 ∨ k = 3 := by omega
  rcases this with rfl | rfl | rfl | rfl
  · obtain ⟨u, hu, rfl⟩ := mpR_in h
    obtain ⟨b1, b2⟩ := r2_bd (l1 := 1) (h1 := 60) (l2 := 1) (h2 := 9) (by decide) (by decide) (by decide) (by decide) hu
    have := h7 rfl
    refine ⟨⟨by dsimp only; omega, o2⟩, fun k hk => ?_, fun k hk => ?_, fun k hk => ?_, fun k hk => ?_, ?_, fun k => ?_⟩ <;> (first | dsimp only at hk ⊢ | dsimp only)
    · by_cases z : k = σ.1
      · subst z
        rw [upF_ne (by decide), upF_eq, upF_eq]
        exact ⟨b1, b2⟩
      · rw [upF_ne (by decide), upF_k z, upF_k z, upF_ne (by decide)]
        exact o3 k (by omega)
    · rw [upF_ne (by decide), upF_k (by omega), upF_k (by omega), upF_ne (by decide)]
      exact o4 k (by omega)
    · rw [upF_ne (by decide), upF_ne (by decide), upF_ne (by decide), upF_ne (by decide)]
      exact o5 k hk
    · rw [upF_ne (by decide), upF_ne (by decide), upF_ne (by decide), upF_ne (by decide)]
      exact o6 k hk
    · rw [upF_ne (by decide), upF_ne (by decide)]; exact o7
    · rw [upF_ne (by decide), upF_ne (by decide)]; exact o8 k
  · obtain ⟨u, hu, rfl⟩ := mpR_in h
    obtain ⟨b1, b2⟩ := r2_bd (l1 := 1) (h1 := 30) (l2 := 0) (h2 := 20) (by decide) (by decide) (by decide) (by decide) hu
    have := h6 rfl
    refine ⟨⟨o1, by dsimp only; omega⟩, fun k hk => ?_, fun k hk => ?_, fun k hk => ?_, fun k hk => ?_, ?_, fun k => ?_⟩ <;> (first | dsimp only at hk ⊢ | dsimp only)
    · rw [upF_ne (by decide), upF_ne (by decide), upF_ne (by decide), upF_ne (by decide)]
      exact o3 k hk
    · rw [upF_ne (by decide), upF_ne (by decide), upF_ne (by decide), upF_ne (by decide)]
      exact o4 k hk
    · by_cases z : k = σ.2.1
      · subst z
        rw [upF_ne (by decide), upF_eq, upF_eq]
        exact ⟨b1, b2.2⟩
      · rw [upF_ne (by decide), upF_k z, upF_k z, upF_ne (by decide)]
        exact o5 k (by omega)
    · rw [upF_ne (by decide), upF_k (by omega), upF_k (by omega), upF_ne (by decide)]
      exact o6 k (by omega)
    · rw [upF_ne (by decide), upF_ne (by decide)]; exact o7
    · rw [upF_ne (by decide), upF_ne (by decide)]; exact o8 k
  · obtain ⟨u, hu, rfl⟩ := mpR_in h
    have b1 := r3_bd hu
    refine ⟨⟨o1, o2⟩, fun k hk => ?_, fun k hk => ?_, fun k hk => ?_, fun k hk => ?_, ?_, fun k => ?_⟩ <;> (first | dsimp only at hk ⊢ | dsimp only)
    · rw [upF_ne (by decide), upF_ne (by decide)]; exact o3 k hk
    · rw [upF_ne (by decide), upF_ne (by decide)]; exact o4 k hk
    · rw [upF_ne (by decide), upF_ne (by decide)]; exact o5 k hk
    · rw [upF_ne (by decide), upF_ne (by decide)]; exact o6 k hk
    · rw [upF_ne (by decide)]; exact o7
    · by_cases z : k = u.1 * 6 + u.2.1
      · rw [z, upF_eq]; exact b1
      · rw [upF_k z]; exact o8 k
  · obtain ⟨u, hu, rfl⟩ := mpR_in h
    have b1 := rNum_1 (H := 9) (by decide) hu
    refine ⟨⟨o1, o2⟩, fun k hk => ?_, fun k hk => ?_, fun k hk => ?_, fun k hk => ?_, ?_, fun k => ?_⟩ <;> (first | dsimp only at hk ⊢ | dsimp only)
    · rw [upF_ne (by decide), upF_ne (by decide)]; exact o3 k hk
    · rw [upF_ne (by decide), upF_ne (by decide)]; exact o4 k hk
    · rw [upF_ne (by decide), upF_ne (by decide)]; exact o5 k hk
    · rw [upF_ne (by decide), upF_ne (by decide)]; exact o6 k hk
    · rw [upF_eq]; exact b1
    · rw [upF_ne (by decide)]; exact o8 k
theorem rCl_ok {B : Nat → Int32} {N told a p' : Nat} {σ τ : RSt} (hσ : okR σ) (h : rCl B N told σ a = .inl (τ, p')) : okR τ := by
  unfold rCl at h
  split at h
  · cases h
  · rename_i k p1 hw
    have hk : k < 4 := rWrd_lt hw
    split at h
    · cases h
    · rename_i hfu
      split at h
      · cases h
      · rename_i τ1 p2 hb
        have hτ : okR τ1 := by
          refine rBd_ok hk hσ (fun e => ?_) (fun e => ?_) hb
          · by_cases z : 7 ≤ σ.1
            · exact absurd (by unfold full; rw [decide_eq_true z, e]; simp) hfu
            · omega
          · by_cases z : 6 ≤ σ.2.1
            · exact absurd (by unfold full; rw [decide_eq_true z, e]; simp) hfu
            · omega
        split at h
        · cases h
        · cases h; exact hτ
theorem rRp_ok {B : Nat → Int32} {N : Nat} : ∀ f told σ a τ p', okR σ → rRp B N f told σ a = .inl (τ, p') → okR τ := by
  intro f
  induction f with
  | zero => intro told σ a τ p' h1 h; cases h; exact h1
  | succ f ih =>
    intro told σ a τ p' h1 h
    unfold rRp at h
    split at h
    · cases h; exact h1
    · split at h
      · cases h
      · rename_i τ1 p1 hcl
        exact ih _ _ _ _ _ (rCl_ok h1 hcl) h
theorem okR_0 : okR sg0r := ⟨⟨by decide, by decide⟩, fun k hk => absurd hk (Nat.not_lt_zero k), fun k _ => ⟨rfl, rfl⟩, fun k hk => absurd hk (Nat.not_lt_zero k), fun k _ => ⟨rfl, rfl⟩, by decide, fun k => Nat.zero_le 9⟩

