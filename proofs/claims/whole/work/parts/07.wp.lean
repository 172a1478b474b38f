/-! WHAT A RUN OF THE PURE MACHINE COMES TO -/
theorem prun_mono : ∀ (n d M pc : Nat) (ls st : List Value) (μ : PM) (r : POut × PM), prun n d M pc ls st μ = some r → prun (n + 1) d M pc ls st μ = some r := by
  intro n
  induction n with
  | zero => intro d M pc ls st μ r h; exact absurd h (by simp [prun])
  | succ n ih =>
    intro d M pc ls st μ r h
    rw [prun] at h ⊢
    cases hf : fetch M pc with
    | none => rw [hf] at h; cases h
    | some x =>
      obtain ⟨len, idx, i⟩ := x
      rw [hf] at h
      dsimp only at h ⊢
      cases hc : pcl i st μ with
      | some y =>
        obtain ⟨M', as, rest⟩ := y
        rw [hc] at h
        dsimp only at h ⊢
        cases d with
        | zero => cases h
        | succ d' =>
          dsimp only at h ⊢
          cases hr : prun n d' M' 0 (entL M' as) [] μ with
          | none => rw [hr] at h; cases h
          | some q =>
            rw [hr] at h
            rw [ih _ _ _ _ _ _ _ hr]
            obtain ⟨o, μ'⟩ := q
            cases o with
            | inl v => exact ih _ _ _ _ _ _ _ h
            | inr k => exact h
      | none =>
        rw [hc] at h
        dsimp only at h ⊢
        cases hp : pfin M i st μ with
        | some q => rw [hp] at h; exact h
        | none =>
          rw [hp] at h
          dsimp only at h ⊢
          cases hs : pst i pc len ls st μ with
          | none => rw [hs] at h; cases h
          | some q =>
            obtain ⟨pc', ls', st', μ'⟩ := q
            rw [hs] at h
            exact ih _ _ _ _ _ _ _ h
theorem prun_add (k : Nat) {n d M pc : Nat} {ls st : List Value} {μ : PM} {r : POut × PM} (h : prun n d M pc ls st μ = some r) : prun (n + k) d M pc ls st μ = some r := by
  induction k with
  | zero => exact h
  | succ k ih => exact prun_mono _ _ _ _ _ _ _ _ ih
theorem prun_le {n m d M pc : Nat} {ls st : List Value} {μ : PM} {r : POut × PM} (h : prun n d M pc ls st μ = some r) (hm : n ≤ m) : prun m d M pc ls st μ = some r := by
  obtain ⟨k, rfl⟩ := Nat.exists_eq_add_of_le hm
  exact prun_add k h
theorem prun_det {n m d M pc : Nat} {ls st : List Value} {μ : PM} {r q : POut × PM} (h : prun n d M pc ls st μ = some r) (h2 : prun m d M pc ls st μ = some q) : r = q := by
  have a := prun_le h (Nat.le_max_left n m)
  have b := prun_le h2 (Nat.le_max_right n m)
  exact Option.some.inj (a.symm.trans b)
def wp (d M pc : Nat) (ls st : List Value) (μ : PM) (Φ : POut → PM → Prop) : Prop := ∃ (n : Nat) (r : POut × PM), prun n d M pc ls st μ = some r ∧ Φ r.1 r.2
def wpc (d M : Nat) (as : List Value) (μ : PM) (Φ : POut → PM → Prop) : Prop := wp d M 0 (entL M as) [] μ Φ
theorem wp_imp {d M pc : Nat} {ls st : List Value} {μ : PM} {Φ Ψ : POut → PM → Prop} (h : wp d M pc ls st μ Φ) (hq : ∀ o m, Φ o m → Ψ o m) : wp d M pc ls st μ Ψ := by
  obtain ⟨n, r, h1, h2⟩ := h
  exact ⟨n, r, h1, hq _ _ h2⟩
theorem wpc_imp {d M : Nat} {as : List Value} {μ : PM} {Φ Ψ : POut → PM → Prop} (h : wpc d M as μ Φ) (hq : ∀ o m, Φ o m → Ψ o m) : wpc d M as μ Ψ := wp_imp h hq
theorem wp_iff {d M pc : Nat} {ls st : List Value} {μ : PM} {o : POut} {m : PM} (h : ∀ Φ : POut → PM → Prop, Φ o m → wp d M pc ls st μ Φ) (Φ : POut → PM → Prop) : wp d M pc ls st μ Φ ↔ Φ o m := by
  refine ⟨fun hw => ?_, fun hp => h Φ hp⟩
  obtain ⟨n, r, h1, h2⟩ := hw
  obtain ⟨n2, r2, h3, h4⟩ := h (fun a b => a = o ∧ b = m) ⟨rfl, rfl⟩
  have e := prun_det h1 h3
  subst e
  rw [← h4.1, ← h4.2]
  exact h2
theorem wpc_iff {d M : Nat} {as : List Value} {μ : PM} {o : POut} {m : PM} (h : ∀ Φ : POut → PM → Prop, Φ o m → wpc d M as μ Φ) (Φ : POut → PM → Prop) : wpc d M as μ Φ ↔ Φ o m := wp_iff h Φ
def stK (d M : Nat) (Φ : POut → PM → Prop) (q : Option (Nat × List Value × List Value × PM)) : Prop := match q with
  | some (pc', ls', st', μ') => wp d M pc' ls' st' μ' Φ
  | none => False
theorem wp_pst {d M pc len idx : Nat} {i : Instr} {ls st : List Value} {μ : PM} {Φ : POut → PM → Prop} (hf : fetch M pc = some (len, idx, i)) (hc : pcl i st μ = none) (hn : pfin M i st μ = none) : wp d M pc ls st μ Φ ↔ stK d M Φ (pst i pc len ls st μ) := by
  constructor
  · rintro ⟨n, r, h1, h2⟩
    cases n with
    | zero => simp [prun] at h1
    | succ n =>
      rw [prun, hf] at h1
      dsimp only at h1
      rw [hc] at h1
      dsimp only at h1
      rw [hn] at h1
      dsimp only at h1
      cases hs : pst i pc len ls st μ with
      | none => rw [hs] at h1; cases h1
      | some q =>
        obtain ⟨pc', ls', st', μ'⟩ := q
        rw [hs] at h1
        exact ⟨n, r, h1, h2⟩
  · intro h
    cases hs : pst i pc len ls st μ with
    | none => rw [hs] at h; exact h.elim
    | some q =>
      obtain ⟨pc', ls', st', μ'⟩ := q
      rw [hs] at h
      obtain ⟨n, r, h1, h2⟩ := h
      refine ⟨n + 1, r, ?_, h2⟩
      rw [prun, hf]
      dsimp only
      rw [hc]
      dsimp only
      rw [hn]
      dsimp only
      rw [hs]
      exact h1
theorem wp_fin {d M pc len idx : Nat} {i : Instr} {ls st : List Value} {μ : PM} {Φ : POut → PM → Prop} {r : POut × PM} (hf : fetch M pc = some (len, idx, i)) (hc : pcl i st μ = none) (hn : pfin M i st μ = some r) : wp d M pc ls st μ Φ ↔ Φ r.1 r.2 := by
  constructor
  · rintro ⟨n, q, h1, h2⟩
    cases n with
    | zero => simp [prun] at h1
    | succ n =>
      rw [prun, hf] at h1
      dsimp only at h1
      rw [hc] at h1
      dsimp only at h1
      rw [hn] at h1
      cases h1
      exact h2
  · intro h
    refine ⟨1, r, ?_, h⟩
    rw [prun, hf]
    dsimp only
    rw [hc]
    dsimp only
    rw [hn]
/-- behind a call -/
def kont (d M pc len : Nat) (ls rest : List Value) (Φ : POut → PM → Prop) (o : POut) (μ : PM) : Prop := match o with
  | .inl v => wp (d + 1) M (pc + len) ls (v.toList ++ rest) μ Φ
  | .inr k => match hnd M pc k with
    | some v => Φ (.inl (some (.int v))) μ
    | none => Nat.blt M 330 = true ∧ Φ (.inr k) μ
theorem wp_call {d M pc len idx M' : Nat} {i : Instr} {ls st as rest : List Value} {μ : PM} {Φ : POut → PM → Prop} (hf : fetch M pc = some (len, idx, i)) (hc : pcl i st μ = some (M', as, rest)) : wp (d + 1) M pc ls st μ Φ ↔ wpc d M' as μ (kont d M pc len ls rest Φ) := by
  constructor
  · rintro ⟨n, r, h1, h2⟩
    cases n with
    | zero => simp [prun] at h1
    | succ n =>
      rw [prun, hf] at h1
      dsimp only at h1
      rw [hc] at h1
      dsimp only at h1
      cases hr : prun n d M' 0 (entL M' as) [] μ with
      | none => rw [hr] at h1; cases h1
      | some q =>
        rw [hr] at h1
        obtain ⟨o, μ'⟩ := q
        refine ⟨n, (o, μ'), hr, ?_⟩
        cases o with
        | inl v => exact ⟨n, r, h1, h2⟩
        | inr k =>
          dsimp only [kont]
          dsimp only at h1
          cases hh : hnd M pc k with
          | some v => rw [hh] at h1; cases h1; exact h2
          | none =>
            rw [hh] at h1
            dsimp only at h1
            split at h1
            · rename_i hb; cases h1; exact ⟨hb, h2⟩
            · cases h1
  · rintro ⟨n, ⟨o, μ'⟩, h1, h2⟩
    cases o with
    | inl v =>
      obtain ⟨n2, r, h3, h4⟩ := h2
      refine ⟨max n n2 + 1, r, ?_, h4⟩
      rw [prun, hf]
      dsimp only
      rw [hc]
      dsimp only
      rw [prun_le h1 (Nat.le_max_left n n2)]
      exact prun_le h3 (Nat.le_max_right n n2)
    | inr k =>
      dsimp only [kont] at h2
      cases hh : hnd M pc k with
      | some v =>
        rw [hh] at h2
        refine ⟨n + 1, (.inl (some (.int v)), μ'), ?_, h2⟩
        rw [prun, hf]
        dsimp only
        rw [hc]
        dsimp only
        rw [h1]
        dsimp only
        rw [hh]
      | none =>
        rw [hh] at h2
        refine ⟨n + 1, (.inr k, μ'), ?_, h2.2⟩
        rw [prun, hf]
        dsimp only
        rw [hc]
        dsimp only
        rw [h1]
        dsimp only
        rw [hh]
        dsimp only
        rw [if_pos h2.1]
