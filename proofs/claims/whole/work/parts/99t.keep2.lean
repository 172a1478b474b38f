/-! WHAT A RUN KEEPS: things below nine; more depth does no harm -/
def KL (μ μ' : PM) : Prop := 9 ≤ μ'.2.2.2.1 ∧ ∀ a, a < 9 → μ'.2.1 a = μ.2.1 a
theorem KL_tr {μ μ1 μ2 : PM} (h1 : KL μ μ1) (h2 : KL μ1 μ2) : KL μ μ2 := ⟨h2.1, fun a ha => (h2.2 a ha).trans (h1.2 a ha)⟩
theorem pal_lo {μ : PM} {s : PS} (ht : 9 ≤ μ.2.2.2.1) : KL μ (pal μ s) := by
  refine ⟨?_, fun a ha => ?_⟩
  · show 9 ≤ μ.2.2.2.1 + 1
    omega
  · show upR μ.2.1 μ.2.2.2.1 (fun _ => 0) a = μ.2.1 a
    exact upR_ne (by omega)
theorem palN_lo {s : PS} : ∀ (k : Nat) (μ : PM), 9 ≤ μ.2.2.2.1 → KL μ (palN s k μ)
  | 0, μ, ht => ⟨ht, fun _ _ => rfl⟩
  | k + 1, μ, ht => KL_tr (pal_lo ht) (palN_lo k (pal μ s) (pal_lo (s := s) ht).1)
theorem pst_lo {i : Instr} {pc len : Nat} {ls st : List Value} {μ : PM} {q : Nat × List Value × List Value × PM} (h : pst i pc len ls st μ = some q) (ht : 9 ≤ μ.2.2.2.1) : KL μ q.2.2.2 := by
  have tv : KL μ μ := ⟨ht, fun _ _ => rfl⟩
  cases i with
  | iconst n => cases h; exact tv
  | bipush n => cases h; exact tv
  | sipush n => cases h; exact tv
  | lconst n => cases h; exact tv
  | goto t => cases h; exact tv
  | iload k => obtain ⟨x, hk, rfl⟩ := pld_inv h; exact tv
  | iload_n k => obtain ⟨x, hk, rfl⟩ := pld_inv h; exact tv
  | aload k => obtain ⟨x, hk, rfl⟩ := plr_inv h; exact tv
  | aload_n k => obtain ⟨x, hk, rfl⟩ := plr_inv h; exact tv
  | lload k => obtain ⟨x, hk, rfl⟩ := pll_inv h; exact tv
  | lload_n k => obtain ⟨x, hk, rfl⟩ := pll_inv h; exact tv
  | istore k => obtain ⟨x, r, l, hs, hk, rfl⟩ := psi_inv h; exact tv
  | istore_n k => obtain ⟨x, r, l, hs, hk, rfl⟩ := psi_inv h; exact tv
  | astore k => obtain ⟨x, r, l, hs, hk, rfl⟩ := psr_inv h; exact tv
  | astore_n k => obtain ⟨x, r, l, hs, hk, rfl⟩ := psr_inv h; exact tv
  | lstore k => obtain ⟨x, r, l, hs, hk, rfl⟩ := psl_inv h; exact tv
  | lstore_n k => obtain ⟨x, r, l, hs, hk, rfl⟩ := psl_inv h; exact tv
  | iadd => obtain ⟨y, x, r, hs, rfl⟩ := pii_inv h; exact tv
  | isub => obtain ⟨y, x, r, hs, rfl⟩ := pii_inv h; exact tv
  | imul => obtain ⟨y, x, r, hs, rfl⟩ := pii_inv h; exact tv
  | iand => obtain ⟨y, x, r, hs, rfl⟩ := pii_inv h; exact tv
  | ior => obtain ⟨y, x, r, hs, rfl⟩ := pii_inv h; exact tv
  | ixor => obtain ⟨y, x, r, hs, rfl⟩ := pii_inv h; exact tv
  | ishl => obtain ⟨y, x, r, hs, rfl⟩ := pii_inv h; exact tv
  | ishr => obtain ⟨y, x, r, hs, rfl⟩ := pii_inv h; exact tv
  | iushr => obtain ⟨y, x, r, hs, rfl⟩ := pii_inv h; exact tv
  | ladd => obtain ⟨y, x, r, hs, rfl⟩ := pij_inv h; exact tv
  | lmul => obtain ⟨y, x, r, hs, rfl⟩ := pij_inv h; exact tv
  | iinc k n =>
    simp only [pst] at h
    split at h
    · obtain ⟨l, hl, rfl⟩ := Option.map_eq_some_iff.mp h
      exact tv
    · cases h
  | idiv =>
    simp only [pst] at h
    split at h
    · split at h
      · cases h
      · cases h; exact tv
    · cases h
  | irem =>
    simp only [pst] at h
    split at h
    · split at h
      · cases h
      · cases h; exact tv
    · cases h
  | ldiv =>
    simp only [pst] at h
    split at h
    · split at h
      · cases h
      · cases h; exact tv
    · cases h
  | lrem =>
    simp only [pst] at h
    split at h
    · split at h
      · cases h
      · cases h; exact tv
    · cases h
  | ineg =>
    simp only [pst] at h
    split at h
    · cases h; exact tv
    · cases h
  | lshl =>
    simp only [pst] at h
    split at h
    · cases h; exact tv
    · cases h
  | lcmp =>
    simp only [pst] at h
    split at h
    · cases h; exact tv
    · cases h
  | i2l =>
    simp only [pst] at h
    split at h
    · cases h; exact tv
    · cases h
  | i2c =>
    simp only [pst] at h
    split at h
    · cases h; exact tv
    · cases h
  | pop =>
    simp only [pst] at h
    split at h
    · cases h; exact tv
    · cases h
  | dup =>
    simp only [pst] at h
    split at h
    · cases h; exact tv
    · cases h; exact tv
    · cases h
  | dup2 =>
    simp only [pst] at h
    split at h
    · cases h; exact tv
    · cases h; exact tv
    · cases h
  | ifCond cc t =>
    simp only [pst] at h
    split at h
    · cases cc <;> (simp only [pbr, pnx] at h; split at h <;> (cases h; exact tv))
    · cases h
  | if_icmp cc t =>
    simp only [pst] at h
    split at h
    · cases cc <;> (simp only [pbr, pnx] at h; split at h <;> (cases h; exact tv))
    · cases h
  | tableswitch dflt lo hi offs =>
    simp only [pst] at h
    split at h
    · obtain ⟨l, hl, rfl⟩ := Option.map_eq_some_iff.mp h
      exact tv
    · cases h
  | lookupswitch dflt ps =>
    simp only [pst] at h
    split at h
    · cases h; exact tv
    · cases h
  | getfield g =>
    simp only [pst] at h
    split at h
    · split at h
      · obtain ⟨l, hl, rfl⟩ := Option.map_eq_some_iff.mp h
        exact tv
      · cases h
    · cases h
  | putfield g =>
    simp only [pst] at h
    split at h
    · split at h
      · rename_i hc
        obtain ⟨m, hm, rfl⟩ := Option.map_eq_some_iff.mp h
        obtain ⟨p1, p2, -⟩ := ppf_inv hm
        have h9 := hc.2.1.1
        refine ⟨?_, fun a ha => (p2 a (fun e => by subst e; exact absurd h9 (Nat.not_le.mpr ha))).2.1⟩
        show 9 ≤ m.2.2.2.1
        rw [p1]
        exact ht
      · cases h
    · cases h
  | getstatic k =>
    match k, h with
    | 0, h => cases h; exact tv
    | 1, h => cases h; exact tv
    | 2, h => cases h; exact tv
    | k + 3, h => cases h
  | ldc j =>
    simp only [pst] at h
    split at h
    · cases h; exact tv
    · cases h; exact tv
    · cases h
  | ldc_w j =>
    simp only [pst] at h
    split at h
    · cases h; exact tv
    · cases h
  | ldc2_w j =>
    simp only [pst] at h
    split at h
    · cases h; exact tv
    · cases h
  | iaload =>
    simp only [pst] at h
    split at h
    · split at h
      · cases h; exact tv
      · cases h
    · cases h
  | baload =>
    simp only [pst] at h
    split at h
    · split at h
      · cases h; exact tv
      · cases h
    · cases h
  | laload =>
    simp only [pst] at h
    split at h
    · split at h
      · cases h; exact tv
      · cases h
    · cases h
  | arraylength =>
    simp only [pst] at h
    split at h
    · split at h
      · cases h; exact tv
      · cases h
    · cases h
  | monitorexit =>
    simp only [pst] at h
    split at h
    · split at h
      · cases h; exact tv
      · cases h
    · cases h
  | aaload =>
    simp only [pst] at h
    split at h
    · split at h
      · obtain ⟨v, hv, h⟩ := Option.bind_eq_some_iff.mp h
        split at h
        · cases h; exact tv
        · cases h
      · cases h
    · cases h
  | iastore =>
    simp only [pst] at h
    split at h
    · split at h
      · rename_i hc
        cases h
        have h9 := hc.2.1.1
        refine ⟨ht, fun b hb => ?_⟩
        exact upR_ne (fun e => by subst e; exact absurd h9 (Nat.not_le.mpr hb))
      · cases h
    · cases h
  | lastore =>
    simp only [pst] at h
    split at h
    · split at h
      · cases h; exact tv
      · cases h
    · cases h
  | aastore =>
    simp only [pst] at h
    split at h
    · split at h
      · cases h; exact tv
      · cases h
    · cases h
  | new ci =>
    simp only [pst] at h
    split at h
    · cases h; exact pal_lo ht
    · cases h
  | newarray tt =>
    simp only [pst] at h
    split at h
    · split at h
      · cases h; exact pal_lo ht
      · cases h
    · cases h
  | anewarray k =>
    simp only [pst] at h
    split at h
    · split at h
      · cases h; exact pal_lo ht
      · cases h
    · cases h
  | multianewarray k j =>
    by_cases hk : k = 22 ∧ j = 2
    · obtain ⟨rfl, rfl⟩ := hk
      simp only [pst] at h
      split at h
      · split at h
        · cases h; exact KL_tr (pal_lo ht) (palN_lo _ _ (pal_lo ht).1)
        · cases h
      · cases h
    · exfalso
      unfold pst at h
      split at h <;> first | (cases h; done) | (rename_i hq; cases hq; done) | (rename_i hq; cases hq; exact hk ⟨rfl, rfl⟩)
  | monitorenter =>
    simp only [pst] at h
    split at h
    · split at h
      · rename_i hc
        cases h
        have h9 := hc.2.2.1.1
        refine ⟨ht, fun b hb => ?_⟩
        exact upR_ne (fun e => by subst e; exact absurd h9 (Nat.not_le.mpr hb))
      · cases h
    · cases h
  | _ => first | (cases h; done) | (simp [pst] at h; done)
theorem pfin_lo {M : Nat} {i : Instr} {st : List Value} {μ : PM} {r : POut × PM} (h : pfin M i st μ = some r) (ht : 9 ≤ μ.2.2.2.1) : KL μ r.2 := by
  have tv : KL μ μ := ⟨ht, fun _ _ => rfl⟩
  unfold pfin at h
  split at h
  · split at h
    · cases h; exact tv
    · cases h
  · split at h
    · cases h; exact tv
    · cases h
  · split at h
    · cases h; exact tv
    · cases h
  · split at h
    · cases h; exact ⟨ht, fun _ _ => rfl⟩
    · cases h
  · cases h
theorem prun_lo : ∀ (n d M pc : Nat) (ls st : List Value) (μ : PM) (r : POut × PM), prun n d M pc ls st μ = some r → 9 ≤ μ.2.2.2.1 → KL μ r.2 := by
  intro n
  induction n with
  | zero => intro d M pc ls st μ r h; simp [prun] at h
  | succ n ih =>
    intro d M pc ls st μ r h ht
    rw [prun] at h
    cases hf : fetch M pc with
    | none => rw [hf] at h; cases h
    | some x =>
      obtain ⟨len, idx, i⟩ := x
      rw [hf] at h
      dsimp only at h
      cases hc : pcl i st μ with
      | some y =>
        obtain ⟨M', as, rest⟩ := y
        rw [hc] at h
        dsimp only at h
        cases d with
        | zero => cases h
        | succ d' =>
          dsimp only at h
          cases hr : prun n d' M' 0 (entL M' as) [] μ with
          | none => rw [hr] at h; cases h
          | some q =>
            rw [hr] at h
            obtain ⟨o, μ'⟩ := q
            have h1 : KL μ μ' := ih _ _ _ _ _ _ _ hr ht
            cases o with
            | inl v => exact KL_tr h1 (ih _ _ _ _ _ _ _ h h1.1)
            | inr k =>
              dsimp only at h
              cases hh : hnd M pc k with
              | some v => rw [hh] at h; cases h; exact h1
              | none =>
                rw [hh] at h
                dsimp only at h
                split at h
                · cases h; exact h1
                · cases h
      | none =>
        rw [hc] at h
        dsimp only at h
        cases hp : pfin M i st μ with
        | some q => rw [hp] at h; cases h; exact pfin_lo hp ht
        | none =>
          rw [hp] at h
          dsimp only at h
          cases hs : pst i pc len ls st μ with
          | none => rw [hs] at h; cases h
          | some q =>
            obtain ⟨pc', ls', st', μ'⟩ := q
            rw [hs] at h
            have h1 : KL μ μ' := pst_lo hs ht
            exact KL_tr h1 (ih _ _ _ _ _ _ _ h h1.1)
theorem prun_d : ∀ (n d M pc : Nat) (ls st : List Value) (μ : PM) (r : POut × PM), prun n d M pc ls st μ = some r → prun n (d + 1) M pc ls st μ = some r := by
  intro n
  induction n with
  | zero => intro d M pc ls st μ r h; simp [prun] at h
  | succ n ih =>
    intro d M pc ls st μ r h
    rw [prun] at h ⊢
    cases hf : fetch M pc with
    | none => rw [hf] at h; cases h
    | some x =>
      obtain ⟨len, idx, i⟩ := x
      rw [hf] at h
      dsimp only at h ⊢
      cases hc : pcl i st μ with
      | some y =>
        obtain ⟨M', as, rest⟩ := y
        rw [hc] at h
        dsimp only at h ⊢
        cases d with
        | zero => cases h
        | succ d' =>
          dsimp only at h ⊢
          cases hr : prun n d' M' 0 (entL M' as) [] μ with
          | none => rw [hr] at h; cases h
          | some q =>
            rw [hr] at h
            rw [ih _ _ _ _ _ _ _ hr]
            obtain ⟨o, μ'⟩ := q
            cases o with
            | inl v => exact ih _ _ _ _ _ _ _ h
            | inr k => exact h
      | none =>
        rw [hc] at h
        dsimp only at h ⊢
        cases hp : pfin M i st μ with
        | some q => rw [hp] at h; exact h
        | none =>
          rw [hp] at h
          dsimp only at h ⊢
          cases hs : pst i pc len ls st μ with
          | none => rw [hs] at h; cases h
          | some q =>
            obtain ⟨pc', ls', st', μ'⟩ := q
            rw [hs] at h
            exact ih _ _ _ _ _ _ _ h
theorem cres_up {d M : Nat} {as : List Value} {μ μ' : PM} {o : POut} (h : cres d M as μ o μ') : cres (d + 1) M as μ o μ' := by
  intro Φ hΦ
  obtain ⟨k, r, h1, h2⟩ := h Φ hΦ
  exact ⟨k, r, prun_d _ _ _ _ _ _ _ _ h1, h2⟩
theorem cres_lo {d M n n' x x' : Nat} {as : List Value} {I J : Nat → Nat → Int32} {L L' : Nat → Nat → Int64} {o : POut} (h : cres d M as (mk n I L x) o (mk n' J L' x')) : J 7 = I 7 := by
  obtain ⟨k, r, h1, h2⟩ := h (fun o' m => m = mk n' J L' x') rfl
  have h3 := (prun_lo _ _ _ _ _ _ _ _ h1 (by decide : 9 ≤ 560)).2 7 (by decide)
  rw [h2] at h3
  exact h3

