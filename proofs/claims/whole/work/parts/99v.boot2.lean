/-! THE START: a run that knows nothing of the script is a run with any script -/
def sub7 (s : PS) (f : Nat → Int32) (μ : PM) : PM := (upR μ.1 7 s, upR μ.2.1 7 f, μ.2.2)
def Q7 (μ : PM) : Prop := μ.1 7 = (99, 0, []) ∧ 9 ≤ μ.2.2.2.1 ∧ ∀ c : Nat, 9 ≤ c → (μ.1 c).2.2.length ≤ (μ.1 c).2.1 ∧ ∀ j, (μ.1 c).2.1 ≤ j → μ.2.1 c j = 0
def HI (μ μ' : PM) : Prop := μ.2.2.2.1 ≤ μ'.2.2.2.1 ∧ ∀ c : Nat, μ'.2.2.2.1 ≤ c → μ'.1 c = μ.1 c
section Sv
variable {s : PS} {f : Nat → Int32} {μ μ' μ1 : PM}
theorem HI_refl : HI μ μ := ⟨Nat.le_refl _, fun _ _ => rfl⟩
theorem HI_tr (h1 : HI μ μ1) (h2 : HI μ1 μ') : HI μ μ' := ⟨Nat.le_trans h1.1 h2.1, fun c hc => (h2.2 c hc).trans (h1.2 c (Nat.le_trans h2.1 hc))⟩
theorem s7_1 {a : Nat} (h : a ≠ 7) : (sub7 s f μ).1 a = μ.1 a := upR_ne h
theorem s7_I {a : Nat} (h : a ≠ 7) : (sub7 s f μ).2.1 a = μ.2.1 a := upR_ne h
theorem kd7 {a k : Nat} (hQ : Q7 μ) (h : (μ.1 a).1 = k) (hk : k ≠ 99) : a ≠ 7 := fun e => by
  subst e
  rw [hQ.1] at h
  exact hk h.symm
theorem pgf_7 {a k : Nat} (h : a ≠ 7) : pgf (sub7 s f μ) a k = pgf μ a k := by
  unfold pgf
  rw [s7_1 h, s7_I h]
/-- ints of a thing change -/
theorem Q7_I {a : Nat} {g : Nat → Int32} (hQ : Q7 μ) (h9 : 9 ≤ a) (hg : ∀ j, (μ.1 a).2.1 ≤ j → g j = 0) : Q7 (μ.1, upR μ.2.1 a g, μ.2.2) := by
  refine ⟨hQ.1, hQ.2.1, fun c hc => ⟨(hQ.2.2 c hc).1, fun j hj => ?_⟩⟩
  show upR μ.2.1 a g c j = 0
  by_cases e : c = a
  · subst e
    rw [upR_same]
    exact hg j hj
  · rw [upR_ne e]
    exact (hQ.2.2 c hc).2 j hj
theorem s7_upI {a : Nat} {g : Nat → Int32} (h : a ≠ 7) : sub7 s f (μ.1, upR μ.2.1 a g, μ.2.2) = ((sub7 s f μ).1, upR (sub7 s f μ).2.1 a g, μ.2.2) := by
  unfold sub7
  show (upR μ.1 7 s, upR (upR μ.2.1 a g) 7 f, μ.2.2) = (upR μ.1 7 s, upR (upR μ.2.1 7 f) a g, μ.2.2)
  rw [upR_comm h]
theorem s7_upS {a : Nat} {g : PS} (h : a ≠ 7) : sub7 s f (upR μ.1 a g, μ.2) = (upR (sub7 s f μ).1 a g, (sub7 s f μ).2) := by
  unfold sub7
  show (upR (upR μ.1 a g) 7 s, upR μ.2.1 7 f, μ.2.2) = (upR (upR μ.1 7 s) a g, upR μ.2.1 7 f, μ.2.2)
  rw [upR_comm h]
theorem Q7_S {a k : Nat} {v : Value} (hQ : Q7 μ) (h9 : 9 ≤ a) : Q7 (upR μ.1 a ((μ.1 a).1, (μ.1 a).2.1, (μ.1 a).2.2.set k v), μ.2) := by
  refine ⟨?_, hQ.2.1, fun c hc => ?_⟩
  · show upR μ.1 a _ 7 = _
    rw [upR_ne (by omega)]
    exact hQ.1
  · show (upR μ.1 a _ c).2.2.length ≤ (upR μ.1 a _ c).2.1 ∧ ∀ j, (upR μ.1 a _ c).2.1 ≤ j → μ.2.1 c j = 0
    by_cases e : c = a
    · subst e
      rw [upR_same]
      refine ⟨?_, (hQ.2.2 c hc).2⟩
      rw [List.length_set]
      exact (hQ.2.2 c hc).1
    · rw [upR_ne e]
      exact hQ.2.2 c hc
theorem HI_S {a : Nat} {g : PS} (h : a < μ.2.2.2.1) : HI μ (upR μ.1 a g, μ.2) := by
  refine ⟨Nat.le_refl _, fun c hc => ?_⟩
  have hc : μ.2.2.2.1 ≤ c := hc
  exact upR_ne (fun e => by subst e; exact absurd hc (Nat.not_le.mpr h))
theorem ppf_7 {a k : Nat} {v : Value} {m : PM} (hQ : Q7 μ) (h9 : 9 ≤ a) (ha : a < μ.2.2.2.1) (h : ppf μ a k v = some m) : ppf (sub7 s f μ) a k v = some (sub7 s f m) ∧ Q7 m ∧ HI μ m := by
  have h7 : a ≠ 7 := by omega
  unfold ppf at h
  split at h
  · rename_i y x hk
    cases h
    refine ⟨?_, Q7_I hQ h9 (fun j hj => ?_), Nat.le_refl _, fun _ _ => rfl⟩
    · unfold ppf
      rw [s7_1 h7, hk, s7_upI h7, s7_I h7]
      rfl
    · have hl := (List.getElem?_eq_some_iff.mp hk).1
      have h2 := (hQ.2.2 a h9).1
      rw [up_ne (by omega)]
      exact (hQ.2.2 a h9).2 j hj
  · rename_i r hk
    cases h
    refine ⟨?_, Q7_S hQ h9, HI_S ha⟩
    unfold ppf
    rw [s7_1 h7, hk, s7_upS h7]
  · cases h
theorem pal_7 {s0 : PS} (hQ : Q7 μ) (h0 : s0.2.2.length ≤ s0.2.1) : pal (sub7 s f μ) s0 = sub7 s f (pal μ s0) ∧ Q7 (pal μ s0) ∧ HI μ (pal μ s0) := by
  have h9 := hQ.2.1
  refine ⟨?_, ⟨?_, ?_, fun c hc => ?_⟩, ?_, fun c hc => ?_⟩
  · unfold pal sub7
    show (upR (upR μ.1 7 s) μ.2.2.2.1 s0, upR (upR μ.2.1 7 f) μ.2.2.2.1 (fun _ => 0), _) = (upR (upR μ.1 μ.2.2.2.1 s0) 7 s, upR (upR μ.2.1 μ.2.2.2.1 (fun _ => 0)) 7 f, _)
    rw [upR_comm (show μ.2.2.2.1 ≠ 7 by omega), upR_comm (I := μ.2.1) (show μ.2.2.2.1 ≠ 7 by omega)]
  · show upR μ.1 μ.2.2.2.1 s0 7 = _
    rw [upR_ne (by omega)]
    exact hQ.1
  · show 9 ≤ μ.2.2.2.1 + 1
    omega
  · show (upR μ.1 μ.2.2.2.1 s0 c).2.2.length ≤ (upR μ.1 μ.2.2.2.1 s0 c).2.1 ∧ ∀ j, (upR μ.1 μ.2.2.2.1 s0 c).2.1 ≤ j → upR μ.2.1 μ.2.2.2.1 (fun _ => 0) c j = 0
    by_cases e : c = μ.2.2.2.1
    · rw [e, upR_same, upR_same]
      exact ⟨h0, fun _ _ => rfl⟩
    · rw [upR_ne e, upR_ne e]
      exact hQ.2.2 c hc
  · show μ.2.2.2.1 ≤ μ.2.2.2.1 + 1
    omega
  · have hc : μ.2.2.2.1 + 1 ≤ c := hc
    show upR μ.1 μ.2.2.2.1 s0 c = μ.1 c
    exact upR_ne (by omega)
theorem palN_7 {s0 : PS} (h0 : s0.2.2.length ≤ s0.2.1) : ∀ (k : Nat) (μ : PM), Q7 μ → palN s0 k (sub7 s f μ) = sub7 s f (palN s0 k μ) ∧ Q7 (palN s0 k μ) ∧ HI μ (palN s0 k μ)
  | 0, μ, hQ => ⟨rfl, hQ, HI_refl⟩
  | k + 1, μ, hQ => by
    obtain ⟨a1, a2, a3⟩ := pal_7 (s := s) (f := f) hQ h0
    obtain ⟨b1, b2, b3⟩ := palN_7 h0 k (pal μ s0) a2
    refine ⟨?_, b2, HI_tr a3 b3⟩
    show palN s0 k (pal (sub7 s f μ) s0) = _
    rw [a1]
    exact b1
def P7 (s : PS) (f : Nat → Int32) (i : Instr) (pc len : Nat) (ls st : List Value) (μ : PM) (q : Nat × List Value × List Value × PM) : Prop := pst i pc len ls st (sub7 s f μ) = some (q.1, q.2.1, q.2.2.1, sub7 s f q.2.2.2) ∧ Q7 q.2.2.2 ∧ HI μ q.2.2.2
theorem pst_7 {i : Instr} {pc len : Nat} {ls st : List Value} {q : Nat × List Value × List Value × PM} (h : pst i pc len ls st μ = some q) (hQ : Q7 μ) : P7 s f i pc len ls st μ q := by
  have hr : HI μ μ := HI_refl
  cases i with
  | iconst n => cases h; exact ⟨rfl, hQ, hr⟩
  | bipush n => cases h; exact ⟨rfl, hQ, hr⟩
  | sipush n => cases h; exact ⟨rfl, hQ, hr⟩
  | lconst n => cases h; exact ⟨rfl, hQ, hr⟩
  | goto t => cases h; exact ⟨rfl, hQ, hr⟩
  | iload k =>
    obtain ⟨x, hk, rfl⟩ := pld_inv h
    refine ⟨?_, hQ, hr⟩
    show pld _ _ _ _ _ = _
    unfold pld
    rw [hk]
    rfl
  | iload_n k =>
    obtain ⟨x, hk, rfl⟩ := pld_inv h
    refine ⟨?_, hQ, hr⟩
    show pld _ _ _ _ _ = _
    unfold pld
    rw [hk]
    rfl
  | aload k =>
    obtain ⟨x, hk, rfl⟩ := plr_inv h
    refine ⟨?_, hQ, hr⟩
    show plr _ _ _ _ _ = _
    unfold plr
    rw [hk]
    rfl
  | aload_n k =>
    obtain ⟨x, hk, rfl⟩ := plr_inv h
    refine ⟨?_, hQ, hr⟩
    show plr _ _ _ _ _ = _
    unfold plr
    rw [hk]
    rfl
  | lload k =>
    obtain ⟨x, hk, rfl⟩ := pll_inv h
    refine ⟨?_, hQ, hr⟩
    show pll _ _ _ _ _ = _
    unfold pll
    rw [hk]
    rfl
  | lload_n k =>
    obtain ⟨x, hk, rfl⟩ := pll_inv h
    refine ⟨?_, hQ, hr⟩
    show pll _ _ _ _ _ = _
    unfold pll
    rw [hk]
    rfl
  | istore k =>
    obtain ⟨x, r, l, hs, hk, rfl⟩ := psi_inv h
    subst hs
    refine ⟨?_, hQ, hr⟩
    show (lst1 _ _ _).map _ = _
    rw [hk]
    rfl
  | istore_n k =>
    obtain ⟨x, r, l, hs, hk, rfl⟩ := psi_inv h
    subst hs
    refine ⟨?_, hQ, hr⟩
    show (lst1 _ _ _).map _ = _
    rw [hk]
    rfl
  | astore k =>
    obtain ⟨x, r, l, hs, hk, rfl⟩ := psr_inv h
    subst hs
    refine ⟨?_, hQ, hr⟩
    show (lst1 _ _ _).map _ = _
    rw [hk]
    rfl
  | astore_n k =>
    obtain ⟨x, r, l, hs, hk, rfl⟩ := psr_inv h
    subst hs
    refine ⟨?_, hQ, hr⟩
    show (lst1 _ _ _).map _ = _
    rw [hk]
    rfl
  | lstore k =>
    obtain ⟨x, r, l, hs, hk, rfl⟩ := psl_inv h
    subst hs
    refine ⟨?_, hQ, hr⟩
    show (lst2 _ _ _).map _ = _
    rw [hk]
    rfl
  | lstore_n k =>
    obtain ⟨x, r, l, hs, hk, rfl⟩ := psl_inv h
    subst hs
    refine ⟨?_, hQ, hr⟩
    show (lst2 _ _ _).map _ = _
    rw [hk]
    rfl
  | iadd => obtain ⟨y, x, r, hs, rfl⟩ := pii_inv h; subst hs; exact ⟨rfl, hQ, hr⟩
  | isub => obtain ⟨y, x, r, hs, rfl⟩ := pii_inv h; subst hs; exact ⟨rfl, hQ, hr⟩
  | imul => obtain ⟨y, x, r, hs, rfl⟩ := pii_inv h; subst hs; exact ⟨rfl, hQ, hr⟩
  | iand => obtain ⟨y, x, r, hs, rfl⟩ := pii_inv h; subst hs; exact ⟨rfl, hQ, hr⟩
  | ior => obtain ⟨y, x, r, hs, rfl⟩ := pii_inv h; subst hs; exact ⟨rfl, hQ, hr⟩
  | ixor => obtain ⟨y, x, r, hs, rfl⟩ := pii_inv h; subst hs; exact ⟨rfl, hQ, hr⟩
  | ishl => obtain ⟨y, x, r, hs, rfl⟩ := pii_inv h; subst hs; exact ⟨rfl, hQ, hr⟩
  | ishr => obtain ⟨y, x, r, hs, rfl⟩ := pii_inv h; subst hs; exact ⟨rfl, hQ, hr⟩
  | iushr => obtain ⟨y, x, r, hs, rfl⟩ := pii_inv h; subst hs; exact ⟨rfl, hQ, hr⟩
  | ladd => obtain ⟨y, x, r, hs, rfl⟩ := pij_inv h; subst hs; exact ⟨rfl, hQ, hr⟩
  | lmul => obtain ⟨y, x, r, hs, rfl⟩ := pij_inv h; subst hs; exact ⟨rfl, hQ, hr⟩
  | iinc k n =>
    simp only [pst] at h
    split at h
    · rename_i x hk
      obtain ⟨l, hl, rfl⟩ := Option.map_eq_some_iff.mp h
      refine ⟨?_, hQ, hr⟩
      simp only [pst, hk]
      rw [hl]
      rfl
    · cases h
  | idiv =>
    simp only [pst] at h
    split at h
    · split at h
      · cases h
      · rename_i hy
        cases h
        refine ⟨?_, hQ, hr⟩
        simp only [pst]
        rw [if_neg hy]
        rfl
    · cases h
  | irem =>
    simp only [pst] at h
    split at h
    · split at h
      · cases h
      · rename_i hy
        cases h
        refine ⟨?_, hQ, hr⟩
        simp only [pst]
        rw [if_neg hy]
        rfl
    · cases h
  | ldiv =>
    simp only [pst] at h
    split at h
    · split at h
      · cases h
      · rename_i hy
        cases h
        refine ⟨?_, hQ, hr⟩
        simp only [pst]
        rw [if_neg hy]
        rfl
    · cases h
  | lrem =>
    simp only [pst] at h
    split at h
    · split at h
      · cases h
      · rename_i hy
        cases h
        refine ⟨?_, hQ, hr⟩
        simp only [pst]
        rw [if_neg hy]
        rfl
    · cases h
  | ineg =>
    simp only [pst] at h
    split at h
    · cases h; exact ⟨rfl, hQ, hr⟩
    · cases h
  | lshl =>
    simp only [pst] at h
    split at h
    · cases h; exact ⟨rfl, hQ, hr⟩
    · cases h
  | lcmp =>
    simp only [pst] at h
    split at h
    · cases h; exact ⟨rfl, hQ, hr⟩
    · cases h
  | i2l =>
    simp only [pst] at h
    split at h
    · cases h; exact ⟨rfl, hQ, hr⟩
    · cases h
  | i2c =>
    simp only [pst] at h
    split at h
    · cases h; exact ⟨rfl, hQ, hr⟩
    · cases h
  | pop =>
    simp only [pst] at h
    split at h
    · cases h; exact ⟨rfl, hQ, hr⟩
    · cases h
  | dup =>
    simp only [pst] at h
    split at h
    · cases h; exact ⟨rfl, hQ, hr⟩
    · cases h; exact ⟨rfl, hQ, hr⟩
    · cases h
  | dup2 =>
    simp only [pst] at h
    split at h
    · cases h; exact ⟨rfl, hQ, hr⟩
    · cases h; exact ⟨rfl, hQ, hr⟩
    · cases h
  | ifCond cc t =>
    simp only [pst] at h
    split at h
    · cases cc <;> (simp only [pbr, pnx] at h; split at h <;> (rename_i hc; cases h; refine ⟨?_, hQ, hr⟩; simp only [pst, pbr, pnx]; first | (rw [if_pos hc]; done) | (rw [if_neg hc]; done) | (rw [if_pos hc]; rfl) | (rw [if_neg hc]; rfl)))
    · cases h
  | if_icmp cc t =>
    simp only [pst] at h
    split at h
    · cases cc <;> (simp only [pbr, pnx] at h; split at h <;> (rename_i hc; cases h; refine ⟨?_, hQ, hr⟩; simp only [pst, pbr, pnx]; first | (rw [if_pos hc]; done) | (rw [if_neg hc]; done) | (rw [if_pos hc]; rfl) | (rw [if_neg hc]; rfl)))
    · cases h
  | tableswitch dflt lo hi offs =>
    simp only [pst] at h
    split at h
    · obtain ⟨l, hl, rfl⟩ := Option.map_eq_some_iff.mp h
      refine ⟨?_, hQ, hr⟩
      simp only [pst]
      rw [hl]
      rfl
    · cases h
  | lookupswitch dflt ps =>
    simp only [pst] at h
    split at h
    · cases h; exact ⟨rfl, hQ, hr⟩
    · cases h
  | getfield g =>
    simp only [pst] at h
    split at h
    · rename_i c r
      split at h
      · rename_i hc
        obtain ⟨v, hv, rfl⟩ := Option.map_eq_some_iff.mp h
        have h7 : c ≠ 7 := fun e => by
          subst e
          unfold pgf at hv
          rw [hQ.1] at hv
          cases hv
        refine ⟨?_, hQ, hr⟩
        show (if ((sub7 s f μ).1 c).1 = g / 64 ∧ c < μ.2.2.2.1 then (pgf (sub7 s f μ) c (g % 64)).map _ else none) = _
        rw [s7_1 h7, if_pos hc, pgf_7 h7, hv]
        rfl
      · cases h
    · cases h
  | putfield g =>
    simp only [pst] at h
    split at h
    · rename_i v c r
      split at h
      · rename_i hc
        obtain ⟨m, hm, rfl⟩ := Option.map_eq_some_iff.mp h
        have h9 : 9 ≤ (c : Nat) := hc.2.1.1
        have h7 : (c : Nat) ≠ 7 := fun e => by rw [e] at h9; exact absurd h9 (by decide)
        obtain ⟨p1, p2, p3⟩ := ppf_7 (s := s) (f := f) hQ h9 hc.2.1.2 hm
        refine ⟨?_, p2, p3⟩
        show (if ((sub7 s f μ).1 c).1 = g / 64 ∧ (9 ≤ c ∧ c < μ.2.2.2.1) ∧ ftyOk g v = true then (ppf (sub7 s f μ) c (g % 64) v).map _ else none) = _
        rw [s7_1 h7, if_pos hc, p1]
        rfl
      · cases h
    · cases h
  | getstatic k =>
    match k, h with
    | 0, h => cases h; exact ⟨rfl, hQ, hr⟩
    | 1, h => cases h; exact ⟨rfl, hQ, hr⟩
    | 2, h => cases h; exact ⟨rfl, hQ, hr⟩
    | k + 3, h => cases h
  | ldc j =>
    simp only [pst] at h
    split at h
    · rename_i x hv; cases h; exact ⟨by simp only [pst, hv]; rfl, hQ, hr⟩
    · rename_i x hv; cases h; exact ⟨by simp only [pst, hv]; rfl, hQ, hr⟩
    · cases h
  | ldc_w j =>
    simp only [pst] at h
    split at h
    · rename_i x hv; cases h; exact ⟨by simp only [pst, hv]; rfl, hQ, hr⟩
    · cases h
  | ldc2_w j =>
    simp only [pst] at h
    split at h
    · rename_i x hv; cases h; exact ⟨by simp only [pst, hv]; rfl, hQ, hr⟩
    · cases h
  | iaload =>
    simp only [pst] at h
    split at h
    · rename_i i a r
      split at h
      · rename_i hc
        cases h
        have h7 : a ≠ 7 := kd7 hQ hc.1 (by decide)
        refine ⟨?_, hQ, hr⟩
        show (if ((sub7 s f μ).1 a).1 = 20 ∧ a < μ.2.2.2.1 ∧ ¬ (i < 0 ∨ ((sub7 s f μ).1 a).2.1 ≤ i.toNatClampNeg) then pnx _ _ (.int ((sub7 s f μ).2.1 a i.toNatClampNeg) :: _) _ else none) = _
        rw [s7_1 h7, if_pos hc, s7_I h7]
        rfl
      · cases h
    · cases h
  | baload =>
    simp only [pst] at h
    split at h
    · rename_i i a r
      split at h
      · rename_i hc
        cases h
        have h7 : a ≠ 7 := kd7 hQ hc.1 (by decide)
        refine ⟨?_, hQ, hr⟩
        show (if ((sub7 s f μ).1 a).1 = 25 ∧ a < 9 ∧ ¬ (i < 0 ∨ ((sub7 s f μ).1 a).2.1 ≤ i.toNatClampNeg) then pnx _ _ (.int ((sub7 s f μ).2.1 a i.toNatClampNeg) :: _) _ else none) = _
        rw [s7_1 h7, if_pos hc, s7_I h7]
        rfl
      · cases h
    · cases h
  | laload =>
    simp only [pst] at h
    split at h
    · rename_i i a r
      split at h
      · rename_i hc
        cases h
        have h7 : a ≠ 7 := kd7 hQ hc.1 (by decide)
        refine ⟨?_, hQ, hr⟩
        show (if ((sub7 s f μ).1 a).1 = 21 ∧ (9 ≤ a ∧ a < μ.2.2.2.1) ∧ ¬ (i < 0 ∨ ((sub7 s f μ).1 a).2.1 ≤ i.toNatClampNeg) then pnx _ _ _ _ else none) = _
        rw [s7_1 h7, if_pos hc]
        rfl
      · cases h
    · cases h
  | aaload =>
    simp only [pst] at h
    split at h
    · rename_i i a r
      split at h
      · rename_i hc
        obtain ⟨v, hv, h⟩ := Option.bind_eq_some_iff.mp h
        have h7 : a ≠ 7 := fun e => by
          subst e
          rw [hQ.1] at hv
          cases hv
        split at h
        · cases h
          refine ⟨?_, hQ, hr⟩
          show (if (((sub7 s f μ).1 a).1 = 22 ∨ ((sub7 s f μ).1 a).1 = 23 ∨ ((sub7 s f μ).1 a).1 = 24) ∧ (9 ≤ a ∧ a < μ.2.2.2.1) ∧ ¬ (i < 0 ∨ ((sub7 s f μ).1 a).2.1 ≤ i.toNatClampNeg) then (((sub7 s f μ).1 a).2.2[i.toNatClampNeg]?).bind _ else none) = _
          rw [s7_1 h7, if_pos hc, hv]
          rfl
        · cases h
      · cases h
    · cases h
  | arraylength =>
    simp only [pst] at h
    split at h
    · rename_i a r
      split at h
      · rename_i hc
        cases h
        have h7 : a ≠ 7 := fun e => by
          subst e
          rw [hQ.1] at hc
          rcases hc.1 with e | e | e
          · exact absurd e (by decide)
          · exact absurd e.1 (by decide)
          · exact absurd e.1 (by decide)
        refine ⟨?_, hQ, hr⟩
        show (if (((sub7 s f μ).1 a).1 = 20 ∨ ((sub7 s f μ).1 a).1 = 25 ∧ a < 9 ∨ (((sub7 s f μ).1 a).1 = 23 ∨ ((sub7 s f μ).1 a).1 = 24) ∧ 9 ≤ a) ∧ a < μ.2.2.2.1 then pnx _ _ (.int (Int32.ofNat ((sub7 s f μ).1 a).2.1) :: _) _ else none) = _
        rw [s7_1 h7, if_pos hc]
        rfl
      · cases h
    · cases h
  | iastore =>
    simp only [pst] at h
    split at h
    · rename_i x i a r
      split at h
      · rename_i hc
        cases h
        have h9 : 9 ≤ (a : Nat) := hc.2.1.1
        have h7 : (a : Nat) ≠ 7 := fun e => by rw [e] at h9; exact absurd h9 (by decide)
        have hlt : i.toNatClampNeg < (μ.1 a).2.1 := Nat.not_le.mp (fun z => hc.2.2 (Or.inr z))
        refine ⟨?_, Q7_I hQ h9 (fun j hj => ?_), Nat.le_refl _, fun _ _ => rfl⟩
        · show (if ((sub7 s f μ).1 a).1 = 20 ∧ (9 ≤ a ∧ a < μ.2.2.2.1) ∧ ¬ (i < 0 ∨ ((sub7 s f μ).1 a).2.1 ≤ i.toNatClampNeg) then pnx _ _ _ ((sub7 s f μ).1, upR (sub7 s f μ).2.1 a (upd ((sub7 s f μ).2.1 a) i.toNatClampNeg x), μ.2.2) else none) = _
          rw [s7_1 h7, if_pos hc, s7_I h7, ← s7_upI h7]
          rfl
        · rw [up_ne (by omega)]
          exact (hQ.2.2 a h9).2 j hj
      · cases h
    · cases h
  | lastore =>
    simp only [pst] at h
    split at h
    · rename_i x i a r
      split at h
      · rename_i hc
        cases h
        have h9 : 9 ≤ (a : Nat) := hc.2.1.1
        have h7 : (a : Nat) ≠ 7 := fun e => by rw [e] at h9; exact absurd h9 (by decide)
        refine ⟨?_, hQ, Nat.le_refl _, fun _ _ => rfl⟩
        show (if ((sub7 s f μ).1 a).1 = 21 ∧ (9 ≤ a ∧ a < μ.2.2.2.1) ∧ ¬ (i < 0 ∨ ((sub7 s f μ).1 a).2.1 ≤ i.toNatClampNeg) then pnx _ _ _ _ else none) = _
        rw [s7_1 h7, if_pos hc]
        rfl
      · cases h
    · cases h
  | aastore =>
    simp only [pst] at h
    split at h
    · rename_i q0 i a r
      split at h
      · rename_i hc
        cases h
        have h9 : 9 ≤ (a : Nat) := hc.2.1.1
        have h9q : 9 ≤ (q0 : Nat) := hc.2.1.2.2.1
        have h7 : (a : Nat) ≠ 7 := fun e => by rw [e] at h9; exact absurd h9 (by decide)
        have h7q : (q0 : Nat) ≠ 7 := fun e => by rw [e] at h9q; exact absurd h9q (by decide)
        refine ⟨?_, Q7_S hQ h9, HI_S hc.2.1.2.1⟩
        show (if (((sub7 s f μ).1 a).1 = 23 ∧ ((sub7 s f μ).1 q0).1 = 5 ∨ ((sub7 s f μ).1 a).1 = 24 ∧ ((sub7 s f μ).1 q0).1 = 9) ∧ (9 ≤ a ∧ a < μ.2.2.2.1 ∧ 9 ≤ q0 ∧ q0 < μ.2.2.2.1) ∧ ¬ (i < 0 ∨ ((sub7 s f μ).1 a).2.1 ≤ i.toNatClampNeg) ∧ i.toNatClampNeg < ((sub7 s f μ).1 a).2.2.length then pnx _ _ _ (upR (sub7 s f μ).1 a (((sub7 s f μ).1 a).1, ((sub7 s f μ).1 a).2.1, ((sub7 s f μ).1 a).2.2.set i.toNatClampNeg (.ref q0)), (sub7 s f μ).2) else none) = _
        rw [s7_1 h7, s7_1 h7q, if_pos hc, ← s7_upS h7]
        rfl
      · cases h
    · cases h
  | new ci =>
    simp only [pst] at h
    split at h
    · rename_i hc
      cases h
      obtain ⟨a1, a2, a3⟩ := pal_7 (s := s) (f := f) (s0 := (ci, (fdef.getD ci []).length, fdef.getD ci [])) hQ (Nat.le_refl _)
      refine ⟨?_, a2, a3⟩
      show (if ci < 13 ∧ μ.2.2.2.2 = 0 ∧ μ.2.2.2.1 + 1 ≤ capT then pnx _ _ _ (pal (sub7 s f μ) (ci, (fdef.getD ci []).length, fdef.getD ci [])) else none) = _
      rw [if_pos hc, a1]
      rfl
    · cases h
  | newarray tt =>
    simp only [pst] at h
    split at h
    · rename_i k r
      split at h
      · rename_i hc
        cases h
        obtain ⟨a1, a2, a3⟩ := pal_7 (s := s) (f := f) (s0 := (if tt = .int then 20 else 21, k.toNatClampNeg, [])) hQ (Nat.zero_le _)
        refine ⟨?_, a2, a3⟩
        show (if (tt = .int ∨ tt = .long) ∧ μ.2.2.2.2 = 0 ∧ μ.2.2.2.1 + 1 ≤ capT ∧ ¬ k < 0 ∧ k.toNatClampNeg ≤ 1500 then pnx _ _ _ (pal (sub7 s f μ) (if tt = .int then 20 else 21, k.toNatClampNeg, [])) else none) = _
        rw [if_pos hc, a1]
        rfl
      · cases h
    · cases h
  | anewarray j =>
    simp only [pst] at h
    split at h
    · rename_i k r
      split at h
      · rename_i hc
        cases h
        obtain ⟨a1, a2, a3⟩ := pal_7 (s := s) (f := f) (s0 := (j, k.toNatClampNeg, List.replicate k.toNatClampNeg .null)) hQ (by simp)
        refine ⟨?_, a2, a3⟩
        show (if (j = 23 ∨ j = 24) ∧ μ.2.2.2.2 = 0 ∧ μ.2.2.2.1 + 1 ≤ capT ∧ ¬ k < 0 ∧ k.toNatClampNeg ≤ 1500 then pnx _ _ _ (pal (sub7 s f μ) (j, k.toNatClampNeg, List.replicate k.toNatClampNeg .null)) else none) = _
        rw [if_pos hc, a1]
        rfl
      · cases h
    · cases h
  | multianewarray k j =>
    by_cases hk : k = 22 ∧ j = 2
    · obtain ⟨rfl, rfl⟩ := hk
      simp only [pst] at h
      split at h
      · rename_i k1 n1 r
        split at h
        · rename_i hc
          cases h
          obtain ⟨a1, a2, a3⟩ := pal_7 (s := s) (f := f) (s0 := (22, n1.toNatClampNeg, (List.range n1.toNatClampNeg).map (fun j => .ref (μ.2.2.2.1 + 1 + j)))) hQ (by simp)
          obtain ⟨b1, b2, b3⟩ := palN_7 (s := s) (f := f) (s0 := (20, k1.toNatClampNeg, [])) (Nat.zero_le _) n1.toNatClampNeg _ a2
          refine ⟨?_, b2, HI_tr a3 b3⟩
          show (if μ.2.2.2.2 = 0 ∧ μ.2.2.2.1 + (1 + n1.toNatClampNeg) ≤ capT ∧ ¬ n1 < 0 ∧ ¬ k1 < 0 ∧ n1.toNatClampNeg ≤ 1500 ∧ k1.toNatClampNeg ≤ 1499 then pnx _ _ _ (palN (20, k1.toNatClampNeg, []) n1.toNatClampNeg (pal (sub7 s f μ) (22, n1.toNatClampNeg, (List.range n1.toNatClampNeg).map (fun j => .ref (μ.2.2.2.1 + 1 + j))))) else none) = _
          rw [if_pos hc, a1, b1]
          rfl
        · cases h
      · cases h
    · exfalso
      unfold pst at h
      split at h <;> first | (cases h; done) | (rename_i hq; cases hq; done) | (rename_i hq; cases hq; exact hk ⟨rfl, rfl⟩)
  | monitorexit =>
    simp only [pst] at h
    split at h
    · split at h
      · rename_i hc
        cases h
        refine ⟨?_, hQ, hr⟩
        simp only [pst]
        rw [if_pos hc]
        rfl
      · cases h
    · cases h
  | monitorenter =>
    simp only [pst] at h
    split at h
    · rename_i k dp a sp b r
      split at h
      · rename_i hc
        cases h
        have h9 : 9 ≤ (a : Nat) := hc.2.2.1.1
        have h7 : (a : Nat) ≠ 7 := fun e => by rw [e] at h9; exact absurd h9 (by decide)
        have h7b : (b : Nat) ≠ 7 := kd7 hQ hc.2.1 (by decide)
        have hlen : dp.toNatClampNeg + k.toNatClampNeg ≤ (μ.1 a).2.1 := hc.2.2.2.2.2.2.2.2.2.1
        refine ⟨?_, Q7_I hQ h9 (fun j hj => ?_), Nat.le_refl _, fun _ _ => rfl⟩
        · show (if ((sub7 s f μ).1 a).1 = 20 ∧ ((sub7 s f μ).1 b).1 = 20 ∧ (9 ≤ a ∧ a < μ.2.2.2.1) ∧ (9 ≤ b ∨ b = 6) ∧ b < μ.2.2.2.1 ∧ ¬ sp < 0 ∧ ¬ dp < 0 ∧ ¬ k < 0 ∧ sp.toNatClampNeg + k.toNatClampNeg ≤ ((sub7 s f μ).1 b).2.1 ∧ dp.toNatClampNeg + k.toNatClampNeg ≤ ((sub7 s f μ).1 a).2.1 ∧ r.length ≤ 16 then pnx _ _ _ ((sub7 s f μ).1, upR (sub7 s f μ).2.1 a (va_cpy ((sub7 s f μ).2.1 b) ((sub7 s f μ).2.1 a) sp.toNatClampNeg dp.toNatClampNeg k.toNatClampNeg), μ.2.2) else none) = _
          rw [s7_1 h7, s7_1 h7b, if_pos hc, s7_I h7, s7_I h7b, ← s7_upI h7]
          rfl
        · rw [cpy_out (Or.inr (by omega))]
          exact (hQ.2.2 a h9).2 j hj
      · cases h
    · cases h
  | _ => first | (cases h; done) | (simp [pst] at h; done)
theorem pfin_7 {M : Nat} {i : Instr} {st : List Value} : pfin M i st (sub7 s f μ) = (pfin M i st μ).map (fun r => (r.1, sub7 s f r.2)) := by
  unfold pfin
  split
  · split <;> rfl
  · split <;> rfl
  · split <;> rfl
  · rename_i k
    show (if μ.2.2.2.2 + 1 ≤ capX ∧ st.length ≤ 16 then _ else none) = Option.map _ (if μ.2.2.2.2 + 1 ≤ capX ∧ st.length ≤ 16 then _ else none)
    split <;> rfl
  · rfl
theorem pfin_Q {M : Nat} {i : Instr} {st : List Value} {r : POut × PM} (h : pfin M i st μ = some r) (hQ : Q7 μ) : Q7 r.2 ∧ HI μ r.2 := by
  unfold pfin at h
  split at h
  · split at h
    · cases h; exact ⟨hQ, HI_refl⟩
    · cases h
  · split at h
    · cases h; exact ⟨hQ, HI_refl⟩
    · cases h
  · split at h
    · cases h; exact ⟨hQ, HI_refl⟩
    · cases h
  · split at h
    · cases h; exact ⟨hQ, Nat.le_refl _, fun _ _ => rfl⟩
    · cases h
  · cases h
theorem own99 : (List.range 363).all (fun M => mOwn M != 99) = true := by decide +kernel
theorem okR_7 {M : Nat} {v : Option Value} (hM : Nat.blt M 362 = true) (hQ : Q7 μ) (h : okRecv μ M v = true) : okRecv (sub7 s f μ) M v = true := by
  unfold okRecv at h ⊢
  split at h
  · rename_i c
    rw [Bool.and_eq_true, beq_iff_eq] at h
    have h7 : c ≠ 7 := fun e => by
      subst e
      rw [hQ.1] at h
      have hlt : M < 362 := by simpa using hM
      have := List.all_eq_true.mp own99 M (List.mem_range.mpr (by omega))
      rw [bne_iff_ne] at this
      exact this h.1.symm
    show (((sub7 s f μ).1 c).1 == mOwn M && Nat.blt c μ.2.2.2.1) = true
    rw [s7_1 h7, Bool.and_eq_true, beq_iff_eq]
    exact h
  · cases h
theorem pcl_7 {i : Instr} {st : List Value} {y : Nat × List Value × List Value} (hQ : Q7 μ) (h : pcl i st μ = some y) : pcl i st (sub7 s f μ) = some y := by
  unfold pcl at h ⊢
  split at h
  · exact h
  · split at h
    · rename_i M hc
      rw [if_pos ⟨hc.1, hc.2.1, hc.2.2.1, hc.2.2.2.1, hc.2.2.2.2.1, okR_7 hc.2.2.2.1 hQ hc.2.2.2.2.2⟩]
      exact h
    · cases h
  · split at h
    · rename_i M hc
      rw [if_pos ⟨hc.1, hc.2.1, hc.2.2.1, hc.2.2.2.1, hc.2.2.2.2.1, okR_7 hc.2.2.2.1 hQ hc.2.2.2.2.2⟩]
      exact h
    · cases h
  · cases h
theorem prun_7 : ∀ (n d M pc : Nat) (ls st : List Value) (μ : PM) (r : POut × PM), prun n d M pc ls st μ = some r → Q7 μ → prun n d M pc ls st (sub7 s f μ) = some (r.1, sub7 s f r.2) ∧ Q7 r.2 ∧ HI μ r.2 := by
  intro n
  induction n with
  | zero => intro d M pc ls st μ r h; simp [prun] at h
  | succ n ih =>
    intro d M pc ls st μ r h hQ
    rw [prun] at h ⊢
    cases hf : fetch M pc with
    | none => rw [hf] at h; cases h
    | some x =>
      obtain ⟨len, idx, i⟩ := x
      rw [hf] at h
      dsimp only at h ⊢
      cases hc : pcl i st μ with
      | some y =>
        obtain ⟨M', as, rest⟩ := y
        rw [hc] at h
        rw [pcl_7 hQ hc]
        dsimp only at h ⊢
        cases d with
        | zero => cases h
        | succ d' =>
          dsimp only at h ⊢
          cases hr : prun n d' M' 0 (entL M' as) [] μ with
          | none => rw [hr] at h; cases h
          | some q =>
            rw [hr] at h
            obtain ⟨o, μ'⟩ := q
            obtain ⟨h1, h2, h3⟩ := ih _ _ _ _ _ _ _ hr hQ
            rw [h1]
            cases o with
            | inl v =>
              obtain ⟨g1, g2, g3⟩ := ih _ _ _ _ _ _ _ h h2
              exact ⟨g1, g2, HI_tr h3 g3⟩
            | inr k =>
              dsimp only at h ⊢
              cases hh : hnd M pc k with
              | some v => rw [hh] at h; cases h; exact ⟨rfl, h2, h3⟩
              | none =>
                rw [hh] at h
                dsimp only at h ⊢
                split at h
                · rename_i hb; cases h; exact ⟨if_pos hb, h2, h3⟩
                · cases h
      | none =>
        rw [hc] at h
        dsimp only at h
        have hcl : isCl i = false := by
          cases hi : isCl i with
          | false => rfl
          | true =>
            exfalso
            cases i <;> first | (cases hi; done) | (simp [pfin, pst] at h; done)
        rw [pcl_no hcl]
        dsimp only
        rw [pfin_7]
        cases hp : pfin M i st μ with
        | some q =>
          rw [hp] at h
          cases h
          obtain ⟨g1, g2⟩ := pfin_Q hp hQ
          exact ⟨rfl, g1, g2⟩
        | none =>
          rw [hp] at h
          dsimp only [Option.map] at h ⊢
          cases hs : pst i pc len ls st μ with
          | none => rw [hs] at h; cases h
          | some q =>
            obtain ⟨pc', ls', st', μ'⟩ := q
            rw [hs] at h
            obtain ⟨g1, g2, g3⟩ := pst_7 (s := s) (f := f) hs hQ
            rw [g1]
            obtain ⟨k1, k2, k3⟩ := ih _ _ _ _ _ _ _ h g2
            exact ⟨k1, k2, HI_tr g3 k3⟩
end Sv

