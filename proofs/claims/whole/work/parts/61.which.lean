/-! WHICH CLOCKS IT WAS; whom to ask -/
abbrev W3 : Type := Int32 × Int32 × Int32
def wtF (g : Nat → Bool) (k : Nat) (q : W3) : W3 := if g k = true then (q.1 + 1, if q.1 = 0 then nt k else q.2.1, q.2.2 &&& nt k) else q
def wtI (g : Nat → Bool) (k : Nat) (q : W3) : Prop := (q = (0, -1, -1) ∧ ∀ e, e < k → g e = false) ∨ ∃ c m y, 1 ≤ c ∧ c ≤ k ∧ q.1 = nt c ∧ q.2.1 = nt m ∧ m < k ∧ g m = true ∧ (∀ e, e < m → g e = false) ∧ q.2.2 = nt y ∧ y < 64 ∧ nt y &&& nt m = nt y
theorem an_t : ∀ a, a < 64 → ∀ b, b < 64 → (nt a &&& nt b).toNatClampNeg < 64 ∧ nt a &&& nt b = nt (nt a &&& nt b).toNatClampNeg := by decide +kernel
theorem and_rc (a b c : Int32) : a &&& b &&& c = a &&& c &&& b := by rw [Int32.and_assoc, Int32.and_comm b c, ← Int32.and_assoc]
theorem m1_and (a : Int32) : (-1 : Int32) &&& a = a := Int32.neg_one_and
theorem wt_I (g : Nat → Bool) : ∀ k, k ≤ 64 → wtI g k (foldN (wtF g) k (0, -1, -1)) := by
  intro k
  induction k with
  | zero => intro _; exact Or.inl ⟨rfl, fun e he => absurd he (Nat.not_lt_zero e)⟩
  | succ k ih =>
    intro hk
    have ih := ih (by omega)
    show wtI g (k + 1) (wtF g k (foldN (wtF g) k (0, -1, -1)))
    generalize foldN (wtF g) k (0, -1, -1) = q at ih
    unfold wtF
    by_cases hg : g k = true
    · rw [if_pos hg]
      rcases ih with ⟨a1, a2⟩ | ⟨c, m, y, a1, a2, a3, a4, a5, a6, a7, a8, a9, a10⟩
      · subst a1
        refine Or.inr ⟨1, k, k, Nat.le_refl 1, by omega, rfl, (show (if (0 : Int32) = 0 then nt k else -1) = nt k from if_pos rfl), by omega, hg, a2, m1_and _, by omega, Int32.and_self⟩
      · have hne : ¬ (q.1 = 0) := by rw [a3, show (0 : Int32) = nt 0 from rfl, nt_inj (by omega) (by decide)]; omega
        obtain ⟨b1, b2⟩ := an_t y a9 k (by omega)
        refine Or.inr ⟨c + 1, m, (nt y &&& nt k).toNatClampNeg, by omega, by omega, by show q.1 + 1 = _; rw [a3, nt_succ], by show (if q.1 = 0 then nt k else q.2.1) = _; rw [if_neg hne]; exact a4, by omega, a6, a7, by show q.2.2 &&& nt k = _; rw [a8]; exact b2, b1, ?_⟩
        rw [← b2, and_rc, a10]
    · rw [if_neg hg]
      rcases ih with ⟨a1, a2⟩ | ⟨c, m, y, a1, a2, a3, a4, a5, a6, a7, a8, a9, a10⟩
      · refine Or.inl ⟨a1, fun e he => ?_⟩
        by_cases hek : e = k
        · rw [hek]; simpa using hg
        · exact a2 e (by omega)
      · exact Or.inr ⟨c, m, y, a1, by omega, a3, a4, by omega, a6, a7, a8, a9, a10⟩
def wtV (g : Nat → Bool) : W3 := foldN (wtF g) 64 (0, -1, -1)
def whV (g : Nat → Bool) (w : Int32) : Int32 := if w = 0 then (wtV g).1 else if w = 1 then (wtV g).2.1 else if (wtV g).1 = 0 then 0 else (wtV g).2.2
def lsF (g : Nat → Bool) (k : Nat) (_ : Unit) : Unit ⊕ Int32 := if g k = true then .inr (nt k) else .inl ()
def hmF (g : Nat → Bool) (k : Nat) (t : Int32) : Int32 := t + (if g k = true then 1 else 0)
theorem hm_V (g : Nat → Bool) : foldN (hmF g) 64 0 = (wtV g).1 := by
  refine (foldN_map (π := fun q : W3 => q.1) (g := wtF g) (f := hmF g) (fun k q => ?_) (0, -1, -1) 64).symm
  unfold wtF hmF
  by_cases h : g k = true
  · rw [if_pos h, if_pos h]
  · rw [if_neg h, if_neg h, Int32.add_zero]
theorem ls_none {g : Nat → Bool} : ∀ m k, (∀ e, k ≤ e → e < k + m → g e = false) → foldE (lsF g) m k () = .inl ()
  | 0, _, _ => rfl
  | m + 1, k, h => by
    unfold foldE
    have h0 : lsF g k () = .inl () := by unfold lsF; rw [h k (Nat.le_refl k) (by omega)]; rfl
    rw [h0]
    exact ls_none m (k + 1) (fun e h1 h2 => h e (by omega) (by omega))
theorem ls_some {g : Nat → Bool} {r : Nat} (hr : g r = true) : ∀ m k, k ≤ r → r < k + m → (∀ e, k ≤ e → e < r → g e = false) → foldE (lsF g) m k () = .inr (nt r)
  | 0, k, h1, h2, _ => by omega
  | m + 1, k, h1, h2, h => by
    unfold foldE
    by_cases hk : k = r
    · subst hk
      have h0 : lsF g k () = .inr (nt k) := by unfold lsF; rw [hr]; rfl
      rw [h0]
    · have h0 : lsF g k () = .inl () := by unfold lsF; rw [h k (Nat.le_refl k) (by omega)]; rfl
      rw [h0]
      exact ls_some hr m (k + 1) (by omega) (by omega) (fun e h3 h4 => h e (by omega) h4)
theorem ls_V (g : Nat → Bool) : unV (foldE (lsF g) 64 0 ()) = (wtV g).2.1 := by
  rcases wt_I g 64 (Nat.le_refl _) with ⟨a1, a2⟩ | ⟨c, m, y, a1, a2, a3, a4, a5, a6, a7, a8, a9, a10⟩
  · rw [ls_none 64 0 (fun e _ h => a2 e (by omega))]
    unfold wtV
    rw [a1]
    rfl
  · rw [ls_some a6 64 0 (Nat.zero_le _) (by omega) (fun e _ h => a7 e h)]
    exact a4.symm
def iaF (g : Nat → Bool) (k : Nat) (t : Int32) : Int32 := t &&& (if g k = true then nt k else t)
theorem ia_fold (g : Nat → Bool) (a : Int32) : ∀ k, foldN (iaF g) k a = a &&& (foldN (wtF g) k (0, -1, -1)).2.2
  | 0 => by show a = a &&& -1; rw [Int32.and_neg_one]
  | k + 1 => by
    have ih := ia_fold g a k
    show iaF g k (foldN (iaF g) k a) = a &&& (wtF g k (foldN (wtF g) k (0, -1, -1))).2.2
    rw [ih]
    unfold iaF wtF
    by_cases h : g k = true
    · rw [if_pos h, if_pos h]
      exact Int32.and_assoc _ _ _
    · rw [if_neg h, if_neg h, Int32.and_self]
theorem ia_V (g : Nat → Bool) : mxi 0 (foldN (iaF g) 64 (wtV g).2.1) = if (wtV g).1 = 0 then 0 else (wtV g).2.2 := by
  rw [ia_fold]
  show mxi 0 ((wtV g).2.1 &&& (wtV g).2.2) = _
  have h := wt_I g 64 (Nat.le_refl _)
  rw [show foldN (wtF g) 64 (0, -1, -1) = wtV g from rfl] at h
  rcases h with ⟨a1, a2⟩ | ⟨c, m, y, a1, a2, a3, a4, a5, a6, a7, a8, a9, a10⟩
  · rw [a1]; decide
  · have hne : ¬ ((wtV g).1 = 0) := by rw [a3, show (0 : Int32) = nt 0 from rfl, nt_inj (by omega) (by decide)]; omega
    rw [if_neg hne, a4, a8, Int32.and_comm, a10]
    unfold mxi
    by_cases h0 : 0 < nt y
    · rw [if_pos h0]
    · rw [if_neg h0]
      exact Int32.le_antisymm (nt_ge (by omega)) (Int32.not_lt.mp h0)
/-- the reference's own way -/
def wrF (g : Nat → Bool) (k : Nat) (q : W3) : W3 := wtF g k q
theorem wr_fold (g : Nat → Bool) (a : Int32) : ∀ k, foldN (wtF g) k (0, -1, a) = ((foldN (wtF g) k (0, -1, -1)).1, (foldN (wtF g) k (0, -1, -1)).2.1, a &&& (foldN (wtF g) k (0, -1, -1)).2.2)
  | 0 => by show (0, -1, a) = ((0 : Int32), (-1 : Int32), a &&& -1); rw [Int32.and_neg_one]
  | k + 1 => by
    have ih := wr_fold g a k
    show wtF g k (foldN (wtF g) k (0, -1, a)) = _
    rw [ih]
    show _ = ((wtF g k (foldN (wtF g) k (0, -1, -1))).1, (wtF g k (foldN (wtF g) k (0, -1, -1))).2.1, a &&& (wtF g k (foldN (wtF g) k (0, -1, -1))).2.2)
    generalize foldN (wtF g) k (0, -1, -1) = Q
    unfold wtF
    by_cases h : g k = true
    · simp only [if_pos h, Int32.and_assoc]
    · simp only [if_neg h]
theorem wt_cut {g : Nat → Bool} {N : Nat} (hN : N ≤ 64) (hg : ∀ e, e < 64 → g e = true → e < N) : foldN (wtF g) N (0, -1, -1) = wtV g := by
  unfold wtV
  refine (foldN_cut 64 hN (fun k h1 h2 b => ?_)).symm
  unfold wtF
  rw [if_neg (fun q => by have := hg k h2 q; omega)]
theorem ec_t : ∀ C, C < 7 → ∀ e, e < 64 → e < 2 ^ C → ((1 : Int32) <<< (nt C &&& 31) - 1) &&& nt e = nt e := by decide +kernel
theorem wr_all {g : Nat → Bool} {C : Nat} (hC : C ≤ 6) (hg : ∀ e, e < 64 → g e = true → e < 2 ^ C) (h0 : ¬ (wtV g).1 = 0) : ((1 : Int32) <<< (nt C &&& 31) - 1) &&& (wtV g).2.2 = (wtV g).2.2 := by
  have h := wt_I g 64 (Nat.le_refl _)
  rw [show foldN (wtF g) 64 (0, -1, -1) = wtV g from rfl] at h
  rcases h with ⟨a1, a2⟩ | ⟨c, m, y, a1, a2, a3, a4, a5, a6, a7, a8, a9, a10⟩
  · exact absurd (by rw [a1]) h0
  · rw [a8, ← a10, Int32.and_comm (nt y), ← Int32.and_assoc, ec_t C (by omega) m a5 (hg m a5 a6)]
section Q10
variable {d n x c r j : Nat} {μ : PM} {Φ : POut → PM → Prop} {I J K : Nat → Nat → Int32} {L : Nat → Nat → Int64} {k s h v w a b z y lk wt : Int32} {p q : Scr} {f : Nat → Int32}
theorem c113 : wpc (d + 2) 113 [.ref (61 : Nat), .int lk, .int wt] (mk n J L x) Φ ↔ Φ (.inl (some (.int (wtV (fitW J lk wt)).1))) (mk n J L x) := by
  rw [← hm_V]
  show wp (d + 2) 113 0 [.ref (61 : Nat), .int lk, .int wt, noV, noV] [] (mk n J L x) Φ ↔ _
  simp (config := {decide := true}) only [r113_0, r113_1, r113_2, r113_3, if_true, if_false, Nat.reduceAdd, Int32.reduceToNatClampNeg, lo_i, lo_r, lo_n, kont_v, kont_n, List.length_nil, List.length_cons]
  refine loopN (P := fun k t => wp (d + 2) 113 5 [.ref (61 : Nat), .int lk, .int wt, .int t, .int (nt k)] [] (mk n J L x) Φ) (Q := fun t => Φ (.inl (some (.int t))) (mk n J L x)) (n := 64) ?_ ?_ 0
  · intro k t hk
    have e1 : ¬ ((64 : Int32) ≤ nt k) := nt_nle (m := 64) hk (by decide)
    unfold hmF
    rw [r113_5]
    by_cases h1 : J 62 k ≠ -1 ∧ J 62 k &&& lk = wt
    · have hf : fitW J lk wt k = true := decide_eq_true h1
      have e9 : (J 62 k ≠ -1 ∧ J 62 k &&& lk = wt) = True := eq_true h1
      rw [if_pos hf]
      simp (config := {decide := true}) only [r113_7, r113_9, r113_12, r113_13, r113_14, r113_16, r113_17, r113_18, r113_21, r113_24, r113_25, r113_28, r113_29, r113_30, r113_31, r113_34, r113_37, r113_38, if_true, if_false, Nat.reduceAdd, Int32.reduceToNatClampNeg, lo_i, lo_r, lo_n, kont_v, kont_n, List.length_nil, List.length_cons, and_self, and_true, true_and, and_false, false_and, not_true, not_false_eq_true, true_or, or_true, bi_eq0, e1, c111 hk, e9, nt_succ]
    · have hf : ¬ fitW J lk wt k = true := fun q => h1 (of_decide_eq_true q)
      have e9 : (J 62 k ≠ -1 ∧ J 62 k &&& lk = wt) = False := eq_false h1
      rw [if_neg hf]
      simp (config := {decide := true}) only [r113_7, r113_9, r113_12, r113_13, r113_14, r113_16, r113_17, r113_18, r113_21, r113_24, r113_25, r113_28, r113_29, r113_30, r113_31, r113_34, r113_37, r113_38, if_true, if_false, Nat.reduceAdd, Int32.reduceToNatClampNeg, lo_i, lo_r, lo_n, kont_v, kont_n, List.length_nil, List.length_cons, and_self, and_true, true_and, and_false, false_and, not_true, not_false_eq_true, true_or, or_true, bi_eq0, e1, c111 hk, e9, nt_succ]
  · intro t
    rw [r113_5]
    simp (config := {decide := true}) only [r113_7, r113_9, r113_12, r113_13, r113_14, r113_16, r113_17, r113_18, r113_21, r113_24, r113_25, r113_28, r113_29, r113_30, r113_31, r113_34, r113_37, r113_38, if_true, if_false, Nat.reduceAdd, Int32.reduceToNatClampNeg, lo_i, lo_r, lo_n, kont_v, kont_n, List.length_nil, List.length_cons]
theorem c114' (h : Φ (.inl (some (.int (wtV (fitW J lk wt)).2.1))) (mk n J L x)) : wpc (d + 2) 114 [.ref (61 : Nat), .int lk, .int wt] (mk n J L x) Φ := by
  rw [← ls_V] at h
  have hh : sumE (fun _ => Φ (.inl (some (.int (-1)))) (mk n J L x)) (fun r => Φ (.inl (some (.int r))) (mk n J L x)) (foldE (lsF (fitW J lk wt)) 64 0 ()) := by
    unfold unV at h
    revert h
    cases foldE (lsF (fitW J lk wt)) 64 0 () <;> exact id
  show wp (d + 2) 114 0 [.ref (61 : Nat), .int lk, .int wt, noV] [] (mk n J L x) Φ
  simp (config := {decide := true}) only [r114_0, r114_1, if_true, if_false, Nat.reduceAdd, Int32.reduceToNatClampNeg, lo_i, lo_r, lo_n, kont_v, kont_n, List.length_nil, List.length_cons]
  refine loopF (P := fun k _ => wp (d + 2) 114 2 [.ref (61 : Nat), .int lk, .int wt, .int (nt k)] [] (mk n J L x) Φ) (Q := fun _ => Φ (.inl (some (.int (-1)))) (mk n J L x)) (R := fun r => Φ (.inl (some (.int r))) (mk n J L x)) (f := lsF (fitW J lk wt)) (n := 64) ?_ ?_ 64 0 () rfl hh
  · intro k _ hk hn
    have e1 : ¬ ((64 : Int32) ≤ nt k) := nt_nle (m := 64) hk (by decide)
    unfold lsF at hn
    rw [r114_2]
    by_cases h1 : J 62 k ≠ -1 ∧ J 62 k &&& lk = wt
    · have hf : fitW J lk wt k = true := decide_eq_true h1
      have e9 : (J 62 k ≠ -1 ∧ J 62 k &&& lk = wt) = True := eq_true h1
      rw [if_pos hf] at hn
      simp (config := {decide := true}) only [r114_3, r114_5, r114_8, r114_9, r114_10, r114_11, r114_12, r114_15, r114_18, r114_19, r114_20, r114_23, r114_26, r114_27, if_true, if_false, Nat.reduceAdd, Int32.reduceToNatClampNeg, lo_i, lo_r, lo_n, kont_v, kont_n, List.length_nil, List.length_cons, and_self, and_true, true_and, and_false, false_and, not_true, not_false_eq_true, true_or, or_true, bi_eq0, e1, c111 hk, e9, nt_succ]
      exact hn
    · have hf : ¬ fitW J lk wt k = true := fun q => h1 (of_decide_eq_true q)
      have e9 : (J 62 k ≠ -1 ∧ J 62 k &&& lk = wt) = False := eq_false h1
      rw [if_neg hf] at hn
      simp (config := {decide := true}) only [r114_3, r114_5, r114_8, r114_9, r114_10, r114_11, r114_12, r114_15, r114_18, r114_19, r114_20, r114_23, r114_26, r114_27, if_true, if_false, Nat.reduceAdd, Int32.reduceToNatClampNeg, lo_i, lo_r, lo_n, kont_v, kont_n, List.length_nil, List.length_cons, and_self, and_true, true_and, and_false, false_and, not_true, not_false_eq_true, true_or, or_true, bi_eq0, e1, c111 hk, e9, nt_succ]
      exact hn
  · intro _ ht
    rw [r114_2]
    simp (config := {decide := true}) only [r114_3, r114_5, r114_8, r114_9, r114_10, r114_11, r114_12, r114_15, r114_18, r114_19, r114_20, r114_23, r114_26, r114_27, if_true, if_false, Nat.reduceAdd, Int32.reduceToNatClampNeg, lo_i, lo_r, lo_n, kont_v, kont_n, List.length_nil, List.length_cons]
    exact ht
theorem c114 : wpc (d + 2) 114 [.ref (61 : Nat), .int lk, .int wt] (mk n J L x) Φ ↔ Φ (.inl (some (.int (wtV (fitW J lk wt)).2.1))) (mk n J L x) := wpc_iff (fun _ h => c114' h) Φ
theorem c115 : wpc (d + 3) 115 [.ref (61 : Nat), .int lk, .int wt] (mk n J L x) Φ ↔ Φ (.inl (some (.int (if (wtV (fitW J lk wt)).1 = 0 then 0 else (wtV (fitW J lk wt)).2.2)))) (mk n J L x) := by
  rw [← ia_V]
  show wp (d + 3) 115 0 [.ref (61 : Nat), .int lk, .int wt, noV, noV] [] (mk n J L x) Φ ↔ _
  simp (config := {decide := true}) only [r115_0, r115_1, r115_2, r115_3, r115_6, r115_7, r115_8, if_true, if_false, Nat.reduceAdd, Int32.reduceToNatClampNeg, lo_i, lo_r, lo_n, kont_v, kont_n, List.length_nil, List.length_cons, c114]
  refine loopN (P := fun k t => wp (d + 3) 115 10 [.ref (61 : Nat), .int lk, .int wt, .int t, .int (nt k)] [] (mk n J L x) Φ) (Q := fun t => Φ (.inl (some (.int (mxi 0 t)))) (mk n J L x)) (n := 64) ?_ ?_ _
  · intro k t hk
    have e1 : ¬ ((64 : Int32) ≤ nt k) := nt_nle (m := 64) hk (by decide)
    unfold iaF
    rw [r115_10]
    by_cases h1 : J 62 k ≠ -1 ∧ J 62 k &&& lk = wt
    · have hf : fitW J lk wt k = true := decide_eq_true h1
      have e9 : (J 62 k ≠ -1 ∧ J 62 k &&& lk = wt) = True := eq_true h1
      rw [if_pos hf]
      simp (config := {decide := true}) only [r115_12, r115_14, r115_17, r115_18, r115_19, r115_21, r115_22, r115_23, r115_26, r115_29, r115_31, r115_34, r115_35, r115_36, r115_37, r115_40, r115_43, r115_44, r115_45, r115_48, if_true, if_false, Nat.reduceAdd, Int32.reduceToNatClampNeg, lo_i, lo_r, lo_n, kont_v, kont_n, List.length_nil, List.length_cons, and_self, and_true, true_and, and_false, false_and, not_true, not_false_eq_true, true_or, or_true, bi_eq0, e1, c111 hk, e9, nt_succ]
    · have hf : ¬ fitW J lk wt k = true := fun q => h1 (of_decide_eq_true q)
      have e9 : (J 62 k ≠ -1 ∧ J 62 k &&& lk = wt) = False := eq_false h1
      rw [if_neg hf]
      simp (config := {decide := true}) only [r115_12, r115_14, r115_17, r115_18, r115_19, r115_21, r115_22, r115_23, r115_26, r115_29, r115_31, r115_34, r115_35, r115_36, r115_37, r115_40, r115_43, r115_44, r115_45, r115_48, if_true, if_false, Nat.reduceAdd, Int32.reduceToNatClampNeg, lo_i, lo_r, lo_n, kont_v, kont_n, List.length_nil, List.length_cons, and_self, and_true, true_and, and_false, false_and, not_true, not_false_eq_true, true_or, or_true, bi_eq0, e1, c111 hk, e9, nt_succ]
  · intro t
    rw [r115_10]
    simp (config := {decide := true}) only [r115_12, r115_14, r115_17, r115_18, r115_19, r115_21, r115_22, r115_23, r115_26, r115_29, r115_31, r115_34, r115_35, r115_36, r115_37, r115_40, r115_43, r115_44, r115_45, r115_48, if_true, if_false, Nat.reduceAdd, Int32.reduceToNatClampNeg, lo_i, lo_r, lo_n, kont_v, kont_n, List.length_nil, List.length_cons, c316]
def gwh (I : Nat → Nat → Int32) (lk wt : Int32) (e : Nat) : Bool := decide (nt e &&& (wnd (I 41) ^^^ -1) = 0 ∧ wkI I (I 41) (nt e) &&& lk = wt)
theorem tr_gw (h : view J = view I) : gwh J = gwh I := by
  funext a b e
  unfold gwh
  rw [tr_wk h, t41 h]
theorem gw_fit (hI : Inv I) (hW : ∀ e, e < 64 → J 62 e = trW I (I 41) (hrT I (I 41)) (sI I) e) : ∀ e, e < 64 → fitW J lk wt e = gwh I lk wt e := fit_of (inv_s7 hI) hW (fun e _ => by unfold gwh; rw [decide_eq_true_eq, wkp_I])
theorem wt_cong {g g' : Nat → Bool} (h : ∀ e, e < 64 → g e = g' e) : wtV g = wtV g' := foldN_cong 64 (fun k b hk => by unfold wtF; rw [h k hk])
def aWhich (I : Nat → Nat → Int32) (w : Int32) : An := if 0 ≤ w ∧ w ≤ 2 then (.inl ((whV (gwh I (I 37 0) (I 37 1)) w : Int32))) else .inr (2, 1)
theorem t_aWhich {I J : Nat → Nat → Int32} {w : Int32} (h : view J = view I) : aWhich J w = aWhich I w := by
  unfold aWhich
  simp only [t37 h, tr_gw h]
theorem q151 (hI : Inv I) (hx : x + 1 ≤ 600) (h : resC n I L x Φ (aWhich I w)) : wpc (d + 12) 151 [.ref (9 : Nat), .int w] (mk n I L x) Φ := by
  show wp (d + 12) 151 0 [.ref (9 : Nat), .int w] [] (mk n I L x) Φ
  unfold aWhich at h
  have hC := hI.1.1
  by_cases g1 : 0 ≤ w ∧ w ≤ 2
  · rw [if_pos g1] at h
    simp (config := {decide := true}) only [r151_0, r151_1, r151_2, r151_3, r151_4, r151_7, r151_10, r151_11, r151_14, r151_15, r151_18, r151_19, if_true, if_false, Nat.reduceAdd, Int32.reduceToNatClampNeg, lo_i, lo_r, lo_n, kont_v, kont_n, List.length_nil, List.length_cons, and_self, and_true, true_and, and_false, false_and, not_true, not_false_eq_true, true_or, or_true, bi_eq0, c181 hx, c179 hx, c180 hx, c182, c183, kx, g1]
    rw [r151_22 (by decide)]
    refine c106 hI (fun J hJ hW => ?_)
    have e37 := t37 hJ.1
    have ew : ∀ lk wt, wtV (fitW J lk wt) = wtV (gwh I lk wt) := fun lk wt => wt_cong (gw_fit hI hW)
    simp (config := {decide := true}) only [r151_25, if_true, if_false, Nat.reduceAdd, Int32.reduceToNatClampNeg, lo_i, lo_r, lo_n, kont_v, kont_n, List.length_nil, List.length_cons]
    replace h := h J hJ
    unfold whV at h
    obtain ⟨k, hk, rfl⟩ := rgN (N := 2) (by decide) g1
    match k, hk with
    | 0, _ =>
      rw [r151_26 52 rfl]
      simp (config := {decide := true}) only [r151_52, r151_53, r151_56, r151_57, r151_60, r151_63, r151_64, r151_67, r151_70, r151_73, if_true, if_false, Nat.reduceAdd, Int32.reduceToNatClampNeg, lo_i, lo_r, lo_n, kont_v, kont_n, List.length_nil, List.length_cons, k37, e37, c113, ew]
      exact h
    | 1, _ =>
      rw [r151_26 74 rfl]
      simp (config := {decide := true}) only [r151_74, r151_75, r151_78, r151_79, r151_82, r151_85, r151_86, r151_89, r151_92, r151_95, if_true, if_false, Nat.reduceAdd, Int32.reduceToNatClampNeg, lo_i, lo_r, lo_n, kont_v, kont_n, List.length_nil, List.length_cons, k37, e37, c114, ew]
      exact h
    | 2, _ =>
      rw [r151_26 96 rfl]
      simp (config := {decide := true}) only [r151_96, r151_97, r151_100, r151_101, r151_104, r151_107, r151_108, r151_111, r151_114, r151_117, if_true, if_false, Nat.reduceAdd, Int32.reduceToNatClampNeg, lo_i, lo_r, lo_n, kont_v, kont_n, List.length_nil, List.length_cons, k37, e37, c115, ew]
      exact h
  · rw [if_neg g1] at h
    simp (config := {decide := true}) only [r151_0, r151_1, r151_2, r151_3, r151_4, r151_7, r151_10, r151_11, r151_14, r151_15, r151_18, r151_19, if_true, if_false, Nat.reduceAdd, Int32.reduceToNatClampNeg, lo_i, lo_r, lo_n, kont_v, kont_n, List.length_nil, List.length_cons, and_self, and_true, true_and, and_false, false_and, not_true, not_false_eq_true, true_or, or_true, bi_eq0, c181 hx, c179 hx, c180 hx, c182, c183, kx, g1]
    exact exC2 h
/-- the lines of the book, as sets -/
def bkT (s : Nat → Nat) (m : Nat) : Nat → Bool := fun j => (List.range m).any (fun k => s k == j)
def bkV (s : Nat → Nat) (b : Nat → Bool) (m : Nat) : Nat → Bool := fun j => (List.range m).any (fun k => s k == j && b k)
theorem bk_T {s : Nat → Nat} {m : Nat} (h7 : ∀ k, k < m → s k < 7) (hi : ∀ k j, k < m → j < m → s k = s j → k = j) : foldN (fun k v => v ||| bt (s k)) m 0 = wb (bkT s m) 7 := (book_wb h7 hi m (Nat.le_refl m)).1
theorem bt_wb : ∀ j, j < 7 → bt j = wb (fun k => k == j) 7 := by decide
theorem bk_V {s : Nat → Nat} {b : Nat → Bool} {m : Nat} (h7 : ∀ k, k < m → s k < 7) : ∀ i, i ≤ m → foldN (fun k v => v ||| (if b k then bt (s k) else 0)) i 0 = wb (bkV s b i) 7 := by
  intro i
  induction i with
  | zero => intro _; exact (by decide : (0 : Int32) = wb (fun _ => false) 7)
  | succ i ih =>
    intro hi
    show foldN (fun k v => v ||| (if b k then bt (s k) else 0)) i 0 ||| (if b i then bt (s i) else 0) = _
    rw [ih (by omega)]
    have e0 : (if b i then bt (s i) else 0) = wb (fun j => s i == j && b i) 7 := by
      cases hb : b i
      · exact (by decide : (0 : Int32) = wb (fun _ => false) 7).trans (wb_cong (fun j _ => by simp))
      · rw [if_pos rfl, bt_wb (s i) (h7 i (by omega))]
        refine wb_cong (fun j _ => ?_)
        rw [Bool.and_true, Bool.eq_iff_iff, beq_iff_eq, beq_iff_eq]
        exact eq_comm
    rw [e0, wb_or]
    refine wb_cong (fun j _ => ?_)
    unfold bkV
    rw [List.range_succ, List.any_append]
    simp only [List.any_cons, List.any_nil, Bool.or_false]
theorem bkT_at {s : Nat → Nat} {m j : Nat} : bkT s m j = true ↔ ∃ k, k < m ∧ s k = j := by
  unfold bkT
  rw [List.any_eq_true]
  simp only [List.mem_range, beq_iff_eq]
theorem bkV_at {s : Nat → Nat} {b : Nat → Bool} {m j : Nat} : bkV s b m j = true ↔ ∃ k, k < m ∧ s k = j ∧ b k = true := by
  unfold bkV
  rw [List.any_eq_true]
  simp only [List.mem_range, beq_iff_eq, Bool.and_eq_true]
/-- lines that hold -/
theorem bk_iff {s : Nat → Nat} {b : Nat → Bool} {m : Nat} {c : Nat → Bool} (h7 : ∀ k, k < m → s k < 7) (hi : ∀ k j, k < m → j < m → s k = s j → k = j) : wb c 7 &&& wb (bkT s m) 7 = wb (bkV s b m) 7 ↔ ∀ k, k < m → c (s k) = b k := by
  rw [wb_and7, wb_inj]
  constructor
  · intro h k hk
    have h1 := h (s k) (h7 k hk)
    have hT : bkT s m (s k) = true := bkT_at.mpr ⟨k, hk, rfl⟩
    rw [hT, Bool.and_true] at h1
    rw [h1, Bool.eq_iff_iff, bkV_at]
    constructor
    · rintro ⟨k', a1, a2, a3⟩
      rw [← hi k' k a1 hk a2]; exact a3
    · intro hb; exact ⟨k, hk, rfl, hb⟩
  · intro h j hj
    rw [Bool.eq_iff_iff, Bool.and_eq_true, bkT_at, bkV_at]
    constructor
    · rintro ⟨h1, k, h2, h3⟩
      exact ⟨k, h2, h3, by rw [← h k h2, h3]; exact h1⟩
    · rintro ⟨k, h2, h3, h4⟩
      exact ⟨by rw [← h3, h k h2]; exact h4, k, h2, h3⟩
theorem s435 : sh0 n 435 = (22, 7, (List.range 7).map (fun j => .ref (436 + j))) := by rw [sh0_not7 (by decide)]; decide +kernel
theorem sh436 {k : Nat} (h : k < 7) : sh0 n (436 + k) = (20, 2, []) := by
  rw [sh0_not7 (by omega)]
  have h2 : (List.range 7).all (fun k => decide (sh0 0 (436 + k) = (20, 2, []))) = true := by decide +kernel
  exact of_decide_eq_true (List.all_eq_true.mp h2 k (List.mem_range.mpr h))
/-- a set that fits the book, as the reference asks it -/
theorem m277 (hI : Inv I) {e : Nat} (h : ∀ p, Φ (.inl (some (.int (if gwh I (I 37 0) (I 37 1) e = true then 1 else 0)))) (mk n (scm I p) L x)) : wpc (d + 7) 277 [.ref (70 : Nat), .int (nt e)] (mk n (scm I q) L x) Φ := by
  have h7 := inv_s7 hI
  obtain ⟨m, s, b, b1, b2, b3, b4, b5, b6⟩ := hI.2.2.2.2.2.1
  have hs7 : ∀ k, k < m → s k < 7 := fun k hk => by have := (b3 k hk).1; omega
  have hIq : ∀ q, Inv (scm I q) := fun q => tr_Inv view_scm hI
  have u41 : ∀ q, scm I q 41 = I 41 := fun q => scm_ne (by decide) (by decide)
  have u70 : ∀ q, scm I q 70 = I 70 := fun q => scm_ne (by decide) (by decide)
  have m5 : ∀ (d : Nat) (Ψ : POut → PM → Prop) q, wpc (d + 1) 265 [.ref (70 : Nat), .int (nt e)] (mk n (scm I q) L x) Ψ ↔ Ψ (.inl (some (.int (bi (nt e &&& (wnd (I 41) ^^^ -1) = 0))))) (mk n (scm I q) L x) := fun d Ψ q => by rw [m265 (hIq q), u41]
  show wp (d + 7) 277 0 [.ref (70 : Nat), .int (nt e), noV, noV] [] (mk n (scm I q) L x) Φ
  by_cases hc : nt e &&& (wnd (I 41) ^^^ -1) = 0
  · have hg : gwh I (I 37 0) (I 37 1) e = true ↔ ∀ k, k < m → wkc I (I 41) (nt e) (s k) = b k := by
      unfold gwh
      rw [decide_eq_true_eq, wk_wb h7, b5, b6, bk_T hs7 b4, bk_V hs7 m (Nat.le_refl m), bk_iff hs7 b4]
      exact ⟨fun q => q.2, fun q => ⟨hc, q⟩⟩
    simp (config := {decide := true}) only [r277_0, r277_1, r277_2, r277_5, r277_8, r277_9, r277_10, r277_11, r277_12, r277_15, r277_16, r277_19, r277_20, r277_21, if_true, if_false, Nat.reduceAdd, Int32.reduceToNatClampNeg, lo_i, lo_r, lo_n, kont_v, kont_n, List.length_nil, List.length_cons, and_self, and_true, true_and, and_false, false_and, not_true, not_false_eq_true, true_or, or_true, bi_eq0, m5, hc, o242 hI]
    have key : ∀ i k, k + i = m → (∀ j, j < k → wkc I (I 41) (nt e) (s j) = b j) → ∀ q, wp (d + 7) 277 22 [.ref (70 : Nat), .int (nt e), .int (wkI I (I 41) (nt e)), .int (nt k)] [] (mk n (scm I q) L x) Φ := by
      intro i
      induction i with
      | zero =>
        intro k hk hj q
        have : k = m := by omega
        subst this
        have e6 : nt k ≤ nt k := Int32.le_refl _
        have h2 := h q
        rw [if_pos (hg.mpr hj)] at h2
        rw [r277_22]
        simp (config := {decide := true}) only [r277_23, r277_24, r277_27, r277_30, r277_31, r277_32, r277_35, r277_36, r277_37, r277_38, r277_39, r277_42, r277_43, r277_46, r277_47, r277_48, r277_49, r277_50, r277_51, r277_54, r277_55, r277_58, r277_59, r277_62, r277_63, r277_64, r277_67, r277_70, r277_71, if_true, if_false, Nat.reduceAdd, Int32.reduceToNatClampNeg, lo_i, lo_r, lo_n, kont_v, kont_n, List.length_nil, List.length_cons, u70, b2, e6, nb_1]
        exact h2
      | succ i ih =>
        intro k hk hj q
        have km : k < m := by omega
        have e1 : ¬ (nt m ≤ nt k) := nt_nle km (by omega)
        have e2 : (nt k).toNatClampNeg = k := nt_clamp (by omega)
        have e3 : (0 : Int32) ≤ nt k := nt_ge (by omega)
        have e4 : k < 7 := by omega
        have e5 : 436 + k < 560 := by omega
        have ul : scm I q (436 + k) = I (436 + k) := scm_ne (by omega) (by omega)
        obtain ⟨c1, c2, c3⟩ := b3 k km
        have hbit := wk_bit (I := I) (f := I 41) (clocks := nt e) h7 (hs7 k km)
        rw [r277_22]
        by_cases hq : wkc I (I 41) (nt e) (s k) = b k
        · have nx := ih (k + 1) (by omega) (fun j h1 => by
            by_cases hjk : j = k
            · rw [hjk]; exact hq
            · exact hj j (by omega)) q
          cases hb : b k
          · rw [hq, hb] at hbit
            rw [hb] at c3
            have hbit2 : wkI I (I 41) (nt e) >>> (nt (s k) &&& 31) &&& 1 = 0 := hbit
            have c4 : I (436 + k) 1 = 0 := c3
            simp (config := {decide := true}) only [r277_23, r277_24, r277_27, r277_30, r277_31, r277_32, r277_35, r277_36, r277_37, r277_38, r277_39, r277_42, r277_43, r277_46, r277_47, r277_48, r277_49, r277_50, r277_51, r277_54, r277_55, r277_58, r277_59, r277_62, r277_63, r277_64, r277_67, r277_70, r277_71, if_true, if_false, Nat.reduceAdd, Int32.reduceToNatClampNeg, lo_i, lo_r, lo_n, kont_v, kont_n, List.length_nil, List.length_cons, and_self, and_true, true_and, and_false, false_and, not_true, not_false_eq_true, true_or, or_true, bi_eq0, u70, b2, e1, e2, e3, e4, e5, s435, sh436 e4, ul, c2, c4, m197, hbit2, nt_succ, bi]
            exact nx
          · rw [hq, hb] at hbit
            rw [hb] at c3
            have hbit2 : wkI I (I 41) (nt e) >>> (nt (s k) &&& 31) &&& 1 = 1 := hbit
            have c4 : I (436 + k) 1 = 1 := c3
            simp (config := {decide := true}) only [r277_23, r277_24, r277_27, r277_30, r277_31, r277_32, r277_35, r277_36, r277_37, r277_38, r277_39, r277_42, r277_43, r277_46, r277_47, r277_48, r277_49, r277_50, r277_51, r277_54, r277_55, r277_58, r277_59, r277_62, r277_63, r277_64, r277_67, r277_70, r277_71, if_true, if_false, Nat.reduceAdd, Int32.reduceToNatClampNeg, lo_i, lo_r, lo_n, kont_v, kont_n, List.length_nil, List.length_cons, and_self, and_true, true_and, and_false, false_and, not_true, not_false_eq_true, true_or, or_true, bi_eq0, u70, b2, e1, e2, e3, e4, e5, s435, sh436 e4, ul, c2, c4, m197, hbit2, nt_succ, bi]
            exact nx
        · have h2 := h q
          rw [if_neg (fun z => hq (hg.mp z k km))] at h2
          cases hb : b k
          · have hw : wkc I (I 41) (nt e) (s k) = true := by
              cases hw : wkc I (I 41) (nt e) (s k)
              · exact absurd (hw.trans hb.symm) hq
              · rfl
            rw [hw] at hbit
            rw [hb] at c3
            have hbit2 : wkI I (I 41) (nt e) >>> (nt (s k) &&& 31) &&& 1 = 1 := hbit
            have c4 : I (436 + k) 1 = 0 := c3
            simp (config := {decide := true}) only [r277_23, r277_24, r277_27, r277_30, r277_31, r277_32, r277_35, r277_36, r277_37, r277_38, r277_39, r277_42, r277_43, r277_46, r277_47, r277_48, r277_49, r277_50, r277_51, r277_54, r277_55, r277_58, r277_59, r277_62, r277_63, r277_64, r277_67, r277_70, r277_71, if_true, if_false, Nat.reduceAdd, Int32.reduceToNatClampNeg, lo_i, lo_r, lo_n, kont_v, kont_n, List.length_nil, List.length_cons, and_self, and_true, true_and, and_false, false_and, not_true, not_false_eq_true, true_or, or_true, bi_eq0, u70, b2, e1, e2, e3, e4, e5, s435, sh436 e4, ul, c2, c4, m197, hbit2, nb_0, bi]
            exact h2
          · have hw : wkc I (I 41) (nt e) (s k) = false := by
              cases hw : wkc I (I 41) (nt e) (s k)
              · rfl
              · exact absurd (hw.trans hb.symm) hq
            rw [hw] at hbit
            rw [hb] at c3
            have hbit2 : wkI I (I 41) (nt e) >>> (nt (s k) &&& 31) &&& 1 = 0 := hbit
            have c4 : I (436 + k) 1 = 1 := c3
            simp (config := {decide := true}) only [r277_23, r277_24, r277_27, r277_30, r277_31, r277_32, r277_35, r277_36, r277_37, r277_38, r277_39, r277_42, r277_43, r277_46, r277_47, r277_48, r277_49, r277_50, r277_51, r277_54, r277_55, r277_58, r277_59, r277_62, r277_63, r277_64, r277_67, r277_70, r277_71, if_true, if_false, Nat.reduceAdd, Int32.reduceToNatClampNeg, lo_i, lo_r, lo_n, kont_v, kont_n, List.length_nil, List.length_cons, and_self, and_true, true_and, and_false, false_and, not_true, not_false_eq_true, true_or, or_true, bi_eq0, u70, b2, e1, e2, e3, e4, e5, s435, sh436 e4, ul, c2, c4, m197, hbit2, nb_0, bi]
            exact h2
    exact key m 0 (by omega) (fun j hj => absurd hj (Nat.not_lt_zero j)) _
  · have hg : ¬ gwh I (I 37 0) (I 37 1) e = true := fun q => hc (of_decide_eq_true q).1
    rw [if_neg hg] at h
    simp (config := {decide := true}) only [r277_0, r277_1, r277_2, r277_5, r277_8, r277_9, if_true, if_false, Nat.reduceAdd, Int32.reduceToNatClampNeg, lo_i, lo_r, lo_n, kont_v, kont_n, List.length_nil, List.length_cons, and_self, and_true, true_and, and_false, false_and, not_true, not_false_eq_true, true_or, or_true, bi_eq0, m5, hc, nb_0]
    exact h _
theorem i277 (hI : Inv I) {e : Nat} : (∀ p, Φ (.inl (some (.int (if gwh I (I 37 0) (I 37 1) e = true then 1 else 0)))) (mk n (scm I p) L x)) → wpc (d + 7) 277 [.ref (70 : Nat), .int (nt e)] (mk n (scm I q) L x) Φ := m277 hI
theorem gw_lt (hI : Inv I) : ∀ e, e < 64 → gwh I lk wt e = true → e < 2 ^ cI I := fun e he hg => cn_lt hI.2.1.1 (inv_c6 hI) he (of_decide_eq_true hg).1
theorem u278 (hI : Inv I) (h : resM n I L x Φ (aWhich I w)) : wpc (d + 12) 278 [.ref (70 : Nat), .int w] (mk n I L x) Φ := by
  show wp (d + 12) 278 0 [.ref (70 : Nat), .int w, noV, noV, noV, noV] [] (mk n I L x) Φ
  rw [r278_0, r278_1, r278_2]
  replace h := resM_z h
  rw [← t_aWhich v70] at h
  replace hI := tr_Inv v70 hI
  have hz := z70 (I := I)
  generalize wrI I 70 0 0 = I at h hI hz ⊢
  unfold aWhich at h
  have hM := hI.1
  by_cases g1 : 0 ≤ w ∧ w ≤ 2
  · rw [if_pos g1] at h
    have h6 := inv_c6 hI
    have hp : 2 ^ cI I ≤ 2 ^ 6 := Nat.pow_le_pow_right (by decide) h6
    have hq : 0 < 2 ^ cI I := Nat.pow_pos (by decide)
    have e0 : (1 : Int32) <<< (I 12 6 &&& 31) - 1 = nt (2 ^ cI I - 1) := by rw [inv_c hI]; exact pow7m _ (Nat.le_succ_of_le h6)
    have m6 : ∀ (d : Nat) (Ψ : POut → PM → Prop) q, wpc d 266 [.ref (70 : Nat)] (mk n (scm I q) L x) Ψ ↔ Ψ (.inl (some (.int (nt (2 ^ cI I - 1))))) (mk n (scm I q) L x) := fun d Ψ q => by
      have u12 : scm I q 12 = I 12 := scm_ne (by decide) (by decide)
      rw [m266 (tr_Inv view_scm hI), u12, e0]
    simp (config := {decide := true}) only [r278_5, r278_6, r278_7, r278_8, r278_9, r278_12, r278_15, r278_16, r278_19, r278_20, r278_21, r278_22, r278_25, r278_28, r278_29, r278_30, r278_31, r278_32, r278_33, r278_34, r278_35, r278_38, r278_40, r278_41, if_true, if_false, Nat.reduceAdd, Int32.reduceToNatClampNeg, lo_i, lo_r, lo_n, kont_v, kont_n, List.length_nil, List.length_cons, and_self, and_true, true_and, and_false, false_and, not_true, not_false_eq_true, true_or, or_true, bi_eq0, b10 hz, b11 hz, b21 hz, m194, m259, g1, m266 hI, e0]
    refine loopD (P := fun k (t : W3) => ∀ q, wp (d + 12) 278 43 [.ref (70 : Nat), .int w, .int t.1, .int t.2.1, .int t.2.2, .int (nt k)] [] (mk n (scm I q) L x) Φ) (Q := fun t => ∀ q, Φ (.inl (some (.int (if w = 0 then t.1 else if w = 1 then t.2.1 else if t.1 = 0 then 0 else t.2.2)))) (mk n (scm I q) L x)) (n := 2 ^ cI I) (f := wtF (gwh I (I 37 0) (I 37 1))) ?_ ?_ (0, -1, nt (2 ^ cI I - 1)) ?_ (I 451, I 452) |> fun hh => by rw [scm_self] at hh; exact hh
    · intro k t hk hn q
      have e1 : ¬ (nt (2 ^ cI I - 1) < nt k) := by rw [nt_lt (by omega) (by omega)]; omega
      rw [r278_43]
      simp (config := {decide := true}) only [r278_45, r278_46, r278_49, r278_52, r278_53, if_true, if_false, Nat.reduceAdd, Int32.reduceToNatClampNeg, lo_i, lo_r, lo_n, kont_v, kont_n, List.length_nil, List.length_cons, m6, e1]
      rw [r278_55 (by decide)]
      refine m277 hI (fun p => ?_)
      replace hn := hn p
      unfold wtF at hn
      cases h1 : gwh I (I 37 0) (I 37 1) k
      · rw [h1, if_neg (by decide)] at hn
        simp (config := {decide := true}) only [r278_58, r278_61, r278_64, r278_65, r278_68, r278_70, r278_73, r278_74, r278_75, r278_77, r278_79, r278_80, r278_82, r278_85, r278_88, if_true, if_false, Nat.reduceAdd, Int32.reduceToNatClampNeg, lo_i, lo_r, lo_n, kont_v, kont_n, List.length_nil, List.length_cons, Bool.false_eq_true, nt_succ]
        exact hn
      · rw [h1, if_pos rfl] at hn
        by_cases h2 : t.1 = 0
        · rw [if_pos h2] at hn
          simp (config := {decide := true}) only [r278_58, r278_61, r278_64, r278_65, r278_68, r278_70, r278_73, r278_74, r278_75, r278_77, r278_79, r278_80, r278_82, r278_85, r278_88, if_true, if_false, Nat.reduceAdd, Int32.reduceToNatClampNeg, lo_i, lo_r, lo_n, kont_v, kont_n, List.length_nil, List.length_cons, h2, nt_succ]
          rw [h2] at hn
          exact hn
        · rw [if_neg h2] at hn
          simp (config := {decide := true}) only [r278_58, r278_61, r278_64, r278_65, r278_68, r278_70, r278_73, r278_74, r278_75, r278_77, r278_79, r278_80, r278_82, r278_85, r278_88, if_true, if_false, Nat.reduceAdd, Int32.reduceToNatClampNeg, lo_i, lo_r, lo_n, kont_v, kont_n, List.length_nil, List.length_cons, h2, nt_succ]
          exact hn
    · intro t ht q
      have e1 : nt (2 ^ cI I - 1) < nt (2 ^ cI I) := by rw [nt_lt (by omega) (by omega)]; omega
      replace ht := ht q
      rw [r278_43]
      obtain ⟨k, hk, rfl⟩ := rgN (N := 2) (by decide) g1
      match k, hk with
      | 0, _ =>
        simp (config := {decide := true}) only [r278_45, r278_46, r278_49, r278_91, r278_92, r278_95, r278_96, r278_99, r278_100, r278_101, r278_104, r278_105, r278_108, r278_109, r278_112, r278_113, r278_116, r278_118, if_true, if_false, Nat.reduceAdd, Int32.reduceToNatClampNeg, lo_i, lo_r, lo_n, kont_v, kont_n, List.length_nil, List.length_cons, m6, e1]
        exact ht
      | 1, _ =>
        simp (config := {decide := true}) only [r278_45, r278_46, r278_49, r278_91, r278_92, r278_95, r278_96, r278_99, r278_100, r278_101, r278_104, r278_105, r278_108, r278_109, r278_112, r278_113, r278_116, r278_118, if_true, if_false, Nat.reduceAdd, Int32.reduceToNatClampNeg, lo_i, lo_r, lo_n, kont_v, kont_n, List.length_nil, List.length_cons, m6, e1]
        exact ht
      | 2, _ =>
        by_cases h2 : t.1 = 0
        · have ht2 : Φ (.inl (some (.int (if t.1 = 0 then 0 else t.2.2)))) (mk n (scm I q) L x) := ht
          rw [if_pos h2] at ht2
          simp (config := {decide := true}) only [r278_45, r278_46, r278_49, r278_91, r278_92, r278_95, r278_96, r278_99, r278_100, r278_101, r278_104, r278_105, r278_108, r278_109, r278_112, r278_113, r278_116, r278_118, if_true, if_false, Nat.reduceAdd, Int32.reduceToNatClampNeg, lo_i, lo_r, lo_n, kont_v, kont_n, List.length_nil, List.length_cons, m6, e1, h2]
          exact ht2
        · have ht2 : Φ (.inl (some (.int (if t.1 = 0 then 0 else t.2.2)))) (mk n (scm I q) L x) := ht
          rw [if_neg h2] at ht2
          simp (config := {decide := true}) only [r278_45, r278_46, r278_49, r278_91, r278_92, r278_95, r278_96, r278_99, r278_100, r278_101, r278_104, r278_105, r278_108, r278_109, r278_112, r278_113, r278_116, r278_118, if_true, if_false, Nat.reduceAdd, Int32.reduceToNatClampNeg, lo_i, lo_r, lo_n, kont_v, kont_n, List.length_nil, List.length_cons, m6, e1, h2]
          exact ht2
    · intro q
      rw [wr_fold, wt_cut hp (gw_lt hI)]
      dsimp only
      have h2 := okMs (p := q) h hz
      unfold whV at h2
      by_cases c0 : w = 0
      · rw [if_pos c0] at h2 ⊢; exact h2
      · rw [if_neg c0] at h2 ⊢
        by_cases c1 : w = 1
        · rw [if_pos c1] at h2 ⊢; exact h2
        · rw [if_neg c1] at h2 ⊢
          by_cases c2 : (wtV (gwh I (I 37 0) (I 37 1))).1 = 0
          · rw [if_pos c2] at h2 ⊢; exact h2
          · rw [if_neg c2] at h2 ⊢
            rw [← e0, inv_c hI, wr_all h6 (gw_lt hI) c2]
            exact h2
  · rw [if_neg g1] at h
    simp (config := {decide := true}) only [r278_5, r278_6, r278_7, r278_8, r278_9, r278_12, r278_15, r278_16, r278_19, r278_20, r278_21, r278_22, r278_25, r278_28, r278_29, r278_30, r278_31, r278_32, r278_33, r278_34, r278_35, r278_38, r278_40, r278_41, if_true, if_false, Nat.reduceAdd, Int32.reduceToNatClampNeg, lo_i, lo_r, lo_n, kont_v, kont_n, List.length_nil, List.length_cons, and_self, and_true, true_and, and_false, false_and, not_true, not_false_eq_true, true_or, or_true, bi_eq0, b10 hz, b11 hz, b21 hz, m194, m259, m257 hI, m258 hI, m266 hI, m274 hI, g1]
    exact exM h
end Q10
