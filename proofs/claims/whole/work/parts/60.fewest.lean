/-! THE FEWEST CLOCKS -/
def pcn (e : Nat) : Nat := e % 2 + e / 2 % 2 + e / 4 % 2 + e / 8 % 2 + e / 16 % 2 + e / 32 % 2
theorem pc_all : ∀ e, e < 64 → bcI (nt e) = nt (pcn e) ∧ one7 (nt e) = nt (pcn e) ∧ pcn e ≤ 6 := by decide +kernel
/-- the best of those in a set -/
def fwO (g : Nat → Bool) (S : Nat → Prop) (v : Int32) : Prop := (v = -1 ∧ ∀ e, S e → g e = false) ∨ ∃ m, m < 64 ∧ S m ∧ v = nt m ∧ g m = true ∧ ∀ e, S e → g e = true → pcn m < pcn e ∨ (pcn m = pcn e ∧ m ≤ e)
theorem fw_uni {g : Nat → Bool} {S S' : Nat → Prop} {v w : Int32} (h : ∀ e, g e = true → (S e ↔ S' e)) (h1 : fwO g S v) (h2 : fwO g S' w) : v = w := by
  rcases h1 with ⟨a1, a2⟩ | ⟨m, a0, a1, a2, a3, a4⟩
  · rcases h2 with ⟨b1, b2⟩ | ⟨k, b0, b1, b2, b3, b4⟩
    · rw [a1, b1]
    · have := a2 k ((h k b3).mpr b1)
      rw [b3] at this
      cases this
  · rcases h2 with ⟨b1, b2⟩ | ⟨k, b0, b1, b2, b3, b4⟩
    · have := b2 m ((h m a3).mp a1)
      rw [a3] at this
      cases this
    · have c1 := a4 k ((h k b3).mpr b1) b3
      have c2 := b4 m ((h m a3).mp a1) a3
      rw [a2, b2]
      congr 1
      omega
def fwF (g : Nat → Bool) (k : Nat) (best : Int32) : Int32 := if g k = true then (if best = -1 then nt k else if bcI best ≤ bcI (nt k) then best else nt k) else best
theorem fw_asc (g : Nat → Bool) : ∀ k, k ≤ 64 → fwO g (fun e => e < k) (foldN (fwF g) k (-1)) := by
  intro k
  induction k with
  | zero => intro _; exact Or.inl ⟨rfl, fun e he => absurd he (Nat.not_lt_zero e)⟩
  | succ k ih =>
    intro hk
    have ih := ih (by omega)
    show fwO g (fun e => e < k + 1) (fwF g k (foldN (fwF g) k (-1)))
    generalize foldN (fwF g) k (-1) = v at ih
    unfold fwF
    by_cases hg : g k = true
    · rw [if_pos hg]
      rcases ih with ⟨a1, a2⟩ | ⟨m, a0, a1, a2, a3, a4⟩
      · rw [if_pos a1]
        refine Or.inr ⟨k, by omega, by show k < k + 1; omega, rfl, hg, fun e he hge => ?_⟩
        have he : e < k + 1 := he
        by_cases hek : e = k
        · rw [hek]; omega
        · rw [a2 e (show e < k by omega)] at hge; cases hge
      · subst a2
        rw [if_neg (nt_m1 (by omega))]
        obtain ⟨p1, -, p2⟩ := pc_all m a0
        obtain ⟨q1, -, q2⟩ := pc_all k (by omega)
        have a1 : m < k := a1
        by_cases hle : bcI (nt m) ≤ bcI (nt k)
        · rw [if_pos hle]
          rw [p1, q1, nt_le (by omega) (by omega)] at hle
          refine Or.inr ⟨m, a0, by show m < k + 1; omega, rfl, a3, fun e he hge => ?_⟩
          have he : e < k + 1 := he
          by_cases hek : e = k
          · rw [hek]; omega
          · exact a4 e (show e < k by omega) hge
        · rw [if_neg hle]
          rw [p1, q1, nt_le (by omega) (by omega)] at hle
          refine Or.inr ⟨k, by omega, by show k < k + 1; omega, rfl, hg, fun e he hge => ?_⟩
          have he : e < k + 1 := he
          by_cases hek : e = k
          · rw [hek]; omega
          · have := a4 e (show e < k by omega) hge
            omega
    · rw [if_neg hg]
      rcases ih with ⟨a1, a2⟩ | ⟨m, a0, a1, a2, a3, a4⟩
      · refine Or.inl ⟨a1, fun e he => ?_⟩
        have he : e < k + 1 := he
        by_cases hek : e = k
        · rw [hek]; simpa using hg
        · exact a2 e (show e < k by omega)
      · have a1 : m < k := a1
        refine Or.inr ⟨m, a0, by show m < k + 1; omega, a2, a3, fun e he hge => ?_⟩
        have he : e < k + 1 := he
        by_cases hek : e = k
        · rw [hek] at hge; exact absurd hge hg
        · exact a4 e (show e < k by omega) hge
def fwG (g : Nat → Bool) (k : Nat) (best : Int32) : Int32 := if g k = true then (if best = -1 then nt k else if one7 best < one7 (nt k) then best else nt k) else best
def fwD (g : Nat → Bool) : Nat → Int32 → Int32
  | 0, v => v
  | k + 1, v => fwD g k (fwG g k v)
theorem fw_dsc {g : Nat → Bool} {N : Nat} (hN : N ≤ 64) : ∀ k v, k ≤ N → fwO g (fun e => k ≤ e ∧ e < N) v → fwO g (fun e => e < N) (fwD g k v) := by
  intro k
  induction k with
  | zero =>
    intro v _ h
    have e : (fun e => 0 ≤ e ∧ e < N) = (fun e => e < N) := by funext e; simp
    rw [e] at h
    exact h
  | succ k ih =>
    intro v hk h
    refine ih _ (by omega) ?_
    unfold fwG
    by_cases hg : g k = true
    · rw [if_pos hg]
      rcases h with ⟨a1, a2⟩ | ⟨m, a0, a1, a2, a3, a4⟩
      · rw [if_pos a1]
        refine Or.inr ⟨k, by omega, ⟨Nat.le_refl k, by omega⟩, rfl, hg, fun e he hge => ?_⟩
        by_cases hek : e = k
        · rw [hek]; omega
        · rw [a2 e ⟨by have := he.1; omega, he.2⟩] at hge; cases hge
      · subst a2
        rw [if_neg (nt_m1 (by omega))]
        obtain ⟨-, p1, p2⟩ := pc_all m a0
        obtain ⟨-, q1, q2⟩ := pc_all k (by omega)
        by_cases hle : one7 (nt m) < one7 (nt k)
        · rw [if_pos hle]
          rw [p1, q1, nt_lt (by omega) (by omega)] at hle
          refine Or.inr ⟨m, a0, ⟨by have := a1.1; omega, a1.2⟩, rfl, a3, fun e he hge => ?_⟩
          by_cases hek : e = k
          · rw [hek]; omega
          · exact a4 e ⟨by have := he.1; omega, he.2⟩ hge
        · rw [if_neg hle]
          rw [p1, q1, nt_lt (by omega) (by omega)] at hle
          refine Or.inr ⟨k, by omega, ⟨Nat.le_refl k, by omega⟩, rfl, hg, fun e he hge => ?_⟩
          by_cases hek : e = k
          · rw [hek]; omega
          · have := a4 e ⟨by have := he.1; omega, he.2⟩ hge
            have := he.1
            omega
    · rw [if_neg hg]
      rcases h with ⟨a1, a2⟩ | ⟨m, a0, a1, a2, a3, a4⟩
      · refine Or.inl ⟨a1, fun e he => ?_⟩
        by_cases hek : e = k
        · rw [hek]; simpa using hg
        · exact a2 e ⟨by have := he.1; omega, he.2⟩
      · refine Or.inr ⟨m, a0, ⟨by have := a1.1; omega, a1.2⟩, a2, a3, fun e he hge => ?_⟩
        by_cases hek : e = k
        · rw [hek] at hge; exact absurd hge hg
        · exact a4 e ⟨by have := he.1; omega, he.2⟩ hge
theorem fw_eq {g : Nat → Bool} {N : Nat} (hN : N ≤ 64) (hg : ∀ e, g e = true → e < N) : foldN (fwF g) 64 (-1) = fwD g N (-1) := by
  refine fw_uni (S := fun e => e < 64) (S' := fun e => e < N) (fun e he => ?_) (fw_asc g 64 (Nat.le_refl _)) (fw_dsc hN N (-1) (Nat.le_refl N) (Or.inl ⟨rfl, fun e he => absurd he.2 (by have := he.1; omega)⟩))
  have := hg e he
  constructor <;> intro _ <;> omega
/-- a set with a clock that is not there can't ring -/
theorem cn_t : ∀ p0 p1 p2 p3 p4 p5 : Bool, ∀ e, e < 64 → nt e &&& (wb (fun k => [p0, p1, p2, p3, p4, p5].getD k false) 6 ^^^ -1) = 0 → ∀ k, k < 6 → nt e >>> (nt k &&& 31) &&& 1 = 1 → [p0, p1, p2, p3, p4, p5].getD k false = true := by decide +kernel
theorem hi_e : ∀ C, C < 7 → ∀ e, e < 64 → e < 2 ^ C ∨ ∃ k, k < 6 ∧ C ≤ k ∧ nt e >>> (nt k &&& 31) &&& 1 = 1 := by decide +kernel
theorem cn_lt {I : Nat → Nat → Int32} {f : Nat → Int32} {e : Nat} (ho : RO I f) (h6 : cI I ≤ 6) (he : e < 64) (h : nt e &&& (wnd f ^^^ -1) = 0) : e < 2 ^ cI I := by
  rcases hi_e (cI I) (by omega) e he with h1 | ⟨k, h1, h2, h3⟩
  · exact h1
  · rw [wnd_wb, wb_l6] at h
    have := cn_t _ _ _ _ _ _ e he h k h1 h3
    have e6 : ∀ k, k < 6 → [(!decide (f 0 ≤ 0)), (!decide (f 1 ≤ 0)), (!decide (f 2 ≤ 0)), (!decide (f 3 ≤ 0)), (!decide (f 4 ≤ 0)), (!decide (f 5 ≤ 0))].getD k false = !decide (f k ≤ 0) := by
      intro k hk
      match k, hk with
      | 0, _ => rfl
      | 1, _ => rfl
      | 2, _ => rfl
      | 3, _ => rfl
      | 4, _ => rfl
      | 5, _ => rfl
    rw [e6 k h1, (ho.1 k h2 h1).1] at this
    cases this
section Q9
variable {d n x c r j : Nat} {μ : PM} {Φ : POut → PM → Prop} {I J K : Nat → Nat → Int32} {L : Nat → Nat → Int64} {k s h v w a b z y lk wt : Int32} {p q : Scr} {f : Nat → Int32}
def fitW (J : Nat → Nat → Int32) (lk wt : Int32) (e : Nat) : Bool := decide (J 62 e ≠ -1 ∧ J 62 e &&& lk = wt)
theorem fit_bi {e : Nat} : (bi (J 62 e ≠ -1 ∧ J 62 e &&& lk = wt) = 0) = ¬ fitW J lk wt e = true := by
  unfold fitW
  rw [bi_eq0, decide_eq_true_eq]
theorem c112 : wpc (d + 2) 112 [.ref (61 : Nat), .int lk, .int wt] (mk n J L x) Φ ↔ Φ (.inl (some (.int (foldN (fwF (fitW J lk wt)) 64 (-1))))) (mk n J L x) := by
  show wp (d + 2) 112 0 [.ref (61 : Nat), .int lk, .int wt, noV, noV] [] (mk n J L x) Φ ↔ _
  simp (config := {decide := true}) only [r112_0, r112_1, r112_2, r112_3, if_true, if_false, Nat.reduceAdd, Int32.reduceToNatClampNeg, lo_i, lo_r, lo_n, kont_v, kont_n, List.length_nil, List.length_cons]
  refine loopN (P := fun k t => wp (d + 2) 112 5 [.ref (61 : Nat), .int lk, .int wt, .int t, .int (nt k)] [] (mk n J L x) Φ) (Q := fun t => Φ (.inl (some (.int t))) (mk n J L x)) (n := 64) ?_ ?_ (-1)
  · intro k t hk
    have e1 : ¬ ((64 : Int32) ≤ nt k) := nt_nle (m := 64) hk (by decide)
    unfold fwF
    rw [r112_5]
    by_cases h1 : J 62 k ≠ -1 ∧ J 62 k &&& lk = wt
    · have hf : fitW J lk wt k = true := decide_eq_true h1
      have e9 : (J 62 k ≠ -1 ∧ J 62 k &&& lk = wt) = True := eq_true h1
      rw [if_pos hf]
      by_cases h2 : t = -1
      · simp (config := {decide := true}) only [r112_7, r112_9, r112_12, r112_13, r112_15, r112_16, r112_17, r112_20, r112_23, r112_24, r112_25, r112_28, r112_30, r112_33, r112_34, r112_37, r112_40, r112_42, r112_43, r112_46, r112_49, r112_50, if_true, if_false, Nat.reduceAdd, Int32.reduceToNatClampNeg, lo_i, lo_r, lo_n, kont_v, kont_n, List.length_nil, List.length_cons, and_self, and_true, true_and, and_false, false_and, not_true, not_false_eq_true, true_or, or_true, bi_eq0, e1, c111 hk, e9, h2, nt_succ]
      · by_cases h3 : bcI t ≤ bcI (nt k)
        · simp (config := {decide := true}) only [r112_7, r112_9, r112_12, r112_13, r112_15, r112_16, r112_17, r112_20, r112_23, r112_24, r112_25, r112_28, r112_30, r112_33, r112_34, r112_37, r112_40, r112_42, r112_43, r112_46, r112_49, r112_50, if_true, if_false, Nat.reduceAdd, Int32.reduceToNatClampNeg, lo_i, lo_r, lo_n, kont_v, kont_n, List.length_nil, List.length_cons, and_self, and_true, true_and, and_false, false_and, not_true, not_false_eq_true, true_or, or_true, bi_eq0, e1, c111 hk, e9, h2, h3, c315, nt_succ]
        · simp (config := {decide := true}) only [r112_7, r112_9, r112_12, r112_13, r112_15, r112_16, r112_17, r112_20, r112_23, r112_24, r112_25, r112_28, r112_30, r112_33, r112_34, r112_37, r112_40, r112_42, r112_43, r112_46, r112_49, r112_50, if_true, if_false, Nat.reduceAdd, Int32.reduceToNatClampNeg, lo_i, lo_r, lo_n, kont_v, kont_n, List.length_nil, List.length_cons, and_self, and_true, true_and, and_false, false_and, not_true, not_false_eq_true, true_or, or_true, bi_eq0, e1, c111 hk, e9, h2, h3, c315, nt_succ]
    · have hf : ¬ fitW J lk wt k = true := fun q => h1 (of_decide_eq_true q)
      have e9 : (J 62 k ≠ -1 ∧ J 62 k &&& lk = wt) = False := eq_false h1
      rw [if_neg hf]
      simp (config := {decide := true}) only [r112_7, r112_9, r112_12, r112_13, r112_15, r112_16, r112_17, r112_20, r112_23, r112_24, r112_25, r112_28, r112_30, r112_33, r112_34, r112_37, r112_40, r112_42, r112_43, r112_46, r112_49, r112_50, if_true, if_false, Nat.reduceAdd, Int32.reduceToNatClampNeg, lo_i, lo_r, lo_n, kont_v, kont_n, List.length_nil, List.length_cons, and_self, and_true, true_and, and_false, false_and, not_true, not_false_eq_true, true_or, or_true, bi_eq0, e1, c111 hk, e9, nt_succ]
  · intro t
    rw [r112_5]
    simp (config := {decide := true}) only [r112_7, r112_9, r112_12, r112_13, r112_15, r112_16, r112_17, r112_20, r112_23, r112_24, r112_25, r112_28, r112_30, r112_33, r112_34, r112_37, r112_40, r112_42, r112_43, r112_46, r112_49, r112_50, if_true, if_false, Nat.reduceAdd, Int32.reduceToNatClampNeg, lo_i, lo_r, lo_n, kont_v, kont_n, List.length_nil, List.length_cons]
/-- just as the reference asks it -/
def alV (I : Nat → Nat → Int32) (f : Nat → Int32) (e : Nat) : Int32 := foldN (fun c t => t ||| (if nt e >>> (nt c &&& 31) &&& 1 = 1 then wkI I f (bt c) else 0)) (cI I) 0
def gd0 (I : Nat → Nat → Int32) (f : Nat → Int32) (s : Int32) (e : Nat) : Bool := decide (nt e &&& (wnd f ^^^ -1) = 0 ∧ wkI I f (nt e) >>> (s &&& 31) &&& 1 = 1 ∧ wkI I f (nt e) &&& ((1 : Int32) <<< (s &&& 31) - (1 : Int32)) = 0)
def gd1 (I : Nat → Nat → Int32) (f : Nat → Int32) (s : Int32) (e : Nat) : Bool := decide (nt e &&& (wnd f ^^^ -1) = 0 ∧ wkI I f (nt e) = s)
def gd2 (I : Nat → Nat → Int32) (f : Nat → Int32) (s : Int32) (e : Nat) : Bool := decide (nt e &&& (wnd f ^^^ -1) = 0 ∧ s &&& (alV I f e ^^^ -1) = 0)
def gdw (w : Nat) : (Nat → Nat → Int32) → (Nat → Int32) → Int32 → Nat → Bool := if w = 0 then gd0 else if w = 1 then gd1 else gd2
theorem tr_al (h : view J = view I) : alV J = alV I := by
  funext f e
  unfold alV
  rw [tr_wk h, tr_c h]
theorem tr_g0 (h : view J = view I) : gd0 J = gd0 I := by
  funext f s e
  unfold gd0
  rw [tr_wk h]
theorem tr_g1 (h : view J = view I) : gd1 J = gd1 I := by
  funext f s e
  unfold gd1
  rw [tr_wk h]
theorem tr_g2 (h : view J = view I) : gd2 J = gd2 I := by
  funext f s e
  unfold gd2
  rw [tr_al h]
theorem cr_t : ∀ s, s < 7 → ∀ a, a < 128 → ((nt a &&& ((2 : Int32) <<< (nt s &&& 31) - (1 : Int32)) = (1 : Int32) <<< (nt s &&& 31)) ↔ (nt a >>> (nt s &&& 31) &&& 1 = 1 ∧ nt a &&& ((1 : Int32) <<< (nt s &&& 31) - (1 : Int32)) = 0)) := by decide +kernel
theorem ju_t : ∀ a, a < 128 → nt a &&& 127 = nt a := by decide +kernel
theorem ea_t : ∀ a, a < 128 → ∀ s, s < 128 → ((nt a &&& nt s = nt s) ↔ (nt s &&& (nt a ^^^ -1) = 0)) := by decide +kernel
theorem wk_nt (h7 : sI I ≤ 7) : ∃ a, a < 128 ∧ wkI I f b = nt a := by
  rw [wk_wb h7]
  exact wb_nt _
theorem bt_bit : ∀ c, c < 6 → ∀ k, k < 6 → ((bt c >>> (nt k &&& 31) &&& 1 = 1) ↔ k = c) := by decide
theorem hd_bt {s c : Nat} (hs : s < 7) (hc : c < cI I) (h6 : cI I ≤ 6) : hdJ I f s (bt c) = nzJ I f s c := by
  rw [← hdJ_I hs]
  exact hd_one hs hc h6
theorem mx_le {u : Int32} (hu : 1 ≤ u) {P : Nat → Prop} [∀ k, Decidable (P k)] {g : Nat → Int32} : ∀ m, (u ≤ foldN (fun k t => if P k then mxi t (g k) else t) m 0) ↔ ∃ k, k < m ∧ P k ∧ u ≤ g k := by
  intro m
  induction m with
  | zero =>
    constructor
    · intro h; exact absurd (show u ≤ 0 from h) (pos_nle hu)
    · rintro ⟨k, hk, _⟩; exact absurd hk (Nat.not_lt_zero k)
  | succ m ih =>
    show (u ≤ if P m then mxi (foldN (fun k t => if P k then mxi t (g k) else t) m 0) (g m) else foldN (fun k t => if P k then mxi t (g k) else t) m 0) ↔ _
    by_cases hp : P m
    · rw [if_pos hp]
      constructor
      · intro h
        rw [Int32.le_iff_toInt_le, mxi_int] at h
        by_cases h2 : u ≤ foldN (fun k t => if P k then mxi t (g k) else t) m 0
        · obtain ⟨k, k1, k2, k3⟩ := ih.mp h2
          exact ⟨k, by omega, k2, k3⟩
        · refine ⟨m, by omega, hp, ?_⟩
          rw [Int32.le_iff_toInt_le] at h2 ⊢
          omega
      · rintro ⟨k, k1, k2, k3⟩
        rw [Int32.le_iff_toInt_le, mxi_int]
        by_cases hk : k = m
        · subst hk
          rw [Int32.le_iff_toInt_le] at k3
          omega
        · have := ih.mpr ⟨k, by omega, k2, k3⟩
          rw [Int32.le_iff_toInt_le] at this
          omega
    · rw [if_neg hp, ih]
      constructor
      · rintro ⟨k, k1, k2⟩; exact ⟨k, by omega, k2⟩
      · rintro ⟨k, k1, k2, k3⟩
        by_cases hk : k = m
        · subst hk; exact absurd k2 hp
        · exact ⟨k, by omega, k2, k3⟩
/-- whom the clocks of a set wake, each alone -/
theorem al_wb (hI : Inv I) {e : Nat} : wkp I f (hrA I f) (sI I) e = alV I f e := by
  have h7 := inv_s7 hI
  have h6 := inv_c6 hI
  have key : ∀ m, m ≤ cI I → foldN (fun c t => t ||| (if nt e >>> (nt c &&& 31) &&& 1 = 1 then wkI I f (bt c) else 0)) m 0 = wb (fun s => decide (s < sI I) && (decide (f (60 + s) = -1) && (List.range m).any (fun c => decide (nt e >>> (nt c &&& 31) &&& 1 = 1 ∧ I 13 s ≤ nzJ I f s c)))) 7 := by
    intro m
    induction m with
    | zero =>
      intro _
      have e0 : wb (fun s => decide (s < sI I) && (decide (f (60 + s) = -1) && (List.range 0).any (fun c => decide (nt e >>> (nt c &&& 31) &&& 1 = 1 ∧ I 13 s ≤ nzJ I f s c)))) 7 = wb (fun _ => false) 7 := by
        refine wb_cong (fun s _ => ?_)
        simp
      rw [e0]
      exact (by decide : (0 : Int32) = wb (fun _ => false) 7)
    | succ m ih =>
      intro hm
      show foldN (fun c t => t ||| (if nt e >>> (nt c &&& 31) &&& 1 = 1 then wkI I f (bt c) else 0)) m 0 ||| (if nt e >>> (nt m &&& 31) &&& 1 = 1 then wkI I f (bt m) else 0) = _
      rw [ih (by omega)]
      by_cases hb : nt e >>> (nt m &&& 31) &&& 1 = 1
      · rw [if_pos hb, wk_wb h7, wb_or]
        refine wb_cong (fun s hs => ?_)
        unfold wkc
        by_cases h1 : s < sI I
        · rw [hd_bt hs (by omega) h6, Bool.eq_iff_iff]
          simp only [Bool.or_eq_true, Bool.and_eq_true, decide_eq_true_eq, List.any_eq_true, List.mem_range]
          constructor
          · rintro (⟨_, a1, c, a2, a3⟩ | ⟨_, a1, a2⟩)
            · exact ⟨h1, a1, c, by omega, a3⟩
            · exact ⟨h1, a1, m, by omega, hb, a2⟩
          · rintro ⟨_, a1, c, a2, a3, a4⟩
            by_cases hc : c = m
            · subst hc; exact Or.inr ⟨h1, a1, a4⟩
            · exact Or.inl ⟨h1, a1, c, by omega, a3, a4⟩
        · simp [h1]
      · rw [if_neg hb, Int32.or_zero]
        refine wb_cong (fun s hs => ?_)
        rw [Bool.eq_iff_iff]
        simp only [Bool.and_eq_true, decide_eq_true_eq, List.any_eq_true, List.mem_range]
        constructor
        · rintro ⟨a0, a1, c, a2, a3⟩; exact ⟨a0, a1, c, by omega, a3⟩
        · rintro ⟨a0, a1, c, a2, a3, a4⟩
          refine ⟨a0, a1, c, ?_, a3, a4⟩
          rcases Nat.lt_or_ge c m with h | h
          · exact h
          · have : c = m := by omega
            subst this; exact absurd a3 hb
  unfold alV
  rw [key (cI I) (Nat.le_refl _), wkp_wb, wb_cut h7]
  refine wb_cong (fun s hs => ?_)
  by_cases h1 : s < sI I
  · rw [Bool.eq_iff_iff]
    simp only [Bool.and_eq_true, decide_eq_true_eq, List.any_eq_true, List.mem_range]
    have := mx_le (hI.1.1.2.2.2 s h1) (P := fun k => nt e >>> (nt k &&& 31) &&& 1 = 1) (g := fun k => nzJ I f s k) (cI I)
    unfold hrA
    rw [this]
  · simp [h1]
theorem fit_of {hr : Nat → Nat → Int32} {g : Nat → Bool} (h7 : sI I ≤ 7) (hW : ∀ e, e < 64 → J 62 e = trW I f hr (sI I) e) (hg : ∀ e, e < 64 → (g e = true ↔ (nt e &&& (wnd f ^^^ -1) = 0 ∧ wkp I f hr (sI I) e &&& lk = wt))) : ∀ e, e < 64 → fitW J lk wt e = g e := by
  intro e he
  rw [Bool.eq_iff_iff, hg e he]
  unfold fitW
  rw [decide_eq_true_eq, hW e he]
  unfold trW
  by_cases hc : nt e &&& (wnd f ^^^ -1) = 0
  · rw [if_pos hc]
    exact ⟨fun q => ⟨hc, q.2⟩, fun q => ⟨wkp_ne h7, q.2⟩⟩
  · rw [if_neg hc]
    exact ⟨fun q => absurd rfl q.1, fun q => absurd q.1 hc⟩
theorem fw_cong {g g' : Nat → Bool} (h : ∀ e, e < 64 → g e = g' e) : foldN (fwF g) 64 (-1) = foldN (fwF g') 64 (-1) := foldN_cong 64 (fun k b hk => by unfold fwF; rw [h k hk])
def aCrown (I : Nat → Nat → Int32) (s : Int32) : An := if 0 ≤ s ∧ s ≤ I 12 5 - 1 then (.inl ((foldN (fwF (gd0 I (I 41) s)) 64 (-1) : Int32))) else .inr (1, 1)
theorem t_aCrown {I J : Nat → Nat → Int32} {s : Int32} (h : view J = view I) : aCrown J s = aCrown I s := by
  unfold aCrown
  simp only [t12 h, t41 h, tr_g0 h]
theorem q148 (hI : Inv I) (hx : x + 1 ≤ 600) (h : resC n I L x Φ (aCrown I s)) : wpc (d + 12) 148 [.ref (9 : Nat), .int s] (mk n I L x) Φ := by
  show wp (d + 12) 148 0 [.ref (9 : Nat), .int s] [] (mk n I L x) Φ
  unfold aCrown at h
  have hC := hI.1.1
  by_cases g1 : 0 ≤ s ∧ s ≤ I 12 5 - 1
  · rw [if_pos g1] at h
    have g2 := g1
    obtain ⟨j, hj, rfl⟩ := isN (inv_s hI) (inv_s7 hI) g1
    have h7 := inv_s7 hI
    simp (config := {decide := true}) only [r148_0, r148_1, r148_2, r148_5, r148_6, r148_9, r148_10, r148_13, r148_14, if_true, if_false, Nat.reduceAdd, Int32.reduceToNatClampNeg, lo_i, lo_r, lo_n, kont_v, kont_n, List.length_nil, List.length_cons, and_self, and_true, true_and, and_false, false_and, not_true, not_false_eq_true, true_or, or_true, bi_eq0, c181 hx, c179 hx, c180 hx, c182, c183, kx, g2]
    rw [r148_17 (by decide)]
    refine c106 hI (fun J hJ hW => ?_)
    simp (config := {decide := true}) only [r148_20, r148_21, r148_24, r148_25, r148_26, r148_27, r148_28, r148_29, r148_30, r148_31, r148_32, r148_35, if_true, if_false, Nat.reduceAdd, Int32.reduceToNatClampNeg, lo_i, lo_r, lo_n, kont_v, kont_n, List.length_nil, List.length_cons, c112]
    rw [fw_cong (g' := gd0 I (I 41) (nt j)) (fit_of h7 hW (fun e he => by
      unfold gd0
      rw [decide_eq_true_eq, wkp_I]
      obtain ⟨a, ha, ea⟩ := wk_nt (I := I) (f := I 41) (b := nt e) h7
      rw [ea, cr_t j (by omega) a ha]))]
    exact h J hJ
  · rw [if_neg g1] at h
    simp (config := {decide := true}) only [r148_0, r148_1, r148_2, r148_5, r148_6, r148_9, r148_10, r148_13, r148_14, r148_17, r148_20, r148_21, r148_24, r148_25, r148_26, r148_27, r148_28, r148_29, r148_30, r148_31, r148_32, r148_35, if_true, if_false, Nat.reduceAdd, Int32.reduceToNatClampNeg, lo_i, lo_r, lo_n, kont_v, kont_n, List.length_nil, List.length_cons, and_self, and_true, true_and, and_false, false_and, not_true, not_false_eq_true, true_or, or_true, bi_eq0, c181 hx, c179 hx, c180 hx, c182, c183, kx, g1]
    exact exC1 h
def aJust (I : Nat → Nat → Int32) (s : Int32) : An := if 0 ≤ s ∧ s < 1 <<< (I 12 5 &&& 31) then (.inl ((foldN (fwF (gd1 I (I 41) s)) 64 (-1) : Int32))) else .inr (2, 1)
theorem t_aJust {I J : Nat → Nat → Int32} {s : Int32} (h : view J = view I) : aJust J s = aJust I s := by
  unfold aJust
  simp only [t12 h, t41 h, tr_g1 h]
theorem q149 (hI : Inv I) (hx : x + 1 ≤ 600) (h : resC n I L x Φ (aJust I s)) : wpc (d + 12) 149 [.ref (9 : Nat), .int s] (mk n I L x) Φ := by
  show wp (d + 12) 149 0 [.ref (9 : Nat), .int s] [] (mk n I L x) Φ
  unfold aJust at h
  have hC := hI.1.1
  by_cases g1 : 0 ≤ s ∧ s < 1 <<< (I 12 5 &&& 31)
  · rw [if_pos g1] at h
    have h7 := inv_s7 hI
    simp (config := {decide := true}) only [r149_0, r149_1, r149_2, r149_3, r149_6, r149_9, r149_12, r149_15, r149_16, r149_19, r149_20, r149_23, r149_24, if_true, if_false, Nat.reduceAdd, Int32.reduceToNatClampNeg, lo_i, lo_r, lo_n, kont_v, kont_n, List.length_nil, List.length_cons, and_self, and_true, true_and, and_false, false_and, not_true, not_false_eq_true, true_or, or_true, bi_eq0, c181 hx, c179 hx, c180 hx, c182, c183, kx, g1, k12]
    rw [r149_27 (by decide)]
    refine c106 hI (fun J hJ hW => ?_)
    simp (config := {decide := true}) only [r149_30, r149_31, r149_34, r149_36, r149_37, r149_40, if_true, if_false, Nat.reduceAdd, Int32.reduceToNatClampNeg, lo_i, lo_r, lo_n, kont_v, kont_n, List.length_nil, List.length_cons, c112]
    rw [fw_cong (g' := gd1 I (I 41) s) (fit_of h7 hW (fun e he => by
      unfold gd1
      rw [decide_eq_true_eq, wkp_I]
      obtain ⟨a, ha, ea⟩ := wk_nt (I := I) (f := I 41) (b := nt e) h7
      rw [ea, ju_t a ha]))]
    exact h J hJ
  · rw [if_neg g1] at h
    simp (config := {decide := true}) only [r149_0, r149_1, r149_2, r149_3, r149_6, r149_9, r149_12, r149_15, r149_16, r149_19, r149_20, r149_23, r149_24, r149_27, r149_30, r149_31, r149_34, r149_36, r149_37, r149_40, if_true, if_false, Nat.reduceAdd, Int32.reduceToNatClampNeg, lo_i, lo_r, lo_n, kont_v, kont_n, List.length_nil, List.length_cons, and_self, and_true, true_and, and_false, false_and, not_true, not_false_eq_true, true_or, or_true, bi_eq0, c181 hx, c179 hx, c180 hx, c182, c183, kx, g1, k12]
    exact exC2 h
def aEach (I : Nat → Nat → Int32) (s : Int32) : An := if 0 ≤ s ∧ s < 1 <<< (I 12 5 &&& 31) then (.inl ((foldN (fwF (gd2 I (I 41) s)) 64 (-1) : Int32))) else .inr (2, 1)
theorem t_aEach {I J : Nat → Nat → Int32} {s : Int32} (h : view J = view I) : aEach J s = aEach I s := by
  unfold aEach
  simp only [t12 h, t41 h, tr_g2 h]
theorem q150 (hI : Inv I) (hx : x + 1 ≤ 600) (h : resC n I L x Φ (aEach I s)) : wpc (d + 12) 150 [.ref (9 : Nat), .int s] (mk n I L x) Φ := by
  show wp (d + 12) 150 0 [.ref (9 : Nat), .int s] [] (mk n I L x) Φ
  unfold aEach at h
  have hC := hI.1.1
  by_cases g1 : 0 ≤ s ∧ s < 1 <<< (I 12 5 &&& 31)
  · rw [if_pos g1] at h
    have h7 := inv_s7 hI
    simp (config := {decide := true}) only [r150_0, r150_1, r150_2, r150_3, r150_6, r150_9, r150_12, r150_15, r150_16, r150_19, r150_20, r150_23, r150_24, if_true, if_false, Nat.reduceAdd, Int32.reduceToNatClampNeg, lo_i, lo_r, lo_n, kont_v, kont_n, List.length_nil, List.length_cons, and_self, and_true, true_and, and_false, false_and, not_true, not_false_eq_true, true_or, or_true, bi_eq0, c181 hx, c179 hx, c180 hx, c182, c183, kx, g1, k12]
    rw [r150_27 (by decide)]
    refine c107 hI (fun J hJ hW => ?_)
    simp (config := {decide := true}) only [r150_30, r150_31, r150_34, r150_35, r150_36, r150_39, if_true, if_false, Nat.reduceAdd, Int32.reduceToNatClampNeg, lo_i, lo_r, lo_n, kont_v, kont_n, List.length_nil, List.length_cons, c112]
    have g2 := g1
    rw [inv_s hI] at g2
    obtain ⟨B, hB, rfl⟩ := set_nt h7 g2
    have hp : 2 ^ sI I ≤ 2 ^ 7 := Nat.pow_le_pow_right (by decide) h7
    rw [fw_cong (g' := gd2 I (I 41) (nt B)) (fit_of h7 hW (fun e he => by
      unfold gd2
      rw [decide_eq_true_eq, ← al_wb hI]
      obtain ⟨a, ha, ea⟩ := wb_nt' (c := fun k => decide (I 41 (60 + k) = -1 ∧ I 13 k ≤ hrA I (I 41) k e)) h7
      rw [wkp_wb, ea, ea_t a ha B (by omega)]))]
    exact h J hJ
  · rw [if_neg g1] at h
    simp (config := {decide := true}) only [r150_0, r150_1, r150_2, r150_3, r150_6, r150_9, r150_12, r150_15, r150_16, r150_19, r150_20, r150_23, r150_24, r150_27, r150_30, r150_31, r150_34, r150_35, r150_36, r150_39, if_true, if_false, Nat.reduceAdd, Int32.reduceToNatClampNeg, lo_i, lo_r, lo_n, kont_v, kont_n, List.length_nil, List.length_cons, and_self, and_true, true_and, and_false, false_and, not_true, not_false_eq_true, true_or, or_true, bi_eq0, c181 hx, c179 hx, c180 hx, c182, c183, kx, g1, k12]
    exact exC2 h
theorem m271 (hI : Inv I) {e w0 : Nat} (he : e < 64) (hw : w0 < 3) (h : ∀ p, Φ (.inl (some (.int (if gdw w0 I (I 41) s e = true then 1 else 0)))) (mk n (scm I p) L x)) : wpc (d + 7) 271 [.ref (70 : Nat), .int (nt w0), .int (nt e), .int s] (mk n (scm I q) L x) Φ := by
  have hIq : ∀ q, Inv (scm I q) := fun q => tr_Inv view_scm hI
  have u41 : ∀ q, scm I q 41 = I 41 := fun q => scm_ne (by decide) (by decide)
  have u74 : ∀ q, scm I q 74 = I 74 := fun q => scm_ne (by decide) (by decide)
  have m5 : ∀ (d : Nat) (Ψ : POut → PM → Prop) q, wpc (d + 1) 265 [.ref (70 : Nat), .int (nt e)] (mk n (scm I q) L x) Ψ ↔ Ψ (.inl (some (.int (bi (nt e &&& (wnd (I 41) ^^^ -1) = 0))))) (mk n (scm I q) L x) := fun d Ψ q => by rw [m265 (hIq q), u41]
  show wp (d + 7) 271 0 [.ref (70 : Nat), .int (nt w0), .int (nt e), .int s, noV, noV] [] (mk n (scm I q) L x) Φ
  by_cases hc : nt e &&& (wnd (I 41) ^^^ -1) = 0
  · match w0, hw with
    | 0, _ =>
      have hg : gdw 0 I (I 41) s e = decide (wkI I (I 41) (nt e) >>> (s &&& 31) &&& 1 = 1 ∧ wkI I (I 41) (nt e) &&& (1 <<< (s &&& 31) - 1) = 0) := by
        show gd0 I (I 41) s e = _
        unfold gd0
        simp only [hc, true_and]
      rw [hg] at h
      by_cases h1 : wkI I (I 41) (nt e) >>> (s &&& 31) &&& 1 = 1
      · by_cases h2 : wkI I (I 41) (nt e) &&& (1 <<< (s &&& 31) - 1) = 0
        · rw [if_pos (decide_eq_true ⟨h1, h2⟩)] at h
          simp (config := {decide := true}) only [r271_0, r271_1, r271_2, r271_5, r271_8, r271_9, r271_10, r271_11, r271_12, r271_15, r271_16, r271_17, r271_20, r271_21, r271_24, r271_25, r271_28, r271_29, r271_32, r271_33, r271_34, r271_35, r271_38, r271_39, r271_40, r271_43, r271_44, r271_47, r271_48, r271_51, r271_54, r271_55, r271_56, r271_59, r271_60, r271_63, r271_64, r271_65, r271_66, r271_67, r271_68, r271_69, r271_72, r271_73, r271_76, r271_77, if_true, if_false, Nat.reduceAdd, Int32.reduceToNatClampNeg, lo_i, lo_r, lo_n, kont_v, kont_n, List.length_nil, List.length_cons, and_self, and_true, true_and, and_false, false_and, not_true, not_false_eq_true, true_or, or_true, bi_eq0, m5, hc, o242 hI, m197, h1, h2, nb_1]
          exact h _
        · rw [if_neg (fun q => h2 (of_decide_eq_true q).2)] at h
          simp (config := {decide := true}) only [r271_0, r271_1, r271_2, r271_5, r271_8, r271_9, r271_10, r271_11, r271_12, r271_15, r271_16, r271_17, r271_20, r271_21, r271_24, r271_25, r271_28, r271_29, r271_32, r271_33, r271_34, r271_35, r271_38, r271_39, r271_40, r271_43, r271_44, r271_47, r271_48, r271_51, r271_54, r271_55, r271_56, r271_59, r271_60, r271_63, r271_64, r271_65, r271_66, r271_67, r271_68, r271_69, r271_72, r271_73, r271_76, r271_77, if_true, if_false, Nat.reduceAdd, Int32.reduceToNatClampNeg, lo_i, lo_r, lo_n, kont_v, kont_n, List.length_nil, List.length_cons, and_self, and_true, true_and, and_false, false_and, not_true, not_false_eq_true, true_or, or_true, bi_eq0, m5, hc, o242 hI, m197, h1, h2, nb_0]
          exact h _
      · rw [if_neg (fun q => h1 (of_decide_eq_true q).1)] at h
        simp (config := {decide := true}) only [r271_0, r271_1, r271_2, r271_5, r271_8, r271_9, r271_10, r271_11, r271_12, r271_15, r271_16, r271_17, r271_20, r271_21, r271_24, r271_25, r271_28, r271_29, r271_32, r271_33, r271_34, r271_35, r271_38, r271_39, r271_40, r271_43, r271_44, r271_47, r271_48, r271_51, r271_54, r271_55, r271_56, r271_59, r271_60, r271_63, r271_64, r271_65, r271_66, r271_67, r271_68, r271_69, r271_72, r271_73, r271_76, r271_77, if_true, if_false, Nat.reduceAdd, Int32.reduceToNatClampNeg, lo_i, lo_r, lo_n, kont_v, kont_n, List.length_nil, List.length_cons, and_self, and_true, true_and, and_false, false_and, not_true, not_false_eq_true, true_or, or_true, bi_eq0, m5, hc, o242 hI, m197, h1, nb_0]
        exact h _
    | 1, _ =>
      have hg : gdw 1 I (I 41) s e = decide (wkI I (I 41) (nt e) = s) := by
        show gd1 I (I 41) s e = _
        unfold gd1
        simp only [hc, true_and]
      rw [hg] at h
      by_cases h1 : wkI I (I 41) (nt e) = s
      · rw [if_pos (decide_eq_true h1)] at h
        simp (config := {decide := true}) only [r271_0, r271_1, r271_2, r271_5, r271_8, r271_9, r271_10, r271_11, r271_12, r271_15, r271_16, r271_17, r271_20, r271_21, r271_24, r271_25, r271_28, r271_29, r271_32, r271_33, r271_34, r271_35, r271_38, r271_39, r271_40, r271_43, r271_44, r271_47, r271_48, r271_51, r271_54, r271_55, r271_56, r271_59, r271_60, r271_63, r271_64, r271_65, r271_66, r271_67, r271_68, r271_69, r271_72, r271_73, r271_76, r271_77, if_true, if_false, Nat.reduceAdd, Int32.reduceToNatClampNeg, lo_i, lo_r, lo_n, kont_v, kont_n, List.length_nil, List.length_cons, and_self, and_true, true_and, and_false, false_and, not_true, not_false_eq_true, true_or, or_true, bi_eq0, m5, hc, o242 hI, h1, nb_1]
        exact h _
      · rw [if_neg (fun q => h1 (of_decide_eq_true q))] at h
        simp (config := {decide := true}) only [r271_0, r271_1, r271_2, r271_5, r271_8, r271_9, r271_10, r271_11, r271_12, r271_15, r271_16, r271_17, r271_20, r271_21, r271_24, r271_25, r271_28, r271_29, r271_32, r271_33, r271_34, r271_35, r271_38, r271_39, r271_40, r271_43, r271_44, r271_47, r271_48, r271_51, r271_54, r271_55, r271_56, r271_59, r271_60, r271_63, r271_64, r271_65, r271_66, r271_67, r271_68, r271_69, r271_72, r271_73, r271_76, r271_77, if_true, if_false, Nat.reduceAdd, Int32.reduceToNatClampNeg, lo_i, lo_r, lo_n, kont_v, kont_n, List.length_nil, List.length_cons, and_self, and_true, true_and, and_false, false_and, not_true, not_false_eq_true, true_or, or_true, bi_eq0, m5, hc, o242 hI, h1, nb_0]
        exact h _
    | 2, _ =>
      have hg : gdw 2 I (I 41) s e = decide (s &&& (alV I (I 41) e ^^^ -1) = 0) := by
        show gd2 I (I 41) s e = _
        unfold gd2
        simp only [hc, true_and]
      rw [hg] at h
      simp (config := {decide := true}) only [r271_0, r271_1, r271_2, r271_5, r271_8, r271_9, r271_10, r271_11, r271_12, r271_15, r271_16, r271_17, r271_20, r271_21, r271_24, r271_25, r271_28, r271_29, r271_32, r271_33, r271_34, r271_35, r271_38, r271_39, r271_40, r271_43, r271_44, r271_47, r271_48, r271_51, r271_54, r271_55, r271_56, r271_59, r271_60, r271_63, r271_64, r271_65, r271_66, r271_67, r271_68, r271_69, r271_72, r271_73, r271_76, r271_77, r271_78, r271_79, r271_81, r271_82, if_true, if_false, Nat.reduceAdd, Int32.reduceToNatClampNeg, lo_i, lo_r, lo_n, kont_v, kont_n, List.length_nil, List.length_cons, and_self, and_true, true_and, and_false, false_and, not_true, not_false_eq_true, true_or, or_true, bi_eq0, m5, hc]
      have h6 := inv_c6 hI
      refine loopD (P := fun k t => ∀ q, wp (d + 7) 271 84 [.ref (70 : Nat), .int (nt 2), .int (nt e), .int s, .int t, .int (nt k)] [] (mk n (scm I q) L x) Φ) (Q := fun t => ∀ q, Φ (.inl (some (.int (if decide (s &&& (t ^^^ -1) = 0) = true then 1 else 0)))) (mk n (scm I q) L x)) (n := cI I) (f := fun c t => t ||| (if nt e >>> (nt c &&& 31) &&& 1 = 1 then wkI I (I 41) (bt c) else 0)) ?_ ?_ 0 h q
      · intro k t hk hn q
        have e1 : ¬ (nt (cI I) ≤ nt k) := nt_nle hk (by omega)
        rw [r271_84]
        by_cases h1 : nt e >>> (nt k &&& 31) &&& 1 = 1
        · rw [if_pos h1] at hn
          simp (config := {decide := true}) only [r271_86, r271_87, r271_90, r271_91, r271_92, r271_95, r271_97, r271_98, r271_100, r271_103, r271_106, r271_107, r271_108, r271_111, r271_112, r271_114, r271_115, r271_118, r271_121, r271_122, r271_123, r271_125, r271_128, if_true, if_false, Nat.reduceAdd, Int32.reduceToNatClampNeg, lo_i, lo_r, lo_n, kont_v, kont_n, List.length_nil, List.length_cons, and_self, and_true, true_and, and_false, false_and, not_true, not_false_eq_true, true_or, or_true, bi_eq0, u74, s74, hI.1.2.1.2, e1, m197, h1, o242 hI, nt_succ]
          exact hn _
        · rw [if_neg h1] at hn
          simp (config := {decide := true}) only [r271_86, r271_87, r271_90, r271_91, r271_92, r271_95, r271_97, r271_98, r271_100, r271_103, r271_106, r271_107, r271_108, r271_111, r271_112, r271_114, r271_115, r271_118, r271_121, r271_122, r271_123, r271_125, r271_128, if_true, if_false, Nat.reduceAdd, Int32.reduceToNatClampNeg, lo_i, lo_r, lo_n, kont_v, kont_n, List.length_nil, List.length_cons, and_self, and_true, true_and, and_false, false_and, not_true, not_false_eq_true, true_or, or_true, bi_eq0, u74, s74, hI.1.2.1.2, e1, m197, h1, nt_succ]
          exact hn _
      · intro t ht q
        have e6 : nt (cI I) ≤ nt (cI I) := Int32.le_refl _
        replace ht := ht q
        rw [r271_84]
        by_cases h1 : s &&& (t ^^^ -1) = 0
        · rw [if_pos (decide_eq_true h1)] at ht
          simp (config := {decide := true}) only [r271_86, r271_87, r271_90, r271_91, r271_92, r271_95, r271_97, r271_98, r271_100, r271_103, r271_106, r271_107, r271_108, r271_111, r271_112, r271_114, r271_115, r271_118, r271_121, r271_122, r271_123, r271_125, r271_128, r271_131, r271_132, r271_134, r271_135, r271_136, r271_137, r271_140, r271_141, r271_144, r271_145, if_true, if_false, Nat.reduceAdd, Int32.reduceToNatClampNeg, lo_i, lo_r, lo_n, kont_v, kont_n, List.length_nil, List.length_cons, and_self, and_true, true_and, and_false, false_and, not_true, not_false_eq_true, true_or, or_true, bi_eq0, u74, s74, hI.1.2.1.2, e6, h1, nb_1]
          exact ht
        · rw [if_neg (fun q => h1 (of_decide_eq_true q))] at ht
          simp (config := {decide := true}) only [r271_86, r271_87, r271_90, r271_91, r271_92, r271_95, r271_97, r271_98, r271_100, r271_103, r271_106, r271_107, r271_108, r271_111, r271_112, r271_114, r271_115, r271_118, r271_121, r271_122, r271_123, r271_125, r271_128, r271_131, r271_132, r271_134, r271_135, r271_136, r271_137, r271_140, r271_141, r271_144, r271_145, if_true, if_false, Nat.reduceAdd, Int32.reduceToNatClampNeg, lo_i, lo_r, lo_n, kont_v, kont_n, List.length_nil, List.length_cons, and_self, and_true, true_and, and_false, false_and, not_true, not_false_eq_true, true_or, or_true, bi_eq0, u74, s74, hI.1.2.1.2, e6, h1, nb_0]
          exact ht
  · have hg : ¬ gdw w0 I (I 41) s e = true := by
      match w0, hw with
      | 0, _ => exact fun q => hc (of_decide_eq_true q).1
      | 1, _ => exact fun q => hc (of_decide_eq_true q).1
      | 2, _ => exact fun q => hc (of_decide_eq_true q).1
    rw [if_neg hg] at h
    simp (config := {decide := true}) only [r271_0, r271_1, r271_2, r271_5, r271_8, r271_9, if_true, if_false, Nat.reduceAdd, Int32.reduceToNatClampNeg, lo_i, lo_r, lo_n, kont_v, kont_n, List.length_nil, List.length_cons, and_self, and_true, true_and, and_false, false_and, not_true, not_false_eq_true, true_or, or_true, bi_eq0, m5, hc, nb_0]
    exact h _
theorem m272 (hI : Inv I) {w0 : Nat} (hw : w0 < 3) (h : ∀ p, Φ (.inl (some (.int (foldN (fwF (gdw w0 I (I 41) s)) 64 (-1))))) (mk n (scm I p) L x)) : wpc (d + 8) 272 [.ref (70 : Nat), .int (nt w0), .int s] (mk n I L x) Φ := by
  have h6 := inv_c6 hI
  have hp : 2 ^ cI I ≤ 2 ^ 6 := Nat.pow_le_pow_right (by decide) h6
  have hq : 0 < 2 ^ cI I := Nat.pow_pos (by decide)
  have hg : ∀ e, e < 64 → gdw w0 I (I 41) s e = true → e < 2 ^ cI I := by
    intro e he hge
    refine cn_lt hI.2.1.1 h6 he ?_
    match w0, hw with
    | 0, _ => exact (of_decide_eq_true hge).1
    | 1, _ => exact (of_decide_eq_true hge).1
    | 2, _ => exact (of_decide_eq_true hge).1
  rw [fw_cong (g' := fun e => decide (e < 64) && gdw w0 I (I 41) s e) (fun e he => by simp [he])] at h
  rw [fw_eq (N := 2 ^ cI I) hp (fun e he => by
    rw [Bool.and_eq_true, decide_eq_true_eq] at he
    exact hg e he.1 he.2)] at h
  have e0 : (1 : Int32) <<< (I 12 6 &&& 31) - 1 = nt (2 ^ cI I) + -1 := by
    rw [inv_c hI, pow7m _ (Nat.le_succ_of_le h6), nt_pred hq]
  show wp (d + 8) 272 0 [.ref (70 : Nat), .int (nt w0), .int s, noV, noV] [] (mk n I L x) Φ
  simp (config := {decide := true}) only [r272_0, r272_1, r272_2, r272_3, r272_6, if_true, if_false, Nat.reduceAdd, Int32.reduceToNatClampNeg, lo_i, lo_r, lo_n, kont_v, kont_n, List.length_nil, List.length_cons, m266 hI, e0]
  have key : ∀ k v, k ≤ 2 ^ cI I → ∀ q, (∀ p, Φ (.inl (some (.int (fwD (fun e => decide (e < 64) && gdw w0 I (I 41) s e) k v)))) (mk n (scm I p) L x)) → wp (d + 8) 272 8 [.ref (70 : Nat), .int (nt w0), .int s, .int v, .int (nt k + -1)] [] (mk n (scm I q) L x) Φ := by
    intro k
    induction k with
    | zero =>
      intro v _ q hh
      rw [r272_8]
      simp (config := {decide := true}) only [r272_10, r272_54, r272_55, if_true, if_false, Nat.reduceAdd, Int32.reduceToNatClampNeg, lo_i, lo_r, lo_n, kont_v, kont_n, List.length_nil, List.length_cons]
      exact hh q
    | succ k ih =>
      intro v hk q hh
      have e1 : nt (k + 1) + -1 = nt k := nt_pred (by omega)
      have e2 : ¬ (nt k < 0) := Int32.not_lt.mpr (nt_ge (by omega))
      have hk64 : k < 64 := by omega
      rw [r272_8, e1]
      simp (config := {decide := true}) only [r272_10, r272_13, r272_14, r272_15, r272_17, if_true, if_false, Nat.reduceAdd, Int32.reduceToNatClampNeg, lo_i, lo_r, lo_n, kont_v, kont_n, List.length_nil, List.length_cons, e2]
      rw [r272_18 (by decide)]
      refine m271 hI hk64 hw (fun p => ?_)
      replace hh : ∀ p, Φ (.inl (some (.int (fwD (fun e => decide (e < 64) && gdw w0 I (I 41) s e) k (fwG (fun e => decide (e < 64) && gdw w0 I (I 41) s e) k v))))) (mk n (scm I p) L x) := hh
      rw [show fwG (fun e => decide (e < 64) && gdw w0 I (I 41) s e) k v = fwG (gdw w0 I (I 41) s) k v from by unfold fwG; simp only [hk64, decide_true, Bool.true_and]] at hh
      unfold fwG at hh
      cases h1 : gdw w0 I (I 41) s k
      · rw [h1, if_neg (by decide)] at hh
        simp (config := {decide := true}) only [r272_21, r272_24, r272_25, r272_26, r272_29, r272_31, r272_34, r272_35, r272_38, r272_41, r272_43, r272_46, r272_47, r272_48, r272_51, if_true, if_false, Nat.reduceAdd, Int32.reduceToNatClampNeg, lo_i, lo_r, lo_n, kont_v, kont_n, List.length_nil, List.length_cons, Bool.false_eq_true]
        exact ih v (by omega) p hh
      · rw [h1, if_pos rfl] at hh
        by_cases h2 : v = -1
        · rw [if_pos h2] at hh
          simp (config := {decide := true}) only [r272_21, r272_24, r272_25, r272_26, r272_29, r272_31, r272_34, r272_35, r272_38, r272_41, r272_43, r272_46, r272_47, r272_48, r272_51, if_true, if_false, Nat.reduceAdd, Int32.reduceToNatClampNeg, lo_i, lo_r, lo_n, kont_v, kont_n, List.length_nil, List.length_cons, h2]
          exact ih (nt k) (by omega) p hh
        · rw [if_neg h2] at hh
          by_cases h3 : one7 v < one7 (nt k)
          · rw [if_pos h3] at hh
            simp (config := {decide := true}) only [r272_21, r272_24, r272_25, r272_26, r272_29, r272_31, r272_34, r272_35, r272_38, r272_41, r272_43, r272_46, r272_47, r272_48, r272_51, if_true, if_false, Nat.reduceAdd, Int32.reduceToNatClampNeg, lo_i, lo_r, lo_n, kont_v, kont_n, List.length_nil, List.length_cons, h2, m238, h3]
            exact ih v (by omega) p hh
          · rw [if_neg h3] at hh
            simp (config := {decide := true}) only [r272_21, r272_24, r272_25, r272_26, r272_29, r272_31, r272_34, r272_35, r272_38, r272_41, r272_43, r272_46, r272_47, r272_48, r272_51, if_true, if_false, Nat.reduceAdd, Int32.reduceToNatClampNeg, lo_i, lo_r, lo_n, kont_v, kont_n, List.length_nil, List.length_cons, h2, m238, h3]
            exact ih (nt k) (by omega) p hh
  have hfin := key (2 ^ cI I) (-1) (Nat.le_refl _) (I 451, I 452) h
  rw [scm_self] at hfin
  exact hfin
theorem u273 (hI : Inv I) (h : resM n I L x Φ (aCrown I s)) : wpc (d + 12) 273 [.ref (70 : Nat), .int s] (mk n I L x) Φ := by
  show wp (d + 12) 273 0 [.ref (70 : Nat), .int s] [] (mk n I L x) Φ
  rw [r273_0, r273_1, r273_2]
  replace h := resM_z h
  rw [← t_aCrown v70] at h
  replace hI := tr_Inv v70 hI
  have hz := z70 (I := I)
  generalize wrI I 70 0 0 = I at h hI hz ⊢
  unfold aCrown at h
  have hM := hI.1
  by_cases g1 : 0 ≤ s ∧ s ≤ I 12 5 - 1
  · rw [if_pos g1] at h
    simp (config := {decide := true}) only [r273_5, r273_6, r273_7, r273_8, r273_11, r273_14, r273_15, r273_18, r273_19, r273_20, r273_21, r273_24, r273_27, r273_28, r273_29, r273_30, r273_31, if_true, if_false, Nat.reduceAdd, Int32.reduceToNatClampNeg, lo_i, lo_r, lo_n, kont_v, kont_n, List.length_nil, List.length_cons, and_self, and_true, true_and, and_false, false_and, not_true, not_false_eq_true, true_or, or_true, bi_eq0, b10 hz, b11 hz, b21 hz, m194, m259, m257 hI, g1]
    rw [r273_32 (by decide)]
    refine m272 (w0 := 0) hI (by decide) (fun p => ?_)
    simp (config := {decide := true}) only [r273_35, if_true, if_false, Nat.reduceAdd, Int32.reduceToNatClampNeg, lo_i, lo_r, lo_n, kont_v, kont_n, List.length_nil, List.length_cons]
    exact okMs h hz
  · rw [if_neg g1] at h
    simp (config := {decide := true}) only [r273_5, r273_6, r273_7, r273_8, r273_11, r273_14, r273_15, r273_18, r273_19, r273_20, r273_21, r273_24, r273_27, r273_28, r273_29, r273_30, r273_31, r273_32, r273_35, if_true, if_false, Nat.reduceAdd, Int32.reduceToNatClampNeg, lo_i, lo_r, lo_n, kont_v, kont_n, List.length_nil, List.length_cons, and_self, and_true, true_and, and_false, false_and, not_true, not_false_eq_true, true_or, or_true, bi_eq0, b10 hz, b11 hz, b21 hz, m194, m259, m257 hI, m258 hI, m266 hI, m274 hI, g1]
    exact exM h
theorem u275 (hI : Inv I) (h : resM n I L x Φ (aJust I s)) : wpc (d + 12) 275 [.ref (70 : Nat), .int s] (mk n I L x) Φ := by
  show wp (d + 12) 275 0 [.ref (70 : Nat), .int s] [] (mk n I L x) Φ
  rw [r275_0, r275_1, r275_2]
  replace h := resM_z h
  rw [← t_aJust v70] at h
  replace hI := tr_Inv v70 hI
  have hz := z70 (I := I)
  generalize wrI I 70 0 0 = I at h hI hz ⊢
  unfold aJust at h
  have hM := hI.1
  have g0 : (s ≤ 1 <<< (I 12 5 &&& 31) - 1) = (s < 1 <<< (I 12 5 &&& 31)) := by rw [inv_s hI]; exact set_le (inv_s7 hI)
  by_cases g1 : 0 ≤ s ∧ s < 1 <<< (I 12 5 &&& 31)
  · rw [if_pos g1] at h
    simp (config := {decide := true}) only [r275_5, r275_6, r275_7, r275_8, r275_11, r275_14, r275_15, r275_18, r275_19, r275_20, r275_21, r275_24, r275_27, r275_28, r275_29, r275_30, r275_31, if_true, if_false, Nat.reduceAdd, Int32.reduceToNatClampNeg, lo_i, lo_r, lo_n, kont_v, kont_n, List.length_nil, List.length_cons, and_self, and_true, true_and, and_false, false_and, not_true, not_false_eq_true, true_or, or_true, bi_eq0, b10 hz, b11 hz, b21 hz, m194, m259, m274 hI, g0, g1]
    rw [r275_32 (by decide)]
    refine m272 (w0 := 1) hI (by decide) (fun p => ?_)
    simp (config := {decide := true}) only [r275_35, if_true, if_false, Nat.reduceAdd, Int32.reduceToNatClampNeg, lo_i, lo_r, lo_n, kont_v, kont_n, List.length_nil, List.length_cons]
    exact okMs h hz
  · rw [if_neg g1] at h
    simp (config := {decide := true}) only [r275_5, r275_6, r275_7, r275_8, r275_11, r275_14, r275_15, r275_18, r275_19, r275_20, r275_21, r275_24, r275_27, r275_28, r275_29, r275_30, r275_31, r275_32, r275_35, if_true, if_false, Nat.reduceAdd, Int32.reduceToNatClampNeg, lo_i, lo_r, lo_n, kont_v, kont_n, List.length_nil, List.length_cons, and_self, and_true, true_and, and_false, false_and, not_true, not_false_eq_true, true_or, or_true, bi_eq0, b10 hz, b11 hz, b21 hz, m194, m259, m257 hI, m258 hI, m266 hI, m274 hI, g1, g0]
    exact exM h
theorem u276 (hI : Inv I) (h : resM n I L x Φ (aEach I s)) : wpc (d + 12) 276 [.ref (70 : Nat), .int s] (mk n I L x) Φ := by
  show wp (d + 12) 276 0 [.ref (70 : Nat), .int s] [] (mk n I L x) Φ
  rw [r276_0, r276_1, r276_2]
  replace h := resM_z h
  rw [← t_aEach v70] at h
  replace hI := tr_Inv v70 hI
  have hz := z70 (I := I)
  generalize wrI I 70 0 0 = I at h hI hz ⊢
  unfold aEach at h
  have hM := hI.1
  have g0 : (s ≤ 1 <<< (I 12 5 &&& 31) - 1) = (s < 1 <<< (I 12 5 &&& 31)) := by rw [inv_s hI]; exact set_le (inv_s7 hI)
  by_cases g1 : 0 ≤ s ∧ s < 1 <<< (I 12 5 &&& 31)
  · rw [if_pos g1] at h
    simp (config := {decide := true}) only [r276_5, r276_6, r276_7, r276_8, r276_11, r276_14, r276_15, r276_18, r276_19, r276_20, r276_21, r276_24, r276_27, r276_28, r276_29, r276_30, r276_31, if_true, if_false, Nat.reduceAdd, Int32.reduceToNatClampNeg, lo_i, lo_r, lo_n, kont_v, kont_n, List.length_nil, List.length_cons, and_self, and_true, true_and, and_false, false_and, not_true, not_false_eq_true, true_or, or_true, bi_eq0, b10 hz, b11 hz, b21 hz, m194, m259, m274 hI, g0, g1]
    rw [r276_32 (by decide)]
    refine m272 (w0 := 2) hI (by decide) (fun p => ?_)
    simp (config := {decide := true}) only [r276_35, if_true, if_false, Nat.reduceAdd, Int32.reduceToNatClampNeg, lo_i, lo_r, lo_n, kont_v, kont_n, List.length_nil, List.length_cons]
    exact okMs h hz
  · rw [if_neg g1] at h
    simp (config := {decide := true}) only [r276_5, r276_6, r276_7, r276_8, r276_11, r276_14, r276_15, r276_18, r276_19, r276_20, r276_21, r276_24, r276_27, r276_28, r276_29, r276_30, r276_31, r276_32, r276_35, if_true, if_false, Nat.reduceAdd, Int32.reduceToNatClampNeg, lo_i, lo_r, lo_n, kont_v, kont_n, List.length_nil, List.length_cons, and_self, and_true, true_and, and_false, false_and, not_true, not_false_eq_true, true_or, or_true, bi_eq0, b10 hz, b11 hz, b21 hz, m194, m259, m257 hI, m258 hI, m266 hI, m274 hI, g1, g0]
    exact exM h
end Q9
