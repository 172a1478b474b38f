/-! QUESTIONS: loops -/
def sumE {α ρ : Type} (Q : α → Prop) (R : ρ → Prop) (s : α ⊕ ρ) : Prop := match s with
  | .inl a => Q a
  | .inr r => R r
theorem loopF {α ρ : Type} {P : Nat → α → Prop} {Q : α → Prop} {R : ρ → Prop} {f : Nat → α → α ⊕ ρ} {n : Nat} (hs : ∀ k a, k < n → sumE (P (k + 1)) R (f k a) → P k a) (he : ∀ a, Q a → P n a) : ∀ (m k : Nat) (a : α), k + m = n → sumE Q R (foldE f m k a) → P k a := by
  intro m
  induction m with
  | zero =>
    intro k a h hq
    have : k = n := by omega
    subst this
    exact he a hq
  | succ m ih =>
    intro k a h hq
    refine hs k a (by omega) ?_
    unfold foldE at hq
    cases hf : f k a with
    | inl a' =>
      rw [hf] at hq
      exact ih (k + 1) a' (by omega) hq
    | inr r =>
      rw [hf] at hq
      exact hq
theorem loopDJ {α : Type} {P J : Nat → α → Prop} {Q : α → Prop} {f : Nat → α → α} {n : Nat} (hs : ∀ k a, k < n → J k a → J (k + 1) (f k a) ∧ (P (k + 1) (f k a) → P k a)) (he : ∀ a, J n a → Q a → P n a) (a : α) (h0 : J 0 a) (h : Q (foldN f n a)) : P 0 a := by
  have key : ∀ k, k ≤ n → J k (foldN f k a) ∧ (P k (foldN f k a) → P 0 a) := by
    intro k
    induction k with
    | zero => intro _; exact ⟨h0, id⟩
    | succ k ih =>
      intro hk
      obtain ⟨h1, h2⟩ := ih (by omega)
      obtain ⟨h3, h4⟩ := hs k _ (by omega) h1
      exact ⟨h3, fun h => h2 (h4 h)⟩
  obtain ⟨h1, h2⟩ := key n (Nat.le_refl n)
  exact h2 (he _ h1 h)
theorem bit_or7 : ∀ j, j < 7 → ∀ s, s < 7 → ∀ k, k < 128 → ((nt k ||| bt j) >>> (nt s &&& 31) &&& 1 = 1) = (s = j ∨ nt k >>> (nt s &&& 31) &&& 1 = 1) := by decide +kernel
theorem vot_or {vs : Nat → Int32} {j k : Nat} (hj : j < 7) (hk : k < 128) (hb : ¬ (nt k >>> (nt j &&& 31) &&& 1 = 1)) : vot vs (nt k ||| bt j) = vot vs (nt k) + vs j := by
  have key : ∀ m, m ≤ 7 → foldN (fun s t => t + (if (nt k ||| bt j) >>> (nt s &&& 31) &&& 1 = 1 then vs s else 0)) m 0 = foldN (fun s t => t + (if nt k >>> (nt s &&& 31) &&& 1 = 1 then vs s else 0)) m 0 + (if j < m then vs j else 0) := by
    intro m
    induction m with
    | zero => intro _; rfl
    | succ m ih =>
      intro hm
      show foldN _ m 0 + _ = foldN _ m 0 + _ + _
      have eb := bit_or7 j hj m (by omega) k hk
      rw [ih (by omega)]
      by_cases h1 : m = j
      · subst h1
        rw [if_pos (show (nt k ||| bt m) >>> (nt m &&& 31) &&& 1 = 1 from by rw [eb]; exact Or.inl rfl), if_neg hb, if_neg (Nat.lt_irrefl m), if_pos (Nat.lt_succ_self m), Int32.add_zero]
      · have e1 : (if (nt k ||| bt j) >>> (nt m &&& 31) &&& 1 = 1 then vs m else 0) = (if nt k >>> (nt m &&& 31) &&& 1 = 1 then vs m else 0) := by simp only [eb, h1, false_or]
        rw [e1]
        by_cases h2 : j < m
        · rw [if_pos h2, if_pos (show j < m + 1 by omega), Int32.add_assoc, Int32.add_assoc, Int32.add_comm (vs j)]
        · rw [if_neg h2, if_neg (show ¬ j < m + 1 by omega), Int32.add_zero, Int32.add_zero]
  have h := key 7 (Nat.le_refl 7)
  rw [if_pos hj] at h
  exact h
section Q3
variable {d n x c : Nat} {Φ : POut → PM → Prop} {I J : Nat → Nat → Int32} {L : Nat → Nat → Int64} {k s h v w a b clocks bits : Int32} {p q : Scr}
def swF (vs : Nat → Int32) (s : Int32) (k : Nat) (t : Int32) : Int32 := if nt k >>> (s &&& 31) &&& 1 = 1 then t else if vot vs 127 < vot vs (nt k) * 2 then t else if (vot vs (nt k) + vs s.toNatClampNeg) * 2 ≤ vot vs 127 then t else t + 1
theorem pow7 : ∀ N, N ≤ 7 → (1 : Int32) <<< (nt N &&& 31) = nt (2 ^ N) := by decide
theorem pow7m : ∀ N, N ≤ 7 → (1 : Int32) <<< (nt N &&& 31) - 1 = nt (2 ^ N - 1) := by decide
theorem p127 : ∀ N, N ≤ 7 → ((1 : Int32) <<< (nt N &&& 31) - 1) &&& 127 = (1 : Int32) <<< (nt N &&& 31) - 1 := by decide
def aSwing (I : Nat → Nat → Int32) (s : Int32) : An := if 0 ≤ s ∧ s ≤ I 12 5 - 1 then (.inl ((foldN (swF (I 14) s) (2 ^ sI I) 0 : Int32))) else .inr (1, 1)
theorem t_aSwing {I J : Nat → Nat → Int32} {s : Int32} (h : view J = view I) : aSwing J s = aSwing I s := by
  unfold aSwing
  simp only [t12 h, t14 h, tr_s h]
theorem q153 (hI : Inv I) (hx : x + 1 ≤ 600) (h : resC n I L x Φ (aSwing I s)) : wpc (d + 12) 153 [.ref (9 : Nat), .int s] (mk n I L x) Φ := by
  show wp (d + 12) 153 0 [.ref (9 : Nat), .int s, noV, noV, noV, noV, noV] [] (mk n I L x) Φ
  unfold aSwing at h
  have hC := hI.1.1
  by_cases g1 : 0 ≤ s ∧ s ≤ I 12 5 - 1
  · rw [if_pos g1] at h
    have g2 := g1
    obtain ⟨j, hj, rfl⟩ := isN (inv_s hI) (inv_s7 hI) g1
    have hj7 : j < 7 := by have := inv_s7 hI; omega
    have i1 : atv 7 (I 14) (nt j) = I 14 j := atv_nt hj7 (by decide)
    have i2 := nt_clamp (k := j) (by omega)
    have hp : 2 ^ sI I ≤ 2 ^ 7 := Nat.pow_le_pow_right (by decide) (inv_s7 hI)
    simp (config := {decide := true}) only [r153_0, r153_1, r153_2, r153_5, r153_6, r153_9, r153_11, r153_14, r153_15, r153_16, r153_19, r153_20, r153_23, r153_24, r153_25, r153_27, r153_28, if_true, if_false, Nat.reduceAdd, Int32.reduceToNatClampNeg, lo_i, lo_r, lo_n, kont_v, kont_n, List.length_nil, List.length_cons, and_self, and_true, true_and, and_false, false_and, not_true, not_false_eq_true, true_or, or_true, bi_eq0, c181 hx, c179 hx, c180 hx, c182, c183, kx, g2, k12, c87 k12, c83 k12, i1]
    refine loopD (P := fun k t => ∀ v, NL v → wp (d + 12) 153 30 [.ref (9 : Nat), .int (nt j), .int (vot (I 14) 127), .int (I 14 j), .int t, .int (nt k), v] [] (mk n I L x) Φ) (Q := fun t => Φ (.inl (some (.int t))) (mk n I L x)) (n := 2 ^ sI I) (f := swF (I 14) (nt j)) ?_ ?_ 0 (okC h) noV lo_n
    · intro k t hk hn v hv
      replace hn := hn (.int (vot (I 14) (nt k))) (lo_i _)
      have e1 : ¬ (nt (2 ^ sI I) ≤ nt k) := nt_nle hk (by omega)
      unfold swF at hn
      rw [i2] at hn
      rw [r153_30]
      by_cases h1 : nt k >>> (nt j &&& 31) &&& 1 = 1
      · rw [if_pos h1] at hn
        simp (config := {decide := true}) only [r153_32, r153_33, r153_34, r153_37, r153_40, r153_41, r153_44, r153_45, r153_48, r153_50, r153_53, r153_55, r153_57, r153_58, r153_61, r153_64, r153_66, r153_67, r153_68, r153_69, r153_72, r153_74, r153_75, r153_76, r153_77, r153_78, r153_79, r153_82, r153_85, r153_88, r153_91, r153_93, if_true, if_false, Nat.reduceAdd, Int32.reduceToNatClampNeg, lo_i, lo_r, lo_n, kont_v, kont_n, List.length_nil, List.length_cons, and_self, and_true, true_and, and_false, false_and, not_true, not_false_eq_true, true_or, or_true, bi_eq0, k12, c87 k12, inv_s hI, pow7 _ (inv_s7 hI), e1, hv, c184, h1, nt_succ]
        exact hn
      · rw [if_neg h1] at hn
        by_cases h2 : vot (I 14) 127 < vot (I 14) (nt k) * 2
        · rw [if_pos h2] at hn
          simp (config := {decide := true}) only [r153_32, r153_33, r153_34, r153_37, r153_40, r153_41, r153_44, r153_45, r153_48, r153_50, r153_53, r153_55, r153_57, r153_58, r153_61, r153_64, r153_66, r153_67, r153_68, r153_69, r153_72, r153_74, r153_75, r153_76, r153_77, r153_78, r153_79, r153_82, r153_85, r153_88, r153_91, r153_93, if_true, if_false, Nat.reduceAdd, Int32.reduceToNatClampNeg, lo_i, lo_r, lo_n, kont_v, kont_n, List.length_nil, List.length_cons, and_self, and_true, true_and, and_false, false_and, not_true, not_false_eq_true, true_or, or_true, bi_eq0, k12, c87 k12, inv_s hI, pow7 _ (inv_s7 hI), e1, hv, c184, h1, h2, nt_succ]
          exact hn
        · rw [if_neg h2] at hn
          by_cases h3 : (vot (I 14) (nt k) + I 14 j) * 2 ≤ vot (I 14) 127
          · rw [if_pos h3] at hn
            simp (config := {decide := true}) only [r153_32, r153_33, r153_34, r153_37, r153_40, r153_41, r153_44, r153_45, r153_48, r153_50, r153_53, r153_55, r153_57, r153_58, r153_61, r153_64, r153_66, r153_67, r153_68, r153_69, r153_72, r153_74, r153_75, r153_76, r153_77, r153_78, r153_79, r153_82, r153_85, r153_88, r153_91, r153_93, if_true, if_false, Nat.reduceAdd, Int32.reduceToNatClampNeg, lo_i, lo_r, lo_n, kont_v, kont_n, List.length_nil, List.length_cons, and_self, and_true, true_and, and_false, false_and, not_true, not_false_eq_true, true_or, or_true, bi_eq0, k12, c87 k12, inv_s hI, pow7 _ (inv_s7 hI), e1, hv, c184, h1, h2, h3, nt_succ]
            exact hn
          · rw [if_neg h3] at hn
            simp (config := {decide := true}) only [r153_32, r153_33, r153_34, r153_37, r153_40, r153_41, r153_44, r153_45, r153_48, r153_50, r153_53, r153_55, r153_57, r153_58, r153_61, r153_64, r153_66, r153_67, r153_68, r153_69, r153_72, r153_74, r153_75, r153_76, r153_77, r153_78, r153_79, r153_82, r153_85, r153_88, r153_91, r153_93, if_true, if_false, Nat.reduceAdd, Int32.reduceToNatClampNeg, lo_i, lo_r, lo_n, kont_v, kont_n, List.length_nil, List.length_cons, and_self, and_true, true_and, and_false, false_and, not_true, not_false_eq_true, true_or, or_true, bi_eq0, k12, c87 k12, inv_s hI, pow7 _ (inv_s7 hI), e1, hv, c184, h1, h2, h3, nt_succ]
            exact hn
    · intro t ht v hv
      have e6 : nt (2 ^ sI I) ≤ nt (2 ^ sI I) := Int32.le_refl _
      rw [r153_30]
      simp (config := {decide := true}) only [r153_32, r153_33, r153_34, r153_37, r153_40, r153_41, r153_44, r153_45, r153_48, r153_50, r153_53, r153_55, r153_57, r153_58, r153_61, r153_64, r153_66, r153_67, r153_68, r153_69, r153_72, r153_74, r153_75, r153_76, r153_77, r153_78, r153_79, r153_82, r153_85, r153_88, r153_91, r153_93, if_true, if_false, Nat.reduceAdd, Int32.reduceToNatClampNeg, lo_i, lo_r, lo_n, kont_v, kont_n, List.length_nil, List.length_cons, and_self, and_true, true_and, and_false, false_and, not_true, not_false_eq_true, true_or, or_true, bi_eq0, k12, inv_s hI, pow7 _ (inv_s7 hI), e6]
      exact ht
  · rw [if_neg g1] at h
    simp (config := {decide := true}) only [r153_0, r153_1, r153_2, r153_5, r153_6, r153_9, r153_11, r153_14, r153_15, r153_16, r153_19, r153_20, r153_23, r153_24, r153_25, r153_27, r153_28, r153_30, r153_32, r153_33, r153_34, r153_37, r153_40, r153_41, r153_44, r153_45, r153_48, r153_50, r153_53, r153_55, r153_57, r153_58, r153_61, r153_64, r153_66, r153_67, r153_68, r153_69, r153_72, r153_74, r153_75, r153_76, r153_77, r153_78, r153_79, r153_82, r153_85, r153_88, r153_91, r153_93, if_true, if_false, Nat.reduceAdd, Int32.reduceToNatClampNeg, lo_i, lo_r, lo_n, kont_v, kont_n, List.length_nil, List.length_cons, and_self, and_true, true_and, and_false, false_and, not_true, not_false_eq_true, true_or, or_true, bi_eq0, c181 hx, c179 hx, c180 hx, c182, c183, kx, g1]
    exact exC1 h
theorem u283 (hI : Inv I) (h : resM n I L x Φ (aSwing I s)) : wpc (d + 12) 283 [.ref (70 : Nat), .int s] (mk n I L x) Φ := by
  show wp (d + 12) 283 0 [.ref (70 : Nat), .int s, noV, noV, noV] [] (mk n I L x) Φ
  rw [r283_0, r283_1, r283_2]
  replace h := resM_z h
  rw [← t_aSwing v70] at h
  replace hI := tr_Inv v70 hI
  have hz := z70 (I := I)
  generalize wrI I 70 0 0 = I at h hI hz ⊢
  unfold aSwing at h
  have hM := hI.1
  by_cases g1 : 0 ≤ s ∧ s ≤ I 12 5 - 1
  · rw [if_pos g1] at h
    have g2 := g1
    obtain ⟨j, hj, rfl⟩ := isN (inv_s hI) (inv_s7 hI) g1
    have hj7 : j < 7 := by have := inv_s7 hI; omega
    have i2 := nt_clamp (k := j) (by omega)
    have hp : 2 ^ sI I ≤ 2 ^ 7 := Nat.pow_le_pow_right (by decide) (inv_s7 hI)
    have hq : 0 < 2 ^ sI I := Nat.pow_pos (by decide)
    have ea : vot (I 14) (1 <<< (I 12 5 &&& 31) - 1) = vot (I 14) 127 := by
      rw [inv_s hI, ← p127 _ (inv_s7 hI)]
      exact vot_and (inv_s7 hI) hI.2.2.1.2
    simp (config := {decide := true}) only [r283_5, r283_6, r283_7, r283_8, r283_11, r283_14, r283_15, r283_18, r283_19, r283_20, r283_21, r283_24, r283_27, r283_28, r283_29, r283_30, r283_31, r283_32, r283_33, r283_36, r283_39, r283_40, r283_41, if_true, if_false, Nat.reduceAdd, Int32.reduceToNatClampNeg, lo_i, lo_r, lo_n, kont_v, kont_n, List.length_nil, List.length_cons, and_self, and_true, true_and, and_false, false_and, not_true, not_false_eq_true, true_or, or_true, bi_eq0, b10 hz, b11 hz, b21 hz, m194, m259, m257 hI, g2, m282 hI, m281 hI, ea]
    refine loopD (P := fun k t => wp (d + 12) 283 43 [.ref (70 : Nat), .int (nt j), .int t, .int (vot (I 14) 127), .int (nt k)] [] (mk n I L x) Φ) (Q := fun t => Φ (.inl (some (.int t))) (mk n I L x)) (n := 2 ^ sI I) (f := swF (I 14) (nt j)) ?_ ?_ 0 (oqM h hz)
    · intro k t hk hn
      have e0 : (1 : Int32) <<< (I 12 5 &&& 31) - 1 = nt (2 ^ sI I - 1) := by rw [inv_s hI]; exact pow7m _ (inv_s7 hI)
      have e1 : ¬ (nt (2 ^ sI I - 1) < nt k) := by rw [nt_lt (by omega) (by omega)]; omega
      unfold swF at hn
      rw [i2] at hn
      rw [r283_43]
      by_cases h1 : nt k >>> (nt j &&& 31) &&& 1 = 1
      · rw [if_pos h1] at hn
        simp (config := {decide := true}) only [r283_45, r283_46, r283_49, r283_52, r283_53, r283_55, r283_56, r283_59, r283_62, r283_63, r283_64, r283_66, r283_69, r283_70, r283_71, r283_74, r283_75, r283_76, r283_78, r283_79, r283_80, r283_81, r283_82, r283_85, r283_86, r283_87, r283_90, r283_91, r283_94, r283_95, r283_96, r283_97, r283_100, r283_103, r283_104, if_true, if_false, Nat.reduceAdd, Int32.reduceToNatClampNeg, lo_i, lo_r, lo_n, kont_v, kont_n, List.length_nil, List.length_cons, and_self, and_true, true_and, and_false, false_and, not_true, not_false_eq_true, true_or, or_true, bi_eq0, m282 hI, e0, e1, m197, h1, nt_succ, Int32.add_zero]
        exact hn
      · rw [if_neg h1] at hn
        have eo : vot (I 14) (nt k ||| 1 <<< (nt j &&& 31)) = vot (I 14) (nt k) + I 14 j := vot_or hj7 (by omega) h1
        rw [Int32.mul_comm, Int32.mul_comm _ 2] at hn
        by_cases h2 : vot (I 14) 127 < 2 * vot (I 14) (nt k)
        · rw [if_pos h2] at hn
          simp (config := {decide := true}) only [r283_45, r283_46, r283_49, r283_52, r283_53, r283_55, r283_56, r283_59, r283_62, r283_63, r283_64, r283_66, r283_69, r283_70, r283_71, r283_74, r283_75, r283_76, r283_78, r283_79, r283_80, r283_81, r283_82, r283_85, r283_86, r283_87, r283_90, r283_91, r283_94, r283_95, r283_96, r283_97, r283_100, r283_103, r283_104, if_true, if_false, Nat.reduceAdd, Int32.reduceToNatClampNeg, lo_i, lo_r, lo_n, kont_v, kont_n, List.length_nil, List.length_cons, and_self, and_true, true_and, and_false, false_and, not_true, not_false_eq_true, true_or, or_true, bi_eq0, m282 hI, m281 hI, e0, e1, m197, h1, h2, nt_succ, Int32.add_zero]
          exact hn
        · rw [if_neg h2] at hn
          by_cases h3 : 2 * (vot (I 14) (nt k) + I 14 j) ≤ vot (I 14) 127
          · rw [if_pos h3] at hn
            simp (config := {decide := true}) only [r283_45, r283_46, r283_49, r283_52, r283_53, r283_55, r283_56, r283_59, r283_62, r283_63, r283_64, r283_66, r283_69, r283_70, r283_71, r283_74, r283_75, r283_76, r283_78, r283_79, r283_80, r283_81, r283_82, r283_85, r283_86, r283_87, r283_90, r283_91, r283_94, r283_95, r283_96, r283_97, r283_100, r283_103, r283_104, if_true, if_false, Nat.reduceAdd, Int32.reduceToNatClampNeg, lo_i, lo_r, lo_n, kont_v, kont_n, List.length_nil, List.length_cons, and_self, and_true, true_and, and_false, false_and, not_true, not_false_eq_true, true_or, or_true, bi_eq0, m282 hI, m281 hI, e0, e1, m197, h1, h2, eo, h3, nt_succ, Int32.add_zero]
            exact hn
          · rw [if_neg h3] at hn
            simp (config := {decide := true}) only [r283_45, r283_46, r283_49, r283_52, r283_53, r283_55, r283_56, r283_59, r283_62, r283_63, r283_64, r283_66, r283_69, r283_70, r283_71, r283_74, r283_75, r283_76, r283_78, r283_79, r283_80, r283_81, r283_82, r283_85, r283_86, r283_87, r283_90, r283_91, r283_94, r283_95, r283_96, r283_97, r283_100, r283_103, r283_104, if_true, if_false, Nat.reduceAdd, Int32.reduceToNatClampNeg, lo_i, lo_r, lo_n, kont_v, kont_n, List.length_nil, List.length_cons, and_self, and_true, true_and, and_false, false_and, not_true, not_false_eq_true, true_or, or_true, bi_eq0, m282 hI, m281 hI, e0, e1, m197, h1, h2, eo, h3, nt_succ]
            exact hn
    · intro t ht
      have e0 : (1 : Int32) <<< (I 12 5 &&& 31) - 1 = nt (2 ^ sI I - 1) := by rw [inv_s hI]; exact pow7m _ (inv_s7 hI)
      have e1 : nt (2 ^ sI I - 1) < nt (2 ^ sI I) := by rw [nt_lt (by omega) (by omega)]; omega
      rw [r283_43]
      simp (config := {decide := true}) only [r283_45, r283_46, r283_49, r283_52, r283_53, r283_55, r283_56, r283_59, r283_62, r283_63, r283_64, r283_66, r283_69, r283_70, r283_71, r283_74, r283_75, r283_76, r283_78, r283_79, r283_80, r283_81, r283_82, r283_85, r283_86, r283_87, r283_90, r283_91, r283_94, r283_95, r283_96, r283_97, r283_100, r283_103, r283_104, if_true, if_false, Nat.reduceAdd, Int32.reduceToNatClampNeg, lo_i, lo_r, lo_n, kont_v, kont_n, List.length_nil, List.length_cons, and_self, and_true, true_and, and_false, false_and, not_true, not_false_eq_true, true_or, or_true, bi_eq0, m282 hI, e0, e1]
      exact ht
  · rw [if_neg g1] at h
    simp (config := {decide := true}) only [r283_5, r283_6, r283_7, r283_8, r283_11, r283_14, r283_15, r283_18, r283_19, r283_20, r283_21, r283_24, r283_27, r283_28, r283_29, r283_30, r283_31, r283_32, r283_33, r283_36, r283_39, r283_40, r283_41, r283_43, r283_45, r283_46, r283_49, r283_52, r283_53, r283_55, r283_56, r283_59, r283_62, r283_63, r283_64, r283_66, r283_69, r283_70, r283_71, r283_74, r283_75, r283_76, r283_78, r283_79, r283_80, r283_81, r283_82, r283_85, r283_86, r283_87, r283_90, r283_91, r283_94, r283_95, r283_96, r283_97, r283_100, r283_103, r283_104, if_true, if_false, Nat.reduceAdd, Int32.reduceToNatClampNeg, lo_i, lo_r, lo_n, kont_v, kont_n, List.length_nil, List.length_cons, and_self, and_true, true_and, and_false, false_and, not_true, not_false_eq_true, true_or, or_true, bi_eq0, b10 hz, b11 hz, b21 hz, m194, m259, m257 hI, m258 hI, m266 hI, m274 hI, g1]
    exact exM h
def loF (I : Nat → Nat → Int32) (f : Nat → Int32) (j k : Nat) (q : Int32 × Int32) : Int32 × Int32 := if nzJ I f j k ≤ q.2 then q else (nt k, nzJ I f j k)
theorem tr_lo (h : view J = view I) : loF J = loF I := by
  funext f j k q
  unfold loF
  rw [tr_nj h]
def aLoudest (I : Nat → Nat → Int32) (s : Int32) (w : Int32) : An := if 0 ≤ s ∧ s ≤ I 12 5 - 1 then (if 0 ≤ w ∧ w ≤ 1 then (.inl ((if w = 0 then (foldN (loF I (I 41) s.toNatClampNeg) (cI I) (-1, -1)).1 else (foldN (loF I (I 41) s.toNatClampNeg) (cI I) (-1, -1)).2 : Int32))) else .inr (2, 2)) else .inr (1, 1)
theorem t_aLoudest {I J : Nat → Nat → Int32} {s w : Int32} (h : view J = view I) : aLoudest J s w = aLoudest I s w := by
  unfold aLoudest
  simp only [t12 h, t41 h, tr_c h, tr_lo h]
theorem q158 (hI : Inv I) (hx : x + 1 ≤ 600) (h : resC n I L x Φ (aLoudest I s w)) : wpc (d + 12) 158 [.ref (9 : Nat), .int s, .int w] (mk n I L x) Φ := by
  show wp (d + 12) 158 0 [.ref (9 : Nat), .int s, .int w, noV, noV, noV, noV] [] (mk n I L x) Φ
  unfold aLoudest at h
  have hC := hI.1.1
  by_cases g1 : 0 ≤ s ∧ s ≤ I 12 5 - 1
  · rw [if_pos g1] at h
    by_cases g2 : 0 ≤ w ∧ w ≤ 1
    · rw [if_pos g2] at h
      have g3 := g1
      obtain ⟨j, hj, rfl⟩ := isN (inv_s hI) (inv_s7 hI) g1
      have hj7 : j < 7 := by have := inv_s7 hI; omega
      have h6 := inv_c6 hI
      rw [nt_clamp (k := j) (by omega)] at h
      simp (config := {decide := true}) only [r158_0, r158_1, r158_2, r158_5, r158_6, r158_7, r158_8, r158_9, r158_12, r158_15, r158_16, r158_17, r158_18, r158_20, r158_21, if_true, if_false, Nat.reduceAdd, Int32.reduceToNatClampNeg, lo_i, lo_r, lo_n, kont_v, kont_n, List.length_nil, List.length_cons, and_self, and_true, true_and, and_false, false_and, not_true, not_false_eq_true, true_or, or_true, bi_eq0, c181 hx, c179 hx, c180 hx, c182, c183, kx, g2, g3]
      refine loopD (P := fun k (t : Int32 × Int32) => ∀ q v, NL v → wp (d + 12) 158 23 [.ref (9 : Nat), .int (nt j), .int w, .int t.1, .int t.2, .int (nt k), v] [] (mk n (scr I q) L x) Φ) (Q := fun t => ∀ q, Φ (.inl (some (.int (if w = 0 then t.1 else t.2)))) (mk n (scr I q) L x)) (n := cI I) (f := loF I (I 41) j) ?_ ?_ (-1, -1) (fun q => by
          have h2 := okCs (q := q) h
          by_cases g4 : w = 0
          · rw [if_pos g4] at h2 ⊢; exact h2
          · rw [if_neg g4] at h2 ⊢; exact h2) (I 26, I 27) noV lo_n |> fun hh => by rw [scr_self] at hh; exact hh
      · intro k t hk hn q v hv
        replace hn := hn (hdS I (I 41) (nt j) (1 <<< (nt k &&& 31)) q) (.int (nzJ I (I 41) j k)) (lo_i _)
        have e1 : ¬ (nt (cI I) ≤ nt k) := nt_nle hk (by omega)
        have u12 : ∀ q, scr I q 12 = I 12 := fun q => scr_ne (by decide) (by decide)
        unfold loF at hn
        rw [r158_23]
        by_cases h1 : nzJ I (I 41) j k ≤ t.2
        · rw [if_pos h1] at hn
          simp (config := {decide := true}) only [r158_25, r158_26, r158_29, r158_32, r158_35, r158_36, r158_39, r158_40, r158_43, r158_44, r158_45, r158_47, r158_48, r158_51, r158_53, r158_55, r158_57, r158_60, r158_62, r158_63, r158_65, r158_67, r158_70, r158_73, r158_74, r158_77, r158_78, r158_81, r158_83, if_true, if_false, Nat.reduceAdd, Int32.reduceToNatClampNeg, lo_i, lo_r, lo_n, kont_v, kont_n, List.length_nil, List.length_cons, and_self, and_true, true_and, and_false, false_and, not_true, not_false_eq_true, true_or, or_true, bi_eq0, k12, k40, u12, inv_c hI, e1, hv, f23 hC k40, hd_one hj7 hk h6, h1, nt_succ]
          exact hn
        · rw [if_neg h1] at hn
          simp (config := {decide := true}) only [r158_25, r158_26, r158_29, r158_32, r158_35, r158_36, r158_39, r158_40, r158_43, r158_44, r158_45, r158_47, r158_48, r158_51, r158_53, r158_55, r158_57, r158_60, r158_62, r158_63, r158_65, r158_67, r158_70, r158_73, r158_74, r158_77, r158_78, r158_81, r158_83, if_true, if_false, Nat.reduceAdd, Int32.reduceToNatClampNeg, lo_i, lo_r, lo_n, kont_v, kont_n, List.length_nil, List.length_cons, and_self, and_true, true_and, and_false, false_and, not_true, not_false_eq_true, true_or, or_true, bi_eq0, k12, k40, u12, inv_c hI, e1, hv, f23 hC k40, hd_one hj7 hk h6, h1, nt_succ]
          exact hn
      · intro t ht q v hv
        have u12 : ∀ q, scr I q 12 = I 12 := fun q => scr_ne (by decide) (by decide)
        have e6 : nt (cI I) ≤ nt (cI I) := Int32.le_refl _
        replace ht := ht q
        rw [r158_23]
        by_cases g4 : w = 0
        · rw [if_pos g4] at ht
          simp (config := {decide := true}) only [r158_25, r158_26, r158_29, r158_32, r158_35, r158_36, r158_39, r158_40, r158_43, r158_44, r158_45, r158_47, r158_48, r158_51, r158_53, r158_55, r158_57, r158_60, r158_62, r158_63, r158_65, r158_67, r158_70, r158_73, r158_74, r158_77, r158_78, r158_81, r158_83, if_true, if_false, Nat.reduceAdd, Int32.reduceToNatClampNeg, lo_i, lo_r, lo_n, kont_v, kont_n, List.length_nil, List.length_cons, and_self, and_true, true_and, and_false, false_and, not_true, not_false_eq_true, true_or, or_true, bi_eq0, k12, u12, inv_c hI, e6, g4]
          exact ht
        · rw [if_neg g4] at ht
          simp (config := {decide := true}) only [r158_25, r158_26, r158_29, r158_32, r158_35, r158_36, r158_39, r158_40, r158_43, r158_44, r158_45, r158_47, r158_48, r158_51, r158_53, r158_55, r158_57, r158_60, r158_62, r158_63, r158_65, r158_67, r158_70, r158_73, r158_74, r158_77, r158_78, r158_81, r158_83, if_true, if_false, Nat.reduceAdd, Int32.reduceToNatClampNeg, lo_i, lo_r, lo_n, kont_v, kont_n, List.length_nil, List.length_cons, and_self, and_true, true_and, and_false, false_and, not_true, not_false_eq_true, true_or, or_true, bi_eq0, k12, u12, inv_c hI, e6, g4]
          exact ht
    · rw [if_neg g2] at h
      simp (config := {decide := true}) only [r158_0, r158_1, r158_2, r158_5, r158_6, r158_7, r158_8, r158_9, r158_12, r158_15, r158_16, r158_17, r158_18, r158_20, r158_21, r158_23, r158_25, r158_26, r158_29, r158_32, r158_35, r158_36, r158_39, r158_40, r158_43, r158_44, r158_45, r158_47, r158_48, r158_51, r158_53, r158_55, r158_57, r158_60, r158_62, r158_63, r158_65, r158_67, r158_70, r158_73, r158_74, r158_77, r158_78, r158_81, r158_83, if_true, if_false, Nat.reduceAdd, Int32.reduceToNatClampNeg, lo_i, lo_r, lo_n, kont_v, kont_n, List.length_nil, List.length_cons, and_self, and_true, true_and, and_false, false_and, not_true, not_false_eq_true, true_or, or_true, bi_eq0, c181 hx, c179 hx, c180 hx, c182, c183, kx, g1, g2]
      exact exC2 h
  · rw [if_neg g1] at h
    simp (config := {decide := true}) only [r158_0, r158_1, r158_2, r158_5, r158_6, r158_7, r158_8, r158_9, r158_12, r158_15, r158_16, r158_17, r158_18, r158_20, r158_21, r158_23, r158_25, r158_26, r158_29, r158_32, r158_35, r158_36, r158_39, r158_40, r158_43, r158_44, r158_45, r158_47, r158_48, r158_51, r158_53, r158_55, r158_57, r158_60, r158_62, r158_63, r158_65, r158_67, r158_70, r158_73, r158_74, r158_77, r158_78, r158_81, r158_83, if_true, if_false, Nat.reduceAdd, Int32.reduceToNatClampNeg, lo_i, lo_r, lo_n, kont_v, kont_n, List.length_nil, List.length_cons, and_self, and_true, true_and, and_false, false_and, not_true, not_false_eq_true, true_or, or_true, bi_eq0, c181 hx, c179 hx, c180 hx, c182, c183, kx, g1]
    exact exC1 h
theorem u292 (hI : Inv I) (h : resM n I L x Φ (aLoudest I s w)) : wpc (d + 12) 292 [.ref (70 : Nat), .int s, .int w] (mk n I L x) Φ := by
  show wp (d + 12) 292 0 [.ref (70 : Nat), .int s, .int w, noV, noV, noV, noV] [] (mk n I L x) Φ
  rw [r292_0, r292_1, r292_2]
  replace h := resM_z h
  rw [← t_aLoudest v70] at h
  replace hI := tr_Inv v70 hI
  have hz := z70 (I := I)
  generalize wrI I 70 0 0 = I at h hI hz ⊢
  unfold aLoudest at h
  have hM := hI.1
  by_cases g1 : 0 ≤ s ∧ s ≤ I 12 5 - 1
  · rw [if_pos g1] at h
    by_cases g2 : 0 ≤ w ∧ w ≤ 1
    · rw [if_pos g2] at h
      have g3 := g1
      obtain ⟨j, hj, rfl⟩ := isN (inv_s hI) (inv_s7 hI) g1
      have h6 := inv_c6 hI
      rw [nt_clamp (k := j) (by have := inv_s7 hI; omega)] at h
      simp (config := {decide := true}) only [r292_5, r292_6, r292_7, r292_8, r292_11, r292_14, r292_15, r292_18, r292_19, r292_20, r292_21, r292_24, r292_27, r292_28, r292_29, r292_30, r292_31, r292_34, r292_37, r292_38, r292_41, r292_42, r292_43, r292_44, r292_47, r292_50, r292_51, r292_52, r292_53, r292_54, r292_55, r292_57, r292_58, if_true, if_false, Nat.reduceAdd, Int32.reduceToNatClampNeg, lo_i, lo_r, lo_n, kont_v, kont_n, List.length_nil, List.length_cons, and_self, and_true, true_and, and_false, false_and, not_true, not_false_eq_true, true_or, or_true, bi_eq0, b10 hz, b11 hz, b21 hz, m194, m259, m257 hI, g2, g3]
      refine loopD (P := fun k (t : Int32 × Int32) => ∀ q v, NL v → wp (d + 12) 292 60 [.ref (70 : Nat), .int (nt j), .int w, .int t.1, .int t.2, .int (nt k), v] [] (mk n (scm I q) L x) Φ) (Q := fun t => ∀ q, Φ (.inl (some (.int (if w = 0 then t.1 else t.2)))) (mk n (scm I q) L x)) (n := cI I) (f := loF I (I 41) j) ?_ ?_ (-1, -1) (fun q => by
          have h2 := okMs (p := q) h hz
          by_cases g4 : w = 0
          · rw [if_pos g4] at h2 ⊢; exact h2
          · rw [if_neg g4] at h2 ⊢; exact h2) (I 451, I 452) noV lo_n |> fun hh => by rw [scm_self] at hh; exact hh
      · intro k t hk hn q v hv
        replace hn := hn (noS I (I 41) j k q) (.int (nzJ I (I 41) j k)) (lo_i _)
        have e1 : ¬ (nt (cI I) ≤ nt k) := nt_nle hk (by omega)
        have u74 : ∀ q, scm I q 74 = I 74 := fun q => scm_ne (by decide) (by decide)
        unfold loF at hn
        rw [r292_60]
        by_cases h1 : nzJ I (I 41) j k ≤ t.2
        · have h3 := Int32.not_lt.mpr h1
          rw [if_pos h1] at hn
          simp (config := {decide := true}) only [r292_62, r292_63, r292_66, r292_67, r292_68, r292_71, r292_72, r292_73, r292_76, r292_77, r292_79, r292_82, r292_84, r292_86, r292_88, r292_91, r292_94, r292_96, r292_97, r292_99, r292_101, r292_104, r292_107, r292_108, r292_111, r292_112, r292_115, r292_117, if_true, if_false, Nat.reduceAdd, Int32.reduceToNatClampNeg, lo_i, lo_r, lo_n, kont_v, kont_n, List.length_nil, List.length_cons, and_self, and_true, true_and, and_false, false_and, not_true, not_false_eq_true, true_or, or_true, bi_eq0, s74, u74, hI.1.2.1.2, e1, hv, o240 hI hj hk, h3, nt_succ]
          exact hn
        · have h3 := Int32.not_le.mp h1
          rw [if_neg h1] at hn
          simp (config := {decide := true}) only [r292_62, r292_63, r292_66, r292_67, r292_68, r292_71, r292_72, r292_73, r292_76, r292_77, r292_79, r292_82, r292_84, r292_86, r292_88, r292_91, r292_94, r292_96, r292_97, r292_99, r292_101, r292_104, r292_107, r292_108, r292_111, r292_112, r292_115, r292_117, if_true, if_false, Nat.reduceAdd, Int32.reduceToNatClampNeg, lo_i, lo_r, lo_n, kont_v, kont_n, List.length_nil, List.length_cons, and_self, and_true, true_and, and_false, false_and, not_true, not_false_eq_true, true_or, or_true, bi_eq0, s74, u74, hI.1.2.1.2, e1, hv, o240 hI hj hk, h3, nt_succ]
          exact hn
      · intro t ht q v hv
        have u74 : ∀ q, scm I q 74 = I 74 := fun q => scm_ne (by decide) (by decide)
        have e6 : nt (cI I) ≤ nt (cI I) := Int32.le_refl _
        replace ht := ht q
        rw [r292_60]
        by_cases g4 : w = 0
        · rw [if_pos g4] at ht
          simp (config := {decide := true}) only [r292_62, r292_63, r292_66, r292_67, r292_68, r292_71, r292_72, r292_73, r292_76, r292_77, r292_79, r292_82, r292_84, r292_86, r292_88, r292_91, r292_94, r292_96, r292_97, r292_99, r292_101, r292_104, r292_107, r292_108, r292_111, r292_112, r292_115, r292_117, if_true, if_false, Nat.reduceAdd, Int32.reduceToNatClampNeg, lo_i, lo_r, lo_n, kont_v, kont_n, List.length_nil, List.length_cons, and_self, and_true, true_and, and_false, false_and, not_true, not_false_eq_true, true_or, or_true, bi_eq0, s74, u74, hI.1.2.1.2, e6, g4]
          exact ht
        · rw [if_neg g4] at ht
          simp (config := {decide := true}) only [r292_62, r292_63, r292_66, r292_67, r292_68, r292_71, r292_72, r292_73, r292_76, r292_77, r292_79, r292_82, r292_84, r292_86, r292_88, r292_91, r292_94, r292_96, r292_97, r292_99, r292_101, r292_104, r292_107, r292_108, r292_111, r292_112, r292_115, r292_117, if_true, if_false, Nat.reduceAdd, Int32.reduceToNatClampNeg, lo_i, lo_r, lo_n, kont_v, kont_n, List.length_nil, List.length_cons, and_self, and_true, true_and, and_false, false_and, not_true, not_false_eq_true, true_or, or_true, bi_eq0, s74, u74, hI.1.2.1.2, e6, g4]
          exact ht
    · rw [if_neg g2] at h
      simp (config := {decide := true}) only [r292_5, r292_6, r292_7, r292_8, r292_11, r292_14, r292_15, r292_18, r292_19, r292_20, r292_21, r292_24, r292_27, r292_28, r292_29, r292_30, r292_31, r292_34, r292_37, r292_38, r292_41, r292_42, r292_43, r292_44, r292_47, r292_50, r292_51, r292_52, r292_53, r292_54, r292_55, r292_57, r292_58, r292_60, r292_62, r292_63, r292_66, r292_67, r292_68, r292_71, r292_72, r292_73, r292_76, r292_77, r292_79, r292_82, r292_84, r292_86, r292_88, r292_91, r292_94, r292_96, r292_97, r292_99, r292_101, r292_104, r292_107, r292_108, r292_111, r292_112, r292_115, r292_117, if_true, if_false, Nat.reduceAdd, Int32.reduceToNatClampNeg, lo_i, lo_r, lo_n, kont_v, kont_n, List.length_nil, List.length_cons, and_self, and_true, true_and, and_false, false_and, not_true, not_false_eq_true, true_or, or_true, bi_eq0, b10 hz, b11 hz, b21 hz, m194, m259, m257 hI, m258 hI, m266 hI, m274 hI, g1, g2]
      exact exM h
  · rw [if_neg g1] at h
    simp (config := {decide := true}) only [r292_5, r292_6, r292_7, r292_8, r292_11, r292_14, r292_15, r292_18, r292_19, r292_20, r292_21, r292_24, r292_27, r292_28, r292_29, r292_30, r292_31, r292_34, r292_37, r292_38, r292_41, r292_42, r292_43, r292_44, r292_47, r292_50, r292_51, r292_52, r292_53, r292_54, r292_55, r292_57, r292_58, r292_60, r292_62, r292_63, r292_66, r292_67, r292_68, r292_71, r292_72, r292_73, r292_76, r292_77, r292_79, r292_82, r292_84, r292_86, r292_88, r292_91, r292_94, r292_96, r292_97, r292_99, r292_101, r292_104, r292_107, r292_108, r292_111, r292_112, r292_115, r292_117, if_true, if_false, Nat.reduceAdd, Int32.reduceToNatClampNeg, lo_i, lo_r, lo_n, kont_v, kont_n, List.length_nil, List.length_cons, and_self, and_true, true_and, and_false, false_and, not_true, not_false_eq_true, true_or, or_true, bi_eq0, b10 hz, b11 hz, b21 hz, m194, m259, m257 hI, m258 hI, m266 hI, m274 hI, g1]
    exact exM h
def beF (f : Nat → Int32) (k : Nat) (t : Int32) : Int32 := if rng f (nt k) = 0 then t else t ||| bt k
theorem nt_m1 {k : Nat} (h : k < 2147483648) : nt k ≠ -1 := fun e => absurd (e ▸ nt_ge h) (by decide)
def aBells (I : Nat → Nat → Int32) : An := .inl ((foldN (beF (I 41)) 24 0 : Int32))
theorem t_aBells {I J : Nat → Nat → Int32} (h : view J = view I) : aBells J = aBells I := by
  unfold aBells
  simp only [t41 h]
theorem q167 (hI : Inv I) (hx : x + 1 ≤ 600) (h : resC n I L x Φ (aBells I)) : wpc (d + 12) 167 [.ref (9 : Nat)] (mk n I L x) Φ := by
  show wp (d + 12) 167 0 [.ref (9 : Nat), noV, noV] [] (mk n I L x) Φ
  unfold aBells at h
  have hC := hI.1.1
  simp (config := {decide := true}) only [r167_0, r167_1, r167_2, r167_3, if_true, if_false, Nat.reduceAdd, Int32.reduceToNatClampNeg, lo_i, lo_r, lo_n, kont_v, kont_n, List.length_nil, List.length_cons]
  refine loopD (P := fun k t => wp (d + 12) 167 4 [.ref (9 : Nat), .int t, .int (nt k)] [] (mk n I L x) Φ) (Q := fun t => Φ (.inl (some (.int t))) (mk n I L x)) (n := 24) (f := beF (I 41)) ?_ ?_ 0 (okC h)
  · intro k t hk hn
    have e1 : ¬ ((24 : Int32) ≤ nt k) := nt_nle (m := 24) hk (by decide)
    unfold beF at hn
    rw [r167_4]
    by_cases h1 : rng (I 41) (nt k) = 0
    · rw [if_pos h1] at hn
      simp (config := {decide := true}) only [r167_5, r167_7, r167_10, r167_11, r167_14, r167_15, r167_18, r167_21, r167_22, r167_23, r167_24, r167_25, r167_26, r167_27, r167_30, r167_33, r167_34, if_true, if_false, Nat.reduceAdd, Int32.reduceToNatClampNeg, lo_i, lo_r, lo_n, kont_v, kont_n, List.length_nil, List.length_cons, k40, c62 k40, e1, h1, nt_succ]
      exact hn
    · rw [if_neg h1] at hn
      simp (config := {decide := true}) only [r167_5, r167_7, r167_10, r167_11, r167_14, r167_15, r167_18, r167_21, r167_22, r167_23, r167_24, r167_25, r167_26, r167_27, r167_30, r167_33, r167_34, if_true, if_false, Nat.reduceAdd, Int32.reduceToNatClampNeg, lo_i, lo_r, lo_n, kont_v, kont_n, List.length_nil, List.length_cons, k40, c62 k40, e1, h1, nt_succ]
      exact hn
  · intro t ht
    rw [r167_4]
    simp (config := {decide := true}) only [r167_5, r167_7, r167_10, r167_11, r167_14, r167_15, r167_18, r167_21, r167_22, r167_23, r167_24, r167_25, r167_26, r167_27, r167_30, r167_33, r167_34, if_true, if_false, Nat.reduceAdd, Int32.reduceToNatClampNeg, lo_i, lo_r, lo_n, kont_v, kont_n, List.length_nil, List.length_cons]
    exact ht
theorem u298 (hI : Inv I) (h : resM n I L x Φ (aBells I)) : wpc (d + 12) 298 [.ref (70 : Nat)] (mk n I L x) Φ := by
  show wp (d + 12) 298 0 [.ref (70 : Nat), noV, noV] [] (mk n I L x) Φ
  rw [r298_0, r298_1, r298_2]
  replace h := resM_z h
  rw [← t_aBells v70] at h
  replace hI := tr_Inv v70 hI
  have hz := z70 (I := I)
  generalize wrI I 70 0 0 = I at h hI hz ⊢
  unfold aBells at h
  have hM := hI.1
  simp (config := {decide := true}) only [r298_5, r298_6, r298_7, r298_8, if_true, if_false, Nat.reduceAdd, Int32.reduceToNatClampNeg, lo_i, lo_r, lo_n, kont_v, kont_n, List.length_nil, List.length_cons]
  refine loopD (P := fun k t => wp (d + 12) 298 9 [.ref (70 : Nat), .int t, .int (nt k)] [] (mk n I L x) Φ) (Q := fun t => Φ (.inl (some (.int t))) (mk n I L x)) (n := 24) (f := beF (I 41)) ?_ ?_ 0 (oqM h hz)
  · intro k t hk hn
    have e1 : ¬ ((24 : Int32) ≤ nt k) := nt_nle (m := 24) hk (by decide)
    have e2 : nt k ≠ -1 := nt_m1 (by omega)
    unfold beF at hn
    rw [r298_9]
    by_cases h1 : rng (I 41) (nt k) = 0
    · rw [if_pos h1] at hn
      simp (config := {decide := true}) only [r298_10, r298_12, r298_15, r298_16, r298_17, r298_18, r298_21, r298_22, r298_25, r298_28, r298_29, r298_32, r298_33, r298_34, r298_35, r298_36, r298_37, r298_40, r298_43, r298_44, if_true, if_false, Nat.reduceAdd, Int32.reduceToNatClampNeg, lo_i, lo_r, lo_n, kont_v, kont_n, List.length_nil, List.length_cons, n244 hI e2, e1, h1, nt_succ, Int32.or_zero]
      exact hn
    · rw [if_neg h1] at hn
      simp (config := {decide := true}) only [r298_10, r298_12, r298_15, r298_16, r298_17, r298_18, r298_21, r298_22, r298_25, r298_28, r298_29, r298_32, r298_33, r298_34, r298_35, r298_36, r298_37, r298_40, r298_43, r298_44, if_true, if_false, Nat.reduceAdd, Int32.reduceToNatClampNeg, lo_i, lo_r, lo_n, kont_v, kont_n, List.length_nil, List.length_cons, n244 hI e2, e1, h1, nt_succ]
      exact hn
  · intro t ht
    rw [r298_9]
    simp (config := {decide := true}) only [r298_10, r298_12, r298_15, r298_16, r298_17, r298_18, r298_21, r298_22, r298_25, r298_28, r298_29, r298_32, r298_33, r298_34, r298_35, r298_36, r298_37, r298_40, r298_43, r298_44, if_true, if_false, Nat.reduceAdd, Int32.reduceToNatClampNeg, lo_i, lo_r, lo_n, kont_v, kont_n, List.length_nil, List.length_cons]
    exact ht
def unF (f : Nat → Int32) (k : Nat) (_ : Unit) : Unit ⊕ Int32 := if rng f (irm (f 81 + nt k) 24) = 0 then .inl () else .inr (nt k)
def unV (r : Unit ⊕ Int32) : Int32 := match r with
  | .inl _ => -1
  | .inr v => v
theorem irm24 : ∀ m, m < 48 → irm (nt m) 24 = nt (m % 24) := by decide
def aUntil (I : Nat → Nat → Int32) : An := .inl ((unV (foldE (unF (I 41)) 24 0 ()) : Int32))
theorem t_aUntil {I J : Nat → Nat → Int32} (h : view J = view I) : aUntil J = aUntil I := by
  unfold aUntil
  simp only [t41 h]
theorem q168 (hI : Inv I) (hx : x + 1 ≤ 600) (h : resC n I L x Φ (aUntil I)) : wpc (d + 12) 168 [.ref (9 : Nat)] (mk n I L x) Φ := by
  show wp (d + 12) 168 0 [.ref (9 : Nat), noV] [] (mk n I L x) Φ
  unfold aUntil at h
  have hC := hI.1.1
  have hh : sumE (fun _ => Φ (.inl (some (.int (-1)))) (mk n I L x)) (fun r => Φ (.inl (some (.int r))) (mk n I L x)) (foldE (unF (I 41)) 24 0 ()) := by
    have h2 := okC h
    unfold unV at h2
    revert h2
    cases foldE (unF (I 41)) 24 0 () <;> exact id
  simp (config := {decide := true}) only [r168_0, r168_1, if_true, if_false, Nat.reduceAdd, Int32.reduceToNatClampNeg, lo_i, lo_r, lo_n, kont_v, kont_n, List.length_nil, List.length_cons]
  refine loopF (P := fun k _ => wp (d + 12) 168 2 [.ref (9 : Nat), .int (nt k)] [] (mk n I L x) Φ) (Q := fun _ => Φ (.inl (some (.int (-1)))) (mk n I L x)) (R := fun r => Φ (.inl (some (.int r))) (mk n I L x)) (f := unF (I 41)) (n := 24) ?_ ?_ 24 0 () rfl hh
  · intro k t hk hn
    have e1 : ¬ ((24 : Int32) ≤ nt k) := nt_nle (m := 24) hk (by decide)
    unfold unF at hn
    rw [r168_2]
    by_cases h1 : rng (I 41) (irm (I 41 81 + nt k) 24) = 0
    · rw [if_pos h1] at hn
      simp (config := {decide := true}) only [r168_3, r168_5, r168_8, r168_9, r168_12, r168_13, r168_16, r168_19, r168_20, r168_21, r168_23, r168_24, r168_27, r168_30, r168_31, r168_32, r168_35, r168_38, r168_39, if_true, if_false, Nat.reduceAdd, Int32.reduceToNatClampNeg, lo_i, lo_r, lo_n, kont_v, kont_n, List.length_nil, List.length_cons, k40, c43 k40, c62 k40, e1, h1, nt_succ]
      exact hn
    · rw [if_neg h1] at hn
      simp (config := {decide := true}) only [r168_3, r168_5, r168_8, r168_9, r168_12, r168_13, r168_16, r168_19, r168_20, r168_21, r168_23, r168_24, r168_27, r168_30, r168_31, r168_32, r168_35, r168_38, r168_39, if_true, if_false, Nat.reduceAdd, Int32.reduceToNatClampNeg, lo_i, lo_r, lo_n, kont_v, kont_n, List.length_nil, List.length_cons, k40, c43 k40, c62 k40, e1, h1, nt_succ]
      exact hn
  · intro t ht
    rw [r168_2]
    simp (config := {decide := true}) only [r168_3, r168_5, r168_8, r168_9, r168_12, r168_13, r168_16, r168_19, r168_20, r168_21, r168_23, r168_24, r168_27, r168_30, r168_31, r168_32, r168_35, r168_38, r168_39, if_true, if_false, Nat.reduceAdd, Int32.reduceToNatClampNeg, lo_i, lo_r, lo_n, kont_v, kont_n, List.length_nil, List.length_cons]
    exact ht
theorem u299 (hI : Inv I) (h : resM n I L x Φ (aUntil I)) : wpc (d + 12) 299 [.ref (70 : Nat)] (mk n I L x) Φ := by
  show wp (d + 12) 299 0 [.ref (70 : Nat), noV] [] (mk n I L x) Φ
  rw [r299_0, r299_1, r299_2]
  replace h := resM_z h
  rw [← t_aUntil v70] at h
  replace hI := tr_Inv v70 hI
  have hz := z70 (I := I)
  generalize wrI I 70 0 0 = I at h hI hz ⊢
  unfold aUntil at h
  have hM := hI.1
  have hh : sumE (fun _ => Φ (.inl (some (.int (-1)))) (mk n I L x)) (fun r => Φ (.inl (some (.int r))) (mk n I L x)) (foldE (unF (I 41)) 24 0 ()) := by
    have h2 := oqM h hz
    unfold unV at h2
    revert h2
    cases foldE (unF (I 41)) 24 0 () <;> exact id
  simp (config := {decide := true}) only [r299_5, r299_6, if_true, if_false, Nat.reduceAdd, Int32.reduceToNatClampNeg, lo_i, lo_r, lo_n, kont_v, kont_n, List.length_nil, List.length_cons]
  refine loopF (P := fun k _ => wp (d + 12) 299 7 [.ref (70 : Nat), .int (nt k)] [] (mk n I L x) Φ) (Q := fun _ => Φ (.inl (some (.int (-1)))) (mk n I L x)) (R := fun r => Φ (.inl (some (.int r))) (mk n I L x)) (f := unF (I 41)) (n := 24) ?_ ?_ 24 0 () rfl hh
  · intro k t hk hn
    have e1 : ¬ ((24 : Int32) ≤ nt k) := nt_nle (m := 24) hk (by decide)
    obtain ⟨u1, u2⟩ := hI.2.1.1.2.2.2.1
    obtain ⟨u3, u4⟩ := int_nt u1
    have e2 : irm (I 41 81 + nt k) 24 ≠ -1 := by
      rw [u3] at u2
      rw [show (24 : Int32) = nt 24 from rfl, nt_lt u4 (by decide)] at u2
      rw [u3, nt_add, irm24 _ (by omega)]
      exact nt_m1 (by omega)
    unfold unF at hn
    rw [r299_7]
    by_cases h1 : rng (I 41) (irm (I 41 81 + nt k) 24) = 0
    · rw [if_pos h1] at hn
      simp (config := {decide := true}) only [r299_8, r299_10, r299_13, r299_14, r299_15, r299_18, r299_19, r299_22, r299_24, r299_25, r299_26, r299_27, r299_29, r299_30, r299_33, r299_36, r299_37, r299_38, r299_41, r299_44, r299_45, if_true, if_false, Nat.reduceAdd, Int32.reduceToNatClampNeg, lo_i, lo_r, lo_n, kont_v, kont_n, List.length_nil, List.length_cons, s534, hI.2.1.2, vc_82, n244 hI e2, e1, h1, nt_succ]
      exact hn
    · rw [if_neg h1] at hn
      simp (config := {decide := true}) only [r299_8, r299_10, r299_13, r299_14, r299_15, r299_18, r299_19, r299_22, r299_24, r299_25, r299_26, r299_27, r299_29, r299_30, r299_33, r299_36, r299_37, r299_38, r299_41, r299_44, r299_45, if_true, if_false, Nat.reduceAdd, Int32.reduceToNatClampNeg, lo_i, lo_r, lo_n, kont_v, kont_n, List.length_nil, List.length_cons, s534, hI.2.1.2, vc_82, n244 hI e2, e1, h1, nt_succ]
      exact hn
  · intro t ht
    rw [r299_7]
    simp (config := {decide := true}) only [r299_8, r299_10, r299_13, r299_14, r299_15, r299_18, r299_19, r299_22, r299_24, r299_25, r299_26, r299_27, r299_29, r299_30, r299_33, r299_36, r299_37, r299_38, r299_41, r299_44, r299_45, if_true, if_false, Nat.reduceAdd, Int32.reduceToNatClampNeg, lo_i, lo_r, lo_n, kont_v, kont_n, List.length_nil, List.length_cons]
    exact ht
end Q3
