/-! THE REFERENCE: noise -/
def scm (I : Nat → Nat → Int32) (s : Scr) : Nat → Nat → Int32 := upR (upR I 451 s.1) 452 s.2
theorem scm_ne {I : Nat → Nat → Int32} {s : Scr} {a : Nat} (h1 : a ≠ 451) (h2 : a ≠ 452) : scm I s a = I a := by
  unfold scm
  rw [upR_ne h2, upR_ne h1]
theorem scm_p {I : Nat → Nat → Int32} {s : Scr} : scm I s 451 = s.1 := by
  unfold scm
  rw [upR_ne (by decide), upR_same]
theorem scm_i {I : Nat → Nat → Int32} {s : Scr} : scm I s 452 = s.2 := by
  unfold scm
  rw [upR_same]
theorem scm_up {I : Nat → Nat → Int32} {s : Scr} {g : Nat → Int32} : upR (scm I s) 451 g = scm I (g, s.2) := by
  unfold scm
  rw [upR_comm (by decide), upR_upR]
theorem scm_ui {I : Nat → Nat → Int32} {s : Scr} {g : Nat → Int32} : upR (scm I s) 452 g = scm I (s.1, g) := by
  unfold scm
  rw [upR_upR]
theorem scm_self (I : Nat → Nat → Int32) : scm I (I 451, I 452) = I := by
  unfold scm
  rw [upR_self, upR_self]
theorem scm_out {I : Nat → Nat → Int32} {s : Scr} {a : Nat} {g : Nat → Int32} (h1 : a ≠ 451) (h2 : a ≠ 452) : upR (scm I s) a g = scm (upR I a g) s := by
  unfold scm
  rw [upR_comm (Ne.symm h2), upR_comm (Ne.symm h1)]
theorem scm_wr {I : Nat → Nat → Int32} {s : Scr} {a i : Nat} {v : Int32} (h1 : a ≠ 451) (h2 : a ≠ 452) : wrI (scm I s) a i v = scm (wrI I a i v) s := by
  unfold wrI
  rw [scm_out h1 h2, scm_ne h1 h2]
/-- a sign of the reference and one of the class -/
def cr (a v sg : Int32) : Prop := (a = 0 ∧ sg = v ∧ v < 1000) ∨ (∃ j, j < 9 ∧ a = 1 ∧ v = nt j ∧ sg = nt (1000 + j)) ∨ (∃ j, j < 7 ∧ a = nt (2 + j) ∧ sg = nt (2000 + j))
def plain (k : Nat) : Int32 := [1000, 1001, 3, 2002, 2000, 1003, 12, 2002, 2001].getD k 0
def LC (I : Nat → Nat → Int32) : Prop := (I 70 18 = 0 ∧ lnI I = 9 ∧ ∀ k, k < 9 → I 25 k = plain k) ∨ (I 70 18 = nt (lnI I) ∧ ∀ k, k < lnI I → cr (I (114 + k) 0) (I (114 + k) 1) (I 25 k))
/-- what class and reference hold alike of the republic and the law -/
def MI (I : Nat → Nat → Int32) : Prop := CI I ∧ (I 74 0 = nt (sI I) ∧ I 74 1 = nt (cI I)) ∧ (∀ s, s < sI I → I (84 + s) 0 = I 13 s ∧ I (84 + s) 1 = I 14 s) ∧ (∀ c, c < cI I → I (99 + c) 0 = I 15 c) ∧ LC I
theorem clampc (a : Int32) : mni 99 (mxi 0 a) = mxi 0 (mni 99 a) := by
  unfold mni mxi
  by_cases h1 : 0 < a
  · rw [if_pos h1]
    by_cases h2 : a < 99
    · rw [if_pos h2, if_pos h1]
    · rw [if_neg h2, if_pos (by decide)]
  · rw [if_neg h1, if_pos (by decide), if_pos (Int32.lt_of_le_of_lt (Int32.not_lt.mp h1) (by decide)), if_neg h1]
theorem loopJ {α : Type} {P J : Nat → α → Prop} {Q : α → Prop} {f : Nat → α → α} {n : Nat} (hs : ∀ k a, k < n → J k a → (J (k + 1) (f k a) ∧ (P k a ↔ P (k + 1) (f k a)))) (he : ∀ a, J n a → (P n a ↔ Q a)) (a : α) (h0 : J 0 a) : P 0 a ↔ Q (foldN f n a) := by
  have key : ∀ k, k ≤ n → (J k (foldN f k a) ∧ (P 0 a ↔ P k (foldN f k a))) := by
    intro k
    induction k with
    | zero => intro _; exact ⟨h0, Iff.rfl⟩
    | succ k ih =>
      intro hk
      obtain ⟨h1, h2⟩ := ih (by omega)
      obtain ⟨h3, h4⟩ := hs k _ (by omega) h1
      exact ⟨h3, h2.trans h4⟩
  obtain ⟨h1, h2⟩ := key n (Nat.le_refl n)
  exact h2.trans (he _ h1)
section Mn1
variable {d n x r : Nat} {Φ : POut → PM → Prop} {I : Nat → Nat → Int32} {L : Nat → Nat → Int64} {f : Nat → Int32} {p : Scr} {k s h v a b c clocks : Int32}
theorem shL160 {k : Nat} (h : k < 160) : sh0 n (114 + k) = (20, 2, []) := by
  rw [sh0_not7 (by omega)]
  have h2 : (List.range 160).all (fun k => decide (sh0 0 (114 + k) = (20, 2, []))) = true := by decide +kernel
  exact of_decide_eq_true (List.all_eq_true.mp h2 k (List.mem_range.mpr h))
theorem sh84 {k : Nat} (h : k < 7) : sh0 n (84 + k) = (20, 2, []) := by
  match k, h with
  | 0, _ => rfl
  | 1, _ => rfl
  | 2, _ => rfl
  | 3, _ => rfl
  | 4, _ => rfl
  | 5, _ => rfl
  | 6, _ => rfl
theorem sh99 {k : Nat} (h : k < 6) : sh0 n (99 + k) = (20, 2, []) := by
  match k, h with
  | 0, _ => rfl
  | 1, _ => rfl
  | 2, _ => rfl
  | 3, _ => rfl
  | 4, _ => rfl
  | 5, _ => rfl
theorem s451 : sh0 n 451 = (20, 160, []) := by rw [sh0_not7 (by decide)]; decide +kernel
theorem s452 : sh0 n 452 = (20, 9, []) := by rw [sh0_not7 (by decide)]; decide +kernel
theorem s113 : sh0 n 113 = (22, 160, (List.range 160).map (fun j => .ref (114 + j))) := by rw [sh0_not7 (by decide)]; decide +kernel
theorem s83 : sh0 n 83 = (22, 7, (List.range 7).map (fun j => .ref (84 + j))) := by rw [sh0_not7 (by decide)]; decide +kernel
theorem s98 : sh0 n 98 = (22, 6, (List.range 6).map (fun j => .ref (99 + j))) := by rw [sh0_not7 (by decide)]; decide +kernel
def st0 (p : Scr) : Nat → Int32 := upd p.1 0 (p.2 0 + 3 * p.2 1 - 12 * p.2 3)
def byS (I : Nat → Nat → Int32) (p : Scr) : Nat → Int32 := if I 70 18 = 0 then st0 p else (nzA (I 25) p.2 (lnI I) (st0 p)).2
/-- the law without a text -/
theorem plain_val {sg inp g : Nat → Int32} (h : ∀ k, k < 9 → sg k = plain k) : nzV sg inp 9 g = mxi 0 (mni 99 (inp 0 + 3 * inp 1 - 12 * inp 3)) := by
  have v : ∀ k j t g, k < 9 → plain k = nt (1000 + j) → j < 9 → t < 150 → nzF sg inp k (nt t, g) = (nt (t + 1), upd g t (inp j)) := by
    intro k j t g hk hp hj ht
    have c1 : ¬ 2000 ≤ sg k := by rw [h k hk, hp]; exact nt_nle (m := 2000) (by omega) (by decide)
    have c2 : 1000 ≤ sg k := by rw [h k hk, hp, show (1000 : Int32) = nt 1000 from rfl, nt_le (by decide) (by omega)]; omega
    have e : ∀ j, j < 9 → nt (1000 + j) - 1000 = nt j := by decide
    unfold nzF
    rw [if_pos c2, if_neg c1, nt_succ, st_nt ht (by decide), h k hk, hp, e j hj, atv_nt hj (by decide)]
  have w : ∀ k z t g, k < 9 → plain k = nt z → z < 1000 → t < 150 → nzF sg inp k (nt t, g) = (nt (t + 1), upd g t (nt z)) := by
    intro k z t g hk hp hz ht
    have c2 : ¬ 1000 ≤ sg k := by rw [h k hk, hp]; exact nt_nle (m := 1000) (by omega) (by decide)
    unfold nzF
    rw [if_neg c2, nt_succ, st_nt ht (by decide), h k hk, hp]
  have o : ∀ k j t g, k < 9 → plain k = nt (2000 + j) → j < 7 → t + 2 < 150 → nzF sg inp k (nt (t + 2), g) = (nt (t + 1), upd g t (jn (nt (2000 + j)) (g t) (g (t + 1)))) := by
    intro k j t g hk hp hj ht
    have c1 : 2000 ≤ sg k := by rw [h k hk, hp, show (2000 : Int32) = nt 2000 from rfl, nt_le (by decide) (by omega)]; omega
    have c2 : 1000 ≤ sg k := Int32.le_trans (by decide) c1
    unfold nzF
    rw [if_pos c2, if_pos c1, nt_pred (by omega), nt_sub1 (by omega), st_nt (by omega) (by decide), atv_nt (by omega) (by decide), atv_nt (by omega) (by decide), h k hk, hp]
    rfl
  have a0 : nzA sg inp 0 g = (nt 0, g) := rfl
  unfold nzV
  rw [nzA_s, nzA_s, nzA_s, nzA_s, nzA_s, nzA_s, nzA_s, nzA_s, nzA_s, a0, v 0 0 0 _ (by decide) rfl (by decide) (by decide), v 1 1 1 _ (by decide) rfl (by decide) (by decide), w 2 3 2 _ (by decide) rfl (by decide) (by decide), o 3 2 1 _ (by decide) rfl (by decide) (by decide), o 4 0 0 _ (by decide) rfl (by decide) (by decide), v 5 3 1 _ (by decide) rfl (by decide) (by decide), w 6 12 2 _ (by decide) rfl (by decide) (by decide), o 7 2 1 _ (by decide) rfl (by decide) (by decide), o 8 1 0 _ (by decide) rfl (by decide) (by decide)]
  rw [show (0 : Int32) = nt 0 from rfl, atv_nt (by decide) (by decide), up_same, Int32.mul_comm 3, Int32.mul_comm 12]
  rfl
theorem m232 (hM : MI I) : wpc (d + 2) 232 [.ref (70 : Nat)] (mk n (scm I p) L x) Φ ↔ Φ (.inl (some (.int (nzV (I 25) p.2 (lnI I) (fun _ => 0))))) (mk n (scm I (byS I p, p.2)) L x) := by
  obtain ⟨hC, -, -, -, hL⟩ := hM
  have hw := hC.1.2
  have u70 : ∀ p, scm I p 70 = I 70 := fun p => scm_ne (by decide) (by decide)
  show wp (d + 2) 232 0 [.ref (70 : Nat), noV, noV] [] (mk n (scm I p) L x) Φ ↔ _
  simp (config := {decide := true}) only [r232_0, r232_1, r232_2, r232_3, r232_6, r232_7, r232_8, r232_11, r232_12, r232_13, r232_14, r232_15, r232_18, r232_19, r232_20, r232_21, r232_22, r232_24, r232_25, r232_28, r232_29, r232_30, r232_31, r232_32, r232_33, r232_34, if_true, if_false, Nat.reduceAdd, Int32.reduceToNatClampNeg, lo_i, lo_r, lo_n, kont_v, kont_n, List.length_nil, List.length_cons, s451, s452, scm_i, scm_p, wr_raw, scm_up]
  rw [show upd p.1 0 (p.2 0 + 3 * p.2 1 - 12 * p.2 3) = st0 p from rfl]
  unfold byS
  rcases hL with ⟨hz, h9, hp⟩ | ⟨hz, hq⟩
  · rw [if_pos hz, r232_35]
    simp (config := {decide := true}) only [r232_36, r232_37, r232_40, r232_144, r232_146, r232_147, r232_148, r232_151, r232_152, r232_153, r232_156, r232_159, if_true, if_false, Nat.reduceAdd, Int32.reduceToNatClampNeg, lo_i, lo_r, lo_n, kont_v, kont_n, List.length_nil, List.length_cons, u70, hz, s451, scm_p, m195, m196]
    rw [clampc, h9, plain_val hp]
    show Φ (.inl (some (.int (mxi 0 (mni 99 (st0 p 0)))))) _ ↔ _
    rw [show st0 p 0 = p.2 0 + 3 * p.2 1 - 12 * p.2 3 from up_same]
  · have hne : ¬ I 70 18 = 0 := by
      rw [hz, show (0 : Int32) = nt 0 from rfl, nt_inj (by have := hw.2.2; omega) (by decide)]
      have := ht_le (I 25) (lnI I)
      have := hw.2.1
      omega
    rw [if_neg hne]
    have hval : nzV (I 25) p.2 (lnI I) (fun _ => 0) = mxi 0 (mni 99 ((nzA (I 25) p.2 (lnI I) (st0 p)).2 0)) := by
      rw [nzV_ind hw (g' := st0 p)]
      unfold nzV
      rw [show (0 : Int32) = nt 0 from rfl, atv_nt (by decide) (by decide)]
    rw [hval]
    refine loopJ (P := fun k (q : Int32 × (Nat → Int32)) => wp (d + 2) 232 35 [.ref (70 : Nat), .int q.1, .int (nt k)] [] (mk n (scm I (q.2, p.2)) L x) Φ) (J := fun k q => q.1 = nt (ht (I 25) k)) (Q := fun q => Φ (.inl (some (.int (mxi 0 (mni 99 (q.2 0)))))) (mk n (scm I (q.2, p.2)) L x)) (n := lnI I) (f := nzF (I 25) p.2) ?_ ?_ (0, st0 p) rfl
    · intro k q hk hq1
      obtain ⟨t, g⟩ := q
      dsimp only at hq1
      subst hq1
      have h150 := hw.2.2
      have hle := ht_le (I 25) k
      rw [nzF_ht (by omega) (hw.1 k hk)]
      refine ⟨rfl, ?_⟩
      dsimp only
      have e1 : ¬ (nt (lnI I) ≤ nt k) := nt_nle hk (by omega)
      have e2 : (nt k).toNatClampNeg = k := nt_clamp (by omega)
      have e3 : (0 : Int32) ≤ nt k := nt_ge (by omega)
      have e4 : k < 160 := by omega
      have e5 : 114 + k < 560 := by omega
      have u1 : ∀ p, scm I p (114 + k) = I (114 + k) := fun p => scm_ne (by omega) (by omega)
      rw [r232_35]
      rcases hq k hk with ⟨a1, a2, a3⟩ | ⟨j, hj, a1, a2, a3⟩ | ⟨j, hj, a1, a2⟩
      · have c1 : ¬ 2000 ≤ I 25 k := fun h => absurd (Int32.lt_of_le_of_lt h (a2 ▸ a3)) (by decide)
        have c2 : ¬ 1000 ≤ I 25 k := fun h => absurd (Int32.lt_of_le_of_lt h (a2 ▸ a3)) (by decide)
        have g2 : (nt (ht (I 25) k)).toNatClampNeg = ht (I 25) k := nt_clamp (by omega)
        have g3 : (0 : Int32) ≤ nt (ht (I 25) k) := nt_ge (by omega)
        have g4 : ht (I 25) k < 160 := by omega
        rw [ht_s, if_neg c1, if_neg c1, if_neg c2, a2]
        simp (config := {decide := true}) only [r232_36, r232_37, r232_40, r232_43, r232_44, r232_47, r232_48, r232_49, r232_50, r232_51, r232_52, r232_55, r232_56, r232_59, r232_60, r232_61, r232_64, r232_65, r232_66, r232_67, r232_68, r232_71, r232_72, r232_75, r232_76, r232_77, r232_78, r232_79, r232_82, r232_83, r232_86, r232_87, r232_90, r232_91, r232_92, r232_93, r232_94, r232_95, r232_96, r232_99, r232_102, r232_105, r232_106, r232_109, r232_110, r232_111, r232_112, r232_113, r232_116, r232_117, r232_118, r232_119, r232_120, r232_121, r232_124, r232_125, r232_126, r232_127, r232_128, r232_129, r232_132, r232_133, r232_134, r232_137, r232_138, r232_141, if_true, if_false, Nat.reduceAdd, Int32.reduceToNatClampNeg, lo_i, lo_r, lo_n, kont_v, kont_n, List.length_nil, List.length_cons, u70, hz, e1, e2, e3, e4, e5, u1, shL160 e4, s113, a1, g2, g3, g4, s451, scm_p, wr_raw, scm_up, nt_succ]
      · have c1 : ¬ 2000 ≤ I 25 k := by rw [a3]; exact nt_nle (m := 2000) (by omega) (by decide)
        have c2 : 1000 ≤ I 25 k := by rw [a3, show (1000 : Int32) = nt 1000 from rfl, nt_le (by decide) (by omega)]; omega
        have g2 : (nt (ht (I 25) k)).toNatClampNeg = ht (I 25) k := nt_clamp (by omega)
        have g3 : (0 : Int32) ≤ nt (ht (I 25) k) := nt_ge (by omega)
        have g4 : ht (I 25) k < 160 := by omega
        have j2 : (nt j).toNatClampNeg = j := nt_clamp (by omega)
        have j3 : (0 : Int32) ≤ nt j := nt_ge (by omega)
        have j4 : atv 9 p.2 (I 25 k - 1000) = p.2 j := by
          have : ∀ j, j < 9 → nt (1000 + j) - 1000 = nt j := by decide
          rw [a3, this j hj, atv_nt hj (by decide)]
        rw [ht_s, if_neg c1, if_neg c1, if_pos c2, j4]
        simp (config := {decide := true}) only [r232_36, r232_37, r232_40, r232_43, r232_44, r232_47, r232_48, r232_49, r232_50, r232_51, r232_52, r232_55, r232_56, r232_59, r232_60, r232_61, r232_64, r232_65, r232_66, r232_67, r232_68, r232_71, r232_72, r232_75, r232_76, r232_77, r232_78, r232_79, r232_82, r232_83, r232_86, r232_87, r232_90, r232_91, r232_92, r232_93, r232_94, r232_95, r232_96, r232_99, r232_102, r232_105, r232_106, r232_109, r232_110, r232_111, r232_112, r232_113, r232_116, r232_117, r232_118, r232_119, r232_120, r232_121, r232_124, r232_125, r232_126, r232_127, r232_128, r232_129, r232_132, r232_133, r232_134, r232_137, r232_138, r232_141, if_true, if_false, Nat.reduceAdd, Int32.reduceToNatClampNeg, lo_i, lo_r, lo_n, kont_v, kont_n, List.length_nil, List.length_cons, u70, hz, e1, e2, e3, e4, e5, u1, shL160 e4, s113, a1, a2, g2, g3, g4, j2, j3, hj, s451, s452, scm_p, scm_i, wr_raw, scm_up, nt_succ]
      · have c1 : 2000 ≤ I 25 k := by rw [a2, show (2000 : Int32) = nt 2000 from rfl, nt_le (by decide) (by omega)]; omega
        have hh := hw.1 k hk c1
        have b1 : (2 : Int32) ≤ nt (2 + j) := by rw [show (2 : Int32) = nt 2 from rfl, nt_le (by decide) (by omega)]; omega
        have b2 : nt (ht (I 25) k) + -1 = nt (ht (I 25) k - 1) := nt_pred (by omega)
        have b3 : nt (ht (I 25) k - 1) - 1 = nt (ht (I 25) k - 2) := nt_sub1 (by omega)
        have g2 : (nt (ht (I 25) k - 1)).toNatClampNeg = ht (I 25) k - 1 := nt_clamp (by omega)
        have g3 : (0 : Int32) ≤ nt (ht (I 25) k - 1) := nt_ge (by omega)
        have g4 : ht (I 25) k - 1 < 160 := by omega
        have i2 : (nt (ht (I 25) k - 2)).toNatClampNeg = ht (I 25) k - 2 := nt_clamp (by omega)
        have i3 : (0 : Int32) ≤ nt (ht (I 25) k - 2) := nt_ge (by omega)
        have i4 : ht (I 25) k - 2 < 160 := by omega
        rw [ht_s, if_pos c1, if_pos c1, a2]
        simp (config := {decide := true}) only [r232_36, r232_37, r232_40, r232_43, r232_44, r232_47, r232_48, r232_49, r232_50, r232_51, r232_52, r232_55, r232_56, r232_59, r232_60, r232_61, r232_64, r232_65, r232_66, r232_67, r232_68, r232_71, r232_72, r232_75, r232_76, r232_77, r232_78, r232_79, r232_82, r232_83, r232_86, r232_87, r232_90, r232_91, r232_92, r232_93, r232_94, r232_95, r232_96, r232_99, r232_102, r232_105, r232_106, r232_109, r232_110, r232_111, r232_112, r232_113, r232_116, r232_117, r232_118, r232_119, r232_120, r232_121, r232_124, r232_125, r232_126, r232_127, r232_128, r232_129, r232_132, r232_133, r232_134, r232_137, r232_138, r232_141, if_true, if_false, Nat.reduceAdd, Int32.reduceToNatClampNeg, lo_i, lo_r, lo_n, kont_v, kont_n, List.length_nil, List.length_cons, u70, hz, e1, e2, e3, e4, e5, u1, shL160 e4, s113, a1, b1, b2, b3, g2, g3, g4, i2, i3, i4, s451, scm_p, wr_raw, scm_up, nt_succ, m231 hj]
    · intro q _
      have e6 : nt (lnI I) ≤ nt (lnI I) := Int32.le_refl _
      rw [r232_35]
      simp (config := {decide := true}) only [r232_36, r232_37, r232_40, r232_144, r232_146, r232_147, r232_148, r232_151, r232_152, r232_153, r232_156, r232_159, if_true, if_false, Nat.reduceAdd, Int32.reduceToNatClampNeg, lo_i, lo_r, lo_n, kont_v, kont_n, List.length_nil, List.length_cons, u70, hz, e6, s451, scm_p, m195, m196, clampc]
def kn (g : Nat → Int32) (l9 n9 d9 s9 h9 y9 a9 p9 z9 : Int32) : Nat → Int32 := upd (upd (upd (upd (upd (upd (upd (upd (upd g 0 l9) 1 n9) 2 d9) 3 s9) 4 h9) 5 y9) 6 a9) 7 p9) 8 z9
theorem m237 (hM : MI I) {l9 n9 d9 s9 h9 y9 a9 p9 z9 : Int32} : wpc (d + 3) 237 [.ref (70 : Nat), .int l9, .int n9, .int d9, .int s9, .int h9, .int y9, .int a9, .int p9, .int z9] (mk n (scm I p) L x) Φ ↔ Φ (.inl (some (.int (nzC (I 25) (lnI I) l9 n9 d9 s9 h9 y9 a9 p9 z9)))) (mk n (scm I (byS I (p.1, kn p.2 l9 n9 d9 s9 h9 y9 a9 p9 z9), kn p.2 l9 n9 d9 s9 h9 y9 a9 p9 z9)) L x) := by
  show wp (d + 3) 237 0 [.ref (70 : Nat), .int l9, .int n9, .int d9, .int s9, .int h9, .int y9, .int a9, .int p9, .int z9] [] (mk n (scm I p) L x) Φ ↔ _
  simp (config := {decide := true}) only [r237_0, r237_1, r237_4, r237_5, r237_6, r237_7, r237_8, r237_11, r237_12, r237_13, r237_14, r237_15, r237_18, r237_19, r237_20, r237_21, r237_22, r237_25, r237_26, r237_28, r237_29, r237_30, r237_33, r237_34, r237_36, r237_37, r237_38, r237_41, r237_42, r237_44, r237_45, r237_46, r237_49, r237_51, r237_53, r237_54, r237_55, r237_58, r237_60, r237_62, r237_63, r237_64, r237_67, r237_69, r237_71, r237_72, r237_73, r237_76, if_true, if_false, Nat.reduceAdd, Int32.reduceToNatClampNeg, lo_i, lo_r, lo_n, kont_v, kont_n, List.length_nil, List.length_cons, s452, wr_raw, scm_i, scm_ui, m232 hM]
  rw [show nzC (I 25) (lnI I) l9 n9 d9 s9 h9 y9 a9 p9 z9 = nzV (I 25) (kn p.2 l9 n9 d9 s9 h9 y9 a9 p9 z9) (lnI I) (fun _ => 0) from nzV_cong (sg := I 25) (len := lnI I) (inp := inpf l9 n9 d9 s9 h9 y9 a9 p9 z9) (inp' := kn p.2 l9 n9 d9 s9 h9 y9 a9 p9 z9) (below9 rfl rfl rfl rfl rfl rfl rfl rfl rfl) (fun _ => 0)]
  rfl
end Mn1

