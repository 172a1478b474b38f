/-! QUESTIONS: more loops -/
theorem ck6 : ∀ p0 p1 p2 p3 p4 p5 : Bool, bcI (((((((0 : Int32) ||| (if p0 then bt 0 else 0)) ||| (if p1 then bt 1 else 0)) ||| (if p2 then bt 2 else 0)) ||| (if p3 then bt 3 else 0)) ||| (if p4 then bt 4 else 0)) ||| (if p5 then bt 5 else 0)) = ((((((0 : Int32) + (if p0 then 1 else 0)) + (if p1 then 1 else 0)) + (if p2 then 1 else 0)) + (if p3 then 1 else 0)) + (if p4 then 1 else 0)) + (if p5 then 1 else 0) := by decide +kernel
theorem clf_cnt (f : Nat → Int32) (h : Int32) : bcI (clf f h) = foldN (fun k t => t + (if f (6 + k) = h then 1 else 0)) 6 0 := by
  have e2 := ck6 (decide (f (6 + 0) = h)) (decide (f (6 + 1) = h)) (decide (f (6 + 2) = h)) (decide (f (6 + 3) = h)) (decide (f (6 + 4) = h)) (decide (f (6 + 5) = h))
  simp only [← ib] at e2
  exact e2
theorem clf_cut {I : Nat → Nat → Int32} {f : Nat → Int32} {h : Int32} (ho : RO I f) (hs : cI I ≤ 6) (hh : h ≠ -1) : bcI (clf f h) = foldN (fun k t => t + (if f (6 + k) = h then 1 else 0)) (cI I) 0 := by
  rw [clf_cnt]
  refine foldN_cut 6 hs (fun k h1 h2 b => ?_)
  rw [if_neg (fun e => hh (e.symm.trans (ho.1 k h1 h2).2.1)), Int32.add_zero]
section Q4
variable {d n x c : Nat} {μ : PM} {Φ : POut → PM → Prop} {I J : Nat → Nat → Int32} {L : Nat → Nat → Int64} {k s h v w a b z clocks bits : Int32} {p q : Scr}
def skF (f : Nat → Int32) (k : Nat) (q : Int32 × Int32) : Int32 × Int32 := if bcI (clf f (nt k)) ≤ q.2 then q else (nt k, bcI (clf f (nt k)))
def skV (w : Int32) (q : Int32 × Int32) : Int32 := if q.1 = -1 then -1 else if w = 0 then q.1 else q.2
def aStroke (I : Nat → Nat → Int32) (w : Int32) : An := if 0 ≤ w ∧ w ≤ 1 then (.inl ((skV w (foldN (skF (I 41)) 24 (-1, 0)) : Int32))) else .inr (2, 1)
theorem t_aStroke {I J : Nat → Nat → Int32} {w : Int32} (h : view J = view I) : aStroke J w = aStroke I w := by
  unfold aStroke
  simp only [t41 h]
theorem q161 (hI : Inv I) (hx : x + 1 ≤ 600) (h : resC n I L x Φ (aStroke I w)) : wpc (d + 12) 161 [.ref (9 : Nat), .int w] (mk n I L x) Φ := by
  show wp (d + 12) 161 0 [.ref (9 : Nat), .int w, noV, noV, noV, noV] [] (mk n I L x) Φ
  unfold aStroke at h
  have hC := hI.1.1
  by_cases g1 : 0 ≤ w ∧ w ≤ 1
  · rw [if_pos g1] at h
    simp (config := {decide := true}) only [r161_0, r161_1, r161_2, r161_3, r161_4, r161_7, r161_10, r161_11, r161_12, r161_13, r161_14, r161_15, if_true, if_false, Nat.reduceAdd, Int32.reduceToNatClampNeg, lo_i, lo_r, lo_n, kont_v, kont_n, List.length_nil, List.length_cons, and_self, and_true, true_and, and_false, false_and, not_true, not_false_eq_true, true_or, or_true, bi_eq0, c181 hx, c179 hx, c180 hx, c182, c183, kx, g1]
    refine loopD (P := fun k (t : Int32 × Int32) => ∀ v, NL v → wp (d + 12) 161 17 [.ref (9 : Nat), .int w, .int t.1, .int t.2, .int (nt k), v] [] (mk n I L x) Φ) (Q := fun t => Φ (.inl (some (.int (skV w t)))) (mk n I L x)) (n := 24) (f := skF (I 41)) ?_ ?_ (-1, 0) (okC h) noV lo_n
    · intro k t hk hn v hv
      replace hn := hn (.int (bcI (clf (I 41) (nt k)))) (lo_i _)
      have e1 : ¬ ((24 : Int32) ≤ nt k) := nt_nle (m := 24) hk (by decide)
      unfold skF at hn
      rw [r161_17]
      by_cases h1 : bcI (clf (I 41) (nt k)) ≤ t.2
      · rw [if_pos h1] at hn
        simp (config := {decide := true}) only [r161_19, r161_21, r161_24, r161_25, r161_28, r161_30, r161_33, r161_36, r161_38, r161_40, r161_41, r161_44, r161_46, r161_47, r161_49, r161_50, r161_53, r161_56, r161_57, r161_58, r161_61, r161_62, r161_63, r161_64, r161_67, r161_68, r161_71, r161_72, if_true, if_false, Nat.reduceAdd, Int32.reduceToNatClampNeg, lo_i, lo_r, lo_n, kont_v, kont_n, List.length_nil, List.length_cons, k40, c58 k40, c315, hv, e1, h1, nt_succ]
        exact hn
      · rw [if_neg h1] at hn
        simp (config := {decide := true}) only [r161_19, r161_21, r161_24, r161_25, r161_28, r161_30, r161_33, r161_36, r161_38, r161_40, r161_41, r161_44, r161_46, r161_47, r161_49, r161_50, r161_53, r161_56, r161_57, r161_58, r161_61, r161_62, r161_63, r161_64, r161_67, r161_68, r161_71, r161_72, if_true, if_false, Nat.reduceAdd, Int32.reduceToNatClampNeg, lo_i, lo_r, lo_n, kont_v, kont_n, List.length_nil, List.length_cons, k40, c58 k40, c315, hv, e1, h1, nt_succ]
        exact hn
    · intro t ht v hv
      unfold skV at ht
      rw [r161_17]
      by_cases h1 : t.1 = -1
      · rw [if_pos h1] at ht
        simp (config := {decide := true}) only [r161_19, r161_21, r161_24, r161_25, r161_28, r161_30, r161_33, r161_36, r161_38, r161_40, r161_41, r161_44, r161_46, r161_47, r161_49, r161_50, r161_53, r161_56, r161_57, r161_58, r161_61, r161_62, r161_63, r161_64, r161_67, r161_68, r161_71, r161_72, if_true, if_false, Nat.reduceAdd, Int32.reduceToNatClampNeg, lo_i, lo_r, lo_n, kont_v, kont_n, List.length_nil, List.length_cons, h1]
        exact ht
      · rw [if_neg h1] at ht
        by_cases h2 : w = 0
        · rw [if_pos h2] at ht
          simp (config := {decide := true}) only [r161_19, r161_21, r161_24, r161_25, r161_28, r161_30, r161_33, r161_36, r161_38, r161_40, r161_41, r161_44, r161_46, r161_47, r161_49, r161_50, r161_53, r161_56, r161_57, r161_58, r161_61, r161_62, r161_63, r161_64, r161_67, r161_68, r161_71, r161_72, if_true, if_false, Nat.reduceAdd, Int32.reduceToNatClampNeg, lo_i, lo_r, lo_n, kont_v, kont_n, List.length_nil, List.length_cons, h1, h2]
          exact ht
        · rw [if_neg h2] at ht
          simp (config := {decide := true}) only [r161_19, r161_21, r161_24, r161_25, r161_28, r161_30, r161_33, r161_36, r161_38, r161_40, r161_41, r161_44, r161_46, r161_47, r161_49, r161_50, r161_53, r161_56, r161_57, r161_58, r161_61, r161_62, r161_63, r161_64, r161_67, r161_68, r161_71, r161_72, if_true, if_false, Nat.reduceAdd, Int32.reduceToNatClampNeg, lo_i, lo_r, lo_n, kont_v, kont_n, List.length_nil, List.length_cons, h1, h2]
          exact ht
  · rw [if_neg g1] at h
    simp (config := {decide := true}) only [r161_0, r161_1, r161_2, r161_3, r161_4, r161_7, r161_10, r161_11, r161_12, r161_13, r161_14, r161_15, r161_17, r161_19, r161_21, r161_24, r161_25, r161_28, r161_30, r161_33, r161_36, r161_38, r161_40, r161_41, r161_44, r161_46, r161_47, r161_49, r161_50, r161_53, r161_56, r161_57, r161_58, r161_61, r161_62, r161_63, r161_64, r161_67, r161_68, r161_71, r161_72, if_true, if_false, Nat.reduceAdd, Int32.reduceToNatClampNeg, lo_i, lo_r, lo_n, kont_v, kont_n, List.length_nil, List.length_cons, and_self, and_true, true_and, and_false, false_and, not_true, not_false_eq_true, true_or, or_true, bi_eq0, c181 hx, c179 hx, c180 hx, c182, c183, kx, g1]
    exact exC2 h
theorem u300 (hI : Inv I) (h : resM n I L x Φ (aStroke I w)) : wpc (d + 12) 300 [.ref (70 : Nat), .int w] (mk n I L x) Φ := by
  show wp (d + 12) 300 0 [.ref (70 : Nat), .int w, noV, noV, noV, noV, noV] [] (mk n I L x) Φ
  rw [r300_0, r300_1, r300_2]
  replace h := resM_z h
  rw [← t_aStroke v70] at h
  replace hI := tr_Inv v70 hI
  have hz := z70 (I := I)
  generalize wrI I 70 0 0 = I at h hI hz ⊢
  unfold aStroke at h
  have hM := hI.1
  by_cases g1 : 0 ≤ w ∧ w ≤ 1
  · rw [if_pos g1] at h
    have h6 := inv_c6 hI
    simp (config := {decide := true}) only [r300_5, r300_6, r300_7, r300_8, r300_9, r300_12, r300_15, r300_16, r300_19, r300_20, r300_21, r300_22, r300_25, r300_28, r300_29, r300_30, r300_31, r300_32, r300_33, r300_34, r300_35, if_true, if_false, Nat.reduceAdd, Int32.reduceToNatClampNeg, lo_i, lo_r, lo_n, kont_v, kont_n, List.length_nil, List.length_cons, and_self, and_true, true_and, and_false, false_and, not_true, not_false_eq_true, true_or, or_true, bi_eq0, b10 hz, b11 hz, b21 hz, m194, m259, g1]
    refine loopD (P := fun k (t : Int32 × Int32) => ∀ v v2, NL v → NL v2 → wp (d + 12) 300 37 [.ref (70 : Nat), .int w, .int t.1, .int t.2, .int (nt k), v, v2] [] (mk n I L x) Φ) (Q := fun t => Φ (.inl (some (.int (skV w t)))) (mk n I L x)) (n := 24) (f := skF (I 41)) ?_ ?_ (-1, 0) (oqM h hz) noV noV lo_n lo_n
    · intro k t hk hn v v2 hv hv2
      replace hn := hn (.int (bcI (clf (I 41) (nt k)))) (.int (nt (cI I))) (lo_i _) (lo_i _)
      have e1 : ¬ ((24 : Int32) ≤ nt k) := nt_nle (m := 24) hk (by decide)
      have e2 : nt k ≠ -1 := nt_m1 (by omega)
      unfold skF at hn
      rw [clf_cut hI.2.1.1 h6 e2] at hn
      rw [r300_37]
      simp (config := {decide := true}) only [r300_39, r300_41, r300_44, r300_45, r300_47, r300_48, if_true, if_false, Nat.reduceAdd, Int32.reduceToNatClampNeg, lo_i, lo_r, lo_n, kont_v, kont_n, List.length_nil, List.length_cons, hv, hv2, e1]
      refine loopD (P := fun i u => wp (d + 12) 300 50 [.ref (70 : Nat), .int w, .int t.1, .int t.2, .int (nt k), .int u, .int (nt i)] [] (mk n I L x) Φ) (Q := fun u => wp (d + 12) 300 37 [.ref (70 : Nat), .int w, .int (if u ≤ t.2 then t else (nt k, u)).1, .int (if u ≤ t.2 then t else (nt k, u)).2, .int (nt (k + 1)), .int u, .int (nt (cI I))] [] (mk n I L x) Φ) (n := cI I) (f := fun i u => u + (if I 41 (6 + i) = nt k then 1 else 0)) ?_ ?_ 0 hn
      · intro i u hi hn2
        have e1 : ¬ (nt (cI I) ≤ nt i) := nt_nle hi (by omega)
        have z2 : ((27 : Int32) + nt i).toNatClampNeg = 27 + i := ixc 27 i (by omega)
        have z3 : (0 : Int32) ≤ 27 + nt i := ixg 27 i (by omega)
        have z4 : 27 + i < 84 := by omega
        have z5 : vc (I 41) (27 + i) = I 41 (6 + i) := vc_hi' (b := 6) (by omega)
        rw [r300_50]
        by_cases h1 : I 41 (6 + i) = nt k
        · rw [if_pos h1] at hn2
          simp (config := {decide := true}) only [r300_52, r300_53, r300_56, r300_57, r300_58, r300_61, r300_63, r300_64, r300_67, r300_69, r300_71, r300_72, r300_73, r300_75, r300_78, r300_79, r300_82, r300_83, r300_84, r300_86, r300_89, if_true, if_false, Nat.reduceAdd, Int32.reduceToNatClampNeg, lo_i, lo_r, lo_n, kont_v, kont_n, List.length_nil, List.length_cons, s74, hI.1.2.1.2, s534, hI.2.1.2, e1, z2, z3, z4, z5, h1, nt_succ]
          exact hn2
        · rw [if_neg h1] at hn2
          simp (config := {decide := true}) only [r300_52, r300_53, r300_56, r300_57, r300_58, r300_61, r300_63, r300_64, r300_67, r300_69, r300_71, r300_72, r300_73, r300_75, r300_78, r300_79, r300_82, r300_83, r300_84, r300_86, r300_89, if_true, if_false, Nat.reduceAdd, Int32.reduceToNatClampNeg, lo_i, lo_r, lo_n, kont_v, kont_n, List.length_nil, List.length_cons, s74, hI.1.2.1.2, s534, hI.2.1.2, e1, z2, z3, z4, z5, h1, nt_succ]
          exact hn2
      · intro u hu
        have e6 : nt (cI I) ≤ nt (cI I) := Int32.le_refl _
        rw [r300_50]
        by_cases h1 : u ≤ t.2
        · rw [if_pos h1] at hu
          have h3 := Int32.not_lt.mpr h1
          simp (config := {decide := true}) only [r300_52, r300_53, r300_56, r300_57, r300_58, r300_61, r300_63, r300_64, r300_67, r300_69, r300_71, r300_72, r300_73, r300_75, r300_78, r300_79, r300_82, r300_83, r300_84, r300_86, r300_89, r300_92, r300_94, r300_95, r300_98, r300_101, r300_103, r300_104, r300_106, r300_107, r300_110, if_true, if_false, Nat.reduceAdd, Int32.reduceToNatClampNeg, lo_i, lo_r, lo_n, kont_v, kont_n, List.length_nil, List.length_cons, s74, hI.1.2.1.2, e6, h3, nt_succ]
          exact hu
        · rw [if_neg h1] at hu
          have h3 := Int32.not_le.mp h1
          simp (config := {decide := true}) only [r300_52, r300_53, r300_56, r300_57, r300_58, r300_61, r300_63, r300_64, r300_67, r300_69, r300_71, r300_72, r300_73, r300_75, r300_78, r300_79, r300_82, r300_83, r300_84, r300_86, r300_89, r300_92, r300_94, r300_95, r300_98, r300_101, r300_103, r300_104, r300_106, r300_107, r300_110, if_true, if_false, Nat.reduceAdd, Int32.reduceToNatClampNeg, lo_i, lo_r, lo_n, kont_v, kont_n, List.length_nil, List.length_cons, s74, hI.1.2.1.2, e6, h3, nt_succ]
          exact hu
    · intro t ht v v2 hv hv2
      unfold skV at ht
      rw [r300_37]
      by_cases h1 : t.1 = -1
      · rw [if_pos h1] at ht
        by_cases h2 : w = 0
        · simp (config := {decide := true}) only [r300_39, r300_41, r300_44, r300_45, r300_47, r300_48, r300_50, r300_52, r300_53, r300_56, r300_57, r300_58, r300_61, r300_63, r300_64, r300_67, r300_69, r300_71, r300_72, r300_73, r300_75, r300_78, r300_79, r300_82, r300_83, r300_84, r300_86, r300_89, r300_92, r300_94, r300_95, r300_98, r300_101, r300_103, r300_104, r300_106, r300_107, r300_110, r300_113, r300_114, r300_117, r300_118, r300_119, r300_122, r300_123, r300_126, r300_127, if_true, if_false, Nat.reduceAdd, Int32.reduceToNatClampNeg, lo_i, lo_r, lo_n, kont_v, kont_n, List.length_nil, List.length_cons, h1, h2]
          exact ht
        · simp (config := {decide := true}) only [r300_39, r300_41, r300_44, r300_45, r300_47, r300_48, r300_50, r300_52, r300_53, r300_56, r300_57, r300_58, r300_61, r300_63, r300_64, r300_67, r300_69, r300_71, r300_72, r300_73, r300_75, r300_78, r300_79, r300_82, r300_83, r300_84, r300_86, r300_89, r300_92, r300_94, r300_95, r300_98, r300_101, r300_103, r300_104, r300_106, r300_107, r300_110, r300_113, r300_114, r300_117, r300_118, r300_119, r300_122, r300_123, r300_126, r300_127, if_true, if_false, Nat.reduceAdd, Int32.reduceToNatClampNeg, lo_i, lo_r, lo_n, kont_v, kont_n, List.length_nil, List.length_cons, h1, h2]
          exact ht
      · rw [if_neg h1] at ht
        by_cases h2 : w = 0
        · rw [if_pos h2] at ht
          simp (config := {decide := true}) only [r300_39, r300_41, r300_44, r300_45, r300_47, r300_48, r300_50, r300_52, r300_53, r300_56, r300_57, r300_58, r300_61, r300_63, r300_64, r300_67, r300_69, r300_71, r300_72, r300_73, r300_75, r300_78, r300_79, r300_82, r300_83, r300_84, r300_86, r300_89, r300_92, r300_94, r300_95, r300_98, r300_101, r300_103, r300_104, r300_106, r300_107, r300_110, r300_113, r300_114, r300_117, r300_118, r300_119, r300_122, r300_123, r300_126, r300_127, if_true, if_false, Nat.reduceAdd, Int32.reduceToNatClampNeg, lo_i, lo_r, lo_n, kont_v, kont_n, List.length_nil, List.length_cons, h1, h2]
          exact ht
        · rw [if_neg h2] at ht
          simp (config := {decide := true}) only [r300_39, r300_41, r300_44, r300_45, r300_47, r300_48, r300_50, r300_52, r300_53, r300_56, r300_57, r300_58, r300_61, r300_63, r300_64, r300_67, r300_69, r300_71, r300_72, r300_73, r300_75, r300_78, r300_79, r300_82, r300_83, r300_84, r300_86, r300_89, r300_92, r300_94, r300_95, r300_98, r300_101, r300_103, r300_104, r300_106, r300_107, r300_110, r300_113, r300_114, r300_117, r300_118, r300_119, r300_122, r300_123, r300_126, r300_127, if_true, if_false, Nat.reduceAdd, Int32.reduceToNatClampNeg, lo_i, lo_r, lo_n, kont_v, kont_n, List.length_nil, List.length_cons, h1, h2]
          exact ht
  · rw [if_neg g1] at h
    simp (config := {decide := true}) only [r300_5, r300_6, r300_7, r300_8, r300_9, r300_12, r300_15, r300_16, r300_19, r300_20, r300_21, r300_22, r300_25, r300_28, r300_29, r300_30, r300_31, r300_32, r300_33, r300_34, r300_35, r300_37, r300_39, r300_41, r300_44, r300_45, r300_47, r300_48, r300_50, r300_52, r300_53, r300_56, r300_57, r300_58, r300_61, r300_63, r300_64, r300_67, r300_69, r300_71, r300_72, r300_73, r300_75, r300_78, r300_79, r300_82, r300_83, r300_84, r300_86, r300_89, r300_92, r300_94, r300_95, r300_98, r300_101, r300_103, r300_104, r300_106, r300_107, r300_110, r300_113, r300_114, r300_117, r300_118, r300_119, r300_122, r300_123, r300_126, r300_127, if_true, if_false, Nat.reduceAdd, Int32.reduceToNatClampNeg, lo_i, lo_r, lo_n, kont_v, kont_n, List.length_nil, List.length_cons, and_self, and_true, true_and, and_false, false_and, not_true, not_false_eq_true, true_or, or_true, bi_eq0, b10 hz, b11 hz, b21 hz, m194, m259, m257 hI, m258 hI, m266 hI, m274 hI, g1]
    exact exM h
def ltF (I : Nat → Nat → Int32) (k : Nat) (q : Int32 × Int32) : Int32 × Int32 := if I 41 (60 + k) = -1 then (if q.1 = -1 then (nt k, I 13 k) else if q.2 ≤ I 13 k then q else (nt k, I 13 k)) else q
theorem tr_lt (h : view J = view I) : ltF J = ltF I := by
  funext k q
  unfold ltF
  rw [t41 h, t13 h]
def aLight (I : Nat → Nat → Int32) (w : Int32) : An := if 0 ≤ w ∧ w ≤ 1 then (.inl ((if w = 0 then (foldN (ltF I) (sI I) (-1, -1)).1 else (foldN (ltF I) (sI I) (-1, -1)).2 : Int32))) else .inr (2, 1)
theorem t_aLight {I J : Nat → Nat → Int32} {w : Int32} (h : view J = view I) : aLight J w = aLight I w := by
  unfold aLight
  simp only [tr_s h, tr_lt h]
theorem q165 (hI : Inv I) (hx : x + 1 ≤ 600) (h : resC n I L x Φ (aLight I w)) : wpc (d + 12) 165 [.ref (9 : Nat), .int w] (mk n I L x) Φ := by
  show wp (d + 12) 165 0 [.ref (9 : Nat), .int w, noV, noV, noV, noV] [] (mk n I L x) Φ
  unfold aLight at h
  have hC := hI.1.1
  by_cases g1 : 0 ≤ w ∧ w ≤ 1
  · rw [if_pos g1] at h
    have h7 := inv_s7 hI
    simp (config := {decide := true}) only [r165_0, r165_1, r165_2, r165_3, r165_4, r165_7, r165_10, r165_11, r165_12, r165_13, r165_14, r165_15, if_true, if_false, Nat.reduceAdd, Int32.reduceToNatClampNeg, lo_i, lo_r, lo_n, kont_v, kont_n, List.length_nil, List.length_cons, and_self, and_true, true_and, and_false, false_and, not_true, not_false_eq_true, true_or, or_true, bi_eq0, c181 hx, c179 hx, c180 hx, c182, c183, kx, g1]
    refine loopD (P := fun k (t : Int32 × Int32) => ∀ v, NL v → wp (d + 12) 165 17 [.ref (9 : Nat), .int w, .int t.1, .int t.2, .int (nt k), v] [] (mk n I L x) Φ) (Q := fun t => Φ (.inl (some (.int (if w = 0 then t.1 else t.2)))) (mk n I L x)) (n := sI I) (f := ltF I) ?_ ?_ (-1, -1) (okC h) noV lo_n
    · intro k t hk hn v hv
      replace hn := hn (.int (I 13 k)) (lo_i _)
      have e1 : ¬ (nt (sI I) ≤ nt k) := nt_nle hk (by omega)
      have i1 : atv 7 (I 13) (nt k) = I 13 k := atv_nt (by omega) (by decide)
      have i3 : atv 84 (I 41) (60 + nt k) = I 41 (60 + k) := at_b 60 (by omega) (by decide)
      unfold ltF at hn
      rw [r165_17]
      by_cases h1 : I 41 (60 + k) = -1
      · rw [if_pos h1] at hn
        by_cases h2 : t.1 = -1
        · rw [if_pos h2] at hn
          simp (config := {decide := true}) only [r165_19, r165_20, r165_23, r165_26, r165_29, r165_30, r165_33, r165_35, r165_38, r165_40, r165_41, r165_44, r165_46, r165_49, r165_52, r165_53, r165_54, r165_57, r165_59, r165_60, r165_63, r165_65, r165_66, r165_68, r165_69, r165_72, r165_75, r165_76, r165_79, r165_80, r165_83, r165_84, if_true, if_false, Nat.reduceAdd, Int32.reduceToNatClampNeg, lo_i, lo_r, lo_n, kont_v, kont_n, List.length_nil, List.length_cons, and_self, and_true, true_and, and_false, false_and, not_true, not_false_eq_true, true_or, or_true, bi_eq0, k12, k40, c82 k12, c52 k40, inv_s hI, hv, e1, i1, i3, h1, h2, nt_succ]
          exact hn
        · rw [if_neg h2] at hn
          by_cases h3 : t.2 ≤ I 13 k
          · rw [if_pos h3] at hn
            simp (config := {decide := true}) only [r165_19, r165_20, r165_23, r165_26, r165_29, r165_30, r165_33, r165_35, r165_38, r165_40, r165_41, r165_44, r165_46, r165_49, r165_52, r165_53, r165_54, r165_57, r165_59, r165_60, r165_63, r165_65, r165_66, r165_68, r165_69, r165_72, r165_75, r165_76, r165_79, r165_80, r165_83, r165_84, if_true, if_false, Nat.reduceAdd, Int32.reduceToNatClampNeg, lo_i, lo_r, lo_n, kont_v, kont_n, List.length_nil, List.length_cons, and_self, and_true, true_and, and_false, false_and, not_true, not_false_eq_true, true_or, or_true, bi_eq0, k12, k40, c82 k12, c52 k40, inv_s hI, hv, e1, i1, i3, h1, h2, h3, nt_succ]
            exact hn
          · rw [if_neg h3] at hn
            simp (config := {decide := true}) only [r165_19, r165_20, r165_23, r165_26, r165_29, r165_30, r165_33, r165_35, r165_38, r165_40, r165_41, r165_44, r165_46, r165_49, r165_52, r165_53, r165_54, r165_57, r165_59, r165_60, r165_63, r165_65, r165_66, r165_68, r165_69, r165_72, r165_75, r165_76, r165_79, r165_80, r165_83, r165_84, if_true, if_false, Nat.reduceAdd, Int32.reduceToNatClampNeg, lo_i, lo_r, lo_n, kont_v, kont_n, List.length_nil, List.length_cons, and_self, and_true, true_and, and_false, false_and, not_true, not_false_eq_true, true_or, or_true, bi_eq0, k12, k40, c82 k12, c52 k40, inv_s hI, hv, e1, i1, i3, h1, h2, h3, nt_succ]
            exact hn
      · rw [if_neg h1] at hn
        simp (config := {decide := true}) only [r165_19, r165_20, r165_23, r165_26, r165_29, r165_30, r165_33, r165_35, r165_38, r165_40, r165_41, r165_44, r165_46, r165_49, r165_52, r165_53, r165_54, r165_57, r165_59, r165_60, r165_63, r165_65, r165_66, r165_68, r165_69, r165_72, r165_75, r165_76, r165_79, r165_80, r165_83, r165_84, if_true, if_false, Nat.reduceAdd, Int32.reduceToNatClampNeg, lo_i, lo_r, lo_n, kont_v, kont_n, List.length_nil, List.length_cons, and_self, and_true, true_and, and_false, false_and, not_true, not_false_eq_true, true_or, or_true, bi_eq0, k12, k40, c82 k12, c52 k40, inv_s hI, hv, e1, i1, i3, h1, nt_succ]
        exact hn
    · intro t ht v hv
      have e6 : nt (sI I) ≤ nt (sI I) := Int32.le_refl _
      rw [r165_17]
      by_cases h2 : w = 0
      · rw [if_pos h2] at ht
        simp (config := {decide := true}) only [r165_19, r165_20, r165_23, r165_26, r165_29, r165_30, r165_33, r165_35, r165_38, r165_40, r165_41, r165_44, r165_46, r165_49, r165_52, r165_53, r165_54, r165_57, r165_59, r165_60, r165_63, r165_65, r165_66, r165_68, r165_69, r165_72, r165_75, r165_76, r165_79, r165_80, r165_83, r165_84, if_true, if_false, Nat.reduceAdd, Int32.reduceToNatClampNeg, lo_i, lo_r, lo_n, kont_v, kont_n, List.length_nil, List.length_cons, k12, inv_s hI, e6, h2]
        exact ht
      · rw [if_neg h2] at ht
        simp (config := {decide := true}) only [r165_19, r165_20, r165_23, r165_26, r165_29, r165_30, r165_33, r165_35, r165_38, r165_40, r165_41, r165_44, r165_46, r165_49, r165_52, r165_53, r165_54, r165_57, r165_59, r165_60, r165_63, r165_65, r165_66, r165_68, r165_69, r165_72, r165_75, r165_76, r165_79, r165_80, r165_83, r165_84, if_true, if_false, Nat.reduceAdd, Int32.reduceToNatClampNeg, lo_i, lo_r, lo_n, kont_v, kont_n, List.length_nil, List.length_cons, k12, inv_s hI, e6, h2]
        exact ht
  · rw [if_neg g1] at h
    simp (config := {decide := true}) only [r165_0, r165_1, r165_2, r165_3, r165_4, r165_7, r165_10, r165_11, r165_12, r165_13, r165_14, r165_15, r165_17, r165_19, r165_20, r165_23, r165_26, r165_29, r165_30, r165_33, r165_35, r165_38, r165_40, r165_41, r165_44, r165_46, r165_49, r165_52, r165_53, r165_54, r165_57, r165_59, r165_60, r165_63, r165_65, r165_66, r165_68, r165_69, r165_72, r165_75, r165_76, r165_79, r165_80, r165_83, r165_84, if_true, if_false, Nat.reduceAdd, Int32.reduceToNatClampNeg, lo_i, lo_r, lo_n, kont_v, kont_n, List.length_nil, List.length_cons, and_self, and_true, true_and, and_false, false_and, not_true, not_false_eq_true, true_or, or_true, bi_eq0, c181 hx, c179 hx, c180 hx, c182, c183, kx, g1]
    exact exC2 h
theorem u296 (hI : Inv I) (h : resM n I L x Φ (aLight I w)) : wpc (d + 12) 296 [.ref (70 : Nat), .int w] (mk n I L x) Φ := by
  show wp (d + 12) 296 0 [.ref (70 : Nat), .int w, noV, noV] [] (mk n I L x) Φ
  rw [r296_0, r296_1, r296_2]
  replace h := resM_z h
  rw [← t_aLight v70] at h
  replace hI := tr_Inv v70 hI
  have hz := z70 (I := I)
  generalize wrI I 70 0 0 = I at h hI hz ⊢
  unfold aLight at h
  have hM := hI.1
  by_cases g1 : 0 ≤ w ∧ w ≤ 1
  · rw [if_pos g1] at h
    have h7 := inv_s7 hI
    simp (config := {decide := true}) only [r296_5, r296_6, r296_7, r296_8, r296_9, r296_12, r296_15, r296_16, r296_19, r296_20, r296_21, r296_22, r296_25, r296_28, r296_29, r296_30, r296_31, r296_32, r296_33, if_true, if_false, Nat.reduceAdd, Int32.reduceToNatClampNeg, lo_i, lo_r, lo_n, kont_v, kont_n, List.length_nil, List.length_cons, and_self, and_true, true_and, and_false, false_and, not_true, not_false_eq_true, true_or, or_true, bi_eq0, b10 hz, b11 hz, b21 hz, m194, m259, g1]
    refine loopDJ (P := fun k (t : Int32 × Int32) => wp (d + 12) 296 34 [.ref (70 : Nat), .int w, .int t.1, .int (nt k)] [] (mk n I L x) Φ) (J := fun k t => t = (-1, -1) ∨ ∃ j, j < k ∧ j < sI I ∧ t = (nt j, I 13 j)) (Q := fun t => Φ (.inl (some (.int (if w = 0 then t.1 else t.2)))) (mk n I L x)) (n := sI I) (f := ltF I) ?_ ?_ (-1, -1) (Or.inl rfl) (oqM h hz)
    · intro k t hk hJ
      have e1 : ¬ (nt (sI I) ≤ nt k) := nt_nle hk (by omega)
      have e2 : (nt k).toNatClampNeg = k := nt_clamp (by omega)
      have e3 : (0 : Int32) ≤ nt k := nt_ge (by omega)
      have e4 : k < 84 := by omega
      have e5 : vc (I 41) k = I 41 (60 + k) := vc_lo (by omega)
      have e7 : k < 7 := by omega
      have e8 : 84 + k < 560 := by omega
      have w1 := (hI.1.2.2.1 k hk).1
      unfold ltF
      by_cases h1 : I 41 (60 + k) = -1
      · rw [if_pos h1]
        rcases hJ with rfl | ⟨j, hj1, hj, rfl⟩
        · rw [if_pos rfl]
          refine ⟨Or.inr ⟨k, by omega, hk, rfl⟩, fun hn => ?_⟩
          rw [r296_34]
          simp (config := {decide := true}) only [r296_35, r296_36, r296_39, r296_40, r296_41, r296_44, r296_45, r296_48, r296_49, r296_50, r296_51, r296_52, r296_53, r296_56, r296_57, r296_58, r296_61, r296_62, r296_65, r296_66, r296_67, r296_68, r296_69, r296_70, r296_73, r296_74, r296_75, r296_76, r296_77, r296_80, r296_81, r296_84, r296_85, r296_86, r296_89, r296_92, r296_93, r296_96, r296_97, r296_98, r296_101, r296_102, r296_105, r296_106, r296_109, r296_110, r296_111, r296_112, r296_113, if_true, if_false, Nat.reduceAdd, Int32.reduceToNatClampNeg, lo_i, lo_r, lo_n, kont_v, kont_n, List.length_nil, List.length_cons, s74, hI.1.2.1.1, s534, hI.2.1.2, ix0, e1, e2, e3, e4, e5, h1, nt_succ]
          exact hn
        · have j1 : nt j ≠ -1 := nt_m1 (by omega)
          have j2 : (nt j).toNatClampNeg = j := nt_clamp (by omega)
          have j3 : (0 : Int32) ≤ nt j := nt_ge (by omega)
          have j7 : j < 7 := by omega
          have j8 : 84 + j < 560 := by omega
          have w2 := (hI.1.2.2.1 j hj).1
          rw [if_neg j1]
          dsimp only
          by_cases h3 : I 13 j ≤ I 13 k
          · rw [if_pos h3]
            refine ⟨Or.inr ⟨j, by omega, hj, rfl⟩, fun hn => ?_⟩
            rw [r296_34]
            simp (config := {decide := true}) only [r296_35, r296_36, r296_39, r296_40, r296_41, r296_44, r296_45, r296_48, r296_49, r296_50, r296_51, r296_52, r296_53, r296_56, r296_57, r296_58, r296_61, r296_62, r296_65, r296_66, r296_67, r296_68, r296_69, r296_70, r296_73, r296_74, r296_75, r296_76, r296_77, r296_80, r296_81, r296_84, r296_85, r296_86, r296_89, r296_92, r296_93, r296_96, r296_97, r296_98, r296_101, r296_102, r296_105, r296_106, r296_109, r296_110, r296_111, r296_112, r296_113, if_true, if_false, Nat.reduceAdd, Int32.reduceToNatClampNeg, lo_i, lo_r, lo_n, kont_v, kont_n, List.length_nil, List.length_cons, s74, hI.1.2.1.1, s534, hI.2.1.2, ix0, e1, e2, e3, e4, e5, e7, e8, h1, j1, j2, j3, j7, j8, s83, sh84 e7, sh84 j7, w1, w2, h3, nt_succ]
            exact hn
          · rw [if_neg h3]
            refine ⟨Or.inr ⟨k, by omega, hk, rfl⟩, fun hn => ?_⟩
            rw [r296_34]
            simp (config := {decide := true}) only [r296_35, r296_36, r296_39, r296_40, r296_41, r296_44, r296_45, r296_48, r296_49, r296_50, r296_51, r296_52, r296_53, r296_56, r296_57, r296_58, r296_61, r296_62, r296_65, r296_66, r296_67, r296_68, r296_69, r296_70, r296_73, r296_74, r296_75, r296_76, r296_77, r296_80, r296_81, r296_84, r296_85, r296_86, r296_89, r296_92, r296_93, r296_96, r296_97, r296_98, r296_101, r296_102, r296_105, r296_106, r296_109, r296_110, r296_111, r296_112, r296_113, if_true, if_false, Nat.reduceAdd, Int32.reduceToNatClampNeg, lo_i, lo_r, lo_n, kont_v, kont_n, List.length_nil, List.length_cons, s74, hI.1.2.1.1, s534, hI.2.1.2, ix0, e1, e2, e3, e4, e5, e7, e8, h1, j1, j2, j3, j7, j8, s83, sh84 e7, sh84 j7, w1, w2, h3, nt_succ]
            exact hn
      · rw [if_neg h1]
        refine ⟨hJ.imp id (fun ⟨j, a, b⟩ => ⟨j, by omega, b⟩), fun hn => ?_⟩
        rw [r296_34]
        simp (config := {decide := true}) only [r296_35, r296_36, r296_39, r296_40, r296_41, r296_44, r296_45, r296_48, r296_49, r296_50, r296_51, r296_52, r296_53, r296_56, r296_57, r296_58, r296_61, r296_62, r296_65, r296_66, r296_67, r296_68, r296_69, r296_70, r296_73, r296_74, r296_75, r296_76, r296_77, r296_80, r296_81, r296_84, r296_85, r296_86, r296_89, r296_92, r296_93, r296_96, r296_97, r296_98, r296_101, r296_102, r296_105, r296_106, r296_109, r296_110, r296_111, r296_112, r296_113, if_true, if_false, Nat.reduceAdd, Int32.reduceToNatClampNeg, lo_i, lo_r, lo_n, kont_v, kont_n, List.length_nil, List.length_cons, s74, hI.1.2.1.1, s534, hI.2.1.2, ix0, e1, e2, e3, e4, e5, h1, nt_succ]
        exact hn
    · intro t hJ ht
      have e6 : nt (sI I) ≤ nt (sI I) := Int32.le_refl _
      rw [r296_34]
      rcases hJ with rfl | ⟨j, hj1, hj, rfl⟩
      · have ht2 : Φ (.inl (some (.int (-1)))) (mk n I L x) := by
          by_cases h2 : w = 0
          · rw [if_pos h2] at ht; exact ht
          · rw [if_neg h2] at ht; exact ht
        by_cases h2 : w = 0
        · simp (config := {decide := true}) only [r296_35, r296_36, r296_39, r296_40, r296_41, r296_44, r296_45, r296_48, r296_49, r296_50, r296_51, r296_52, r296_53, r296_56, r296_57, r296_58, r296_61, r296_62, r296_65, r296_66, r296_67, r296_68, r296_69, r296_70, r296_73, r296_74, r296_75, r296_76, r296_77, r296_80, r296_81, r296_84, r296_85, r296_86, r296_89, r296_92, r296_93, r296_96, r296_97, r296_98, r296_101, r296_102, r296_105, r296_106, r296_109, r296_110, r296_111, r296_112, r296_113, if_true, if_false, Nat.reduceAdd, Int32.reduceToNatClampNeg, lo_i, lo_r, lo_n, kont_v, kont_n, List.length_nil, List.length_cons, s74, hI.1.2.1.1, e6, h2]
          exact ht2
        · simp (config := {decide := true}) only [r296_35, r296_36, r296_39, r296_40, r296_41, r296_44, r296_45, r296_48, r296_49, r296_50, r296_51, r296_52, r296_53, r296_56, r296_57, r296_58, r296_61, r296_62, r296_65, r296_66, r296_67, r296_68, r296_69, r296_70, r296_73, r296_74, r296_75, r296_76, r296_77, r296_80, r296_81, r296_84, r296_85, r296_86, r296_89, r296_92, r296_93, r296_96, r296_97, r296_98, r296_101, r296_102, r296_105, r296_106, r296_109, r296_110, r296_111, r296_112, r296_113, if_true, if_false, Nat.reduceAdd, Int32.reduceToNatClampNeg, lo_i, lo_r, lo_n, kont_v, kont_n, List.length_nil, List.length_cons, s74, hI.1.2.1.1, e6, h2]
          exact ht2
      · have j1 : nt j ≠ -1 := nt_m1 (by omega)
        have j2 : (nt j).toNatClampNeg = j := nt_clamp (by omega)
        have j3 : (0 : Int32) ≤ nt j := nt_ge (by omega)
        have j7 : j < 7 := by omega
        have j8 : 84 + j < 560 := by omega
        have w2 := (hI.1.2.2.1 j hj).1
        by_cases h2 : w = 0
        · rw [if_pos h2] at ht
          simp (config := {decide := true}) only [r296_35, r296_36, r296_39, r296_40, r296_41, r296_44, r296_45, r296_48, r296_49, r296_50, r296_51, r296_52, r296_53, r296_56, r296_57, r296_58, r296_61, r296_62, r296_65, r296_66, r296_67, r296_68, r296_69, r296_70, r296_73, r296_74, r296_75, r296_76, r296_77, r296_80, r296_81, r296_84, r296_85, r296_86, r296_89, r296_92, r296_93, r296_96, r296_97, r296_98, r296_101, r296_102, r296_105, r296_106, r296_109, r296_110, r296_111, r296_112, r296_113, if_true, if_false, Nat.reduceAdd, Int32.reduceToNatClampNeg, lo_i, lo_r, lo_n, kont_v, kont_n, List.length_nil, List.length_cons, s74, hI.1.2.1.1, e6, h2]
          exact ht
        · rw [if_neg h2] at ht
          simp (config := {decide := true}) only [r296_35, r296_36, r296_39, r296_40, r296_41, r296_44, r296_45, r296_48, r296_49, r296_50, r296_51, r296_52, r296_53, r296_56, r296_57, r296_58, r296_61, r296_62, r296_65, r296_66, r296_67, r296_68, r296_69, r296_70, r296_73, r296_74, r296_75, r296_76, r296_77, r296_80, r296_81, r296_84, r296_85, r296_86, r296_89, r296_92, r296_93, r296_96, r296_97, r296_98, r296_101, r296_102, r296_105, r296_106, r296_109, r296_110, r296_111, r296_112, r296_113, if_true, if_false, Nat.reduceAdd, Int32.reduceToNatClampNeg, lo_i, lo_r, lo_n, kont_v, kont_n, List.length_nil, List.length_cons, s74, hI.1.2.1.1, e6, h2, j1, j2, j3, j7, j8, s83, sh84 j7, w2]
          exact ht
  · rw [if_neg g1] at h
    simp (config := {decide := true}) only [r296_5, r296_6, r296_7, r296_8, r296_9, r296_12, r296_15, r296_16, r296_19, r296_20, r296_21, r296_22, r296_25, r296_28, r296_29, r296_30, r296_31, r296_32, r296_33, r296_34, r296_35, r296_36, r296_39, r296_40, r296_41, r296_44, r296_45, r296_48, r296_49, r296_50, r296_51, r296_52, r296_53, r296_56, r296_57, r296_58, r296_61, r296_62, r296_65, r296_66, r296_67, r296_68, r296_69, r296_70, r296_73, r296_74, r296_75, r296_76, r296_77, r296_80, r296_81, r296_84, r296_85, r296_86, r296_89, r296_92, r296_93, r296_96, r296_97, r296_98, r296_101, r296_102, r296_105, r296_106, r296_109, r296_110, r296_111, r296_112, r296_113, if_true, if_false, Nat.reduceAdd, Int32.reduceToNatClampNeg, lo_i, lo_r, lo_n, kont_v, kont_n, List.length_nil, List.length_cons, and_self, and_true, true_and, and_false, false_and, not_true, not_false_eq_true, true_or, or_true, bi_eq0, b10 hz, b11 hz, b21 hz, m194, m259, m257 hI, m258 hI, m266 hI, m274 hI, g1]
    exact exM h
theorem hi_bit7 : ∀ N, N < 8 → ∀ s, s < 7 → ∀ k, k < 128 → (N ≤ s ∧ k < 2 ^ N) → ¬ (nt k >>> (nt s &&& 31) &&& 1 = 1) := by decide +kernel
theorem lvd_cut {ds : Nat → Int32} {N k : Nat} {bound : Int32} (hN : N ≤ 7) (hk : k < 2 ^ N) : lvd ds (nt k) bound = foldN (fun s t => t + (if nt k >>> (nt s &&& 31) &&& 1 = 1 then mni bound (ds s) else 0)) N 0 := by
  have hp : 2 ^ N ≤ 2 ^ 7 := Nat.pow_le_pow_right (by decide) hN
  unfold lvd
  refine foldN_cut 7 hN (fun s h1 h2 b => ?_)
  rw [if_neg (hi_bit7 N (by omega) s h2 k (by omega) ⟨h1, hk⟩), Int32.add_zero]
def lvN (ds : Nat → Int32) (bits : Int32) (b : Nat) : Nat → Nat := fun m => foldN (fun s t => t + (if bits >>> (nt s &&& 31) &&& 1 = 1 then min b (ds s).toNatClampNeg else 0)) m 0
theorem mni_nt {a b : Nat} (ha : a < 2147483648) (hb : b < 2147483648) : mni (nt a) (nt b) = nt (min a b) := by
  unfold mni
  by_cases h : b < a
  · rw [if_pos (by rw [nt_lt hb ha]; exact h), Nat.min_eq_right (by omega)]
  · rw [if_neg (by rw [nt_lt hb ha]; exact h), Nat.min_eq_left (by omega)]
theorem lvd_nt {ds : Nat → Int32} {N k b : Nat} (hN : N ≤ 7) (hk : k < 2 ^ N) (hb : b ≤ 60) (hd : ∀ s, s < N → 1 ≤ ds s ∧ ds s ≤ 60) : lvd ds (nt k) (nt b) = nt (lvN ds (nt k) b N) ∧ lvN ds (nt k) b N ≤ 60 * N := by
  rw [lvd_cut hN hk]
  have key : ∀ m, m ≤ N → foldN (fun s t => t + (if nt k >>> (nt s &&& 31) &&& 1 = 1 then mni (nt b) (ds s) else 0)) m 0 = nt (lvN ds (nt k) b m) ∧ lvN ds (nt k) b m ≤ 60 * m := by
    intro m
    induction m with
    | zero => intro _; exact ⟨rfl, Nat.le_refl 0⟩
    | succ m ih =>
      intro hm
      obtain ⟨i1, i2⟩ := ih (by omega)
      obtain ⟨d1, d2⟩ := hd m (by omega)
      obtain ⟨e1, e2⟩ := int_nt (Int32.le_trans (by decide) d1)
      have es : lvN ds (nt k) b (m + 1) = lvN ds (nt k) b m + (if nt k >>> (nt m &&& 31) &&& 1 = 1 then min b (ds m).toNatClampNeg else 0) := rfl
      have ef : foldN (fun s t => t + (if nt k >>> (nt s &&& 31) &&& 1 = 1 then mni (nt b) (ds s) else 0)) (m + 1) 0 = foldN (fun s t => t + (if nt k >>> (nt s &&& 31) &&& 1 = 1 then mni (nt b) (ds s) else 0)) m 0 + (if nt k >>> (nt m &&& 31) &&& 1 = 1 then mni (nt b) (ds m) else 0) := rfl
      rw [es, ef, i1]
      by_cases hb1 : nt k >>> (nt m &&& 31) &&& 1 = 1
      · rw [if_pos hb1, if_pos hb1]
        constructor
        · conv => lhs; rw [e1]
          rw [mni_nt (by omega) e2, nt_add]
        · have := Nat.min_le_left b (ds m).toNatClampNeg
          omega
      · rw [if_neg hb1, if_neg hb1, Int32.add_zero]
        exact ⟨rfl, by omega⟩
  exact key N (Nat.le_refl N)
theorem lvN_mono {ds : Nat → Int32} {bits : Int32} {b : Nat} : ∀ m, lvN ds bits b m ≤ lvN ds bits (b + 1) m
  | 0 => Nat.le_refl _
  | m + 1 => by
    have ih := lvN_mono (ds := ds) (bits := bits) (b := b) m
    have es : ∀ b, lvN ds bits b (m + 1) = lvN ds bits b m + (if bits >>> (nt m &&& 31) &&& 1 = 1 then min b (ds m).toNatClampNeg else 0) := fun _ => rfl
    rw [es, es]
    have h2 : min b (ds m).toNatClampNeg ≤ min (b + 1) (ds m).toNatClampNeg := by omega
    split <;> omega
def dwn (p : Nat → Bool) : Nat → Nat
  | 0 => 0
  | b + 1 => if p (b + 1) then b + 1 else dwn p b
def upw (p : Nat → Bool) : Nat → Nat → Nat
  | 0, b => b
  | m + 1, b => if p (b + 1) then upw p m (b + 1) else b
theorem dwn_le (p : Nat → Bool) : ∀ b, dwn p b ≤ b
  | 0 => Nat.le_refl 0
  | b + 1 => by
    have := dwn_le p b
    unfold dwn
    split <;> omega
theorem dwn_p (p : Nat → Bool) : ∀ b, dwn p b = 0 ∨ p (dwn p b) = true
  | 0 => Or.inl rfl
  | b + 1 => by
    unfold dwn
    split
    · rename_i h; exact Or.inr h
    · exact dwn_p p b
theorem dwn_n (p : Nat → Bool) : ∀ b c, dwn p b < c → c ≤ b → p c = false
  | 0, c, h1, h2 => by have : c = 0 := by omega
                       subst this; exact absurd h1 (Nat.not_lt_zero _)
  | b + 1, c, h1, h2 => by
    unfold dwn at h1
    split at h1
    · omega
    · rename_i h
      by_cases hc : c = b + 1
      · subst hc; simpa using h
      · exact dwn_n p b c h1 (by omega)
theorem upw_b (p : Nat → Bool) : ∀ m b, b ≤ upw p m b ∧ upw p m b ≤ b + m ∧ (upw p m b = b ∨ p (upw p m b) = true) ∧ (upw p m b = b + m ∨ p (upw p m b + 1) = false)
  | 0, b => ⟨Nat.le_refl _, Nat.le_refl _, Or.inl rfl, Or.inl rfl⟩
  | m + 1, b => by
    unfold upw
    split
    · rename_i h
      obtain ⟨h1, h2, h3, h4⟩ := upw_b p m (b + 1)
      refine ⟨by omega, by omega, Or.inr ?_, ?_⟩
      · rcases h3 with h3 | h3
        · rw [h3]; exact h
        · exact h3
      · rcases h4 with h4 | h4
        · exact Or.inl (by omega)
        · exact Or.inr h4
    · rename_i h
      exact ⟨Nat.le_refl _, by omega, Or.inl rfl, Or.inr (by simpa using h)⟩
theorem dw_up {p : Nat → Bool} {N : Nat} (hp : ∀ b, b < N → p (b + 1) = true → p b = true) : dwn p N = upw p N 0 := by
  obtain ⟨h1, h2, h3, h4⟩ := upw_b p N 0
  have d1 := dwn_le p N
  have hdn : ∀ c b, b ≤ c → c ≤ N → p c = true → p b = true := by
    intro c
    induction c with
    | zero => intro b hb _ h; have : b = 0 := by omega
              rw [this]; exact h
    | succ c ih =>
      intro b hb hc h
      by_cases he : b = c + 1
      · rw [he]; exact h
      · exact ih b (by omega) (by omega) (hp c (by omega) h)
  rcases Nat.lt_trichotomy (dwn p N) (upw p N 0) with hl | he | hg
  · have := dwn_n p N (upw p N 0) hl (by omega)
    rcases h3 with h3 | h3
    · omega
    · rw [this] at h3; cases h3
  · exact he
  · rcases h4 with h4 | h4
    · omega
    · rcases dwn_p p N with h5 | h5
      · omega
      · rw [hdn _ _ (by omega) d1 h5] at h4; cases h4
def dpr (ds : Nat → Int32) (bits m : Int32) (b : Nat) : Bool := decide (lvd ds bits (nt b) ≤ m)
theorem dpr_mono {ds : Nat → Int32} {N k : Nat} {m : Int32} (hN : N ≤ 7) (hk : k < 2 ^ N) (hd : ∀ s, s < N → 1 ≤ ds s ∧ ds s ≤ 60) (b : Nat) (hb : b < 60) (h : dpr ds (nt k) m (b + 1) = true) : dpr ds (nt k) m b = true := by
  unfold dpr at h ⊢
  rw [decide_eq_true_eq] at h ⊢
  obtain ⟨e1, e2⟩ := lvd_nt (ds := ds) (b := b) hN hk (by omega) hd
  obtain ⟨f1, f2⟩ := lvd_nt (ds := ds) (b := b + 1) hN hk (by omega) hd
  refine Int32.le_trans ?_ h
  rw [e1, f1, nt_le (by omega) (by omega)]
  exact lvN_mono N
theorem m290 (hI : Inv I) {k : Nat} (hk : k < 2 ^ sI I) : wpc (d + 1) 290 [.ref (70 : Nat), .int (nt k), .int b] (mk n I L x) Φ ↔ Φ (.inl (some (.int (lvd (I 13) (nt k) b)))) (mk n I L x) := by
  have h7 := inv_s7 hI
  rw [lvd_cut h7 hk]
  show wp (d + 1) 290 0 [.ref (70 : Nat), .int (nt k), .int b, noV, noV] [] (mk n I L x) Φ ↔ _
  simp (config := {decide := true}) only [r290_0, r290_1, r290_2, r290_3, if_true, if_false, Nat.reduceAdd, Int32.reduceToNatClampNeg, lo_i, lo_r, lo_n, kont_v, kont_n, List.length_nil, List.length_cons]
  refine loopN (P := fun i t => wp (d + 1) 290 5 [.ref (70 : Nat), .int (nt k), .int b, .int t, .int (nt i)] [] (mk n I L x) Φ) (Q := fun t => Φ (.inl (some (.int t))) (mk n I L x)) (n := sI I) ?_ ?_ 0
  · intro i t hi
    have e1 : ¬ (nt (sI I) ≤ nt i) := nt_nle hi (by omega)
    have e2 : (nt i).toNatClampNeg = i := nt_clamp (by omega)
    have e3 : (0 : Int32) ≤ nt i := nt_ge (by omega)
    have e4 : i < 7 := by omega
    have e5 : 84 + i < 560 := by omega
    have w2 := (hI.1.2.2.1 i hi).1
    rw [r290_5]
    by_cases h1 : nt k >>> (nt i &&& 31) &&& 1 = 1
    · simp (config := {decide := true}) only [r290_7, r290_8, r290_11, r290_12, r290_13, r290_16, r290_17, r290_18, r290_20, r290_23, r290_26, r290_27, r290_28, r290_31, r290_33, r290_34, r290_35, r290_36, r290_39, r290_42, r290_43, r290_44, r290_45, r290_48, r290_51, r290_52, if_true, if_false, Nat.reduceAdd, Int32.reduceToNatClampNeg, lo_i, lo_r, lo_n, kont_v, kont_n, List.length_nil, List.length_cons, and_self, and_true, true_and, and_false, false_and, not_true, not_false_eq_true, true_or, or_true, bi_eq0, s74, hI.1.2.1.1, e1, e2, e3, e4, e5, m197, h1, s83, sh84 e4, w2, nt_succ, m195]
    · simp (config := {decide := true}) only [r290_7, r290_8, r290_11, r290_12, r290_13, r290_16, r290_17, r290_18, r290_20, r290_23, r290_26, r290_27, r290_28, r290_31, r290_33, r290_34, r290_35, r290_36, r290_39, r290_42, r290_43, r290_44, r290_45, r290_48, r290_51, r290_52, if_true, if_false, Nat.reduceAdd, Int32.reduceToNatClampNeg, lo_i, lo_r, lo_n, kont_v, kont_n, List.length_nil, List.length_cons, and_self, and_true, true_and, and_false, false_and, not_true, not_false_eq_true, true_or, or_true, bi_eq0, s74, hI.1.2.1.1, e1, m197, h1, nt_succ]
  · intro t
    have e6 : nt (sI I) ≤ nt (sI I) := Int32.le_refl _
    rw [r290_5]
    simp (config := {decide := true}) only [r290_7, r290_8, r290_11, r290_12, r290_13, r290_16, r290_17, r290_18, r290_20, r290_23, r290_26, r290_27, r290_28, r290_31, r290_33, r290_34, r290_35, r290_36, r290_39, r290_42, r290_43, r290_44, r290_45, r290_48, r290_51, r290_52, if_true, if_false, Nat.reduceAdd, Int32.reduceToNatClampNeg, lo_i, lo_r, lo_n, kont_v, kont_n, List.length_nil, List.length_cons, s74, hI.1.2.1.1, e6]
def aDreams (I : Nat → Nat → Int32) (s : Int32) (bits : Int32) (z : Int32) : An := if 0 ≤ s ∧ s ≤ I 12 5 - 1 then (if 0 ≤ bits ∧ bits < 1 <<< (I 12 5 &&& 31) then (if 0 ≤ z ∧ z ≤ 999 then (.inl ((if bits >>> (s &&& 31) &&& 1 = 1 then mni (nt (dwn (dpr (I 13) bits z) 60)) (I 13 s.toNatClampNeg) else 0 : Int32))) else .inr (2, 2)) else .inr (2, 2)) else .inr (1, 1)
theorem t_aDreams {I J : Nat → Nat → Int32} {s bits z : Int32} (h : view J = view I) : aDreams J s bits z = aDreams I s bits z := by
  unfold aDreams
  simp only [t12 h, t13 h]
theorem q157 (hI : Inv I) (hx : x + 1 ≤ 600) (h : resC n I L x Φ (aDreams I s bits z)) : wpc (d + 12) 157 [.ref (9 : Nat), .int s, .int bits, .int z] (mk n I L x) Φ := by
  show wp (d + 12) 157 0 [.ref (9 : Nat), .int s, .int bits, .int z, noV] [] (mk n I L x) Φ
  unfold aDreams at h
  have hC := hI.1.1
  by_cases g1 : 0 ≤ s ∧ s ≤ I 12 5 - 1
  · rw [if_pos g1] at h
    by_cases g2 : 0 ≤ bits ∧ bits < 1 <<< (I 12 5 &&& 31)
    · rw [if_pos g2] at h
      by_cases g3 : 0 ≤ z ∧ z ≤ 999
      · rw [if_pos g3] at h
        obtain ⟨j, hj, rfl⟩ := isN (inv_s hI) (inv_s7 hI) g1
        have hj7 : j < 7 := by have := inv_s7 hI; omega
        have i1 : atv 7 (I 13) (nt j) = I 13 j := atv_nt hj7 (by decide)
        rw [nt_clamp (k := j) (by omega)] at h
        by_cases g4 : bits >>> (nt j &&& 31) &&& 1 = 1
        · rw [if_pos g4] at h
          simp (config := {decide := true}) only [r157_0, r157_1, r157_2, r157_5, r157_6, r157_7, r157_8, r157_11, r157_14, r157_17, r157_20, r157_21, r157_22, r157_25, r157_28, r157_31, r157_32, r157_35, r157_36, r157_39, r157_40, r157_41, r157_44, r157_47, r157_48, r157_49, r157_51, if_true, if_false, Nat.reduceAdd, Int32.reduceToNatClampNeg, lo_i, lo_r, lo_n, kont_v, kont_n, List.length_nil, List.length_cons, and_self, and_true, true_and, and_false, false_and, not_true, not_false_eq_true, true_or, or_true, bi_eq0, c181 hx, c179 hx, c180 hx, c182, c183, kx, g1, g2, g3, k12, c184, g4]
          have key : ∀ b, b ≤ 60 → Φ (.inl (some (.int (mni (nt (dwn (dpr (I 13) bits z) b)) (I 13 j))))) (mk n I L x) → wp (d + 12) 157 53 [.ref (9 : Nat), .int (nt j), .int bits, .int z, .int (nt b)] [] (mk n I L x) Φ := by
            intro b
            induction b with
            | zero =>
              intro _ hq
              rw [r157_53]
              simp (config := {decide := true}) only [r157_55, r157_58, r157_59, r157_62, r157_63, r157_65, r157_68, r157_69, r157_72, r157_75, r157_78, r157_80, r157_81, r157_84, r157_85, r157_88, r157_91, if_true, if_false, Nat.reduceAdd, Int32.reduceToNatClampNeg, lo_i, lo_r, lo_n, kont_v, kont_n, List.length_nil, List.length_cons, and_self, and_true, true_and, and_false, false_and, not_true, not_false_eq_true, true_or, or_true, bi_eq0, k12, c82 k12, i1, c317]
              exact hq
            | succ b ih =>
              intro hb hq
              have e1 : ¬ (nt (b + 1) ≤ 0) := nt_nle (m := b + 1) (j := 0) (by omega) (by omega)
              have e2 : nt (b + 1) + -1 = nt b := nt_pred (by omega)
              unfold dwn at hq
              rw [r157_53]
              by_cases h1 : lvd (I 13) bits (nt (b + 1)) ≤ z
              · rw [if_pos (show dpr (I 13) bits z (b + 1) = true from decide_eq_true h1)] at hq
                simp (config := {decide := true}) only [r157_55, r157_58, r157_59, r157_62, r157_63, r157_65, r157_68, r157_69, r157_72, r157_75, r157_78, r157_80, r157_81, r157_84, r157_85, r157_88, r157_91, if_true, if_false, Nat.reduceAdd, Int32.reduceToNatClampNeg, lo_i, lo_r, lo_n, kont_v, kont_n, List.length_nil, List.length_cons, and_self, and_true, true_and, and_false, false_and, not_true, not_false_eq_true, true_or, or_true, bi_eq0, k12, c88 k12, c82 k12, i1, c317, e1, h1]
                exact hq
              · rw [if_neg (show ¬ dpr (I 13) bits z (b + 1) = true from fun e => h1 (of_decide_eq_true e))] at hq
                simp (config := {decide := true}) only [r157_55, r157_58, r157_59, r157_62, r157_63, r157_65, r157_68, r157_69, r157_72, r157_75, if_true, if_false, Nat.reduceAdd, Int32.reduceToNatClampNeg, lo_i, lo_r, lo_n, kont_v, kont_n, List.length_nil, List.length_cons, and_self, and_true, true_and, and_false, false_and, not_true, not_false_eq_true, true_or, or_true, bi_eq0, k12, c88 k12, e1, h1, e2]
                exact ih (by omega) hq
          exact key 60 (Nat.le_refl 60) (okC h)
        · rw [if_neg g4] at h
          simp (config := {decide := true}) only [r157_0, r157_1, r157_2, r157_5, r157_6, r157_7, r157_8, r157_11, r157_14, r157_17, r157_20, r157_21, r157_22, r157_25, r157_28, r157_31, r157_32, r157_35, r157_36, r157_39, r157_40, r157_41, r157_44, r157_47, r157_48, r157_49, r157_51, if_true, if_false, Nat.reduceAdd, Int32.reduceToNatClampNeg, lo_i, lo_r, lo_n, kont_v, kont_n, List.length_nil, List.length_cons, and_self, and_true, true_and, and_false, false_and, not_true, not_false_eq_true, true_or, or_true, bi_eq0, c181 hx, c179 hx, c180 hx, c182, c183, kx, g1, g2, g3, k12, c184, g4]
          exact okC h
      · rw [if_neg g3] at h
        simp (config := {decide := true}) only [r157_0, r157_1, r157_2, r157_5, r157_6, r157_7, r157_8, r157_11, r157_14, r157_17, r157_20, r157_21, r157_22, r157_25, r157_28, r157_31, r157_32, r157_35, r157_36, r157_39, r157_40, r157_41, r157_44, r157_47, r157_48, r157_49, r157_51, r157_53, r157_55, r157_58, r157_59, r157_62, r157_63, r157_65, r157_68, r157_69, r157_72, r157_75, r157_78, r157_80, r157_81, r157_84, r157_85, r157_88, r157_91, if_true, if_false, Nat.reduceAdd, Int32.reduceToNatClampNeg, lo_i, lo_r, lo_n, kont_v, kont_n, List.length_nil, List.length_cons, and_self, and_true, true_and, and_false, false_and, not_true, not_false_eq_true, true_or, or_true, bi_eq0, c181 hx, c179 hx, c180 hx, c182, c183, kx, g1, g2, g3, k12]
        exact exC2 h
    · rw [if_neg g2] at h
      simp (config := {decide := true}) only [r157_0, r157_1, r157_2, r157_5, r157_6, r157_7, r157_8, r157_11, r157_14, r157_17, r157_20, r157_21, r157_22, r157_25, r157_28, r157_31, r157_32, r157_35, r157_36, r157_39, r157_40, r157_41, r157_44, r157_47, r157_48, r157_49, r157_51, r157_53, r157_55, r157_58, r157_59, r157_62, r157_63, r157_65, r157_68, r157_69, r157_72, r157_75, r157_78, r157_80, r157_81, r157_84, r157_85, r157_88, r157_91, if_true, if_false, Nat.reduceAdd, Int32.reduceToNatClampNeg, lo_i, lo_r, lo_n, kont_v, kont_n, List.length_nil, List.length_cons, and_self, and_true, true_and, and_false, false_and, not_true, not_false_eq_true, true_or, or_true, bi_eq0, c181 hx, c179 hx, c180 hx, c182, c183, kx, g1, g2, k12]
      exact exC2 h
  · rw [if_neg g1] at h
    simp (config := {decide := true}) only [r157_0, r157_1, r157_2, r157_5, r157_6, r157_7, r157_8, r157_11, r157_14, r157_17, r157_20, r157_21, r157_22, r157_25, r157_28, r157_31, r157_32, r157_35, r157_36, r157_39, r157_40, r157_41, r157_44, r157_47, r157_48, r157_49, r157_51, r157_53, r157_55, r157_58, r157_59, r157_62, r157_63, r157_65, r157_68, r157_69, r157_72, r157_75, r157_78, r157_80, r157_81, r157_84, r157_85, r157_88, r157_91, if_true, if_false, Nat.reduceAdd, Int32.reduceToNatClampNeg, lo_i, lo_r, lo_n, kont_v, kont_n, List.length_nil, List.length_cons, and_self, and_true, true_and, and_false, false_and, not_true, not_false_eq_true, true_or, or_true, bi_eq0, c181 hx, c179 hx, c180 hx, c182, c183, kx, g1, k12]
    exact exC1 h
theorem u291 (hI : Inv I) (h : resM n I L x Φ (aDreams I s bits z)) : wpc (d + 12) 291 [.ref (70 : Nat), .int s, .int bits, .int z] (mk n I L x) Φ := by
  show wp (d + 12) 291 0 [.ref (70 : Nat), .int s, .int bits, .int z, noV] [] (mk n I L x) Φ
  rw [r291_0, r291_1, r291_2]
  replace h := resM_z h
  rw [← t_aDreams v70] at h
  replace hI := tr_Inv v70 hI
  have hz := z70 (I := I)
  generalize wrI I 70 0 0 = I at h hI hz ⊢
  unfold aDreams at h
  have hM := hI.1
  have g0 : (bits ≤ 1 <<< (I 12 5 &&& 31) - 1) = (bits < 1 <<< (I 12 5 &&& 31)) := by rw [inv_s hI]; exact set_le (inv_s7 hI)
  by_cases g1 : 0 ≤ s ∧ s ≤ I 12 5 - 1
  · rw [if_pos g1] at h
    by_cases g2 : 0 ≤ bits ∧ bits < 1 <<< (I 12 5 &&& 31)
    · rw [if_pos g2] at h
      by_cases g3 : 0 ≤ z ∧ z ≤ 999
      · rw [if_pos g3] at h
        obtain ⟨j, hj, rfl⟩ := isN (inv_s hI) (inv_s7 hI) g1
        have hj7 : j < 7 := by have := inv_s7 hI; omega
        have e1 : (nt j).toNatClampNeg = j := nt_clamp (by omega)
        have e2 : (0 : Int32) ≤ nt j := nt_ge (by omega)
        have e3 : 84 + j < 560 := by omega
        have w1 := (hI.1.2.2.1 j hj).1
        rw [nt_clamp (k := j) (by omega)] at h
        have g5 := g2
        rw [inv_s hI] at g5
        obtain ⟨B, hB, rfl⟩ := set_nt (inv_s7 hI) g5
        rw [dw_up (dpr_mono (inv_s7 hI) hB (fun s hs => (hI.2.2.1.1 s hs).1))] at h
        simp (config := {decide := true}) only [r291_5, r291_6, r291_7, r291_8, r291_11, r291_14, r291_15, r291_18, r291_19, r291_20, r291_21, r291_24, r291_27, r291_28, r291_29, r291_30, r291_33, r291_36, r291_37, r291_38, r291_41, r291_44, r291_47, r291_48, r291_51, r291_52, r291_53, r291_54, r291_57, r291_60, r291_61, r291_62, r291_63, if_true, if_false, Nat.reduceAdd, Int32.reduceToNatClampNeg, lo_i, lo_r, lo_n, kont_v, kont_n, List.length_nil, List.length_cons, and_self, and_true, true_and, and_false, false_and, not_true, not_false_eq_true, true_or, or_true, bi_eq0, b10 hz, b11 hz, b21 hz, m194, m259, m257 hI, m274 hI, g0, g1, g2, g3]
        have key : ∀ m b, b + m = 60 → (Φ (.inl (some (.int (if nt B >>> (nt j &&& 31) &&& 1 = 1 then mni (nt (upw (dpr (I 13) (nt B) z) m b)) (I 13 j) else 0)))) (mk n I L x)) → wp (d + 12) 291 65 [.ref (70 : Nat), .int (nt j), .int (nt B), .int z, .int (nt b)] [] (mk n I L x) Φ := by
          intro m
          have tail : ∀ r, Φ (.inl (some (.int (if nt B >>> (nt j &&& 31) &&& 1 = 1 then mni (nt r) (I 13 j) else 0)))) (mk n I L x) → wp (d + 12) 291 91 [.ref (70 : Nat), .int (nt j), .int (nt B), .int z, .int (nt r)] [] (mk n I L x) Φ := by
            intro r hr
            by_cases g4 : nt B >>> (nt j &&& 31) &&& 1 = 1
            · rw [if_pos g4] at hr
              simp (config := {decide := true}) only [r291_91, r291_92, r291_93, r291_96, r291_99, r291_101, r291_102, r291_105, r291_106, r291_107, r291_108, r291_109, r291_112, r291_115, r291_116, if_true, if_false, Nat.reduceAdd, Int32.reduceToNatClampNeg, lo_i, lo_r, lo_n, kont_v, kont_n, List.length_nil, List.length_cons, and_self, and_true, true_and, and_false, false_and, not_true, not_false_eq_true, true_or, or_true, bi_eq0, m197, g4, e1, e2, e3, hj7, s83, sh84 hj7, w1, m195]
              exact hr
            · rw [if_neg g4] at hr
              simp (config := {decide := true}) only [r291_91, r291_92, r291_93, r291_96, r291_99, r291_101, r291_102, r291_105, r291_106, r291_107, r291_108, r291_109, r291_112, r291_115, r291_116, if_true, if_false, Nat.reduceAdd, Int32.reduceToNatClampNeg, lo_i, lo_r, lo_n, kont_v, kont_n, List.length_nil, List.length_cons, and_self, and_true, true_and, and_false, false_and, not_true, not_false_eq_true, true_or, or_true, bi_eq0, m197, g4]
              exact hr
          induction m with
          | zero =>
            intro b hb hq
            have : b = 60 := by omega
            subst this
            rw [r291_65]
            simp (config := {decide := true}) only [r291_67, r291_69, r291_72, r291_73, r291_74, r291_76, r291_77, r291_78, r291_81, r291_82, r291_85, r291_88, if_true, if_false, Nat.reduceAdd, Int32.reduceToNatClampNeg, lo_i, lo_r, lo_n, kont_v, kont_n, List.length_nil, List.length_cons, and_self, and_true, true_and, and_false, false_and, not_true, not_false_eq_true, true_or, or_true, bi_eq0]
            exact tail 60 hq
          | succ m ih =>
            intro b hb hq
            have f1 : ¬ ((60 : Int32) ≤ nt b) := nt_nle (m := 60) (by omega) (by decide)
            unfold upw at hq
            rw [r291_65]
            by_cases h1 : lvd (I 13) (nt B) (nt (b + 1)) ≤ z
            · rw [if_pos (show dpr (I 13) (nt B) z (b + 1) = true from decide_eq_true h1)] at hq
              have h3 := Int32.not_lt.mpr h1
              simp (config := {decide := true}) only [r291_67, r291_69, r291_72, r291_73, r291_74, r291_76, r291_77, r291_78, r291_81, r291_82, r291_85, r291_88, if_true, if_false, Nat.reduceAdd, Int32.reduceToNatClampNeg, lo_i, lo_r, lo_n, kont_v, kont_n, List.length_nil, List.length_cons, and_self, and_true, true_and, and_false, false_and, not_true, not_false_eq_true, true_or, or_true, bi_eq0, f1, m290 hI hB, nt_succ, h3]
              exact ih (b + 1) (by omega) hq
            · rw [if_neg (show ¬ dpr (I 13) (nt B) z (b + 1) = true from fun e => h1 (of_decide_eq_true e))] at hq
              have h3 := Int32.not_le.mp h1
              simp (config := {decide := true}) only [r291_67, r291_69, r291_72, r291_73, r291_74, r291_76, r291_77, r291_78, r291_81, r291_82, r291_85, r291_88, if_true, if_false, Nat.reduceAdd, Int32.reduceToNatClampNeg, lo_i, lo_r, lo_n, kont_v, kont_n, List.length_nil, List.length_cons, and_self, and_true, true_and, and_false, false_and, not_true, not_false_eq_true, true_or, or_true, bi_eq0, f1, m290 hI hB, nt_succ, h3]
              exact tail b hq
        exact key 60 0 rfl (oqM h hz)
      · rw [if_neg g3] at h
        simp (config := {decide := true}) only [r291_5, r291_6, r291_7, r291_8, r291_11, r291_14, r291_15, r291_18, r291_19, r291_20, r291_21, r291_24, r291_27, r291_28, r291_29, r291_30, r291_33, r291_36, r291_37, r291_38, r291_41, r291_44, r291_47, r291_48, r291_51, r291_52, r291_53, r291_54, r291_57, r291_60, r291_61, r291_62, r291_63, r291_65, r291_67, r291_69, r291_72, r291_73, r291_74, r291_76, r291_77, r291_78, r291_81, r291_82, r291_85, r291_88, r291_91, r291_92, r291_93, r291_96, r291_99, r291_101, r291_102, r291_105, r291_106, r291_107, r291_108, r291_109, r291_112, r291_115, r291_116, if_true, if_false, Nat.reduceAdd, Int32.reduceToNatClampNeg, lo_i, lo_r, lo_n, kont_v, kont_n, List.length_nil, List.length_cons, and_self, and_true, true_and, and_false, false_and, not_true, not_false_eq_true, true_or, or_true, bi_eq0, b10 hz, b11 hz, b21 hz, m194, m259, m257 hI, m258 hI, m266 hI, m274 hI, g1, g2, g3, g0]
        exact exM h
    · rw [if_neg g2] at h
      simp (config := {decide := true}) only [r291_5, r291_6, r291_7, r291_8, r291_11, r291_14, r291_15, r291_18, r291_19, r291_20, r291_21, r291_24, r291_27, r291_28, r291_29, r291_30, r291_33, r291_36, r291_37, r291_38, r291_41, r291_44, r291_47, r291_48, r291_51, r291_52, r291_53, r291_54, r291_57, r291_60, r291_61, r291_62, r291_63, r291_65, r291_67, r291_69, r291_72, r291_73, r291_74, r291_76, r291_77, r291_78, r291_81, r291_82, r291_85, r291_88, r291_91, r291_92, r291_93, r291_96, r291_99, r291_101, r291_102, r291_105, r291_106, r291_107, r291_108, r291_109, r291_112, r291_115, r291_116, if_true, if_false, Nat.reduceAdd, Int32.reduceToNatClampNeg, lo_i, lo_r, lo_n, kont_v, kont_n, List.length_nil, List.length_cons, and_self, and_true, true_and, and_false, false_and, not_true, not_false_eq_true, true_or, or_true, bi_eq0, b10 hz, b11 hz, b21 hz, m194, m259, m257 hI, m258 hI, m266 hI, m274 hI, g1, g2, g0]
      exact exM h
  · rw [if_neg g1] at h
    simp (config := {decide := true}) only [r291_5, r291_6, r291_7, r291_8, r291_11, r291_14, r291_15, r291_18, r291_19, r291_20, r291_21, r291_24, r291_27, r291_28, r291_29, r291_30, r291_33, r291_36, r291_37, r291_38, r291_41, r291_44, r291_47, r291_48, r291_51, r291_52, r291_53, r291_54, r291_57, r291_60, r291_61, r291_62, r291_63, r291_65, r291_67, r291_69, r291_72, r291_73, r291_74, r291_76, r291_77, r291_78, r291_81, r291_82, r291_85, r291_88, r291_91, r291_92, r291_93, r291_96, r291_99, r291_101, r291_102, r291_105, r291_106, r291_107, r291_108, r291_109, r291_112, r291_115, r291_116, if_true, if_false, Nat.reduceAdd, Int32.reduceToNatClampNeg, lo_i, lo_r, lo_n, kont_v, kont_n, List.length_nil, List.length_cons, and_self, and_true, true_and, and_false, false_and, not_true, not_false_eq_true, true_or, or_true, bi_eq0, b10 hz, b11 hz, b21 hz, m194, m259, m257 hI, m258 hI, m266 hI, m274 hI, g1, g0]
    exact exM h
end Q4
