/-! A REPUBLIC, read: clauses of the reference, the rest -/
section Mv
variable {d n x N a b told : Nat} {B : Nat → Int32} {Φ : POut → PM → Prop} {I J K G : Nat → Nat → Int32} {L : Nat → Nat → Int64} {v w c p s q lo hi : Int32} {g : Nat → Int32} {σ τ : RSt} {t : LSt} {r i : Nat} {z2 : Int32} {v3 v4 v5 : Value}
theorem s73 : sh0 n 73 = (20, 3, []) := eq_of_heq HEq.rfl
theorem m218_2 (hX0 : MX I N B) (hM : MB I J) (hK : MT J K N (.inl a)) (n3 : NL v3) (tg : ∀ V p', rNum B N 0 9 a = .inl (V, p') → ∀ K' v3, NL v3 → MT (upR J 73 (upd (J 73) 2 (nt V))) K' N (.inl p') → wp (d + 5) 218 274 [.ref (70 : Nat), .int 2, .int z2, v3, v4, v5] [] (mk n K' L x) Φ) (tb : ∀ e, rNum B N 0 9 a = .inr e → ∀ J' K' v3, NL v3 → MB I J' → MT J' K' N (.inr e) → wp (d + 5) 218 274 [.ref (70 : Nat), .int 2, .int z2, v3, v4, v5] [] (mk n K' L x) Φ) : wp (d + 5) 218 190 [.ref (70 : Nat), .int 2, .int z2, v3, v4, v5] [] (mk n K L x) Φ := by
  have hX := MX_mb hM hX0
  simp (config := {decide := true}) only [r218_190, r218_191, r218_192, r218_194, if_true, if_false, Nat.reduceAdd, Int32.reduceToNatClampNeg, lo_i, lo_r, lo_n, kont_v, kont_n, List.length_nil, List.length_cons]
  refine m204a hX hK (by decide) ?_ ?_
  · intro V p1 hn K1 hK1
    refine kont_v.mpr ?_
    have f5 : K1 70 5 = 0 := MT_5 hK1
    have e73 : K1 73 = J 73 := MT_ne hK1 (by decide)
    simp (config := {decide := true}) only [r218_197, r218_198, r218_199, r218_202, r218_205, r218_206, r218_209, r218_210, r218_211, r218_212, if_true, if_false, Nat.reduceAdd, Int32.reduceToNatClampNeg, lo_i, lo_r, lo_n, kont_v, kont_n, List.length_nil, List.length_cons, n3, f5, s73]
    have h2 := MT_up (r := 73) (g := upd (J 73) 2 (nt V)) hK1 (by decide)
    rw [wr_raw, e73]
    exact tg V p1 hn _ _ (lo_i _) h2
  · intro e he K1 hK1
    refine kont_v.mpr ?_
    have f5 : ¬ K1 70 5 = 0 := by rw [MT_5 hK1]; exact kf hK1.1 hK1.2.1
    simp (config := {decide := true}) only [r218_197, r218_198, r218_199, r218_202, if_true, if_false, Nat.reduceAdd, Int32.reduceToNatClampNeg, lo_i, lo_r, lo_n, kont_v, kont_n, List.length_nil, List.length_cons, n3, f5]
    exact tb e he J K1 _ (lo_i _) hM hK1
theorem s106 {k : Nat} (h : k < 7) : sh0 n (105 + 1 + k) = (20, 6, []) := by
  have : k = 0 ∨ k = 1 ∨ k = 2 ∨ k = 3 ∨ k = 4 ∨ k = 5 ∨ k = 6 := by omega
  rcases this with rfl | rfl | rfl | rfl | rfl | rfl | rfl <;> rfl
theorem m218_3 (hX0 : MX I N B) (hM : MB I J) (hR : Rm J σ) (hs : σ.1 ≤ 7) (hc : σ.2.1 ≤ 6) (hK : MT J K N (.inl a)) (n3 : NL v3) (n4 : NL v4) (n5 : NL v5) (tg : ∀ u p', r3 B N σ.1 σ.2.1 a = .inl (u, p') → u.1 < 7 → u.2.1 < 6 → ∀ K' v3 v4 v5, NL v3 → NL v4 → NL v5 → MT (upR J (106 + u.1) (upd (J (106 + u.1)) u.2.1 (nt u.2.2))) K' N (.inl p') → wp (d + 5) 218 274 [.ref (70 : Nat), .int 3, .int z2, v3, v4, v5] [] (mk n K' L x) Φ) (tb : ∀ e, r3 B N σ.1 σ.2.1 a = .inr e → ∀ J' K' v3 v4 v5, NL v3 → NL v4 → NL v5 → MB I J' → MT J' K' N (.inr e) → wp (d + 5) 218 274 [.ref (70 : Nat), .int 3, .int z2, v3, v4, v5] [] (mk n K' L x) Φ) : wp (d + 5) 218 215 [.ref (70 : Nat), .int 3, .int z2, v3, v4, v5] [] (mk n K L x) Φ := by
  have hX := MX_mb hM hX0
  have s0 : ∀ {K t}, MT J K N t → K 73 0 = nt σ.1 := fun h => by rw [MT_ne h (by decide)]; exact hR.1.1
  have s1 : ∀ {K t}, MT J K N t → K 73 1 = nt σ.2.1 := fun h => by rw [MT_ne h (by decide)]; exact hR.1.2.1
  have f3 : ∀ e, r3 B N σ.1 σ.2.1 a = .inr e → ∀ K, MT J K N (.inr e) → ∀ v3 v4 v5, NL v3 → NL v4 → NL v5 → wp (d + 5) 218 253 [.ref (70 : Nat), .int 3, .int z2, v3, v4, v5] [] (mk n K L x) Φ := by
    intro e he K hK v3 v4 v5 n3 n4 n5
    have f5 : ¬ K 70 5 = 0 := by rw [MT_5 hK]; exact kf hK.1 hK.2.1
    simp (config := {decide := true}) only [r218_253, r218_254, r218_257, if_true, if_false, Nat.reduceAdd, Int32.reduceToNatClampNeg, lo_i, lo_r, lo_n, kont_v, kont_n, List.length_nil, List.length_cons, f5]
    exact tb e he J K _ _ _ n3 n4 n5 hM hK
  have f2 : ∀ e, r3 B N σ.1 σ.2.1 a = .inr e → ∀ K, MT J K N (.inr e) → ∀ v3 v4 v5, NL v3 → NL v4 → NL v5 → wp (d + 5) 218 244 [.ref (70 : Nat), .int 3, .int z2, v3, v4, v5] [] (mk n K L x) Φ := by
    intro e he K hK v3 v4 v5 n3 n4 n5
    simp (config := {decide := true}) only [r218_244, r218_245, r218_246, r218_248, if_true, if_false, Nat.reduceAdd, Int32.reduceToNatClampNeg, lo_i, lo_r, lo_n, kont_v, kont_n, List.length_nil, List.length_cons]
    refine m204f hX hK (by decide) (fun K2 hK2 => kont_v.mpr ?_)
    simp (config := {decide := true}) only [r218_251, if_true, if_false, Nat.reduceAdd, Int32.reduceToNatClampNeg, lo_i, lo_r, lo_n, kont_v, kont_n, List.length_nil, List.length_cons, n4]
    exact f3 e he K2 hK2 _ _ _ n3 n4 (lo_i _)
  have f1 : ∀ e, r3 B N σ.1 σ.2.1 a = .inr e → ∀ K, MT J K N (.inr e) → ∀ v3 v4 v5, NL v3 → NL v4 → NL v5 → wp (d + 5) 218 229 [.ref (70 : Nat), .int 3, .int z2, v3, v4, v5] [] (mk n K L x) Φ := by
    intro e he K hK v3 v4 v5 n3 n4 n5
    simp (config := {decide := true}) only [r218_229, r218_230, r218_231, r218_232, r218_235, r218_236, r218_237, r218_238, r218_239, if_true, if_false, Nat.reduceAdd, Int32.reduceToNatClampNeg, lo_i, lo_r, lo_n, kont_v, kont_n, List.length_nil, List.length_cons, s73, s1 hK]
    refine m204f hX hK (hS1 (by omega)) (fun K2 hK2 => kont_v.mpr ?_)
    simp (config := {decide := true}) only [r218_242, if_true, if_false, Nat.reduceAdd, Int32.reduceToNatClampNeg, lo_i, lo_r, lo_n, kont_v, kont_n, List.length_nil, List.length_cons, n3]
    exact f2 e he K2 hK2 _ _ _ n3 (lo_i _) n5
  simp (config := {decide := true}) only [r218_215, r218_216, r218_217, r218_218, r218_221, r218_222, r218_223, r218_224, r218_225, if_true, if_false, Nat.reduceAdd, Int32.reduceToNatClampNeg, lo_i, lo_r, lo_n, kont_v, kont_n, List.length_nil, List.length_cons, s73, s0 hK]
  refine m204a hX hK (hS1 hs) ?_ ?_
  · intro V1 p1 hn1 K1 hK1
    refine kont_v.mpr ?_
    simp (config := {decide := true}) only [r218_228, r218_229, r218_230, r218_231, r218_232, r218_235, r218_236, r218_237, r218_238, r218_239, if_true, if_false, Nat.reduceAdd, Int32.reduceToNatClampNeg, lo_i, lo_r, lo_n, kont_v, kont_n, List.length_nil, List.length_cons, n3, s73, s1 hK1]
    refine m204a hX hK1 (hS1 (by omega)) ?_ ?_
    · intro V2 p2 hn2 K2 hK2
      refine kont_v.mpr ?_
      simp (config := {decide := true}) only [r218_242, r218_244, r218_245, r218_246, r218_248, if_true, if_false, Nat.reduceAdd, Int32.reduceToNatClampNeg, lo_i, lo_r, lo_n, kont_v, kont_n, List.length_nil, List.length_cons, n4]
      refine m204a hX hK2 (by decide) ?_ ?_
      · intro V3 p3 hn3 K3 hK3
        refine kont_v.mpr ?_
        have hv1 := rNum_lt (by omega) hn1
        have hv2 := rNum_lt (by omega) hn2
        have f5 : K3 70 5 = 0 := MT_5 hK3
        have sA : sh0 n 105 = (22, 7, (sh0 n 105).2.2) := eq_of_heq HEq.rfl
        have g4 : (sh0 n 105).1 = 22 := by rw [sA]
        have g5 : (sh0 n 105).2.1 = 7 := by rw [sA]
        have g1 : (nt V1).toNatClampNeg = V1 := nt_clamp (by omega)
        have g2 : (0 : Int32) ≤ nt V1 := nt_ge (by omega)
        have g3 : V1 < 7 := by omega
        have c1 : (nt V2).toNatClampNeg = V2 := nt_clamp (by omega)
        have c2 : (0 : Int32) ≤ nt V2 := nt_ge (by omega)
        have c3 : V2 < 6 := by omega
        have g6 := s106 (n := n) g3
        have g7 : 105 + 1 + V1 < 560 := by omega
        have g8 : 9 ≤ 105 + 1 + V1 := by omega
        have e3 : K3 (106 + V1) = J (106 + V1) := MT_ne hK3 (by omega)
        simp (config := {decide := true}) only [r218_251, r218_253, r218_254, r218_257, r218_260, r218_261, r218_264, r218_265, r218_266, r218_268, r218_270, r218_271, if_true, if_false, Nat.reduceAdd, Int32.reduceToNatClampNeg, lo_i, lo_r, lo_n, kont_v, kont_n, List.length_nil, List.length_cons, n5, f5, g4, g5, g1, g2, g3, c1, c2, c3, g6, g7, g8]
        rw [wr_raw, show 105 + 1 + V1 = 106 + V1 by omega, e3]
        exact tg (V1, V2, V3) p3 (by unfold r3; rw [hn1]; simp only []; rw [hn2]; simp only []; rw [hn3]) g3 c3 _ _ _ _ (lo_i _) (lo_i _) (lo_i _) (MT_up hK3 (by omega))
      · intro e he K3 hK3
        refine kont_v.mpr ?_
        simp (config := {decide := true}) only [r218_251, if_true, if_false, Nat.reduceAdd, Int32.reduceToNatClampNeg, lo_i, lo_r, lo_n, kont_v, kont_n, List.length_nil, List.length_cons, n5]
        exact f3 e (by unfold r3; rw [hn1]; simp only []; rw [hn2]; simp only []; rw [he]) K3 hK3 _ _ _ (lo_i _) (lo_i _) (lo_i _)
    · intro e he K2 hK2
      refine kont_v.mpr ?_
      simp (config := {decide := true}) only [r218_242, if_true, if_false, Nat.reduceAdd, Int32.reduceToNatClampNeg, lo_i, lo_r, lo_n, kont_v, kont_n, List.length_nil, List.length_cons, n4]
      exact f2 e (by unfold r3; rw [hn1]; simp only []; rw [he]) K2 hK2 _ _ _ (lo_i _) (lo_i _) n5
  · intro e he K1 hK1
    refine kont_v.mpr ?_
    simp (config := {decide := true}) only [r218_228, if_true, if_false, Nat.reduceAdd, Int32.reduceToNatClampNeg, lo_i, lo_r, lo_n, kont_v, kont_n, List.length_nil, List.length_cons, n3]
    exact f1 e (by unfold r3; rw [he]) K1 hK1 _ _ _ (lo_i _) n4 n5
theorem m217 : wpc d 217 [.int v] (mk n I L x) Φ ↔ Φ (.inl (some (.int (if v = 0 then 7 else 6)))) (mk n I L x) := by
  show wp d 217 0 [.int v] [] (mk n I L x) Φ ↔ _
  by_cases h : v = 0
  · simp (config := {decide := true}) only [r217_0, r217_1, r217_4, r217_6, r217_9, r217_11, if_true, if_false, Nat.reduceAdd, Int32.reduceToNatClampNeg, lo_i, lo_r, lo_n, kont_v, kont_n, List.length_nil, List.length_cons, h]
  · simp (config := {decide := true}) only [r217_0, r217_1, r217_4, r217_6, r217_9, r217_11, if_true, if_false, Nat.reduceAdd, Int32.reduceToNatClampNeg, lo_i, lo_r, lo_n, kont_v, kont_n, List.length_nil, List.length_cons, h]
/-- the end of a clause -/
def inc (k : Nat) (J : Nat → Nat → Int32) (m : Nat) : Nat → Nat → Int32 := upR J 73 (upd (J 73) k (nt m))
theorem m218_e {k m : Nat} (hX0 : MX I N B) (hM : MB I J) (hk : k < 2) (h73 : J 73 k = nt m) (hK : MT J K N (.inl a)) (hok : cur B N (skp B N a) = 59 → ∀ K', MT (inc k J (m + 1)) K' N (.inl (skp B N a + 1)) → Φ (.inl none) (mk n K' L x)) (hbad : ¬ cur B N (skp B N a) = 59 → ∀ J' K', MB I J' → MT J' K' N (.inr (1, skp B N a)) → Φ (.inl none) (mk n K' L x)) : wp (d + 5) 218 274 [.ref (70 : Nat), .int (nt k), .int z2, v3, v4, v5] [] (mk n K L x) Φ := by
  have hX := MX_mb hM hX0
  simp (config := {decide := true}) only [r218_274, r218_275, r218_277, if_true, if_false, Nat.reduceAdd, Int32.reduceToNatClampNeg, lo_i, lo_r, lo_n, kont_v, kont_n, List.length_nil, List.length_cons]
  refine m210 hX (by decide) hK (fun K2 hK2 => kont_n.mpr ?_)
  have e73 : ∀ {K t}, MT J K N t → K 73 = J 73 := fun h => MT_ne h (by decide)
  have g0 : ¬ (2 ≤ nt k) := nt_nle (m := 2) hk (by decide)
  have g1 : (nt k).toNatClampNeg = k := nt_clamp (by omega)
  have g2 : (0 : Int32) ≤ nt k := nt_ge (by omega)
  have g3 : k < 3 := by omega
  by_cases hsg : cur B N (skp B N a) = 59
  · simp only [lSig, if_pos hsg] at hK2
    have f5 : K2 70 5 = 0 := MT_5 hK2
    simp (config := {decide := true}) only [r218_280, r218_281, r218_282, r218_285, r218_286, r218_289, r218_290, r218_291, r218_292, r218_293, r218_296, r218_299, r218_300, r218_303, r218_304, r218_305, r218_306, if_true, if_false, Nat.reduceAdd, Int32.reduceToNatClampNeg, lo_i, lo_r, lo_n, kont_v, kont_n, List.length_nil, List.length_cons, g0, g1, g2, g3, s73, f5, e73 hK2, h73, nt_succ]
    rw [wr_raw, e73 hK2]
    exact hok hsg _ (MT_up hK2 (by decide))
  · simp only [lSig, if_neg hsg] at hK2
    have f5 : ¬ K2 70 5 = 0 := by rw [MT_5 hK2]; exact kf hK2.1 hK2.2.1
    simp (config := {decide := true}) only [r218_280, r218_281, r218_282, r218_285, r218_286, r218_289, r218_290, r218_291, r218_292, r218_293, r218_296, r218_299, r218_300, r218_303, r218_304, r218_305, r218_306, if_true, if_false, Nat.reduceAdd, Int32.reduceToNatClampNeg, lo_i, lo_r, lo_n, kont_v, kont_n, List.length_nil, List.length_cons, g0, g1, g2, g3, s73, f5, e73 hK2]
    exact hbad hsg _ _ (MB_up hM (by decide)) (MT_up hK2 (by decide))
theorem m218_f {k : Nat} {e : Nat × Nat} (hX0 : MX I N B) (hM : MB I J) (hk : k < 4) (hK : MT J K N (.inr e)) (hbad : ∀ J' K', MB I J' → MT J' K' N (.inr e) → Φ (.inl none) (mk n K' L x)) : wp (d + 5) 218 274 [.ref (70 : Nat), .int (nt k), .int z2, v3, v4, v5] [] (mk n K L x) Φ := by
  have hX := MX_mb hM hX0
  simp (config := {decide := true}) only [r218_274, r218_275, r218_277, if_true, if_false, Nat.reduceAdd, Int32.reduceToNatClampNeg, lo_i, lo_r, lo_n, kont_v, kont_n, List.length_nil, List.length_cons]
  refine m210 hX (by decide) hK (fun K2 hK2 => kont_n.mpr ?_)
  have f5 : ¬ K2 70 5 = 0 := by rw [MT_5 hK2]; exact kf hK2.1 hK2.2.1
  by_cases h2 : k < 2
  · have g0 : ¬ (2 ≤ nt k) := nt_nle (m := 2) h2 (by decide)
    have g1 : (nt k).toNatClampNeg = k := nt_clamp (by omega)
    have g2 : (0 : Int32) ≤ nt k := nt_ge (by omega)
    have g3 : k < 3 := by omega
    simp (config := {decide := true}) only [r218_280, r218_281, r218_282, r218_285, r218_286, r218_289, r218_290, r218_291, r218_292, r218_293, r218_296, r218_299, r218_300, r218_303, r218_304, r218_305, r218_306, if_true, if_false, Nat.reduceAdd, Int32.reduceToNatClampNeg, lo_i, lo_r, lo_n, kont_v, kont_n, List.length_nil, List.length_cons, g0, g1, g2, g3, s73, f5]
    exact hbad _ _ (MB_up hM (by decide)) (MT_up hK2 (by decide))
  · have g0 : 2 ≤ nt k := by rw [show (2 : Int32) = nt 2 from rfl, nt_le (by decide) (by omega)]; omega
    simp (config := {decide := true}) only [r218_280, r218_281, r218_282, r218_285, r218_286, r218_289, r218_290, r218_291, r218_292, r218_293, r218_296, r218_299, r218_300, r218_303, r218_304, r218_305, r218_306, if_true, if_false, Nat.reduceAdd, Int32.reduceToNatClampNeg, lo_i, lo_r, lo_n, kont_v, kont_n, List.length_nil, List.length_cons, g0]
    exact hbad _ _ hM hK2
theorem m218_g {k : Nat} (hX0 : MX I N B) (hM : MB I J) (h2 : 2 ≤ k) (hk : k < 4) (hK : MT J K N (.inl a)) (hok : cur B N (skp B N a) = 59 → ∀ K', MT J K' N (.inl (skp B N a + 1)) → Φ (.inl none) (mk n K' L x)) (hbad : ¬ cur B N (skp B N a) = 59 → ∀ J' K', MB I J' → MT J' K' N (.inr (1, skp B N a)) → Φ (.inl none) (mk n K' L x)) : wp (d + 5) 218 274 [.ref (70 : Nat), .int (nt k), .int z2, v3, v4, v5] [] (mk n K L x) Φ := by
  have hX := MX_mb hM hX0
  have g0 : 2 ≤ nt k := by rw [show (2 : Int32) = nt 2 from rfl, nt_le (by decide) (by omega)]; omega
  simp (config := {decide := true}) only [r218_274, r218_275, r218_277, if_true, if_false, Nat.reduceAdd, Int32.reduceToNatClampNeg, lo_i, lo_r, lo_n, kont_v, kont_n, List.length_nil, List.length_cons]
  refine m210 hX (by decide) hK (fun K2 hK2 => kont_n.mpr ?_)
  by_cases hsg : cur B N (skp B N a) = 59
  · simp only [lSig, if_pos hsg] at hK2
    simp (config := {decide := true}) only [r218_280, r218_281, r218_282, r218_285, r218_286, r218_289, r218_290, r218_291, r218_292, r218_293, r218_296, r218_299, r218_300, r218_303, r218_304, r218_305, r218_306, if_true, if_false, Nat.reduceAdd, Int32.reduceToNatClampNeg, lo_i, lo_r, lo_n, kont_v, kont_n, List.length_nil, List.length_cons, g0]
    exact hok hsg _ hK2
  · simp only [lSig, if_neg hsg] at hK2
    simp (config := {decide := true}) only [r218_280, r218_281, r218_282, r218_285, r218_286, r218_289, r218_290, r218_291, r218_292, r218_293, r218_296, r218_299, r218_300, r218_303, r218_304, r218_305, r218_306, if_true, if_false, Nat.reduceAdd, Int32.reduceToNatClampNeg, lo_i, lo_r, lo_n, kont_v, kont_n, List.length_nil, List.length_cons, g0]
    exact hbad hsg _ _ hM hK2
end Mv

