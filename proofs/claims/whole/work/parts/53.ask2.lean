/-! QUESTIONS: sets -/
theorem wb_if {p : Nat → Prop} [∀ k, Decidable (p k)] {m : Nat} : foldN (fun k b => b ||| (if p k then bt k else 0)) m 0 = wb (fun k => decide (p k)) m := by
  unfold wb
  refine foldN_cong m (fun k b _ => ?_)
  by_cases h : p k <;> simp [h]
theorem wb_ifn {p : Nat → Prop} [∀ k, Decidable (p k)] {m : Nat} : foldN (fun k b => b ||| (if p k then 0 else bt k)) m 0 = wb (fun k => !decide (p k)) m := by
  unfold wb
  refine foldN_cong m (fun k b _ => ?_)
  by_cases h : p k <;> simp [h]
theorem wb_l6 (c : Nat → Bool) : wb c 6 = wb (fun k => [c 0, c 1, c 2, c 3, c 4, c 5].getD k false) 6 := rfl
theorem wba_t : ∀ p0 p1 p2 p3 p4 p5 q0 q1 q2 q3 q4 q5 : Bool, wb (fun k => [p0, p1, p2, p3, p4, p5].getD k false) 6 &&& wb (fun k => [q0, q1, q2, q3, q4, q5].getD k false) 6 = wb (fun k => [p0 && q0, p1 && q1, p2 && q2, p3 && q3, p4 && q4, p5 && q5].getD k false) 6 := by decide +kernel
theorem wb_and6 (c e : Nat → Bool) : wb c 6 &&& wb e 6 = wb (fun k => c k && e k) 6 := by
  rw [wb_l6 c, wb_l6 e, wba_t, wb_l6 (fun k => c k && e k)]
theorem wbn_t : ∀ C, C ≤ 6 → ∀ p0 p1 p2 p3 p4 p5 : Bool, ((1 : Int32) <<< (nt C &&& 31) - 1) &&& (wb (fun k => [p0, p1, p2, p3, p4, p5].getD k false) 6 ^^^ -1) = wb (fun k => [!p0, !p1, !p2, !p3, !p4, !p5].getD k false) C := by decide +kernel
theorem wb_not6 {C : Nat} (hC : C ≤ 6) (c : Nat → Bool) : ((1 : Int32) <<< (nt C &&& 31) - 1) &&& (wb c 6 ^^^ -1) = wb (fun k => !c k) C := by
  rw [wb_l6 c, wbn_t C hC]
  refine wb_cong (fun k hk => ?_)
  have h6 : k < 6 := by omega
  match k, h6 with
  | 0, _ => rfl
  | 1, _ => rfl
  | 2, _ => rfl
  | 3, _ => rfl
  | 4, _ => rfl
  | 5, _ => rfl
theorem wnd_wb (f : Nat → Int32) : wnd f = wb (fun k => !decide (f k ≤ 0)) 6 := wb_ifn
theorem stc_wb (f : Nat → Int32) : 63 &&& (clf f (-1) ^^^ -1) = wb (fun k => !decide (f (6 + k) = -1)) 6 := by
  rw [stc_eq]
  exact wb_ifn
theorem idl_eq {f : Nat → Int32} {C : Nat} (hC : C ≤ 6) (h0 : ∀ c, c < 6 → 0 ≤ f c) : ((1 : Int32) <<< (nt C &&& 31) - 1) &&& (((63 &&& (clf f (-1) ^^^ -1)) &&& wnd f) ^^^ -1) = foldN (fun k b => b ||| (if f (6 + k) = -1 ∨ f k = 0 then bt k else 0)) C 0 := by
  rw [stc_wb, wnd_wb, wb_and6, wb_not6 hC, wb_if]
  refine wb_cong (fun k hk => ?_)
  have e : (f k ≤ 0) = (f k = 0) := by
    rw [eq_iff_iff]
    exact ⟨fun h => Int32.le_antisymm h (h0 k (by omega)), fun h => by rw [h]; exact Int32.le_refl _⟩
  by_cases h1 : f (6 + k) = -1 <;> by_cases h2 : f k = 0 <;> simp [h1, h2, e]
/-- votes -/
theorem bit_and {N s : Nat} (hN : N ≤ 7) (hs : s < N) (v : Int32) : (((1 : Int32) <<< (nt N &&& 31) - 1) &&& v) >>> (nt s &&& 31) &&& 1 = v >>> (nt s &&& 31) &&& 1 := by
  have e : ∀ N, N ≤ 7 → ∀ s, s < N → ((1 : Int32) <<< (nt N &&& 31) - 1) >>> (nt s &&& 31) &&& 1 = 1 := by decide
  rw [Int32.shiftRight_and, Int32.and_assoc, Int32.and_comm (v >>> _) 1, ← Int32.and_assoc, e N hN s hs, Int32.and_comm]
theorem vot_cut {vs : Nat → Int32} {bits : Int32} {N : Nat} (hN : N ≤ 7) (h : ∀ s, N ≤ s → s < 7 → vs s = 0) : vot vs bits = foldN (fun s t => t + (if bits >>> (nt s &&& 31) &&& 1 = 1 then vs s else 0)) N 0 := by
  unfold vot
  refine foldN_cut 7 hN (fun k h1 h2 b => ?_)
  rw [h k h1 h2]
  split <;> exact Int32.add_zero b
theorem vot_and {vs : Nat → Int32} {bits : Int32} {N : Nat} (hN : N ≤ 7) (h : ∀ s, N ≤ s → s < 7 → vs s = 0) : vot vs (((1 : Int32) <<< (nt N &&& 31) - 1) &&& bits) = vot vs bits := by
  rw [vot_cut hN h, vot_cut hN h]
  refine foldN_cong N (fun k b hk => ?_)
  rw [bit_and hN hk]
section Q2
variable {d n x c : Nat} {Φ : POut → PM → Prop} {I J : Nat → Nat → Int32} {L : Nat → Nat → Int64} {k s h v w a b clocks bits : Int32} {p q : Scr}
theorem m281 (hI : Inv I) : wpc (d + 1) 281 [.ref (70 : Nat), .int bits] (mk n I L x) Φ ↔ Φ (.inl (some (.int (vot (I 14) bits)))) (mk n I L x) := by
  have h7 := inv_s7 hI
  rw [vot_cut h7 (hI.2.2.1.2)]
  show wp (d + 1) 281 0 [.ref (70 : Nat), .int bits, noV, noV] [] (mk n I L x) Φ ↔ _
  simp (config := {decide := true}) only [r281_0, r281_1, r281_2, r281_3, if_true, if_false, Nat.reduceAdd, Int32.reduceToNatClampNeg, lo_i, lo_r, lo_n, kont_v, kont_n, List.length_nil, List.length_cons]
  refine loopN (P := fun k t => wp (d + 1) 281 4 [.ref (70 : Nat), .int bits, .int t, .int (nt k)] [] (mk n I L x) Φ) (Q := fun t => Φ (.inl (some (.int t))) (mk n I L x)) (n := sI I) ?_ ?_ 0
  · intro k t hk
    have e1 : ¬ (nt (sI I) ≤ nt k) := nt_nle hk (by omega)
    have e2 : (nt k).toNatClampNeg = k := nt_clamp (by omega)
    have e3 : (0 : Int32) ≤ nt k := nt_ge (by omega)
    have e4 : k < 7 := by omega
    have e5 : 84 + k < 560 := by omega
    have w2 := (hI.1.2.2.1 k hk).2
    rw [r281_4]
    by_cases h1 : bits >>> (nt k &&& 31) &&& 1 = 1
    · simp (config := {decide := true}) only [r281_5, r281_6, r281_9, r281_10, r281_11, r281_14, r281_15, r281_16, r281_17, r281_20, r281_23, r281_24, r281_27, r281_28, r281_29, r281_30, r281_31, r281_34, r281_35, r281_36, r281_37, r281_40, r281_43, r281_44, if_true, if_false, Nat.reduceAdd, Int32.reduceToNatClampNeg, lo_i, lo_r, lo_n, kont_v, kont_n, List.length_nil, List.length_cons, and_self, and_true, true_and, and_false, false_and, not_true, not_false_eq_true, true_or, or_true, bi_eq0, s74, hI.1.2.1.1, e1, e2, e3, e4, e5, m197, h1, s83, sh84 e4, w2, nt_succ]
    · simp (config := {decide := true}) only [r281_5, r281_6, r281_9, r281_10, r281_11, r281_14, r281_15, r281_16, r281_17, r281_20, r281_23, r281_24, r281_27, r281_28, r281_29, r281_30, r281_31, r281_34, r281_35, r281_36, r281_37, r281_40, r281_43, r281_44, if_true, if_false, Nat.reduceAdd, Int32.reduceToNatClampNeg, lo_i, lo_r, lo_n, kont_v, kont_n, List.length_nil, List.length_cons, and_self, and_true, true_and, and_false, false_and, not_true, not_false_eq_true, true_or, or_true, bi_eq0, s74, hI.1.2.1.1, e1, m197, h1, nt_succ]
  · intro t
    have e6 : nt (sI I) ≤ nt (sI I) := Int32.le_refl _
    rw [r281_4]
    simp (config := {decide := true}) only [r281_5, r281_6, r281_9, r281_10, r281_11, r281_14, r281_15, r281_16, r281_17, r281_20, r281_23, r281_24, r281_27, r281_28, r281_29, r281_30, r281_31, r281_34, r281_35, r281_36, r281_37, r281_40, r281_43, r281_44, if_true, if_false, Nat.reduceAdd, Int32.reduceToNatClampNeg, lo_i, lo_r, lo_n, kont_v, kont_n, List.length_nil, List.length_cons, s74, hI.1.2.1.1, e6]
def aRung (I : Nat → Nat → Int32) (s : Int32) : An := if 0 ≤ s ∧ s < 1 <<< (I 12 6 &&& 31) then (.inl ((if s &&& (wnd (I 41) ^^^ -1) = 0 then wkI I (I 41) s else -1 : Int32))) else .inr (2, 1)
theorem t_aRung {I J : Nat → Nat → Int32} {s : Int32} (h : view J = view I) : aRung J s = aRung I s := by
  unfold aRung
  simp only [t12 h, t41 h, tr_wk h]
theorem q144 (hI : Inv I) (hx : x + 1 ≤ 600) (h : resC n I L x Φ (aRung I s)) : wpc (d + 12) 144 [.ref (9 : Nat), .int s] (mk n I L x) Φ := by
  show wp (d + 12) 144 0 [.ref (9 : Nat), .int s] [] (mk n I L x) Φ
  unfold aRung at h
  have hC := hI.1.1
  by_cases g1 : 0 ≤ s ∧ s < 1 <<< (I 12 6 &&& 31)
  · rw [if_pos g1] at h
    by_cases g2 : s &&& (wnd (I 41) ^^^ -1) = 0
    · rw [if_pos g2] at h
      simp (config := {decide := true}) only [r144_0, r144_1, r144_2, r144_3, r144_6, r144_9, r144_12, r144_15, r144_16, r144_17, r144_20, r144_23, r144_24, r144_25, r144_26, r144_29, r144_30, r144_31, r144_32, r144_35, r144_36, r144_39, r144_40, r144_43, if_true, if_false, Nat.reduceAdd, Int32.reduceToNatClampNeg, lo_i, lo_r, lo_n, kont_v, kont_n, List.length_nil, List.length_cons, and_self, and_true, true_and, and_false, false_and, not_true, not_false_eq_true, true_or, or_true, bi_eq0, c181 hx, c179 hx, c180 hx, c182, c183, kx, g1, g2, k12, k40, c60 k40, g24 hC k40]
      exact okCs h
    · rw [if_neg g2] at h
      simp (config := {decide := true}) only [r144_0, r144_1, r144_2, r144_3, r144_6, r144_9, r144_12, r144_15, r144_16, r144_17, r144_20, r144_23, r144_24, r144_25, r144_26, r144_29, r144_30, r144_31, r144_32, r144_35, r144_36, r144_39, r144_40, r144_43, if_true, if_false, Nat.reduceAdd, Int32.reduceToNatClampNeg, lo_i, lo_r, lo_n, kont_v, kont_n, List.length_nil, List.length_cons, and_self, and_true, true_and, and_false, false_and, not_true, not_false_eq_true, true_or, or_true, bi_eq0, c181 hx, c179 hx, c180 hx, c182, c183, kx, g1, g2, k12, k40, c60 k40]
      exact okC h
  · rw [if_neg g1] at h
    simp (config := {decide := true}) only [r144_0, r144_1, r144_2, r144_3, r144_6, r144_9, r144_12, r144_15, r144_16, r144_17, r144_20, r144_23, r144_24, r144_25, r144_26, r144_29, r144_30, r144_31, r144_32, r144_35, r144_36, r144_39, r144_40, r144_43, if_true, if_false, Nat.reduceAdd, Int32.reduceToNatClampNeg, lo_i, lo_r, lo_n, kont_v, kont_n, List.length_nil, List.length_cons, and_self, and_true, true_and, and_false, false_and, not_true, not_false_eq_true, true_or, or_true, bi_eq0, c181 hx, c179 hx, c180 hx, c182, c183, kx, g1, k12]
    exact exC2 h
theorem u267 (hI : Inv I) (h : resM n I L x Φ (aRung I s)) : wpc (d + 12) 267 [.ref (70 : Nat), .int s] (mk n I L x) Φ := by
  show wp (d + 12) 267 0 [.ref (70 : Nat), .int s] [] (mk n I L x) Φ
  rw [r267_0, r267_1, r267_2]
  replace h := resM_z h
  rw [← t_aRung v70] at h
  replace hI := tr_Inv v70 hI
  have hz := z70 (I := I)
  generalize wrI I 70 0 0 = I at h hI hz ⊢
  unfold aRung at h
  have hM := hI.1
  have g0 : (s ≤ 1 <<< (I 12 6 &&& 31) - 1) = (s < 1 <<< (I 12 6 &&& 31)) := by rw [inv_c hI]; exact set_le (Nat.le_succ_of_le (inv_c6 hI))
  by_cases g1 : 0 ≤ s ∧ s < 1 <<< (I 12 6 &&& 31)
  · rw [if_pos g1] at h
    by_cases g2 : s &&& (wnd (I 41) ^^^ -1) = 0
    · rw [if_pos g2] at h
      simp (config := {decide := true}) only [r267_5, r267_6, r267_7, r267_8, r267_9, r267_12, r267_15, r267_18, r267_19, r267_22, r267_23, r267_24, r267_25, r267_28, r267_31, r267_32, r267_33, r267_34, r267_35, r267_38, r267_41, r267_42, r267_43, r267_46, r267_47, r267_50, r267_53, r267_54, if_true, if_false, Nat.reduceAdd, Int32.reduceToNatClampNeg, lo_i, lo_r, lo_n, kont_v, kont_n, List.length_nil, List.length_cons, and_self, and_true, true_and, and_false, false_and, not_true, not_false_eq_true, true_or, or_true, bi_eq0, b10 hz, b11 hz, b21 hz, m194, m259, m266 hI, g0, g1, g2, m265 hI, n242 hI]
      exact okMs h hz
    · rw [if_neg g2] at h
      simp (config := {decide := true}) only [r267_5, r267_6, r267_7, r267_8, r267_9, r267_12, r267_15, r267_18, r267_19, r267_22, r267_23, r267_24, r267_25, r267_28, r267_31, r267_32, r267_33, r267_34, r267_35, r267_38, r267_41, r267_42, r267_43, r267_46, r267_47, r267_50, r267_53, r267_54, if_true, if_false, Nat.reduceAdd, Int32.reduceToNatClampNeg, lo_i, lo_r, lo_n, kont_v, kont_n, List.length_nil, List.length_cons, and_self, and_true, true_and, and_false, false_and, not_true, not_false_eq_true, true_or, or_true, bi_eq0, b10 hz, b11 hz, b21 hz, m194, m259, m266 hI, g0, g1, g2, m265 hI]
      exact oqM h hz
  · rw [if_neg g1] at h
    simp (config := {decide := true}) only [r267_5, r267_6, r267_7, r267_8, r267_9, r267_12, r267_15, r267_18, r267_19, r267_22, r267_23, r267_24, r267_25, r267_28, r267_31, r267_32, r267_33, r267_34, r267_35, r267_38, r267_41, r267_42, r267_43, r267_46, r267_47, r267_50, r267_53, r267_54, if_true, if_false, Nat.reduceAdd, Int32.reduceToNatClampNeg, lo_i, lo_r, lo_n, kont_v, kont_n, List.length_nil, List.length_cons, and_self, and_true, true_and, and_false, false_and, not_true, not_false_eq_true, true_or, or_true, bi_eq0, b10 hz, b11 hz, b21 hz, m194, m259, m257 hI, m258 hI, m266 hI, m274 hI, g1, g0]
    exact exM h
def aRings (I : Nat → Nat → Int32) : An := .inl ((rng (I 41) (I 41 81) : Int32))
theorem t_aRings {I J : Nat → Nat → Int32} (h : view J = view I) : aRings J = aRings I := by
  unfold aRings
  simp only [t41 h]
theorem q145 (hI : Inv I) (hx : x + 1 ≤ 600) (h : resC n I L x Φ (aRings I)) : wpc (d + 12) 145 [.ref (9 : Nat)] (mk n I L x) Φ := by
  show wp (d + 12) 145 0 [.ref (9 : Nat)] [] (mk n I L x) Φ
  unfold aRings at h
  have hC := hI.1.1
  simp (config := {decide := true}) only [r145_0, r145_1, r145_4, r145_5, r145_8, r145_11, r145_14, if_true, if_false, Nat.reduceAdd, Int32.reduceToNatClampNeg, lo_i, lo_r, lo_n, kont_v, kont_n, List.length_nil, List.length_cons, k40, c43 k40, c62 k40]
  exact okC h
theorem h_now (hI : Inv I) : I 41 81 ≠ -1 := fun e => absurd (e ▸ hI.2.1.1.2.2.2.1.1) (by decide)
theorem u268 (hI : Inv I) (h : resM n I L x Φ (aRings I)) : wpc (d + 12) 268 [.ref (70 : Nat)] (mk n I L x) Φ := by
  show wp (d + 12) 268 0 [.ref (70 : Nat)] [] (mk n I L x) Φ
  rw [r268_0, r268_1, r268_2]
  replace h := resM_z h
  rw [← t_aRings v70] at h
  replace hI := tr_Inv v70 hI
  have hz := z70 (I := I)
  generalize wrI I 70 0 0 = I at h hI hz ⊢
  unfold aRings at h
  have hM := hI.1
  simp (config := {decide := true}) only [r268_5, r268_6, r268_7, r268_10, r268_11, r268_14, r268_16, r268_17, r268_20, if_true, if_false, Nat.reduceAdd, Int32.reduceToNatClampNeg, lo_i, lo_r, lo_n, kont_v, kont_n, List.length_nil, List.length_cons, s534, hI.2.1.2, vc_82, n244 hI (h_now hI)]
  exact oqM h hz
def aDead (I : Nat → Nat → Int32) : An := .inl ((((1 : Int32) <<< (I 12 5 &&& 31) - (1 : Int32)) &&& (awk (I 41) ^^^ (-1 : Int32)) &&& (wkI I (I 41) (wnd (I 41)) ^^^ -1) : Int32))
theorem t_aDead {I J : Nat → Nat → Int32} (h : view J = view I) : aDead J = aDead I := by
  unfold aDead
  simp only [t12 h, t41 h, tr_wk h]
theorem q159 (hI : Inv I) (hx : x + 1 ≤ 600) (h : resC n I L x Φ (aDead I)) : wpc (d + 12) 159 [.ref (9 : Nat)] (mk n I L x) Φ := by
  show wp (d + 12) 159 0 [.ref (9 : Nat), noV] [] (mk n I L x) Φ
  unfold aDead at h
  have hC := hI.1.1
  simp (config := {decide := true}) only [r159_0, r159_1, r159_4, r159_7, r159_8, r159_11, r159_14, r159_15, r159_16, r159_17, r159_18, r159_19, r159_20, r159_23, r159_24, r159_27, r159_28, r159_31, r159_34, r159_37, r159_38, r159_39, r159_40, if_true, if_false, Nat.reduceAdd, Int32.reduceToNatClampNeg, lo_i, lo_r, lo_n, kont_v, kont_n, List.length_nil, List.length_cons, k12, k40, c85 k12, c55 k40, c60 k40, g24 hC k40]
  exact okCs h
theorem u293 (hI : Inv I) (h : resM n I L x Φ (aDead I)) : wpc (d + 12) 293 [.ref (70 : Nat)] (mk n I L x) Φ := by
  show wp (d + 12) 293 0 [.ref (70 : Nat)] [] (mk n I L x) Φ
  rw [r293_0, r293_1, r293_2]
  replace h := resM_z h
  rw [← t_aDead v70] at h
  replace hI := tr_Inv v70 hI
  have hz := z70 (I := I)
  generalize wrI I 70 0 0 = I at h hI hz ⊢
  unfold aDead at h
  have hM := hI.1
  simp (config := {decide := true}) only [r293_5, r293_6, r293_9, r293_10, r293_11, r293_14, r293_17, r293_18, r293_19, r293_20, r293_21, r293_22, r293_25, r293_26, r293_27, r293_30, r293_33, r293_36, r293_37, r293_38, r293_39, if_true, if_false, Nat.reduceAdd, Int32.reduceToNatClampNeg, lo_i, lo_r, lo_n, kont_v, kont_n, List.length_nil, List.length_cons, m282 hI, n239 hI, n243 hI, n242 hI]
  exact okMs h hz
def aDeaf (I : Nat → Nat → Int32) (s : Int32) : An := if 0 ≤ s ∧ s ≤ I 12 6 - 1 then (.inl ((((1 : Int32) <<< (I 12 5 &&& 31) - (1 : Int32)) &&& (awk (I 41) ^^^ (-1 : Int32)) &&& (wkI I (I 41) ((1 : Int32) <<< (s &&& 31)) ^^^ (-1 : Int32)) : Int32))) else .inr (1, 1)
theorem t_aDeaf {I J : Nat → Nat → Int32} {s : Int32} (h : view J = view I) : aDeaf J s = aDeaf I s := by
  unfold aDeaf
  simp only [t12 h, t41 h, tr_wk h]
theorem q163 (hI : Inv I) (hx : x + 1 ≤ 600) (h : resC n I L x Φ (aDeaf I s)) : wpc (d + 12) 163 [.ref (9 : Nat), .int s] (mk n I L x) Φ := by
  show wp (d + 12) 163 0 [.ref (9 : Nat), .int s, noV] [] (mk n I L x) Φ
  unfold aDeaf at h
  have hC := hI.1.1
  by_cases g1 : 0 ≤ s ∧ s ≤ I 12 6 - 1
  · rw [if_pos g1] at h
    simp (config := {decide := true}) only [r163_0, r163_1, r163_2, r163_5, r163_6, r163_9, r163_12, r163_13, r163_16, r163_19, r163_20, r163_21, r163_22, r163_23, r163_24, r163_25, r163_28, r163_29, r163_32, r163_33, r163_34, r163_35, r163_38, r163_39, r163_40, r163_41, if_true, if_false, Nat.reduceAdd, Int32.reduceToNatClampNeg, lo_i, lo_r, lo_n, kont_v, kont_n, List.length_nil, List.length_cons, and_self, and_true, true_and, and_false, false_and, not_true, not_false_eq_true, true_or, or_true, bi_eq0, c181 hx, c179 hx, c180 hx, c182, c183, kx, g1, k12, k40, c85 k12, c55 k40, g24 hC k40]
    exact okCs h
  · rw [if_neg g1] at h
    simp (config := {decide := true}) only [r163_0, r163_1, r163_2, r163_5, r163_6, r163_9, r163_12, r163_13, r163_16, r163_19, r163_20, r163_21, r163_22, r163_23, r163_24, r163_25, r163_28, r163_29, r163_32, r163_33, r163_34, r163_35, r163_38, r163_39, r163_40, r163_41, if_true, if_false, Nat.reduceAdd, Int32.reduceToNatClampNeg, lo_i, lo_r, lo_n, kont_v, kont_n, List.length_nil, List.length_cons, and_self, and_true, true_and, and_false, false_and, not_true, not_false_eq_true, true_or, or_true, bi_eq0, c181 hx, c179 hx, c180 hx, c182, c183, kx, g1]
    exact exC1 h
theorem u294 (hI : Inv I) (h : resM n I L x Φ (aDeaf I s)) : wpc (d + 12) 294 [.ref (70 : Nat), .int s] (mk n I L x) Φ := by
  show wp (d + 12) 294 0 [.ref (70 : Nat), .int s] [] (mk n I L x) Φ
  rw [r294_0, r294_1, r294_2]
  replace h := resM_z h
  rw [← t_aDeaf v70] at h
  replace hI := tr_Inv v70 hI
  have hz := z70 (I := I)
  generalize wrI I 70 0 0 = I at h hI hz ⊢
  unfold aDeaf at h
  have hM := hI.1
  by_cases g1 : 0 ≤ s ∧ s ≤ I 12 6 - 1
  · rw [if_pos g1] at h
    simp (config := {decide := true}) only [r294_5, r294_6, r294_7, r294_8, r294_11, r294_14, r294_15, r294_18, r294_19, r294_20, r294_21, r294_24, r294_27, r294_28, r294_29, r294_30, r294_33, r294_34, r294_35, r294_38, r294_41, r294_42, r294_43, r294_44, r294_45, r294_46, r294_49, r294_50, r294_51, r294_52, r294_55, r294_56, r294_57, r294_58, if_true, if_false, Nat.reduceAdd, Int32.reduceToNatClampNeg, lo_i, lo_r, lo_n, kont_v, kont_n, List.length_nil, List.length_cons, and_self, and_true, true_and, and_false, false_and, not_true, not_false_eq_true, true_or, or_true, bi_eq0, b10 hz, b11 hz, b21 hz, m194, m259, m258 hI, g1, m282 hI, n239 hI, n242 hI]
    exact okMs h hz
  · rw [if_neg g1] at h
    simp (config := {decide := true}) only [r294_5, r294_6, r294_7, r294_8, r294_11, r294_14, r294_15, r294_18, r294_19, r294_20, r294_21, r294_24, r294_27, r294_28, r294_29, r294_30, r294_33, r294_34, r294_35, r294_38, r294_41, r294_42, r294_43, r294_44, r294_45, r294_46, r294_49, r294_50, r294_51, r294_52, r294_55, r294_56, r294_57, r294_58, if_true, if_false, Nat.reduceAdd, Int32.reduceToNatClampNeg, lo_i, lo_r, lo_n, kont_v, kont_n, List.length_nil, List.length_cons, and_self, and_true, true_and, and_false, false_and, not_true, not_false_eq_true, true_or, or_true, bi_eq0, b10 hz, b11 hz, b21 hz, m194, m259, m257 hI, m258 hI, m266 hI, m274 hI, g1]
    exact exM h
def aIdle (I : Nat → Nat → Int32) : An := .inl ((((1 : Int32) <<< (I 12 6 &&& 31) - (1 : Int32)) &&& (((63 &&& (clf (I 41) (-1) ^^^ -1)) &&& wnd (I 41)) ^^^ -1) : Int32))
theorem t_aIdle {I J : Nat → Nat → Int32} (h : view J = view I) : aIdle J = aIdle I := by
  unfold aIdle
  simp only [t12 h, t41 h]
theorem q164 (hI : Inv I) (hx : x + 1 ≤ 600) (h : resC n I L x Φ (aIdle I)) : wpc (d + 12) 164 [.ref (9 : Nat)] (mk n I L x) Φ := by
  show wp (d + 12) 164 0 [.ref (9 : Nat)] [] (mk n I L x) Φ
  unfold aIdle at h
  have hC := hI.1.1
  simp (config := {decide := true}) only [r164_0, r164_1, r164_4, r164_7, r164_8, r164_11, r164_14, r164_15, r164_18, r164_21, r164_22, r164_23, r164_24, r164_25, if_true, if_false, Nat.reduceAdd, Int32.reduceToNatClampNeg, lo_i, lo_r, lo_n, kont_v, kont_n, List.length_nil, List.length_cons, k12, k40, c86 k12, c59 k40, c60 k40]
  exact okC h
theorem u295 (hI : Inv I) (h : resM n I L x Φ (aIdle I)) : wpc (d + 12) 295 [.ref (70 : Nat)] (mk n I L x) Φ := by
  show wp (d + 12) 295 0 [.ref (70 : Nat), noV, noV] [] (mk n I L x) Φ
  rw [r295_0, r295_1, r295_2]
  replace h := resM_z h
  rw [← t_aIdle v70] at h
  replace hI := tr_Inv v70 hI
  have hz := z70 (I := I)
  generalize wrI I 70 0 0 = I at h hI hz ⊢
  unfold aIdle at h
  have hM := hI.1
  have h6 := inv_c6 hI
  rw [inv_c hI, idl_eq h6 (fun c hc => (hI.2.1.1.2.2.2.2.2.1 c hc).1)] at h
  simp (config := {decide := true}) only [r295_5, r295_6, r295_7, r295_8, if_true, if_false, Nat.reduceAdd, Int32.reduceToNatClampNeg, lo_i, lo_r, lo_n, kont_v, kont_n, List.length_nil, List.length_cons]
  refine (loopN (P := fun k t => wp (d + 12) 295 9 [.ref (70 : Nat), .int t, .int (nt k)] [] (mk n I L x) Φ) (Q := fun t => Φ (.inl (some (.int t))) (mk n I L x)) (n := cI I) (f := fun k b => b ||| (if I 41 (6 + k) = -1 ∨ I 41 k = 0 then bt k else 0)) ?_ ?_ 0).mpr (oqM h hz)
  · intro k t hk
    have e1 : ¬ (nt (cI I) ≤ nt k) := nt_nle hk (by omega)
    have y2 : ((21 : Int32) + nt k).toNatClampNeg = 21 + k := ixc 21 k (by omega)
    have y3 : (0 : Int32) ≤ 21 + nt k := ixg 21 k (by omega)
    have y4 : 21 + k < 84 := by omega
    have y5 : vc (I 41) (21 + k) = I 41 k := vc_hi (by omega)
    have z2 : ((27 : Int32) + nt k).toNatClampNeg = 27 + k := ixc 27 k (by omega)
    have z3 : (0 : Int32) ≤ 27 + nt k := ixg 27 k (by omega)
    have z4 : 27 + k < 84 := by omega
    have z5 : vc (I 41) (27 + k) = I 41 (6 + k) := vc_hi' (b := 6) (by omega)
    rw [r295_9]
    simp (config := {decide := true}) only [r295_10, r295_11, r295_14, r295_15, r295_16, r295_19, r295_20, r295_21, r295_24, r295_26, r295_27, r295_28, r295_29, r295_30, r295_33, r295_34, r295_37, r295_39, r295_40, r295_41, r295_42, r295_45, r295_46, r295_47, r295_48, r295_51, r295_52, r295_53, r295_54, r295_57, r295_60, r295_61, if_true, if_false, Nat.reduceAdd, Int32.reduceToNatClampNeg, lo_i, lo_r, lo_n, kont_v, kont_n, List.length_nil, List.length_cons, s74, hI.1.2.1.2, s534, hI.2.1.2, e1, y2, y3, y4, y5, z2, z3, z4, z5, nt_succ, bt]
    by_cases h1 : I 41 (6 + k) = -1
    · simp only [h1, if_true, true_or]
    · by_cases h2 : I 41 k = 0
      · simp only [h1, h2, if_true, if_false, or_true]
      · simp only [h1, h2, if_false, or_self]
  · intro t
    have e6 : nt (cI I) ≤ nt (cI I) := Int32.le_refl _
    rw [r295_9]
    simp (config := {decide := true}) only [r295_10, r295_11, r295_14, r295_15, r295_16, r295_19, r295_20, r295_21, r295_24, r295_26, r295_27, r295_28, r295_29, r295_30, r295_33, r295_34, r295_37, r295_39, r295_40, r295_41, r295_42, r295_45, r295_46, r295_47, r295_48, r295_51, r295_52, r295_53, r295_54, r295_57, r295_60, r295_61, if_true, if_false, Nat.reduceAdd, Int32.reduceToNatClampNeg, lo_i, lo_r, lo_n, kont_v, kont_n, List.length_nil, List.length_cons, s74, hI.1.2.1.2, e6]
def aVotes (I : Nat → Nat → Int32) (w : Int32) : An := if 0 ≤ w ∧ w ≤ 1 then (.inl ((vot (I 14) (if w = 0 then awk (I 41) else awk (I 41) ^^^ -1) : Int32))) else .inr (2, 1)
theorem t_aVotes {I J : Nat → Nat → Int32} {w : Int32} (h : view J = view I) : aVotes J w = aVotes I w := by
  unfold aVotes
  simp only [t14 h, t41 h]
theorem q160 (hI : Inv I) (hx : x + 1 ≤ 600) (h : resC n I L x Φ (aVotes I w)) : wpc (d + 12) 160 [.ref (9 : Nat), .int w] (mk n I L x) Φ := by
  show wp (d + 12) 160 0 [.ref (9 : Nat), .int w, noV] [] (mk n I L x) Φ
  unfold aVotes at h
  have hC := hI.1.1
  by_cases g1 : 0 ≤ w ∧ w ≤ 1
  · rw [if_pos g1] at h
    by_cases g2 : w = 0
    · rw [if_pos g2] at h
      subst g2
      simp (config := {decide := true}) only [r160_0, r160_1, r160_2, r160_3, r160_4, r160_7, r160_10, r160_11, r160_14, r160_17, r160_18, r160_19, r160_22, r160_23, r160_26, r160_27, r160_30, r160_31, r160_32, r160_33, r160_36, if_true, if_false, Nat.reduceAdd, Int32.reduceToNatClampNeg, lo_i, lo_r, lo_n, kont_v, kont_n, List.length_nil, List.length_cons, and_self, and_true, true_and, and_false, false_and, not_true, not_false_eq_true, true_or, or_true, bi_eq0, c181 hx, c179 hx, c180 hx, c182, c183, kx, g1, k12, k40, c55 k40, c87 k12]
      exact okC h
    · rw [if_neg g2] at h
      simp (config := {decide := true}) only [r160_0, r160_1, r160_2, r160_3, r160_4, r160_7, r160_10, r160_11, r160_14, r160_17, r160_18, r160_19, r160_22, r160_23, r160_26, r160_27, r160_30, r160_31, r160_32, r160_33, r160_36, if_true, if_false, Nat.reduceAdd, Int32.reduceToNatClampNeg, lo_i, lo_r, lo_n, kont_v, kont_n, List.length_nil, List.length_cons, and_self, and_true, true_and, and_false, false_and, not_true, not_false_eq_true, true_or, or_true, bi_eq0, c181 hx, c179 hx, c180 hx, c182, c183, kx, g1, g2, k12, k40, c55 k40, c87 k12]
      exact okC h
  · rw [if_neg g1] at h
    simp (config := {decide := true}) only [r160_0, r160_1, r160_2, r160_3, r160_4, r160_7, r160_10, r160_11, r160_14, r160_17, r160_18, r160_19, r160_22, r160_23, r160_26, r160_27, r160_30, r160_31, r160_32, r160_33, r160_36, if_true, if_false, Nat.reduceAdd, Int32.reduceToNatClampNeg, lo_i, lo_r, lo_n, kont_v, kont_n, List.length_nil, List.length_cons, and_self, and_true, true_and, and_false, false_and, not_true, not_false_eq_true, true_or, or_true, bi_eq0, c181 hx, c179 hx, c180 hx, c182, c183, kx, g1]
    exact exC2 h
theorem u284 (hI : Inv I) (h : resM n I L x Φ (aVotes I w)) : wpc (d + 12) 284 [.ref (70 : Nat), .int w] (mk n I L x) Φ := by
  show wp (d + 12) 284 0 [.ref (70 : Nat), .int w] [] (mk n I L x) Φ
  rw [r284_0, r284_1, r284_2]
  replace h := resM_z h
  rw [← t_aVotes v70] at h
  replace hI := tr_Inv v70 hI
  have hz := z70 (I := I)
  generalize wrI I 70 0 0 = I at h hI hz ⊢
  unfold aVotes at h
  have hM := hI.1
  by_cases g1 : 0 ≤ w ∧ w ≤ 1
  · rw [if_pos g1] at h
    by_cases g2 : w = 0
    · rw [if_pos g2] at h
      subst g2
      simp (config := {decide := true}) only [r284_5, r284_6, r284_7, r284_8, r284_9, r284_12, r284_15, r284_16, r284_19, r284_20, r284_21, r284_22, r284_25, r284_28, r284_29, r284_30, r284_31, r284_32, r284_35, r284_36, r284_37, r284_40, r284_43, r284_46, r284_47, r284_50, r284_51, r284_52, r284_55, r284_58, r284_59, r284_60, r284_61, r284_64, if_true, if_false, Nat.reduceAdd, Int32.reduceToNatClampNeg, lo_i, lo_r, lo_n, kont_v, kont_n, List.length_nil, List.length_cons, and_self, and_true, true_and, and_false, false_and, not_true, not_false_eq_true, true_or, or_true, bi_eq0, b10 hz, b11 hz, b21 hz, m194, m259, g1, n239 hI, m281 hI]
      exact oqM h hz
    · rw [if_neg g2] at h
      have e : vot (I 14) ((1 <<< (I 12 5 &&& 31) - 1) &&& (awk (I 41) ^^^ -1)) = vot (I 14) (awk (I 41) ^^^ -1) := by rw [inv_s hI]; exact vot_and (inv_s7 hI) hI.2.2.1.2
      simp (config := {decide := true}) only [r284_5, r284_6, r284_7, r284_8, r284_9, r284_12, r284_15, r284_16, r284_19, r284_20, r284_21, r284_22, r284_25, r284_28, r284_29, r284_30, r284_31, r284_32, r284_35, r284_36, r284_37, r284_40, r284_43, r284_46, r284_47, r284_50, r284_51, r284_52, r284_55, r284_58, r284_59, r284_60, r284_61, r284_64, if_true, if_false, Nat.reduceAdd, Int32.reduceToNatClampNeg, lo_i, lo_r, lo_n, kont_v, kont_n, List.length_nil, List.length_cons, and_self, and_true, true_and, and_false, false_and, not_true, not_false_eq_true, true_or, or_true, bi_eq0, b10 hz, b11 hz, b21 hz, m194, m259, g1, g2, n239 hI, m281 hI, m282 hI, e]
      exact oqM h hz
  · rw [if_neg g1] at h
    simp (config := {decide := true}) only [r284_5, r284_6, r284_7, r284_8, r284_9, r284_12, r284_15, r284_16, r284_19, r284_20, r284_21, r284_22, r284_25, r284_28, r284_29, r284_30, r284_31, r284_32, r284_35, r284_36, r284_37, r284_40, r284_43, r284_46, r284_47, r284_50, r284_51, r284_52, r284_55, r284_58, r284_59, r284_60, r284_61, r284_64, if_true, if_false, Nat.reduceAdd, Int32.reduceToNatClampNeg, lo_i, lo_r, lo_n, kont_v, kont_n, List.length_nil, List.length_cons, and_self, and_true, true_and, and_false, false_and, not_true, not_false_eq_true, true_or, or_true, bi_eq0, b10 hz, b11 hz, b21 hz, m194, m259, m257 hI, m258 hI, m266 hI, m274 hI, g1]
    exact exM h
def aLacks (I : Nat → Nat → Int32) (s : Int32) (w : Int32) : An := if 0 ≤ s ∧ s ≤ I 12 5 - 1 then (if 0 ≤ w ∧ w ≤ 23 then (.inl ((if I 41 (60 + s.toNatClampNeg) = -1 then mxi 0 (I 13 s.toNatClampNeg - hdJ I (I 41) s.toNatClampNeg (rng (I 41) w)) else 0 : Int32))) else .inr (2, 2)) else .inr (1, 1)
theorem t_aLacks {I J : Nat → Nat → Int32} {s w : Int32} (h : view J = view I) : aLacks J s w = aLacks I s w := by
  unfold aLacks
  simp only [t12 h, t41 h, t13 h, tr_hj h]
theorem q162 (hI : Inv I) (hx : x + 1 ≤ 600) (h : resC n I L x Φ (aLacks I s w)) : wpc (d + 12) 162 [.ref (9 : Nat), .int s, .int w] (mk n I L x) Φ := by
  show wp (d + 12) 162 0 [.ref (9 : Nat), .int s, .int w, noV] [] (mk n I L x) Φ
  unfold aLacks at h
  have hC := hI.1.1
  by_cases g1 : 0 ≤ s ∧ s ≤ I 12 5 - 1
  · rw [if_pos g1] at h
    by_cases g2 : 0 ≤ w ∧ w ≤ 23
    · rw [if_pos g2] at h
      obtain ⟨j, hj, rfl⟩ := isN (inv_s hI) (inv_s7 hI) g1
      have hj7 : j < 7 := by have := inv_s7 hI; omega
      rw [nt_clamp (k := j) (by omega)] at h
      have i1 : atv 7 (I 13) (nt j) = I 13 j := atv_nt hj7 (by decide)
      have i3 : atv 84 (I 41) (60 + nt j) = I 41 (60 + j) := at_b 60 (by omega) (by decide)
      have u13 : ∀ q, scr I q 13 = I 13 := fun q => scr_ne (by decide) (by decide)
      by_cases g3 : I 41 (60 + j) = -1
      · rw [if_pos g3] at h
        simp (config := {decide := true}) only [r162_0, r162_1, r162_2, r162_5, r162_6, r162_7, r162_8, r162_10, r162_13, r162_16, r162_17, r162_20, r162_21, r162_24, r162_27, r162_28, r162_29, r162_30, r162_33, r162_34, r162_37, r162_38, r162_39, r162_42, r162_43, r162_46, r162_49, r162_50, r162_51, r162_52, r162_55, r162_56, r162_59, r162_60, r162_61, r162_64, if_true, if_false, Nat.reduceAdd, Int32.reduceToNatClampNeg, lo_i, lo_r, lo_n, kont_v, kont_n, List.length_nil, List.length_cons, and_self, and_true, true_and, and_false, false_and, not_true, not_false_eq_true, true_or, or_true, bi_eq0, c181 hx, c179 hx, c180 hx, c182, c183, kx, g1, g2, g3, i1, i3, u13, k12, k40, c52 k40, c62 k40, g23 hC k40, c82 k12, c316, hdJ_I hj7]
        exact okCs h
      · rw [if_neg g3] at h
        simp (config := {decide := true}) only [r162_0, r162_1, r162_2, r162_5, r162_6, r162_7, r162_8, r162_10, r162_13, r162_16, r162_17, r162_20, r162_21, r162_24, r162_27, r162_28, r162_29, r162_30, r162_33, r162_34, r162_37, r162_38, r162_39, r162_42, r162_43, r162_46, r162_49, r162_50, r162_51, r162_52, r162_55, r162_56, r162_59, r162_60, r162_61, r162_64, if_true, if_false, Nat.reduceAdd, Int32.reduceToNatClampNeg, lo_i, lo_r, lo_n, kont_v, kont_n, List.length_nil, List.length_cons, and_self, and_true, true_and, and_false, false_and, not_true, not_false_eq_true, true_or, or_true, bi_eq0, c181 hx, c179 hx, c180 hx, c182, c183, kx, g1, g2, g3, i3, k12, k40, c52 k40]
        exact okC h
    · rw [if_neg g2] at h
      simp (config := {decide := true}) only [r162_0, r162_1, r162_2, r162_5, r162_6, r162_7, r162_8, r162_10, r162_13, r162_16, r162_17, r162_20, r162_21, r162_24, r162_27, r162_28, r162_29, r162_30, r162_33, r162_34, r162_37, r162_38, r162_39, r162_42, r162_43, r162_46, r162_49, r162_50, r162_51, r162_52, r162_55, r162_56, r162_59, r162_60, r162_61, r162_64, if_true, if_false, Nat.reduceAdd, Int32.reduceToNatClampNeg, lo_i, lo_r, lo_n, kont_v, kont_n, List.length_nil, List.length_cons, and_self, and_true, true_and, and_false, false_and, not_true, not_false_eq_true, true_or, or_true, bi_eq0, c181 hx, c179 hx, c180 hx, c182, c183, kx, g1, g2]
      exact exC2 h
  · rw [if_neg g1] at h
    simp (config := {decide := true}) only [r162_0, r162_1, r162_2, r162_5, r162_6, r162_7, r162_8, r162_10, r162_13, r162_16, r162_17, r162_20, r162_21, r162_24, r162_27, r162_28, r162_29, r162_30, r162_33, r162_34, r162_37, r162_38, r162_39, r162_42, r162_43, r162_46, r162_49, r162_50, r162_51, r162_52, r162_55, r162_56, r162_59, r162_60, r162_61, r162_64, if_true, if_false, Nat.reduceAdd, Int32.reduceToNatClampNeg, lo_i, lo_r, lo_n, kont_v, kont_n, List.length_nil, List.length_cons, and_self, and_true, true_and, and_false, false_and, not_true, not_false_eq_true, true_or, or_true, bi_eq0, c181 hx, c179 hx, c180 hx, c182, c183, kx, g1]
    exact exC1 h
theorem u301 (hI : Inv I) (h : resM n I L x Φ (aLacks I s w)) : wpc (d + 12) 301 [.ref (70 : Nat), .int s, .int w] (mk n I L x) Φ := by
  show wp (d + 12) 301 0 [.ref (70 : Nat), .int s, .int w] [] (mk n I L x) Φ
  rw [r301_0, r301_1, r301_2]
  replace h := resM_z h
  rw [← t_aLacks v70] at h
  replace hI := tr_Inv v70 hI
  have hz := z70 (I := I)
  generalize wrI I 70 0 0 = I at h hI hz ⊢
  unfold aLacks at h
  have hM := hI.1
  by_cases g1 : 0 ≤ s ∧ s ≤ I 12 5 - 1
  · rw [if_pos g1] at h
    by_cases g2 : 0 ≤ w ∧ w ≤ 23
    · rw [if_pos g2] at h
      obtain ⟨j, hj, rfl⟩ := isN (inv_s hI) (inv_s7 hI) g1
      have hj7 : j < 7 := by have := inv_s7 hI; omega
      rw [nt_clamp (k := j) (by omega)] at h
      have e1 : (nt j).toNatClampNeg = j := nt_clamp (by omega)
      have e2 : (0 : Int32) ≤ nt j := nt_ge (by omega)
      have e3 : 84 + j < 560 := by omega
      have w1 := (hI.1.2.2.1 j hj).1
      have x4 : j < 84 := by omega
      have x5 : vc (I 41) j = I 41 (60 + j) := vc_lo (by omega)
      have hw : w ≠ -1 := fun e => absurd (e ▸ g2.1) (by decide)
      by_cases g3 : I 41 (60 + j) = -1
      · rw [if_pos g3] at h
        simp (config := {decide := true}) only [r301_5, r301_6, r301_7, r301_8, r301_11, r301_14, r301_15, r301_18, r301_19, r301_20, r301_21, r301_24, r301_27, r301_28, r301_29, r301_32, r301_35, r301_36, r301_39, r301_40, r301_41, r301_42, r301_45, r301_48, r301_49, r301_50, r301_51, r301_54, r301_55, r301_56, r301_57, r301_58, r301_59, r301_62, r301_63, r301_66, r301_67, r301_68, r301_71, r301_72, r301_73, r301_74, r301_75, r301_76, r301_77, r301_80, r301_81, r301_82, r301_83, r301_86, r301_87, r301_90, r301_93, r301_94, r301_97, if_true, if_false, Nat.reduceAdd, Int32.reduceToNatClampNeg, lo_i, lo_r, lo_n, kont_v, kont_n, List.length_nil, List.length_cons, and_self, and_true, true_and, and_false, false_and, not_true, not_false_eq_true, true_or, or_true, bi_eq0, b10 hz, b11 hz, b21 hz, m194, m259, m257 hI, g1, g2, g3, ix0, e1, e2, e3, w1, x4, x5, hj7, s83, sh84 hj7, s534, hI.2.1.2, n244 hI hw, n241 hI hj, m196]
        exact okMs h hz
      · rw [if_neg g3] at h
        simp (config := {decide := true}) only [r301_5, r301_6, r301_7, r301_8, r301_11, r301_14, r301_15, r301_18, r301_19, r301_20, r301_21, r301_24, r301_27, r301_28, r301_29, r301_32, r301_35, r301_36, r301_39, r301_40, r301_41, r301_42, r301_45, r301_48, r301_49, r301_50, r301_51, r301_54, r301_55, r301_56, r301_57, r301_58, r301_59, r301_62, r301_63, r301_66, r301_67, r301_68, r301_71, r301_72, r301_73, r301_74, r301_75, r301_76, r301_77, r301_80, r301_81, r301_82, r301_83, r301_86, r301_87, r301_90, r301_93, r301_94, r301_97, if_true, if_false, Nat.reduceAdd, Int32.reduceToNatClampNeg, lo_i, lo_r, lo_n, kont_v, kont_n, List.length_nil, List.length_cons, and_self, and_true, true_and, and_false, false_and, not_true, not_false_eq_true, true_or, or_true, bi_eq0, b10 hz, b11 hz, b21 hz, m194, m259, m257 hI, g1, g2, g3, ix0, e1, e2, x4, x5, s534, hI.2.1.2]
        exact oqM h hz
    · rw [if_neg g2] at h
      simp (config := {decide := true}) only [r301_5, r301_6, r301_7, r301_8, r301_11, r301_14, r301_15, r301_18, r301_19, r301_20, r301_21, r301_24, r301_27, r301_28, r301_29, r301_32, r301_35, r301_36, r301_39, r301_40, r301_41, r301_42, r301_45, r301_48, r301_49, r301_50, r301_51, r301_54, r301_55, r301_56, r301_57, r301_58, r301_59, r301_62, r301_63, r301_66, r301_67, r301_68, r301_71, r301_72, r301_73, r301_74, r301_75, r301_76, r301_77, r301_80, r301_81, r301_82, r301_83, r301_86, r301_87, r301_90, r301_93, r301_94, r301_97, if_true, if_false, Nat.reduceAdd, Int32.reduceToNatClampNeg, lo_i, lo_r, lo_n, kont_v, kont_n, List.length_nil, List.length_cons, and_self, and_true, true_and, and_false, false_and, not_true, not_false_eq_true, true_or, or_true, bi_eq0, b10 hz, b11 hz, b21 hz, m194, m259, m257 hI, m258 hI, m266 hI, m274 hI, g1, g2]
      exact exM h
  · rw [if_neg g1] at h
    simp (config := {decide := true}) only [r301_5, r301_6, r301_7, r301_8, r301_11, r301_14, r301_15, r301_18, r301_19, r301_20, r301_21, r301_24, r301_27, r301_28, r301_29, r301_32, r301_35, r301_36, r301_39, r301_40, r301_41, r301_42, r301_45, r301_48, r301_49, r301_50, r301_51, r301_54, r301_55, r301_56, r301_57, r301_58, r301_59, r301_62, r301_63, r301_66, r301_67, r301_68, r301_71, r301_72, r301_73, r301_74, r301_75, r301_76, r301_77, r301_80, r301_81, r301_82, r301_83, r301_86, r301_87, r301_90, r301_93, r301_94, r301_97, if_true, if_false, Nat.reduceAdd, Int32.reduceToNatClampNeg, lo_i, lo_r, lo_n, kont_v, kont_n, List.length_nil, List.length_cons, and_self, and_true, true_and, and_false, false_and, not_true, not_false_eq_true, true_or, or_true, bi_eq0, b10 hz, b11 hz, b21 hz, m194, m259, m257 hI, m258 hI, m266 hI, m274 hI, g1]
    exact exM h
def aAll (I : Nat → Nat → Int32) (s : Int32) : An := if 0 ≤ s ∧ s ≤ I 12 5 - 1 then (.inl ((hdJ I (I 41) s.toNatClampNeg (wnd (I 41)) : Int32))) else .inr (1, 1)
theorem t_aAll {I J : Nat → Nat → Int32} {s : Int32} (h : view J = view I) : aAll J s = aAll I s := by
  unfold aAll
  simp only [t12 h, t41 h, tr_hj h]
theorem q166 (hI : Inv I) (hx : x + 1 ≤ 600) (h : resC n I L x Φ (aAll I s)) : wpc (d + 12) 166 [.ref (9 : Nat), .int s] (mk n I L x) Φ := by
  show wp (d + 12) 166 0 [.ref (9 : Nat), .int s] [] (mk n I L x) Φ
  unfold aAll at h
  have hC := hI.1.1
  by_cases g1 : 0 ≤ s ∧ s ≤ I 12 5 - 1
  · rw [if_pos g1] at h
    obtain ⟨j, hj, rfl⟩ := isN (inv_s hI) (inv_s7 hI) g1
    have hj7 : j < 7 := by have := inv_s7 hI; omega
    rw [nt_clamp (k := j) (by omega)] at h
    simp (config := {decide := true}) only [r166_0, r166_1, r166_2, r166_5, r166_6, r166_9, r166_10, r166_13, r166_14, r166_15, r166_18, r166_21, r166_24, if_true, if_false, Nat.reduceAdd, Int32.reduceToNatClampNeg, lo_i, lo_r, lo_n, kont_v, kont_n, List.length_nil, List.length_cons, and_self, and_true, true_and, and_false, false_and, not_true, not_false_eq_true, true_or, or_true, bi_eq0, c181 hx, c179 hx, c180 hx, c182, c183, kx, g1, k40, c60 k40, g23 hC k40, hdJ_I hj7]
    exact okCs h
  · rw [if_neg g1] at h
    simp (config := {decide := true}) only [r166_0, r166_1, r166_2, r166_5, r166_6, r166_9, r166_10, r166_13, r166_14, r166_15, r166_18, r166_21, r166_24, if_true, if_false, Nat.reduceAdd, Int32.reduceToNatClampNeg, lo_i, lo_r, lo_n, kont_v, kont_n, List.length_nil, List.length_cons, and_self, and_true, true_and, and_false, false_and, not_true, not_false_eq_true, true_or, or_true, bi_eq0, c181 hx, c179 hx, c180 hx, c182, c183, kx, g1]
    exact exC1 h
theorem u297 (hI : Inv I) (h : resM n I L x Φ (aAll I s)) : wpc (d + 12) 297 [.ref (70 : Nat), .int s] (mk n I L x) Φ := by
  show wp (d + 12) 297 0 [.ref (70 : Nat), .int s] [] (mk n I L x) Φ
  rw [r297_0, r297_1, r297_2]
  replace h := resM_z h
  rw [← t_aAll v70] at h
  replace hI := tr_Inv v70 hI
  have hz := z70 (I := I)
  generalize wrI I 70 0 0 = I at h hI hz ⊢
  unfold aAll at h
  have hM := hI.1
  by_cases g1 : 0 ≤ s ∧ s ≤ I 12 5 - 1
  · rw [if_pos g1] at h
    obtain ⟨j, hj, rfl⟩ := isN (inv_s hI) (inv_s7 hI) g1
    have hj7 : j < 7 := by have := inv_s7 hI; omega
    rw [nt_clamp (k := j) (by omega)] at h
    simp (config := {decide := true}) only [r297_5, r297_6, r297_7, r297_8, r297_11, r297_14, r297_15, r297_18, r297_19, r297_20, r297_21, r297_24, r297_27, r297_28, r297_29, r297_30, r297_31, r297_34, r297_35, r297_36, r297_37, r297_40, r297_43, r297_46, if_true, if_false, Nat.reduceAdd, Int32.reduceToNatClampNeg, lo_i, lo_r, lo_n, kont_v, kont_n, List.length_nil, List.length_cons, and_self, and_true, true_and, and_false, false_and, not_true, not_false_eq_true, true_or, or_true, bi_eq0, b10 hz, b11 hz, b21 hz, m194, m259, m257 hI, g1, n243 hI, n241 hI hj]
    exact okMs h hz
  · rw [if_neg g1] at h
    simp (config := {decide := true}) only [r297_5, r297_6, r297_7, r297_8, r297_11, r297_14, r297_15, r297_18, r297_19, r297_20, r297_21, r297_24, r297_27, r297_28, r297_29, r297_30, r297_31, r297_34, r297_35, r297_36, r297_37, r297_40, r297_43, r297_46, if_true, if_false, Nat.reduceAdd, Int32.reduceToNatClampNeg, lo_i, lo_r, lo_n, kont_v, kont_n, List.length_nil, List.length_cons, and_self, and_true, true_and, and_false, false_and, not_true, not_false_eq_true, true_or, or_true, bi_eq0, b10 hz, b11 hz, b21 hz, m194, m259, m257 hI, m258 hI, m266 hI, m274 hI, g1]
    exact exM h
def aFault (I : Nat → Nat → Int32) : An := .inl ((I 10 6 : Int32))
theorem t_aFault {I J : Nat → Nat → Int32} (h : view J = view I) : aFault J = aFault I := by
  unfold aFault
  simp only [t10b h]
theorem q136 (hI : Inv I) (hx : x + 1 ≤ 600) (h : resC n I L x Φ (aFault I)) : wpc (d + 12) 136 [.ref (9 : Nat)] (mk n I L x) Φ := by
  show wp (d + 12) 136 0 [.ref (9 : Nat)] [] (mk n I L x) Φ
  unfold aFault at h
  have hC := hI.1.1
  simp (config := {decide := true}) only [r136_0, r136_1, r136_4, r136_7, if_true, if_false, Nat.reduceAdd, Int32.reduceToNatClampNeg, lo_i, lo_r, lo_n, kont_v, kont_n, List.length_nil, List.length_cons]
  exact okC h
theorem u236 (hI : Inv I) (h : resM n I L x Φ (aFault I)) : wpc (d + 12) 236 [.ref (70 : Nat)] (mk n I L x) Φ := by
  show wp (d + 12) 236 0 [.ref (70 : Nat)] [] (mk n I L x) Φ
  rw [r236_0, r236_1, r236_2]
  replace h := resM_z h
  rw [← t_aFault v70] at h
  replace hI := tr_Inv v70 hI
  have hz := z70 (I := I)
  generalize wrI I 70 0 0 = I at h hI hz ⊢
  unfold aFault at h
  have hM := hI.1
  simp (config := {decide := true}) only [r236_5, r236_6, r236_9, if_true, if_false, Nat.reduceAdd, Int32.reduceToNatClampNeg, lo_i, lo_r, lo_n, kont_v, kont_n, List.length_nil, List.length_cons, hI.2.2.2.2.2.2.1.2]
  exact oqM h hz
def aCount (I : Nat → Nat → Int32) (w : Int32) : An := .inl ((if w = 0 then I 46 2 else if w = 1 then I 10 1 else if w = 2 then I 44 1 else -1 : Int32))
theorem t_aCount {I J : Nat → Nat → Int32} {w : Int32} (h : view J = view I) : aCount J w = aCount I w := by
  unfold aCount
  simp only [t46 h, t10a h, t44 h]
theorem c92 : wpc d 92 [.ref (10 : Nat)] (mk n I L x) Φ ↔ Φ (.inl (some (.int (I 10 1)))) (mk n I L x) := by
  show wp d 92 0 [.ref (10 : Nat)] [] (mk n I L x) Φ ↔ _
  simp (config := {decide := true}) only [r92_0, r92_1, r92_4, if_true, if_false, Nat.reduceAdd, Int32.reduceToNatClampNeg, lo_i, lo_r, lo_n, kont_v, kont_n, List.length_nil, List.length_cons]
theorem k44 : K9 44 := Or.inl rfl
theorem ne_012 {w : Int32} (h0 : w ≠ 0) (h1 : w ≠ 1) (h2 : w ≠ 2) : w.toInt < 0 ∨ 2 < w.toInt := by
  have e0 := ne_toInt h0
  have e1 := ne_toInt h1
  have e2 := ne_toInt h2
  have f0 : (0 : Int32).toInt = 0 := rfl
  have f1 : (1 : Int32).toInt = 1 := rfl
  have f2 : (2 : Int32).toInt = 2 := rfl
  omega
theorem q174 (hI : Inv I) (hx : x + 1 ≤ 600) (h : resC n I L x Φ (aCount I w)) : wpc (d + 12) 174 [.ref (9 : Nat), .int w] (mk n I L x) Φ := by
  show wp (d + 12) 174 0 [.ref (9 : Nat), .int w] [] (mk n I L x) Φ
  unfold aCount at h
  have hC := hI.1.1
  rw [r174_0]
  by_cases g0 : w = 0
  · subst g0
    rw [r174_1 28 rfl]
    simp (config := {decide := true}) only [r174_28, r174_29, r174_32, r174_35, if_true, if_false, Nat.reduceAdd, Int32.reduceToNatClampNeg, lo_i, lo_r, lo_n, kont_v, kont_n, List.length_nil, List.length_cons, c3]
    exact okC h
  by_cases g1 : w = 1
  · subst g1
    rw [r174_1 36 rfl]
    simp (config := {decide := true}) only [r174_36, r174_37, r174_40, r174_43, if_true, if_false, Nat.reduceAdd, Int32.reduceToNatClampNeg, lo_i, lo_r, lo_n, kont_v, kont_n, List.length_nil, List.length_cons, c92]
    exact okC h
  by_cases g2 : w = 2
  · subst g2
    rw [r174_1 44 rfl]
    simp (config := {decide := true}) only [r174_44, r174_45, r174_48, r174_51, if_true, if_false, Nat.reduceAdd, Int32.reduceToNatClampNeg, lo_i, lo_r, lo_n, kont_v, kont_n, List.length_nil, List.length_cons, k44]
    exact okC h
  rw [r174_1 52 (ptb_out (ne_012 g0 g1 g2))]
  rw [if_neg g0, if_neg g1, if_neg g2] at h
  simp (config := {decide := true}) only [r174_52, r174_53, if_true, if_false, Nat.reduceAdd, Int32.reduceToNatClampNeg, lo_i, lo_r, lo_n, kont_v, kont_n, List.length_nil, List.length_cons]
  exact okC h
theorem u313 (hI : Inv I) (h : resM n I L x Φ (aCount I w)) : wpc (d + 12) 313 [.ref (70 : Nat), .int w] (mk n I L x) Φ := by
  show wp (d + 12) 313 0 [.ref (70 : Nat), .int w] [] (mk n I L x) Φ
  rw [r313_0, r313_1, r313_2]
  replace h := resM_z h
  rw [← t_aCount v70] at h
  replace hI := tr_Inv v70 hI
  have hz := z70 (I := I)
  generalize wrI I 70 0 0 = I at h hI hz ⊢
  unfold aCount at h
  have hM := hI.1
  obtain ⟨w9, w1, w2, w3, w4⟩ := hI.2.2.2.1
  obtain ⟨m, m1, m2, m3, m4⟩ := hI.2.2.2.2.1
  obtain ⟨z, z1, z2, z3, z4⟩ := hI.2.2.2.2.2.2.1.1
  have y1 : I 70 34 = I 44 1 := w3.trans w2.symm
  have y2 : I 70 36 = I 46 2 := m3.trans m2.symm
  have y3 : I 70 1 = I 10 1 := z3.trans z2.symm
  by_cases g0 : w = 0
  · subst g0
    simp (config := {decide := true}) only [r313_5, r313_6, r313_9, r313_10, r313_13, r313_16, r313_17, r313_18, r313_21, r313_22, r313_25, r313_28, r313_29, r313_30, r313_33, r313_34, r313_37, r313_40, r313_41, if_true, if_false, Nat.reduceAdd, Int32.reduceToNatClampNeg, lo_i, lo_r, lo_n, kont_v, kont_n, List.length_nil, List.length_cons, y2]
    exact oqM h hz
  by_cases g1 : w = 1
  · subst g1
    simp (config := {decide := true}) only [r313_5, r313_6, r313_9, r313_10, r313_13, r313_16, r313_17, r313_18, r313_21, r313_22, r313_25, r313_28, r313_29, r313_30, r313_33, r313_34, r313_37, r313_40, r313_41, if_true, if_false, Nat.reduceAdd, Int32.reduceToNatClampNeg, lo_i, lo_r, lo_n, kont_v, kont_n, List.length_nil, List.length_cons, y3]
    exact oqM h hz
  by_cases g2 : w = 2
  · subst g2
    simp (config := {decide := true}) only [r313_5, r313_6, r313_9, r313_10, r313_13, r313_16, r313_17, r313_18, r313_21, r313_22, r313_25, r313_28, r313_29, r313_30, r313_33, r313_34, r313_37, r313_40, r313_41, if_true, if_false, Nat.reduceAdd, Int32.reduceToNatClampNeg, lo_i, lo_r, lo_n, kont_v, kont_n, List.length_nil, List.length_cons, y1]
    exact oqM h hz
  rw [if_neg g0, if_neg g1, if_neg g2] at h
  simp (config := {decide := true}) only [r313_5, r313_6, r313_9, r313_10, r313_13, r313_16, r313_17, r313_18, r313_21, r313_22, r313_25, r313_28, r313_29, r313_30, r313_33, r313_34, r313_37, r313_40, r313_41, if_true, if_false, Nat.reduceAdd, Int32.reduceToNatClampNeg, lo_i, lo_r, lo_n, kont_v, kont_n, List.length_nil, List.length_cons, g0, g1, g2]
  exact oqM h hz
end Q2
