/-! WORK: the reference's call, and the pair -/
section Wq
variable {d n x N z w sn cn : Nat} {B : Nat → Int32} {Φ : POut → PM → Prop} {I I0 J K G : Nat → Nat → Int32} {L : Nat → Nat → Int64} {v q : Int32} {τ : WS} {U : WPs} {PH : (Nat → Int32) → Nat → Int32} {f0 : Nat → Int32}
theorem m252L (hX0 : MX I0 N B) {h : Nat} (hU : MWn n I0 N (d + 33) 0 U) (hP : PSs N sn cn h U) (hUs : ∀ σ p, U σ (skp B N p) = U σ p) {v1 : Value} : ∀ f σ p I K, N + 5 ≤ p + 5 * f → p ≤ N → MWk I0 I → I 70 8 = nt 0 → Wm I σ → 5 * σ.1 ≤ p → MT I K N (.inl (skp B N p)) → (∀ τ p', rWl B N (-1) U f σ p = .inl (τ, p') → ∀ I' K', MWk I0 I' → Wm I' τ → MT I' K' N (.inl p') → wp (d + 34) 252 101 [.ref (70 : Nat), v1] [] (mk n K' L x) Φ) → (∀ e, rWl B N (-1) U f σ p = .inr e → ∀ I' K', MWk I0 I' → MT I' K' N (.inr e) → wp (d + 34) 252 101 [.ref (70 : Nat), v1] [] (mk n K' L x) Φ) → wp (d + 34) 252 72 [.ref (70 : Nat), v1] [] (mk n K L x) Φ := by
  intro f
  induction f with
  | zero => intro σ p I K h1 h2; omega
  | succ f ih =>
    intro σ p I K hNp hpN hM h8 hW h5p hK hok hbad
    have hX := MX_mw hX0 hM
    have hle : skp B N p ≤ N := endF_le hpN
    have hge : p ≤ skp B N p := skp_ge
    have hN6 := hX0.2.1
    have f5 : K 70 5 = 0 := MT_5 hK
    have hK0 := hK
    obtain ⟨hb1, q1, rfl⟩ := hK
    have f2 : ∀ a f q, mS I a f q 70 2 = nt N := fun a f q => by rw [mS_2]; exact hX.1
    by_cases hs : cur B N (skp B N p) = -1
    · have hlt := (cur_end hX0.2.2.2).mp hs
      have e1 : nt N ≤ nt (skp B N p) := by rw [nt_le (by omega) (by omega)]; omega
      simp (config := {decide := true}) only [r252_72, r252_73, r252_76, r252_79, r252_80, r252_83, r252_84, r252_87, if_true, if_false, Nat.reduceAdd, Int32.reduceToNatClampNeg, lo_i, lo_r, lo_n, kont_v, kont_n, List.length_nil, List.length_cons, f5, mS_4, f2, e1]
      exact hok σ _ (rWl_0 hs) I _ hM hW hK0
    · have hlt : skp B N p < N := cur_in hs
      have e1 : ¬ (nt N ≤ nt (skp B N p)) := nt_nle hlt (by omega)
      simp (config := {decide := true}) only [r252_72, r252_73, r252_76, r252_79, r252_80, r252_83, r252_84, r252_87, r252_90, r252_91, if_true, if_false, Nat.reduceAdd, Int32.reduceToNatClampNeg, lo_i, lo_r, lo_n, kont_v, kont_n, List.length_nil, List.length_cons, f5, mS_4, f2, e1]
      refine hU _ _ _ I _ σ (skp B N p) hM h8 hW (by omega) hK0 (fun τ p1 hu I1 K1 hM1 h81 hW1 hK1 => kont_n.mpr ?_) (fun e hu I1 K1 hM1 hK1 => kont_n.mpr ?_)
      · obtain ⟨b1, b2, b3, -⟩ := hP _ _ _ _ hle hu
        rw [hUs] at hu
        rw [rWl_s hs hu] at hok hbad
        simp (config := {decide := true}) only [r252_94, r252_95, if_true, if_false, Nat.reduceAdd, Int32.reduceToNatClampNeg, lo_i, lo_r, lo_n, kont_v, kont_n, List.length_nil, List.length_cons]
        refine m200a (MX_mw hX0 hM1) hK1 (fun K2 hK2 => kont_n.mpr ?_)
        simp (config := {decide := true}) only [r252_98, if_true, if_false, Nat.reduceAdd, Int32.reduceToNatClampNeg, lo_i, lo_r, lo_n, kont_v, kont_n, List.length_nil, List.length_cons]
        exact ih τ p1 I1 K2 (by omega) b1 hM1 h81 hW1 (by omega) hK2 hok hbad
      · rw [hUs] at hu
        simp (config := {decide := true}) only [r252_94, r252_95, if_true, if_false, Nat.reduceAdd, Int32.reduceToNatClampNeg, lo_i, lo_r, lo_n, kont_v, kont_n, List.length_nil, List.length_cons]
        refine m200f (MX_mw hX0 hM1) hK1 (fun K2 hK2 => kont_n.mpr ?_)
        have f5' : ¬ K2 70 5 = 0 := by rw [MT_5 hK2]; exact kf hK2.1 hK2.2.1
        simp (config := {decide := true}) only [r252_98, r252_72, r252_73, r252_76, if_true, if_false, Nat.reduceAdd, Int32.reduceToNatClampNeg, lo_i, lo_r, lo_n, kont_v, kont_n, List.length_nil, List.length_cons, f5']
        exact hbad e (rWl_r hs hu) I1 K2 hM1 hK2
theorem m252p (hz : J 70 1 = nt z) (hzz : z ≤ 600) (hN : N ≤ z) (h150 : N ≤ 150) (h71 : ∀ i, i < N → J 71 i = B i) (hB : ∀ i, i < N → 0 ≤ B i ∧ B i < 256) (hw : J 70 34 = nt w) (hw16 : w < 16) (h740 : J 74 0 = nt sn) (h741 : J 74 1 = nt cn) (hs7 : sn ≤ 7) (hc6 : cn ≤ 6) (hok : ∀ τ p', rWk B N sn cn = .inl (τ, p') → ∀ I1 q, MWk (stM (wrI J 70 0 0) (nt N)) I1 → Wm I1 τ → p' ≤ N → wp (d + 34) 252 113 [.ref (70 : Nat), .int (nt N)] [] (mk n (mS I1 (nt p') 0 q) L x) Φ) (hbad : ∀ e, rWk B N sn cn = .inr e → ∀ I1 K, MWk (stM (wrI J 70 0 0) (nt N)) I1 → MT I1 K N (.inr e) → wp (d + 34) 252 108 [.ref (70 : Nat), .int (nt N)] [] (mk n K L x) Φ) : wpc (d + 34) 252 [.ref (70 : Nat), .int (nt N)] (mk n J L x) Φ := by
  have e1 : wrI J 70 0 0 70 1 = nt z := by rw [wr_k (by decide)]; exact hz
  have e2 : (0 : Int32) ≤ nt N ∧ nt N ≤ nt z := ⟨nt_ge (by omega), by rw [nt_le (by omega) (by omega)]; exact hN⟩
  have e3 : nt N ≤ 150 := by rw [show (150 : Int32) = nt 150 from rfl, nt_le (by omega) (by decide)]; exact h150
  have e4 : wrI J 70 0 0 70 0 = 0 := wr_eq
  have e34 : wrI J 70 0 0 70 34 = nt w := by rw [wr_k (by decide)]; exact hw
  have e5 : ¬ (nt w = 16) := by rw [show (16 : Int32) = nt 16 from rfl, nt_inj (by omega) (by decide)]; omega
  have e71 : ∀ i, i < N → wrI J 70 0 0 71 i = B i := fun i hi => by rw [wrI_ne (by decide)]; exact h71 i hi
  have m193' := m193 (d := d + 33) (n := n) (L := L) (x := x) (I := wrI J 70 0 0) (b := 0) (t := 1) (e := 1) (Φ := kont (d + 33) 252 32 3 [.ref (70 : Nat), .int (nt N)] [] Φ) e4 (by decide) (by decide)
  rw [show nt 1 = (1 : Int32) from rfl] at m193'
  have hX : MX (stM (wrI J 70 0 0) (nt N)) N B := stM_X (by omega) e71 hB
  have h0 : stM (wrI J 70 0 0) (nt N) 70 8 = nt 0 := by unfold stM; rw [wr_eq]; rfl
  have h74 : stM (wrI J 70 0 0) (nt N) 74 0 = nt sn ∧ stM (wrI J 70 0 0) (nt N) 74 1 = nt cn := by rw [stM_ne (by decide), wrI_ne (by decide)]; exact ⟨h740, h741⟩
  show wp (d + 34) 252 0 [.ref (70 : Nat), .int (nt N)] [] (mk n J L x) Φ
  simp (config := {decide := true}) only [r252_0, r252_1, r252_2, r252_5, r252_6, r252_7, r252_8, r252_9, r252_12, r252_15, r252_18, r252_19, r252_22, r252_25, r252_26, r252_29, r252_30, r252_31, r252_32, r252_35, r252_38, r252_39, r252_40, r252_41, r252_44, r252_46, r252_62, r252_63, r252_64, r252_67, r252_68, r252_69, if_true, if_false, Nat.reduceAdd, Int32.reduceToNatClampNeg, lo_i, lo_r, lo_n, kont_v, kont_n, List.length_nil, List.length_cons, and_self, and_true, true_and, and_false, false_and, not_true, not_false_eq_true, true_or, or_true, bi_eq0, e1, m194, e2, e3, m193', e34, e5, m212 (show N ≤ 600 by omega) e71 hB, mS_w (show 27 ≠ 4 by decide) (show 27 ≠ 5 by decide) (show 27 ≠ 6 by decide)]
  generalize stM (wrI J 70 0 0) (nt N) = I0 at hX h0 h74 hok hbad ⊢
  have hU : MWn n I0 N (d + 33) 0 (rSt B N sn cn (sB B N sn cn 6)) := m234_all hX h150 h74.1 h74.2 hs7 hc6 6 0 (d + 21) rfl
  refine m252L hX hU (PSs_all hs7 hc6 6) (fun σ p => rSt_skp) 31 ws00 0 (wrI I0 70 27 0) _ (by omega) (Nat.zero_le N) (MWk_w MWk_refl (Or.inr rfl)) (by rw [wr_k (by decide)]; exact h0) ⟨wr_eq, fun r _ j => rfl, fun r hr k hk => nomatch hk⟩ (Nat.le_refl 0) (mtX_ok (endF_le (Nat.zero_le N))) ?_ ?_
  · intro τ p' hr I1 K1 hM1 hW1 hK1
    obtain ⟨hp, q1, rfl⟩ := hK1
    simp (config := {decide := true}) only [r252_101, r252_102, r252_105, if_true, if_false, Nat.reduceAdd, Int32.reduceToNatClampNeg, lo_i, lo_r, lo_n, kont_v, kont_n, List.length_nil, List.length_cons, mS_5]
    exact hok τ p' hr I1 q1 hM1 hW1 hp
  · intro e hr I1 K1 hM1 hK1
    have f5 : ¬ K1 70 5 = 0 := by rw [MT_5 hK1]; exact kf hK1.1 hK1.2.1
    simp (config := {decide := true}) only [r252_101, r252_102, r252_105, if_true, if_false, Nat.reduceAdd, Int32.reduceToNatClampNeg, lo_i, lo_r, lo_n, kont_v, kont_n, List.length_nil, List.length_cons, f5]
    exact hbad e hr I1 K1 hM1 hK1
theorem m252x (hv : ¬ (0 ≤ v ∧ v ≤ 150 ∧ v ≤ J 70 1)) : wpc (d + 34) 252 [.ref (70 : Nat), .int v] (mk n J L x) Φ ↔ Φ (.inl (some (.int 0))) (mk n (wrI (wrI (wrI J 70 0 0) 70 0 1) 72 1 (J 72 1 + 1)) L x) := by
  have e1 : wrI J 70 0 0 70 1 = J 70 1 := wr_k (by decide)
  have e4 : wrI J 70 0 0 70 0 = 0 := wr_eq
  have e72 : wrI J 70 0 0 72 1 = J 72 1 := by rw [wrI_ne (by decide)]
  have m193' := m193 (d := d + 33) (n := n) (L := L) (x := x) (I := wrI J 70 0 0) (b := 1) (t := 1) (e := 1) (Φ := kont (d + 33) 252 32 3 [.ref (70 : Nat), .int v] [] Φ) e4 (by decide) (by decide)
  rw [show nt 1 = (1 : Int32) from rfl] at m193'
  show wp (d + 34) 252 0 [.ref (70 : Nat), .int v] [] (mk n J L x) Φ ↔ _
  by_cases h1 : 0 ≤ v ∧ v ≤ J 70 1
  · have h2 : ¬ (v ≤ 150) := fun z => hv ⟨h1.1, z, h1.2⟩
    simp (config := {decide := true}) only [r252_0, r252_1, r252_2, r252_5, r252_6, r252_7, r252_8, r252_9, r252_12, r252_15, r252_18, r252_19, r252_22, r252_25, r252_26, r252_29, r252_30, r252_31, r252_32, r252_35, r252_38, r252_39, if_true, if_false, Nat.reduceAdd, Int32.reduceToNatClampNeg, lo_i, lo_r, lo_n, kont_v, kont_n, List.length_nil, List.length_cons, and_self, and_true, true_and, and_false, false_and, not_true, not_false_eq_true, true_or, or_true, bi_eq0, e1, m194, h1, h2, m193', e72]
  · simp (config := {decide := true}) only [r252_0, r252_1, r252_2, r252_5, r252_6, r252_7, r252_8, r252_9, r252_12, r252_15, r252_18, r252_19, r252_22, r252_25, r252_26, r252_29, r252_30, r252_31, r252_32, r252_35, r252_38, r252_39, if_true, if_false, Nat.reduceAdd, Int32.reduceToNatClampNeg, lo_i, lo_r, lo_n, kont_v, kont_n, List.length_nil, List.length_cons, and_self, and_true, true_and, and_false, false_and, not_true, not_false_eq_true, true_or, or_true, bi_eq0, e1, m194, h1, m193', e72]
theorem m252f (hz : J 70 1 = nt z) (hzz : z ≤ 600) (hN : N ≤ z) (h150 : N ≤ 150) (hw : J 70 34 = nt 16) : wpc (d + 34) 252 [.ref (70 : Nat), .int (nt N)] (mk n J L x) Φ ↔ Φ (.inl (some (.int (-20)))) (mk n (wrI (wrI (wrI J 70 0 0) 70 1 0) 70 3 (-1)) L x) := by
  have e1 : wrI J 70 0 0 70 1 = nt z := by rw [wr_k (by decide)]; exact hz
  have e2 : (0 : Int32) ≤ nt N ∧ nt N ≤ nt z := ⟨nt_ge (by omega), by rw [nt_le (by omega) (by omega)]; exact hN⟩
  have e3 : nt N ≤ 150 := by rw [show (150 : Int32) = nt 150 from rfl, nt_le (by omega) (by decide)]; exact h150
  have e4 : wrI J 70 0 0 70 0 = 0 := wr_eq
  have e34 : wrI J 70 0 0 70 34 = 16 := by rw [wr_k (by decide)]; exact hw
  have m193' := m193 (d := d + 33) (n := n) (L := L) (x := x) (I := wrI J 70 0 0) (b := 0) (t := 1) (e := 1) (Φ := kont (d + 33) 252 32 3 [.ref (70 : Nat), .int (nt N)] [] Φ) e4 (by decide) (by decide)
  rw [show nt 1 = (1 : Int32) from rfl] at m193'
  show wp (d + 34) 252 0 [.ref (70 : Nat), .int (nt N)] [] (mk n J L x) Φ ↔ _
  simp (config := {decide := true}) only [r252_0, r252_1, r252_2, r252_5, r252_6, r252_7, r252_8, r252_9, r252_12, r252_15, r252_18, r252_19, r252_22, r252_25, r252_26, r252_29, r252_30, r252_31, r252_32, r252_35, r252_38, r252_39, r252_40, r252_41, r252_44, r252_46, r252_49, r252_50, r252_51, r252_54, r252_55, r252_56, r252_59, r252_61, if_true, if_false, Nat.reduceAdd, Int32.reduceToNatClampNeg, lo_i, lo_r, lo_n, kont_v, kont_n, List.length_nil, List.length_cons, and_self, and_true, true_and, and_false, false_and, not_true, not_false_eq_true, true_or, or_true, bi_eq0, e1, m194, e2, e3, m193', e34]
theorem m252b (hz : J 70 1 = nt z) (hzz : z ≤ 600) (hN : N ≤ z) (h150 : N ≤ 150) (h71 : ∀ i, i < N → J 71 i = B i) (hB : ∀ i, i < N → 0 ≤ B i ∧ B i < 256) (hw : J 70 34 = nt w) (hw16 : w < 16) (h740 : J 74 0 = nt sn) (h741 : J 74 1 = nt cn) (hs7 : sn ≤ 7) (hc6 : cn ≤ 6) {e : Nat × Nat} (hr : rWk B N sn cn = .inr e) (h : ∀ K, (∀ r, r ≠ 70 → (r < 454 ∨ 533 < r) → K r = J r) → K 70 0 = 0 → K 70 1 = 0 → K 70 3 = nt e.2 → (∀ i, 9 ≤ i → i ≠ 27 → K 70 i = J 70 i) → Φ (.inl (some (.int (nt e.1 - 10)))) (mk n K L x)) : wpc (d + 34) 252 [.ref (70 : Nat), .int (nt N)] (mk n J L x) Φ := by
  refine m252p hz hzz hN h150 h71 hB hw hw16 h740 h741 hs7 hc6 (fun τ2 p2 hr2 => by rw [hr] at hr2; cases hr2) (fun e2 hr2 I1 K hM hK => ?_)
  rw [hr] at hr2
  cases hr2
  obtain ⟨h0, h9, a1, ha1, rfl⟩ := hK
  simp (config := {decide := true}) only [r252_108, r252_109, r252_112, if_true, if_false, Nat.reduceAdd, Int32.reduceToNatClampNeg, lo_i, lo_r, lo_n, kont_v, kont_n, List.length_nil, List.length_cons, m213]
  refine h _ (fun r h3 h4 => ?_) ?_ ?_ ?_ ?_
  · rw [mS_ne h3, wrI_ne h3, hM.1 r h3 h4, stM_ne h3, wrI_ne h3]
  · rw [mS_o (by decide) (by decide) (by decide), wr_k (by decide), hM.2 0 (by decide) (by decide), stM_o (by decide) (by decide) (by decide) (by decide), wr_eq]
  · rw [mS_o (by decide) (by decide) (by decide), wr_k (by decide), hM.2 1 (by decide) (by decide)]
    unfold stM
    rw [wr_k (by decide), wr_k (by decide), wr_k (by decide), wr_eq]
  · rw [mS_o (by decide) (by decide) (by decide), wr_eq]
  · intro i g9 g27
    rw [mS_o (by omega) (by omega) (by omega), wr_k (by omega), hM.2 i (by omega) g27, stM_o (by omega) (by omega) (by omega) (by omega), wr_k (by omega)]
theorem m252a (hMI : MI J) (hro : RO J f0) (h534 : J 534 = vc f0) (hz : J 70 1 = nt z) (hzz : z ≤ 600) (hN : N ≤ z) (h150 : N ≤ 150) (h71 : ∀ i, i < N → J 71 i = B i) (hB : ∀ i, i < N → 0 ≤ B i ∧ B i < 256) (hw : J 70 34 = nt w) (hw16 : w < 16) {p' : Nat} (hr : rWk B N (sI J) (cI J) = .inl (τ, p')) (h : ∀ K, (∀ r, r ≠ 70 → (r < 451 ∨ 536 < r) → r ≠ 538 + w → K r = J r) → K 535 = J 535 → K 534 = vc (runI (phR J) τ.2 τ.1 0 τ.1 (f0, 0, 0, 0)).1 → (∀ k, k < 84 → K (538 + w) k = J 534 k) → K 70 0 = 0 → K 70 1 = 0 → K 70 3 = -1 → K 70 34 = nt (w + 1) → K 70 35 = nt (runI (phR J) τ.2 τ.1 0 τ.1 (f0, 0, 0, 0)).2.2.2 → (∀ i, 9 ≤ i → i ≠ 27 → i ≠ 34 → i ≠ 35 → i ≠ 38 → i ≠ 39 → i ≠ 40 → K 70 i = J 70 i) → Φ (.inl (some (.int (nt (runI (phR J) τ.2 τ.1 0 τ.1 (f0, 0, 0, 0)).2.2.1)))) (mk n K L x)) : wpc (d + 34) 252 [.ref (70 : Nat), .int (nt N)] (mk n J L x) Φ := by
  have hs7 : sI J ≤ 7 := hMI.1.2.2.1.2
  have hc6 : cI J ≤ 6 := hMI.1.2.1.2
  refine m252p hz hzz hN h150 h71 hB hw hw16 hMI.2.1.1 hMI.2.1.2 hs7 hc6 (fun τ2 p2 hr2 I1 q hM hW hp => ?_) (fun e2 hr2 => by rw [hr] at hr2; cases hr2)
  rw [hr] at hr2
  cases hr2
  obtain ⟨h30, hok⟩ := rWk_ok hs7 hc6 h150 hr
  -- the cells as they stand
  have b1 : ∀ r, r ≠ 70 → (r < 454 ∨ 533 < r) → mS I1 (nt p') 0 q r = J r := fun r g1 g2 => by rw [mS_ne g1, hM.1 r g1 g2, stM_ne g1, wrI_ne g1]
  have b2 : ∀ i, i ≠ 1 → i ≠ 2 → i ≠ 4 → i ≠ 5 → i ≠ 6 → i ≠ 7 → i ≠ 8 → i ≠ 27 → mS I1 (nt p') 0 q 70 i = wrI J 70 0 0 70 i := fun i g1 g2 g4 g5 g6 g7 g8 g27 => by rw [mS_o g4 g5 g6, hM.2 i g8 g27, stM_o g1 g2 g7 g8]
  have b27 : mS I1 (nt p') 0 q 70 27 = nt τ.1 := by rw [mS_o (by decide) (by decide) (by decide)]; exact hW.1
  have b1' : mS I1 (nt p') 0 q 70 1 = 0 := by
    rw [mS_o (by decide) (by decide) (by decide), hM.2 1 (by decide) (by decide)]
    unfold stM
    rw [wr_k (by decide), wr_k (by decide), wr_k (by decide), wr_eq]
  have b454 : ∀ r, 454 ≤ r → r ≤ 533 → mS I1 (nt p') 0 q r = I1 r := fun r g1 g2 => mS_ne (by omega)
  have b0 : mS I1 (nt p') 0 q 70 0 = 0 := by rw [b2 0 (by decide) (by decide) (by decide) (by decide) (by decide) (by decide) (by decide) (by decide), wr_eq]
  have bw : mS I1 (nt p') 0 q 70 34 = nt w := by rw [b2 34 (by decide) (by decide) (by decide) (by decide) (by decide) (by decide) (by decide) (by decide), wr_k (by decide)]; exact hw
  generalize mS I1 (nt p') 0 q = M0 at *
  obtain ⟨R, hR⟩ : ∃ R, R = 537 + 1 + w := ⟨_, rfl⟩
  have eR1 : 537 + 1 + w = R := hR.symm
  have eR2 : 538 + w = R := by omega
  have g4 : (sh0 n 537).1 = 22 := by rw [s537]
  have g5 : (sh0 n 537).2.1 = 16 := by rw [s537]
  have g1 : (nt w).toNatClampNeg = w := nt_clamp (by omega)
  have g2 : (0 : Int32) ≤ nt w := nt_ge (by omega)
  have bw3 : wrI M0 70 3 (-1) 70 34 = nt w := by rw [wr_k (by decide)]; exact bw
  have cp := fun Ψ => m221g (d := d + 33) (n := n) (L := L) (x := x) (I := wrI M0 70 3 (-1)) (Φ := Ψ) (a := 534) (b := R) (by omega) (shR (Or.inl rfl)) (by rw [← eR2]; exact sh538 hw16) (by decide) (by omega) (by omega)
  have bw4 : upR (wrI M0 70 3 (-1)) R (ovr 84 (wrI M0 70 3 (-1) 534) (wrI M0 70 3 (-1) R)) 70 34 = nt w := by rw [upR_ne (by omega)]; exact bw3
  simp (config := {decide := true}) only [r252_113, r252_114, r252_115, r252_118, r252_119, r252_122, r252_123, r252_126, r252_127, r252_130, r252_131, r252_134, r252_135, r252_136, r252_139, r252_140, r252_141, if_true, if_false, Nat.reduceAdd, Int32.reduceToNatClampNeg, lo_i, lo_r, lo_n, kont_v, kont_n, List.length_nil, List.length_cons, bw3, g4, g5, g1, g2, hw16, eR1, eR2, cp, bw4, nt_succ]
  simp (config := {decide := true}) only [r252_144, r252_145, r252_146, r252_149, r252_150, r252_151, r252_154, r252_155, r252_156, if_true, if_false, Nat.reduceAdd, Int32.reduceToNatClampNeg, lo_i, lo_r, lo_n, kont_v, kont_n, List.length_nil, List.length_cons]
  -- the cells in which it is done
  have c1 : ∀ r, r ≠ 70 → r ≠ R → wrI (wrI (wrI (wrI (upR (wrI M0 70 3 (-1)) R (ovr 84 (wrI M0 70 3 (-1) 534) (wrI M0 70 3 (-1) R))) 70 34 (nt (w + 1))) 70 39 0) 70 40 0) 70 35 0 r = M0 r := fun r q1 q2 => by rw [wrI_ne q1, wrI_ne q1, wrI_ne q1, wrI_ne q1, upR_ne q2, wrI_ne q1]
  have cR : wrI (wrI (wrI (wrI (upR (wrI M0 70 3 (-1)) R (ovr 84 (wrI M0 70 3 (-1) 534) (wrI M0 70 3 (-1) R))) 70 34 (nt (w + 1))) 70 39 0) 70 40 0) 70 35 0 R = ovr 84 (M0 534) (M0 R) := by rw [wrI_ne (by omega), wrI_ne (by omega), wrI_ne (by omega), wrI_ne (by omega), upR_same, wrI_ne (by decide), wrI_ne (by omega)]
  have c2 : ∀ i, i ≠ 3 → i ≠ 34 → i ≠ 35 → i ≠ 39 → i ≠ 40 → wrI (wrI (wrI (wrI (upR (wrI M0 70 3 (-1)) R (ovr 84 (wrI M0 70 3 (-1) 534) (wrI M0 70 3 (-1) R))) 70 34 (nt (w + 1))) 70 39 0) 70 40 0) 70 35 0 70 i = M0 70 i := fun i q3 q34 q35 q39 q40 => by rw [wr_k q35, wr_k q40, wr_k q39, wr_k q34, upR_ne (by omega), wr_k q3]
  have c3 : wrI (wrI (wrI (wrI (upR (wrI M0 70 3 (-1)) R (ovr 84 (wrI M0 70 3 (-1) 534) (wrI M0 70 3 (-1) R))) 70 34 (nt (w + 1))) 70 39 0) 70 40 0) 70 35 0 70 3 = -1 := by rw [wr_k (by decide), wr_k (by decide), wr_k (by decide), wr_k (by decide), upR_ne (by omega), wr_eq]
  have c34 : wrI (wrI (wrI (wrI (upR (wrI M0 70 3 (-1)) R (ovr 84 (wrI M0 70 3 (-1) 534) (wrI M0 70 3 (-1) R))) 70 34 (nt (w + 1))) 70 39 0) 70 40 0) 70 35 0 70 34 = nt (w + 1) := by rw [wr_k (by decide), wr_k (by decide), wr_k (by decide), wr_eq]
  have c39 : wrI (wrI (wrI (wrI (upR (wrI M0 70 3 (-1)) R (ovr 84 (wrI M0 70 3 (-1) 534) (wrI M0 70 3 (-1) R))) 70 34 (nt (w + 1))) 70 39 0) 70 40 0) 70 35 0 70 39 = 0 := by rw [wr_k (by decide), wr_k (by decide), wr_eq]
  have c40 : wrI (wrI (wrI (wrI (upR (wrI M0 70 3 (-1)) R (ovr 84 (wrI M0 70 3 (-1) 534) (wrI M0 70 3 (-1) R))) 70 34 (nt (w + 1))) 70 39 0) 70 40 0) 70 35 0 70 40 = 0 := by rw [wr_k (by decide), wr_eq]
  have c35 : wrI (wrI (wrI (wrI (upR (wrI M0 70 3 (-1)) R (ovr 84 (wrI M0 70 3 (-1) 534) (wrI M0 70 3 (-1) R))) 70 34 (nt (w + 1))) 70 39 0) 70 40 0) 70 35 0 70 35 = 0 := by rw [wr_eq]
  generalize wrI (wrI (wrI (wrI (upR (wrI M0 70 3 (-1)) R (ovr 84 (wrI M0 70 3 (-1) 534) (wrI M0 70 3 (-1) R))) 70 34 (nt (w + 1))) 70 39 0) 70 40 0) 70 35 0 = M2 at *
  have dJ : ∀ r, r ≠ 70 → (r < 454 ∨ 533 < r) → r ≠ R → M2 r = J r := fun r q1 q2 q3 => by rw [c1 r q1 q3, b1 r q1 q2]
  have dK : ∀ i, 9 ≤ i → i ≠ 27 → i ≠ 34 → i ≠ 35 → i ≠ 39 → i ≠ 40 → M2 70 i = J 70 i := fun i q9 q27 q34 q35 q39 q40 => by rw [c2 i (by omega) q34 q35 q39 q40, b2 i (by omega) (by omega) (by omega) (by omega) (by omega) (by omega) (by omega) q27, wr_k (by omega)]
  have hMI2 : MI M2 := by
    have ok : okc (fun a => decide (538 ≤ a ∧ a ≤ 553)) (fun k => k == 1 || (k == 3 || (k == 34 || k == 35))) J M2 := by
      refine ⟨fun a e1 e2 e3 e4 e5 => ?_, fun k e1 e2 => ?_⟩
      · rw [decide_eq_false_iff_not] at e1
        unfold scrR at e2
        rw [decide_eq_false_iff_not] at e2
        exact dJ a e3 (by omega) (by omega)
      · simp only [Bool.or_eq_false_iff, beq_eq_false_iff_ne] at e1
        have h9 : 9 ≤ k ∧ k ≠ 27 ∧ k ≠ 39 ∧ k ≠ 40 := by
          have : ∀ k, k < 41 → k < 9 ∨ k = 27 ∨ k = 39 ∨ k = 40 → k ≠ 1 → k ≠ 3 → vis 70 k = false := by decide
          by_cases hk : k < 41
          · by_cases hc : k < 9 ∨ k = 27 ∨ k = 39 ∨ k = 40
            · rw [this k hk hc e1.1 e1.2.1] at e2
              exact absurd e2 (by decide)
            · omega
          · omega
        exact dK k h9.1 h9.2.1 e1.2.2.1 e1.2.2.2 h9.2.2.1 h9.2.2.2
    exact kM ok (by decide +kernel) rfl hMI
  have e12 : M2 12 = J 12 := dJ 12 (by decide) (by decide) (by omega)
  have hphi : phR M2 = phR J := phR_cg e12 (dJ 13 (by decide) (by decide) (by omega)) (dJ 15 (by decide) (by decide) (by omega)) (dJ 24 (by decide) (by decide) (by omega)) (dJ 25 (by decide) (by decide) (by omega))
  have es : sI J = sI M2 := by unfold sI; rw [e12]
  have ec : cI J = cI M2 := by unfold cI; rw [e12]
  have hmem : ∀ r, r < 80 → ∀ k, τ.2 0 r = some k → RwM (M2 (454 + r)) (fun j => τ.2 j r) k := fun r hr k hk => by rw [c1 (454 + r) (by omega) (by omega), b454 (454 + r) (by omega) (by omega)]; exact hW.2.2 r hr k hk
  have d27 : M2 70 27 = nt τ.1 := by rw [c2 27 (by decide) (by decide) (by decide) (by decide) (by decide)]; exact b27
  simp (config := {decide := true}) only [r252_159, r252_160, r252_161, r252_162, r252_165, if_true, if_false, Nat.reduceAdd, Int32.reduceToNatClampNeg, lo_i, lo_r, lo_n, kont_v, kont_n, List.length_nil, List.length_cons, d27]
  refine m251 (d := d + 18) (s := (f0, 0, 0, 0)) hMI2 es ec hs7 hc6 hmem hok h30 (Nat.zero_le 200) (kRO e12 hro) ⟨fun _ _ _ _ _ _ => rfl, fun _ _ _ _ _ => rfl, by rw [dJ 534 (by decide) (by decide) (by omega)]; exact h534, c39, c40, c35⟩ (fun K3 hE => kont_n.mpr ?_)
  rw [hphi] at hE
  obtain ⟨a1, a2, a3, a4, a5, a6⟩ := hE
  simp (config := {decide := true}) only [r252_168, r252_169, r252_172, if_true, if_false, Nat.reduceAdd, Int32.reduceToNatClampNeg, lo_i, lo_r, lo_n, kont_v, kont_n, List.length_nil, List.length_cons, a5]
  refine h _ (fun r q1 q2 q3 => ?_) ?_ a3 (fun k hk => ?_) ?_ ?_ ?_ ?_ a6 (fun i q9 q27 q34 q35 q38 q39 q40 => ?_)
  · rw [a1 r q1 (by omega) (by omega) (by omega) (by omega), dJ r q1 (by omega) (by omega)]
  · rw [a1 535 (by decide) (by decide) (by decide) (by decide) (by decide), dJ 535 (by decide) (by decide) (by omega)]
  · rw [eR2, a1 R (by omega) (by omega) (by omega) (by omega) (by omega), cR, ovr_lt hk, b1 534 (by decide) (by decide)]
  · rw [a2 0 (by decide) (by decide) (by decide) (by decide), c2 0 (by decide) (by decide) (by decide) (by decide) (by decide)]; exact b0
  · rw [a2 1 (by decide) (by decide) (by decide) (by decide), c2 1 (by decide) (by decide) (by decide) (by decide) (by decide)]; exact b1'
  · rw [a2 3 (by decide) (by decide) (by decide) (by decide)]; exact c3
  · rw [a2 34 (by decide) (by decide) (by decide) (by decide)]; exact c34
  · rw [a2 i q35 q38 q39 q40]; exact dK i q9 q27 q34 q35 q39 q40
end Wq

