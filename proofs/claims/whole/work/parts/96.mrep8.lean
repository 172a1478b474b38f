/-! A REPUBLIC: the reference's call -/
section Na
variable {d n x N z : Nat} {B : Nat → Int32} {Φ : POut → PM → Prop} {I J K G : Nat → Nat → Int32} {L : Nat → Nat → Int64} {v : Int32} {τ : RSt}
theorem m219p (hz : J 70 1 = nt z) (hzz : z ≤ 600) (hN : N ≤ z) (h71 : ∀ i, i < N → J 71 i = B i) (hB : ∀ i, i < N → 0 ≤ B i ∧ B i < 256) (h : ∀ J' K', MB (stM (wrI J 70 0 0) (nt N)) J' → Rm J' sg0r → J' 70 7 = nt 0 → MT J' K' N (.inl (skp B N 0)) → wp (d + 12) 219 42 [.ref (70 : Nat), .int (nt N)] [] (mk n K' L x) Φ) : wpc (d + 12) 219 [.ref (70 : Nat), .int (nt N)] (mk n J L x) Φ := by
  have e1 : wrI J 70 0 0 70 1 = nt z := by rw [wr_k (by decide)]; exact hz
  have e2 : (0 : Int32) ≤ nt N ∧ nt N ≤ nt z := ⟨nt_ge (by omega), by rw [nt_le (by omega) (by omega)]; exact hN⟩
  have e4 : wrI J 70 0 0 70 0 = 0 := wr_eq
  have e71 : ∀ i, i < N → wrI J 70 0 0 71 i = B i := fun i hi => by rw [wrI_ne (by decide)]; exact h71 i hi
  have m193' := m193 (d := d + 11) (n := n) (L := L) (x := x) (I := wrI J 70 0 0) (b := 0) (t := 1) (e := 1) (Φ := kont (d + 11) 219 25 3 [.ref (70 : Nat), .int (nt N)] [] Φ) e4 (by decide) (by decide)
  rw [show nt 1 = (1 : Int32) from rfl] at m193'
  have h7 : stM (wrI J 70 0 0) (nt N) 70 7 = nt 0 := by unfold stM; rw [wr_k (by decide), wr_eq]; rfl
  show wp (d + 12) 219 0 [.ref (70 : Nat), .int (nt N)] [] (mk n J L x) Φ
  simp (config := {decide := true}) only [r219_0, r219_1, r219_2, r219_5, r219_6, r219_7, r219_8, r219_9, r219_12, r219_15, r219_18, r219_19, r219_22, r219_23, r219_24, r219_25, r219_28, r219_31, r219_32, r219_33, r219_34, r219_35, r219_38, r219_39, if_true, if_false, Nat.reduceAdd, Int32.reduceToNatClampNeg, lo_i, lo_r, lo_n, kont_v, kont_n, List.length_nil, List.length_cons, and_self, and_true, true_and, and_false, false_and, not_true, not_false_eq_true, true_or, or_true, bi_eq0, e1, m194, e2, m193', m212 (show N ≤ 600 by omega) e71 hB]
  exact m191 MB_refl h7 (mtX_ok (endF_le (Nat.zero_le N))) (fun J' K' a1 a2 a3 a4 => kont_n.mpr (h J' K' a1 a2 a3 a4))
theorem m219x (hv : ¬ (0 ≤ v ∧ v ≤ J 70 1)) : wpc (d + 12) 219 [.ref (70 : Nat), .int v] (mk n J L x) Φ ↔ Φ (.inl (some (.int 0))) (mk n (wrI (wrI (wrI J 70 0 0) 70 0 1) 72 1 (J 72 1 + 1)) L x) := by
  have e1 : wrI J 70 0 0 70 1 = J 70 1 := wr_k (by decide)
  have e4 : wrI J 70 0 0 70 0 = 0 := wr_eq
  have e72 : wrI J 70 0 0 72 1 = J 72 1 := by rw [wrI_ne (by decide)]
  have m193' := m193 (d := d + 11) (n := n) (L := L) (x := x) (I := wrI J 70 0 0) (b := 1) (t := 1) (e := 1) (Φ := kont (d + 11) 219 25 3 [.ref (70 : Nat), .int v] [] Φ) e4 (by decide) (by decide)
  rw [show nt 1 = (1 : Int32) from rfl] at m193'
  show wp (d + 12) 219 0 [.ref (70 : Nat), .int v] [] (mk n J L x) Φ ↔ _
  simp (config := {decide := true}) only [r219_0, r219_1, r219_2, r219_5, r219_6, r219_7, r219_8, r219_9, r219_12, r219_15, r219_18, r219_19, r219_22, r219_23, r219_24, r219_25, r219_28, r219_31, r219_32, if_true, if_false, Nat.reduceAdd, Int32.reduceToNatClampNeg, lo_i, lo_r, lo_n, kont_v, kont_n, List.length_nil, List.length_cons, and_self, and_true, true_and, and_false, false_and, not_true, not_false_eq_true, true_or, or_true, bi_eq0, e1, m194, hv, m193', e72]
theorem m219b (hz : J 70 1 = nt z) (hzz : z ≤ 600) (hN : N ≤ z) (h71 : ∀ i, i < N → J 71 i = B i) (hB : ∀ i, i < N → 0 ≤ B i ∧ B i < 256) {e : Nat × Nat} (hr : rRp B N 61 0 sg0r 0 = .inr e) (h : ∀ K, (∀ r, r ≠ 70 → mset r = false → K r = J r) → K 70 0 = 0 → K 70 1 = 0 → K 70 3 = nt e.2 → (∀ i, 9 ≤ i → K 70 i = J 70 i) → Φ (.inl (some (.int (nt e.1 - 10)))) (mk n K L x)) : wpc (d + 12) 219 [.ref (70 : Nat), .int (nt N)] (mk n J L x) Φ := by
  have hX : MX (stM (wrI J 70 0 0) (nt N)) N B := stM_X (by omega) (fun i hi => by rw [wrI_ne (by decide)]; exact h71 i hi) hB
  refine m219p hz hzz hN h71 hB (fun J' K' a1 a2 a3 a4 => ?_)
  refine m219L (d := d + 6) hX 61 0 sg0r (skp B N 0) J' K' rfl (Nat.zero_le 60) (Nat.zero_le 7) (Nat.zero_le 6) a1 a2 a3 a4 skp_skp ?_ ?_
  · intro τ2 p2 hr2
    rw [rRp_skp, hr] at hr2
    cases hr2
  · intro e2 hr2 J2 K2 hM2 hK2
    rw [rRp_skp, hr] at hr2
    cases hr2
    obtain ⟨h0, h9, b1, hb1, rfl⟩ := hK2
    have hk := kf h0 h9
    simp (config := {decide := true}) only [r219_71, r219_72, r219_75, r219_78, r219_79, r219_82, if_true, if_false, Nat.reduceAdd, Int32.reduceToNatClampNeg, lo_i, lo_r, lo_n, kont_v, kont_n, List.length_nil, List.length_cons, mS_5, hk, m213]
    refine h _ (fun r h3 h4 => ?_) ?_ ?_ ?_ ?_
    · rw [mS_ne h3, wrI_ne h3, hM2.1 r h3 h4, stM_ne h3, wrI_ne h3]
    · rw [mS_o (by decide) (by decide) (by decide), wr_k (by decide), hM2.2 0 (by decide), stM_o (by decide) (by decide) (by decide) (by decide), wr_eq]
    · rw [mS_o (by decide) (by decide) (by decide), wr_k (by decide), hM2.2 1 (by decide)]
      unfold stM
      rw [wr_k (by decide), wr_k (by decide), wr_k (by decide), wr_eq]
    · rw [mS_o (by decide) (by decide) (by decide), wr_eq]
    · intro i g9
      rw [mS_o (by omega) (by omega) (by omega), wr_k (by omega), hM2.2 i (by omega), stM_o (by omega) (by omega) (by omega) (by omega), wr_k (by omega)]
end Na

