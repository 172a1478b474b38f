/-! A REPUBLIC: the reference's call, taken -/
section Nb
variable {d n x N z : Nat} {B : Nat → Int32} {Φ : POut → PM → Prop} {I J K G : Nat → Nat → Int32} {L : Nat → Nat → Int64} {v : Int32} {τ : RSt}
theorem m219a (hz : J 70 1 = nt z) (hzz : z ≤ 600) (hN : N ≤ z) (h71 : ∀ i, i < N → J 71 i = B i) (hB : ∀ i, i < N → 0 ≤ B i ∧ B i < 256) {p' : Nat} (hr : rRp B N 61 0 sg0r 0 = .inl (τ, p')) (h : ∀ K, (∀ r, r ≠ 70 → r ≠ 534 → r ≠ 74 → mset r = false → (r < 84 ∨ 90 < r) → (r < 99 ∨ 104 < r) → K r = J r) → (K 74 0 = nt τ.1 ∧ K 74 1 = nt τ.2.1) → (∀ k, k < τ.1 → K (84 + k) 0 = nt (τ.2.2 0 k) ∧ K (84 + k) 1 = nt (τ.2.2 1 k)) → (∀ k, k < τ.2.1 → K (99 + k) 0 = nt (τ.2.2 2 k)) → (∀ j, j < 84 → K 534 j = if j = 81 then nt (τ.2.2 5 0) else fE (fun i => nt (τ.2.2 4 i)) (fun c => nt (τ.2.2 3 c)) τ.2.1 6 j) → (∀ j, 84 ≤ j → K 534 j = J 534 j) → (K 70 18 = 0 ∧ K 70 33 = 0 ∧ K 70 34 = 0 ∧ K 70 35 = 0 ∧ K 70 36 = 0) → K 70 0 = 0 → K 70 1 = 0 → K 70 3 = -1 → Φ (.inl (some (.int (nt τ.1)))) (mk n K L x)) : wpc (d + 12) 219 [.ref (70 : Nat), .int (nt N)] (mk n J L x) Φ := by
  have hX : MX (stM (wrI J 70 0 0) (nt N)) N B := stM_X (by omega) (fun i hi => by rw [wrI_ne (by decide)]; exact h71 i hi) hB
  refine m219p hz hzz hN h71 hB (fun J' K' a1 a2 a3 a4 => ?_)
  refine m219L (d := d + 6) hX 61 0 sg0r (skp B N 0) J' K' rfl (Nat.zero_le 60) (Nat.zero_le 7) (Nat.zero_le 6) a1 a2 a3 a4 skp_skp ?_ ?_
  · intro τ2 p2 hr2 J2 K2 hM2 hR2 hK2
    rw [rRp_skp, hr] at hr2
    cases hr2
    obtain ⟨⟨b1, b2⟩, -⟩ := rRp_ok 61 0 sg0r 0 τ p' okR_0 hr
    obtain ⟨⟨w1, w2, w3⟩, w4, w5, w6⟩ := hR2
    have f5 : K2 70 5 = 0 := MT_5 hK2
    have kr : ∀ r, r ≠ 70 → wrI K2 70 3 (-1) r = J2 r := fun r hr => by rw [wrI_ne hr, MT_ne hK2 hr]
    simp (config := {decide := true}) only [r219_71, r219_72, r219_75, r219_83, r219_84, r219_85, r219_88, r219_89, if_true, if_false, Nat.reduceAdd, Int32.reduceToNatClampNeg, lo_i, lo_r, lo_n, kont_v, kont_n, List.length_nil, List.length_cons, f5]
    refine m222 (sn := τ.1) (cn := τ.2.1) (w := nt (τ.2.2 5 0)) (nr := fun i => nt (τ.2.2 4 i)) (sp := fun c => nt (τ.2.2 3 c)) (by rw [kr 73 (by decide)]; exact w1) (by rw [kr 73 (by decide)]; exact w2) (by rw [kr 73 (by decide)]; exact w3) b1 b2 (fun s hs c hc => by rw [kr (106 + s) (by omega)]; exact w6 s hs c hc) (fun c hc => by rw [kr (92 + c) (by omega)]; exact (w5 c hc).2) (fun K3 c1 c2 c3 c4 c5 c6 c7 c8 => kont_n.mpr ?_)
    simp (config := {decide := true}) only [r219_92, r219_93, r219_96, r219_97, r219_98, if_true, if_false, Nat.reduceAdd, Int32.reduceToNatClampNeg, lo_i, lo_r, lo_n, kont_v, kont_n, List.length_nil, List.length_cons, s74, c2.1]
    have hb : ∀ i, i ≠ 4 → i ≠ 5 → i ≠ 6 → i ≠ 3 → i ≠ 7 → wrI K2 70 3 (-1) 70 i = stM (wrI J 70 0 0) (nt N) 70 i := fun i g4 g5 g6 g3 g7 => by rw [wr_k g3, MT_o hK2 g4 g5 g6, hM2.2 i g7]
    refine h K3 (fun r d1 d2 d3 d4 d5 d6 => ?_) c2 (fun k hk => ?_) (fun k hk => ?_) c5 (fun j hj => ?_) c7 ?_ ?_ ?_
    · rw [c1 r d1 d2 d3 d5 d6, kr r d1, hM2.1 r d1 d4, stM_ne d1, wrI_ne d1]
    · rw [c3 k hk 0 (by decide), c3 k hk 1 (by decide), kr (76 + k) (by omega)]; exact w4 k hk
    · rw [c4 k hk 0 (by decide), kr (92 + k) (by omega)]; exact (w5 k hk).1
    · rw [c6 j hj, kr 534 (by decide), hM2.1 534 (by decide) (by decide), stM_ne (by decide), wrI_ne (by decide)]
    · rw [c8 0 (by decide) (by decide) (by decide) (by decide) (by decide), hb 0 (by decide) (by decide) (by decide) (by decide) (by decide), stM_o (by decide) (by decide) (by decide) (by decide), wr_eq]
    · rw [c8 1 (by decide) (by decide) (by decide) (by decide) (by decide), hb 1 (by decide) (by decide) (by decide) (by decide) (by decide)]
      unfold stM
      rw [wr_k (by decide), wr_k (by decide), wr_k (by decide), wr_eq]
    · rw [c8 3 (by decide) (by decide) (by decide) (by decide) (by decide), wr_eq]
  · intro e2 hr2
    rw [rRp_skp, hr] at hr2
    cases hr2
end Nb

