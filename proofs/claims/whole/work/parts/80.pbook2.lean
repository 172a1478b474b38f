/-! A BOOK: the reference, and both -/
section Pc
variable {d n x N S m z : Nat} {B : Nat → Int32} {μ : PM} {Φ : POut → PM → Prop} {I J K : Nat → Nat → Int32} {L : Nat → Nat → Int64} {v w c p k f q lo hi : Int32} {g : Nat → Int32} {s : Nat → Nat} {b : Nat → Bool} {t : LSt} {a : Nat}
/-- how the reference begins -/
theorem m235p (hz : J 70 1 = nt z) (hzz : z ≤ 600) (hN : N ≤ z) (h60 : N ≤ 60) (h71 : ∀ i, i < N → J 71 i = B i) (hB : ∀ i, i < N → 0 ≤ B i ∧ B i < 256) (h : wp (d + 12) 235 48 [.ref (70 : Nat), .int (nt N), .int 0, .int 0, noV, noV, noV] [] (mk n (mS (stM (wrI J 70 0 0) (nt N)) (nt (skp B N 0)) 0 (-1)) L x) Φ) : wpc (d + 12) 235 [.ref (70 : Nat), .int (nt N)] (mk n J L x) Φ := by
  have e1 : wrI J 70 0 0 70 1 = nt z := by rw [wr_k (by decide)]; exact hz
  have e2 : (0 : Int32) ≤ nt N ∧ nt N ≤ nt z := ⟨nt_ge (by omega), by rw [nt_le (by omega) (by omega)]; exact hN⟩
  have e3 : nt N ≤ 60 := by rw [show (60 : Int32) = nt 60 from rfl, nt_le (by omega) (by decide)]; exact h60
  have e4 : wrI J 70 0 0 70 0 = 0 := wr_eq
  have e71 : ∀ i, i < N → wrI J 70 0 0 71 i = B i := fun i hi => by rw [wrI_ne (by decide)]; exact h71 i hi
  have m193' := m193 (d := d + 11) (n := n) (L := L) (x := x) (I := wrI J 70 0 0) (b := 0) (t := 1) (e := 1) (Φ := kont (d + 11) 235 31 3 [.ref (70 : Nat), .int (nt N), noV, noV, noV, noV, noV] [] Φ) e4 (by decide) (by decide)
  rw [show nt 1 = (1 : Int32) from rfl] at m193'
  show wp (d + 12) 235 0 [.ref (70 : Nat), .int (nt N), noV, noV, noV, noV, noV] [] (mk n J L x) Φ
  simp (config := {decide := true}) only [r235_0, r235_1, r235_2, r235_5, r235_6, r235_7, r235_8, r235_9, r235_12, r235_15, r235_18, r235_19, r235_21, r235_24, r235_25, r235_28, r235_29, r235_30, r235_31, r235_34, r235_37, r235_38, r235_39, r235_40, r235_41, r235_44, r235_45, r235_46, r235_47, if_true, if_false, Nat.reduceAdd, Int32.reduceToNatClampNeg, lo_i, lo_r, lo_n, kont_v, kont_n, List.length_nil, List.length_cons, and_self, and_true, true_and, and_false, false_and, not_true, not_false_eq_true, true_or, or_true, bi_eq0, e1, m194, e2, e3, m193', m212 (show N ≤ 600 by omega) e71 hB]
  exact h
theorem m235a (hz : J 70 1 = nt z) (hzz : z ≤ 600) (hN : N ≤ z) (h60 : N ≤ 60) (h71 : ∀ i, i < N → J 71 i = B i) (hB : ∀ i, i < N → 0 ≤ B i ∧ B i < 256) (hS : S ≤ 7) (h74 : J 74 0 = nt S) {p' : Nat} (hr : rBk B N S 8 (0, sb0) 0 = .inl ((m, s, b), p')) (h : ∀ K, (∀ r, r ≠ 70 → (r < 436 ∨ 450 < r) → K r = J r) → (∀ k, k < m → K (436 + k) 0 = nt (s k) ∧ K (436 + k) 1 = if b k then 1 else 0) → K 70 0 = 0 → K 70 1 = 0 → K 70 3 = -1 → K 70 33 = nt m → (∀ i, 9 ≤ i → i ≠ 33 → K 70 i = J 70 i) → Φ (.inl (some (.int (nt m)))) (mk n K L x)) : wpc (d + 12) 235 [.ref (70 : Nat), .int (nt N)] (mk n J L x) Φ := by
  have hX : MX (stM (wrI J 70 0 0) (nt N)) N B := stM_X (by omega) (fun i hi => by rw [wrI_ne (by decide)]; exact h71 i hi) hB
  have hok := rBk_ok hS 8 (0, sb0) 0 _ _ ⟨fun k hk => absurd hk (by omega), fun k j hk => absurd hk (by omega)⟩ hr
  refine m235p hz hzz hN h60 h71 hB ?_
  have hb0 : ∀ r, r ≠ 70 → stM (wrI J 70 0 0) (nt N) r = J r := fun r h => by rw [stM_ne h, wrI_ne h]
  refine m235L (d := d + 9) hS (S := S) 8 0 sb0.1 sb0.2 (skp B N 0) (stM (wrI J 70 0 0) (nt N)) _ noV noV noV lo_n lo_n lo_n rfl ⟨fun k hk => absurd hk (by omega), fun k j hk => absurd hk (by omega)⟩ (by rw [hb0 74 (by decide)]; exact h74) (fun k hk => absurd hk (by omega)) hX (mtX_ok (endF_le (Nat.zero_le N))) skp_skp ?_ ?_
  · intro m' s' b' p2 hr2 I' K v4 v5 v6 n4 n5 n6 h1 h2 hK
    rw [rBk_skp, show ((0, sb0.1, sb0.2) : BS) = (0, sb0) from rfl, hr] at hr2
    cases hr2
    have hm7 := okB_7 (m := m) (s := s) hS (by
      have hsz : ∀ m', m' ≤ 7 ∨ 7 < m' := fun m' => by omega
      have := okB_7 (S := S) (m := min m 8) (s := s) hS (by omega) ⟨fun k hk => hok.1 k (by omega), fun k j hk hj => hok.2 k j (by omega) (by omega)⟩
      omega) hok
    have f5 : K 70 5 = 0 := MT_5 hK
    have s443 : sh0 n 443 = (22, 7, (sh0 n 443).2.2) := eq_of_heq HEq.rfl
    have s435' : sh0 n 435 = (22, 7, (sh0 n 435).2.2) := eq_of_heq HEq.rfl
    have ml := fun Ψ => m220 (d := d + 11) (n := n) (L := L) (x := x) (I := wrI (wrI K 70 3 (-1)) 70 33 (nt m)) (Φ := Ψ) (A := 443) (D := 435) (M := 7) (m := m) s443 s435' (fun k hk => ⟨s444 hk, s436 hk⟩) (by decide) (by decide) (by decide) hm7 (by decide)
    simp (config := {decide := true}) only [r235_168, r235_169, r235_172, r235_175, r235_176, r235_179, r235_180, r235_181, r235_182, r235_185, r235_186, r235_187, r235_190, r235_191, r235_194, r235_195, r235_198, r235_199, r235_202, r235_203, if_true, if_false, Nat.reduceAdd, Int32.reduceToNatClampNeg, lo_i, lo_r, lo_n, kont_v, kont_n, List.length_nil, List.length_cons, f5, ml]
    have i' : ∀ r, r ≠ 70 → (r < 444 ∨ 450 < r) → K r = J r := fun r h3 h4 => by rw [MT_ne hK h3, h1 r h4, hb0 r h3]
    have i70 : ∀ i, i ≠ 4 → i ≠ 5 → i ≠ 6 → i ≠ 3 → i ≠ 33 → foldN (layF 443 435) m (wrI (wrI K 70 3 (-1)) 70 33 (nt m)) 70 i = stM (wrI J 70 0 0) (nt N) 70 i := by
      intro i g4 g5 g6 g3 g33
      rw [lay_ne m (by omega), wr_k g33, wr_k g3, MT_o hK g4 g5 g6, h1 70 (by omega)]
    refine h _ (fun r h3 h4 => ?_) (fun k hk => ?_) ?_ ?_ ?_ ?_ ?_
    · rw [lay_ne m (by omega), wrI_ne h3, wrI_ne h3, i' r h3 (by omega)]
    · have := lay_at (A := 443) (D := 435) (I := wrI (wrI K 70 3 (-1)) 70 33 (nt m)) (by decide) m hm7 k hk
      have a0 := this 0 (by decide)
      have a1 := this 1 (by decide)
      rw [show 435 + 1 + k = 436 + k by omega, show 443 + 1 + k = 444 + k by omega, wrI_ne (by omega), wrI_ne (by omega), MT_ne hK (by omega)] at a0 a1
      rw [a0, a1]
      exact h2 k hk
    · rw [i70 0 (by decide) (by decide) (by decide) (by decide) (by decide), stM_o (by decide) (by decide) (by decide) (by decide), wr_eq]
    · rw [i70 1 (by decide) (by decide) (by decide) (by decide) (by decide)]
      unfold stM
      rw [wr_k (by decide), wr_k (by decide), wr_k (by decide), wr_eq]
    · rw [lay_ne m (by omega), wr_k (by decide), wr_eq]
    · rw [lay_ne m (by omega), wr_eq]
    · intro i g9 g33
      rw [i70 i (by omega) (by omega) (by omega) (by omega) g33, stM_o (by omega) (by omega) (by omega) (by omega), wr_k (by omega)]
  · intro e hr2
    rw [rBk_skp, show ((0, sb0.1, sb0.2) : BS) = (0, sb0) from rfl, hr] at hr2
    cases hr2
theorem m235b (hz : J 70 1 = nt z) (hzz : z ≤ 600) (hN : N ≤ z) (h60 : N ≤ 60) (h71 : ∀ i, i < N → J 71 i = B i) (hB : ∀ i, i < N → 0 ≤ B i ∧ B i < 256) (hS : S ≤ 7) (h74 : J 74 0 = nt S) {e : Nat × Nat} (hr : rBk B N S 8 (0, sb0) 0 = .inr e) (h : ∀ K, (∀ r, r ≠ 70 → (r < 444 ∨ 450 < r) → K r = J r) → K 70 0 = 0 → K 70 1 = 0 → K 70 3 = nt e.2 → (∀ i, 9 ≤ i → K 70 i = J 70 i) → Φ (.inl (some (.int (nt e.1 - 10)))) (mk n K L x)) : wpc (d + 12) 235 [.ref (70 : Nat), .int (nt N)] (mk n J L x) Φ := by
  have hX : MX (stM (wrI J 70 0 0) (nt N)) N B := stM_X (by omega) (fun i hi => by rw [wrI_ne (by decide)]; exact h71 i hi) hB
  refine m235p hz hzz hN h60 h71 hB ?_
  have hb0 : ∀ r, r ≠ 70 → stM (wrI J 70 0 0) (nt N) r = J r := fun r h => by rw [stM_ne h, wrI_ne h]
  refine m235L (d := d + 9) hS (S := S) 8 0 sb0.1 sb0.2 (skp B N 0) (stM (wrI J 70 0 0) (nt N)) _ noV noV noV lo_n lo_n lo_n rfl ⟨fun k hk => absurd hk (by omega), fun k j hk => absurd hk (by omega)⟩ (by rw [hb0 74 (by decide)]; exact h74) (fun k hk => absurd hk (by omega)) hX (mtX_ok (endF_le (Nat.zero_le N))) skp_skp ?_ ?_
  · intro m' s' b' p2 hr2
    rw [rBk_skp, show ((0, sb0.1, sb0.2) : BS) = (0, sb0) from rfl, hr] at hr2
    cases hr2
  · intro e2 hr2 I' K v2 v3 v4 v5 v6 n4 n5 n6 h1 hK
    rw [rBk_skp, show ((0, sb0.1, sb0.2) : BS) = (0, sb0) from rfl, hr] at hr2
    cases hr2
    obtain ⟨h0, h9, a1, ha1, rfl⟩ := hK
    have hk := kf h0 h9
    simp (config := {decide := true}) only [r235_168, r235_169, r235_172, r235_175, r235_176, r235_179, if_true, if_false, Nat.reduceAdd, Int32.reduceToNatClampNeg, lo_i, lo_r, lo_n, kont_v, kont_n, List.length_nil, List.length_cons, mS_5, hk, m213]
    refine h _ (fun r h3 h4 => ?_) ?_ ?_ ?_ ?_
    · rw [mS_ne h3, wrI_ne h3, h1 r h4, hb0 r h3]
    · rw [mS_o (by decide) (by decide) (by decide), wr_k (by decide), h1 70 (by omega), stM_o (by decide) (by decide) (by decide) (by decide), wr_eq]
    · rw [mS_o (by decide) (by decide) (by decide), wr_k (by decide), h1 70 (by omega)]
      unfold stM
      rw [wr_k (by decide), wr_k (by decide), wr_k (by decide), wr_eq]
    · rw [mS_o (by decide) (by decide) (by decide), wr_eq]
    · intro i g9
      rw [mS_o (by omega) (by omega) (by omega), wr_k (by omega), h1 70 (by omega), stM_o (by omega) (by omega) (by omega) (by omega), wr_k (by omega)]
theorem m235x (hv : ¬ (0 ≤ v ∧ v ≤ 60 ∧ v ≤ J 70 1)) : wpc (d + 12) 235 [.ref (70 : Nat), .int v] (mk n J L x) Φ ↔ Φ (.inl (some (.int 0))) (mk n (wrI (wrI (wrI J 70 0 0) 70 0 1) 72 1 (J 72 1 + 1)) L x) := by
  have e1 : wrI J 70 0 0 70 1 = J 70 1 := wr_k (by decide)
  have e4 : wrI J 70 0 0 70 0 = 0 := wr_eq
  have e72 : wrI J 70 0 0 72 1 = J 72 1 := by rw [wrI_ne (by decide)]
  have m193' := m193 (d := d + 11) (n := n) (L := L) (x := x) (I := wrI J 70 0 0) (b := 1) (t := 1) (e := 1) (Φ := kont (d + 11) 235 31 3 [.ref (70 : Nat), .int v, noV, noV, noV, noV, noV] [] Φ) e4 (by decide) (by decide)
  rw [show nt 1 = (1 : Int32) from rfl] at m193'
  show wp (d + 12) 235 0 [.ref (70 : Nat), .int v, noV, noV, noV, noV, noV] [] (mk n J L x) Φ ↔ _
  by_cases h1 : 0 ≤ v ∧ v ≤ J 70 1
  · have h2 : ¬ (v ≤ 60) := fun z => hv ⟨h1.1, z, h1.2⟩
    simp (config := {decide := true}) only [r235_0, r235_1, r235_2, r235_5, r235_6, r235_7, r235_8, r235_9, r235_12, r235_15, r235_18, r235_19, r235_21, r235_24, r235_25, r235_28, r235_29, r235_30, r235_31, r235_34, r235_37, r235_38, if_true, if_false, Nat.reduceAdd, Int32.reduceToNatClampNeg, lo_i, lo_r, lo_n, kont_v, kont_n, List.length_nil, List.length_cons, and_self, and_true, true_and, and_false, false_and, not_true, not_false_eq_true, true_or, or_true, bi_eq0, e1, m194, h1, h2, m193', e72]
  · simp (config := {decide := true}) only [r235_0, r235_1, r235_2, r235_5, r235_6, r235_7, r235_8, r235_9, r235_12, r235_15, r235_18, r235_19, r235_21, r235_24, r235_25, r235_28, r235_29, r235_30, r235_31, r235_34, r235_37, r235_38, if_true, if_false, Nat.reduceAdd, Int32.reduceToNatClampNeg, lo_i, lo_r, lo_n, kont_v, kont_n, List.length_nil, List.length_cons, and_self, and_true, true_and, and_false, false_and, not_true, not_false_eq_true, true_or, or_true, bi_eq0, e1, m194, h1, m193', e72]
end Pc

