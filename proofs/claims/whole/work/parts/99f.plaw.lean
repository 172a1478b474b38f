/-! A LAW: both sides -/
def lc0 : LCs := (0, fun _ => (0, 0))
section Lf
variable {d n x N z : Nat} {B : Nat → Int32} {Φ : POut → PM → Prop} {I J K G : Nat → Nat → Int32} {L : Nat → Nat → Int64} {v w q : Int32} {c : LCs} {S : Option LPs} {U V : LPs}
theorem LM_self : LM I I = I := by
  funext r
  unfold LM
  split <;> rfl
theorem c29 (hT : TX I N) (hG : SG I 1 wd1) (hN : N ≤ 150) (hJ : CT I J N (.inl 0)) (hok : ∀ c' p', rLw (I 11) N lc0 = .inl (c', p') → ∀ G' K, Lc G' c' → CT (LM I G') K N (.inl p') → Φ (.inl none) (mk n K L x)) (hbad : ∀ e, rLw (I 11) N lc0 = .inr e → ∀ G' K, CT (LM I G') K N (.inr e) → Φ (.inl none) (mk n K L x)) : wpc (d + 33) 29 [.ref (28 : Nat), .ref (10 : Nat)] (mk n J L x) Φ := by
  have h30 : CUn n I N (d + 32) 30 (nt 0) (rSm (I 11) N 6) := c30_all hT hG hN 6 0 d rfl
  have h11 : ∀ G, LM I G 11 = I 11 := fun G => LM_o (by decide)
  have hJ1 : CT (LM I I) J N (.inl 0) := by rw [LM_self]; exact hJ
  have hJ2 := CT_la (r := 28) (i := 3) (v := 0) hJ1 (by decide)
  show wp (d + 33) 29 0 [.ref (28 : Nat), .ref (10 : Nat)] [] (mk n J L x) Φ
  simp (config := {decide := true}) only [r29_0, r29_1, r29_2, r29_5, r29_6, r29_7, r29_8, if_true, if_false, Nat.reduceAdd, Int32.reduceToNatClampNeg, lo_i, lo_r, lo_n, kont_v, kont_n, List.length_nil, List.length_cons, k28]
  refine h30 _ _ _ _ _ lc0 0 ⟨by rw [upR_same, up_same]; rfl, fun k hk => absurd hk (Nat.not_lt_zero k)⟩ (Nat.le_refl 0) hJ2 (fun c1 p1 hf G1 K1 hm1 hK1 => kont_n.mpr ?_) (fun e hf G1 K1 hK1 => kont_n.mpr ?_)
  · simp (config := {decide := true}) only [r29_11, r29_12, if_true, if_false, Nat.reduceAdd, Int32.reduceToNatClampNeg, lo_i, lo_r, lo_n, kont_v, kont_n, List.length_nil, List.length_cons]
    refine c99 (TX_lm hT) hK1 (fun K2 hK2 => kont_n.mpr ?_)
    simp (config := {decide := true}) only [r29_15, if_true, if_false, Nat.reduceAdd, Int32.reduceToNatClampNeg, lo_i, lo_r, lo_n, kont_v, kont_n, List.length_nil, List.length_cons]
    rw [h11] at hK2
    by_cases he : cur (I 11) N (skp (I 11) N p1) = -1
    · have hr : rLw (I 11) N lc0 = .inl (c1, skp (I 11) N p1) := by unfold rLw; rw [hf]; simp only [if_pos he]
      rcases hK2 with hK2 | ⟨a, ha, -, hK2⟩
      · simp only [lSig, if_pos he] at hK2
        have h1 : skp (I 11) N p1 + 1 ≤ N := hK2.1
        unfold cur at he
        rw [if_pos (by omega)] at he
        have h2 := (hT.2.2 (skp (I 11) N p1) (by omega)).1
        rw [he] at h2
        exact absurd h2 (by decide)
      · cases ha
        exact hok _ _ hr G1 K2 hm1 hK2
    · rcases hK2 with hK2 | ⟨a, ha, hc, -⟩
      · simp only [lSig, if_neg he] at hK2
        exact hbad _ (by unfold rLw; rw [hf]; simp only [if_neg he]) G1 K2 hK2
      · cases ha
        exact absurd hc he
  · simp (config := {decide := true}) only [r29_11, r29_12, if_true, if_false, Nat.reduceAdd, Int32.reduceToNatClampNeg, lo_i, lo_r, lo_n, kont_v, kont_n, List.length_nil, List.length_cons]
    refine c99 (TX_lm hT) hK1 (fun K2 hK2 => kont_n.mpr ?_)
    simp (config := {decide := true}) only [r29_15, if_true, if_false, Nat.reduceAdd, Int32.reduceToNatClampNeg, lo_i, lo_r, lo_n, kont_v, kont_n, List.length_nil, List.length_cons]
    rcases hK2 with hK2 | ⟨a, ha, -⟩
    · exact hbad e (by unfold rLw; rw [hf]) G1 K2 hK2
    · cases ha
theorem c28 (h : ∀ J', (∀ r, r ≠ 24 → r ≠ 25 → J' r = J r) → J' 24 3 = J 28 3 → (∀ k, k < 150 → J' 25 k = J 29 k) → Φ (.inl none) (mk n J' L x)) : wpc d 28 [.ref (24 : Nat), .ref (28 : Nat)] (mk n J L x) Φ := by
  have k24 : K4 24 := Or.inl rfl
  have a0 : sh0 n 25 = (20, 150, []) := sh4a k24
  have a6 : sh0 n 29 = (20, 150, []) := sh4a k28
  have e9' : (150 : Int32).toNatClampNeg = 150 := rfl
  have e28 : cpI J 29 0 25 0 150 28 = J 28 := by unfold cpI; exact upR_ne (by decide)
  show wp d 28 0 [.ref (24 : Nat), .ref (28 : Nat)] [] (mk n J L x) Φ
  simp (config := {decide := true}) only [r28_0, r28_1, r28_4, r28_5, r28_6, r28_9, r28_10, r28_13, r28_16, r28_17, r28_18, r28_21, r28_24, if_true, if_false, Nat.reduceAdd, Int32.reduceToNatClampNeg, lo_i, lo_r, lo_n, kont_v, kont_n, List.length_nil, List.length_cons, k24, k28, a0, a6, true_or, e9', e28]
  refine h _ (fun r h1 h2 => ?_) ?_ (fun k hk => ?_)
  · simp only [cpI]; rw [wrI_ne h1, upR_ne h2]
  · rw [wr_eq]
  · simp (config := {decide := true}) only [cpI, wrI, upR_same, upR_ne, ne_eq, not_false_eq_true]
    rw [cpy_at (by omega), Nat.zero_add, Nat.sub_zero]
theorem c133a (hx : x + 1 ≤ 600) (hI : LI I) (hz : I 10 1 = nt z) (hzz : z ≤ 600) (hN : N ≤ z) (h150 : N ≤ 150) {p' : Nat} (hr : rLw (I 11) N lc0 = .inl (c, p')) (hc : c.1 ≤ 150) (h : ∀ J, (∀ r, r ≠ 10 → r ≠ 24 → r ≠ 25 → r ≠ 28 → r ≠ 29 → J r = I r) → J 24 3 = nt c.1 → (∀ k, k < c.1 → J 25 k = nt (sgn (c.2 k))) → J 10 1 = 0 → J 10 6 = -1 → Φ (.inl (some (.int 1))) (mk n J L x)) : wpc (d + 34) 133 [.ref (9 : Nat), .int (nt N)] (mk n I L x) Φ := by
  obtain ⟨hT, h701, h71, hB⟩ := it_x hI.1 hz hzz hN
  have k24 : K4 24 := Or.inl rfl
  have hin : (0 : Int32) ≤ nt N ∧ nt N ≤ 150 ∧ nt N ≤ I 10 1 := ⟨nt_ge (by omega), by rw [show (150 : Int32) = nt 150 from rfl, nt_le (by omega) (by decide)]; exact h150, by rw [hz, nt_le (by omega) (by omega)]; exact hN⟩
  have hG : SG (wrI I 10 2 (nt N)) 1 wd1 := by
    obtain ⟨g1, g2, g3, g4, g5⟩ := sg1 hI.1.2.2.2.2.2.2.2.1
    exact ⟨g1, by rw [wrI_ne (by decide)]; exact g2, g3, g4, by rw [wrI_ne (by decide)]; exact g5⟩
  show wp (d + 34) 133 0 [.ref (9 : Nat), .int (nt N)] [] (mk n I L x) Φ
  simp (config := {decide := true}) only [r133_0, r133_1, r133_2, r133_5, r133_8, r133_9, r133_12, r133_13, r133_16, if_true, if_false, Nat.reduceAdd, Int32.reduceToNatClampNeg, lo_i, lo_r, lo_n, kont_v, kont_n, List.length_nil, List.length_cons, c175 hx, hin, k28]
  refine c29 hT hG h150 (ct_ok (a := 0) rfl (Nat.zero_le N)) ?_ ?_
  · intro c2 p2 hr2 G K hm hK
    rw [wrI_ne (by decide), hr] at hr2
    cases hr2
    have e0 : flt (.inl p') = 0 := rfl
    have k5 : K 10 5 = 0 ∧ K 10 6 = -1 := by
      obtain ⟨hp, s1, q1, hq1, rfl⟩ := hK
      exact ⟨tS_5, by rw [tS_6]; exact hq1⟩
    have kI : ∀ r, r ≠ 10 → (r < 28 ∨ 29 < r) → K r = I r := fun r h1 h2 => by rw [CT_ne hK h1, LM_o h2, wrI_ne h1]
    have kG : ∀ r, 28 ≤ r → r ≤ 29 → K r = G r := fun r h1 h2 => by rw [CT_ne hK (by omega), LM_i ⟨h1, h2⟩]
    refine kont_n.mpr ?_
    simp (config := {decide := true}) only [r133_19, r133_20, r133_23, r133_26, r133_29, r133_30, r133_33, r133_34, r133_37, if_true, if_false, Nat.reduceAdd, Int32.reduceToNatClampNeg, lo_i, lo_r, lo_n, kont_v, kont_n, List.length_nil, List.length_cons, c95t hK, e0, k24, k28]
    refine c28 (fun J2 a1 a2 a3 => kont_n.mpr ?_)
    have j10 : J2 10 = K 10 := a1 10 (by decide) (by decide)
    have j5 : J2 10 5 = 0 := by rw [j10]; exact k5.1
    simp (config := {decide := true}) only [r133_40, r133_41, r133_42, r133_45, if_true, if_false, Nat.reduceAdd, Int32.reduceToNatClampNeg, lo_i, lo_r, lo_n, kont_v, kont_n, List.length_nil, List.length_cons, c176g, j5]
    refine h _ (fun r h1 h2 h3 h4 h5 => ?_) ?_ (fun k hk => ?_) ?_ ?_
    · rw [wrI_ne h1, a1 r h2 h3, kI r h1 (by omega)]
    · rw [wrI_ne (by decide), a2, kG 28 (by decide) (by decide)]; exact hm.1
    · rw [wrI_ne (by decide), a3 k (by omega), kG 29 (by decide) (by decide)]; exact hm.2 k hk
    · rw [wr_eq]
    · rw [wr_k (by decide), j10]; exact k5.2
  · intro e hr2
    rw [wrI_ne (by decide), hr] at hr2
    cases hr2
theorem c133b (hx : x + 1 ≤ 600) (hI : LI I) (hz : I 10 1 = nt z) (hzz : z ≤ 600) (hN : N ≤ z) (h150 : N ≤ 150) {e : Nat × Nat} (hr : rLw (I 11) N lc0 = .inr e) (h : e.1 ≠ 0 → e.1 < 10 → ∀ J, (∀ r, r ≠ 10 → r ≠ 28 → r ≠ 29 → J r = I r) → J 10 1 = 0 → J 10 6 = nt e.2 → Φ (.inl (some (.int (nt e.1 - 10)))) (mk n J L x)) : wpc (d + 34) 133 [.ref (9 : Nat), .int (nt N)] (mk n I L x) Φ := by
  obtain ⟨hT, h701, h71, hB⟩ := it_x hI.1 hz hzz hN
  have hin : (0 : Int32) ≤ nt N ∧ nt N ≤ 150 ∧ nt N ≤ I 10 1 := ⟨nt_ge (by omega), by rw [show (150 : Int32) = nt 150 from rfl, nt_le (by omega) (by decide)]; exact h150, by rw [hz, nt_le (by omega) (by omega)]; exact hN⟩
  have hG : SG (wrI I 10 2 (nt N)) 1 wd1 := by
    obtain ⟨g1, g2, g3, g4, g5⟩ := sg1 hI.1.2.2.2.2.2.2.2.1
    exact ⟨g1, by rw [wrI_ne (by decide)]; exact g2, g3, g4, by rw [wrI_ne (by decide)]; exact g5⟩
  show wp (d + 34) 133 0 [.ref (9 : Nat), .int (nt N)] [] (mk n I L x) Φ
  simp (config := {decide := true}) only [r133_0, r133_1, r133_2, r133_5, r133_8, r133_9, r133_12, r133_13, r133_16, if_true, if_false, Nat.reduceAdd, Int32.reduceToNatClampNeg, lo_i, lo_r, lo_n, kont_v, kont_n, List.length_nil, List.length_cons, c175 hx, hin, k28]
  refine c29 hT hG h150 (ct_ok (a := 0) rfl (Nat.zero_le N)) ?_ ?_
  · intro c2 p2 hr2
    rw [wrI_ne (by decide), hr] at hr2
    cases hr2
  · intro e2 hr2 G K hK
    rw [wrI_ne (by decide), hr] at hr2
    cases hr2
    obtain ⟨h0, h1, a1, s1, ha1, rfl⟩ := id hK
    have e0 : ¬ flt (.inr e) = 0 := h0
    have hk := kf h0 h1
    refine kont_n.mpr ?_
    simp (config := {decide := true}) only [r133_19, r133_20, r133_23, r133_26, r133_40, r133_41, r133_42, r133_45, if_true, if_false, Nat.reduceAdd, Int32.reduceToNatClampNeg, lo_i, lo_r, lo_n, kont_v, kont_n, List.length_nil, List.length_cons, c95t hK, e0, c176, hk]
    refine h h0 h1 _ (fun r h1 h3 h4 => ?_) ?_ ?_
    · rw [tS_ne h1, wrI_ne h1, LM_o (by omega), wrI_ne h1]
    · rw [tS_1, wr_eq]
    · rw [tS_6]
theorem c133x (hx : x + 1 ≤ 600) (hv : ¬ (0 ≤ v ∧ v ≤ 150 ∧ v ≤ I 10 1)) : wpc (d + 34) 133 [.ref (9 : Nat), .int v] (mk n I L x) Φ ↔ Φ (.inr 2) (mk n (wrI I 9 17 (I 9 17 + 1)) L (x + 1)) := by
  show wp (d + 34) 133 0 [.ref (9 : Nat), .int v] [] (mk n I L x) Φ ↔ _
  simp (config := {decide := true}) only [r133_0, r133_1, r133_2, r133_5, if_true, if_false, Nat.reduceAdd, Int32.reduceToNatClampNeg, lo_i, lo_r, lo_n, kont_v, kont_n, List.length_nil, List.length_cons, c175 hx, hv, kx]
/-! the reference -/
theorem thn_skp {p : Nat} (h : U c (skp B N p) = U c p) : thn U V c (skp B N p) = thn U V c p := by unfold thn; rw [h]
theorem rSm_skp : ∀ h c p, rSm B N h c (skp B N p) = rSm B N h c p
  | 0, c, p => thn_skp (thn_skp rUn_skp)
  | h + 1, c, p => thn_skp (thn_skp rUn_skp)
theorem m230p (hz : J 70 1 = nt z) (hzz : z ≤ 600) (hN : N ≤ z) (h150 : N ≤ 150) (h71 : ∀ i, i < N → J 71 i = B i) (hB : ∀ i, i < N → 0 ≤ B i ∧ B i < 256) (h : wp (d + 34) 230 50 [.ref (70 : Nat), .int (nt N)] [] (mk n (mS (wrI (stM (wrI J 70 0 0) (nt N)) 70 19 0) (nt (skp B N 0)) 0 (-1)) L x) Φ) : wpc (d + 34) 230 [.ref (70 : Nat), .int (nt N)] (mk n J L x) Φ := by
  have e1 : wrI J 70 0 0 70 1 = nt z := by rw [wr_k (by decide)]; exact hz
  have e2 : (0 : Int32) ≤ nt N ∧ nt N ≤ nt z := ⟨nt_ge (by omega), by rw [nt_le (by omega) (by omega)]; exact hN⟩
  have e3 : nt N ≤ 150 := by rw [show (150 : Int32) = nt 150 from rfl, nt_le (by omega) (by decide)]; exact h150
  have e4 : wrI J 70 0 0 70 0 = 0 := wr_eq
  have e71 : ∀ i, i < N → wrI J 70 0 0 71 i = B i := fun i hi => by rw [wrI_ne (by decide)]; exact h71 i hi
  have m193' := m193 (d := d + 33) (n := n) (L := L) (x := x) (I := wrI J 70 0 0) (b := 0) (t := 1) (e := 1) (Φ := kont (d + 33) 230 32 3 [.ref (70 : Nat), .int (nt N)] [] Φ) e4 (by decide) (by decide)
  rw [show nt 1 = (1 : Int32) from rfl] at m193'
  show wp (d + 34) 230 0 [.ref (70 : Nat), .int (nt N)] [] (mk n J L x) Φ
  simp (config := {decide := true}) only [r230_0, r230_1, r230_2, r230_5, r230_6, r230_7, r230_8, r230_9, r230_12, r230_15, r230_18, r230_19, r230_22, r230_25, r230_26, r230_29, r230_30, r230_31, r230_32, r230_35, r230_38, r230_39, r230_40, r230_41, r230_42, r230_45, r230_46, r230_47, if_true, if_false, Nat.reduceAdd, Int32.reduceToNatClampNeg, lo_i, lo_r, lo_n, kont_v, kont_n, List.length_nil, List.length_cons, and_self, and_true, true_and, and_false, false_and, not_true, not_false_eq_true, true_or, or_true, bi_eq0, e1, m194, e2, e3, m193', m212 (show N ≤ 600 by omega) e71 hB, mS_w (show 19 ≠ 4 by decide) (show 19 ≠ 5 by decide) (show 19 ≠ 6 by decide)]
  exact h
theorem m230x (hv : ¬ (0 ≤ v ∧ v ≤ 150 ∧ v ≤ J 70 1)) : wpc (d + 34) 230 [.ref (70 : Nat), .int v] (mk n J L x) Φ ↔ Φ (.inl (some (.int 0))) (mk n (wrI (wrI (wrI J 70 0 0) 70 0 1) 72 1 (J 72 1 + 1)) L x) := by
  have e1 : wrI J 70 0 0 70 1 = J 70 1 := wr_k (by decide)
  have e4 : wrI J 70 0 0 70 0 = 0 := wr_eq
  have e72 : wrI J 70 0 0 72 1 = J 72 1 := by rw [wrI_ne (by decide)]
  have m193' := m193 (d := d + 33) (n := n) (L := L) (x := x) (I := wrI J 70 0 0) (b := 1) (t := 1) (e := 1) (Φ := kont (d + 33) 230 32 3 [.ref (70 : Nat), .int v] [] Φ) e4 (by decide) (by decide)
  rw [show nt 1 = (1 : Int32) from rfl] at m193'
  show wp (d + 34) 230 0 [.ref (70 : Nat), .int v] [] (mk n J L x) Φ ↔ _
  by_cases h1 : 0 ≤ v ∧ v ≤ J 70 1
  · have h2 : ¬ (v ≤ 150) := fun z => hv ⟨h1.1, z, h1.2⟩
    simp (config := {decide := true}) only [r230_0, r230_1, r230_2, r230_5, r230_6, r230_7, r230_8, r230_9, r230_12, r230_15, r230_18, r230_19, r230_22, r230_25, r230_26, r230_29, r230_30, r230_31, r230_32, r230_35, r230_38, r230_39, if_true, if_false, Nat.reduceAdd, Int32.reduceToNatClampNeg, lo_i, lo_r, lo_n, kont_v, kont_n, List.length_nil, List.length_cons, and_self, and_true, true_and, and_false, false_and, not_true, not_false_eq_true, true_or, or_true, bi_eq0, e1, m194, h1, h2, m193', e72]
  · simp (config := {decide := true}) only [r230_0, r230_1, r230_2, r230_5, r230_6, r230_7, r230_8, r230_9, r230_12, r230_15, r230_18, r230_19, r230_22, r230_25, r230_26, r230_29, r230_30, r230_31, r230_32, r230_35, r230_38, r230_39, if_true, if_false, Nat.reduceAdd, Int32.reduceToNatClampNeg, lo_i, lo_r, lo_n, kont_v, kont_n, List.length_nil, List.length_cons, and_self, and_true, true_and, and_false, false_and, not_true, not_false_eq_true, true_or, or_true, bi_eq0, e1, m194, h1, m193', e72]
theorem lay_at2 {A D : Nat} : ∀ m, D + m ≤ A → ∀ k, k < m → ∀ i, i < 2 → foldN (layF A D) m I (D + 1 + k) i = I (A + 1 + k) i
  | 0, _, k, hk => absurd hk (by omega)
  | m + 1, hm, k, hk => by
    intro i hi
    show layF A D m (foldN (layF A D) m I) (D + 1 + k) i = _
    rw [layF_eq]
    by_cases h : k = m
    · subst h
      rw [upR_same, lay_ne (A := A) (D := D) (I := I) (r := A + 1 + k) k (by omega)]
      have : i = 0 ∨ i = 1 := by omega
      rcases this with rfl | rfl
      · rw [up_ne (by decide), up_same]
      · rw [up_same]
    · rw [upR_ne (by omega)]
      exact lay_at2 m (by omega) k (by omega) i hi
theorem cur_end (hB : ∀ i, i < N → 0 ≤ B i ∧ B i < 256) {p : Nat} : cur B N p = -1 ↔ ¬ p < N := by
  unfold cur
  constructor
  · intro h hp
    rw [if_pos hp] at h
    have h2 := (hB p hp).1
    rw [h] at h2
    exact absurd h2 (by decide)
  · intro h
    rw [if_neg h]
theorem m230m (hz : J 70 1 = nt z) (hzz : z ≤ 600) (hN : N ≤ z) (h150 : N ≤ 150) (h71 : ∀ i, i < N → J 71 i = B i) (hB : ∀ i, i < N → 0 ≤ B i ∧ B i < 256) (hok : ∀ c p', rLw B N lc0 = .inl (c, p') → ∀ I1 q, ML (stM (wrI J 70 0 0) (nt N)) I1 → Lm I1 c → wp (d + 34) 230 97 [.ref (70 : Nat), .int (nt N)] [] (mk n (mS I1 (nt p') 0 q) L x) Φ) (hbad : ∀ e, rLw B N lc0 = .inr e → ∀ I1 K, ML (stM (wrI J 70 0 0) (nt N)) I1 → MT I1 K N (.inr e) → wp (d + 34) 230 92 [.ref (70 : Nat), .int (nt N)] [] (mk n K L x) Φ) : wpc (d + 34) 230 [.ref (70 : Nat), .int (nt N)] (mk n J L x) Φ := by
  have hX : MX (stM (wrI J 70 0 0) (nt N)) N B := stM_X (by omega) (fun i hi => by rw [wrI_ne (by decide)]; exact h71 i hi) hB
  have h0 : stM (wrI J 70 0 0) (nt N) 70 8 = 0 := by unfold stM; rw [wr_eq]
  refine m230p hz hzz hN h150 h71 hB ?_
  generalize stM (wrI J 70 0 0) (nt N) = I0 at hX h0 hok hbad ⊢
  have hs : MUn n I0 N B (d + 33) 225 0 (rSm B N 6) := m225_all hX h150 6 0 (d + 7) rfl
  simp (config := {decide := true}) only [r230_50, r230_51, if_true, if_false, Nat.reduceAdd, Int32.reduceToNatClampNeg, lo_i, lo_r, lo_n, kont_v, kont_n, List.length_nil, List.length_cons]
  refine hs _ _ _ (wrI I0 70 19 0) _ lc0 (skp B N 0) (ML_w ML_refl (Or.inr rfl)) (by rw [wr_k (by decide)]; exact h0) ⟨wr_eq, fun k hk => absurd hk (Nat.not_lt_zero k)⟩ (Nat.zero_le _) (mtX_ok (endF_le (Nat.zero_le N))) (fun c p1 hf I1 K1 hM1 h81 hL1 hK1 => kont_n.mpr ?_) (fun e hf I1 K1 hM1 hK1 => kont_n.mpr ?_)
  · rw [rSm_skp] at hf
    have hX1 := MX_ml hX hM1
    obtain ⟨hp1, q1, rfl⟩ := hK1
    have hle : skp B N p1 ≤ N := endF_le hp1
    have f2 : ∀ a f q, mS I1 a f q 70 2 = nt N := fun a f q => by rw [mS_2]; exact hX1.1
    simp (config := {decide := true}) only [r230_54, r230_55, r230_58, r230_59, r230_62, if_true, if_false, Nat.reduceAdd, Int32.reduceToNatClampNeg, lo_i, lo_r, lo_n, kont_v, kont_n, List.length_nil, List.length_cons, m200 hX1 hp1, mS_5]
    by_cases he : skp B N p1 < N
    · have e1 : ¬ (nt N ≤ nt (skp B N p1)) := nt_nle he (by omega)
      have hc : ¬ cur B N (skp B N p1) = -1 := fun z => (cur_end hB).mp z he
      simp (config := {decide := true}) only [r230_65, r230_66, r230_69, r230_70, r230_73, r230_76, r230_77, r230_78, r230_79, r230_82, r230_85, r230_86, r230_89, if_true, if_false, Nat.reduceAdd, Int32.reduceToNatClampNeg, lo_i, lo_r, lo_n, kont_v, kont_n, List.length_nil, List.length_cons, mS_4, f2, e1, m201, mS_5]
      exact hbad (1, skp B N p1) (by unfold rLw; rw [hf]; simp only [if_neg hc]) I1 _ hM1 (mtX_f (by decide) (by decide) hle)
    · have e1 : nt N ≤ nt (skp B N p1) := by rw [nt_le (by omega) (by omega)]; omega
      have hc : cur B N (skp B N p1) = -1 := (cur_end hB).mpr he
      simp (config := {decide := true}) only [r230_65, r230_66, r230_69, r230_70, r230_73, r230_85, r230_86, r230_89, if_true, if_false, Nat.reduceAdd, Int32.reduceToNatClampNeg, lo_i, lo_r, lo_n, kont_v, kont_n, List.length_nil, List.length_cons, mS_4, f2, e1, mS_5]
      exact hok c _ (by unfold rLw; rw [hf]; simp only [if_pos hc]) I1 _ hM1 hL1
  · rw [rSm_skp] at hf
    have hX1 := MX_ml hX hM1
    have hK := hK1
    obtain ⟨g0, g9, a1, ha1, rfl⟩ := hK1
    have hk := kf g0 g9
    simp (config := {decide := true}) only [r230_54, r230_55, r230_58, r230_59, r230_62, r230_85, r230_86, r230_89, if_true, if_false, Nat.reduceAdd, Int32.reduceToNatClampNeg, lo_i, lo_r, lo_n, kont_v, kont_n, List.length_nil, List.length_cons, m200 hX1 ha1, mS_5, hk]
    exact hbad e (by unfold rLw; rw [hf]) I1 _ hM1 (mtX_f g0 g9 (endF_le ha1))
theorem m230b (hz : J 70 1 = nt z) (hzz : z ≤ 600) (hN : N ≤ z) (h150 : N ≤ 150) (h71 : ∀ i, i < N → J 71 i = B i) (hB : ∀ i, i < N → 0 ≤ B i ∧ B i < 256) {e : Nat × Nat} (hr : rLw B N lc0 = .inr e) (h : ∀ K, (∀ r, r ≠ 70 → (r < 275 ∨ 434 < r) → K r = J r) → K 70 0 = 0 → K 70 1 = 0 → K 70 3 = nt e.2 → (∀ i, 9 ≤ i → i ≠ 19 → K 70 i = J 70 i) → Φ (.inl (some (.int (nt e.1 - 10)))) (mk n K L x)) : wpc (d + 34) 230 [.ref (70 : Nat), .int (nt N)] (mk n J L x) Φ := by
  refine m230m hz hzz hN h150 h71 hB (fun c p' hr2 => by rw [hr] at hr2; cases hr2) (fun e2 hr2 I1 K hM hK => ?_)
  rw [hr] at hr2
  cases hr2
  obtain ⟨h0, h9, a1, ha1, rfl⟩ := hK
  have hk := kf h0 h9
  simp (config := {decide := true}) only [r230_92, r230_93, r230_96, if_true, if_false, Nat.reduceAdd, Int32.reduceToNatClampNeg, lo_i, lo_r, lo_n, kont_v, kont_n, List.length_nil, List.length_cons, m213]
  refine h _ (fun r h3 h4 => ?_) ?_ ?_ ?_ ?_
  · rw [mS_ne h3, wrI_ne h3, hM.1 r h3 h4, stM_ne h3, wrI_ne h3]
  · rw [mS_o (by decide) (by decide) (by decide), wr_k (by decide), hM.2 0 (by decide) (by decide), stM_o (by decide) (by decide) (by decide) (by decide), wr_eq]
  · rw [mS_o (by decide) (by decide) (by decide), wr_k (by decide), hM.2 1 (by decide) (by decide)]
    unfold stM
    rw [wr_k (by decide), wr_k (by decide), wr_k (by decide), wr_eq]
  · rw [mS_o (by decide) (by decide) (by decide), wr_eq]
  · intro i g9 g19
    rw [mS_o (by omega) (by omega) (by omega), wr_k (by omega), hM.2 i (by omega) g19, stM_o (by omega) (by omega) (by omega) (by omega), wr_k (by omega)]
theorem m230a (hz : J 70 1 = nt z) (hzz : z ≤ 600) (hN : N ≤ z) (h150 : N ≤ 150) (h71 : ∀ i, i < N → J 71 i = B i) (hB : ∀ i, i < N → 0 ≤ B i ∧ B i < 256) {p' : Nat} (hr : rLw B N lc0 = .inl (c, p')) (hc : c.1 ≤ 150) (h : ∀ K, (∀ r, r ≠ 70 → (r < 114 ∨ 434 < r) → K r = J r) → (∀ k, k < c.1 → K (114 + k) 0 = nt (c.2 k).1 ∧ K (114 + k) 1 = nt (c.2 k).2) → K 70 0 = 0 → K 70 1 = 0 → K 70 3 = -1 → K 70 18 = nt c.1 → (∀ i, 9 ≤ i → i ≠ 18 → i ≠ 19 → K 70 i = J 70 i) → Φ (.inl (some (.int 1))) (mk n K L x)) : wpc (d + 34) 230 [.ref (70 : Nat), .int (nt N)] (mk n J L x) Φ := by
  refine m230m hz hzz hN h150 h71 hB (fun c2 p2 hr2 I1 q hM hL => ?_) (fun e2 hr2 => by rw [hr] at hr2; cases hr2)
  rw [hr] at hr2
  cases hr2
  have s274 : sh0 n 274 = (22, 160, (sh0 n 274).2.2) := eq_of_heq HEq.rfl
  have s113 : sh0 n 113 = (22, 160, (sh0 n 113).2.2) := eq_of_heq HEq.rfl
  have f19 : wrI (mS I1 (nt p') 0 q) 70 3 (-1) 70 19 = nt c.1 := by rw [wr_k (by decide), mS_o (by decide) (by decide) (by decide)]; exact hL.1
  have f18 : wrI (wrI (mS I1 (nt p') 0 q) 70 3 (-1)) 70 18 (nt c.1) 70 18 = nt c.1 := wr_eq
  have ml := fun Ψ => m220 (d := d + 33) (n := n) (L := L) (x := x) (I := wrI (wrI (mS I1 (nt p') 0 q) 70 3 (-1)) 70 18 (nt c.1)) (Φ := Ψ) (A := 274) (D := 113) (M := 160) (m := c.1) s274 s113 (fun k hk => ⟨s275 hk, by have := shL160 (n := n) hk; rw [show 113 + 1 + k = 114 + k by omega]; exact this⟩) (by decide) (by decide) (by decide) (by omega) (by decide)
  simp (config := {decide := true}) only [r230_97, r230_98, r230_99, r230_102, r230_103, r230_104, r230_107, r230_110, r230_111, r230_114, r230_115, r230_118, r230_119, r230_122, r230_125, r230_126, if_true, if_false, Nat.reduceAdd, Int32.reduceToNatClampNeg, lo_i, lo_r, lo_n, kont_v, kont_n, List.length_nil, List.length_cons, f19, f18, ml]
  have i70 : ∀ i, i ≠ 4 → i ≠ 5 → i ≠ 6 → i ≠ 3 → i ≠ 18 → foldN (layF 274 113) c.1 (wrI (wrI (mS I1 (nt p') 0 q) 70 3 (-1)) 70 18 (nt c.1)) 70 i = I1 70 i := by
    intro i g4 g5 g6 g3 g18
    rw [lay_ne c.1 (by omega), wr_k g18, wr_k g3, mS_o g4 g5 g6]
  refine h _ (fun r h3 h4 => ?_) (fun k hk => ?_) ?_ ?_ ?_ ?_ ?_
  · rw [lay_ne c.1 (by omega), wrI_ne h3, wrI_ne h3, mS_ne h3, hM.1 r h3 (by omega), stM_ne h3, wrI_ne h3]
  · have := lay_at2 (A := 274) (D := 113) (I := wrI (wrI (mS I1 (nt p') 0 q) 70 3 (-1)) 70 18 (nt c.1)) c.1 (by omega) k hk
    have a0 := this 0 (by decide)
    have a1 := this 1 (by decide)
    rw [show 113 + 1 + k = 114 + k by omega, show 274 + 1 + k = 275 + k by omega, wrI_ne (by omega), wrI_ne (by omega), mS_ne (by omega)] at a0 a1
    rw [a0, a1]
    exact hL.2 k hk
  · rw [i70 0 (by decide) (by decide) (by decide) (by decide) (by decide), hM.2 0 (by decide) (by decide), stM_o (by decide) (by decide) (by decide) (by decide), wr_eq]
  · rw [i70 1 (by decide) (by decide) (by decide) (by decide) (by decide), hM.2 1 (by decide) (by decide)]
    unfold stM
    rw [wr_k (by decide), wr_k (by decide), wr_k (by decide), wr_eq]
  · rw [lay_ne c.1 (by omega), wr_k (by decide), wr_eq]
  · rw [lay_ne c.1 (by omega), wr_eq]
  · intro i g9 g18 g19
    rw [i70 i (by omega) (by omega) (by omega) (by omega) g18, hM.2 i (by omega) g19, stM_o (by omega) (by omega) (by omega) (by omega), wr_k (by omega)]
end Lf

