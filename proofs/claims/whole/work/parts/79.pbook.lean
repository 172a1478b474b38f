/-! A BOOK: both sides -/
section Pb
variable {d n x N S m z : Nat} {B : Nat → Int32} {μ : PM} {Φ : POut → PM → Prop} {I J K : Nat → Nat → Int32} {L : Nat → Nat → Int64} {v w c p k f q lo hi : Int32} {g : Nat → Int32} {s : Nat → Nat} {b : Nat → Bool} {t : LSt} {a : Nat}
theorem c9 {c e : Nat} (hc : K1 c) (he : K1 e) (hne : c ≠ e) : wpc d 9 [.ref c, .ref e] (mk n I L x) Φ ↔ Φ (.inl none) (mk n (upR I c (upd (upd (I c) 0 (I e 0)) 1 (I e 1))) L x) := by
  show wp d 9 0 [.ref c, .ref e] [] (mk n I L x) Φ ↔ _
  have e1 : ∀ X, wrI I c 0 X e = I e := fun X => wrI_ne (fun z => hne z.symm)
  simp (config := {decide := true}) only [r9_0, r9_1, r9_2, r9_5, r9_8, r9_9, r9_10, r9_13, r9_16, if_true, if_false, Nat.reduceAdd, Int32.reduceToNatClampNeg, lo_i, lo_r, lo_n, kont_v, kont_n, List.length_nil, List.length_cons, hc, he, e1, wr2_raw]
theorem li_exc (hI : LI I) : LI (wrI (wrI (wrI (wrI I 9 17 (I 9 17 + 1)) 70 0 0) 70 0 1) 72 1 (I 72 1 + 1)) := by
  refine ⟨tr_Inv ?_ hI.1, ?_, ?_⟩
  · rw [view_wr rfl, view_wr rfl, view_wr rfl, view_wr rfl]
  · rw [wr_k (by decide), wrI_ne (by decide), wrI_ne (by decide), wrI_ne (by decide), wrI_ne (by decide), wrI_ne (by decide), wrI_ne (by decide), wr_k (by decide)]
    exact hI.2.1
  · rw [wr_eq, wrI_ne (by decide), wrI_ne (by decide), wrI_ne (by decide), wr_eq, hI.2.2]
/-- a text that was refused -/
theorem li_txt (hI : LI I) (ok : okc (fun _ => false) (fun k => k == 1 || k == 3) I K) (sp : spc I K) (h1 : K 10 1 = 0) (h2 : K 70 1 = 0) (h3 : K 70 3 = K 10 6) (h9 : K 9 = I 9) (h72 : K 72 = I 72) : LI K := by
  obtain ⟨hM, hR, hV, hW, hA, hB, hT, hK, hN⟩ := hI.1
  refine ⟨⟨kM ok (by decide +kernel) rfl hM, kR ok (by decide) hR, kV ok (by decide) hV, kW ok (by decide) rfl hW, kA ok (by decide) rfl hA, kB ok (by decide) rfl hB, ⟨⟨0, by decide, h1, h2, fun k hk => absurd hk (by omega)⟩, h3⟩, kK ok sp (by decide) (fun j hj => by rw [okr ok (a := 41) (by decide)]; exact hi41 hI.1 j hj) hK, ?_⟩, ?_, ?_⟩
  · rw [ok.2 35 rfl rfl, h9]; exact hN
  · rw [h9, h72]; exact hI.2.1
  · rw [h9, h72]; exact hI.2.2
theorem it_x (hI : Inv I) (hz : I 10 1 = nt z) (hzz : z ≤ 600) (hN : N ≤ z) : TX (wrI I 10 2 (nt N)) N ∧ I 70 1 = nt z ∧ (∀ i, i < N → I 71 i = I 11 i) ∧ ∀ i, i < N → 0 ≤ I 11 i ∧ I 11 i < 256 := by
  obtain ⟨⟨z', z1, z2, z3, z4⟩, z5⟩ := hI.2.2.2.2.2.2.1
  rw [z2, nt_inj (by omega) (by omega)] at hz
  subst hz
  refine ⟨⟨wr_eq, by omega, fun i hi => ?_⟩, z3, fun i hi => (z4 i (by omega)).1, fun i hi => (z4 i (by omega)).2⟩
  rw [wrI_ne (by decide)]
  exact (z4 i (by omega)).2
def sb0 : (Nat → Nat) × (Nat → Bool) := (fun _ => 0, fun _ => false)
theorem c135a (hx : x + 1 ≤ 600) (hI : LI I) (hz : I 10 1 = nt z) (hzz : z ≤ 600) (hN : N ≤ z) (h60 : N ≤ 60) {p' : Nat} (hr : rBk (I 11) N (sI I) 8 (0, sb0) 0 = .inl ((m, s, b), p')) (h : ∀ J, (∀ r, r ≠ 10 → r ≠ 37 → r ≠ 38 → J r = I r) → J 37 0 = bkt0 s m → J 37 1 = bkw0 s b m → J 10 1 = 0 → J 10 6 = -1 → Φ (.inl (some (.int (nt m)))) (mk n J L x)) : wpc (d + 12) 135 [.ref (9 : Nat), .int (nt N)] (mk n I L x) Φ := by
  obtain ⟨hT, h701, h71, hB⟩ := it_x hI.1 hz hzz hN
  have hS := inv_s7 hI.1
  have hok := rBk_ok hS 8 (0, sb0) 0 _ _ ⟨fun k hk => absurd hk (by omega), fun k j hk => absurd hk (by omega)⟩ hr
  have hbc : bcI (bkt0 s m) = nt m := (book_wb (s := s) (m := m) (fun k hk => by have : s k < sI I := hok.1 k hk; omega) hok.2 m (Nat.le_refl m)).2
  show wp (d + 12) 135 0 [.ref (9 : Nat), .int (nt N)] [] (mk n I L x) Φ
  have k37 : K1 37 := Or.inl rfl
  have k38 : K1 38 := Or.inr rfl
  have k12 : K6 12 := Or.inl rfl
  have hin : (0 : Int32) ≤ nt N ∧ nt N ≤ 60 ∧ nt N ≤ I 10 1 := ⟨nt_ge (by omega), by rw [show (60 : Int32) = nt 60 from rfl, nt_le (by omega) (by decide)]; exact h60, by rw [hz, nt_le (by omega) (by omega)]; exact hN⟩
  have e5 : ∀ a b c e, tS (wrI I 10 2 (nt N)) a b c e 12 5 = nt (sI I) := fun a b c e => by rw [tS_ne (by decide), wrI_ne (by decide)]; exact inv_s hI.1
  simp (config := {decide := true}) only [r135_0, r135_1, r135_2, r135_4, r135_7, r135_8, r135_11, r135_12, r135_15, r135_16, r135_19, r135_22, if_true, if_false, Nat.reduceAdd, Int32.reduceToNatClampNeg, lo_i, lo_r, lo_n, kont_v, kont_n, List.length_nil, List.length_cons, c175 hx, hin, k38, k12, e5]
  refine c11 (σ := sb0) hT hS (ct_ok (a := 0) rfl (Nat.zero_le N)) ?_ ?_
  · intro m' s' b' p2 hr2 g K g0 g1 hK
    rw [wrI_ne (by decide), hr] at hr2
    cases hr2
    have e0 : flt (.inl p') = 0 := rfl
    obtain ⟨hp, s1, q1, hq1, rfl⟩ := id hK
    have u38 : ∀ i, tS (upR (wrI I 10 2 (nt N)) 38 g) (nt p') s1 0 q1 38 i = g i := fun i => by rw [tS_ne (by decide), upR_same]
    simp (config := {decide := true}) only [r135_25, r135_26, r135_29, r135_32, r135_35, r135_36, r135_39, r135_40, r135_43, r135_46, r135_47, r135_48, r135_51, if_true, if_false, Nat.reduceAdd, Int32.reduceToNatClampNeg, lo_i, lo_r, lo_n, kont_v, kont_n, List.length_nil, List.length_cons, c95t hK, e0, c9 k37 k38 (show 37 ≠ 38 by decide), k37, k38, c10 k37, u38, g0, g1, upR_same]
    rw [up_ne (by decide), up_same, hbc, tS_up (by decide)]
    simp (config := {decide := true}) only [r135_54, r135_57, if_true, if_false, Nat.reduceAdd, Int32.reduceToNatClampNeg, lo_i, lo_r, lo_n, kont_v, kont_n, List.length_nil, List.length_cons, c176]
    refine h _ (fun r h1 h2 h3 => ?_) ?_ ?_ ?_ ?_
    · rw [tS_ne h1, wrI_ne h1, upR_ne h2, upR_ne h3, wrI_ne h1]
    · rw [tS_ne (by decide), wrI_ne (by decide), upR_same, up_ne (by decide), up_same]
    · rw [tS_ne (by decide), wrI_ne (by decide), upR_same, up_same]
    · rw [tS_1, wr_eq]
    · rw [tS_6]; exact hq1
  · intro e hr2
    rw [wrI_ne (by decide), hr] at hr2
    cases hr2
theorem c135b (hx : x + 1 ≤ 600) (hI : LI I) (hz : I 10 1 = nt z) (hzz : z ≤ 600) (hN : N ≤ z) (h60 : N ≤ 60) {e : Nat × Nat} (hr : rBk (I 11) N (sI I) 8 (0, sb0) 0 = .inr e) (h : e.1 ≠ 0 → e.1 < 10 → ∀ J, (∀ r, r ≠ 10 → r ≠ 38 → J r = I r) → J 10 1 = 0 → J 10 6 = nt e.2 → Φ (.inl (some (.int (nt e.1 - 10)))) (mk n J L x)) : wpc (d + 12) 135 [.ref (9 : Nat), .int (nt N)] (mk n I L x) Φ := by
  obtain ⟨hT, h701, h71, hB⟩ := it_x hI.1 hz hzz hN
  have hS := inv_s7 hI.1
  show wp (d + 12) 135 0 [.ref (9 : Nat), .int (nt N)] [] (mk n I L x) Φ
  have k37 : K1 37 := Or.inl rfl
  have k38 : K1 38 := Or.inr rfl
  have k12 : K6 12 := Or.inl rfl
  have hin : (0 : Int32) ≤ nt N ∧ nt N ≤ 60 ∧ nt N ≤ I 10 1 := ⟨nt_ge (by omega), by rw [show (60 : Int32) = nt 60 from rfl, nt_le (by omega) (by decide)]; exact h60, by rw [hz, nt_le (by omega) (by omega)]; exact hN⟩
  have e5 : ∀ a b c e, tS (wrI I 10 2 (nt N)) a b c e 12 5 = nt (sI I) := fun a b c e => by rw [tS_ne (by decide), wrI_ne (by decide)]; exact inv_s hI.1
  simp (config := {decide := true}) only [r135_0, r135_1, r135_2, r135_4, r135_7, r135_8, r135_11, r135_12, r135_15, r135_16, r135_19, r135_22, if_true, if_false, Nat.reduceAdd, Int32.reduceToNatClampNeg, lo_i, lo_r, lo_n, kont_v, kont_n, List.length_nil, List.length_cons, c175 hx, hin, k38, k12, e5]
  refine c11 (σ := sb0) hT hS (ct_ok (a := 0) rfl (Nat.zero_le N)) ?_ ?_
  · intro m' s' b' p2 hr2
    rw [wrI_ne (by decide), hr] at hr2
    cases hr2
  · intro e2 hr2 g K hK
    rw [wrI_ne (by decide), hr] at hr2
    cases hr2
    obtain ⟨h0, h1, a1, s1, ha1, rfl⟩ := id hK
    have e0 : ¬ flt (.inr e) = 0 := h0
    have hk := kf h0 h1
    simp (config := {decide := true}) only [r135_25, r135_26, r135_29, r135_32, r135_35, r135_36, r135_39, r135_40, r135_43, r135_46, r135_47, r135_48, r135_51, r135_54, r135_57, if_true, if_false, Nat.reduceAdd, Int32.reduceToNatClampNeg, lo_i, lo_r, lo_n, kont_v, kont_n, List.length_nil, List.length_cons, c95t hK, e0, k37, c10 k37, c176, hk]
    refine h h0 h1 _ (fun r h1 h3 => ?_) ?_ ?_
    · rw [tS_ne h1, wrI_ne h1, upR_ne h3, wrI_ne h1]
    · rw [tS_1, wr_eq]
    · rw [tS_6]
theorem c135x (hx : x + 1 ≤ 600) (hv : ¬ (0 ≤ v ∧ v ≤ 60 ∧ v ≤ I 10 1)) : wpc (d + 12) 135 [.ref (9 : Nat), .int v] (mk n I L x) Φ ↔ Φ (.inr 2) (mk n (wrI I 9 17 (I 9 17 + 1)) L (x + 1)) := by
  show wp (d + 12) 135 0 [.ref (9 : Nat), .int v] [] (mk n I L x) Φ ↔ _
  simp (config := {decide := true}) only [r135_0, r135_1, r135_2, r135_4, if_true, if_false, Nat.reduceAdd, Int32.reduceToNatClampNeg, lo_i, lo_r, lo_n, kont_v, kont_n, List.length_nil, List.length_cons, c175 hx, hv, kx]
end Pb

