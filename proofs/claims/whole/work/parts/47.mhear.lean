/-! THE REFERENCE: who hears what -/
section Mh1
variable {d n x r j : Nat} {Φ : POut → PM → Prop} {I : Nat → Nat → Int32} {L : Nat → Nat → Int64} {f : Nat → Int32} {p : Scr} {h v a b c clocks : Int32}
def nzJ (I : Nat → Nat → Int32) (f : Nat → Int32) (j k : Nat) : Int32 := nzC (I 25) (lnI I) (I 15 k) (atv 84 f (18 + nt j * 6 + nt k)) (I 13 j) (f (12 + k)) (f 81) (f 82) (awm f) (f k) (nt j)
def noS (I : Nat → Nat → Int32) (f : Nat → Int32) (j k : Nat) (p : Scr) : Scr := (fun g : Nat → Int32 => (byS I (p.1, g), g)) (kn p.2 (I 15 k) (atv 84 f (18 + nt j * 6 + nt k)) (I 13 j) (f (12 + k)) (f 81) (f 82) (awm f) (f k) (nt j))
theorem nRr (hr : KR r) : r ≠ 451 ∧ r ≠ 452 := by rcases hr with rfl | rfl <;> decide
theorem m240 {k : Nat} (hM : MI I) (hr : KR r) (ho : RO I f) (hf : I r = vc f) (hj : j < sI I) (hk : k < cI I) : wpc (d + 4) 240 [.ref (70 : Nat), .ref r, .int (nt j), .int (nt k)] (mk n (scm I p) L x) Φ ↔ Φ (.inl (some (.int (nzJ I f j k)))) (mk n (scm I (noS I f j k p)) L x) := by
  have hC := hM.1
  have h6 : k < 6 := by have := hC.2.1.2; omega
  have h7 : j < 7 := by have := hC.2.2.1.2; omega
  have ur : ∀ p, scm I p r = vc f := fun p => (scm_ne (nRr hr).1 (nRr hr).2).trans hf
  have e1 : (nt j).toNatClampNeg = j := nt_clamp (by omega)
  have e2 : (0 : Int32) ≤ nt j := nt_ge (by omega)
  have e3 : (nt k).toNatClampNeg = k := nt_clamp (by omega)
  have e4 : (0 : Int32) ≤ nt k := nt_ge (by omega)
  have e5 : (39 : Int32) + 6 * nt j + nt k = nt (39 + 6 * j + k) := by
    rw [show (6 : Int32) * nt j = nt (6 * j) from (Int32.ofNat_mul 6 j).symm, show (39 : Int32) = nt 39 from rfl, nt_add, nt_add]
  have e6 : (nt (39 + 6 * j + k)).toNatClampNeg = 39 + 6 * j + k := nt_clamp (by omega)
  have e7 : (0 : Int32) ≤ nt (39 + 6 * j + k) := nt_ge (by omega)
  have e8 : 39 + 6 * j + k < 84 := by omega
  have e9 : vc f (39 + 6 * j + k) = atv 84 f (18 + nt j * 6 + nt k) := by
    rw [show (18 : Int32) + nt j * 6 + nt k = nt (18 + j * 6 + k) from by rw [show nt j * 6 = nt (j * 6) from (Int32.ofNat_mul j 6).symm, show (18 : Int32) = nt 18 from rfl, nt_add, nt_add], atv_nt (by omega) (by decide), show 39 + 6 * j + k = 21 + (18 + j * 6 + k) by omega, vc_hi (by omega)]
  have g2 : ((33 : Int32) + nt k).toNatClampNeg = 33 + k := ixc 33 k (by omega)
  have g3 : (0 : Int32) ≤ 33 + nt k := ixg 33 k (by omega)
  have g4 : 33 + k < 84 := by omega
  have g5 : vc f (33 + k) = f (12 + k) := vc_hi' (b := 12) (by omega)
  have i2 : ((21 : Int32) + nt k).toNatClampNeg = 21 + k := ixc 21 k (by omega)
  have i3 : (0 : Int32) ≤ 21 + nt k := ixg 21 k (by omega)
  have i4 : 21 + k < 84 := by omega
  have i5 : vc f (21 + k) = f k := vc_hi (by omega)
  have u1 : ∀ p, scm I p (99 + k) = I (99 + k) := fun p => scm_ne (by omega) (by omega)
  have u2 : ∀ p, scm I p (84 + j) = I (84 + j) := fun p => scm_ne (by omega) (by omega)
  have l1 : 99 + k < 560 := by omega
  have l2 : 84 + j < 560 := by omega
  have w1 := hM.2.2.2.1 k hk
  have w2 := (hM.2.2.1 j hj).1
  have c239 : ∀ (d : Nat) (Ψ : POut → PM → Prop) p, wpc d 239 [.ref (70 : Nat), .ref r] (mk n (scm I p) L x) Ψ ↔ Ψ (.inl (some (.int (awk f)))) (mk n (scm I p) L x) := fun d Ψ p => m239 (I := scm I p) hr hM.2.1.1 hC.2.2.1.2 ho (ur p)
  show wp (d + 4) 240 0 [.ref (70 : Nat), .ref r, .int (nt j), .int (nt k)] [] (mk n (scm I p) L x) Φ ↔ _
  simp (config := {decide := true}) only [r240_0, r240_1, r240_2, r240_5, r240_6, r240_7, r240_8, r240_9, r240_10, r240_12, r240_14, r240_15, r240_16, r240_17, r240_18, r240_19, r240_20, r240_21, r240_24, r240_25, r240_26, r240_27, r240_28, r240_29, r240_31, r240_32, r240_33, r240_34, r240_35, r240_37, r240_38, r240_39, r240_41, r240_42, r240_43, r240_44, r240_47, r240_50, r240_51, r240_53, r240_54, r240_55, r240_56, r240_57, r240_60, if_true, if_false, Nat.reduceAdd, Int32.reduceToNatClampNeg, lo_i, lo_r, lo_n, kont_v, kont_n, List.length_nil, List.length_cons, ur, e1, e2, e3, e4, e5, e6, e7, e8, e9, g2, g3, g4, g5, i2, i3, i4, i5, u1, u2, l1, l2, w1, w2, h6, h7, shR hr, ltR hr, sh84 h7, sh99 h6, s83, s98, vc_82, vc_83, c239, m238, one_awk, m237 hM]
  rfl
def mhF (I : Nat → Nat → Int32) (f : Nat → Int32) (j : Nat) (clocks : Int32) (k : Nat) (q : Int32 × Scr) : Int32 × Scr := if clocks >>> (nt k &&& 31) &&& 1 = 1 then (q.1 + nzJ I f j k, noS I f j k q.2) else q
def mhS (I : Nat → Nat → Int32) (f : Nat → Int32) (j : Nat) (clocks : Int32) (p : Scr) : Scr := (foldN (mhF I f j clocks) (cI I) (0, p)).2
def hdJ (I : Nat → Nat → Int32) (f : Nat → Int32) (j : Nat) (clocks : Int32) : Int32 := hdV f (I 15) (I 25) (lnI I) (cI I) (I 13 j) (nt j) clocks
theorem hdJ_I (h : j < 7) : hdI I f (nt j) clocks = hdJ I f j clocks := by
  unfold hdI hdJ
  rw [atv_nt h (by decide)]
theorem mh_val : (foldN (mhF I f j clocks) (cI I) (0, p)).1 = hdJ I f j clocks := by
  unfold hdJ hdV
  refine foldN_two (P := fun (q : Int32 × Scr) t => q.1 = t) (cI I) ?_ rfl
  intro k a t _ h1
  unfold mhF
  subst h1
  split <;> rfl
theorem m241 (hM : MI I) (hr : KR r) (ho : RO I f) (hf : I r = vc f) (hj : j < sI I) : wpc (d + 5) 241 [.ref (70 : Nat), .ref r, .int (nt j), .int clocks] (mk n (scm I p) L x) Φ ↔ Φ (.inl (some (.int (hdJ I f j clocks)))) (mk n (scm I (mhS I f j clocks p)) L x) := by
  have u74 : ∀ p, scm I p 74 = I 74 := fun p => scm_ne (by decide) (by decide)
  have h6 := hM.1.2.1.2
  have hc := hM.2.1.2
  rw [← mh_val (p := p)]
  unfold mhS
  show wp (d + 5) 241 0 [.ref (70 : Nat), .ref r, .int (nt j), .int clocks, noV, noV] [] (mk n (scm I p) L x) Φ ↔ _
  simp (config := {decide := true}) only [r241_0, r241_1, r241_3, r241_4, if_true, if_false, Nat.reduceAdd, Int32.reduceToNatClampNeg, lo_i, lo_r, lo_n, kont_v, kont_n, List.length_nil, List.length_cons]
  refine loopN (P := fun k (q : Int32 × Scr) => wp (d + 5) 241 6 [.ref (70 : Nat), .ref r, .int (nt j), .int clocks, .int q.1, .int (nt k)] [] (mk n (scm I q.2) L x) Φ) (Q := fun q => Φ (.inl (some (.int q.1))) (mk n (scm I q.2) L x)) (n := cI I) ?_ ?_ (0, p)
  · intro k q hk
    have e1 : ¬ (nt (cI I) ≤ nt k) := nt_nle hk (by omega)
    rw [r241_6]
    unfold mhF
    by_cases hb : clocks >>> (nt k &&& 31) &&& 1 = 1
    · simp (config := {decide := true}) only [r241_8, r241_9, r241_12, r241_13, r241_14, r241_17, r241_19, r241_20, r241_22, r241_25, r241_28, r241_29, r241_30, r241_31, r241_33, r241_36, r241_39, r241_40, r241_41, r241_43, r241_46, r241_49, r241_51, if_true, if_false, Nat.reduceAdd, Int32.reduceToNatClampNeg, lo_i, lo_r, lo_n, kont_v, kont_n, List.length_nil, List.length_cons, u74, hc, s74, e1, m197, bi_eq0, hb, not_true, m240 hM hr ho hf hj hk, nt_succ]
    · simp (config := {decide := true}) only [r241_8, r241_9, r241_12, r241_13, r241_14, r241_17, r241_19, r241_20, r241_22, r241_25, r241_28, r241_29, r241_30, r241_31, r241_33, r241_36, r241_39, r241_40, r241_41, r241_43, r241_46, r241_49, r241_51, if_true, if_false, Nat.reduceAdd, Int32.reduceToNatClampNeg, lo_i, lo_r, lo_n, kont_v, kont_n, List.length_nil, List.length_cons, u74, hc, s74, e1, m197, bi_eq0, hb, not_false_eq_true, nt_succ, Int32.add_zero]
  · intro q
    have e6 : nt (cI I) ≤ nt (cI I) := Int32.le_refl _
    rw [r241_6]
    simp (config := {decide := true}) only [r241_8, r241_9, r241_12, r241_13, r241_14, r241_17, r241_19, r241_20, r241_22, r241_25, r241_28, r241_29, r241_30, r241_31, r241_33, r241_36, r241_39, r241_40, r241_41, r241_43, r241_46, r241_49, r241_51, if_true, if_false, Nat.reduceAdd, Int32.reduceToNatClampNeg, lo_i, lo_r, lo_n, kont_v, kont_n, List.length_nil, List.length_cons, u74, hc, s74, e6]
def mwF (I : Nat → Nat → Int32) (f : Nat → Int32) (clocks : Int32) (k : Nat) (q : Int32 × Scr) : Int32 × Scr := if f (60 + k) = -1 then ((if I 13 k ≤ hdJ I f k clocks then q.1 ||| bt k else q.1), mhS I f k clocks q.2) else q
def mwS (I : Nat → Nat → Int32) (f : Nat → Int32) (clocks : Int32) (p : Scr) : Scr := (foldN (mwF I f clocks) (sI I) (0, p)).2
theorem mw_val : (foldN (mwF I f clocks) (sI I) (0, p)).1 = wkI I f clocks := by
  unfold wkI wkV
  refine foldN_two (P := fun (q : Int32 × Scr) t => q.1 = t) (sI I) ?_ rfl
  intro k a t _ h1
  unfold mwF
  subst h1
  split <;> rfl
theorem m242 (hM : MI I) (hr : KR r) (ho : RO I f) (hf : I r = vc f) : wpc (d + 6) 242 [.ref (70 : Nat), .ref r, .int clocks] (mk n (scm I p) L x) Φ ↔ Φ (.inl (some (.int (wkI I f clocks)))) (mk n (scm I (mwS I f clocks p)) L x) := by
  have u74 : ∀ p, scm I p 74 = I 74 := fun p => scm_ne (by decide) (by decide)
  have ur : ∀ p, scm I p r = vc f := fun p => (scm_ne (nRr hr).1 (nRr hr).2).trans hf
  have h7 := hM.1.2.2.1.2
  have hc := hM.2.1.1
  rw [← mw_val (p := p)]
  unfold mwS
  show wp (d + 6) 242 0 [.ref (70 : Nat), .ref r, .int clocks, noV, noV] [] (mk n (scm I p) L x) Φ ↔ _
  simp (config := {decide := true}) only [r242_0, r242_1, r242_2, r242_3, if_true, if_false, Nat.reduceAdd, Int32.reduceToNatClampNeg, lo_i, lo_r, lo_n, kont_v, kont_n, List.length_nil, List.length_cons]
  refine loopN (P := fun k (q : Int32 × Scr) => wp (d + 6) 242 5 [.ref (70 : Nat), .ref r, .int clocks, .int q.1, .int (nt k)] [] (mk n (scm I q.2) L x) Φ) (Q := fun q => Φ (.inl (some (.int q.1))) (mk n (scm I q.2) L x)) (n := sI I) ?_ ?_ (0, p)
  · intro k q hk
    have e1 : ¬ (nt (sI I) ≤ nt k) := nt_nle hk (by omega)
    have e2 : (nt k).toNatClampNeg = k := nt_clamp (by omega)
    have e3 : (0 : Int32) ≤ nt k := nt_ge (by omega)
    have e4 : k < 84 := by omega
    have e5 : vc f k = f (60 + k) := vc_lo (by omega)
    have k7 : k < 7 := by omega
    have u2 : ∀ p, scm I p (84 + k) = I (84 + k) := fun p => scm_ne (by omega) (by omega)
    have l2 : 84 + k < 560 := by omega
    have w2 := (hM.2.2.1 k hk).1
    rw [r242_5]
    unfold mwF
    by_cases hb : f (60 + k) = -1
    · by_cases h2 : I 13 k ≤ hdJ I f k clocks
      · have h3 := Int32.not_lt.mpr h2
        simp (config := {decide := true}) only [r242_7, r242_8, r242_11, r242_12, r242_13, r242_16, r242_17, r242_18, r242_19, r242_21, r242_22, r242_23, r242_24, r242_27, r242_28, r242_29, r242_31, r242_32, r242_35, r242_36, r242_39, r242_41, r242_42, r242_43, r242_44, r242_47, r242_48, r242_50, r242_51, r242_54, r242_55, r242_56, r242_57, r242_60, r242_63, r242_64, if_true, if_false, Nat.reduceAdd, Int32.reduceToNatClampNeg, lo_i, lo_r, lo_n, kont_v, kont_n, List.length_nil, List.length_cons, u74, hc, s74, ur, shR hr, ltR hr, e1, ix0, e2, e3, e4, e5, hb, m241 hM hr ho hf hk, u2, l2, w2, k7, sh84 k7, s83, h2, h3, nt_succ, bt]
      · have h3 := Int32.not_le.mp h2
        simp (config := {decide := true}) only [r242_7, r242_8, r242_11, r242_12, r242_13, r242_16, r242_17, r242_18, r242_19, r242_21, r242_22, r242_23, r242_24, r242_27, r242_28, r242_29, r242_31, r242_32, r242_35, r242_36, r242_39, r242_41, r242_42, r242_43, r242_44, r242_47, r242_48, r242_50, r242_51, r242_54, r242_55, r242_56, r242_57, r242_60, r242_63, r242_64, if_true, if_false, Nat.reduceAdd, Int32.reduceToNatClampNeg, lo_i, lo_r, lo_n, kont_v, kont_n, List.length_nil, List.length_cons, u74, hc, s74, ur, shR hr, ltR hr, e1, ix0, e2, e3, e4, e5, hb, m241 hM hr ho hf hk, u2, l2, w2, k7, sh84 k7, s83, h2, h3, nt_succ, Int32.or_zero]
    · simp (config := {decide := true}) only [r242_7, r242_8, r242_11, r242_12, r242_13, r242_16, r242_17, r242_18, r242_19, r242_21, r242_22, r242_23, r242_24, r242_27, r242_28, r242_29, r242_31, r242_32, r242_35, r242_36, r242_39, r242_41, r242_42, r242_43, r242_44, r242_47, r242_48, r242_50, r242_51, r242_54, r242_55, r242_56, r242_57, r242_60, r242_63, r242_64, if_true, if_false, Nat.reduceAdd, Int32.reduceToNatClampNeg, lo_i, lo_r, lo_n, kont_v, kont_n, List.length_nil, List.length_cons, u74, hc, s74, ur, shR hr, ltR hr, e1, ix0, e2, e3, e4, e5, hb, nt_succ, Int32.or_zero]
  · intro q
    have e6 : nt (sI I) ≤ nt (sI I) := Int32.le_refl _
    rw [r242_5]
    simp (config := {decide := true}) only [r242_7, r242_8, r242_11, r242_12, r242_13, r242_16, r242_17, r242_18, r242_19, r242_21, r242_22, r242_23, r242_24, r242_27, r242_28, r242_29, r242_31, r242_32, r242_35, r242_36, r242_39, r242_41, r242_42, r242_43, r242_44, r242_47, r242_48, r242_50, r242_51, r242_54, r242_55, r242_56, r242_57, r242_60, r242_63, r242_64, if_true, if_false, Nat.reduceAdd, Int32.reduceToNatClampNeg, lo_i, lo_r, lo_n, kont_v, kont_n, List.length_nil, List.length_cons, u74, hc, s74, e6]
/-- who is first -/
theorem m245 (hr : KR r) (h7 : I 74 0 = nt (sI I)) (hs : sI I ≤ 7) (hA : ∀ s, sI I ≤ s → s < 7 → f (60 + s) = -1) (hB : ∀ s, s < 7 → f (60 + s) = -1 ∨ f (60 + s) < 24) (hf : I r = vc f) : wpc d 245 [.ref (70 : Nat), .ref r] (mk n I L x) Φ ↔ Φ (.inl (some (.int (ldr f)))) (mk n I L x) := by
  have hcut : ldr f = (foldN (ldF f) (sI I) (-1, 24)).1 := by
    unfold ldr
    rw [foldN_cut 7 hs (fun k h1 h2 b => by unfold ldF; rw [if_pos (hA k h1 h2)])]
  rw [hcut]
  show wp d 245 0 [.ref (70 : Nat), .ref r, noV, noV] [] (mk n I L x) Φ ↔ _
  simp (config := {decide := true}) only [r245_0, r245_1, r245_2, r245_3, if_true, if_false, Nat.reduceAdd, Int32.reduceToNatClampNeg, lo_i, lo_r, lo_n, kont_v, kont_n, List.length_nil, List.length_cons]
  refine loopJ (P := fun k (q : Int32 × Int32) => wp d 245 4 [.ref (70 : Nat), .ref r, .int q.1, .int (nt k)] [] (mk n I L x) Φ) (J := fun k q => q = (-1, 24) ∨ ∃ j, j < k ∧ q = (nt j, f (60 + j)) ∧ f (60 + j) ≠ -1) (Q := fun q => Φ (.inl (some (.int q.1))) (mk n I L x)) (n := sI I) ?_ ?_ (-1, 24) (Or.inl rfl)
  · intro k q hk hq
    have e1 : ¬ (nt (sI I) ≤ nt k) := nt_nle hk (by omega)
    have e2 : (nt k).toNatClampNeg = k := nt_clamp (by omega)
    have e3 : (0 : Int32) ≤ nt k := nt_ge (by omega)
    have e4 : k < 84 := by omega
    have e5 : vc f k = f (60 + k) := vc_lo (by omega)
    unfold ldF
    rw [r245_4]
    by_cases hb : f (60 + k) = -1
    · rw [if_pos hb]
      refine ⟨hq.imp id (fun ⟨j, a, b⟩ => ⟨j, by omega, b⟩), ?_⟩
      simp (config := {decide := true}) only [r245_5, r245_6, r245_9, r245_10, r245_11, r245_14, r245_15, r245_16, r245_17, r245_18, r245_19, r245_20, r245_23, r245_24, r245_25, r245_28, r245_29, r245_30, r245_31, r245_32, r245_33, r245_34, r245_35, r245_36, r245_37, r245_38, r245_41, r245_42, r245_45, r245_46, r245_47, r245_50, r245_53, r245_54, if_true, if_false, Nat.reduceAdd, Int32.reduceToNatClampNeg, lo_i, lo_r, lo_n, kont_v, kont_n, List.length_nil, List.length_cons, h7, s74, hf, shR hr, ltR hr, e1, ix0, e2, e3, e4, e5, hb, nt_succ]
    · rw [if_neg hb]
      have hlt : f (60 + k) < 24 := (hB k (by omega)).resolve_left hb
      rcases hq with rfl | ⟨j, hj, rfl, hjn⟩
      · rw [if_neg (Int32.not_le.mpr hlt)]
        refine ⟨Or.inr ⟨k, by omega, rfl, hb⟩, ?_⟩
        simp (config := {decide := true}) only [r245_5, r245_6, r245_9, r245_10, r245_11, r245_14, r245_15, r245_16, r245_17, r245_18, r245_19, r245_20, r245_23, r245_24, r245_25, r245_28, r245_29, r245_30, r245_31, r245_32, r245_33, r245_34, r245_35, r245_36, r245_37, r245_38, r245_41, r245_42, r245_45, r245_46, r245_47, r245_50, r245_53, r245_54, if_true, if_false, Nat.reduceAdd, Int32.reduceToNatClampNeg, lo_i, lo_r, lo_n, kont_v, kont_n, List.length_nil, List.length_cons, h7, s74, hf, shR hr, ltR hr, e1, ix0, e2, e3, e4, e5, hb, nt_succ]
      · have j1 : ¬ (nt j = -1) := fun e => absurd (e ▸ nt_ge (k := j) (by omega)) (by decide)
        have j2 : (nt j).toNatClampNeg = j := nt_clamp (by omega)
        have j3 : (0 : Int32) ≤ nt j := nt_ge (by omega)
        have j4 : j < 84 := by omega
        have j5 : vc f j = f (60 + j) := vc_lo (by omega)
        by_cases hle : f (60 + j) ≤ f (60 + k)
        · rw [if_pos hle]
          refine ⟨Or.inr ⟨j, by omega, rfl, hjn⟩, ?_⟩
          simp (config := {decide := true}) only [r245_5, r245_6, r245_9, r245_10, r245_11, r245_14, r245_15, r245_16, r245_17, r245_18, r245_19, r245_20, r245_23, r245_24, r245_25, r245_28, r245_29, r245_30, r245_31, r245_32, r245_33, r245_34, r245_35, r245_36, r245_37, r245_38, r245_41, r245_42, r245_45, r245_46, r245_47, r245_50, r245_53, r245_54, if_true, if_false, Nat.reduceAdd, Int32.reduceToNatClampNeg, lo_i, lo_r, lo_n, kont_v, kont_n, List.length_nil, List.length_cons, h7, s74, hf, shR hr, ltR hr, e1, ix0, e2, e3, e4, e5, hb, j1, j2, j3, j4, j5, hle, nt_succ]
        · rw [if_neg hle]
          refine ⟨Or.inr ⟨k, by omega, rfl, hb⟩, ?_⟩
          simp (config := {decide := true}) only [r245_5, r245_6, r245_9, r245_10, r245_11, r245_14, r245_15, r245_16, r245_17, r245_18, r245_19, r245_20, r245_23, r245_24, r245_25, r245_28, r245_29, r245_30, r245_31, r245_32, r245_33, r245_34, r245_35, r245_36, r245_37, r245_38, r245_41, r245_42, r245_45, r245_46, r245_47, r245_50, r245_53, r245_54, if_true, if_false, Nat.reduceAdd, Int32.reduceToNatClampNeg, lo_i, lo_r, lo_n, kont_v, kont_n, List.length_nil, List.length_cons, h7, s74, hf, shR hr, ltR hr, e1, ix0, e2, e3, e4, e5, hb, j1, j2, j3, j4, j5, hle, nt_succ]
  · intro q _
    have e6 : nt (sI I) ≤ nt (sI I) := Int32.le_refl _
    rw [r245_4]
    simp (config := {decide := true}) only [r245_5, r245_6, r245_9, r245_10, r245_11, r245_14, r245_15, r245_16, r245_17, r245_18, r245_19, r245_20, r245_23, r245_24, r245_25, r245_28, r245_29, r245_30, r245_31, r245_32, r245_33, r245_34, r245_35, r245_36, r245_37, r245_38, r245_41, r245_42, r245_45, r245_46, r245_47, r245_50, r245_53, r245_54, if_true, if_false, Nat.reduceAdd, Int32.reduceToNatClampNeg, lo_i, lo_r, lo_n, kont_v, kont_n, List.length_nil, List.length_cons, h7, s74, e6]
end Mh1

