/-! QUESTIONS: hours ahead -/
section Q5
variable {d n x c r j : Nat} {μ : PM} {Φ : POut → PM → Prop} {I J : Nat → Nat → Int32} {L : Nat → Nat → Int64} {k s h v w a b z clocks bits : Int32} {p q : Scr} {f g F : Nat → Int32}
theorem iz (hI : Inv I) : IZ I := hI.2.2.2.2.2.2.2.1.2.2.1
theorem stv_hi {m i : Nat} {v t : Int32} (h : m ≤ i) (hm : m < 2147483648) : stv m f t v i = f i := by
  unfold stv
  split
  · rename_i e
    have := in_lt hm e.1 e.2
    exact up_ne (by omega)
  · rfl
theorem ph_hi {i : Nat} (h : 84 ≤ i) : phR I f i = f i := by
  unfold phR trn
  have e0 : wkn (phW I f) (spd (rng f (f 81)) f) i = f i := by rw [wkn_at _ _ _ (Or.inr (by omega)), spd_at _ _ _ (by omega)]
  generalize wkn (phW I f) (spd (rng f (f 81)) f) = g at e0
  split
  · dsimp only
    rw [up_ne (by omega), up_ne (by omega), slp_at, if_neg (by omega)]
    split
    · exact e0
    · rw [stv_hi (by omega) (by decide)]; exact e0
  · rw [up_ne (by omega)]; exact e0
/-- a row that is copied -/
theorem cp_row {f g : Nat → Int32} (h : ∀ i, 84 ≤ i → f i = g i) : va_cpy f g 0 0 84 = f := by
  funext i
  unfold va_cpy
  by_cases hi : i < 84
  · simp [hi]
  · simp [hi, h i (by omega)]
theorem cp43 (hI : Inv I) : cpI I 41 0 43 0 84 = upR I 43 (I 41) := by
  unfold cpI
  rw [cp_row (fun i hi => by rw [(iz hI i hi).1, (iz hI i hi).2.1])]
/-- hours, from a row -/
def hrs (I : Nat → Nat → Int32) (f : Nat → Int32) (k : Nat) : Nat → Int32 := foldN (fun _ g => phR I g) k f
theorem hrs_s (k : Nat) : hrs I f (k + 1) = phR I (hrs I f k) := rfl
theorem hrs_hi {i : Nat} (h : 84 ≤ i) : ∀ k, hrs I f k i = f i
  | 0 => rfl
  | k + 1 => by rw [hrs_s, ph_hi h, hrs_hi h k]
theorem hrs_RO (h7 : sI I ≤ 7) (ho : RO I f) : ∀ k, RO I (hrs I f k)
  | 0 => ho
  | k + 1 => by rw [hrs_s]; exact ro_ph h7 (hrs_RO h7 ho k)
theorem tr_hrs (h : view J = view I) : hrs J = hrs I := by
  funext f k
  unfold hrs
  rw [tr_pr h]
theorem v43 (hI : Inv I) (hg : ∀ i, 84 ≤ i → g i = 0) : view (upR I 43 g) = view I := view_4 rfl (fun i hi => by rw [hg i hi, (iz hI i hi).2.1])
theorem hi41 (hI : Inv I) : ∀ i, 84 ≤ i → I 41 i = 0 := fun i hi => (iz hI i hi).1
/-- an hour of a row of the class that is scratch -/
theorem a25 (hI : Inv I) (hg : ∀ i, 84 ≤ i → g i = 0) : wpc (d + 5) 25 [.ref (39 : Nat), .ref (42 : Nat)] (mk n (scr (upR I 43 g) q) L x) Φ ↔ Φ (.inl (some (.int (phW I g)))) (mk n (scr (upR I 43 (phR I g)) (phS (upR I 43 g) g q)) L x) := by
  have hv := v43 hI hg
  rw [f25 (tr_MI hv hI.1).1 k42, upR_same, upR_upR, tr_pw hv, tr_pr hv]
theorem sm43 (hI : Inv I) (hg : ∀ i, 84 ≤ i → g i = 0) : Sm I (scr (upR I 43 g) q) := by
  have h1 : Sm I (upR I 43 g) := sm_4 rfl (fun i hi => by rw [hg i hi, (iz hI i hi).2.1])
  exact sm_trans h1 sm_scr
/-- the same of the reference -/
theorem tr_hf (h : view J = view I) : hfF J = hfF I := by
  funext f F
  unfold hfF hwk
  rw [tr_pw h]
  rfl
theorem hm_hm {g' F' : Nat → Int32} {w' : Int32} : hm (hm I 535 g w F) 535 g' w' F' = hm I 535 g' w' F' := by
  unfold hm wrI
  funext a i
  unfold upR
  by_cases h1 : a = 535
  · simp [h1]
  · by_cases h2 : a = 536
    · simp [h2]
    · by_cases h3 : a = 70
      · subst h3
        simp only [h1, h2, if_false, if_true, reduceIte]
        unfold upd
        by_cases h4 : i = 38 <;> simp [h4]
      · simp [h1, h2, h3]
theorem zz5 (hI : Inv I) : ∀ i, 84 ≤ i → I 535 i = 0 := fun i hi => (iz hI i hi).2.2.2.2
theorem a246 (hI : Inv I) (ho : RO I g) : wpc (d + 7) 246 [.ref (70 : Nat), .ref (535 : Nat)] (mk n (scm (hm I 535 g w F) p) L x) Φ ↔ Φ (.inl none) (mk n (scm (hm I 535 (phR I g) (w + one7 (phW I g)) (hfF I g F)) (mwS (hm I 535 g w F) g (rng g (g 81)) p)) L x) := by
  have hv : view (hm I 535 g w F) = view I := view_hm (zz5 hI)
  have kr5 : KR 535 := Or.inr rfl
  rw [m246 (tr_MI hv hI.1) kr5 (tr_RO hv ho) hm_r]
  unfold heM
  rw [hm_hm, tr_pr hv, tr_pw hv, tr_hf hv, hm_w kr5, hm_F kr5]
theorem a239 (hI : Inv I) (ho : RO I g) : wpc d 239 [.ref (70 : Nat), .ref (535 : Nat)] (mk n (scm (hm I 535 g w F) p) L x) Φ ↔ Φ (.inl (some (.int (awk g)))) (mk n (scm (hm I 535 g w F) p) L x) := by
  have hv : view (scm (hm I 535 g w F) p) = view I := view_scm.trans (view_hm (zz5 hI))
  have hI2 := tr_Inv hv hI
  exact m239 (Or.inr rfl) hI2.1.2.1.1 (inv_s7 hI2) (tr_RO hv ho) (by rw [scm_ne (by decide) (by decide)]; exact hm_r)
theorem a254 (hI : Inv I) (ho : RO I g) : wpc d 254 [.ref (70 : Nat), .ref (535 : Nat)] (mk n (scm (hm I 535 g w F) p) L x) Φ ↔ Φ (.inl (some (.int (spt g)))) (mk n (scm (hm I 535 g w F) p) L x) := by
  have hv : view (scm (hm I 535 g w F) p) = view I := view_scm.trans (view_hm (zz5 hI))
  have hI2 := tr_Inv hv hI
  exact m254 (Or.inr rfl) hI2.1.2.1.2 (inv_c6 hI2) (tr_RO hv ho) (by rw [scm_ne (by decide) (by decide)]; exact hm_r)
theorem a255 (hI : Inv I) (ho : RO I g) : wpc d 255 [.ref (70 : Nat), .ref (535 : Nat)] (mk n (scm (hm I 535 g w F) p) L x) Φ ↔ Φ (.inl (some (.int (stf g)))) (mk n (scm (hm I 535 g w F) p) L x) := by
  have hv : view (scm (hm I 535 g w F) p) = view I := view_scm.trans (view_hm (zz5 hI))
  have hI2 := tr_Inv hv hI
  exact m255 (Or.inr rfl) hI2.1.2.1.2 (inv_c6 hI2) (tr_RO hv ho) (by rw [scm_ne (by decide) (by decide)]; exact hm_r)
theorem a245 (hI : Inv I) (ho : RO I g) : wpc d 245 [.ref (70 : Nat), .ref (535 : Nat)] (mk n (scm (hm I 535 g w F) p) L x) Φ ↔ Φ (.inl (some (.int (ldr g)))) (mk n (scm (hm I 535 g w F) p) L x) := by
  have hv : view (scm (hm I 535 g w F) p) = view I := view_scm.trans (view_hm (zz5 hI))
  have hI2 := tr_Inv hv hI
  have ho2 := tr_RO hv ho
  exact m245 (Or.inr rfl) hI2.1.2.1.1 (inv_s7 hI2) (fun s h1 h2 => (ho2.2.1 s h1 h2).1) (fun s h1 => (ho2.2.2.1 s h1).imp id (fun e => e.2)) (by rw [scm_ne (by decide) (by decide)]; exact hm_r)
theorem a244 (hI : Inv I) (ho : RO I g) (hh : h ≠ -1) : wpc d 244 [.ref (70 : Nat), .ref (535 : Nat), .int h] (mk n (scm (hm I 535 g w F) p) L x) Φ ↔ Φ (.inl (some (.int (rng g h)))) (mk n (scm (hm I 535 g w F) p) L x) := by
  have hv : view (scm (hm I 535 g w F) p) = view I := view_scm.trans (view_hm (zz5 hI))
  have hI2 := tr_Inv hv hI
  exact m244 (Or.inr rfl) hI2.1.2.1.2 (inv_c6 hI2) (tr_RO hv ho) (by rw [scm_ne (by decide) (by decide)]; exact hm_r) hh
theorem a242 (hI : Inv I) (ho : RO I g) : wpc (d + 6) 242 [.ref (70 : Nat), .ref (535 : Nat), .int clocks] (mk n (scm (hm I 535 g w F) p) L x) Φ ↔ Φ (.inl (some (.int (wkI I g clocks)))) (mk n (scm (hm I 535 g w F) (mwS (hm I 535 g w F) g clocks p)) L x) := by
  have hv : view (hm I 535 g w F) = view I := view_hm (zz5 hI)
  rw [m242 (tr_MI hv hI.1) (Or.inr rfl) (tr_RO hv ho) hm_r, tr_wk hv]
theorem hm_in (hI : Inv I) : upR I 535 (I 534) = scm (hm I 535 (I 41) (I 70 38) (I 536)) (I 451, I 452) := by
  rw [hI.2.1.2]
  unfold scm hm wrI
  funext a i
  unfold upR
  by_cases h1 : a = 535
  · simp [h1]
  · by_cases h2 : a = 536
    · simp [h2]
    · by_cases h3 : a = 70
      · subst h3
        simp [up_self]
      · by_cases h4 : a = 451
        · simp [h4]
        · by_cases h5 : a = 452
          · simp [h5]
          · simp [h1, h2, h3, h4, h5]
theorem m221 (hI : Inv I) : wpc d 221 [.ref (534 : Nat), .ref (535 : Nat)] (mk n I L x) Φ ↔ Φ (.inl none) (mk n (scm (hm I 535 (I 41) (I 70 38) (I 536)) (I 451, I 452)) L x) := by
  rw [← hm_in hI]
  have s535 : sh0 n 535 = (20, 84, []) := shR (Or.inr rfl)
  show wp d 221 0 [.ref (534 : Nat), .ref (535 : Nat), noV] [] (mk n I L x) Φ ↔ _
  simp (config := {decide := true}) only [r221_0, r221_1, if_true, if_false, Nat.reduceAdd, Int32.reduceToNatClampNeg, lo_i, lo_r, lo_n, kont_v, kont_n, List.length_nil, List.length_cons]
  have e0 := loopN (P := fun k g => wp d 221 2 [.ref (534 : Nat), .ref (535 : Nat), .int (nt k)] [] (mk n (upR I 535 g) L x) Φ) (Q := fun g => Φ (.inl none) (mk n (upR I 535 g) L x)) (n := 84) (f := fun k g => upd g k (I 534 k)) ?_ ?_ (I 535)
  · rw [upR_self] at e0
    refine e0.trans ?_
    have e1 : foldN (fun k g => upd g k (I 534 k)) 84 (I 535) = I 534 := by
      have key : ∀ m, m ≤ 84 → ∀ i, foldN (fun k g => upd g k (I 534 k)) m (I 535) i = if i < m then I 534 i else I 535 i := by
        intro m
        induction m with
        | zero => intro _ i; rfl
        | succ m ih =>
          intro hm i
          show upd (foldN (fun k g => upd g k (I 534 k)) m (I 535)) m (I 534 m) i = _
          by_cases hi : i = m
          · subst hi
            rw [up_same, if_pos (by omega)]
          · rw [up_ne hi, ih (by omega)]
            by_cases h2 : i < m
            · rw [if_pos h2, if_pos (by omega)]
            · rw [if_neg h2, if_neg (by omega)]
      funext i
      rw [key 84 (Nat.le_refl _)]
      split
      · rfl
      · rename_i hi
        rw [zz5 hI i (by omega), hI.2.1.2]
        unfold vc
        rw [if_neg (by omega), if_neg (by omega), if_neg (by omega), if_neg (by omega), if_neg (by omega)]
    rw [e1]
  · intro k g hk
    have e1 : ¬ ((84 : Int32) ≤ nt k) := nt_nle (m := 84) hk (by decide)
    have e2 : (nt k).toNatClampNeg = k := nt_clamp (by omega)
    have e3 : (0 : Int32) ≤ nt k := nt_ge (by omega)
    have u : upR I 535 g 534 = I 534 := upR_ne (by decide)
    rw [r221_2]
    simp (config := {decide := true}) only [r221_3, r221_5, r221_8, r221_9, r221_10, r221_11, r221_12, r221_13, r221_14, r221_17, r221_20, if_true, if_false, Nat.reduceAdd, Int32.reduceToNatClampNeg, lo_i, lo_r, lo_n, kont_v, kont_n, List.length_nil, List.length_cons, e1, e2, e3, hk, s534, s535, u, nt_succ, wr_up]
  · intro g
    rw [r221_2]
    simp (config := {decide := true}) only [r221_3, r221_5, r221_8, r221_9, r221_10, r221_11, r221_12, r221_13, r221_14, r221_17, r221_20, if_true, if_false, Nat.reduceAdd, Int32.reduceToNatClampNeg, lo_i, lo_r, lo_n, kont_v, kont_n, List.length_nil, List.length_cons]
theorem okM5 {A : Int32} (hI : Inv I) (h : resM n I L x Φ (.inl A)) (hz : I 70 0 = 0) : Φ (.inl (some (.int A))) (mk n (scm (hm I 535 g w F) p) L x) := by
  have hm9 : hm I 535 g w F 9 = I 9 := hm_ne (by decide) (by decide) (by decide)
  have hm72 : hm I 535 g w F 72 = I 72 := hm_ne (by decide) (by decide) (by decide)
  have hm70 : hm I 535 g w F 70 0 = I 70 0 := by
    unfold hm
    rw [upR_ne (by decide), upR_ne (by decide), wrI_at, up_ne (by decide)]
  refine h _ L (sm_trans ⟨view_hm (zz5 hI), hm9, hm72⟩ sm_scm) ?_ rfl
  rw [scm_ne (by decide) (by decide), hm70]
  exact hz
def ahV (w : Int32) (g : Nat → Int32) : Int32 := if w = 0 then awk g else if w = 1 then ldr g else spt g
def aAhead (I : Nat → Nat → Int32) (s : Int32) (w : Int32) : An := if 0 ≤ s ∧ s ≤ 99 then (if 0 ≤ w ∧ w ≤ 2 then (.inl ((ahV w (hrs I (I 41) s.toNatClampNeg) : Int32))) else .inr (2, 1)) else .inr (2, 1)
theorem t_aAhead {I J : Nat → Nat → Int32} {s w : Int32} (h : view J = view I) : aAhead J s w = aAhead I s w := by
  unfold aAhead
  simp only [t41 h, tr_hrs h]
theorem q146 (hI : Inv I) (hx : x + 1 ≤ 600) (h : resC n I L x Φ (aAhead I s w)) : wpc (d + 12) 146 [.ref (9 : Nat), .int s, .int w] (mk n I L x) Φ := by
  show wp (d + 12) 146 0 [.ref (9 : Nat), .int s, .int w, noV] [] (mk n I L x) Φ
  unfold aAhead at h
  have hC := hI.1.1
  by_cases g1 : 0 ≤ s ∧ s ≤ 99
  · rw [if_pos g1] at h
    by_cases g2 : 0 ≤ w ∧ w ≤ 2
    · rw [if_pos g2] at h
      obtain ⟨N, hN, rfl⟩ := rgN (N := 99) (by decide) g1
      rw [nt_clamp (k := N) (by omega)] at h
      simp (config := {decide := true}) only [r146_0, r146_1, r146_2, r146_3, r146_5, r146_8, r146_11, r146_12, r146_13, r146_14, r146_17, r146_20, r146_21, r146_24, r146_25, r146_28, r146_29, r146_32, r146_33, r146_36, r146_39, r146_40, if_true, if_false, Nat.reduceAdd, Int32.reduceToNatClampNeg, lo_i, lo_r, lo_n, kont_v, kont_n, List.length_nil, List.length_cons, and_self, and_true, true_and, and_false, false_and, not_true, not_false_eq_true, true_or, or_true, bi_eq0, c181 hx, c179 hx, c180 hx, c182, c183, kx, g1, g2, k40, k42, c42 k42 k40, cp43 hI]
      refine loopDJ (P := fun k g => ∀ q, wp (d + 12) 146 41 [.ref (9 : Nat), .int (nt N), .int w, .int (nt k)] [] (mk n (scr (upR I 43 g) q) L x) Φ) (J := fun _ g => ∀ i, 84 ≤ i → g i = 0) (Q := fun g => ∀ q, (∀ i, 84 ≤ i → g i = 0) → Φ (.inl (some (.int (ahV w g)))) (mk n (scr (upR I 43 g) q) L x)) (n := N) (f := fun _ g => phR I g) ?_ ?_ (I 41) (hi41 hI) (fun q hg => h _ (sm43 hI hg)) (upR I 43 (I 41) 26, upR I 43 (I 41) 27) |> fun hh => by rw [scr_self] at hh; exact hh
      · intro k g hk hJ
        refine ⟨fun i hi => by rw [ph_hi hi]; exact hJ i hi, fun hn q => ?_⟩
        have e1 : ¬ (nt N ≤ nt k) := nt_nle hk (by omega)
        rw [r146_41]
        simp (config := {decide := true}) only [r146_42, r146_43, r146_46, r146_47, r146_50, r146_51, r146_54, r146_57, r146_58, r146_61, if_true, if_false, Nat.reduceAdd, Int32.reduceToNatClampNeg, lo_i, lo_r, lo_n, kont_v, kont_n, List.length_nil, List.length_cons, k42, e1, a25 hI hJ, nt_succ]
        exact hn _
      · intro g hJ hq q
        replace hq := hq q hJ
        have e6 : nt N ≤ nt N := Int32.le_refl _
        have u43 : ∀ q, scr (upR I 43 g) q 43 = g := fun q => by rw [scr_ne (by decide) (by decide), upR_same]
        rw [r146_41]
        simp (config := {decide := true}) only [r146_42, r146_43, r146_46, r146_47, r146_50, r146_51, r146_54, r146_57, r146_58, r146_61, r146_64, if_true, if_false, Nat.reduceAdd, Int32.reduceToNatClampNeg, lo_i, lo_r, lo_n, kont_v, kont_n, List.length_nil, List.length_cons, e6]
        obtain ⟨k, hk, rfl⟩ := rgN (N := 2) (by decide) g2
        match k, hk with
        | 0, _ =>
          rw [r146_65 92 rfl]
          simp (config := {decide := true}) only [r146_92, r146_93, r146_96, r146_99, if_true, if_false, Nat.reduceAdd, Int32.reduceToNatClampNeg, lo_i, lo_r, lo_n, kont_v, kont_n, List.length_nil, List.length_cons, k42, c55 k42, u43]
          exact hq
        | 1, _ =>
          rw [r146_65 100 rfl]
          simp (config := {decide := true}) only [r146_100, r146_101, r146_104, r146_107, if_true, if_false, Nat.reduceAdd, Int32.reduceToNatClampNeg, lo_i, lo_r, lo_n, kont_v, kont_n, List.length_nil, List.length_cons, k42, c57 k42, u43]
          exact hq
        | 2, _ =>
          rw [r146_65 108 rfl]
          simp (config := {decide := true}) only [r146_108, r146_109, r146_112, r146_115, if_true, if_false, Nat.reduceAdd, Int32.reduceToNatClampNeg, lo_i, lo_r, lo_n, kont_v, kont_n, List.length_nil, List.length_cons, k42, c63 k42, u43]
          exact hq
    · rw [if_neg g2] at h
      simp (config := {decide := true}) only [r146_0, r146_1, r146_2, r146_3, r146_5, r146_8, r146_11, r146_12, r146_13, r146_14, r146_17, r146_20, r146_21, r146_24, r146_25, r146_28, r146_29, r146_32, r146_33, r146_36, r146_39, r146_40, r146_41, r146_42, r146_43, r146_46, r146_47, r146_50, r146_51, r146_54, r146_57, r146_58, r146_61, r146_64, r146_92, r146_93, r146_96, r146_99, r146_100, r146_101, r146_104, r146_107, r146_108, r146_109, r146_112, r146_115, if_true, if_false, Nat.reduceAdd, Int32.reduceToNatClampNeg, lo_i, lo_r, lo_n, kont_v, kont_n, List.length_nil, List.length_cons, and_self, and_true, true_and, and_false, false_and, not_true, not_false_eq_true, true_or, or_true, bi_eq0, c181 hx, c179 hx, c180 hx, c182, c183, kx, g1, g2]
      exact exC2 h
  · rw [if_neg g1] at h
    simp (config := {decide := true}) only [r146_0, r146_1, r146_2, r146_3, r146_5, r146_8, r146_11, r146_12, r146_13, r146_14, r146_17, r146_20, r146_21, r146_24, r146_25, r146_28, r146_29, r146_32, r146_33, r146_36, r146_39, r146_40, r146_41, r146_42, r146_43, r146_46, r146_47, r146_50, r146_51, r146_54, r146_57, r146_58, r146_61, r146_64, r146_92, r146_93, r146_96, r146_99, r146_100, r146_101, r146_104, r146_107, r146_108, r146_109, r146_112, r146_115, if_true, if_false, Nat.reduceAdd, Int32.reduceToNatClampNeg, lo_i, lo_r, lo_n, kont_v, kont_n, List.length_nil, List.length_cons, and_self, and_true, true_and, and_false, false_and, not_true, not_false_eq_true, true_or, or_true, bi_eq0, c181 hx, c179 hx, c180 hx, c182, c183, kx, g1]
    exact exC2 h
theorem u269 (hI : Inv I) (h : resM n I L x Φ (aAhead I s w)) : wpc (d + 12) 269 [.ref (70 : Nat), .int s, .int w] (mk n I L x) Φ := by
  show wp (d + 12) 269 0 [.ref (70 : Nat), .int s, .int w, noV] [] (mk n I L x) Φ
  rw [r269_0, r269_1, r269_2]
  replace h := resM_z h
  rw [← t_aAhead v70] at h
  replace hI := tr_Inv v70 hI
  have hz := z70 (I := I)
  generalize wrI I 70 0 0 = I at h hI hz ⊢
  unfold aAhead at h
  have hM := hI.1
  by_cases g1 : 0 ≤ s ∧ s ≤ 99
  · rw [if_pos g1] at h
    by_cases g2 : 0 ≤ w ∧ w ≤ 2
    · rw [if_pos g2] at h
      obtain ⟨N, hN, rfl⟩ := rgN (N := 99) (by decide) g1
      rw [nt_clamp (k := N) (by omega)] at h
      simp (config := {decide := true}) only [r269_5, r269_6, r269_7, r269_8, r269_10, r269_13, r269_16, r269_17, r269_18, r269_19, r269_22, r269_25, r269_26, r269_29, r269_30, r269_31, r269_32, r269_35, r269_38, r269_39, r269_40, r269_41, r269_44, r269_45, r269_48, r269_51, r269_52, if_true, if_false, Nat.reduceAdd, Int32.reduceToNatClampNeg, lo_i, lo_r, lo_n, kont_v, kont_n, List.length_nil, List.length_cons, and_self, and_true, true_and, and_false, false_and, not_true, not_false_eq_true, true_or, or_true, bi_eq0, b10 hz, b11 hz, b21 hz, m194, m259, g1, g2, m221 hI]
      refine loopDJ (P := fun k g => ∀ w2 F q, wp (d + 12) 269 53 [.ref (70 : Nat), .int (nt N), .int w, .int (nt k)] [] (mk n (scm (hm I 535 g w2 F) q) L x) Φ) (J := fun _ g => RO I g) (Q := fun g => ∀ w2 F q, Φ (.inl (some (.int (ahV w g)))) (mk n (scm (hm I 535 g w2 F) q) L x)) (n := N) (f := fun _ g => phR I g) ?_ ?_ (I 41) hI.2.1.1 (fun w2 F q => okM5 hI h hz) (I 70 38) (I 536) (I 451, I 452)
      · intro k g hk hJ
        refine ⟨ro_ph (inv_s7 hI) hJ, fun hn w2 F q => ?_⟩
        have e1 : ¬ (nt N ≤ nt k) := nt_nle hk (by omega)
        rw [r269_53]
        simp (config := {decide := true}) only [r269_54, r269_55, r269_58, r269_59, r269_60, r269_63, r269_66, r269_69, if_true, if_false, Nat.reduceAdd, Int32.reduceToNatClampNeg, lo_i, lo_r, lo_n, kont_v, kont_n, List.length_nil, List.length_cons, e1, a246 hI hJ, nt_succ]
        exact hn _ _ _
      · intro g hJ hq w2 F q
        replace hq := hq w2 F q
        have e6 : nt N ≤ nt N := Int32.le_refl _
        rw [r269_53]
        obtain ⟨k, hk, rfl⟩ := rgN (N := 2) (by decide) g2
        match k, hk with
        | 0, _ =>
          simp (config := {decide := true}) only [r269_54, r269_55, r269_58, r269_59, r269_60, r269_63, r269_66, r269_69, r269_72, r269_73, r269_76, r269_77, r269_78, r269_81, r269_84, r269_87, r269_88, r269_89, r269_92, r269_93, r269_94, r269_97, r269_100, r269_103, r269_104, r269_105, r269_108, r269_111, if_true, if_false, Nat.reduceAdd, Int32.reduceToNatClampNeg, lo_i, lo_r, lo_n, kont_v, kont_n, List.length_nil, List.length_cons, e6, a239 hI hJ]
          exact hq
        | 1, _ =>
          simp (config := {decide := true}) only [r269_54, r269_55, r269_58, r269_59, r269_60, r269_63, r269_66, r269_69, r269_72, r269_73, r269_76, r269_77, r269_78, r269_81, r269_84, r269_87, r269_88, r269_89, r269_92, r269_93, r269_94, r269_97, r269_100, r269_103, r269_104, r269_105, r269_108, r269_111, if_true, if_false, Nat.reduceAdd, Int32.reduceToNatClampNeg, lo_i, lo_r, lo_n, kont_v, kont_n, List.length_nil, List.length_cons, e6, a245 hI hJ]
          exact hq
        | 2, _ =>
          simp (config := {decide := true}) only [r269_54, r269_55, r269_58, r269_59, r269_60, r269_63, r269_66, r269_69, r269_72, r269_73, r269_76, r269_77, r269_78, r269_81, r269_84, r269_87, r269_88, r269_89, r269_92, r269_93, r269_94, r269_97, r269_100, r269_103, r269_104, r269_105, r269_108, r269_111, if_true, if_false, Nat.reduceAdd, Int32.reduceToNatClampNeg, lo_i, lo_r, lo_n, kont_v, kont_n, List.length_nil, List.length_cons, e6, a254 hI hJ]
          exact hq
    · rw [if_neg g2] at h
      simp (config := {decide := true}) only [r269_5, r269_6, r269_7, r269_8, r269_10, r269_13, r269_16, r269_17, r269_18, r269_19, r269_22, r269_25, r269_26, r269_29, r269_30, r269_31, r269_32, r269_35, r269_38, r269_39, r269_40, r269_41, r269_44, r269_45, r269_48, r269_51, r269_52, r269_53, r269_54, r269_55, r269_58, r269_59, r269_60, r269_63, r269_66, r269_69, r269_72, r269_73, r269_76, r269_77, r269_78, r269_81, r269_84, r269_87, r269_88, r269_89, r269_92, r269_93, r269_94, r269_97, r269_100, r269_103, r269_104, r269_105, r269_108, r269_111, if_true, if_false, Nat.reduceAdd, Int32.reduceToNatClampNeg, lo_i, lo_r, lo_n, kont_v, kont_n, List.length_nil, List.length_cons, and_self, and_true, true_and, and_false, false_and, not_true, not_false_eq_true, true_or, or_true, bi_eq0, b10 hz, b11 hz, b21 hz, m194, m259, m257 hI, m258 hI, m266 hI, m274 hI, g1, g2]
      exact exM h
  · rw [if_neg g1] at h
    simp (config := {decide := true}) only [r269_5, r269_6, r269_7, r269_8, r269_10, r269_13, r269_16, r269_17, r269_18, r269_19, r269_22, r269_25, r269_26, r269_29, r269_30, r269_31, r269_32, r269_35, r269_38, r269_39, r269_40, r269_41, r269_44, r269_45, r269_48, r269_51, r269_52, r269_53, r269_54, r269_55, r269_58, r269_59, r269_60, r269_63, r269_66, r269_69, r269_72, r269_73, r269_76, r269_77, r269_78, r269_81, r269_84, r269_87, r269_88, r269_89, r269_92, r269_93, r269_94, r269_97, r269_100, r269_103, r269_104, r269_105, r269_108, r269_111, if_true, if_false, Nat.reduceAdd, Int32.reduceToNatClampNeg, lo_i, lo_r, lo_n, kont_v, kont_n, List.length_nil, List.length_cons, and_self, and_true, true_and, and_false, false_and, not_true, not_false_eq_true, true_or, or_true, bi_eq0, b10 hz, b11 hz, b21 hz, m194, m259, m257 hI, m258 hI, m266 hI, m274 hI, g1]
    exact exM h
def waF (I : Nat → Nat → Int32) (s : Int32) (k : Nat) (g : Nat → Int32) : (Nat → Int32) ⊕ Int32 := if phW I g >>> (s &&& 31) &&& 1 = 1 then .inr (nt (k + 1)) else .inl (phR I g)
theorem tr_wa (h : view J = view I) : waF J = waF I := by
  funext s k g
  unfold waF
  rw [tr_pw h, tr_pr h]
def waV (r : (Nat → Int32) ⊕ Int32) : Int32 := match r with
  | .inl _ => -1
  | .inr v => v
theorem loopFJ {α ρ : Type} {P J : Nat → α → Prop} {Q : α → Prop} {R : ρ → Prop} {f : Nat → α → α ⊕ ρ} {n : Nat} (hs : ∀ k a, k < n → J k a → sumE (fun a' => J (k + 1) a' ∧ (P (k + 1) a' → P k a)) (fun r => R r → P k a) (f k a)) (he : ∀ a, J n a → Q a → P n a) : ∀ (m k : Nat) (a : α), k + m = n → J k a → sumE Q R (foldE f m k a) → P k a := by
  intro m
  induction m with
  | zero =>
    intro k a h hJ hq
    have : k = n := by omega
    subst this
    exact he a hJ hq
  | succ m ih =>
    intro k a h hJ hq
    have h2 := hs k a (by omega) hJ
    unfold foldE at hq
    cases hf : f k a with
    | inl a' =>
      rw [hf] at hq h2
      exact h2.2 (ih (k + 1) a' (by omega) h2.1 hq)
    | inr r =>
      rw [hf] at hq h2
      exact h2 hq
def aWakes (I : Nat → Nat → Int32) (s : Int32) : An := if 0 ≤ s ∧ s ≤ I 12 5 - 1 then (.inl ((waV (foldE (waF I s) 48 0 (I 41)) : Int32))) else .inr (1, 1)
theorem t_aWakes {I J : Nat → Nat → Int32} {s : Int32} (h : view J = view I) : aWakes J s = aWakes I s := by
  unfold aWakes
  simp only [t12 h, t41 h, tr_wa h]
theorem q147 (hI : Inv I) (hx : x + 1 ≤ 600) (h : resC n I L x Φ (aWakes I s)) : wpc (d + 12) 147 [.ref (9 : Nat), .int s] (mk n I L x) Φ := by
  show wp (d + 12) 147 0 [.ref (9 : Nat), .int s, noV] [] (mk n I L x) Φ
  unfold aWakes at h
  have hC := hI.1.1
  by_cases g1 : 0 ≤ s ∧ s ≤ I 12 5 - 1
  · rw [if_pos g1] at h
    simp (config := {decide := true}) only [r147_0, r147_1, r147_2, r147_5, r147_6, r147_9, r147_10, r147_13, r147_16, r147_17, if_true, if_false, Nat.reduceAdd, Int32.reduceToNatClampNeg, lo_i, lo_r, lo_n, kont_v, kont_n, List.length_nil, List.length_cons, and_self, and_true, true_and, and_false, false_and, not_true, not_false_eq_true, true_or, or_true, bi_eq0, c181 hx, c179 hx, c180 hx, c182, c183, kx, g1, k40, k42, c42 k42 k40, cp43 hI]
    have hh : sumE (fun g => ∀ q, (∀ i, 84 ≤ i → g i = 0) → Φ (.inl (some (.int (-1)))) (mk n (scr (upR I 43 g) q) L x)) (fun r => ∀ g q, (∀ i, 84 ≤ i → g i = 0) → Φ (.inl (some (.int r))) (mk n (scr (upR I 43 g) q) L x)) (foldE (waF I s) 48 0 (I 41)) := by
      unfold waV at h
      revert h
      cases foldE (waF I s) 48 0 (I 41) with
      | inl g => exact fun h q hg => h _ (sm43 hI hg)
      | inr r => exact fun h g q hg => h _ (sm43 hI hg)
    refine loopFJ (P := fun k g => ∀ q, wp (d + 12) 147 18 [.ref (9 : Nat), .int s, .int (nt (k + 1))] [] (mk n (scr (upR I 43 g) q) L x) Φ) (J := fun _ g => ∀ i, 84 ≤ i → g i = 0) (Q := fun g => ∀ q, (∀ i, 84 ≤ i → g i = 0) → Φ (.inl (some (.int (-1)))) (mk n (scr (upR I 43 g) q) L x)) (R := fun r => ∀ g q, (∀ i, 84 ≤ i → g i = 0) → Φ (.inl (some (.int r))) (mk n (scr (upR I 43 g) q) L x)) (f := waF I s) (n := 48) ?_ ?_ 48 0 (I 41) rfl (hi41 hI) hh (upR I 43 (I 41) 26, upR I 43 (I 41) 27) |> fun hh => by rw [scr_self] at hh; exact hh
    · intro k g hk hJ
      have e1 : ¬ ((48 : Int32) < nt (k + 1)) := by rw [show (48 : Int32) = nt 48 from rfl, nt_lt (by decide) (by omega)]; omega
      have hJ2 : ∀ i, 84 ≤ i → phR I g i = 0 := fun i hi => by rw [ph_hi hi]; exact hJ i hi
      unfold waF
      by_cases h1 : phW I g >>> (s &&& 31) &&& 1 = 1
      · rw [if_pos h1]
        intro hr q
        rw [r147_18]
        simp (config := {decide := true}) only [r147_19, r147_21, r147_24, r147_25, r147_28, r147_29, r147_32, r147_35, r147_36, r147_39, r147_42, r147_43, r147_44, r147_47, r147_50, r147_51, if_true, if_false, Nat.reduceAdd, Int32.reduceToNatClampNeg, lo_i, lo_r, lo_n, kont_v, kont_n, List.length_nil, List.length_cons, and_self, and_true, true_and, and_false, false_and, not_true, not_false_eq_true, true_or, or_true, bi_eq0, k42, e1, a25 hI hJ, c184, h1]
        exact hr _ _ hJ2
      · rw [if_neg h1]
        refine ⟨hJ2, fun hn q => ?_⟩
        rw [r147_18]
        simp (config := {decide := true}) only [r147_19, r147_21, r147_24, r147_25, r147_28, r147_29, r147_32, r147_35, r147_36, r147_39, r147_42, r147_43, r147_44, r147_47, r147_50, r147_51, if_true, if_false, Nat.reduceAdd, Int32.reduceToNatClampNeg, lo_i, lo_r, lo_n, kont_v, kont_n, List.length_nil, List.length_cons, and_self, and_true, true_and, and_false, false_and, not_true, not_false_eq_true, true_or, or_true, bi_eq0, k42, e1, a25 hI hJ, c184, h1, nt_succ]
        exact hn _
    · intro g hJ hq q
      rw [r147_18]
      simp (config := {decide := true}) only [r147_19, r147_21, r147_24, r147_25, r147_28, r147_29, r147_32, r147_35, r147_36, r147_39, r147_42, r147_43, r147_44, r147_47, r147_50, r147_51, if_true, if_false, Nat.reduceAdd, Int32.reduceToNatClampNeg, lo_i, lo_r, lo_n, kont_v, kont_n, List.length_nil, List.length_cons, and_self, and_true, true_and, and_false, false_and, not_true, not_false_eq_true, true_or, or_true, bi_eq0]
      exact hq q hJ
  · rw [if_neg g1] at h
    simp (config := {decide := true}) only [r147_0, r147_1, r147_2, r147_5, r147_6, r147_9, r147_10, r147_13, r147_16, r147_17, r147_18, r147_19, r147_21, r147_24, r147_25, r147_28, r147_29, r147_32, r147_35, r147_36, r147_39, r147_42, r147_43, r147_44, r147_47, r147_50, r147_51, if_true, if_false, Nat.reduceAdd, Int32.reduceToNatClampNeg, lo_i, lo_r, lo_n, kont_v, kont_n, List.length_nil, List.length_cons, and_self, and_true, true_and, and_false, false_and, not_true, not_false_eq_true, true_or, or_true, bi_eq0, c181 hx, c179 hx, c180 hx, c182, c183, kx, g1]
    exact exC1 h
theorem u270 (hI : Inv I) (h : resM n I L x Φ (aWakes I s)) : wpc (d + 12) 270 [.ref (70 : Nat), .int s] (mk n I L x) Φ := by
  show wp (d + 12) 270 0 [.ref (70 : Nat), .int s, noV] [] (mk n I L x) Φ
  rw [r270_0, r270_1, r270_2]
  replace h := resM_z h
  rw [← t_aWakes v70] at h
  replace hI := tr_Inv v70 hI
  have hz := z70 (I := I)
  generalize wrI I 70 0 0 = I at h hI hz ⊢
  unfold aWakes at h
  have hM := hI.1
  by_cases g1 : 0 ≤ s ∧ s ≤ I 12 5 - 1
  · rw [if_pos g1] at h
    simp (config := {decide := true}) only [r270_5, r270_6, r270_7, r270_8, r270_11, r270_14, r270_15, r270_18, r270_19, r270_20, r270_21, r270_24, r270_27, r270_28, r270_29, r270_30, r270_33, r270_34, r270_37, r270_40, r270_41, if_true, if_false, Nat.reduceAdd, Int32.reduceToNatClampNeg, lo_i, lo_r, lo_n, kont_v, kont_n, List.length_nil, List.length_cons, and_self, and_true, true_and, and_false, false_and, not_true, not_false_eq_true, true_or, or_true, bi_eq0, b10 hz, b11 hz, b21 hz, m194, m259, m257 hI, g1, m221 hI]
    have hh : sumE (fun g => ∀ w2 F q, Φ (.inl (some (.int (-1)))) (mk n (scm (hm I 535 g w2 F) q) L x)) (fun r => ∀ g w2 F q, Φ (.inl (some (.int r))) (mk n (scm (hm I 535 g w2 F) q) L x)) (foldE (waF I s) 48 0 (I 41)) := by
      unfold waV at h
      revert h
      cases foldE (waF I s) 48 0 (I 41) with
      | inl g => exact fun h w2 F q => okM5 hI h hz
      | inr r => exact fun h g w2 F q => okM5 hI h hz
    refine loopFJ (P := fun k g => ∀ w2 F q, wp (d + 12) 270 42 [.ref (70 : Nat), .int s, .int (nt (k + 1))] [] (mk n (scm (hm I 535 g w2 F) q) L x) Φ) (J := fun _ g => RO I g) (Q := fun g => ∀ w2 F q, Φ (.inl (some (.int (-1)))) (mk n (scm (hm I 535 g w2 F) q) L x)) (R := fun r => ∀ g w2 F q, Φ (.inl (some (.int r))) (mk n (scm (hm I 535 g w2 F) q) L x)) (f := waF I s) (n := 48) ?_ ?_ 48 0 (I 41) rfl hI.2.1.1 hh (I 70 38) (I 536) (I 451, I 452)
    · intro k g hk hJ
      have e1 : ¬ ((48 : Int32) < nt (k + 1)) := by rw [show (48 : Int32) = nt 48 from rfl, nt_lt (by decide) (by omega)]; omega
      have e2 : g 81 ≠ -1 := fun e => absurd (e ▸ hJ.2.2.2.1.1) (by decide)
      have s535 : sh0 n 535 = (20, 84, []) := shR (Or.inr rfl)
      have u : ∀ w2 F q, scm (hm I 535 g w2 F) q 535 = vc g := fun w2 F q => by rw [scm_ne (by decide) (by decide)]; exact hm_r
      unfold waF
      by_cases h1 : phW I g >>> (s &&& 31) &&& 1 = 1
      · have h2 : wkI I g (rng g (g 81)) >>> (s &&& 31) &&& 1 = 1 := h1
        rw [if_pos h1]
        intro hr w2 F q
        rw [r270_42]
        simp (config := {decide := true}) only [r270_43, r270_45, r270_48, r270_49, r270_50, r270_53, r270_54, r270_55, r270_58, r270_59, r270_62, r270_64, r270_65, r270_68, r270_71, r270_72, r270_75, r270_78, r270_79, r270_80, r270_81, r270_82, r270_85, r270_88, r270_91, r270_94, r270_95, if_true, if_false, Nat.reduceAdd, Int32.reduceToNatClampNeg, lo_i, lo_r, lo_n, kont_v, kont_n, List.length_nil, List.length_cons, and_self, and_true, true_and, and_false, false_and, not_true, not_false_eq_true, true_or, or_true, bi_eq0, e1, s535, u, vc_82, a244 hI hJ e2, a242 hI hJ, m197, h2]
        exact hr _ _ _ _
      · have h2 : ¬ wkI I g (rng g (g 81)) >>> (s &&& 31) &&& 1 = 1 := h1
        rw [if_neg h1]
        refine ⟨ro_ph (inv_s7 hI) hJ, fun hn w2 F q => ?_⟩
        rw [r270_42]
        simp (config := {decide := true}) only [r270_43, r270_45, r270_48, r270_49, r270_50, r270_53, r270_54, r270_55, r270_58, r270_59, r270_62, r270_64, r270_65, r270_68, r270_71, r270_72, r270_75, r270_78, r270_79, r270_80, r270_81, r270_82, r270_85, r270_88, r270_91, r270_94, r270_95, if_true, if_false, Nat.reduceAdd, Int32.reduceToNatClampNeg, lo_i, lo_r, lo_n, kont_v, kont_n, List.length_nil, List.length_cons, and_self, and_true, true_and, and_false, false_and, not_true, not_false_eq_true, true_or, or_true, bi_eq0, e1, s535, u, vc_82, a244 hI hJ e2, a242 hI hJ, m197, h2, a246 hI hJ, nt_succ]
        exact hn _ _ _
    · intro g hJ hq w2 F q
      rw [r270_42]
      simp (config := {decide := true}) only [r270_43, r270_45, r270_48, r270_49, r270_50, r270_53, r270_54, r270_55, r270_58, r270_59, r270_62, r270_64, r270_65, r270_68, r270_71, r270_72, r270_75, r270_78, r270_79, r270_80, r270_81, r270_82, r270_85, r270_88, r270_91, r270_94, r270_95, if_true, if_false, Nat.reduceAdd, Int32.reduceToNatClampNeg, lo_i, lo_r, lo_n, kont_v, kont_n, List.length_nil, List.length_cons, and_self, and_true, true_and, and_false, false_and, not_true, not_false_eq_true, true_or, or_true, bi_eq0]
      exact hq w2 F q
  · rw [if_neg g1] at h
    simp (config := {decide := true}) only [r270_5, r270_6, r270_7, r270_8, r270_11, r270_14, r270_15, r270_18, r270_19, r270_20, r270_21, r270_24, r270_27, r270_28, r270_29, r270_30, r270_33, r270_34, r270_37, r270_40, r270_41, r270_42, r270_43, r270_45, r270_48, r270_49, r270_50, r270_53, r270_54, r270_55, r270_58, r270_59, r270_62, r270_64, r270_65, r270_68, r270_71, r270_72, r270_75, r270_78, r270_79, r270_80, r270_81, r270_82, r270_85, r270_88, r270_91, r270_94, r270_95, if_true, if_false, Nat.reduceAdd, Int32.reduceToNatClampNeg, lo_i, lo_r, lo_n, kont_v, kont_n, List.length_nil, List.length_cons, and_self, and_true, true_and, and_false, false_and, not_true, not_false_eq_true, true_or, or_true, bi_eq0, b10 hz, b11 hz, b21 hz, m194, m259, m257 hI, m258 hI, m266 hI, m274 hI, g1]
    exact exM h
theorem ph_set {c : Nat} (hc : c < 6) : phR I f (6 + c) = f (6 + c) := by
  unfold phR trn
  have e0 : ∀ i, 6 ≤ i → i < 60 → wkn (phW I f) (spd (rng f (f 81)) f) i = f i := fun i h1 h2 => by rw [wkn_at _ _ _ (Or.inl h2), spd_at _ _ _ h1]
  have e1 := e0 (6 + c) (by omega) (by omega)
  have el := ldr_rng (wkn (phW I f) (spd (rng f (f 81)) f))
  generalize wkn (phW I f) (spd (rng f (f 81)) f) = g at e1 el
  split
  · dsimp only
    rw [up_ne (by omega), up_ne (by omega), slp_at, if_neg (by omega)]
    split
    · exact e1
    · rcases el with el | ⟨j, hj, el, _⟩
      · rename_i hn; exact absurd el hn
      · rw [el, show (74 : Int32) = nt 74 from rfl, st_b 74 (by omega) (by decide), up_ne (by omega)]; exact e1
  · rw [up_ne (by omega)]; exact e1
theorem ph_spr {c : Nat} (hc : c < 6) : phR I f c = f c - (if f (6 + c) = f 81 ∧ ¬ f c ≤ 0 then 1 else 0) := by
  unfold phR trn
  have e1 : wkn (phW I f) (spd (rng f (f 81)) f) c = f c - (if f (6 + c) = f 81 ∧ ¬ f c ≤ 0 then 1 else 0) := by rw [wkn_at _ _ _ (Or.inl (by omega)), spd_lo hc, rng_bit hc]
  have el := ldr_rng (wkn (phW I f) (spd (rng f (f 81)) f))
  generalize wkn (phW I f) (spd (rng f (f 81)) f) = g at e1 el
  split
  · dsimp only
    rw [up_ne (by omega), up_ne (by omega), slp_at, if_neg (by omega)]
    split
    · exact e1
    · rcases el with el | ⟨j, hj, el, _⟩
      · rename_i hn; exact absurd el hn
      · rw [el, show (74 : Int32) = nt 74 from rfl, st_b 74 (by omega) (by decide), up_ne (by omega)]; exact e1
  · rw [up_ne (by omega)]; exact e1
theorem ph_hour : phR I f 81 = if 23 ≤ f 81 then 0 else f 81 + 1 := by
  unfold phR trn
  have e1 : wkn (phW I f) (spd (rng f (f 81)) f) 81 = f 81 := by rw [wkn_at _ _ _ (Or.inr (by omega)), spd_at _ _ _ (by omega)]
  generalize wkn (phW I f) (spd (rng f (f 81)) f) = g at e1
  rw [e1]
  split
  · dsimp only
    rw [up_ne (by decide), up_same]
  · rw [up_same]
def hit (h t : Nat) (k : Nat) : Nat := foldN (fun i m => if (h + i) % 24 = t then m + 1 else m) k 0
theorem hit_s (h t k : Nat) : hit h t (k + 1) = if (h + k) % 24 = t then hit h t k + 1 else hit h t k := rfl
theorem hit48 : ∀ h, h < 24 → ∀ t, t < 24 → hit h t 48 = 2 := by decide +kernel
theorem hit_no (h : Nat) : ∀ k, hit h 24 k = 0
  | 0 => rfl
  | k + 1 => by
    rw [hit_s, if_neg (by omega), hit_no h k]
theorem lasts_sim {c h s t : Nat} (hc : c < 6) (hh : h < 24) (hs : s ≤ 20) (ht : t ≤ 24) (h1 : f 81 = nt h) (h2 : f c = nt s) (h3 : f (6 + c) = if t = 24 then -1 else nt t) : ∀ k, hrs I f k 81 = nt ((h + k) % 24) ∧ hrs I f k c = nt (s - hit h t k) ∧ hrs I f k (6 + c) = f (6 + c)
  | 0 => ⟨by rw [Nat.add_zero, Nat.mod_eq_of_lt hh]; exact h1, h2, rfl⟩
  | k + 1 => by
    obtain ⟨i1, i2, i3⟩ := lasts_sim hc hh hs ht h1 h2 h3 k
    rw [hrs_s]
    have hm : (h + k) % 24 < 24 := Nat.mod_lt _ (by decide)
    refine ⟨?_, ?_, ?_⟩
    · rw [ph_hour, i1]
      have q0 : ((23 : Int32) ≤ nt ((h + k) % 24)) = (23 ≤ (h + k) % 24) := nt_le (by decide) (by omega)
      by_cases q : 23 ≤ (h + k) % 24
      · have e : (h + (k + 1)) % 24 = 0 := by omega
        rw [if_pos (by rw [q0]; exact q), e]; rfl
      · have e : (h + (k + 1)) % 24 = (h + k) % 24 + 1 := by omega
        rw [if_neg (by rw [q0]; exact q), e, nt_succ]
    · rw [ph_spr hc, i1, i2, i3, h3, hit_s]
      by_cases hb : (h + k) % 24 = t
      · have ht2 : ¬ t = 24 := by omega
        rw [if_neg ht2, hb, if_pos rfl]
        by_cases hp : nt (s - hit h t k) ≤ 0
        · rw [if_neg (fun e => e.2 hp), Int32.sub_zero]
          rw [show (0 : Int32) = nt 0 from rfl, nt_le (by omega) (by decide)] at hp
          congr 1
          try omega
        · rw [if_pos ⟨rfl, hp⟩]
          rw [show (0 : Int32) = nt 0 from rfl, nt_le (by omega) (by decide)] at hp
          rw [nt_sub1 (by omega)]
          congr 1
          try omega
      · rw [if_neg hb]
        have e : ¬ ((if t = 24 then (-1 : Int32) else nt t) = nt ((h + k) % 24) ∧ ¬ nt (s - hit h t k) ≤ 0) := by
          intro e
          have e := e.1
          split at e
          · exact nt_m1 (by omega) e.symm
          · rw [nt_inj (by omega) (by omega)] at e; omega
        rw [if_neg e, Int32.sub_zero]
    · rw [ph_set hc, i3]
theorem lasts_val {c : Nat} (ho : RO I f) (hc : c < 6) : f c - hrs I f 48 c = if f (6 + c) = -1 then 0 else mni 2 (f c) := by
  obtain ⟨u1, u2⟩ := ho.2.2.2.1
  obtain ⟨u3, u4⟩ := int_nt u1
  obtain ⟨v1, v2⟩ := ho.2.2.2.2.2.1 c hc
  obtain ⟨v3, v4⟩ := int_nt v1
  rw [u3, show (24 : Int32) = nt 24 from rfl, nt_lt u4 (by decide)] at u2
  rw [v3, show (20 : Int32) = nt 20 from rfl, nt_le v4 (by decide)] at v2
  rcases ho.2.2.2.2.2.2 c hc with hn | ⟨w1, w2⟩
  · have h := (lasts_sim (I := I) hc u2 v2 (Nat.le_refl 24) u3 v3 (by rw [if_pos rfl]; exact hn) 48).2.1
    rw [hit_no, Nat.sub_zero] at h
    rw [h, if_pos hn, ← v3, Int32.sub_self]
  · obtain ⟨w3, w4⟩ := int_nt w1
    rw [w3, show (24 : Int32) = nt 24 from rfl, nt_lt w4 (by decide)] at w2
    have hne : f (6 + c) ≠ -1 := fun e => absurd (e ▸ w1) (by decide)
    have h := (lasts_sim (I := I) hc u2 v2 (Nat.le_of_lt w2) u3 v3 (by rw [if_neg (by omega)]; exact w3) 48).2.1
    rw [hit48 _ u2 _ w2] at h
    have e : ∀ s, s ≤ 20 → nt s - nt (s - 2) = mni 2 (nt s) := by decide
    have e2 := e _ v2
    rw [← v3] at e2
    rw [h, if_neg hne]
    exact e2
def aLasts (I : Nat → Nat → Int32) (s : Int32) : An := if 0 ≤ s ∧ s ≤ I 12 6 - 1 then (.inl ((if I 41 (6 + s.toNatClampNeg) = -1 then 0 else mni 2 (I 41 s.toNatClampNeg) : Int32))) else .inr (1, 1)
theorem t_aLasts {I J : Nat → Nat → Int32} {s : Int32} (h : view J = view I) : aLasts J s = aLasts I s := by
  unfold aLasts
  simp only [t12 h, t41 h]
theorem q154 (hI : Inv I) (hx : x + 1 ≤ 600) (h : resC n I L x Φ (aLasts I s)) : wpc (d + 12) 154 [.ref (9 : Nat), .int s] (mk n I L x) Φ := by
  show wp (d + 12) 154 0 [.ref (9 : Nat), .int s] [] (mk n I L x) Φ
  unfold aLasts at h
  have hC := hI.1.1
  by_cases g1 : 0 ≤ s ∧ s ≤ I 12 6 - 1
  · rw [if_pos g1] at h
    obtain ⟨j, hj, rfl⟩ := isN (inv_c hI) (Nat.le_succ_of_le (inv_c6 hI)) g1
    have hj6 : j < 6 := by have := inv_c6 hI; omega
    rw [nt_clamp (k := j) (by omega)] at h
    have i2 : atv 84 (I 41) (0 + nt j) = I 41 j := at_0 (by omega) (by decide)
    have i3 : atv 84 (I 41) (6 + nt j) = I 41 (6 + j) := at_b 6 (by omega) (by decide)
    by_cases g2 : I 41 (6 + j) = -1
    · rw [if_pos g2] at h
      simp (config := {decide := true}) only [r154_0, r154_1, r154_2, r154_5, r154_6, r154_9, r154_10, r154_13, r154_14, r154_17, r154_18, r154_21, r154_22, r154_23, r154_26, r154_27, r154_30, r154_33, if_true, if_false, Nat.reduceAdd, Int32.reduceToNatClampNeg, lo_i, lo_r, lo_n, kont_v, kont_n, List.length_nil, List.length_cons, and_self, and_true, true_and, and_false, false_and, not_true, not_false_eq_true, true_or, or_true, bi_eq0, c181 hx, c179 hx, c180 hx, c182, c183, kx, g1, g2, k40, c48 k40, i3]
      exact okC h
    · rw [if_neg g2] at h
      simp (config := {decide := true}) only [r154_0, r154_1, r154_2, r154_5, r154_6, r154_9, r154_10, r154_13, r154_14, r154_17, r154_18, r154_21, r154_22, r154_23, r154_26, r154_27, r154_30, r154_33, if_true, if_false, Nat.reduceAdd, Int32.reduceToNatClampNeg, lo_i, lo_r, lo_n, kont_v, kont_n, List.length_nil, List.length_cons, and_self, and_true, true_and, and_false, false_and, not_true, not_false_eq_true, true_or, or_true, bi_eq0, c181 hx, c179 hx, c180 hx, c182, c183, kx, g1, g2, k40, c48 k40, c47 k40, i2, i3, c317]
      exact okC h
  · rw [if_neg g1] at h
    simp (config := {decide := true}) only [r154_0, r154_1, r154_2, r154_5, r154_6, r154_9, r154_10, r154_13, r154_14, r154_17, r154_18, r154_21, r154_22, r154_23, r154_26, r154_27, r154_30, r154_33, if_true, if_false, Nat.reduceAdd, Int32.reduceToNatClampNeg, lo_i, lo_r, lo_n, kont_v, kont_n, List.length_nil, List.length_cons, and_self, and_true, true_and, and_false, false_and, not_true, not_false_eq_true, true_or, or_true, bi_eq0, c181 hx, c179 hx, c180 hx, c182, c183, kx, g1]
    exact exC1 h
theorem u285 (hI : Inv I) (h : resM n I L x Φ (aLasts I s)) : wpc (d + 12) 285 [.ref (70 : Nat), .int s] (mk n I L x) Φ := by
  show wp (d + 12) 285 0 [.ref (70 : Nat), .int s, noV] [] (mk n I L x) Φ
  rw [r285_0, r285_1, r285_2]
  replace h := resM_z h
  rw [← t_aLasts v70] at h
  replace hI := tr_Inv v70 hI
  have hz := z70 (I := I)
  generalize wrI I 70 0 0 = I at h hI hz ⊢
  unfold aLasts at h
  have hM := hI.1
  by_cases g1 : 0 ≤ s ∧ s ≤ I 12 6 - 1
  · rw [if_pos g1] at h
    obtain ⟨j, hj, rfl⟩ := isN (inv_c hI) (Nat.le_succ_of_le (inv_c6 hI)) g1
    have hj6 : j < 6 := by have := inv_c6 hI; omega
    rw [nt_clamp (k := j) (by omega), ← lasts_val hI.2.1.1 hj6] at h
    simp (config := {decide := true}) only [r285_5, r285_6, r285_7, r285_8, r285_11, r285_14, r285_15, r285_18, r285_19, r285_20, r285_21, r285_24, r285_27, r285_28, r285_29, r285_30, r285_33, r285_34, r285_37, r285_40, r285_41, if_true, if_false, Nat.reduceAdd, Int32.reduceToNatClampNeg, lo_i, lo_r, lo_n, kont_v, kont_n, List.length_nil, List.length_cons, and_self, and_true, true_and, and_false, false_and, not_true, not_false_eq_true, true_or, or_true, bi_eq0, b10 hz, b11 hz, b21 hz, m194, m259, m258 hI, g1, m221 hI]
    refine loopDJ (P := fun k g => ∀ w2 F q, wp (d + 12) 285 42 [.ref (70 : Nat), .int (nt j), .int (nt k)] [] (mk n (scm (hm I 535 g w2 F) q) L x) Φ) (J := fun _ g => RO I g) (Q := fun g => ∀ w2 F q, Φ (.inl (some (.int (I 41 j - g j)))) (mk n (scm (hm I 535 g w2 F) q) L x)) (n := 48) (f := fun _ g => phR I g) ?_ ?_ (I 41) hI.2.1.1 (fun w2 F q => okM5 hI h hz) (I 70 38) (I 536) (I 451, I 452)
    · intro k g hk hJ
      refine ⟨ro_ph (inv_s7 hI) hJ, fun hn w2 F q => ?_⟩
      have e1 : ¬ ((48 : Int32) ≤ nt k) := nt_nle (m := 48) hk (by decide)
      rw [r285_42]
      simp (config := {decide := true}) only [r285_43, r285_45, r285_48, r285_49, r285_50, r285_53, r285_56, r285_59, if_true, if_false, Nat.reduceAdd, Int32.reduceToNatClampNeg, lo_i, lo_r, lo_n, kont_v, kont_n, List.length_nil, List.length_cons, e1, a246 hI hJ, nt_succ]
      exact hn _ _ _
    · intro g hJ hq w2 F q
      replace hq := hq w2 F q
      have y2 : ((21 : Int32) + nt j).toNatClampNeg = 21 + j := ixc 21 j (by omega)
      have y3 : (0 : Int32) ≤ 21 + nt j := ixg 21 j (by omega)
      have y4 : 21 + j < 84 := by omega
      have y5 : ∀ f, vc f (21 + j) = f j := fun f => vc_hi (by omega)
      have s535 : sh0 n 535 = (20, 84, []) := shR (Or.inr rfl)
      have u : scm (hm I 535 g w2 F) q 535 = vc g := by rw [scm_ne (by decide) (by decide)]; exact hm_r
      have u2 : scm (hm I 535 g w2 F) q 534 = vc (I 41) := by rw [scm_ne (by decide) (by decide), hm_ne (by decide) (by decide) (by decide)]; exact hI.2.1.2
      rw [r285_42]
      simp (config := {decide := true}) only [r285_43, r285_45, r285_48, r285_49, r285_50, r285_53, r285_56, r285_59, r285_62, r285_63, r285_66, r285_68, r285_69, r285_70, r285_71, r285_72, r285_75, r285_77, r285_78, r285_79, r285_80, r285_81, if_true, if_false, Nat.reduceAdd, Int32.reduceToNatClampNeg, lo_i, lo_r, lo_n, kont_v, kont_n, List.length_nil, List.length_cons, s534, s535, u, u2, y2, y3, y4, y5]
      exact hq
  · rw [if_neg g1] at h
    simp (config := {decide := true}) only [r285_5, r285_6, r285_7, r285_8, r285_11, r285_14, r285_15, r285_18, r285_19, r285_20, r285_21, r285_24, r285_27, r285_28, r285_29, r285_30, r285_33, r285_34, r285_37, r285_40, r285_41, r285_42, r285_43, r285_45, r285_48, r285_49, r285_50, r285_53, r285_56, r285_59, r285_62, r285_63, r285_66, r285_68, r285_69, r285_70, r285_71, r285_72, r285_75, r285_77, r285_78, r285_79, r285_80, r285_81, if_true, if_false, Nat.reduceAdd, Int32.reduceToNatClampNeg, lo_i, lo_r, lo_n, kont_v, kont_n, List.length_nil, List.length_cons, and_self, and_true, true_and, and_false, false_and, not_true, not_false_eq_true, true_or, or_true, bi_eq0, b10 hz, b11 hz, b21 hz, m194, m259, m257 hI, m258 hI, m266 hI, m274 hI, g1]
    exact exM h
end Q5
