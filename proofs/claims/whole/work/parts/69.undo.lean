/-! UNDO, IMAGES -/
theorem RO_ext {I : Nat → Nat → Int32} {f g : Nat → Int32} (h : ∀ j, j < 84 → f j = g j) (ho : RO I f) : RO I g := by
  obtain ⟨o1, o2, o3, o4, o5, o6, o7⟩ := ho
  refine ⟨fun c h1 h2 => ?_, fun s h1 h2 => ?_, fun s hs => ?_, ?_, fun c hc => ?_, fun c hc => ?_, fun c hc => ?_⟩
  · rw [← h c (by omega), ← h (6 + c) (by omega), ← h (12 + c) (by omega)]; exact o1 c h1 h2
  · rw [← h (60 + s) (by omega), ← h (74 + s) (by omega)]; exact o2 s h1 h2
  · rw [← h (60 + s) (by omega)]; exact o3 s hs
  · rw [← h 81 (by omega)]; exact o4
  · rw [← h (12 + c) (by omega)]; exact o5 c hc
  · rw [← h c (by omega)]; exact o6 c hc
  · rw [← h (6 + c) (by omega)]; exact o7 c hc
theorem sh538 {n k : Nat} (h : k < 16) : sh0 n (538 + k) = (20, 84, []) := by
  rw [sh0_not7 (by omega)]
  have h2 : (List.range 16).all (fun k => decide (sh0 0 (538 + k) = (20, 84, []))) = true := by decide +kernel
  exact of_decide_eq_true (List.all_eq_true.mp h2 k (List.mem_range.mpr h))
theorem s537 {n : Nat} : sh0 n 537 = (22, 16, (List.range 16).map (fun j => .ref (538 + j))) := by rw [sh0_not7 (by decide)]; decide +kernel
theorem s554 {n : Nat} : sh0 n 554 = (22, 3, (List.range 3).map (fun j => .ref (555 + j))) := by rw [sh0_not7 (by decide)]; decide +kernel
theorem sh555 {n k : Nat} (h : k < 3) : sh0 n (555 + k) = (20, 1429, []) := by
  rw [sh0_not7 (by omega)]
  have h2 : (List.range 3).all (fun k => decide (sh0 0 (555 + k) = (20, 1429, []))) = true := by decide +kernel
  exact of_decide_eq_true (List.all_eq_true.mp h2 k (List.mem_range.mpr h))
section Ud
variable {d n x z : Nat} {μ : PM} {Φ : POut → PM → Prop} {I J K : Nat → Nat → Int32} {L : Nat → Nat → Int64} {v w : Int32} {f g : Nat → Int32}
/-- a row laid over another -/
def ovr (m : Nat) (f g : Nat → Int32) : Nat → Int32 := fun i => if i < m then f i else g i
theorem cpy_ovr {f g : Nat → Int32} {sp : Nat} : va_cpy f g sp 0 84 = ovr 84 (fun k => f (sp + k)) g := by
  funext i
  unfold va_cpy ovr
  by_cases hi : i < 84
  · simp [hi]
  · simp [hi]
theorem cpy_big {f g : Nat → Int32} : va_cpy f g 0 0 1344 = ovr 1344 f g := by
  funext i
  unfold va_cpy ovr
  by_cases hi : i < 1344
  · simp [hi]
  · simp [hi]
theorem ovr_lt {m i : Nat} (h : i < m) : ovr m f g i = f i := if_pos h
theorem ovr_ge {m i : Nat} (h : m ≤ i) : ovr m f g i = g i := if_neg (by omega)
theorem m221g {a b : Nat} (hab : a ≠ b) (ha : sh0 n a = (20, 84, [])) (hb : sh0 n b = (20, 84, [])) (ha5 : a < 560) (hb5 : b < 560) (hb9 : 9 ≤ b) : wpc d 221 [.ref a, .ref b] (mk n I L x) Φ ↔ Φ (.inl none) (mk n (upR I b (ovr 84 (I a) (I b))) L x) := by
  show wp d 221 0 [.ref a, .ref b, noV] [] (mk n I L x) Φ ↔ _
  simp (config := {decide := true}) only [r221_0, r221_1, if_true, if_false, Nat.reduceAdd, Int32.reduceToNatClampNeg, lo_i, lo_r, lo_n, kont_v, kont_n, List.length_nil, List.length_cons]
  have e0 := loopN (P := fun k g => wp d 221 2 [.ref a, .ref b, .int (nt k)] [] (mk n (upR I b g) L x) Φ) (Q := fun g => Φ (.inl none) (mk n (upR I b g) L x)) (n := 84) (f := fun k g => upd g k (I a k)) ?_ ?_ (I b)
  · rw [upR_self] at e0
    refine e0.trans ?_
    have e1 : foldN (fun k g => upd g k (I a k)) 84 (I b) = ovr 84 (I a) (I b) := by
      have key : ∀ m, m ≤ 84 → ∀ i, foldN (fun k g => upd g k (I a k)) m (I b) i = if i < m then I a i else I b i := by
        intro m
        induction m with
        | zero => intro _ i; rfl
        | succ m ih =>
          intro hm i
          show upd (foldN (fun k g => upd g k (I a k)) m (I b)) m (I a m) i = _
          by_cases hi : i = m
          · subst hi
            rw [up_same, if_pos (by omega)]
          · rw [up_ne hi, ih (by omega)]
            by_cases h2 : i < m
            · rw [if_pos h2, if_pos (by omega)]
            · rw [if_neg h2, if_neg (by omega)]
      funext i
      exact key 84 (Nat.le_refl _) i
    rw [e1]
  · intro k g hk
    have e1 : ¬ ((84 : Int32) ≤ nt k) := nt_nle (m := 84) hk (by decide)
    have e2 : (nt k).toNatClampNeg = k := nt_clamp (by omega)
    have e3 : (0 : Int32) ≤ nt k := nt_ge (by omega)
    have u : upR I b g a = I a := upR_ne hab
    rw [r221_2]
    simp (config := {decide := true}) only [r221_3, r221_5, r221_8, r221_9, r221_10, r221_11, r221_12, r221_13, r221_14, r221_17, r221_20, if_true, if_false, Nat.reduceAdd, Int32.reduceToNatClampNeg, lo_i, lo_r, lo_n, kont_v, kont_n, List.length_nil, List.length_cons, e1, e2, e3, hk, ha, hb, ha5, hb5, hb9, u, nt_succ, wr_up]
  · intro g
    rw [r221_2]
    simp (config := {decide := true}) only [r221_3, r221_5, r221_8, r221_9, r221_10, r221_11, r221_12, r221_13, r221_14, r221_17, r221_20, if_true, if_false, Nat.reduceAdd, Int32.reduceToNatClampNeg, lo_i, lo_r, lo_n, kont_v, kont_n, List.length_nil, List.length_cons]
theorem pd137 (hI : LI I) : PD (d + 12) 137 253 [] n I L x := by
  obtain ⟨w, w1, w2, w3, w4⟩ := hI.1.2.2.2.1
  rcases Nat.eq_zero_or_pos w with h0 | h0
  · subst h0
    have e0 : I 44 1 ≤ 0 := by rw [w2]; decide
    refine ⟨-1, I, ?_, wrI I 70 0 0, L, rfl, ?_, z70I hI⟩
    · intro Φ h
      show wp (d + 12) 137 0 [.ref (9 : Nat)] [] (mk n I L x) Φ
      simp (config := {decide := true}) only [r137_0, r137_1, r137_4, r137_7, r137_10, r137_11, if_true, if_false, Nat.reduceAdd, Int32.reduceToNatClampNeg, lo_i, lo_r, lo_n, kont_v, kont_n, List.length_nil, List.length_cons, and_self, and_true, true_and, and_false, false_and, not_true, not_false_eq_true, true_or, or_true, bi_eq0, k44, c118 k44, e0, bi]
      exact h
    · intro Φ h
      have e1 : wrI I 70 0 0 70 34 = 0 := by rw [wr_k (by decide), w3]; rfl
      show wp (d + 12) 253 0 [.ref (70 : Nat)] [] (mk n I L x) Φ
      simp (config := {decide := true}) only [r253_0, r253_1, r253_2, r253_5, r253_6, r253_9, r253_12, r253_13, if_true, if_false, Nat.reduceAdd, Int32.reduceToNatClampNeg, lo_i, lo_r, lo_n, kont_v, kont_n, List.length_nil, List.length_cons, e1]
      exact h
  · obtain ⟨v, rfl⟩ : ∃ v, w = v + 1 := ⟨w - 1, by omega⟩
    have e0 : ¬ (I 44 1 ≤ 0) := by rw [w2]; exact nt_nle (m := v + 1) (j := 0) (by omega) (by omega)
    have hv : v < 16 := by omega
    obtain ⟨o1, o2⟩ := w4 v (by omega)
    generalize hJ : wrI (cpI (wrI I 44 1 (nt v)) 45 (84 * v) 41 0 84) 9 15 0 = J
    have ja : ∀ a, a ≠ 44 → a ≠ 41 → a ≠ 9 → J a = I a := by
      intro a n1 n2 n3
      rw [← hJ, wrI_ne n3]
      unfold cpI
      rw [upR_ne n2, wrI_ne n1]
    have j44 : J 44 1 = nt v := by
      rw [← hJ, wrI_ne (by decide)]
      unfold cpI
      rw [upR_ne (by decide)]
      exact wr_eq
    have j41 : J 41 = ovr 84 (fun k => I 45 (84 * v + k)) (I 41) := by
      rw [← hJ, wrI_ne (by decide)]
      unfold cpI
      rw [upR_same, wrI_ne (by decide), wrI_ne (by decide), cpy_ovr]
    have j9 : ∀ i, i ≠ 15 → J 9 i = I 9 i := by
      intro i hi
      rw [← hJ, wr_k hi]
      unfold cpI
      rw [upR_ne (by decide), wrI_ne (by decide)]
    have j915 : J 9 15 = 0 := by rw [← hJ]; exact wr_eq
    have hcl : cres (d + 12) 137 [.ref (9 : Nat)] (mk n I L x) (.inl (some (.int (nt v)))) (mk n J L x) := by
      intro Φ h
      show wp (d + 12) 137 0 [.ref (9 : Nat)] [] (mk n I L x) Φ
      simp (config := {decide := true}) only [r137_0, r137_1, r137_4, r137_7, r137_10, r137_11, r137_12, r137_13, r137_16, r137_17, r137_20, r137_23, r137_24, r137_25, if_true, if_false, Nat.reduceAdd, Int32.reduceToNatClampNeg, lo_i, lo_r, lo_n, kont_v, kont_n, List.length_nil, List.length_cons, and_self, and_true, true_and, and_false, false_and, not_true, not_false_eq_true, true_or, or_true, bi_eq0, k44, k40, c118 k44, e0, bi, c122 k40 w2 hv]
      rw [hJ]
      simp (config := {decide := true}) only [r137_28, r137_29, r137_32, r137_35, if_true, if_false, Nat.reduceAdd, Int32.reduceToNatClampNeg, lo_i, lo_r, lo_n, kont_v, kont_n, List.length_nil, List.length_cons, k44, j44]
      exact h
    refine ⟨nt v, J, hcl, ?_⟩
    have s4 : sh0 n 534 = (20, 84, []) := s534
    have hr : J (538 + v) = I (538 + v) := ja _ (by omega) (by omega) (by omega)
    have h534 : J 534 = I 534 := ja _ (by decide) (by decide) (by decide)
    have h70 : J 70 = I 70 := ja _ (by decide) (by decide) (by decide)
    generalize hK : wrI (upR (wrI (wrI J 70 0 0) 70 34 (nt v)) 534 (ovr 84 (I (538 + v)) (I 534))) 70 35 0 = K
    have ka : ∀ a, a ≠ 70 → a ≠ 534 → K a = J a := by
      intro a n1 n2
      rw [← hK, wrI_ne n1, upR_ne n2, wrI_ne n1, wrI_ne n1]
    have k534 : K 534 = ovr 84 (I (538 + v)) (I 534) := by rw [← hK, wrI_ne (by decide), upR_same]
    have k70 : ∀ i, i ≠ 35 → i ≠ 34 → i ≠ 0 → K 70 i = I 70 i := by
      intro i n1 n2 n3
      rw [← hK, wr_k n1, upR_ne (by decide), wr_k n2, wr_k n3, h70]
    have k7034 : K 70 34 = nt v := by rw [← hK, wr_k (by decide), upR_ne (by decide), wr_eq]
    have k7035 : K 70 35 = 0 := by rw [← hK]; exact wr_eq
    have hm : cres (d + 12) 253 [.ref (70 : Nat)] (mk n J L x) (.inl (some (.int (nt v)))) (mk n K L x) := by
      intro Φ h
      have e1 : wrI J 70 0 0 70 34 = nt (v + 1) := by rw [wr_k (by decide), h70]; exact w3
      have e2 : ¬ (nt (v + 1) = 0) := by rw [show (0 : Int32) = nt 0 from rfl, nt_inj (by omega) (by decide)]; omega
      have e3 : nt (v + 1) - 1 = nt v := nt_sub1 (by omega)
      have e4 : (nt v).toNatClampNeg = v := nt_clamp (by omega)
      have e5 : (0 : Int32) ≤ nt v := nt_ge (by omega)
      have e6 : ∀ u, wrI (wrI J 70 0 0) 70 34 u 70 34 = u := fun u => wr_eq
      have e7 : 538 + v < 560 := by omega
      have e8 : 538 + v ≠ 534 := by omega
      have u1 : wrI (wrI J 70 0 0) 70 34 (nt v) (538 + v) = I (538 + v) := by rw [wrI_ne (by omega), wrI_ne (by omega), hr]
      have u2 : wrI (wrI J 70 0 0) 70 34 (nt v) 534 = I 534 := by rw [wrI_ne (by omega), wrI_ne (by omega), h534]
      show wp (d + 12) 253 0 [.ref (70 : Nat)] [] (mk n J L x) Φ
      simp (config := {decide := true}) only [r253_0, r253_1, r253_2, r253_5, r253_6, r253_9, r253_12, r253_13, r253_14, r253_15, r253_16, r253_19, r253_20, r253_21, r253_24, r253_25, r253_28, r253_29, r253_32, r253_33, r253_34, if_true, if_false, Nat.reduceAdd, Int32.reduceToNatClampNeg, lo_i, lo_r, lo_n, kont_v, kont_n, List.length_nil, List.length_cons, e1, e2, e3, e4, e5, e6, hv, s537]
      rw [r253_37 (by decide), m221g e8 (sh538 hv) s4 e7 (by decide) (by decide), u1, u2]
      simp (config := {decide := true}) only [r253_40, r253_41, r253_42, if_true, if_false, Nat.reduceAdd, Int32.reduceToNatClampNeg, lo_i, lo_r, lo_n, kont_v, kont_n, List.length_nil, List.length_cons]
      rw [hK]
      simp (config := {decide := true}) only [r253_45, r253_46, r253_49, if_true, if_false, Nat.reduceAdd, Int32.reduceToNatClampNeg, lo_i, lo_r, lo_n, kont_v, kont_n, List.length_nil, List.length_cons, k7034]
      exact h
    refine ⟨K, L, rfl, hm, ?_⟩
    have ok : okc (fun a => a == 44 || (a == 41 || a == 534)) (fun k => k == 34 || k == 35) I K := by
      refine ⟨fun a h1 h2 h3 h4 h5 => ?_, fun k h1 h2 => ?_⟩
      · simp only [Bool.or_eq_false_iff, beq_eq_false_iff_ne] at h1
        rw [ka a h3 h1.2.2, ja a h1.1 h1.2.1 h5]
      · simp only [Bool.or_eq_false_iff, beq_eq_false_iff_ne] at h1
        refine k70 k h1.2 h1.1 (fun e => ?_)
        subst e
        exact absurd h2 (by decide)
    have kI : ∀ a, a ≠ 70 → a ≠ 534 → a ≠ 44 → a ≠ 41 → a ≠ 9 → K a = I a := fun a n1 n2 n3 n4 n5 => by rw [ka a n1 n2, ja a n3 n4 n5]
    have sp : spc I K := ⟨fun j _ => by rw [kI 43 (by decide) (by decide) (by decide) (by decide) (by decide), kI 67 (by decide) (by decide) (by decide) (by decide) (by decide), kI 69 (by decide) (by decide) (by decide) (by decide) (by decide), kI 535 (by decide) (by decide) (by decide) (by decide) (by decide)]; exact ⟨rfl, rfl, rfl, rfl⟩, by rw [kI 64 (by decide) (by decide) (by decide) (by decide) (by decide)]⟩
    have k12 : K 12 = I 12 := kI 12 (by decide) (by decide) (by decide) (by decide) (by decide)
    have k41 : K 41 = ovr 84 (fun k => I 45 (84 * v + k)) (I 41) := by rw [ka 41 (by decide) (by decide), j41]
    have k9 : K 9 = J 9 := ka 9 (by decide) (by decide)
    obtain ⟨hM, hR, hV, hW, hA, hB, hT, hKK, hN⟩ := hI.1
    refine ⟨⟨kM ok (by decide +kernel) rfl hM, ⟨?_, ?_⟩, kV ok (by decide) hV, ?_, kA ok (by decide) rfl hA, kB ok (by decide) rfl hB, kT ok (by decide) rfl rfl (by rw [kI 10 (by decide) (by decide) (by decide) (by decide) (by decide)]) (by rw [kI 10 (by decide) (by decide) (by decide) (by decide) (by decide)]) hT, kK ok sp (by decide) (fun j hj => by rw [k41, ovr_ge hj]; exact hi41 hI.1 j hj) hKK, ?_⟩, ?_, ?_⟩
    · rw [k41]
      exact kRO k12 (RO_ext (fun j hj => by rw [ovr_lt hj]) o1)
    · rw [k534, k41]
      funext i
      by_cases hi : i < 84
      · rw [ovr_lt hi, show I (538 + v) i = _ from o2 i hi]
        exact congrFun (vc_ext (fun j hj => by rw [ovr_lt hj])) i
      · rw [ovr_ge (by omega), vc_hi84 (by omega), hR.2, vc_hi84 (by omega)]
    · refine ⟨v, by omega, ?_, k7034, ?_⟩
      · rw [ka 44 (by decide) (by decide)]; exact j44
      · rw [kI 45 (by decide) (by decide) (by decide) (by decide) (by decide)]
        refine kWK k12 (fun i hi => kI _ (by omega) (by omega) (by omega) (by omega) (by omega)) ?_
        exact fun i hi => w4 i (by omega)
    · rw [k7035, k9, j915]
    · rw [kI 72 (by decide) (by decide) (by decide) (by decide) (by decide), k9, j9 16 (by decide)]; exact hI.2.1
    · rw [kI 72 (by decide) (by decide) (by decide) (by decide) (by decide), k9, j9 17 (by decide)]; exact hI.2.2
/-- a cell put into an image, or taken out of it -/
theorem m308f {s r : Nat} (hr : r < 3) (hs : s < 1429) (h37 : I 70 37 = nt s) : wpc d 308 [.ref (70 : Nat), .ref (555 + r), .int v, .int 0] (mk n I L x) Φ ↔ Φ (.inl (some (.int v))) (mk n (wrI (wrI I (555 + r) s v) 70 37 (nt (s + 1))) L x) := by
  have e1 : (nt s).toNatClampNeg = s := nt_clamp (by omega)
  have e2 : (0 : Int32) ≤ nt s := nt_ge (by omega)
  have e3 : 555 + r < 560 := by omega
  have e4 : 9 ≤ 555 + r := by omega
  have e5 : wrI I (555 + r) s v 70 37 = nt s := by rw [wrI_ne (by omega)]; exact h37
  have e6 : ∀ u, wrI (wrI I (555 + r) s v) 70 37 u 70 37 = u := fun u => wr_eq
  have e7 : nt (s + 1) - 1 = nt s := nt_sub1 (by omega)
  have e8 : ∀ u, wrI (wrI I (555 + r) s v) 70 37 u (555 + r) s = v := fun u => by rw [wrI_ne (by omega)]; exact wr_eq
  show wp d 308 0 [.ref (70 : Nat), .ref (555 + r), .int v, .int 0] [] (mk n I L x) Φ ↔ _
  simp (config := {decide := true}) only [r308_0, r308_1, r308_4, r308_5, r308_6, r308_9, r308_10, r308_11, r308_12, r308_13, r308_16, r308_17, r308_18, r308_21, r308_22, r308_23, r308_26, r308_27, r308_28, r308_29, if_true, if_false, Nat.reduceAdd, Int32.reduceToNatClampNeg, lo_i, lo_r, lo_n, kont_v, kont_n, List.length_nil, List.length_cons, h37, e1, e2, e3, e4, e5, e6, e7, e8, hs, sh555 hr, nt_succ]
theorem m308t {s r : Nat} (hr : r < 3) (hs : s < 1429) (h37 : I 70 37 = nt s) : wpc d 308 [.ref (70 : Nat), .ref (555 + r), .int v, .int 1] (mk n I L x) Φ ↔ Φ (.inl (some (.int (I (555 + r) s)))) (mk n (wrI I 70 37 (nt (s + 1))) L x) := by
  have e1 : (nt s).toNatClampNeg = s := nt_clamp (by omega)
  have e2 : (0 : Int32) ≤ nt s := nt_ge (by omega)
  have e3 : 555 + r < 560 := by omega
  have e6 : ∀ u, wrI I 70 37 u 70 37 = u := fun u => wr_eq
  have e7 : nt (s + 1) - 1 = nt s := nt_sub1 (by omega)
  have e8 : ∀ u, wrI I 70 37 u (555 + r) = I (555 + r) := fun u => wrI_ne (by omega)
  show wp d 308 0 [.ref (70 : Nat), .ref (555 + r), .int v, .int 1] [] (mk n I L x) Φ ↔ _
  simp (config := {decide := true}) only [r308_0, r308_1, r308_4, r308_5, r308_6, r308_9, r308_10, r308_11, r308_12, r308_13, r308_16, r308_17, r308_18, r308_21, r308_22, r308_23, r308_26, r308_27, r308_28, r308_29, if_true, if_false, Nat.reduceAdd, Int32.reduceToNatClampNeg, lo_i, lo_r, lo_n, kont_v, kont_n, List.length_nil, List.length_cons, h37, e1, e2, e3, e6, e7, e8, hs, sh555 hr, nt_succ]
end Ud

