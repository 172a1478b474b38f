/-! YEARS: of the class -/
theorem ushr_eq (v : Int32) : ushr v 16 &&& 32767 = v >>> ((16 : Int32) &&& 31) &&& 32767 := by
  refine Int32.toBitVec_inj.1 ?_
  have e1 : (ushr v 16).toBitVec = v.toBitVec >>> (16 : Nat) := rfl
  have e2 : (v >>> ((16 : Int32) &&& 31)).toBitVec = v.toBitVec.sshiftRight 16 := rfl
  rw [Int32.toBitVec_and, Int32.toBitVec_and, e1, e2]
  refine BitVec.eq_of_getLsbD_eq (fun i hi => ?_)
  have e3 : (32767 : Int32).toBitVec.getLsbD i = decide (i < 15) := by
    show (BitVec.ofNat 32 (2 ^ 15 - 1)).getLsbD i = _
    rw [BitVec.getLsbD_ofNat, Nat.testBit_two_pow_sub_one]
    by_cases h : i < 15
    · simp [h, hi]
    · simp [h]
  rw [BitVec.getLsbD_and, BitVec.getLsbD_and, e3, BitVec.getLsbD_ushiftRight, BitVec.getLsbD_sshiftRight]
  by_cases h : i < 15
  · simp [h, show 16 + i < 32 by omega, show ¬ 32 ≤ i by omega]
  · simp [h]
theorem msk_nt (y : Int32) : ∃ m, m < 32768 ∧ y &&& 32767 = nt m := by
  refine ⟨(y &&& 32767).toBitVec.toNat, ?_, ?_⟩
  · rw [Int32.toBitVec_and, BitVec.toNat_and]
    have := Nat.and_le_right (n := y.toBitVec.toNat) (m := (32767 : Int32).toBitVec.toNat)
    have e : (32767 : Int32).toBitVec.toNat = 32767 := rfl
    omega
  · refine Int32.toBitVec_inj.1 ?_
    show _ = BitVec.ofNat 32 _
    rw [BitVec.ofNat_toNat, BitVec.setWidth_eq]
theorem nt_div {a b : Nat} (ha : a < 2147483648) (hb : b < 2147483648) : nt a / nt b = nt (a / b) := by
  refine Int32.toInt_inj.1 ?_
  have hne : nt b ≠ -1 := nt_m1 hb
  rw [Int32.toInt_div_of_ne_right _ _ hne, nt_toInt ha, nt_toInt hb, nt_toInt (Nat.lt_of_le_of_lt (Nat.div_le_self a b) ha)]
  exact (Int.ofNat_tdiv a b).symm
theorem irm_nt {a b : Nat} (ha : a < 2147483648) (hb : b < 2147483648) : irm (nt a) (nt b) = nt (a % b) := by
  unfold irm
  rw [nt_div ha hb, show nt (a / b) * nt b = nt (a / b * b) from (Int32.ofNat_mul _ _).symm]
  have e : nt a = nt (a % b) + nt (a / b * b) := by rw [nt_add, Nat.add_comm, Nat.div_add_mod']
  rw [e, Int32.sub_eq_add_neg, Int32.add_assoc, ← Int32.sub_eq_add_neg, Int32.sub_self, Int32.add_zero]
def drw (v : Int32) : Int32 := v * 1103515245 + 12345
def dvI (v b : Int32) : Int32 := irm (v >>> ((16 : Int32) &&& 31) &&& 32767) b
theorem dv_lt {B : Nat} (h0 : 0 < B) (hB : B < 2147483648) (v : Int32) : ∃ m, m < B ∧ dvI v (nt B) = nt m := by
  obtain ⟨m, h1, h2⟩ := msk_nt (v >>> ((16 : Int32) &&& 31))
  exact ⟨m % B, Nat.mod_lt _ h0, by unfold dvI; rw [h2, irm_nt (by omega) hB]⟩
def ych (D : Int32 → Int32) (C : Nat) (t : (Nat → Int32) × Int32) : Nat := (dvI (D t.2) (nt C)).toNatClampNeg
def yg1 (D : Int32 → Int32) (C : Nat) (t : (Nat → Int32) × Int32) : Nat → Int32 := upd t.1 (6 + ych D C t) (dvI (D (D t.2)) 24)
def yg2 (D : Int32 → Int32) (C : Nat) (q : Int32) (t : (Nat → Int32) × Int32) : Nat → Int32 := if q ≤ dvI (D (D (D t.2))) 16 then yg1 D C t else skf (yg1 D C t) (ych D C t)
def yg3 (D : Int32 → Int32) (C : Nat) (q : Int32) (t : (Nat → Int32) × Int32) : Nat → Int32 := if q ≤ dvI (D (D (D (D t.2)))) 16 then yg2 D C q t else wnf (yg2 D C q t) (ych D C t)
abbrev Y3 : Type := (Nat → Int32) × Int32 × Int32
def yhS (I : Nat → Nat → Int32) (t : Y3) : Y3 := (phR I t.1, t.2.1, t.2.2 + one7 (phW I t.1))
def yrC (D : Int32 → Int32) (C : Nat) (q : Int32) (t : Y3) : Y3 := if 0 < C then (yg3 D C q (t.1, t.2.1), D (D (D (D t.2.1))), t.2.2) else t
def ydS (D : Int32 → Int32) (I : Nat → Nat → Int32) (q : Int32) (t : Y3) : Y3 := foldN (fun _ t => yhS I t) 24 (yrC D (cI I) q t)
def yrS (D : Int32 → Int32) (I : Nat → Nat → Int32) (f : Nat → Int32) (sd : Int32) (days : Nat) (q : Int32) : Y3 := foldN (fun _ t => ydS D I q t) days (f, sd, 0)
section Y
variable {d n x c r j : Nat} {μ : PM} {Φ : POut → PM → Prop} {I J K : Nat → Nat → Int32} {L : Nat → Nat → Int64} {k s h v w a b z y qq sd wk : Int32} {p q : Scr} {f g g' F : Nat → Int32} {D : Int32 → Int32}
theorem tr_yh (h : view J = view I) : yhS J = yhS I := by
  funext t
  unfold yhS
  rw [tr_pr h, tr_pw h]
theorem tr_yd (h : view J = view I) : ydS D J = ydS D I := by
  funext q t
  unfold ydS
  rw [tr_yh h, tr_c h]
theorem tr_ys (h : view J = view I) : yrS D J = yrS D I := by
  funext f sd days q
  unfold yrS
  rw [tr_yd h]
theorem ych_lt {C : Nat} (h0 : 0 < C) (h6 : C ≤ 6) (t : (Nat → Int32) × Int32) : ych D C t < C ∧ dvI (D t.2) (nt C) = nt (ych D C t) := by
  obtain ⟨m, h1, h2⟩ := dv_lt h0 (by omega) (D t.2)
  unfold ych
  rw [h2, nt_clamp (by omega)]
  exact ⟨h1, rfl⟩
theorem dv24 (v : Int32) : 0 ≤ dvI v 24 ∧ dvI v 24 < 24 := by
  obtain ⟨m, h1, h2⟩ := dv_lt (B := 24) (by decide) (by decide) v
  have h2 : dvI v 24 = nt m := h2
  rw [h2]
  exact ⟨nt_ge (by omega), by rw [show (24 : Int32) = nt 24 from rfl, nt_lt (by omega) (by decide)]; exact h1⟩
theorem yg_hi {C i : Nat} (h0 : 0 < C) (h6 : C ≤ 6) (hi : 84 ≤ i) (t : (Nat → Int32) × Int32) : yg3 D C qq t i = t.1 i ∧ yg2 D C qq t i = t.1 i ∧ yg1 D C t i = t.1 i := by
  have hc := (ych_lt (D := D) h0 h6 t).1
  have e1 : yg1 D C t i = t.1 i := up_ne (by omega)
  have e2 : yg2 D C qq t i = t.1 i := by
    unfold yg2
    split
    · exact e1
    · rw [skf_hi (by omega) hi]; exact e1
  refine ⟨?_, e2, e1⟩
  unfold yg3
  split
  · exact e2
  · rw [wnf_hi (by omega) hi]; exact e2
theorem yg_RO (hI : Inv I) (h0 : 0 < cI I) (ho : RO I g) : RO I (yg1 D (cI I) (g, sd)) ∧ RO I (yg2 D (cI I) qq (g, sd)) ∧ RO I (yg3 D (cI I) qq (g, sd)) := by
  have h6 := inv_c6 hI
  have hc := (ych_lt (D := D) h0 h6 (g, sd)).1
  have e1 : RO I (yg1 D (cI I) (g, sd)) := set_RO hc h6 ho (Or.inr (dv24 _))
  have e2 : RO I (yg2 D (cI I) qq (g, sd)) := by
    unfold yg2
    split
    · exact e1
    · exact skf_RO hc h6 e1
  refine ⟨e1, e2, ?_⟩
  unfold yg3
  split
  · exact e2
  · exact wnd_RO hc h6 e2
theorem yrC_hi (h6 : cI I ≤ 6) {t : Y3} (ht : ∀ i, 84 ≤ i → t.1 i = 0) : ∀ i, 84 ≤ i → (yrC D (cI I) qq t).1 i = 0 := by
  intro i hi
  unfold yrC
  split
  · rename_i h0
    rw [show ((yg3 D (cI I) qq (t.1, t.2.1), D (D (D (D t.2.1))), t.2.2) : Y3).1 = yg3 D (cI I) qq (t.1, t.2.1) from rfl, (yg_hi h0 h6 hi _).1]
    exact ht i hi
  · exact ht i hi
theorem yrC_RO (hI : Inv I) {t : Y3} (ho : RO I t.1) : RO I (yrC D (cI I) qq t).1 := by
  unfold yrC
  split
  · rename_i h0
    exact (yg_RO hI h0 ho).2.2
  · exact ho
/-- a year of the class: what lies in its cells -/
def YS (I : Nat → Nat → Int32) (f : Nat → Int32) (J : Nat → Nat → Int32) (t : Y3) : Prop := Sm I J ∧ J 67 = t.1 ∧ J 69 = f ∧ J 65 2 = t.2.1 ∧ J 65 3 = t.2.2 ∧ (∀ i, 84 ≤ i → t.1 i = 0)
theorem k66 : K5 66 := Or.inr (Or.inr (Or.inr (Or.inr (Or.inr (Or.inl rfl)))))
theorem k68 : K5 68 := Or.inr (Or.inr (Or.inr (Or.inr (Or.inr (Or.inr rfl)))))
theorem sm_65 {k : Nat} (h : Sm I J) : Sm I (wrI J 65 k v) := ⟨(view_wr (scr_vis (by decide) _)).trans h.1, (wrI_ne (by decide)).trans h.2.1, (wrI_ne (by decide)).trans h.2.2⟩
theorem z67 (hI : Inv I) (h : Sm I J) : ∀ i, 84 ≤ i → J 67 i = 0 := fun i hi => (iz (sm_inv hI h) i hi).2.2.1
theorem ys_seed {t : Y3} (h : YS I f J t) : YS I f (wrI J 65 2 v) (t.1, v, t.2.2) := by
  obtain ⟨h1, h2, h3, h4, h5, h6⟩ := h
  exact ⟨sm_65 h1, (wrI_ne (by decide)).trans h2, (wrI_ne (by decide)).trans h3, wr_eq, (wr_k (by decide)).trans h5, h6⟩
theorem ys_row {t : Y3} (hI : Inv I) (h : YS I f J t) (hg : ∀ i, 84 ≤ i → g i = 0) : YS I f (upR J 67 g) (g, t.2) := by
  obtain ⟨h1, h2, h3, h4, h5, h6⟩ := h
  exact ⟨sm_trans h1 (sm_4 rfl (fun i hi => by rw [hg i hi, z67 hI h1 i hi])), upR_same _ _ _, (upR_ne (by decide)).trans h3, (congrFun (upR_ne (by decide)) 2).trans h4, (congrFun (upR_ne (by decide)) 3).trans h5, hg⟩
theorem ys_scr {t : Y3} (h : YS I f J t) : YS I f (scr J q) t := by
  obtain ⟨h1, h2, h3, h4, h5, h6⟩ := h
  exact ⟨sm_trans h1 sm_scr, (scr_ne (by decide) (by decide)).trans h2, (scr_ne (by decide) (by decide)).trans h3, (congrFun (scr_ne (by decide) (by decide)) 2).trans h4, (congrFun (scr_ne (by decide) (by decide)) 3).trans h5, h6⟩
theorem ys_wak {t : Y3} (h : YS I f J t) : YS I f (wrI J 65 3 v) (t.1, t.2.1, v) := by
  obtain ⟨h1, h2, h3, h4, h5, h6⟩ := h
  exact ⟨sm_65 h1, (wrI_ne (by decide)).trans h2, (wrI_ne (by decide)).trans h3, (wr_k (by decide)).trans h4, wr_eq, h6⟩
theorem c127 (hD : ∀ v : Int32, v * 1103515245 + 12345 = D v) {B : Nat} (h0 : 0 < B) (hB : B < 100) : wpc d 127 [.ref (65 : Nat), .int (nt B)] (mk n J L x) Φ ↔ Φ (.inl (some (.int (dvI (D (J 65 2)) (nt B))))) (mk n (wrI J 65 2 (D (J 65 2))) L x) := by
  have e1 : ¬ (nt B ≤ 0) := nt_nle (m := B) (j := 0) h0 (by omega)
  have e2 : nt B ≠ 0 := by rw [show (0 : Int32) = nt 0 from rfl, ne_eq, nt_inj (by omega) (by decide)]; omega
  have e3 : ∀ v, wrI J 65 2 v 65 2 = v := fun v => wr_eq
  show wp d 127 0 [.ref (65 : Nat), .int (nt B), noV] [] (mk n J L x) Φ ↔ _
  simp (config := {decide := true}) only [r127_0, r127_1, r127_2, r127_5, r127_7, r127_8, r127_11, r127_12, r127_15, r127_16, r127_19, r127_21, r127_22, r127_25, r127_26, r127_27, r127_28, r127_31, r127_32, r127_33, r127_34, r127_37, r127_38, if_true, if_false, Nat.reduceAdd, Int32.reduceToNatClampNeg, lo_i, lo_r, lo_n, kont_v, kont_n, List.length_nil, List.length_cons, e1, e2, e3, ushr_eq, dvI, hD, ne_eq]
theorem c126 (hD : ∀ v : Int32, v * 1103515245 + 12345 = D v) (hI : Inv I) (h0 : 0 < cI I) {t : Y3} (hY : YS I f J t) (h : ∀ K, YS I f K (yrC D (cI I) qq t) → Φ (.inl none) (mk n K L x)) : wpc (d + 4) 126 [.ref (65 : Nat), .int (nt (cI I)), .int qq] (mk n J L x) Φ := by
  have h6 := inv_c6 hI
  obtain ⟨hc, ec⟩ := ych_lt (D := D) h0 h6 (t.1, t.2.1)
  have hc6 : ych D (cI I) (t.1, t.2.1) < 6 := by omega
  obtain ⟨y1, y2, y3, y4, y5, y6⟩ := id hY
  have n67 : ∀ J v, wrI J 65 2 v 67 = J 67 := fun J v => wrI_ne (by decide)
  have n65 : ∀ (J : Nat → Nat → Int32) g, upR J 67 g 65 = J 65 := fun J g => upR_ne (by decide)
  have w22 : ∀ (J : Nat → Nat → Int32) v, wrI J 65 2 v 65 2 = v := fun J v => wr_eq
  have d24 : ∀ (d : Nat) J (Ψ : POut → PM → Prop), wpc d 127 [.ref (65 : Nat), .int 24] (mk n J L x) Ψ ↔ Ψ (.inl (some (.int (dvI (D (J 65 2)) 24)))) (mk n (wrI J 65 2 (D (J 65 2))) L x) := fun d J Ψ => c127 hD (B := 24) (by decide) (by decide)
  have d16 : ∀ (d : Nat) J (Ψ : POut → PM → Prop), wpc d 127 [.ref (65 : Nat), .int 16] (mk n J L x) Ψ ↔ Ψ (.inl (some (.int (dvI (D (J 65 2)) 16)))) (mk n (wrI J 65 2 (D (J 65 2))) L x) := fun d J Ψ => c127 hD (B := 16) (by decide) (by decide)
  have dC : ∀ (d : Nat) J (Ψ : POut → PM → Prop), wpc d 127 [.ref (65 : Nat), .int (nt (cI I))] (mk n J L x) Ψ ↔ Ψ (.inl (some (.int (dvI (D (J 65 2)) (nt (cI I)))))) (mk n (wrI J 65 2 (D (J 65 2))) L x) := fun d J Ψ => c127 hD h0 (by omega)
  have ec2 : dvI (D t.2.1) (nt (cI I)) = nt (ych D (cI I) (t.1, t.2.1)) := ec
  have es : ∀ (f : Nat → Int32) v, stv 84 f (6 + nt (ych D (cI I) (t.1, t.2.1))) v = upd f (6 + ych D (cI I) (t.1, t.2.1)) v := fun f v => st_b 6 (by omega) (by decide)
  have ew : ∀ (f : Nat → Int32), stv 84 f (0 + nt (ych D (cI I) (t.1, t.2.1))) (mni 20 (atv 84 f (0 + nt (ych D (cI I) (t.1, t.2.1))) + 5)) = wnf f (ych D (cI I) (t.1, t.2.1)) := fun f => by
    rw [st_0 (by omega) (by decide), at_0 (by omega) (by decide)]
    rfl
  have et : ∀ f : Nat → Int32, tsk f (nt (ych D (cI I) (t.1, t.2.1))) = skf f (ych D (cI I) (t.1, t.2.1)) := fun f => skf_tsk hc6
  have g1 : upd t.1 (6 + ych D (cI I) (t.1, t.2.1)) (dvI (D (D t.2.1)) 24) = yg1 D (cI I) (t.1, t.2.1) := rfl
  have H : ∀ i, 84 ≤ i → yg3 D (cI I) qq (t.1, t.2.1) i = 0 ∧ yg2 D (cI I) qq (t.1, t.2.1) i = 0 ∧ yg1 D (cI I) (t.1, t.2.1) i = 0 := by
    intro i hi
    obtain ⟨a1, a2, a3⟩ := yg_hi (D := D) (qq := qq) h0 h6 hi (t.1, t.2.1)
    rw [a1, a2, a3]
    exact ⟨y6 i hi, y6 i hi, y6 i hi⟩
  unfold yrC at h
  rw [if_pos h0] at h
  have Y2 := ys_row hI (g := yg1 D (cI I) (t.1, t.2.1)) (ys_seed (v := D (D t.2.1)) (ys_seed (v := D t.2.1) hY)) (fun i hi => (H i hi).2.2)
  show wp (d + 4) 126 0 [.ref (65 : Nat), .int (nt (cI I)), .int qq, noV] [] (mk n J L x) Φ
  by_cases c1 : qq ≤ dvI (D (D (D t.2.1))) 16
  · have g2 : yg2 D (cI I) qq (t.1, t.2.1) = yg1 D (cI I) (t.1, t.2.1) := if_pos c1
    by_cases c2 : qq ≤ dvI (D (D (D (D t.2.1)))) 16
    · have g3 : yg3 D (cI I) qq (t.1, t.2.1) = yg2 D (cI I) qq (t.1, t.2.1) := if_pos c2
      simp (config := {decide := true}) only [r126_0, r126_1, r126_2, r126_5, r126_6, r126_7, r126_10, r126_11, r126_12, r126_14, r126_17, r126_20, r126_21, r126_22, r126_24, r126_27, r126_28, r126_31, r126_32, r126_35, r126_36, r126_39, r126_40, r126_41, r126_43, r126_46, r126_47, r126_50, r126_51, r126_54, r126_55, r126_58, r126_59, if_true, if_false, Nat.reduceAdd, Int32.reduceToNatClampNeg, lo_i, lo_r, lo_n, kont_v, kont_n, List.length_nil, List.length_cons, dC, d24, d16, k66, c64 k66, w22, n67, n65, y2, y4, ec2, es, g1, c1, c2]
      have Y3' := ys_seed (v := D (D (D (D t.2.1)))) (ys_seed (v := D (D (D t.2.1))) Y2)
      rw [g3, g2] at h
      exact h _ Y3'
    · have g3 : yg3 D (cI I) qq (t.1, t.2.1) = wnf (yg2 D (cI I) qq (t.1, t.2.1)) (ych D (cI I) (t.1, t.2.1)) := if_neg c2
      simp (config := {decide := true}) only [r126_0, r126_1, r126_2, r126_5, r126_6, r126_7, r126_10, r126_11, r126_12, r126_14, r126_17, r126_20, r126_21, r126_22, r126_24, r126_27, r126_28, r126_31, r126_32, r126_35, r126_36, r126_39, r126_40, r126_41, r126_43, r126_46, r126_47, r126_50, r126_51, r126_54, r126_55, r126_58, r126_59, if_true, if_false, Nat.reduceAdd, Int32.reduceToNatClampNeg, lo_i, lo_r, lo_n, kont_v, kont_n, List.length_nil, List.length_cons, dC, d24, d16, k66, c64 k66, c66 k66, w22, n67, n65, y2, y4, ec2, es, g1, c1, c2, upR_same, ew]
      have Y3' := ys_row hI (g := wnf (yg1 D (cI I) (t.1, t.2.1)) (ych D (cI I) (t.1, t.2.1))) (ys_seed (v := D (D (D (D t.2.1)))) (ys_seed (v := D (D (D t.2.1))) Y2)) (fun i hi => by rw [wnf_hi hc6 hi]; exact (H i hi).2.2)
      rw [g3, g2] at h
      exact h _ Y3'
  · have g2 : yg2 D (cI I) qq (t.1, t.2.1) = skf (yg1 D (cI I) (t.1, t.2.1)) (ych D (cI I) (t.1, t.2.1)) := if_neg c1
    by_cases c2 : qq ≤ dvI (D (D (D (D t.2.1)))) 16
    · have g3 : yg3 D (cI I) qq (t.1, t.2.1) = yg2 D (cI I) qq (t.1, t.2.1) := if_pos c2
      simp (config := {decide := true}) only [r126_0, r126_1, r126_2, r126_5, r126_6, r126_7, r126_10, r126_11, r126_12, r126_14, r126_17, r126_20, r126_21, r126_22, r126_24, r126_27, r126_28, r126_31, r126_32, r126_35, r126_36, r126_39, r126_40, r126_41, r126_43, r126_46, r126_47, r126_50, r126_51, r126_54, r126_55, r126_58, r126_59, if_true, if_false, Nat.reduceAdd, Int32.reduceToNatClampNeg, lo_i, lo_r, lo_n, kont_v, kont_n, List.length_nil, List.length_cons, dC, d24, d16, k66, c64 k66, c67 k66, w22, n67, n65, y2, y4, ec2, es, g1, c1, c2, upR_same, et]
      have Y3' := ys_seed (v := D (D (D (D t.2.1)))) (ys_row hI (g := skf (yg1 D (cI I) (t.1, t.2.1)) (ych D (cI I) (t.1, t.2.1))) (ys_seed (v := D (D (D t.2.1))) Y2) (fun i hi => by rw [skf_hi hc6 hi]; exact (H i hi).2.2))
      rw [g3, g2] at h
      exact h _ Y3'
    · have g3 : yg3 D (cI I) qq (t.1, t.2.1) = wnf (yg2 D (cI I) qq (t.1, t.2.1)) (ych D (cI I) (t.1, t.2.1)) := if_neg c2
      simp (config := {decide := true}) only [r126_0, r126_1, r126_2, r126_5, r126_6, r126_7, r126_10, r126_11, r126_12, r126_14, r126_17, r126_20, r126_21, r126_22, r126_24, r126_27, r126_28, r126_31, r126_32, r126_35, r126_36, r126_39, r126_40, r126_41, r126_43, r126_46, r126_47, r126_50, r126_51, r126_54, r126_55, r126_58, r126_59, if_true, if_false, Nat.reduceAdd, Int32.reduceToNatClampNeg, lo_i, lo_r, lo_n, kont_v, kont_n, List.length_nil, List.length_cons, dC, d24, d16, k66, c64 k66, c67 k66, c66 k66, w22, n67, n65, y2, y4, ec2, es, g1, c1, c2, upR_same, et, ew]
      have Y3' := ys_row hI (g := wnf (skf (yg1 D (cI I) (t.1, t.2.1)) (ych D (cI I) (t.1, t.2.1))) (ych D (cI I) (t.1, t.2.1))) (ys_seed (v := D (D (D (D t.2.1)))) (ys_row hI (g := skf (yg1 D (cI I) (t.1, t.2.1)) (ych D (cI I) (t.1, t.2.1))) (ys_seed (v := D (D (D t.2.1))) Y2) (fun i hi => by rw [skf_hi hc6 hi]; exact (H i hi).2.2))) (fun i hi => by rw [wnf_hi hc6 hi, skf_hi hc6 hi]; exact (H i hi).2.2)
      rw [g3, g2] at h
      exact h _ Y3'
theorem c125 (hD : ∀ v : Int32, v * 1103515245 + 12345 = D v) (hI : Inv I) {days : Nat} (hdy : days < 1000) {t : Y3} (hY : YS I f J t) (h : ∀ K, YS I f K (foldN (fun _ t => ydS D I qq t) days t) → Φ (.inl none) (mk n K L x)) : wpc (d + 6) 125 [.ref (65 : Nat), .ref (39 : Nat), .int (nt days), .int qq] (mk n J L x) Φ := by
  have h6 := inv_c6 hI
  have h7 := inv_s7 hI
  show wp (d + 6) 125 0 [.ref (65 : Nat), .ref (39 : Nat), .int (nt days), .int qq, noV, noV] [] (mk n J L x) Φ
  simp (config := {decide := true}) only [r125_0, r125_1, if_true, if_false, Nat.reduceAdd, Int32.reduceToNatClampNeg, lo_i, lo_r, lo_n, kont_v, kont_n, List.length_nil, List.length_cons]
  refine loopD (P := fun k t => ∀ K v, NL v → YS I f K t → wp (d + 6) 125 3 [.ref (65 : Nat), .ref (39 : Nat), .int (nt days), .int qq, .int (nt k), v] [] (mk n K L x) Φ) (Q := fun t => ∀ K, YS I f K t → Φ (.inl none) (mk n K L x)) (n := days) (f := fun _ t => ydS D I qq t) ?_ ?_ t h J noV lo_n hY
  · intro k t hk hn K v hv hK
    have e1 : ¬ (nt days ≤ nt k) := nt_nle hk (by omega)
    have hours : ∀ K v, NL v → YS I f K (yrC D (cI I) qq t) → wp (d + 6) 125 31 [.ref (65 : Nat), .ref (39 : Nat), .int (nt days), .int qq, .int (nt k), v] [] (mk n K L x) Φ := by
      intro K v hv hK
      simp (config := {decide := true}) only [r125_31, r125_32, if_true, if_false, Nat.reduceAdd, Int32.reduceToNatClampNeg, lo_i, lo_r, lo_n, kont_v, kont_n, List.length_nil, List.length_cons]
      refine loopD (P := fun i t => ∀ K, YS I f K t → wp (d + 6) 125 34 [.ref (65 : Nat), .ref (39 : Nat), .int (nt days), .int qq, .int (nt k), .int (nt i)] [] (mk n K L x) Φ) (Q := fun t => ∀ K, YS I f K t → wp (d + 6) 125 3 [.ref (65 : Nat), .ref (39 : Nat), .int (nt days), .int qq, .int (nt (k + 1)), .int 24] [] (mk n K L x) Φ) (n := 24) (f := fun _ t => yhS I t) ?_ ?_ (yrC D (cI I) qq t) (fun K hK => hn K (.int 24) (lo_i _) hK) K hK
      · intro i t hi hm K hK
        have f1 : ¬ ((24 : Int32) ≤ nt i) := nt_nle (m := 24) hi (by decide)
        obtain ⟨y1, y2, y3, y4, y5, y6⟩ := id hK
        have hIK := sm_inv hI y1
        have u1 : phW K (K 67) = phW I t.1 := by rw [tr_pw y1.1, y2]
        have u2 : phR K (K 67) = phR I t.1 := by rw [tr_pr y1.1, y2]
        have u3 : bcI (phW I t.1) = one7 (phW I t.1) := wk_cnt h7
        rw [r125_34]
        simp (config := {decide := true}) only [r125_36, r125_38, r125_41, r125_42, r125_43, r125_46, r125_47, r125_48, r125_51, r125_54, r125_57, r125_58, r125_61, r125_64, if_true, if_false, Nat.reduceAdd, Int32.reduceToNatClampNeg, lo_i, lo_r, lo_n, kont_v, kont_n, List.length_nil, List.length_cons, f1, y5, k66, g25 hIK.1.1 k66, u1, u2, u3, c315, nt_succ]
        refine hm _ ?_
        exact ys_wak (ys_scr (ys_row hI hK (fun i hi => by rw [ph_hi hi]; exact y6 i hi)))
      · intro t ht K hK
        rw [r125_34]
        simp (config := {decide := true}) only [r125_36, r125_38, r125_41, r125_42, r125_43, r125_46, r125_47, r125_48, r125_51, r125_54, r125_57, r125_58, r125_61, r125_64, r125_67, r125_70, if_true, if_false, Nat.reduceAdd, Int32.reduceToNatClampNeg, lo_i, lo_r, lo_n, kont_v, kont_n, List.length_nil, List.length_cons, nt_succ]
        exact ht K hK
    have ec : K 12 6 = nt (cI I) := by rw [t12 hK.1.1]; exact inv_c hI
    rw [r125_3]
    by_cases hC : 0 < cI I
    · have e2 : ¬ (nt (cI I) ≤ 0) := nt_nle (m := cI I) (j := 0) hC (by omega)
      simp (config := {decide := true}) only [r125_5, r125_6, r125_9, r125_10, r125_13, r125_16, r125_19, r125_20, r125_21, r125_24, r125_27, if_true, if_false, Nat.reduceAdd, Int32.reduceToNatClampNeg, lo_i, lo_r, lo_n, kont_v, kont_n, List.length_nil, List.length_cons, e1, k12, ec, e2]
      rw [r125_28 (by decide)]
      refine c126 hD hI hC hK (fun K hK => ?_)
      simp (config := {decide := true}) only [if_true, if_false, Nat.reduceAdd, Int32.reduceToNatClampNeg, lo_i, lo_r, lo_n, kont_v, kont_n, List.length_nil, List.length_cons]
      exact hours K v hv hK
    · have e2 : nt (cI I) ≤ 0 := by
        have : cI I = 0 := by omega
        rw [this]; decide
      simp (config := {decide := true}) only [r125_5, r125_6, r125_9, r125_10, r125_13, r125_16, r125_19, r125_20, r125_21, r125_24, r125_27, if_true, if_false, Nat.reduceAdd, Int32.reduceToNatClampNeg, lo_i, lo_r, lo_n, kont_v, kont_n, List.length_nil, List.length_cons, e1, k12, ec, e2]
      refine hours K v hv ?_
      unfold yrC
      rw [if_neg hC]
      exact hK
  · intro t ht K v hv hK
    have e6 : nt days ≤ nt days := Int32.le_refl _
    rw [r125_3]
    simp (config := {decide := true}) only [r125_5, r125_6, r125_73, if_true, if_false, Nat.reduceAdd, Int32.reduceToNatClampNeg, lo_i, lo_r, lo_n, kont_v, kont_n, List.length_nil, List.length_cons, e6]
    exact ht K hK
theorem c124 (hI : Inv I) (hJ : Sm I J) (h : ∀ K, YS I (I 41) K (I 41, sd, 0) → Φ (.inl none) (mk n K L x)) : wpc (d + 1) 124 [.ref (65 : Nat), .ref (40 : Nat), .int sd] (mk n J L x) Φ := by
  have hIJ := sm_inv hI hJ
  have z := iz hIJ
  have e41 := t41 hJ.1
  have c1 : cpI J 41 0 67 0 84 = upR J 67 (I 41) := by
    unfold cpI
    rw [cp_row (fun i hi => by rw [(z i hi).1, (z i hi).2.2.1]), e41]
  have c2 : cpI (upR J 67 (I 41)) 41 0 69 0 84 = upR (upR J 67 (I 41)) 69 (I 41) := by
    have u1 : upR J 67 (I 41) 41 = J 41 := upR_ne (by decide)
    have u2 : upR J 67 (I 41) 69 = J 69 := upR_ne (by decide)
    unfold cpI
    rw [u1, u2, cp_row (fun i hi => by rw [(z i hi).1, (z i hi).2.2.2.1]), e41]
  show wp (d + 1) 124 0 [.ref (65 : Nat), .ref (40 : Nat), .int sd] [] (mk n J L x) Φ
  simp (config := {decide := true}) only [r124_0, r124_1, r124_4, r124_5, r124_8, r124_9, r124_12, r124_13, r124_16, r124_17, r124_18, r124_21, r124_22, r124_23, r124_26, if_true, if_false, Nat.reduceAdd, Int32.reduceToNatClampNeg, lo_i, lo_r, lo_n, kont_v, kont_n, List.length_nil, List.length_cons, k40, k66, k68, c42 k66 k40, c42 k68 k40, c1, c2]
  refine h _ ⟨?_, ?_, ?_, ?_, ?_, hi41 hI⟩
  · refine sm_65 (sm_65 (sm_trans (sm_trans hJ (sm_4 rfl (fun i hi => ?_))) (sm_4 rfl (fun i hi => ?_))))
    · rw [hi41 hI i hi, (z i hi).2.2.1]
    · rw [hi41 hI i hi, upR_ne (by decide), (z i hi).2.2.2.1]
  · rw [wrI_ne (by decide), wrI_ne (by decide), upR_ne (by decide), upR_same]
  · rw [wrI_ne (by decide), wrI_ne (by decide), upR_same]
  · rw [wr_k (by decide), wr_eq]
  · exact wr_eq
theorem c128 {s : Nat} (hs : s < 7) {t : Y3} (hY : YS I f J t) : wpc (d + 2) 128 [.ref (65 : Nat), .int (nt s)] (mk n J L x) Φ ↔ Φ (.inl (some (.int (t.1 (74 + s) - f (74 + s))))) (mk n J L x) := by
  obtain ⟨y1, y2, y3, y4, y5, y6⟩ := hY
  have e1 : ∀ f : Nat → Int32, atv 84 f (74 + nt s) = f (74 + s) := fun f => at_b 74 (by omega) (by decide)
  show wp (d + 2) 128 0 [.ref (65 : Nat), .int (nt s)] [] (mk n J L x) Φ ↔ _
  simp (config := {decide := true}) only [r128_0, r128_1, r128_4, r128_5, r128_8, r128_9, r128_12, r128_13, r128_16, r128_17, if_true, if_false, Nat.reduceAdd, Int32.reduceToNatClampNeg, lo_i, lo_r, lo_n, kont_v, kont_n, List.length_nil, List.length_cons, k66, k68, c54 k66, c54 k68, y2, y3, e1]
def ofF (g f : Nat → Int32) (s : Nat) (q : Int32 × Int32) : Int32 × Int32 := if g (74 + s) - f (74 + s) ≤ q.2 then q else (nt s, g (74 + s) - f (74 + s))
theorem c129 {t : Y3} (hY : YS I f J t) : wpc (d + 3) 129 [.ref (65 : Nat)] (mk n J L x) Φ ↔ Φ (.inl (some (.int (foldN (ofF t.1 f) 7 (-1, 0)).1))) (mk n J L x) := by
  show wp (d + 3) 129 0 [.ref (65 : Nat), noV, noV, noV] [] (mk n J L x) Φ ↔ _
  simp (config := {decide := true}) only [r129_0, r129_1, r129_2, r129_3, r129_4, r129_5, if_true, if_false, Nat.reduceAdd, Int32.reduceToNatClampNeg, lo_i, lo_r, lo_n, kont_v, kont_n, List.length_nil, List.length_cons]
  refine loopN (P := fun k (q : Int32 × Int32) => wp (d + 3) 129 6 [.ref (65 : Nat), .int q.1, .int q.2, .int (nt k)] [] (mk n J L x) Φ) (Q := fun q => Φ (.inl (some (.int q.1))) (mk n J L x)) (n := 7) ?_ ?_ (-1, 0)
  · intro k q hk
    have e1 : ¬ ((7 : Int32) ≤ nt k) := nt_nle (m := 7) hk (by decide)
    unfold ofF
    rw [r129_6]
    by_cases h1 : t.1 (74 + k) - f (74 + k) ≤ q.2
    · simp (config := {decide := true}) only [r129_7, r129_9, r129_12, r129_13, r129_14, r129_17, r129_18, r129_21, r129_22, r129_23, r129_24, r129_25, r129_28, r129_29, r129_32, r129_35, r129_36, if_true, if_false, Nat.reduceAdd, Int32.reduceToNatClampNeg, lo_i, lo_r, lo_n, kont_v, kont_n, List.length_nil, List.length_cons, e1, c128 hk hY, h1, nt_succ]
    · simp (config := {decide := true}) only [r129_7, r129_9, r129_12, r129_13, r129_14, r129_17, r129_18, r129_21, r129_22, r129_23, r129_24, r129_25, r129_28, r129_29, r129_32, r129_35, r129_36, if_true, if_false, Nat.reduceAdd, Int32.reduceToNatClampNeg, lo_i, lo_r, lo_n, kont_v, kont_n, List.length_nil, List.length_cons, e1, c128 hk hY, h1, nt_succ]
  · intro q
    rw [r129_6]
    simp (config := {decide := true}) only [r129_7, r129_9, r129_12, r129_13, r129_14, r129_17, r129_18, r129_21, r129_22, r129_23, r129_24, r129_25, r129_28, r129_29, r129_32, r129_35, r129_36, if_true, if_false, Nat.reduceAdd, Int32.reduceToNatClampNeg, lo_i, lo_r, lo_n, kont_v, kont_n, List.length_nil, List.length_cons]
def yrV (f : Nat → Int32) (w : Int32) (t : Y3) : Int32 := if w = 0 then t.2.2 else if w = 1 then spt t.1 else if w = 2 then (foldN (ofF t.1 f) 7 (-1, 0)).1 else stf t.1
def aYear (D : Int32 → Int32) (I : Nat → Nat → Int32) (s v qq w : Int32) : An := if 1 ≤ v ∧ v ≤ 30 then (if 0 ≤ qq ∧ qq ≤ 16 then (if 0 ≤ w ∧ w ≤ 3 then (.inl (yrV (I 41) w (yrS D I (I 41) s v.toNatClampNeg qq))) else .inr (2, 1)) else .inr (2, 1)) else .inr (2, 1)
theorem t_aYear {D : Int32 → Int32} {I J : Nat → Nat → Int32} {s v qq w : Int32} (h : view J = view I) : aYear D J s v qq w = aYear D I s v qq w := by
  unfold aYear
  rw [t41 h, tr_ys h]
theorem yrV_0 {f : Nat → Int32} {t : Y3} : yrV f (nt 0) t = t.2.2 := by unfold yrV; rw [if_pos (by decide)]
theorem yrV_1 {f : Nat → Int32} {t : Y3} : yrV f (nt 1) t = spt t.1 := by unfold yrV; rw [if_neg (by decide), if_pos (by decide)]
theorem yrV_2 {f : Nat → Int32} {t : Y3} : yrV f (nt 2) t = (foldN (ofF t.1 f) 7 (-1, 0)).1 := by unfold yrV; rw [if_neg (by decide), if_neg (by decide), if_pos (by decide)]
theorem yrV_3 {f : Nat → Int32} {t : Y3} : yrV f (nt 3) t = stf t.1 := by unfold yrV; rw [if_neg (by decide), if_neg (by decide), if_neg (by decide)]
theorem d1_30 {v : Int32} {lo hi : Nat} (hh : hi < 1000) (h : nt lo ≤ v ∧ v ≤ nt hi) (h0 : (0 : Int32) ≤ nt lo) : ∃ D, D < 1000 ∧ D ≤ hi ∧ v = nt D := by
  obtain ⟨D, h1, h2⟩ := rgN (N := hi) hh ⟨Int32.le_trans h0 h.1, h.2⟩
  exact ⟨D, by omega, by omega, h2⟩
theorem q169 (hI : Inv I) (hx : x + 1 ≤ 600) (hD : ∀ v : Int32, v * 1103515245 + 12345 = D v) (h : resC n I L x Φ (aYear D I s v qq w)) : wpc (d + 12) 169 [.ref (9 : Nat), .int s, .int v, .int qq, .int w] (mk n I L x) Φ := by
  show wp (d + 12) 169 0 [.ref (9 : Nat), .int s, .int v, .int qq, .int w] [] (mk n I L x) Φ
  unfold aYear at h
  have hC := hI.1.1
  by_cases g1 : 1 ≤ v ∧ v ≤ 30
  · rw [if_pos g1] at h
    by_cases g2 : 0 ≤ qq ∧ qq ≤ 16
    · rw [if_pos g2] at h
      by_cases g3 : 0 ≤ w ∧ w ≤ 3
      · rw [if_pos g3] at h
        have g5 := g1
        obtain ⟨D9, hD9, -, rfl⟩ := d1_30 (lo := 1) (hi := 30) (by decide) g1 (by decide)
        rw [nt_clamp (k := D9) (by omega)] at h
        simp (config := {decide := true}) only [r169_0, r169_1, r169_2, r169_3, r169_5, r169_8, r169_11, r169_12, r169_13, r169_15, r169_18, r169_21, r169_23, r169_24, r169_25, r169_28, r169_31, r169_32, r169_35, r169_36, r169_39, r169_40, r169_43, r169_44, r169_47, if_true, if_false, Nat.reduceAdd, Int32.reduceToNatClampNeg, lo_i, lo_r, lo_n, kont_v, kont_n, List.length_nil, List.length_cons, and_self, and_true, true_and, and_false, false_and, not_true, not_false_eq_true, true_or, or_true, bi_eq0, c181 hx, c179 hx, c180 hx, c182, c183, kx, g5, g2, g3]
        rw [r169_48 (by decide)]
        refine c124 hI (sm_refl I) (fun J hJ => ?_)
        simp (config := {decide := true}) only [r169_51, r169_52, r169_55, r169_56, r169_59, r169_60, if_true, if_false, Nat.reduceAdd, Int32.reduceToNatClampNeg, lo_i, lo_r, lo_n, kont_v, kont_n, List.length_nil, List.length_cons]
        rw [r169_61 (by decide)]
        refine c125 hD hI (t := (I 41, s, 0)) hD9 hJ (fun K hK => ?_)
        simp (config := {decide := true}) only [r169_64, if_true, if_false, Nat.reduceAdd, Int32.reduceToNatClampNeg, lo_i, lo_r, lo_n, kont_v, kont_n, List.length_nil, List.length_cons]
        obtain ⟨y1, y2, y3, y4, y5, y6⟩ := id hK
        have h2 := h K y1
        unfold yrS at h2
        generalize foldN (fun _ t => ydS D I qq t) D9 (I 41, s, 0) = t at h2 hK y2 y4 y5 y6
        clear h hD hJ g5 g1 hC
        obtain ⟨k, hk, e⟩ := rgN (N := 3) (by decide) g3
        have hk4 : k = 0 ∨ k = 1 ∨ k = 2 ∨ k = 3 := by omega
        rcases hk4 with h4 | h4 | h4 | h4
        · rw [h4] at e
          rw [e] at h2 ⊢
          rw [r169_66 92 rfl]
          rw [yrV_0] at h2
          simp (config := {decide := true}) only [r169_92, r169_93, r169_96, r169_99, if_true, if_false, Nat.reduceAdd, Int32.reduceToNatClampNeg, lo_i, lo_r, lo_n, kont_v, kont_n, List.length_nil, List.length_cons, y5]
          exact h2
        · rw [h4] at e
          rw [e] at h2 ⊢
          rw [r169_66 100 rfl]
          rw [yrV_1] at h2
          simp (config := {decide := true}) only [r169_100, r169_101, r169_104, r169_107, r169_110, if_true, if_false, Nat.reduceAdd, Int32.reduceToNatClampNeg, lo_i, lo_r, lo_n, kont_v, kont_n, List.length_nil, List.length_cons, k66, c63 k66, y2]
          exact h2
        · rw [h4] at e
          rw [e] at h2 ⊢
          rw [r169_66 111 rfl]
          rw [yrV_2] at h2
          simp (config := {decide := true}) only [r169_111, r169_112, r169_115, r169_118, if_true, if_false, Nat.reduceAdd, Int32.reduceToNatClampNeg, lo_i, lo_r, lo_n, kont_v, kont_n, List.length_nil, List.length_cons, c129 hK]
          exact h2
        · rw [h4] at e
          rw [e] at h2 ⊢
          rw [r169_66 119 rfl]
          rw [yrV_3] at h2
          simp (config := {decide := true}) only [r169_119, r169_120, r169_123, r169_126, r169_129, if_true, if_false, Nat.reduceAdd, Int32.reduceToNatClampNeg, lo_i, lo_r, lo_n, kont_v, kont_n, List.length_nil, List.length_cons, k66, c61 k66, y2]
          exact h2
      · rw [if_neg g3] at h
        simp (config := {decide := true}) only [r169_0, r169_1, r169_2, r169_3, r169_5, r169_8, r169_11, r169_12, r169_13, r169_15, r169_18, r169_21, r169_23, r169_24, r169_25, r169_28, r169_31, r169_32, r169_35, r169_36, r169_39, r169_40, r169_43, r169_44, r169_47, if_true, if_false, Nat.reduceAdd, Int32.reduceToNatClampNeg, lo_i, lo_r, lo_n, kont_v, kont_n, List.length_nil, List.length_cons, and_self, and_true, true_and, and_false, false_and, not_true, not_false_eq_true, true_or, or_true, bi_eq0, c181 hx, c179 hx, c180 hx, c182, c183, kx, g1, g2, g3]
        exact exC2 h
    · rw [if_neg g2] at h
      simp (config := {decide := true}) only [r169_0, r169_1, r169_2, r169_3, r169_5, r169_8, r169_11, r169_12, r169_13, r169_15, r169_18, r169_21, r169_23, r169_24, r169_25, r169_28, r169_31, r169_32, r169_35, r169_36, r169_39, r169_40, r169_43, r169_44, r169_47, if_true, if_false, Nat.reduceAdd, Int32.reduceToNatClampNeg, lo_i, lo_r, lo_n, kont_v, kont_n, List.length_nil, List.length_cons, and_self, and_true, true_and, and_false, false_and, not_true, not_false_eq_true, true_or, or_true, bi_eq0, c181 hx, c179 hx, c180 hx, c182, c183, kx, g1, g2]
      exact exC2 h
  · rw [if_neg g1] at h
    simp (config := {decide := true}) only [r169_0, r169_1, r169_2, r169_3, r169_5, r169_8, r169_11, r169_12, r169_13, r169_15, r169_18, r169_21, r169_23, r169_24, r169_25, r169_28, r169_31, r169_32, r169_35, r169_36, r169_39, r169_40, r169_43, r169_44, r169_47, if_true, if_false, Nat.reduceAdd, Int32.reduceToNatClampNeg, lo_i, lo_r, lo_n, kont_v, kont_n, List.length_nil, List.length_cons, and_self, and_true, true_and, and_false, false_and, not_true, not_false_eq_true, true_or, or_true, bi_eq0, c181 hx, c179 hx, c180 hx, c182, c183, kx, g1]
    exact exC2 h
end Y
