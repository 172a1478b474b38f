/-! WORK: both sides -/
section Wp
variable {d n x N z w sn cn : Nat} {B : Nat → Int32} {Φ : POut → PM → Prop} {I I0 J K G : Nat → Nat → Int32} {L : Nat → Nat → Int64} {v q : Int32} {τ : WS} {U : WPs} {PH : (Nat → Int32) → Nat → Int32} {f0 : Nat → Int32}
theorem WM_self : WM I I = I := by
  funext r
  unfold WM
  split <;> rfl
theorem c14 (hT : TX I N) (hG : SG I 2 wd2) (hN : N ≤ 150) (h5 : I 12 5 = nt sn) (h6 : I 12 6 = nt cn) (hs7 : sn ≤ 7) (hc6 : cn ≤ 6) (hJ : CT I J N (.inl 0)) (hok : ∀ τ p', rWk (I 11) N sn cn = .inl (τ, p') → ∀ G' K, Wc G' τ → CT (WM I G') K N (.inl p') → Φ (.inl none) (mk n K L x)) (hbad : ∀ e, rWk (I 11) N sn cn = .inr e → ∀ G' K, CT (WM I G') K N (.inr e) → Φ (.inl none) (mk n K L x)) : wpc (d + 26) 14 [.ref (32 : Nat), .ref (10 : Nat), .ref (12 : Nat)] (mk n J L x) Φ := by
  have hU : CWn n I N (d + 24) 16 (nt 0) (rSt (I 11) N sn cn (sB (I 11) N sn cn 6)) := c16_all hT hG hN h5 h6 hs7 hc6 6 0 d rfl
  have h15 : CWn n I N (d + 25) 15 0 (rWl (I 11) N (-1) (rSt (I 11) N sn cn (sB (I 11) N sn cn 6)) 31) := c15 (d := d + 18) hT hN (Or.inl ⟨rfl, rfl⟩) hU (PSs_all hs7 hc6 6) (fun σ p => rSt_skp)
  have hJ1 : CT (WM I I) J N (.inl 0) := by rw [WM_self]; exact hJ
  have hJ2 := CT_wa (r := 32) (i := 4) (v := 0) hJ1 (by decide)
  show wp (d + 26) 14 0 [.ref (32 : Nat), .ref (10 : Nat), .ref (12 : Nat)] [] (mk n J L x) Φ
  simp (config := {decide := true}) only [r14_0, r14_1, r14_2, r14_5, r14_6, r14_7, r14_8, r14_9, if_true, if_false, Nat.reduceAdd, Int32.reduceToNatClampNeg, lo_i, lo_r, lo_n, kont_v, kont_n, List.length_nil, List.length_cons]
  refine h15 _ _ _ _ _ ws00 0 ⟨by rw [upR_same, up_same]; rfl, fun i hi r hr v hv => nomatch hv⟩ (Nat.le_refl 0) hJ2 (fun τ p1 hf G1 K1 hm1 hK1 => kont_n.mpr ?_) (fun e hf G1 K1 hK1 => kont_n.mpr ?_)
  · simp (config := {decide := true}) only [r14_12, if_true, if_false, Nat.reduceAdd, Int32.reduceToNatClampNeg, lo_i, lo_r, lo_n, kont_v, kont_n, List.length_nil, List.length_cons]
    exact hok τ p1 hf G1 K1 hm1 hK1
  · simp (config := {decide := true}) only [r14_12, if_true, if_false, Nat.reduceAdd, Int32.reduceToNatClampNeg, lo_i, lo_r, lo_n, kont_v, kont_n, List.length_nil, List.length_cons]
    exact hbad e hf G1 K1 hK1
theorem c19 : wpc d 19 [.ref (32 : Nat)] (mk n J L x) Φ ↔ Φ (.inl none) (mk n (wrI (wrI (wrI J 32 5 0) 32 6 0) 32 7 0) L x) := by
  show wp d 19 0 [.ref (32 : Nat)] [] (mk n J L x) Φ ↔ _
  simp (config := {decide := true}) only [r19_0, r19_1, r19_2, r19_5, r19_6, r19_7, r19_10, r19_11, r19_12, r19_15, if_true, if_false, Nat.reduceAdd, Int32.reduceToNatClampNeg, lo_i, lo_r, lo_n, kont_v, kont_n, List.length_nil, List.length_cons]
theorem rWk_ok (hs7 : sn ≤ 7) (hc6 : cn ≤ 6) (hN : N ≤ 150) {p' : Nat} (h : rWk B N sn cn = .inl (τ, p')) : τ.1 ≤ 30 ∧ okI τ.2 sn cn τ.1 6 0 τ.1 := by
  obtain ⟨a1, a2, a3, a4, a5, a6, a7⟩ := PSb_l (B := B) (s := -1) (PSs_all (N := N) hs7 hc6 6) 31 _ _ _ _ (Nat.zero_le N) h
  have a3 : 0 + 5 * τ.1 ≤ p' + 0 := a3
  exact ⟨by omega, a7⟩
theorem c134p (hx : x + 1 ≤ 600) (hI : LI I) (hz : I 10 1 = nt z) (hzz : z ≤ 600) (hN : N ≤ z) (h150 : N ≤ 150) (hw : I 44 1 = nt w) (hw16 : w < 16) (hok : ∀ τ p', rWk (I 11) N (sI I) (cI I) = .inl (τ, p') → ∀ G K, Wc G τ → CT (WM (wrI I 10 2 (nt N)) G) K N (.inl p') → wp (d + 34) 134 40 [.ref (9 : Nat), .int (nt N)] [] (mk n K L x) Φ) (hbad : ∀ e, rWk (I 11) N (sI I) (cI I) = .inr e → ∀ G K, CT (WM (wrI I 10 2 (nt N)) G) K N (.inr e) → wp (d + 34) 134 40 [.ref (9 : Nat), .int (nt N)] [] (mk n K L x) Φ) : wpc (d + 34) 134 [.ref (9 : Nat), .int (nt N)] (mk n I L x) Φ := by
  obtain ⟨hT, h701, h71, hB⟩ := it_x hI.1 hz hzz hN
  have k44 : K9 44 := Or.inl rfl
  have k12 : K6 12 := Or.inl rfl
  have hin : (0 : Int32) ≤ nt N ∧ nt N ≤ 150 ∧ nt N ≤ I 10 1 := ⟨nt_ge (by omega), by rw [show (150 : Int32) = nt 150 from rfl, nt_le (by omega) (by decide)]; exact h150, by rw [hz, nt_le (by omega) (by omega)]; exact hN⟩
  have hG : SG (wrI I 10 2 (nt N)) 2 wd2 := by
    obtain ⟨g1, g2, g3, g4, g5⟩ := sg2 hI.1.2.2.2.2.2.2.2.1
    exact ⟨g1, by rw [wrI_ne (by decide)]; exact g2, g3, g4, by rw [wrI_ne (by decide)]; exact g5⟩
  have e44 : ¬ (16 ≤ tS (wrI I 10 2 (nt N)) 0 0 0 (-1) 44 1) := by rw [tS_ne (by decide), wrI_ne (by decide), hw]; exact nt_nle (m := 16) hw16 (by decide)
  show wp (d + 34) 134 0 [.ref (9 : Nat), .int (nt N)] [] (mk n I L x) Φ
  simp (config := {decide := true}) only [r134_0, r134_1, r134_2, r134_5, r134_8, r134_9, r134_12, r134_15, r134_25, r134_26, r134_29, r134_30, r134_33, r134_34, r134_37, if_true, if_false, Nat.reduceAdd, Int32.reduceToNatClampNeg, lo_i, lo_r, lo_n, kont_v, kont_n, List.length_nil, List.length_cons, and_self, and_true, true_and, and_false, false_and, not_true, not_false_eq_true, true_or, or_true, bi_eq0, c175 hx, hin, k44, c117 k44, e44]
  refine c14 (d := d + 7) hT hG h150 (sn := sI I) (cn := cI I) (by rw [wrI_ne (by decide)]; exact inv_s hI.1) (by rw [wrI_ne (by decide)]; exact inv_c hI.1) (inv_s7 hI.1) (inv_c6 hI.1) (ct_ok (a := 0) rfl (Nat.zero_le N)) ?_ ?_
  · intro τ p2 hr2 G K hm hK
    rw [wrI_ne (by decide)] at hr2
    exact kont_n.mpr (hok τ p2 hr2 G K hm hK)
  · intro e hr2 G K hK
    rw [wrI_ne (by decide)] at hr2
    exact kont_n.mpr (hbad e hr2 G K hK)
def wrS (I : Nat → Nat → Int32) (τ : WS) : XS := runI (phR I) τ.2 τ.1 0 τ.1 (I 41, 0, 0, 0)
theorem c134a (hx : x + 1 ≤ 600) (hI : LI I) (hz : I 10 1 = nt z) (hzz : z ≤ 600) (hN : N ≤ z) (h150 : N ≤ 150) (hw : I 44 1 = nt w) (hw16 : w < 16) {p' : Nat} (hr : rWk (I 11) N (sI I) (cI I) = .inl (τ, p')) (h : ∀ J, (∀ r, r ≠ 9 → r ≠ 10 → r ≠ 26 → r ≠ 27 → (r < 32 ∨ 36 < r) → r ≠ 41 → r ≠ 44 → r ≠ 45 → J r = I r) → J 41 = (wrS I τ).1 → J 44 1 = nt (w + 1) → J 45 = va_cpy (I 41) (I 45) 0 (84 * w) 84 → J 9 15 = nt (wrS I τ).2.2.2 → (∀ i, i ≠ 15 → J 9 i = I 9 i) → J 10 1 = 0 → J 10 6 = -1 → Φ (.inl (some (.int (nt (wrS I τ).2.2.1)))) (mk n J L x)) : wpc (d + 34) 134 [.ref (9 : Nat), .int (nt N)] (mk n I L x) Φ := by
  have k44 : K9 44 := Or.inl rfl
  have k40 : K5 40 := Or.inl rfl
  refine c134p hx hI hz hzz hN h150 hw hw16 (fun τ2 p2 hr2 G K hm hK => ?_) (fun e hr2 => by rw [hr] at hr2; cases hr2)
  rw [hr] at hr2
  cases hr2
  obtain ⟨h30, hok⟩ := rWk_ok (inv_s7 hI.1) (inv_c6 hI.1) h150 hr
  have e0 : flt (.inl p') = 0 := rfl
  have k5 : K 10 5 = 0 ∧ K 10 6 = -1 := by
    obtain ⟨hp, s1, q1, hq1, rfl⟩ := hK
    exact ⟨tS_5, by rw [tS_6]; exact hq1⟩
  have kI : ∀ r, r ≠ 10 → (r < 32 ∨ 36 < r) → K r = I r := fun r h1 h2 => by rw [CT_ne hK h1, WM_o h2, wrI_ne h1]
  have kG : ∀ r, 32 ≤ r → r ≤ 36 → K r = G r := fun r h1 h2 => by rw [CT_ne hK (by omega), WM_i ⟨h1, h2⟩]
  have kw : K 44 1 = nt w := by rw [kI 44 (by decide) (by decide)]; exact hw
  simp (config := {decide := true}) only [r134_40, r134_41, r134_44, r134_47, r134_50, r134_51, r134_54, r134_55, r134_58, r134_61, r134_62, r134_65, if_true, if_false, Nat.reduceAdd, Int32.reduceToNatClampNeg, lo_i, lo_r, lo_n, kont_v, kont_n, List.length_nil, List.length_cons, c95t hK, e0, k44, k40, c121 k40 kw hw16, c19]
  have h45 : cpI K 41 0 45 (84 * w) 84 = upR K 45 (va_cpy (I 41) (I 45) 0 (84 * w) 84) := by
    unfold cpI
    rw [kI 41 (by decide) (by decide), kI 45 (by decide) (by decide)]
  rw [h45]
  have f1 : ∀ r, r ≠ 32 → r ≠ 44 → r ≠ 45 → wrI (wrI (wrI (wrI (upR K 45 (va_cpy (I 41) (I 45) 0 (84 * w) 84)) 44 1 (nt (w + 1))) 32 5 0) 32 6 0) 32 7 0 r = K r := fun r g1 g2 g3 => by rw [wrI_ne g1, wrI_ne g1, wrI_ne g1, wrI_ne g2, upR_ne g3]
  have f4 : wrI (wrI (wrI (wrI (upR K 45 (va_cpy (I 41) (I 45) 0 (84 * w) 84)) 44 1 (nt (w + 1))) 32 5 0) 32 6 0) 32 7 0 32 4 = nt τ.1 := by rw [wr_k (by decide), wr_k (by decide), wr_k (by decide), wrI_ne (by decide), upR_ne (by decide), kG 32 (by decide) (by decide)]; exact hm.1
  have f5 : wrI (wrI (wrI (wrI (upR K 45 (va_cpy (I 41) (I 45) 0 (84 * w) 84)) 44 1 (nt (w + 1))) 32 5 0) 32 6 0) 32 7 0 32 5 = 0 := by rw [wr_k (by decide), wr_k (by decide), wr_eq]
  have f6 : wrI (wrI (wrI (wrI (upR K 45 (va_cpy (I 41) (I 45) 0 (84 * w) 84)) 44 1 (nt (w + 1))) 32 5 0) 32 6 0) 32 7 0 32 6 = 0 := by rw [wr_k (by decide), wr_eq]
  have f7 : wrI (wrI (wrI (wrI (upR K 45 (va_cpy (I 41) (I 45) 0 (84 * w) 84)) 44 1 (nt (w + 1))) 32 5 0) 32 6 0) 32 7 0 32 7 = 0 := by rw [wr_eq]
  have f44 : wrI (wrI (wrI (wrI (upR K 45 (va_cpy (I 41) (I 45) 0 (84 * w) 84)) 44 1 (nt (w + 1))) 32 5 0) 32 6 0) 32 7 0 44 1 = nt (w + 1) := by rw [wrI_ne (by decide), wrI_ne (by decide), wrI_ne (by decide), wr_eq]
  have f45 : wrI (wrI (wrI (wrI (upR K 45 (va_cpy (I 41) (I 45) 0 (84 * w) 84)) 44 1 (nt (w + 1))) 32 5 0) 32 6 0) 32 7 0 45 = va_cpy (I 41) (I 45) 0 (84 * w) 84 := by rw [wrI_ne (by decide), wrI_ne (by decide), wrI_ne (by decide), wrI_ne (by decide), upR_same]
  generalize wrI (wrI (wrI (wrI (upR K 45 (va_cpy (I 41) (I 45) 0 (84 * w) 84)) 44 1 (nt (w + 1))) 32 5 0) 32 6 0) 32 7 0 = K2 at *
  have g41 : K2 41 = I 41 := by rw [f1 41 (by decide) (by decide) (by decide), kI 41 (by decide) (by decide)]
  have gI : ∀ r, (r ≠ 10 ∧ (r < 32 ∨ 36 < r) ∧ r ≠ 44 ∧ r ≠ 45) → K2 r = I r := fun r g => by rw [f1 r (by omega) g.2.2.1 g.2.2.2, kI r g.1 g.2.1]
  have ep : phR K2 = phR I := phR_cg (gI 12 (by decide)) (gI 13 (by decide)) (gI 15 (by decide)) (gI 24 (by decide)) (gI 25 (by decide))
  have eC : CI K2 := CI_cg (gI 12 (by decide)) (gI 13 (by decide)) (gI 24 (by decide)) (gI 25 (by decide)) hI.1.1.1
  have hmem : ∀ i, i < 4 → ∀ r, r < 30 → ∀ v, τ.2 i r = some v → K2 (33 + i) r = nt v := fun i hi r hr v hv => by rw [f1 (33 + i) (by omega) (by omega) (by omega), kG (33 + i) (by omega) (by omega)]; exact hm.2 i hi r hr v hv
  simp (config := {decide := true}) only [r134_68, r134_69, r134_72, r134_73, r134_76, r134_77, r134_80, r134_81, r134_82, r134_85, r134_88, r134_89, if_true, if_false, Nat.reduceAdd, Int32.reduceToNatClampNeg, lo_i, lo_r, lo_n, kont_v, kont_n, List.length_nil, List.length_cons, f4]
  refine c20 (d := d + 20) (s := (I 41, 0, 0, 0)) eC (inv_s7 hI.1) (inv_c6 hI.1) hmem hok h30 (Nat.zero_le 200) ⟨fun _ _ _ _ _ => rfl, g41, f5, f6, f7, rfl⟩ (fun K3 hE => kont_n.mpr ?_)
  rw [ep] at hE
  have hE : EC K2 K3 (wrS I τ) := hE
  obtain ⟨a1, a2, a3, a4, a5, a6⟩ := hE
  have j10 : K3 10 = K 10 := by rw [a1 10 (by decide) (by decide) (by decide) (by decide), f1 10 (by decide) (by decide) (by decide)]
  have j5 : wrI K3 9 15 (nt (wrS I τ).2.2.2) 10 5 = 0 := by rw [wrI_ne (by decide), j10]; exact k5.1
  have j6 : wrI K3 9 15 (nt (wrS I τ).2.2.2) 32 6 = nt (wrS I τ).2.2.1 := by rw [wrI_ne (by decide)]; exact a4
  simp (config := {decide := true}) only [r134_92, r134_93, r134_94, r134_97, r134_100, r134_103, r134_104, r134_105, r134_108, r134_111, r134_114, if_true, if_false, Nat.reduceAdd, Int32.reduceToNatClampNeg, lo_i, lo_r, lo_n, kont_v, kont_n, List.length_nil, List.length_cons, a5, j6, c176g, j5]
  refine h _ (fun r g1 g2 g3 g4 g5 g6 g7 g8 => ?_) ?_ ?_ ?_ ?_ (fun i hi => ?_) ?_ ?_
  · rw [wrI_ne g2, wrI_ne g1, a1 r g3 g4 (by omega) g6, gI r ⟨g2, g5, g7, g8⟩]
  · rw [wrI_ne (by decide), wrI_ne (by decide)]; exact a2
  · rw [wrI_ne (by decide), wrI_ne (by decide), a1 44 (by decide) (by decide) (by decide) (by decide)]; exact f44
  · rw [wrI_ne (by decide), wrI_ne (by decide), a1 45 (by decide) (by decide) (by decide) (by decide)]; exact f45
  · rw [wrI_ne (by decide), wr_eq]
  · rw [wrI_ne (by decide), wr_k hi, a1 9 (by decide) (by decide) (by decide) (by decide), gI 9 (by decide)]
  · rw [wr_eq]
  · rw [wr_k (by decide), wrI_ne (by decide), j10]; exact k5.2
theorem c134b (hx : x + 1 ≤ 600) (hI : LI I) (hz : I 10 1 = nt z) (hzz : z ≤ 600) (hN : N ≤ z) (h150 : N ≤ 150) (hw : I 44 1 = nt w) (hw16 : w < 16) {e : Nat × Nat} (hr : rWk (I 11) N (sI I) (cI I) = .inr e) (h : e.1 ≠ 0 → e.1 < 10 → ∀ J, (∀ r, r ≠ 10 → (r < 32 ∨ 36 < r) → J r = I r) → J 10 1 = 0 → J 10 6 = nt e.2 → Φ (.inl (some (.int (nt e.1 - 10)))) (mk n J L x)) : wpc (d + 34) 134 [.ref (9 : Nat), .int (nt N)] (mk n I L x) Φ := by
  refine c134p hx hI hz hzz hN h150 hw hw16 (fun τ2 p2 hr2 => by rw [hr] at hr2; cases hr2) (fun e2 hr2 G K hK => ?_)
  rw [hr] at hr2
  cases hr2
  obtain ⟨h0, h1, a1, s1, ha1, rfl⟩ := id hK
  have e0 : ¬ flt (.inr e) = 0 := h0
  have hk := kf h0 h1
  simp (config := {decide := true}) only [r134_40, r134_41, r134_44, r134_47, r134_103, r134_104, r134_105, r134_108, r134_111, r134_114, if_true, if_false, Nat.reduceAdd, Int32.reduceToNatClampNeg, lo_i, lo_r, lo_n, kont_v, kont_n, List.length_nil, List.length_cons, c95t hK, e0, c176, hk]
  refine h h0 h1 _ (fun r h1 h3 => ?_) ?_ ?_
  · rw [tS_ne h1, wrI_ne h1, WM_o h3, wrI_ne h1]
  · rw [tS_1, wr_eq]
  · rw [tS_6]
theorem c134f (hx : x + 1 ≤ 600) (hz : I 10 1 = nt z) (hzz : z ≤ 600) (hN : N ≤ z) (h150 : N ≤ 150) (hw : I 44 1 = nt 16) (h : ∀ J, (∀ r, r ≠ 10 → J r = I r) → J 10 1 = 0 → J 10 6 = -1 → Φ (.inl (some (.int (-20)))) (mk n J L x)) : wpc (d + 34) 134 [.ref (9 : Nat), .int (nt N)] (mk n I L x) Φ := by
  have k44 : K9 44 := Or.inl rfl
  have hin : (0 : Int32) ≤ nt N ∧ nt N ≤ 150 ∧ nt N ≤ I 10 1 := ⟨nt_ge (by omega), by rw [show (150 : Int32) = nt 150 from rfl, nt_le (by omega) (by decide)]; exact h150, by rw [hz, nt_le (by omega) (by omega)]; exact hN⟩
  have e44 : 16 ≤ tS (wrI I 10 2 (nt N)) 0 0 0 (-1) 44 1 := by rw [tS_ne (by decide), wrI_ne (by decide), hw]; decide
  show wp (d + 34) 134 0 [.ref (9 : Nat), .int (nt N)] [] (mk n I L x) Φ
  simp (config := {decide := true}) only [r134_0, r134_1, r134_2, r134_5, r134_8, r134_9, r134_12, r134_15, r134_18, r134_19, r134_21, r134_24, if_true, if_false, Nat.reduceAdd, Int32.reduceToNatClampNeg, lo_i, lo_r, lo_n, kont_v, kont_n, List.length_nil, List.length_cons, and_self, and_true, true_and, and_false, false_and, not_true, not_false_eq_true, true_or, or_true, bi_eq0, c175 hx, hin, k44, c117 k44, e44, c176]
  refine h _ (fun r h1 => ?_) ?_ ?_
  · rw [tS_ne h1, wrI_ne h1, wrI_ne h1]
  · rw [tS_1, wr_eq]
  · rw [tS_6]
theorem c134x (hx : x + 1 ≤ 600) (hv : ¬ (0 ≤ v ∧ v ≤ 150 ∧ v ≤ I 10 1)) : wpc (d + 34) 134 [.ref (9 : Nat), .int v] (mk n I L x) Φ ↔ Φ (.inr 2) (mk n (wrI I 9 17 (I 9 17 + 1)) L (x + 1)) := by
  show wp (d + 34) 134 0 [.ref (9 : Nat), .int v] [] (mk n I L x) Φ ↔ _
  simp (config := {decide := true}) only [r134_0, r134_1, r134_2, r134_5, if_true, if_false, Nat.reduceAdd, Int32.reduceToNatClampNeg, lo_i, lo_r, lo_n, kont_v, kont_n, List.length_nil, List.length_cons, c175 hx, hv, kx]
end Wp

