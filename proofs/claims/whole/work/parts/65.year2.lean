/-! YEARS: of the reference; spans -/
section Y2
variable {d n x c r j : Nat} {μ : PM} {Φ : POut → PM → Prop} {I J K : Nat → Nat → Int32} {L : Nat → Nat → Int64} {k s h v w a b z y qq sd wk mm u : Int32} {p q : Scr} {f g g' F : Nat → Int32} {D : Int32 → Int32}
def led (I : Nat → Nat → Int32) (g : Nat → Int32) (s : Nat) : Int32 := if 23 ≤ g 81 ∧ ldr (hwk I g) = nt s then 1 else 0
theorem ph_led {s : Nat} (hs : s < 7) : phR I g (74 + s) = g (74 + s) + led I g s := by
  rw [show phR I g = trn (hwk I g) from rfl]
  have e81 : hwk I g 81 = g 81 := by unfold hwk hsp; rw [wkn_at _ _ _ (Or.inr (by decide)), spd_at _ _ _ (by decide)]
  have e74 : hwk I g (74 + s) = g (74 + s) := by unfold hwk hsp; rw [wkn_at _ _ _ (Or.inr (by omega)), spd_at _ _ _ (by omega)]
  have el := ldr_rng (hwk I g)
  unfold trn led
  generalize hwk I g = G at e81 e74 el ⊢
  rw [e81]
  by_cases h1 : 23 ≤ g 81
  · rw [if_pos h1]
    dsimp only
    rw [up_ne (by omega), up_ne (by omega), slp_at, if_neg (by omega)]
    rcases el with el | ⟨i, hi, el, _⟩
    · rw [el, if_pos rfl, if_neg (fun q => nt_m1 (by omega) q.2.symm), e74, Int32.add_zero]
    · rw [el, if_neg (nt_m1 (by omega)), show (74 : Int32) = nt 74 from rfl, st_b 74 (by omega) (by decide), at_b 74 (by omega) (by decide)]
      by_cases his : i = s
      · subst his
        rw [up_same, if_pos ⟨h1, rfl⟩, e74]
      · rw [up_ne (by omega), if_neg (fun q => his (by have := q.2; rw [nt_inj (by omega) (by omega)] at this; exact this)), e74, Int32.add_zero]
  · rw [if_neg h1, up_ne (by omega), if_neg (fun q => h1 q.1), e74, Int32.add_zero]
theorem hf_led {s : Nat} (hs : s < 7) : hfF I g F s = F s + led I g s := by
  have el := ldr_rng (hwk I g)
  unfold hfF led
  generalize hwk I g = G at el ⊢
  by_cases h1 : 23 ≤ g 81
  · rw [if_pos h1]
    rcases el with el | ⟨i, hi, el, _⟩
    · rw [el, if_pos rfl, if_neg (fun q => nt_m1 (by omega) q.2.symm), Int32.add_zero]
    · rw [el, if_neg (nt_m1 (by omega)), st_nt hi (by decide), atv_nt hi (by decide)]
      by_cases his : i = s
      · subst his
        rw [up_same, if_pos ⟨h1, rfl⟩]
      · rw [up_ne (by omega), if_neg (fun q => his (by have := q.2; rw [nt_inj (by omega) (by omega)] at this; exact this)), Int32.add_zero]
  · rw [if_neg h1, if_neg (fun q => h1 q.1), Int32.add_zero]
def RS (I : Nat → Nat → Int32) (f : Nat → Int32) (J : Nat → Nat → Int32) (t : Y3) : Prop := Sm I J ∧ J 70 0 = 0 ∧ J 535 = vc t.1 ∧ (∀ s, s < 7 → J 536 s = t.1 (74 + s) - f (74 + s)) ∧ J 70 42 = t.2.1 ∧ J 70 38 = t.2.2 ∧ RO I t.1
theorem vc_hi84 {i : Nat} (h : 84 ≤ i) : vc f i = 0 := by
  unfold vc
  rw [if_neg (by omega), if_neg (by omega), if_neg (by omega), if_neg (by omega), if_neg (by omega)]
theorem sm_535 (hI : Inv I) (h : Sm I J) : Sm I (upR J 535 (vc g)) := sm_trans h (sm_4 rfl (fun i hi => by rw [vc_hi84 hi, zz5 (sm_inv hI h) i hi]))
theorem rs_row {t : Y3} (hI : Inv I) (h : RS I f J t) (ho : RO I g) (hl : ∀ s, s < 7 → g (74 + s) = t.1 (74 + s)) : RS I f (upR J 535 (vc g)) (g, t.2) := by
  obtain ⟨h1, h2, h3, h4, h5, h6, h7⟩ := h
  have e70 : upR J 535 (vc g) 70 = J 70 := upR_ne (by decide)
  refine ⟨sm_535 hI h1, by rw [e70]; exact h2, upR_same _ _ _, fun s hs => ?_, by rw [e70]; exact h5, by rw [e70]; exact h6, ho⟩
  rw [upR_ne (by decide), h4 s hs]
  show _ = g (74 + s) - _
  rw [hl s hs]
theorem rs_seed {t : Y3} (h : RS I f J t) : RS I f (wrI J 70 42 v) (t.1, v, t.2.2) := by
  obtain ⟨h1, h2, h3, h4, h5, h6, h7⟩ := h
  exact ⟨sm_trans h1 (sm_wr rfl), (wr_k (by decide)).trans h2, (wrI_ne (by decide)).trans h3, fun s hs => by rw [wrI_ne (by decide)]; exact h4 s hs, wr_eq, (wr_k (by decide)).trans h6, h7⟩
theorem r246 (hI : Inv I) {t : Y3} (hR : RS I f J t) (h : ∀ K, RS I f K (yhS I t) → Φ (.inl none) (mk n K L x)) : wpc (d + 7) 246 [.ref (70 : Nat), .ref (535 : Nat)] (mk n J L x) Φ := by
  obtain ⟨h1, h2, h3, h4, h5, h6, h7⟩ := hR
  have hIJ := sm_inv hI h1
  have e := m246 (d := d) (n := n) (x := x) (Φ := Φ) (L := L) (p := (J 451, J 452)) hIJ.1 (Or.inr rfl) (tr_RO h1.1 h7) h3
  rw [scm_self] at e
  refine e.mpr (h _ ?_)
  unfold heM
  have hr5 : KR 535 := Or.inr rfl
  have u : ∀ a q, a ≠ 451 → a ≠ 452 → scm (hm J 535 (phR J t.1) (J 70 38 + one7 (phW J t.1)) (hfF J t.1 (J 536))) q a = hm J 535 (phR J t.1) (J 70 38 + one7 (phW J t.1)) (hfF J t.1 (J 536)) a := fun a q n1 n2 => scm_ne n1 n2
  have hm70 : ∀ (g : Nat → Int32) (w : Int32) (F : Nat → Int32) (k : Nat), k ≠ 38 → hm J 535 g w F 70 k = J 70 k := by
    intro g w F k hk
    unfold hm
    rw [upR_ne (by decide), upR_ne (by decide), wrI_at, up_ne hk]
  refine ⟨sm_trans (sm_trans h1 ⟨view_hm (zz5 hIJ), hm_ne (by decide) (by decide) (by decide), hm_ne (by decide) (by decide) (by decide)⟩) sm_scm, ?_, ?_, fun s hs => ?_, ?_, ?_, ?_⟩
  · rw [u 70 _ (by decide) (by decide), hm70 _ _ _ _ (by decide)]; exact h2
  · rw [u 535 _ (by decide) (by decide), hm_r, tr_pr h1.1]; rfl
  · rw [u 536 _ (by decide) (by decide), hm_F hr5, tr_hf h1.1, hf_led hs, h4 s hs]
    show _ = phR I t.1 (74 + s) - f (74 + s)
    rw [ph_led hs, Int32.sub_eq_add_neg, Int32.sub_eq_add_neg, add_rc]
  · rw [u 70 _ (by decide) (by decide), hm70 _ _ _ _ (by decide)]; exact h5
  · rw [u 70 _ (by decide) (by decide), hm_w hr5, tr_pw h1.1, h6]; rfl
  · exact ro_ph (inv_s7 hI) h7
theorem m302 (hD : ∀ v : Int32, v * 1103515245 + 12345 = D v) {B : Nat} (h0 : 0 < B) (hB : B < 100) : wpc d 302 [.ref (70 : Nat), .int (nt B)] (mk n J L x) Φ ↔ Φ (.inl (some (.int (dvI (D (J 70 42)) (nt B))))) (mk n (wrI J 70 42 (D (J 70 42))) L x) := by
  have e2 : nt B ≠ 0 := by rw [show (0 : Int32) = nt 0 from rfl, ne_eq, nt_inj (by omega) (by decide)]; omega
  have e3 : ∀ v, wrI J 70 42 v 70 42 = v := fun v => wr_eq
  show wp d 302 0 [.ref (70 : Nat), .int (nt B)] [] (mk n J L x) Φ ↔ _
  simp (config := {decide := true}) only [r302_0, r302_1, r302_2, r302_5, r302_8, r302_9, r302_12, r302_13, r302_16, r302_17, r302_20, r302_22, r302_23, r302_26, r302_27, r302_28, r302_29, if_true, if_false, Nat.reduceAdd, Int32.reduceToNatClampNeg, lo_i, lo_r, lo_n, kont_v, kont_n, List.length_nil, List.length_cons, e2, e3, dvI, hD, ne_eq]
theorem yg_led {C s : Nat} (h0 : 0 < C) (h6 : C ≤ 6) (hs : s < 7) (t : (Nat → Int32) × Int32) : yg1 D C t (74 + s) = t.1 (74 + s) ∧ yg2 D C qq t (74 + s) = t.1 (74 + s) ∧ yg3 D C qq t (74 + s) = t.1 (74 + s) := by
  have hc := (ych_lt (D := D) h0 h6 t).1
  have sk : ∀ g : Nat → Int32, skf g (ych D C t) (74 + s) = g (74 + s) := by
    intro g
    unfold skf
    split
    · rw [up_ne (by omega), up_ne (by omega)]
    · split
      · rfl
      · rw [up_ne (by omega), up_ne (by omega)]
  have wn : ∀ g : Nat → Int32, wnf g (ych D C t) (74 + s) = g (74 + s) := fun g => up_ne (by omega)
  have e1 : yg1 D C t (74 + s) = t.1 (74 + s) := up_ne (by omega)
  have e2 : yg2 D C qq t (74 + s) = t.1 (74 + s) := by
    unfold yg2
    split
    · exact e1
    · rw [sk]; exact e1
  refine ⟨e1, e2, ?_⟩
  unfold yg3
  split
  · exact e2
  · rw [wn]; exact e2
/-- the drawing of a day -/
theorem dr_M (hD : ∀ v : Int32, v * 1103515245 + 12345 = D v) (hI : Inv I) (h0 : 0 < cI I) {N1 N2 : Nat} {t : Y3} (hR : RS I f J t) (h : ∀ K v5, NL v5 → RS I f K (yrC D (cI I) qq t) → wp (d + 8) 303 134 [.ref (70 : Nat), .int sd, .int (nt N1), .int qq, .int (nt N2), v5] [] (mk n K L x) Φ) {v5 : Value} : wp (d + 8) 303 63 [.ref (70 : Nat), .int sd, .int (nt N1), .int qq, .int (nt N2), v5] [] (mk n J L x) Φ := by
  have h6 := inv_c6 hI
  have kr5 : KR 535 := Or.inr rfl
  obtain ⟨hc, ec⟩ := ych_lt (D := D) h0 h6 (t.1, t.2.1)
  have hc6 : ych D (cI I) (t.1, t.2.1) < 6 := by omega
  obtain ⟨y1, y2, y3, y4, y5, y6, y7⟩ := id hR
  obtain ⟨R1, R2, R3⟩ := yg_RO (D := D) (qq := qq) (sd := t.2.1) hI h0 y7
  have n535 : ∀ J v, wrI J 70 42 v 535 = J 535 := fun J v => wrI_ne (by decide)
  have n70 : ∀ (J : Nat → Nat → Int32) g, upR J 535 g 70 = J 70 := fun J g => upR_ne (by decide)
  have n74 : ∀ J v, wrI J 70 42 v 74 = J 74 := fun J v => wrI_ne (by decide)
  have w22 : ∀ (J : Nat → Nat → Int32) v, wrI J 70 42 v 70 42 = v := fun J v => wr_eq
  have t74 : J 74 1 = nt (cI I) := by rw [vrl y1.1 (a := 74) (by decide)]; exact hI.1.2.1.2
  have d24 : ∀ (d : Nat) J (Ψ : POut → PM → Prop), wpc d 302 [.ref (70 : Nat), .int 24] (mk n J L x) Ψ ↔ Ψ (.inl (some (.int (dvI (D (J 70 42)) 24)))) (mk n (wrI J 70 42 (D (J 70 42))) L x) := fun d J Ψ => m302 hD (B := 24) (by decide) (by decide)
  have d16 : ∀ (d : Nat) J (Ψ : POut → PM → Prop), wpc d 302 [.ref (70 : Nat), .int 16] (mk n J L x) Ψ ↔ Ψ (.inl (some (.int (dvI (D (J 70 42)) 16)))) (mk n (wrI J 70 42 (D (J 70 42))) L x) := fun d J Ψ => m302 hD (B := 16) (by decide) (by decide)
  have dC : ∀ (d : Nat) J (Ψ : POut → PM → Prop), wpc d 302 [.ref (70 : Nat), .int (nt (cI I))] (mk n J L x) Ψ ↔ Ψ (.inl (some (.int (dvI (D (J 70 42)) (nt (cI I)))))) (mk n (wrI J 70 42 (D (J 70 42))) L x) := fun d J Ψ => m302 hD h0 (by omega)
  have ec2 : dvI (D t.2.1) (nt (cI I)) = nt (ych D (cI I) (t.1, t.2.1)) := ec
  generalize hcc : ych D (cI I) (t.1, t.2.1) = cc at hc hc6 ec ec2
  have ei : (27 : Int32) + nt cc = nt (27 + cc) := nt_add 27 cc
  have eu : ∀ v, upd (vc t.1) (27 + cc) v = vc (upd t.1 (6 + cc) v) := fun v => by
    rw [show 27 + cc = 21 + (6 + cc) by omega]; exact vup_hi (by omega)
  have g1 : upd t.1 (6 + cc) (dvI (D (D t.2.1)) 24) = yg1 D (cI I) (t.1, t.2.1) := by rw [← hcc]; rfl
  have m7 : ∀ (d : Nat) J v (Ψ : POut → PM → Prop), wpc d 247 [.ref (535 : Nat), .int (nt (27 + cc)), .int v] (mk n J L x) Ψ ↔ Ψ (.inl (some (.int (bi (J 535 (27 + cc) ≠ v))))) (mk n (upR J 535 (upd (J 535) (27 + cc) v)) L x) := fun d J v Ψ => m247 kr5 (by omega)
  have m8 : ∀ (d : Nat) J v g (Ψ : POut → PM → Prop), wpc (d + 1) 248 [.ref (535 : Nat), .int (nt cc)] (mk n (wrI (upR J 535 (vc g)) 70 42 v) L x) Ψ ↔ Ψ (.inl (some (.int (bi (g cc ≠ mni 20 (g cc + 5)))))) (mk n (upR (wrI (upR J 535 (vc g)) 70 42 v) 535 (vc (wnf g cc))) L x) := fun d J v g Ψ => m248 kr5 hc6 (by rw [wrI_ne (by decide), upR_same])
  have m8' : ∀ (d : Nat) J v u g (Ψ : POut → PM → Prop), wpc (d + 1) 248 [.ref (535 : Nat), .int (nt cc)] (mk n (wrI (wrI (upR J 535 (vc g)) 70 42 v) 70 42 u) L x) Ψ ↔ Ψ (.inl (some (.int (bi (g cc ≠ mni 20 (g cc + 5)))))) (mk n (upR (wrI (wrI (upR J 535 (vc g)) 70 42 v) 70 42 u) 535 (vc (wnf g cc))) L x) := fun d J v u g Ψ => m248 kr5 hc6 (by rw [wrI_ne (by decide), wrI_ne (by decide), upR_same])
  have m9 : ∀ (d : Nat) J v (Ψ : POut → PM → Prop), wpc d 249 [.ref (535 : Nat), .int (nt cc)] (mk n (wrI (upR J 535 (vc (yg1 D (cI I) (t.1, t.2.1)))) 70 42 v) L x) Ψ ↔ Ψ (.inl (some (.int (bi (yg1 D (cI I) (t.1, t.2.1) (12 + cc) = 1 ∨ yg1 D (cI I) (t.1, t.2.1) 83 ≠ 0))))) (mk n (upR (wrI (upR J 535 (vc (yg1 D (cI I) (t.1, t.2.1)))) 70 42 v) 535 (vc (skf (yg1 D (cI I) (t.1, t.2.1)) cc))) L x) := fun d J v Ψ => m249 kr5 hc6 (by rw [wrI_ne (by decide), upR_same]) (R1.2.2.2.2.1 cc hc6)
  have LD : ∀ s, s < 7 → yg1 D (cI I) (t.1, t.2.1) (74 + s) = t.1 (74 + s) ∧ yg2 D (cI I) qq (t.1, t.2.1) (74 + s) = t.1 (74 + s) ∧ yg3 D (cI I) qq (t.1, t.2.1) (74 + s) = t.1 (74 + s) := fun s hs => yg_led h0 h6 hs _
  have hcR : yrC D (cI I) qq t = (yg3 D (cI I) qq (t.1, t.2.1), D (D (D (D t.2.1))), t.2.2) := if_pos h0
  rw [hcR] at h
  have Y2 := rs_row hI (g := yg1 D (cI I) (t.1, t.2.1)) (rs_seed (v := D (D t.2.1)) (rs_seed (v := D t.2.1) hR)) R1 (fun s hs => (LD s hs).1)
  by_cases c1 : qq ≤ dvI (D (D (D t.2.1))) 16
  · have g2 : yg2 D (cI I) qq (t.1, t.2.1) = yg1 D (cI I) (t.1, t.2.1) := if_pos c1
    by_cases c2 : qq ≤ dvI (D (D (D (D t.2.1)))) 16
    · have g3 : yg3 D (cI I) qq (t.1, t.2.1) = yg2 D (cI I) qq (t.1, t.2.1) := if_pos c2
      have Y4 := rs_seed (v := D (D (D (D t.2.1)))) (rs_seed (v := D (D (D t.2.1))) Y2)
      rw [g3, g2] at h
      simp (config := {decide := true}) only [r303_63, r303_64, r303_65, r303_68, r303_69, r303_70, r303_73, r303_75, r303_76, r303_79, r303_81, r303_83, r303_84, r303_85, r303_87, r303_90, r303_93, r303_94, r303_95, r303_97, r303_100, r303_101, r303_104, r303_105, r303_108, r303_110, r303_113, r303_114, r303_115, r303_117, r303_120, r303_121, r303_124, r303_125, r303_128, r303_130, r303_133, if_true, if_false, Nat.reduceAdd, Int32.reduceToNatClampNeg, lo_i, lo_r, lo_n, kont_v, kont_n, List.length_nil, List.length_cons, dC, d24, d16, s74, t74, w22, n535, n70, y3, y5, ec2, ei, m7, eu, g1, c1, c2]
      exact h _ _ (lo_i _) Y4
    · have g3 : yg3 D (cI I) qq (t.1, t.2.1) = wnf (yg2 D (cI I) qq (t.1, t.2.1)) cc := by rw [← hcc]; exact if_neg c2
      rw [g3, g2] at h LD
      rw [g3, g2] at R3
      have Y4 := rs_row hI (rs_seed (v := D (D (D (D t.2.1)))) (rs_seed (v := D (D (D t.2.1))) Y2)) R3 (fun s hs => by show _ = yg1 D (cI I) (t.1, t.2.1) (74 + s); rw [(LD s hs).2.2, (LD s hs).1])
      simp (config := {decide := true}) only [r303_63, r303_64, r303_65, r303_68, r303_69, r303_70, r303_73, r303_75, r303_76, r303_79, r303_81, r303_83, r303_84, r303_85, r303_87, r303_90, r303_93, r303_94, r303_95, r303_97, r303_100, r303_101, r303_104, r303_105, r303_108, r303_110, r303_113, r303_114, r303_115, r303_117, r303_120, r303_121, r303_124, r303_125, r303_128, r303_130, r303_133, if_true, if_false, Nat.reduceAdd, Int32.reduceToNatClampNeg, lo_i, lo_r, lo_n, kont_v, kont_n, List.length_nil, List.length_cons, dC, d24, d16, s74, t74, w22, n535, n70, y3, y5, ec2, ei, m7, eu, g1, c1, c2, m8']
      exact h _ _ (lo_i _) Y4
  · have g2 : yg2 D (cI I) qq (t.1, t.2.1) = skf (yg1 D (cI I) (t.1, t.2.1)) cc := by rw [← hcc]; exact if_neg c1
    rw [g2] at R2
    have L2 : ∀ s, s < 7 → skf (yg1 D (cI I) (t.1, t.2.1)) cc (74 + s) = yg1 D (cI I) (t.1, t.2.1) (74 + s) := fun s hs => by rw [← g2, (LD s hs).2.1, (LD s hs).1]
    have Y3' := rs_row hI (rs_seed (v := D (D (D t.2.1))) Y2) R2 L2
    by_cases c2 : qq ≤ dvI (D (D (D (D t.2.1)))) 16
    · have g3 : yg3 D (cI I) qq (t.1, t.2.1) = yg2 D (cI I) qq (t.1, t.2.1) := if_pos c2
      have Y4 := rs_seed (v := D (D (D (D t.2.1)))) Y3'
      rw [g3, g2] at h
      simp (config := {decide := true}) only [r303_63, r303_64, r303_65, r303_68, r303_69, r303_70, r303_73, r303_75, r303_76, r303_79, r303_81, r303_83, r303_84, r303_85, r303_87, r303_90, r303_93, r303_94, r303_95, r303_97, r303_100, r303_101, r303_104, r303_105, r303_108, r303_110, r303_113, r303_114, r303_115, r303_117, r303_120, r303_121, r303_124, r303_125, r303_128, r303_130, r303_133, if_true, if_false, Nat.reduceAdd, Int32.reduceToNatClampNeg, lo_i, lo_r, lo_n, kont_v, kont_n, List.length_nil, List.length_cons, dC, d24, d16, s74, t74, w22, n535, n70, y3, y5, ec2, ei, m7, eu, g1, c1, c2, m9]
      exact h _ _ (lo_i _) Y4
    · have g3 : yg3 D (cI I) qq (t.1, t.2.1) = wnf (yg2 D (cI I) qq (t.1, t.2.1)) cc := by rw [← hcc]; exact if_neg c2
      rw [g3, g2] at h
      rw [g3, g2] at R3
      have Y4 := rs_row hI (rs_seed (v := D (D (D (D t.2.1)))) Y3') R3 (fun s hs => by
        show _ = skf (yg1 D (cI I) (t.1, t.2.1)) cc (74 + s)
        rw [L2 s hs, (LD s hs).1, ← (LD s hs).2.2, g3, g2])
      simp (config := {decide := true}) only [r303_63, r303_64, r303_65, r303_68, r303_69, r303_70, r303_73, r303_75, r303_76, r303_79, r303_81, r303_83, r303_84, r303_85, r303_87, r303_90, r303_93, r303_94, r303_95, r303_97, r303_100, r303_101, r303_104, r303_105, r303_108, r303_110, r303_113, r303_114, r303_115, r303_117, r303_120, r303_121, r303_124, r303_125, r303_128, r303_130, r303_133, if_true, if_false, Nat.reduceAdd, Int32.reduceToNatClampNeg, lo_i, lo_r, lo_n, kont_v, kont_n, List.length_nil, List.length_cons, dC, d24, d16, s74, t74, w22, n535, n70, y3, y5, ec2, ei, m7, eu, g1, c1, c2, m9, m8]
      exact h _ _ (lo_i _) Y4
theorem s536 : sh0 n 536 = (20, 7, []) := by rw [sh0_not7 (by decide)]; decide +kernel
theorem m303 (hD : ∀ v : Int32, v * 1103515245 + 12345 = D v) (hI : Inv I) (hz : I 70 0 = 0) {days : Nat} (hdy : days < 1000) (hJ : Sm I J) (hJz : J 70 0 = 0) (h : ∀ K, RS I (I 41) K (yrS D I (I 41) sd days qq) → Φ (.inl none) (mk n K L x)) : wpc (d + 8) 303 [.ref (70 : Nat), .int sd, .int (nt days), .int qq] (mk n J L x) Φ := by
  have h6 := inv_c6 hI
  have hIJ := sm_inv hI hJ
  have e41 := t41 hJ.1
  show wp (d + 8) 303 0 [.ref (70 : Nat), .int sd, .int (nt days), .int qq, noV, noV] [] (mk n J L x) Φ
  simp (config := {decide := true}) only [r303_0, r303_1, r303_4, r303_5, r303_8, r303_11, r303_12, r303_13, r303_16, r303_17, r303_18, r303_21, r303_22, if_true, if_false, Nat.reduceAdd, Int32.reduceToNatClampNeg, lo_i, lo_r, lo_n, kont_v, kont_n, List.length_nil, List.length_cons, m221 hIJ]
  have hm9 : ∀ (g : Nat → Int32) (w : Int32) (F : Nat → Int32), hm J 535 g w F 9 = J 9 ∧ hm J 535 g w F 72 = J 72 := fun g w F => ⟨hm_ne (by decide) (by decide) (by decide), hm_ne (by decide) (by decide) (by decide)⟩
  have hm70 : ∀ (g : Nat → Int32) (w : Int32) (F : Nat → Int32) (k : Nat), k ≠ 38 → hm J 535 g w F 70 k = J 70 k := by
    intro g w F k hk
    unfold hm
    rw [upR_ne (by decide), upR_ne (by decide), wrI_at, up_ne hk]
  have key : ∀ m i, i + m = 7 → ∀ K, Sm I K → K 70 0 = 0 → K 535 = vc (I 41) → (∀ s, s < i → K 536 s = 0) → K 70 42 = sd → K 70 38 = 0 → wp (d + 8) 303 24 [.ref (70 : Nat), .int sd, .int (nt days), .int qq, .int (nt i), noV] [] (mk n K L x) Φ := by
    intro m
    induction m with
    | zero =>
      intro i hi K k1 k2 k3 k4 k5 k6
      have : i = 7 := by omega
      subst this
      have hR : RS I (I 41) K (I 41, sd, 0) := ⟨k1, k2, k3, fun s hs => by rw [k4 s hs]; exact (Int32.sub_self _).symm, k5, k6, hI.2.1.1⟩
      rw [r303_24]
      simp (config := {decide := true}) only [r303_26, r303_28, r303_31, r303_32, r303_35, r303_37, r303_38, r303_39, r303_42, r303_45, r303_46, if_true, if_false, Nat.reduceAdd, Int32.reduceToNatClampNeg, lo_i, lo_r, lo_n, kont_v, kont_n, List.length_nil, List.length_cons]
      refine loopD (P := fun k t => ∀ K v, NL v → RS I (I 41) K t → wp (d + 8) 303 48 [.ref (70 : Nat), .int sd, .int (nt days), .int qq, .int (nt k), v] [] (mk n K L x) Φ) (Q := fun t => ∀ K, RS I (I 41) K t → Φ (.inl none) (mk n K L x)) (n := days) (f := fun _ t => ydS D I qq t) ?_ ?_ (I 41, sd, 0) h K noV lo_n hR
      · intro k t hk hn K v hv hK
        have e1 : ¬ (nt days ≤ nt k) := nt_nle hk (by omega)
        have hours : ∀ K v, NL v → RS I (I 41) K (yrC D (cI I) qq t) → wp (d + 8) 303 134 [.ref (70 : Nat), .int sd, .int (nt days), .int qq, .int (nt k), v] [] (mk n K L x) Φ := by
          intro K v hv hK
          simp (config := {decide := true}) only [r303_134, r303_135, if_true, if_false, Nat.reduceAdd, Int32.reduceToNatClampNeg, lo_i, lo_r, lo_n, kont_v, kont_n, List.length_nil, List.length_cons]
          refine loopD (P := fun i t => ∀ K, RS I (I 41) K t → wp (d + 8) 303 137 [.ref (70 : Nat), .int sd, .int (nt days), .int qq, .int (nt k), .int (nt i)] [] (mk n K L x) Φ) (Q := fun t => ∀ K, RS I (I 41) K t → wp (d + 8) 303 48 [.ref (70 : Nat), .int sd, .int (nt days), .int qq, .int (nt (k + 1)), .int 24] [] (mk n K L x) Φ) (n := 24) (f := fun _ t => yhS I t) ?_ ?_ (yrC D (cI I) qq t) (fun K hK => hn K (.int 24) (lo_i _) hK) K hK
          · intro i t hi hm K hK
            have f1 : ¬ ((24 : Int32) ≤ nt i) := nt_nle (m := 24) hi (by decide)
            rw [r303_137]
            simp (config := {decide := true}) only [r303_139, r303_141, r303_144, r303_145, r303_146, if_true, if_false, Nat.reduceAdd, Int32.reduceToNatClampNeg, lo_i, lo_r, lo_n, kont_v, kont_n, List.length_nil, List.length_cons, f1]
            rw [r303_149 (by decide)]
            refine r246 hI hK (fun K2 hK2 => ?_)
            simp (config := {decide := true}) only [r303_152, r303_155, if_true, if_false, Nat.reduceAdd, Int32.reduceToNatClampNeg, lo_i, lo_r, lo_n, kont_v, kont_n, List.length_nil, List.length_cons, nt_succ]
            exact hm K2 hK2
          · intro t ht K hK
            rw [r303_137]
            simp (config := {decide := true}) only [r303_139, r303_141, r303_158, r303_161, if_true, if_false, Nat.reduceAdd, Int32.reduceToNatClampNeg, lo_i, lo_r, lo_n, kont_v, kont_n, List.length_nil, List.length_cons, nt_succ]
            exact ht K hK
        have ec : K 74 1 = nt (cI I) := by rw [vrl hK.1.1 (a := 74) (by decide)]; exact hI.1.2.1.2
        rw [r303_48]
        by_cases hC : 0 < cI I
        · have e2 : ¬ (nt (cI I) ≤ 0) := nt_nle (m := cI I) (j := 0) hC (by omega)
          simp (config := {decide := true}) only [r303_50, r303_51, r303_54, r303_55, r303_58, r303_59, r303_60, if_true, if_false, Nat.reduceAdd, Int32.reduceToNatClampNeg, lo_i, lo_r, lo_n, kont_v, kont_n, List.length_nil, List.length_cons, e1, s74, ec, e2]
          exact dr_M hD hI hC hK hours
        · have e2 : nt (cI I) ≤ 0 := by
            have : cI I = 0 := by omega
            rw [this]; decide
          simp (config := {decide := true}) only [r303_50, r303_51, r303_54, r303_55, r303_58, r303_59, r303_60, if_true, if_false, Nat.reduceAdd, Int32.reduceToNatClampNeg, lo_i, lo_r, lo_n, kont_v, kont_n, List.length_nil, List.length_cons, e1, s74, ec, e2]
          refine hours K v hv ?_
          unfold yrC
          rw [if_neg hC]
          exact hK
      · intro t ht K v hv hK
        have e6 : nt days ≤ nt days := Int32.le_refl _
        rw [r303_48]
        simp (config := {decide := true}) only [r303_50, r303_51, r303_164, if_true, if_false, Nat.reduceAdd, Int32.reduceToNatClampNeg, lo_i, lo_r, lo_n, kont_v, kont_n, List.length_nil, List.length_cons, e6]
        exact ht K hK
    | succ m ih =>
      intro i hi K k1 k2 k3 k4 k5 k6
      have e1 : ¬ ((7 : Int32) ≤ nt i) := nt_nle (m := 7) (by omega) (by decide)
      have e2 : (nt i).toNatClampNeg = i := nt_clamp (by omega)
      have e3 : (0 : Int32) ≤ nt i := nt_ge (by omega)
      have e4 : i < 7 := by omega
      rw [r303_24]
      simp (config := {decide := true}) only [r303_26, r303_28, r303_31, r303_32, r303_35, r303_37, r303_38, r303_39, r303_42, if_true, if_false, Nat.reduceAdd, Int32.reduceToNatClampNeg, lo_i, lo_r, lo_n, kont_v, kont_n, List.length_nil, List.length_cons, e1, e2, e3, e4, s536, nt_succ]
      refine ih (i + 1) (by omega) _ ⟨(view_wr (scr_vis (by decide) _)).trans k1.1, (wrI_ne (by decide)).trans k1.2.1, (wrI_ne (by decide)).trans k1.2.2⟩ ?_ ?_ (fun s hs => ?_) ?_ ?_
      · rw [wrI_ne (by decide)]; exact k2
      · rw [wrI_ne (by decide)]; exact k3
      · by_cases hsi : s = i
        · subst hsi; exact wr_eq
        · rw [wr_k hsi]; exact k4 s (by omega)
      · rw [wrI_ne (by decide)]; exact k5
      · rw [wrI_ne (by decide)]; exact k6
  refine key 7 0 rfl _ (sm_trans (sm_trans (sm_trans (sm_trans hJ ⟨view_hm (zz5 hIJ), (hm9 _ _ _).1, (hm9 _ _ _).2⟩) sm_scm) (sm_wr rfl)) (sm_wr rfl)) ?_ ?_ (fun s hs => absurd hs (Nat.not_lt_zero s)) ?_ ?_
  · rw [wr_k (by decide), wr_k (by decide), scm_ne (by decide) (by decide), hm70 _ _ _ _ (by decide)]; exact hJz
  · rw [wrI_ne (by decide), wrI_ne (by decide), scm_ne (by decide) (by decide), hm_r, e41]
  · rw [wr_k (by decide), wr_eq]
  · exact wr_eq
/-- who was first most often -/
theorem of_ge (m : Nat) : 0 ≤ (foldN (ofF g f) m (-1, 0)).2 := by
  induction m with
  | zero => exact (by decide : (0 : Int32) ≤ 0)
  | succ m ih =>
    show 0 ≤ (ofF g f m (foldN (ofF g f) m (-1, 0))).2
    unfold ofF
    split
    · exact ih
    · rename_i h
      exact Int32.le_trans ih (Int32.le_of_lt (Int32.not_le.mp h))
theorem of_cut (hf : RO I f) (hg : RO I g) : ∀ m, sI I ≤ m → m ≤ 7 → foldN (ofF g f) m (-1, 0) = foldN (ofF g f) (sI I) (-1, 0) := by
  intro m
  induction m with
  | zero => intro h1 _; rw [show sI I = 0 by omega]
  | succ m ih =>
    intro h1 h2
    by_cases hm : sI I = m + 1
    · rw [hm]
    · show ofF g f m (foldN (ofF g f) m (-1, 0)) = _
      have e0 : g (74 + m) - f (74 + m) = 0 := by
        rw [(hg.2.1 m (by omega) (by omega)).2, (hf.2.1 m (by omega) (by omega)).2]
        decide
      have hge := of_ge (g := g) (f := f) m
      unfold ofF at hge ⊢
      rw [e0, if_pos hge]
      exact ih (by omega) (by omega)
theorem m304 (hI : Inv I) {t : Y3} (hR : RS I (I 41) J t) : wpc d 304 [.ref (70 : Nat)] (mk n J L x) Φ ↔ Φ (.inl (some (.int (foldN (ofF t.1 (I 41)) 7 (-1, 0)).1))) (mk n J L x) := by
  obtain ⟨h1, h2, h3, h4, h5, h6, h7⟩ := hR
  have hs7 := inv_s7 hI
  rw [of_cut hI.2.1.1 h7 7 hs7 (Nat.le_refl 7)]
  have t74 : J 74 0 = nt (sI I) := by rw [vrl h1.1 (a := 74) (by decide)]; exact hI.1.2.1.1
  show wp d 304 0 [.ref (70 : Nat), noV, noV] [] (mk n J L x) Φ ↔ _
  simp (config := {decide := true}) only [r304_0, r304_1, r304_2, r304_3, if_true, if_false, Nat.reduceAdd, Int32.reduceToNatClampNeg, lo_i, lo_r, lo_n, kont_v, kont_n, List.length_nil, List.length_cons]
  refine loopJ (P := fun k (q : Int32 × Int32) => wp d 304 4 [.ref (70 : Nat), .int q.1, .int (nt k)] [] (mk n J L x) Φ) (J := fun k q => q = (-1, 0) ∨ ∃ j, j < k ∧ j < sI I ∧ q = (nt j, J 536 j)) (Q := fun q => Φ (.inl (some (.int q.1))) (mk n J L x)) (n := sI I) ?_ ?_ (-1, 0) (Or.inl rfl)
  · intro k q hk hJ
    have e1 : ¬ (nt (sI I) ≤ nt k) := nt_nle hk (by omega)
    have e2 : (nt k).toNatClampNeg = k := nt_clamp (by omega)
    have e3 : (0 : Int32) ≤ nt k := nt_ge (by omega)
    have e4 : k < 7 := by omega
    unfold ofF
    rw [← h4 k e4]
    rcases hJ with rfl | ⟨j, j1, j2, rfl⟩
    · by_cases hle : J 536 k ≤ 0
      · rw [if_pos hle]
        refine ⟨Or.inl rfl, ?_⟩
        rw [r304_4]
        simp (config := {decide := true}) only [r304_5, r304_6, r304_9, r304_10, r304_11, r304_14, r304_15, r304_18, r304_19, r304_20, r304_21, r304_22, r304_25, r304_26, r304_29, r304_30, r304_33, r304_34, r304_35, r304_38, r304_39, r304_42, r304_43, r304_44, r304_47, r304_50, r304_51, if_true, if_false, Nat.reduceAdd, Int32.reduceToNatClampNeg, lo_i, lo_r, lo_n, kont_v, kont_n, List.length_nil, List.length_cons, s74, t74, e1, e2, e3, e4, s536, hle, nt_succ]
      · rw [if_neg hle]
        refine ⟨Or.inr ⟨k, by omega, hk, rfl⟩, ?_⟩
        rw [r304_4]
        simp (config := {decide := true}) only [r304_5, r304_6, r304_9, r304_10, r304_11, r304_14, r304_15, r304_18, r304_19, r304_20, r304_21, r304_22, r304_25, r304_26, r304_29, r304_30, r304_33, r304_34, r304_35, r304_38, r304_39, r304_42, r304_43, r304_44, r304_47, r304_50, r304_51, if_true, if_false, Nat.reduceAdd, Int32.reduceToNatClampNeg, lo_i, lo_r, lo_n, kont_v, kont_n, List.length_nil, List.length_cons, s74, t74, e1, e2, e3, e4, s536, hle, nt_succ]
    · have f1 : nt j ≠ -1 := nt_m1 (by omega)
      have f2 : (nt j).toNatClampNeg = j := nt_clamp (by omega)
      have f3 : (0 : Int32) ≤ nt j := nt_ge (by omega)
      have f4 : j < 7 := by omega
      by_cases hle : J 536 k ≤ J 536 j
      · rw [if_pos hle]
        refine ⟨Or.inr ⟨j, by omega, j2, rfl⟩, ?_⟩
        rw [r304_4]
        simp (config := {decide := true}) only [r304_5, r304_6, r304_9, r304_10, r304_11, r304_14, r304_15, r304_18, r304_19, r304_20, r304_21, r304_22, r304_25, r304_26, r304_29, r304_30, r304_33, r304_34, r304_35, r304_38, r304_39, r304_42, r304_43, r304_44, r304_47, r304_50, r304_51, if_true, if_false, Nat.reduceAdd, Int32.reduceToNatClampNeg, lo_i, lo_r, lo_n, kont_v, kont_n, List.length_nil, List.length_cons, s74, t74, e1, e2, e3, e4, f1, f2, f3, f4, s536, hle, nt_succ]
      · rw [if_neg hle]
        refine ⟨Or.inr ⟨k, by omega, hk, rfl⟩, ?_⟩
        rw [r304_4]
        simp (config := {decide := true}) only [r304_5, r304_6, r304_9, r304_10, r304_11, r304_14, r304_15, r304_18, r304_19, r304_20, r304_21, r304_22, r304_25, r304_26, r304_29, r304_30, r304_33, r304_34, r304_35, r304_38, r304_39, r304_42, r304_43, r304_44, r304_47, r304_50, r304_51, if_true, if_false, Nat.reduceAdd, Int32.reduceToNatClampNeg, lo_i, lo_r, lo_n, kont_v, kont_n, List.length_nil, List.length_cons, s74, t74, e1, e2, e3, e4, f1, f2, f3, f4, s536, hle, nt_succ]
  · intro q _
    have e6 : nt (sI I) ≤ nt (sI I) := Int32.le_refl _
    rw [r304_4]
    simp (config := {decide := true}) only [r304_5, r304_6, r304_9, r304_10, r304_11, r304_14, r304_15, r304_18, r304_19, r304_20, r304_21, r304_22, r304_25, r304_26, r304_29, r304_30, r304_33, r304_34, r304_35, r304_38, r304_39, r304_42, r304_43, r304_44, r304_47, r304_50, r304_51, if_true, if_false, Nat.reduceAdd, Int32.reduceToNatClampNeg, lo_i, lo_r, lo_n, kont_v, kont_n, List.length_nil, List.length_cons, s74, t74, e6]
theorem m305 : wpc (d + 1) 305 [.int a, .int b] μ Φ ↔ Φ (.inl (some (.int (bi ((1 ≤ a ∧ a ≤ 30) ∧ (0 ≤ b ∧ b ≤ 16)))))) μ := by
  show wp (d + 1) 305 0 [.int a, .int b] [] μ Φ ↔ _
  by_cases h1 : 1 ≤ a ∧ a ≤ 30
  · by_cases h2 : 0 ≤ b ∧ b ≤ 16
    · rw [bi_t ⟨h1, h2⟩]
      simp (config := {decide := true}) only [r305_0, r305_1, r305_2, r305_4, r305_7, r305_10, r305_11, r305_12, r305_14, r305_17, r305_20, r305_21, r305_24, r305_25, if_true, if_false, Nat.reduceAdd, Int32.reduceToNatClampNeg, lo_i, lo_r, lo_n, kont_v, kont_n, List.length_nil, List.length_cons, and_self, and_true, true_and, and_false, false_and, not_true, not_false_eq_true, true_or, or_true, bi_eq0, m194, h1, h2, nb_1]
    · rw [bi_f (fun q => h2 q.2)]
      simp (config := {decide := true}) only [r305_0, r305_1, r305_2, r305_4, r305_7, r305_10, r305_11, r305_12, r305_14, r305_17, r305_20, r305_21, r305_24, r305_25, if_true, if_false, Nat.reduceAdd, Int32.reduceToNatClampNeg, lo_i, lo_r, lo_n, kont_v, kont_n, List.length_nil, List.length_cons, and_self, and_true, true_and, and_false, false_and, not_true, not_false_eq_true, true_or, or_true, bi_eq0, m194, h1, h2, nb_0]
  · rw [bi_f (fun q => h1 q.1)]
    simp (config := {decide := true}) only [r305_0, r305_1, r305_2, r305_4, r305_7, r305_10, r305_11, r305_12, r305_14, r305_17, r305_20, r305_21, r305_24, r305_25, if_true, if_false, Nat.reduceAdd, Int32.reduceToNatClampNeg, lo_i, lo_r, lo_n, kont_v, kont_n, List.length_nil, List.length_cons, and_self, and_true, true_and, and_false, false_and, not_true, not_false_eq_true, true_or, or_true, bi_eq0, m194, h1, nb_0]
theorem rs_row5 (hI : Inv I) {t : Y3} (hR : RS I f J t) : MI J ∧ RO J t.1 ∧ J 535 = vc t.1 ∧ cI J ≤ 6 ∧ J 74 1 = nt (cI J) := by
  have hIJ := sm_inv hI hR.1
  exact ⟨hIJ.1, tr_RO hR.1.1 hR.2.2.2.2.2.2, hR.2.2.1, inv_c6 hIJ, hIJ.1.2.1.2⟩
theorem u306 (hI : Inv I) (hD : ∀ v : Int32, v * 1103515245 + 12345 = D v) (h : resM n I L x Φ (aYear D I s v qq w)) : wpc (d + 12) 306 [.ref (70 : Nat), .int s, .int v, .int qq, .int w] (mk n I L x) Φ := by
  show wp (d + 12) 306 0 [.ref (70 : Nat), .int s, .int v, .int qq, .int w] [] (mk n I L x) Φ
  rw [r306_0, r306_1, r306_2]
  replace h := resM_z h
  rw [← t_aYear v70] at h
  replace hI := tr_Inv v70 hI
  have hz := z70 (I := I)
  generalize wrI I 70 0 0 = I at h hI hz ⊢
  unfold aYear at h
  have hM := hI.1
  by_cases g1 : 1 ≤ v ∧ v ≤ 30
  · rw [if_pos g1] at h
    by_cases g2 : 0 ≤ qq ∧ qq ≤ 16
    · rw [if_pos g2] at h
      by_cases g3 : 0 ≤ w ∧ w ≤ 3
      · rw [if_pos g3] at h
        have g5 := g1
        obtain ⟨D9, hD9, -, e9⟩ := d1_30 (lo := 1) (hi := 30) (by decide) g1 (by decide)
        rw [e9] at h g5 ⊢
        rw [nt_clamp (k := D9) (by omega)] at h
        simp (config := {decide := true}) only [r306_5, r306_6, r306_7, r306_8, r306_11, r306_14, r306_16, r306_17, r306_18, r306_21, r306_24, r306_25, r306_28, r306_29, r306_30, r306_31, r306_34, r306_37, r306_38, r306_39, r306_40, r306_41, r306_42, if_true, if_false, Nat.reduceAdd, Int32.reduceToNatClampNeg, lo_i, lo_r, lo_n, kont_v, kont_n, List.length_nil, List.length_cons, and_self, and_true, true_and, and_false, false_and, not_true, not_false_eq_true, true_or, or_true, bi_eq0, b10 hz, b11 hz, b21 hz, m194, m259, m305, g5, g2, g3]
        rw [r306_43 (by decide)]
        refine m303 hD hI hz hD9 (sm_refl I) hz (fun K hK => ?_)
        simp (config := {decide := true}) only [r306_46, if_true, if_false, Nat.reduceAdd, Int32.reduceToNatClampNeg, lo_i, lo_r, lo_n, kont_v, kont_n, List.length_nil, List.length_cons]
        have h2 := h K L hK.1 hK.2.1 rfl
        generalize yrS D I (I 41) s D9 qq = t at h2 hK
        obtain ⟨r1, r2, r3, r4, r5⟩ := rs_row5 hI hK
        obtain ⟨y1, y2, y3, y4, y5, y6, y7⟩ := id hK
        clear h hD g5 g1
        obtain ⟨k, hk, e⟩ := rgN (N := 3) (by decide) g3
        have hk4 : k = 0 ∨ k = 1 ∨ k = 2 ∨ k = 3 := by omega
        rcases hk4 with h4 | h4 | h4 | h4
        · rw [h4] at e
          rw [e] at h2 ⊢
          rw [r306_48 76 rfl]
          rw [yrV_0] at h2
          simp (config := {decide := true}) only [r306_76, r306_77, r306_80, if_true, if_false, Nat.reduceAdd, Int32.reduceToNatClampNeg, lo_i, lo_r, lo_n, kont_v, kont_n, List.length_nil, List.length_cons, y6]
          exact h2
        · rw [h4] at e
          rw [e] at h2 ⊢
          rw [r306_48 81 rfl]
          rw [yrV_1] at h2
          simp (config := {decide := true}) only [r306_81, r306_82, r306_83, r306_86, r306_89, if_true, if_false, Nat.reduceAdd, Int32.reduceToNatClampNeg, lo_i, lo_r, lo_n, kont_v, kont_n, List.length_nil, List.length_cons, m254 (Or.inr rfl) r5 r4 r2 r3]
          exact h2
        · rw [h4] at e
          rw [e] at h2 ⊢
          rw [r306_48 90 rfl]
          rw [yrV_2] at h2
          simp (config := {decide := true}) only [r306_90, r306_91, r306_94, if_true, if_false, Nat.reduceAdd, Int32.reduceToNatClampNeg, lo_i, lo_r, lo_n, kont_v, kont_n, List.length_nil, List.length_cons, m304 hI hK]
          exact h2
        · rw [h4] at e
          rw [e] at h2 ⊢
          rw [r306_48 95 rfl]
          rw [yrV_3] at h2
          simp (config := {decide := true}) only [r306_95, r306_96, r306_97, r306_100, r306_103, if_true, if_false, Nat.reduceAdd, Int32.reduceToNatClampNeg, lo_i, lo_r, lo_n, kont_v, kont_n, List.length_nil, List.length_cons, m255 (Or.inr rfl) r5 r4 r2 r3]
          exact h2
      · rw [if_neg g3] at h
        simp (config := {decide := true}) only [r306_5, r306_6, r306_7, r306_8, r306_11, r306_14, r306_16, r306_17, r306_18, r306_21, r306_24, r306_25, r306_28, r306_29, r306_30, r306_31, r306_34, r306_37, r306_38, r306_39, r306_40, r306_41, r306_42, if_true, if_false, Nat.reduceAdd, Int32.reduceToNatClampNeg, lo_i, lo_r, lo_n, kont_v, kont_n, List.length_nil, List.length_cons, and_self, and_true, true_and, and_false, false_and, not_true, not_false_eq_true, true_or, or_true, bi_eq0, b10 hz, b11 hz, b21 hz, m194, m259, m257 hI, m258 hI, m266 hI, m274 hI, g1, g2, g3, m305]
        exact exM h
    · rw [if_neg g2] at h
      simp (config := {decide := true}) only [r306_5, r306_6, r306_7, r306_8, r306_11, r306_14, r306_16, r306_17, r306_18, r306_21, r306_24, r306_25, r306_28, r306_29, r306_30, r306_31, r306_34, r306_37, r306_38, r306_39, r306_40, r306_41, r306_42, if_true, if_false, Nat.reduceAdd, Int32.reduceToNatClampNeg, lo_i, lo_r, lo_n, kont_v, kont_n, List.length_nil, List.length_cons, and_self, and_true, true_and, and_false, false_and, not_true, not_false_eq_true, true_or, or_true, bi_eq0, b10 hz, b11 hz, b21 hz, m194, m259, m257 hI, m258 hI, m266 hI, m274 hI, g1, g2, m305]
      exact exM h
  · rw [if_neg g1] at h
    simp (config := {decide := true}) only [r306_5, r306_6, r306_7, r306_8, r306_11, r306_14, r306_16, r306_17, r306_18, r306_21, r306_24, r306_25, r306_28, r306_29, r306_30, r306_31, r306_34, r306_37, r306_38, r306_39, r306_40, r306_41, r306_42, if_true, if_false, Nat.reduceAdd, Int32.reduceToNatClampNeg, lo_i, lo_r, lo_n, kont_v, kont_n, List.length_nil, List.length_cons, and_self, and_true, true_and, and_false, false_and, not_true, not_false_eq_true, true_or, or_true, bi_eq0, b10 hz, b11 hz, b21 hz, m194, m259, m257 hI, m258 hI, m266 hI, m274 hI, g1, m305]
    exact exM h
theorem on_t : ∀ p0 p1 p2 p3 p4 p5 p6 : Bool, (one7 (wb (fun k => [p0, p1, p2, p3, p4, p5, p6].getD k false) 7)).toNatClampNeg ≤ 7 ∧ one7 (wb (fun k => [p0, p1, p2, p3, p4, p5, p6].getD k false) 7) = nt (one7 (wb (fun k => [p0, p1, p2, p3, p4, p5, p6].getD k false) 7)).toNatClampNeg := by decide +kernel
theorem one_nt (h7 : sI I ≤ 7) : ∃ a, a ≤ 7 ∧ one7 (phW I g) = nt a := by
  unfold phW
  rw [wk_wb h7, wb_l7]
  obtain ⟨h1, h2⟩ := on_t (wkc I g (rng g (g 81)) 0) (wkc I g (rng g (g 81)) 1) (wkc I g (rng g (g 81)) 2) (wkc I g (rng g (g 81)) 3) (wkc I g (rng g (g 81)) 4) (wkc I g (rng g (g 81)) 5) (wkc I g (rng g (g 81)) 6)
  exact ⟨_, h1, h2⟩
theorem yh_wk (h7 : sI I ≤ 7) {t : Y3} {m : Nat} (h : t.2.2 = nt m) : ∀ k, ∃ m', m' ≤ m + 7 * k ∧ (foldN (fun _ t => yhS I t) k t).2.2 = nt m' := by
  intro k
  induction k with
  | zero => exact ⟨m, by omega, h⟩
  | succ k ih =>
    obtain ⟨m', h1, h2⟩ := ih
    obtain ⟨a, h3, h4⟩ := one_nt (g := (foldN (fun _ t => yhS I t) k t).1) h7
    refine ⟨m' + a, by omega, ?_⟩
    show (foldN (fun _ t => yhS I t) k t).2.2 + one7 (phW I (foldN (fun _ t => yhS I t) k t).1) = _
    rw [h2, h4, nt_add]
theorem ys_wk (h7 : sI I ≤ 7) (days : Nat) : ∃ m, m ≤ 168 * days ∧ (yrS D I f sd days qq).2.2 = nt m := by
  induction days with
  | zero => exact ⟨0, Nat.le_refl 0, rfl⟩
  | succ k ih =>
    obtain ⟨m, h1, h2⟩ := ih
    have e : (yrC D (cI I) qq (yrS D I f sd k qq)).2.2 = nt m := by
      unfold yrC
      split
      · exact h2
      · exact h2
    obtain ⟨m', h3, h4⟩ := yh_wk (I := I) h7 e 24
    exact ⟨m', by omega, h4⟩
def spF (D : Int32 → Int32) (I : Nat → Nat → Int32) (f : Nat → Int32) (s : Int32) (N : Nat) (qq : Int32) (j k : Nat) (q : C3) : C3 := (if k = 0 then (yrS D I f (s + nt k) N qq).2.2 else mni q.1 (yrS D I f (s + nt k) N qq).2.2, mxi q.2.1 (yrS D I f (s + nt k) N qq).2.2, q.2.2 + (if (yrS D I f (s + nt k) N qq).1 (74 + j) - f (74 + j) ≤ 0 then 0 else 1))
theorem tr_sp (h : view J = view I) : spF D J = spF D I := by
  funext f s N q j k t
  unfold spF
  rw [tr_ys h]
def aSpan (D : Int32 → Int32) (I : Nat → Nat → Int32) (s mm v qq w u : Int32) : An := if 1 ≤ mm ∧ mm ≤ 10 then (if 1 ≤ v ∧ v ≤ 30 then (if 0 ≤ qq ∧ qq ≤ 16 then (if 0 ≤ w ∧ w ≤ 2 then (if 0 ≤ u ∧ u ≤ I 12 5 - 1 then (.inl (cpV w (foldN (spF D I (I 41) s v.toNatClampNeg qq u.toNatClampNeg) mm.toNatClampNeg (-1, 0, 0)))) else .inr (2, 1)) else .inr (2, 1)) else .inr (2, 1)) else .inr (2, 1)) else .inr (2, 1)
theorem t_aSpan (h : view J = view I) : aSpan D J s mm v qq w u = aSpan D I s mm v qq w u := by
  unfold aSpan
  rw [t41 h, tr_sp h, t12 h]
theorem cpV_0 {t : C3} : cpV (nt 0) t = t.1 := by unfold cpV; rw [if_pos (by decide)]
theorem cpV_1 {t : C3} : cpV (nt 1) t = t.2.1 := by unfold cpV; rw [if_neg (by decide), if_pos (by decide)]
theorem cpV_2 {t : C3} : cpV (nt 2) t = t.2.2 := by unfold cpV; rw [if_neg (by decide), if_neg (by decide)]
theorem q170 (hI : Inv I) (hx : x + 1 ≤ 600) (hD : ∀ v : Int32, v * 1103515245 + 12345 = D v) (h : resC n I L x Φ (aSpan D I s mm v qq w u)) : wpc (d + 12) 170 [.ref (9 : Nat), .int s, .int mm, .int v, .int qq, .int w, .int u] (mk n I L x) Φ := by
  show wp (d + 12) 170 0 [.ref (9 : Nat), .int s, .int mm, .int v, .int qq, .int w, .int u, noV, noV, noV, noV] [] (mk n I L x) Φ
  unfold aSpan at h
  have hC := hI.1.1
  by_cases g1 : 1 ≤ mm ∧ mm ≤ 10
  · rw [if_pos g1] at h
    by_cases g2 : 1 ≤ v ∧ v ≤ 30
    · rw [if_pos g2] at h
      by_cases g3 : 0 ≤ qq ∧ qq ≤ 16
      · rw [if_pos g3] at h
        by_cases g4 : 0 ≤ w ∧ w ≤ 2
        · rw [if_pos g4] at h
          by_cases g5 : 0 ≤ u ∧ u ≤ I 12 5 - 1
          · rw [if_pos g5] at h
            have g6 := g1
            obtain ⟨M9, hM9, hM10, e8⟩ := d1_30 (lo := 1) (hi := 10) (by decide) g1 (by decide)
            have g7 := g2
            obtain ⟨D9, hD9, hD30, e9⟩ := d1_30 (lo := 1) (hi := 30) (by decide) g2 (by decide)
            have g8 := g5
            obtain ⟨j, hj, e7⟩ := isN (inv_s hI) (inv_s7 hI) g5
            have hj7 : j < 7 := by have := inv_s7 hI; omega
            rw [e8] at h g6 ⊢
            rw [e9] at h g7 ⊢
            rw [e7] at h g8 ⊢
            rw [nt_clamp (k := M9) (by omega), nt_clamp (k := D9) (by omega), nt_clamp (k := j) (by omega)] at h
            simp (config := {decide := true}) only [r170_0, r170_1, r170_2, r170_3, r170_5, r170_8, r170_11, r170_12, r170_13, r170_15, r170_18, r170_21, r170_23, r170_24, r170_26, r170_29, r170_32, r170_34, r170_35, r170_36, r170_39, r170_42, r170_43, r170_46, r170_47, r170_50, r170_51, r170_53, r170_54, r170_55, r170_58, r170_61, r170_62, r170_63, r170_66, r170_69, r170_70, r170_72, r170_73, r170_75, r170_76, r170_78, r170_79, if_true, if_false, Nat.reduceAdd, Int32.reduceToNatClampNeg, lo_i, lo_r, lo_n, kont_v, kont_n, List.length_nil, List.length_cons, and_self, and_true, true_and, and_false, false_and, not_true, not_false_eq_true, true_or, or_true, bi_eq0, c181 hx, c179 hx, c180 hx, c182, c183, kx, k12, g6, g7, g3, g4, g8]
            refine loopD (P := fun k (q : C3) => ∀ J, Sm I J → wp (d + 12) 170 81 [.ref (9 : Nat), .int s, .int (nt M9), .int (nt D9), .int qq, .int w, .int (nt j), .int q.1, .int q.2.1, .int q.2.2, .int (nt k)] [] (mk n J L x) Φ) (Q := fun q => ∀ J, Sm I J → Φ (.inl (some (.int (cpV w q)))) (mk n J L x)) (n := M9) (f := spF D I (I 41) s D9 qq j) ?_ ?_ (-1, 0, 0) h I (sm_refl I)
            · intro k q hk hn J hJ
              have e1 : ¬ (nt M9 ≤ nt k) := nt_nle hk (by omega)
              rw [r170_81]
              simp (config := {decide := true}) only [r170_83, r170_84, r170_87, r170_88, r170_91, r170_92, r170_95, r170_96, r170_98, if_true, if_false, Nat.reduceAdd, Int32.reduceToNatClampNeg, lo_i, lo_r, lo_n, kont_v, kont_n, List.length_nil, List.length_cons, e1]
              rw [r170_99 (by decide)]
              refine c124 hI hJ (fun J2 hJ2 => ?_)
              simp (config := {decide := true}) only [r170_102, r170_103, r170_106, r170_107, r170_110, r170_111, if_true, if_false, Nat.reduceAdd, Int32.reduceToNatClampNeg, lo_i, lo_r, lo_n, kont_v, kont_n, List.length_nil, List.length_cons]
              rw [r170_113 (by decide)]
              refine c125 hD hI (t := (I 41, s + nt k, 0)) hD9 hJ2 (fun K hK => ?_)
              replace hn := hn K hK.1
              unfold spF at hn
              replace hK : YS I (I 41) K (yrS D I (I 41) (s + nt k) D9 qq) := hK
              generalize yrS D I (I 41) (s + nt k) D9 qq = t at hn hK
              obtain ⟨y1, y2, y3, y4, y5, y6⟩ := id hK
              by_cases hl : t.1 (74 + j) - I 41 (74 + j) ≤ 0
              · rw [if_pos hl] at hn
                by_cases hk0 : k = 0
                · rw [if_pos hk0] at hn
                  have f1 : nt k = 0 := by rw [hk0]; rfl
                  simp (config := {decide := true}) only [r170_116, r170_118, r170_121, r170_122, r170_125, r170_128, r170_131, r170_133, r170_134, r170_137, r170_140, r170_143, r170_145, r170_147, r170_148, r170_151, r170_154, r170_157, r170_159, r170_161, r170_162, r170_165, r170_167, r170_170, r170_173, r170_174, r170_177, r170_178, r170_179, r170_181, r170_184, if_true, if_false, Nat.reduceAdd, Int32.reduceToNatClampNeg, lo_i, lo_r, lo_n, kont_v, kont_n, List.length_nil, List.length_cons, f1, y5, c316, c128 hj7 hK, hl]
                  rw [hk0] at hn
                  exact hn
                · rw [if_neg hk0] at hn
                  have f1 : ¬ (nt k = 0) := by rw [show (0 : Int32) = nt 0 from rfl, nt_inj (by omega) (by decide)]; exact hk0
                  simp (config := {decide := true}) only [r170_116, r170_118, r170_121, r170_122, r170_125, r170_128, r170_131, r170_133, r170_134, r170_137, r170_140, r170_143, r170_145, r170_147, r170_148, r170_151, r170_154, r170_157, r170_159, r170_161, r170_162, r170_165, r170_167, r170_170, r170_173, r170_174, r170_177, r170_178, r170_179, r170_181, r170_184, if_true, if_false, Nat.reduceAdd, Int32.reduceToNatClampNeg, lo_i, lo_r, lo_n, kont_v, kont_n, List.length_nil, List.length_cons, f1, y5, c316, c317, c128 hj7 hK, hl, nt_succ]
                  exact hn
              · rw [if_neg hl] at hn
                by_cases hk0 : k = 0
                · rw [if_pos hk0] at hn
                  have f1 : nt k = 0 := by rw [hk0]; rfl
                  simp (config := {decide := true}) only [r170_116, r170_118, r170_121, r170_122, r170_125, r170_128, r170_131, r170_133, r170_134, r170_137, r170_140, r170_143, r170_145, r170_147, r170_148, r170_151, r170_154, r170_157, r170_159, r170_161, r170_162, r170_165, r170_167, r170_170, r170_173, r170_174, r170_177, r170_178, r170_179, r170_181, r170_184, if_true, if_false, Nat.reduceAdd, Int32.reduceToNatClampNeg, lo_i, lo_r, lo_n, kont_v, kont_n, List.length_nil, List.length_cons, f1, y5, c316, c128 hj7 hK, hl]
                  rw [hk0] at hn
                  exact hn
                · rw [if_neg hk0] at hn
                  have f1 : ¬ (nt k = 0) := by rw [show (0 : Int32) = nt 0 from rfl, nt_inj (by omega) (by decide)]; exact hk0
                  simp (config := {decide := true}) only [r170_116, r170_118, r170_121, r170_122, r170_125, r170_128, r170_131, r170_133, r170_134, r170_137, r170_140, r170_143, r170_145, r170_147, r170_148, r170_151, r170_154, r170_157, r170_159, r170_161, r170_162, r170_165, r170_167, r170_170, r170_173, r170_174, r170_177, r170_178, r170_179, r170_181, r170_184, if_true, if_false, Nat.reduceAdd, Int32.reduceToNatClampNeg, lo_i, lo_r, lo_n, kont_v, kont_n, List.length_nil, List.length_cons, f1, y5, c316, c317, c128 hj7 hK, hl, nt_succ]
                  exact hn
            · intro q hq J hJ
              have e6 : nt M9 ≤ nt M9 := Int32.le_refl _
              have h2 := hq J hJ
              rw [r170_81]
              simp (config := {decide := true}) only [r170_83, r170_84, r170_187, if_true, if_false, Nat.reduceAdd, Int32.reduceToNatClampNeg, lo_i, lo_r, lo_n, kont_v, kont_n, List.length_nil, List.length_cons, e6]
              clear h hD hq
              obtain ⟨k, hk, e⟩ := rgN (N := 2) (by decide) g4
              have hk4 : k = 0 ∨ k = 1 ∨ k = 2 := by omega
              rcases hk4 with h4 | h4 | h4
              · rw [h4] at e
                rw [e] at h2 ⊢
                rw [r170_189 216 rfl]
                rw [cpV_0] at h2
                simp (config := {decide := true}) only [r170_216, r170_218, if_true, if_false, Nat.reduceAdd, Int32.reduceToNatClampNeg, lo_i, lo_r, lo_n, kont_v, kont_n, List.length_nil, List.length_cons]
                exact h2
              · rw [h4] at e
                rw [e] at h2 ⊢
                rw [r170_189 219 rfl]
                rw [cpV_1] at h2
                simp (config := {decide := true}) only [r170_219, r170_221, if_true, if_false, Nat.reduceAdd, Int32.reduceToNatClampNeg, lo_i, lo_r, lo_n, kont_v, kont_n, List.length_nil, List.length_cons]
                exact h2
              · rw [h4] at e
                rw [e] at h2 ⊢
                rw [r170_189 222 rfl]
                rw [cpV_2] at h2
                simp (config := {decide := true}) only [r170_222, r170_224, if_true, if_false, Nat.reduceAdd, Int32.reduceToNatClampNeg, lo_i, lo_r, lo_n, kont_v, kont_n, List.length_nil, List.length_cons]
                exact h2
          · rw [if_neg g5] at h
            simp (config := {decide := true}) only [r170_0, r170_1, r170_2, r170_3, r170_5, r170_8, r170_11, r170_12, r170_13, r170_15, r170_18, r170_21, r170_23, r170_24, r170_26, r170_29, r170_32, r170_34, r170_35, r170_36, r170_39, r170_42, r170_43, r170_46, r170_47, r170_50, r170_51, r170_53, r170_54, r170_55, r170_58, r170_61, r170_62, r170_63, r170_66, r170_69, r170_70, r170_72, r170_73, r170_75, r170_76, r170_78, r170_79, if_true, if_false, Nat.reduceAdd, Int32.reduceToNatClampNeg, lo_i, lo_r, lo_n, kont_v, kont_n, List.length_nil, List.length_cons, and_self, and_true, true_and, and_false, false_and, not_true, not_false_eq_true, true_or, or_true, bi_eq0, c181 hx, c179 hx, c180 hx, c182, c183, kx, g1, g2, g3, g4, g5, k12]
            exact exC2 h
        · rw [if_neg g4] at h
          simp (config := {decide := true}) only [r170_0, r170_1, r170_2, r170_3, r170_5, r170_8, r170_11, r170_12, r170_13, r170_15, r170_18, r170_21, r170_23, r170_24, r170_26, r170_29, r170_32, r170_34, r170_35, r170_36, r170_39, r170_42, r170_43, r170_46, r170_47, r170_50, r170_51, r170_53, r170_54, r170_55, r170_58, r170_61, r170_62, r170_63, r170_66, r170_69, r170_70, r170_72, r170_73, r170_75, r170_76, r170_78, r170_79, if_true, if_false, Nat.reduceAdd, Int32.reduceToNatClampNeg, lo_i, lo_r, lo_n, kont_v, kont_n, List.length_nil, List.length_cons, and_self, and_true, true_and, and_false, false_and, not_true, not_false_eq_true, true_or, or_true, bi_eq0, c181 hx, c179 hx, c180 hx, c182, c183, kx, g1, g2, g3, g4, k12]
          exact exC2 h
      · rw [if_neg g3] at h
        simp (config := {decide := true}) only [r170_0, r170_1, r170_2, r170_3, r170_5, r170_8, r170_11, r170_12, r170_13, r170_15, r170_18, r170_21, r170_23, r170_24, r170_26, r170_29, r170_32, r170_34, r170_35, r170_36, r170_39, r170_42, r170_43, r170_46, r170_47, r170_50, r170_51, r170_53, r170_54, r170_55, r170_58, r170_61, r170_62, r170_63, r170_66, r170_69, r170_70, r170_72, r170_73, r170_75, r170_76, r170_78, r170_79, if_true, if_false, Nat.reduceAdd, Int32.reduceToNatClampNeg, lo_i, lo_r, lo_n, kont_v, kont_n, List.length_nil, List.length_cons, and_self, and_true, true_and, and_false, false_and, not_true, not_false_eq_true, true_or, or_true, bi_eq0, c181 hx, c179 hx, c180 hx, c182, c183, kx, g1, g2, g3, k12]
        exact exC2 h
    · rw [if_neg g2] at h
      simp (config := {decide := true}) only [r170_0, r170_1, r170_2, r170_3, r170_5, r170_8, r170_11, r170_12, r170_13, r170_15, r170_18, r170_21, r170_23, r170_24, r170_26, r170_29, r170_32, r170_34, r170_35, r170_36, r170_39, r170_42, r170_43, r170_46, r170_47, r170_50, r170_51, r170_53, r170_54, r170_55, r170_58, r170_61, r170_62, r170_63, r170_66, r170_69, r170_70, r170_72, r170_73, r170_75, r170_76, r170_78, r170_79, if_true, if_false, Nat.reduceAdd, Int32.reduceToNatClampNeg, lo_i, lo_r, lo_n, kont_v, kont_n, List.length_nil, List.length_cons, and_self, and_true, true_and, and_false, false_and, not_true, not_false_eq_true, true_or, or_true, bi_eq0, c181 hx, c179 hx, c180 hx, c182, c183, kx, g1, g2, k12]
      exact exC2 h
  · rw [if_neg g1] at h
    simp (config := {decide := true}) only [r170_0, r170_1, r170_2, r170_3, r170_5, r170_8, r170_11, r170_12, r170_13, r170_15, r170_18, r170_21, r170_23, r170_24, r170_26, r170_29, r170_32, r170_34, r170_35, r170_36, r170_39, r170_42, r170_43, r170_46, r170_47, r170_50, r170_51, r170_53, r170_54, r170_55, r170_58, r170_61, r170_62, r170_63, r170_66, r170_69, r170_70, r170_72, r170_73, r170_75, r170_76, r170_78, r170_79, if_true, if_false, Nat.reduceAdd, Int32.reduceToNatClampNeg, lo_i, lo_r, lo_n, kont_v, kont_n, List.length_nil, List.length_cons, and_self, and_true, true_and, and_false, false_and, not_true, not_false_eq_true, true_or, or_true, bi_eq0, c181 hx, c179 hx, c180 hx, c182, c183, kx, g1, k12]
    exact exC2 h
theorem u307 (hI : Inv I) (hD : ∀ v : Int32, v * 1103515245 + 12345 = D v) (h : resM n I L x Φ (aSpan D I s mm v qq w u)) : wpc (d + 12) 307 [.ref (70 : Nat), .int s, .int mm, .int v, .int qq, .int w, .int u] (mk n I L x) Φ := by
  show wp (d + 12) 307 0 [.ref (70 : Nat), .int s, .int mm, .int v, .int qq, .int w, .int u, noV, noV, noV, noV] [] (mk n I L x) Φ
  rw [r307_0, r307_1, r307_2]
  replace h := resM_z h
  rw [← t_aSpan v70] at h
  replace hI := tr_Inv v70 hI
  have hz := z70 (I := I)
  generalize wrI I 70 0 0 = I at h hI hz ⊢
  unfold aSpan at h
  have hM := hI.1
  by_cases g1 : 1 ≤ mm ∧ mm ≤ 10
  · rw [if_pos g1] at h
    by_cases g2 : 1 ≤ v ∧ v ≤ 30
    · rw [if_pos g2] at h
      by_cases g3 : 0 ≤ qq ∧ qq ≤ 16
      · rw [if_pos g3] at h
        by_cases g4 : 0 ≤ w ∧ w ≤ 2
        · rw [if_pos g4] at h
          by_cases g5 : 0 ≤ u ∧ u ≤ I 12 5 - 1
          · rw [if_pos g5] at h
            have g6 := g1
            obtain ⟨M9, hM9, hM10, e8⟩ := d1_30 (lo := 1) (hi := 10) (by decide) g1 (by decide)
            have g7 := g2
            obtain ⟨D9, hD9, hD30, e9⟩ := d1_30 (lo := 1) (hi := 30) (by decide) g2 (by decide)
            have g8 := g5
            obtain ⟨j, hj, e7⟩ := isN (inv_s hI) (inv_s7 hI) g5
            have hj7 : j < 7 := by have := inv_s7 hI; omega
            rw [e8] at h g6 ⊢
            rw [e9] at h g7 ⊢
            rw [e7] at h g8 ⊢
            rw [nt_clamp (k := M9) (by omega), nt_clamp (k := D9) (by omega), nt_clamp (k := j) (by omega)] at h
            simp (config := {decide := true}) only [r307_5, r307_6, r307_7, r307_8, r307_10, r307_13, r307_16, r307_17, r307_19, r307_22, r307_25, r307_27, r307_28, r307_29, r307_32, r307_35, r307_36, r307_38, r307_41, r307_44, r307_45, r307_48, r307_49, r307_50, r307_51, r307_54, r307_57, r307_58, r307_59, r307_60, r307_62, r307_63, r307_65, r307_66, r307_68, r307_69, if_true, if_false, Nat.reduceAdd, Int32.reduceToNatClampNeg, lo_i, lo_r, lo_n, kont_v, kont_n, List.length_nil, List.length_cons, and_self, and_true, true_and, and_false, false_and, not_true, not_false_eq_true, true_or, or_true, bi_eq0, b10 hz, b11 hz, b21 hz, m194, m259, m305, m257 hI, g6, g7, g3, g4, g8]
            refine loopDJ (P := fun k (q : C3) => ∀ J, Sm I J → J 70 0 = 0 → wp (d + 12) 307 71 [.ref (70 : Nat), .int s, .int (nt M9), .int (nt D9), .int qq, .int w, .int (nt j), .int q.1, .int q.2.1, .int q.2.2, .int (nt k)] [] (mk n J L x) Φ) (J := fun k q => (k = 0 ∧ q.1 = -1) ∨ (k ≠ 0 ∧ ∃ m, m < 10000 ∧ q.1 = nt m)) (Q := fun q => ∀ J, Sm I J → J 70 0 = 0 → Φ (.inl (some (.int (cpV w q)))) (mk n J L x)) (n := M9) (f := spF D I (I 41) s D9 qq j) ?_ ?_ (-1, 0, 0) (Or.inl ⟨rfl, rfl⟩) (fun J hJ hJz => h J L hJ hJz rfl) I (sm_refl I) hz
            · intro k q hk hJ0
              obtain ⟨m9, hm1, hm2⟩ := ys_wk (D := D) (I := I) (f := I 41) (sd := s + nt k) (qq := qq) (inv_s7 hI) D9
              constructor
              · refine Or.inr ⟨by omega, ?_⟩
                unfold spF
                dsimp only
                rw [hm2]
                rcases hJ0 with ⟨a1, a2⟩ | ⟨a1, m, a2, a3⟩
                · rw [if_pos a1]; exact ⟨m9, by omega, rfl⟩
                · rw [if_neg a1, a3, mni_nt (by omega) (by omega)]
                  exact ⟨min m m9, by omega, rfl⟩
              intro hn J hJ hJz
              have e1 : ¬ (nt M9 ≤ nt k) := nt_nle hk (by omega)
              rw [r307_71]
              simp (config := {decide := true}) only [r307_73, r307_74, r307_77, r307_78, r307_79, r307_81, r307_82, r307_83, if_true, if_false, Nat.reduceAdd, Int32.reduceToNatClampNeg, lo_i, lo_r, lo_n, kont_v, kont_n, List.length_nil, List.length_cons, e1]
              rw [r307_85 (by decide)]
              refine m303 hD hI hz hD9 hJ hJz (fun K hK => ?_)
              replace hn := hn K hK.1 hK.2.1
              unfold spF at hn
              generalize yrS D I (I 41) (s + nt k) D9 qq = t at hn hK hm2
              obtain ⟨y1, y2, y3, y4, y5, y6, y7⟩ := id hK
              have f2 : (nt j).toNatClampNeg = j := nt_clamp (by omega)
              have f3 : (0 : Int32) ≤ nt j := nt_ge (by omega)
              have f4 := y4 j hj7
              by_cases hl : t.1 (74 + j) - I 41 (74 + j) ≤ 0
              · rw [if_pos hl] at hn
                rcases hJ0 with ⟨a1, a2⟩ | ⟨a1, m, a2, a3⟩
                · rw [if_pos a1] at hn
                  simp (config := {decide := true}) only [r307_88, r307_90, r307_91, r307_94, r307_95, r307_98, r307_101, r307_103, r307_104, r307_107, r307_110, r307_112, r307_114, r307_115, r307_118, r307_121, r307_123, r307_125, r307_126, r307_129, r307_131, r307_132, r307_135, r307_136, r307_139, r307_140, r307_141, r307_143, r307_146, if_true, if_false, Nat.reduceAdd, Int32.reduceToNatClampNeg, lo_i, lo_r, lo_n, kont_v, kont_n, List.length_nil, List.length_cons, a2, y6, m196, s536, f2, f3, hj7, f4, hl, nt_succ]
                  exact hn
                · rw [if_neg a1] at hn
                  have f1 : ¬ (q.1 = -1) := by rw [a3]; exact nt_m1 (by omega)
                  simp (config := {decide := true}) only [r307_88, r307_90, r307_91, r307_94, r307_95, r307_98, r307_101, r307_103, r307_104, r307_107, r307_110, r307_112, r307_114, r307_115, r307_118, r307_121, r307_123, r307_125, r307_126, r307_129, r307_131, r307_132, r307_135, r307_136, r307_139, r307_140, r307_141, r307_143, r307_146, if_true, if_false, Nat.reduceAdd, Int32.reduceToNatClampNeg, lo_i, lo_r, lo_n, kont_v, kont_n, List.length_nil, List.length_cons, f1, y6, m195, m196, s536, f2, f3, hj7, f4, hl, nt_succ]
                  exact hn
              · rw [if_neg hl] at hn
                rcases hJ0 with ⟨a1, a2⟩ | ⟨a1, m, a2, a3⟩
                · rw [if_pos a1] at hn
                  simp (config := {decide := true}) only [r307_88, r307_90, r307_91, r307_94, r307_95, r307_98, r307_101, r307_103, r307_104, r307_107, r307_110, r307_112, r307_114, r307_115, r307_118, r307_121, r307_123, r307_125, r307_126, r307_129, r307_131, r307_132, r307_135, r307_136, r307_139, r307_140, r307_141, r307_143, r307_146, if_true, if_false, Nat.reduceAdd, Int32.reduceToNatClampNeg, lo_i, lo_r, lo_n, kont_v, kont_n, List.length_nil, List.length_cons, a2, y6, m196, s536, f2, f3, hj7, f4, hl, nt_succ]
                  exact hn
                · rw [if_neg a1] at hn
                  have f1 : ¬ (q.1 = -1) := by rw [a3]; exact nt_m1 (by omega)
                  simp (config := {decide := true}) only [r307_88, r307_90, r307_91, r307_94, r307_95, r307_98, r307_101, r307_103, r307_104, r307_107, r307_110, r307_112, r307_114, r307_115, r307_118, r307_121, r307_123, r307_125, r307_126, r307_129, r307_131, r307_132, r307_135, r307_136, r307_139, r307_140, r307_141, r307_143, r307_146, if_true, if_false, Nat.reduceAdd, Int32.reduceToNatClampNeg, lo_i, lo_r, lo_n, kont_v, kont_n, List.length_nil, List.length_cons, f1, y6, m195, m196, s536, f2, f3, hj7, f4, hl, nt_succ]
                  exact hn
            · intro q _ hq J hJ hJz
              have e6 : nt M9 ≤ nt M9 := Int32.le_refl _
              have h2 := hq J hJ hJz
              rw [r307_71]
              clear h hD hq
              obtain ⟨k, hk, e⟩ := rgN (N := 2) (by decide) g4
              have hk4 : k = 0 ∨ k = 1 ∨ k = 2 := by omega
              rcases hk4 with h4 | h4 | h4
              · rw [h4] at e
                rw [e] at h2 ⊢
                rw [cpV_0] at h2
                simp (config := {decide := true}) only [r307_73, r307_74, r307_149, r307_151, r307_154, r307_156, r307_159, r307_161, r307_162, r307_165, r307_167, r307_170, r307_172, if_true, if_false, Nat.reduceAdd, Int32.reduceToNatClampNeg, lo_i, lo_r, lo_n, kont_v, kont_n, List.length_nil, List.length_cons, e6]
                exact h2
              · rw [h4] at e
                rw [e] at h2 ⊢
                rw [cpV_1] at h2
                simp (config := {decide := true}) only [r307_73, r307_74, r307_149, r307_151, r307_154, r307_156, r307_159, r307_161, r307_162, r307_165, r307_167, r307_170, r307_172, if_true, if_false, Nat.reduceAdd, Int32.reduceToNatClampNeg, lo_i, lo_r, lo_n, kont_v, kont_n, List.length_nil, List.length_cons, e6]
                exact h2
              · rw [h4] at e
                rw [e] at h2 ⊢
                rw [cpV_2] at h2
                simp (config := {decide := true}) only [r307_73, r307_74, r307_149, r307_151, r307_154, r307_156, r307_159, r307_161, r307_162, r307_165, r307_167, r307_170, r307_172, if_true, if_false, Nat.reduceAdd, Int32.reduceToNatClampNeg, lo_i, lo_r, lo_n, kont_v, kont_n, List.length_nil, List.length_cons, e6]
                exact h2
          · rw [if_neg g5] at h
            simp (config := {decide := true}) only [r307_5, r307_6, r307_7, r307_8, r307_10, r307_13, r307_16, r307_17, r307_19, r307_22, r307_25, r307_27, r307_28, r307_29, r307_32, r307_35, r307_36, r307_38, r307_41, r307_44, r307_45, r307_48, r307_49, r307_50, r307_51, r307_54, r307_57, r307_58, r307_59, r307_60, r307_62, r307_63, r307_65, r307_66, r307_68, r307_69, if_true, if_false, Nat.reduceAdd, Int32.reduceToNatClampNeg, lo_i, lo_r, lo_n, kont_v, kont_n, List.length_nil, List.length_cons, and_self, and_true, true_and, and_false, false_and, not_true, not_false_eq_true, true_or, or_true, bi_eq0, b10 hz, b11 hz, b21 hz, m194, m259, m257 hI, m258 hI, m266 hI, m274 hI, g1, g2, g3, g4, g5, m305]
            exact exM h
        · rw [if_neg g4] at h
          simp (config := {decide := true}) only [r307_5, r307_6, r307_7, r307_8, r307_10, r307_13, r307_16, r307_17, r307_19, r307_22, r307_25, r307_27, r307_28, r307_29, r307_32, r307_35, r307_36, r307_38, r307_41, r307_44, r307_45, r307_48, r307_49, r307_50, r307_51, r307_54, r307_57, r307_58, r307_59, r307_60, r307_62, r307_63, r307_65, r307_66, r307_68, r307_69, if_true, if_false, Nat.reduceAdd, Int32.reduceToNatClampNeg, lo_i, lo_r, lo_n, kont_v, kont_n, List.length_nil, List.length_cons, and_self, and_true, true_and, and_false, false_and, not_true, not_false_eq_true, true_or, or_true, bi_eq0, b10 hz, b11 hz, b21 hz, m194, m259, m257 hI, m258 hI, m266 hI, m274 hI, g1, g2, g3, g4, m305]
          exact exM h
      · rw [if_neg g3] at h
        simp (config := {decide := true}) only [r307_5, r307_6, r307_7, r307_8, r307_10, r307_13, r307_16, r307_17, r307_19, r307_22, r307_25, r307_27, r307_28, r307_29, r307_32, r307_35, r307_36, r307_38, r307_41, r307_44, r307_45, r307_48, r307_49, r307_50, r307_51, r307_54, r307_57, r307_58, r307_59, r307_60, r307_62, r307_63, r307_65, r307_66, r307_68, r307_69, if_true, if_false, Nat.reduceAdd, Int32.reduceToNatClampNeg, lo_i, lo_r, lo_n, kont_v, kont_n, List.length_nil, List.length_cons, and_self, and_true, true_and, and_false, false_and, not_true, not_false_eq_true, true_or, or_true, bi_eq0, b10 hz, b11 hz, b21 hz, m194, m259, m257 hI, m258 hI, m266 hI, m274 hI, g1, g2, g3, m305]
        exact exM h
    · rw [if_neg g2] at h
      simp (config := {decide := true}) only [r307_5, r307_6, r307_7, r307_8, r307_10, r307_13, r307_16, r307_17, r307_19, r307_22, r307_25, r307_27, r307_28, r307_29, r307_32, r307_35, r307_36, r307_38, r307_41, r307_44, r307_45, r307_48, r307_49, r307_50, r307_51, r307_54, r307_57, r307_58, r307_59, r307_60, r307_62, r307_63, r307_65, r307_66, r307_68, r307_69, if_true, if_false, Nat.reduceAdd, Int32.reduceToNatClampNeg, lo_i, lo_r, lo_n, kont_v, kont_n, List.length_nil, List.length_cons, and_self, and_true, true_and, and_false, false_and, not_true, not_false_eq_true, true_or, or_true, bi_eq0, b10 hz, b11 hz, b21 hz, m194, m259, m257 hI, m258 hI, m266 hI, m274 hI, g1, g2, m305]
      exact exM h
  · rw [if_neg g1] at h
    simp (config := {decide := true}) only [r307_5, r307_6, r307_7, r307_8, r307_10, r307_13, r307_16, r307_17, r307_19, r307_22, r307_25, r307_27, r307_28, r307_29, r307_32, r307_35, r307_36, r307_38, r307_41, r307_44, r307_45, r307_48, r307_49, r307_50, r307_51, r307_54, r307_57, r307_58, r307_59, r307_60, r307_62, r307_63, r307_65, r307_66, r307_68, r307_69, if_true, if_false, Nat.reduceAdd, Int32.reduceToNatClampNeg, lo_i, lo_r, lo_n, kont_v, kont_n, List.length_nil, List.length_cons, and_self, and_true, true_and, and_false, false_and, not_true, not_false_eq_true, true_or, or_true, bi_eq0, b10 hz, b11 hz, b21 hz, m194, m259, m257 hI, m258 hI, m266 hI, m274 hI, g1, m305]
    exact exM h
end Y2
