/-! WORK, done by the reference -/
def EM (I J : Nat → Nat → Int32) (s : XS) : Prop := (∀ r, r ≠ 70 → r ≠ 451 → r ≠ 452 → r ≠ 534 → r ≠ 536 → J r = I r) ∧ (∀ i, i ≠ 35 → i ≠ 38 → i ≠ 39 → i ≠ 40 → J 70 i = I 70 i) ∧ J 534 = vc s.1 ∧ J 70 39 = nt s.2.1 ∧ J 70 40 = nt s.2.2.1 ∧ J 70 35 = nt s.2.2.2
section Wz
variable {d n x r e h m k c v t sn cn R : Nat} {PH : (Nat → Int32) → Nat → Int32} {F : Nat → Nat → Option Nat} {s : XS} {Φ : POut → PM → Prop} {I J K : Nat → Nat → Int32} {L : Nat → Nat → Int64} {f : Nat → Int32}
theorem MI_em (hM : MI I) (h1 : ∀ r, r ≠ 70 → r ≠ 451 → r ≠ 452 → r ≠ 534 → r ≠ 536 → J r = I r) (h2 : ∀ i, i ≠ 35 → i ≠ 38 → i ≠ 39 → i ≠ 40 → J 70 i = I 70 i) : MI J := by
  have ok : okc (fun a => a == 534) (fun k => k == 35) I J := by
    refine ⟨fun a b1 b2 b3 b4 b5 => ?_, fun k b1 b2 => ?_⟩
    · simp only [beq_eq_false_iff_ne] at b1
      have b6 : a ≠ 451 ∧ a ≠ 452 ∧ a ≠ 536 := by
        unfold scrR at b2
        rw [decide_eq_false_iff_not] at b2
        omega
      exact h1 a b3 b6.1 b6.2.1 b1 b6.2.2
    · simp only [beq_eq_false_iff_ne] at b1
      have b6 : k ≠ 38 ∧ k ≠ 39 ∧ k ≠ 40 := by
        refine ⟨fun z => ?_, fun z => ?_, fun z => ?_⟩ <;> (subst z; exact absurd b2 (by decide))
      exact h2 k b1 b6.1 b6.2.1 b6.2.2
  exact kM ok (by decide +kernel) rfl hM
theorem m250 (hM : MI J) (hk : F 0 r = some k) (hk7 : k ≠ 7) (hrw : rwOK F sn cn r) (hs7 : sn ≤ 7) (hc6 : cn ≤ 6) (hw : RwM (J R) (fun j => F j r) k) (hR : sh0 n R = (20, 5, [])) (hR2 : R < 560) (ho : RO J f) (hf : J 534 = vc f) (h : ∀ K, (∀ a, a ≠ 70 → a ≠ 451 → a ≠ 452 → a ≠ 534 → a ≠ 536 → K a = J a) → (∀ i, i ≠ 38 → K 70 i = J 70 i) → K 534 = vc (doK (phR J) k (pg F 1 r) (pg F 2 r) (pg F 3 r) f).2 → Φ (.inl (some (.int (if (doK (phR J) k (pg F 1 r) (pg F 2 r) (pg F 3 r) f).1 = true then 1 else 0)))) (mk n K L x)) : wpc (d + 8) 250 [.ref (70 : Nat), .ref (534 : Nat), .ref R] (mk n J L x) Φ := by
  obtain ⟨k', c, v, t, a0, a1, a2, a3, a4, a5, a6, a7⟩ := hrw
  rw [hk] at a0
  have a0 := Option.some.inj a0
  subst a0
  obtain ⟨w0, w1, w2, w3, w4, w5, w6⟩ := hw
  have kr : KR 534 := Or.inl rfl
  have z534 : sh0 n 534 = (20, 84, []) := shR kr
  have u534 : ∀ g : Nat → Int32, ∀ a, a ≠ 70 → a ≠ 451 → a ≠ 452 → a ≠ 534 → a ≠ 536 → upR J 534 g a = J a := fun g a _ _ _ h _ => upR_ne h
  have u70 : ∀ g : Nat → Int32, ∀ i, i ≠ 38 → upR J 534 g 70 i = J 70 i := fun g i _ => by rw [upR_ne (by decide)]
  show wp (d + 8) 250 0 [.ref (70 : Nat), .ref (534 : Nat), .ref R, noV] [] (mk n J L x) Φ
  have hkk : k = 0 ∨ k = 1 ∨ k = 2 ∨ k = 3 ∨ k = 4 ∨ k = 5 ∨ k = 6 := by omega
  rcases hkk with rfl | rfl | rfl | rfl | rfl | rfl | rfl
  · have b2 := a2 (by decide)
    have b3 := a3 (by decide)
    obtain ⟨b4, b5⟩ := a5 rfl
    have m1 : J R 1 = nt c := w1 (by decide) c b2
    have m2 : J R 2 = nt v := w2 rfl v b4
    rw [pg_s b2, pg_s b4] at h
    have y0 : (27 : Int32) + nt c = nt (27 + c) := nt_add 27 c
    have y1 : J 534 (27 + c) = f (6 + c) := by rw [hf, show 27 + c = 21 + (6 + c) by omega, vc_hi (by omega)]
    have y2 : upd (J 534) (27 + c) (nt v) = vc (upd f (6 + c) (nt v)) := by rw [hf, show 27 + c = 21 + (6 + c) by omega, vup_hi (by omega)]
    have hg := h (upR J 534 (vc (upd f (6 + c) (nt v)))) (u534 _) (u70 _) (upR_same _ _ _)
    have hd : (doK (phR J) 0 c v (pg F 3 r) f).1 = decide (f (6 + c) ≠ nt v) := rfl
    rw [hd, bi_dec] at hg
    simp (config := {decide := true}) only [r250_0, r250_1, r250_2, r250_3, r250_4, r250_5, r250_6, r250_7 (a := 0) 44 rfl, r250_44, r250_45, r250_47, r250_48, r250_49, r250_50, r250_51, r250_52, r250_55, if_true, if_false, Nat.reduceAdd, Int32.reduceToNatClampNeg, lo_i, lo_r, lo_n, kont_v, kont_n, List.length_nil, List.length_cons, hR, hR2, w0, show nt 0 = (0 : Int32) from rfl, m1, m2, y0, m247 kr (show 27 + c < 84 by omega), y1, y2, nb_bi]
    exact hg
  · have b2 := a2 (by decide)
    have b3 := a3 (by decide)
    have m1 : J R 1 = nt c := w1 (by decide) c b2
    rw [pg_s b2] at h
    have y0 : (27 : Int32) + nt c = nt (27 + c) := nt_add 27 c
    have y1 : J 534 (27 + c) = f (6 + c) := by rw [hf, show 27 + c = 21 + (6 + c) by omega, vc_hi (by omega)]
    have y2 : upd (J 534) (27 + c) (-1) = vc (upd f (6 + c) (-1)) := by rw [hf, show 27 + c = 21 + (6 + c) by omega, vup_hi (by omega)]
    have hg := h (upR J 534 (vc (upd f (6 + c) (-1)))) (u534 _) (u70 _) (upR_same _ _ _)
    have hd : (doK (phR J) 1 c (pg F 2 r) (pg F 3 r) f).1 = decide (f (6 + c) ≠ -1) := rfl
    rw [hd, bi_dec] at hg
    simp (config := {decide := true}) only [r250_0, r250_1, r250_2, r250_3, r250_4, r250_5, r250_6, r250_7 (a := 1) 56 rfl, r250_56, r250_57, r250_59, r250_60, r250_61, r250_62, r250_65, if_true, if_false, Nat.reduceAdd, Int32.reduceToNatClampNeg, lo_i, lo_r, lo_n, kont_v, kont_n, List.length_nil, List.length_cons, hR, hR2, w0, show nt 1 = (1 : Int32) from rfl, m1, y0, m247 kr (show 27 + c < 84 by omega), y1, y2, nb_bi]
    exact hg
  · have b2 := a2 (by decide)
    have b3 := a3 (by decide)
    have m1 : J R 1 = nt c := w1 (by decide) c b2
    rw [pg_s b2] at h
    have hg := h (upR J 534 (vc (wnf f c))) (u534 _) (u70 _) (upR_same _ _ _)
    have hd : (doK (phR J) 2 c (pg F 2 r) (pg F 3 r) f).1 = decide (f c ≠ mni 20 (f c + 5)) := rfl
    rw [hd, bi_dec] at hg
    simp (config := {decide := true}) only [r250_0, r250_1, r250_2, r250_3, r250_4, r250_5, r250_6, r250_7 (a := 2) 66 rfl, r250_66, r250_67, r250_68, r250_71, if_true, if_false, Nat.reduceAdd, Int32.reduceToNatClampNeg, lo_i, lo_r, lo_n, kont_v, kont_n, List.length_nil, List.length_cons, hR, hR2, w0, show nt 2 = (2 : Int32) from rfl, m1, m248 kr (show c < 6 by omega) hf, nb_bi]
    exact hg
  · have b2 := a2 (by decide)
    have b3 := a3 (by decide)
    have m1 : J R 1 = nt c := w1 (by decide) c b2
    rw [pg_s b2] at h
    have hg := h (upR J 534 (vc (skf f c))) (u534 _) (u70 _) (upR_same _ _ _)
    have hd : (doK (phR J) 3 c (pg F 2 r) (pg F 3 r) f).1 = decide (f (12 + c) = 1 ∨ f 83 ≠ 0) := rfl
    rw [hd, bi_dec] at hg
    simp (config := {decide := true}) only [r250_0, r250_1, r250_2, r250_3, r250_4, r250_5, r250_6, r250_7 (a := 3) 72 rfl, r250_72, r250_73, r250_74, r250_77, if_true, if_false, Nat.reduceAdd, Int32.reduceToNatClampNeg, lo_i, lo_r, lo_n, kont_v, kont_n, List.length_nil, List.length_cons, hR, hR2, w0, show nt 3 = (3 : Int32) from rfl, m1, m249 kr (show c < 6 by omega) hf (ho.2.2.2.2.1 c (by omega)), nb_bi]
    exact hg
  · have b2 := a2 (by decide)
    have b3 := a3 (by decide)
    obtain ⟨b4, b5, b6, b7⟩ := a6 rfl
    have m1 : J R 1 = nt c := w1 (by decide) c b2
    have m2 : J R 2 = nt t := w3 rfl t b6
    have m3 : J R 3 = nt v := w4 rfl v b4
    rw [pg_s b2, pg_s b4, pg_s b6] at h
    have y0 : (39 : Int32) + 6 * nt t + nt c = nt (39 + 6 * t + c) := by
      rw [show 6 * nt t = nt (6 * t) from (Int32.ofNat_mul 6 t).symm, show (39 : Int32) = nt 39 from rfl, nt_add, nt_add]
    have y1 : J 534 (39 + 6 * t + c) = f (18 + t * 6 + c) := by rw [hf, show 39 + 6 * t + c = 21 + (18 + t * 6 + c) by omega, vc_hi (by omega)]
    have y2 : upd (J 534) (39 + 6 * t + c) (nt v) = vc (upd f (18 + t * 6 + c) (nt v)) := by rw [hf, show 39 + 6 * t + c = 21 + (18 + t * 6 + c) by omega, vup_hi (by omega)]
    have hg := h (upR J 534 (vc (upd f (18 + t * 6 + c) (nt v)))) (u534 _) (u70 _) (upR_same _ _ _)
    have hd : (doK (phR J) 4 c v t f).1 = decide (f (18 + t * 6 + c) ≠ nt v) := rfl
    rw [hd, bi_dec] at hg
    simp (config := {decide := true}) only [r250_0, r250_1, r250_2, r250_3, r250_4, r250_5, r250_6, r250_7 (a := 4) 78 rfl, r250_78, r250_79, r250_81, r250_83, r250_84, r250_85, r250_86, r250_87, r250_88, r250_89, r250_90, r250_91, r250_92, r250_93, r250_96, if_true, if_false, Nat.reduceAdd, Int32.reduceToNatClampNeg, lo_i, lo_r, lo_n, kont_v, kont_n, List.length_nil, List.length_cons, hR, hR2, w0, show nt 4 = (4 : Int32) from rfl, m1, m2, m3, y0, m247 kr (show 39 + 6 * t + c < 84 by omega), y1, y2, nb_bi]
    exact hg
  · have b2 := a2 (by decide)
    have b3 := a4 rfl
    have m1 : J R 1 = nt c := w1 (by decide) c b2
    rw [pg_s b2] at h
    have y0 : (0 : Int32) + nt c = nt c := Int32.zero_add _
    have y1 : J 534 c = f (60 + c) := by rw [hf, vc_lo (by omega)]
    have y2 : upd (J 534) c (-1) = vc (upd f (60 + c) (-1)) := by rw [hf, vup_lo (by omega)]
    have hd : (doK (phR J) 5 c (pg F 2 r) (pg F 3 r) f).1 = decide (f (60 + c) ≠ -1) := rfl
    have hd2 : (doK (phR J) 5 c (pg F 2 r) (pg F 3 r) f).2 = dzg f c := rfl
    rw [hd2] at h
    by_cases hs : f (60 + c) = -1
    · have hz : dzg f c = f := if_pos hs
      rw [hz] at h
      have y5 : upR J 534 (vc (upd f (60 + c) (-1))) = J := by
        rw [show upd f (60 + c) (-1) = f from by rw [← hs]; exact up_self _ _, ← hf, upR_self]
      have hg := h J (fun _ _ _ _ _ _ => rfl) (fun _ _ => rfl) hf
      have y6 : bi (f (60 + c) ≠ -1) = 0 := bi_f (fun z => z hs)
      rw [hd, bi_dec, y6] at hg
      simp (config := {decide := true}) only [r250_0, r250_1, r250_2, r250_3, r250_4, r250_5, r250_6, r250_7 (a := 5) 97 rfl, r250_97, r250_98, r250_99, r250_100, r250_101, r250_102, r250_105, r250_108, r250_109, if_true, if_false, Nat.reduceAdd, Int32.reduceToNatClampNeg, lo_i, lo_r, lo_n, kont_v, kont_n, List.length_nil, List.length_cons, hR, hR2, w0, show nt 5 = (5 : Int32) from rfl, m1, y0, m247 kr (show c < 84 by omega), y1, y2, y5, y6, nb_0]
      exact hg
    · have hz : dzg f c = upd (upd f (60 + c) (-1)) (67 + c) (f (67 + c) + 1) := if_neg hs
      rw [hz] at h
      have hg := h (upR J 534 (vc (upd (upd f (60 + c) (-1)) (67 + c) (f (67 + c) + 1)))) (u534 _) (u70 _) (upR_same _ _ _)
      have y6 : bi (f (60 + c) ≠ -1) = 1 := bi_t hs
      rw [hd, bi_dec, y6] at hg
      have y7 : (7 : Int32) + nt c = nt (7 + c) := nt_add 7 c
      have y8 : (nt (7 + c)).toNatClampNeg = 7 + c := nt_clamp (by omega)
      have y9 : (0 : Int32) ≤ nt (7 + c) := nt_ge (by omega)
      have y10 : 7 + c < 84 := by omega
      have y11 : upR J 534 (vc (upd f (60 + c) (-1))) 534 = vc (upd f (60 + c) (-1)) := upR_same _ _ _
      have y12 : vc (upd f (60 + c) (-1)) (7 + c) = f (67 + c) := by rw [vc_lo (by omega), up_ne (by omega), show 60 + (7 + c) = 67 + c by omega]
      have y13 : ∀ w, wrI (upR J 534 (vc (upd f (60 + c) (-1)))) 534 (7 + c) w = upR J 534 (vc (upd (upd f (60 + c) (-1)) (67 + c) w)) := fun w => by
        rw [wr_up, vup_lo (by omega), show 60 + (7 + c) = 67 + c by omega]
      simp (config := {decide := true}) only [r250_0, r250_1, r250_2, r250_3, r250_4, r250_5, r250_6, r250_7 (a := 5) 97 rfl, r250_97, r250_98, r250_99, r250_100, r250_101, r250_102, r250_105, r250_108, r250_109, r250_110, r250_111, r250_113, r250_114, r250_115, r250_116, r250_117, r250_118, r250_119, r250_120, r250_121, if_true, if_false, Nat.reduceAdd, Int32.reduceToNatClampNeg, lo_i, lo_r, lo_n, kont_v, kont_n, List.length_nil, List.length_cons, hR, hR2, w0, show nt 5 = (5 : Int32) from rfl, m1, y0, m247 kr (show c < 84 by omega), y1, y2, y6, y7, y8, y9, y10, y11, y12, y13, z534, nb_1]
      exact hg
  · have hd : doK (phR J) 6 (pg F 1 r) (pg F 2 r) (pg F 3 r) f = if f 81 = 23 ∧ 300 ≤ f 82 then (false, f) else (true, phR J f) := rfl
    rw [hd] at h
    have y1 : J 534 83 = f 82 := by rw [hf]; exact vc_83
    have y2 : J 534 82 = f 81 := by rw [hf]; exact vc_82
    by_cases hl : f 81 = 23 ∧ 300 ≤ f 82
    · rw [if_pos hl] at h
      have hg := h J (fun _ _ _ _ _ _ => rfl) (fun _ _ => rfl) hf
      have y3 : ¬ (f 82 < 300) := Int32.not_lt.mpr hl.2
      simp (config := {decide := true}) only [r250_0, r250_1, r250_2, r250_3, r250_4, r250_5, r250_6, r250_7 (a := 6) 122 rfl, r250_122, r250_123, r250_125, r250_126, r250_129, r250_132, r250_133, r250_135, r250_136, r250_138, r250_141, r250_142, r250_143, r250_144, r250_145, r250_148, r250_149, if_true, if_false, Nat.reduceAdd, Int32.reduceToNatClampNeg, lo_i, lo_r, lo_n, kont_v, kont_n, List.length_nil, List.length_cons, hR, hR2, w0, show nt 6 = (6 : Int32) from rfl, z534, y1, y2, y3, hl.1, nb_0]
      exact hg
    · rw [if_neg hl] at h
      have m6 := fun Ψ => m246 (d := d) (n := n) (L := L) (x := x) (p := (J 451, J 452)) (Φ := Ψ) hM kr ho hf
      rw [scm_self] at m6
      have hg := h (scm (heM J 534 f) (mwS J f (rng f (f 81)) (J 451, J 452))) (fun a g1 g2 g3 g4 g5 => by rw [scm_ne g2 g3]; exact hm_ne g4 g5 g1) (fun i hi => by
        rw [scm_ne (by decide) (by decide)]
        unfold heM hm
        rw [upR_ne (by decide), upR_ne (by decide), wr_k hi]) (by rw [scm_ne (by decide) (by decide)]; exact hm_r)
      by_cases y3 : f 82 < 300
      · simp (config := {decide := true}) only [r250_0, r250_1, r250_2, r250_3, r250_4, r250_5, r250_6, r250_7 (a := 6) 122 rfl, r250_122, r250_123, r250_125, r250_126, r250_129, r250_132, r250_133, r250_135, r250_136, r250_138, r250_141, r250_142, r250_143, r250_144, r250_145, r250_148, r250_149, if_true, if_false, Nat.reduceAdd, Int32.reduceToNatClampNeg, lo_i, lo_r, lo_n, kont_v, kont_n, List.length_nil, List.length_cons, hR, hR2, w0, show nt 6 = (6 : Int32) from rfl, z534, y1, y2, y3, m6, nb_1]
        exact hg
      · have y4 : ¬ (f 81 = 23) := fun z => hl ⟨z, Int32.not_lt.mp y3⟩
        simp (config := {decide := true}) only [r250_0, r250_1, r250_2, r250_3, r250_4, r250_5, r250_6, r250_7 (a := 6) 122 rfl, r250_122, r250_123, r250_125, r250_126, r250_129, r250_132, r250_133, r250_135, r250_136, r250_138, r250_141, r250_142, r250_143, r250_144, r250_145, r250_148, r250_149, if_true, if_false, Nat.reduceAdd, Int32.reduceToNatClampNeg, lo_i, lo_r, lo_n, kont_v, kont_n, List.length_nil, List.length_cons, hR, hR2, w0, show nt 6 = (6 : Int32) from rfl, z534, y1, y2, y3, y4, m6, nb_1]
        exact hg
theorem EM_b {b : Nat} (h : EM I J s) : EM I (wrI J 70 39 (nt b)) (s.1, b, s.2.2) := by
  obtain ⟨h1, h2, h3, h4, h5, h6⟩ := h
  exact ⟨fun r a1 a2 a3 a4 a5 => by rw [wrI_ne a1]; exact h1 r a1 a2 a3 a4 a5, fun i a1 a2 a3 a4 => by rw [wr_k a3]; exact h2 i a1 a2 a3 a4, by rw [wrI_ne (by decide)]; exact h3, wr_eq, by rw [wr_k (by decide)]; exact h5, by rw [wr_k (by decide)]; exact h6⟩
theorem m251L (hM : MI I) (hsn : sn = sI I) (hcn : cn = cI I) (hs7 : sn ≤ 7) (hc6 : cn ≤ 6) (hm : ∀ r, r < 80 → ∀ k, F 0 r = some k → RwM (I (454 + r)) (fun j => F j r) k) : ∀ m h r e (s : XS) J d (v4 : Value) (fr : Int32) (Φ : POut → PM → Prop), okI F sn cn m h r e → e ≤ 30 → r ≤ e → s.2.1 ≤ 200 → RO I s.1 → EM I J s → (∀ K, EM I K (runI (phR I) F m r e s) → Φ (.inl none) (mk n K L x)) → wp (d + h + 9) 251 2 [.ref (70 : Nat), .int fr, .int (nt e), .int (nt r), v4] [] (mk n J L x) Φ := by
  have hQ : ∀ r f, rwOK F sn cn r → F 0 r ≠ some 7 → RO I f → RO I (doK (phR I) (pg F 0 r) (pg F 1 r) (pg F 2 r) (pg F 3 r) f).2 := fun r f g1 g2 g3 => doK_RO (by rw [← hsn, ← hcn]; exact g1) (by rw [← hcn]; exact hc6) (by rw [← hsn]; exact hs7) g2 g3
  have sA : sh0 n 453 = (22, 80, (sh0 n 453).2.2) := eq_of_heq HEq.rfl
  have g4 : (sh0 n 453).1 = 22 := by rw [sA]
  have g5 : (sh0 n 453).2.1 = 80 := by rw [sA]
  intro m
  induction m with
  | zero =>
    intro h r e s J d v4 fr Φ hk he hre hb hro hE hΦ
    have hk : r = e := hk
    have e1 : nt e ≤ nt r := by rw [nt_le (by omega) (by omega)]; omega
    rw [r251_2]
    simp (config := {decide := true}) only [r251_3, r251_4, r251_156, if_true, if_false, Nat.reduceAdd, Int32.reduceToNatClampNeg, lo_i, lo_r, lo_n, kont_v, kont_n, List.length_nil, List.length_cons, e1]
    exact hΦ J hE
  | succ m ih =>
    intro h r e s J d v4 fr Φ hk he hre hb hro hE hΦ
    rw [r251_2]
    by_cases hr : r < e
    · have e1 : ¬ (nt e ≤ nt r) := nt_nle hr (by omega)
      obtain ⟨h1, h2, h534, hb39, hd40, hr35⟩ := id hE
      by_cases hb2 : s.2.1 < 200
      · have e3 : ¬ (200 ≤ nt s.2.1) := nt_nle (m := 200) hb2 (by decide)
        obtain ⟨a1, t, a2, a3, a4, a7, a5, a6⟩ := okI_row hk hr
        obtain ⟨k, -, -, -, b0, b1, -⟩ := id a1
        have hE1 := EM_b (b := s.2.1 + 1) hE
        obtain ⟨R, hR⟩ : ∃ R, R = 453 + 1 + r := ⟨_, rfl⟩
        have gR1 : sh0 n R = (20, 5, []) := by rw [hR]; exact s454 (by omega)
        have gR2 : R < 560 := by omega
        have eR1 : 453 + 1 + r = R := hR.symm
        have eR2 : 454 + r = R := by omega
        have g1 : (nt r).toNatClampNeg = r := nt_clamp (by omega)
        have g2 : (0 : Int32) ≤ nt r := nt_ge (by omega)
        have g3 : r < 80 := by omega
        have hrow := hm r g3 k b0
        rw [eR2] at hrow
        have rI : ∀ {J s}, EM I J s → J R = I R := fun hE => hE.1 R (by omega) (by omega) (by omega) (by omega) (by omega)
        have m0 : I R 0 = nt k := hrow.1
        have m4 : I R 4 = nt t := hrow.2.2.2.2.2.2 t a2
        have w1 := rI hE1
        simp (config := {decide := true}) only [r251_3, r251_4, r251_7, r251_8, r251_11, r251_14, r251_17, r251_18, r251_19, r251_22, r251_23, r251_24, r251_27, r251_28, r251_31, r251_32, r251_33, r251_34, if_true, if_false, Nat.reduceAdd, Int32.reduceToNatClampNeg, lo_i, lo_r, lo_n, kont_v, kont_n, List.length_nil, List.length_cons, e1, hb39, e3, nt_succ, g4, g5, g1, g2, g3, eR1, eR2, gR1, gR2, w1, m0]
        rw [runI, if_pos ⟨hr, hb2⟩] at hΦ
        by_cases h7 : k = 7
        · subst h7
          obtain ⟨b2, h', b3, b4⟩ := a5 b0
          subst b3
          rw [if_pos (pg_s b0), pg_s a2] at hΦ
          obtain ⟨k', c', v, t', q0, q1, -, -, -, -, -, q7⟩ := id a1
          have q0 : k' = 7 := by rw [b0] at q0; exact (Option.some.inj q0).symm
          obtain ⟨qv, qv2⟩ := q7 q0
          rw [pg_s qv] at hΦ
          have m1 : I R 1 = nt v := hrow.2.2.2.2.2.1 rfl v qv
          simp (config := {decide := true}) only [r251_35, r251_37, r251_40, r251_41, if_true, if_false, Nat.reduceAdd, Int32.reduceToNatClampNeg, lo_i, lo_r, lo_n, kont_v, kont_n, List.length_nil, List.length_cons, show nt 7 = (7 : Int32) from rfl]
          generalize wrI J 70 39 (nt (s.2.1 + 1)) = J1 at hE1 w1
          have hs1 : (s.1, s.2.1 + 1, s.2.2).2.1 ≤ 200 := by show s.2.1 + 1 ≤ 200; omega
          have hro1 : RO I ((s.1, s.2.1 + 1, s.2.2) : XS).1 := hro
          generalize ((s.1, s.2.1 + 1, s.2.2) : XS) = s1 at hE1 hΦ hs1 hro1
          have hfb : ∀ j, (foldN (fun _ s => runI (phR I) F m (r + 1) t s) j s1).2.1 ≤ 200 ∧ RO I (foldN (fun _ s => runI (phR I) F m (r + 1) t s) j s1).1 := by
            intro j
            induction j with
            | zero => exact ⟨hs1, hro1⟩
            | succ j ij => exact ⟨runI_b _ _ _ _ ij.1, runI_P hQ _ _ _ _ _ b4 ij.2⟩
          have out : ∀ J2 v4, EM I J2 (foldN (fun _ s => runI (phR I) F m (r + 1) t s) v s1) → wp (d + (h' + 1) + 9) 251 144 [.ref (70 : Nat), .int fr, .int (nt e), .int (nt r), v4] [] (mk n J2 L x) Φ := by
            intro J2 v4 hE2
            have w2 := rI hE2
            simp (config := {decide := true}) only [r251_144, r251_145, r251_148, r251_149, r251_150, r251_151, r251_152, r251_153, if_true, if_false, Nat.reduceAdd, Int32.reduceToNatClampNeg, lo_i, lo_r, lo_n, kont_v, kont_n, List.length_nil, List.length_cons, g4, g5, g1, g2, g3, eR1, eR2, gR1, gR2, w2, m4]
            exact ih (h' + 1) t e _ J2 d _ fr Φ a7 he a4 (hfb v).1 (hfb v).2 hE2 hΦ
          have key : ∀ q j J2, j + q = v → EM I J2 (foldN (fun _ s => runI (phR I) F m (r + 1) t s) j s1) → wp (d + (h' + 1) + 9) 251 43 [.ref (70 : Nat), .int fr, .int (nt e), .int (nt r), .int (nt j)] [] (mk n J2 L x) Φ := by
            intro q
            induction q with
            | zero =>
              intro j J2 hj hE2
              have hj : j = v := by omega
              subst hj
              have w2 := rI hE2
              have y1 : nt j ≤ nt j := by rw [nt_le (by omega) (by omega)]; omega
              rw [r251_43]
              simp (config := {decide := true}) only [r251_45, r251_46, r251_49, r251_50, r251_51, r251_52, r251_53, r251_87, if_true, if_false, Nat.reduceAdd, Int32.reduceToNatClampNeg, lo_i, lo_r, lo_n, kont_v, kont_n, List.length_nil, List.length_cons, g4, g5, g1, g2, g3, eR1, eR2, gR1, gR2, w2, m1, y1]
              exact out J2 _ hE2
            | succ q iq =>
              intro j J2 hj hE2
              have w2 := rI hE2
              have y1 : ¬ (nt v ≤ nt j) := nt_nle (by omega) (by omega)
              have y2 := hE2.2.2.2.1
              obtain ⟨y5, y6⟩ := hfb j
              rw [r251_43]
              by_cases hfull : 200 ≤ (foldN (fun _ s => runI (phR I) F m (r + 1) t s) j s1).2.1
              · have y3 : 200 ≤ nt (foldN (fun _ s => runI (phR I) F m (r + 1) t s) j s1).2.1 := by rw [show (200 : Int32) = nt 200 from rfl, nt_le (by decide) (by omega)]; exact hfull
                simp (config := {decide := true}) only [r251_45, r251_46, r251_49, r251_50, r251_51, r251_52, r251_53, r251_56, r251_57, r251_60, r251_63, r251_87, if_true, if_false, Nat.reduceAdd, Int32.reduceToNatClampNeg, lo_i, lo_r, lo_n, kont_v, kont_n, List.length_nil, List.length_cons, g4, g5, g1, g2, g3, eR1, eR2, gR1, gR2, w2, m1, y1, y2, y3]
                refine out J2 _ ?_
                have hff := fold_full (g := fun s => runI (phR I) F m (r + 1) t s) (fun s hs => runI_x (fun z => by omega)) (a := s1) j (q + 1) hfull
                rw [hj] at hff
                rw [hff]
                exact hE2
              · have y3 : ¬ (200 ≤ nt (foldN (fun _ s => runI (phR I) F m (r + 1) t s) j s1).2.1) := nt_nle (m := 200) (by omega) (by decide)
                rw [show d + (h' + 1) + 9 = d + h' + 9 + 1 by omega]
                simp (config := {decide := true}) only [r251_45, r251_46, r251_49, r251_50, r251_51, r251_52, r251_53, r251_56, r251_57, r251_60, r251_63, r251_66, r251_67, r251_68, r251_69, r251_70, r251_71, r251_74, r251_75, r251_76, r251_77, r251_78, if_true, if_false, Nat.reduceAdd, Int32.reduceToNatClampNeg, lo_i, lo_r, lo_n, kont_v, kont_n, List.length_nil, List.length_cons, g4, g5, g1, g2, g3, eR1, eR2, gR1, gR2, w2, m1, m4, y1, y2, y3, nt_succ]
                show wp (d + h' + 9) 251 0 [.ref (70 : Nat), .int (nt (r + 1)), .int (nt t), noV, noV] [] (mk n J2 L x) _
                simp (config := {decide := true}) only [r251_0, r251_1, if_true, if_false, Nat.reduceAdd, Int32.reduceToNatClampNeg, lo_i, lo_r, lo_n, kont_v, kont_n, List.length_nil, List.length_cons]
                refine ih h' (r + 1) t _ J2 d _ _ _ b4 (by omega) (by omega) y5 y6 hE2 (fun K hK => kont_n.mpr ?_)
                simp (config := {decide := true}) only [r251_81, r251_84, if_true, if_false, Nat.reduceAdd, Int32.reduceToNatClampNeg, lo_i, lo_r, lo_n, kont_v, kont_n, List.length_nil, List.length_cons, nt_succ]
                have hgo := iq (j + 1) K (by omega) hK
                rw [show d + (h' + 1) + 9 = d + h' + 9 + 1 by omega] at hgo
                exact hgo
          exact key v 0 J1 (by omega) hE1
        · have h70 : F 0 r ≠ some 7 := by rw [b0]; exact fun z => h7 (Option.some.inj z)
          have ht := a6 h70
          subst ht
          rw [if_neg (by rw [pg_s b0]; exact h7)] at hΦ
          have e7 : ¬ (nt k = 7) := by rw [show (7 : Int32) = nt 7 from rfl, nt_inj (by omega) (by decide)]; exact h7
          have ec : ∀ a, (a ≠ 70 ∧ a ≠ 451 ∧ a ≠ 452 ∧ a ≠ 534 ∧ a ≠ 536) → wrI J 70 39 (nt (s.2.1 + 1)) a = I a := fun a g => hE1.1 a g.1 g.2.1 g.2.2.1 g.2.2.2.1 g.2.2.2.2
          have ep : phR (wrI J 70 39 (nt (s.2.1 + 1))) = phR I := phR_cg (ec 12 (by decide)) (ec 13 (by decide)) (ec 15 (by decide)) (ec 24 (by decide)) (ec 25 (by decide))
          have eM : MI (wrI J 70 39 (nt (s.2.1 + 1))) := MI_em hM hE1.1 hE1.2.1
          have e534 : wrI J 70 39 (nt (s.2.1 + 1)) 534 = vc s.1 := hE1.2.2.1
          have eRO : RO (wrI J 70 39 (nt (s.2.1 + 1))) s.1 := kRO (ec 12 (by decide)) hro
          have ehr : RwM (wrI J 70 39 (nt (s.2.1 + 1)) R) (fun j => F j r) k := by rw [w1]; exact hrow
          simp (config := {decide := true}) only [r251_35, r251_37, r251_90, r251_91, r251_92, r251_95, r251_96, r251_99, r251_100, r251_101, if_true, if_false, Nat.reduceAdd, Int32.reduceToNatClampNeg, lo_i, lo_r, lo_n, kont_v, kont_n, List.length_nil, List.length_cons, e7, g4, g5, g1, g2, g3, eR1, eR2]
          refine m250 (d := d + h) eM b0 h7 a1 hs7 hc6 ehr gR1 gR2 eRO e534 (fun K k1 k2 k3 => kont_v.mpr ?_)
          rw [ep] at k3 ⊢
          have k39 : K 70 39 = nt (s.2.1 + 1) := by rw [k2 39 (by decide)]; exact hE1.2.2.2.1
          have k40 : K 70 40 = nt s.2.2.1 := by rw [k2 40 (by decide)]; exact hE1.2.2.2.2.1
          have k35 : K 70 35 = nt s.2.2.2 := by rw [k2 35 (by decide)]; exact hE1.2.2.2.2.2
          have kI : ∀ a, a ≠ 70 → a ≠ 451 → a ≠ 452 → a ≠ 534 → a ≠ 536 → K a = I a := fun a g1 g2 g3 g4 g5 => by rw [k1 a g1 g2 g3 g4 g5]; exact ec a ⟨g1, g2, g3, g4, g5⟩
          have kJ : ∀ i, i ≠ 35 → i ≠ 38 → i ≠ 39 → i ≠ 40 → K 70 i = I 70 i := fun i g1 g2 g3 g4 => by rw [k2 i g2]; exact hE1.2.1 i g1 g2 g3 g4
          have kR : K R = I R := kI R (by omega) (by omega) (by omega) (by omega) (by omega)
          have hst : stE (phR I) F r s = ((doK (phR I) k (pg F 1 r) (pg F 2 r) (pg F 3 r) s.1).2, s.2.1 + 1, if (doK (phR I) k (pg F 1 r) (pg F 2 r) (pg F 3 r) s.1).1 = true then s.2.2.1 + 1 else s.2.2.1, if (doK (phR I) k (pg F 1 r) (pg F 2 r) (pg F 3 r) s.1).1 = true then s.2.2.2 else s.2.2.2 + 1) := by
            unfold stE
            rw [pg_s b0]
          have hroN := hQ r s.1 a1 h70 hro
          rw [pg_s b0] at hroN
          rw [hst] at hΦ
          generalize doK (phR I) k (pg F 1 r) (pg F 2 r) (pg F 3 r) s.1 = D at k3 hΦ hroN ⊢
          obtain ⟨ok, g⟩ := D
          have fin : ∀ (dn rf : Nat) v4 (hΦ : ∀ K, EM I K (runI (phR I) F m (r + 1) e (g, s.2.1 + 1, dn, rf)) → Φ (.inl none) (mk n K L x)), wp (d + h + 9) 251 144 [.ref (70 : Nat), .int fr, .int (nt e), .int (nt r), v4] [] (mk n (wrI (wrI K 70 40 (nt dn)) 70 35 (nt rf)) L x) Φ := by
            intro dn rf v4 hΦ
            have w3 : wrI (wrI K 70 40 (nt dn)) 70 35 (nt rf) R = I R := by rw [wrI_ne (by omega), wrI_ne (by omega)]; exact kR
            simp (config := {decide := true}) only [r251_144, r251_145, r251_148, r251_149, r251_150, r251_151, r251_152, r251_153, if_true, if_false, Nat.reduceAdd, Int32.reduceToNatClampNeg, lo_i, lo_r, lo_n, kont_v, kont_n, List.length_nil, List.length_cons, g4, g5, g1, g2, g3, eR1, eR2, gR1, gR2, w3, m4]
            refine ih h (r + 1) e _ _ d _ fr Φ a7 he (by omega) (by show s.2.1 + 1 ≤ 200; omega) hroN ⟨fun a q1 q2 q3 q4 q5 => by rw [wrI_ne q1, wrI_ne q1]; exact kI a q1 q2 q3 q4 q5, fun i q1 q2 q3 q4 => by rw [wr_k q1, wr_k q4]; exact kJ i q1 q2 q3 q4, by rw [wrI_ne (by decide), wrI_ne (by decide)]; exact k3, by rw [wr_k (by decide), wr_k (by decide)]; exact k39, by rw [wr_k (by decide), wr_eq], by rw [wr_eq]⟩ hΦ
          have z35 : ∀ v, wrI K 70 40 v 70 35 = nt s.2.2.2 := fun v => by rw [wr_k (by decide)]; exact k35
          cases ok with
          | true =>
            simp only [if_true] at hΦ ⊢
            simp (config := {decide := true}) only [r251_104, r251_106, r251_107, r251_108, r251_111, r251_113, r251_116, r251_117, r251_120, r251_121, r251_122, r251_125, r251_126, r251_127, r251_130, r251_132, r251_135, r251_136, r251_139, r251_140, r251_141, if_true, if_false, Nat.reduceAdd, Int32.reduceToNatClampNeg, lo_i, lo_r, lo_n, kont_v, kont_n, List.length_nil, List.length_cons, k40, z35, nt_succ, Int32.add_zero]
            exact fin _ _ _ hΦ
          | false =>
            simp only [Bool.false_eq_true, if_false] at hΦ ⊢
            simp (config := {decide := true}) only [r251_104, r251_106, r251_107, r251_108, r251_111, r251_113, r251_116, r251_117, r251_120, r251_121, r251_122, r251_125, r251_126, r251_127, r251_130, r251_132, r251_135, r251_136, r251_139, r251_140, r251_141, if_true, if_false, Nat.reduceAdd, Int32.reduceToNatClampNeg, lo_i, lo_r, lo_n, kont_v, kont_n, List.length_nil, List.length_cons, k40, z35, nt_succ, Int32.add_zero]
            exact fin _ _ _ hΦ
      · have e3 : 200 ≤ nt s.2.1 := by rw [show (200 : Int32) = nt 200 from rfl, nt_le (by decide) (by omega)]; omega
        rw [runI_x (fun z => hb2 z.2)] at hΦ
        simp (config := {decide := true}) only [r251_3, r251_4, r251_7, r251_8, r251_11, r251_14, r251_156, if_true, if_false, Nat.reduceAdd, Int32.reduceToNatClampNeg, lo_i, lo_r, lo_n, kont_v, kont_n, List.length_nil, List.length_cons, e1, hb39, e3]
        exact hΦ J hE
    · have e1 : nt e ≤ nt r := by rw [nt_le (by omega) (by omega)]; omega
      rw [runI_x (fun z => hr z.1)] at hΦ
      simp (config := {decide := true}) only [r251_3, r251_4, r251_156, if_true, if_false, Nat.reduceAdd, Int32.reduceToNatClampNeg, lo_i, lo_r, lo_n, kont_v, kont_n, List.length_nil, List.length_cons, e1]
      exact hΦ J hE
theorem m251 (hM : MI I) (hsn : sn = sI I) (hcn : cn = cI I) (hs7 : sn ≤ 7) (hc6 : cn ≤ 6) (hm : ∀ r, r < 80 → ∀ k, F 0 r = some k → RwM (I (454 + r)) (fun j => F j r) k) (hk : okI F sn cn m 6 0 e) (he : e ≤ 30) (hb : s.2.1 ≤ 200) (hro : RO I s.1) (hE : EM I J s) (hΦ : ∀ K, EM I K (runI (phR I) F m 0 e s) → Φ (.inl none) (mk n K L x)) : wpc (d + 15) 251 [.ref (70 : Nat), .int 0, .int (nt e)] (mk n J L x) Φ := by
  show wp (d + 15) 251 0 [.ref (70 : Nat), .int 0, .int (nt e), noV, noV] [] (mk n J L x) Φ
  simp (config := {decide := true}) only [r251_0, r251_1, if_true, if_false, Nat.reduceAdd, Int32.reduceToNatClampNeg, lo_i, lo_r, lo_n, kont_v, kont_n, List.length_nil, List.length_cons]
  exact m251L hM hsn hcn hs7 hc6 hm m 6 0 e s J d noV 0 Φ hk he (Nat.zero_le e) hb hro hE hΦ
end Wz

