/-! WORK, done by the class -/
def EC (I J : Nat → Nat → Int32) (s : XS) : Prop := (∀ r, r ≠ 26 → r ≠ 27 → r ≠ 32 → r ≠ 41 → J r = I r) ∧ J 41 = s.1 ∧ J 32 5 = nt s.2.1 ∧ J 32 6 = nt s.2.2.1 ∧ J 32 7 = nt s.2.2.2 ∧ J 32 4 = I 32 4
section Wy
variable {d n x r e h m k c v t sn cn : Nat} {PH : (Nat → Int32) → Nat → Int32} {F : Nat → Nat → Option Nat} {s : XS} {Φ : POut → PM → Prop} {I J K : Nat → Nat → Int32} {L : Nat → Nat → Int64} {f : Nat → Int32}
theorem mx_nt {a b : Nat} (h : a ≤ b) (hb : b < 2147483648) : mxi (nt a) (nt b) = nt b := by
  unfold mxi
  by_cases e : a = b
  · subst e
    split <;> rfl
  · rw [if_pos (by rw [nt_lt (by omega) hb]; omega)]
theorem fold_full {g : XS → XS} (hg : ∀ s : XS, 200 ≤ s.2.1 → g s = s) {a : XS} : ∀ j q, 200 ≤ (foldN (fun _ s => g s) j a).2.1 → foldN (fun _ s => g s) (j + q) a = foldN (fun _ s => g s) j a
  | j, 0, _ => rfl
  | j, q + 1, h => by
    have ih := fold_full hg j q h
    show g (foldN (fun _ s => g s) (j + q) a) = _
    rw [ih]
    exact hg _ h
theorem EC_b {b : Nat} (h : EC I J s) : EC I (wrI J 32 5 (nt b)) (s.1, b, s.2.2) := by
  obtain ⟨h1, h2, h3, h4, h5, h6⟩ := h
  exact ⟨fun r a1 a2 a3 a4 => by rw [wrI_ne a3]; exact h1 r a1 a2 a3 a4, by rw [wrI_ne (by decide)]; exact h2, wr_eq, by rw [wr_k (by decide)]; exact h4, by rw [wr_k (by decide)]; exact h5, by rw [wr_k (by decide)]; exact h6⟩
theorem c20L (hC : CI I) (hs7 : sn ≤ 7) (hc6 : cn ≤ 6) (hm : ∀ i, i < 4 → ∀ r, r < 30 → ∀ v, F i r = some v → I (33 + i) r = nt v) : ∀ m h r e (s : XS) J dd d (v7 v8 v9 : Value) (fr : Int32) (Φ : POut → PM → Prop), okI F sn cn m h r e → e ≤ 30 → r ≤ e → dd + h ≤ 6 → s.2.1 ≤ 200 → EC I J s → (∀ K, EC I K (runI (phR I) F m r e s) → Φ (.inl none) (mk n K L x)) → wp (d + h + 7) 20 3 [.ref (32 : Nat), .ref (39 : Nat), .ref (40 : Nat), .int fr, .int (nt e), .int (nt dd), .int (nt r), v7, v8, v9] [] (mk n J L x) Φ := by
  intro m
  induction m with
  | zero =>
    intro h r e s J dd d v7 v8 v9 fr Φ hk he hre hdd hb hE hΦ
    have hk : r = e := hk
    have e1 : nt e ≤ nt r := by rw [nt_le (by omega) (by omega)]; omega
    rw [r20_3]
    simp (config := {decide := true}) only [r20_5, r20_7, r20_175, if_true, if_false, Nat.reduceAdd, Int32.reduceToNatClampNeg, lo_i, lo_r, lo_n, kont_v, kont_n, List.length_nil, List.length_cons, e1]
    exact hΦ J hE
  | succ m ih =>
    intro h r e s J dd d v7 v8 v9 fr Φ hk he hre hdd hb hE hΦ
    rw [r20_3]
    by_cases hr : r < e
    · have e1 : ¬ (nt e ≤ nt r) := nt_nle hr (by omega)
      have e2 : ¬ (30 ≤ nt r) := nt_nle (m := 30) (by omega) (by decide)
      obtain ⟨h1, h41, hb5, hd6, hr7, h4⟩ := id hE
      by_cases hb2 : s.2.1 < 200
      · have e3 : ¬ (200 ≤ nt s.2.1) := nt_nle (m := 200) hb2 (by decide)
        have e4 : ¬ (6 < nt dd) := by rw [show (6 : Int32) = nt 6 from rfl, nt_lt (by decide) (by omega)]; omega
        obtain ⟨a1, t, a2, a3, a4, a7, a5, a6⟩ := okI_row hk hr
        obtain ⟨k, -, -, -, b0, b1, -⟩ := id a1
        have hE1 := EC_b (b := s.2.1 + 1) hE
        have w33' : wrI J 32 5 (nt (s.2.1 + 1)) 33 = I 33 := hE1.1 33 (by decide) (by decide) (by decide) (by decide)
        have m0 : atv 30 (I 33) (nt r) = nt k := by rw [atv_nt (by omega) (by decide)]; exact hm 0 (by decide) r (by omega) k b0
        simp (config := {decide := true}) only [r20_5, r20_7, r20_10, r20_12, r20_14, r20_17, r20_18, r20_21, r20_24, r20_27, r20_29, r20_31, r20_34, r20_35, r20_36, r20_39, r20_40, r20_41, r20_44, r20_46, r20_47, r20_48, r20_50, r20_51, r20_54, r20_56, if_true, if_false, Nat.reduceAdd, Int32.reduceToNatClampNeg, lo_i, lo_r, lo_n, kont_v, kont_n, List.length_nil, List.length_cons, e1, e2, hb5, e3, e4, nt_succ, c185, z33, w33', m0]
        rw [runI, if_pos ⟨hr, hb2⟩] at hΦ
        by_cases h7 : k = 7
        · subst h7
          obtain ⟨b2, h', b3, b4⟩ := a5 b0
          subst b3
          rw [if_pos (pg_s b0), pg_s a2] at hΦ
          obtain ⟨k', c', v, t', q0, q1, -, -, -, -, -, q7⟩ := id a1
          have q0 : k' = 7 := by rw [b0] at q0; exact (Option.some.inj q0).symm
          obtain ⟨qv, qv2⟩ := q7 q0
          rw [pg_s qv] at hΦ
          have m3 : atv 30 (I 36) (nt r) = nt t := by rw [atv_nt (by omega) (by decide)]; exact hm 3 (by decide) r (by omega) t b2
          have m2 : atv 30 (I 35) (nt r) = nt v := by rw [atv_nt (by omega) (by decide)]; exact hm 2 (by decide) r (by omega) v qv
          have w36' : wrI J 32 5 (nt (s.2.1 + 1)) 36 = I 36 := hE1.1 36 (by decide) (by decide) (by decide) (by decide)
          have mx : mxi (nt (r + 1)) (nt t) = nt t := mx_nt (by omega) (by omega)
          simp (config := {decide := true}) only [r20_59, r20_61, r20_64, r20_66, r20_67, r20_70, r20_72, r20_75, r20_78, r20_80, r20_81, if_true, if_false, Nat.reduceAdd, Int32.reduceToNatClampNeg, lo_i, lo_r, lo_n, kont_v, kont_n, List.length_nil, List.length_cons, show nt 7 = (7 : Int32) from rfl, c185, z36, w36', m3, c316, mx]
          generalize wrI J 32 5 (nt (s.2.1 + 1)) = J1 at hE1
          have hs1 : (s.1, s.2.1 + 1, s.2.2).2.1 ≤ 200 := by show s.2.1 + 1 ≤ 200; omega
          generalize ((s.1, s.2.1 + 1, s.2.2) : XS) = s1 at hE1 hΦ hs1
          have hfb : ∀ j, (foldN (fun _ s => runI (phR I) F m (r + 1) t s) j s1).2.1 ≤ 200 := by
            intro j
            induction j with
            | zero => exact hs1
            | succ j ij => exact runI_b _ _ _ _ ij
          -- behind the turns
          have out : ∀ J2 v9, EC I J2 (foldN (fun _ s => runI (phR I) F m (r + 1) t s) v s1) → wp (d + (h' + 1) + 7) 20 127 [.ref (32 : Nat), .ref (39 : Nat), .ref (40 : Nat), .int fr, .int (nt e), .int (nt dd), .int (nt r), .int (nt (r + 1)), .int (nt t), v9] [] (mk n J2 L x) Φ := by
            intro J2 v9 hE2
            simp (config := {decide := true}) only [r20_127, r20_129, r20_131, r20_168, r20_170, r20_172, if_true, if_false, Nat.reduceAdd, Int32.reduceToNatClampNeg, lo_i, lo_r, lo_n, kont_v, kont_n, List.length_nil, List.length_cons]
            exact ih (h' + 1) t e _ J2 dd d _ _ _ fr Φ a7 he a4 hdd (hfb v) hE2 hΦ
          have key : ∀ q j J2, j + q = v → EC I J2 (foldN (fun _ s => runI (phR I) F m (r + 1) t s) j s1) → wp (d + (h' + 1) + 7) 20 83 [.ref (32 : Nat), .ref (39 : Nat), .ref (40 : Nat), .int fr, .int (nt e), .int (nt dd), .int (nt r), .int (nt (r + 1)), .int (nt t), .int (nt j)] [] (mk n J2 L x) Φ := by
            intro q
            induction q with
            | zero =>
              intro j J2 hj hE2
              have hj : j = v := by omega
              subst hj
              have w35 : J2 35 = I 35 := hE2.1 35 (by decide) (by decide) (by decide) (by decide)
              have y1 : nt j ≤ nt j := by rw [nt_le (by omega) (by omega)]; omega
              rw [r20_83]
              simp (config := {decide := true}) only [r20_85, r20_86, r20_89, r20_91, r20_94, if_true, if_false, Nat.reduceAdd, Int32.reduceToNatClampNeg, lo_i, lo_r, lo_n, kont_v, kont_n, List.length_nil, List.length_cons, c185, z35, w35, m2, y1]
              exact out J2 _ hE2
            | succ q iq =>
              intro j J2 hj hE2
              have w35 : J2 35 = I 35 := hE2.1 35 (by decide) (by decide) (by decide) (by decide)
              have y1 : ¬ (nt v ≤ nt j) := nt_nle (by omega) (by omega)
              have y2 := hE2.2.2.1
              have y5 := hfb j
              rw [r20_83]
              by_cases hfull : 200 ≤ (foldN (fun _ s => runI (phR I) F m (r + 1) t s) j s1).2.1
              · have y3 : 200 ≤ nt (foldN (fun _ s => runI (phR I) F m (r + 1) t s) j s1).2.1 := by rw [show (200 : Int32) = nt 200 from rfl, nt_le (by decide) (by omega)]; exact hfull
                simp (config := {decide := true}) only [r20_85, r20_86, r20_89, r20_91, r20_94, r20_97, r20_98, r20_101, r20_104, if_true, if_false, Nat.reduceAdd, Int32.reduceToNatClampNeg, lo_i, lo_r, lo_n, kont_v, kont_n, List.length_nil, List.length_cons, c185, z35, w35, m2, y1, y2, y3]
                refine out J2 _ ?_
                have hff := fold_full (g := fun s => runI (phR I) F m (r + 1) t s) (fun s hs => runI_x (fun z => by omega)) (a := s1) j (q + 1) hfull
                rw [hj] at hff
                rw [hff]
                exact hE2
              · have y3 : ¬ (200 ≤ nt (foldN (fun _ s => runI (phR I) F m (r + 1) t s) j s1).2.1) := nt_nle (m := 200) (by omega) (by decide)
                rw [show d + (h' + 1) + 7 = d + h' + 7 + 1 by omega]
                simp (config := {decide := true}) only [r20_85, r20_86, r20_89, r20_91, r20_94, r20_97, r20_98, r20_101, r20_104, r20_107, r20_108, r20_109, r20_110, r20_112, r20_114, r20_116, r20_117, r20_118, if_true, if_false, Nat.reduceAdd, Int32.reduceToNatClampNeg, lo_i, lo_r, lo_n, kont_v, kont_n, List.length_nil, List.length_cons, c185, z35, w35, m2, y1, y2, y3, nt_succ]
                show wp (d + h' + 7) 20 0 [.ref (32 : Nat), .ref (39 : Nat), .ref (40 : Nat), .int (nt (r + 1)), .int (nt t), .int (nt (dd + 1)), noV, noV, noV, noV] [] (mk n J2 L x) _
                simp (config := {decide := true}) only [r20_0, r20_1, if_true, if_false, Nat.reduceAdd, Int32.reduceToNatClampNeg, lo_i, lo_r, lo_n, kont_v, kont_n, List.length_nil, List.length_cons]
                refine ih h' (r + 1) t _ J2 (dd + 1) d _ _ _ _ _ b4 (by omega) (by omega) (by omega) y5 hE2 (fun K hK => kont_n.mpr ?_)
                simp (config := {decide := true}) only [r20_121, r20_124, if_true, if_false, Nat.reduceAdd, Int32.reduceToNatClampNeg, lo_i, lo_r, lo_n, kont_v, kont_n, List.length_nil, List.length_cons, nt_succ]
                have hgo := iq (j + 1) K (by omega) hK
                rw [show d + (h' + 1) + 7 = d + h' + 7 + 1 by omega] at hgo
                exact hgo
          have hgo := key v 0 J1 (by omega) hE1
          exact hgo
        · have h70 : F 0 r ≠ some 7 := by rw [b0]; exact fun z => h7 (Option.some.inj z)
          have ht := a6 h70
          subst ht
          rw [if_neg (by rw [pg_s b0]; exact h7)] at hΦ
          have e7 : ¬ (nt k = 7) := by rw [show (7 : Int32) = nt 7 from rfl, nt_inj (by omega) (by decide)]; exact h7
          have ec : ∀ a, a ≠ 26 → a ≠ 27 → a ≠ 32 → a ≠ 41 → wrI J 32 5 (nt (s.2.1 + 1)) a = I a := hE1.1
          have ep : phR (wrI J 32 5 (nt (s.2.1 + 1))) = phR I := phR_cg (ec 12 (by decide) (by decide) (by decide) (by decide)) (ec 13 (by decide) (by decide) (by decide) (by decide)) (ec 15 (by decide) (by decide) (by decide) (by decide)) (ec 24 (by decide) (by decide) (by decide) (by decide)) (ec 25 (by decide) (by decide) (by decide) (by decide))
          have eC : CI (wrI J 32 5 (nt (s.2.1 + 1))) := CI_cg (ec 12 (by decide) (by decide) (by decide) (by decide)) (ec 13 (by decide) (by decide) (by decide) (by decide)) (ec 24 (by decide) (by decide) (by decide) (by decide)) (ec 25 (by decide) (by decide) (by decide) (by decide)) hC
          have e41 : wrI J 32 5 (nt (s.2.1 + 1)) 41 = s.1 := hE1.2.1
          simp (config := {decide := true}) only [r20_59, r20_61, r20_134, r20_135, r20_136, r20_137, r20_139, if_true, if_false, Nat.reduceAdd, Int32.reduceToNatClampNeg, lo_i, lo_r, lo_n, kont_v, kont_n, List.length_nil, List.length_cons, e7]
          refine c21 (d := d + h) eC b0 h7 a1 hs7 hc6 (fun i hi v' hv' => by rw [ec (33 + i) (by omega) (by omega) (by omega) (by omega)]; exact hm i hi r (by omega) v' hv') (by omega) (fun K k1 k2 => kont_v.mpr ?_)
          rw [ep, e41] at k2 ⊢
          have kb : K 32 = wrI J 32 5 (nt (s.2.1 + 1)) 32 := k1 32 (by decide) (by decide) (by decide)
          have k5 : K 32 5 = nt (s.2.1 + 1) := by rw [kb]; exact hE1.2.2.1
          have k6 : K 32 6 = nt s.2.2.1 := by rw [kb]; exact hE1.2.2.2.1
          have k7 : K 32 7 = nt s.2.2.2 := by rw [kb]; exact hE1.2.2.2.2.1
          have k4 : K 32 4 = I 32 4 := by rw [kb]; exact hE1.2.2.2.2.2
          have kI : ∀ a, a ≠ 26 → a ≠ 27 → a ≠ 32 → a ≠ 41 → K a = I a := fun a g1 g2 g3 g4 => by rw [k1 a g1 g2 g4]; exact ec a g1 g2 g3 g4
          have hst : stE (phR I) F r s = ((doK (phR I) k (pg F 1 r) (pg F 2 r) (pg F 3 r) s.1).2, s.2.1 + 1, if (doK (phR I) k (pg F 1 r) (pg F 2 r) (pg F 3 r) s.1).1 = true then s.2.2.1 + 1 else s.2.2.1, if (doK (phR I) k (pg F 1 r) (pg F 2 r) (pg F 3 r) s.1).1 = true then s.2.2.2 else s.2.2.2 + 1) := by
            unfold stE
            rw [pg_s b0]
          rw [hst] at hΦ
          generalize doK (phR I) k (pg F 1 r) (pg F 2 r) (pg F 3 r) s.1 = D at k2 hΦ ⊢
          obtain ⟨ok, g⟩ := D
          cases ok with
          | true =>
            simp only [if_true] at hΦ ⊢
            simp (config := {decide := true}) only [r20_142, r20_145, r20_146, r20_147, r20_150, r20_151, r20_152, r20_155, r20_168, r20_170, r20_172, if_true, if_false, Nat.reduceAdd, Int32.reduceToNatClampNeg, lo_i, lo_r, lo_n, kont_v, kont_n, List.length_nil, List.length_cons, k6, nt_succ]
            refine ih h (r + 1) e _ _ dd d _ _ _ fr Φ a7 he (by omega) hdd (by show s.2.1 + 1 ≤ 200; omega) ⟨fun a g1 g2 g3 g4 => by rw [wrI_ne g3]; exact kI a g1 g2 g3 g4, by rw [wrI_ne (by decide)]; exact k2, by rw [wr_k (by decide)]; exact k5, by rw [wr_eq], by rw [wr_k (by decide)]; exact k7, by rw [wr_k (by decide)]; exact k4⟩ hΦ
          | false =>
            simp only [Bool.false_eq_true, if_false] at hΦ ⊢
            simp (config := {decide := true}) only [r20_142, r20_158, r20_159, r20_160, r20_163, r20_164, r20_165, r20_168, r20_170, r20_172, if_true, if_false, Nat.reduceAdd, Int32.reduceToNatClampNeg, lo_i, lo_r, lo_n, kont_v, kont_n, List.length_nil, List.length_cons, k7, nt_succ]
            refine ih h (r + 1) e _ _ dd d _ _ _ fr Φ a7 he (by omega) hdd (by show s.2.1 + 1 ≤ 200; omega) ⟨fun a g1 g2 g3 g4 => by rw [wrI_ne g3]; exact kI a g1 g2 g3 g4, by rw [wrI_ne (by decide)]; exact k2, by rw [wr_k (by decide)]; exact k5, by rw [wr_k (by decide)]; exact k6, by rw [wr_eq], by rw [wr_k (by decide)]; exact k4⟩ hΦ
      · have e3 : 200 ≤ nt s.2.1 := by rw [show (200 : Int32) = nt 200 from rfl, nt_le (by decide) (by omega)]; omega
        rw [runI_x (fun z => hb2 z.2)] at hΦ
        simp (config := {decide := true}) only [r20_5, r20_7, r20_10, r20_12, r20_14, r20_17, r20_18, r20_21, r20_24, r20_175, if_true, if_false, Nat.reduceAdd, Int32.reduceToNatClampNeg, lo_i, lo_r, lo_n, kont_v, kont_n, List.length_nil, List.length_cons, e1, e2, hb5, e3]
        exact hΦ J hE
    · have e1 : nt e ≤ nt r := by rw [nt_le (by omega) (by omega)]; omega
      rw [runI_x (fun z => hr z.1)] at hΦ
      simp (config := {decide := true}) only [r20_5, r20_7, r20_175, if_true, if_false, Nat.reduceAdd, Int32.reduceToNatClampNeg, lo_i, lo_r, lo_n, kont_v, kont_n, List.length_nil, List.length_cons, e1]
      exact hΦ J hE
theorem c20 (hC : CI I) (hs7 : sn ≤ 7) (hc6 : cn ≤ 6) (hm : ∀ i, i < 4 → ∀ r, r < 30 → ∀ v, F i r = some v → I (33 + i) r = nt v) (hk : okI F sn cn m 6 0 e) (he : e ≤ 30) (hb : s.2.1 ≤ 200) (hE : EC I J s) (hΦ : ∀ K, EC I K (runI (phR I) F m 0 e s) → Φ (.inl none) (mk n K L x)) : wpc (d + 13) 20 [.ref (32 : Nat), .ref (39 : Nat), .ref (40 : Nat), .int 0, .int (nt e), .int 0] (mk n J L x) Φ := by
  show wp (d + 13) 20 0 [.ref (32 : Nat), .ref (39 : Nat), .ref (40 : Nat), .int 0, .int (nt e), .int 0, noV, noV, noV, noV] [] (mk n J L x) Φ
  simp (config := {decide := true}) only [r20_0, r20_1, if_true, if_false, Nat.reduceAdd, Int32.reduceToNatClampNeg, lo_i, lo_r, lo_n, kont_v, kont_n, List.length_nil, List.length_cons]
  exact c20L hC hs7 hc6 hm m 6 0 e s J 0 d noV noV noV 0 Φ hk he (Nat.zero_le e) (by omega) hb hE hΦ
end Wy

