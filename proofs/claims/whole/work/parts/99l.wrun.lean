/-! WORK, done: pure, and by the class -/
abbrev XS : Type := (Nat → Int32) × Nat × Nat × Nat
def doK (PH : (Nat → Int32) → Nat → Int32) (k c v t : Nat) (f : Nat → Int32) : Bool × (Nat → Int32) :=
  if k = 0 then (decide (f (6 + c) ≠ nt v), upd f (6 + c) (nt v))
  else if k = 1 then (decide (f (6 + c) ≠ -1), upd f (6 + c) (-1))
  else if k = 2 then (decide (f c ≠ mni 20 (f c + 5)), wnf f c)
  else if k = 3 then (decide (f (12 + c) = 1 ∨ f 83 ≠ 0), skf f c)
  else if k = 4 then (decide (f (18 + t * 6 + c) ≠ nt v), upd f (18 + t * 6 + c) (nt v))
  else if k = 5 then (decide (f (60 + c) ≠ -1), dzg f c)
  else if f 81 = 23 ∧ 300 ≤ f 82 then (false, f) else (true, PH f)
def pg (F : Nat → Nat → Option Nat) (i r : Nat) : Nat := (F i r).getD 0
def stE (PH : (Nat → Int32) → Nat → Int32) (F : Nat → Nat → Option Nat) (r : Nat) (s : XS) : XS := ((doK PH (pg F 0 r) (pg F 1 r) (pg F 2 r) (pg F 3 r) s.1).2, s.2.1 + 1, if (doK PH (pg F 0 r) (pg F 1 r) (pg F 2 r) (pg F 3 r) s.1).1 = true then s.2.2.1 + 1 else s.2.2.1, if (doK PH (pg F 0 r) (pg F 1 r) (pg F 2 r) (pg F 3 r) s.1).1 = true then s.2.2.2 else s.2.2.2 + 1)
def runI (PH : (Nat → Int32) → Nat → Int32) (F : Nat → Nat → Option Nat) : Nat → Nat → Nat → XS → XS
  | 0, _, _, s => s
  | m + 1, r, e, s => if r < e ∧ s.2.1 < 200 then (if pg F 0 r = 7 then runI PH F m (pg F 4 r) e (foldN (fun _ s => runI PH F m (r + 1) (pg F 4 r) s) (pg F 2 r) (s.1, s.2.1 + 1, s.2.2)) else runI PH F m (r + 1) e (stE PH F r s)) else s
section Wx
variable {d n x r e h m k c v t sn cn : Nat} {PH : (Nat → Int32) → Nat → Int32} {F : Nat → Nat → Option Nat} {s : XS} {Φ : POut → PM → Prop} {I J K : Nat → Nat → Int32} {L : Nat → Nat → Int64} {f : Nat → Int32}
theorem bi_dec {p : Prop} [Decidable p] : (if decide p = true then (1 : Int32) else 0) = bi p := by
  unfold bi
  by_cases h : p <;> simp [h]
theorem runI_x (h : ¬ (r < e ∧ s.2.1 < 200)) : runI PH F m r e s = s := by
  cases m with
  | zero => rfl
  | succ m => rw [runI, if_neg h]
theorem runI_b : ∀ m r e (s : XS), s.2.1 ≤ 200 → (runI PH F m r e s).2.1 ≤ 200 := by
  intro m
  induction m with
  | zero => intro r e s h; exact h
  | succ m ih =>
    intro r e s h
    rw [runI]
    split
    · rename_i hb
      split
      · refine ih _ _ _ ?_
        have : ∀ q, (foldN (fun _ s => runI PH F m (r + 1) (pg F 4 r) s) q (s.1, s.2.1 + 1, s.2.2) : XS).2.1 ≤ 200 := by
          intro q
          induction q with
          | zero => show s.2.1 + 1 ≤ 200; omega
          | succ q iq => exact ih _ _ _ iq
        exact this _
      · exact ih _ _ _ (by show s.2.1 + 1 ≤ 200; omega)
    · exact h
theorem pg_s {i v : Nat} (h : F i r = some v) : pg F i r = v := by unfold pg; rw [h]; rfl
/-- what a step keeps -/
theorem doK_RO (hrw : rwOK F (sI I) (cI I) r) (h6 : cI I ≤ 6) (h7 : sI I ≤ 7) (hk : F 0 r ≠ some 7) (ho : RO I f) : RO I (doK (phR I) (pg F 0 r) (pg F 1 r) (pg F 2 r) (pg F 3 r) f).2 := by
  obtain ⟨k, c, v, t, a0, a1, a2, a3, a4, a5, a6, a7⟩ := hrw
  rw [pg_s a0]
  unfold doK
  split
  · rename_i e
    rw [pg_s (a2 (by omega)), pg_s (a5 e).1]
    exact set_RO (a3 (by omega)) h6 ho (Or.inr ⟨nt_ge (by have := (a5 e).2; omega), by have := (a5 e).2; rw [show (24 : Int32) = nt 24 from rfl, nt_lt (by omega) (by decide)]; omega⟩)
  · split
    · rw [pg_s (a2 (by omega))]
      exact set_RO (a3 (by omega)) h6 ho (Or.inl rfl)
    · split
      · rw [pg_s (a2 (by omega))]
        exact wnd_RO (a3 (by omega)) h6 ho
      · split
        · rw [pg_s (a2 (by omega))]
          exact skf_RO (a3 (by omega)) h6 ho
        · split
          · rename_i e
            obtain ⟨b1, b2, b3, b4⟩ := a6 e
            have b5 := a3 (by omega)
            rw [pg_s (a2 (by omega)), pg_s b1, pg_s b3]
            exact updhi_RO (Or.inr (Or.inr (Or.inl (by omega)))) ho
          · split
            · rename_i e
              have b5 := a4 e
              rw [pg_s (a2 (by omega))]
              exact dzg_RO (by omega) ho
            · split
              · exact ho
              · exact ro_ph h7 ho
theorem doK_hi (hrw : rwOK F sn cn r) (hc6 : cn ≤ 6) (hs7 : sn ≤ 7) (hk : F 0 r ≠ some 7) {i : Nat} (hi : 84 ≤ i) : (doK (phR I) (pg F 0 r) (pg F 1 r) (pg F 2 r) (pg F 3 r) f).2 i = f i := by
  obtain ⟨k, c, v, t, a0, a1, a2, a3, a4, a5, a6, a7⟩ := hrw
  rw [pg_s a0]
  unfold doK
  split
  · have := a3 (by omega)
    rw [pg_s (a2 (by omega))]
    exact up_ne (by omega)
  · split
    · have := a3 (by omega)
      rw [pg_s (a2 (by omega))]
      exact up_ne (by omega)
    · split
      · have := a3 (by omega)
        rw [pg_s (a2 (by omega))]
        exact wnf_hi (by omega) hi
      · split
        · have := a3 (by omega)
          rw [pg_s (a2 (by omega))]
          exact skf_hi (by omega) hi
        · split
          · rename_i e
            obtain ⟨b1, b2, b3, b4⟩ := a6 e
            have b5 := a3 (by omega)
            rw [pg_s (a2 (by omega)), pg_s b3]
            exact up_ne (by omega)
          · split
            · rename_i e
              have b5 := a4 e
              rw [pg_s (a2 (by omega))]
              exact dzg_hi (by omega) hi
            · split
              · rfl
              · exact ph_hi hi
theorem okI_row (hk : okI F sn cn (m + 1) h r e) (hr : r < e) : rwOK F sn cn r ∧ (∃ t, F 4 r = some t ∧ r < t ∧ t ≤ e ∧ okI F sn cn m h t e ∧ (F 0 r = some 7 → F 3 r = some t ∧ ∃ h', h = h' + 1 ∧ okI F sn cn m h' (r + 1) t) ∧ (F 0 r ≠ some 7 → t = r + 1)) := by
  rcases hk with hk | ⟨t, ⟨a1, a2, a3, a4, a5, a6⟩, a7⟩
  · omega
  · exact ⟨a1, t, a2, a3, a4, a7, a5, a6⟩
theorem runI_P {Q : (Nat → Int32) → Prop} (hQ : ∀ r f, rwOK F sn cn r → F 0 r ≠ some 7 → Q f → Q (doK PH (pg F 0 r) (pg F 1 r) (pg F 2 r) (pg F 3 r) f).2) : ∀ m h r e (s : XS), okI F sn cn m h r e → Q s.1 → Q (runI PH F m r e s).1 := by
  intro m
  induction m with
  | zero => intro h r e s hk hs; exact hs
  | succ m ih =>
    intro h r e s hk hs
    rw [runI]
    split
    · rename_i hb
      obtain ⟨a1, t, a2, a3, a4, a7, a5, a6⟩ := okI_row hk hb.1
      split
      · rename_i h7
        have h70 : F 0 r = some 7 := by
          obtain ⟨k, c, v, t', b0, b1, -⟩ := a1
          rw [pg_s b0] at h7
          rw [b0, h7]
        obtain ⟨b1, h', b2, b3⟩ := a5 h70
        rw [pg_s a2]
        refine ih _ _ _ _ a7 ?_
        have : ∀ q, Q (foldN (fun _ s => runI PH F m (r + 1) t s) q (s.1, s.2.1 + 1, s.2.2) : XS).1 := by
          intro q
          induction q with
          | zero => exact hs
          | succ q iq => exact ih _ _ _ _ b3 iq
        exact this _
      · rename_i h7
        have h70 : F 0 r ≠ some 7 := fun z => h7 (pg_s z)
        have ht := a6 h70
        subst ht
        exact ih _ _ _ _ a7 (hQ r s.1 a1 h70 hs)
    · exact hs
theorem CI_cg (h12 : J 12 = I 12) (h13 : J 13 = I 13) (h24 : J 24 = I 24) (h25 : J 25 = I 25) (hC : CI I) : CI J := by
  unfold CI lnI cI sI at *
  rw [h12, h13, h24, h25]
  exact hC
theorem phR_cg (h12 : J 12 = I 12) (h13 : J 13 = I 13) (h15 : J 15 = I 15) (h24 : J 24 = I 24) (h25 : J 25 = I 25) : phR J = phR I := by
  funext f
  unfold phR phW wkI lnI cI sI
  rw [h12, h13, h15, h24, h25]
/-- the class: a step -/
theorem c21 (hC : CI J) (hk : F 0 r = some k) (hk7 : k ≠ 7) (hrw : rwOK F sn cn r) (hs7 : sn ≤ 7) (hc6 : cn ≤ 6) (hm : ∀ i, i < 4 → ∀ v, F i r = some v → J (33 + i) r = nt v) (hr : r < 30) (h : ∀ K, (∀ a, a ≠ 26 → a ≠ 27 → a ≠ 41 → K a = J a) → K 41 = (doK (phR J) k (pg F 1 r) (pg F 2 r) (pg F 3 r) (J 41)).2 → Φ (.inl (some (.int (if (doK (phR J) k (pg F 1 r) (pg F 2 r) (pg F 3 r) (J 41)).1 = true then 1 else 0)))) (mk n K L x)) : wpc (d + 6) 21 [.ref (32 : Nat), .ref (39 : Nat), .ref (40 : Nat), .int (nt r)] (mk n J L x) Φ := by
  obtain ⟨k', c, v, t, a0, a1, a2, a3, a4, a5, a6, a7⟩ := hrw
  rw [hk] at a0
  have a0 := Option.some.inj a0
  subst a0
  have k40 : K5 40 := Or.inl rfl
  have e0 : atv 30 (J 33) (nt r) = nt k := by rw [atv_nt hr (by decide)]; exact hm 0 (by decide) k hk
  have e1 : atv 30 (J 34) (nt r) = J 34 r := atv_nt hr (by decide)
  have e2 : atv 30 (J 35) (nt r) = J 35 r := atv_nt hr (by decide)
  have e3 : atv 30 (J 36) (nt r) = J 36 r := atv_nt hr (by decide)
  have u41 : ∀ g : Nat → Int32, ∀ a, a ≠ 26 → a ≠ 27 → a ≠ 41 → upR J 41 g a = J a := fun g a _ _ h => upR_ne h
  show wp (d + 6) 21 0 [.ref (32 : Nat), .ref (39 : Nat), .ref (40 : Nat), .int (nt r), noV] [] (mk n J L x) Φ
  have hkk : k = 0 ∨ k = 1 ∨ k = 2 ∨ k = 3 ∨ k = 4 ∨ k = 5 ∨ k = 6 := by omega
  rcases hkk with rfl | rfl | rfl | rfl | rfl | rfl | rfl
  · have b2 := a2 (by decide)
    have b3 := a3 (by decide)
    obtain ⟨b4, b5⟩ := a5 rfl
    have m1 : J 34 r = nt c := hm 1 (by decide) c b2
    have m2 : J 35 r = nt v := hm 2 (by decide) v b4
    rw [pg_s b2, pg_s b4] at h
    have y1 : atv 84 (J 41) (6 + nt c) = J 41 (6 + c) := at_b 6 (by omega) (by decide)
    have y2 : stv 84 (J 41) (6 + nt c) (nt v) = upd (J 41) (6 + c) (nt v) := st_b 6 (by omega) (by decide)
    have hg := h (upR J 41 (upd (J 41) (6 + c) (nt v))) (u41 _) (upR_same _ _ _)
    have hd : (doK (phR J) 0 c v (pg F 3 r) (J 41)).1 = decide (J 41 (6 + c) ≠ nt v) := rfl
    rw [hd, bi_dec] at hg
    simp (config := {decide := true}) only [r21_0, r21_1, r21_4, r21_5, r21_8, r21_10, r21_11, r21_14, r21_15, r21_18 (a := 0) 56 rfl, r21_56, r21_57, r21_59, r21_60, r21_63, r21_64, r21_67, r21_70, if_true, if_false, Nat.reduceAdd, Int32.reduceToNatClampNeg, lo_i, lo_r, lo_n, kont_v, kont_n, List.length_nil, List.length_cons, c185, z33, z34, z35, z36, e0, e1, e2, e3, show nt 0 = (0 : Int32) from rfl, m1, m2, k40, c64 k40, y1, y2, nb_bi]
    exact hg
  · have b2 := a2 (by decide)
    have b3 := a3 (by decide)
    have m1 : J 34 r = nt c := hm 1 (by decide) c b2
    rw [pg_s b2] at h
    have y1 : atv 84 (J 41) (6 + nt c) = J 41 (6 + c) := at_b 6 (by omega) (by decide)
    have y2 : stv 84 (J 41) (6 + nt c) (-1) = upd (J 41) (6 + c) (-1) := st_b 6 (by omega) (by decide)
    have hg := h (upR J 41 (upd (J 41) (6 + c) (-1))) (u41 _) (upR_same _ _ _)
    have hd : (doK (phR J) 1 c (pg F 2 r) (pg F 3 r) (J 41)).1 = decide (J 41 (6 + c) ≠ -1) := rfl
    rw [hd, bi_dec] at hg
    simp (config := {decide := true}) only [r21_0, r21_1, r21_4, r21_5, r21_8, r21_10, r21_11, r21_14, r21_15, r21_18 (a := 1) 71 rfl, r21_71, r21_72, r21_74, r21_75, r21_78, if_true, if_false, Nat.reduceAdd, Int32.reduceToNatClampNeg, lo_i, lo_r, lo_n, kont_v, kont_n, List.length_nil, List.length_cons, c185, z33, z34, z35, z36, e0, e1, e2, e3, show nt 1 = (1 : Int32) from rfl, m1, k40, c64 k40, y1, y2, nb_bi]
    exact hg
  · have b2 := a2 (by decide)
    have b3 := a3 (by decide)
    have m1 : J 34 r = nt c := hm 1 (by decide) c b2
    rw [pg_s b2] at h
    have y1 : atv 84 (J 41) (0 + nt c) = J 41 c := by have := at_b (f := J 41) (m := 84) 0 (k := c) (by omega) (by decide); rw [Nat.zero_add] at this; exact this
    have y2 : ∀ w, stv 84 (J 41) (0 + nt c) w = upd (J 41) c w := fun w => by have := st_b (f := J 41) (m := 84) (v := w) 0 (k := c) (by omega) (by decide); rw [Nat.zero_add] at this; exact this
    have hg := h (upR J 41 (upd (J 41) c (mni 20 (J 41 c + 5)))) (u41 _) (upR_same _ _ _)
    have hd : (doK (phR J) 2 c (pg F 2 r) (pg F 3 r) (J 41)).1 = decide (J 41 c ≠ mni 20 (J 41 c + 5)) := rfl
    rw [hd, bi_dec] at hg
    simp (config := {decide := true}) only [r21_0, r21_1, r21_4, r21_5, r21_8, r21_10, r21_11, r21_14, r21_15, r21_18 (a := 2) 79 rfl, r21_79, r21_80, r21_82, r21_85, if_true, if_false, Nat.reduceAdd, Int32.reduceToNatClampNeg, lo_i, lo_r, lo_n, kont_v, kont_n, List.length_nil, List.length_cons, c185, z33, z34, z35, z36, e0, e1, e2, e3, show nt 2 = (2 : Int32) from rfl, m1, k40, c66 k40, y1, y2, nb_bi]
    exact hg
  · have b2 := a2 (by decide)
    have b3 := a3 (by decide)
    have m1 : J 34 r = nt c := hm 1 (by decide) c b2
    rw [pg_s b2] at h
    have y1 : atv 84 (J 41) (12 + nt c) = J 41 (12 + c) := at_b 12 (by omega) (by decide)
    have y2 : tsk (J 41) (nt c) = skf (J 41) c := skf_tsk (by omega)
    have hg := h (upR J 41 (skf (J 41) c)) (u41 _) (upR_same _ _ _)
    have hd : (doK (phR J) 3 c (pg F 2 r) (pg F 3 r) (J 41)).1 = decide (J 41 (12 + c) = 1 ∨ J 41 83 ≠ 0) := rfl
    rw [hd, bi_dec] at hg
    simp (config := {decide := true}) only [r21_0, r21_1, r21_4, r21_5, r21_8, r21_10, r21_11, r21_14, r21_15, r21_18 (a := 3) 86 rfl, r21_86, r21_87, r21_89, r21_92, if_true, if_false, Nat.reduceAdd, Int32.reduceToNatClampNeg, lo_i, lo_r, lo_n, kont_v, kont_n, List.length_nil, List.length_cons, c185, z33, z34, z35, z36, e0, e1, e2, e3, show nt 3 = (3 : Int32) from rfl, m1, k40, c67 k40, y1, y2, nb_bi]
    exact hg
  · have b2 := a2 (by decide)
    have b3 := a3 (by decide)
    obtain ⟨b4, b5, b6, b7⟩ := a6 rfl
    have m1 : J 34 r = nt c := hm 1 (by decide) c b2
    have m2 : J 35 r = nt v := hm 2 (by decide) v b4
    have m3 : J 36 r = nt t := hm 3 (by decide) t b6
    rw [pg_s b2, pg_s b4, pg_s b6] at h
    have y0 : (18 : Int32) + nt t * 6 + nt c = nt (18 + t * 6 + c) := by
      rw [show nt t * 6 = nt (t * 6) from (Int32.ofNat_mul t 6).symm, show (18 : Int32) = nt 18 from rfl, nt_add, nt_add]
    have y1 : atv 84 (J 41) (nt (18 + t * 6 + c)) = J 41 (18 + t * 6 + c) := atv_nt (by omega) (by decide)
    have y2 : stv 84 (J 41) (nt (18 + t * 6 + c)) (nt v) = upd (J 41) (18 + t * 6 + c) (nt v) := st_nt (by omega) (by decide)
    have hg := h (upR J 41 (upd (J 41) (18 + t * 6 + c) (nt v))) (u41 _) (upR_same _ _ _)
    have hd : (doK (phR J) 4 c v t (J 41)).1 = decide (J 41 (18 + t * 6 + c) ≠ nt v) := rfl
    rw [hd, bi_dec] at hg
    simp (config := {decide := true}) only [r21_0, r21_1, r21_4, r21_5, r21_8, r21_10, r21_11, r21_14, r21_15, r21_18 (a := 4) 93 rfl, r21_93, r21_94, r21_96, r21_97, r21_100, r21_101, r21_104, r21_105, r21_108, r21_109, r21_112, r21_115, if_true, if_false, Nat.reduceAdd, Int32.reduceToNatClampNeg, lo_i, lo_r, lo_n, kont_v, kont_n, List.length_nil, List.length_cons, c185, z33, z34, z35, z36, e0, e1, e2, e3, show nt 4 = (4 : Int32) from rfl, m1, m2, m3, k40, c65 k40, y0, y1, y2, nb_bi]
    exact hg
  · have b2 := a2 (by decide)
    have b3 := a4 rfl
    have m1 : J 34 r = nt c := hm 1 (by decide) c b2
    rw [pg_s b2] at h
    have y1 : atv 84 (J 41) (60 + nt c) = J 41 (60 + c) := at_b 60 (by omega) (by decide)
    have y2 : dzf (J 41) (nt c) = dzg (J 41) c := dzg_dzf (by omega)
    have hg := h (upR J 41 (dzg (J 41) c)) (u41 _) (upR_same _ _ _)
    have hd : (doK (phR J) 5 c (pg F 2 r) (pg F 3 r) (J 41)).1 = decide (J 41 (60 + c) ≠ -1) := rfl
    rw [hd, bi_dec] at hg
    simp (config := {decide := true}) only [r21_0, r21_1, r21_4, r21_5, r21_8, r21_10, r21_11, r21_14, r21_15, r21_18 (a := 5) 116 rfl, r21_116, r21_117, r21_119, r21_122, if_true, if_false, Nat.reduceAdd, Int32.reduceToNatClampNeg, lo_i, lo_r, lo_n, kont_v, kont_n, List.length_nil, List.length_cons, c185, z33, z34, z35, z36, e0, e1, e2, e3, show nt 5 = (5 : Int32) from rfl, m1, k40, c68 k40, y1, y2, nb_bi]
    exact hg
  · have hd : doK (phR J) 6 (pg F 1 r) (pg F 2 r) (pg F 3 r) (J 41) = if J 41 81 = 23 ∧ 300 ≤ J 41 82 then (false, J 41) else (true, phR J (J 41)) := rfl
    rw [hd] at h
    by_cases hl : J 41 81 = 23 ∧ 300 ≤ J 41 82
    · rw [if_pos hl] at h
      have hg := h J (fun _ _ _ _ => rfl) rfl
      have y1 : bi (J 41 81 = 23 ∧ 300 ≤ J 41 82) = 1 := bi_t hl
      simp (config := {decide := true}) only [r21_0, r21_1, r21_4, r21_5, r21_8, r21_10, r21_11, r21_14, r21_15, r21_18 (a := 6) 123 rfl, r21_123, r21_124, r21_127, r21_130, r21_131, r21_132, r21_133, r21_134, r21_137, r21_138, r21_139, if_true, if_false, Nat.reduceAdd, Int32.reduceToNatClampNeg, lo_i, lo_r, lo_n, kont_v, kont_n, List.length_nil, List.length_cons, c185, z33, z34, z35, z36, e0, e1, e2, e3, show nt 6 = (6 : Int32) from rfl, k40, c45 k40, y1, nb_0]
      exact hg
    · rw [if_neg hl] at h
      have hg := h (scr (upR J 41 (phR J (J 41))) (phS J (J 41) (J 26, J 27))) (fun a h1 h2 h3 => by rw [scr_ne h1 h2, upR_ne h3]) (by rw [scr_ne (by decide) (by decide), upR_same])
      have y1 : bi (J 41 81 = 23 ∧ 300 ≤ J 41 82) = 0 := bi_f hl
      simp (config := {decide := true}) only [r21_0, r21_1, r21_4, r21_5, r21_8, r21_10, r21_11, r21_14, r21_15, r21_18 (a := 6) 123 rfl, r21_123, r21_124, r21_127, r21_130, r21_131, r21_132, r21_133, r21_134, r21_137, r21_138, r21_139, if_true, if_false, Nat.reduceAdd, Int32.reduceToNatClampNeg, lo_i, lo_r, lo_n, kont_v, kont_n, List.length_nil, List.length_cons, c185, z33, z34, z35, z36, e0, e1, e2, e3, show nt 6 = (6 : Int32) from rfl, k40, c45 k40, y1, g25 hC k40, nb_1]
      exact hg
end Wx

