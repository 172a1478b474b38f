/-! THE START: the first cells -/
def b1t (o : Option PM) : Bool := match o with
  | some μ => μ.2.2.2.1 == 70 && μ.2.2.2.2 == 0
  | none => false
set_option maxRecDepth 1000000 in
theorem boot1_ok : b1t boot1 = true := by decide +kernel
section Bw
variable {d n x : Nat} {s : PS} {f : Nat → Int32} {μ : PM} {Φ : POut → PM → Prop}
theorem prun_dd (k : Nat) {n d M pc : Nat} {ls st : List Value} {μ : PM} {r : POut × PM} (h : prun n d M pc ls st μ = some r) : prun n (d + k) M pc ls st μ = some r := by
  induction k with
  | zero => exact h
  | succ k ih => exact prun_d _ _ _ _ _ _ _ _ ih
theorem boot_get : ∃ μ2 μ4, prun 3000 30 130 0 (entL 130 [.ref (9 : Nat)]) [] (pal b9 (11, 18, fdef.getD 11 [])) = some (.inl none, μ2) ∧ (μ2.2.2.2.1 = 70 ∧ μ2.2.2.2.2 = 0) ∧ prun 4000 30 190 0 (entL 190 [.ref (70 : Nat)]) [] (pal μ2 (12, 43, fdef.getD 12 [])) = some (.inl none, μ4) ∧ bck (some (pal μ4 (21, 1, []))) = true := by
  have h1 := boot1_ok
  have h2 := boot_ok
  unfold boot2 at h2
  unfold boot1 at h1 h2
  cases hr : prun 3000 30 130 0 (entL 130 [.ref (9 : Nat)]) [] (pal b9 (11, 18, fdef.getD 11 [])) with
  | none => rw [hr] at h1; exact absurd (show false = true from h1) (by decide)
  | some r =>
    obtain ⟨o, μ2⟩ := r
    rw [hr] at h1 h2
    cases o with
    | inr k => exact absurd (show false = true from h1) (by decide)
    | inl v =>
      cases v with
      | some v => exact absurd (show false = true from h1) (by decide)
      | none =>
        have h1 : (μ2.2.2.2.1 == 70 && μ2.2.2.2.2 == 0) = true := h1
        rw [Bool.and_eq_true, beq_iff_eq, beq_iff_eq] at h1
        dsimp only at h2
        cases hq : prun 4000 30 190 0 (entL 190 [.ref (70 : Nat)]) [] (pal μ2 (12, 43, fdef.getD 12 [])) with
        | none => rw [hq] at h2; exact absurd (show false = true from h2) (by decide)
        | some r =>
          obtain ⟨o, μ4⟩ := r
          rw [hq] at h2
          cases o with
          | inr k => exact absurd (show false = true from h2) (by decide)
          | inl v =>
            cases v with
            | some v => exact absurd (show false = true from h2) (by decide)
            | none => exact ⟨μ2, μ4, rfl, h1, hq, h2⟩
theorem Q7_b9 : Q7 b9 := by
  refine ⟨rfl, Nat.le_refl 9, fun c hc => ?_⟩
  have e1 : b9.1 c = (99, 0, []) := by
    show shB.getD c (99, 0, []) = _
    rw [List.getD_eq_getElem?_getD, List.getElem?_eq_none (show shB.length ≤ c from hc)]
    rfl
  rw [e1]
  refine ⟨Nat.le_refl 0, fun j _ => ?_⟩
  show bI c j = 0
  unfold bI
  rw [if_neg (by omega), if_neg (by omega)]
theorem sh_hi {c : Nat} (h : 560 ≤ c) : sh0 0 c = (99, 0, []) := by
  have hl : (shL 0).length = 560 := by decide +kernel
  unfold sh0
  rw [List.getD_eq_getElem?_getD, List.getElem?_eq_none (by omega)]
  rfl
set_option maxRecDepth 100000 in
/-- what the first cells hold -/
theorem li_0 {μ : PM} (hQ : Q7 μ) (hb : bck (some μ) = true) (hlo : ∀ a, a < 9 → μ.2.1 a = bI a) : LI (upR μ.2.1 7 f) ∧ μ.2.2.2.1 = 560 ∧ μ.2.2.2.2 = 0 ∧ ∀ c, c < 560 → c ≠ 7 → μ.1 c = sh0 0 c := by
  unfold bck at hb
  simp only [Bool.and_eq_true, beq_iff_eq, List.all_eq_true, decide_eq_true_eq, Bool.or_eq_true] at hb
  obtain ⟨⟨t1, t2⟩, t3, t4, ⟨t5, t6⟩, t7, t8, t9⟩ := hb
  have hsh : ∀ c, c < 560 → c ≠ 7 → μ.1 c = sh0 0 c := fun c h1 h2 => (t3 c (List.mem_range.mpr h1)).resolve_left h2
  have hz : ∀ c, 9 ≤ c → c < 560 → ∀ j, (sh0 0 c).2.1 ≤ j → upR μ.2.1 7 f c j = 0 := fun c h1 h2 j hj => by
    rw [upR_ne (by omega)]
    exact (hQ.2.2 c h1).2 j (by rw [hsh c h2 (by omega)]; exact hj)
  have e0 : ∀ q, q ∈ [(12, 5), (12, 6), (70, 18), (70, 33), (70, 34), (70, 35), (70, 36), (70, 1), (10, 1), (9, 15), (9, 16), (9, 17), (72, 0), (72, 1), (44, 1), (46, 2), (37, 0), (37, 1), (64, 0), (74, 0), (74, 1), (14, 0), (14, 1), (14, 2), (14, 3), (14, 4), (14, 5), (14, 6)] → q.1 ≠ 7 → upR μ.2.1 7 f q.1 q.2 = 0 := fun q hq h7 => by rw [upR_ne h7]; exact t6 q hq
  have c0 : ∀ a k, (a, k) ∈ [(12, 5), (12, 6), (70, 18), (70, 33), (70, 34), (70, 35), (70, 36), (70, 1), (10, 1), (9, 15), (9, 16), (9, 17), (72, 0), (72, 1), (44, 1), (46, 2), (37, 0), (37, 1), (64, 0), (74, 0), (74, 1), (14, 0), (14, 1), (14, 2), (14, 3), (14, 4), (14, 5), (14, 6)] → a ≠ 7 → upR μ.2.1 7 f a k = 0 := fun a k h1 h2 => e0 (a, k) h1 h2
  have lo : ∀ a, a < 9 → a ≠ 7 → upR μ.2.1 7 f a = bI a := fun a h1 h2 => by rw [upR_ne h2]; exact hlo a h1
  have r41' : upR μ.2.1 7 f 41 = r41 := by
    funext j
    by_cases hj : j < 84
    · rw [upR_ne (by decide)]
      exact (t4 j (List.mem_range.mpr hj)).1
    · rw [hz 41 (by decide) (by decide) j (Nat.not_lt.mp hj)]
      unfold r41
      rw [if_neg (by omega), if_neg (by omega), if_neg (by omega)]
  have r534' : upR μ.2.1 7 f 534 = vc r41 := by
    funext j
    by_cases hj : j < 84
    · rw [upR_ne (by decide)]
      exact (t4 j (List.mem_range.mpr hj)).2
    · have h84 : 84 ≤ j := Nat.not_lt.mp hj
      rw [hz 534 (by decide) (by decide) j h84, vc_hi84 h84]
  have r25' : ∀ k, k < 9 → upR μ.2.1 7 f 25 k = plain k := fun k hk => by rw [upR_ne (by decide)]; exact t5 k (List.mem_range.mpr hk)
  have e24 : upR μ.2.1 7 f 24 3 = 9 := by rw [upR_ne (by decide)]; exact t7
  have e703 : upR μ.2.1 7 f 70 3 = -1 := by rw [upR_ne (by decide)]; exact t8
  have e106 : upR μ.2.1 7 f 10 6 = -1 := by rw [upR_ne (by decide)]; exact t9
  generalize upR μ.2.1 7 f = I at *
  have el : lnI I = 9 := by unfold lnI; rw [e24]; rfl
  have es : sI I = 0 := by unfold sI; rw [c0 12 5 (by decide) (by decide)]; rfl
  have ec : cI I = 0 := by unfold cI; rw [c0 12 6 (by decide) (by decide)]; rfl
  have hRO : RO I (I 41) := by
    unfold RO
    rw [es, ec, r41']
    refine ⟨?_, ?_, ?_, ?_, ?_, ?_, ?_⟩
    · intro c _ hc
      have : ∀ c : Fin 6, r41 c.1 = 0 ∧ r41 (6 + c.1) = -1 ∧ r41 (12 + c.1) = 0 := by decide
      exact this ⟨c, hc⟩
    · intro s _ hs
      have : ∀ s : Fin 7, r41 (60 + s.1) = -1 ∧ r41 (74 + s.1) = 0 := by decide
      exact this ⟨s, hs⟩
    · intro s hs
      have : ∀ s : Fin 7, r41 (60 + s.1) = -1 := by decide
      exact Or.inl (this ⟨s, hs⟩)
    · decide
    · intro c hc
      have : ∀ c : Fin 6, r41 (12 + c.1) = 0 := by decide
      exact Or.inl (this ⟨c, hc⟩)
    · intro c hc
      have : ∀ c : Fin 6, 0 ≤ r41 c.1 ∧ r41 c.1 ≤ 20 := by decide
      exact this ⟨c, hc⟩
    · intro c hc
      have : ∀ c : Fin 6, r41 (6 + c.1) = -1 := by decide
      exact Or.inl (this ⟨c, hc⟩)
  have hw : ∀ i : Nat, i < 3 → ∀ W : List Nat, (List.range W.length).all (fun k => decide ((sByt.getD i []).getD k 0 = nt (W.getD k 0))) = true → ∀ k, k < W.length → I (3 + i) k = nt (W.getD k 0) := by
    intro i hi W hW k hk
    rw [lo (3 + i) (by omega) (by omega)]
    unfold bI
    rw [if_neg (by omega), if_pos (by omega), show 3 + i - 3 = i by omega]
    exact of_decide_eq_true (List.all_eq_true.mp hW k (List.mem_range.mpr hk))
  refine ⟨⟨⟨⟨⟨⟨by rw [el, e24]; rfl, by rw [el]; exact wfs_plain r25'⟩, ⟨by rw [ec, c0 12 6 (by decide) (by decide)]; rfl, by omega⟩, ⟨by rw [es, c0 12 5 (by decide) (by decide)]; rfl, by omega⟩, fun s hs => by omega⟩, ⟨by rw [es, c0 74 0 (by decide) (by decide)]; rfl, by rw [ec, c0 74 1 (by decide) (by decide)]; rfl⟩, fun s hs => by omega, fun c hc => by omega, Or.inl ⟨c0 70 18 (by decide) (by decide), el, r25'⟩⟩, ⟨hRO, by rw [r534', r41']⟩, ⟨fun s hs => by omega, fun s _ hs => ?_⟩, ⟨0, by decide, c0 44 1 (by decide) (by decide), c0 70 34 (by decide) (by decide), fun i hi => by omega⟩, ⟨0, by decide, c0 46 2 (by decide) (by decide), c0 70 36 (by decide) (by decide), fun j hj => by omega⟩, ⟨0, fun _ => 0, fun _ => false, by decide, c0 70 33 (by decide) (by decide), fun k hk => by omega, fun k j hk => by omega, c0 37 0 (by decide) (by decide), c0 37 1 (by decide) (by decide)⟩, ⟨⟨0, by decide, c0 10 1 (by decide) (by decide), c0 70 1 (by decide) (by decide), fun k hk => by omega⟩, by rw [e703, e106]⟩, ⟨fun k hk => ?_, ⟨?_, ?_, ?_⟩, fun j hj => ⟨hz 41 (by decide) (by decide) j hj, hz 43 (by decide) (by decide) j hj, hz 67 (by decide) (by decide) j hj, hz 69 (by decide) (by decide) j hj, hz 535 (by decide) (by decide) j hj⟩, ?_, ?_, ?_, c0 64 0 (by decide) (by decide)⟩, by rw [c0 70 35 (by decide) (by decide), c0 9 15 (by decide) (by decide)]⟩, by rw [c0 72 0 (by decide) (by decide), c0 9 16 (by decide) (by decide)], by rw [c0 72 1 (by decide) (by decide), c0 9 17 (by decide) (by decide)]⟩, t1, t2, hsh⟩
  · have : s = 0 ∨ s = 1 ∨ s = 2 ∨ s = 3 ∨ s = 4 ∨ s = 5 ∨ s = 6 := by omega
    rcases this with rfl | rfl | rfl | rfl | rfl | rfl | rfl <;> exact c0 14 _ (by decide) (by decide)
  · rw [lo 6 (by decide) (by decide)]; exact if_pos rfl
  · rw [lo 0 (by decide) (by decide)]; rfl
  · rw [lo 1 (by decide) (by decide)]; rfl
  · rw [lo 2 (by decide) (by decide)]; rfl
  · exact hw 0 (by decide) wd0 (by decide +kernel)
  · exact hw 1 (by decide) wd1 (by decide +kernel)
  · exact hw 2 (by decide) wd2 (by decide +kernel)
theorem wpc_of {d M n : Nat} {as : List Value} {μ : PM} {Φ : POut → PM → Prop} {r : POut × PM} (h : prun n d M 0 (entL M as) [] μ = some r) (hq : Φ r.1 r.2) : wpc d M as μ Φ := ⟨n, r, h, hq⟩
set_option maxRecDepth 100000 in
theorem bootw (hgo : ∀ I L, LI I → I 7 = f → wp (d + 36) 362 23 [.ref (7 : Nat), .ref (9 : Nat), .ref (70 : Nat), .ref (559 : Nat), .int 0, noV, noV, noV] [] (mk n I L 0) Φ) : wpc (d + 36) 362 [.ref (7 : Nat)] (sub7 (20, n, []) f b9) Φ := by
  obtain ⟨μ2, μ4, h1, ⟨h2, h2x⟩, h3, h4⟩ := boot_get
  obtain ⟨a1, a2, a3⟩ := pal_7 (s := (20, n, [])) (f := f) (s0 := (11, 18, fdef.getD 11 [])) Q7_b9 (by decide)
  obtain ⟨b1, b2, b3⟩ := prun_7 (s := (20, n, [])) (f := f) _ _ _ _ _ _ _ _ h1 a2
  obtain ⟨c1, c2, c3⟩ := pal_7 (s := (20, n, [])) (f := f) (s0 := (12, 43, fdef.getD 12 [])) b2 (by decide)
  obtain ⟨d1, d2, d3⟩ := prun_7 (s := (20, n, [])) (f := f) _ _ _ _ _ _ _ _ h3 c2
  obtain ⟨e1, e2, e3⟩ := pal_7 (s := (20, n, [])) (f := f) (s0 := (21, 1, [])) d2 (Nat.zero_le 1)
  have k1 : KL b9 (pal b9 (11, 18, fdef.getD 11 [])) := pal_lo (Nat.le_refl 9)
  have k2 := prun_lo _ _ _ _ _ _ _ _ h1 k1.1
  have k3 : KL μ2 (pal μ2 (12, 43, fdef.getD 12 [])) := pal_lo b2.2.1
  have k4 := prun_lo _ _ _ _ _ _ _ _ h3 k3.1
  have k5 : KL μ4 (pal μ4 (21, 1, [])) := pal_lo d2.2.1
  have kk := KL_tr (KL_tr (KL_tr (KL_tr k1 k2) k3) k4) k5
  obtain ⟨g1, g2, g3, g4⟩ := li_0 (f := f) e2 h4 (fun a ha => kk.2 a ha)
  have hh : HI b9 (pal μ4 (21, 1, [])) := HI_tr (HI_tr (HI_tr (HI_tr a3 b3) c3) d3) e3
  have t4 : μ4.2.2.2.1 = 559 := by
    have : μ4.2.2.2.1 + 1 = 560 := g2
    omega
  have x4 : μ4.2.2.2.2 = 0 := g3
  have hmk : sub7 (20, n, []) f (pal μ4 (21, 1, [])) = mk n (upR (pal μ4 (21, 1, [])).2.1 7 f) (pal μ4 (21, 1, [])).2.2.1 0 := by
    have hs : upR (pal μ4 (21, 1, [])).1 7 (20, n, []) = sh0 n := by
      funext c
      by_cases h7 : c = 7
      · subst h7
        rw [upR_same]
        rfl
      · rw [upR_ne h7, sh0_not7 h7]
        by_cases hc : c < 560
        · exact g4 c hc h7
        · rw [sh_hi (by omega), hh.2 c (by rw [g2]; omega)]
          show shB.getD c (99, 0, []) = _
          rw [List.getD_eq_getElem?_getD, List.getElem?_eq_none (show 9 ≤ c by omega)]
          rfl
    unfold sub7 mk
    rw [hs]
    have hp : (pal μ4 (21, 1, [])).2.2 = ((pal μ4 (21, 1, [])).2.2.1, 560, 0) := by
      rw [← g2, ← g3]
    rw [hp]
  have hfin := hgo _ (pal μ4 (21, 1, [])).2.2.1 g1 (upR_same _ _ _)
  rw [← hmk] at hfin
  show wp (d + 36) 362 0 [.ref (7 : Nat), noV, noV, noV, noV, noV, noV, noV] [] (sub7 (20, n, []) f b9) Φ
  refine (wp_go (i := .new 11) (len := 3) (idx := 8) (pc' := 3) (ls' := [.ref (7 : Nat), noV, noV, noV, noV, noV, noV, noV]) (st' := [.ref (9 : Nat)]) (μ' := sub7 (20, n, []) f (pal b9 (11, 18, fdef.getD 11 []))) (by decide +kernel) rfl rfl ?_).mpr ?_
  · rw [← a1]
    show (if 11 < 13 ∧ 0 = 0 ∧ 9 + 1 ≤ capT then pnx _ _ (.ref (9 : Nat) :: _) _ else none) = _
    rfl
  rw [r362_3]
  refine (wp_call (M' := 130) (as := [.ref (9 : Nat)]) (rest := [.ref (9 : Nat)]) (len := 3) (idx := 116) (i := .invokespecial 130) (by decide +kernel) (pcl_7 a2 (by decide +kernel))).mpr ?_
  have qb1 := prun_dd (d + 5) b1
  rw [show 30 + (d + 5) = d + 35 by omega] at qb1
  refine wpc_of qb1 ?_
  show wp (d + 35 + 1) 362 (4 + 3) [.ref (7 : Nat), noV, noV, noV, noV, noV, noV, noV] [.ref (9 : Nat)] (sub7 (20, n, []) f μ2) Φ
  rw [r362_7 (lo_r _)]
  refine (wp_go (i := .new 12) (len := 3) (idx := 117) (pc' := 11) (ls' := [.ref (7 : Nat), .ref (9 : Nat), noV, noV, noV, noV, noV, noV]) (st' := [.ref (70 : Nat)]) (μ' := sub7 (20, n, []) f (pal μ2 (12, 43, fdef.getD 12 []))) (by decide +kernel) rfl rfl ?_).mpr ?_
  · rw [← c1]
    have hx' : (sub7 (20, n, []) f μ2).2.2.2.2 = 0 := h2x
    have ht' : (sub7 (20, n, []) f μ2).2.2.2.1 = 70 := h2
    show pst _ _ _ _ _ (sub7 (20, n, []) f μ2) = some (11, [.ref (7 : Nat), .ref (9 : Nat), noV, noV, noV, noV, noV, noV], [.ref (70 : Nat)], pal (sub7 (20, n, []) f μ2) _)
    generalize sub7 (20, n, []) f μ2 = m at hx' ht' ⊢
    show (if 12 < 13 ∧ m.2.2.2.2 = 0 ∧ m.2.2.2.1 + 1 ≤ capT then pnx _ _ (.ref m.2.2.2.1 :: _) _ else none) = _
    rw [if_pos ⟨by decide, hx', by rw [ht']; decide⟩, ht']
    rfl
  rw [r362_11]
  refine (wp_call (M' := 190) (as := [.ref (70 : Nat)]) (rest := [.ref (70 : Nat)]) (len := 3) (idx := 119) (i := .invokespecial 190) (by decide +kernel) (pcl_7 c2 ?_)).mpr ?_
  · have hk : ((pal μ2 (12, 43, fdef.getD 12 [])).1 70).1 = 12 := by
      show (upR μ2.1 μ2.2.2.2.1 (12, 43, fdef.getD 12 []) 70).1 = 12
      rw [h2, upR_same]
    have ht : (pal μ2 (12, 43, fdef.getD 12 [])).2.2.2.1 = 71 := by
      show μ2.2.2.2.1 + 1 = 71
      rw [h2]
    have hr : okRecv (pal μ2 (12, 43, fdef.getD 12 [])) 190 (some (.ref (70 : Nat))) = true := by
      show (((pal μ2 (12, 43, fdef.getD 12 [])).1 70).1 == mOwn 190 && Nat.blt 70 (pal μ2 (12, 43, fdef.getD 12 [])).2.2.2.1) = true
      rw [hk, ht]
      decide +kernel
    exact if_pos ⟨by decide +kernel, by decide +kernel, by decide +kernel, by decide +kernel, by decide +kernel, hr⟩
  have qd1 := prun_dd (d + 5) d1
  rw [show 30 + (d + 5) = d + 35 by omega] at qd1
  refine wpc_of qd1 ?_
  show wp (d + 35 + 1) 362 (12 + 3) [.ref (7 : Nat), .ref (9 : Nat), noV, noV, noV, noV, noV, noV] [.ref (70 : Nat)] (sub7 (20, n, []) f μ4) Φ
  rw [r362_15 (lo_r _), r362_16]
  refine (wp_go (i := .newarray .long) (len := 2) (idx := 0) (pc' := 19) (ls' := [.ref (7 : Nat), .ref (9 : Nat), .ref (70 : Nat), noV, noV, noV, noV, noV]) (st' := [.ref (559 : Nat)]) (μ' := sub7 (20, n, []) f (pal μ4 (21, 1, []))) (by decide +kernel) rfl rfl ?_).mpr ?_
  · rw [← e1]
    have hx' : (sub7 (20, n, []) f μ4).2.2.2.2 = 0 := x4
    have ht' : (sub7 (20, n, []) f μ4).2.2.2.1 = 559 := t4
    show pst _ _ _ _ _ (sub7 (20, n, []) f μ4) = some (19, [.ref (7 : Nat), .ref (9 : Nat), .ref (70 : Nat), noV, noV, noV, noV, noV], [.ref (559 : Nat)], pal (sub7 (20, n, []) f μ4) _)
    generalize sub7 (20, n, []) f μ4 = m at hx' ht' ⊢
    show (if (ClassFile.ArrayType.long = .int ∨ ClassFile.ArrayType.long = .long) ∧ m.2.2.2.2 = 0 ∧ m.2.2.2.1 + 1 ≤ capT ∧ ¬ (1 : Int32) < 0 ∧ (1 : Int32).toNatClampNeg ≤ 1500 then pnx _ _ (.ref m.2.2.2.1 :: _) _ else none) = _
    rw [if_pos ⟨by decide, hx', by rw [ht']; decide, by decide, by decide⟩, ht']
    rfl
  rw [r362_19 (lo_r _), r362_20, r362_21 (lo_r _)]
  exact hfin
end Bw

