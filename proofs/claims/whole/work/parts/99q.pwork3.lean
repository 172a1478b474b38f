/-! WORK: the pair -/
section Wr
variable {d n x N z : Nat} {I J K G : Nat → Nat → Int32} {L : Nat → Nat → Int64} {v : Int32}
theorem cpy_out {f g : Nat → Int32} {sp dp m j : Nat} (h : j < dp ∨ dp + m ≤ j) : va_cpy f g sp dp m j = g j := by
  unfold va_cpy
  rw [if_neg (by omega)]
theorem pw134 {hs : Nat → Nat → Prop} (h21 : hs 2 1) (hx : x + 1 ≤ 600) (hI : LI I) : PW (d + 34) 134 252 [.int v] hs n I L x := by
  obtain ⟨⟨z, z1, z2, z3, z4⟩, z5⟩ := hI.1.2.2.2.2.2.2.1
  by_cases hv : 0 ≤ v ∧ v ≤ 150 ∧ v ≤ I 10 1
  · obtain ⟨ev, hl⟩ := int_nt hv.1
    obtain ⟨N, hN⟩ : ∃ N, N = v.toNatClampNeg := ⟨_, rfl⟩
    rw [← hN] at ev hl
    subst ev
    have h150 : N ≤ 150 := by
      have := hv.2.1
      rw [show (150 : Int32) = nt 150 from rfl, nt_le (by omega) (by decide)] at this
      exact this
    have hNz : N ≤ z := by
      have := hv.2.2
      rw [z2, nt_le (by omega) (by omega)] at this
      exact this
    have h71 : ∀ i, i < N → I 71 i = I 11 i := fun i hi => (z4 i (by omega)).1
    have hB : ∀ i, i < N → 0 ≤ I 11 i ∧ I 11 i < 256 := fun i hi => (z4 i (by omega)).2
    obtain ⟨w, w16, w1, w2, w3⟩ := hI.1.2.2.2.1
    obtain ⟨hM, hR, hV, hW, hA, hBB, hT, hK, hNN⟩ := hI.1
    refine Or.inl ?_
    by_cases hfull : w = 16
    · subst hfull
      obtain ⟨o, μ', ⟨J, rfl, rfl, j1, j4, j5⟩, hc⟩ := cres_of (c134f (d := d) (n := n) (L := L) (I := I) (Φ := fun o μ' => ∃ J, o = .inl (some (.int (-20))) ∧ μ' = mk n J L x ∧ (∀ r, r ≠ 10 → J r = I r) ∧ J 10 1 = 0 ∧ J 10 6 = -1) hx z2 z1 hNz h150 w1 (fun J a1 a4 a5 => ⟨J, rfl, rfl, a1, a4, a5⟩))
      refine ⟨_, J, hc, fun L1 => ?_⟩
      have j70 : J 70 = I 70 := j1 70 (by decide)
      refine ⟨wrI (wrI (wrI J 70 0 0) 70 1 0) 70 3 (-1), L1, rfl, fun Φ h => (m252f (by rw [j70]; exact z3) z1 hNz h150 (by rw [j70]; exact w2)).mpr h, by rw [wr_k (by decide), wr_k (by decide), wr_eq], ?_⟩
      have ki : ∀ r, r ≠ 10 → r ≠ 70 → wrI (wrI (wrI J 70 0 0) 70 1 0) 70 3 (-1) r = I r := fun r a1 a2 => by rw [wrI_ne a2, wrI_ne a2, wrI_ne a2]; exact j1 r a1
      refine li_txt hI ⟨fun a h1 h2 h3 h4 h5 => ki a h4 h3, fun k h1 h2 => ?_⟩ ⟨fun j _ => by rw [ki 43 (by decide) (by decide), ki 67 (by decide) (by decide), ki 69 (by decide) (by decide), ki 535 (by decide) (by decide)]; exact ⟨rfl, rfl, rfl, rfl⟩, by rw [ki 64 (by decide) (by decide)]⟩ ?_ ?_ ?_ (ki 9 (by decide) (by decide)) (ki 72 (by decide) (by decide))
      · simp only [Bool.or_eq_false_iff, beq_eq_false_iff_ne] at h1
        have h0 : k ≠ 0 := fun e => by subst e; exact absurd h2 (by decide)
        rw [wr_k h1.2, wr_k h1.1, wr_k h0, j70]
      · rw [wrI_ne (by decide), wrI_ne (by decide), wrI_ne (by decide)]; exact j4
      · rw [wr_k (by decide), wr_eq]
      · rw [wr_eq, wrI_ne (by decide), wrI_ne (by decide), wrI_ne (by decide), j5]
    have hw16 : w < 16 := by omega
    cases hr : rWk (I 11) N (sI I) (cI I) with
    | inl r =>
      obtain ⟨τ, p'⟩ := r
      obtain ⟨h30, hokI⟩ := rWk_ok (inv_s7 hI.1) (inv_c6 hI.1) h150 hr
      obtain ⟨o, μ', ⟨J, rfl, rfl, j1, j2, j3, j4, j5, j6, j7, j8⟩, hc⟩ := cres_of (c134a (d := d) (n := n) (L := L) (Φ := fun o μ' => ∃ J, o = .inl (some (.int (nt (wrS I τ).2.2.1))) ∧ μ' = mk n J L x ∧ (∀ r, r ≠ 9 → r ≠ 10 → r ≠ 26 → r ≠ 27 → (r < 32 ∨ 36 < r) → r ≠ 41 → r ≠ 44 → r ≠ 45 → J r = I r) ∧ J 41 = (wrS I τ).1 ∧ J 44 1 = nt (w + 1) ∧ J 45 = va_cpy (I 41) (I 45) 0 (84 * w) 84 ∧ J 9 15 = nt (wrS I τ).2.2.2 ∧ (∀ i, i ≠ 15 → J 9 i = I 9 i) ∧ J 10 1 = 0 ∧ J 10 6 = -1) hx hI z2 z1 hNz h150 w1 hw16 hr (fun J a1 a2 a3 a4 a5 a6 a7 a8 => ⟨J, rfl, rfl, a1, a2, a3, a4, a5, a6, a7, a8⟩))
      refine ⟨_, J, hc, fun L1 => ?_⟩
      have jI : ∀ r, (r ≠ 9 ∧ r ≠ 10 ∧ r ≠ 26 ∧ r ≠ 27 ∧ (r < 32 ∨ 36 < r) ∧ r ≠ 41 ∧ r ≠ 44 ∧ r ≠ 45) → J r = I r := fun r h => j1 r h.1 h.2.1 h.2.2.1 h.2.2.2.1 h.2.2.2.2.1 h.2.2.2.2.2.1 h.2.2.2.2.2.2.1 h.2.2.2.2.2.2.2
      have j70 : J 70 = I 70 := jI 70 (by decide)
      have j12 : J 12 = I 12 := jI 12 (by decide)
      have hMJ : MI J := by
        have ok : okc (fun a => a == 41 || (a == 44 || a == 45)) (fun _ => false) I J := by
          refine ⟨fun a e1 e2 e3 e4 e5 => ?_, fun k e1 e2 => by rw [j70]⟩
          simp only [Bool.or_eq_false_iff, beq_eq_false_iff_ne] at e1
          unfold scrR at e2
          rw [decide_eq_false_iff_not] at e2
          exact jI a ⟨e5, e4, by omega, by omega, by omega, e1.1, e1.2.1, e1.2.2⟩
        exact kM ok (by decide +kernel) rfl hM
      have es : sI J = sI I := by unfold sI; rw [j12]
      have ecI : cI J = cI I := by unfold cI; rw [j12]
      have hphi : phR J = phR I := phR_cg j12 (jI 13 (by decide)) (jI 15 (by decide)) (jI 24 (by decide)) (jI 25 (by decide))
      have hrJ : rWk (I 11) N (sI J) (cI J) = .inl (τ, p') := by rw [es, ecI]; exact hr
      have hwr : runI (phR J) τ.2 τ.1 0 τ.1 (I 41, 0, 0, 0) = wrS I τ := by rw [hphi]; rfl
      obtain ⟨o, μ', ⟨K, rfl, rfl, k1, k2, k3, k4, k5, k6, k7, k8, k9, k10⟩, hm⟩ := cres_of (m252a (d := d) (n := n) (x := x) (L := L1) (J := J) (B := I 11) (f0 := I 41) (Φ := fun o μ' => ∃ K, o = .inl (some (.int (nt (wrS I τ).2.2.1))) ∧ μ' = mk n K L1 x ∧ (∀ r, r ≠ 70 → (r < 451 ∨ 536 < r) → r ≠ 538 + w → K r = J r) ∧ K 535 = J 535 ∧ K 534 = vc (wrS I τ).1 ∧ (∀ k, k < 84 → K (538 + w) k = J 534 k) ∧ K 70 0 = 0 ∧ K 70 1 = 0 ∧ K 70 3 = -1 ∧ K 70 34 = nt (w + 1) ∧ K 70 35 = nt (wrS I τ).2.2.2 ∧ (∀ i, 9 ≤ i → i ≠ 27 → i ≠ 34 → i ≠ 35 → i ≠ 38 → i ≠ 39 → i ≠ 40 → K 70 i = J 70 i)) hMJ (kRO j12 hR.1) (by rw [jI 534 (by decide)]; exact hR.2) (by rw [j70]; exact z3) z1 hNz h150 (by rw [jI 71 (by decide)]; exact h71) hB (by rw [j70]; exact w2) hw16 hrJ (fun K a1 a2 a3 a4 a5 a6 a7 a8 a9 a10 => by rw [hwr] at a3 a9 ⊢; exact ⟨K, rfl, rfl, a1, a2, a3, a4, a5, a6, a7, a8, a9, a10⟩))
      refine ⟨K, L1, rfl, hm, k5, ?_⟩
      have ki : ∀ r, (r ≠ 70 ∧ (r < 451 ∨ 553 < r) ∧ r ≠ 9 ∧ r ≠ 10 ∧ r ≠ 26 ∧ r ≠ 27 ∧ (r < 32 ∨ 36 < r) ∧ r ≠ 41 ∧ r ≠ 44 ∧ r ≠ 45) → K r = I r := fun r h => by rw [k1 r h.1 (by omega) (by omega), jI r h.2.2]
      have k537 : K 537 = I 537 := by rw [k1 537 (by decide) (by decide) (by omega), jI 537 (by decide)]
      have ok : okc (fun a => (a == 41 || (a == 44 || a == 45)) || decide (534 ≤ a ∧ a ≤ 553)) (fun k => k == 1 || (k == 3 || (k == 34 || k == 35))) I K := by
        refine ⟨fun a e1 e2 e3 e4 e5 => ?_, fun k e1 e2 => ?_⟩
        · simp only [Bool.or_eq_false_iff, beq_eq_false_iff_ne, decide_eq_false_iff_not] at e1
          unfold scrR at e2
          rw [decide_eq_false_iff_not] at e2
          exact ki a ⟨e3, by omega, e5, e4, by omega, by omega, by omega, e1.1.1, e1.1.2.1, e1.1.2.2⟩
        · simp only [Bool.or_eq_false_iff, beq_eq_false_iff_ne] at e1
          have h9 : 9 ≤ k ∧ k ≠ 27 ∧ k ≠ 38 ∧ k ≠ 39 ∧ k ≠ 40 := by
            have : ∀ k, k < 41 → k < 9 ∨ k = 27 ∨ k = 38 ∨ k = 39 ∨ k = 40 → k ≠ 1 → k ≠ 3 → vis 70 k = false := by decide
            by_cases hk : k < 41
            · by_cases hc : k < 9 ∨ k = 27 ∨ k = 38 ∨ k = 39 ∨ k = 40
              · rw [this k hk hc e1.1 e1.2.1] at e2
                exact absurd e2 (by decide)
              · omega
            · omega
          rw [k10 k h9.1 h9.2.1 e1.2.2.1 e1.2.2.2 h9.2.2.1 h9.2.2.2.1 h9.2.2.2.2, j70]
      have sp : spc I K := ⟨fun j _ => by rw [ki 43 (by decide), ki 67 (by decide), ki 69 (by decide), k2, jI 535 (by decide)]; exact ⟨rfl, rfl, rfl, rfl⟩, by rw [ki 64 (by decide)]⟩
      have kJ : ∀ r, r < 451 → r ≠ 70 → K r = J r := fun r a1 a2 => k1 r a2 (by omega) (by omega)
      have k41 : K 41 = (wrS I τ).1 := by rw [kJ 41 (by decide) (by decide)]; exact j2
      have k12 : K 12 = I 12 := ki 12 (by decide)
      have k72 : K 72 = I 72 := ki 72 (by decide)
      have k9' : K 9 = J 9 := kJ 9 (by decide) (by decide)
      have k10' : K 10 = J 10 := kJ 10 (by decide) (by decide)
      have k45 : K 45 = va_cpy (I 41) (I 45) 0 (84 * w) 84 := by rw [kJ 45 (by decide) (by decide)]; exact j4
      have hro : RO I (wrS I τ).1 := runI_P (Q := fun f => RO I f) (fun r f q1 q2 q3 => doK_RO q1 (inv_c6 hI.1) (inv_s7 hI.1) q2 q3) _ _ _ _ _ hokI hR.1
      have hhi : ∀ j, 84 ≤ j → (wrS I τ).1 j = 0 := runI_P (Q := fun f => ∀ j, 84 ≤ j → f j = 0) (fun r f q1 q2 q3 j hj => by rw [doK_hi q1 (inv_c6 hI.1) (inv_s7 hI.1) q2 hj]; exact q3 j hj) _ _ _ _ _ hokI (fun j hj => hi41 hI.1 j hj)
      have lo45 : ∀ i, i < w → ∀ k, k < 84 → K 45 (84 * i + k) = I 45 (84 * i + k) := fun i hi k hk => by rw [k45]; exact cpy_out (Or.inl (by omega))
      have at45 : ∀ k, k < 84 → K 45 (84 * w + k) = I 41 k := fun k hk => by
        rw [k45, cpy_at (by omega)]
        congr 1
        omega
      refine ⟨⟨kM ok (by decide +kernel) rfl hM, ⟨by rw [k41]; exact kRO k12 hro, by rw [k3, k41]⟩, kV ok (by decide) hV, ⟨w + 1, by omega, by rw [kJ 44 (by decide) (by decide)]; exact j3, k8, fun i hi => ?_⟩, kA ok (by decide) rfl hA, kB ok (by decide) rfl hBB, ⟨⟨0, by decide, by rw [k10', j7]; rfl, k6, fun k hk => absurd hk (by omega)⟩, by rw [k7, k10', j8]⟩, kK ok sp (by decide) (fun j hj => by rw [k41]; exact hhi j hj) hK, ?_⟩, ?_, ?_⟩
      · by_cases hiw : i < w
        · obtain ⟨y1, y2⟩ := w3 i hiw
          refine ⟨kRO k12 (RO_ext (fun j hj => (lo45 i hiw j hj).symm) y1), fun k hk => ?_⟩
          show K (538 + i) k = _
          have y3 : I (538 + i) k = vc (fun k => I 45 (84 * i + k)) k := y2 k hk
          rw [k1 (538 + i) (by omega) (by omega) (by omega), jI (538 + i) ⟨by omega, by omega, by omega, by omega, by omega, by omega, by omega, by omega⟩, y3]
          exact congrFun (vc_ext (fun j hj => (lo45 i hiw j hj).symm)) k
        · have hiw : i = w := by omega
          subst hiw
          refine ⟨kRO k12 (RO_ext (fun j hj => (at45 j hj).symm) hR.1), fun k hk => ?_⟩
          show K (538 + i) k = _
          rw [k4 k hk, jI 534 (by decide), hR.2]
          exact congrFun (vc_ext (fun j hj => (at45 j hj).symm)) k
      · rw [k9, k9', j5]
      · rw [k72, k9', j6 16 (by decide)]; exact hI.2.1
      · rw [k72, k9', j6 17 (by decide)]; exact hI.2.2
    | inr e =>
      obtain ⟨o, μ', ⟨J, rfl, rfl, e1, e2, j1, j4, j5⟩, hc⟩ := cres_of (c134b (d := d) (n := n) (L := L) (Φ := fun o μ' => ∃ J, o = .inl (some (.int (nt e.1 - 10))) ∧ μ' = mk n J L x ∧ e.1 ≠ 0 ∧ e.1 < 10 ∧ (∀ r, r ≠ 10 → (r < 32 ∨ 36 < r) → J r = I r) ∧ J 10 1 = 0 ∧ J 10 6 = nt e.2) hx hI z2 z1 hNz h150 w1 hw16 hr (fun b1 b2 J a1 a4 a5 => ⟨J, rfl, rfl, b1, b2, a1, a4, a5⟩))
      refine ⟨_, J, hc, fun L1 => ?_⟩
      have j70 : J 70 = I 70 := j1 70 (by decide) (by decide)
      have j74 : J 74 = I 74 := j1 74 (by decide) (by decide)
      obtain ⟨o, μ', ⟨K, rfl, rfl, k1, k3, k4, k5, k7⟩, hm⟩ := cres_of (m252b (d := d) (n := n) (x := x) (L := L1) (J := J) (B := I 11) (sn := sI I) (cn := cI I) (Φ := fun o μ' => ∃ K, o = .inl (some (.int (nt e.1 - 10))) ∧ μ' = mk n K L1 x ∧ (∀ r, r ≠ 70 → (r < 454 ∨ 533 < r) → K r = J r) ∧ K 70 0 = 0 ∧ K 70 1 = 0 ∧ K 70 3 = nt e.2 ∧ (∀ i, 9 ≤ i → i ≠ 27 → K 70 i = J 70 i)) (by rw [j70]; exact z3) z1 hNz h150 (by rw [j1 71 (by decide) (by decide)]; exact h71) hB (by rw [j70]; exact w2) hw16 (by rw [j74]; exact hM.2.1.1) (by rw [j74]; exact hM.2.1.2) (inv_s7 hI.1) (inv_c6 hI.1) hr (fun K a1 a3 a4 a5 a7 => ⟨K, rfl, rfl, a1, a3, a4, a5, a7⟩))
      refine ⟨K, L1, rfl, hm, k3, ?_⟩
      have ki : ∀ r, (r ≠ 70 ∧ (r < 454 ∨ 533 < r) ∧ r ≠ 10 ∧ (r < 32 ∨ 36 < r)) → K r = I r := fun r h => by rw [k1 r h.1 h.2.1, j1 r h.2.2.1 h.2.2.2]
      refine li_txt hI ⟨fun a h1 h2 h3 h4 h5 => ?_, fun k h1 h2 => ?_⟩ ⟨fun j _ => by rw [ki 43 (by decide), ki 67 (by decide), ki 69 (by decide), ki 535 (by decide)]; exact ⟨rfl, rfl, rfl, rfl⟩, by rw [ki 64 (by decide)]⟩ (by rw [k1 10 (by decide) (by decide)]; exact j4) k4 (by rw [k5, k1 10 (by decide) (by decide), j5]) (ki 9 (by decide)) (ki 72 (by decide))
      · unfold scrR at h2
        rw [decide_eq_false_iff_not] at h2
        exact ki a ⟨h3, by omega, h4, by omega⟩
      · simp only [Bool.or_eq_false_iff, beq_eq_false_iff_ne] at h1
        have h9 : 9 ≤ k ∧ k ≠ 27 := by
          have : ∀ k, k < 28 → k < 9 ∨ k = 27 → k ≠ 1 → k ≠ 3 → vis 70 k = false := by decide
          by_cases hk : k < 28
          · by_cases hc : k < 9 ∨ k = 27
            · rw [this k hk hc h1.1 h1.2] at h2
              exact absurd h2 (by decide)
            · omega
          · omega
        rw [k7 k h9.1 h9.2, j70]
  · refine pw_exc h21 hI (fun Φ h => (c134x hx hv).mpr h) (fun Φ h => (m252x ?_).mpr h)
    rw [wrI_ne (by decide), z3, ← z2]
    exact hv
end Wr

