/-! A REPUBLIC: the pair -/
section Pe
variable {d n x : Nat} {I J K : Nat → Nat → Int32} {L : Nat → Nat → Int64} {v : Int32}
theorem vis9 : ∀ k, k < 9 → k ≠ 1 → k ≠ 3 → vis 70 k = false := by decide
theorem pw132 {hs : Nat → Nat → Prop} (h21 : hs 2 1) (hx : x + 1 ≤ 600) (hI : LI I) : PW (d + 12) 132 219 [.int v] hs n I L x := by
  obtain ⟨⟨z, z1, z2, z3, z4⟩, z5⟩ := hI.1.2.2.2.2.2.2.1
  by_cases hv : 0 ≤ v ∧ v ≤ 600 ∧ v ≤ I 10 1
  · obtain ⟨ev, hl⟩ := int_nt hv.1
    obtain ⟨N, hN⟩ : ∃ N, N = v.toNatClampNeg := ⟨_, rfl⟩
    rw [← hN] at ev hl
    subst ev
    have hNz : N ≤ z := by
      have := hv.2.2
      rw [z2, nt_le (by omega) (by omega)] at this
      exact this
    have h71 : ∀ i, i < N → I 71 i = I 11 i := fun i hi => (z4 i (by omega)).1
    have hB : ∀ i, i < N → 0 ≤ I 11 i ∧ I 11 i < 256 := fun i hi => (z4 i (by omega)).2
    refine Or.inl ?_
    cases hr : rRp (I 11) N 61 0 sg0r 0 with
    | inl r =>
      obtain ⟨τ, p'⟩ := r
      have ho := rRp_ok 61 0 sg0r 0 τ p' okR_0 hr
      obtain ⟨o, μ', ⟨J, rfl, rfl, j1, j2, j3, j4, j5, j6, j7, j8, j9, j10, j11, j12, j13, j14, j15, j16, j17⟩, hc⟩ := cres_of (c132a (d := d) (n := n) (L := L) (Φ := fun o μ' => ∃ J, o = .inl (some (.int (nt τ.1))) ∧ μ' = mk n J L x ∧ (∀ r, (r < 9 ∨ r = 11 ∨ r = 40 ∨ r = 42 ∨ r = 43 ∨ r = 45 ∨ 46 < r ∨ (25 < r ∧ r < 37) ∨ r = 38 ∨ r = 39) → J r = I r) ∧ (J 12 5 = nt τ.1 ∧ J 12 6 = nt τ.2.1) ∧ (∀ k, k < 7 → J 13 k = nt (τ.2.2 0 k)) ∧ (∀ k, k < 7 → J 14 k = nt (τ.2.2 1 k)) ∧ (∀ k, k < 6 → J 15 k = nt (τ.2.2 2 k)) ∧ (∀ j, j < 84 → J 41 j = frT τ j) ∧ (∀ j, 84 ≤ j → J 41 j = I 41 j) ∧ J 24 3 = 9 ∧ (∀ k, k < 9 → J 25 k = I 6 k) ∧ J 37 0 = 0 ∧ J 37 1 = 0 ∧ J 44 1 = 0 ∧ J 46 2 = 0 ∧ J 9 15 = 0 ∧ (∀ i, i ≠ 15 → J 9 i = I 9 i) ∧ J 10 1 = 0 ∧ J 10 6 = -1) hx hI z2 z1 hNz hr (fun J a1 a2 a3 a4 a5 a6 a7 a8 a9 a10 a11 a12 a13 a14 a15 a16 a17 => ⟨J, rfl, rfl, a1, a2, a3, a4, a5, a6, a7, a8, a9, a10, a11, a12, a13, a14, a15, a16, a17⟩))
      refine ⟨_, J, hc, fun L1 => ?_⟩
      obtain ⟨o, μ', ⟨K, rfl, rfl, k1, k2, k3, k4, k5, k6, k7, k8, k9, k10⟩, hm⟩ := cres_of (m219a (d := d) (n := n) (x := x) (L := L1) (J := J) (B := I 11) (Φ := fun o μ' => ∃ K, o = .inl (some (.int (nt τ.1))) ∧ μ' = mk n K L1 x ∧ (∀ r, r ≠ 70 → r ≠ 534 → r ≠ 74 → mset r = false → (r < 84 ∨ 90 < r) → (r < 99 ∨ 104 < r) → K r = J r) ∧ (K 74 0 = nt τ.1 ∧ K 74 1 = nt τ.2.1) ∧ (∀ k, k < τ.1 → K (84 + k) 0 = nt (τ.2.2 0 k) ∧ K (84 + k) 1 = nt (τ.2.2 1 k)) ∧ (∀ k, k < τ.2.1 → K (99 + k) 0 = nt (τ.2.2 2 k)) ∧ (∀ j, j < 84 → K 534 j = if j = 81 then nt (τ.2.2 5 0) else fE (fun i => nt (τ.2.2 4 i)) (fun c => nt (τ.2.2 3 c)) τ.2.1 6 j) ∧ (∀ j, 84 ≤ j → K 534 j = J 534 j) ∧ (K 70 18 = 0 ∧ K 70 33 = 0 ∧ K 70 34 = 0 ∧ K 70 35 = 0 ∧ K 70 36 = 0) ∧ K 70 0 = 0 ∧ K 70 1 = 0 ∧ K 70 3 = -1) (by rw [j1 70 (by omega)]; exact z3) z1 hNz (by rw [j1 71 (by omega)]; exact h71) hB hr (fun K a1 a2 a3 a4 a5 a6 a7 a8 a9 a10 => ⟨K, rfl, rfl, a1, a2, a3, a4, a5, a6, a7, a8, a9, a10⟩))
      refine ⟨K, L1, rfl, hm, k8, ?_⟩
      have kJ : ∀ r, r < 70 → K r = J r := fun r h => k1 r (by omega) (by omega) (by omega) (decide_eq_false (by omega)) (by omega) (by omega)
      have k12 : K 12 = J 12 := kJ 12 (by decide)
      have es : sI K = τ.1 := by unfold sI; rw [k12, j2.1, nt_clamp (by have := ho.1.1; omega)]
      have ec : cI K = τ.2.1 := by unfold cI; rw [k12, j2.2, nt_clamp (by have := ho.1.2; omega)]
      have el : lnI K = 9 := by unfold lnI; rw [kJ 24 (by decide), j8]; rfl
      have ep : ∀ k, k < 9 → K 25 k = plain k := fun k hk => by rw [kJ 25 (by decide), j9 k hk]; exact hI.1.2.2.2.2.2.2.2.1.1 k hk
      obtain ⟨hM, hR, hV, hW, hA, hBB, hT, hK, hNN⟩ := hI.1
      have hRO : RO K (K 41) := frT_RO ho es ec (fun j hj => by rw [kJ 41 (by decide)]; exact j6 j hj)
      refine ⟨⟨⟨⟨⟨by rw [el, kJ 24 (by decide)]; exact j8, by rw [el]; exact wfs_plain ep⟩, ⟨by rw [ec, k12]; exact j2.2, by rw [ec]; exact ho.1.2⟩, ⟨by rw [es, k12]; exact j2.1, by rw [es]; exact ho.1.1⟩, fun s h => ?_⟩, ⟨by rw [es]; exact k2.1, by rw [ec]; exact k2.2⟩, fun s h => ?_, fun c h => ?_, Or.inl ⟨k7.1, el, ep⟩⟩, ⟨hRO, ?_⟩, ⟨fun s h => ?_, fun s h1 h2 => ?_⟩, ⟨0, by decide, by rw [kJ 44 (by decide)]; exact j12, k7.2.2.1, fun i hi => absurd hi (by omega)⟩, ⟨0, by decide, by rw [kJ 46 (by decide)]; exact j13, k7.2.2.2.2, fun i hi => absurd hi (by omega)⟩, ⟨0, fun _ => 0, fun _ => false, by decide, k7.2.1, fun k hk => absurd hk (by omega), fun k j hk => absurd hk (by omega), by rw [kJ 37 (by decide)]; exact j10, by rw [kJ 37 (by decide)]; exact j11⟩, ⟨⟨0, by decide, by rw [kJ 10 (by decide)]; exact j16, k9, fun k hk => absurd hk (by omega)⟩, by rw [k10, kJ 10 (by decide), j17]⟩, ?_, by rw [k7.2.2.2.1, kJ 9 (by decide), j14]⟩, ?_, ?_⟩
      · rw [es] at h
        have h7 : s < 7 := by have := ho.1.1; omega
        have := ((ho.2.1 s h).1).1
        have h2 := ((ho.2.1 s h).1).2
        rw [kJ 13 (by decide), j3 s h7, show (1 : Int32) = nt 1 from rfl, nt_le (by decide) (by omega)]; exact this
      · rw [es] at h
        have h7 : s < 7 := by have := ho.1.1; omega
        rw [kJ 13 (by decide), kJ 14 (by decide), j3 s h7, j4 s h7]; exact k3 s h
      · rw [ec] at h
        have h7 : c < 6 := by have := ho.1.2; omega
        rw [kJ 15 (by decide), j5 c h7]; exact k4 c h
      · funext j
        by_cases hj : j < 84
        · rw [k5 j hj, frT_vc ho hj]
          exact congrFun (vc_ext (fun i hi => by rw [kJ 41 (by decide), j6 i hi])) j
        · rw [k6 j (by omega), j1 534 (by omega), hR.2, vc_hi84 (by omega), vc_hi84 (by omega)]
      · rw [es] at h
        have h7 : s < 7 := by have := ho.1.1; omega
        obtain ⟨⟨q1, q2⟩, q3, q4⟩ := ho.2.1 s h
        rw [kJ 13 (by decide), kJ 14 (by decide), j3 s h7, j4 s h7, show (1 : Int32) = nt 1 from rfl, show (60 : Int32) = nt 60 from rfl, show (9 : Int32) = nt 9 from rfl, nt_le (by decide) (by omega), nt_le (by omega) (by decide), nt_le (by decide) (by omega), nt_le (by omega) (by decide)]
        exact ⟨⟨q1, q2⟩, q3, q4⟩
      · rw [es] at h1
        rw [kJ 14 (by decide), j4 s h2, (ho.2.2.1 s h1).2]; rfl
      · have kI : ∀ r, r < 9 → K r = I r := fun r h => by rw [kJ r (by omega), j1 r (by omega)]
        obtain ⟨y1, y2, y3, y4, y5, y6, y7⟩ := hK
        refine ⟨by rw [kI 6 (by decide)]; exact y1, by rw [kI 0 (by decide), kI 1 (by decide), kI 2 (by decide)]; exact y2, fun j hj => ?_, by rw [kI 3 (by decide)]; exact y4, by rw [kI 4 (by decide)]; exact y5, by rw [kI 5 (by decide)]; exact y6, by rw [kJ 64 (by decide), j1 64 (by omega)]; exact y7⟩
        rw [kJ 41 (by decide), j7 j hj, kJ 43 (by decide), j1 43 (by omega), kJ 67 (by decide), j1 67 (by omega), kJ 69 (by decide), j1 69 (by omega), k1 535 (by decide) (by decide) (by decide) (by decide) (by decide) (by decide), j1 535 (by omega)]
        exact y3 j hj
      · rw [k1 72 (by decide) (by decide) (by decide) (by decide) (by decide) (by decide), j1 72 (by omega), kJ 9 (by decide), j15 16 (by decide)]; exact hI.2.1
      · rw [k1 72 (by decide) (by decide) (by decide) (by decide) (by decide) (by decide), j1 72 (by omega), kJ 9 (by decide), j15 17 (by decide)]; exact hI.2.2
    | inr e =>
      obtain ⟨o, μ', ⟨J, rfl, rfl, e1, e2, j1, j4, j5⟩, hc⟩ := cres_of (c132b (d := d) (n := n) (L := L) (Φ := fun o μ' => ∃ J, o = .inl (some (.int (nt e.1 - 10))) ∧ μ' = mk n J L x ∧ e.1 ≠ 0 ∧ e.1 < 10 ∧ (∀ r, r ≠ 10 → (r < 18 ∨ 23 < r) → J r = I r) ∧ J 10 1 = 0 ∧ J 10 6 = nt e.2) hx hI z2 z1 hNz hr (fun b1 b2 J a1 a4 a5 => ⟨J, rfl, rfl, b1, b2, a1, a4, a5⟩))
      refine ⟨_, J, hc, fun L1 => ?_⟩
      obtain ⟨o, μ', ⟨K, rfl, rfl, k1, k3, k4, k5, k7⟩, hm⟩ := cres_of (m219b (d := d) (n := n) (x := x) (L := L1) (J := J) (B := I 11) (Φ := fun o μ' => ∃ K, o = .inl (some (.int (nt e.1 - 10))) ∧ μ' = mk n K L1 x ∧ (∀ r, r ≠ 70 → mset r = false → K r = J r) ∧ K 70 0 = 0 ∧ K 70 1 = 0 ∧ K 70 3 = nt e.2 ∧ (∀ i, 9 ≤ i → K 70 i = J 70 i)) (by rw [j1 70 (by decide) (by decide)]; exact z3) z1 hNz (by rw [j1 71 (by decide) (by decide)]; exact h71) hB hr (fun K a1 a3 a4 a5 a7 => ⟨K, rfl, rfl, a1, a3, a4, a5, a7⟩))
      refine ⟨K, L1, rfl, hm, k3, ?_⟩
      have ki : ∀ r, r ≠ 70 → mset r = false → r ≠ 10 → (r < 18 ∨ 23 < r) → K r = I r := fun r a1 a2 a3 a5 => by rw [k1 r a1 a2, j1 r a3 a5]
      refine li_txt hI ⟨fun a h1 h2 h3 h4 h5 => ?_, fun k h1 h2 => ?_⟩ ⟨fun j _ => by rw [ki 43 (by decide) (by decide) (by decide) (by decide), ki 67 (by decide) (by decide) (by decide) (by decide), ki 69 (by decide) (by decide) (by decide) (by decide), ki 535 (by decide) (by decide) (by decide) (by decide)]; exact ⟨rfl, rfl, rfl, rfl⟩, by rw [ki 64 (by decide) (by decide) (by decide) (by decide)]⟩ (by rw [k1 10 (by decide) (by decide)]; exact j4) k4 (by rw [k5, k1 10 (by decide) (by decide), j5]) (ki 9 (by decide) (by decide) (by decide) (by decide)) (ki 72 (by decide) (by decide) (by decide) (by decide))
      · unfold scrR at h2
        rw [decide_eq_false_iff_not] at h2
        exact ki a h3 (decide_eq_false (by omega)) h4 (by omega)
      · simp only [Bool.or_eq_false_iff, beq_eq_false_iff_ne] at h1
        have h9 : 9 ≤ k := by
          by_cases hk : k < 9
          · rw [vis9 k hk h1.1 h1.2] at h2
            exact absurd h2 (by decide)
          · omega
        rw [k7 k h9, j1 70 (by decide) (by decide)]
  · refine pw_exc h21 hI (fun Φ h => (c132x hx hv).mpr h) (fun Φ h => (m219x ?_).mpr h)
    rw [wrI_ne (by decide), z3, ← z2]
    intro q
    refine hv ⟨q.1, ?_, q.2⟩
    rw [z2] at q
    exact Int32.le_trans q.2 (by rw [show (600 : Int32) = nt 600 from rfl, nt_le (by omega) (by decide)]; exact z1)
end Pe

