/-! A BOOK: the pair -/
section Pd
variable {d n x : Nat} {I J K : Nat → Nat → Int32} {L : Nat → Nat → Int64} {v : Int32}
/-- a call that is refused by its number -/
theorem pw_exc {Mc Mm : Nat} {hs : Nat → Nat → Prop} (h21 : hs 2 1) (hI : LI I) (hc : ∀ Φ, Φ (.inr 2) (mk n (wrI I 9 17 (I 9 17 + 1)) L (x + 1)) → wpc d Mc [.ref (9 : Nat), .int v] (mk n I L x) Φ) (hm : ∀ Φ, Φ (.inl (some (.int 0))) (mk n (wrI (wrI (wrI (wrI I 9 17 (I 9 17 + 1)) 70 0 0) 70 0 1) 72 1 (wrI I 9 17 (I 9 17 + 1) 72 1 + 1)) L (x + 1)) → wpc d Mm [.ref (70 : Nat), .int v] (mk n (wrI I 9 17 (I 9 17 + 1)) L (x + 1)) Φ) : PW d Mc Mm [.int v] hs n I L x := by
  refine Or.inr ⟨2, 1, _, h21, by decide, by decide, hc, _, hm, ?_, ?_⟩
  · rw [wrI_ne (by decide), wr_eq]
    rfl
  · rw [wrI_ne (show 72 ≠ 9 by decide)]
    exact li_exc hI
theorem pw135 {hs : Nat → Nat → Prop} (h21 : hs 2 1) (hx : x + 1 ≤ 600) (hI : LI I) : PW (d + 12) 135 235 [.int v] hs n I L x := by
  obtain ⟨⟨z, z1, z2, z3, z4⟩, z5⟩ := hI.1.2.2.2.2.2.2.1
  by_cases hv : 0 ≤ v ∧ v ≤ 60 ∧ v ≤ I 10 1
  · obtain ⟨ev, hl⟩ := int_nt hv.1
    obtain ⟨N, hN⟩ : ∃ N, N = v.toNatClampNeg := ⟨_, rfl⟩
    rw [← hN] at ev hl
    subst ev
    have h60 : N ≤ 60 := by
      have := hv.2.1
      rw [show (60 : Int32) = nt 60 from rfl, nt_le (by omega) (by decide)] at this
      exact this
    have hNz : N ≤ z := by
      have := hv.2.2
      rw [z2, nt_le (by omega) (by omega)] at this
      exact this
    have h71 : ∀ i, i < N → I 71 i = I 11 i := fun i hi => (z4 i (by omega)).1
    have hB : ∀ i, i < N → 0 ≤ I 11 i ∧ I 11 i < 256 := fun i hi => (z4 i (by omega)).2
    have hS := inv_s7 hI.1
    have h74 : I 74 0 = nt (sI I) := hI.1.1.2.1.1
    refine Or.inl ?_
    cases hr : rBk (I 11) N (sI I) 8 (0, sb0) 0 with
    | inl r =>
      obtain ⟨⟨m, s, b⟩, p'⟩ := r
      have hok := rBk_ok hS 8 (0, sb0) 0 _ _ ⟨fun k hk => absurd hk (by omega), fun k j hk => absurd hk (by omega)⟩ hr
      have hm7 : m ≤ 7 := by
        have := okB_7 (S := sI I) (m := min m 8) (s := s) hS (by omega) ⟨fun k hk => hok.1 k (by omega), fun k j hk hj => hok.2 k j (by omega) (by omega)⟩
        omega
      obtain ⟨o, μ', ⟨J, rfl, rfl, j1, j2, j3, j4, j5⟩, hc⟩ := cres_of (c135a (d := d) (n := n) (L := L) (Φ := fun o μ' => ∃ J, o = .inl (some (.int (nt m))) ∧ μ' = mk n J L x ∧ (∀ r, r ≠ 10 → r ≠ 37 → r ≠ 38 → J r = I r) ∧ J 37 0 = bkt0 s m ∧ J 37 1 = bkw0 s b m ∧ J 10 1 = 0 ∧ J 10 6 = -1) hx hI z2 z1 hNz h60 hr (fun J a1 a2 a3 a4 a5 => ⟨J, rfl, rfl, a1, a2, a3, a4, a5⟩))
      refine ⟨_, J, hc, fun L1 => ?_⟩
      obtain ⟨o, μ', ⟨K, rfl, rfl, k1, k2, k3, k4, k5, k6, k7⟩, hm⟩ := cres_of (m235a (d := d) (n := n) (x := x) (L := L1) (J := J) (B := I 11) (S := sI I) (Φ := fun o μ' => ∃ K, o = .inl (some (.int (nt m))) ∧ μ' = mk n K L1 x ∧ (∀ r, r ≠ 70 → (r < 436 ∨ 450 < r) → K r = J r) ∧ (∀ k, k < m → K (436 + k) 0 = nt (s k) ∧ K (436 + k) 1 = if b k then 1 else 0) ∧ K 70 0 = 0 ∧ K 70 1 = 0 ∧ K 70 3 = -1 ∧ K 70 33 = nt m ∧ (∀ i, 9 ≤ i → i ≠ 33 → K 70 i = J 70 i)) (by rw [j1 70 (by decide) (by decide) (by decide)]; exact z3) z1 hNz h60 (by rw [j1 71 (by decide) (by decide) (by decide)]; exact h71) hB hS (by rw [j1 74 (by decide) (by decide) (by decide)]; exact h74) hr (fun K a1 a2 a3 a4 a5 a6 a7 => ⟨K, rfl, rfl, a1, a2, a3, a4, a5, a6, a7⟩))
      refine ⟨K, L1, rfl, hm, k3, ?_⟩
      have ki : ∀ r, r ≠ 70 → (r < 436 ∨ 450 < r) → r ≠ 10 → r ≠ 37 → r ≠ 38 → K r = I r := fun r a1 a2 a3 a4 a5 => by rw [k1 r a1 a2, j1 r a3 a4 a5]
      have ok : okc (fun a => a == 37 || decide (436 ≤ a ∧ a ≤ 442)) (fun k => k == 1 || (k == 3 || k == 33)) I K := by
        refine ⟨fun a h1 h2 h3 h4 h5 => ?_, fun k h1 h2 => ?_⟩
        · simp only [Bool.or_eq_false_iff, beq_eq_false_iff_ne, decide_eq_false_iff_not] at h1
          have h6 : a ≠ 38 := fun e => by subst e; exact absurd h2 (by decide)
          have h7 : a < 436 ∨ 450 < a := by
            unfold scrR at h2
            rw [decide_eq_false_iff_not] at h2
            omega
          exact ki a h3 h7 h4 h1.1 h6
        · simp only [Bool.or_eq_false_iff, beq_eq_false_iff_ne] at h1
          have h9 : 9 ≤ k := by
            have : ∀ k, k < 9 → k ≠ 1 → k ≠ 3 → vis 70 k = false := by decide
            by_cases hk : k < 9
            · rw [this k hk h1.1 h1.2.1] at h2
              exact absurd h2 (by decide)
            · omega
          rw [k7 k h9 h1.2.2, j1 70 (by decide) (by decide) (by decide)]
      have sp : spc I K := ⟨fun j _ => by rw [ki 43 (by decide) (by decide) (by decide) (by decide) (by decide), ki 67 (by decide) (by decide) (by decide) (by decide) (by decide), ki 69 (by decide) (by decide) (by decide) (by decide) (by decide), ki 535 (by decide) (by decide) (by decide) (by decide) (by decide)]; exact ⟨rfl, rfl, rfl, rfl⟩, by rw [ki 64 (by decide) (by decide) (by decide) (by decide) (by decide)]⟩
      have k9 : K 9 = I 9 := ki 9 (by decide) (by decide) (by decide) (by decide) (by decide)
      have k72 : K 72 = I 72 := ki 72 (by decide) (by decide) (by decide) (by decide) (by decide)
      have k10 : K 10 = J 10 := k1 10 (by decide) (by decide)
      have k37 : K 37 = J 37 := k1 37 (by decide) (by decide)
      have k12 : K 12 = I 12 := ki 12 (by decide) (by decide) (by decide) (by decide) (by decide)
      have es : sI K = sI I := by unfold sI; rw [k12]
      obtain ⟨hM, hR, hV, hW, hA, hBB, hT, hK, hNN⟩ := hI.1
      refine ⟨⟨kM ok (by decide +kernel) rfl hM, kR ok (by decide) hR, kV ok (by decide) hV, kW ok (by decide) rfl hW, kA ok (by decide) rfl hA, ⟨m, s, b, hm7, k6, fun k hk => ⟨by rw [es]; exact hok.1 k hk, k2 k hk⟩, hok.2, by rw [k37, j2]; rfl, by rw [k37, j3]; rfl⟩, ⟨⟨0, by decide, by rw [k10, j4]; rfl, k4, fun k hk => absurd hk (by omega)⟩, by rw [k5, k10, j5]⟩, kK ok sp (by decide) (fun j hj => by rw [ki 41 (by decide) (by decide) (by decide) (by decide) (by decide)]; exact hi41 hI.1 j hj) hK, ?_⟩, ?_, ?_⟩
      · rw [ok.2 35 rfl rfl, k9]; exact hNN
      · rw [k9, k72]; exact hI.2.1
      · rw [k9, k72]; exact hI.2.2
    | inr e =>
      obtain ⟨o, μ', ⟨J, rfl, rfl, e1, e2, j1, j4, j5⟩, hc⟩ := cres_of (c135b (d := d) (n := n) (L := L) (Φ := fun o μ' => ∃ J, o = .inl (some (.int (nt e.1 - 10))) ∧ μ' = mk n J L x ∧ e.1 ≠ 0 ∧ e.1 < 10 ∧ (∀ r, r ≠ 10 → r ≠ 38 → J r = I r) ∧ J 10 1 = 0 ∧ J 10 6 = nt e.2) hx hI z2 z1 hNz h60 hr (fun b1 b2 J a1 a4 a5 => ⟨J, rfl, rfl, b1, b2, a1, a4, a5⟩))
      refine ⟨_, J, hc, fun L1 => ?_⟩
      obtain ⟨o, μ', ⟨K, rfl, rfl, k1, k3, k4, k5, k7⟩, hm⟩ := cres_of (m235b (d := d) (n := n) (x := x) (L := L1) (J := J) (B := I 11) (S := sI I) (Φ := fun o μ' => ∃ K, o = .inl (some (.int (nt e.1 - 10))) ∧ μ' = mk n K L1 x ∧ (∀ r, r ≠ 70 → (r < 444 ∨ 450 < r) → K r = J r) ∧ K 70 0 = 0 ∧ K 70 1 = 0 ∧ K 70 3 = nt e.2 ∧ (∀ i, 9 ≤ i → K 70 i = J 70 i)) (by rw [j1 70 (by decide) (by decide)]; exact z3) z1 hNz h60 (by rw [j1 71 (by decide) (by decide)]; exact h71) hB hS (by rw [j1 74 (by decide) (by decide)]; exact h74) hr (fun K a1 a3 a4 a5 a7 => ⟨K, rfl, rfl, a1, a3, a4, a5, a7⟩))
      refine ⟨K, L1, rfl, hm, k3, ?_⟩
      have ki : ∀ r, r ≠ 70 → (r < 444 ∨ 450 < r) → r ≠ 10 → r ≠ 38 → K r = I r := fun r a1 a2 a3 a5 => by rw [k1 r a1 a2, j1 r a3 a5]
      refine li_txt hI ⟨fun a h1 h2 h3 h4 h5 => ?_, fun k h1 h2 => ?_⟩ ⟨fun j _ => by rw [ki 43 (by decide) (by decide) (by decide) (by decide), ki 67 (by decide) (by decide) (by decide) (by decide), ki 69 (by decide) (by decide) (by decide) (by decide), ki 535 (by decide) (by decide) (by decide) (by decide)]; exact ⟨rfl, rfl, rfl, rfl⟩, by rw [ki 64 (by decide) (by decide) (by decide) (by decide)]⟩ (by rw [k1 10 (by decide) (by decide)]; exact j4) k4 (by rw [k5, k1 10 (by decide) (by decide), j5]) (ki 9 (by decide) (by decide) (by decide) (by decide)) (ki 72 (by decide) (by decide) (by decide) (by decide))
      · have h6 : a ≠ 38 := fun e => by subst e; exact absurd h2 (by decide)
        have h7 : a < 444 ∨ 450 < a := by
          unfold scrR at h2
          rw [decide_eq_false_iff_not] at h2
          omega
        exact ki a h3 h7 h4 h6
      · simp only [Bool.or_eq_false_iff, beq_eq_false_iff_ne] at h1
        have h9 : 9 ≤ k := by
          have : ∀ k, k < 9 → k ≠ 1 → k ≠ 3 → vis 70 k = false := by decide
          by_cases hk : k < 9
          · rw [this k hk h1.1 h1.2] at h2
            exact absurd h2 (by decide)
          · omega
        rw [k7 k h9, j1 70 (by decide) (by decide)]
  · refine pw_exc h21 hI (fun Φ h => (c135x hx hv).mpr h) (fun Φ h => (m235x ?_).mpr h)
    rw [wrI_ne (by decide), z3, ← z2]
    exact hv
end Pd

