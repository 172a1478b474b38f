/-! A LAW: the pair -/
def PB (N : Nat) (U : LPs) : Prop := ∀ c p c' p', p ≤ N → U c p = .inl (c', p') → p' ≤ N
section Lg
variable {d n x N z : Nat} {B : Nat → Int32} {I J K G : Nat → Nat → Int32} {L : Nat → Nat → Int64} {v w q : Int32} {c : LCs} {S : Option LPs} {U V : LPs} {xr x70 : Nat → Bool}
theorem cur_in {p : Nat} (h : cur B N p ≠ -1) : p < N := by
  unfold cur at h
  split at h
  · assumption
  · exact absurd rfl h
theorem PB_thn (hU : PB N U) (hV : PB N V) : PB N (thn U V) := by
  intro c p c' p' hp h
  unfold thn at h
  split at h
  · cases h
  · rename_i c1 p1 hu
    exact hV _ _ _ _ (hU _ _ _ _ hp hu) h
theorem PB_sgP {s : Int32} (hs : s ≠ -1) : PB N (sgP B N s) := by
  intro c p c' p' hp h
  unfold sgP at h
  split at h
  · rename_i hc
    cases h
    exact cur_in (by rw [hc]; exact hs)
  · cases h
theorem PB_rLp {T : Int32 → Nat} (hT : T (-1) = 0) (hU : PB N U) : ∀ f, PB N (rLp B N T U f) := by
  intro f
  induction f with
  | zero => intro c p c' p' hp h; cases h; exact hp
  | succ f ih =>
    intro c p c' p' hp h
    unfold rLp at h
    split at h
    · cases h; exact endF_le hp
    · rename_i hne
      split at h
      · cases h
      · rename_i c1 p1 hu
        exact ih _ _ _ _ (hU _ _ _ _ (cur_in (fun e => hne (by rw [e]; exact hT))) hu) h
theorem rNum_le {lo hi : Int32} {p V p1 : Nat} (hp : p ≤ N) (h : rNum B N lo hi p = .inl (V, p1)) : p1 ≤ N := by
  have hle : skp B N p ≤ N := endF_le hp
  unfold rNum at h
  split at h
  · split at h
    · rename_i hr
      cases h
      exact endF_le hle
    · cases h
  · cases h
theorem PB_rUn (hS : ∀ f, S = some f → PB N f) : PB N (rUn B N S) := by
  intro c p c' p' hp h
  have hle : skp B N p ≤ N := endF_le hp
  unfold rUn at h
  split at h
  · split at h
    · cases h
    · rename_i v1 p1 hn
      cases h
      exact rNum_le hp hn
  · split at h
    · rename_i h40
      unfold brP at h
      split at h
      · cases h
      · rename_i f
        exact PB_thn (hS f rfl) (PB_sgP (by decide)) _ _ _ _ (cur_in (by rw [h40]; decide)) h
    · split at h
      · cases h
      · rename_i k1 p1 hw
        have hp1 : p1 ≤ N := by
          unfold rWrd at hw
          split at hw
          · cases hw; exact endF_le hle
          · cases hw
        split at h
        · cases h; exact hp1
        · split at h
          · cases h
          · rename_i c1 p2 hpp
            cases h
            unfold paP at hpp
            split at hpp
            · cases hpp
            · rename_i f
              exact PB_thn (PB_sgP (by decide)) (PB_thn (hS f rfl) (PB_thn (PB_sgP (by decide)) (PB_thn (hS f rfl) (PB_sgP (by decide))))) _ _ _ _ hp1 hpp
theorem PB_rSu (hU : PB N U) : PB N (rSu B N U) := PB_thn (PB_thn hU (PB_rLp rfl hU 150)) (PB_rLp rfl (PB_thn hU (PB_rLp rfl hU 150)) 150)
theorem PB_rSm : ∀ h, PB N (rSm B N h)
  | 0 => PB_rSu (PB_rUn (fun f e => by cases e))
  | h + 1 => PB_rSu (PB_rUn (fun f e => by cases e; exact PB_rSm h))
theorem rLw_ok {p' : Nat} (h : rLw B N lc0 = .inl (c, p')) : GC c ∧ hgt c.2 c.1 = 1 ∧ c.1 ≤ N := by
  unfold rLw at h
  split at h
  · cases h
  · rename_i c1 p1 hr
    obtain ⟨a1, a2, a3⟩ := PG_rSm 6 _ _ _ _ hr
    have hb := PB_rSm 6 _ _ _ _ (Nat.zero_le N) hr
    split at h
    · cases h
      obtain ⟨g1, g2⟩ := a3 (fun k hk => absurd hk (Nat.not_lt_zero k))
      have a2 : c.1 + 0 ≤ 0 + p1 := a2
      have g2 : hgt c.2 c.1 = 0 + 1 := g2
      exact ⟨g1, by omega, by omega⟩
    · cases h
theorem sgn_ge {u : Nat × Nat} (h : okLw u) : (2000 ≤ nt (sgn u)) ↔ 2 ≤ u.1 := by
  obtain ⟨h1, h2, h3⟩ := h
  unfold sgn
  by_cases a : u.1 = 0
  · have := h2 a
    rw [if_pos a, show (2000 : Int32) = nt 2000 from rfl, nt_le (by decide) (by omega)]
    omega
  · rw [if_neg a]
    by_cases b : u.1 = 1
    · have := h3 b
      rw [if_pos b, show (2000 : Int32) = nt 2000 from rfl, nt_le (by decide) (by omega)]
      omega
    · rw [if_neg b, show (2000 : Int32) = nt 2000 from rfl, nt_le (by decide) (by omega)]
      omega
theorem ht_hgt {sg : Nat → Int32} (hG : GC c) (hs : ∀ k, k < c.1 → sg k = nt (sgn (c.2 k))) : ∀ k, k ≤ c.1 → ht sg k = hgt c.2 k
  | 0, _ => rfl
  | k + 1, hk => by
    have ih := ht_hgt hG hs k (by omega)
    have hk2 := sgn_ge (hG k (by omega)).1
    rw [ht_s, ih, hs k (by omega)]
    show _ = if 2 ≤ (c.2 k).1 then hgt c.2 k - 1 else hgt c.2 k + 1
    by_cases h2 : 2 ≤ (c.2 k).1
    · rw [if_pos h2, if_pos (hk2.mpr h2)]
    · rw [if_neg h2, if_neg (fun z => h2 (hk2.mp z))]
theorem wfs_law {sg : Nat → Int32} (hG : GC c) (hh : hgt c.2 c.1 = 1) (hl : c.1 ≤ 150) (hs : ∀ k, k < c.1 → sg k = nt (sgn (c.2 k))) : wfs sg c.1 := by
  refine ⟨fun k hk h2 => ?_, ?_, hl⟩
  · rw [ht_hgt hG hs k (by omega)]
    rw [hs k hk] at h2
    exact (hG k hk).2 ((sgn_ge (hG k hk).1).mp h2)
  · rw [ht_hgt hG hs c.1 (Nat.le_refl _)]
    omega
theorem cr_law {u : Nat × Nat} (h : okLw u) : cr (nt u.1) (nt u.2) (nt (sgn u)) := by
  obtain ⟨h1, h2, h3⟩ := h
  unfold sgn
  by_cases a : u.1 = 0
  · have := h2 a
    rw [if_pos a, a]
    refine Or.inl ⟨rfl, rfl, ?_⟩
    rw [show (1000 : Int32) = nt 1000 from rfl, nt_lt (by omega) (by decide)]
    exact this
  · rw [if_neg a]
    by_cases b : u.1 = 1
    · rw [if_pos b, b]
      exact Or.inr (Or.inl ⟨u.2, h3 b, rfl, rfl, rfl⟩)
    · rw [if_neg b]
      exact Or.inr (Or.inr ⟨u.1 - 2, by omega, by rw [show 2 + (u.1 - 2) = u.1 by omega], by rw [show 2000 + (u.1 - 2) = 1998 + u.1 by omega]⟩)
def rnL : List Nat := [12, 13, 14, 15, 74] ++ ((List.range 7).map (fun k => 84 + k) ++ (List.range 6).map (fun k => 99 + k))
theorem kM2 (h : okc xr x70 I K) (hl : okL xr rnL = true) (hM : MI I) (h24 : K 24 3 = nt (lnI K) ∧ wfs (K 25) (lnI K)) (hLC : LC K) : MI K := by
  have e : ∀ a, a ∈ rnL → K a = I a := fun a ha => okl h hl ha
  have e12 := e 12 (by decide)
  have e13 := e 13 (by decide)
  have e14 := e 14 (by decide)
  have e15 := e 15 (by decide)
  have e74 := e 74 (by decide)
  have es : sI K = sI I := by unfold sI; rw [e12]
  have ec : cI K = cI I := by unfold cI; rw [e12]
  obtain ⟨⟨⟨a1, a2⟩, ⟨a3, a4⟩, ⟨a5, a6⟩, a7⟩, ⟨b1, b2⟩, c1, d1, e1⟩ := hM
  refine ⟨⟨h24, ⟨?_, ?_⟩, ⟨?_, ?_⟩, ?_⟩, ⟨?_, ?_⟩, ?_, ?_, hLC⟩
  · rw [e12, ec]; exact a3
  · rw [ec]; exact a4
  · rw [e12, es]; exact a5
  · rw [es]; exact a6
  · rw [e13, es]; exact a7
  · rw [e74, es]; exact b1
  · rw [e74, ec]; exact b2
  · intro s hs
    rw [es] at hs
    rw [e (84 + s) (List.mem_append_right _ (List.mem_append_left _ (in_map (by omega)))), e13, e14]
    exact c1 s hs
  · intro c hc
    rw [ec] at hc
    rw [e (99 + c) (List.mem_append_right _ (List.mem_append_right _ (in_map (by omega)))), e15]
    exact d1 c hc
theorem pw133 {hs : Nat → Nat → Prop} (h21 : hs 2 1) (hx : x + 1 ≤ 600) (hI : LI I) : PW (d + 34) 133 230 [.int v] hs n I L x := by
  obtain ⟨⟨z, z1, z2, z3, z4⟩, z5⟩ := hI.1.2.2.2.2.2.2.1
  by_cases hv : 0 ≤ v ∧ v ≤ 150 ∧ v ≤ I 10 1
  · obtain ⟨ev, hl⟩ := int_nt hv.1
    obtain ⟨N, hN⟩ : ∃ N, N = v.toNatClampNeg := ⟨_, rfl⟩
    rw [← hN] at ev hl
    subst ev
    have h150 : N ≤ 150 := by
      have := hv.2.1
      rw [show (150 : Int32) = nt 150 from rfl, nt_le (by omega) (by decide)] at this
      exact this
    have hNz : N ≤ z := by
      have := hv.2.2
      rw [z2, nt_le (by omega) (by omega)] at this
      exact this
    have h71 : ∀ i, i < N → I 71 i = I 11 i := fun i hi => (z4 i (by omega)).1
    have hB : ∀ i, i < N → 0 ≤ I 11 i ∧ I 11 i < 256 := fun i hi => (z4 i (by omega)).2
    refine Or.inl ?_
    cases hr : rLw (I 11) N lc0 with
    | inl r =>
      obtain ⟨c, p'⟩ := r
      obtain ⟨hG, hh, hcN⟩ := rLw_ok hr
      obtain ⟨o, μ', ⟨J, rfl, rfl, j1, j2, j3, j4, j5⟩, hc⟩ := cres_of (c133a (d := d) (n := n) (L := L) (Φ := fun o μ' => ∃ J, o = .inl (some (.int 1)) ∧ μ' = mk n J L x ∧ (∀ r, r ≠ 10 → r ≠ 24 → r ≠ 25 → r ≠ 28 → r ≠ 29 → J r = I r) ∧ J 24 3 = nt c.1 ∧ (∀ k, k < c.1 → J 25 k = nt (sgn (c.2 k))) ∧ J 10 1 = 0 ∧ J 10 6 = -1) hx hI z2 z1 hNz h150 hr (by omega) (fun J a1 a2 a3 a4 a5 => ⟨J, rfl, rfl, a1, a2, a3, a4, a5⟩))
      refine ⟨_, J, hc, fun L1 => ?_⟩
      obtain ⟨o, μ', ⟨K, rfl, rfl, k1, k2, k3, k4, k5, k6, k7⟩, hm⟩ := cres_of (m230a (d := d) (n := n) (x := x) (L := L1) (J := J) (B := I 11) (Φ := fun o μ' => ∃ K, o = .inl (some (.int 1)) ∧ μ' = mk n K L1 x ∧ (∀ r, r ≠ 70 → (r < 114 ∨ 434 < r) → K r = J r) ∧ (∀ k, k < c.1 → K (114 + k) 0 = nt (c.2 k).1 ∧ K (114 + k) 1 = nt (c.2 k).2) ∧ K 70 0 = 0 ∧ K 70 1 = 0 ∧ K 70 3 = -1 ∧ K 70 18 = nt c.1 ∧ (∀ i, 9 ≤ i → i ≠ 18 → i ≠ 19 → K 70 i = J 70 i)) (by rw [j1 70 (by decide) (by decide) (by decide) (by decide) (by decide)]; exact z3) z1 hNz h150 (by rw [j1 71 (by decide) (by decide) (by decide) (by decide) (by decide)]; exact h71) hB hr (by omega) (fun K a1 a2 a3 a4 a5 a6 a7 => ⟨K, rfl, rfl, a1, a2, a3, a4, a5, a6, a7⟩))
      refine ⟨K, L1, rfl, hm, k3, ?_⟩
      have ki : ∀ r, r ≠ 70 → (r < 114 ∨ 434 < r) → r ≠ 10 → r ≠ 24 → r ≠ 25 → r ≠ 28 → r ≠ 29 → K r = I r := fun r a1 a2 a3 a4 a5 a6 a7 => by rw [k1 r a1 a2, j1 r a3 a4 a5 a6 a7]
      have ok : okc (fun a => a == 24 || (a == 25 || decide (114 ≤ a ∧ a ≤ 273))) (fun k => k == 1 || (k == 3 || k == 18)) I K := by
        refine ⟨fun a h1 h2 h3 h4 h5 => ?_, fun k h1 h2 => ?_⟩
        · simp only [Bool.or_eq_false_iff, beq_eq_false_iff_ne, decide_eq_false_iff_not] at h1
          have h6 : a ≠ 28 ∧ a ≠ 29 ∧ (a < 114 ∨ 434 < a) := by
            unfold scrR at h2
            rw [decide_eq_false_iff_not] at h2
            omega
          exact ki a h3 h6.2.2 h4 h1.1 h1.2.1 h6.1 h6.2.1
        · simp only [Bool.or_eq_false_iff, beq_eq_false_iff_ne] at h1
          have h9 : 9 ≤ k ∧ k ≠ 19 := by
            have : ∀ k, k < 20 → k ≠ 1 → k ≠ 3 → k ≠ 18 → vis 70 k = false := by decide
            by_cases hk : k < 20
            · rw [this k hk h1.1 h1.2.1 h1.2.2] at h2
              exact absurd h2 (by decide)
            · omega
          rw [k7 k h9.1 h1.2.2 h9.2, j1 70 (by decide) (by decide) (by decide) (by decide) (by decide)]
      have ki' : ∀ r, (r ≠ 70 ∧ (r < 114 ∨ 434 < r) ∧ r ≠ 10 ∧ r ≠ 24 ∧ r ≠ 25 ∧ r ≠ 28 ∧ r ≠ 29) → K r = I r := fun r h => ki r h.1 h.2.1 h.2.2.1 h.2.2.2.1 h.2.2.2.2.1 h.2.2.2.2.2.1 h.2.2.2.2.2.2
      have sp : spc I K := ⟨fun j _ => by rw [ki' 43 (by decide), ki' 67 (by decide), ki' 69 (by decide), ki' 535 (by decide)]; exact ⟨rfl, rfl, rfl, rfl⟩, by rw [ki' 64 (by decide)]⟩
      have k9 : K 9 = I 9 := ki' 9 (by decide)
      have k72 : K 72 = I 72 := ki' 72 (by decide)
      have k10 : K 10 = J 10 := k1 10 (by decide) (by decide)
      have k24 : K 24 = J 24 := k1 24 (by decide) (by decide)
      have k25 : K 25 = J 25 := k1 25 (by decide) (by decide)
      have eln : lnI K = c.1 := by unfold lnI; rw [k24, j2]; exact nt_clamp (by omega)
      obtain ⟨hM, hR, hV, hW, hA, hBB, hT, hK, hNN⟩ := hI.1
      refine ⟨⟨kM2 ok (by decide +kernel) hM ⟨by rw [eln, k24]; exact j2, by rw [eln, k25]; exact wfs_law hG hh (by omega) j3⟩ (Or.inr ⟨by rw [eln]; exact k6, fun k hk => ?_⟩), kR ok (by decide) hR, kV ok (by decide) hV, kW ok (by decide) rfl hW, kA ok (by decide) rfl hA, kB ok (by decide) rfl hBB, ⟨⟨0, by decide, by rw [k10, j4]; rfl, k4, fun k hk => absurd hk (by omega)⟩, by rw [k5, k10, j5]⟩, kK ok sp (by decide) (fun j hj => by rw [ki' 41 (by decide)]; exact hi41 hI.1 j hj) hK, ?_⟩, ?_, ?_⟩
      · rw [eln] at hk
        rw [(k2 k hk).1, (k2 k hk).2, k25, j3 k hk]
        exact cr_law (hG k hk).1
      · rw [ok.2 35 rfl rfl, k9]; exact hNN
      · rw [k9, k72]; exact hI.2.1
      · rw [k9, k72]; exact hI.2.2
    | inr e =>
      obtain ⟨o, μ', ⟨J, rfl, rfl, e1, e2, j1, j4, j5⟩, hc⟩ := cres_of (c133b (d := d) (n := n) (L := L) (Φ := fun o μ' => ∃ J, o = .inl (some (.int (nt e.1 - 10))) ∧ μ' = mk n J L x ∧ e.1 ≠ 0 ∧ e.1 < 10 ∧ (∀ r, r ≠ 10 → r ≠ 28 → r ≠ 29 → J r = I r) ∧ J 10 1 = 0 ∧ J 10 6 = nt e.2) hx hI z2 z1 hNz h150 hr (fun b1 b2 J a1 a4 a5 => ⟨J, rfl, rfl, b1, b2, a1, a4, a5⟩))
      refine ⟨_, J, hc, fun L1 => ?_⟩
      obtain ⟨o, μ', ⟨K, rfl, rfl, k1, k3, k4, k5, k7⟩, hm⟩ := cres_of (m230b (d := d) (n := n) (x := x) (L := L1) (J := J) (B := I 11) (Φ := fun o μ' => ∃ K, o = .inl (some (.int (nt e.1 - 10))) ∧ μ' = mk n K L1 x ∧ (∀ r, r ≠ 70 → (r < 275 ∨ 434 < r) → K r = J r) ∧ K 70 0 = 0 ∧ K 70 1 = 0 ∧ K 70 3 = nt e.2 ∧ (∀ i, 9 ≤ i → i ≠ 19 → K 70 i = J 70 i)) (by rw [j1 70 (by decide) (by decide) (by decide)]; exact z3) z1 hNz h150 (by rw [j1 71 (by decide) (by decide) (by decide)]; exact h71) hB hr (fun K a1 a3 a4 a5 a7 => ⟨K, rfl, rfl, a1, a3, a4, a5, a7⟩))
      refine ⟨K, L1, rfl, hm, k3, ?_⟩
      have ki : ∀ r, (r ≠ 70 ∧ (r < 275 ∨ 434 < r) ∧ r ≠ 10 ∧ r ≠ 28 ∧ r ≠ 29) → K r = I r := fun r h => by rw [k1 r h.1 h.2.1, j1 r h.2.2.1 h.2.2.2.1 h.2.2.2.2]
      refine li_txt hI ⟨fun a h1 h2 h3 h4 h5 => ?_, fun k h1 h2 => ?_⟩ ⟨fun j _ => by rw [ki 43 (by decide), ki 67 (by decide), ki 69 (by decide), ki 535 (by decide)]; exact ⟨rfl, rfl, rfl, rfl⟩, by rw [ki 64 (by decide)]⟩ (by rw [k1 10 (by decide) (by decide)]; exact j4) k4 (by rw [k5, k1 10 (by decide) (by decide), j5]) (ki 9 (by decide)) (ki 72 (by decide))
      · have h7 : a ≠ 28 ∧ a ≠ 29 ∧ (a < 275 ∨ 434 < a) := by
          unfold scrR at h2
          rw [decide_eq_false_iff_not] at h2
          omega
        exact ki a ⟨h3, h7.2.2, h4, h7.1, h7.2.1⟩
      · simp only [Bool.or_eq_false_iff, beq_eq_false_iff_ne] at h1
        have h9 : 9 ≤ k ∧ k ≠ 19 := by
          have : ∀ k, k < 20 → k ≠ 1 → k ≠ 3 → k ≠ 18 → vis 70 k = false := by decide
          by_cases hk : k < 20
          · by_cases h18 : k = 18
            · omega
            · rw [this k hk h1.1 h1.2 h18] at h2
              exact absurd h2 (by decide)
          · omega
        rw [k7 k h9.1 h9.2, j1 70 (by decide) (by decide) (by decide)]
  · refine pw_exc h21 hI (fun Φ h => (c133x hx hv).mpr h) (fun Φ h => (m230x ?_).mpr h)
    rw [wrI_ne (by decide), z3, ← z2]
    exact hv
end Lg

