/-! A REPUBLIC: the class -/
def frT (τ : RSt) (j : Nat) : Int32 := if j < 6 then nt (τ.2.2 3 j) else if j < 12 then -1 else if j < 18 then 0 else if j < 60 then nt (τ.2.2 4 (j - 18)) else if j < 67 then -1 else if j = 83 then nt (τ.2.2 5 0) else 0
section Rx
variable {d n x N z : Nat} {Φ : POut → PM → Prop} {I J K G : Nat → Nat → Int32} {L : Nat → Nat → Int64} {v : Int32} {τ : RSt}
theorem tS_self : tS J (J 10 3) (J 10 4) (J 10 5) (J 10 6) = J := by
  unfold tS
  have : upd (upd (upd (upd (J 10) 3 (J 10 3)) 4 (J 10 4)) 5 (J 10 5)) 6 (J 10 6) = J 10 := by
    funext i
    unfold upd
    by_cases h6 : i = 6
    · simp [h6]
    · by_cases h5 : i = 5
      · simp [h5]
      · by_cases h4 : i = 4
        · simp [h4]
        · by_cases h3 : i = 3
          · simp [h3]
          · simp [h3, h4, h5, h6]
  rw [this, upR_self]
theorem c176g : wpc (d + 1) 176 [.ref (9 : Nat), .int v] (mk n J L x) Φ ↔ Φ (.inl (some (.int (if J 10 5 = 0 then v else J 10 5 - 10)))) (mk n (wrI J 10 1 0) L x) := by
  have h := c176 (d := d) (n := n) (L := L) (x := x) (Φ := Φ) (v := v) (I := J) (p := J 10 3) (s := J 10 4) (k := J 10 5) (q := J 10 6)
  rw [tS_self] at h
  have e : tS (wrI J 10 1 0) (J 10 3) (J 10 4) (J 10 5) (J 10 6) = wrI J 10 1 0 := by
    have := tS_self (J := wrI J 10 1 0)
    rw [wr_k (by decide), wr_k (by decide), wr_k (by decide), wr_k (by decide)] at this
    exact this
  rw [e] at h
  exact h
theorem RM_self : RM I I = I := by
  funext r
  unfold RM
  split <;> rfl
theorem c132a (hx : x + 1 ≤ 600) (hI : LI I) (hz : I 10 1 = nt z) (hzz : z ≤ 600) (hN : N ≤ z) {p' : Nat} (hr : rRp (I 11) N 61 0 sg0r 0 = .inl (τ, p')) (h : ∀ J, (∀ r, (r < 9 ∨ r = 11 ∨ r = 40 ∨ r = 42 ∨ r = 43 ∨ r = 45 ∨ 46 < r ∨ (25 < r ∧ r < 37) ∨ r = 38 ∨ r = 39) → J r = I r) → (J 12 5 = nt τ.1 ∧ J 12 6 = nt τ.2.1) → (∀ k, k < 7 → J 13 k = nt (τ.2.2 0 k)) → (∀ k, k < 7 → J 14 k = nt (τ.2.2 1 k)) → (∀ k, k < 6 → J 15 k = nt (τ.2.2 2 k)) → (∀ j, j < 84 → J 41 j = frT τ j) → (∀ j, 84 ≤ j → J 41 j = I 41 j) → J 24 3 = 9 → (∀ k, k < 9 → J 25 k = I 6 k) → J 37 0 = 0 → J 37 1 = 0 → J 44 1 = 0 → J 46 2 = 0 → J 9 15 = 0 → (∀ i, i ≠ 15 → J 9 i = I 9 i) → J 10 1 = 0 → J 10 6 = -1 → Φ (.inl (some (.int (nt τ.1)))) (mk n J L x)) : wpc (d + 12) 132 [.ref (9 : Nat), .int (nt N)] (mk n I L x) Φ := by
  obtain ⟨hT, h701, h71, hB⟩ := it_x hI.1 hz hzz hN
  have k12 : K6 12 := Or.inl rfl
  have k18 : K6 18 := Or.inr rfl
  have hin : (0 : Int32) ≤ nt N ∧ nt N ≤ 600 ∧ nt N ≤ I 10 1 := ⟨nt_ge (by omega), by rw [show (600 : Int32) = nt 600 from rfl, nt_le (by omega) (by decide)]; omega, by rw [hz, nt_le (by omega) (by omega)]; exact hN⟩
  have hG : SG (wrI I 10 2 (nt N)) 0 wd0 := by
    obtain ⟨g1, g2, g3, g4, g5⟩ := sg0 hI.1.2.2.2.2.2.2.2.1
    exact ⟨g1, by rw [wrI_ne (by decide)]; exact g2, g3, g4, by rw [wrI_ne (by decide)]; exact g5⟩
  have hJ0 : CT (RM (wrI I 10 2 (nt N)) (wrI I 10 2 (nt N))) (tS (wrI I 10 2 (nt N)) 0 0 0 (-1)) N (.inl 0) := by rw [RM_self]; exact ct_ok (a := 0) rfl (Nat.zero_le N)
  show wp (d + 12) 132 0 [.ref (9 : Nat), .int (nt N)] [] (mk n I L x) Φ
  simp (config := {decide := true}) only [r132_0, r132_1, r132_2, r132_5, r132_8, r132_9, r132_12, r132_13, r132_16, if_true, if_false, Nat.reduceAdd, Int32.reduceToNatClampNeg, lo_i, lo_r, lo_n, kont_v, kont_n, List.length_nil, List.length_cons, c175 hx, hin, k18]
  refine c75 hT hG hJ0 ?_ ?_
  · intro τ2 p2 hr2 G K hRc hK
    rw [wrI_ne (by decide), hr] at hr2
    cases hr2
    have e0 : flt (.inl p') = 0 := rfl
    obtain ⟨t1, t2, t3, t4, t5, t6, t7, t8⟩ := hRc
    have kG : ∀ r, 18 ≤ r → r ≤ 23 → K r = G r := fun r h1 h2 => by rw [CT_ne hK (by omega), RM_i ⟨h1, h2⟩]
    have kI : ∀ r, r ≠ 10 → (r < 18 ∨ 23 < r) → K r = I r := fun r h1 h2 => by rw [CT_ne hK h1, RM_o h2, wrI_ne h1]
    have k5 : K 10 5 = 0 ∧ K 10 6 = -1 := by
      obtain ⟨hp, s1, q1, hq1, rfl⟩ := hK
      exact ⟨tS_5, by rw [tS_6]; exact hq1⟩
    refine kont_n.mpr ?_
    simp (config := {decide := true}) only [r132_19, r132_20, r132_23, r132_26, r132_29, r132_30, r132_33, r132_34, r132_37, if_true, if_false, Nat.reduceAdd, Int32.reduceToNatClampNeg, lo_i, lo_r, lo_n, kont_v, kont_n, List.length_nil, List.length_cons, c95t hK, e0, k12, k18]
    refine c74 (fun J2 a1 a2 a3 a4 a5 a6 a7 => kont_n.mpr ?_)
    simp (config := {decide := true}) only [r132_40, r132_41, if_true, if_false, Nat.reduceAdd, Int32.reduceToNatClampNeg, lo_i, lo_r, lo_n, kont_v, kont_n, List.length_nil, List.length_cons]
    refine c177 (fun J3 b1 b2 b3 b4 b5 b6 b7 b8 b9 b10 b11 => kont_n.mpr ?_)
    have j10 : J3 10 = K 10 := by rw [b1 10 (by decide) (by decide) (by decide) (by decide) (by decide) (by decide) (by decide), a1 10 (by decide)]
    have j5 : J3 10 5 = 0 := by rw [j10]; exact k5.1
    have j12 : J3 12 = J2 12 := b1 12 (by decide) (by decide) (by decide) (by decide) (by decide) (by decide) (by decide)
    have e12 : J3 12 5 = nt τ.1 := by rw [j12, a2.1, kG 18 (by decide) (by decide)]; exact t1
    have jr : ∀ r, 13 ≤ r → r ≤ 17 → J3 r = J2 r := fun r h1 h2 => b1 r (by omega) (by omega) (by omega) (by omega) (by omega) (by omega) (by omega)
    simp (config := {decide := true}) only [r132_44, r132_45, r132_46, r132_49, r132_52, r132_55, if_true, if_false, Nat.reduceAdd, Int32.reduceToNatClampNeg, lo_i, lo_r, lo_n, kont_v, kont_n, List.length_nil, List.length_cons, k12, c176g, j5, e12]
    refine h _ (fun r hr => ?_) ⟨?_, ?_⟩ (fun k hk => ?_) (fun k hk => ?_) (fun k hk => ?_) (fun j hj => ?_) (fun j hj => ?_) ?_ (fun k hk => ?_) ?_ ?_ ?_ ?_ ?_ (fun i hi => ?_) ?_ ?_
    · rw [wrI_ne (by omega), b1 r (by omega) (by omega) (by omega) (by omega) (by omega) (by omega) (by omega), a1 r (by omega), kI r (by omega) (by omega)]
    · rw [wrI_ne (by decide)]; exact e12
    · rw [wrI_ne (by decide), j12, a2.2.1, kG 18 (by decide) (by decide)]; exact t2
    · rw [wrI_ne (by decide), jr 13 (by decide) (by decide), a3 k hk, kG 19 (by decide) (by decide)]; exact t4 k hk
    · rw [wrI_ne (by decide), jr 14 (by decide) (by decide), a4 k hk, kG 20 (by decide) (by decide)]; exact t5 k hk
    · rw [wrI_ne (by decide), jr 15 (by decide) (by decide), a5 k hk, kG 21 (by decide) (by decide)]; exact t6 k hk
    · rw [wrI_ne (by decide), b2 j hj]
      unfold frsh frT
      by_cases q1 : j < 6
      · rw [if_pos q1, if_pos q1, a6 j q1, kG 22 (by decide) (by decide)]; exact t7 j q1
      · rw [if_neg q1, if_neg q1]
        by_cases q2 : j < 12
        · rw [if_pos q2, if_pos q2]
        · rw [if_neg q2, if_neg q2]
          by_cases q3 : j < 18
          · rw [if_pos q3, if_pos q3]
          · rw [if_neg q3, if_neg q3]
            by_cases q4 : j < 60
            · rw [if_pos q4, if_pos q4, a7 (j - 18) (by omega), kG 23 (by decide) (by decide)]; exact t8 (j - 18) (by omega)
            · rw [if_neg q4, if_neg q4]
              by_cases q5 : j < 67
              · rw [if_pos q5, if_pos q5]
              · rw [if_neg q5, if_neg q5]
                by_cases q6 : j = 83
                · rw [if_pos q6, if_pos q6, a2.2.2, kG 18 (by decide) (by decide)]; exact t3
                · rw [if_neg q6, if_neg q6]
    · rw [wrI_ne (by decide), b3 j hj, a1 41 (by decide), kI 41 (by decide) (by decide)]
    · rw [wrI_ne (by decide)]; exact b4
    · rw [wrI_ne (by decide), b5 k hk, a1 6 (by decide), kI 6 (by decide) (by decide)]
    · rw [wrI_ne (by decide)]; exact b6
    · rw [wrI_ne (by decide)]; exact b7
    · rw [wrI_ne (by decide)]; exact b8
    · rw [wrI_ne (by decide)]; exact b9
    · rw [wrI_ne (by decide)]; exact b10
    · rw [wrI_ne (by decide), b11 i hi, a1 9 (by decide), kI 9 (by decide) (by decide)]
    · rw [wr_eq]
    · rw [wr_k (by decide), j10]; exact k5.2
  · intro e hr2
    rw [wrI_ne (by decide), hr] at hr2
    cases hr2
theorem c132b (hx : x + 1 ≤ 600) (hI : LI I) (hz : I 10 1 = nt z) (hzz : z ≤ 600) (hN : N ≤ z) {e : Nat × Nat} (hr : rRp (I 11) N 61 0 sg0r 0 = .inr e) (h : e.1 ≠ 0 → e.1 < 10 → ∀ J, (∀ r, r ≠ 10 → (r < 18 ∨ 23 < r) → J r = I r) → J 10 1 = 0 → J 10 6 = nt e.2 → Φ (.inl (some (.int (nt e.1 - 10)))) (mk n J L x)) : wpc (d + 12) 132 [.ref (9 : Nat), .int (nt N)] (mk n I L x) Φ := by
  obtain ⟨hT, h701, h71, hB⟩ := it_x hI.1 hz hzz hN
  have k12 : K6 12 := Or.inl rfl
  have k18 : K6 18 := Or.inr rfl
  have hin : (0 : Int32) ≤ nt N ∧ nt N ≤ 600 ∧ nt N ≤ I 10 1 := ⟨nt_ge (by omega), by rw [show (600 : Int32) = nt 600 from rfl, nt_le (by omega) (by decide)]; omega, by rw [hz, nt_le (by omega) (by omega)]; exact hN⟩
  have hG : SG (wrI I 10 2 (nt N)) 0 wd0 := by
    obtain ⟨g1, g2, g3, g4, g5⟩ := sg0 hI.1.2.2.2.2.2.2.2.1
    exact ⟨g1, by rw [wrI_ne (by decide)]; exact g2, g3, g4, by rw [wrI_ne (by decide)]; exact g5⟩
  have hJ0 : CT (RM (wrI I 10 2 (nt N)) (wrI I 10 2 (nt N))) (tS (wrI I 10 2 (nt N)) 0 0 0 (-1)) N (.inl 0) := by rw [RM_self]; exact ct_ok (a := 0) rfl (Nat.zero_le N)
  show wp (d + 12) 132 0 [.ref (9 : Nat), .int (nt N)] [] (mk n I L x) Φ
  simp (config := {decide := true}) only [r132_0, r132_1, r132_2, r132_5, r132_8, r132_9, r132_12, r132_13, r132_16, if_true, if_false, Nat.reduceAdd, Int32.reduceToNatClampNeg, lo_i, lo_r, lo_n, kont_v, kont_n, List.length_nil, List.length_cons, c175 hx, hin, k18]
  refine c75 hT hG hJ0 ?_ ?_
  · intro τ2 p2 hr2
    rw [wrI_ne (by decide), hr] at hr2
    cases hr2
  · intro e2 hr2 G K hK
    rw [wrI_ne (by decide), hr] at hr2
    cases hr2
    obtain ⟨h0, h1, a1, s1, ha1, rfl⟩ := id hK
    have e0 : ¬ flt (.inr e) = 0 := h0
    have hk := kf h0 h1
    refine kont_n.mpr ?_
    simp (config := {decide := true}) only [r132_19, r132_20, r132_23, r132_26, r132_44, r132_45, r132_46, r132_49, r132_52, r132_55, if_true, if_false, Nat.reduceAdd, Int32.reduceToNatClampNeg, lo_i, lo_r, lo_n, kont_v, kont_n, List.length_nil, List.length_cons, c95t hK, e0, k12, c176, hk]
    refine h h0 h1 _ (fun r h1 h3 => ?_) ?_ ?_
    · rw [tS_ne h1, wrI_ne h1, RM_o h3, wrI_ne h1]
    · rw [tS_1, wr_eq]
    · rw [tS_6]
theorem c132x (hx : x + 1 ≤ 600) (hv : ¬ (0 ≤ v ∧ v ≤ 600 ∧ v ≤ I 10 1)) : wpc (d + 12) 132 [.ref (9 : Nat), .int v] (mk n I L x) Φ ↔ Φ (.inr 2) (mk n (wrI I 9 17 (I 9 17 + 1)) L (x + 1)) := by
  show wp (d + 12) 132 0 [.ref (9 : Nat), .int v] [] (mk n I L x) Φ ↔ _
  simp (config := {decide := true}) only [r132_0, r132_1, r132_2, r132_5, if_true, if_false, Nat.reduceAdd, Int32.reduceToNatClampNeg, lo_i, lo_r, lo_n, kont_v, kont_n, List.length_nil, List.length_cons, c175 hx, hv, kx]
end Rx

