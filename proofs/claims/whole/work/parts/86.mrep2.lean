/-! A REPUBLIC, read: clauses of the reference -/
section Mu
variable {d n x N a b told : Nat} {B : Nat → Int32} {Φ : POut → PM → Prop} {I J K G : Nat → Nat → Int32} {L : Nat → Nat → Int64} {v w c p s q lo hi : Int32} {g : Nat → Int32} {σ τ : RSt} {t : LSt} {r i : Nat}

theorem m218_0 (hX0 : MX I N B) (hM : MB I J) (hR : Rm J σ) (h7 : J 70 7 = nt told) (hn : σ.1 < 7) (hb : σ.1 ≤ 7 ∧ σ.2.1 ≤ 6) (hK : MT J K N (.inl a)) {v3 v4 v5 : Value} (tg : ∀ u p', r2 B N 1 60 1 9 a = .inl (u, p') → ∀ J' K', MB I J' → J' 73 = J 73 → J' 70 7 = nt told → (∀ r, r ≠ 76 + σ.1 → J' r = J r) → J' (76 + σ.1) 0 = nt u.1 → J' (76 + σ.1) 1 = nt u.2 → MT J' K' N (.inl p') → wp (d + 5) 218 274 [.ref (70 : Nat), .int 0, .int (nt σ.1), v3, v4, v5] [] (mk n K' L x) Φ) (tb : ∀ e, r2 B N 1 60 1 9 a = .inr e → ∀ J' K', MB I J' → MT J' K' N (.inr e) → wp (d + 5) 218 274 [.ref (70 : Nat), .int 0, .int (nt σ.1), v3, v4, v5] [] (mk n K' L x) Φ) : wp (d + 5) 218 124 [.ref (70 : Nat), .int 0, .int (nt σ.1), v3, v4, v5] [] (mk n K L x) Φ := by
  have hX := MX_mb hM hX0
  have sA : sh0 n 75 = (22, 7, (sh0 n 75).2.2) := eq_of_heq HEq.rfl
  have g4 : (sh0 n 75).1 = 22 := by rw [sA]
  have g5 : (sh0 n 75).2.1 = 7 := by rw [sA]
  have g1 : (nt σ.1).toNatClampNeg = σ.1 := nt_clamp (by omega)
  have g2 : (0 : Int32) ≤ nt σ.1 := nt_ge (by omega)
  have g6 : sh0 n (75 + 1 + σ.1) = (20, 2, []) := by
    generalize σ.1 = z at hn
    have : z = 0 ∨ z = 1 ∨ z = 2 ∨ z = 3 ∨ z = 4 ∨ z = 5 ∨ z = 6 := by omega
    rcases this with rfl | rfl | rfl | rfl | rfl | rfl | rfl <;> rfl
  have g7 : 75 + 1 + σ.1 < 560 := by omega
  have g8 : 9 ≤ 75 + 1 + σ.1 := by omega
  have ms : mset (75 + 1 + σ.1) = true := decide_eq_true (by omega)
  have r70 : 75 + 1 + σ.1 ≠ 70 := by omega
  have bad2 : ∀ e, r2 B N 1 60 1 9 a = .inr e → ∀ J' K' v, MB I J' → MT J' K' N (.inr e) → wp (d + 5) 218 153 [.ref (70 : Nat), .int 0, .int (nt σ.1), v3, v4, v5] [.int v, .int 1, .ref (75 + 1 + σ.1)] (mk n K' L x) Φ := by
    intro e he J' K' v hM' hK'
    simp (config := {decide := true}) only [r218_153, r218_154, if_true, if_false, Nat.reduceAdd, Int32.reduceToNatClampNeg, lo_i, lo_r, lo_n, kont_v, kont_n, List.length_nil, List.length_cons, g6, g7, g8]
    exact tb e he _ _ (MB_up hM' ms) (MT_up hK' r70)
  have bad1 : ∀ e, r2 B N 1 60 1 9 a = .inr e → ∀ J' K' v, MB I J' → MT J' K' N (.inr e) → wp (d + 5) 218 138 [.ref (70 : Nat), .int 0, .int (nt σ.1), v3, v4, v5] [.int v, .int 0, .ref (75 + 1 + σ.1)] (mk n K' L x) Φ := by
    intro e he J' K' v hM' hK'
    simp (config := {decide := true}) only [r218_138, r218_139, r218_140, r218_143, r218_144, r218_145, r218_146, r218_147, r218_148, r218_150, if_true, if_false, Nat.reduceAdd, Int32.reduceToNatClampNeg, lo_i, lo_r, lo_n, kont_v, kont_n, List.length_nil, List.length_cons, g6, g7, g8, g4, g5, g1, g2, hn]
    exact m204f (MX_mb (MB_up hM' ms) hX0) (MT_up hK' r70) (by decide) (fun K2 hK2 => kont_v.mpr (bad2 e he _ K2 0 (MB_up hM' ms) hK2))
  simp (config := {decide := true}) only [r218_124, r218_125, r218_128, r218_129, r218_130, r218_131, r218_132, r218_133, r218_135, if_true, if_false, Nat.reduceAdd, Int32.reduceToNatClampNeg, lo_i, lo_r, lo_n, kont_v, kont_n, List.length_nil, List.length_cons, g4, g5, g1, g2, hn]
  refine m204a hX hK (by decide) ?_ ?_
  · intro V1 p1 hn1 K1 hK1
    refine kont_v.mpr ?_
    simp (config := {decide := true}) only [r218_138, r218_139, r218_140, r218_143, r218_144, r218_145, r218_146, r218_147, r218_148, r218_150, if_true, if_false, Nat.reduceAdd, Int32.reduceToNatClampNeg, lo_i, lo_r, lo_n, kont_v, kont_n, List.length_nil, List.length_cons, g6, g7, g8, g4, g5, g1, g2, hn]
    have hK2 := MT_up (r := 75 + 1 + σ.1) (g := upd (K1 (75 + 1 + σ.1)) 0 (nt V1)) hK1 r70
    have hM2 := MB_up (r := 75 + 1 + σ.1) (g := upd (K1 (75 + 1 + σ.1)) 0 (nt V1)) hM ms
    rw [wr_raw]
    refine m204a (MX_mb hM2 hX0) hK2 (by decide) ?_ ?_
    · intro V2 p2 hn2 K3 hK3
      refine kont_v.mpr ?_
      simp (config := {decide := true}) only [r218_153, r218_154, if_true, if_false, Nat.reduceAdd, Int32.reduceToNatClampNeg, lo_i, lo_r, lo_n, kont_v, kont_n, List.length_nil, List.length_cons, g6, g7, g8]
      have hK4 := MT_up (r := 75 + 1 + σ.1) (g := upd (K3 (75 + 1 + σ.1)) 1 (nt V2)) hK3 r70
      have hM4 := MB_up (r := 75 + 1 + σ.1) (g := upd (K3 (75 + 1 + σ.1)) 1 (nt V2)) hM2 ms
      have e3 : K3 (75 + 1 + σ.1) = upd (K1 (75 + 1 + σ.1)) 0 (nt V1) := by rw [MT_ne hK3 r70, upR_same]
      rw [wr_raw]
      refine tg (V1, V2) p2 (by unfold r2; rw [hn1]; simp only []; rw [hn2]) _ _ hM4 (by rw [upR_ne (by omega), upR_ne (by omega)]) (by rw [upR_ne (by omega), upR_ne (by omega)]; exact h7) (fun r hr => by rw [upR_ne (by omega), upR_ne (by omega)]) ?_ ?_ hK4
      · rw [show 76 + σ.1 = 75 + 1 + σ.1 by omega, upR_same, up_ne (by decide), e3, up_same]
      · rw [show 76 + σ.1 = 75 + 1 + σ.1 by omega, upR_same, up_same]
    · intro e he K3 hK3
      exact kont_v.mpr (bad2 e (by unfold r2; rw [hn1]; simp only []; rw [he]) _ K3 0 hM2 hK3)
  · intro e he K1 hK1
    exact kont_v.mpr (bad1 e (by unfold r2; rw [he]) _ K1 0 hM hK1)

theorem m218_1 (hX0 : MX I N B) (hM : MB I J) (hR : Rm J σ) (h7 : J 70 7 = nt told) (hn : σ.2.1 < 6) (hb : σ.1 ≤ 7 ∧ σ.2.1 ≤ 6) (hK : MT J K N (.inl a)) {v3 v4 v5 : Value} (tg : ∀ u p', r2 B N 1 30 0 20 a = .inl (u, p') → ∀ J' K', MB I J' → J' 73 = J 73 → J' 70 7 = nt told → (∀ r, r ≠ 92 + σ.2.1 → J' r = J r) → J' (92 + σ.2.1) 0 = nt u.1 → J' (92 + σ.2.1) 1 = nt u.2 → MT J' K' N (.inl p') → wp (d + 5) 218 274 [.ref (70 : Nat), .int 1, .int (nt σ.2.1), v3, v4, v5] [] (mk n K' L x) Φ) (tb : ∀ e, r2 B N 1 30 0 20 a = .inr e → ∀ J' K', MB I J' → MT J' K' N (.inr e) → wp (d + 5) 218 274 [.ref (70 : Nat), .int 1, .int (nt σ.2.1), v3, v4, v5] [] (mk n K' L x) Φ) : wp (d + 5) 218 157 [.ref (70 : Nat), .int 1, .int (nt σ.2.1), v3, v4, v5] [] (mk n K L x) Φ := by
  have hX := MX_mb hM hX0
  have sA : sh0 n 91 = (22, 6, (sh0 n 91).2.2) := eq_of_heq HEq.rfl
  have g4 : (sh0 n 91).1 = 22 := by rw [sA]
  have g5 : (sh0 n 91).2.1 = 6 := by rw [sA]
  have g1 : (nt σ.2.1).toNatClampNeg = σ.2.1 := nt_clamp (by omega)
  have g2 : (0 : Int32) ≤ nt σ.2.1 := nt_ge (by omega)
  have g6 : sh0 n (91 + 1 + σ.2.1) = (20, 2, []) := by
    generalize σ.2.1 = z at hn
    have : z = 0 ∨ z = 1 ∨ z = 2 ∨ z = 3 ∨ z = 4 ∨ z = 5 := by omega
    rcases this with rfl | rfl | rfl | rfl | rfl | rfl <;> rfl
  have g7 : 91 + 1 + σ.2.1 < 560 := by omega
  have g8 : 9 ≤ 91 + 1 + σ.2.1 := by omega
  have ms : mset (91 + 1 + σ.2.1) = true := decide_eq_true (by omega)
  have r70 : 91 + 1 + σ.2.1 ≠ 70 := by omega
  have bad2 : ∀ e, r2 B N 1 30 0 20 a = .inr e → ∀ J' K' v, MB I J' → MT J' K' N (.inr e) → wp (d + 5) 218 186 [.ref (70 : Nat), .int 1, .int (nt σ.2.1), v3, v4, v5] [.int v, .int 1, .ref (91 + 1 + σ.2.1)] (mk n K' L x) Φ := by
    intro e he J' K' v hM' hK'
    simp (config := {decide := true}) only [r218_186, r218_187, if_true, if_false, Nat.reduceAdd, Int32.reduceToNatClampNeg, lo_i, lo_r, lo_n, kont_v, kont_n, List.length_nil, List.length_cons, g6, g7, g8]
    exact tb e he _ _ (MB_up hM' ms) (MT_up hK' r70)
  have bad1 : ∀ e, r2 B N 1 30 0 20 a = .inr e → ∀ J' K' v, MB I J' → MT J' K' N (.inr e) → wp (d + 5) 218 171 [.ref (70 : Nat), .int 1, .int (nt σ.2.1), v3, v4, v5] [.int v, .int 0, .ref (91 + 1 + σ.2.1)] (mk n K' L x) Φ := by
    intro e he J' K' v hM' hK'
    simp (config := {decide := true}) only [r218_171, r218_172, r218_173, r218_176, r218_177, r218_178, r218_179, r218_180, r218_181, r218_183, if_true, if_false, Nat.reduceAdd, Int32.reduceToNatClampNeg, lo_i, lo_r, lo_n, kont_v, kont_n, List.length_nil, List.length_cons, g6, g7, g8, g4, g5, g1, g2, hn]
    exact m204f (MX_mb (MB_up hM' ms) hX0) (MT_up hK' r70) (by decide) (fun K2 hK2 => kont_v.mpr (bad2 e he _ K2 0 (MB_up hM' ms) hK2))
  simp (config := {decide := true}) only [r218_157, r218_158, r218_161, r218_162, r218_163, r218_164, r218_165, r218_166, r218_168, if_true, if_false, Nat.reduceAdd, Int32.reduceToNatClampNeg, lo_i, lo_r, lo_n, kont_v, kont_n, List.length_nil, List.length_cons, g4, g5, g1, g2, hn]
  refine m204a hX hK (by decide) ?_ ?_
  · intro V1 p1 hn1 K1 hK1
    refine kont_v.mpr ?_
    simp (config := {decide := true}) only [r218_171, r218_172, r218_173, r218_176, r218_177, r218_178, r218_179, r218_180, r218_181, r218_183, if_true, if_false, Nat.reduceAdd, Int32.reduceToNatClampNeg, lo_i, lo_r, lo_n, kont_v, kont_n, List.length_nil, List.length_cons, g6, g7, g8, g4, g5, g1, g2, hn]
    have hK2 := MT_up (r := 91 + 1 + σ.2.1) (g := upd (K1 (91 + 1 + σ.2.1)) 0 (nt V1)) hK1 r70
    have hM2 := MB_up (r := 91 + 1 + σ.2.1) (g := upd (K1 (91 + 1 + σ.2.1)) 0 (nt V1)) hM ms
    rw [wr_raw]
    refine m204a (MX_mb hM2 hX0) hK2 (by decide) ?_ ?_
    · intro V2 p2 hn2 K3 hK3
      refine kont_v.mpr ?_
      simp (config := {decide := true}) only [r218_186, r218_187, if_true, if_false, Nat.reduceAdd, Int32.reduceToNatClampNeg, lo_i, lo_r, lo_n, kont_v, kont_n, List.length_nil, List.length_cons, g6, g7, g8]
      have hK4 := MT_up (r := 91 + 1 + σ.2.1) (g := upd (K3 (91 + 1 + σ.2.1)) 1 (nt V2)) hK3 r70
      have hM4 := MB_up (r := 91 + 1 + σ.2.1) (g := upd (K3 (91 + 1 + σ.2.1)) 1 (nt V2)) hM2 ms
      have e3 : K3 (91 + 1 + σ.2.1) = upd (K1 (91 + 1 + σ.2.1)) 0 (nt V1) := by rw [MT_ne hK3 r70, upR_same]
      rw [wr_raw]
      refine tg (V1, V2) p2 (by unfold r2; rw [hn1]; simp only []; rw [hn2]) _ _ hM4 (by rw [upR_ne (by omega), upR_ne (by omega)]) (by rw [upR_ne (by omega), upR_ne (by omega)]; exact h7) (fun r hr => by rw [upR_ne (by omega), upR_ne (by omega)]) ?_ ?_ hK4
      · rw [show 92 + σ.2.1 = 91 + 1 + σ.2.1 by omega, upR_same, up_ne (by decide), e3, up_same]
      · rw [show 92 + σ.2.1 = 91 + 1 + σ.2.1 by omega, upR_same, up_same]
    · intro e he K3 hK3
      exact kont_v.mpr (bad2 e (by unfold r2; rw [hn1]; simp only []; rw [he]) _ K3 0 hM2 hK3)
  · intro e he K1 hK1
    exact kont_v.mpr (bad1 e (by unfold r2; rw [he]) _ K1 0 hM hK1)

end Mu

