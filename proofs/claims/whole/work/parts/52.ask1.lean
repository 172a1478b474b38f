/-! QUESTIONS: the plain ones -/
section Q1
variable {d n x c : Nat} {Φ : POut → PM → Prop} {I J : Nat → Nat → Int32} {L : Nat → Nat → Int64} {k s h v w a b clocks hr l9 n9 d9 s9 h9 y9 a9 p9 z9 : Int32} {p q : Scr}
theorem b10 (hz : I 70 0 = 0) : wpc d 193 [.ref (70 : Nat), .int b, .int 1, .int 0] (mk n I L x) Φ ↔ if b = 0 then Φ (.inl (some (.int 0))) (mk n I L x) else Φ (.inl (some (.int 1))) (mk n (wrI (wrI I 70 0 1) 72 0 (I 72 0 + 1)) L x) := m193 (t := 0) hz (by decide) (by decide)
theorem b11 (hz : I 70 0 = 0) : wpc d 193 [.ref (70 : Nat), .int b, .int 1, .int 1] (mk n I L x) Φ ↔ if b = 0 then Φ (.inl (some (.int 0))) (mk n I L x) else Φ (.inl (some (.int 1))) (mk n (wrI (wrI I 70 0 1) 72 1 (I 72 1 + 1)) L x) := m193 (t := 1) hz (by decide) (by decide)
theorem b21 (hz : I 70 0 = 0) : wpc d 193 [.ref (70 : Nat), .int b, .int 2, .int 1] (mk n I L x) Φ ↔ if b = 0 then Φ (.inl (some (.int 0))) (mk n I L x) else Φ (.inl (some (.int 1))) (mk n (wrI (wrI I 70 0 2) 72 1 (I 72 1 + 1)) L x) := m193 (t := 1) hz (by decide) (by decide)
/-- lines of the book: as many as there are bits -/
theorem oc7 : ∀ p0 p1 p2 p3 p4 p5 p6 : Bool, ∀ j, j < 7 → [p0, p1, p2, p3, p4, p5, p6].getD j false = false → bcI (wb (fun k => [p0, p1, p2, p3, p4, p5, p6].getD k false) 7 ||| bt j) = bcI (wb (fun k => [p0, p1, p2, p3, p4, p5, p6].getD k false) 7) + 1 ∧ wb (fun k => [p0, p1, p2, p3, p4, p5, p6].getD k false) 7 ||| bt j = wb (fun k => [p0, p1, p2, p3, p4, p5, p6].getD k false || k == j) 7 := by decide +kernel
theorem oc_one {c : Nat → Bool} {j : Nat} (hj : j < 7) (hc : c j = false) : bcI (wb c 7 ||| bt j) = bcI (wb c 7) + 1 ∧ wb c 7 ||| bt j = wb (fun k => c k || k == j) 7 := by
  have h := oc7 (c 0) (c 1) (c 2) (c 3) (c 4) (c 5) (c 6) j hj (by rw [wb_list c j hj]; exact hc)
  have e1 : wb (fun k => [c 0, c 1, c 2, c 3, c 4, c 5, c 6].getD k false) 7 = wb c 7 := wb_cong (fun k hk => wb_list c k hk)
  have e2 : wb (fun k => [c 0, c 1, c 2, c 3, c 4, c 5, c 6].getD k false || k == j) 7 = wb (fun k => c k || k == j) 7 := wb_cong (fun k hk => by rw [wb_list c k hk])
  rw [e1, e2] at h
  exact h
theorem nc0 : (nt 0).toNatClampNeg = 0 := rfl
theorem nc1 : (nt 1).toNatClampNeg = 1 := rfl
theorem book_wb {s : Nat → Nat} {m : Nat} (h7 : ∀ k, k < m → s k < 7) (hi : ∀ k j, k < m → j < m → s k = s j → k = j) : ∀ i, i ≤ m → foldN (fun k v => v ||| bt (s k)) i 0 = wb (fun j => (List.range i).any (fun k => s k == j)) 7 ∧ bcI (foldN (fun k v => v ||| bt (s k)) i 0) = nt i := by
  intro i
  induction i with
  | zero => intro _; exact ⟨(by decide : (0 : Int32) = wb (fun _ => false) 7), (by decide : bcI 0 = nt 0)⟩
  | succ i ih =>
    intro hm
    obtain ⟨e1, e2⟩ := ih (by omega)
    have hc : (List.range i).any (fun k => s k == s i) = false := by
      rw [List.any_eq_false]
      intro k hk he
      have hk := List.mem_range.mp hk
      have := hi k i (by omega) (by omega) (by simpa using he)
      omega
    obtain ⟨f1, f2⟩ := oc_one (c := fun j => (List.range i).any (fun k => s k == j)) (h7 i (by omega)) hc
    have es : foldN (fun k v => v ||| bt (s k)) (i + 1) 0 = foldN (fun k v => v ||| bt (s k)) i 0 ||| bt (s i) := rfl
    constructor
    · rw [es, e1, f2]
      refine wb_cong (fun j hj => ?_)
      rw [List.range_succ, List.any_append]
      simp only [List.any_cons, List.any_nil, Bool.or_false]
      rw [show (s i == j) = (j == s i) from by rw [Bool.eq_iff_iff, beq_iff_eq, beq_iff_eq]; exact eq_comm]
    · rw [es, ← nt_succ, ← e2, e1, f1]
theorem book_n (hI : Inv I) : bcI (I 37 0) = I 70 33 := by
  obtain ⟨m, s, b, b1, b2, b3, b4, b5, b6⟩ := hI.2.2.2.2.2.1
  rw [b2, b5]
  exact (book_wb (fun k hk => by have := (b3 k hk).1; have := inv_s7 hI; omega) b4 m (Nat.le_refl m)).2
def aTold (I : Nat → Nat → Int32) (w : Int32) : An := if 0 ≤ w ∧ w ≤ 11 then (.inl (if w = 0 then I 12 5 else if w = 1 then I 12 6 else if w = 2 then I 41 81 else if w = 3 then I 41 82 else if w = 4 then awk (I 41) else if w = 5 then ldr (I 41) else if w = 6 then 63 &&& (clf (I 41) (-1) ^^^ -1) else if w = 7 then stf (I 41) else if w = 8 then I 41 83 else if w = 9 then spt (I 41) else if w = 10 then bcI (I 37 0) else I 9 15)) else .inr (2, 1)
theorem t_aTold {I J : Nat → Nat → Int32} {w : Int32} (h : view J = view I) : aTold J w = aTold I w := by
  unfold aTold
  simp only [t12 h, t41 h, t37 h, t9 h]
theorem q138 (hI : Inv I) (hx : x + 1 ≤ 600) (h : resC n I L x Φ (aTold I w)) : wpc (d + 12) 138 [.ref (9 : Nat), .int w] (mk n I L x) Φ := by
  show wp (d + 12) 138 0 [.ref (9 : Nat), .int w] [] (mk n I L x) Φ
  unfold aTold at h
  have hC := hI.1.1
  by_cases g1 : 0 ≤ w ∧ w ≤ 11
  · rw [if_pos g1] at h
    have g2 := Int32.not_lt.mpr g1.1
    have g3 := Int32.not_lt.mpr g1.2
    simp (config := {decide := true}) only [r138_0, r138_1, r138_2, r138_5, r138_6, r138_8, r138_11, r138_12, r138_15, r138_16, r138_19, if_true, if_false, Nat.reduceAdd, Int32.reduceToNatClampNeg, lo_i, lo_r, lo_n, kont_v, kont_n, List.length_nil, List.length_cons, g2, g3, c181 hx]
    obtain ⟨k, hk, rfl⟩ := rgN (N := 11) (by decide) g1
    match k, hk with
    | 0, _ =>
      rw [r138_20 80 rfl]
      simp (config := {decide := true}) only [r138_80, r138_81, r138_84, r138_87, if_true, if_false, Nat.reduceAdd, Int32.reduceToNatClampNeg, lo_i, lo_r, lo_n, kont_v, kont_n, List.length_nil, List.length_cons, k12, k40, k37, c43 k40, c44 k40, c55 k40, c57 k40, c59 k40, c61 k40, c46 k40, c63 k40, c10 k37]
      exact okC h
    | 1, _ =>
      rw [r138_20 88 rfl]
      simp (config := {decide := true}) only [r138_88, r138_89, r138_92, r138_95, if_true, if_false, Nat.reduceAdd, Int32.reduceToNatClampNeg, lo_i, lo_r, lo_n, kont_v, kont_n, List.length_nil, List.length_cons, k12, k40, k37, c43 k40, c44 k40, c55 k40, c57 k40, c59 k40, c61 k40, c46 k40, c63 k40, c10 k37]
      exact okC h
    | 2, _ =>
      rw [r138_20 96 rfl]
      simp (config := {decide := true}) only [r138_96, r138_97, r138_100, r138_103, if_true, if_false, Nat.reduceAdd, Int32.reduceToNatClampNeg, lo_i, lo_r, lo_n, kont_v, kont_n, List.length_nil, List.length_cons, k12, k40, k37, c43 k40, c44 k40, c55 k40, c57 k40, c59 k40, c61 k40, c46 k40, c63 k40, c10 k37]
      exact okC h
    | 3, _ =>
      rw [r138_20 104 rfl]
      simp (config := {decide := true}) only [r138_104, r138_105, r138_108, r138_111, if_true, if_false, Nat.reduceAdd, Int32.reduceToNatClampNeg, lo_i, lo_r, lo_n, kont_v, kont_n, List.length_nil, List.length_cons, k12, k40, k37, c43 k40, c44 k40, c55 k40, c57 k40, c59 k40, c61 k40, c46 k40, c63 k40, c10 k37]
      exact okC h
    | 4, _ =>
      rw [r138_20 112 rfl]
      simp (config := {decide := true}) only [r138_112, r138_113, r138_116, r138_119, if_true, if_false, Nat.reduceAdd, Int32.reduceToNatClampNeg, lo_i, lo_r, lo_n, kont_v, kont_n, List.length_nil, List.length_cons, k12, k40, k37, c43 k40, c44 k40, c55 k40, c57 k40, c59 k40, c61 k40, c46 k40, c63 k40, c10 k37]
      exact okC h
    | 5, _ =>
      rw [r138_20 120 rfl]
      simp (config := {decide := true}) only [r138_120, r138_121, r138_124, r138_127, if_true, if_false, Nat.reduceAdd, Int32.reduceToNatClampNeg, lo_i, lo_r, lo_n, kont_v, kont_n, List.length_nil, List.length_cons, k12, k40, k37, c43 k40, c44 k40, c55 k40, c57 k40, c59 k40, c61 k40, c46 k40, c63 k40, c10 k37]
      exact okC h
    | 6, _ =>
      rw [r138_20 128 rfl]
      simp (config := {decide := true}) only [r138_128, r138_129, r138_132, r138_135, if_true, if_false, Nat.reduceAdd, Int32.reduceToNatClampNeg, lo_i, lo_r, lo_n, kont_v, kont_n, List.length_nil, List.length_cons, k12, k40, k37, c43 k40, c44 k40, c55 k40, c57 k40, c59 k40, c61 k40, c46 k40, c63 k40, c10 k37]
      exact okC h
    | 7, _ =>
      rw [r138_20 136 rfl]
      simp (config := {decide := true}) only [r138_136, r138_137, r138_140, r138_143, if_true, if_false, Nat.reduceAdd, Int32.reduceToNatClampNeg, lo_i, lo_r, lo_n, kont_v, kont_n, List.length_nil, List.length_cons, k12, k40, k37, c43 k40, c44 k40, c55 k40, c57 k40, c59 k40, c61 k40, c46 k40, c63 k40, c10 k37]
      exact okC h
    | 8, _ =>
      rw [r138_20 144 rfl]
      simp (config := {decide := true}) only [r138_144, r138_145, r138_148, r138_151, if_true, if_false, Nat.reduceAdd, Int32.reduceToNatClampNeg, lo_i, lo_r, lo_n, kont_v, kont_n, List.length_nil, List.length_cons, k12, k40, k37, c43 k40, c44 k40, c55 k40, c57 k40, c59 k40, c61 k40, c46 k40, c63 k40, c10 k37]
      exact okC h
    | 9, _ =>
      rw [r138_20 152 rfl]
      simp (config := {decide := true}) only [r138_152, r138_153, r138_156, r138_159, if_true, if_false, Nat.reduceAdd, Int32.reduceToNatClampNeg, lo_i, lo_r, lo_n, kont_v, kont_n, List.length_nil, List.length_cons, k12, k40, k37, c43 k40, c44 k40, c55 k40, c57 k40, c59 k40, c61 k40, c46 k40, c63 k40, c10 k37]
      exact okC h
    | 10, _ =>
      rw [r138_20 160 rfl]
      simp (config := {decide := true}) only [r138_160, r138_161, r138_164, r138_167, if_true, if_false, Nat.reduceAdd, Int32.reduceToNatClampNeg, lo_i, lo_r, lo_n, kont_v, kont_n, List.length_nil, List.length_cons, k12, k40, k37, c43 k40, c44 k40, c55 k40, c57 k40, c59 k40, c61 k40, c46 k40, c63 k40, c10 k37]
      exact okC h
    | 11, _ =>
      rw [r138_20 168 rfl]
      simp (config := {decide := true}) only [r138_168, r138_169, r138_172, if_true, if_false, Nat.reduceAdd, Int32.reduceToNatClampNeg, lo_i, lo_r, lo_n, kont_v, kont_n, List.length_nil, List.length_cons, k12, k40, k37, c43 k40, c44 k40, c55 k40, c57 k40, c59 k40, c61 k40, c46 k40, c63 k40, c10 k37]
      exact okC h
  · rw [if_neg g1] at h
    have g9 : w < 0 ∨ 11 < w := by
      rcases Int32.lt_or_le w 0 with q | q
      · exact Or.inl q
      · rcases Int32.lt_or_le 11 w with r | r
        · exact Or.inr r
        · exact absurd ⟨q, r⟩ g1
    rcases Int32.lt_or_le w 0 with q | q
    · simp (config := {decide := true}) only [r138_0, r138_1, r138_2, r138_5, r138_6, r138_8, r138_11, r138_12, r138_15, r138_16, r138_19, if_true, if_false, Nat.reduceAdd, Int32.reduceToNatClampNeg, lo_i, lo_r, lo_n, kont_v, kont_n, List.length_nil, List.length_cons, and_self, and_true, true_and, and_false, false_and, not_true, not_false_eq_true, true_or, or_true, bi_eq0, q, c181 hx, c179 hx, c180 hx, c182, c183, kx]
      exact exC2 h
    · have q2 := Int32.not_lt.mpr q
      have q3 := g9.resolve_left q2
      simp (config := {decide := true}) only [r138_0, r138_1, r138_2, r138_5, r138_6, r138_8, r138_11, r138_12, r138_15, r138_16, r138_19, if_true, if_false, Nat.reduceAdd, Int32.reduceToNatClampNeg, lo_i, lo_r, lo_n, kont_v, kont_n, List.length_nil, List.length_cons, and_self, and_true, true_and, and_false, false_and, not_true, not_false_eq_true, true_or, or_true, bi_eq0, q2, q3, c181 hx, c179 hx, c180 hx, c182, c183, kx]
      exact exC2 h
theorem u256 (hI : Inv I) (h : resM n I L x Φ (aTold I w)) : wpc (d + 12) 256 [.ref (70 : Nat), .int w] (mk n I L x) Φ := by
  show wp (d + 12) 256 0 [.ref (70 : Nat), .int w, noV, noV] [] (mk n I L x) Φ
  rw [r256_0, r256_1, r256_2]
  replace h := resM_z h
  rw [← t_aTold v70] at h
  replace hI := tr_Inv v70 hI
  have hz := z70 (I := I)
  generalize wrI I 70 0 0 = I at h hI hz ⊢
  unfold aTold at h
  have hM := hI.1
  by_cases g1 : 0 ≤ w ∧ w ≤ 11
  · rw [if_pos g1] at h
    simp (config := {decide := true}) only [r256_5, r256_6, r256_7, r256_8, r256_10, r256_13, r256_16, r256_17, r256_20, r256_21, r256_22, r256_23, r256_26, r256_29, r256_30, r256_31, r256_32, r256_33, r256_34, if_true, if_false, Nat.reduceAdd, Int32.reduceToNatClampNeg, lo_i, lo_r, lo_n, kont_v, kont_n, List.length_nil, List.length_cons, and_self, and_true, true_and, and_false, false_and, not_true, not_false_eq_true, true_or, or_true, bi_eq0, b10 hz, b11 hz, b21 hz, m194, m259, g1]
    rw [stc_cut hI.2.1.1 (inv_c6 hI)] at h
    have loop : ∀ Ψ : Int32 → Prop, (∀ b, Ψ b ↔ wp (d + 12) 256 74 [.ref (70 : Nat), .int w, .int b, .int (nt (cI I))] [] (mk n I L x) Φ) → (wp (d + 12) 256 35 [.ref (70 : Nat), .int w, .int 0, .int (nt 0)] [] (mk n I L x) Φ ↔ Ψ (foldN (fun k b => b ||| (if I 41 (6 + k) = -1 then 0 else bt k)) (cI I) 0)) := by
      intro Ψ hΨ
      refine loopN (P := fun k b => wp (d + 12) 256 35 [.ref (70 : Nat), .int w, .int b, .int (nt k)] [] (mk n I L x) Φ) (Q := Ψ) (n := cI I) ?_ ?_ 0
      · intro k t hk
        have h6 := inv_c6 hI
        have e1 : ¬ (nt (cI I) ≤ nt k) := nt_nle hk (by omega)
        have e2 : ((27 : Int32) + nt k).toNatClampNeg = 27 + k := ixc 27 k (by omega)
        have e3 : (0 : Int32) ≤ 27 + nt k := ixg 27 k (by omega)
        have e4 : 27 + k < 84 := by omega
        have e5 : vc (I 41) (27 + k) = I 41 (6 + k) := vc_hi' (b := 6) (by omega)
        rw [r256_35]
        simp (config := {decide := true}) only [r256_36, r256_37, r256_40, r256_41, r256_42, r256_45, r256_46, r256_47, r256_50, r256_52, r256_53, r256_54, r256_55, r256_56, r256_59, r256_60, r256_63, r256_64, r256_65, r256_66, r256_67, r256_68, r256_71, if_true, if_false, Nat.reduceAdd, Int32.reduceToNatClampNeg, lo_i, lo_r, lo_n, kont_v, kont_n, List.length_nil, List.length_cons, nt_succ, s74, hI.1.2.1.2, e1, e2, e3, e4, e5, s534, hI.2.1.2, bt]
        by_cases h1 : I 41 (6 + k) = -1 <;> simp only [h1, if_true, if_false]
      · intro t
        have e6 : nt (cI I) ≤ nt (cI I) := Int32.le_refl _
        rw [r256_35]
        simp (config := {decide := true}) only [r256_36, r256_37, r256_40, r256_41, r256_42, r256_45, r256_46, r256_47, r256_50, r256_52, r256_53, r256_54, r256_55, r256_56, r256_59, r256_60, r256_63, r256_64, r256_65, r256_66, r256_67, r256_68, r256_71, if_true, if_false, Nat.reduceAdd, Int32.reduceToNatClampNeg, lo_i, lo_r, lo_n, kont_v, kont_n, List.length_nil, List.length_cons, s74, hI.1.2.1.2, e6]
        exact (hΨ t).symm
    refine (loop (fun b => wp (d + 12) 256 74 [.ref (70 : Nat), .int w, .int b, .int (nt (cI I))] [] (mk n I L x) Φ) (fun b => Iff.rfl)).mpr ?_
    generalize foldN (fun k b => b ||| (if I 41 (6 + k) = -1 then 0 else bt k)) (cI I) 0 = B at h ⊢
    rw [r256_74]
    obtain ⟨k, hk, rfl⟩ := rgN (N := 11) (by decide) g1
    match k, hk with
    | 0, _ =>
      rw [r256_75 132 rfl]
      simp (config := {decide := true}) only [r256_132, r256_133, r256_136, r256_137, r256_138, if_true, if_false, Nat.reduceAdd, Int32.reduceToNatClampNeg, lo_i, lo_r, lo_n, kont_v, kont_n, List.length_nil, List.length_cons, s74, s534, hI.2.1.2, inv_ts hI, inv_tc hI, vc_81, vc_82, vc_83, n239 hI, n245 hI, n255 hI, n254 hI, (book_n hI).symm, hI.2.2.2.2.2.2.2.2, nc0, nc1]
      exact oqM h hz
    | 1, _ =>
      rw [r256_75 132 rfl]
      simp (config := {decide := true}) only [r256_132, r256_133, r256_136, r256_137, r256_138, if_true, if_false, Nat.reduceAdd, Int32.reduceToNatClampNeg, lo_i, lo_r, lo_n, kont_v, kont_n, List.length_nil, List.length_cons, s74, s534, hI.2.1.2, inv_ts hI, inv_tc hI, vc_81, vc_82, vc_83, n239 hI, n245 hI, n255 hI, n254 hI, (book_n hI).symm, hI.2.2.2.2.2.2.2.2, nc0, nc1]
      exact oqM h hz
    | 2, _ =>
      rw [r256_75 139 rfl]
      simp (config := {decide := true}) only [r256_139, r256_140, r256_143, r256_145, r256_146, if_true, if_false, Nat.reduceAdd, Int32.reduceToNatClampNeg, lo_i, lo_r, lo_n, kont_v, kont_n, List.length_nil, List.length_cons, s74, s534, hI.2.1.2, inv_ts hI, inv_tc hI, vc_81, vc_82, vc_83, n239 hI, n245 hI, n255 hI, n254 hI, (book_n hI).symm, hI.2.2.2.2.2.2.2.2, nc0, nc1]
      exact oqM h hz
    | 3, _ =>
      rw [r256_75 147 rfl]
      simp (config := {decide := true}) only [r256_147, r256_148, r256_151, r256_153, r256_154, if_true, if_false, Nat.reduceAdd, Int32.reduceToNatClampNeg, lo_i, lo_r, lo_n, kont_v, kont_n, List.length_nil, List.length_cons, s74, s534, hI.2.1.2, inv_ts hI, inv_tc hI, vc_81, vc_82, vc_83, n239 hI, n245 hI, n255 hI, n254 hI, (book_n hI).symm, hI.2.2.2.2.2.2.2.2, nc0, nc1]
      exact oqM h hz
    | 4, _ =>
      rw [r256_75 155 rfl]
      simp (config := {decide := true}) only [r256_155, r256_156, r256_157, r256_160, r256_163, if_true, if_false, Nat.reduceAdd, Int32.reduceToNatClampNeg, lo_i, lo_r, lo_n, kont_v, kont_n, List.length_nil, List.length_cons, s74, s534, hI.2.1.2, inv_ts hI, inv_tc hI, vc_81, vc_82, vc_83, n239 hI, n245 hI, n255 hI, n254 hI, (book_n hI).symm, hI.2.2.2.2.2.2.2.2, nc0, nc1]
      exact oqM h hz
    | 5, _ =>
      rw [r256_75 164 rfl]
      simp (config := {decide := true}) only [r256_164, r256_165, r256_166, r256_169, r256_172, if_true, if_false, Nat.reduceAdd, Int32.reduceToNatClampNeg, lo_i, lo_r, lo_n, kont_v, kont_n, List.length_nil, List.length_cons, s74, s534, hI.2.1.2, inv_ts hI, inv_tc hI, vc_81, vc_82, vc_83, n239 hI, n245 hI, n255 hI, n254 hI, (book_n hI).symm, hI.2.2.2.2.2.2.2.2, nc0, nc1]
      exact oqM h hz
    | 6, _ =>
      rw [r256_75 173 rfl]
      simp (config := {decide := true}) only [r256_173, r256_174, if_true, if_false, Nat.reduceAdd, Int32.reduceToNatClampNeg, lo_i, lo_r, lo_n, kont_v, kont_n, List.length_nil, List.length_cons, s74, s534, hI.2.1.2, inv_ts hI, inv_tc hI, vc_81, vc_82, vc_83, n239 hI, n245 hI, n255 hI, n254 hI, (book_n hI).symm, hI.2.2.2.2.2.2.2.2, nc0, nc1]
      exact oqM h hz
    | 7, _ =>
      rw [r256_75 175 rfl]
      simp (config := {decide := true}) only [r256_175, r256_176, r256_177, r256_180, r256_183, if_true, if_false, Nat.reduceAdd, Int32.reduceToNatClampNeg, lo_i, lo_r, lo_n, kont_v, kont_n, List.length_nil, List.length_cons, s74, s534, hI.2.1.2, inv_ts hI, inv_tc hI, vc_81, vc_82, vc_83, n239 hI, n245 hI, n255 hI, n254 hI, (book_n hI).symm, hI.2.2.2.2.2.2.2.2, nc0, nc1]
      exact oqM h hz
    | 8, _ =>
      rw [r256_75 184 rfl]
      simp (config := {decide := true}) only [r256_184, r256_185, r256_188, r256_190, r256_191, if_true, if_false, Nat.reduceAdd, Int32.reduceToNatClampNeg, lo_i, lo_r, lo_n, kont_v, kont_n, List.length_nil, List.length_cons, s74, s534, hI.2.1.2, inv_ts hI, inv_tc hI, vc_81, vc_82, vc_83, n239 hI, n245 hI, n255 hI, n254 hI, (book_n hI).symm, hI.2.2.2.2.2.2.2.2, nc0, nc1]
      exact oqM h hz
    | 9, _ =>
      rw [r256_75 192 rfl]
      simp (config := {decide := true}) only [r256_192, r256_193, r256_194, r256_197, r256_200, if_true, if_false, Nat.reduceAdd, Int32.reduceToNatClampNeg, lo_i, lo_r, lo_n, kont_v, kont_n, List.length_nil, List.length_cons, s74, s534, hI.2.1.2, inv_ts hI, inv_tc hI, vc_81, vc_82, vc_83, n239 hI, n245 hI, n255 hI, n254 hI, (book_n hI).symm, hI.2.2.2.2.2.2.2.2, nc0, nc1]
      exact oqM h hz
    | 10, _ =>
      rw [r256_75 201 rfl]
      simp (config := {decide := true}) only [r256_201, r256_202, r256_205, if_true, if_false, Nat.reduceAdd, Int32.reduceToNatClampNeg, lo_i, lo_r, lo_n, kont_v, kont_n, List.length_nil, List.length_cons, s74, s534, hI.2.1.2, inv_ts hI, inv_tc hI, vc_81, vc_82, vc_83, n239 hI, n245 hI, n255 hI, n254 hI, (book_n hI).symm, hI.2.2.2.2.2.2.2.2, nc0, nc1]
      exact oqM h hz
    | 11, _ =>
      rw [r256_75 206 rfl]
      simp (config := {decide := true}) only [r256_206, r256_207, r256_210, if_true, if_false, Nat.reduceAdd, Int32.reduceToNatClampNeg, lo_i, lo_r, lo_n, kont_v, kont_n, List.length_nil, List.length_cons, s74, s534, hI.2.1.2, inv_ts hI, inv_tc hI, vc_81, vc_82, vc_83, n239 hI, n245 hI, n255 hI, n254 hI, (book_n hI).symm, hI.2.2.2.2.2.2.2.2, nc0, nc1]
      exact oqM h hz
  · rw [if_neg g1] at h
    simp (config := {decide := true}) only [r256_5, r256_6, r256_7, r256_8, r256_10, r256_13, r256_16, r256_17, r256_20, r256_21, r256_22, r256_23, r256_26, r256_29, r256_30, r256_31, r256_32, r256_33, r256_34, if_true, if_false, Nat.reduceAdd, Int32.reduceToNatClampNeg, lo_i, lo_r, lo_n, kont_v, kont_n, List.length_nil, List.length_cons, and_self, and_true, true_and, and_false, false_and, not_true, not_false_eq_true, true_or, or_true, bi_eq0, b10 hz, b11 hz, b21 hz, m194, m259, m257 hI, m258 hI, m266 hI, m274 hI, g1]
    exact exM h
def aSleeper (I : Nat → Nat → Int32) (s : Int32) (w : Int32) : An := if 0 ≤ s ∧ s ≤ I 12 5 - 1 then (if 0 ≤ w ∧ w ≤ 4 then (.inl (if w = 0 then I 13 s.toNatClampNeg else if w = 1 then I 14 s.toNatClampNeg else if w = 2 then I 41 (60 + s.toNatClampNeg) else if w = 3 then I 41 (67 + s.toNatClampNeg) else I 41 (74 + s.toNatClampNeg))) else .inr (2, 2)) else .inr (1, 1)
theorem t_aSleeper {I J : Nat → Nat → Int32} {s w : Int32} (h : view J = view I) : aSleeper J s w = aSleeper I s w := by
  unfold aSleeper
  simp only [t12 h, t41 h, t13 h, t14 h]
theorem q139 (hI : Inv I) (hx : x + 1 ≤ 600) (h : resC n I L x Φ (aSleeper I s w)) : wpc (d + 12) 139 [.ref (9 : Nat), .int s, .int w] (mk n I L x) Φ := by
  show wp (d + 12) 139 0 [.ref (9 : Nat), .int s, .int w] [] (mk n I L x) Φ
  unfold aSleeper at h
  have hC := hI.1.1
  by_cases g1 : 0 ≤ s ∧ s ≤ I 12 5 - 1
  · rw [if_pos g1] at h
    by_cases g2 : 0 ≤ w ∧ w ≤ 4
    · rw [if_pos g2] at h
      have g3 := Int32.not_lt.mpr g2.1
      have g4 := Int32.not_lt.mpr g2.2
      obtain ⟨j, hj, rfl⟩ := isN (inv_s hI) (inv_s7 hI) g1
      have hj7 : j < 7 := by have := inv_s7 hI; omega
      rw [nt_clamp (k := j) (by omega)] at h
      simp (config := {decide := true}) only [r139_0, r139_1, r139_2, r139_5, r139_6, r139_7, r139_10, r139_11, r139_12, r139_15, r139_16, r139_19, r139_20, r139_23, if_true, if_false, Nat.reduceAdd, Int32.reduceToNatClampNeg, lo_i, lo_r, lo_n, kont_v, kont_n, List.length_nil, List.length_cons, and_self, and_true, true_and, and_false, false_and, not_true, not_false_eq_true, true_or, or_true, bi_eq0, c181 hx, c179 hx, c180 hx, c182, c183, kx, g1, g3, g4]
      obtain ⟨k, hk, rfl⟩ := rgN (N := 4) (by decide) g2
      have i1 : atv 7 (I 13) (nt j) = I 13 j := atv_nt hj7 (by decide)
      have i2 : atv 7 (I 14) (nt j) = I 14 j := atv_nt hj7 (by decide)
      have i3 : atv 84 (I 41) (60 + nt j) = I 41 (60 + j) := at_b 60 (by omega) (by decide)
      have i4 : atv 84 (I 41) (67 + nt j) = I 41 (67 + j) := at_b 67 (by omega) (by decide)
      have i5 : atv 84 (I 41) (74 + nt j) = I 41 (74 + j) := at_b 74 (by omega) (by decide)
      match k, hk with
      | 0, _ =>
        rw [r139_24 56 rfl]
        simp (config := {decide := true}) only [r139_56, r139_57, r139_60, r139_61, r139_64, if_true, if_false, Nat.reduceAdd, Int32.reduceToNatClampNeg, lo_i, lo_r, lo_n, kont_v, kont_n, List.length_nil, List.length_cons, k12, k40, c82 k12, c83 k12, c51 k40, c53 k40, c54 k40, i1, i2, i3, i4, i5]
        exact okC h
      | 1, _ =>
        rw [r139_24 65 rfl]
        simp (config := {decide := true}) only [r139_65, r139_66, r139_69, r139_70, r139_73, if_true, if_false, Nat.reduceAdd, Int32.reduceToNatClampNeg, lo_i, lo_r, lo_n, kont_v, kont_n, List.length_nil, List.length_cons, k12, k40, c82 k12, c83 k12, c51 k40, c53 k40, c54 k40, i1, i2, i3, i4, i5]
        exact okC h
      | 2, _ =>
        rw [r139_24 74 rfl]
        simp (config := {decide := true}) only [r139_74, r139_75, r139_78, r139_79, r139_82, if_true, if_false, Nat.reduceAdd, Int32.reduceToNatClampNeg, lo_i, lo_r, lo_n, kont_v, kont_n, List.length_nil, List.length_cons, k12, k40, c82 k12, c83 k12, c51 k40, c53 k40, c54 k40, i1, i2, i3, i4, i5]
        exact okC h
      | 3, _ =>
        rw [r139_24 83 rfl]
        simp (config := {decide := true}) only [r139_83, r139_84, r139_87, r139_88, r139_91, if_true, if_false, Nat.reduceAdd, Int32.reduceToNatClampNeg, lo_i, lo_r, lo_n, kont_v, kont_n, List.length_nil, List.length_cons, k12, k40, c82 k12, c83 k12, c51 k40, c53 k40, c54 k40, i1, i2, i3, i4, i5]
        exact okC h
      | 4, _ =>
        rw [r139_24 92 rfl]
        simp (config := {decide := true}) only [r139_92, r139_93, r139_96, r139_97, r139_100, if_true, if_false, Nat.reduceAdd, Int32.reduceToNatClampNeg, lo_i, lo_r, lo_n, kont_v, kont_n, List.length_nil, List.length_cons, k12, k40, c82 k12, c83 k12, c51 k40, c53 k40, c54 k40, i1, i2, i3, i4, i5]
        exact okC h
    · rw [if_neg g2] at h
      have g9 : w < 0 ∨ 4 < w := by
        rcases Int32.lt_or_le w 0 with q | q
        · exact Or.inl q
        · rcases Int32.lt_or_le 4 w with r | r
          · exact Or.inr r
          · exact absurd ⟨q, r⟩ g2
      rcases Int32.lt_or_le w 0 with q | q
      · simp (config := {decide := true}) only [r139_0, r139_1, r139_2, r139_5, r139_6, r139_7, r139_10, r139_11, r139_12, r139_15, r139_16, r139_19, r139_20, r139_23, if_true, if_false, Nat.reduceAdd, Int32.reduceToNatClampNeg, lo_i, lo_r, lo_n, kont_v, kont_n, List.length_nil, List.length_cons, and_self, and_true, true_and, and_false, false_and, not_true, not_false_eq_true, true_or, or_true, bi_eq0, q, c181 hx, c179 hx, c180 hx, c182, c183, kx, g1]
        exact exC2 h
      · have q2 := Int32.not_lt.mpr q
        have q3 := g9.resolve_left q2
        simp (config := {decide := true}) only [r139_0, r139_1, r139_2, r139_5, r139_6, r139_7, r139_10, r139_11, r139_12, r139_15, r139_16, r139_19, r139_20, r139_23, if_true, if_false, Nat.reduceAdd, Int32.reduceToNatClampNeg, lo_i, lo_r, lo_n, kont_v, kont_n, List.length_nil, List.length_cons, and_self, and_true, true_and, and_false, false_and, not_true, not_false_eq_true, true_or, or_true, bi_eq0, q2, q3, c181 hx, c179 hx, c180 hx, c182, c183, kx, g1]
        exact exC2 h
  · rw [if_neg g1] at h
    simp (config := {decide := true}) only [r139_0, r139_1, r139_2, r139_5, r139_6, r139_7, r139_10, r139_11, r139_12, r139_15, r139_16, r139_19, r139_20, r139_23, if_true, if_false, Nat.reduceAdd, Int32.reduceToNatClampNeg, lo_i, lo_r, lo_n, kont_v, kont_n, List.length_nil, List.length_cons, and_self, and_true, true_and, and_false, false_and, not_true, not_false_eq_true, true_or, or_true, bi_eq0, c181 hx, c179 hx, c180 hx, c182, c183, kx, g1]
    exact exC1 h
theorem u260 (hI : Inv I) (h : resM n I L x Φ (aSleeper I s w)) : wpc (d + 12) 260 [.ref (70 : Nat), .int s, .int w] (mk n I L x) Φ := by
  show wp (d + 12) 260 0 [.ref (70 : Nat), .int s, .int w] [] (mk n I L x) Φ
  rw [r260_0, r260_1, r260_2]
  replace h := resM_z h
  rw [← t_aSleeper v70] at h
  replace hI := tr_Inv v70 hI
  have hz := z70 (I := I)
  generalize wrI I 70 0 0 = I at h hI hz ⊢
  unfold aSleeper at h
  have hM := hI.1
  by_cases g1 : 0 ≤ s ∧ s ≤ I 12 5 - 1
  · rw [if_pos g1] at h
    by_cases g2 : 0 ≤ w ∧ w ≤ 4
    · rw [if_pos g2] at h
      obtain ⟨j, hj, rfl⟩ := isN (inv_s hI) (inv_s7 hI) g1
      have hj7 : j < 7 := by have := inv_s7 hI; omega
      rw [nt_clamp (k := j) (by omega)] at h
      have e1 : (nt j).toNatClampNeg = j := nt_clamp (by omega)
      have e2 : (0 : Int32) ≤ nt j := nt_ge (by omega)
      have e3 : 84 + j < 560 := by omega
      have w1 := (hI.1.2.2.1 j hj).1
      have w2 := (hI.1.2.2.1 j hj).2
      have y2 : ((7 : Int32) + nt j).toNatClampNeg = 7 + j := ixc 7 j (by omega)
      have y3 : (0 : Int32) ≤ 7 + nt j := ixg 7 j (by omega)
      have y4 : 7 + j < 84 := by omega
      have y5 : vc (I 41) (7 + j) = I 41 (67 + j) := vc_lo' (b := 7) (by omega)
      have z2 : ((14 : Int32) + nt j).toNatClampNeg = 14 + j := ixc 14 j (by omega)
      have z3 : (0 : Int32) ≤ 14 + nt j := ixg 14 j (by omega)
      have z4 : 14 + j < 84 := by omega
      have z5 : vc (I 41) (14 + j) = I 41 (74 + j) := vc_lo' (b := 14) (by omega)
      have x4 : j < 84 := by omega
      have x5 : vc (I 41) j = I 41 (60 + j) := vc_lo (by omega)
      obtain ⟨k, hk, rfl⟩ := rgN (N := 4) (by decide) g2
      match k, hk with
      | 0, _ =>
        simp (config := {decide := true}) only [r260_5, r260_6, r260_7, r260_8, r260_11, r260_14, r260_15, r260_18, r260_19, r260_20, r260_21, r260_24, r260_27, r260_28, r260_29, r260_30, r260_31, r260_34, r260_37, r260_38, r260_41, r260_42, r260_43, r260_44, r260_47, r260_50, r260_51, r260_52, r260_53, r260_54, r260_57, r260_58, r260_61, r260_62, r260_63, r260_64, r260_65, r260_68, r260_69, r260_70, r260_73, r260_74, r260_77, r260_78, r260_79, r260_80, r260_81, r260_84, r260_85, r260_86, r260_89, r260_90, r260_93, r260_95, r260_96, r260_97, r260_98, r260_101, r260_102, r260_105, r260_107, r260_108, r260_109, r260_110, if_true, if_false, Nat.reduceAdd, Int32.reduceToNatClampNeg, lo_i, lo_r, lo_n, kont_v, kont_n, List.length_nil, List.length_cons, and_self, and_true, true_and, and_false, false_and, not_true, not_false_eq_true, true_or, or_true, bi_eq0, b10 hz, b11 hz, b21 hz, m194, m259, m257 hI, g1, g2, s83, sh84 hj7, s534, hI.2.1.2, ix0, e1, e2, e3, hj7, w1, w2, y2, y3, y4, y5, z2, z3, z4, z5, x4, x5, nc0, nc1]
        exact oqM h hz
      | 1, _ =>
        simp (config := {decide := true}) only [r260_5, r260_6, r260_7, r260_8, r260_11, r260_14, r260_15, r260_18, r260_19, r260_20, r260_21, r260_24, r260_27, r260_28, r260_29, r260_30, r260_31, r260_34, r260_37, r260_38, r260_41, r260_42, r260_43, r260_44, r260_47, r260_50, r260_51, r260_52, r260_53, r260_54, r260_57, r260_58, r260_61, r260_62, r260_63, r260_64, r260_65, r260_68, r260_69, r260_70, r260_73, r260_74, r260_77, r260_78, r260_79, r260_80, r260_81, r260_84, r260_85, r260_86, r260_89, r260_90, r260_93, r260_95, r260_96, r260_97, r260_98, r260_101, r260_102, r260_105, r260_107, r260_108, r260_109, r260_110, if_true, if_false, Nat.reduceAdd, Int32.reduceToNatClampNeg, lo_i, lo_r, lo_n, kont_v, kont_n, List.length_nil, List.length_cons, and_self, and_true, true_and, and_false, false_and, not_true, not_false_eq_true, true_or, or_true, bi_eq0, b10 hz, b11 hz, b21 hz, m194, m259, m257 hI, g1, g2, s83, sh84 hj7, s534, hI.2.1.2, ix0, e1, e2, e3, hj7, w1, w2, y2, y3, y4, y5, z2, z3, z4, z5, x4, x5, nc0, nc1]
        exact oqM h hz
      | 2, _ =>
        simp (config := {decide := true}) only [r260_5, r260_6, r260_7, r260_8, r260_11, r260_14, r260_15, r260_18, r260_19, r260_20, r260_21, r260_24, r260_27, r260_28, r260_29, r260_30, r260_31, r260_34, r260_37, r260_38, r260_41, r260_42, r260_43, r260_44, r260_47, r260_50, r260_51, r260_52, r260_53, r260_54, r260_57, r260_58, r260_61, r260_62, r260_63, r260_64, r260_65, r260_68, r260_69, r260_70, r260_73, r260_74, r260_77, r260_78, r260_79, r260_80, r260_81, r260_84, r260_85, r260_86, r260_89, r260_90, r260_93, r260_95, r260_96, r260_97, r260_98, r260_101, r260_102, r260_105, r260_107, r260_108, r260_109, r260_110, if_true, if_false, Nat.reduceAdd, Int32.reduceToNatClampNeg, lo_i, lo_r, lo_n, kont_v, kont_n, List.length_nil, List.length_cons, and_self, and_true, true_and, and_false, false_and, not_true, not_false_eq_true, true_or, or_true, bi_eq0, b10 hz, b11 hz, b21 hz, m194, m259, m257 hI, g1, g2, s83, sh84 hj7, s534, hI.2.1.2, ix0, e1, e2, e3, hj7, w1, w2, y2, y3, y4, y5, z2, z3, z4, z5, x4, x5, nc0, nc1]
        exact oqM h hz
      | 3, _ =>
        simp (config := {decide := true}) only [r260_5, r260_6, r260_7, r260_8, r260_11, r260_14, r260_15, r260_18, r260_19, r260_20, r260_21, r260_24, r260_27, r260_28, r260_29, r260_30, r260_31, r260_34, r260_37, r260_38, r260_41, r260_42, r260_43, r260_44, r260_47, r260_50, r260_51, r260_52, r260_53, r260_54, r260_57, r260_58, r260_61, r260_62, r260_63, r260_64, r260_65, r260_68, r260_69, r260_70, r260_73, r260_74, r260_77, r260_78, r260_79, r260_80, r260_81, r260_84, r260_85, r260_86, r260_89, r260_90, r260_93, r260_95, r260_96, r260_97, r260_98, r260_101, r260_102, r260_105, r260_107, r260_108, r260_109, r260_110, if_true, if_false, Nat.reduceAdd, Int32.reduceToNatClampNeg, lo_i, lo_r, lo_n, kont_v, kont_n, List.length_nil, List.length_cons, and_self, and_true, true_and, and_false, false_and, not_true, not_false_eq_true, true_or, or_true, bi_eq0, b10 hz, b11 hz, b21 hz, m194, m259, m257 hI, g1, g2, s83, sh84 hj7, s534, hI.2.1.2, ix0, e1, e2, e3, hj7, w1, w2, y2, y3, y4, y5, z2, z3, z4, z5, x4, x5, nc0, nc1]
        exact oqM h hz
      | 4, _ =>
        simp (config := {decide := true}) only [r260_5, r260_6, r260_7, r260_8, r260_11, r260_14, r260_15, r260_18, r260_19, r260_20, r260_21, r260_24, r260_27, r260_28, r260_29, r260_30, r260_31, r260_34, r260_37, r260_38, r260_41, r260_42, r260_43, r260_44, r260_47, r260_50, r260_51, r260_52, r260_53, r260_54, r260_57, r260_58, r260_61, r260_62, r260_63, r260_64, r260_65, r260_68, r260_69, r260_70, r260_73, r260_74, r260_77, r260_78, r260_79, r260_80, r260_81, r260_84, r260_85, r260_86, r260_89, r260_90, r260_93, r260_95, r260_96, r260_97, r260_98, r260_101, r260_102, r260_105, r260_107, r260_108, r260_109, r260_110, if_true, if_false, Nat.reduceAdd, Int32.reduceToNatClampNeg, lo_i, lo_r, lo_n, kont_v, kont_n, List.length_nil, List.length_cons, and_self, and_true, true_and, and_false, false_and, not_true, not_false_eq_true, true_or, or_true, bi_eq0, b10 hz, b11 hz, b21 hz, m194, m259, m257 hI, g1, g2, s83, sh84 hj7, s534, hI.2.1.2, ix0, e1, e2, e3, hj7, w1, w2, y2, y3, y4, y5, z2, z3, z4, z5, x4, x5, nc0, nc1]
        exact oqM h hz
    · rw [if_neg g2] at h
      simp (config := {decide := true}) only [r260_5, r260_6, r260_7, r260_8, r260_11, r260_14, r260_15, r260_18, r260_19, r260_20, r260_21, r260_24, r260_27, r260_28, r260_29, r260_30, r260_31, r260_34, r260_37, r260_38, r260_41, r260_42, r260_43, r260_44, r260_47, r260_50, r260_51, r260_52, r260_53, r260_54, r260_57, r260_58, r260_61, r260_62, r260_63, r260_64, r260_65, r260_68, r260_69, r260_70, r260_73, r260_74, r260_77, r260_78, r260_79, r260_80, r260_81, r260_84, r260_85, r260_86, r260_89, r260_90, r260_93, r260_95, r260_96, r260_97, r260_98, r260_101, r260_102, r260_105, r260_107, r260_108, r260_109, r260_110, if_true, if_false, Nat.reduceAdd, Int32.reduceToNatClampNeg, lo_i, lo_r, lo_n, kont_v, kont_n, List.length_nil, List.length_cons, and_self, and_true, true_and, and_false, false_and, not_true, not_false_eq_true, true_or, or_true, bi_eq0, b10 hz, b11 hz, b21 hz, m194, m259, m257 hI, m258 hI, m266 hI, m274 hI, g1, g2]
      exact exM h
  · rw [if_neg g1] at h
    simp (config := {decide := true}) only [r260_5, r260_6, r260_7, r260_8, r260_11, r260_14, r260_15, r260_18, r260_19, r260_20, r260_21, r260_24, r260_27, r260_28, r260_29, r260_30, r260_31, r260_34, r260_37, r260_38, r260_41, r260_42, r260_43, r260_44, r260_47, r260_50, r260_51, r260_52, r260_53, r260_54, r260_57, r260_58, r260_61, r260_62, r260_63, r260_64, r260_65, r260_68, r260_69, r260_70, r260_73, r260_74, r260_77, r260_78, r260_79, r260_80, r260_81, r260_84, r260_85, r260_86, r260_89, r260_90, r260_93, r260_95, r260_96, r260_97, r260_98, r260_101, r260_102, r260_105, r260_107, r260_108, r260_109, r260_110, if_true, if_false, Nat.reduceAdd, Int32.reduceToNatClampNeg, lo_i, lo_r, lo_n, kont_v, kont_n, List.length_nil, List.length_cons, and_self, and_true, true_and, and_false, false_and, not_true, not_false_eq_true, true_or, or_true, bi_eq0, b10 hz, b11 hz, b21 hz, m194, m259, m257 hI, m258 hI, m266 hI, m274 hI, g1]
    exact exM h
def aClock (I : Nat → Nat → Int32) (s : Int32) (w : Int32) : An := if 0 ≤ s ∧ s ≤ I 12 6 - 1 then (if 0 ≤ w ∧ w ≤ 3 then (.inl (if w = 0 then I 15 s.toNatClampNeg else if w = 1 then I 41 s.toNatClampNeg else if w = 2 then I 41 (6 + s.toNatClampNeg) else I 41 (12 + s.toNatClampNeg))) else .inr (2, 2)) else .inr (1, 1)
theorem t_aClock {I J : Nat → Nat → Int32} {s w : Int32} (h : view J = view I) : aClock J s w = aClock I s w := by
  unfold aClock
  simp only [t12 h, t41 h, t15 h]
theorem q140 (hI : Inv I) (hx : x + 1 ≤ 600) (h : resC n I L x Φ (aClock I s w)) : wpc (d + 12) 140 [.ref (9 : Nat), .int s, .int w] (mk n I L x) Φ := by
  show wp (d + 12) 140 0 [.ref (9 : Nat), .int s, .int w] [] (mk n I L x) Φ
  unfold aClock at h
  have hC := hI.1.1
  by_cases g1 : 0 ≤ s ∧ s ≤ I 12 6 - 1
  · rw [if_pos g1] at h
    by_cases g2 : 0 ≤ w ∧ w ≤ 3
    · rw [if_pos g2] at h
      have g3 := Int32.not_lt.mpr g2.1
      have g4 := Int32.not_lt.mpr g2.2
      obtain ⟨j, hj, rfl⟩ := isN (inv_c hI) (Nat.le_succ_of_le (inv_c6 hI)) g1
      have hj6 : j < 6 := by have := inv_c6 hI; omega
      rw [nt_clamp (k := j) (by omega)] at h
      simp (config := {decide := true}) only [r140_0, r140_1, r140_2, r140_5, r140_6, r140_7, r140_10, r140_11, r140_12, r140_15, r140_16, r140_19, r140_20, r140_23, if_true, if_false, Nat.reduceAdd, Int32.reduceToNatClampNeg, lo_i, lo_r, lo_n, kont_v, kont_n, List.length_nil, List.length_cons, and_self, and_true, true_and, and_false, false_and, not_true, not_false_eq_true, true_or, or_true, bi_eq0, c181 hx, c179 hx, c180 hx, c182, c183, kx, g1, g3, g4]
      obtain ⟨k, hk, rfl⟩ := rgN (N := 3) (by decide) g2
      have i1 : atv 6 (I 15) (nt j) = I 15 j := atv_nt hj6 (by decide)
      have i2 : atv 84 (I 41) (0 + nt j) = I 41 j := at_0 (by omega) (by decide)
      have i3 : atv 84 (I 41) (6 + nt j) = I 41 (6 + j) := at_b 6 (by omega) (by decide)
      have i4 : atv 84 (I 41) (12 + nt j) = I 41 (12 + j) := at_b 12 (by omega) (by decide)
      match k, hk with
      | 0, _ =>
        rw [r140_24 52 rfl]
        simp (config := {decide := true}) only [r140_52, r140_53, r140_56, r140_57, r140_60, if_true, if_false, Nat.reduceAdd, Int32.reduceToNatClampNeg, lo_i, lo_r, lo_n, kont_v, kont_n, List.length_nil, List.length_cons, k12, k40, c84 k12, c47 k40, c48 k40, c49 k40, i1, i2, i3, i4]
        exact okC h
      | 1, _ =>
        rw [r140_24 61 rfl]
        simp (config := {decide := true}) only [r140_61, r140_62, r140_65, r140_66, r140_69, if_true, if_false, Nat.reduceAdd, Int32.reduceToNatClampNeg, lo_i, lo_r, lo_n, kont_v, kont_n, List.length_nil, List.length_cons, k12, k40, c84 k12, c47 k40, c48 k40, c49 k40, i1, i2, i3, i4]
        exact okC h
      | 2, _ =>
        rw [r140_24 70 rfl]
        simp (config := {decide := true}) only [r140_70, r140_71, r140_74, r140_75, r140_78, if_true, if_false, Nat.reduceAdd, Int32.reduceToNatClampNeg, lo_i, lo_r, lo_n, kont_v, kont_n, List.length_nil, List.length_cons, k12, k40, c84 k12, c47 k40, c48 k40, c49 k40, i1, i2, i3, i4]
        exact okC h
      | 3, _ =>
        rw [r140_24 79 rfl]
        simp (config := {decide := true}) only [r140_79, r140_80, r140_83, r140_84, r140_87, if_true, if_false, Nat.reduceAdd, Int32.reduceToNatClampNeg, lo_i, lo_r, lo_n, kont_v, kont_n, List.length_nil, List.length_cons, k12, k40, c84 k12, c47 k40, c48 k40, c49 k40, i1, i2, i3, i4]
        exact okC h
    · rw [if_neg g2] at h
      have g9 : w < 0 ∨ 3 < w := by
        rcases Int32.lt_or_le w 0 with q | q
        · exact Or.inl q
        · rcases Int32.lt_or_le 3 w with r | r
          · exact Or.inr r
          · exact absurd ⟨q, r⟩ g2
      rcases Int32.lt_or_le w 0 with q | q
      · simp (config := {decide := true}) only [r140_0, r140_1, r140_2, r140_5, r140_6, r140_7, r140_10, r140_11, r140_12, r140_15, r140_16, r140_19, r140_20, r140_23, if_true, if_false, Nat.reduceAdd, Int32.reduceToNatClampNeg, lo_i, lo_r, lo_n, kont_v, kont_n, List.length_nil, List.length_cons, and_self, and_true, true_and, and_false, false_and, not_true, not_false_eq_true, true_or, or_true, bi_eq0, q, c181 hx, c179 hx, c180 hx, c182, c183, kx, g1]
        exact exC2 h
      · have q2 := Int32.not_lt.mpr q
        have q3 := g9.resolve_left q2
        simp (config := {decide := true}) only [r140_0, r140_1, r140_2, r140_5, r140_6, r140_7, r140_10, r140_11, r140_12, r140_15, r140_16, r140_19, r140_20, r140_23, if_true, if_false, Nat.reduceAdd, Int32.reduceToNatClampNeg, lo_i, lo_r, lo_n, kont_v, kont_n, List.length_nil, List.length_cons, and_self, and_true, true_and, and_false, false_and, not_true, not_false_eq_true, true_or, or_true, bi_eq0, q2, q3, c181 hx, c179 hx, c180 hx, c182, c183, kx, g1]
        exact exC2 h
  · rw [if_neg g1] at h
    simp (config := {decide := true}) only [r140_0, r140_1, r140_2, r140_5, r140_6, r140_7, r140_10, r140_11, r140_12, r140_15, r140_16, r140_19, r140_20, r140_23, if_true, if_false, Nat.reduceAdd, Int32.reduceToNatClampNeg, lo_i, lo_r, lo_n, kont_v, kont_n, List.length_nil, List.length_cons, and_self, and_true, true_and, and_false, false_and, not_true, not_false_eq_true, true_or, or_true, bi_eq0, c181 hx, c179 hx, c180 hx, c182, c183, kx, g1]
    exact exC1 h
theorem u261 (hI : Inv I) (h : resM n I L x Φ (aClock I s w)) : wpc (d + 12) 261 [.ref (70 : Nat), .int s, .int w] (mk n I L x) Φ := by
  show wp (d + 12) 261 0 [.ref (70 : Nat), .int s, .int w] [] (mk n I L x) Φ
  rw [r261_0, r261_1, r261_2]
  replace h := resM_z h
  rw [← t_aClock v70] at h
  replace hI := tr_Inv v70 hI
  have hz := z70 (I := I)
  generalize wrI I 70 0 0 = I at h hI hz ⊢
  unfold aClock at h
  have hM := hI.1
  by_cases g1 : 0 ≤ s ∧ s ≤ I 12 6 - 1
  · rw [if_pos g1] at h
    by_cases g2 : 0 ≤ w ∧ w ≤ 3
    · rw [if_pos g2] at h
      obtain ⟨j, hj, rfl⟩ := isN (inv_c hI) (Nat.le_succ_of_le (inv_c6 hI)) g1
      have hj6 : j < 6 := by have := inv_c6 hI; omega
      rw [nt_clamp (k := j) (by omega)] at h
      have e1 : (nt j).toNatClampNeg = j := nt_clamp (by omega)
      have e2 : (0 : Int32) ≤ nt j := nt_ge (by omega)
      have e3 : 99 + j < 560 := by omega
      have w1 := hI.1.2.2.2.1 j hj
      have y2 : ((21 : Int32) + nt j).toNatClampNeg = 21 + j := ixc 21 j (by omega)
      have y3 : (0 : Int32) ≤ 21 + nt j := ixg 21 j (by omega)
      have y4 : 21 + j < 84 := by omega
      have y5 : vc (I 41) (21 + j) = I 41 j := vc_hi (by omega)
      have z2 : ((27 : Int32) + nt j).toNatClampNeg = 27 + j := ixc 27 j (by omega)
      have z3 : (0 : Int32) ≤ 27 + nt j := ixg 27 j (by omega)
      have z4 : 27 + j < 84 := by omega
      have z5 : vc (I 41) (27 + j) = I 41 (6 + j) := vc_hi' (b := 6) (by omega)
      have x2 : ((33 : Int32) + nt j).toNatClampNeg = 33 + j := ixc 33 j (by omega)
      have x3 : (0 : Int32) ≤ 33 + nt j := ixg 33 j (by omega)
      have x4 : 33 + j < 84 := by omega
      have x5 : vc (I 41) (33 + j) = I 41 (12 + j) := vc_hi' (b := 12) (by omega)
      obtain ⟨k, hk, rfl⟩ := rgN (N := 3) (by decide) g2
      match k, hk with
      | 0, _ =>
        simp (config := {decide := true}) only [r261_5, r261_6, r261_7, r261_8, r261_11, r261_14, r261_15, r261_18, r261_19, r261_20, r261_21, r261_24, r261_27, r261_28, r261_29, r261_30, r261_31, r261_34, r261_37, r261_38, r261_41, r261_42, r261_43, r261_44, r261_47, r261_50, r261_51, r261_52, r261_53, r261_56, r261_57, r261_60, r261_61, r261_62, r261_63, r261_64, r261_67, r261_68, r261_69, r261_72, r261_73, r261_76, r261_78, r261_79, r261_80, r261_81, r261_84, r261_85, r261_86, r261_89, r261_90, r261_93, r261_95, r261_96, r261_97, r261_98, r261_101, r261_102, r261_105, r261_107, r261_108, r261_109, r261_110, if_true, if_false, Nat.reduceAdd, Int32.reduceToNatClampNeg, lo_i, lo_r, lo_n, kont_v, kont_n, List.length_nil, List.length_cons, and_self, and_true, true_and, and_false, false_and, not_true, not_false_eq_true, true_or, or_true, bi_eq0, b10 hz, b11 hz, b21 hz, m194, m259, m258 hI, g1, g2, s98, sh99 hj6, s534, hI.2.1.2, ix0, e1, e2, e3, hj6, w1, y2, y3, y4, y5, z2, z3, z4, z5, x2, x3, x4, x5]
        exact oqM h hz
      | 1, _ =>
        simp (config := {decide := true}) only [r261_5, r261_6, r261_7, r261_8, r261_11, r261_14, r261_15, r261_18, r261_19, r261_20, r261_21, r261_24, r261_27, r261_28, r261_29, r261_30, r261_31, r261_34, r261_37, r261_38, r261_41, r261_42, r261_43, r261_44, r261_47, r261_50, r261_51, r261_52, r261_53, r261_56, r261_57, r261_60, r261_61, r261_62, r261_63, r261_64, r261_67, r261_68, r261_69, r261_72, r261_73, r261_76, r261_78, r261_79, r261_80, r261_81, r261_84, r261_85, r261_86, r261_89, r261_90, r261_93, r261_95, r261_96, r261_97, r261_98, r261_101, r261_102, r261_105, r261_107, r261_108, r261_109, r261_110, if_true, if_false, Nat.reduceAdd, Int32.reduceToNatClampNeg, lo_i, lo_r, lo_n, kont_v, kont_n, List.length_nil, List.length_cons, and_self, and_true, true_and, and_false, false_and, not_true, not_false_eq_true, true_or, or_true, bi_eq0, b10 hz, b11 hz, b21 hz, m194, m259, m258 hI, g1, g2, s98, sh99 hj6, s534, hI.2.1.2, ix0, e1, e2, e3, hj6, w1, y2, y3, y4, y5, z2, z3, z4, z5, x2, x3, x4, x5]
        exact oqM h hz
      | 2, _ =>
        simp (config := {decide := true}) only [r261_5, r261_6, r261_7, r261_8, r261_11, r261_14, r261_15, r261_18, r261_19, r261_20, r261_21, r261_24, r261_27, r261_28, r261_29, r261_30, r261_31, r261_34, r261_37, r261_38, r261_41, r261_42, r261_43, r261_44, r261_47, r261_50, r261_51, r261_52, r261_53, r261_56, r261_57, r261_60, r261_61, r261_62, r261_63, r261_64, r261_67, r261_68, r261_69, r261_72, r261_73, r261_76, r261_78, r261_79, r261_80, r261_81, r261_84, r261_85, r261_86, r261_89, r261_90, r261_93, r261_95, r261_96, r261_97, r261_98, r261_101, r261_102, r261_105, r261_107, r261_108, r261_109, r261_110, if_true, if_false, Nat.reduceAdd, Int32.reduceToNatClampNeg, lo_i, lo_r, lo_n, kont_v, kont_n, List.length_nil, List.length_cons, and_self, and_true, true_and, and_false, false_and, not_true, not_false_eq_true, true_or, or_true, bi_eq0, b10 hz, b11 hz, b21 hz, m194, m259, m258 hI, g1, g2, s98, sh99 hj6, s534, hI.2.1.2, ix0, e1, e2, e3, hj6, w1, y2, y3, y4, y5, z2, z3, z4, z5, x2, x3, x4, x5]
        exact oqM h hz
      | 3, _ =>
        simp (config := {decide := true}) only [r261_5, r261_6, r261_7, r261_8, r261_11, r261_14, r261_15, r261_18, r261_19, r261_20, r261_21, r261_24, r261_27, r261_28, r261_29, r261_30, r261_31, r261_34, r261_37, r261_38, r261_41, r261_42, r261_43, r261_44, r261_47, r261_50, r261_51, r261_52, r261_53, r261_56, r261_57, r261_60, r261_61, r261_62, r261_63, r261_64, r261_67, r261_68, r261_69, r261_72, r261_73, r261_76, r261_78, r261_79, r261_80, r261_81, r261_84, r261_85, r261_86, r261_89, r261_90, r261_93, r261_95, r261_96, r261_97, r261_98, r261_101, r261_102, r261_105, r261_107, r261_108, r261_109, r261_110, if_true, if_false, Nat.reduceAdd, Int32.reduceToNatClampNeg, lo_i, lo_r, lo_n, kont_v, kont_n, List.length_nil, List.length_cons, and_self, and_true, true_and, and_false, false_and, not_true, not_false_eq_true, true_or, or_true, bi_eq0, b10 hz, b11 hz, b21 hz, m194, m259, m258 hI, g1, g2, s98, sh99 hj6, s534, hI.2.1.2, ix0, e1, e2, e3, hj6, w1, y2, y3, y4, y5, z2, z3, z4, z5, x2, x3, x4, x5]
        exact oqM h hz
    · rw [if_neg g2] at h
      simp (config := {decide := true}) only [r261_5, r261_6, r261_7, r261_8, r261_11, r261_14, r261_15, r261_18, r261_19, r261_20, r261_21, r261_24, r261_27, r261_28, r261_29, r261_30, r261_31, r261_34, r261_37, r261_38, r261_41, r261_42, r261_43, r261_44, r261_47, r261_50, r261_51, r261_52, r261_53, r261_56, r261_57, r261_60, r261_61, r261_62, r261_63, r261_64, r261_67, r261_68, r261_69, r261_72, r261_73, r261_76, r261_78, r261_79, r261_80, r261_81, r261_84, r261_85, r261_86, r261_89, r261_90, r261_93, r261_95, r261_96, r261_97, r261_98, r261_101, r261_102, r261_105, r261_107, r261_108, r261_109, r261_110, if_true, if_false, Nat.reduceAdd, Int32.reduceToNatClampNeg, lo_i, lo_r, lo_n, kont_v, kont_n, List.length_nil, List.length_cons, and_self, and_true, true_and, and_false, false_and, not_true, not_false_eq_true, true_or, or_true, bi_eq0, b10 hz, b11 hz, b21 hz, m194, m259, m257 hI, m258 hI, m266 hI, m274 hI, g1, g2]
      exact exM h
  · rw [if_neg g1] at h
    simp (config := {decide := true}) only [r261_5, r261_6, r261_7, r261_8, r261_11, r261_14, r261_15, r261_18, r261_19, r261_20, r261_21, r261_24, r261_27, r261_28, r261_29, r261_30, r261_31, r261_34, r261_37, r261_38, r261_41, r261_42, r261_43, r261_44, r261_47, r261_50, r261_51, r261_52, r261_53, r261_56, r261_57, r261_60, r261_61, r261_62, r261_63, r261_64, r261_67, r261_68, r261_69, r261_72, r261_73, r261_76, r261_78, r261_79, r261_80, r261_81, r261_84, r261_85, r261_86, r261_89, r261_90, r261_93, r261_95, r261_96, r261_97, r261_98, r261_101, r261_102, r261_105, r261_107, r261_108, r261_109, r261_110, if_true, if_false, Nat.reduceAdd, Int32.reduceToNatClampNeg, lo_i, lo_r, lo_n, kont_v, kont_n, List.length_nil, List.length_cons, and_self, and_true, true_and, and_false, false_and, not_true, not_false_eq_true, true_or, or_true, bi_eq0, b10 hz, b11 hz, b21 hz, m194, m259, m257 hI, m258 hI, m266 hI, m274 hI, g1]
    exact exM h
def aNear (I : Nat → Nat → Int32) (s : Int32) (w : Int32) : An := if 0 ≤ s ∧ s ≤ I 12 5 - 1 then (if 0 ≤ w ∧ w ≤ I 12 6 - 1 then (.inl (atv 84 (I 41) (18 + s * 6 + w))) else .inr (1, 1)) else .inr (1, 1)
theorem t_aNear {I J : Nat → Nat → Int32} {s w : Int32} (h : view J = view I) : aNear J s w = aNear I s w := by
  unfold aNear
  simp only [t12 h, t41 h]
theorem q141 (hI : Inv I) (hx : x + 1 ≤ 600) (h : resC n I L x Φ (aNear I s w)) : wpc (d + 12) 141 [.ref (9 : Nat), .int s, .int w] (mk n I L x) Φ := by
  show wp (d + 12) 141 0 [.ref (9 : Nat), .int s, .int w] [] (mk n I L x) Φ
  unfold aNear at h
  have hC := hI.1.1
  by_cases g1 : 0 ≤ s ∧ s ≤ I 12 5 - 1
  · rw [if_pos g1] at h
    by_cases g2 : 0 ≤ w ∧ w ≤ I 12 6 - 1
    · rw [if_pos g2] at h
      simp (config := {decide := true}) only [r141_0, r141_1, r141_2, r141_5, r141_6, r141_7, r141_10, r141_11, r141_14, r141_15, r141_16, r141_19, if_true, if_false, Nat.reduceAdd, Int32.reduceToNatClampNeg, lo_i, lo_r, lo_n, kont_v, kont_n, List.length_nil, List.length_cons, and_self, and_true, true_and, and_false, false_and, not_true, not_false_eq_true, true_or, or_true, bi_eq0, c181 hx, c179 hx, c180 hx, c182, c183, kx, g1, g2, k40, c50 k40]
      exact okC h
    · rw [if_neg g2] at h
      simp (config := {decide := true}) only [r141_0, r141_1, r141_2, r141_5, r141_6, r141_7, r141_10, r141_11, r141_14, r141_15, r141_16, r141_19, if_true, if_false, Nat.reduceAdd, Int32.reduceToNatClampNeg, lo_i, lo_r, lo_n, kont_v, kont_n, List.length_nil, List.length_cons, and_self, and_true, true_and, and_false, false_and, not_true, not_false_eq_true, true_or, or_true, bi_eq0, c181 hx, c179 hx, c180 hx, c182, c183, kx, g1, g2]
      exact exC1 h
  · rw [if_neg g1] at h
    simp (config := {decide := true}) only [r141_0, r141_1, r141_2, r141_5, r141_6, r141_7, r141_10, r141_11, r141_14, r141_15, r141_16, r141_19, if_true, if_false, Nat.reduceAdd, Int32.reduceToNatClampNeg, lo_i, lo_r, lo_n, kont_v, kont_n, List.length_nil, List.length_cons, and_self, and_true, true_and, and_false, false_and, not_true, not_false_eq_true, true_or, or_true, bi_eq0, c181 hx, c179 hx, c180 hx, c182, c183, kx, g1]
    exact exC1 h
theorem u262 (hI : Inv I) (h : resM n I L x Φ (aNear I s w)) : wpc (d + 12) 262 [.ref (70 : Nat), .int s, .int w] (mk n I L x) Φ := by
  show wp (d + 12) 262 0 [.ref (70 : Nat), .int s, .int w] [] (mk n I L x) Φ
  rw [r262_0, r262_1, r262_2]
  replace h := resM_z h
  rw [← t_aNear v70] at h
  replace hI := tr_Inv v70 hI
  have hz := z70 (I := I)
  generalize wrI I 70 0 0 = I at h hI hz ⊢
  unfold aNear at h
  have hM := hI.1
  by_cases g1 : 0 ≤ s ∧ s ≤ I 12 5 - 1
  · rw [if_pos g1] at h
    by_cases g2 : 0 ≤ w ∧ w ≤ I 12 6 - 1
    · rw [if_pos g2] at h
      obtain ⟨j, hj, rfl⟩ := isN (inv_s hI) (inv_s7 hI) g1
      have hj7 : j < 7 := by have := inv_s7 hI; omega
      obtain ⟨k, hk, rfl⟩ := isN (inv_c hI) (Nat.le_succ_of_le (inv_c6 hI)) g2
      have hk6 : k < 6 := by have := inv_c6 hI; omega
      have e5 : (39 : Int32) + 6 * nt j + nt k = nt (39 + 6 * j + k) := by
        rw [show (6 : Int32) * nt j = nt (6 * j) from (Int32.ofNat_mul 6 j).symm, show (39 : Int32) = nt 39 from rfl, nt_add, nt_add]
      have e6 : (nt (39 + 6 * j + k)).toNatClampNeg = 39 + 6 * j + k := nt_clamp (by omega)
      have e7 : (0 : Int32) ≤ nt (39 + 6 * j + k) := nt_ge (by omega)
      have e8 : 39 + 6 * j + k < 84 := by omega
      have e9 : vc (I 41) (39 + 6 * j + k) = atv 84 (I 41) (18 + nt j * 6 + nt k) := by
        rw [show (18 : Int32) + nt j * 6 + nt k = nt (18 + j * 6 + k) from by rw [show nt j * 6 = nt (j * 6) from (Int32.ofNat_mul j 6).symm, show (18 : Int32) = nt 18 from rfl, nt_add, nt_add], atv_nt (by omega) (by decide), show 39 + 6 * j + k = 21 + (18 + j * 6 + k) by omega, vc_hi (by omega)]
      simp (config := {decide := true}) only [r262_5, r262_6, r262_7, r262_8, r262_11, r262_14, r262_15, r262_16, r262_19, r262_22, r262_23, r262_26, r262_27, r262_28, r262_29, r262_32, r262_35, r262_36, r262_37, r262_38, r262_41, r262_43, r262_45, r262_46, r262_47, r262_48, r262_49, r262_50, r262_51, if_true, if_false, Nat.reduceAdd, Int32.reduceToNatClampNeg, lo_i, lo_r, lo_n, kont_v, kont_n, List.length_nil, List.length_cons, and_self, and_true, true_and, and_false, false_and, not_true, not_false_eq_true, true_or, or_true, bi_eq0, b10 hz, b11 hz, b21 hz, m194, m259, m257 hI, m258 hI, g1, g2, s534, hI.2.1.2, e5, e6, e7, e8, e9]
      exact oqM h hz
    · rw [if_neg g2] at h
      simp (config := {decide := true}) only [r262_5, r262_6, r262_7, r262_8, r262_11, r262_14, r262_15, r262_16, r262_19, r262_22, r262_23, r262_26, r262_27, r262_28, r262_29, r262_32, r262_35, r262_36, r262_37, r262_38, r262_41, r262_43, r262_45, r262_46, r262_47, r262_48, r262_49, r262_50, r262_51, if_true, if_false, Nat.reduceAdd, Int32.reduceToNatClampNeg, lo_i, lo_r, lo_n, kont_v, kont_n, List.length_nil, List.length_cons, and_self, and_true, true_and, and_false, false_and, not_true, not_false_eq_true, true_or, or_true, bi_eq0, b10 hz, b11 hz, b21 hz, m194, m259, m257 hI, m258 hI, m266 hI, m274 hI, g1, g2]
      exact exM h
  · rw [if_neg g1] at h
    simp (config := {decide := true}) only [r262_5, r262_6, r262_7, r262_8, r262_11, r262_14, r262_15, r262_16, r262_19, r262_22, r262_23, r262_26, r262_27, r262_28, r262_29, r262_32, r262_35, r262_36, r262_37, r262_38, r262_41, r262_43, r262_45, r262_46, r262_47, r262_48, r262_49, r262_50, r262_51, if_true, if_false, Nat.reduceAdd, Int32.reduceToNatClampNeg, lo_i, lo_r, lo_n, kont_v, kont_n, List.length_nil, List.length_cons, and_self, and_true, true_and, and_false, false_and, not_true, not_false_eq_true, true_or, or_true, bi_eq0, b10 hz, b11 hz, b21 hz, m194, m259, m257 hI, m258 hI, m266 hI, m274 hI, g1]
    exact exM h
theorem hd_one {j k : Nat} (hj : j < 7) (hk : k < cI I) (h6 : cI I ≤ 6) {f : Nat → Int32} : hdI I f (nt j) (1 <<< (nt k &&& 31)) = nzJ I f j k := by
  have e : ∀ k, k < 6 → ∀ i, i < 6 → ((1 : Int32) <<< (nt k &&& 31) >>> (nt i &&& 31) &&& 1 = 1 ↔ i = k) := by decide
  rw [hdJ_I hj]
  unfold hdJ hdV
  have key : ∀ m, m ≤ cI I → foldN (fun i t => if (1 : Int32) <<< (nt k &&& 31) >>> (nt i &&& 31) &&& 1 = 1 then t + nzC (I 25) (lnI I) (I 15 i) (atv 84 f (18 + nt j * 6 + nt i)) (I 13 j) (f (12 + i)) (f 81) (f 82) (awm f) (f i) (nt j) else t) m 0 = if k < m then nzJ I f j k else 0 := by
    intro m
    induction m with
    | zero => intro _; rfl
    | succ m ih =>
      intro hm
      show (if (1 : Int32) <<< (nt k &&& 31) >>> (nt m &&& 31) &&& 1 = 1 then foldN _ m 0 + _ else foldN _ m 0) = _
      rw [ih (by omega)]
      by_cases h1 : m = k
      · subst h1
        rw [if_pos ((e m (by omega) m (by omega)).mpr rfl), if_neg (Nat.lt_irrefl m), if_pos (Nat.lt_succ_self m), Int32.zero_add]
        rfl
      · rw [if_neg (fun q => h1 ((e k (by omega) m (by omega)).mp q))]
        by_cases h2 : k < m
        · rw [if_pos h2, if_pos (by omega)]
        · rw [if_neg h2, if_neg (by omega)]
  rw [key (cI I) (Nat.le_refl _), if_pos hk]
def aNoise (I : Nat → Nat → Int32) (s : Int32) (w : Int32) : An := if 0 ≤ s ∧ s ≤ I 12 5 - 1 then (if 0 ≤ w ∧ w ≤ I 12 6 - 1 then (.inl (nzJ I (I 41) s.toNatClampNeg w.toNatClampNeg)) else .inr (1, 1)) else .inr (1, 1)
theorem t_aNoise {I J : Nat → Nat → Int32} {s w : Int32} (h : view J = view I) : aNoise J s w = aNoise I s w := by
  unfold aNoise
  simp only [t12 h, t41 h, tr_nj h]
theorem q142 (hI : Inv I) (hx : x + 1 ≤ 600) (h : resC n I L x Φ (aNoise I s w)) : wpc (d + 12) 142 [.ref (9 : Nat), .int s, .int w] (mk n I L x) Φ := by
  show wp (d + 12) 142 0 [.ref (9 : Nat), .int s, .int w] [] (mk n I L x) Φ
  unfold aNoise at h
  have hC := hI.1.1
  by_cases g1 : 0 ≤ s ∧ s ≤ I 12 5 - 1
  · rw [if_pos g1] at h
    by_cases g2 : 0 ≤ w ∧ w ≤ I 12 6 - 1
    · rw [if_pos g2] at h
      obtain ⟨j, hj, rfl⟩ := isN (inv_s hI) (inv_s7 hI) g1
      have hj7 : j < 7 := by have := inv_s7 hI; omega
      obtain ⟨k, hk, rfl⟩ := isN (inv_c hI) (Nat.le_succ_of_le (inv_c6 hI)) g2
      have hk6 : k < 6 := by have := inv_c6 hI; omega
      rw [nt_clamp (k := j) (by omega), nt_clamp (k := k) (by omega)] at h
      simp (config := {decide := true}) only [r142_0, r142_1, r142_2, r142_5, r142_6, r142_7, r142_10, r142_11, r142_14, r142_15, r142_18, r142_19, r142_20, r142_21, r142_22, r142_25, if_true, if_false, Nat.reduceAdd, Int32.reduceToNatClampNeg, lo_i, lo_r, lo_n, kont_v, kont_n, List.length_nil, List.length_cons, and_self, and_true, true_and, and_false, false_and, not_true, not_false_eq_true, true_or, or_true, bi_eq0, c181 hx, c179 hx, c180 hx, c182, c183, kx, g1, g2, k40, g23 hC k40, hd_one hj7 hk (inv_c6 hI)]
      exact okCs h
    · rw [if_neg g2] at h
      simp (config := {decide := true}) only [r142_0, r142_1, r142_2, r142_5, r142_6, r142_7, r142_10, r142_11, r142_14, r142_15, r142_18, r142_19, r142_20, r142_21, r142_22, r142_25, if_true, if_false, Nat.reduceAdd, Int32.reduceToNatClampNeg, lo_i, lo_r, lo_n, kont_v, kont_n, List.length_nil, List.length_cons, and_self, and_true, true_and, and_false, false_and, not_true, not_false_eq_true, true_or, or_true, bi_eq0, c181 hx, c179 hx, c180 hx, c182, c183, kx, g1, g2]
      exact exC1 h
  · rw [if_neg g1] at h
    simp (config := {decide := true}) only [r142_0, r142_1, r142_2, r142_5, r142_6, r142_7, r142_10, r142_11, r142_14, r142_15, r142_18, r142_19, r142_20, r142_21, r142_22, r142_25, if_true, if_false, Nat.reduceAdd, Int32.reduceToNatClampNeg, lo_i, lo_r, lo_n, kont_v, kont_n, List.length_nil, List.length_cons, and_self, and_true, true_and, and_false, false_and, not_true, not_false_eq_true, true_or, or_true, bi_eq0, c181 hx, c179 hx, c180 hx, c182, c183, kx, g1]
    exact exC1 h
theorem u263 (hI : Inv I) (h : resM n I L x Φ (aNoise I s w)) : wpc (d + 12) 263 [.ref (70 : Nat), .int s, .int w] (mk n I L x) Φ := by
  show wp (d + 12) 263 0 [.ref (70 : Nat), .int s, .int w] [] (mk n I L x) Φ
  rw [r263_0, r263_1, r263_2]
  replace h := resM_z h
  rw [← t_aNoise v70] at h
  replace hI := tr_Inv v70 hI
  have hz := z70 (I := I)
  generalize wrI I 70 0 0 = I at h hI hz ⊢
  unfold aNoise at h
  have hM := hI.1
  by_cases g1 : 0 ≤ s ∧ s ≤ I 12 5 - 1
  · rw [if_pos g1] at h
    by_cases g2 : 0 ≤ w ∧ w ≤ I 12 6 - 1
    · rw [if_pos g2] at h
      obtain ⟨j, hj, rfl⟩ := isN (inv_s hI) (inv_s7 hI) g1
      have hj7 : j < 7 := by have := inv_s7 hI; omega
      obtain ⟨k, hk, rfl⟩ := isN (inv_c hI) (Nat.le_succ_of_le (inv_c6 hI)) g2
      have hk6 : k < 6 := by have := inv_c6 hI; omega
      rw [nt_clamp (k := j) (by omega), nt_clamp (k := k) (by omega)] at h
      simp (config := {decide := true}) only [r263_5, r263_6, r263_7, r263_8, r263_11, r263_14, r263_15, r263_16, r263_19, r263_22, r263_23, r263_26, r263_27, r263_28, r263_29, r263_32, r263_35, r263_36, r263_37, r263_38, r263_39, r263_42, r263_43, r263_44, r263_47, if_true, if_false, Nat.reduceAdd, Int32.reduceToNatClampNeg, lo_i, lo_r, lo_n, kont_v, kont_n, List.length_nil, List.length_cons, and_self, and_true, true_and, and_false, false_and, not_true, not_false_eq_true, true_or, or_true, bi_eq0, b10 hz, b11 hz, b21 hz, m194, m259, m257 hI, m258 hI, g1, g2, n240 hI hj hk]
      exact okMs h hz
    · rw [if_neg g2] at h
      simp (config := {decide := true}) only [r263_5, r263_6, r263_7, r263_8, r263_11, r263_14, r263_15, r263_16, r263_19, r263_22, r263_23, r263_26, r263_27, r263_28, r263_29, r263_32, r263_35, r263_36, r263_37, r263_38, r263_39, r263_42, r263_43, r263_44, r263_47, if_true, if_false, Nat.reduceAdd, Int32.reduceToNatClampNeg, lo_i, lo_r, lo_n, kont_v, kont_n, List.length_nil, List.length_cons, and_self, and_true, true_and, and_false, false_and, not_true, not_false_eq_true, true_or, or_true, bi_eq0, b10 hz, b11 hz, b21 hz, m194, m259, m257 hI, m258 hI, m266 hI, m274 hI, g1, g2]
      exact exM h
  · rw [if_neg g1] at h
    simp (config := {decide := true}) only [r263_5, r263_6, r263_7, r263_8, r263_11, r263_14, r263_15, r263_16, r263_19, r263_22, r263_23, r263_26, r263_27, r263_28, r263_29, r263_32, r263_35, r263_36, r263_37, r263_38, r263_39, r263_42, r263_43, r263_44, r263_47, if_true, if_false, Nat.reduceAdd, Int32.reduceToNatClampNeg, lo_i, lo_r, lo_n, kont_v, kont_n, List.length_nil, List.length_cons, and_self, and_true, true_and, and_false, false_and, not_true, not_false_eq_true, true_or, or_true, bi_eq0, b10 hz, b11 hz, b21 hz, m194, m259, m257 hI, m258 hI, m266 hI, m274 hI, g1]
    exact exM h
def aWould (I : Nat → Nat → Int32) (l9 : Int32) (n9 : Int32) (d9 : Int32) (s9 : Int32) (h9 : Int32) (y9 : Int32) (a9 : Int32) (p9 : Int32) (z9 : Int32) : An := if 1 ≤ l9 ∧ l9 ≤ 30 then (if 0 ≤ n9 ∧ n9 ≤ 9 then (if 1 ≤ d9 ∧ d9 ≤ 60 then (if 0 ≤ s9 ∧ s9 ≤ 1 then (if 0 ≤ h9 ∧ h9 ≤ 23 then (if 0 ≤ y9 ∧ y9 ≤ 300 then (if 0 ≤ a9 ∧ a9 ≤ 7 then (if 0 ≤ p9 ∧ p9 ≤ 20 then (if 0 ≤ z9 ∧ z9 ≤ 6 then (.inl (nzC (I 25) (lnI I) l9 n9 d9 s9 h9 y9 a9 p9 z9)) else .inr (2, 1)) else .inr (2, 1)) else .inr (2, 1)) else .inr (2, 1)) else .inr (2, 1)) else .inr (2, 1)) else .inr (2, 1)) else .inr (2, 1)) else .inr (2, 1)
theorem t_aWould {I J : Nat → Nat → Int32} {l9 n9 d9 s9 h9 y9 a9 p9 z9 : Int32} (h : view J = view I) : aWould J l9 n9 d9 s9 h9 y9 a9 p9 z9 = aWould I l9 n9 d9 s9 h9 y9 a9 p9 z9 := by
  unfold aWould
  simp only [t25 h, tr_l h]
theorem q143 (hI : Inv I) (hx : x + 1 ≤ 600) (h : resC n I L x Φ (aWould I l9 n9 d9 s9 h9 y9 a9 p9 z9)) : wpc (d + 12) 143 [.ref (9 : Nat), .int l9, .int n9, .int d9, .int s9, .int h9, .int y9, .int a9, .int p9, .int z9] (mk n I L x) Φ := by
  show wp (d + 12) 143 0 [.ref (9 : Nat), .int l9, .int n9, .int d9, .int s9, .int h9, .int y9, .int a9, .int p9, .int z9] [] (mk n I L x) Φ
  unfold aWould at h
  have hC := hI.1.1
  by_cases g1 : 1 ≤ l9 ∧ l9 ≤ 30
  · rw [if_pos g1] at h
    by_cases g2 : 0 ≤ n9 ∧ n9 ≤ 9
    · rw [if_pos g2] at h
      by_cases g3 : 1 ≤ d9 ∧ d9 ≤ 60
      · rw [if_pos g3] at h
        by_cases g4 : 0 ≤ s9 ∧ s9 ≤ 1
        · rw [if_pos g4] at h
          by_cases g5 : 0 ≤ h9 ∧ h9 ≤ 23
          · rw [if_pos g5] at h
            by_cases g6 : 0 ≤ y9 ∧ y9 ≤ 300
            · rw [if_pos g6] at h
              by_cases g7 : 0 ≤ a9 ∧ a9 ≤ 7
              · rw [if_pos g7] at h
                by_cases g8 : 0 ≤ p9 ∧ p9 ≤ 20
                · rw [if_pos g8] at h
                  by_cases g9 : 0 ≤ z9 ∧ z9 ≤ 6
                  · rw [if_pos g9] at h
                    simp (config := {decide := true}) only [r143_0, r143_1, r143_2, r143_3, r143_5, r143_8, r143_11, r143_12, r143_13, r143_15, r143_18, r143_21, r143_22, r143_23, r143_25, r143_28, r143_31, r143_33, r143_34, r143_35, r143_38, r143_41, r143_42, r143_45, r143_46, r143_49, r143_50, r143_52, r143_53, r143_55, r143_58, r143_61, r143_63, r143_64, r143_67, r143_70, r143_73, r143_75, r143_76, r143_78, r143_81, r143_84, r143_85, r143_88, r143_89, r143_92, r143_93, r143_95, r143_96, r143_98, r143_101, r143_104, r143_106, r143_107, r143_109, r143_112, r143_115, r143_116, r143_119, r143_120, r143_123, r143_124, r143_127, r143_128, r143_129, r143_130, r143_132, r143_134, r143_137, r143_138, r143_141, r143_143, r143_145, r143_147, r143_149, r143_152, r143_153, r143_156, r143_159, if_true, if_false, Nat.reduceAdd, Int32.reduceToNatClampNeg, lo_i, lo_r, lo_n, kont_v, kont_n, List.length_nil, List.length_cons, and_self, and_true, true_and, and_false, false_and, not_true, not_false_eq_true, true_or, or_true, bi_eq0, c181 hx, c179 hx, c180 hx, c182, c183, kx, g1, g2, g3, g4, g5, g6, g7, g8, g9, k24, c36, c37, upR_same, upR_upR, scr_in, scr_scr, scr_p, scr_i, e38 hC.1.1 hC.1.2.2.2]
                    rw [show nzV (I 25) (tmg (thg (I 27) l9 n9 d9 s9 p9) h9 y9 a9 z9) (lnI I) (I 26) = nzC (I 25) (lnI I) l9 n9 d9 s9 h9 y9 a9 p9 z9 from by
                      unfold nzC
                      rw [nzV_ind hC.1.2 (g' := fun _ => 0)]
                      exact nzV_cong (inp := tmg (thg (I 27) l9 n9 d9 s9 p9) h9 y9 a9 z9) (inp' := inpf l9 n9 d9 s9 h9 y9 a9 p9 z9) (below9 rfl rfl rfl rfl rfl rfl rfl rfl rfl) _]
                    exact okCs h
                  · rw [if_neg g9] at h
                    simp (config := {decide := true}) only [r143_0, r143_1, r143_2, r143_3, r143_5, r143_8, r143_11, r143_12, r143_13, r143_15, r143_18, r143_21, r143_22, r143_23, r143_25, r143_28, r143_31, r143_33, r143_34, r143_35, r143_38, r143_41, r143_42, r143_45, r143_46, r143_49, r143_50, r143_52, r143_53, r143_55, r143_58, r143_61, r143_63, r143_64, r143_67, r143_70, r143_73, r143_75, r143_76, r143_78, r143_81, r143_84, r143_85, r143_88, r143_89, r143_92, r143_93, r143_95, r143_96, r143_98, r143_101, r143_104, r143_106, r143_107, r143_109, r143_112, r143_115, r143_116, r143_119, r143_120, r143_123, r143_124, r143_127, r143_128, r143_129, r143_130, r143_132, r143_134, r143_137, r143_138, r143_141, r143_143, r143_145, r143_147, r143_149, r143_152, r143_153, r143_156, r143_159, if_true, if_false, Nat.reduceAdd, Int32.reduceToNatClampNeg, lo_i, lo_r, lo_n, kont_v, kont_n, List.length_nil, List.length_cons, and_self, and_true, true_and, and_false, false_and, not_true, not_false_eq_true, true_or, or_true, bi_eq0, c181 hx, c179 hx, c180 hx, c182, c183, kx, g1, g2, g3, g4, g5, g6, g7, g8, g9]
                    exact exC2 h
                · rw [if_neg g8] at h
                  simp (config := {decide := true}) only [r143_0, r143_1, r143_2, r143_3, r143_5, r143_8, r143_11, r143_12, r143_13, r143_15, r143_18, r143_21, r143_22, r143_23, r143_25, r143_28, r143_31, r143_33, r143_34, r143_35, r143_38, r143_41, r143_42, r143_45, r143_46, r143_49, r143_50, r143_52, r143_53, r143_55, r143_58, r143_61, r143_63, r143_64, r143_67, r143_70, r143_73, r143_75, r143_76, r143_78, r143_81, r143_84, r143_85, r143_88, r143_89, r143_92, r143_93, r143_95, r143_96, r143_98, r143_101, r143_104, r143_106, r143_107, r143_109, r143_112, r143_115, r143_116, r143_119, r143_120, r143_123, r143_124, r143_127, r143_128, r143_129, r143_130, r143_132, r143_134, r143_137, r143_138, r143_141, r143_143, r143_145, r143_147, r143_149, r143_152, r143_153, r143_156, r143_159, if_true, if_false, Nat.reduceAdd, Int32.reduceToNatClampNeg, lo_i, lo_r, lo_n, kont_v, kont_n, List.length_nil, List.length_cons, and_self, and_true, true_and, and_false, false_and, not_true, not_false_eq_true, true_or, or_true, bi_eq0, c181 hx, c179 hx, c180 hx, c182, c183, kx, g1, g2, g3, g4, g5, g6, g7, g8]
                  exact exC2 h
              · rw [if_neg g7] at h
                simp (config := {decide := true}) only [r143_0, r143_1, r143_2, r143_3, r143_5, r143_8, r143_11, r143_12, r143_13, r143_15, r143_18, r143_21, r143_22, r143_23, r143_25, r143_28, r143_31, r143_33, r143_34, r143_35, r143_38, r143_41, r143_42, r143_45, r143_46, r143_49, r143_50, r143_52, r143_53, r143_55, r143_58, r143_61, r143_63, r143_64, r143_67, r143_70, r143_73, r143_75, r143_76, r143_78, r143_81, r143_84, r143_85, r143_88, r143_89, r143_92, r143_93, r143_95, r143_96, r143_98, r143_101, r143_104, r143_106, r143_107, r143_109, r143_112, r143_115, r143_116, r143_119, r143_120, r143_123, r143_124, r143_127, r143_128, r143_129, r143_130, r143_132, r143_134, r143_137, r143_138, r143_141, r143_143, r143_145, r143_147, r143_149, r143_152, r143_153, r143_156, r143_159, if_true, if_false, Nat.reduceAdd, Int32.reduceToNatClampNeg, lo_i, lo_r, lo_n, kont_v, kont_n, List.length_nil, List.length_cons, and_self, and_true, true_and, and_false, false_and, not_true, not_false_eq_true, true_or, or_true, bi_eq0, c181 hx, c179 hx, c180 hx, c182, c183, kx, g1, g2, g3, g4, g5, g6, g7]
                exact exC2 h
            · rw [if_neg g6] at h
              simp (config := {decide := true}) only [r143_0, r143_1, r143_2, r143_3, r143_5, r143_8, r143_11, r143_12, r143_13, r143_15, r143_18, r143_21, r143_22, r143_23, r143_25, r143_28, r143_31, r143_33, r143_34, r143_35, r143_38, r143_41, r143_42, r143_45, r143_46, r143_49, r143_50, r143_52, r143_53, r143_55, r143_58, r143_61, r143_63, r143_64, r143_67, r143_70, r143_73, r143_75, r143_76, r143_78, r143_81, r143_84, r143_85, r143_88, r143_89, r143_92, r143_93, r143_95, r143_96, r143_98, r143_101, r143_104, r143_106, r143_107, r143_109, r143_112, r143_115, r143_116, r143_119, r143_120, r143_123, r143_124, r143_127, r143_128, r143_129, r143_130, r143_132, r143_134, r143_137, r143_138, r143_141, r143_143, r143_145, r143_147, r143_149, r143_152, r143_153, r143_156, r143_159, if_true, if_false, Nat.reduceAdd, Int32.reduceToNatClampNeg, lo_i, lo_r, lo_n, kont_v, kont_n, List.length_nil, List.length_cons, and_self, and_true, true_and, and_false, false_and, not_true, not_false_eq_true, true_or, or_true, bi_eq0, c181 hx, c179 hx, c180 hx, c182, c183, kx, g1, g2, g3, g4, g5, g6]
              exact exC2 h
          · rw [if_neg g5] at h
            simp (config := {decide := true}) only [r143_0, r143_1, r143_2, r143_3, r143_5, r143_8, r143_11, r143_12, r143_13, r143_15, r143_18, r143_21, r143_22, r143_23, r143_25, r143_28, r143_31, r143_33, r143_34, r143_35, r143_38, r143_41, r143_42, r143_45, r143_46, r143_49, r143_50, r143_52, r143_53, r143_55, r143_58, r143_61, r143_63, r143_64, r143_67, r143_70, r143_73, r143_75, r143_76, r143_78, r143_81, r143_84, r143_85, r143_88, r143_89, r143_92, r143_93, r143_95, r143_96, r143_98, r143_101, r143_104, r143_106, r143_107, r143_109, r143_112, r143_115, r143_116, r143_119, r143_120, r143_123, r143_124, r143_127, r143_128, r143_129, r143_130, r143_132, r143_134, r143_137, r143_138, r143_141, r143_143, r143_145, r143_147, r143_149, r143_152, r143_153, r143_156, r143_159, if_true, if_false, Nat.reduceAdd, Int32.reduceToNatClampNeg, lo_i, lo_r, lo_n, kont_v, kont_n, List.length_nil, List.length_cons, and_self, and_true, true_and, and_false, false_and, not_true, not_false_eq_true, true_or, or_true, bi_eq0, c181 hx, c179 hx, c180 hx, c182, c183, kx, g1, g2, g3, g4, g5]
            exact exC2 h
        · rw [if_neg g4] at h
          simp (config := {decide := true}) only [r143_0, r143_1, r143_2, r143_3, r143_5, r143_8, r143_11, r143_12, r143_13, r143_15, r143_18, r143_21, r143_22, r143_23, r143_25, r143_28, r143_31, r143_33, r143_34, r143_35, r143_38, r143_41, r143_42, r143_45, r143_46, r143_49, r143_50, r143_52, r143_53, r143_55, r143_58, r143_61, r143_63, r143_64, r143_67, r143_70, r143_73, r143_75, r143_76, r143_78, r143_81, r143_84, r143_85, r143_88, r143_89, r143_92, r143_93, r143_95, r143_96, r143_98, r143_101, r143_104, r143_106, r143_107, r143_109, r143_112, r143_115, r143_116, r143_119, r143_120, r143_123, r143_124, r143_127, r143_128, r143_129, r143_130, r143_132, r143_134, r143_137, r143_138, r143_141, r143_143, r143_145, r143_147, r143_149, r143_152, r143_153, r143_156, r143_159, if_true, if_false, Nat.reduceAdd, Int32.reduceToNatClampNeg, lo_i, lo_r, lo_n, kont_v, kont_n, List.length_nil, List.length_cons, and_self, and_true, true_and, and_false, false_and, not_true, not_false_eq_true, true_or, or_true, bi_eq0, c181 hx, c179 hx, c180 hx, c182, c183, kx, g1, g2, g3, g4]
          exact exC2 h
      · rw [if_neg g3] at h
        simp (config := {decide := true}) only [r143_0, r143_1, r143_2, r143_3, r143_5, r143_8, r143_11, r143_12, r143_13, r143_15, r143_18, r143_21, r143_22, r143_23, r143_25, r143_28, r143_31, r143_33, r143_34, r143_35, r143_38, r143_41, r143_42, r143_45, r143_46, r143_49, r143_50, r143_52, r143_53, r143_55, r143_58, r143_61, r143_63, r143_64, r143_67, r143_70, r143_73, r143_75, r143_76, r143_78, r143_81, r143_84, r143_85, r143_88, r143_89, r143_92, r143_93, r143_95, r143_96, r143_98, r143_101, r143_104, r143_106, r143_107, r143_109, r143_112, r143_115, r143_116, r143_119, r143_120, r143_123, r143_124, r143_127, r143_128, r143_129, r143_130, r143_132, r143_134, r143_137, r143_138, r143_141, r143_143, r143_145, r143_147, r143_149, r143_152, r143_153, r143_156, r143_159, if_true, if_false, Nat.reduceAdd, Int32.reduceToNatClampNeg, lo_i, lo_r, lo_n, kont_v, kont_n, List.length_nil, List.length_cons, and_self, and_true, true_and, and_false, false_and, not_true, not_false_eq_true, true_or, or_true, bi_eq0, c181 hx, c179 hx, c180 hx, c182, c183, kx, g1, g2, g3]
        exact exC2 h
    · rw [if_neg g2] at h
      simp (config := {decide := true}) only [r143_0, r143_1, r143_2, r143_3, r143_5, r143_8, r143_11, r143_12, r143_13, r143_15, r143_18, r143_21, r143_22, r143_23, r143_25, r143_28, r143_31, r143_33, r143_34, r143_35, r143_38, r143_41, r143_42, r143_45, r143_46, r143_49, r143_50, r143_52, r143_53, r143_55, r143_58, r143_61, r143_63, r143_64, r143_67, r143_70, r143_73, r143_75, r143_76, r143_78, r143_81, r143_84, r143_85, r143_88, r143_89, r143_92, r143_93, r143_95, r143_96, r143_98, r143_101, r143_104, r143_106, r143_107, r143_109, r143_112, r143_115, r143_116, r143_119, r143_120, r143_123, r143_124, r143_127, r143_128, r143_129, r143_130, r143_132, r143_134, r143_137, r143_138, r143_141, r143_143, r143_145, r143_147, r143_149, r143_152, r143_153, r143_156, r143_159, if_true, if_false, Nat.reduceAdd, Int32.reduceToNatClampNeg, lo_i, lo_r, lo_n, kont_v, kont_n, List.length_nil, List.length_cons, and_self, and_true, true_and, and_false, false_and, not_true, not_false_eq_true, true_or, or_true, bi_eq0, c181 hx, c179 hx, c180 hx, c182, c183, kx, g1, g2]
      exact exC2 h
  · rw [if_neg g1] at h
    simp (config := {decide := true}) only [r143_0, r143_1, r143_2, r143_3, r143_5, r143_8, r143_11, r143_12, r143_13, r143_15, r143_18, r143_21, r143_22, r143_23, r143_25, r143_28, r143_31, r143_33, r143_34, r143_35, r143_38, r143_41, r143_42, r143_45, r143_46, r143_49, r143_50, r143_52, r143_53, r143_55, r143_58, r143_61, r143_63, r143_64, r143_67, r143_70, r143_73, r143_75, r143_76, r143_78, r143_81, r143_84, r143_85, r143_88, r143_89, r143_92, r143_93, r143_95, r143_96, r143_98, r143_101, r143_104, r143_106, r143_107, r143_109, r143_112, r143_115, r143_116, r143_119, r143_120, r143_123, r143_124, r143_127, r143_128, r143_129, r143_130, r143_132, r143_134, r143_137, r143_138, r143_141, r143_143, r143_145, r143_147, r143_149, r143_152, r143_153, r143_156, r143_159, if_true, if_false, Nat.reduceAdd, Int32.reduceToNatClampNeg, lo_i, lo_r, lo_n, kont_v, kont_n, List.length_nil, List.length_cons, and_self, and_true, true_and, and_false, false_and, not_true, not_false_eq_true, true_or, or_true, bi_eq0, c181 hx, c179 hx, c180 hx, c182, c183, kx, g1]
    exact exC2 h
theorem n237 (hM : MI I) : wpc (d + 3) 237 [.ref (70 : Nat), .int l9, .int n9, .int d9, .int s9, .int h9, .int y9, .int a9, .int p9, .int z9] (mk n I L x) Φ ↔ Φ (.inl (some (.int (nzC (I 25) (lnI I) l9 n9 d9 s9 h9 y9 a9 p9 z9)))) (mk n (scm I (byS I (I 451, kn (I 452) l9 n9 d9 s9 h9 y9 a9 p9 z9), kn (I 452) l9 n9 d9 s9 h9 y9 a9 p9 z9)) L x) := by
  have e := m237 (d := d) (n := n) (x := x) (Φ := Φ) (L := L) (p := (I 451, I 452)) hM (l9 := l9) (n9 := n9) (d9 := d9) (s9 := s9) (h9 := h9) (y9 := y9) (a9 := a9) (p9 := p9) (z9 := z9)
  rwa [scm_self] at e
theorem u264 (hI : Inv I) (h : resM n I L x Φ (aWould I l9 n9 d9 s9 h9 y9 a9 p9 z9)) : wpc (d + 12) 264 [.ref (70 : Nat), .int l9, .int n9, .int d9, .int s9, .int h9, .int y9, .int a9, .int p9, .int z9] (mk n I L x) Φ := by
  show wp (d + 12) 264 0 [.ref (70 : Nat), .int l9, .int n9, .int d9, .int s9, .int h9, .int y9, .int a9, .int p9, .int z9] [] (mk n I L x) Φ
  rw [r264_0, r264_1, r264_2]
  replace h := resM_z h
  rw [← t_aWould v70] at h
  replace hI := tr_Inv v70 hI
  have hz := z70 (I := I)
  generalize wrI I 70 0 0 = I at h hI hz ⊢
  unfold aWould at h
  have hM := hI.1
  by_cases g1 : 1 ≤ l9 ∧ l9 ≤ 30
  · rw [if_pos g1] at h
    by_cases g2 : 0 ≤ n9 ∧ n9 ≤ 9
    · rw [if_pos g2] at h
      by_cases g3 : 1 ≤ d9 ∧ d9 ≤ 60
      · rw [if_pos g3] at h
        by_cases g4 : 0 ≤ s9 ∧ s9 ≤ 1
        · rw [if_pos g4] at h
          by_cases g5 : 0 ≤ h9 ∧ h9 ≤ 23
          · rw [if_pos g5] at h
            by_cases g6 : 0 ≤ y9 ∧ y9 ≤ 300
            · rw [if_pos g6] at h
              by_cases g7 : 0 ≤ a9 ∧ a9 ≤ 7
              · rw [if_pos g7] at h
                by_cases g8 : 0 ≤ p9 ∧ p9 ≤ 20
                · rw [if_pos g8] at h
                  by_cases g9 : 0 ≤ z9 ∧ z9 ≤ 6
                  · rw [if_pos g9] at h
                    simp (config := {decide := true}) only [r264_5, r264_6, r264_7, r264_8, r264_10, r264_13, r264_16, r264_17, r264_18, r264_20, r264_23, r264_26, r264_27, r264_28, r264_30, r264_33, r264_36, r264_38, r264_39, r264_40, r264_43, r264_46, r264_48, r264_51, r264_54, r264_56, r264_57, r264_60, r264_63, r264_66, r264_68, r264_69, r264_71, r264_74, r264_77, r264_79, r264_80, r264_82, r264_85, r264_88, r264_90, r264_91, r264_93, r264_96, r264_99, r264_100, r264_103, r264_104, r264_105, r264_106, r264_109, r264_112, r264_113, r264_114, r264_115, r264_116, r264_117, r264_118, r264_120, r264_122, r264_124, r264_126, r264_128, r264_130, r264_133, if_true, if_false, Nat.reduceAdd, Int32.reduceToNatClampNeg, lo_i, lo_r, lo_n, kont_v, kont_n, List.length_nil, List.length_cons, and_self, and_true, true_and, and_false, false_and, not_true, not_false_eq_true, true_or, or_true, bi_eq0, b10 hz, b11 hz, b21 hz, m194, m259, g1, g2, g3, g4, g5, g6, g7, g8, g9, n237 hM]
                    exact okMs h hz
                  · rw [if_neg g9] at h
                    simp (config := {decide := true}) only [r264_5, r264_6, r264_7, r264_8, r264_10, r264_13, r264_16, r264_17, r264_18, r264_20, r264_23, r264_26, r264_27, r264_28, r264_30, r264_33, r264_36, r264_38, r264_39, r264_40, r264_43, r264_46, r264_48, r264_51, r264_54, r264_56, r264_57, r264_60, r264_63, r264_66, r264_68, r264_69, r264_71, r264_74, r264_77, r264_79, r264_80, r264_82, r264_85, r264_88, r264_90, r264_91, r264_93, r264_96, r264_99, r264_100, r264_103, r264_104, r264_105, r264_106, r264_109, r264_112, r264_113, r264_114, r264_115, r264_116, r264_117, r264_118, r264_120, r264_122, r264_124, r264_126, r264_128, r264_130, r264_133, if_true, if_false, Nat.reduceAdd, Int32.reduceToNatClampNeg, lo_i, lo_r, lo_n, kont_v, kont_n, List.length_nil, List.length_cons, and_self, and_true, true_and, and_false, false_and, not_true, not_false_eq_true, true_or, or_true, bi_eq0, b10 hz, b11 hz, b21 hz, m194, m259, m257 hI, m258 hI, m266 hI, m274 hI, g1, g2, g3, g4, g5, g6, g7, g8, g9]
                    exact exM h
                · rw [if_neg g8] at h
                  simp (config := {decide := true}) only [r264_5, r264_6, r264_7, r264_8, r264_10, r264_13, r264_16, r264_17, r264_18, r264_20, r264_23, r264_26, r264_27, r264_28, r264_30, r264_33, r264_36, r264_38, r264_39, r264_40, r264_43, r264_46, r264_48, r264_51, r264_54, r264_56, r264_57, r264_60, r264_63, r264_66, r264_68, r264_69, r264_71, r264_74, r264_77, r264_79, r264_80, r264_82, r264_85, r264_88, r264_90, r264_91, r264_93, r264_96, r264_99, r264_100, r264_103, r264_104, r264_105, r264_106, r264_109, r264_112, r264_113, r264_114, r264_115, r264_116, r264_117, r264_118, r264_120, r264_122, r264_124, r264_126, r264_128, r264_130, r264_133, if_true, if_false, Nat.reduceAdd, Int32.reduceToNatClampNeg, lo_i, lo_r, lo_n, kont_v, kont_n, List.length_nil, List.length_cons, and_self, and_true, true_and, and_false, false_and, not_true, not_false_eq_true, true_or, or_true, bi_eq0, b10 hz, b11 hz, b21 hz, m194, m259, m257 hI, m258 hI, m266 hI, m274 hI, g1, g2, g3, g4, g5, g6, g7, g8]
                  exact exM h
              · rw [if_neg g7] at h
                simp (config := {decide := true}) only [r264_5, r264_6, r264_7, r264_8, r264_10, r264_13, r264_16, r264_17, r264_18, r264_20, r264_23, r264_26, r264_27, r264_28, r264_30, r264_33, r264_36, r264_38, r264_39, r264_40, r264_43, r264_46, r264_48, r264_51, r264_54, r264_56, r264_57, r264_60, r264_63, r264_66, r264_68, r264_69, r264_71, r264_74, r264_77, r264_79, r264_80, r264_82, r264_85, r264_88, r264_90, r264_91, r264_93, r264_96, r264_99, r264_100, r264_103, r264_104, r264_105, r264_106, r264_109, r264_112, r264_113, r264_114, r264_115, r264_116, r264_117, r264_118, r264_120, r264_122, r264_124, r264_126, r264_128, r264_130, r264_133, if_true, if_false, Nat.reduceAdd, Int32.reduceToNatClampNeg, lo_i, lo_r, lo_n, kont_v, kont_n, List.length_nil, List.length_cons, and_self, and_true, true_and, and_false, false_and, not_true, not_false_eq_true, true_or, or_true, bi_eq0, b10 hz, b11 hz, b21 hz, m194, m259, m257 hI, m258 hI, m266 hI, m274 hI, g1, g2, g3, g4, g5, g6, g7]
                exact exM h
            · rw [if_neg g6] at h
              simp (config := {decide := true}) only [r264_5, r264_6, r264_7, r264_8, r264_10, r264_13, r264_16, r264_17, r264_18, r264_20, r264_23, r264_26, r264_27, r264_28, r264_30, r264_33, r264_36, r264_38, r264_39, r264_40, r264_43, r264_46, r264_48, r264_51, r264_54, r264_56, r264_57, r264_60, r264_63, r264_66, r264_68, r264_69, r264_71, r264_74, r264_77, r264_79, r264_80, r264_82, r264_85, r264_88, r264_90, r264_91, r264_93, r264_96, r264_99, r264_100, r264_103, r264_104, r264_105, r264_106, r264_109, r264_112, r264_113, r264_114, r264_115, r264_116, r264_117, r264_118, r264_120, r264_122, r264_124, r264_126, r264_128, r264_130, r264_133, if_true, if_false, Nat.reduceAdd, Int32.reduceToNatClampNeg, lo_i, lo_r, lo_n, kont_v, kont_n, List.length_nil, List.length_cons, and_self, and_true, true_and, and_false, false_and, not_true, not_false_eq_true, true_or, or_true, bi_eq0, b10 hz, b11 hz, b21 hz, m194, m259, m257 hI, m258 hI, m266 hI, m274 hI, g1, g2, g3, g4, g5, g6]
              exact exM h
          · rw [if_neg g5] at h
            simp (config := {decide := true}) only [r264_5, r264_6, r264_7, r264_8, r264_10, r264_13, r264_16, r264_17, r264_18, r264_20, r264_23, r264_26, r264_27, r264_28, r264_30, r264_33, r264_36, r264_38, r264_39, r264_40, r264_43, r264_46, r264_48, r264_51, r264_54, r264_56, r264_57, r264_60, r264_63, r264_66, r264_68, r264_69, r264_71, r264_74, r264_77, r264_79, r264_80, r264_82, r264_85, r264_88, r264_90, r264_91, r264_93, r264_96, r264_99, r264_100, r264_103, r264_104, r264_105, r264_106, r264_109, r264_112, r264_113, r264_114, r264_115, r264_116, r264_117, r264_118, r264_120, r264_122, r264_124, r264_126, r264_128, r264_130, r264_133, if_true, if_false, Nat.reduceAdd, Int32.reduceToNatClampNeg, lo_i, lo_r, lo_n, kont_v, kont_n, List.length_nil, List.length_cons, and_self, and_true, true_and, and_false, false_and, not_true, not_false_eq_true, true_or, or_true, bi_eq0, b10 hz, b11 hz, b21 hz, m194, m259, m257 hI, m258 hI, m266 hI, m274 hI, g1, g2, g3, g4, g5]
            exact exM h
        · rw [if_neg g4] at h
          simp (config := {decide := true}) only [r264_5, r264_6, r264_7, r264_8, r264_10, r264_13, r264_16, r264_17, r264_18, r264_20, r264_23, r264_26, r264_27, r264_28, r264_30, r264_33, r264_36, r264_38, r264_39, r264_40, r264_43, r264_46, r264_48, r264_51, r264_54, r264_56, r264_57, r264_60, r264_63, r264_66, r264_68, r264_69, r264_71, r264_74, r264_77, r264_79, r264_80, r264_82, r264_85, r264_88, r264_90, r264_91, r264_93, r264_96, r264_99, r264_100, r264_103, r264_104, r264_105, r264_106, r264_109, r264_112, r264_113, r264_114, r264_115, r264_116, r264_117, r264_118, r264_120, r264_122, r264_124, r264_126, r264_128, r264_130, r264_133, if_true, if_false, Nat.reduceAdd, Int32.reduceToNatClampNeg, lo_i, lo_r, lo_n, kont_v, kont_n, List.length_nil, List.length_cons, and_self, and_true, true_and, and_false, false_and, not_true, not_false_eq_true, true_or, or_true, bi_eq0, b10 hz, b11 hz, b21 hz, m194, m259, m257 hI, m258 hI, m266 hI, m274 hI, g1, g2, g3, g4]
          exact exM h
      · rw [if_neg g3] at h
        simp (config := {decide := true}) only [r264_5, r264_6, r264_7, r264_8, r264_10, r264_13, r264_16, r264_17, r264_18, r264_20, r264_23, r264_26, r264_27, r264_28, r264_30, r264_33, r264_36, r264_38, r264_39, r264_40, r264_43, r264_46, r264_48, r264_51, r264_54, r264_56, r264_57, r264_60, r264_63, r264_66, r264_68, r264_69, r264_71, r264_74, r264_77, r264_79, r264_80, r264_82, r264_85, r264_88, r264_90, r264_91, r264_93, r264_96, r264_99, r264_100, r264_103, r264_104, r264_105, r264_106, r264_109, r264_112, r264_113, r264_114, r264_115, r264_116, r264_117, r264_118, r264_120, r264_122, r264_124, r264_126, r264_128, r264_130, r264_133, if_true, if_false, Nat.reduceAdd, Int32.reduceToNatClampNeg, lo_i, lo_r, lo_n, kont_v, kont_n, List.length_nil, List.length_cons, and_self, and_true, true_and, and_false, false_and, not_true, not_false_eq_true, true_or, or_true, bi_eq0, b10 hz, b11 hz, b21 hz, m194, m259, m257 hI, m258 hI, m266 hI, m274 hI, g1, g2, g3]
        exact exM h
    · rw [if_neg g2] at h
      simp (config := {decide := true}) only [r264_5, r264_6, r264_7, r264_8, r264_10, r264_13, r264_16, r264_17, r264_18, r264_20, r264_23, r264_26, r264_27, r264_28, r264_30, r264_33, r264_36, r264_38, r264_39, r264_40, r264_43, r264_46, r264_48, r264_51, r264_54, r264_56, r264_57, r264_60, r264_63, r264_66, r264_68, r264_69, r264_71, r264_74, r264_77, r264_79, r264_80, r264_82, r264_85, r264_88, r264_90, r264_91, r264_93, r264_96, r264_99, r264_100, r264_103, r264_104, r264_105, r264_106, r264_109, r264_112, r264_113, r264_114, r264_115, r264_116, r264_117, r264_118, r264_120, r264_122, r264_124, r264_126, r264_128, r264_130, r264_133, if_true, if_false, Nat.reduceAdd, Int32.reduceToNatClampNeg, lo_i, lo_r, lo_n, kont_v, kont_n, List.length_nil, List.length_cons, and_self, and_true, true_and, and_false, false_and, not_true, not_false_eq_true, true_or, or_true, bi_eq0, b10 hz, b11 hz, b21 hz, m194, m259, m257 hI, m258 hI, m266 hI, m274 hI, g1, g2]
      exact exM h
  · rw [if_neg g1] at h
    simp (config := {decide := true}) only [r264_5, r264_6, r264_7, r264_8, r264_10, r264_13, r264_16, r264_17, r264_18, r264_20, r264_23, r264_26, r264_27, r264_28, r264_30, r264_33, r264_36, r264_38, r264_39, r264_40, r264_43, r264_46, r264_48, r264_51, r264_54, r264_56, r264_57, r264_60, r264_63, r264_66, r264_68, r264_69, r264_71, r264_74, r264_77, r264_79, r264_80, r264_82, r264_85, r264_88, r264_90, r264_91, r264_93, r264_96, r264_99, r264_100, r264_103, r264_104, r264_105, r264_106, r264_109, r264_112, r264_113, r264_114, r264_115, r264_116, r264_117, r264_118, r264_120, r264_122, r264_124, r264_126, r264_128, r264_130, r264_133, if_true, if_false, Nat.reduceAdd, Int32.reduceToNatClampNeg, lo_i, lo_r, lo_n, kont_v, kont_n, List.length_nil, List.length_cons, and_self, and_true, true_and, and_false, false_and, not_true, not_false_eq_true, true_or, or_true, bi_eq0, b10 hz, b11 hz, b21 hz, m194, m259, m257 hI, m258 hI, m266 hI, m274 hI, g1]
    exact exM h
end Q1
