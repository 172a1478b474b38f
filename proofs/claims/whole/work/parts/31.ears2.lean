/-! WHO HEARS WHAT -/
abbrev Scr : Type := (Nat → Int32) × (Nat → Int32)
/-- the memory with its scratch rows: the pile, the inputs -/
def scr (I : Nat → Nat → Int32) (s : Scr) : Nat → Nat → Int32 := upR (upR I 26 s.1) 27 s.2
theorem scr_ne {I : Nat → Nat → Int32} {s : Scr} {a : Nat} (h1 : a ≠ 26) (h2 : a ≠ 27) : scr I s a = I a := by
  unfold scr
  rw [upR_ne h2, upR_ne h1]
theorem scr_p {I : Nat → Nat → Int32} {s : Scr} : scr I s 26 = s.1 := by
  unfold scr
  rw [upR_ne (by decide), upR_same]
theorem scr_i {I : Nat → Nat → Int32} {s : Scr} : scr I s 27 = s.2 := by
  unfold scr
  rw [upR_same]
theorem upR_comm {α : Type} {I : Nat → α} {p q : Nat} {a b : α} (h : p ≠ q) : upR (upR I p a) q b = upR (upR I q b) p a := by
  funext z
  unfold upR
  by_cases h1 : z = q
  · subst h1
    rw [if_pos rfl, if_neg (fun e => h e.symm), if_pos rfl]
  · rw [if_neg h1]
    by_cases h2 : z = p
    · rw [if_pos h2, if_pos h2]
    · rw [if_neg h2, if_neg h2, if_neg h1]
theorem scr_up {I : Nat → Nat → Int32} {s : Scr} {g : Nat → Int32} : upR (scr I s) 26 g = scr I (g, s.2) := by
  unfold scr
  rw [upR_comm (by decide), upR_upR]
theorem scr_ui {I : Nat → Nat → Int32} {s : Scr} {g : Nat → Int32} : upR (scr I s) 27 g = scr I (s.1, g) := by
  unfold scr
  rw [upR_upR]
theorem scr_self (I : Nat → Nat → Int32) : scr I (I 26, I 27) = I := by
  unfold scr
  rw [upR_self, upR_self]
theorem scr_in (I : Nat → Nat → Int32) (g : Nat → Int32) : upR I 27 g = scr I (I 26, g) := by
  unfold scr
  rw [upR_self]
theorem scr_out {I : Nat → Nat → Int32} {s : Scr} {a : Nat} {g : Nat → Int32} (h1 : a ≠ 26) (h2 : a ≠ 27) : upR (scr I s) a g = scr (upR I a g) s := by
  unfold scr
  rw [upR_comm (Ne.symm h2), upR_comm (Ne.symm h1)]
theorem scr_scr {I : Nat → Nat → Int32} {s t : Scr} : scr (scr I s) t = scr I t := by
  show upR (upR (scr I s) 26 t.1) 27 t.2 = _
  rw [scr_up, scr_ui]
def hdF (f lou sg : Nat → Int32) (len : Nat) (dv s clocks : Int32) (k : Nat) (q : Int32 × Scr) : Int32 × Scr :=
  if clocks >>> (nt k &&& 31) &&& 1 = 1 then
    (q.1 + nzV sg (thg q.2.2 (lou k) (atv 84 f (18 + s * 6 + nt k)) dv (f (12 + k)) (f k)) len q.2.1, ((nzA sg (thg q.2.2 (lou k) (atv 84 f (18 + s * 6 + nt k)) dv (f (12 + k)) (f k)) len q.2.1).2, thg q.2.2 (lou k) (atv 84 f (18 + s * 6 + nt k)) dv (f (12 + k)) (f k)))
  else q
def hdA (f lou sg : Nat → Int32) (len C : Nat) (dv s clocks : Int32) (q : Scr) : Int32 × Scr := foldN (hdF f lou sg len dv s clocks) C (0, (q.1, tmg q.2 (f 81) (f 82) (awm f) s))
section Eas
variable {d n x c len C Ns : Nat} {Φ : POut → PM → Prop} {I : Nat → Nat → Int32} {L : Nat → Nat → Int64} {k s h v a b bits clocks : Int32}
theorem n26 (h : K5 c) : c + 1 ≠ 26 := by rcases h with rfl | rfl | rfl | rfl | rfl | rfl | rfl <;> decide
theorem n27 (h : K5 c) : c + 1 ≠ 27 := by rcases h with rfl | rfl | rfl | rfl | rfl | rfl | rfl <;> decide
theorem e38 (hl : I 24 3 = nt len) (hle : len ≤ 150) (q : Scr) (Ψ : POut → PM → Prop) : wpc (d + 2) 38 [.ref (24 : Nat)] (mk n (scr I q) L x) Ψ ↔ Ψ (.inl (some (.int (nzV (I 25) q.2 len q.1)))) (mk n (scr I ((nzA (I 25) q.2 len q.1).2, q.2)) L x) := by
  rw [c38 (len := len) (by rw [scr_ne (by decide) (by decide)]; exact hl) hle, scr_ne (a := 25) (by decide) (by decide), scr_i, scr_p, scr_up]
theorem c23 (hc : K5 c) (hl : I 24 3 = nt len) (hle : len ≤ 150) (hC : I 12 6 = nt C) (hC6 : C ≤ 6) : wpc (d + 3) 23 [.ref (39 : Nat), .ref c, .int s, .int clocks] (mk n I L x) Φ ↔ Φ (.inl (some (.int (hdA (I (c + 1)) (I 15) (I 25) len C (atv 7 (I 13) s) s clocks (I 26, I 27)).1))) (mk n (scr I (hdA (I (c + 1)) (I 15) (I 25) len C (atv 7 (I 13) s) s clocks (I 26, I 27)).2) L x) := by
  show wp (d + 3) 23 0 [.ref (39 : Nat), .ref c, .int s, .int clocks, noV, noV] [] (mk n I L x) Φ ↔ _
  simp (config := {decide := true}) only [r23_0, r23_1, r23_4, r23_5, r23_8, r23_9, r23_12, r23_13, r23_16, r23_17, r23_20, r23_21, r23_23, r23_24, if_true, if_false, Nat.reduceAdd, Int32.reduceToNatClampNeg, lo_i, lo_r, lo_n, kont_v, kont_n, List.length_nil, List.length_cons, hc, c43 hc, c44 hc, c56 hc, c37, k24, scr_in]
  refine loopN (P := fun k (q : Int32 × Scr) => wp (d + 3) 23 26 [.ref (39 : Nat), .ref c, .int s, .int clocks, .int q.1, .int (nt k)] [] (mk n (scr I q.2) L x) Φ) (Q := fun q => Φ (.inl (some (.int q.1))) (mk n (scr I q.2) L x)) (n := C) (f := hdF (I (c + 1)) (I 15) (I 25) len (atv 7 (I 13) s) s clocks) ?_ ?_ (0, (I 26, tmg (I 27) (I (c + 1) 81) (I (c + 1) 82) (awm (I (c + 1))) s))
  · intro k q hk
    have e1 : ¬ (nt C ≤ nt k) := nt_nle (by omega) (by omega)
    have e2 : atv 6 (I 15) (nt k) = I 15 k := atv_nt (by omega) (by decide)
    have e3 : atv 84 (I (c + 1)) (12 + nt k) = I (c + 1) (12 + k) := at_b 12 (by omega) (by decide)
    have e4 : atv 84 (I (c + 1)) (0 + nt k) = I (c + 1) k := at_0 (by omega) (by decide)
    have u5 : ∀ q, scr I q (c + 1) = I (c + 1) := fun q => scr_ne (n26 hc) (n27 hc)
    have u12 : ∀ q, scr I q 12 = I 12 := fun q => scr_ne (by decide) (by decide)
    have u13 : ∀ q, scr I q 13 = I 13 := fun q => scr_ne (by decide) (by decide)
    have u15 : ∀ q, scr I q 15 = I 15 := fun q => scr_ne (by decide) (by decide)
    rw [r23_26]
    simp (config := {decide := true}) only [r23_28, r23_29, r23_32, r23_35, r23_38, r23_39, r23_41, r23_44, r23_102, r23_105, r23_108, r23_110, if_true, if_false, Nat.reduceAdd, Int32.reduceToNatClampNeg, lo_i, lo_r, lo_n, kont_v, kont_n, List.length_nil, List.length_cons, k12, u12, hC, e1, c184, bi_eq0, hdF, nt_succ]
    by_cases h1 : clocks >>> (nt k &&& 31) &&& 1 = 1
    · simp (config := {decide := true}) only [h1, not_true, r23_28, r23_29, r23_32, r23_35, r23_38, r23_39, r23_41, r23_44, r23_47, r23_48, r23_51, r23_52, r23_55, r23_57, r23_60, r23_61, r23_62, r23_64, r23_67, r23_68, r23_71, r23_72, r23_75, r23_76, r23_78, r23_81, r23_82, r23_84, r23_87, r23_90, r23_92, r23_93, r23_96, r23_99, r23_100, r23_102, r23_105, r23_108, r23_110, if_true, if_false, Nat.reduceAdd, Int32.reduceToNatClampNeg, lo_i, lo_r, lo_n, kont_v, kont_n, List.length_nil, List.length_cons, hc, k12, k24, u5, u12, u13, u15, e2, e3, e4, c84 k12, c50 hc, c82 k12, c49 hc, c47 hc, c36, scr_i, scr_ui, e38 hl hle, nt_succ]
    · simp only [h1, not_false_eq_true, if_true, if_false]
  · intro q
    have u12 : ∀ q, scr I q 12 = I 12 := fun q => scr_ne (by decide) (by decide)
    have e6 : nt C ≤ nt C := Int32.le_refl _
    rw [r23_26]
    simp (config := {decide := true}) only [r23_28, r23_29, r23_32, r23_35, r23_108, r23_110, if_true, if_false, Nat.reduceAdd, Int32.reduceToNatClampNeg, lo_i, lo_r, lo_n, kont_v, kont_n, List.length_nil, List.length_cons, k12, u12, hC, e6]
/-- who wakes -/
def wkF (f dep lou sg : Nat → Int32) (len C : Nat) (clocks : Int32) (k : Nat) (q : Int32 × Scr) : Int32 × Scr :=
  if f (60 + k) = -1 then
    ((if dep k ≤ (hdA f lou sg len C (dep k) (nt k) clocks q.2).1 then q.1 ||| bt k else q.1), (hdA f lou sg len C (dep k) (nt k) clocks q.2).2)
  else q
def wkA (f dep lou sg : Nat → Int32) (len C Ns : Nat) (clocks : Int32) (q : Scr) : Int32 × Scr := if clocks = 0 then (0, q) else foldN (wkF f dep lou sg len C clocks) Ns (0, q)
theorem e23 (hc : K5 c) (hl : I 24 3 = nt len) (hle : len ≤ 150) (hC : I 12 6 = nt C) (hC6 : C ≤ 6) (q : Scr) (s clocks : Int32) (Ψ : POut → PM → Prop) : wpc (d + 3) 23 [.ref (39 : Nat), .ref c, .int s, .int clocks] (mk n (scr I q) L x) Ψ ↔ Ψ (.inl (some (.int (hdA (I (c + 1)) (I 15) (I 25) len C (atv 7 (I 13) s) s clocks q).1))) (mk n (scr I (hdA (I (c + 1)) (I 15) (I 25) len C (atv 7 (I 13) s) s clocks q).2) L x) := by
  rw [c23 (len := len) (C := C) hc (by rw [scr_ne (by decide) (by decide)]; exact hl) hle (by rw [scr_ne (by decide) (by decide)]; exact hC) hC6, scr_ne (n26 hc) (n27 hc), scr_ne (a := 15) (by decide) (by decide), scr_ne (a := 25) (by decide) (by decide), scr_ne (a := 13) (by decide) (by decide), scr_p, scr_i, scr_scr]
theorem c24 (hc : K5 c) (hl : I 24 3 = nt len) (hle : len ≤ 150) (hC : I 12 6 = nt C) (hC6 : C ≤ 6) (hN : I 12 5 = nt Ns) (hN7 : Ns ≤ 7) (q0 : Scr) : wpc (d + 4) 24 [.ref (39 : Nat), .ref c, .int clocks] (mk n (scr I q0) L x) Φ ↔ Φ (.inl (some (.int (wkA (I (c + 1)) (I 13) (I 15) (I 25) len C Ns clocks q0).1))) (mk n (scr I (wkA (I (c + 1)) (I 13) (I 15) (I 25) len C Ns clocks q0).2) L x) := by
  show wp (d + 4) 24 0 [.ref (39 : Nat), .ref c, .int clocks, noV, noV] [] (mk n (scr I q0) L x) Φ ↔ _
  simp (config := {decide := true}) only [r24_0, r24_1, r24_2, r24_3, if_true, if_false, Nat.reduceAdd, Int32.reduceToNatClampNeg, lo_i, lo_r, lo_n, kont_v, kont_n, List.length_nil, List.length_cons]
  unfold wkA
  by_cases h0 : clocks = 0
  · rw [r24_5]
    simp (config := {decide := true}) only [r24_6, r24_63, r24_64, if_true, if_false, Nat.reduceAdd, Int32.reduceToNatClampNeg, lo_i, lo_r, lo_n, kont_v, kont_n, List.length_nil, List.length_cons, h0]
  · rw [if_neg h0]
    refine loopN (P := fun k (q : Int32 × Scr) => wp (d + 4) 24 5 [.ref (39 : Nat), .ref c, .int clocks, .int q.1, .int (nt k)] [] (mk n (scr I q.2) L x) Φ) (Q := fun q => Φ (.inl (some (.int q.1))) (mk n (scr I q.2) L x)) (n := Ns) (f := wkF (I (c + 1)) (I 13) (I 15) (I 25) len C clocks) ?_ ?_ (0, q0)
    · intro k q hk
      have e1 : ¬ (nt Ns ≤ nt k) := nt_nle (by omega) (by omega)
      have e2 : atv 7 (I 13) (nt k) = I 13 k := atv_nt (by omega) (by decide)
      have e3 : atv 84 (I (c + 1)) (60 + nt k) = I (c + 1) (60 + k) := at_b 60 (by omega) (by decide)
      have u5 : ∀ q, scr I q (c + 1) = I (c + 1) := fun q => scr_ne (n26 hc) (n27 hc)
      have u12 : ∀ q, scr I q 12 = I 12 := fun q => scr_ne (by decide) (by decide)
      have u13 : ∀ q, scr I q 13 = I 13 := fun q => scr_ne (by decide) (by decide)
      rw [r24_5]
      simp (config := {decide := true}) only [r24_6, r24_9, r24_11, r24_12, r24_15, r24_18, r24_21, r24_22, r24_24, r24_27, r24_57, r24_60, r24_63, r24_64, if_true, if_false, Nat.reduceAdd, Int32.reduceToNatClampNeg, lo_i, lo_r, lo_n, kont_v, kont_n, List.length_nil, List.length_cons, k12, hc, u12, u5, hN, h0, e1, e3, c52 hc, bi_eq0, wkF, nt_succ]
      by_cases h1 : I (c + 1) (60 + k) = -1
      · by_cases h2 : I 13 k ≤ (hdA (I (c + 1)) (I 15) (I 25) len C (I 13 k) (nt k) clocks q.2).1
        · have h3 := Int32.not_lt.mpr h2
          simp (config := {decide := true}) only [h1, h2, h3, not_true, r24_30, r24_31, r24_32, r24_34, r24_35, r24_38, r24_39, r24_42, r24_44, r24_47, r24_50, r24_51, r24_52, r24_54, r24_55, r24_56, r24_57, r24_60, r24_63, r24_64, if_true, if_false, Nat.reduceAdd, Int32.reduceToNatClampNeg, lo_i, lo_r, lo_n, kont_v, kont_n, List.length_nil, List.length_cons, hc, k12, u13, e2, e23 hc hl hle hC hC6, c82 k12, nt_succ, bt]
        · have h3 := Int32.not_le.mp h2
          simp (config := {decide := true}) only [h1, h2, h3, not_true, r24_30, r24_31, r24_32, r24_34, r24_35, r24_38, r24_39, r24_42, r24_44, r24_47, r24_50, r24_51, r24_52, r24_54, r24_55, r24_56, r24_57, r24_60, r24_63, r24_64, if_true, if_false, Nat.reduceAdd, Int32.reduceToNatClampNeg, lo_i, lo_r, lo_n, kont_v, kont_n, List.length_nil, List.length_cons, hc, k12, u13, e2, e23 hc hl hle hC hC6, c82 k12, nt_succ, bt]
      · simp only [h1, not_false_eq_true, if_true, if_false]
    · intro q
      have u12 : ∀ q, scr I q 12 = I 12 := fun q => scr_ne (by decide) (by decide)
      have e6 : nt Ns ≤ nt Ns := Int32.le_refl _
      rw [r24_5]
      simp (config := {decide := true}) only [r24_6, r24_9, r24_11, r24_12, r24_15, r24_18, r24_63, r24_64, if_true, if_false, Nat.reduceAdd, Int32.reduceToNatClampNeg, lo_i, lo_r, lo_n, kont_v, kont_n, List.length_nil, List.length_cons, k12, u12, hN, h0, e6]
end Eas
