/-! QUESTIONS: coups -/
section Q6
variable {d n x c r j : Nat} {μ : PM} {Φ : POut → PM → Prop} {I J : Nat → Nat → Int32} {L : Nat → Nat → Int64} {k s h v w a b z : Int32} {p q : Scr}
def gnv (a b v w : Int32) : Int32 := (if b ≤ a then (if a = b then v / 2 else 0) else v) - w * (5 - a)
theorem c187 : wpc d 187 [.int a, .int b, .int v, .int w] μ Φ ↔ Φ (.inl (some (.int (gnv a b v w)))) μ := by
  show wp d 187 0 [.int a, .int b, .int v, .int w, noV] [] μ Φ ↔ _
  unfold gnv
  by_cases h1 : b ≤ a
  · by_cases h2 : a = b
    · simp (config := {decide := true}) only [r187_0, r187_1, r187_2, r187_5, r187_6, r187_9, r187_10, r187_11, r187_14, r187_15, r187_16, r187_17, r187_20, r187_21, r187_23, r187_25, r187_26, r187_27, r187_28, r187_29, r187_30, r187_31, if_true, if_false, Nat.reduceAdd, Int32.reduceToNatClampNeg, lo_i, lo_r, lo_n, kont_v, kont_n, List.length_nil, List.length_cons, h1, h2, ne_eq, Int32.le_refl]
    · simp (config := {decide := true}) only [r187_0, r187_1, r187_2, r187_5, r187_6, r187_9, r187_10, r187_11, r187_14, r187_15, r187_16, r187_17, r187_20, r187_21, r187_23, r187_25, r187_26, r187_27, r187_28, r187_29, r187_30, r187_31, if_true, if_false, Nat.reduceAdd, Int32.reduceToNatClampNeg, lo_i, lo_r, lo_n, kont_v, kont_n, List.length_nil, List.length_cons, h1, h2]
  · simp (config := {decide := true}) only [r187_0, r187_1, r187_2, r187_5, r187_6, r187_9, r187_10, r187_11, r187_14, r187_15, r187_16, r187_17, r187_20, r187_21, r187_23, r187_25, r187_26, r187_27, r187_28, r187_29, r187_30, r187_31, if_true, if_false, Nat.reduceAdd, Int32.reduceToNatClampNeg, lo_i, lo_r, lo_n, kont_v, kont_n, List.length_nil, List.length_cons, h1]
theorem m286 : wpc d 286 [.int a, .int b, .int v, .int w] μ Φ ↔ Φ (.inl (some (.int (gnv a b v w)))) μ := by
  show wp d 286 0 [.int a, .int b, .int v, .int w] [] μ Φ ↔ _
  unfold gnv
  by_cases h1 : b ≤ a
  · by_cases h2 : a = b
    · simp (config := {decide := true}) only [r286_0, r286_1, r286_2, r286_5, r286_6, r286_9, r286_10, r286_11, r286_14, r286_15, r286_16, r286_17, r286_20, r286_21, r286_22, r286_23, r286_24, r286_25, r286_26, r286_27, if_true, if_false, Nat.reduceAdd, Int32.reduceToNatClampNeg, lo_i, lo_r, lo_n, kont_v, kont_n, List.length_nil, List.length_cons, h1, h2, ne_eq, Int32.le_refl]
    · simp (config := {decide := true}) only [r286_0, r286_1, r286_2, r286_5, r286_6, r286_9, r286_10, r286_11, r286_14, r286_15, r286_16, r286_17, r286_20, r286_21, r286_22, r286_23, r286_24, r286_25, r286_26, r286_27, if_true, if_false, Nat.reduceAdd, Int32.reduceToNatClampNeg, lo_i, lo_r, lo_n, kont_v, kont_n, List.length_nil, List.length_cons, h1, h2]
  · simp (config := {decide := true}) only [r286_0, r286_1, r286_2, r286_5, r286_6, r286_9, r286_10, r286_11, r286_14, r286_15, r286_16, r286_17, r286_20, r286_21, r286_22, r286_23, r286_24, r286_25, r286_26, r286_27, if_true, if_false, Nat.reduceAdd, Int32.reduceToNatClampNeg, lo_i, lo_r, lo_n, kont_v, kont_n, List.length_nil, List.length_cons, h1]
def bsF (a b v w : Int32) (k : Nat) (_ : Unit) : Unit ⊕ Unit := if gnv (nt k) b v w ≤ gnv a b v w then .inl () else .inr ()
def bst (a b v w : Int32) : Bool := match foldE (bsF a b v w) 6 0 () with
  | .inl _ => true
  | .inr _ => false
theorem c188 (h : Φ (.inl (some (.int (if bst a b v w then 1 else 0)))) μ) : wpc (d + 1) 188 [.int a, .int b, .int v, .int w] μ Φ := by
  show wp (d + 1) 188 0 [.int a, .int b, .int v, .int w, noV, noV] [] μ Φ
  have hh : sumE (fun _ => Φ (.inl (some (.int 1))) μ) (fun _ => Φ (.inl (some (.int 0))) μ) (foldE (bsF a b v w) 6 0 ()) := by
    unfold bst at h
    revert h
    cases foldE (bsF a b v w) 6 0 () <;> exact id
  simp (config := {decide := true}) only [r188_0, r188_1, r188_2, r188_3, r188_4, r188_7, r188_9, r188_10, if_true, if_false, Nat.reduceAdd, Int32.reduceToNatClampNeg, lo_i, lo_r, lo_n, kont_v, kont_n, List.length_nil, List.length_cons, c187]
  refine loopF (P := fun k _ => wp (d + 1) 188 12 [.int a, .int b, .int v, .int w, .int (gnv a b v w), .int (nt k)] [] μ Φ) (Q := fun _ => Φ (.inl (some (.int 1))) μ) (R := fun _ => Φ (.inl (some (.int 0))) μ) (f := bsF a b v w) (n := 6) ?_ ?_ 6 0 () rfl hh
  · intro k _ hk hn
    have e1 : ¬ ((6 : Int32) ≤ nt k) := nt_nle (m := 6) hk (by decide)
    unfold bsF at hn
    rw [r188_12]
    by_cases h1 : gnv (nt k) b v w ≤ gnv a b v w
    · rw [if_pos h1] at hn
      simp (config := {decide := true}) only [r188_14, r188_16, r188_19, r188_21, r188_22, r188_23, r188_24, r188_27, r188_29, r188_32, r188_33, r188_34, r188_37, r188_40, r188_41, if_true, if_false, Nat.reduceAdd, Int32.reduceToNatClampNeg, lo_i, lo_r, lo_n, kont_v, kont_n, List.length_nil, List.length_cons, c187, e1, h1, nt_succ]
      exact hn
    · rw [if_neg h1] at hn
      simp (config := {decide := true}) only [r188_14, r188_16, r188_19, r188_21, r188_22, r188_23, r188_24, r188_27, r188_29, r188_32, r188_33, r188_34, r188_37, r188_40, r188_41, if_true, if_false, Nat.reduceAdd, Int32.reduceToNatClampNeg, lo_i, lo_r, lo_n, kont_v, kont_n, List.length_nil, List.length_cons, c187, e1, h1, nb_0]
      exact hn
  · intro _ hq
    rw [r188_12]
    simp (config := {decide := true}) only [r188_14, r188_16, r188_19, r188_21, r188_22, r188_23, r188_24, r188_27, r188_29, r188_32, r188_33, r188_34, r188_37, r188_40, r188_41, if_true, if_false, Nat.reduceAdd, Int32.reduceToNatClampNeg, lo_i, lo_r, lo_n, kont_v, kont_n, List.length_nil, List.length_cons, nb_1]
    exact hq
theorem m287 (h : Φ (.inl (some (.int (if bst a b v w then 1 else 0)))) μ) : wpc (d + 1) 287 [.int a, .int b, .int v, .int w] μ Φ := by
  show wp (d + 1) 287 0 [.int a, .int b, .int v, .int w, noV] [] μ Φ
  have hh : sumE (fun _ => Φ (.inl (some (.int 1))) μ) (fun _ => Φ (.inl (some (.int 0))) μ) (foldE (bsF a b v w) 6 0 ()) := by
    unfold bst at h
    revert h
    cases foldE (bsF a b v w) 6 0 () <;> exact id
  simp (config := {decide := true}) only [r287_0, r287_1, if_true, if_false, Nat.reduceAdd, Int32.reduceToNatClampNeg, lo_i, lo_r, lo_n, kont_v, kont_n, List.length_nil, List.length_cons]
  refine loopF (P := fun k _ => wp (d + 1) 287 3 [.int a, .int b, .int v, .int w, .int (nt k)] [] μ Φ) (Q := fun _ => Φ (.inl (some (.int 1))) μ) (R := fun _ => Φ (.inl (some (.int 0))) μ) (f := bsF a b v w) (n := 6) ?_ ?_ 6 0 () rfl hh
  · intro k _ hk hn
    have e1 : ¬ ((6 : Int32) ≤ nt k) := nt_nle (m := 6) hk (by decide)
    unfold bsF at hn
    rw [r287_3]
    by_cases h1 : gnv (nt k) b v w ≤ gnv a b v w
    · rw [if_pos h1] at hn
      simp (config := {decide := true}) only [r287_5, r287_7, r287_10, r287_12, r287_13, r287_14, r287_15, r287_18, r287_19, r287_20, r287_21, r287_22, r287_25, r287_28, r287_29, r287_30, r287_33, r287_36, r287_37, if_true, if_false, Nat.reduceAdd, Int32.reduceToNatClampNeg, lo_i, lo_r, lo_n, kont_v, kont_n, List.length_nil, List.length_cons, m286, e1, h1, nt_succ]
      exact hn
    · rw [if_neg h1] at hn
      simp (config := {decide := true}) only [r287_5, r287_7, r287_10, r287_12, r287_13, r287_14, r287_15, r287_18, r287_19, r287_20, r287_21, r287_22, r287_25, r287_28, r287_29, r287_30, r287_33, r287_36, r287_37, if_true, if_false, Nat.reduceAdd, Int32.reduceToNatClampNeg, lo_i, lo_r, lo_n, kont_v, kont_n, List.length_nil, List.length_cons, m286, e1, h1, nb_0]
      exact hn
  · intro _ hq
    rw [r287_3]
    simp (config := {decide := true}) only [r287_5, r287_7, r287_10, r287_12, r287_13, r287_14, r287_15, r287_18, r287_19, r287_20, r287_21, r287_22, r287_25, r287_28, r287_29, r287_30, r287_33, r287_36, r287_37, if_true, if_false, Nat.reduceAdd, Int32.reduceToNatClampNeg, lo_i, lo_r, lo_n, kont_v, kont_n, List.length_nil, List.length_cons, nb_1]
    exact hq
theorem cb_iff {M : Nat} {as : List Value} {B : Bool} (h : ∀ Φ : POut → PM → Prop, Φ (.inl (some (.int (if B then 1 else 0)))) μ → wpc d M as μ Φ) (Φ : POut → PM → Prop) : wpc d M as μ Φ ↔ Φ (.inl (some (.int (if B then 1 else 0)))) μ := wpc_iff h Φ
theorem d188 : wpc (d + 1) 188 [.int a, .int b, .int v, .int w] μ Φ ↔ Φ (.inl (some (.int (if bst a b v w then 1 else 0)))) μ := cb_iff (fun _ h => c188 h) Φ
theorem d287 : wpc (d + 1) 287 [.int a, .int b, .int v, .int w] μ Φ ↔ Φ (.inl (some (.int (if bst a b v w then 1 else 0)))) μ := cb_iff (fun _ h => m287 h) Φ
abbrev C3 : Type := Int32 × Int32 × Int32
def cpF (v w : Int32) (a b : Nat) (q : C3) : C3 := if bst (nt a) (nt b) v w && bst (nt b) (nt a) v w then (q.1 + 1, if q.2.1 = -1 then (10 * nt a + nt b, gnv (nt a) (nt b) v w + gnv (nt b) (nt a) v w) else q.2) else q
def cpR (v w : Int32) (a : Nat) (q : C3) : C3 := foldN (cpF v w a) 6 q
def cpV (z : Int32) (q : C3) : Int32 := if z = 0 then q.1 else if z = 1 then q.2.1 else q.2.2
def aCoup (_ : Nat → Nat → Int32) (v w z : Int32) : An := if 0 ≤ v ∧ v ≤ 99 then (if 0 ≤ w ∧ w ≤ 20 then (if 0 ≤ z ∧ z ≤ 2 then .inl (cpV z (foldN (cpR v w) 6 (0, -1, 0))) else .inr (2, 1)) else .inr (2, 1)) else .inr (2, 1)
theorem t_aCoup (_ : view J = view I) : aCoup J v w z = aCoup I v w z := rfl
theorem q155 (hI : Inv I) (hx : x + 1 ≤ 600) (h : resC n I L x Φ (aCoup I v w z)) : wpc (d + 12) 155 [.ref (9 : Nat), .int v, .int w, .int z] (mk n I L x) Φ := by
  show wp (d + 12) 155 0 [.ref (9 : Nat), .int v, .int w, .int z, noV, noV, noV, noV, noV] [] (mk n I L x) Φ
  unfold aCoup at h
  have hC := hI.1.1
  by_cases g1 : 0 ≤ v ∧ v ≤ 99
  · rw [if_pos g1] at h
    by_cases g2 : 0 ≤ w ∧ w ≤ 20
    · rw [if_pos g2] at h
      by_cases g3 : 0 ≤ z ∧ z ≤ 2
      · rw [if_pos g3] at h
        simp (config := {decide := true}) only [r155_0, r155_1, r155_2, r155_3, r155_5, r155_8, r155_11, r155_12, r155_13, r155_15, r155_18, r155_21, r155_22, r155_23, r155_24, r155_27, r155_30, r155_31, r155_34, r155_35, r155_38, r155_39, r155_41, r155_42, r155_44, r155_45, r155_47, r155_48, if_true, if_false, Nat.reduceAdd, Int32.reduceToNatClampNeg, lo_i, lo_r, lo_n, kont_v, kont_n, List.length_nil, List.length_cons, and_self, and_true, true_and, and_false, false_and, not_true, not_false_eq_true, true_or, or_true, bi_eq0, c181 hx, c179 hx, c180 hx, c182, c183, kx, g1, g2, g3]
        refine loopD (P := fun a (q : C3) => ∀ u, NL u → wp (d + 12) 155 50 [.ref (9 : Nat), .int v, .int w, .int z, .int q.1, .int q.2.1, .int q.2.2, .int (nt a), u] [] (mk n I L x) Φ) (Q := fun q => Φ (.inl (some (.int (cpV z q)))) (mk n I L x)) (n := 6) (f := cpR v w) ?_ ?_ (0, -1, 0) (okC h) noV lo_n
        · intro a q ha hn u hu
          replace hn := hn (.int 6) (lo_i _)
          have e1 : ¬ ((6 : Int32) ≤ nt a) := nt_nle (m := 6) ha (by decide)
          rw [r155_50]
          simp (config := {decide := true}) only [r155_52, r155_54, r155_57, r155_58, if_true, if_false, Nat.reduceAdd, Int32.reduceToNatClampNeg, lo_i, lo_r, lo_n, kont_v, kont_n, List.length_nil, List.length_cons, e1]
          refine loopD (P := fun b (q : C3) => wp (d + 12) 155 60 [.ref (9 : Nat), .int v, .int w, .int z, .int q.1, .int q.2.1, .int q.2.2, .int (nt a), .int (nt b)] [] (mk n I L x) Φ) (Q := fun q => wp (d + 12) 155 50 [.ref (9 : Nat), .int v, .int w, .int z, .int q.1, .int q.2.1, .int q.2.2, .int (nt (a + 1)), .int 6] [] (mk n I L x) Φ) (n := 6) (f := cpF v w a) ?_ ?_ q hn
          · intro b t hb hm
            have e2 : ¬ ((6 : Int32) ≤ nt b) := nt_nle (m := 6) hb (by decide)
            unfold cpF at hm
            rw [r155_60]
            cases h1 : bst (nt a) (nt b) v w
            · rw [h1] at hm
              simp (config := {decide := true}) only [r155_62, r155_64, r155_67, r155_69, r155_71, r155_72, r155_73, r155_76, r155_79, r155_81, r155_83, r155_84, r155_85, r155_88, r155_91, r155_94, r155_96, r155_97, r155_100, r155_102, r155_104, r155_105, r155_107, r155_108, r155_110, r155_112, r155_114, r155_115, r155_116, r155_119, r155_121, r155_123, r155_124, r155_125, r155_128, r155_129, r155_131, r155_134, r155_137, r155_140, if_true, if_false, Nat.reduceAdd, Int32.reduceToNatClampNeg, lo_i, lo_r, lo_n, kont_v, kont_n, List.length_nil, List.length_cons, d188, e2, h1, nt_succ, Bool.false_eq_true]
              exact hm
            · cases h2 : bst (nt b) (nt a) v w
              · rw [h1, h2] at hm
                simp (config := {decide := true}) only [r155_62, r155_64, r155_67, r155_69, r155_71, r155_72, r155_73, r155_76, r155_79, r155_81, r155_83, r155_84, r155_85, r155_88, r155_91, r155_94, r155_96, r155_97, r155_100, r155_102, r155_104, r155_105, r155_107, r155_108, r155_110, r155_112, r155_114, r155_115, r155_116, r155_119, r155_121, r155_123, r155_124, r155_125, r155_128, r155_129, r155_131, r155_134, r155_137, r155_140, if_true, if_false, Nat.reduceAdd, Int32.reduceToNatClampNeg, lo_i, lo_r, lo_n, kont_v, kont_n, List.length_nil, List.length_cons, d188, e2, h1, h2, nt_succ, Bool.false_eq_true]
                exact hm
              · rw [h1, h2] at hm
                by_cases h3 : t.2.1 = -1
                · rw [if_pos h3] at hm
                  simp (config := {decide := true}) only [r155_62, r155_64, r155_67, r155_69, r155_71, r155_72, r155_73, r155_76, r155_79, r155_81, r155_83, r155_84, r155_85, r155_88, r155_91, r155_94, r155_96, r155_97, r155_100, r155_102, r155_104, r155_105, r155_107, r155_108, r155_110, r155_112, r155_114, r155_115, r155_116, r155_119, r155_121, r155_123, r155_124, r155_125, r155_128, r155_129, r155_131, r155_134, r155_137, r155_140, if_true, if_false, Nat.reduceAdd, Int32.reduceToNatClampNeg, lo_i, lo_r, lo_n, kont_v, kont_n, List.length_nil, List.length_cons, d188, c187, e2, h1, h2, h3, nt_succ]
                  exact hm
                · rw [if_neg h3] at hm
                  simp (config := {decide := true}) only [r155_62, r155_64, r155_67, r155_69, r155_71, r155_72, r155_73, r155_76, r155_79, r155_81, r155_83, r155_84, r155_85, r155_88, r155_91, r155_94, r155_96, r155_97, r155_100, r155_102, r155_104, r155_105, r155_107, r155_108, r155_110, r155_112, r155_114, r155_115, r155_116, r155_119, r155_121, r155_123, r155_124, r155_125, r155_128, r155_129, r155_131, r155_134, r155_137, r155_140, if_true, if_false, Nat.reduceAdd, Int32.reduceToNatClampNeg, lo_i, lo_r, lo_n, kont_v, kont_n, List.length_nil, List.length_cons, d188, c187, e2, h1, h2, h3, nt_succ]
                  exact hm
          · intro t ht
            rw [r155_60]
            simp (config := {decide := true}) only [r155_62, r155_64, r155_67, r155_69, r155_71, r155_72, r155_73, r155_76, r155_79, r155_81, r155_83, r155_84, r155_85, r155_88, r155_91, r155_94, r155_96, r155_97, r155_100, r155_102, r155_104, r155_105, r155_107, r155_108, r155_110, r155_112, r155_114, r155_115, r155_116, r155_119, r155_121, r155_123, r155_124, r155_125, r155_128, r155_129, r155_131, r155_134, r155_137, r155_140, if_true, if_false, Nat.reduceAdd, Int32.reduceToNatClampNeg, lo_i, lo_r, lo_n, kont_v, kont_n, List.length_nil, List.length_cons, nt_succ]
            exact ht
        · intro t ht u hu
          rw [r155_50]
          simp (config := {decide := true}) only [r155_52, r155_54, r155_57, r155_58, r155_143, if_true, if_false, Nat.reduceAdd, Int32.reduceToNatClampNeg, lo_i, lo_r, lo_n, kont_v, kont_n, List.length_nil, List.length_cons]
          obtain ⟨k, hk, rfl⟩ := rgN (N := 2) (by decide) g3
          match k, hk with
          | 0, _ =>
            rw [r155_144 172 rfl]
            simp (config := {decide := true}) only [r155_172, r155_174, if_true, if_false, Nat.reduceAdd, Int32.reduceToNatClampNeg, lo_i, lo_r, lo_n, kont_v, kont_n, List.length_nil, List.length_cons]
            exact ht
          | 1, _ =>
            rw [r155_144 175 rfl]
            simp (config := {decide := true}) only [r155_175, r155_177, if_true, if_false, Nat.reduceAdd, Int32.reduceToNatClampNeg, lo_i, lo_r, lo_n, kont_v, kont_n, List.length_nil, List.length_cons]
            exact ht
          | 2, _ =>
            rw [r155_144 178 rfl]
            simp (config := {decide := true}) only [r155_178, r155_180, if_true, if_false, Nat.reduceAdd, Int32.reduceToNatClampNeg, lo_i, lo_r, lo_n, kont_v, kont_n, List.length_nil, List.length_cons]
            exact ht
      · rw [if_neg g3] at h
        simp (config := {decide := true}) only [r155_0, r155_1, r155_2, r155_3, r155_5, r155_8, r155_11, r155_12, r155_13, r155_15, r155_18, r155_21, r155_22, r155_23, r155_24, r155_27, r155_30, r155_31, r155_34, r155_35, r155_38, r155_39, r155_41, r155_42, r155_44, r155_45, r155_47, r155_48, if_true, if_false, Nat.reduceAdd, Int32.reduceToNatClampNeg, lo_i, lo_r, lo_n, kont_v, kont_n, List.length_nil, List.length_cons, and_self, and_true, true_and, and_false, false_and, not_true, not_false_eq_true, true_or, or_true, bi_eq0, c181 hx, c179 hx, c180 hx, c182, c183, kx, g1, g2, g3]
        exact exC2 h
    · rw [if_neg g2] at h
      simp (config := {decide := true}) only [r155_0, r155_1, r155_2, r155_3, r155_5, r155_8, r155_11, r155_12, r155_13, r155_15, r155_18, r155_21, r155_22, r155_23, r155_24, r155_27, r155_30, r155_31, r155_34, r155_35, r155_38, r155_39, r155_41, r155_42, r155_44, r155_45, r155_47, r155_48, if_true, if_false, Nat.reduceAdd, Int32.reduceToNatClampNeg, lo_i, lo_r, lo_n, kont_v, kont_n, List.length_nil, List.length_cons, and_self, and_true, true_and, and_false, false_and, not_true, not_false_eq_true, true_or, or_true, bi_eq0, c181 hx, c179 hx, c180 hx, c182, c183, kx, g1, g2]
      exact exC2 h
  · rw [if_neg g1] at h
    simp (config := {decide := true}) only [r155_0, r155_1, r155_2, r155_3, r155_5, r155_8, r155_11, r155_12, r155_13, r155_15, r155_18, r155_21, r155_22, r155_23, r155_24, r155_27, r155_30, r155_31, r155_34, r155_35, r155_38, r155_39, r155_41, r155_42, r155_44, r155_45, r155_47, r155_48, if_true, if_false, Nat.reduceAdd, Int32.reduceToNatClampNeg, lo_i, lo_r, lo_n, kont_v, kont_n, List.length_nil, List.length_cons, and_self, and_true, true_and, and_false, false_and, not_true, not_false_eq_true, true_or, or_true, bi_eq0, c181 hx, c179 hx, c180 hx, c182, c183, kx, g1]
    exact exC2 h
/-- how far the counting is -/
def cpJ (m : Nat) (q : C3) : Prop := ∃ i, i ≤ m ∧ q.1 = nt i ∧ (q.2.1 = -1 ↔ i = 0)
theorem cpJ_s {v w : Int32} {m a b : Nat} {q : C3} (ha : a < 6) (hb : b < 6) (h : cpJ m q) : cpJ (m + 1) (cpF v w a b q) := by
  obtain ⟨i, h1, h2, h3⟩ := h
  unfold cpF
  split
  · refine ⟨i + 1, by omega, by rw [h2, nt_succ], ?_⟩
    dsimp only
    have e : ∀ a, a < 6 → ∀ b, b < 6 → (10 : Int32) * nt a + nt b ≠ -1 := by decide
    split
    · exact ⟨fun q => absurd q (e a ha b hb), fun q => absurd q (Nat.succ_ne_zero i)⟩
    · rename_i hn
      exact ⟨fun q => absurd q hn, fun q => absurd q (Nat.succ_ne_zero i)⟩
  · exact ⟨i, by omega, h2, h3⟩
theorem cpJ_r {v w : Int32} {m a : Nat} {q : C3} (ha : a < 6) (h : cpJ m q) : ∀ i, i ≤ 6 → cpJ (m + i) (foldN (cpF v w a) i q) := by
  intro i
  induction i with
  | zero => intro _; exact h
  | succ i ih => intro hi; exact cpJ_s ha (by omega) (ih (by omega))
theorem cpJ_0 {m : Nat} {q : C3} (hm : m ≤ 36) (h : cpJ m q) : (q.1 = 0) = (q.2.1 = -1) := by
  obtain ⟨i, h1, h2, h3⟩ := h
  rw [h2, eq_iff_iff, h3, show (0 : Int32) = nt 0 from rfl, nt_inj (by omega) (by decide)]
theorem u288 (hI : Inv I) (h : resM n I L x Φ (aCoup I v w z)) : wpc (d + 12) 288 [.ref (70 : Nat), .int v, .int w, .int z] (mk n I L x) Φ := by
  show wp (d + 12) 288 0 [.ref (70 : Nat), .int v, .int w, .int z, noV, noV, noV, noV, noV] [] (mk n I L x) Φ
  rw [r288_0, r288_1, r288_2]
  replace h := resM_z h
  rw [← t_aCoup v70] at h
  replace hI := tr_Inv v70 hI
  have hz := z70 (I := I)
  generalize wrI I 70 0 0 = I at h hI hz ⊢
  unfold aCoup at h
  have hM := hI.1
  by_cases g1 : 0 ≤ v ∧ v ≤ 99
  · rw [if_pos g1] at h
    by_cases g2 : 0 ≤ w ∧ w ≤ 20
    · rw [if_pos g2] at h
      by_cases g3 : 0 ≤ z ∧ z ≤ 2
      · rw [if_pos g3] at h
        simp (config := {decide := true}) only [r288_5, r288_6, r288_7, r288_8, r288_10, r288_13, r288_16, r288_17, r288_18, r288_20, r288_23, r288_26, r288_27, r288_28, r288_29, r288_32, r288_35, r288_36, r288_39, r288_40, r288_41, r288_42, r288_45, r288_48, r288_49, r288_50, r288_51, r288_53, r288_54, r288_56, r288_57, r288_59, r288_60, if_true, if_false, Nat.reduceAdd, Int32.reduceToNatClampNeg, lo_i, lo_r, lo_n, kont_v, kont_n, List.length_nil, List.length_cons, and_self, and_true, true_and, and_false, false_and, not_true, not_false_eq_true, true_or, or_true, bi_eq0, b10 hz, b11 hz, b21 hz, m194, m259, g1, g2, g3]
        refine loopDJ (P := fun a (q : C3) => ∀ u, NL u → wp (d + 12) 288 62 [.ref (70 : Nat), .int v, .int w, .int z, .int q.1, .int q.2.1, .int q.2.2, .int (nt a), u] [] (mk n I L x) Φ) (J := fun a q => cpJ (6 * a) q) (Q := fun q => Φ (.inl (some (.int (cpV z q)))) (mk n I L x)) (n := 6) (f := cpR v w) ?_ ?_ (0, -1, 0) ⟨0, Nat.le_refl 0, rfl, Iff.intro (fun _ => rfl) (fun _ => rfl)⟩ (oqM h hz) noV lo_n
        · intro a q ha hJ
          refine ⟨cpJ_r ha hJ 6 (Nat.le_refl 6), fun hn u hu => ?_⟩
          replace hn := hn (.int 6) (lo_i _)
          have e1 : ¬ ((6 : Int32) ≤ nt a) := nt_nle (m := 6) ha (by decide)
          rw [r288_62]
          simp (config := {decide := true}) only [r288_64, r288_66, r288_69, r288_70, if_true, if_false, Nat.reduceAdd, Int32.reduceToNatClampNeg, lo_i, lo_r, lo_n, kont_v, kont_n, List.length_nil, List.length_cons, e1]
          refine loopDJ (P := fun b (q : C3) => wp (d + 12) 288 72 [.ref (70 : Nat), .int v, .int w, .int z, .int q.1, .int q.2.1, .int q.2.2, .int (nt a), .int (nt b)] [] (mk n I L x) Φ) (J := fun b q => cpJ (6 * a + b) q) (Q := fun q => wp (d + 12) 288 62 [.ref (70 : Nat), .int v, .int w, .int z, .int q.1, .int q.2.1, .int q.2.2, .int (nt (a + 1)), .int 6] [] (mk n I L x) Φ) (n := 6) (f := cpF v w a) ?_ ?_ q hJ hn
          · intro b t hb hJ2
            refine ⟨cpJ_s ha hb hJ2, fun hm => ?_⟩
            have e2 : ¬ ((6 : Int32) ≤ nt b) := nt_nle (m := 6) hb (by decide)
            have e3 := cpJ_0 (by omega) hJ2
            unfold cpF at hm
            rw [r288_72]
            cases h1 : bst (nt a) (nt b) v w
            · rw [h1] at hm
              simp (config := {decide := true}) only [r288_74, r288_76, r288_79, r288_81, r288_83, r288_84, r288_85, r288_88, r288_91, r288_93, r288_95, r288_96, r288_97, r288_100, r288_103, r288_106, r288_108, r288_111, r288_113, r288_115, r288_116, r288_117, r288_120, r288_122, r288_124, r288_125, r288_126, r288_129, r288_130, r288_133, r288_135, r288_137, r288_139, r288_142, r288_144, r288_146, r288_147, r288_149, r288_150, r288_153, r288_155, r288_157, r288_160, r288_163, r288_166, r288_169, if_true, if_false, Nat.reduceAdd, Int32.reduceToNatClampNeg, lo_i, lo_r, lo_n, kont_v, kont_n, List.length_nil, List.length_cons, d287, e2, h1, nt_succ, Bool.false_eq_true]
              exact hm
            · cases h2 : bst (nt b) (nt a) v w
              · rw [h1, h2] at hm
                simp (config := {decide := true}) only [r288_74, r288_76, r288_79, r288_81, r288_83, r288_84, r288_85, r288_88, r288_91, r288_93, r288_95, r288_96, r288_97, r288_100, r288_103, r288_106, r288_108, r288_111, r288_113, r288_115, r288_116, r288_117, r288_120, r288_122, r288_124, r288_125, r288_126, r288_129, r288_130, r288_133, r288_135, r288_137, r288_139, r288_142, r288_144, r288_146, r288_147, r288_149, r288_150, r288_153, r288_155, r288_157, r288_160, r288_163, r288_166, r288_169, if_true, if_false, Nat.reduceAdd, Int32.reduceToNatClampNeg, lo_i, lo_r, lo_n, kont_v, kont_n, List.length_nil, List.length_cons, d287, e2, h1, h2, nt_succ, Bool.false_eq_true]
                exact hm
              · rw [h1, h2] at hm
                by_cases h3 : t.2.1 = -1
                · rw [if_pos h3] at hm
                  simp (config := {decide := true}) only [r288_74, r288_76, r288_79, r288_81, r288_83, r288_84, r288_85, r288_88, r288_91, r288_93, r288_95, r288_96, r288_97, r288_100, r288_103, r288_106, r288_108, r288_111, r288_113, r288_115, r288_116, r288_117, r288_120, r288_122, r288_124, r288_125, r288_126, r288_129, r288_130, r288_133, r288_135, r288_137, r288_139, r288_142, r288_144, r288_146, r288_147, r288_149, r288_150, r288_153, r288_155, r288_157, r288_160, r288_163, r288_166, r288_169, if_true, if_false, Nat.reduceAdd, Int32.reduceToNatClampNeg, lo_i, lo_r, lo_n, kont_v, kont_n, List.length_nil, List.length_cons, d287, m286, e2, e3, h1, h2, h3, nt_succ]
                  exact hm
                · rw [if_neg h3] at hm
                  simp (config := {decide := true}) only [r288_74, r288_76, r288_79, r288_81, r288_83, r288_84, r288_85, r288_88, r288_91, r288_93, r288_95, r288_96, r288_97, r288_100, r288_103, r288_106, r288_108, r288_111, r288_113, r288_115, r288_116, r288_117, r288_120, r288_122, r288_124, r288_125, r288_126, r288_129, r288_130, r288_133, r288_135, r288_137, r288_139, r288_142, r288_144, r288_146, r288_147, r288_149, r288_150, r288_153, r288_155, r288_157, r288_160, r288_163, r288_166, r288_169, if_true, if_false, Nat.reduceAdd, Int32.reduceToNatClampNeg, lo_i, lo_r, lo_n, kont_v, kont_n, List.length_nil, List.length_cons, d287, m286, e2, e3, h1, h2, h3, nt_succ]
                  exact hm
          · intro t _ ht
            rw [r288_72]
            simp (config := {decide := true}) only [r288_74, r288_76, r288_79, r288_81, r288_83, r288_84, r288_85, r288_88, r288_91, r288_93, r288_95, r288_96, r288_97, r288_100, r288_103, r288_106, r288_108, r288_111, r288_113, r288_115, r288_116, r288_117, r288_120, r288_122, r288_124, r288_125, r288_126, r288_129, r288_130, r288_133, r288_135, r288_137, r288_139, r288_142, r288_144, r288_146, r288_147, r288_149, r288_150, r288_153, r288_155, r288_157, r288_160, r288_163, r288_166, r288_169, if_true, if_false, Nat.reduceAdd, Int32.reduceToNatClampNeg, lo_i, lo_r, lo_n, kont_v, kont_n, List.length_nil, List.length_cons, nt_succ]
            exact ht
        · intro t _ ht u hu
          rw [r288_62]
          obtain ⟨k, hk, rfl⟩ := rgN (N := 2) (by decide) g3
          match k, hk with
          | 0, _ =>
            simp (config := {decide := true}) only [r288_64, r288_66, r288_69, r288_70, r288_172, r288_173, r288_176, r288_178, r288_181, r288_182, r288_183, r288_186, r288_188, r288_191, r288_193, if_true, if_false, Nat.reduceAdd, Int32.reduceToNatClampNeg, lo_i, lo_r, lo_n, kont_v, kont_n, List.length_nil, List.length_cons]
            exact ht
          | 1, _ =>
            simp (config := {decide := true}) only [r288_64, r288_66, r288_69, r288_70, r288_172, r288_173, r288_176, r288_178, r288_181, r288_182, r288_183, r288_186, r288_188, r288_191, r288_193, if_true, if_false, Nat.reduceAdd, Int32.reduceToNatClampNeg, lo_i, lo_r, lo_n, kont_v, kont_n, List.length_nil, List.length_cons]
            exact ht
          | 2, _ =>
            simp (config := {decide := true}) only [r288_64, r288_66, r288_69, r288_70, r288_172, r288_173, r288_176, r288_178, r288_181, r288_182, r288_183, r288_186, r288_188, r288_191, r288_193, if_true, if_false, Nat.reduceAdd, Int32.reduceToNatClampNeg, lo_i, lo_r, lo_n, kont_v, kont_n, List.length_nil, List.length_cons]
            exact ht
      · rw [if_neg g3] at h
        simp (config := {decide := true}) only [r288_5, r288_6, r288_7, r288_8, r288_10, r288_13, r288_16, r288_17, r288_18, r288_20, r288_23, r288_26, r288_27, r288_28, r288_29, r288_32, r288_35, r288_36, r288_39, r288_40, r288_41, r288_42, r288_45, r288_48, r288_49, r288_50, r288_51, r288_53, r288_54, r288_56, r288_57, r288_59, r288_60, if_true, if_false, Nat.reduceAdd, Int32.reduceToNatClampNeg, lo_i, lo_r, lo_n, kont_v, kont_n, List.length_nil, List.length_cons, and_self, and_true, true_and, and_false, false_and, not_true, not_false_eq_true, true_or, or_true, bi_eq0, b10 hz, b11 hz, b21 hz, m194, m259, m257 hI, m258 hI, m266 hI, m274 hI, g1, g2, g3]
        exact exM h
    · rw [if_neg g2] at h
      simp (config := {decide := true}) only [r288_5, r288_6, r288_7, r288_8, r288_10, r288_13, r288_16, r288_17, r288_18, r288_20, r288_23, r288_26, r288_27, r288_28, r288_29, r288_32, r288_35, r288_36, r288_39, r288_40, r288_41, r288_42, r288_45, r288_48, r288_49, r288_50, r288_51, r288_53, r288_54, r288_56, r288_57, r288_59, r288_60, if_true, if_false, Nat.reduceAdd, Int32.reduceToNatClampNeg, lo_i, lo_r, lo_n, kont_v, kont_n, List.length_nil, List.length_cons, and_self, and_true, true_and, and_false, false_and, not_true, not_false_eq_true, true_or, or_true, bi_eq0, b10 hz, b11 hz, b21 hz, m194, m259, m257 hI, m258 hI, m266 hI, m274 hI, g1, g2]
      exact exM h
  · rw [if_neg g1] at h
    simp (config := {decide := true}) only [r288_5, r288_6, r288_7, r288_8, r288_10, r288_13, r288_16, r288_17, r288_18, r288_20, r288_23, r288_26, r288_27, r288_28, r288_29, r288_32, r288_35, r288_36, r288_39, r288_40, r288_41, r288_42, r288_45, r288_48, r288_49, r288_50, r288_51, r288_53, r288_54, r288_56, r288_57, r288_59, r288_60, if_true, if_false, Nat.reduceAdd, Int32.reduceToNatClampNeg, lo_i, lo_r, lo_n, kont_v, kont_n, List.length_nil, List.length_cons, and_self, and_true, true_and, and_false, false_and, not_true, not_false_eq_true, true_or, or_true, bi_eq0, b10 hz, b11 hz, b21 hz, m194, m259, m257 hI, m258 hI, m266 hI, m274 hI, g1]
    exact exM h
end Q6
