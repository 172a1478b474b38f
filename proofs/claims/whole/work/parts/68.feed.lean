/-! FEED, UNDO -/
def byt (v : Int32) (j : Nat) : Int32 := v >>> (nt (24 - 8 * j) &&& 31) &&& 255
theorem byt_nt (v : Int32) (j : Nat) : 0 ≤ byt v j ∧ byt v j < 256 := by
  unfold byt
  generalize v >>> (nt (24 - 8 * j) &&& 31) = y
  have h1 : y &&& 255 = nt (y &&& 255).toBitVec.toNat := by
    refine Int32.toBitVec_inj.1 ?_
    show _ = BitVec.ofNat 32 _
    rw [BitVec.ofNat_toNat, BitVec.setWidth_eq]
  have h2 : (y &&& 255).toBitVec.toNat ≤ 255 := by
    rw [Int32.toBitVec_and, BitVec.toNat_and]
    exact Nat.and_le_right
  rw [h1]
  exact ⟨nt_ge (by omega), by rw [show (256 : Int32) = nt 256 from rfl, nt_lt (by omega) (by decide)]; omega⟩
theorem ushr_b (v : Int32) : ∀ j, j < 4 → ushr v (nt (24 - 8 * j)) &&& 255 = byt v j := by
  have gen : ∀ s, s ≤ 24 → (ushr v (nt s)).toBitVec = v.toBitVec >>> s → (v >>> (nt s &&& 31)).toBitVec = v.toBitVec.sshiftRight s → ushr v (nt s) &&& 255 = v >>> (nt s &&& 31) &&& 255 := by
    intro s hs e1 e2
    refine Int32.toBitVec_inj.1 ?_
    rw [Int32.toBitVec_and, Int32.toBitVec_and, e1, e2]
    refine BitVec.eq_of_getLsbD_eq (fun i hi => ?_)
    have e3 : (255 : Int32).toBitVec.getLsbD i = decide (i < 8) := by
      show (BitVec.ofNat 32 (2 ^ 8 - 1)).getLsbD i = _
      rw [BitVec.getLsbD_ofNat, Nat.testBit_two_pow_sub_one]
      by_cases h : i < 8
      · simp [h, hi]
      · simp [h]
    rw [BitVec.getLsbD_and, BitVec.getLsbD_and, e3, BitVec.getLsbD_ushiftRight, BitVec.getLsbD_sshiftRight]
    by_cases h : i < 8
    · simp [h, show s + i < 32 by omega, show ¬ 32 ≤ i by omega]
    · simp [h]
  intro j hj
  match j, hj with
  | 0, _ => exact gen 24 (by decide) rfl rfl
  | 1, _ => exact gen 16 (by decide) rfl rfl
  | 2, _ => exact gen 8 (by decide) rfl rfl
  | 3, _ => exact gen 0 (by decide) rfl rfl
section Fd
variable {d n x z : Nat} {μ : PM} {Φ : POut → PM → Prop} {I J K : Nat → Nat → Int32} {L : Nat → Nat → Int64} {k s h v w a b c e a1 a2 a3 a4 a5 : Int32} {f g g' : Nat → Int32}
/-- the tape of the class, of the reference -/
def tp (I : Nat → Nat → Int32) (g : Nat → Int32) (z : Nat) : Nat → Nat → Int32 := wrI (upR I 11 g) 10 1 (nt z)
def tq (I : Nat → Nat → Int32) (g : Nat → Int32) (z : Nat) : Nat → Nat → Int32 := wrI (upR I 71 g) 70 1 (nt z)
theorem tp_11 : tp I g z 11 = g := by unfold tp; rw [wrI_ne (by decide), upR_same]
theorem tp_10 : tp I g z 10 1 = nt z := wr_eq
theorem tp_up {i : Nat} : upR (tp I g z) 11 g' = tp I g' z := by unfold tp wrI; rw [upR_comm (by decide), upR_upR, upR_ne (by decide), upR_ne (by decide)]
theorem tp_wr {z' : Nat} : wrI (tp I g z) 10 1 (nt z') = tp I g z' := by
  unfold tp wrI
  rw [upR_same, upR_upR]
  congr 1
  funext i
  unfold upd
  by_cases h : i = 1 <;> simp [h]
theorem tp_w1 {i : Nat} {v : Int32} : wrI (tp I g z) 11 i v = tp I (upd g i v) z := by rw [wr_raw, tp_11]; exact tp_up (i := 0)
theorem tq_71 : tq I g z 71 = g := by unfold tq; rw [wrI_ne (by decide), upR_same]
theorem tq_70 : tq I g z 70 1 = nt z := wr_eq
theorem tq_up : upR (tq I g z) 71 g' = tq I g' z := by unfold tq wrI; rw [upR_comm (by decide), upR_upR, upR_ne (by decide), upR_ne (by decide)]
theorem tq_wr {z' : Nat} : wrI (tq I g z) 70 1 (nt z') = tq I g z' := by
  unfold tq wrI
  rw [upR_same, upR_upR]
  congr 1
  funext i
  unfold upd
  by_cases h : i = 1 <;> simp [h]
theorem tq_w1 {i : Nat} {v : Int32} : wrI (tq I g z) 71 i v = tq I (upd g i v) z := by rw [wr_raw, tq_71]; exact tq_up
theorem s11 : sh0 n 11 = (20, 600, []) := eq_of_heq HEq.rfl
theorem s71 : sh0 n 71 = (20, 600, []) := eq_of_heq HEq.rfl
theorem c91s {j : Nat} (hj : j < 4) (hz : z < 600) : wp (d + 1) 91 3 [.ref (10 : Nat), .int a, .int (nt (24 - 8 * j))] [] (mk n (tp I g z) L x) Φ ↔ wp (d + 1) 91 3 [.ref (10 : Nat), .int a, .int (nt (24 - 8 * j) + -8)] [] (mk n (tp I (upd g z (byt a j)) (z + 1)) L x) Φ := by
  have e1 : ¬ (nt (24 - 8 * j) < 0) := Int32.not_lt.mpr (nt_ge (by omega))
  have e2 : ∀ v, putv 600 (tp I g z) 11 (nt z) v = wrI (tp I g z) 11 z v := fun v => putv_nt hz (by decide)
  have e3 : ∀ g, tp I g z 10 1 = nt z := fun g => tp_10
  rw [r91_3]
  simp (config := {decide := true}) only [r91_4, r91_7, r91_8, r91_11, r91_12, r91_15, r91_16, r91_17, r91_18, r91_21, r91_22, r91_25, r91_26, r91_27, r91_30, r91_31, r91_32, r91_35, r91_38, r91_41, if_true, if_false, Nat.reduceAdd, Int32.reduceToNatClampNeg, lo_i, lo_r, lo_n, kont_v, kont_n, List.length_nil, List.length_cons, e1, e3, s11, c186, e2, tp_w1, ushr_b a j hj, nt_succ, tp_wr]
def fd4 (g : Nat → Int32) (z : Nat) (a : Int32) : Nat → Int32 := upd (upd (upd (upd g z (byt a 0)) (z + 1) (byt a 1)) (z + 1 + 1) (byt a 2)) (z + 1 + 1 + 1) (byt a 3)
theorem c91 (hz : z + 4 ≤ 600) : wpc (d + 1) 91 [.ref (10 : Nat), .int a] (mk n (tp I g z) L x) Φ ↔ Φ (.inl none) (mk n (tp I (fd4 g z a) (z + 4)) L x) := by
  show wp (d + 1) 91 0 [.ref (10 : Nat), .int a, noV] [] (mk n (tp I g z) L x) Φ ↔ _
  simp (config := {decide := true}) only [r91_0, r91_2, if_true, if_false, Nat.reduceAdd, Int32.reduceToNatClampNeg, lo_i, lo_r, lo_n, kont_v, kont_n, List.length_nil, List.length_cons]
  have s0 := c91s (d := d) (n := n) (I := I) (g := g) (L := L) (x := x) (Φ := Φ) (a := a) (j := 0) (z := z) (by decide) (by omega)
  have s1 := c91s (d := d) (n := n) (I := I) (g := upd g z (byt a 0)) (L := L) (x := x) (Φ := Φ) (a := a) (j := 1) (z := z + 1) (by decide) (by omega)
  have s2 := c91s (d := d) (n := n) (I := I) (g := upd (upd g z (byt a 0)) (z + 1) (byt a 1)) (L := L) (x := x) (Φ := Φ) (a := a) (j := 2) (z := z + 1 + 1) (by decide) (by omega)
  have s3 := c91s (d := d) (n := n) (I := I) (g := upd (upd (upd g z (byt a 0)) (z + 1) (byt a 1)) (z + 1 + 1) (byt a 2)) (L := L) (x := x) (Φ := Φ) (a := a) (j := 3) (z := z + 1 + 1 + 1) (by decide) (by omega)
  refine (s0.trans (s1.trans (s2.trans (s3.trans ?_))))
  have e1 : nt (24 - 8 * 3) + -8 < 0 := by decide
  rw [r91_3]
  simp (config := {decide := true}) only [r91_4, r91_7, r91_8, r91_11, r91_12, r91_15, r91_16, r91_17, r91_18, r91_21, r91_22, r91_25, r91_26, r91_27, r91_30, r91_31, r91_32, r91_35, r91_38, r91_41, if_true, if_false, Nat.reduceAdd, Int32.reduceToNatClampNeg, lo_i, lo_r, lo_n, kont_v, kont_n, List.length_nil, List.length_cons, e1]
  rfl
theorem c90 : wpc d 90 [.ref (10 : Nat)] (mk n I L x) Φ ↔ Φ (.inl (some (.int (bi (I 10 1 + 20 ≤ 600))))) (mk n I L x) := by
  show wp d 90 0 [.ref (10 : Nat)] [] (mk n I L x) Φ ↔ _
  by_cases h1 : 600 < I 10 1 + 20
  · rw [bi_f (Int32.not_le.mpr h1)]
    simp (config := {decide := true}) only [r90_0, r90_1, r90_4, r90_6, r90_7, r90_10, r90_13, r90_14, r90_17, r90_18, if_true, if_false, Nat.reduceAdd, Int32.reduceToNatClampNeg, lo_i, lo_r, lo_n, kont_v, kont_n, List.length_nil, List.length_cons, h1, nb_0]
  · rw [bi_t (Int32.not_lt.mp h1)]
    simp (config := {decide := true}) only [r90_0, r90_1, r90_4, r90_6, r90_7, r90_10, r90_13, r90_14, r90_17, r90_18, if_true, if_false, Nat.reduceAdd, Int32.reduceToNatClampNeg, lo_i, lo_r, lo_n, kont_v, kont_n, List.length_nil, List.length_cons, h1, nb_1]
/-- twenty bytes -/
def fba (a1 a2 a3 a4 a5 : Int32) (k : Nat) : Int32 := if k < 4 then a1 else if k < 8 then a2 else if k < 12 then a3 else if k < 16 then a4 else a5
def fdF (z : Nat) (a1 a2 a3 a4 a5 : Int32) (k : Nat) (g : Nat → Int32) : Nat → Int32 := upd g (z + k) (byt (fba a1 a2 a3 a4 a5 k) (k % 4))
def fd20 (z : Nat) (a1 a2 a3 a4 a5 : Int32) (g : Nat → Int32) : Nat → Int32 := foldN (fdF z a1 a2 a3 a4 a5) 20 g
theorem fd_eq : fd4 (fd4 (fd4 (fd4 (fd4 g z a1) (z + 4) a2) (z + 4 + 4) a3) (z + 4 + 4 + 4) a4) (z + 4 + 4 + 4 + 4) a5 = fd20 z a1 a2 a3 a4 a5 g := rfl
theorem fd_get (m : Nat) (hm : m ≤ 20) (i : Nat) : foldN (fdF z a1 a2 a3 a4 a5) m g i = if z ≤ i ∧ i < z + m then byt (fba a1 a2 a3 a4 a5 (i - z)) ((i - z) % 4) else g i := by
  induction m with
  | zero => rw [if_neg (by omega)]; rfl
  | succ m ih =>
    show upd (foldN (fdF z a1 a2 a3 a4 a5) m g) (z + m) (byt (fba a1 a2 a3 a4 a5 m) (m % 4)) i = _
    by_cases hi : i = z + m
    · subst hi
      rw [up_same, if_pos (by omega), show z + m - z = m by omega]
    · rw [up_ne hi, ih (by omega)]
      by_cases h2 : z ≤ i ∧ i < z + m
      · rw [if_pos h2, if_pos (by omega)]
      · rw [if_neg h2, if_neg (by omega)]
theorem tp_self {z : Nat} (h : I 10 1 = nt z) : tp I (I 11) z = I := by
  unfold tp
  rw [upR_self, ← h]
  unfold wrI
  rw [up_self, upR_self]
theorem tq_self {z : Nat} (h : I 70 1 = nt z) : tq I (I 71) z = I := by
  unfold tq
  rw [upR_self, ← h]
  unfold wrI
  rw [up_self, upR_self]
theorem c131 {z : Nat} (hz : I 10 1 = nt z) (h600 : z ≤ 600) : cres (d + 12) 131 [.ref (9 : Nat), .int a1, .int a2, .int a3, .int a4, .int a5] (mk n I L x) (.inl (some (.int (if z + 20 ≤ 600 then nt (z + 20) else -1)))) (mk n (if z + 20 ≤ 600 then tp I (fd20 z a1 a2 a3 a4 a5 (I 11)) (z + 20) else I) L x) := by
  intro Φ h
  have e0 : (nt z + 20 ≤ 600) = (z + 20 ≤ 600) := by
    rw [show (20 : Int32) = nt 20 from rfl, nt_add, show (600 : Int32) = nt 600 from rfl, nt_le (by omega) (by decide)]
  show wp (d + 12) 131 0 [.ref (9 : Nat), .int a1, .int a2, .int a3, .int a4, .int a5] [] (mk n I L x) Φ
  by_cases h1 : z + 20 ≤ 600
  · rw [if_pos h1, if_pos h1] at h
    have e9 : (nt z + 20 ≤ 600) = True := by rw [e0]; exact eq_true h1
    rw [← tp_self hz]
    simp (config := {decide := true}) only [r131_0, r131_1, r131_4, r131_7, r131_10, r131_11, r131_12, r131_13, r131_16, r131_17, r131_20, r131_21, r131_24, r131_25, r131_28, r131_29, r131_32, r131_33, r131_36, r131_37, r131_40, r131_42, r131_45, r131_46, r131_49, r131_51, r131_54, r131_55, r131_58, r131_61, if_true, if_false, Nat.reduceAdd, Int32.reduceToNatClampNeg, lo_i, lo_r, lo_n, kont_v, kont_n, List.length_nil, List.length_cons, and_self, and_true, true_and, and_false, false_and, not_true, not_false_eq_true, true_or, or_true, bi_eq0, c90, e9, c91 (show z + 4 ≤ 600 by omega), c91 (show z + 4 + 4 ≤ 600 by omega), c91 (show z + 4 + 4 + 4 ≤ 600 by omega), c91 (show z + 4 + 4 + 4 + 4 ≤ 600 by omega), c91 (show z + 4 + 4 + 4 + 4 + 4 ≤ 600 by omega), fd_eq, c92, tp_10]
    exact h
  · rw [if_neg h1, if_neg h1] at h
    have e9 : (I 10 1 + 20 ≤ 600) = False := by rw [hz, e0]; exact eq_false h1
    simp (config := {decide := true}) only [r131_0, r131_1, r131_4, r131_7, r131_10, r131_11, r131_12, r131_13, r131_16, r131_17, r131_20, r131_21, r131_24, r131_25, r131_28, r131_29, r131_32, r131_33, r131_36, r131_37, r131_40, r131_42, r131_45, r131_46, r131_49, r131_51, r131_54, r131_55, r131_58, r131_61, if_true, if_false, Nat.reduceAdd, Int32.reduceToNatClampNeg, lo_i, lo_r, lo_n, kont_v, kont_n, List.length_nil, List.length_cons, and_self, and_true, true_and, and_false, false_and, not_true, not_false_eq_true, true_or, or_true, bi_eq0, c90, e9]
    exact h
theorem m198 {z : Nat} (hz : I 70 1 = nt z) (h600 : z ≤ 600) : cres (d + 12) 198 [.ref (70 : Nat), .int a1, .int a2, .int a3, .int a4, .int a5] (mk n I L x) (.inl (some (.int (if z + 20 ≤ 600 then nt (z + 20) else -1)))) (mk n (if z + 20 ≤ 600 then tq (wrI I 70 0 0) (fd20 z a1 a2 a3 a4 a5 (I 71)) (z + 20) else wrI I 70 0 0) L x) := by
  intro Φ h
  have hz' : wrI I 70 0 0 70 1 = nt z := by rw [wr_k (by decide)]; exact hz
  have h71 : wrI I 70 0 0 71 = I 71 := wrI_ne (by decide)
  rw [← h71] at h
  show wp (d + 12) 198 0 [.ref (70 : Nat), .int a1, .int a2, .int a3, .int a4, .int a5, noV, noV] [] (mk n I L x) Φ
  rw [r198_0, r198_1, r198_2]
  generalize wrI I 70 0 0 = I at h hz' ⊢
  have e0 : (nt z + 20 ≤ 600) = (z + 20 ≤ 600) := by
    rw [show (20 : Int32) = nt 20 from rfl, nt_add, show (600 : Int32) = nt 600 from rfl, nt_le (by omega) (by decide)]
  by_cases h1 : z + 20 ≤ 600
  · rw [if_pos h1, if_pos h1] at h
    have e9 : nt z + 20 ≤ 600 := by rw [e0]; exact h1
    simp (config := {decide := true}) only [r198_5, r198_6, r198_9, r198_11, r198_12, r198_15, r198_18, r198_19, r198_20, r198_21, if_true, if_false, Nat.reduceAdd, Int32.reduceToNatClampNeg, lo_i, lo_r, lo_n, kont_v, kont_n, List.length_nil, List.length_cons, hz', e9]
    have hh := loopD (P := fun k g => ∀ v, NL v → wp (d + 12) 198 23 [.ref (70 : Nat), .int a1, .int a2, .int a3, .int a4, .int a5, .int (nt k), v] [] (mk n (tq I g (z + k)) L x) Φ) (Q := fun g => Φ (.inl (some (.int (nt (z + 20))))) (mk n (tq I g (z + 20)) L x)) (n := 20) (f := fdF z a1 a2 a3 a4 a5) ?_ ?_ (I 71) h noV lo_n
    · have e5 : tq I (I 71) (z + 0) = I := tq_self hz'
      rw [e5] at hh
      exact hh
    · intro k g hk hn v hv
      replace hn := hn (.int (fba a1 a2 a3 a4 a5 k)) (lo_i _)
      have f1 : ¬ ((20 : Int32) ≤ nt k) := nt_nle (m := 20) hk (by decide)
      have f2 : ∀ g, tq I g (z + k) 70 1 = nt (z + k) := fun g => tq_70
      have f3 : (nt (z + k)).toNatClampNeg = z + k := nt_clamp (by omega)
      have f4 : (0 : Int32) ≤ nt (z + k) := nt_ge (by omega)
      have f5 : z + k < 600 := by omega
      have f6 : irm (nt k) 4 = nt (k % 4) := irm_nt (b := 4) (by omega) (by decide)
      have f7 : (24 : Int32) - 8 * nt (k % 4) = nt (24 - 8 * (k % 4)) := by
        rw [show (8 : Int32) * nt (k % 4) = nt (8 * (k % 4)) from (Int32.ofNat_mul 8 (k % 4)).symm, show (24 : Int32) = nt 24 from rfl]
        exact nt_sub (by have := Nat.mod_lt k (show 0 < 4 by decide); omega)
      have f8 : ∀ v : Int32, v >>> (nt (24 - 8 * (k % 4)) &&& 31) &&& 255 = byt v (k % 4) := fun v => rfl
      unfold fdF at hn
      rw [r198_23]
      have tail : ∀ u, wp (d + 12) 198 76 [.ref (70 : Nat), .int a1, .int a2, .int a3, .int a4, .int a5, .int (nt k), u] [.int (fba a1 a2 a3 a4 a5 k)] (mk n (tq I g (z + k)) L x) Φ := by
        intro u
        simp (config := {decide := true}) only [r198_76, r198_78, r198_79, r198_82, r198_83, r198_86, r198_88, r198_90, r198_92, r198_94, r198_95, r198_96, r198_97, r198_98, r198_99, r198_102, r198_103, r198_104, r198_105, r198_106, r198_109, r198_110, r198_111, r198_114, r198_117, if_true, if_false, Nat.reduceAdd, Int32.reduceToNatClampNeg, lo_i, lo_r, lo_n, kont_v, kont_n, List.length_nil, List.length_cons, f2, f3, f4, f5, f6, f7, f8, s71, tq_w1, nt_succ, tq_wr]
        exact hn
      unfold fba at tail
      by_cases b1 : k < 4
      · have c1 : ¬ (4 ≤ nt k) := nt_nle (m := 4) b1 (by decide)
        rw [if_pos b1] at tail
        simp (config := {decide := true}) only [r198_25, r198_27, r198_30, r198_32, r198_33, r198_36, r198_37, r198_40, r198_42, r198_44, r198_47, r198_48, r198_51, r198_53, r198_55, r198_58, r198_59, r198_62, r198_64, r198_66, r198_69, r198_71, r198_74, if_true, if_false, Nat.reduceAdd, Int32.reduceToNatClampNeg, lo_i, lo_r, lo_n, kont_v, kont_n, List.length_nil, List.length_cons, f1, c1]
        exact tail v
      · have c1 : 4 ≤ nt k := by rw [show (4 : Int32) = nt 4 from rfl, nt_le (by decide) (by omega)]; omega
        rw [if_neg b1] at tail
        by_cases b2 : k < 8
        · have c2 : ¬ (8 ≤ nt k) := nt_nle (m := 8) b2 (by decide)
          rw [if_pos b2] at tail
          simp (config := {decide := true}) only [r198_25, r198_27, r198_30, r198_32, r198_33, r198_36, r198_37, r198_40, r198_42, r198_44, r198_47, r198_48, r198_51, r198_53, r198_55, r198_58, r198_59, r198_62, r198_64, r198_66, r198_69, r198_71, r198_74, if_true, if_false, Nat.reduceAdd, Int32.reduceToNatClampNeg, lo_i, lo_r, lo_n, kont_v, kont_n, List.length_nil, List.length_cons, f1, c1, c2]
          exact tail v
        · have c2 : 8 ≤ nt k := by rw [show (8 : Int32) = nt 8 from rfl, nt_le (by decide) (by omega)]; omega
          rw [if_neg b2] at tail
          by_cases b3 : k < 12
          · have c3 : ¬ (12 ≤ nt k) := nt_nle (m := 12) b3 (by decide)
            rw [if_pos b3] at tail
            simp (config := {decide := true}) only [r198_25, r198_27, r198_30, r198_32, r198_33, r198_36, r198_37, r198_40, r198_42, r198_44, r198_47, r198_48, r198_51, r198_53, r198_55, r198_58, r198_59, r198_62, r198_64, r198_66, r198_69, r198_71, r198_74, if_true, if_false, Nat.reduceAdd, Int32.reduceToNatClampNeg, lo_i, lo_r, lo_n, kont_v, kont_n, List.length_nil, List.length_cons, f1, c1, c2, c3]
            exact tail v
          · have c3 : 12 ≤ nt k := by rw [show (12 : Int32) = nt 12 from rfl, nt_le (by decide) (by omega)]; omega
            rw [if_neg b3] at tail
            by_cases b4 : k < 16
            · have c4 : ¬ (16 ≤ nt k) := nt_nle (m := 16) b4 (by decide)
              rw [if_pos b4] at tail
              simp (config := {decide := true}) only [r198_25, r198_27, r198_30, r198_32, r198_33, r198_36, r198_37, r198_40, r198_42, r198_44, r198_47, r198_48, r198_51, r198_53, r198_55, r198_58, r198_59, r198_62, r198_64, r198_66, r198_69, r198_71, r198_74, if_true, if_false, Nat.reduceAdd, Int32.reduceToNatClampNeg, lo_i, lo_r, lo_n, kont_v, kont_n, List.length_nil, List.length_cons, f1, c1, c2, c3, c4]
              exact tail v
            · have c4 : 16 ≤ nt k := by rw [show (16 : Int32) = nt 16 from rfl, nt_le (by decide) (by omega)]; omega
              rw [if_neg b4] at tail
              simp (config := {decide := true}) only [r198_25, r198_27, r198_30, r198_32, r198_33, r198_36, r198_37, r198_40, r198_42, r198_44, r198_47, r198_48, r198_51, r198_53, r198_55, r198_58, r198_59, r198_62, r198_64, r198_66, r198_69, r198_71, r198_74, if_true, if_false, Nat.reduceAdd, Int32.reduceToNatClampNeg, lo_i, lo_r, lo_n, kont_v, kont_n, List.length_nil, List.length_cons, f1, c1, c2, c3, c4]
              exact tail v
    · intro g hg v hv
      rw [r198_23]
      simp (config := {decide := true}) only [r198_25, r198_27, r198_120, r198_121, r198_124, if_true, if_false, Nat.reduceAdd, Int32.reduceToNatClampNeg, lo_i, lo_r, lo_n, kont_v, kont_n, List.length_nil, List.length_cons, tq_70]
      exact hg
  · rw [if_neg h1, if_neg h1] at h
    have e9 : ¬ (nt z + 20 ≤ 600) := by rw [e0]; exact h1
    simp (config := {decide := true}) only [r198_5, r198_6, r198_9, r198_11, r198_12, r198_15, r198_18, r198_19, r198_20, r198_21, if_true, if_false, Nat.reduceAdd, Int32.reduceToNatClampNeg, lo_i, lo_r, lo_n, kont_v, kont_n, List.length_nil, List.length_cons, hz', e9]
    exact h
theorem z70I {J : Nat → Nat → Int32} : LI J → LI (wrI J 70 0 0) := fun h => LI_sm h (sm_wr rfl)
theorem pd131 (hI : LI I) : PD (d + 12) 131 198 [.int a1, .int a2, .int a3, .int a4, .int a5] n I L x := by
  obtain ⟨⟨z, z1, z2, z3, z4⟩, z5⟩ := hI.1.2.2.2.2.2.2.1
  have hc := c131 (d := d) (n := n) (L := L) (x := x) (a1 := a1) (a2 := a2) (a3 := a3) (a4 := a4) (a5 := a5) z2 z1
  by_cases h1 : z + 20 ≤ 600
  · rw [if_pos h1, if_pos h1] at hc
    refine ⟨_, _, hc, ?_⟩
    have hz70 : tp I (fd20 z a1 a2 a3 a4 a5 (I 11)) (z + 20) 70 = I 70 := by unfold tp; rw [wrI_ne (by decide), upR_ne (by decide)]
    have hz71 : tp I (fd20 z a1 a2 a3 a4 a5 (I 11)) (z + 20) 71 = I 71 := by unfold tp; rw [wrI_ne (by decide), upR_ne (by decide)]
    have hm := m198 (d := d) (n := n) (L := L) (x := x) (a1 := a1) (a2 := a2) (a3 := a3) (a4 := a4) (a5 := a5) (I := tp I (fd20 z a1 a2 a3 a4 a5 (I 11)) (z + 20)) (z := z) (by rw [hz70]; exact z3) z1
    rw [if_pos h1, if_pos h1, hz71] at hm
    refine ⟨_, L, rfl, hm, ?_⟩
    generalize hKK : tq (wrI (tp I (fd20 z a1 a2 a3 a4 a5 (I 11)) (z + 20)) 70 0 0) (fd20 z a1 a2 a3 a4 a5 (I 71)) (z + 20) = K
    have ka : ∀ a, a ≠ 70 → a ≠ 71 → a ≠ 10 → a ≠ 11 → K a = I a := by
      intro a n1 n2 n3 n4
      rw [← hKK]
      unfold tq tp
      rw [wrI_ne n1, upR_ne n2, wrI_ne n1, wrI_ne n3, upR_ne n4]
    have k11 : K 11 = fd20 z a1 a2 a3 a4 a5 (I 11) := by
      rw [← hKK]
      unfold tq
      rw [wrI_ne (by decide), upR_ne (by decide), wrI_ne (by decide), tp_11]
    have k71 : K 71 = fd20 z a1 a2 a3 a4 a5 (I 71) := by rw [← hKK]; exact tq_71
    have k10 : ∀ i, i ≠ 1 → K 10 i = I 10 i := by
      intro i hi
      rw [← hKK]
      unfold tq tp
      rw [wrI_ne (by decide), upR_ne (by decide), wrI_ne (by decide), wr_k hi, upR_ne (by decide)]
    have k101 : K 10 1 = nt (z + 20) := by
      rw [← hKK]
      unfold tq
      rw [wrI_ne (by decide), upR_ne (by decide), wrI_ne (by decide)]
      exact tp_10
    have k70 : ∀ i, i ≠ 1 → i ≠ 0 → K 70 i = I 70 i := by
      intro i h1 h0
      rw [← hKK]
      unfold tq
      rw [wr_k h1, upR_ne (by decide), wr_k h0, hz70]
    have k701 : K 70 1 = nt (z + 20) := by rw [← hKK]; exact tq_70
    have ok : okc (fun a => a == 11 || a == 71) (fun k => k == 1) I K := by
      refine ⟨fun a h1 h2 h3 h4 h5 => ?_, fun k h1 h2 => ?_⟩
      · simp only [Bool.or_eq_false_iff, beq_eq_false_iff_ne] at h1
        exact ka a h3 h1.2 h4 h1.1
      · have h1 : k ≠ 1 := by simpa using h1
        refine k70 k h1 (fun e => ?_)
        subst e
        exact absurd h2 (by decide)
    have sp : spc I K := ⟨fun j _ => by rw [ka 43 (by decide) (by decide) (by decide) (by decide), ka 67 (by decide) (by decide) (by decide) (by decide), ka 69 (by decide) (by decide) (by decide) (by decide), ka 535 (by decide) (by decide) (by decide) (by decide)]; exact ⟨rfl, rfl, rfl, rfl⟩, by rw [ka 64 (by decide) (by decide) (by decide) (by decide)]⟩
    obtain ⟨hM, hR, hV, hW, hA, hB, hT, hK, hN⟩ := hI.1
    refine ⟨⟨kM ok (by decide +kernel) rfl hM, kR ok (by decide) hR, kV ok (by decide) hV, kW ok (by decide) rfl hW, kA ok (by decide) rfl hA, kB ok (by decide) rfl hB, ⟨⟨z + 20, h1, k101, k701, fun k hk => ?_⟩, ?_⟩, kK ok sp (by decide) (fun j hj => by rw [ka 41 (by decide) (by decide) (by decide) (by decide)]; exact hi41 hI.1 j hj) hK, ?_⟩, ?_, ?_⟩
    · rw [k11, k71]
      unfold fd20
      rw [fd_get 20 (Nat.le_refl _), fd_get 20 (Nat.le_refl _)]
      by_cases hk2 : z ≤ k ∧ k < z + 20
      · rw [if_pos hk2, if_pos hk2]
        exact ⟨rfl, byt_nt _ _⟩
      · rw [if_neg hk2, if_neg hk2]
        exact z4 k (by omega)
    · rw [k70 3 (by decide) (by decide), k10 6 (by decide)]; exact z5
    · rw [k70 35 (by decide) (by decide), ka 9 (by decide) (by decide) (by decide) (by decide)]; exact hN
    · rw [ka 72 (by decide) (by decide) (by decide) (by decide), ka 9 (by decide) (by decide) (by decide) (by decide)]; exact hI.2.1
    · rw [ka 72 (by decide) (by decide) (by decide) (by decide), ka 9 (by decide) (by decide) (by decide) (by decide)]; exact hI.2.2
  · rw [if_neg h1, if_neg h1] at hc
    refine ⟨_, _, hc, ?_⟩
    have hm := m198 (d := d) (n := n) (L := L) (x := x) (a1 := a1) (a2 := a2) (a3 := a3) (a4 := a4) (a5 := a5) (I := I) (z := z) z3 z1
    rw [if_neg h1, if_neg h1] at hm
    exact ⟨_, L, rfl, hm, z70I hI⟩
end Fd

