/-! SMALL METHODS OF THE CLASS -/
section Sma
variable {d n x c cq : Nat} {μ : PM} {Φ : POut → PM → Prop} {I : Nat → Nat → Int32} {L : Nat → Nat → Int64} {k s h v a b i : Int32}
def bcI (v : Int32) : Int32 :=
  (fun v1 : Int32 => (fun v2 : Int32 => (fun v3 : Int32 => (fun v4 : Int32 => (v4 + ushr v4 16) &&& 63) (v3 + ushr v3 8)) ((v2 + ushr v2 4) &&& 252645135)) ((v1 &&& 858993459) + (ushr v1 2 &&& 858993459))) (v - (ushr v 1 &&& 1431655765))
theorem i1344 : (Int32.ofNat 1344).toNatClampNeg = 1344 := rfl
theorem c315 : wpc d 315 [.int v] μ Φ ↔ Φ (.inl (some (.int (bcI v)))) μ := by
  show wp d 315 0 [.int v] [] μ Φ ↔ _
  simp (config := {decide := true}) only [r315_0, r315_1, r315_2, r315_3, r315_4, r315_7, r315_8, r315_9, r315_10, r315_11, r315_14, r315_15, r315_16, r315_17, r315_18, r315_21, r315_22, r315_23, r315_24, r315_25, r315_26, r315_27, r315_28, r315_29, r315_32, r315_33, r315_34, r315_35, r315_36, r315_38, r315_39, r315_40, r315_41, r315_42, r315_43, r315_45, r315_46, r315_47, r315_48, r315_49, r315_51, r315_52, if_true, if_false, Nat.reduceAdd, Int32.reduceToNatClampNeg, lo_i, lo_r, lo_n, kont_v, kont_n, List.length_nil, List.length_cons, bcI]
theorem n314e : wp d 314 74 [.int i, .int v] [] μ Φ ↔ Φ (.inl (some (.int (v + ushr i 1)))) μ := by
  simp (config := {decide := true}) only [r314_74, r314_75, r314_76, r314_77, r314_78, r314_79, if_true, if_false, Nat.reduceAdd, Int32.reduceToNatClampNeg, lo_i, lo_r, lo_n, kont_v, kont_n, List.length_nil, List.length_cons]
theorem n314d : wp d 314 62 [.int i, .int v] [] μ Φ ↔ Φ (.inl (some (.int (if i ≤ 4 then v + ushr i 1 else v + 2 + ushr (ushr i 2) 1)))) μ := by
  rw [r314_62]
  simp (config := {decide := true}) only [r314_63, r314_64, r314_67, r314_70, r314_71, r314_72, r314_73, if_true, if_false, Nat.reduceAdd, Int32.reduceToNatClampNeg, lo_i, lo_r, lo_n, kont_v, kont_n, List.length_nil, List.length_cons, n314e]
  split <;> rfl
theorem n314c : wp d 314 49 [.int i, .int v] [] μ Φ ↔ Φ (.inl (some (.int (if i ≤ 16 then (if i ≤ 4 then v + ushr i 1 else v + 2 + ushr (ushr i 2) 1) else (if ushr i 4 ≤ 4 then v + 4 + ushr (ushr i 4) 1 else v + 4 + 2 + ushr (ushr (ushr i 4) 2) 1))))) μ := by
  rw [r314_49]
  simp (config := {decide := true}) only [r314_50, r314_52, r314_55, r314_58, r314_59, r314_60, r314_61, if_true, if_false, Nat.reduceAdd, Int32.reduceToNatClampNeg, lo_i, lo_r, lo_n, kont_v, kont_n, List.length_nil, List.length_cons, n314d]
  split <;> rfl
def ntz (v : Int32) : Int32 := (fun i : Int32 => if i ≤ 0 then i &&& 32 else if i ≤ 16 then (if i ≤ 4 then 1 + ushr i 1 else 1 + 2 + ushr (ushr i 2) 1) else (if ushr i 4 ≤ 4 then 1 + 4 + ushr (ushr i 4) 1 else 1 + 4 + 2 + ushr (ushr (ushr i 4) 2) 1)) ((v ^^^ -1) &&& (v - 1))
theorem c314 (h : (v ^^^ -1) &&& (v - 1) ≤ 256) : wpc d 314 [.int v] μ Φ ↔ Φ (.inl (some (.int (ntz v)))) μ := by
  show wp d 314 0 [.int v, noV] [] μ Φ ↔ _
  simp (config := {decide := true}) only [r314_0, r314_1, r314_2, r314_3, r314_4, r314_5, r314_6, r314_7, if_true, if_false, Nat.reduceAdd, Int32.reduceToNatClampNeg, lo_i, lo_r, lo_n, kont_v, kont_n, List.length_nil, List.length_cons]
  unfold ntz
  dsimp only
  generalize (v ^^^ -1) &&& (v - 1) = i at h ⊢
  rw [r314_8]
  simp (config := {decide := true}) only [r314_9, r314_12, r314_13, r314_15, r314_16, if_true, if_false, Nat.reduceAdd, Int32.reduceToNatClampNeg, lo_i, lo_r, lo_n, kont_v, kont_n, List.length_nil, List.length_cons]
  by_cases h0 : 0 < i
  · have e1 : ¬ i ≤ 0 := Int32.not_le.mpr h0
    have e2 : i ≤ 65536 := Int32.le_trans h (by decide)
    rw [if_pos h0, if_neg e1]
    simp (config := {decide := true}) only [r314_17, r314_18, r314_19, r314_20, r314_23, r314_26, r314_29, r314_30, r314_32, r314_33, r314_34, r314_35, r314_38, r314_41, r314_44, r314_45, r314_47, r314_48, if_true, if_false, Nat.reduceAdd, Int32.reduceToNatClampNeg, lo_i, lo_r, lo_n, kont_v, kont_n, List.length_nil, List.length_cons, e2, h, n314c]
  · have e1 : i ≤ 0 := Int32.not_lt.mp h0
    rw [if_neg h0, if_pos e1]
theorem kx {M pc len : Nat} {ls st : List Value} {k9 : Nat} (hM : M < 330) : kont d M pc len ls st Φ (.inr k9) μ ↔ Φ (.inr k9) μ := kont_x (by simpa using hM)
theorem c181 (hx : x + 1 ≤ 600) : wpc d 181 [.ref (9 : Nat), .int v] (mk n I L x) Φ ↔ if v = 0 then Φ (.inr 2) (mk n (wrI I 9 17 (I 9 17 + 1)) L (x + 1)) else Φ (.inl none) (mk n I L x) := by
  show wp d 181 0 [.ref (9 : Nat), .int v] [] (mk n I L x) Φ ↔ _
  simp (config := {decide := true}) only [r181_0, r181_1, r181_4, r181_5, r181_6, r181_9, r181_10, r181_11, r181_14, r181_25, if_true, if_false, Nat.reduceAdd, Int32.reduceToNatClampNeg, lo_i, lo_r, lo_n, kont_v, kont_n, List.length_nil, List.length_cons, hx]
theorem c179 (hx : x + 1 ≤ 600) : wpc (d + 1) 179 [.ref (9 : Nat), .int s] (mk n I L x) Φ ↔ if 0 ≤ s ∧ s ≤ I 12 5 - 1 then Φ (.inl none) (mk n I L x) else Φ (.inr 1) (mk n (wrI I 9 16 (I 9 16 + 1)) L (x + 1)) := by
  show wp (d + 1) 179 0 [.ref (9 : Nat), .int s] [] (mk n I L x) Φ ↔ _
  simp (config := {decide := true}) only [r179_0, r179_1, r179_2, r179_3, r179_6, r179_9, r179_10, r179_11, r179_14, r179_17, r179_18, r179_19, r179_22, r179_23, r179_24, r179_27, r179_38, if_true, if_false, Nat.reduceAdd, Int32.reduceToNatClampNeg, lo_i, lo_r, lo_n, kont_v, kont_n, List.length_nil, List.length_cons, hx, c182, bi_eq0, k12]
  by_cases h1 : 0 ≤ s ∧ s ≤ I 12 5 - 1
  · rw [if_neg (fun h => h h1), if_pos h1]
  · rw [if_pos h1, if_neg h1]
theorem c180 (hx : x + 1 ≤ 600) : wpc (d + 1) 180 [.ref (9 : Nat), .int s] (mk n I L x) Φ ↔ if 0 ≤ s ∧ s ≤ I 12 6 - 1 then Φ (.inl none) (mk n I L x) else Φ (.inr 1) (mk n (wrI I 9 16 (I 9 16 + 1)) L (x + 1)) := by
  show wp (d + 1) 180 0 [.ref (9 : Nat), .int s] [] (mk n I L x) Φ ↔ _
  simp (config := {decide := true}) only [r180_0, r180_1, r180_2, r180_3, r180_6, r180_9, r180_10, r180_11, r180_14, r180_17, r180_18, r180_19, r180_22, r180_23, r180_24, r180_27, r180_38, if_true, if_false, Nat.reduceAdd, Int32.reduceToNatClampNeg, lo_i, lo_r, lo_n, kont_v, kont_n, List.length_nil, List.length_cons, hx, c182, bi_eq0, k12]
  by_cases h1 : 0 ≤ s ∧ s ≤ I 12 6 - 1
  · rw [if_neg (fun h => h h1), if_pos h1]
  · rw [if_pos h1, if_neg h1]
theorem lt9a (h : K9 c) : c + 1 < 560 := by rcases h with rfl | rfl | rfl | rfl <;> decide
theorem ge9a (h : K9 c) : 9 ≤ c + 1 := by rcases h with rfl | rfl | rfl | rfl <;> decide
theorem c117 (hc : K9 c) : wpc d 117 [.ref c] (mk n I L x) Φ ↔ Φ (.inl (some (.int (bi (16 ≤ I c 1))))) (mk n I L x) := by
  show wp d 117 0 [.ref c] [] (mk n I L x) Φ ↔ _
  simp (config := {decide := true}) only [r117_0, r117_1, r117_4, r117_6, r117_9, r117_10, r117_13, r117_14, if_true, if_false, Nat.reduceAdd, Int32.reduceToNatClampNeg, lo_i, lo_r, lo_n, kont_v, kont_n, List.length_nil, List.length_cons, hc, nb_0, nb_1]
  by_cases h1 : I c 1 < 16
  · rw [if_pos h1, bi_f (fun h => Int32.not_lt.mpr h h1)]
  · rw [if_neg h1, bi_t (Int32.not_lt.mp h1)]
theorem c118 (hc : K9 c) : wpc d 118 [.ref c] (mk n I L x) Φ ↔ Φ (.inl (some (.int (bi (I c 1 ≤ 0))))) (mk n I L x) := by
  show wp d 118 0 [.ref c] [] (mk n I L x) Φ ↔ _
  simp (config := {decide := true}) only [r118_0, r118_1, r118_4, r118_7, r118_8, r118_11, r118_12, if_true, if_false, Nat.reduceAdd, Int32.reduceToNatClampNeg, lo_i, lo_r, lo_n, kont_v, kont_n, List.length_nil, List.length_cons, hc, nb_0, nb_1]
  by_cases h1 : 0 < I c 1
  · rw [if_pos h1, bi_f (fun h => Int32.not_lt.mpr h h1)]
  · rw [if_neg h1, bi_t (Int32.not_lt.mp h1)]
theorem c119 (hc : K9 c) : wpc d 119 [.ref c] (mk n I L x) Φ ↔ Φ (.inl none) (mk n (wrI I c 1 0) L x) := by
  show wp d 119 0 [.ref c] [] (mk n I L x) Φ ↔ _
  simp (config := {decide := true}) only [r119_0, r119_1, r119_2, r119_5, if_true, if_false, Nat.reduceAdd, Int32.reduceToNatClampNeg, lo_i, lo_r, lo_n, kont_v, kont_n, List.length_nil, List.length_cons, hc]
theorem c120 (hc : K9 c) (hq : K9 cq) : wpc d 120 [.ref c, .ref cq] (mk n I L x) Φ ↔ Φ (.inl none) (mk n (wrI (cpI I (cq + 1) 0 (c + 1) 0 1344) c 1 (I cq 1)) L x) := by
  show wp d 120 0 [.ref c, .ref cq] [] (mk n I L x) Φ ↔ _
  have n9 : cpI I (cq + 1) 0 (c + 1) 0 1344 cq = I cq := by unfold cpI; exact upR_ne (by rcases hc with rfl | rfl | rfl | rfl <;> rcases hq with rfl | rfl | rfl | rfl <;> decide)
  simp (config := {decide := true}) only [r120_0, r120_1, r120_4, r120_5, r120_6, r120_9, r120_10, r120_11, r120_14, r120_15, r120_18, r120_19, r120_20, r120_23, r120_26, if_true, if_false, Nat.reduceAdd, Int32.reduceToNatClampNeg, lo_i, lo_r, lo_n, kont_v, kont_n, List.length_nil, List.length_cons, hc, hq, sh9a hc, sh9a hq, lt9a hc, lt9a hq, ge9a hc, ge9a hq, true_or, n9, i1344]
theorem z84 {w : Nat} (h : w < 16) : (nt w * 84).toNatClampNeg = 84 * w := by
  rw [show nt w * 84 = nt (w * 84) from (Int32.ofNat_mul w 84).symm, nt_clamp (by omega), Nat.mul_comm]
theorem z84n {w : Nat} (h : w < 16) : ¬ nt w * 84 < 0 := by
  rw [show nt w * 84 = nt (w * 84) from (Int32.ofNat_mul w 84).symm]
  exact Int32.not_lt.mpr (nt_ge (by omega))
theorem z84l {w : Nat} (h : w < 16) : 84 * w + 84 ≤ 1344 := by omega
theorem c121 {w : Nat} (hq : K5 cq) (hw : I 44 1 = nt w) (h16 : w < 16) : wpc (d + 1) 121 [.ref (44 : Nat), .ref cq] (mk n I L x) Φ ↔ Φ (.inl none) (mk n (wrI (cpI I (cq + 1) 0 45 (84 * w) 84) 44 1 (nt (w + 1))) L x) := by
  show wp (d + 1) 121 0 [.ref (44 : Nat), .ref cq] [] (mk n I L x) Φ ↔ _
  have k44 : K9 44 := Or.inl rfl
  have e1 : ¬ (16 ≤ nt w) := nt_nle (m := 16) h16 (by decide)
  have n9 : cpI I (cq + 1) 0 45 (84 * w) 84 44 = I 44 := by unfold cpI; exact upR_ne (by decide)
  simp (config := {decide := true}) only [r121_0, r121_1, r121_4, r121_7, r121_8, r121_11, r121_12, r121_13, r121_16, r121_17, r121_20, r121_22, r121_23, r121_25, r121_28, r121_29, r121_30, r121_33, r121_34, r121_35, r121_38, if_true, if_false, Nat.reduceAdd, Int32.reduceToNatClampNeg, lo_i, lo_r, lo_n, kont_v, kont_n, List.length_nil, List.length_cons, k44, hq, c117 k44, sh9a k44, sh5a hq, lt5a hq, ge5a hq, true_or, bi_eq0, hw, e1, z84 h16, z84n h16, z84l h16, n9, nt_succ]
theorem c122 {w : Nat} (hq : K5 cq) (hw : I 44 1 = nt (w + 1)) (h16 : w < 16) : wpc (d + 1) 122 [.ref (44 : Nat), .ref cq] (mk n I L x) Φ ↔ Φ (.inl none) (mk n (cpI (wrI I 44 1 (nt w)) 45 (84 * w) (cq + 1) 0 84) L x) := by
  show wp (d + 1) 122 0 [.ref (44 : Nat), .ref cq] [] (mk n I L x) Φ ↔ _
  have k44 : K9 44 := Or.inl rfl
  have e1 : ¬ (nt (w + 1) ≤ 0) := nt_nle (m := w + 1) (j := 0) (by omega) (by omega)
  have e2 : nt (w + 1) - 1 = nt w := nt_sub1 (by omega)
  have n9 : wrI I 44 1 (nt w) 44 1 = nt w := by unfold wrI; rw [upR_same, up_same]
  simp (config := {decide := true}) only [r122_0, r122_1, r122_4, r122_7, r122_8, r122_9, r122_12, r122_13, r122_14, r122_17, r122_18, r122_21, r122_22, r122_25, r122_27, r122_28, r122_29, r122_32, r122_33, r122_35, r122_38, if_true, if_false, Nat.reduceAdd, Int32.reduceToNatClampNeg, lo_i, lo_r, lo_n, kont_v, kont_n, List.length_nil, List.length_cons, k44, hq, c118 k44, sh9a k44, sh5a hq, lt5a hq, ge5a hq, true_or, bi_eq0, hw, e1, e2, z84 h16, z84n h16, z84l h16, n9]
theorem c1 : wpc d 1 [.ref (46 : Nat)] (mk n I L x) Φ ↔ Φ (.inl (some (.int (bi (3 ≤ I 46 2))))) (mk n I L x) := by
  show wp d 1 0 [.ref (46 : Nat)] [] (mk n I L x) Φ ↔ _
  simp (config := {decide := true}) only [r1_0, r1_1, r1_4, r1_5, r1_8, r1_9, r1_12, r1_13, if_true, if_false, Nat.reduceAdd, Int32.reduceToNatClampNeg, lo_i, lo_r, lo_n, kont_v, kont_n, List.length_nil, List.length_cons, nb_0, nb_1]
  by_cases h1 : I 46 2 < 3
  · rw [if_pos h1, bi_f (fun h => Int32.not_lt.mpr h h1)]
  · rw [if_neg h1, bi_t (Int32.not_lt.mp h1)]
theorem c2 : wpc d 2 [.ref (46 : Nat)] (mk n I L x) Φ ↔ Φ (.inl (some (.int (bi (I 46 2 ≤ 0))))) (mk n I L x) := by
  show wp d 2 0 [.ref (46 : Nat)] [] (mk n I L x) Φ ↔ _
  simp (config := {decide := true}) only [r2_0, r2_1, r2_4, r2_7, r2_8, r2_11, r2_12, if_true, if_false, Nat.reduceAdd, Int32.reduceToNatClampNeg, lo_i, lo_r, lo_n, kont_v, kont_n, List.length_nil, List.length_cons, nb_0, nb_1]
  by_cases h1 : 0 < I 46 2
  · rw [if_pos h1, bi_f (fun h => Int32.not_lt.mpr h h1)]
  · rw [if_neg h1, bi_t (Int32.not_lt.mp h1)]
theorem c3 : wpc d 3 [.ref (46 : Nat)] (mk n I L x) Φ ↔ Φ (.inl (some (.int (I 46 2)))) (mk n I L x) := by
  show wp d 3 0 [.ref (46 : Nat)] [] (mk n I L x) Φ ↔ _
  simp (config := {decide := true}) only [r3_0, r3_1, r3_4, if_true, if_false, Nat.reduceAdd, Int32.reduceToNatClampNeg, lo_i, lo_r, lo_n, kont_v, kont_n, List.length_nil, List.length_cons]
theorem c4 : wpc d 4 [.ref (46 : Nat)] (mk n I L x) Φ ↔ Φ (.inl none) (mk n (wrI I 46 2 0) L x) := by
  show wp d 4 0 [.ref (46 : Nat)] [] (mk n I L x) Φ ↔ _
  simp (config := {decide := true}) only [r4_0, r4_1, r4_2, r4_5, if_true, if_false, Nat.reduceAdd, Int32.reduceToNatClampNeg, lo_i, lo_r, lo_n, kont_v, kont_n, List.length_nil, List.length_cons]
end Sma
