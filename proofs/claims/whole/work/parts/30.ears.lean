/-! REPUBLIC, LAW, EARS -/
section Rep
variable {d n x c : Nat} {μ : PM} {Φ : POut → PM → Prop} {I : Nat → Nat → Int32} {L : Nat → Nat → Int64} {k s h v a b bits : Int32}
theorem lt6 (h : K6 c) : c + 1 < 560 ∧ c + 2 < 560 ∧ c + 3 < 560 ∧ c + 4 < 560 ∧ c + 5 < 560 := by rcases h with rfl | rfl <;> decide
theorem ge6 (h : K6 c) : 9 ≤ c + 1 ∧ 9 ≤ c + 2 ∧ 9 ≤ c + 3 ∧ 9 ≤ c + 4 ∧ 9 ≤ c + 5 := by rcases h with rfl | rfl <;> decide
theorem c82 (hc : K6 c) : wpc (d + 1) 82 [.ref c, .int k] (mk n I L x) Φ ↔ Φ (.inl (some (.int (atv 7 (I (c + 1)) k)))) (mk n I L x) := by
  show wp (d + 1) 82 0 [.ref c, .int k] [] (mk n I L x) Φ ↔ _
  simp (config := {decide := true}) only [r82_0, r82_1, r82_4, r82_5, r82_8, if_true, if_false, Nat.reduceAdd, Int32.reduceToNatClampNeg, lo_i, lo_r, lo_n, kont_v, kont_n, List.length_nil, List.length_cons, hc, sh6a hc, lt6 hc, c185]
theorem c83 (hc : K6 c) : wpc (d + 1) 83 [.ref c, .int k] (mk n I L x) Φ ↔ Φ (.inl (some (.int (atv 7 (I (c + 2)) k)))) (mk n I L x) := by
  show wp (d + 1) 83 0 [.ref c, .int k] [] (mk n I L x) Φ ↔ _
  simp (config := {decide := true}) only [r83_0, r83_1, r83_4, r83_5, r83_8, if_true, if_false, Nat.reduceAdd, Int32.reduceToNatClampNeg, lo_i, lo_r, lo_n, kont_v, kont_n, List.length_nil, List.length_cons, hc, sh6b hc, lt6 hc, c185]
theorem c84 (hc : K6 c) : wpc (d + 1) 84 [.ref c, .int k] (mk n I L x) Φ ↔ Φ (.inl (some (.int (atv 6 (I (c + 3)) k)))) (mk n I L x) := by
  show wp (d + 1) 84 0 [.ref c, .int k] [] (mk n I L x) Φ ↔ _
  simp (config := {decide := true}) only [r84_0, r84_1, r84_4, r84_5, r84_8, if_true, if_false, Nat.reduceAdd, Int32.reduceToNatClampNeg, lo_i, lo_r, lo_n, kont_v, kont_n, List.length_nil, List.length_cons, hc, sh6c hc, lt6 hc, c185]
theorem c85 (hc : K6 c) : wpc d 85 [.ref c] (mk n I L x) Φ ↔ Φ (.inl (some (.int (1 <<< (I c 5 &&& 31) - 1)))) (mk n I L x) := by
  show wp d 85 0 [.ref c] [] (mk n I L x) Φ ↔ _
  simp (config := {decide := true}) only [r85_0, r85_1, r85_2, r85_5, r85_6, r85_7, r85_8, if_true, if_false, Nat.reduceAdd, Int32.reduceToNatClampNeg, lo_i, lo_r, lo_n, kont_v, kont_n, List.length_nil, List.length_cons, hc]
theorem c86 (hc : K6 c) : wpc d 86 [.ref c] (mk n I L x) Φ ↔ Φ (.inl (some (.int (1 <<< (I c 6 &&& 31) - 1)))) (mk n I L x) := by
  show wp d 86 0 [.ref c] [] (mk n I L x) Φ ↔ _
  simp (config := {decide := true}) only [r86_0, r86_1, r86_2, r86_5, r86_6, r86_7, r86_8, if_true, if_false, Nat.reduceAdd, Int32.reduceToNatClampNeg, lo_i, lo_r, lo_n, kont_v, kont_n, List.length_nil, List.length_cons, hc]
def vot (vs : Nat → Int32) (bits : Int32) : Int32 := foldN (fun s t => t + (if bits >>> (nt s &&& 31) &&& 1 = 1 then vs s else 0)) 7 0
theorem c87 (hc : K6 c) : wpc (d + 2) 87 [.ref c, .int bits] (mk n I L x) Φ ↔ Φ (.inl (some (.int (vot (I (c + 2)) bits)))) (mk n I L x) := by
  show wp (d + 2) 87 0 [.ref c, .int bits, noV, noV] [] (mk n I L x) Φ ↔ _
  simp (config := {decide := true}) only [r87_0, r87_1, r87_2, r87_3, if_true, if_false, Nat.reduceAdd, Int32.reduceToNatClampNeg, lo_i, lo_r, lo_n, kont_v, kont_n, List.length_nil, List.length_cons]
  refine loopN (P := fun k b => wp (d + 2) 87 4 [.ref c, .int bits, .int b, .int (nt k)] [] (mk n I L x) Φ) (Q := fun b => Φ (.inl (some (.int b))) (mk n I L x)) (n := 7) (f := fun s t => t + (if bits >>> (nt s &&& 31) &&& 1 = 1 then I (c + 2) s else 0)) ?_ ?_ 0
  · intro k b hk
    have e1 : ¬ ((7 : Int32) ≤ nt k) := nt_nle (m := 7) (by omega) (by decide)
    have e2 : atv 7 (I (c + 2)) (nt k) = I (c + 2) k := atv_nt (by omega) (by decide)
    rw [r87_4]
    simp (config := {decide := true}) only [r87_5, r87_7, r87_10, r87_11, r87_12, r87_13, r87_16, r87_19, r87_20, r87_21, r87_24, r87_27, r87_28, r87_29, r87_30, r87_33, r87_36, r87_37, if_true, if_false, Nat.reduceAdd, Int32.reduceToNatClampNeg, lo_i, lo_r, lo_n, kont_v, kont_n, List.length_nil, List.length_cons, hc, nt_succ, e1, e2, c184, c83 hc, bi_eq0]
    by_cases h1 : bits >>> (nt k &&& 31) &&& 1 = 1 <;> simp only [h1, if_true, if_false, not_true, not_false_eq_true]
  · intro b
    rw [r87_4]
    simp (config := {decide := true}) only [r87_5, r87_7, r87_10, r87_11, r87_12, r87_13, r87_16, r87_19, r87_20, r87_21, r87_24, r87_27, r87_28, r87_29, r87_30, r87_33, r87_36, r87_37, if_true, if_false, Nat.reduceAdd, Int32.reduceToNatClampNeg, lo_i, lo_r, lo_n, kont_v, kont_n, List.length_nil, List.length_cons]
def lvd (ds : Nat → Int32) (bits bound : Int32) : Int32 := foldN (fun s t => t + (if bits >>> (nt s &&& 31) &&& 1 = 1 then mni bound (ds s) else 0)) 7 0
theorem c88 (hc : K6 c) : wpc (d + 2) 88 [.ref c, .int bits, .int b] (mk n I L x) Φ ↔ Φ (.inl (some (.int (lvd (I (c + 1)) bits b)))) (mk n I L x) := by
  show wp (d + 2) 88 0 [.ref c, .int bits, .int b, noV, noV] [] (mk n I L x) Φ ↔ _
  simp (config := {decide := true}) only [r88_0, r88_1, r88_2, r88_3, if_true, if_false, Nat.reduceAdd, Int32.reduceToNatClampNeg, lo_i, lo_r, lo_n, kont_v, kont_n, List.length_nil, List.length_cons]
  refine loopN (P := fun k t => wp (d + 2) 88 5 [.ref c, .int bits, .int b, .int t, .int (nt k)] [] (mk n I L x) Φ) (Q := fun b => Φ (.inl (some (.int b))) (mk n I L x)) (n := 7) (f := fun s t => t + (if bits >>> (nt s &&& 31) &&& 1 = 1 then mni b (I (c + 1) s) else 0)) ?_ ?_ 0
  · intro k t hk
    have e1 : ¬ ((7 : Int32) ≤ nt k) := nt_nle (m := 7) (by omega) (by decide)
    have e2 : atv 7 (I (c + 1)) (nt k) = I (c + 1) k := atv_nt (by omega) (by decide)
    rw [r88_5]
    simp (config := {decide := true}) only [r88_7, r88_9, r88_12, r88_13, r88_14, r88_16, r88_19, r88_22, r88_23, r88_24, r88_26, r88_29, r88_32, r88_35, r88_36, r88_37, r88_38, r88_41, r88_44, r88_45, if_true, if_false, Nat.reduceAdd, Int32.reduceToNatClampNeg, lo_i, lo_r, lo_n, kont_v, kont_n, List.length_nil, List.length_cons, hc, nt_succ, e1, e2, c184, c82 hc, c317, bi_eq0]
    by_cases h1 : bits >>> (nt k &&& 31) &&& 1 = 1 <;> simp only [h1, if_true, if_false, not_true, not_false_eq_true]
  · intro t
    rw [r88_5]
    simp (config := {decide := true}) only [r88_7, r88_9, r88_12, r88_13, r88_14, r88_16, r88_19, r88_22, r88_23, r88_24, r88_26, r88_29, r88_32, r88_35, r88_36, r88_37, r88_38, r88_41, r88_44, r88_45, if_true, if_false, Nat.reduceAdd, Int32.reduceToNatClampNeg, lo_i, lo_r, lo_n, kont_v, kont_n, List.length_nil, List.length_cons]
/-! the law -/
def thg (g : Nat → Int32) (loud near depth sock spring : Int32) : Nat → Int32 := upd (upd (upd (upd (upd g 0 loud) 1 near) 2 depth) 3 sock) 7 spring
def tmg (g : Nat → Int32) (hour day awake sleeper : Int32) : Nat → Int32 := upd (upd (upd (upd g 4 hour) 5 day) 6 awake) 8 sleeper
theorem k24 : K4 24 := Or.inl rfl
theorem k12 : K6 12 := Or.inl rfl
theorem s27 : sh0 n 27 = (20, 9, []) := eq_of_heq HEq.rfl
theorem s26 : sh0 n 26 = (20, 150, []) := eq_of_heq HEq.rfl
theorem s25 : sh0 n 25 = (20, 150, []) := eq_of_heq HEq.rfl
theorem c36 {l9 n9 d9 k9 p9 : Int32} : wpc d 36 [.ref (24 : Nat), .int l9, .int n9, .int d9, .int k9, .int p9] (mk n I L x) Φ ↔ Φ (.inl none) (mk n (upR I 27 (thg (I 27) l9 n9 d9 k9 p9)) L x) := by
  show wp d 36 0 [.ref (24 : Nat), .int l9, .int n9, .int d9, .int k9, .int p9] [] (mk n I L x) Φ ↔ _
  simp (config := {decide := true}) only [r36_0, r36_1, r36_4, r36_5, r36_6, r36_7, r36_8, r36_11, r36_12, r36_13, r36_14, r36_15, r36_18, r36_19, r36_20, r36_21, r36_22, r36_25, r36_26, r36_28, r36_29, r36_30, r36_33, r36_35, r36_37, r36_38, if_true, if_false, Nat.reduceAdd, Int32.reduceToNatClampNeg, lo_i, lo_r, lo_n, kont_v, kont_n, List.length_nil, List.length_cons, k24, s27, wr_raw, upR_same, upR_upR, thg]
theorem c37 {l9 n9 d9 k9 : Int32} : wpc d 37 [.ref (24 : Nat), .int l9, .int n9, .int d9, .int k9] (mk n I L x) Φ ↔ Φ (.inl none) (mk n (upR I 27 (tmg (I 27) l9 n9 d9 k9)) L x) := by
  show wp d 37 0 [.ref (24 : Nat), .int l9, .int n9, .int d9, .int k9] [] (mk n I L x) Φ ↔ _
  simp (config := {decide := true}) only [r37_0, r37_1, r37_4, r37_5, r37_6, r37_7, r37_8, r37_11, r37_12, r37_13, r37_14, r37_15, r37_18, r37_20, r37_21, r37_22, r37_23, r37_26, r37_28, r37_30, r37_31, if_true, if_false, Nat.reduceAdd, Int32.reduceToNatClampNeg, lo_i, lo_r, lo_n, kont_v, kont_n, List.length_nil, List.length_cons, k24, s27, wr_raw, upR_same, upR_upR, tmg]
def jn (g a b : Int32) : Int32 := if g = 2000 then a + b else if g = 2001 then a - b else if g = 2002 then a * b else if g = 2003 then (if b = 0 then 0 else a / b) else if g = 2004 then (if b = 0 then 0 else irm a b) else if g = 2005 then mni a b else mxi a b
theorem ptb_out {dflt lo hi : Int} {offs : Array Int} {a : Int32} (h : a.toInt < lo ∨ hi < a.toInt) : ptb dflt lo hi offs a = some dflt.toNat := if_pos h
theorem ne_toInt {a b : Int32} (h : a ≠ b) : a.toInt ≠ b.toInt := fun e => h (Int32.toInt_inj.mp e)
theorem mni_le : mni a b = if b ≤ a then b else a := by
  unfold mni
  by_cases h : b < a
  · rw [if_pos h, if_pos (Int32.le_of_lt h)]
  · rw [if_neg h]
    by_cases h2 : b ≤ a
    · rw [if_pos h2]
      exact Int32.le_antisymm (Int32.not_lt.mp h) h2
    · rw [if_neg h2]
theorem mxi_le : mxi a b = if a ≤ b then b else a := by
  unfold mxi
  by_cases h : a < b
  · rw [if_pos h, if_pos (Int32.le_of_lt h)]
  · rw [if_neg h]
    by_cases h2 : a ≤ b
    · rw [if_pos h2]
      exact Int32.le_antisymm h2 (Int32.not_lt.mp h)
    · rw [if_neg h2]
theorem c39 {g : Int32} : wpc (d + 1) 39 [.int g, .int a, .int b] μ Φ ↔ Φ (.inl (some (.int (jn g a b)))) μ := by
  show wp (d + 1) 39 0 [.int g, .int a, .int b] [] μ Φ ↔ _
  rw [r39_0]
  unfold jn
  by_cases h0 : g = 2000
  · subst h0
    rw [r39_1 40 rfl]
    simp (config := {decide := true}) only [r39_40, r39_41, r39_42, r39_43, r39_44, r39_45, r39_46, r39_47, r39_48, r39_49, r39_50, r39_51, r39_52, r39_53, r39_56, r39_57, r39_60, r39_61, r39_62, r39_63, r39_64, r39_65, r39_68, r39_69, r39_72, r39_73, r39_74, r39_75, r39_76, r39_77, r39_78, r39_81, r39_82, r39_85, r39_86, r39_87, r39_88, r39_89, r39_92, r39_93, r39_96, r39_97, if_true, if_false, Nat.reduceAdd, Int32.reduceToNatClampNeg, lo_i, lo_r, lo_n, kont_v, kont_n, List.length_nil, List.length_cons]
  by_cases h1 : g = 2001
  · subst h1
    rw [r39_1 44 rfl]
    simp (config := {decide := true}) only [r39_40, r39_41, r39_42, r39_43, r39_44, r39_45, r39_46, r39_47, r39_48, r39_49, r39_50, r39_51, r39_52, r39_53, r39_56, r39_57, r39_60, r39_61, r39_62, r39_63, r39_64, r39_65, r39_68, r39_69, r39_72, r39_73, r39_74, r39_75, r39_76, r39_77, r39_78, r39_81, r39_82, r39_85, r39_86, r39_87, r39_88, r39_89, r39_92, r39_93, r39_96, r39_97, if_true, if_false, Nat.reduceAdd, Int32.reduceToNatClampNeg, lo_i, lo_r, lo_n, kont_v, kont_n, List.length_nil, List.length_cons]
  by_cases h2 : g = 2002
  · subst h2
    rw [r39_1 48 rfl]
    simp (config := {decide := true}) only [r39_40, r39_41, r39_42, r39_43, r39_44, r39_45, r39_46, r39_47, r39_48, r39_49, r39_50, r39_51, r39_52, r39_53, r39_56, r39_57, r39_60, r39_61, r39_62, r39_63, r39_64, r39_65, r39_68, r39_69, r39_72, r39_73, r39_74, r39_75, r39_76, r39_77, r39_78, r39_81, r39_82, r39_85, r39_86, r39_87, r39_88, r39_89, r39_92, r39_93, r39_96, r39_97, if_true, if_false, Nat.reduceAdd, Int32.reduceToNatClampNeg, lo_i, lo_r, lo_n, kont_v, kont_n, List.length_nil, List.length_cons]
  by_cases h3 : g = 2003
  · subst h3
    rw [r39_1 52 rfl]
    by_cases hb : b = 0
    · simp (config := {decide := true}) only [r39_40, r39_41, r39_42, r39_43, r39_44, r39_45, r39_46, r39_47, r39_48, r39_49, r39_50, r39_51, r39_52, r39_53, r39_56, r39_57, r39_60, r39_61, r39_62, r39_63, r39_64, r39_65, r39_68, r39_69, r39_72, r39_73, r39_74, r39_75, r39_76, r39_77, r39_78, r39_81, r39_82, r39_85, r39_86, r39_87, r39_88, r39_89, r39_92, r39_93, r39_96, r39_97, if_true, if_false, Nat.reduceAdd, Int32.reduceToNatClampNeg, lo_i, lo_r, lo_n, kont_v, kont_n, List.length_nil, List.length_cons, hb]
    · simp (config := {decide := true}) only [r39_40, r39_41, r39_42, r39_43, r39_44, r39_45, r39_46, r39_47, r39_48, r39_49, r39_50, r39_51, r39_52, r39_53, r39_56, r39_57, r39_60, r39_61, r39_62, r39_63, r39_64, r39_65, r39_68, r39_69, r39_72, r39_73, r39_74, r39_75, r39_76, r39_77, r39_78, r39_81, r39_82, r39_85, r39_86, r39_87, r39_88, r39_89, r39_92, r39_93, r39_96, r39_97, if_true, if_false, Nat.reduceAdd, Int32.reduceToNatClampNeg, lo_i, lo_r, lo_n, kont_v, kont_n, List.length_nil, List.length_cons, hb, ne_eq, not_false_eq_true]
  by_cases h4 : g = 2004
  · subst h4
    rw [r39_1 64 rfl]
    by_cases hb : b = 0
    · simp (config := {decide := true}) only [r39_40, r39_41, r39_42, r39_43, r39_44, r39_45, r39_46, r39_47, r39_48, r39_49, r39_50, r39_51, r39_52, r39_53, r39_56, r39_57, r39_60, r39_61, r39_62, r39_63, r39_64, r39_65, r39_68, r39_69, r39_72, r39_73, r39_74, r39_75, r39_76, r39_77, r39_78, r39_81, r39_82, r39_85, r39_86, r39_87, r39_88, r39_89, r39_92, r39_93, r39_96, r39_97, if_true, if_false, Nat.reduceAdd, Int32.reduceToNatClampNeg, lo_i, lo_r, lo_n, kont_v, kont_n, List.length_nil, List.length_cons, hb]
    · simp (config := {decide := true}) only [r39_40, r39_41, r39_42, r39_43, r39_44, r39_45, r39_46, r39_47, r39_48, r39_49, r39_50, r39_51, r39_52, r39_53, r39_56, r39_57, r39_60, r39_61, r39_62, r39_63, r39_64, r39_65, r39_68, r39_69, r39_72, r39_73, r39_74, r39_75, r39_76, r39_77, r39_78, r39_81, r39_82, r39_85, r39_86, r39_87, r39_88, r39_89, r39_92, r39_93, r39_96, r39_97, if_true, if_false, Nat.reduceAdd, Int32.reduceToNatClampNeg, lo_i, lo_r, lo_n, kont_v, kont_n, List.length_nil, List.length_cons, hb, ne_eq, not_false_eq_true]
  by_cases h5 : g = 2005
  · subst h5
    rw [r39_1 76 rfl]
    simp (config := {decide := true}) only [r39_40, r39_41, r39_42, r39_43, r39_44, r39_45, r39_46, r39_47, r39_48, r39_49, r39_50, r39_51, r39_52, r39_53, r39_56, r39_57, r39_60, r39_61, r39_62, r39_63, r39_64, r39_65, r39_68, r39_69, r39_72, r39_73, r39_74, r39_75, r39_76, r39_77, r39_78, r39_81, r39_82, r39_85, r39_86, r39_87, r39_88, r39_89, r39_92, r39_93, r39_96, r39_97, if_true, if_false, Nat.reduceAdd, Int32.reduceToNatClampNeg, lo_i, lo_r, lo_n, kont_v, kont_n, List.length_nil, List.length_cons]
    rw [mni_le]
    split <;> rfl
  rw [r39_1 87 (ptb_out (by
    have e0 := ne_toInt h0
    have e1 := ne_toInt h1
    have e2 := ne_toInt h2
    have e3 := ne_toInt h3
    have e4 := ne_toInt h4
    have e5 := ne_toInt h5
    have f0 : (2000 : Int32).toInt = 2000 := rfl
    have f1 : (2001 : Int32).toInt = 2001 := rfl
    have f2 : (2002 : Int32).toInt = 2002 := rfl
    have f3 : (2003 : Int32).toInt = 2003 := rfl
    have f4 : (2004 : Int32).toInt = 2004 := rfl
    have f5 : (2005 : Int32).toInt = 2005 := rfl
    omega))]
  simp (config := {decide := true}) only [r39_40, r39_41, r39_42, r39_43, r39_44, r39_45, r39_46, r39_47, r39_48, r39_49, r39_50, r39_51, r39_52, r39_53, r39_56, r39_57, r39_60, r39_61, r39_62, r39_63, r39_64, r39_65, r39_68, r39_69, r39_72, r39_73, r39_74, r39_75, r39_76, r39_77, r39_78, r39_81, r39_82, r39_85, r39_86, r39_87, r39_88, r39_89, r39_92, r39_93, r39_96, r39_97, if_true, if_false, Nat.reduceAdd, Int32.reduceToNatClampNeg, lo_i, lo_r, lo_n, kont_v, kont_n, List.length_nil, List.length_cons, h0, h1, h2, h3, h4, h5]
  rw [mxi_le]
  split <;> rfl
/-- one sign of the law: the height of the pile, the pile -/
def nzF (sg inp : Nat → Int32) (k : Nat) (p : Int32 × (Nat → Int32)) : Int32 × (Nat → Int32) :=
  if 1000 ≤ sg k then
    (if 2000 ≤ sg k then (p.1 + -1, stv 150 p.2 (p.1 + -1 - 1) (jn (sg k) (atv 150 p.2 (p.1 + -1 - 1)) (atv 150 p.2 (p.1 + -1)))) else (p.1 + 1, stv 150 p.2 p.1 (atv 9 inp (sg k - 1000))))
  else (p.1 + 1, stv 150 p.2 p.1 (sg k))
def nzA (sg inp : Nat → Int32) (len : Nat) (g : Nat → Int32) : Int32 × (Nat → Int32) := foldN (nzF sg inp) len (0, g)
def nzV (sg inp : Nat → Int32) (len : Nat) (g : Nat → Int32) : Int32 := mxi 0 (mni 99 (atv 150 (nzA sg inp len g).2 0))
theorem c38 {len : Nat} (hl : I 24 3 = nt len) (hle : len ≤ 150) : wpc (d + 2) 38 [.ref (24 : Nat)] (mk n I L x) Φ ↔ Φ (.inl (some (.int (nzV (I 25) (I 27) len (I 26))))) (mk n (upR I 26 (nzA (I 25) (I 27) len (I 26)).2) L x) := by
  show wp (d + 2) 38 0 [.ref (24 : Nat), noV, noV, noV] [] (mk n I L x) Φ ↔ _
  simp (config := {decide := true}) only [r38_0, r38_1, r38_2, r38_3, if_true, if_false, Nat.reduceAdd, Int32.reduceToNatClampNeg, lo_i, lo_r, lo_n, kont_v, kont_n, List.length_nil, List.length_cons]
  have hm := foldN_map (π := fun q : (Int32 × (Nat → Int32)) × Value => q.1) (g := fun k q => (nzF (I 25) (I 27) k q.1, .int (I 25 k))) (f := nzF (I 25) (I 27)) (fun _ _ => rfl) ((0, I 26), noV) len
  unfold nzV nzA
  rw [← hm]
  have e0 := loopN (P := fun k (q : (Int32 × (Nat → Int32)) × Value) => wp (d + 2) 38 4 [.ref (24 : Nat), .int q.1.1, .int (nt k), q.2] [] (mk n (upR I 26 q.1.2) L x) Φ) (Q := fun q => Φ (.inl (some (.int (mxi 0 (mni 99 (atv 150 q.1.2 0)))))) (mk n (upR I 26 q.1.2) L x)) (n := len) (f := fun k q => (nzF (I 25) (I 27) k q.1, .int (I 25 k))) ?_ ?_ ((0, I 26), noV)
  · dsimp only at e0
    rw [upR_self] at e0
    exact e0
  · intro k q hk
    have e1 : ¬ (nt len ≤ nt k) := nt_nle (by omega) (by omega)
    have e2 : ¬ (nt 150 ≤ nt k) := nt_nle (by omega) (by decide)
    have e3 : (nt k).toNatClampNeg = k := nt_clamp (by omega)
    have e4 : (0 : Int32) ≤ nt k := nt_ge (by omega)
    have e5 : k < 150 := by omega
    have u24 : ∀ g, upR I 26 g 24 = I 24 := fun g => upR_ne (by decide)
    have u25 : ∀ g, upR I 26 g 25 = I 25 := fun g => upR_ne (by decide)
    have u27 : ∀ g, upR I 26 g 27 = I 27 := fun g => upR_ne (by decide)
    rw [r38_4]
    simp (config := {decide := true}) only [r38_5, r38_6, r38_9, r38_12, r38_13, r38_14, r38_17, r38_18, r38_21, r38_22, r38_25, r38_26, r38_27, r38_28, r38_29, r38_32, r38_35, r38_36, r38_39, r38_40, r38_41, r38_44, r38_47, r38_50, r38_51, r38_54, r38_57, r38_58, r38_61, r38_62, r38_63, r38_66, r38_67, r38_70, r38_71, r38_74, r38_77, r38_80, r38_83, r38_86, r38_87, r38_90, r38_91, r38_92, r38_93, r38_94, r38_95, r38_98, r38_99, r38_100, r38_101, r38_104, r38_105, r38_108, r38_109, r38_112, r38_115, if_true, if_false, Nat.reduceAdd, Int32.reduceToNatClampNeg, lo_i, lo_r, lo_n, kont_v, kont_n, List.length_nil, List.length_cons, k24, s25, s26, s27, u24, u25, u27, hl, e1, e2, e3, e4, e5, true_or]
    unfold nzF
    by_cases h1 : 1000 ≤ I 25 k
    · by_cases h2 : 2000 ≤ I 25 k
      · simp (config := {decide := true}) only [r38_5, r38_6, r38_9, r38_12, r38_13, r38_14, r38_17, r38_18, r38_21, r38_22, r38_25, r38_26, r38_27, r38_28, r38_29, r38_32, r38_35, r38_36, r38_39, r38_40, r38_41, r38_44, r38_47, r38_50, r38_51, r38_54, r38_57, r38_58, r38_61, r38_62, r38_63, r38_66, r38_67, r38_70, r38_71, r38_74, r38_77, r38_80, r38_83, r38_86, r38_87, r38_90, r38_91, r38_92, r38_93, r38_94, r38_95, r38_98, r38_99, r38_100, r38_101, r38_104, r38_105, r38_108, r38_109, r38_112, r38_115, r38_118, r38_121, r38_124, r38_125, r38_127, r38_128, r38_131, r38_132, r38_135, r38_138, r38_141, if_true, if_false, Nat.reduceAdd, Int32.reduceToNatClampNeg, lo_i, lo_r, lo_n, kont_v, kont_n, List.length_nil, List.length_cons, k24, s25, s26, s27, u24, u25, u27, e3, e4, e5, h1, h2, c185, c186, c39, putv_up, upR_same, upR_upR, nt_succ]
      · simp (config := {decide := true}) only [r38_5, r38_6, r38_9, r38_12, r38_13, r38_14, r38_17, r38_18, r38_21, r38_22, r38_25, r38_26, r38_27, r38_28, r38_29, r38_32, r38_35, r38_36, r38_39, r38_40, r38_41, r38_44, r38_47, r38_50, r38_51, r38_54, r38_57, r38_58, r38_61, r38_62, r38_63, r38_66, r38_67, r38_70, r38_71, r38_74, r38_77, r38_80, r38_83, r38_86, r38_87, r38_90, r38_91, r38_92, r38_93, r38_94, r38_95, r38_98, r38_99, r38_100, r38_101, r38_104, r38_105, r38_108, r38_109, r38_112, r38_115, r38_118, r38_121, r38_124, r38_125, r38_127, r38_128, r38_131, r38_132, r38_135, r38_138, r38_141, if_true, if_false, Nat.reduceAdd, Int32.reduceToNatClampNeg, lo_i, lo_r, lo_n, kont_v, kont_n, List.length_nil, List.length_cons, k24, s25, s26, s27, u24, u25, u27, e3, e4, e5, h1, h2, c185, c186, putv_up, upR_same, upR_upR, nt_succ]
    · simp (config := {decide := true}) only [r38_5, r38_6, r38_9, r38_12, r38_13, r38_14, r38_17, r38_18, r38_21, r38_22, r38_25, r38_26, r38_27, r38_28, r38_29, r38_32, r38_35, r38_36, r38_39, r38_40, r38_41, r38_44, r38_47, r38_50, r38_51, r38_54, r38_57, r38_58, r38_61, r38_62, r38_63, r38_66, r38_67, r38_70, r38_71, r38_74, r38_77, r38_80, r38_83, r38_86, r38_87, r38_90, r38_91, r38_92, r38_93, r38_94, r38_95, r38_98, r38_99, r38_100, r38_101, r38_104, r38_105, r38_108, r38_109, r38_112, r38_115, r38_118, r38_121, r38_124, r38_125, r38_127, r38_128, r38_131, r38_132, r38_135, r38_138, r38_141, if_true, if_false, Nat.reduceAdd, Int32.reduceToNatClampNeg, lo_i, lo_r, lo_n, kont_v, kont_n, List.length_nil, List.length_cons, k24, s25, s26, s27, u24, u25, u27, e3, e4, e5, h1, c185, c186, putv_up, upR_same, upR_upR, nt_succ]
  · intro q
    have u24 : ∀ g, upR I 26 g 24 = I 24 := fun g => upR_ne (by decide)
    have e6 : nt len ≤ nt len := Int32.le_refl _
    rw [r38_4]
    simp (config := {decide := true}) only [r38_5, r38_6, r38_9, r38_124, r38_125, r38_127, r38_128, r38_131, r38_132, r38_135, r38_138, r38_141, if_true, if_false, Nat.reduceAdd, Int32.reduceToNatClampNeg, lo_i, lo_r, lo_n, kont_v, kont_n, List.length_nil, List.length_cons, k24, s26, u24, hl, e6, c185, c316, c317, upR_same]
end Rep
