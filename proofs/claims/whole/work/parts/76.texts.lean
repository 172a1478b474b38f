/-! TEXTS: opened, closed -/
section Tx
variable {d n x N : Nat} {B : Nat → Int32} {μ : PM} {Φ : POut → PM → Prop} {I J K : Nat → Nat → Int32} {L : Nat → Nat → Int64} {v w c p s k f q m a lo hi : Int32} {g : Nat → Int32} {r i : Nat} {t : LSt}
theorem tS_up (h : r ≠ 10) : upR (tS I p s k q) r g = tS (upR I r g) p s k q := by
  unfold tS
  rw [upR_comm (fun e => h e.symm), upR_ne (fun e => h e.symm)]
theorem tS_wr (h : r ≠ 10) : wrI (tS I p s k q) r i v = tS (wrI I r i v) p s k q := by
  unfold wrI
  rw [tS_ne h]
  exact tS_up h
theorem tS_o (h3 : i ≠ 3) (h4 : i ≠ 4) (h5 : i ≠ 5) (h6 : i ≠ 6) : tS I p s k q 10 i = I 10 i := by unfold tS; rw [upR_same, up_ne h6, up_ne h5, up_ne h4, up_ne h3]
theorem tS_w1 : wrI (tS I p s k q) 10 1 v = tS (wrI I 10 1 v) p s k q := by
  unfold tS wrI
  rw [upR_same, upR_upR, upR_same, upR_upR]
  congr 1
  funext i
  unfold upd
  by_cases h1 : i = 1 <;> by_cases h3 : i = 3 <;> by_cases h4 : i = 4 <;> by_cases h5 : i = 5 <;> by_cases h6 : i = 6 <;> simp_all
theorem mS_up (h : r ≠ 70) : upR (mS I a f q) r g = mS (upR I r g) a f q := by
  unfold mS
  rw [upR_comm (fun e => h e.symm), upR_ne (fun e => h e.symm)]
theorem mS_wr (h : r ≠ 70) : wrI (mS I a f q) r i v = mS (wrI I r i v) a f q := by
  unfold wrI
  rw [mS_ne h]
  exact mS_up h
theorem mS_w (h4 : i ≠ 4) (h5 : i ≠ 5) (h6 : i ≠ 6) : wrI (mS I a f q) 70 i v = mS (wrI I 70 i v) a f q := by
  unfold mS wrI
  rw [upR_same, upR_upR, upR_same, upR_upR]
  congr 1
  funext j
  unfold upd
  by_cases h1 : j = i <;> by_cases g4 : j = 4 <;> by_cases g5 : j = 5 <;> by_cases g6 : j = 6 <;> simp_all
theorem TX_up (h : TX I N) (h1 : r ≠ 10) (h2 : r ≠ 11) : TX (upR I r g) N := by
  unfold TX
  rw [upR_ne (fun e => h1 e.symm), upR_ne (fun e => h2 e.symm)]
  exact h
theorem MX_up (h : MX I N B) (h1 : r ≠ 70) (h2 : r ≠ 71) : MX (upR I r g) N B := by
  unfold MX
  rw [upR_ne (fun e => h1 e.symm), upR_ne (fun e => h2 e.symm)]
  exact h
theorem MX_w (h : MX I N B) (h1 : i ≠ 2) : MX (wrI I 70 i v) N B := by
  unfold MX
  rw [wr_k (fun e => h1 e.symm), wrI_ne (by decide)]
  exact h
theorem CT_up (h : CT I J N t) (h1 : r ≠ 10) : CT (upR I r g) (upR J r g) N t := by
  cases t with
  | inl a =>
    obtain ⟨ha, s, q, hq, rfl⟩ := h
    exact ⟨ha, s, q, hq, tS_up h1⟩
  | inr e =>
    obtain ⟨h2, h3, a, s, ha, rfl⟩ := h
    exact ⟨h2, h3, a, s, ha, tS_up h1⟩
theorem CT_ne (h : CT I J N t) (h1 : r ≠ 10) : J r = I r := by
  cases t with
  | inl a =>
    obtain ⟨ha, s, q, hq, rfl⟩ := h
    exact tS_ne h1
  | inr e =>
    obtain ⟨h2, h3, a, s, ha, rfl⟩ := h
    exact tS_ne h1
theorem MT_up (h : MT I J N t) (h1 : r ≠ 70) : MT (upR I r g) (upR J r g) N t := by
  cases t with
  | inl a =>
    obtain ⟨ha, q, rfl⟩ := h
    exact ⟨ha, q, mS_up h1⟩
  | inr e =>
    obtain ⟨h2, h3, a, ha, rfl⟩ := h
    exact ⟨h2, h3, a, ha, mS_up h1⟩
theorem MT_w (h : MT I J N t) (h4 : i ≠ 4) (h5 : i ≠ 5) (h6 : i ≠ 6) : MT (wrI I 70 i v) (wrI J 70 i v) N t := by
  cases t with
  | inl a =>
    obtain ⟨ha, q, rfl⟩ := h
    exact ⟨ha, q, mS_w h4 h5 h6⟩
  | inr e =>
    obtain ⟨h2, h3, a, ha, rfl⟩ := h
    exact ⟨h2, h3, a, ha, mS_w h4 h5 h6⟩
theorem MT_ne (h : MT I J N t) (h1 : r ≠ 70) : J r = I r := by
  cases t with
  | inl a =>
    obtain ⟨ha, q, rfl⟩ := h
    exact mS_ne h1
  | inr e =>
    obtain ⟨h2, h3, a, ha, rfl⟩ := h
    exact mS_ne h1
theorem MT_o (h : MT I J N t) (h4 : i ≠ 4) (h5 : i ≠ 5) (h6 : i ≠ 6) : J 70 i = I 70 i := by
  cases t with
  | inl a =>
    obtain ⟨ha, q, rfl⟩ := h
    exact mS_o h4 h5 h6
  | inr e =>
    obtain ⟨h2, h3, a, ha, rfl⟩ := h
    exact mS_o h4 h5 h6
/-- what the fault is -/
def flt (t : LSt) : Nat := match t with
  | .inl _ => 0
  | .inr e => e.1
theorem c95t (h : CT I J N t) : wpc d 95 [.ref (10 : Nat)] (mk n J L x) Φ ↔ Φ (.inl (some (.int (if flt t = 0 then 0 else 1)))) (mk n J L x) := by
  cases t with
  | inl a =>
    obtain ⟨ha, s, q, hq, rfl⟩ := h
    rw [c95, bi_f (fun e => e rfl)]
    rfl
  | inr e =>
    obtain ⟨h2, h3, a, s, ha, rfl⟩ := h
    rw [c95, bi_t (kf h2 h3), if_neg (show ¬ flt (.inr e) = 0 from h2)]
theorem MT_5 (h : MT I J N t) : J 70 5 = nt (flt t) := by
  cases t with
  | inl a =>
    obtain ⟨ha, q, rfl⟩ := h
    exact mS_5
  | inr e =>
    obtain ⟨h2, h3, a, ha, rfl⟩ := h
    exact mS_5
theorem flt_lt (h : MT I J N t) : flt t < 10 := by
  cases t with
  | inl a => exact (by decide : 0 < 10)
  | inr e => exact h.2.1
theorem tS_mk : wrI (wrI (wrI (wrI I 10 3 0) 10 4 0) 10 5 0) 10 6 (-1) = tS I 0 0 0 (-1) := by
  unfold tS
  simp only [wrI, upR_same, upR_upR]
theorem c94 (h : v ≤ I 10 1) : wpc (d + 1) 94 [.ref (10 : Nat), .int v] (mk n I L x) Φ ↔ Φ (.inl none) (mk n (tS (wrI I 10 2 v) 0 0 0 (-1)) L x) := by
  have e : mni v (I 10 1) = v := if_neg (Int32.not_lt.mpr h)
  show wp (d + 1) 94 0 [.ref (10 : Nat), .int v] [] (mk n I L x) Φ ↔ _
  simp (config := {decide := true}) only [r94_0, r94_1, r94_2, r94_3, r94_6, r94_9, r94_12, r94_13, r94_14, r94_17, r94_18, r94_19, r94_22, r94_23, r94_24, r94_27, r94_28, r94_29, r94_32, if_true, if_false, Nat.reduceAdd, Int32.reduceToNatClampNeg, lo_i, lo_r, lo_n, kont_v, kont_n, List.length_nil, List.length_cons, c317, e, tS_mk]
theorem c175 (hx : x + 1 ≤ 600) : wpc (d + 2) 175 [.ref (9 : Nat), .int v, .int m] (mk n I L x) Φ ↔ if 0 ≤ v ∧ v ≤ m ∧ v ≤ I 10 1 then Φ (.inl none) (mk n (tS (wrI I 10 2 v) 0 0 0 (-1)) L x) else Φ (.inr 2) (mk n (wrI I 9 17 (I 9 17 + 1)) L (x + 1)) := by
  show wp (d + 2) 175 0 [.ref (9 : Nat), .int v, .int m] [] (mk n I L x) Φ ↔ _
  by_cases h1 : v < 0
  · rw [if_neg (fun z => Int32.not_lt.mpr z.1 h1)]
    simp (config := {decide := true}) only [r175_0, r175_1, r175_2, r175_5, r175_6, r175_7, r175_10, r175_11, r175_12, r175_15, r175_18, r175_21, r175_22, r175_25, r175_26, r175_29, r175_30, r175_33, r175_34, r175_37, if_true, if_false, Nat.reduceAdd, Int32.reduceToNatClampNeg, lo_i, lo_r, lo_n, kont_v, kont_n, List.length_nil, List.length_cons, h1, c181 hx, kx]
  · by_cases h2 : m < v
    · rw [if_neg (fun z => Int32.not_lt.mpr z.2.1 h2)]
      simp (config := {decide := true}) only [r175_0, r175_1, r175_2, r175_5, r175_6, r175_7, r175_10, r175_11, r175_12, r175_15, r175_18, r175_21, r175_22, r175_25, r175_26, r175_29, r175_30, r175_33, r175_34, r175_37, if_true, if_false, Nat.reduceAdd, Int32.reduceToNatClampNeg, lo_i, lo_r, lo_n, kont_v, kont_n, List.length_nil, List.length_cons, h1, h2, c181 hx, kx]
    · by_cases h3 : I 10 1 < v
      · rw [if_neg (fun z => Int32.not_lt.mpr z.2.2 h3)]
        simp (config := {decide := true}) only [r175_0, r175_1, r175_2, r175_5, r175_6, r175_7, r175_10, r175_11, r175_12, r175_15, r175_18, r175_21, r175_22, r175_25, r175_26, r175_29, r175_30, r175_33, r175_34, r175_37, if_true, if_false, Nat.reduceAdd, Int32.reduceToNatClampNeg, lo_i, lo_r, lo_n, kont_v, kont_n, List.length_nil, List.length_cons, h1, h2, c92, h3, c181 hx, kx]
      · rw [if_pos ⟨Int32.not_lt.mp h1, Int32.not_lt.mp h2, Int32.not_lt.mp h3⟩]
        simp (config := {decide := true}) only [r175_0, r175_1, r175_2, r175_5, r175_6, r175_7, r175_10, r175_11, r175_12, r175_15, r175_18, r175_21, r175_22, r175_25, r175_26, r175_29, r175_30, r175_33, r175_34, r175_37, if_true, if_false, Nat.reduceAdd, Int32.reduceToNatClampNeg, lo_i, lo_r, lo_n, kont_v, kont_n, List.length_nil, List.length_cons, h1, h2, c92, h3, c181 hx, c94 (Int32.not_lt.mp h3)]
theorem c93 : wpc d 93 [.ref (10 : Nat)] (mk n I L x) Φ ↔ Φ (.inl none) (mk n (wrI I 10 1 0) L x) := by
  show wp d 93 0 [.ref (10 : Nat)] [] (mk n I L x) Φ ↔ _
  simp (config := {decide := true}) only [r93_0, r93_1, r93_2, r93_5, if_true, if_false, Nat.reduceAdd, Int32.reduceToNatClampNeg, lo_i, lo_r, lo_n, kont_v, kont_n, List.length_nil, List.length_cons]
theorem c176 : wpc (d + 1) 176 [.ref (9 : Nat), .int v] (mk n (tS I p s k q) L x) Φ ↔ Φ (.inl (some (.int (if k = 0 then v else k - 10)))) (mk n (tS (wrI I 10 1 0) p s k q) L x) := by
  show wp (d + 1) 176 0 [.ref (9 : Nat), .int v] [] (mk n (tS I p s k q) L x) Φ ↔ _
  by_cases h : k = 0
  · have e : bi (k ≠ 0) = 0 := bi_f (fun z => z h)
    simp (config := {decide := true}) only [r176_0, r176_1, r176_4, r176_7, r176_8, r176_11, r176_14, r176_17, r176_18, r176_21, r176_24, r176_26, r176_27, r176_30, r176_31, if_true, if_false, Nat.reduceAdd, Int32.reduceToNatClampNeg, lo_i, lo_r, lo_n, kont_v, kont_n, List.length_nil, List.length_cons, c93, tS_w1, c95, e, h]
  · have e : ¬ bi (k ≠ 0) = 0 := by rw [bi_t h]; decide
    simp (config := {decide := true}) only [r176_0, r176_1, r176_4, r176_7, r176_8, r176_11, r176_14, r176_17, r176_18, r176_21, r176_24, r176_26, r176_27, r176_30, r176_31, if_true, if_false, Nat.reduceAdd, Int32.reduceToNatClampNeg, lo_i, lo_r, lo_n, kont_v, kont_n, List.length_nil, List.length_cons, c93, tS_w1, c95, e, h, tS_5]
/-- the reference starts to read -/
def stM (I : Nat → Nat → Int32) (v : Int32) : Nat → Nat → Int32 := wrI (wrI (wrI (wrI I 70 1 0) 70 2 v) 70 7 0) 70 8 0
theorem stM_mk : wrI (wrI (wrI (wrI (wrI (wrI (wrI I 70 1 0) 70 2 v) 70 4 0) 70 5 0) 70 6 (-1)) 70 7 0) 70 8 0 = mS (stM I v) 0 0 (-1) := by
  unfold mS stM
  simp only [wrI, upR_same, upR_upR]
  congr 1
  funext i
  unfold upd
  by_cases h8 : i = 8
  · simp_all
  by_cases h7 : i = 7
  · simp_all
  by_cases h6 : i = 6
  · simp_all
  by_cases h5 : i = 5
  · simp_all
  by_cases h4 : i = 4
  · simp_all
  · simp [h4, h5, h6, h7, h8]
theorem stM_ne (h : r ≠ 70) : stM I v r = I r := by
  unfold stM
  rw [wrI_ne h, wrI_ne h, wrI_ne h, wrI_ne h]
theorem stM_o (h1 : i ≠ 1) (h2 : i ≠ 2) (h7 : i ≠ 7) (h8 : i ≠ 8) : stM I v 70 i = I 70 i := by
  unfold stM
  rw [wr_k h8, wr_k h7, wr_k h2, wr_k h1]
theorem stM_X (hN : N ≤ 600) (h71 : ∀ i, i < N → I 71 i = B i) (hB : ∀ i, i < N → 0 ≤ B i ∧ B i < 256) : MX (stM I (nt N)) N B := by
  refine ⟨?_, hN, by rw [stM_ne (by decide)]; exact h71, hB⟩
  unfold stM
  rw [wr_k (by decide), wr_k (by decide), wr_eq]
theorem m212 (hN : N ≤ 600) (h71 : ∀ i, i < N → I 71 i = B i) (hB : ∀ i, i < N → 0 ≤ B i ∧ B i < 256) : wpc (d + 2) 212 [.ref (70 : Nat), .int (nt N)] (mk n I L x) Φ ↔ Φ (.inl none) (mk n (mS (stM I (nt N)) (nt (skp B N 0)) 0 (-1)) L x) := by
  show wp (d + 2) 212 0 [.ref (70 : Nat), .int (nt N)] [] (mk n I L x) Φ ↔ _
  have := m200 (d := d) (n := n) (L := L) (x := x) (f := 0) (q := -1) (Φ := kont (d + 1) 212 36 3 [.ref (70 : Nat), .int (nt N)] [] Φ) (stM_X (I := I) hN h71 hB) (Nat.zero_le N)
  rw [show nt 0 = (0 : Int32) from rfl] at this
  simp (config := {decide := true}) only [r212_0, r212_1, r212_2, r212_5, r212_6, r212_7, r212_10, r212_11, r212_12, r212_15, r212_16, r212_17, r212_20, r212_21, r212_22, r212_25, r212_26, r212_27, r212_30, r212_31, r212_32, r212_35, r212_36, r212_39, if_true, if_false, Nat.reduceAdd, Int32.reduceToNatClampNeg, lo_i, lo_r, lo_n, kont_v, kont_n, List.length_nil, List.length_cons, stM_mk, this]
theorem m213 : wpc d 213 [.ref (70 : Nat)] (mk n (mS I a f q) L x) Φ ↔ Φ (.inl (some (.int (f - 10)))) (mk n (mS (wrI I 70 3 q) a f q) L x) := by
  show wp d 213 0 [.ref (70 : Nat)] [] (mk n (mS I a f q) L x) Φ ↔ _
  simp (config := {decide := true}) only [r213_0, r213_1, r213_2, r213_5, r213_8, r213_9, r213_12, r213_14, r213_15, if_true, if_false, Nat.reduceAdd, Int32.reduceToNatClampNeg, lo_i, lo_r, lo_n, kont_v, kont_n, List.length_nil, List.length_cons, mS_6, mS_w (show 3 ≠ 4 by decide) (show 3 ≠ 5 by decide) (show 3 ≠ 6 by decide), mS_5]
end Tx

