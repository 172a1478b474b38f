/-! READING A TEXT: the reference -/
def mS (I : Nat → Nat → Int32) (a f q : Int32) : Nat → Nat → Int32 := upR I 70 (upd (upd (upd (I 70) 4 a) 5 f) 6 q)
/-- the text that is read -/
def MX (I : Nat → Nat → Int32) (N : Nat) (B : Nat → Int32) : Prop := I 70 2 = nt N ∧ N ≤ 600 ∧ (∀ i, i < N → I 71 i = B i) ∧ ∀ i, i < N → 0 ≤ B i ∧ B i < 256
def MT (I J : Nat → Nat → Int32) (N : Nat) (t : LSt) : Prop := match t with
  | .inl a => a ≤ N ∧ ∃ q, J = mS I (nt a) 0 q
  | .inr e => e.1 ≠ 0 ∧ e.1 < 10 ∧ ∃ a : Nat, a ≤ N ∧ J = mS I (nt a) (nt e.1) (nt e.2)
section Mt
variable {d n x N : Nat} {B : Nat → Int32} {μ : PM} {Φ : POut → PM → Prop} {I J K : Nat → Nat → Int32} {L : Nat → Nat → Int64} {v w c p s k f q a lo hi : Int32}
theorem mS_4 : mS I a f q 70 4 = a := by unfold mS; rw [upR_same, up_ne (by decide), up_ne (by decide), up_same]
theorem mS_5 : mS I a f q 70 5 = f := by unfold mS; rw [upR_same, up_ne (by decide), up_same]
theorem mS_6 : mS I a f q 70 6 = q := by unfold mS; rw [upR_same, up_same]
theorem mS_o {i : Nat} (h4 : i ≠ 4) (h5 : i ≠ 5) (h6 : i ≠ 6) : mS I a f q 70 i = I 70 i := by unfold mS; rw [upR_same, up_ne h6, up_ne h5, up_ne h4]
theorem mS_2 : mS I a f q 70 2 = I 70 2 := mS_o (by decide) (by decide) (by decide)
theorem mS_ne {r : Nat} (h : r ≠ 70) : mS I a f q r = I r := upR_ne h
theorem mS_71 : mS I a f q 71 = I 71 := upR_ne (by decide)
theorem mS_w4 : wrI (mS I a f q) 70 4 v = mS I v f q := by
  unfold mS wrI
  rw [upR_same, upR_upR]
  congr 1
  funext i
  unfold upd
  by_cases h4 : i = 4 <;> by_cases h5 : i = 5 <;> by_cases h6 : i = 6 <;> simp_all
theorem mS_w5 : wrI (mS I a f q) 70 5 v = mS I a v q := by
  unfold mS wrI
  rw [upR_same, upR_upR]
  congr 1
  funext i
  unfold upd
  by_cases h4 : i = 4 <;> by_cases h5 : i = 5 <;> by_cases h6 : i = 6 <;> simp_all
theorem mS_w6 : wrI (mS I a f q) 70 6 v = mS I a f v := by
  unfold mS wrI
  rw [upR_same, upR_upR]
  congr 1
  funext i
  unfold upd
  by_cases h4 : i = 4 <;> by_cases h5 : i = 5 <;> by_cases h6 : i = 6 <;> simp_all

theorem mtX_ok {a : Nat} (h : a ≤ N) : MT I (mS I (nt a) 0 q) N (.inl a) := ⟨h, q, rfl⟩
theorem mtX_f {a e b : Nat} (h0 : e ≠ 0) (h1 : e < 10) (h : a ≤ N) : MT I (mS I (nt a) (nt e) (nt b)) N (.inr (e, b)) := ⟨h0, h1, a, h, rfl⟩
theorem m202 : wpc d 202 [.int v] μ Φ ↔ Φ (.inl (some (.int (if isDg v = true then 1 else 0)))) μ := by
  show wp d 202 0 [.int v] [] μ Φ ↔ _
  unfold isDg
  by_cases h1 : v < 48
  · rw [if_neg (fun q => Int32.not_lt.mpr (of_decide_eq_true q).1 h1)]
    simp (config := {decide := true}) only [r202_0, r202_1, r202_3, r202_6, r202_7, r202_9, r202_12, r202_13, r202_16, r202_17, if_true, if_false, Nat.reduceAdd, Int32.reduceToNatClampNeg, lo_i, lo_r, lo_n, kont_v, kont_n, List.length_nil, List.length_cons, h1, nb_0]
  · by_cases h2 : 57 < v
    · rw [if_neg (fun q => Int32.not_lt.mpr (of_decide_eq_true q).2 h2)]
      simp (config := {decide := true}) only [r202_0, r202_1, r202_3, r202_6, r202_7, r202_9, r202_12, r202_13, r202_16, r202_17, if_true, if_false, Nat.reduceAdd, Int32.reduceToNatClampNeg, lo_i, lo_r, lo_n, kont_v, kont_n, List.length_nil, List.length_cons, h1, h2, nb_0]
    · rw [if_pos (decide_eq_true ⟨Int32.not_lt.mp h1, Int32.not_lt.mp h2⟩)]
      simp (config := {decide := true}) only [r202_0, r202_1, r202_3, r202_6, r202_7, r202_9, r202_12, r202_13, r202_16, r202_17, if_true, if_false, Nat.reduceAdd, Int32.reduceToNatClampNeg, lo_i, lo_r, lo_n, kont_v, kont_n, List.length_nil, List.length_cons, h1, h2, nb_1]
theorem m203 : wpc d 203 [.int v] μ Φ ↔ Φ (.inl (some (.int (if isLt v = true then 1 else 0)))) μ := by
  show wp d 203 0 [.int v] [] μ Φ ↔ _
  unfold isLt
  by_cases h1 : v < 97
  · rw [if_neg (fun q => Int32.not_lt.mpr (of_decide_eq_true q).1 h1)]
    simp (config := {decide := true}) only [r203_0, r203_1, r203_3, r203_6, r203_7, r203_9, r203_12, r203_13, r203_16, r203_17, if_true, if_false, Nat.reduceAdd, Int32.reduceToNatClampNeg, lo_i, lo_r, lo_n, kont_v, kont_n, List.length_nil, List.length_cons, h1, nb_0]
  · by_cases h2 : 122 < v
    · rw [if_neg (fun q => Int32.not_lt.mpr (of_decide_eq_true q).2 h2)]
      simp (config := {decide := true}) only [r203_0, r203_1, r203_3, r203_6, r203_7, r203_9, r203_12, r203_13, r203_16, r203_17, if_true, if_false, Nat.reduceAdd, Int32.reduceToNatClampNeg, lo_i, lo_r, lo_n, kont_v, kont_n, List.length_nil, List.length_cons, h1, h2, nb_0]
    · rw [if_pos (decide_eq_true ⟨Int32.not_lt.mp h1, Int32.not_lt.mp h2⟩)]
      simp (config := {decide := true}) only [r203_0, r203_1, r203_3, r203_6, r203_7, r203_9, r203_12, r203_13, r203_16, r203_17, if_true, if_false, Nat.reduceAdd, Int32.reduceToNatClampNeg, lo_i, lo_r, lo_n, kont_v, kont_n, List.length_nil, List.length_cons, h1, h2, nb_1]
theorem cur_P {P : Int32 → Bool} (hP : P (-1) = false) {B : Nat → Int32} {a : Nat} : (P (cur B N a) = true) ↔ (a < N ∧ P (B a) = true) := by
  unfold cur
  by_cases h : a < N
  · rw [if_pos h]; exact ⟨fun z => ⟨h, z⟩, fun z => z.2⟩
  · rw [if_neg h, hP]; exact ⟨fun z => absurd z (by decide), fun z => absurd z.1 h⟩
theorem m199 (hX : MX I N B) {i : Nat} (hi : i < 2000) : wpc d 199 [.ref (70 : Nat), .int (nt i)] (mk n (mS I a f q) L x) Φ ↔ Φ (.inl (some (.int (cur B N i)))) (mk n (mS I a f q) L x) := by
  obtain ⟨h2, hN, h71, -⟩ := hX
  have t2 : ∀ a f q, mS I a f q 70 2 = nt N := fun a f q => mS_2.trans h2
  show wp d 199 0 [.ref (70 : Nat), .int (nt i)] [] (mk n (mS I a f q) L x) Φ ↔ _
  unfold cur
  by_cases h : i < N
  · have e1 : nt i < nt N := by rw [nt_lt (by omega) (by omega)]; exact h
    have e2 : (nt i).toNatClampNeg = i := nt_clamp (by omega)
    have e3 : (0 : Int32) ≤ nt i := nt_ge (by omega)
    have e4 : i < 600 := by omega
    have e5 : (sh0 n 71).2.1 = 600 := eq_of_heq HEq.rfl
    have e6 : (sh0 n 71).1 = 20 := eq_of_heq HEq.rfl
    rw [if_pos h, ← h71 i h]
    simp (config := {decide := true}) only [r199_0, r199_1, r199_2, r199_5, r199_8, r199_9, r199_12, r199_13, r199_16, r199_17, r199_18, if_true, if_false, Nat.reduceAdd, Int32.reduceToNatClampNeg, lo_i, lo_r, lo_n, kont_v, kont_n, List.length_nil, List.length_cons, t2, e1, e2, e3, e4, e5, e6, mS_71]
  · have e1 : ¬ (nt i < nt N) := by rw [nt_lt (by omega) (by omega)]; exact h
    rw [if_neg h]
    simp (config := {decide := true}) only [r199_0, r199_1, r199_2, r199_5, r199_8, r199_9, r199_12, r199_13, r199_16, r199_17, r199_18, if_true, if_false, Nat.reduceAdd, Int32.reduceToNatClampNeg, lo_i, lo_r, lo_n, kont_v, kont_n, List.length_nil, List.length_cons, t2, e1]
theorem m200 (hX : MX I N B) {a : Nat} (ha : a ≤ N) : wpc (d + 1) 200 [.ref (70 : Nat)] (mk n (mS I (nt a) f q) L x) Φ ↔ Φ (.inl none) (mk n (mS I (nt (skp B N a)) f q) L x) := by
  have hN := hX.2.1
  show wp (d + 1) 200 0 [.ref (70 : Nat)] [] (mk n (mS I (nt a) f q) L x) Φ ↔ _
  revert ha
  refine end_ind (P := isBl) (B := B) (N := N) (C := fun a => a ≤ N → (wp (d + 1) 200 0 [.ref (70 : Nat)] [] (mk n (mS I (nt a) f q) L x) Φ ↔ Φ (.inl none) (mk n (mS I (nt (skp B N a)) f q) L x))) ?_ ?_ a
  · intro c hc hcN
    rw [show skp B N c = c from endF_no hc]
    have e1 : ¬ (cur B N c = 32) := fun z => hc ((cur_P (P := isBl) (by decide)).mp (decide_eq_true z))
    rw [r200_0]
    simp (config := {decide := true}) only [r200_1, r200_2, r200_5, r200_8, r200_10, r200_13, r200_14, r200_15, r200_18, r200_19, r200_20, r200_23, r200_26, if_true, if_false, Nat.reduceAdd, Int32.reduceToNatClampNeg, lo_i, lo_r, lo_n, kont_v, kont_n, List.length_nil, List.length_cons, mS_4, m199 hX (show c < 2000 by omega), e1]
  · intro c h1 hb ih hcN
    have e1 : cur B N c = 32 := of_decide_eq_true ((cur_P (P := isBl) (by decide)).mpr ⟨h1, hb⟩)
    rw [show skp B N c = skp B N (c + 1) from endF_go h1 hb]
    refine Iff.trans ?_ (ih (by omega))
    rw [r200_0]
    simp (config := {decide := true}) only [r200_1, r200_2, r200_5, r200_8, r200_10, r200_13, r200_14, r200_15, r200_18, r200_19, r200_20, r200_23, r200_26, if_true, if_false, Nat.reduceAdd, Int32.reduceToNatClampNeg, lo_i, lo_r, lo_n, kont_v, kont_n, List.length_nil, List.length_cons, mS_4, m199 hX (show c < 2000 by omega), e1, mS_w4, nt_succ]
theorem m208 (hX : MX I N B) {a : Nat} (ha : a ≤ N) : wpc (d + 1) 208 [.ref (70 : Nat)] (mk n (mS I (nt a) f q) L x) Φ ↔ Φ (.inl none) (mk n (mS I (nt (endF isLt B N a)) f q) L x) := by
  have hN := hX.2.1
  show wp (d + 1) 208 0 [.ref (70 : Nat)] [] (mk n (mS I (nt a) f q) L x) Φ ↔ _
  revert ha
  refine end_ind (P := isLt) (B := B) (N := N) (C := fun a => a ≤ N → (wp (d + 1) 208 0 [.ref (70 : Nat)] [] (mk n (mS I (nt a) f q) L x) Φ ↔ Φ (.inl none) (mk n (mS I (nt (endF isLt B N a)) f q) L x))) ?_ ?_ a
  · intro c hc hcN
    rw [endF_no hc]
    have e1 : ¬ (isLt (cur B N c) = true) := fun z => hc ((cur_P (by decide)).mp z)
    rw [r208_0]
    simp (config := {decide := true}) only [r208_1, r208_2, r208_5, r208_8, r208_11, r208_14, r208_15, r208_16, r208_19, r208_20, r208_21, r208_24, r208_27, if_true, if_false, Nat.reduceAdd, Int32.reduceToNatClampNeg, lo_i, lo_r, lo_n, kont_v, kont_n, List.length_nil, List.length_cons, mS_4, m199 hX (show c < 2000 by omega), m203, e1]
  · intro c h1 hb ih hcN
    have e1 : isLt (cur B N c) = true := (cur_P (by decide)).mpr ⟨h1, hb⟩
    rw [endF_go h1 hb]
    refine Iff.trans ?_ (ih (by omega))
    rw [r208_0]
    simp (config := {decide := true}) only [r208_1, r208_2, r208_5, r208_8, r208_11, r208_14, r208_15, r208_16, r208_19, r208_20, r208_21, r208_24, r208_27, if_true, if_false, Nat.reduceAdd, Int32.reduceToNatClampNeg, lo_i, lo_r, lo_n, kont_v, kont_n, List.length_nil, List.length_cons, mS_4, m199 hX (show c < 2000 by omega), m203, e1, mS_w4, nt_succ]
theorem m201 : wpc d 201 [.ref (70 : Nat), .int v, .int w] (mk n (mS I a f q) L x) Φ ↔ Φ (.inl none) (mk n (if f = 0 then mS I a v w else mS I a f q) L x) := by
  show wp d 201 0 [.ref (70 : Nat), .int v, .int w] [] (mk n (mS I a f q) L x) Φ ↔ _
  by_cases h : f = 0
  · rw [if_pos h]
    simp (config := {decide := true}) only [r201_0, r201_1, r201_4, r201_7, r201_8, r201_9, r201_12, r201_13, r201_14, r201_17, if_true, if_false, Nat.reduceAdd, Int32.reduceToNatClampNeg, lo_i, lo_r, lo_n, kont_v, kont_n, List.length_nil, List.length_cons, mS_5, h, mS_w5, mS_w6]
  · rw [if_neg h]
    simp (config := {decide := true}) only [r201_0, r201_1, r201_4, r201_7, r201_8, r201_9, r201_12, r201_13, r201_14, r201_17, if_true, if_false, Nat.reduceAdd, Int32.reduceToNatClampNeg, lo_i, lo_r, lo_n, kont_v, kont_n, List.length_nil, List.length_cons, mS_5, h]
theorem m210 (hX : MX I N B) (hc : c ≠ -1) {t : LSt} (hJ : MT I J N t) (h : ∀ K, MT I K N (lSig B N c t) → Φ (.inl none) (mk n K L x)) : wpc (d + 2) 210 [.ref (70 : Nat), .int c] (mk n J L x) Φ := by
  have hN := hX.2.1
  cases t with
  | inl a =>
    obtain ⟨ha, q, rfl⟩ := hJ
    have hle : skp B N a ≤ N := endF_le ha
    show wp (d + 2) 210 0 [.ref (70 : Nat), .int c] [] (mk n (mS I (nt a) 0 q) L x) Φ
    simp only [lSig] at h
    by_cases h1 : cur B N (skp B N a) = c
    · rw [if_pos h1] at h
      have hlt : skp B N a < N := by
        by_cases hh : skp B N a < N
        · exact hh
        · unfold cur at h1; rw [if_neg hh] at h1; exact absurd h1.symm hc
      simp (config := {decide := true}) only [r210_0, r210_1, r210_4, r210_7, r210_8, r210_9, r210_12, r210_13, r210_14, r210_17, r210_20, r210_21, r210_24, r210_25, r210_26, r210_29, r210_30, r210_31, r210_34, r210_37, r210_38, r210_39, r210_40, r210_43, r210_46, if_true, if_false, Nat.reduceAdd, Int32.reduceToNatClampNeg, lo_i, lo_r, lo_n, kont_v, kont_n, List.length_nil, List.length_cons, mS_5, m200 hX ha, mS_4, m199 hX (show skp B N a < 2000 by omega), h1, nt_succ, mS_w4]
      exact h _ (mtX_ok hlt)
    · rw [if_neg h1] at h
      simp (config := {decide := true}) only [r210_0, r210_1, r210_4, r210_7, r210_8, r210_9, r210_12, r210_13, r210_14, r210_17, r210_20, r210_21, r210_24, r210_25, r210_26, r210_29, r210_30, r210_31, r210_34, r210_37, r210_38, r210_39, r210_40, r210_43, r210_46, if_true, if_false, Nat.reduceAdd, Int32.reduceToNatClampNeg, lo_i, lo_r, lo_n, kont_v, kont_n, List.length_nil, List.length_cons, mS_5, m200 hX ha, mS_4, m199 hX (show skp B N a < 2000 by omega), h1, m201]
      exact h _ (mtX_f (by decide) (by decide) hle)
  | inr e =>
    obtain ⟨h0, h1, a, ha, rfl⟩ := hJ
    have hk := kf h0 h1
    show wp (d + 2) 210 0 [.ref (70 : Nat), .int c] [] (mk n (mS I (nt a) (nt e.1) (nt e.2)) L x) Φ
    simp (config := {decide := true}) only [r210_0, r210_1, r210_4, r210_7, r210_8, r210_9, r210_12, r210_13, r210_14, r210_17, r210_20, r210_21, r210_24, r210_25, r210_26, r210_29, r210_30, r210_31, r210_34, r210_37, r210_38, r210_39, r210_40, r210_43, r210_46, if_true, if_false, Nat.reduceAdd, Int32.reduceToNatClampNeg, lo_i, lo_r, lo_n, kont_v, kont_n, List.length_nil, List.length_cons, mS_5, hk]
    exact h _ (mtX_f h0 h1 ha)
theorem m211 (hX : MX I N B) (hc : c ≠ -1) {t : LSt} (hJ : MT I J N t) (hok : ∀ a, t = .inl a → cur B N (skp B N a) = c → ∀ K, MT I K N (.inl (skp B N a + 1)) → Φ (.inl (some (.int 1))) (mk n K L x)) (hno : ∀ a, t = .inl a → cur B N (skp B N a) ≠ c → ∀ K, MT I K N (.inl (skp B N a)) → Φ (.inl (some (.int 0))) (mk n K L x)) (hf : ∀ e, t = .inr e → ∀ K, MT I K N (.inr e) → Φ (.inl (some (.int 0))) (mk n K L x)) : wpc (d + 2) 211 [.ref (70 : Nat), .int c] (mk n J L x) Φ := by
  have hN := hX.2.1
  cases t with
  | inl a =>
    obtain ⟨ha, q, rfl⟩ := hJ
    have hle : skp B N a ≤ N := endF_le ha
    show wp (d + 2) 211 0 [.ref (70 : Nat), .int c, noV] [] (mk n (mS I (nt a) 0 q) L x) Φ
    by_cases h1 : cur B N (skp B N a) = c
    · have hlt : skp B N a < N := by
        by_cases hh : skp B N a < N
        · exact hh
        · unfold cur at h1; rw [if_neg hh] at h1; exact absurd h1.symm hc
      simp (config := {decide := true}) only [r211_0, r211_1, r211_4, r211_7, r211_8, r211_9, r211_10, r211_13, r211_14, r211_15, r211_18, r211_21, r211_22, r211_25, r211_26, r211_29, r211_30, r211_31, r211_32, r211_35, r211_36, r211_37, r211_40, r211_41, r211_42, r211_45, r211_46, if_true, if_false, Nat.reduceAdd, Int32.reduceToNatClampNeg, lo_i, lo_r, lo_n, kont_v, kont_n, List.length_nil, List.length_cons, mS_5, m200 hX ha, mS_4, m199 hX (show skp B N a < 2000 by omega), h1, nt_succ, mS_w4, nb_1]
      exact hok a rfl h1 _ (mtX_ok hlt)
    · simp (config := {decide := true}) only [r211_0, r211_1, r211_4, r211_7, r211_8, r211_9, r211_10, r211_13, r211_14, r211_15, r211_18, r211_21, r211_22, r211_25, r211_26, r211_29, r211_30, r211_31, r211_32, r211_35, r211_36, r211_37, r211_40, r211_41, r211_42, r211_45, r211_46, if_true, if_false, Nat.reduceAdd, Int32.reduceToNatClampNeg, lo_i, lo_r, lo_n, kont_v, kont_n, List.length_nil, List.length_cons, mS_5, m200 hX ha, mS_4, m199 hX (show skp B N a < 2000 by omega), h1, nb_0]
      exact hno a rfl h1 _ (mtX_ok hle)
  | inr e =>
    obtain ⟨h0, h1, a, ha, rfl⟩ := hJ
    have hk := kf h0 h1
    show wp (d + 2) 211 0 [.ref (70 : Nat), .int c, noV] [] (mk n (mS I (nt a) (nt e.1) (nt e.2)) L x) Φ
    simp (config := {decide := true}) only [r211_0, r211_1, r211_4, r211_7, r211_8, r211_9, r211_10, r211_13, r211_14, r211_15, r211_18, r211_21, r211_22, r211_25, r211_26, r211_29, r211_30, r211_31, r211_32, r211_35, r211_36, r211_37, r211_40, r211_41, r211_42, r211_45, r211_46, if_true, if_false, Nat.reduceAdd, Int32.reduceToNatClampNeg, lo_i, lo_r, lo_n, kont_v, kont_n, List.length_nil, List.length_cons, mS_5, hk, nb_0]
    exact hf e rfl _ (mtX_f h0 h1 ha)
theorem m204 (hX : MX I N B) {t : LSt} (hJ : MT I J N t) (hh : hi ≤ 999) (hok : ∀ a, t = .inl a → ∀ V b, rNum B N lo hi a = .inl (V, b) → ∀ K, MT I K N (.inl b) → Φ (.inl (some (.int (nt V)))) (mk n K L x)) (hbad : ∀ a, t = .inl a → ∀ e, rNum B N lo hi a = .inr e → ∀ K, MT I K N (.inr e) → Φ (.inl (some (.int 0))) (mk n K L x)) (hf : ∀ e, t = .inr e → ∀ K, MT I K N (.inr e) → Φ (.inl (some (.int 0))) (mk n K L x)) : wpc (d + 2) 204 [.ref (70 : Nat), .int lo, .int hi] (mk n J L x) Φ := by
  have hN := hX.2.1
  cases t with
  | inr e =>
    obtain ⟨h0, h1, a, ha, rfl⟩ := hJ
    have hk := kf h0 h1
    show wp (d + 2) 204 0 [.ref (70 : Nat), .int lo, .int hi, noV, noV] [] (mk n (mS I (nt a) (nt e.1) (nt e.2)) L x) Φ
    simp (config := {decide := true}) only [r204_0, r204_1, r204_4, r204_7, r204_8, if_true, if_false, Nat.reduceAdd, Int32.reduceToNatClampNeg, lo_i, lo_r, lo_n, kont_v, kont_n, List.length_nil, List.length_cons, mS_5, hk]
    exact hf e rfl _ (mtX_f h0 h1 ha)
  | inl a =>
    obtain ⟨ha, q, rfl⟩ := hJ
    replace hok := hok a rfl
    replace hbad := hbad a rfl
    have hle : skp B N a ≤ N := endF_le ha
    show wp (d + 2) 204 0 [.ref (70 : Nat), .int lo, .int hi, noV, noV] [] (mk n (mS I (nt a) 0 q) L x) Φ
    unfold rNum at hok hbad
    simp (config := {decide := true}) only [r204_0, r204_1, r204_4, r204_7, r204_8, r204_9, r204_10, r204_13, r204_14, r204_17, r204_18, r204_19, r204_21, r204_22, r204_23, r204_26, r204_29, if_true, if_false, Nat.reduceAdd, Int32.reduceToNatClampNeg, lo_i, lo_r, lo_n, kont_v, kont_n, List.length_nil, List.length_cons, mS_5, m200 hX ha, mS_4, m199 hX (show skp B N a < 2000 by omega), m202]
    generalize skp B N a = b at hle hok hbad ⊢
    by_cases hd : isDg (cur B N b) = true
    · rw [if_pos hd] at hok hbad
      simp (config := {decide := true}) only [r204_32, if_true, if_false, Nat.reduceAdd, Int32.reduceToNatClampNeg, lo_i, lo_r, lo_n, kont_v, kont_n, List.length_nil, List.length_cons, hd]
      have key : ∀ c, b ≤ c → c ≤ N → wp (d + 2) 204 106 [.ref (70 : Nat), .int lo, .int hi, .int (nt b), .int (nt (min 100000 (dgN B N b)))] [] (mk n (mS I (nt (endF isDg B N b)) 0 q) L x) Φ → endF isDg B N c = endF isDg B N b → wp (d + 2) 204 44 [.ref (70 : Nat), .int lo, .int hi, .int (nt b), .int (nt (min 100000 (dgV B b (c - b))))] [] (mk n (mS I (nt c) 0 q) L x) Φ := by
        refine end_ind (P := isDg) (B := B) (N := N) ?_ ?_
        · intro c hc hbc hcN hw he
          rw [endF_no hc] at he
          have e3 : ¬ isDg (cur B N c) = true := fun z => hc ((cur_P (by decide)).mp z)
          rw [r204_44]
          simp (config := {decide := true}) only [r204_45, r204_46, r204_49, r204_52, r204_55, if_true, if_false, Nat.reduceAdd, Int32.reduceToNatClampNeg, lo_i, lo_r, lo_n, kont_v, kont_n, List.length_nil, List.length_cons, mS_4, m199 hX (show c < 2000 by omega), m202, e3]
          unfold dgN at hw
          rw [← he] at hw
          exact hw
        · intro c h1 hdc ih hbc hcN hw he
          have e3 : isDg (cur B N c) = true := (cur_P (by decide)).mpr ⟨h1, hdc⟩
          have e4 : cur B N c = B c := if_pos h1
          have e5 := num_step (M := 100000) (V := dgV B b (c - b)) (by decide) hdc (by decide)
          have e6 : mni 100000 (10 * nt (min 100000 (dgV B b (c - b))) + B c - 48) = nt (min 100000 (dgV B b (c + 1 - b))) := by
            rw [show c + 1 - b = (c - b) + 1 by omega, Int32.mul_comm]
            show _ = nt (min 100000 (dgF B (b + (c - b)) (dgV B b (c - b))))
            rw [show b + (c - b) = c by omega]
            exact e5
          have hgo := ih (by omega) (by omega) hw (by rw [← endF_go h1 hdc]; exact he)
          rw [← e6] at hgo
          unfold mni at hgo
          rw [r204_44]
          by_cases hm : 10 * nt (min 100000 (dgV B b (c - b))) + B c - 48 ≤ 100000
          · have hv : (if 10 * nt (min 100000 (dgV B b (c - b))) + B c - 48 < 100000 then 10 * nt (min 100000 (dgV B b (c - b))) + B c - 48 else 100000) = 10 * nt (min 100000 (dgV B b (c - b))) + B c - 48 := by
              split
              · rfl
              · rename_i h; exact Int32.le_antisymm (Int32.not_lt.mp h) hm
            rw [hv] at hgo
            simp (config := {decide := true}) only [r204_45, r204_46, r204_49, r204_52, r204_55, r204_58, r204_60, r204_62, r204_63, r204_64, r204_65, r204_68, r204_71, r204_72, r204_74, r204_75, r204_77, r204_79, r204_81, r204_84, r204_86, r204_89, r204_91, r204_93, r204_94, r204_95, r204_98, r204_99, r204_100, r204_103, if_true, if_false, Nat.reduceAdd, Int32.reduceToNatClampNeg, lo_i, lo_r, lo_n, kont_v, kont_n, List.length_nil, List.length_cons, mS_4, m199 hX (show c < 2000 by omega), m202, e4, hdc, hm, mS_w4, nt_succ]
            exact hgo
          · rw [if_neg (fun z => hm (Int32.le_of_lt z))] at hgo
            simp (config := {decide := true}) only [r204_45, r204_46, r204_49, r204_52, r204_55, r204_58, r204_60, r204_62, r204_63, r204_64, r204_65, r204_68, r204_71, r204_72, r204_74, r204_75, r204_77, r204_79, r204_81, r204_84, r204_86, r204_89, r204_91, r204_93, r204_94, r204_95, r204_98, r204_99, r204_100, r204_103, if_true, if_false, Nat.reduceAdd, Int32.reduceToNatClampNeg, lo_i, lo_r, lo_n, kont_v, kont_n, List.length_nil, List.length_cons, mS_4, m199 hX (show c < 2000 by omega), m202, e4, hdc, hm, mS_w4, nt_succ]
            exact hgo
      have hfin : wp (d + 2) 204 106 [.ref (70 : Nat), .int lo, .int hi, .int (nt b), .int (nt (min 100000 (dgN B N b)))] [] (mk n (mS I (nt (endF isDg B N b)) 0 q) L x) Φ := by
        have heN : endF isDg B N b ≤ N := endF_le hle
        generalize dgN B N b = V at hok hbad
        generalize endF isDg B N b = e at hok hbad heN
        by_cases hr : V < 1000 ∧ lo ≤ nt V ∧ nt V ≤ hi
        · rw [if_pos hr] at hok
          have e1 : min 100000 V = V := Nat.min_eq_right (by omega)
          have e2 : lo ≤ nt V ∧ nt V ≤ hi := hr.2
          rw [e1]
          simp (config := {decide := true}) only [r204_106, r204_108, r204_109, r204_110, r204_113, r204_116, r204_117, r204_118, r204_119, r204_122, r204_123, r204_126, r204_129, r204_131, r204_134, r204_135, if_true, if_false, Nat.reduceAdd, Int32.reduceToNatClampNeg, lo_i, lo_r, lo_n, kont_v, kont_n, List.length_nil, List.length_cons, and_self, and_true, true_and, and_false, false_and, not_true, not_false_eq_true, true_or, or_true, bi_eq0, m194, e2, mS_5]
          exact hok V e rfl _ (mtX_ok heN)
        · rw [if_neg hr] at hbad
          have e2 : ¬ (lo ≤ nt (min 100000 V) ∧ nt (min 100000 V) ≤ hi) := by
            intro z
            have z2 := Int32.le_trans z.2 hh
            rw [show (999 : Int32) = nt 999 from rfl, nt_le (by omega) (by decide)] at z2
            have e1 : min 100000 V = V := Nat.min_eq_right (by omega)
            rw [e1] at z z2
            exact hr ⟨by omega, z⟩
          simp (config := {decide := true}) only [r204_106, r204_108, r204_109, r204_110, r204_113, r204_116, r204_117, r204_118, r204_119, r204_122, r204_123, r204_126, r204_129, r204_131, r204_134, r204_135, if_true, if_false, Nat.reduceAdd, Int32.reduceToNatClampNeg, lo_i, lo_r, lo_n, kont_v, kont_n, List.length_nil, List.length_cons, and_self, and_true, true_and, and_false, false_and, not_true, not_false_eq_true, true_or, or_true, bi_eq0, m194, e2, m201, mS_5]
          exact hbad _ rfl _ (mtX_f (by decide) (by decide) heN)
      have := key b (Nat.le_refl b) hle hfin rfl
      rw [Nat.sub_self] at this
      exact this
    · rw [if_neg hd] at hbad
      have e1 : ∀ p : Prop, [Decidable p] → ((if p then mS I (nt b) 1 (nt b) else mS I (nt b) 1 (nt b)) = mS I (nt b) 1 (nt b)) := fun p _ => by split <;> rfl
      by_cases hr : lo ≤ (0 : Int32) ∧ (0 : Int32) ≤ hi
      · simp (config := {decide := true}) only [r204_32, r204_35, r204_36, r204_37, r204_38, r204_41, r204_44, r204_45, r204_46, r204_49, r204_52, r204_55, r204_58, r204_60, r204_62, r204_63, r204_64, r204_65, r204_68, r204_71, r204_72, r204_74, r204_75, r204_77, r204_79, r204_81, r204_84, r204_86, r204_89, r204_91, r204_93, r204_94, r204_95, r204_98, r204_99, r204_100, r204_103, r204_106, r204_108, r204_109, r204_110, r204_113, r204_116, r204_117, r204_118, r204_119, r204_122, r204_123, r204_126, r204_129, r204_131, r204_134, r204_135, if_true, if_false, Nat.reduceAdd, Int32.reduceToNatClampNeg, lo_i, lo_r, lo_n, kont_v, kont_n, List.length_nil, List.length_cons, and_self, and_true, true_and, and_false, false_and, not_true, not_false_eq_true, true_or, or_true, bi_eq0, hd, m201, mS_4, m199 hX (show b < 2000 by omega), m202, m194, hr, mS_5]
        exact hbad _ rfl _ (mtX_f (by decide) (by decide) hle)
      · simp (config := {decide := true}) only [r204_32, r204_35, r204_36, r204_37, r204_38, r204_41, r204_44, r204_45, r204_46, r204_49, r204_52, r204_55, r204_58, r204_60, r204_62, r204_63, r204_64, r204_65, r204_68, r204_71, r204_72, r204_74, r204_75, r204_77, r204_79, r204_81, r204_84, r204_86, r204_89, r204_91, r204_93, r204_94, r204_95, r204_98, r204_99, r204_100, r204_103, r204_106, r204_108, r204_109, r204_110, r204_113, r204_116, r204_117, r204_118, r204_119, r204_122, r204_123, r204_126, r204_129, r204_131, r204_134, r204_135, if_true, if_false, Nat.reduceAdd, Int32.reduceToNatClampNeg, lo_i, lo_r, lo_n, kont_v, kont_n, List.length_nil, List.length_cons, and_self, and_true, true_and, and_false, false_and, not_true, not_false_eq_true, true_or, or_true, bi_eq0, hd, m201, mS_4, m199 hX (show b < 2000 by omega), m202, m194, hr, mS_5]
        exact hbad _ rfl _ (mtX_f (by decide) (by decide) hle)
theorem m204a (hX : MX I N B) {a : Nat} (hJ : MT I J N (.inl a)) (hh : hi ≤ 999) (hok : ∀ V b, rNum B N lo hi a = .inl (V, b) → ∀ K, MT I K N (.inl b) → Φ (.inl (some (.int (nt V)))) (mk n K L x)) (hbad : ∀ e, rNum B N lo hi a = .inr e → ∀ K, MT I K N (.inr e) → Φ (.inl (some (.int 0))) (mk n K L x)) : wpc (d + 2) 204 [.ref (70 : Nat), .int lo, .int hi] (mk n J L x) Φ := m204 hX hJ hh (fun a' h => by cases h; exact hok) (fun a' h => by cases h; exact hbad) (fun e h => by cases h)
theorem m204f (hX : MX I N B) {e : Nat × Nat} (hJ : MT I J N (.inr e)) (hh : hi ≤ 999) (h : ∀ K, MT I K N (.inr e) → Φ (.inl (some (.int 0))) (mk n K L x)) : wpc (d + 2) 204 [.ref (70 : Nat), .int lo, .int hi] (mk n J L x) Φ := m204 hX hJ hh (fun a' h => by cases h) (fun a' h => by cases h) (fun e' he => by cases he; exact h)
theorem m201f {e : Nat × Nat} (hJ : MT I J N (.inr e)) : wpc d 201 [.ref (70 : Nat), .int v, .int w] (mk n J L x) Φ ↔ Φ (.inl none) (mk n J L x) := by
  obtain ⟨h0, h1, a, ha, rfl⟩ := hJ
  rw [m201, if_neg (kf h0 h1)]
end Mt

