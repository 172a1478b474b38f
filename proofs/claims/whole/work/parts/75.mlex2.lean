/-! READING A TEXT: the words of the reference -/
def cdf (B : Nat → Int32) (p : Nat) : Nat → Nat
  | 0 => 0
  | m + 1 => 27 * cdf B p m + ((B (p + m)).toNatClampNeg - 96)
def cu (u : List Nat) : Nat → Nat
  | 0 => 0
  | m + 1 => 27 * cu u m + (u.getD m 0 - 96)
theorem lt_small {B : Nat → Int32} {k : Nat} (h : isLt (B k) = true) : ∃ m, m < 26 ∧ B k = nt (97 + m) := by
  obtain ⟨h1, h2⟩ := of_decide_eq_true h
  obtain ⟨e, hl⟩ := int_nt (Int32.le_trans (by decide) h1)
  rw [e, show (97 : Int32) = nt 97 from rfl, nt_le (by decide) hl] at h1
  rw [e, show (122 : Int32) = nt 122 from rfl, nt_le hl (by decide)] at h2
  exact ⟨(B k).toNatClampNeg - 97, by omega, by rw [show 97 + ((B k).toNatClampNeg - 97) = (B k).toNatClampNeg by omega]; exact e⟩
theorem cd_step {B : Nat → Int32} {k C : Nat} (h : isLt (B k) = true) : 27 * nt C + B k - 97 + 1 = nt (27 * C + ((B k).toNatClampNeg - 96)) := by
  obtain ⟨m, h1, h2⟩ := lt_small h
  rw [h2, nt_clamp (by omega), show 27 * nt C = nt (27 * C) from (Int32.ofNat_mul 27 C).symm, nt_add, show (97 : Int32) = nt 97 from rfl, nt_sub (by omega), nt_succ]
  congr 1
  omega
theorem cdf_bd {B : Nat → Int32} {p : Nat} : ∀ m, (∀ i, i < m → isLt (B (p + i)) = true) → cdf B p m < 27 ^ m
  | 0, _ => Nat.one_pos
  | m + 1, h => by
    have ih := cdf_bd m (fun i hi => h i (by omega))
    obtain ⟨k, h1, h2⟩ := lt_small (h m (by omega))
    unfold cdf
    rw [h2, nt_clamp (by omega), Nat.pow_succ]
    omega
theorem cu_bd {u : List Nat} : ∀ m, (∀ i, i < m → 97 ≤ u.getD i 0 ∧ u.getD i 0 ≤ 122) → cu u m < 27 ^ m
  | 0, _ => Nat.one_pos
  | m + 1, h => by
    have ih := cu_bd m (fun i hi => h i (by omega))
    have := h m (by omega)
    unfold cu
    rw [Nat.pow_succ]
    omega
theorem cd_inj {B : Nat → Int32} {p : Nat} {u : List Nat} : ∀ m k, (∀ i, i < m → isLt (B (p + i)) = true) → (∀ i, i < k → 97 ≤ u.getD i 0 ∧ u.getD i 0 ≤ 122) → cdf B p m = cu u k → m = k ∧ ∀ i, i < m → B (p + i) = nt (u.getD i 0)
  | 0, 0, _, _, _ => ⟨rfl, fun i hi => absurd hi (by omega)⟩
  | 0, k + 1, _, h2, h => by
    have := h2 k (by omega)
    unfold cdf cu at h
    omega
  | m + 1, 0, h1, _, h => by
    obtain ⟨j, h3, h4⟩ := lt_small (h1 m (by omega))
    unfold cdf cu at h
    rw [h4, nt_clamp (by omega)] at h
    omega
  | m + 1, k + 1, h1, h2, h => by
    obtain ⟨j, h3, h4⟩ := lt_small (h1 m (by omega))
    have h5 := h2 k (by omega)
    unfold cdf cu at h
    rw [h4, nt_clamp (by omega)] at h
    obtain ⟨e1, e2⟩ := cd_inj m k (fun i hi => h1 i (by omega)) (fun i hi => h2 i (by omega)) (by omega)
    subst e1
    refine ⟨rfl, fun i hi => ?_⟩
    by_cases him : i = m
    · subst him
      rw [h4]
      congr 1
      omega
    · exact e2 i (by omega)
theorem cd_eq {B : Nat → Int32} {p : Nat} {u : List Nat} : ∀ m, (∀ i, i < m → u.getD i 0 < 1000) → (∀ i, i < m → B (p + i) = nt (u.getD i 0)) → cdf B p m = cu u m
  | 0, _, _ => rfl
  | m + 1, h0, h => by
    have hb := h0 m (by omega)
    unfold cdf cu
    rw [cd_eq m (fun i hi => h0 i (by omega)) (fun i hi => h i (by omega)), h m (by omega), nt_clamp (by omega)]
/-- small letters -/
def ltr (u : List Nat) : Prop := ∀ i, i < u.length → 97 ≤ u.getD i 0 ∧ u.getD i 0 ≤ 122
section Mw
variable {d n x N : Nat} {B : Nat → Int32} {μ : PM} {Φ : POut → PM → Prop} {I J K : Nat → Nat → Int32} {L : Nat → Nat → Int64} {v w c p s k f q lo hi a1 a2 a3 a4 a5 a6 : Int32} {u : List Nat} {a b : Nat}
theorem wdIs_iff : wdIs B N b u = true ↔ endF isLt B N b - b = u.length ∧ ∀ i, i < u.length → B (b + i) = nt (u.getD i 0) := by
  unfold wdIs
  rw [Bool.and_eq_true, decide_eq_true_iff, List.all_eq_true]
  exact and_congr Iff.rfl ⟨fun h i hi => of_decide_eq_true (h i (List.mem_range.mpr hi)), fun h i hi => decide_eq_true (h i (List.mem_range.mp hi))⟩
theorem run_in (i : Nat) (hi : i < endF isLt B N b - b) : b + i < N ∧ isLt (B (b + i)) = true := endF_in b (b + i) (by omega) (by omega)
theorem isw_iff (hl : ltr u) : wdIs B N b u = true ↔ cdf B b (endF isLt B N b - b) = cu u u.length := by
  rw [wdIs_iff]
  constructor
  · rintro ⟨h1, h2⟩
    rw [h1]
    exact cd_eq _ (fun i hi => by have := hl i hi; omega) h2
  · intro h
    obtain ⟨e1, e2⟩ := cd_inj _ _ (fun i hi => (run_in i hi).2) hl h
    exact ⟨e1, fun i hi => e2 i (by omega)⟩
def sixv (a b c d e f : Int32) : Int32 :=
  let s3 := 27 * (27 * a + b) + c
  let s4 := if d = 0 then s3 else 27 * s3 + d
  let s5 := if e = 0 then s4 else 27 * s4 + e
  if f = 0 then s5 else 27 * s5 + f
theorem m206 : wpc d 206 [.int a1, .int a2, .int a3, .int a4, .int a5, .int a6] μ Φ ↔ Φ (.inl (some (.int (sixv a1 a2 a3 a4 a5 a6)))) μ := by
  show wp d 206 0 [.int a1, .int a2, .int a3, .int a4, .int a5, .int a6, noV] [] μ Φ ↔ _
  unfold sixv
  by_cases h4 : a4 = 0 <;> by_cases h5 : a5 = 0 <;> by_cases h6 : a6 = 0 <;> simp (config := {decide := true}) only [r206_0, r206_2, r206_4, r206_5, r206_6, r206_7, r206_8, r206_9, r206_10, r206_11, r206_13, r206_14, r206_17, r206_19, r206_22, r206_24, r206_26, r206_27, r206_28, r206_29, r206_31, r206_33, r206_36, r206_38, r206_41, r206_43, r206_45, r206_46, r206_48, r206_49, r206_51, r206_53, r206_56, r206_58, r206_61, r206_63, r206_65, r206_66, r206_68, r206_69, if_true, if_false, Nat.reduceAdd, Int32.reduceToNatClampNeg, lo_i, lo_r, lo_n, kont_v, kont_n, List.length_nil, List.length_cons, h4, h5, h6]
theorem skp_skp : skp B N (skp B N a) = skp B N a := endF_no (endF_at a)
theorem m205 (hX : MX I N B) (ha : a ≤ N) : wpc (d + 2) 205 [.ref (70 : Nat)] (mk n (mS I (nt a) f q) L x) Φ ↔ Φ (.inl (some (.int (if 6 < endF isLt B N (skp B N a) - skp B N a then -1 else nt (cdf B (skp B N a) (endF isLt B N (skp B N a) - skp B N a)))))) (mk n (mS I (nt (skp B N a)) f q) L x) := by
  have hN := hX.2.1
  have hle : skp B N a ≤ N := endF_le ha
  show wp (d + 2) 205 0 [.ref (70 : Nat), noV, noV] [] (mk n (mS I (nt a) f q) L x) Φ ↔ _
  simp (config := {decide := true}) only [r205_0, r205_1, r205_4, r205_5, r205_6, r205_7, if_true, if_false, Nat.reduceAdd, Int32.reduceToNatClampNeg, lo_i, lo_r, lo_n, kont_v, kont_n, List.length_nil, List.length_cons, m200 hX ha]
  generalize skp B N a = b at hle ⊢
  have key : ∀ c, b ≤ c → c ≤ N → endF isLt B N c = endF isLt B N b → (wp (d + 2) 205 8 [.ref (70 : Nat), .int (nt (cdf B b (min (c - b) 6))), .int (nt (c - b))] [] (mk n (mS I (nt b) f q) L x) Φ ↔ wp (d + 2) 205 61 [.ref (70 : Nat), .int (nt (cdf B b (min (endF isLt B N b - b) 6))), .int (nt (endF isLt B N b - b))] [] (mk n (mS I (nt b) f q) L x) Φ) := by
    refine end_ind (P := isLt) (B := B) (N := N) ?_ ?_
    · intro c hc hbc hcN he
      rw [endF_no hc] at he
      rw [← he]
      have e0 : nt b + nt (c - b) = nt c := by rw [nt_add]; congr 1; omega
      have e3 : ¬ isLt (cur B N c) = true := fun z => hc ((cur_P (by decide)).mp z)
      rw [r205_8]
      simp (config := {decide := true}) only [r205_9, r205_10, r205_13, r205_14, r205_15, r205_18, r205_21, r205_24, r205_25, r205_27, r205_30, r205_32, r205_33, r205_34, r205_35, r205_36, r205_39, r205_40, r205_41, r205_44, r205_45, r205_47, r205_48, r205_49, r205_50, r205_53, r205_54, r205_55, r205_58, if_true, if_false, Nat.reduceAdd, Int32.reduceToNatClampNeg, lo_i, lo_r, lo_n, kont_v, kont_n, List.length_nil, List.length_cons, mS_4, e0, m199 hX (show c < 2000 by omega), m203, e3]
    · intro c h1 hdc ih hbc hcN he
      have e0 : nt b + nt (c - b) = nt c := by rw [nt_add]; congr 1; omega
      have e4 : cur B N c = B c := if_pos h1
      have e7 : nt (c - b) + 1 = nt (c + 1 - b) := by rw [nt_succ]; congr 1; omega
      refine Iff.trans ?_ (ih (by omega) (by omega) (by rw [← endF_go h1 hdc]; exact he))
      rw [r205_8]
      by_cases h6 : c - b < 6
      · have e5 : ¬ (6 ≤ nt (c - b)) := nt_nle (m := 6) h6 (by decide)
        have e6 : 27 * nt (cdf B b (min (c - b) 6)) + B c - 97 + 1 = nt (cdf B b (min (c + 1 - b) 6)) := by
          rw [cd_step hdc, Nat.min_eq_left (by omega), Nat.min_eq_left (by omega), show c + 1 - b = (c - b) + 1 by omega]
          show _ = nt (27 * cdf B b (c - b) + ((B (b + (c - b))).toNatClampNeg - 96))
          rw [show b + (c - b) = c by omega]
        simp (config := {decide := true}) only [r205_9, r205_10, r205_13, r205_14, r205_15, r205_18, r205_21, r205_24, r205_25, r205_27, r205_30, r205_32, r205_33, r205_34, r205_35, r205_36, r205_39, r205_40, r205_41, r205_44, r205_45, r205_47, r205_48, r205_49, r205_50, r205_53, r205_54, r205_55, r205_58, if_true, if_false, Nat.reduceAdd, Int32.reduceToNatClampNeg, lo_i, lo_r, lo_n, kont_v, kont_n, List.length_nil, List.length_cons, mS_4, e0, m199 hX (show c < 2000 by omega), m203, e4, hdc, e5, e6, e7]
      · have e5 : (6 : Int32) ≤ nt (c - b) := by rw [show (6 : Int32) = nt 6 from rfl, nt_le (by decide) (by omega)]; omega
        have e6 : cdf B b (min (c - b) 6) = cdf B b (min (c + 1 - b) 6) := by rw [Nat.min_eq_right (by omega), Nat.min_eq_right (by omega)]
        rw [e6]
        simp (config := {decide := true}) only [r205_9, r205_10, r205_13, r205_14, r205_15, r205_18, r205_21, r205_24, r205_25, r205_27, r205_30, r205_32, r205_33, r205_34, r205_35, r205_36, r205_39, r205_40, r205_41, r205_44, r205_45, r205_47, r205_48, r205_49, r205_50, r205_53, r205_54, r205_55, r205_58, if_true, if_false, Nat.reduceAdd, Int32.reduceToNatClampNeg, lo_i, lo_r, lo_n, kont_v, kont_n, List.length_nil, List.length_cons, mS_4, e0, m199 hX (show c < 2000 by omega), m203, e4, hdc, e5, e7]
  have k0 := key b (Nat.le_refl b) hle rfl
  rw [Nat.sub_self] at k0
  refine Iff.trans k0 ?_
  have heN : endF isLt B N b ≤ N := endF_le hle
  have hmN : endF isLt B N b - b ≤ 600 := by omega
  generalize endF isLt B N b - b = m at *
  by_cases h6 : 6 < m
  · have e5 : ¬ (nt m ≤ 6) := nt_nle (j := 6) h6 (by omega)
    rw [if_pos h6]
    simp (config := {decide := true}) only [r205_61, r205_62, r205_64, r205_67, r205_68, r205_71, r205_72, if_true, if_false, Nat.reduceAdd, Int32.reduceToNatClampNeg, lo_i, lo_r, lo_n, kont_v, kont_n, List.length_nil, List.length_cons, e5]
  · have e5 : nt m ≤ 6 := by rw [show (6 : Int32) = nt 6 from rfl, nt_le (by omega) (by decide)]; omega
    rw [if_neg h6, Nat.min_eq_left (by omega)]
    simp (config := {decide := true}) only [r205_61, r205_62, r205_64, r205_67, r205_68, r205_71, r205_72, if_true, if_false, Nat.reduceAdd, Int32.reduceToNatClampNeg, lo_i, lo_r, lo_n, kont_v, kont_n, List.length_nil, List.length_cons, e5]
theorem m207 (hX : MX I N B) (ha : a ≤ N) (hl : ltr u) (h6 : u.length ≤ 6) (hu : sixv a1 a2 a3 a4 a5 a6 = nt (cu u u.length)) : wpc (d + 3) 207 [.ref (70 : Nat), .int a1, .int a2, .int a3, .int a4, .int a5, .int a6] (mk n (mS I (nt a) 0 q) L x) Φ ↔ Φ (.inl (some (.int (if wdIs B N (skp B N a) u = true then 1 else 0)))) (mk n (mS I (nt (skp B N a)) 0 q) L x) := by
  show wp (d + 3) 207 0 [.ref (70 : Nat), .int a1, .int a2, .int a3, .int a4, .int a5, .int a6] [] (mk n (mS I (nt a) 0 q) L x) Φ ↔ _
  have hb2 : cu u u.length < 387420489 := Nat.lt_of_lt_of_le (cu_bd _ hl) (Nat.le_trans (Nat.pow_le_pow_right (by decide) h6) (by decide))
  have hq : ((if 6 < endF isLt B N (skp B N a) - skp B N a then -1 else nt (cdf B (skp B N a) (endF isLt B N (skp B N a) - skp B N a))) = nt (cu u u.length)) ↔ wdIs B N (skp B N a) u = true := by
    by_cases h7 : 6 < endF isLt B N (skp B N a) - skp B N a
    · rw [if_pos h7]
      constructor
      · intro z; exact absurd z.symm (nt_m1 (by omega))
      · intro z; rw [wdIs_iff] at z; omega
    · rw [if_neg h7, isw_iff hl]
      have hb1 := cdf_bd (B := B) (p := skp B N a) (endF isLt B N (skp B N a) - skp B N a) (fun i hi => (run_in (N := N) i hi).2)
      have hb3 : cdf B (skp B N a) (endF isLt B N (skp B N a) - skp B N a) < 387420489 := Nat.lt_of_lt_of_le hb1 (Nat.le_trans (Nat.pow_le_pow_right (by decide) (show endF isLt B N (skp B N a) - skp B N a ≤ 6 by omega)) (by decide))
      rw [nt_inj (by omega) (by omega)]
  by_cases hw : wdIs B N (skp B N a) u = true
  · have e1 := hq.mpr hw
    simp (config := {decide := true}) only [r207_0, r207_1, r207_4, r207_7, r207_8, r207_11, r207_12, r207_13, r207_14, r207_16, r207_18, r207_20, r207_23, r207_26, r207_27, r207_30, r207_31, if_true, if_false, Nat.reduceAdd, Int32.reduceToNatClampNeg, lo_i, lo_r, lo_n, kont_v, kont_n, List.length_nil, List.length_cons, mS_5, m205 hX ha, m206, hu, e1, hw, nb_1]
  · have e1 : ¬ _ := fun z => hw (hq.mp z)
    simp (config := {decide := true}) only [r207_0, r207_1, r207_4, r207_7, r207_8, r207_11, r207_12, r207_13, r207_14, r207_16, r207_18, r207_20, r207_23, r207_26, r207_27, r207_30, r207_31, if_true, if_false, Nat.reduceAdd, Int32.reduceToNatClampNeg, lo_i, lo_r, lo_n, kont_v, kont_n, List.length_nil, List.length_cons, mS_5, m205 hX ha, m206, hu, e1, hw, nb_0]
theorem m207f (hf : f ≠ 0) : wpc d 207 [.ref (70 : Nat), .int a1, .int a2, .int a3, .int a4, .int a5, .int a6] (mk n (mS I p f q) L x) Φ ↔ Φ (.inl (some (.int 0))) (mk n (mS I p f q) L x) := by
  show wp d 207 0 [.ref (70 : Nat), .int a1, .int a2, .int a3, .int a4, .int a5, .int a6] [] (mk n (mS I p f q) L x) Φ ↔ _
  simp (config := {decide := true}) only [r207_0, r207_1, r207_4, r207_30, r207_31, if_true, if_false, Nat.reduceAdd, Int32.reduceToNatClampNeg, lo_i, lo_r, lo_n, kont_v, kont_n, List.length_nil, List.length_cons, mS_5, hf, nb_0]
theorem m209 (hX : MX I N B) (ha : a ≤ N) (hl : ltr u) (h6 : u.length ≤ 6) (hu : sixv a1 a2 a3 a4 a5 a6 = nt (cu u u.length)) : wpc (d + 4) 209 [.ref (70 : Nat), .int a1, .int a2, .int a3, .int a4, .int a5, .int a6] (mk n (mS I (nt a) 0 q) L x) Φ ↔ Φ (.inl (some (.int (if wdIs B N (skp B N a) u = true then 1 else 0)))) (mk n (mS I (nt (if wdIs B N (skp B N a) u = true then endF isLt B N (skp B N a) else skp B N a)) 0 q) L x) := by
  show wp (d + 4) 209 0 [.ref (70 : Nat), .int a1, .int a2, .int a3, .int a4, .int a5, .int a6, noV] [] (mk n (mS I (nt a) 0 q) L x) Φ ↔ _
  have hle : skp B N a ≤ N := endF_le ha
  by_cases hw : wdIs B N (skp B N a) u = true
  · simp (config := {decide := true}) only [r209_0, r209_1, r209_2, r209_3, r209_4, r209_6, r209_8, r209_10, r209_13, r209_15, r209_17, r209_20, r209_21, r209_24, r209_26, if_true, if_false, Nat.reduceAdd, Int32.reduceToNatClampNeg, lo_i, lo_r, lo_n, kont_v, kont_n, List.length_nil, List.length_cons, m207 hX ha hl h6 hu, hw, m208 hX hle, nb_1]
  · simp (config := {decide := true}) only [r209_0, r209_1, r209_2, r209_3, r209_4, r209_6, r209_8, r209_10, r209_13, r209_15, r209_17, r209_20, r209_21, r209_24, r209_26, if_true, if_false, Nat.reduceAdd, Int32.reduceToNatClampNeg, lo_i, lo_r, lo_n, kont_v, kont_n, List.length_nil, List.length_cons, m207 hX ha hl h6 hu, hw, nb_0]
theorem m209f (hf : f ≠ 0) : wpc (d + 1) 209 [.ref (70 : Nat), .int a1, .int a2, .int a3, .int a4, .int a5, .int a6] (mk n (mS I p f q) L x) Φ ↔ Φ (.inl (some (.int 0))) (mk n (mS I p f q) L x) := by
  show wp (d + 1) 209 0 [.ref (70 : Nat), .int a1, .int a2, .int a3, .int a4, .int a5, .int a6, noV] [] (mk n (mS I p f q) L x) Φ ↔ _
  simp (config := {decide := true}) only [r209_0, r209_1, r209_2, r209_3, r209_4, r209_6, r209_8, r209_10, r209_13, r209_15, r209_17, r209_20, r209_21, r209_24, r209_26, if_true, if_false, Nat.reduceAdd, Int32.reduceToNatClampNeg, lo_i, lo_r, lo_n, kont_v, kont_n, List.length_nil, List.length_cons, m207f hf, nb_0]
theorem m214 (hX : MX I N B) (ha : a ≤ N) (hl : ltr u) (h7 : u.length = 7) : wpc (d + 2) 214 [.ref (70 : Nat), .int (nt (cu u 6)), .int (nt (u.getD 6 0))] (mk n (mS I (nt a) 0 q) L x) Φ ↔ Φ (.inl (some (.int (if wdIs B N (skp B N a) u = true then 1 else 0)))) (mk n (mS I (nt (skp B N a)) 0 q) L x) := by
  have hN := hX.2.1
  have hle : skp B N a ≤ N := endF_le ha
  show wp (d + 2) 214 0 [.ref (70 : Nat), .int (nt (cu u 6)), .int (nt (u.getD 6 0)), noV, noV] [] (mk n (mS I (nt a) 0 q) L x) Φ ↔ _
  simp (config := {decide := true}) only [r214_0, r214_1, r214_4, r214_7, r214_8, r214_9, r214_10, r214_13, r214_14, r214_15, r214_16, if_true, if_false, Nat.reduceAdd, Int32.reduceToNatClampNeg, lo_i, lo_r, lo_n, kont_v, kont_n, List.length_nil, List.length_cons, mS_5, m200 hX ha]
  generalize skp B N a = b at hle ⊢
  generalize hA : nt (cu u 6) = A
  generalize hC : nt (u.getD 6 0) = C
  have key : ∀ c, b ≤ c → c ≤ N → endF isLt B N c = endF isLt B N b → (wp (d + 2) 214 18 [.ref (70 : Nat), .int A, .int C, .int (nt (cdf B b (min (c - b) 6))), .int (nt (c - b))] [] (mk n (mS I (nt b) 0 q) L x) Φ ↔ wp (d + 2) 214 74 [.ref (70 : Nat), .int A, .int C, .int (nt (cdf B b (min (endF isLt B N b - b) 6))), .int (nt (endF isLt B N b - b))] [] (mk n (mS I (nt b) 0 q) L x) Φ) := by
    refine end_ind (P := isLt) (B := B) (N := N) ?_ ?_
    · intro c hc hbc hcN he
      rw [endF_no hc] at he
      rw [← he]
      have e0 : nt b + nt (c - b) = nt c := by rw [nt_add]; congr 1; omega
      have e3 : ¬ isLt (cur B N c) = true := fun z => hc ((cur_P (by decide)).mp z)
      rw [r214_18]
      simp (config := {decide := true}) only [r214_19, r214_20, r214_23, r214_25, r214_26, r214_29, r214_32, r214_35, r214_37, r214_39, r214_42, r214_44, r214_45, r214_46, r214_47, r214_48, r214_51, r214_53, r214_54, r214_57, r214_58, r214_60, r214_61, r214_62, r214_63, r214_66, r214_67, r214_68, r214_71, if_true, if_false, Nat.reduceAdd, Int32.reduceToNatClampNeg, lo_i, lo_r, lo_n, kont_v, kont_n, List.length_nil, List.length_cons, mS_4, e0, m199 hX (show c < 2000 by omega), m203, e3]
    · intro c h1 hdc ih hbc hcN he
      have e0 : nt b + nt (c - b) = nt c := by rw [nt_add]; congr 1; omega
      have e4 : cur B N c = B c := if_pos h1
      have e7 : nt (c - b) + 1 = nt (c + 1 - b) := by rw [nt_succ]; congr 1; omega
      refine Iff.trans ?_ (ih (by omega) (by omega) (by rw [← endF_go h1 hdc]; exact he))
      rw [r214_18]
      by_cases h6 : c - b < 6
      · have e5 : ¬ (6 ≤ nt (c - b)) := nt_nle (m := 6) h6 (by decide)
        have e6 : 27 * nt (cdf B b (min (c - b) 6)) + B c - 97 + 1 = nt (cdf B b (min (c + 1 - b) 6)) := by
          rw [cd_step hdc, Nat.min_eq_left (by omega), Nat.min_eq_left (by omega), show c + 1 - b = (c - b) + 1 by omega]
          show _ = nt (27 * cdf B b (c - b) + ((B (b + (c - b))).toNatClampNeg - 96))
          rw [show b + (c - b) = c by omega]
        simp (config := {decide := true}) only [r214_19, r214_20, r214_23, r214_25, r214_26, r214_29, r214_32, r214_35, r214_37, r214_39, r214_42, r214_44, r214_45, r214_46, r214_47, r214_48, r214_51, r214_53, r214_54, r214_57, r214_58, r214_60, r214_61, r214_62, r214_63, r214_66, r214_67, r214_68, r214_71, if_true, if_false, Nat.reduceAdd, Int32.reduceToNatClampNeg, lo_i, lo_r, lo_n, kont_v, kont_n, List.length_nil, List.length_cons, mS_4, e0, m199 hX (show c < 2000 by omega), m203, e4, hdc, e5, e6, e7]
      · have e5 : (6 : Int32) ≤ nt (c - b) := by rw [show (6 : Int32) = nt 6 from rfl, nt_le (by decide) (by omega)]; omega
        have e6 : cdf B b (min (c - b) 6) = cdf B b (min (c + 1 - b) 6) := by rw [Nat.min_eq_right (by omega), Nat.min_eq_right (by omega)]
        rw [e6]
        simp (config := {decide := true}) only [r214_19, r214_20, r214_23, r214_25, r214_26, r214_29, r214_32, r214_35, r214_37, r214_39, r214_42, r214_44, r214_45, r214_46, r214_47, r214_48, r214_51, r214_53, r214_54, r214_57, r214_58, r214_60, r214_61, r214_62, r214_63, r214_66, r214_67, r214_68, r214_71, if_true, if_false, Nat.reduceAdd, Int32.reduceToNatClampNeg, lo_i, lo_r, lo_n, kont_v, kont_n, List.length_nil, List.length_cons, mS_4, e0, m199 hX (show c < 2000 by omega), m203, e4, hdc, e5, e7]
  have k0 := key b (Nat.le_refl b) hle rfl
  rw [Nat.sub_self] at k0
  refine Iff.trans k0 ?_
  have heN : endF isLt B N b ≤ N := endF_le hle
  have hle6 : ∀ i, i < 6 → 97 ≤ u.getD i 0 ∧ u.getD i 0 ≤ 122 := fun i hi => hl i (by omega)
  have hu6 := hl 6 (by omega)
  by_cases hm : endF isLt B N b - b = 7
  · have e1 : nt (endF isLt B N b - b) = 7 := by rw [hm]; rfl
    have hin : ∀ i, i < endF isLt B N b - b → b + i < N ∧ isLt (B (b + i)) = true := fun i hi => run_in (B := B) (N := N) (b := b) i hi
    have hin6 : ∀ i, i < 6 → isLt (B (b + i)) = true := fun i hi => (hin i (by omega)).2
    have hb1 : cdf B b 6 < 387420489 := cdf_bd 6 hin6
    have hb2 : cu u 6 < 387420489 := cu_bd 6 hle6
    have e2 : cur B N (b + 6) = B (b + 6) := if_pos (hin 6 (by omega)).1
    have e3 : nt b + 6 = nt (b + 6) := nt_add b 6
    have e4 : (nt (cdf B b 6) = A) = (cdf B b 6 = cu u 6) := by rw [← hA]; exact nt_inj (by omega) (by omega)
    have e5 : min (endF isLt B N b - b) 6 = 6 := by rw [hm]; rfl
    rw [e5]
    have hq : wdIs B N b u = true ↔ cdf B b 6 = cu u 6 ∧ B (b + 6) = C := by
      rw [wdIs_iff, h7]
      constructor
      · rintro ⟨-, h⟩
        exact ⟨cd_eq 6 (fun i hi => by have := hle6 i hi; omega) (fun i hi => h i (by omega)), by rw [← hC]; exact h 6 (by decide)⟩
      · rintro ⟨h8, h9⟩
        refine ⟨hm, fun i hi => ?_⟩
        by_cases h6 : i = 6
        · rw [h6, hC]; exact h9
        · exact (cd_inj 6 6 hin6 hle6 h8).2 i (by omega)
    by_cases q1 : cdf B b 6 = cu u 6
    · have q1' : nt (cdf B b 6) = A := by rw [e4]; exact q1
      by_cases q2 : B (b + 6) = C
      · rw [if_pos (hq.mpr ⟨q1, q2⟩)]
        simp (config := {decide := true}) only [r214_74, r214_76, r214_78, r214_81, r214_82, r214_83, r214_86, r214_87, r214_88, r214_91, r214_93, r214_94, r214_97, r214_98, r214_101, r214_102, r214_105, r214_106, if_true, if_false, Nat.reduceAdd, Int32.reduceToNatClampNeg, lo_i, lo_r, lo_n, kont_v, kont_n, List.length_nil, List.length_cons, e1, q1', mS_4, e3, m199 hX (show b + 6 < 2000 by omega), e2, q2, nb_1]
      · rw [if_neg (fun z => q2 (hq.mp z).2)]
        simp (config := {decide := true}) only [r214_74, r214_76, r214_78, r214_81, r214_82, r214_83, r214_86, r214_87, r214_88, r214_91, r214_93, r214_94, r214_97, r214_98, r214_101, r214_102, r214_105, r214_106, if_true, if_false, Nat.reduceAdd, Int32.reduceToNatClampNeg, lo_i, lo_r, lo_n, kont_v, kont_n, List.length_nil, List.length_cons, e1, q1', mS_4, e3, m199 hX (show b + 6 < 2000 by omega), e2, q2, nb_0]
    · rw [if_neg (fun z => q1 (hq.mp z).1)]
      simp (config := {decide := true}) only [r214_74, r214_76, r214_78, r214_81, r214_82, r214_83, r214_86, r214_87, r214_88, r214_91, r214_93, r214_94, r214_97, r214_98, r214_101, r214_102, r214_105, r214_106, if_true, if_false, Nat.reduceAdd, Int32.reduceToNatClampNeg, lo_i, lo_r, lo_n, kont_v, kont_n, List.length_nil, List.length_cons, e1, e4, q1, nb_0]
  · have e1 : ¬ (nt (endF isLt B N b - b) = 7) := by rw [show (7 : Int32) = nt 7 from rfl, nt_inj (by omega) (by decide)]; exact hm
    rw [if_neg (fun z => hm ((wdIs_iff.mp z).1.trans h7))]
    simp (config := {decide := true}) only [r214_74, r214_76, r214_78, r214_81, r214_82, r214_83, r214_86, r214_87, r214_88, r214_91, r214_93, r214_94, r214_97, r214_98, r214_101, r214_102, r214_105, r214_106, if_true, if_false, Nat.reduceAdd, Int32.reduceToNatClampNeg, lo_i, lo_r, lo_n, kont_v, kont_n, List.length_nil, List.length_cons, e1, nb_0]
theorem m214f (hf : f ≠ 0) : wpc d 214 [.ref (70 : Nat), .int v, .int w] (mk n (mS I p f q) L x) Φ ↔ Φ (.inl (some (.int 0))) (mk n (mS I p f q) L x) := by
  show wp d 214 0 [.ref (70 : Nat), .int v, .int w, noV, noV] [] (mk n (mS I p f q) L x) Φ ↔ _
  simp (config := {decide := true}) only [r214_0, r214_1, r214_4, r214_7, r214_8, if_true, if_false, Nat.reduceAdd, Int32.reduceToNatClampNeg, lo_i, lo_r, lo_n, kont_v, kont_n, List.length_nil, List.length_cons, mS_5, hf, nb_0]
def wSl : List Nat := [115, 108, 101, 101, 112, 101, 114]
theorem wSl_l : ltr wSl := by
  intro i hi
  have : ∀ i : Fin 7, 97 ≤ wSl.getD i.1 0 ∧ wSl.getD i.1 0 ≤ 122 := by decide +kernel
  exact this ⟨i, hi⟩
theorem m215 (hX : MX I N B) (ha : a ≤ N) : wpc (d + 3) 215 [.ref (70 : Nat)] (mk n (mS I (nt a) 0 q) L x) Φ ↔ Φ (.inl (some (.int (if wdIs B N (skp B N a) wSl = true then 1 else 0)))) (mk n (mS I (nt (skp B N a)) 0 q) L x) := by
  show wp (d + 3) 215 0 [.ref (70 : Nat)] [] (mk n (mS I (nt a) 0 q) L x) Φ ↔ _
  have e1 : sixv 19 12 5 5 16 5 = nt (cu wSl 6) := by decide +kernel
  have e2 : (114 : Int32) = nt (wSl.getD 6 0) := by decide +kernel
  by_cases hw : wdIs B N (skp B N a) wSl = true
  · simp (config := {decide := true}) only [r215_0, r215_1, r215_3, r215_5, r215_6, r215_7, r215_9, r215_10, r215_13, r215_15, r215_18, if_true, if_false, Nat.reduceAdd, Int32.reduceToNatClampNeg, lo_i, lo_r, lo_n, kont_v, kont_n, List.length_nil, List.length_cons, m206, e1, e2, m214 hX ha wSl_l rfl, hw, nb_1]
  · simp (config := {decide := true}) only [r215_0, r215_1, r215_3, r215_5, r215_6, r215_7, r215_9, r215_10, r215_13, r215_15, r215_18, if_true, if_false, Nat.reduceAdd, Int32.reduceToNatClampNeg, lo_i, lo_r, lo_n, kont_v, kont_n, List.length_nil, List.length_cons, m206, e1, e2, m214 hX ha wSl_l rfl, hw, nb_0]
theorem m215f (hf : f ≠ 0) : wpc (d + 1) 215 [.ref (70 : Nat)] (mk n (mS I p f q) L x) Φ ↔ Φ (.inl (some (.int 0))) (mk n (mS I p f q) L x) := by
  show wp (d + 1) 215 0 [.ref (70 : Nat)] [] (mk n (mS I p f q) L x) Φ ↔ _
  simp (config := {decide := true}) only [r215_0, r215_1, r215_3, r215_5, r215_6, r215_7, r215_9, r215_10, r215_13, r215_15, r215_18, if_true, if_false, Nat.reduceAdd, Int32.reduceToNatClampNeg, lo_i, lo_r, lo_n, kont_v, kont_n, List.length_nil, List.length_cons, m206, m214f hf, nb_0]
end Mw

