/-! A LAW, read by the class -/
def LM (I G : Nat → Nat → Int32) : Nat → Nat → Int32 := fun r => if 28 ≤ r ∧ r ≤ 29 then G r else I r
def Lc (G : Nat → Nat → Int32) (c : LCs) : Prop := G 28 3 = nt c.1 ∧ ∀ k, k < c.1 → G 29 k = nt (sgn (c.2 k))
def CUn (n : Nat) (I : Nat → Nat → Int32) (N d M : Nat) (o : Int32) (U : LPs) : Prop := ∀ (x : Nat) (L : Nat → Nat → Int64) (Φ : POut → PM → Prop) (G J : Nat → Nat → Int32) (c : LCs) (a : Nat), Lc G c → c.1 ≤ a → CT (LM I G) J N (.inl a) → (∀ c' p', U c a = .inl (c', p') → ∀ G' K, Lc G' c' → CT (LM I G') K N (.inl p') → Φ (.inl none) (mk n K L x)) → (∀ e, U c a = .inr e → ∀ G' K, CT (LM I G') K N (.inr e) → Φ (.inl none) (mk n K L x)) → wpc d M [.ref (28 : Nat), .ref (10 : Nat), .int o] (mk n J L x) Φ
def CUf (n : Nat) (I : Nat → Nat → Int32) (N d M : Nat) : Prop := ∀ (x : Nat) (L : Nat → Nat → Int64) (Φ : POut → PM → Prop) (G J : Nat → Nat → Int32) (e : Nat × Nat) (o : Int32), CT (LM I G) J N (.inr e) → (∀ G' K, CT (LM I G') K N (.inr e) → Φ (.inl none) (mk n K L x)) → wpc d M [.ref (28 : Nat), .ref (10 : Nat), .int o] (mk n J L x) Φ
def C33 (n : Nat) (I : Nat → Nat → Int32) (N d : Nat) (o : Int32) (S : Option LPs) : Prop := ∀ (x : Nat) (L : Nat → Nat → Int64) (Φ : POut → PM → Prop) (G : Nat → Nat → Int32) (c : LCs) (b : Nat) (q : Int32), b ≤ N → c.1 ≤ b → cur (I 11) N b = 40 → skp (I 11) N b = b → Lc G c → q = -1 → (∀ c' p', brP (I 11) N S c b = .inl (c', p') → ∀ G' K, Lc G' c' → CT (LM I G') K N (.inl p') → Φ (.inl none) (mk n K L x)) → (∀ e, brP (I 11) N S c b = .inr e → ∀ G' K, CT (LM I G') K N (.inr e) → Φ (.inl none) (mk n K L x)) → wpc d 33 [.ref (28 : Nat), .ref (10 : Nat), .int o] (mk n (tS (LM I G) (nt b) (nt b) 0 q) L x) Φ
def C34 (n : Nat) (I : Nat → Nat → Int32) (N d : Nat) (o : Int32) (S : Option LPs) : Prop := ∀ (x : Nat) (L : Nat → Nat → Int64) (Φ : POut → PM → Prop) (G : Nat → Nat → Int32) (c : LCs) (b p1 : Nat) (q : Int32), p1 ≤ N → c.1 ≤ p1 → Lc G c → q = -1 → (∀ c' p', paP (I 11) N S c b p1 = .inl (c', p') → ∀ G' K, Lc G' c' → CT (LM I G') K N (.inl p') → Φ (.inl none) (mk n K L x)) → (∀ e, paP (I 11) N S c b p1 = .inr e → ∀ G' K, CT (LM I G') K N (.inr e) → Φ (.inl none) (mk n K L x)) → wpc d 34 [.ref (28 : Nat), .ref (10 : Nat), .int o] (mk n (tS (LM I G) (nt p1) (nt b) 0 q) L x) Φ
section Lx
variable {d n x N a o : Nat} {Φ : POut → PM → Prop} {I J K G : Nat → Nat → Int32} {L : Nat → Nat → Int64} {v w z : Int32} {c : LCs} {k u : Nat} {t : LSt} {r i : Nat} {g : Nat → Int32} {f U : LPs} {S : Option LPs}
theorem LM_i (h : 28 ≤ r ∧ r ≤ 29) : LM I G r = G r := if_pos h
theorem LM_o (h : r < 28 ∨ 29 < r) : LM I G r = I r := if_neg (by omega)
theorem LM_up (h : 28 ≤ r ∧ r ≤ 29) : upR (LM I G) r g = LM I (upR G r g) := by
  funext b
  unfold LM
  by_cases hb : b = r
  · subst hb
    rw [upR_same, if_pos h, upR_same]
  · rw [upR_ne hb, upR_ne hb]
theorem TX_lm (h : TX I N) : TX (LM I G) N := by
  unfold TX
  rw [LM_o (by decide), LM_o (by decide)]
  exact h
theorem SG_lm {w : Nat} {W : List Nat} (h : SG I w W) : SG (LM I G) w W := by
  obtain ⟨h1, h2, h3, h4, h5⟩ := h
  have hw : w ≤ 2 := by rcases h1 with rfl | rfl | rfl <;> decide
  exact ⟨h1, by rw [LM_o (by omega)]; exact h2, h3, h4, by rw [LM_o (by omega)]; exact h5⟩
theorem CT_lw (h : CT (LM I G) J N t) (hr : 28 ≤ r ∧ r ≤ 29) : CT (LM I (upR G r g)) (upR J r g) N t := by
  rw [← LM_up hr]
  exact CT_up h (by omega)
theorem CT_la (h : CT (LM I G) J N t) (hr : 28 ≤ r ∧ r ≤ 29) : CT (LM I (upR G r (upd (J r) i v))) (wrI J r i v) N t := CT_lw h hr
theorem k28 : K4 28 := Or.inr rfl
theorem c35 (hJ : CT (LM I G) J N t) (hm : Lc G c) (hlt : c.1 < 150) (hw : w = nt (sgn (k, u))) (h : ∀ G' K, Lc G' (psh c k u) → CT (LM I G') K N t → Φ (.inl none) (mk n K L x)) : wpc (d + 1) 35 [.ref (28 : Nat), .int w] (mk n J L x) Φ := by
  have z : sh0 n 29 = (20, 150, []) := sh4a k28
  have s3 : J 28 3 = nt c.1 := by rw [CT_ne hJ (by decide), LM_i (by decide)]; exact hm.1
  have e1 : ¬ (150 ≤ nt c.1) := nt_nle (m := 150) hlt (by decide)
  have e2 : putv 150 J 29 (nt c.1) w = wrI J 29 c.1 w := putv_nt hlt (by decide)
  have s4 : wrI J 29 c.1 w 28 3 = nt c.1 := by rw [wrI_ne (by decide)]; exact s3
  show wp (d + 1) 35 0 [.ref (28 : Nat), .int w] [] (mk n J L x) Φ
  simp (config := {decide := true}) only [r35_0, r35_1, r35_4, r35_7, r35_10, r35_11, r35_14, r35_15, r35_18, r35_19, r35_22, r35_23, r35_24, r35_27, r35_28, r35_29, r35_32, if_true, if_false, Nat.reduceAdd, Int32.reduceToNatClampNeg, lo_i, lo_r, lo_n, kont_v, kont_n, List.length_nil, List.length_cons, k28, s3, e1, c186, z, e2, s4, nt_succ]
  have hK := CT_la (r := 28) (i := 3) (v := nt (c.1 + 1)) (CT_la (r := 29) (i := c.1) (v := w) hJ (by decide)) (by decide)
  refine h _ _ ⟨?_, fun i hi => ?_⟩ hK
  · rw [upR_same, up_same]; rfl
  · have hi : i < c.1 + 1 := hi
    rw [upR_ne (by decide), upR_same]
    by_cases e : i = c.1
    · subst e
      rw [up_same, psh_eq]
      exact hw
    · rw [up_ne e, psh_lt (by omega), CT_ne hJ (by decide), LM_i (by decide)]
      exact hm.2 i (by omega)
theorem c35f (hJ : CT (LM I G) J N t) (h : ∀ G' K, CT (LM I G') K N t → Φ (.inl none) (mk n K L x)) : wpc (d + 1) 35 [.ref (28 : Nat), .int w] (mk n J L x) Φ := by
  have z : sh0 n 29 = (20, 150, []) := sh4a k28
  show wp (d + 1) 35 0 [.ref (28 : Nat), .int w] [] (mk n J L x) Φ
  by_cases e1 : 150 ≤ J 28 3
  · simp (config := {decide := true}) only [r35_0, r35_1, r35_4, r35_7, r35_10, r35_11, r35_14, r35_15, r35_18, r35_19, r35_22, r35_23, r35_24, r35_27, r35_28, r35_29, r35_32, if_true, if_false, Nat.reduceAdd, Int32.reduceToNatClampNeg, lo_i, lo_r, lo_n, kont_v, kont_n, List.length_nil, List.length_cons, k28, e1]
    exact h _ _ hJ
  · simp (config := {decide := true}) only [r35_0, r35_1, r35_4, r35_7, r35_10, r35_11, r35_14, r35_15, r35_18, r35_19, r35_22, r35_23, r35_24, r35_27, r35_28, r35_29, r35_32, if_true, if_false, Nat.reduceAdd, Int32.reduceToNatClampNeg, lo_i, lo_r, lo_n, kont_v, kont_n, List.length_nil, List.length_cons, k28, e1, c186, z, putv_up]
    exact h _ _ (CT_la (CT_lw hJ (by decide)) (by decide))
theorem c32f (hT : TX I N) (hG : SG I 1 wd1) : CUf n I N (d + 6) 32 := by
  intro x L Φ G J e o hJ h
  have hJ0 := hJ
  obtain ⟨h0, h1, a, s, ha, rfl⟩ := hJ
  have hd : ¬ isDg (-1) = true := by decide
  show wp (d + 6) 32 0 [.ref (28 : Nat), .ref (10 : Nat), .int o, noV, noV] [] (mk n (tS (LM I G) (nt a) s (nt e.1) (nt e.2)) L x) Φ
  simp (config := {decide := true}) only [r32_0, r32_1, r32_4, r32_5, r32_6, r32_9, r32_27, r32_28, r32_30, r32_42, r32_43, r32_45, if_true, if_false, Nat.reduceAdd, Int32.reduceToNatClampNeg, lo_i, lo_r, lo_n, kont_v, kont_n, List.length_nil, List.length_cons, c97f (kf h0 h1), c103, hd]
  refine c101f (TX_lm hT) (SG_lm hG) sw1 (by decide) hJ0 (fun K hK => kont_v.mpr ?_)
  simp (config := {decide := true}) only [r32_48, r32_50, r32_52, r32_54, r32_79, r32_80, r32_83, r32_85, r32_86, if_true, if_false, Nat.reduceAdd, Int32.reduceToNatClampNeg, lo_i, lo_r, lo_n, kont_v, kont_n, List.length_nil, List.length_cons, k28]
  refine c35f hK (fun G' K' hK' => kont_n.mpr ?_)
  simp (config := {decide := true}) only [r32_89, if_true, if_false, Nat.reduceAdd, Int32.reduceToNatClampNeg, lo_i, lo_r, lo_n, kont_v, kont_n, List.length_nil, List.length_cons]
  exact h _ _ hK'
theorem c31f (hU : CUf n I N (d + 6) 32) : CUf n I N (d + 7) 31 := by
  intro x L Φ G J e o hJ h
  show wp (d + 7) 31 0 [.ref (28 : Nat), .ref (10 : Nat), .int o, noV, noV] [] (mk n J L x) Φ
  simp (config := {decide := true}) only [r31_0, r31_1, r31_2, r31_3, if_true, if_false, Nat.reduceAdd, Int32.reduceToNatClampNeg, lo_i, lo_r, lo_n, kont_v, kont_n, List.length_nil, List.length_cons, k28]
  refine hU _ _ _ G J e o hJ (fun G' K hK => kont_n.mpr ?_)
  have e1 : ¬ flt (.inr e) = 0 := hK.1
  simp (config := {decide := true}) only [r31_6, r31_7, r31_8, r31_9, r31_12, r31_15, r31_16, r31_19, r31_101, if_true, if_false, Nat.reduceAdd, Int32.reduceToNatClampNeg, lo_i, lo_r, lo_n, kont_v, kont_n, List.length_nil, List.length_cons, c95t hK, e1]
  exact h _ _ hK
theorem c30f (hU : CUf n I N (d + 7) 31) : CUf n I N (d + 8) 30 := by
  intro x L Φ G J e o hJ h
  show wp (d + 8) 30 0 [.ref (28 : Nat), .ref (10 : Nat), .int o, noV, noV] [] (mk n J L x) Φ
  simp (config := {decide := true}) only [r30_0, r30_1, r30_2, r30_3, if_true, if_false, Nat.reduceAdd, Int32.reduceToNatClampNeg, lo_i, lo_r, lo_n, kont_v, kont_n, List.length_nil, List.length_cons, k28]
  refine hU _ _ _ G J e o hJ (fun G' K hK => kont_n.mpr ?_)
  have e1 : ¬ flt (.inr e) = 0 := hK.1
  simp (config := {decide := true}) only [r30_6, r30_7, r30_8, r30_9, r30_12, r30_15, r30_16, r30_19, r30_81, if_true, if_false, Nat.reduceAdd, Int32.reduceToNatClampNeg, lo_i, lo_r, lo_n, kont_v, kont_n, List.length_nil, List.length_cons, c95t hK, e1]
  exact h _ _ hK
theorem c33n (hT : TX I N) : C33 n I N (d + 1) 6 none := by
  intro x L Φ G c b q hb hcb h40 hsk hm hq hok hbad
  show wp (d + 1) 33 0 [.ref (28 : Nat), .ref (10 : Nat), .int 6] [] (mk n (tS (LM I G) (nt b) (nt b) 0 q) L x) Φ
  simp (config := {decide := true}) only [r33_0, r33_1, r33_3, r33_6, r33_7, r33_8, r33_11, if_true, if_false, Nat.reduceAdd, Int32.reduceToNatClampNeg, lo_i, lo_r, lo_n, kont_v, kont_n, List.length_nil, List.length_cons, c96]
  exact hbad (3, b) rfl G _ (ct_f (by decide) (by decide) hb)
theorem c34n (hT : TX I N) : C34 n I N (d + 1) 6 none := by
  intro x L Φ G c b p1 q hb hcb hm hq hok hbad
  show wp (d + 1) 34 0 [.ref (28 : Nat), .ref (10 : Nat), .int 6] [] (mk n (tS (LM I G) (nt p1) (nt b) 0 q) L x) Φ
  simp (config := {decide := true}) only [r34_0, r34_1, r34_3, r34_6, r34_7, r34_8, r34_11, if_true, if_false, Nat.reduceAdd, Int32.reduceToNatClampNeg, lo_i, lo_r, lo_n, kont_v, kont_n, List.length_nil, List.length_cons, c96]
  exact hbad (3, b) rfl G _ (ct_f (by decide) (by decide) hb)
theorem c33s (hT : TX I N) (ho : o < 6) (hP : PG 1 f) (hS : CUn n I N (d + 8) 30 (nt (o + 1)) f) : C33 n I N (d + 9) (nt o) (some f) := by
  intro x L Φ G c b q hb hcb h40 hsk hm hq hok hbad
  have h11 : ∀ G, LM I G 11 = I 11 := fun G => LM_o (by decide)
  have e1 : nt o < 6 := by rw [show (6 : Int32) = nt 6 from rfl, nt_lt (by omega) (by decide)]; exact ho
  have hJ : CT (LM I G) (tS (LM I G) (nt b) (nt b) 0 q) N (.inl b) := ct_ok hq hb
  show wp (d + 9) 33 0 [.ref (28 : Nat), .ref (10 : Nat), .int (nt o)] [] (mk n (tS (LM I G) (nt b) (nt b) 0 q) L x) Φ
  simp (config := {decide := true}) only [r33_0, r33_1, r33_3, r33_12, r33_13, r33_15, if_true, if_false, Nat.reduceAdd, Int32.reduceToNatClampNeg, lo_i, lo_r, lo_n, kont_v, kont_n, List.length_nil, List.length_cons, e1]
  refine c98 (TX_lm hT) (by decide) hJ (fun K hK => kont_n.mpr ?_)
  rw [h11] at hK
  simp only [lSig, hsk, h40, if_true] at hK
  simp (config := {decide := true}) only [r33_18, r33_19, r33_20, r33_21, r33_22, r33_23, if_true, if_false, Nat.reduceAdd, Int32.reduceToNatClampNeg, lo_i, lo_r, lo_n, kont_v, kont_n, List.length_nil, List.length_cons, k28, nt_succ]
  refine hS _ _ _ G K c (b + 1) hm (by omega) hK (fun c1 p1 hf G1 K1 hm1 hK1 => kont_n.mpr ?_) (fun e hf G1 K1 hK1 => kont_n.mpr ?_)
  · simp (config := {decide := true}) only [r33_26, r33_27, r33_29, if_true, if_false, Nat.reduceAdd, Int32.reduceToNatClampNeg, lo_i, lo_r, lo_n, kont_v, kont_n, List.length_nil, List.length_cons]
    refine c98 (TX_lm hT) (by decide) hK1 (fun K2 hK2 => kont_n.mpr ?_)
    rw [h11] at hK2
    simp (config := {decide := true}) only [r33_32, if_true, if_false, Nat.reduceAdd, Int32.reduceToNatClampNeg, lo_i, lo_r, lo_n, kont_v, kont_n, List.length_nil, List.length_cons]
    by_cases hs : cur (I 11) N (skp (I 11) N p1) = 41
    · simp only [lSig, if_pos hs] at hK2
      exact hok _ _ ((thn_l hf).trans (sgP_l hs)) G1 K2 hm1 hK2
    · simp only [lSig, if_neg hs] at hK2
      exact hbad _ ((thn_l hf).trans (sgP_r hs)) G1 K2 hK2
  · simp (config := {decide := true}) only [r33_26, r33_27, r33_29, if_true, if_false, Nat.reduceAdd, Int32.reduceToNatClampNeg, lo_i, lo_r, lo_n, kont_v, kont_n, List.length_nil, List.length_cons]
    refine c98 (TX_lm hT) (by decide) hK1 (fun K2 hK2 => kont_n.mpr ?_)
    simp (config := {decide := true}) only [r33_32, if_true, if_false, Nat.reduceAdd, Int32.reduceToNatClampNeg, lo_i, lo_r, lo_n, kont_v, kont_n, List.length_nil, List.length_cons]
    exact hbad _ (thn_r hf) G1 K2 hK2
theorem c34s (hT : TX I N) (ho : o < 6) (hP : PG 1 f) (hS : CUn n I N (d + 8) 30 (nt (o + 1)) f) (hSf : CUf n I N (d + 8) 30) : C34 n I N (d + 9) (nt o) (some f) := by
  intro x L Φ G c b p0 q hb hcb hm hq hok hbad
  have h11 : ∀ G, LM I G 11 = I 11 := fun G => LM_o (by decide)
  have hg : ∀ p, p ≤ skp (I 11) N p := fun p => skp_ge
  have e1 : nt o < 6 := by rw [show (6 : Int32) = nt 6 from rfl, nt_lt (by omega) (by decide)]; exact ho
  have hJ : CT (LM I G) (tS (LM I G) (nt p0) (nt b) 0 q) N (.inl p0) := ct_ok hq hb
  have t5 : ∀ e, paP (I 11) N (some f) c b p0 = .inr e → ∀ G K, CT (LM I G) K N (.inr e) → wp (d + 9) 34 40 [.ref (28 : Nat), .ref (10 : Nat), .int (nt o)] [] (mk n K L x) Φ := by
    intro e he G K hK
    simp (config := {decide := true}) only [r34_40, r34_41, r34_43, if_true, if_false, Nat.reduceAdd, Int32.reduceToNatClampNeg, lo_i, lo_r, lo_n, kont_v, kont_n, List.length_nil, List.length_cons]
    refine c98 (TX_lm hT) (by decide) hK (fun K2 hK2 => kont_n.mpr ?_)
    simp (config := {decide := true}) only [r34_46, if_true, if_false, Nat.reduceAdd, Int32.reduceToNatClampNeg, lo_i, lo_r, lo_n, kont_v, kont_n, List.length_nil, List.length_cons]
    exact hbad e he G K2 hK2
  have t4 : ∀ e, paP (I 11) N (some f) c b p0 = .inr e → ∀ G K, CT (LM I G) K N (.inr e) → wp (d + 9) 34 32 [.ref (28 : Nat), .ref (10 : Nat), .int (nt o)] [] (mk n K L x) Φ := by
    intro e he G K hK
    simp (config := {decide := true}) only [r34_32, r34_33, r34_34, r34_35, r34_36, r34_37, if_true, if_false, Nat.reduceAdd, Int32.reduceToNatClampNeg, lo_i, lo_r, lo_n, kont_v, kont_n, List.length_nil, List.length_cons, k28, nt_succ]
    exact hSf _ _ _ G K e _ hK (fun G' K' hK' => kont_n.mpr (t5 e he G' K' hK'))
  have t3 : ∀ e, paP (I 11) N (some f) c b p0 = .inr e → ∀ G K, CT (LM I G) K N (.inr e) → wp (d + 9) 34 26 [.ref (28 : Nat), .ref (10 : Nat), .int (nt o)] [] (mk n K L x) Φ := by
    intro e he G K hK
    simp (config := {decide := true}) only [r34_26, r34_27, r34_29, if_true, if_false, Nat.reduceAdd, Int32.reduceToNatClampNeg, lo_i, lo_r, lo_n, kont_v, kont_n, List.length_nil, List.length_cons]
    exact c98 (TX_lm hT) (by decide) hK (fun K2 hK2 => kont_n.mpr (t4 e he G K2 hK2))
  have t2 : ∀ e, paP (I 11) N (some f) c b p0 = .inr e → ∀ G K, CT (LM I G) K N (.inr e) → wp (d + 9) 34 18 [.ref (28 : Nat), .ref (10 : Nat), .int (nt o)] [] (mk n K L x) Φ := by
    intro e he G K hK
    simp (config := {decide := true}) only [r34_18, r34_19, r34_20, r34_21, r34_22, r34_23, if_true, if_false, Nat.reduceAdd, Int32.reduceToNatClampNeg, lo_i, lo_r, lo_n, kont_v, kont_n, List.length_nil, List.length_cons, k28, nt_succ]
    exact hSf _ _ _ G K e _ hK (fun G' K' hK' => kont_n.mpr (t3 e he G' K' hK'))
  show wp (d + 9) 34 0 [.ref (28 : Nat), .ref (10 : Nat), .int (nt o)] [] (mk n (tS (LM I G) (nt p0) (nt b) 0 q) L x) Φ
  simp (config := {decide := true}) only [r34_0, r34_1, r34_3, r34_12, r34_13, r34_15, if_true, if_false, Nat.reduceAdd, Int32.reduceToNatClampNeg, lo_i, lo_r, lo_n, kont_v, kont_n, List.length_nil, List.length_cons, e1]
  refine c98 (TX_lm hT) (by decide) hJ (fun K hK => kont_n.mpr ?_)
  rw [h11] at hK
  by_cases hs1 : cur (I 11) N (skp (I 11) N p0) = 91
  · simp only [lSig, if_pos hs1] at hK
    have q1 := hg p0
    simp (config := {decide := true}) only [r34_18, r34_19, r34_20, r34_21, r34_22, r34_23, if_true, if_false, Nat.reduceAdd, Int32.reduceToNatClampNeg, lo_i, lo_r, lo_n, kont_v, kont_n, List.length_nil, List.length_cons, k28, nt_succ]
    refine hS _ _ _ G K c (skp (I 11) N p0 + 1) hm (by omega) hK (fun c1 p1 hf G1 K1 hm1 hK1 => kont_n.mpr ?_) (fun e hf G1 K1 hK1 => kont_n.mpr (t3 e ((thn_l (sgP_l hs1)).trans (thn_r hf)) G1 K1 hK1))
    obtain ⟨b1, b2, -⟩ := hP _ _ _ _ hf
    simp (config := {decide := true}) only [r34_26, r34_27, r34_29, if_true, if_false, Nat.reduceAdd, Int32.reduceToNatClampNeg, lo_i, lo_r, lo_n, kont_v, kont_n, List.length_nil, List.length_cons]
    refine c98 (TX_lm hT) (by decide) hK1 (fun K2 hK2 => kont_n.mpr ?_)
    rw [h11] at hK2
    by_cases hs2 : cur (I 11) N (skp (I 11) N p1) = 44
    · simp only [lSig, if_pos hs2] at hK2
      have q2 := hg p1
      simp (config := {decide := true}) only [r34_32, r34_33, r34_34, r34_35, r34_36, r34_37, if_true, if_false, Nat.reduceAdd, Int32.reduceToNatClampNeg, lo_i, lo_r, lo_n, kont_v, kont_n, List.length_nil, List.length_cons, k28, nt_succ]
      refine hS _ _ _ G1 K2 c1 (skp (I 11) N p1 + 1) hm1 (by omega) hK2 (fun c2 p2 hf2 G2 K3 hm2 hK3 => kont_n.mpr ?_) (fun e hf2 G2 K3 hK3 => kont_n.mpr (t5 e ((thn_l (sgP_l hs1)).trans ((thn_l hf).trans ((thn_l (sgP_l hs2)).trans (thn_r hf2)))) G2 K3 hK3))
      simp (config := {decide := true}) only [r34_40, r34_41, r34_43, if_true, if_false, Nat.reduceAdd, Int32.reduceToNatClampNeg, lo_i, lo_r, lo_n, kont_v, kont_n, List.length_nil, List.length_cons]
      refine c98 (TX_lm hT) (by decide) hK3 (fun K4 hK4 => kont_n.mpr ?_)
      rw [h11] at hK4
      simp (config := {decide := true}) only [r34_46, if_true, if_false, Nat.reduceAdd, Int32.reduceToNatClampNeg, lo_i, lo_r, lo_n, kont_v, kont_n, List.length_nil, List.length_cons]
      by_cases hs3 : cur (I 11) N (skp (I 11) N p2) = 93
      · simp only [lSig, if_pos hs3] at hK4
        exact hok _ _ ((thn_l (sgP_l hs1)).trans ((thn_l hf).trans ((thn_l (sgP_l hs2)).trans ((thn_l hf2).trans (sgP_l hs3))))) G2 K4 hm2 hK4
      · simp only [lSig, if_neg hs3] at hK4
        exact hbad _ ((thn_l (sgP_l hs1)).trans ((thn_l hf).trans ((thn_l (sgP_l hs2)).trans ((thn_l hf2).trans (sgP_r hs3))))) G2 K4 hK4
    · simp only [lSig, if_neg hs2] at hK2
      exact t4 _ ((thn_l (sgP_l hs1)).trans ((thn_l hf).trans (thn_r (sgP_r hs2)))) G1 K2 hK2
  · simp only [lSig, if_neg hs1] at hK
    exact t2 _ (thn_r (sgP_r hs1)) G K hK
theorem c32 (hT : TX I N) (hG : SG I 1 wd1) (hN : N ≤ 150) (hPS : ∀ f, S = some f → PG 1 f) (h33 : C33 n I N (d + 5) z S) (h34 : C34 n I N (d + 5) z S) : CUn n I N (d + 6) 32 z (rUn (I 11) N S) := by
  intro x L Φ G J c a hm hca hJ hok hbad
  have h11 : LM I G 11 = I 11 := LM_o (by decide)
  obtain ⟨ha, s, q, hq, rfl⟩ := id hJ
  have hc97 := fun Ψ => c97 (d := d + 5) (n := n) (L := L) (x := x) (s := s) (q := q) (Φ := Ψ) (TX_lm (G := G) hT) ha
  rw [h11] at hc97
  have hle : skp (I 11) N a ≤ N := endF_le ha
  have hge : a ≤ skp (I 11) N a := skp_ge
  have hrn : rNum (I 11) N 0 999 (skp (I 11) N a) = rNum (I 11) N 0 999 a := by unfold rNum; rw [skp_skp]
  have hrw : rWrd (I 11) N ws1 (skp (I 11) N a) = rWrd (I 11) N ws1 a := by unfold rWrd; rw [skp_skp]
  have hJ2 : CT (LM I G) (tS (LM I G) (nt (skp (I 11) N a)) (nt (skp (I 11) N a)) 0 q) N (.inl (skp (I 11) N a)) := ct_ok hq hle
  have fin : ∀ e, rUn (I 11) N S c a = .inr e → ∀ G K, CT (LM I G) K N (.inr e) → ∀ v3 v4, wp (d + 6) 32 89 [.ref (28 : Nat), .ref (10 : Nat), .int z, v3, v4] [] (mk n K L x) Φ := by
    intro e he G K hK v3 v4
    simp (config := {decide := true}) only [r32_89, if_true, if_false, Nat.reduceAdd, Int32.reduceToNatClampNeg, lo_i, lo_r, lo_n, kont_v, kont_n, List.length_nil, List.length_cons]
    exact hbad e he G K hK
  show wp (d + 6) 32 0 [.ref (28 : Nat), .ref (10 : Nat), .int z, noV, noV] [] (mk n (tS (LM I G) (nt a) s 0 q) L x) Φ
  simp (config := {decide := true}) only [r32_0, r32_1, r32_4, r32_5, r32_6, if_true, if_false, Nat.reduceAdd, Int32.reduceToNatClampNeg, lo_i, lo_r, lo_n, kont_v, kont_n, List.length_nil, List.length_cons, hc97, c103]
  by_cases hd : isDg (cur (I 11) N (skp (I 11) N a)) = true
  · simp (config := {decide := true}) only [r32_9, r32_12, r32_13, r32_14, r32_15, r32_18, if_true, if_false, Nat.reduceAdd, Int32.reduceToNatClampNeg, lo_i, lo_r, lo_n, kont_v, kont_n, List.length_nil, List.length_cons, hd]
    refine c100a (TX_lm hT) hJ2 (by decide) ?_ ?_
    · intro V p1 hn q1 hq1 hp1
      rw [h11, hrn] at hn
      have hg := rNum_ge hn
      refine kont_v.mpr ?_
      simp (config := {decide := true}) only [r32_21, if_true, if_false, Nat.reduceAdd, Int32.reduceToNatClampNeg, lo_i, lo_r, lo_n, kont_v, kont_n, List.length_nil, List.length_cons, k28]
      refine c35 (k := 0) (u := V) (ct_ok hq1 hp1) hm (by omega) rfl (fun G' K hm' hK => kont_n.mpr ?_)
      simp (config := {decide := true}) only [r32_24, r32_89, if_true, if_false, Nat.reduceAdd, Int32.reduceToNatClampNeg, lo_i, lo_r, lo_n, kont_v, kont_n, List.length_nil, List.length_cons]
      exact hok _ _ (by unfold rUn; rw [if_pos hd, hn]) G' K hm' hK
    · intro e he v1 K hK
      rw [h11, hrn] at he
      refine kont_v.mpr ?_
      simp (config := {decide := true}) only [r32_21, if_true, if_false, Nat.reduceAdd, Int32.reduceToNatClampNeg, lo_i, lo_r, lo_n, kont_v, kont_n, List.length_nil, List.length_cons, k28]
      refine c35f hK (fun G' K' hK' => kont_n.mpr ?_)
      simp (config := {decide := true}) only [r32_24, if_true, if_false, Nat.reduceAdd, Int32.reduceToNatClampNeg, lo_i, lo_r, lo_n, kont_v, kont_n, List.length_nil, List.length_cons]
      exact fin e (by unfold rUn; rw [if_pos hd, he]) G' K' hK' _ _
  · by_cases h40 : cur (I 11) N (skp (I 11) N a) = 40
    · simp (config := {decide := true}) only [r32_9, r32_27, r32_28, r32_30, r32_33, r32_34, r32_35, r32_36, if_true, if_false, Nat.reduceAdd, Int32.reduceToNatClampNeg, lo_i, lo_r, lo_n, kont_v, kont_n, List.length_nil, List.length_cons, hd, h40, k28]
      refine h33 _ _ _ G c (skp (I 11) N a) q hle (by omega) h40 skp_skp hm hq (fun c' p' he G' K hm' hK => kont_n.mpr ?_) (fun e he G' K hK => kont_n.mpr ?_)
      · simp (config := {decide := true}) only [r32_39, r32_89, if_true, if_false, Nat.reduceAdd, Int32.reduceToNatClampNeg, lo_i, lo_r, lo_n, kont_v, kont_n, List.length_nil, List.length_cons]
        exact hok c' p' (by unfold rUn; rw [if_neg hd, if_pos h40]; exact he) G' K hm' hK
      · simp (config := {decide := true}) only [r32_39, if_true, if_false, Nat.reduceAdd, Int32.reduceToNatClampNeg, lo_i, lo_r, lo_n, kont_v, kont_n, List.length_nil, List.length_cons]
        exact fin e (by unfold rUn; rw [if_neg hd, if_pos h40]; exact he) G' K hK _ _
    · simp (config := {decide := true}) only [r32_9, r32_27, r32_28, r32_30, r32_42, r32_43, r32_45, if_true, if_false, Nat.reduceAdd, Int32.reduceToNatClampNeg, lo_i, lo_r, lo_n, kont_v, kont_n, List.length_nil, List.length_cons, hd, h40]
      refine c101a (TX_lm hT) (SG_lm hG) sw1 (by decide) hJ2 ?_ ?_
      · intro k p1 hw q1 hq1 hp1
        rw [h11, hrw] at hw
        rw [show skp (LM I G 11) N (skp (I 11) N a) = skp (I 11) N a from by rw [h11]; exact skp_skp]
        have hg := rWrd_ge ws1_p hw
        have hl : k < 11 := rWrd_lt hw
        refine kont_v.mpr ?_
        by_cases h9 : k < 9
        · have e9 : nt k < 9 := by rw [show (9 : Int32) = nt 9 from rfl, nt_lt (by omega) (by decide)]; exact h9
          have ek : (1000 : Int32) + nt k = nt (sgn (1, k)) := (show (1000 : Int32) = nt 1000 from rfl) ▸ nt_add 1000 k
          simp (config := {decide := true}) only [r32_48, r32_50, r32_52, r32_54, r32_79, r32_80, r32_83, r32_85, r32_86, if_true, if_false, Nat.reduceAdd, Int32.reduceToNatClampNeg, lo_i, lo_r, lo_n, kont_v, kont_n, List.length_nil, List.length_cons, e9, k28]
          refine c35 (k := 1) (u := k) (ct_ok hq1 hp1) hm (by omega) ek (fun G' K hm' hK => kont_n.mpr ?_)
          simp (config := {decide := true}) only [r32_89, if_true, if_false, Nat.reduceAdd, Int32.reduceToNatClampNeg, lo_i, lo_r, lo_n, kont_v, kont_n, List.length_nil, List.length_cons]
          exact hok _ _ (by unfold rUn; rw [if_neg hd, if_neg h40, hw]; simp only [if_pos h9]) G' K hm' hK
        · have e9 : ¬ (nt k < 9) := by rw [show (9 : Int32) = nt 9 from rfl, nt_lt (by omega) (by decide)]; exact h9
          simp (config := {decide := true}) only [r32_48, r32_50, r32_52, r32_54, r32_57, r32_58, r32_59, r32_60, if_true, if_false, Nat.reduceAdd, Int32.reduceToNatClampNeg, lo_i, lo_r, lo_n, kont_v, kont_n, List.length_nil, List.length_cons, e9, k28]
          refine h34 _ _ _ G c (skp (I 11) N a) p1 q1 hp1 (by omega) hm hq1 (fun c1 p2 hp G' K hm' hK => kont_n.mpr ?_) (fun e hp G' K hK => kont_n.mpr ?_)
          · obtain ⟨b1, b2, -⟩ := paP_P hPS hp
            have hp2 : p2 ≤ N := hK.1
            have ek : (2005 : Int32) + nt k - 9 = nt (sgn (k - 2, 0)) := by
              have e1 : sgn (k - 2, 0) = 2005 + k - 9 := by
                have : k = 9 ∨ k = 10 := by omega
                rcases this with rfl | rfl <;> rfl
              rw [e1, show (2005 : Int32) = nt 2005 from rfl, nt_add, show (9 : Int32) = nt 9 from rfl, nt_sub (by omega)]
            simp (config := {decide := true}) only [r32_63, r32_64, r32_67, r32_69, r32_70, r32_72, r32_73, if_true, if_false, Nat.reduceAdd, Int32.reduceToNatClampNeg, lo_i, lo_r, lo_n, kont_v, kont_n, List.length_nil, List.length_cons, k28]
            refine c35 (k := k - 2) (u := 0) hK hm' (by omega) ek (fun G' K hm' hK => kont_n.mpr ?_)
            simp (config := {decide := true}) only [r32_76, r32_89, if_true, if_false, Nat.reduceAdd, Int32.reduceToNatClampNeg, lo_i, lo_r, lo_n, kont_v, kont_n, List.length_nil, List.length_cons]
            exact hok _ _ (by unfold rUn; rw [if_neg hd, if_neg h40, hw]; simp only [if_neg h9]; rw [hp]) G' K hm' hK
          · simp (config := {decide := true}) only [r32_63, r32_64, r32_67, r32_69, r32_70, r32_72, r32_73, if_true, if_false, Nat.reduceAdd, Int32.reduceToNatClampNeg, lo_i, lo_r, lo_n, kont_v, kont_n, List.length_nil, List.length_cons, k28]
            refine c35f hK (fun G' K' hK' => kont_n.mpr ?_)
            simp (config := {decide := true}) only [r32_76, if_true, if_false, Nat.reduceAdd, Int32.reduceToNatClampNeg, lo_i, lo_r, lo_n, kont_v, kont_n, List.length_nil, List.length_cons]
            exact fin e (by unfold rUn; rw [if_neg hd, if_neg h40, hw]; simp only [if_neg h9]; rw [hp]) G' K' hK' _ _
      · intro e he K hK
        rw [h11, hrw] at he
        refine kont_v.mpr ?_
        simp (config := {decide := true}) only [r32_48, r32_50, r32_52, r32_54, r32_79, r32_80, r32_83, r32_85, r32_86, if_true, if_false, Nat.reduceAdd, Int32.reduceToNatClampNeg, lo_i, lo_r, lo_n, kont_v, kont_n, List.length_nil, List.length_cons, k28]
        refine c35f hK (fun G' K' hK' => kont_n.mpr ?_)
        exact fin e (by unfold rUn; rw [if_neg hd, if_neg h40, he]) G' K' hK' _ _
theorem c31L (hT : TX I N) (hN : N ≤ 150) (hU : CUn n I N (d + 6) 32 z U) (hP : PG 1 U) : ∀ f i c a G J v4, i + f = 150 → N ≤ a + f → Lc G c → c.1 ≤ a → CT (LM I G) J N (.inl a) → (∀ c' p', rLp (I 11) N tyP U f c a = .inl (c', p') → ∀ G' K, Lc G' c' → CT (LM I G') K N (.inl p') → Φ (.inl none) (mk n K L x)) → (∀ e, rLp (I 11) N tyP U f c a = .inr e → ∀ G' K, CT (LM I G') K N (.inr e) → Φ (.inl none) (mk n K L x)) → wp (d + 7) 31 8 [.ref (28 : Nat), .ref (10 : Nat), .int z, .int (nt i), v4] [] (mk n J L x) Φ := by
  have h11 : ∀ G, LM I G 11 = I 11 := fun G => LM_o (by decide)
  intro f
  induction f with
  | zero =>
    intro i c a G J v4 hi hNa hm hca hJ hok hbad
    have e1 : 150 ≤ nt i := by rw [show (150 : Int32) = nt 150 from rfl, nt_le (by decide) (by omega)]; omega
    rw [r31_8]
    simp (config := {decide := true}) only [r31_9, r31_12, r31_101, if_true, if_false, Nat.reduceAdd, Int32.reduceToNatClampNeg, lo_i, lo_r, lo_n, kont_v, kont_n, List.length_nil, List.length_cons, e1]
    exact hok c a rfl G J hm hJ
  | succ f ih =>
    intro i c a G J v4 hi hNa hm hca hJ hok hbad
    have e1 : ¬ (150 ≤ nt i) := nt_nle (m := 150) (by omega) (by decide)
    have e0 : flt (.inl a) = 0 := rfl
    have hc95 := fun Ψ => c95t (d := d + 6) (n := n) (L := L) (x := x) (Φ := Ψ) hJ
    obtain ⟨ha, s, q, hq, rfl⟩ := id hJ
    have hc97 := fun Ψ => c97 (d := d + 6) (n := n) (L := L) (x := x) (s := s) (q := q) (Φ := Ψ) (TX_lm (G := G) hT) ha
    rw [h11] at hc97
    have hle : skp (I 11) N a ≤ N := endF_le ha
    have hge : a ≤ skp (I 11) N a := skp_ge
    have hJ2 : CT (LM I G) (tS (LM I G) (nt (skp (I 11) N a)) (nt (skp (I 11) N a)) 0 q) N (.inl (skp (I 11) N a)) := ct_ok hq hle
    have tb : ∀ e, rLp (I 11) N tyP U (f + 1) c a = .inr e → ∀ (i : Int32) G K v4, CT (LM I G) K N (.inr e) → wp (d + 7) 31 8 [.ref (28 : Nat), .ref (10 : Nat), .int z, .int i, v4] [] (mk n K L x) Φ := by
      intro e he i G K v4 hK
      have e2 : ¬ flt (.inr e) = 0 := hK.1
      rw [r31_8]
      by_cases e3 : 150 ≤ i
      · simp (config := {decide := true}) only [r31_9, r31_12, r31_101, if_true, if_false, Nat.reduceAdd, Int32.reduceToNatClampNeg, lo_i, lo_r, lo_n, kont_v, kont_n, List.length_nil, List.length_cons, e3]
        exact hbad e he G K hK
      · simp (config := {decide := true}) only [r31_9, r31_12, r31_15, r31_16, r31_19, r31_101, if_true, if_false, Nat.reduceAdd, Int32.reduceToNatClampNeg, lo_i, lo_r, lo_n, kont_v, kont_n, List.length_nil, List.length_cons, e3, c95t hK, e2]
        exact hbad e he G K hK
    rw [r31_8]
    by_cases s42 : cur (I 11) N (skp (I 11) N a) = 42
    · have hty : tyP (cur (I 11) N (skp (I 11) N a)) = 4 := by rw [s42]; rfl
      simp (config := {decide := true}) only [r31_9, r31_12, r31_15, r31_16, r31_19, r31_22, r31_23, r31_26, r31_28, r31_30, r31_32, r31_35, r31_37, r31_39, r31_42, r31_44, r31_46, r31_50, r31_51, r31_53, if_true, if_false, Nat.reduceAdd, Int32.reduceToNatClampNeg, lo_i, lo_r, lo_n, kont_v, kont_n, List.length_nil, List.length_cons, e1, hc95, e0, hc97, s42]
      refine c98 (TX_lm hT) (by decide) hJ2 (fun K hK => kont_n.mpr ?_)
      rw [h11] at hK
      simp only [lSig, skp_skp, s42, if_true] at hK
      simp (config := {decide := true}) only [r31_56, r31_57, r31_58, r31_59, if_true, if_false, Nat.reduceAdd, Int32.reduceToNatClampNeg, lo_i, lo_r, lo_n, kont_v, kont_n, List.length_nil, List.length_cons, k28]
      refine hU _ _ _ G K c (skp (I 11) N a + 1) hm (by omega) hK (fun c1 p1 hf G1 K1 hm1 hK1 => kont_n.mpr ?_) (fun e hf G1 K1 hK1 => kont_n.mpr ?_)
      · obtain ⟨b1, b2, -⟩ := hP _ _ _ _ hf
        have hp1 : p1 ≤ N := hK1.1
        have hstep := rLp_s (B := I 11) (N := N) (f := f) hty (by decide) hf
        rw [hstep] at hok hbad
        simp (config := {decide := true}) only [r31_62, r31_63, r31_65, r31_67, r31_70, r31_73, r31_76, r31_78, r31_80, r31_83, r31_86, r31_89, r31_92, if_true, if_false, Nat.reduceAdd, Int32.reduceToNatClampNeg, lo_i, lo_r, lo_n, kont_v, kont_n, List.length_nil, List.length_cons, k28]
        refine c35 (k := 4) (u := 0) hK1 hm1 (by omega) rfl (fun G2 K2 hm2 hK2 => kont_n.mpr ?_)
        simp (config := {decide := true}) only [r31_95, r31_98, if_true, if_false, Nat.reduceAdd, Int32.reduceToNatClampNeg, lo_i, lo_r, lo_n, kont_v, kont_n, List.length_nil, List.length_cons, nt_succ]
        exact ih (i + 1) _ p1 G2 K2 _ (by omega) (by omega) hm2 (by show c1.1 + 1 ≤ p1; omega) hK2 hok hbad
      · simp (config := {decide := true}) only [r31_62, r31_63, r31_65, r31_67, r31_70, r31_73, r31_76, r31_78, r31_80, r31_83, r31_86, r31_89, r31_92, if_true, if_false, Nat.reduceAdd, Int32.reduceToNatClampNeg, lo_i, lo_r, lo_n, kont_v, kont_n, List.length_nil, List.length_cons, k28]
        refine c35f hK1 (fun G2 K2 hK2 => kont_n.mpr ?_)
        simp (config := {decide := true}) only [r31_95, r31_98, if_true, if_false, Nat.reduceAdd, Int32.reduceToNatClampNeg, lo_i, lo_r, lo_n, kont_v, kont_n, List.length_nil, List.length_cons]
        exact tb e (rLp_r (by rw [hty]; decide) hf) _ G2 K2 _ hK2
    by_cases s47 : cur (I 11) N (skp (I 11) N a) = 47
    · have hty : tyP (cur (I 11) N (skp (I 11) N a)) = 5 := by rw [s47]; rfl
      simp (config := {decide := true}) only [r31_9, r31_12, r31_15, r31_16, r31_19, r31_22, r31_23, r31_26, r31_28, r31_30, r31_32, r31_35, r31_37, r31_39, r31_42, r31_44, r31_46, r31_50, r31_51, r31_53, if_true, if_false, Nat.reduceAdd, Int32.reduceToNatClampNeg, lo_i, lo_r, lo_n, kont_v, kont_n, List.length_nil, List.length_cons, e1, hc95, e0, hc97, s47]
      refine c98 (TX_lm hT) (by decide) hJ2 (fun K hK => kont_n.mpr ?_)
      rw [h11] at hK
      simp only [lSig, skp_skp, s47, if_true] at hK
      simp (config := {decide := true}) only [r31_56, r31_57, r31_58, r31_59, if_true, if_false, Nat.reduceAdd, Int32.reduceToNatClampNeg, lo_i, lo_r, lo_n, kont_v, kont_n, List.length_nil, List.length_cons, k28]
      refine hU _ _ _ G K c (skp (I 11) N a + 1) hm (by omega) hK (fun c1 p1 hf G1 K1 hm1 hK1 => kont_n.mpr ?_) (fun e hf G1 K1 hK1 => kont_n.mpr ?_)
      · obtain ⟨b1, b2, -⟩ := hP _ _ _ _ hf
        have hp1 : p1 ≤ N := hK1.1
        have hstep := rLp_s (B := I 11) (N := N) (f := f) hty (by decide) hf
        rw [hstep] at hok hbad
        simp (config := {decide := true}) only [r31_62, r31_63, r31_65, r31_67, r31_70, r31_73, r31_76, r31_78, r31_80, r31_83, r31_86, r31_89, r31_92, if_true, if_false, Nat.reduceAdd, Int32.reduceToNatClampNeg, lo_i, lo_r, lo_n, kont_v, kont_n, List.length_nil, List.length_cons, k28]
        refine c35 (k := 5) (u := 0) hK1 hm1 (by omega) rfl (fun G2 K2 hm2 hK2 => kont_n.mpr ?_)
        simp (config := {decide := true}) only [r31_95, r31_98, if_true, if_false, Nat.reduceAdd, Int32.reduceToNatClampNeg, lo_i, lo_r, lo_n, kont_v, kont_n, List.length_nil, List.length_cons, nt_succ]
        exact ih (i + 1) _ p1 G2 K2 _ (by omega) (by omega) hm2 (by show c1.1 + 1 ≤ p1; omega) hK2 hok hbad
      · simp (config := {decide := true}) only [r31_62, r31_63, r31_65, r31_67, r31_70, r31_73, r31_76, r31_78, r31_80, r31_83, r31_86, r31_89, r31_92, if_true, if_false, Nat.reduceAdd, Int32.reduceToNatClampNeg, lo_i, lo_r, lo_n, kont_v, kont_n, List.length_nil, List.length_cons, k28]
        refine c35f hK1 (fun G2 K2 hK2 => kont_n.mpr ?_)
        simp (config := {decide := true}) only [r31_95, r31_98, if_true, if_false, Nat.reduceAdd, Int32.reduceToNatClampNeg, lo_i, lo_r, lo_n, kont_v, kont_n, List.length_nil, List.length_cons]
        exact tb e (rLp_r (by rw [hty]; decide) hf) _ G2 K2 _ hK2
    by_cases s37 : cur (I 11) N (skp (I 11) N a) = 37
    · have hty : tyP (cur (I 11) N (skp (I 11) N a)) = 6 := by rw [s37]; rfl
      simp (config := {decide := true}) only [r31_9, r31_12, r31_15, r31_16, r31_19, r31_22, r31_23, r31_26, r31_28, r31_30, r31_32, r31_35, r31_37, r31_39, r31_42, r31_44, r31_46, r31_50, r31_51, r31_53, if_true, if_false, Nat.reduceAdd, Int32.reduceToNatClampNeg, lo_i, lo_r, lo_n, kont_v, kont_n, List.length_nil, List.length_cons, e1, hc95, e0, hc97, s37]
      refine c98 (TX_lm hT) (by decide) hJ2 (fun K hK => kont_n.mpr ?_)
      rw [h11] at hK
      simp only [lSig, skp_skp, s37, if_true] at hK
      simp (config := {decide := true}) only [r31_56, r31_57, r31_58, r31_59, if_true, if_false, Nat.reduceAdd, Int32.reduceToNatClampNeg, lo_i, lo_r, lo_n, kont_v, kont_n, List.length_nil, List.length_cons, k28]
      refine hU _ _ _ G K c (skp (I 11) N a + 1) hm (by omega) hK (fun c1 p1 hf G1 K1 hm1 hK1 => kont_n.mpr ?_) (fun e hf G1 K1 hK1 => kont_n.mpr ?_)
      · obtain ⟨b1, b2, -⟩ := hP _ _ _ _ hf
        have hp1 : p1 ≤ N := hK1.1
        have hstep := rLp_s (B := I 11) (N := N) (f := f) hty (by decide) hf
        rw [hstep] at hok hbad
        simp (config := {decide := true}) only [r31_62, r31_63, r31_65, r31_67, r31_70, r31_73, r31_76, r31_78, r31_80, r31_83, r31_86, r31_89, r31_92, if_true, if_false, Nat.reduceAdd, Int32.reduceToNatClampNeg, lo_i, lo_r, lo_n, kont_v, kont_n, List.length_nil, List.length_cons, k28]
        refine c35 (k := 6) (u := 0) hK1 hm1 (by omega) rfl (fun G2 K2 hm2 hK2 => kont_n.mpr ?_)
        simp (config := {decide := true}) only [r31_95, r31_98, if_true, if_false, Nat.reduceAdd, Int32.reduceToNatClampNeg, lo_i, lo_r, lo_n, kont_v, kont_n, List.length_nil, List.length_cons, nt_succ]
        exact ih (i + 1) _ p1 G2 K2 _ (by omega) (by omega) hm2 (by show c1.1 + 1 ≤ p1; omega) hK2 hok hbad
      · simp (config := {decide := true}) only [r31_62, r31_63, r31_65, r31_67, r31_70, r31_73, r31_76, r31_78, r31_80, r31_83, r31_86, r31_89, r31_92, if_true, if_false, Nat.reduceAdd, Int32.reduceToNatClampNeg, lo_i, lo_r, lo_n, kont_v, kont_n, List.length_nil, List.length_cons, k28]
        refine c35f hK1 (fun G2 K2 hK2 => kont_n.mpr ?_)
        simp (config := {decide := true}) only [r31_95, r31_98, if_true, if_false, Nat.reduceAdd, Int32.reduceToNatClampNeg, lo_i, lo_r, lo_n, kont_v, kont_n, List.length_nil, List.length_cons]
        exact tb e (rLp_r (by rw [hty]; decide) hf) _ G2 K2 _ hK2
    have hty : tyP (cur (I 11) N (skp (I 11) N a)) = 0 := by unfold tyP; rw [if_neg s42, if_neg s47, if_neg s37]
    simp (config := {decide := true}) only [r31_9, r31_12, r31_15, r31_16, r31_19, r31_22, r31_23, r31_26, r31_28, r31_30, r31_32, r31_35, r31_37, r31_39, r31_42, r31_44, r31_46, r31_49, if_true, if_false, Nat.reduceAdd, Int32.reduceToNatClampNeg, lo_i, lo_r, lo_n, kont_v, kont_n, List.length_nil, List.length_cons, e1, hc95, e0, hc97, s42, s47, s37]
    exact hok c _ (rLp_0 hty) G _ hm hJ2
theorem c31 (hT : TX I N) (hN : N ≤ 150) (hU : CUn n I N (d + 6) 32 z U) (hP : PG 1 U) : CUn n I N (d + 7) 31 z (thn U (rLp (I 11) N tyP U 150)) := by
  intro x L Φ G J c a hm hca hJ hok hbad
  show wp (d + 7) 31 0 [.ref (28 : Nat), .ref (10 : Nat), .int z, noV, noV] [] (mk n J L x) Φ
  simp (config := {decide := true}) only [r31_0, r31_1, r31_2, r31_3, if_true, if_false, Nat.reduceAdd, Int32.reduceToNatClampNeg, lo_i, lo_r, lo_n, kont_v, kont_n, List.length_nil, List.length_cons, k28]
  refine hU _ _ _ G J c a hm hca hJ (fun c1 p1 hf G1 K1 hm1 hK1 => kont_n.mpr ?_) (fun e hf G1 K1 hK1 => kont_n.mpr ?_)
  · obtain ⟨b1, b2, -⟩ := hP _ _ _ _ hf
    have hstep : thn U (rLp (I 11) N tyP U 150) c a = rLp (I 11) N tyP U 150 c1 p1 := thn_l hf
    rw [hstep] at hok hbad
    simp (config := {decide := true}) only [r31_6, r31_7, if_true, if_false, Nat.reduceAdd, Int32.reduceToNatClampNeg, lo_i, lo_r, lo_n, kont_v, kont_n, List.length_nil, List.length_cons]
    exact c31L hT hN hU hP 150 0 c1 p1 G1 K1 _ rfl (by omega) hm1 (by omega) hK1 hok hbad
  · have e1 : ¬ flt (.inr e) = 0 := hK1.1
    simp (config := {decide := true}) only [r31_6, r31_7, r31_8, r31_9, r31_12, r31_15, r31_16, r31_19, r31_101, if_true, if_false, Nat.reduceAdd, Int32.reduceToNatClampNeg, lo_i, lo_r, lo_n, kont_v, kont_n, List.length_nil, List.length_cons, c95t hK1, e1]
    exact hbad e (thn_r hf) G1 K1 hK1
theorem c30L (hT : TX I N) (hN : N ≤ 150) (hU : CUn n I N (d + 7) 31 z U) (hP : PG 1 U) : ∀ f i c a G J v4, i + f = 150 → N ≤ a + f → Lc G c → c.1 ≤ a → CT (LM I G) J N (.inl a) → (∀ c' p', rLp (I 11) N tyS U f c a = .inl (c', p') → ∀ G' K, Lc G' c' → CT (LM I G') K N (.inl p') → Φ (.inl none) (mk n K L x)) → (∀ e, rLp (I 11) N tyS U f c a = .inr e → ∀ G' K, CT (LM I G') K N (.inr e) → Φ (.inl none) (mk n K L x)) → wp (d + 8) 30 8 [.ref (28 : Nat), .ref (10 : Nat), .int z, .int (nt i), v4] [] (mk n J L x) Φ := by
  have h11 : ∀ G, LM I G 11 = I 11 := fun G => LM_o (by decide)
  intro f
  induction f with
  | zero =>
    intro i c a G J v4 hi hNa hm hca hJ hok hbad
    have e1 : 150 ≤ nt i := by rw [show (150 : Int32) = nt 150 from rfl, nt_le (by decide) (by omega)]; omega
    rw [r30_8]
    simp (config := {decide := true}) only [r30_9, r30_12, r30_81, if_true, if_false, Nat.reduceAdd, Int32.reduceToNatClampNeg, lo_i, lo_r, lo_n, kont_v, kont_n, List.length_nil, List.length_cons, e1]
    exact hok c a rfl G J hm hJ
  | succ f ih =>
    intro i c a G J v4 hi hNa hm hca hJ hok hbad
    have e1 : ¬ (150 ≤ nt i) := nt_nle (m := 150) (by omega) (by decide)
    have e0 : flt (.inl a) = 0 := rfl
    have hc95 := fun Ψ => c95t (d := d + 7) (n := n) (L := L) (x := x) (Φ := Ψ) hJ
    obtain ⟨ha, s, q, hq, rfl⟩ := id hJ
    have hc97 := fun Ψ => c97 (d := d + 7) (n := n) (L := L) (x := x) (s := s) (q := q) (Φ := Ψ) (TX_lm (G := G) hT) ha
    rw [h11] at hc97
    have hle : skp (I 11) N a ≤ N := endF_le ha
    have hge : a ≤ skp (I 11) N a := skp_ge
    have hJ2 : CT (LM I G) (tS (LM I G) (nt (skp (I 11) N a)) (nt (skp (I 11) N a)) 0 q) N (.inl (skp (I 11) N a)) := ct_ok hq hle
    have tb : ∀ e, rLp (I 11) N tyS U (f + 1) c a = .inr e → ∀ (i : Int32) G K v4, CT (LM I G) K N (.inr e) → wp (d + 8) 30 8 [.ref (28 : Nat), .ref (10 : Nat), .int z, .int i, v4] [] (mk n K L x) Φ := by
      intro e he i G K v4 hK
      have e2 : ¬ flt (.inr e) = 0 := hK.1
      rw [r30_8]
      by_cases e3 : 150 ≤ i
      · simp (config := {decide := true}) only [r30_9, r30_12, r30_81, if_true, if_false, Nat.reduceAdd, Int32.reduceToNatClampNeg, lo_i, lo_r, lo_n, kont_v, kont_n, List.length_nil, List.length_cons, e3]
        exact hbad e he G K hK
      · simp (config := {decide := true}) only [r30_9, r30_12, r30_15, r30_16, r30_19, r30_81, if_true, if_false, Nat.reduceAdd, Int32.reduceToNatClampNeg, lo_i, lo_r, lo_n, kont_v, kont_n, List.length_nil, List.length_cons, e3, c95t hK, e2]
        exact hbad e he G K hK
    rw [r30_8]
    by_cases s43 : cur (I 11) N (skp (I 11) N a) = 43
    · have hty : tyS (cur (I 11) N (skp (I 11) N a)) = 2 := by rw [s43]; rfl
      simp (config := {decide := true}) only [r30_9, r30_12, r30_15, r30_16, r30_19, r30_22, r30_23, r30_26, r30_28, r30_30, r30_32, r30_35, r30_37, r30_39, r30_43, r30_44, r30_46, if_true, if_false, Nat.reduceAdd, Int32.reduceToNatClampNeg, lo_i, lo_r, lo_n, kont_v, kont_n, List.length_nil, List.length_cons, e1, hc95, e0, hc97, s43]
      refine c98 (TX_lm hT) (by decide) hJ2 (fun K hK => kont_n.mpr ?_)
      rw [h11] at hK
      simp only [lSig, skp_skp, s43, if_true] at hK
      simp (config := {decide := true}) only [r30_49, r30_50, r30_51, r30_52, if_true, if_false, Nat.reduceAdd, Int32.reduceToNatClampNeg, lo_i, lo_r, lo_n, kont_v, kont_n, List.length_nil, List.length_cons, k28]
      refine hU _ _ _ G K c (skp (I 11) N a + 1) hm (by omega) hK (fun c1 p1 hf G1 K1 hm1 hK1 => kont_n.mpr ?_) (fun e hf G1 K1 hK1 => kont_n.mpr ?_)
      · obtain ⟨b1, b2, -⟩ := hP _ _ _ _ hf
        have hp1 : p1 ≤ N := hK1.1
        have hstep := rLp_s (B := I 11) (N := N) (f := f) hty (by decide) hf
        rw [hstep] at hok hbad
        simp (config := {decide := true}) only [r30_55, r30_56, r30_58, r30_60, r30_63, r30_66, r30_69, r30_72, if_true, if_false, Nat.reduceAdd, Int32.reduceToNatClampNeg, lo_i, lo_r, lo_n, kont_v, kont_n, List.length_nil, List.length_cons, k28]
        refine c35 (k := 2) (u := 0) hK1 hm1 (by omega) rfl (fun G2 K2 hm2 hK2 => kont_n.mpr ?_)
        simp (config := {decide := true}) only [r30_75, r30_78, if_true, if_false, Nat.reduceAdd, Int32.reduceToNatClampNeg, lo_i, lo_r, lo_n, kont_v, kont_n, List.length_nil, List.length_cons, nt_succ]
        exact ih (i + 1) _ p1 G2 K2 _ (by omega) (by omega) hm2 (by show c1.1 + 1 ≤ p1; omega) hK2 hok hbad
      · simp (config := {decide := true}) only [r30_55, r30_56, r30_58, r30_60, r30_63, r30_66, r30_69, r30_72, if_true, if_false, Nat.reduceAdd, Int32.reduceToNatClampNeg, lo_i, lo_r, lo_n, kont_v, kont_n, List.length_nil, List.length_cons, k28]
        refine c35f hK1 (fun G2 K2 hK2 => kont_n.mpr ?_)
        simp (config := {decide := true}) only [r30_75, r30_78, if_true, if_false, Nat.reduceAdd, Int32.reduceToNatClampNeg, lo_i, lo_r, lo_n, kont_v, kont_n, List.length_nil, List.length_cons]
        exact tb e (rLp_r (by rw [hty]; decide) hf) _ G2 K2 _ hK2
    by_cases s45 : cur (I 11) N (skp (I 11) N a) = 45
    · have hty : tyS (cur (I 11) N (skp (I 11) N a)) = 3 := by rw [s45]; rfl
      simp (config := {decide := true}) only [r30_9, r30_12, r30_15, r30_16, r30_19, r30_22, r30_23, r30_26, r30_28, r30_30, r30_32, r30_35, r30_37, r30_39, r30_43, r30_44, r30_46, if_true, if_false, Nat.reduceAdd, Int32.reduceToNatClampNeg, lo_i, lo_r, lo_n, kont_v, kont_n, List.length_nil, List.length_cons, e1, hc95, e0, hc97, s45]
      refine c98 (TX_lm hT) (by decide) hJ2 (fun K hK => kont_n.mpr ?_)
      rw [h11] at hK
      simp only [lSig, skp_skp, s45, if_true] at hK
      simp (config := {decide := true}) only [r30_49, r30_50, r30_51, r30_52, if_true, if_false, Nat.reduceAdd, Int32.reduceToNatClampNeg, lo_i, lo_r, lo_n, kont_v, kont_n, List.length_nil, List.length_cons, k28]
      refine hU _ _ _ G K c (skp (I 11) N a + 1) hm (by omega) hK (fun c1 p1 hf G1 K1 hm1 hK1 => kont_n.mpr ?_) (fun e hf G1 K1 hK1 => kont_n.mpr ?_)
      · obtain ⟨b1, b2, -⟩ := hP _ _ _ _ hf
        have hp1 : p1 ≤ N := hK1.1
        have hstep := rLp_s (B := I 11) (N := N) (f := f) hty (by decide) hf
        rw [hstep] at hok hbad
        simp (config := {decide := true}) only [r30_55, r30_56, r30_58, r30_60, r30_63, r30_66, r30_69, r30_72, if_true, if_false, Nat.reduceAdd, Int32.reduceToNatClampNeg, lo_i, lo_r, lo_n, kont_v, kont_n, List.length_nil, List.length_cons, k28]
        refine c35 (k := 3) (u := 0) hK1 hm1 (by omega) rfl (fun G2 K2 hm2 hK2 => kont_n.mpr ?_)
        simp (config := {decide := true}) only [r30_75, r30_78, if_true, if_false, Nat.reduceAdd, Int32.reduceToNatClampNeg, lo_i, lo_r, lo_n, kont_v, kont_n, List.length_nil, List.length_cons, nt_succ]
        exact ih (i + 1) _ p1 G2 K2 _ (by omega) (by omega) hm2 (by show c1.1 + 1 ≤ p1; omega) hK2 hok hbad
      · simp (config := {decide := true}) only [r30_55, r30_56, r30_58, r30_60, r30_63, r30_66, r30_69, r30_72, if_true, if_false, Nat.reduceAdd, Int32.reduceToNatClampNeg, lo_i, lo_r, lo_n, kont_v, kont_n, List.length_nil, List.length_cons, k28]
        refine c35f hK1 (fun G2 K2 hK2 => kont_n.mpr ?_)
        simp (config := {decide := true}) only [r30_75, r30_78, if_true, if_false, Nat.reduceAdd, Int32.reduceToNatClampNeg, lo_i, lo_r, lo_n, kont_v, kont_n, List.length_nil, List.length_cons]
        exact tb e (rLp_r (by rw [hty]; decide) hf) _ G2 K2 _ hK2
    have hty : tyS (cur (I 11) N (skp (I 11) N a)) = 0 := by unfold tyS; rw [if_neg s43, if_neg s45]
    simp (config := {decide := true}) only [r30_9, r30_12, r30_15, r30_16, r30_19, r30_22, r30_23, r30_26, r30_28, r30_30, r30_32, r30_35, r30_37, r30_39, r30_42, if_true, if_false, Nat.reduceAdd, Int32.reduceToNatClampNeg, lo_i, lo_r, lo_n, kont_v, kont_n, List.length_nil, List.length_cons, e1, hc95, e0, hc97, s43, s45]
    exact hok c _ (rLp_0 hty) G _ hm hJ2
theorem c30 (hT : TX I N) (hN : N ≤ 150) (hU : CUn n I N (d + 7) 31 z U) (hP : PG 1 U) : CUn n I N (d + 8) 30 z (thn U (rLp (I 11) N tyS U 150)) := by
  intro x L Φ G J c a hm hca hJ hok hbad
  show wp (d + 8) 30 0 [.ref (28 : Nat), .ref (10 : Nat), .int z, noV, noV] [] (mk n J L x) Φ
  simp (config := {decide := true}) only [r30_0, r30_1, r30_2, r30_3, if_true, if_false, Nat.reduceAdd, Int32.reduceToNatClampNeg, lo_i, lo_r, lo_n, kont_v, kont_n, List.length_nil, List.length_cons, k28]
  refine hU _ _ _ G J c a hm hca hJ (fun c1 p1 hf G1 K1 hm1 hK1 => kont_n.mpr ?_) (fun e hf G1 K1 hK1 => kont_n.mpr ?_)
  · obtain ⟨b1, b2, -⟩ := hP _ _ _ _ hf
    have hstep : thn U (rLp (I 11) N tyS U 150) c a = rLp (I 11) N tyS U 150 c1 p1 := thn_l hf
    rw [hstep] at hok hbad
    simp (config := {decide := true}) only [r30_6, r30_7, if_true, if_false, Nat.reduceAdd, Int32.reduceToNatClampNeg, lo_i, lo_r, lo_n, kont_v, kont_n, List.length_nil, List.length_cons]
    exact c30L hT hN hU hP 150 0 c1 p1 G1 K1 _ rfl (by omega) hm1 (by omega) hK1 hok hbad
  · have e1 : ¬ flt (.inr e) = 0 := hK1.1
    simp (config := {decide := true}) only [r30_6, r30_7, r30_8, r30_9, r30_12, r30_15, r30_16, r30_19, r30_81, if_true, if_false, Nat.reduceAdd, Int32.reduceToNatClampNeg, lo_i, lo_r, lo_n, kont_v, kont_n, List.length_nil, List.length_cons, c95t hK1, e1]
    exact hbad e (thn_r hf) G1 K1 hK1
theorem c30_all (hT : TX I N) (hG : SG I 1 wd1) (hN : N ≤ 150) : ∀ h o d, o + h = 6 → CUn n I N (d + 4 * h + 8) 30 (nt o) (rSm (I 11) N h) := by
  intro h
  induction h with
  | zero =>
    intro o d ho
    have ho : o = 6 := by omega
    subst ho
    have hPS : ∀ f, (none : Option LPs) = some f → PG 1 f := fun f e => by cases e
    have hP := PG_rUn (B := I 11) (N := N) hPS
    exact c30 hT hN (c31 hT hN (c32 hT hG hN hPS (c33n hT) (c34n hT)) hP) (PG_rPd hP)
  | succ h ih =>
    intro o d ho
    have hS := ih (o + 1) d (by omega)
    have hPS : ∀ f, some (rSm (I 11) N h) = some f → PG 1 f := fun f e => by cases e; exact PG_rSm h
    have hP := PG_rUn (B := I 11) (N := N) hPS
    have hSf : CUf n I N (d + 4 * h + 8) 30 := c30f (c31f (c32f hT hG))
    exact c30 (d := d + 4 * h + 4) hT hN (c31 (d := d + 4 * h + 4) hT hN (c32 (d := d + 4 * h + 4) hT hG hN hPS (c33s (d := d + 4 * h) hT (by omega) (PG_rSm h) hS) (c34s (d := d + 4 * h) hT (by omega) (PG_rSm h) hS hSf)) hP) (PG_rPd hP)
end Lx

