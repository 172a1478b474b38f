/-! A LAW, read by the reference -/
def MUn (n : Nat) (I0 : Nat → Nat → Int32) (N : Nat) (B : Nat → Int32) (d M o : Nat) (U : LPs) : Prop := ∀ (x : Nat) (L : Nat → Nat → Int64) (Φ : POut → PM → Prop) (I J : Nat → Nat → Int32) (c : LCs) (a : Nat), ML I0 I → I 70 8 = nt o → Lm I c → c.1 ≤ a → MT I J N (.inl a) → (∀ c' p', U c a = .inl (c', p') → ∀ I' K, ML I0 I' → I' 70 8 = nt o → Lm I' c' → MT I' K N (.inl p') → Φ (.inl none) (mk n K L x)) → (∀ e, U c a = .inr e → ∀ I' K, ML I0 I' → MT I' K N (.inr e) → Φ (.inl none) (mk n K L x)) → wpc d M [.ref (70 : Nat)] (mk n J L x) Φ
def MUf (n : Nat) (I0 : Nat → Nat → Int32) (N : Nat) (B : Nat → Int32) (d M : Nat) : Prop := ∀ (x : Nat) (L : Nat → Nat → Int64) (Φ : POut → PM → Prop) (I J : Nat → Nat → Int32) (e : Nat × Nat), ML I0 I → MT I J N (.inr e) → (∀ I' K, ML I0 I' → MT I' K N (.inr e) → Φ (.inl none) (mk n K L x)) → wpc d M [.ref (70 : Nat)] (mk n J L x) Φ
def M62 (n : Nat) (I0 : Nat → Nat → Int32) (N : Nat) (B : Nat → Int32) (d o : Nat) (S : Option LPs) : Prop := ∀ (x : Nat) (L : Nat → Nat → Int64) (Φ : POut → PM → Prop) (I J : Nat → Nat → Int32) (c : LCs) (b h : Nat) (v2 : Value), ML I0 I → I 70 8 = nt o → Lm I c → c.1 ≤ b → b + 1 ≤ endF isLt B N b → MT I J N (.inl b) → (∀ c' p', paP B N S c b (endF isLt B N b) = .inl (c', p') → ∀ I' K, ML I0 I' → I' 70 8 = nt o → Lm I' (psh c' h 0) → MT I' K N (.inl p') → Φ (.inl none) (mk n K L x)) → (∀ e, paP B N S c b (endF isLt B N b) = .inr e → ∀ I' K, ML I0 I' → MT I' K N (.inr e) → Φ (.inl none) (mk n K L x)) → wp d 229 62 [.ref (70 : Nat), .int (nt h), v2] [] (mk n J L x) Φ
def M130 (n : Nat) (I0 : Nat → Nat → Int32) (N : Nat) (B : Nat → Int32) (d o : Nat) (S : Option LPs) : Prop := ∀ (x : Nat) (L : Nat → Nat → Int64) (Φ : POut → PM → Prop) (I J : Nat → Nat → Int32) (c : LCs) (b : Nat) (v1 v2 : Value), ML I0 I → I 70 8 = nt o → Lm I c → c.1 ≤ b → b < N → MT I J N (.inl b) → (∀ c' p', brP B N S c b = .inl (c', p') → ∀ I' K, ML I0 I' → I' 70 8 = nt o → Lm I' c' → MT I' K N (.inl p') → Φ (.inl none) (mk n K L x)) → (∀ e, brP B N S c b = .inr e → ∀ I' K, ML I0 I' → MT I' K N (.inr e) → Φ (.inl none) (mk n K L x)) → wp d 229 130 [.ref (70 : Nat), v1, v2] [] (mk n J L x) Φ
section Le
variable {d n x N a b o : Nat} {B : Nat → Int32} {Φ : POut → PM → Prop} {I I0 J K G : Nat → Nat → Int32} {L : Nat → Nat → Int64} {v w z q : Int32} {c : LCs} {k u : Nat} {t : LSt} {r i : Nat} {g : Nat → Int32} {f U : LPs} {S : Option LPs}
theorem m229f : MUf n I0 N B d 229 := by
  intro x L Φ I J e hM hJ h
  have f5 : ¬ J 70 5 = 0 := by rw [MT_5 hJ]; exact kf hJ.1 hJ.2.1
  show wp d 229 0 [.ref (70 : Nat), noV, noV] [] (mk n J L x) Φ
  simp (config := {decide := true}) only [r229_0, r229_1, r229_4, r229_7, if_true, if_false, Nat.reduceAdd, Int32.reduceToNatClampNeg, lo_i, lo_r, lo_n, kont_v, kont_n, List.length_nil, List.length_cons, f5]
  exact h _ _ hM hJ
theorem m226f : MUf n I0 N B (d + 1) 226 := by
  intro x L Φ I J e hM hJ h
  show wp (d + 1) 226 0 [.ref (70 : Nat), noV] [] (mk n J L x) Φ
  simp (config := {decide := true}) only [r226_0, r226_1, if_true, if_false, Nat.reduceAdd, Int32.reduceToNatClampNeg, lo_i, lo_r, lo_n, kont_v, kont_n, List.length_nil, List.length_cons]
  refine m229f (B := B) _ _ _ I J e hM hJ (fun I' K hM' hK => kont_n.mpr ?_)
  have f5 : ¬ K 70 5 = 0 := by rw [MT_5 hK]; exact kf hK.1 hK.2.1
  simp (config := {decide := true}) only [r226_4, r226_5, r226_8, r226_72, if_true, if_false, Nat.reduceAdd, Int32.reduceToNatClampNeg, lo_i, lo_r, lo_n, kont_v, kont_n, List.length_nil, List.length_cons, f5]
  exact h _ _ hM' hK
theorem m225f : MUf n I0 N B (d + 2) 225 := by
  intro x L Φ I J e hM hJ h
  show wp (d + 2) 225 0 [.ref (70 : Nat), noV] [] (mk n J L x) Φ
  simp (config := {decide := true}) only [r225_0, r225_1, if_true, if_false, Nat.reduceAdd, Int32.reduceToNatClampNeg, lo_i, lo_r, lo_n, kont_v, kont_n, List.length_nil, List.length_cons]
  refine m226f (B := B) _ _ _ I J e hM hJ (fun I' K hM' hK => kont_n.mpr ?_)
  have f5 : ¬ K 70 5 = 0 := by rw [MT_5 hK]; exact kf hK.1 hK.2.1
  simp (config := {decide := true}) only [r225_4, r225_5, r225_8, r225_58, if_true, if_false, Nat.reduceAdd, Int32.reduceToNatClampNeg, lo_i, lo_r, lo_n, kont_v, kont_n, List.length_nil, List.length_cons, f5]
  exact h _ _ hM' hK
theorem m62n : M62 n I0 N B (d + 3) 6 none := by
  intro x L Φ I J c b h v2 hM h8 hL hcb hlt hJ hok hbad
  simp (config := {decide := true}) only [r229_62, r229_63, if_true, if_false, Nat.reduceAdd, Int32.reduceToNatClampNeg, lo_i, lo_r, lo_n, kont_v, kont_n, List.length_nil, List.length_cons]
  refine m224n h8 hJ (fun K hK => kont_v.mpr ?_)
  simp (config := {decide := true}) only [r229_66, r229_69, if_true, if_false, Nat.reduceAdd, Int32.reduceToNatClampNeg, lo_i, lo_r, lo_n, kont_v, kont_n, List.length_nil, List.length_cons]
  exact hbad (3, b) rfl I K hM hK
theorem m130n : M130 n I0 N B (d + 3) 6 none := by
  intro x L Φ I J c b v1 v2 hM h8 hL hcb hlt hJ hok hbad
  simp (config := {decide := true}) only [r229_130, r229_131, if_true, if_false, Nat.reduceAdd, Int32.reduceToNatClampNeg, lo_i, lo_r, lo_n, kont_v, kont_n, List.length_nil, List.length_cons]
  refine m224n h8 hJ (fun K hK => kont_v.mpr ?_)
  simp (config := {decide := true}) only [r229_134, r229_137, if_true, if_false, Nat.reduceAdd, Int32.reduceToNatClampNeg, lo_i, lo_r, lo_n, kont_v, kont_n, List.length_nil, List.length_cons]
  exact hbad (3, b) rfl I K hM hK
theorem m130s (hX0 : MX I0 N B) (ho : o < 6) (hS : MUn n I0 N B (d + 2) 225 (o + 1) f) : M130 n I0 N B (d + 3) o (some f) := by
  intro x L Φ I J c b v1 v2 hM h8 hL hcb hlt hJ hok hbad
  simp (config := {decide := true}) only [r229_130, r229_131, if_true, if_false, Nat.reduceAdd, Int32.reduceToNatClampNeg, lo_i, lo_r, lo_n, kont_v, kont_n, List.length_nil, List.length_cons]
  refine m224a ho h8 hJ (fun K hK => kont_v.mpr ?_)
  have hM1 : ML I0 (wrI I 70 8 (nt (o + 1))) := ML_w hM (Or.inl rfl)
  have h81 : wrI I 70 8 (nt (o + 1)) 70 8 = nt (o + 1) := wr_eq
  have hL1 : Lm (wrI I 70 8 (nt (o + 1))) c := Lm_w8 hL
  generalize wrI I 70 8 (nt (o + 1)) = I1 at hK hM1 h81 hL1
  obtain ⟨hb, q, rfl⟩ := hK
  have hK2 : MT I1 (mS I1 (nt (b + 1)) 0 q) N (.inl (b + 1)) := mtX_ok hlt
  simp (config := {decide := true}) only [r229_134, r229_138, r229_139, r229_140, r229_143, r229_144, r229_145, r229_148, r229_149, if_true, if_false, Nat.reduceAdd, Int32.reduceToNatClampNeg, lo_i, lo_r, lo_n, kont_v, kont_n, List.length_nil, List.length_cons, mS_4, nt_succ, mS_w4]
  refine hS _ _ _ I1 _ c (b + 1) hM1 h81 hL1 (by omega) hK2 (fun c1 p1 hf I2 K2 hM2 h82 hL2 hK2 => kont_n.mpr ?_) (fun e hf I2 K2 hM2 hK2 => kont_n.mpr ?_)
  · simp (config := {decide := true}) only [r229_152, r229_153, r229_155, if_true, if_false, Nat.reduceAdd, Int32.reduceToNatClampNeg, lo_i, lo_r, lo_n, kont_v, kont_n, List.length_nil, List.length_cons]
    refine m210 (MX_ml hX0 hM2) (by decide) hK2 (fun K3 hK3 => kont_n.mpr ?_)
    have f8 : K3 70 8 = nt (o + 1) := by rw [MT_o hK3 (by decide) (by decide) (by decide)]; exact h82
    have e8 : nt (o + 1) - 1 = nt o := nt_sub1 (k := o + 1) (by omega)
    simp (config := {decide := true}) only [r229_158, r229_159, r229_160, r229_163, r229_164, r229_165, r229_168, if_true, if_false, Nat.reduceAdd, Int32.reduceToNatClampNeg, lo_i, lo_r, lo_n, kont_v, kont_n, List.length_nil, List.length_cons, f8, e8]
    have hK4 := MT_w (i := 8) (v := nt o) hK3 (by decide) (by decide) (by decide)
    by_cases hs : cur B N (skp B N p1) = 41
    · simp only [lSig, if_pos hs] at hK4
      exact hok _ _ ((thn_l hf).trans (sgP_l hs)) _ _ (ML_w hM2 (Or.inl rfl)) wr_eq (Lm_w8 hL2) hK4
    · simp only [lSig, if_neg hs] at hK4
      exact hbad _ ((thn_l hf).trans (sgP_r hs)) _ _ (ML_w hM2 (Or.inl rfl)) hK4
  · simp (config := {decide := true}) only [r229_152, r229_153, r229_155, if_true, if_false, Nat.reduceAdd, Int32.reduceToNatClampNeg, lo_i, lo_r, lo_n, kont_v, kont_n, List.length_nil, List.length_cons]
    refine m210 (MX_ml hX0 hM2) (by decide) hK2 (fun K3 hK3 => kont_n.mpr ?_)
    simp (config := {decide := true}) only [r229_158, r229_159, r229_160, r229_163, r229_164, r229_165, r229_168, if_true, if_false, Nat.reduceAdd, Int32.reduceToNatClampNeg, lo_i, lo_r, lo_n, kont_v, kont_n, List.length_nil, List.length_cons]
    exact hbad _ (thn_r hf) _ _ (ML_w hM2 (Or.inl rfl)) (MT_w (i := 8) hK3 (by decide) (by decide) (by decide))
theorem m62s (hX0 : MX I0 N B) (hN : N ≤ 150) (ho : o < 6) (hP : PG 1 f) (hS : MUn n I0 N B (d + 2) 225 (o + 1) f) : M62 n I0 N B (d + 3) o (some f) := by
  intro x L Φ I J c b h v2 hM h8 hL hcb hlt hJ hok hbad
  have hg : ∀ p, p ≤ skp B N p := fun p => skp_ge
  have t5 : ∀ e, paP B N (some f) c b (endF isLt B N b) = .inr e → ∀ I K, ML I0 I → MT I K N (.inr e) → wp (d + 3) 229 94 [.ref (70 : Nat), .int (nt h), v2] [] (mk n K L x) Φ := by
    intro e he I K hM hK
    simp (config := {decide := true}) only [r229_94, r229_95, r229_97, if_true, if_false, Nat.reduceAdd, Int32.reduceToNatClampNeg, lo_i, lo_r, lo_n, kont_v, kont_n, List.length_nil, List.length_cons]
    refine m210 (MX_ml hX0 hM) (by decide) hK (fun K2 hK2 => kont_n.mpr ?_)
    simp (config := {decide := true}) only [r229_100, r229_101, r229_102, r229_103, if_true, if_false, Nat.reduceAdd, Int32.reduceToNatClampNeg, lo_i, lo_r, lo_n, kont_v, kont_n, List.length_nil, List.length_cons, m223f hK2]
    simp (config := {decide := true}) only [r229_106, r229_107, r229_108, r229_111, r229_112, r229_113, r229_116, if_true, if_false, Nat.reduceAdd, Int32.reduceToNatClampNeg, lo_i, lo_r, lo_n, kont_v, kont_n, List.length_nil, List.length_cons]
    exact hbad e he _ _ (ML_w hM (Or.inl rfl)) (MT_w (i := 8) hK2 (by decide) (by decide) (by decide))
  have t4 : ∀ e, paP B N (some f) c b (endF isLt B N b) = .inr e → ∀ I K, ML I0 I → MT I K N (.inr e) → wp (d + 3) 229 90 [.ref (70 : Nat), .int (nt h), v2] [] (mk n K L x) Φ := by
    intro e he I K hM hK
    simp (config := {decide := true}) only [r229_90, r229_91, if_true, if_false, Nat.reduceAdd, Int32.reduceToNatClampNeg, lo_i, lo_r, lo_n, kont_v, kont_n, List.length_nil, List.length_cons]
    exact m225f (B := B) _ _ _ I K e hM hK (fun I' K' hM' hK' => kont_n.mpr (t5 e he I' K' hM' hK'))
  have t3 : ∀ e, paP B N (some f) c b (endF isLt B N b) = .inr e → ∀ I K, ML I0 I → MT I K N (.inr e) → wp (d + 3) 229 84 [.ref (70 : Nat), .int (nt h), v2] [] (mk n K L x) Φ := by
    intro e he I K hM hK
    simp (config := {decide := true}) only [r229_84, r229_85, r229_87, if_true, if_false, Nat.reduceAdd, Int32.reduceToNatClampNeg, lo_i, lo_r, lo_n, kont_v, kont_n, List.length_nil, List.length_cons]
    exact m210 (MX_ml hX0 hM) (by decide) hK (fun K2 hK2 => kont_n.mpr (t4 e he I K2 hM hK2))
  have t2 : ∀ e, paP B N (some f) c b (endF isLt B N b) = .inr e → ∀ I K, ML I0 I → MT I K N (.inr e) → wp (d + 3) 229 80 [.ref (70 : Nat), .int (nt h), v2] [] (mk n K L x) Φ := by
    intro e he I K hM hK
    simp (config := {decide := true}) only [r229_80, r229_81, if_true, if_false, Nat.reduceAdd, Int32.reduceToNatClampNeg, lo_i, lo_r, lo_n, kont_v, kont_n, List.length_nil, List.length_cons]
    exact m225f (B := B) _ _ _ I K e hM hK (fun I' K' hM' hK' => kont_n.mpr (t3 e he I' K' hM' hK'))
  simp (config := {decide := true}) only [r229_62, r229_63, if_true, if_false, Nat.reduceAdd, Int32.reduceToNatClampNeg, lo_i, lo_r, lo_n, kont_v, kont_n, List.length_nil, List.length_cons]
  refine m224a ho h8 hJ (fun K hK => kont_v.mpr ?_)
  have hM1 : ML I0 (wrI I 70 8 (nt (o + 1))) := ML_w hM (Or.inl rfl)
  have h81 : wrI I 70 8 (nt (o + 1)) 70 8 = nt (o + 1) := wr_eq
  have hL1 : Lm (wrI I 70 8 (nt (o + 1))) c := Lm_w8 hL
  generalize wrI I 70 8 (nt (o + 1)) = I1 at hK hM1 h81 hL1
  obtain ⟨hb, q, rfl⟩ := hK
  have hX1 := MX_ml hX0 hM1
  have hK2 : MT I1 (mS I1 (nt (endF isLt B N b)) 0 q) N (.inl (endF isLt B N b)) := mtX_ok (endF_le hb)
  simp (config := {decide := true}) only [r229_66, r229_70, r229_71, if_true, if_false, Nat.reduceAdd, Int32.reduceToNatClampNeg, lo_i, lo_r, lo_n, kont_v, kont_n, List.length_nil, List.length_cons, m208 hX1 hb]
  generalize hp0 : endF isLt B N b = p0 at *
  simp (config := {decide := true}) only [r229_74, r229_75, r229_77, if_true, if_false, Nat.reduceAdd, Int32.reduceToNatClampNeg, lo_i, lo_r, lo_n, kont_v, kont_n, List.length_nil, List.length_cons]
  refine m210 hX1 (by decide) hK2 (fun K hK => kont_n.mpr ?_)
  by_cases hs1 : cur B N (skp B N p0) = 91
  · simp only [lSig, if_pos hs1] at hK
    have q1 := hg p0
    simp (config := {decide := true}) only [r229_80, r229_81, if_true, if_false, Nat.reduceAdd, Int32.reduceToNatClampNeg, lo_i, lo_r, lo_n, kont_v, kont_n, List.length_nil, List.length_cons]
    refine hS _ _ _ I1 K c (skp B N p0 + 1) hM1 h81 hL1 (by omega) hK (fun c1 p1 hf I2 K2 hM2 h82 hL2 hK2 => kont_n.mpr ?_) (fun e hf I2 K2 hM2 hK2 => kont_n.mpr (t3 e ((thn_l (sgP_l hs1)).trans (thn_r hf)) I2 K2 hM2 hK2))
    obtain ⟨b1, b2, -⟩ := hP _ _ _ _ hf
    simp (config := {decide := true}) only [r229_84, r229_85, r229_87, if_true, if_false, Nat.reduceAdd, Int32.reduceToNatClampNeg, lo_i, lo_r, lo_n, kont_v, kont_n, List.length_nil, List.length_cons]
    refine m210 (MX_ml hX0 hM2) (by decide) hK2 (fun K3 hK3 => kont_n.mpr ?_)
    by_cases hs2 : cur B N (skp B N p1) = 44
    · simp only [lSig, if_pos hs2] at hK3
      have q2 := hg p1
      simp (config := {decide := true}) only [r229_90, r229_91, if_true, if_false, Nat.reduceAdd, Int32.reduceToNatClampNeg, lo_i, lo_r, lo_n, kont_v, kont_n, List.length_nil, List.length_cons]
      refine hS _ _ _ I2 K3 c1 (skp B N p1 + 1) hM2 h82 hL2 (by omega) hK3 (fun c2 p2 hf2 I3 K4 hM3 h83 hL3 hK4 => kont_n.mpr ?_) (fun e hf2 I3 K4 hM3 hK4 => kont_n.mpr (t5 e ((thn_l (sgP_l hs1)).trans ((thn_l hf).trans ((thn_l (sgP_l hs2)).trans (thn_r hf2)))) I3 K4 hM3 hK4))
      obtain ⟨b3, b4, -⟩ := hP _ _ _ _ hf2
      have hp2 : p2 ≤ N := hK4.1
      simp (config := {decide := true}) only [r229_94, r229_95, r229_97, if_true, if_false, Nat.reduceAdd, Int32.reduceToNatClampNeg, lo_i, lo_r, lo_n, kont_v, kont_n, List.length_nil, List.length_cons]
      refine m210 (MX_ml hX0 hM3) (by decide) hK4 (fun K5 hK5 => kont_n.mpr ?_)
      by_cases hs3 : cur B N (skp B N p2) = 93
      · simp only [lSig, if_pos hs3] at hK5
        simp (config := {decide := true}) only [r229_100, r229_101, r229_102, r229_103, if_true, if_false, Nat.reduceAdd, Int32.reduceToNatClampNeg, lo_i, lo_r, lo_n, kont_v, kont_n, List.length_nil, List.length_cons]
        refine m223 (k := h) (u := 0) hM3 hL3 (by omega) hK5 (fun I4 K6 hM4 h84 hL4 hK6 => kont_n.mpr ?_)
        have f8 : K6 70 8 = nt (o + 1) := by rw [MT_o hK6 (by decide) (by decide) (by decide), h84]; exact h83
        have e8 : nt (o + 1) - 1 = nt o := nt_sub1 (k := o + 1) (by omega)
        simp (config := {decide := true}) only [r229_106, r229_107, r229_108, r229_111, r229_112, r229_113, r229_116, if_true, if_false, Nat.reduceAdd, Int32.reduceToNatClampNeg, lo_i, lo_r, lo_n, kont_v, kont_n, List.length_nil, List.length_cons, f8, e8]
        exact hok _ _ ((thn_l (sgP_l hs1)).trans ((thn_l hf).trans ((thn_l (sgP_l hs2)).trans ((thn_l hf2).trans (sgP_l hs3))))) _ _ (ML_w hM4 (Or.inl rfl)) wr_eq (Lm_w8 hL4) (MT_w (i := 8) hK6 (by decide) (by decide) (by decide))
      · simp only [lSig, if_neg hs3] at hK5
        simp (config := {decide := true}) only [r229_100, r229_101, r229_102, r229_103, if_true, if_false, Nat.reduceAdd, Int32.reduceToNatClampNeg, lo_i, lo_r, lo_n, kont_v, kont_n, List.length_nil, List.length_cons, m223f hK5]
        simp (config := {decide := true}) only [r229_106, r229_107, r229_108, r229_111, r229_112, r229_113, r229_116, if_true, if_false, Nat.reduceAdd, Int32.reduceToNatClampNeg, lo_i, lo_r, lo_n, kont_v, kont_n, List.length_nil, List.length_cons]
        exact hbad _ ((thn_l (sgP_l hs1)).trans ((thn_l hf).trans ((thn_l (sgP_l hs2)).trans ((thn_l hf2).trans (sgP_r hs3))))) _ _ (ML_w hM3 (Or.inl rfl)) (MT_w (i := 8) hK5 (by decide) (by decide) (by decide))
    · simp only [lSig, if_neg hs2] at hK3
      exact t4 _ ((thn_l (sgP_l hs1)).trans ((thn_l hf).trans (thn_r (sgP_r hs2)))) I2 K3 hM2 hK3
  · simp only [lSig, if_neg hs1] at hK
    exact t2 _ (thn_r (sgP_r hs1)) I1 K hM1 hK
theorem m229 (hX0 : MX I0 N B) (hN : N ≤ 150) (hPS : ∀ f, S = some f → PG 1 f) (h62 : M62 n I0 N B (d + 6) o S) (h130 : M130 n I0 N B (d + 6) o S) : MUn n I0 N B (d + 6) 229 o (rUn B N S) := by
  intro x L Φ I J c a hM h8 hL hca hJ hok hbad
  have hX := MX_ml hX0 hM
  obtain ⟨ha, q, rfl⟩ := hJ
  have hle : skp B N a ≤ N := endF_le ha
  have hge : a ≤ skp B N a := skp_ge
  have hJ2 : MT I (mS I (nt (skp B N a)) 0 q) N (.inl (skp B N a)) := mtX_ok hle
  have u9 := fun Ψ => m207 (d := d + 2) (n := n) (L := L) (x := x) (q := q) (Φ := Ψ) (a := skp B N a) (u := lwd 9) (a1 := 12) (a2 := 5) (a3 := 1) (a4 := 19) (a5 := 20) (a6 := 0) hX hle (lwd_l (by decide)) (by decide) (by decide +kernel)
  have u10 := fun Ψ => m207 (d := d + 2) (n := n) (L := L) (x := x) (q := q) (Φ := Ψ) (a := skp B N a) (u := lwd 10) (a1 := 13) (a2 := 15) (a3 := 19) (a4 := 20) (a5 := 0) (a6 := 0) hX hle (lwd_l (by decide)) (by decide) (by decide +kernel)
  have u228 := fun Ψ => m228 (d := d) (n := n) (L := L) (x := x) (q := q) (Φ := Ψ) (a := skp B N a) hX hle
  have hrn : rNum B N 0 999 (skp B N a) = rNum B N 0 999 a := by unfold rNum; rw [skp_skp]
  rw [skp_skp] at u9 u10 u228
  show wp (d + 6) 229 0 [.ref (70 : Nat), noV, noV] [] (mk n (mS I (nt a) 0 q) L x) Φ
  simp (config := {decide := true}) only [r229_0, r229_1, r229_4, r229_8, r229_9, r229_12, r229_13, r229_15, r229_16, r229_17, r229_19, r229_21, r229_22, if_true, if_false, Nat.reduceAdd, Int32.reduceToNatClampNeg, lo_i, lo_r, lo_n, kont_v, kont_n, List.length_nil, List.length_cons, mS_5, m200 hX ha, u9]
  by_cases h9 : wdIs B N (skp B N a) (lwd 9) = true
  · have hf := fnd_9 h9
    have hlt := fnd_lt hf
    have hu := un_p (S := S) (c := c) (a := a) hf (by decide)
    simp (config := {decide := true}) only [r229_25, r229_28, r229_30, r229_56, r229_57, r229_58, r229_59, if_true, if_false, Nat.reduceAdd, Int32.reduceToNatClampNeg, lo_i, lo_r, lo_n, kont_v, kont_n, List.length_nil, List.length_cons, h9]
    refine h62 _ _ _ I _ c (skp B N a) 7 _ hM h8 hL (by omega) hlt.2.2 hJ2 (fun c1 p2 hp I' K hM' h8' hL' hK => hok _ _ (by rw [hu, hp]) I' K hM' h8' hL' hK) (fun e hp I' K hM' hK => hbad e (by rw [hu, hp]) I' K hM' hK)
  by_cases h10 : wdIs B N (skp B N a) (lwd 10) = true
  · have hf := fnd_10 h10
    have hlt := fnd_lt hf
    have hu := un_p (S := S) (c := c) (a := a) hf (by decide)
    simp (config := {decide := true}) only [r229_25, r229_33, r229_34, r229_36, r229_38, r229_40, r229_42, r229_43, r229_44, r229_47, r229_50, r229_52, r229_56, r229_57, r229_58, r229_59, if_true, if_false, Nat.reduceAdd, Int32.reduceToNatClampNeg, lo_i, lo_r, lo_n, kont_v, kont_n, List.length_nil, List.length_cons, h9, u10, h10]
    refine h62 _ _ _ I _ c (skp B N a) 8 _ hM h8 hL (by omega) hlt.2.2 hJ2 (fun c1 p2 hp I' K hM' h8' hL' hK => hok _ _ (by rw [hu, hp]) I' K hM' h8' hL' hK) (fun e hp I' K hM' hK => hbad e (by rw [hu, hp]) I' K hM' hK)
  simp (config := {decide := true}) only [r229_25, r229_33, r229_34, r229_36, r229_38, r229_40, r229_42, r229_43, r229_44, r229_47, r229_55, r229_56, r229_57, r229_58, r229_59, r229_117, r229_118, r229_119, r229_122, r229_125, if_true, if_false, Nat.reduceAdd, Int32.reduceToNatClampNeg, lo_i, lo_r, lo_n, kont_v, kont_n, List.length_nil, List.length_cons, h9, u10, h10, mS_4, m199 hX (show skp B N a < 2000 by omega)]
  by_cases h40 : cur B N (skp B N a) = 40
  · have hu := un_b (S := S) (c := c) (a := a) h40
    have hlt : skp B N a < N := by
      by_cases z : skp B N a < N
      · exact z
      · unfold cur at h40; rw [if_neg z] at h40; exact absurd h40 (by decide)
    simp (config := {decide := true}) only [r229_127, if_true, if_false, Nat.reduceAdd, Int32.reduceToNatClampNeg, lo_i, lo_r, lo_n, kont_v, kont_n, List.length_nil, List.length_cons, h40]
    exact h130 _ _ _ I _ c (skp B N a) _ _ hM h8 hL (by omega) hlt hJ2 (fun c1 p2 hp I' K hM' h8' hL' hK => hok _ _ (by rw [hu, hp]) I' K hM' h8' hL' hK) (fun e hp I' K hM' hK => hbad e (by rw [hu, hp]) I' K hM' hK)
  have hfn := fnd_n h9 h10
  simp (config := {decide := true}) only [r229_127, r229_169, r229_170, r229_173, if_true, if_false, Nat.reduceAdd, Int32.reduceToNatClampNeg, lo_i, lo_r, lo_n, kont_v, kont_n, List.length_nil, List.length_cons, h40, u228]
  cases hf9 : fndW B N (skp B N a) ws9 0 with
  | some k =>
    have hf : fndW B N (skp B N a) ws1 0 = some k := by rw [hfn]; exact hf9
    have hk9 : k < 9 := by
      have := fndW_lt ws9 0 hf9
      have h : ws9.length = 9 := rfl
      omega
    have hu := un_w (S := S) (c := c) (a := a) hf hk9
    have hlt := fnd_lt hf
    have hle2 : endF isLt B N (skp B N a) ≤ N := endF_le hle
    have ek : ¬ (nt k = -1) := nt_m1 (by omega)
    simp only [kVal, kPos]
    simp (config := {decide := true}) only [r229_174, r229_175, r229_176, r229_179, r229_180, r229_181, r229_182, if_true, if_false, Nat.reduceAdd, Int32.reduceToNatClampNeg, lo_i, lo_r, lo_n, kont_v, kont_n, List.length_nil, List.length_cons, ek]
    refine m223 (k := 1) (u := k) hM hL (by omega) (mtX_ok hle2) (fun I' K hM' h8' hL' hK => kont_n.mpr ?_)
    simp (config := {decide := true}) only [r229_185, r229_201, if_true, if_false, Nat.reduceAdd, Int32.reduceToNatClampNeg, lo_i, lo_r, lo_n, kont_v, kont_n, List.length_nil, List.length_cons]
    exact hok _ _ hu I' K hM' (by rw [h8']; exact h8) hL' hK
  | none =>
    have hf : fndW B N (skp B N a) ws1 0 = none := by rw [hfn]; exact hf9
    have hu := un_n (S := S) (c := c) (a := a) hf h40
    simp only [kVal, kPos]
    simp (config := {decide := true}) only [r229_174, r229_175, r229_176, r229_188, r229_189, r229_190, r229_191, r229_192, r229_195, if_true, if_false, Nat.reduceAdd, Int32.reduceToNatClampNeg, lo_i, lo_r, lo_n, kont_v, kont_n, List.length_nil, List.length_cons]
    refine m204a hX hJ2 (by decide) ?_ ?_
    · intro V p1 hn K hK
      rw [hrn] at hn
      have hg := rNum_ge hn
      have hp1 : p1 ≤ N := hK.1
      refine kont_v.mpr ?_
      simp (config := {decide := true}) only [r229_198, if_true, if_false, Nat.reduceAdd, Int32.reduceToNatClampNeg, lo_i, lo_r, lo_n, kont_v, kont_n, List.length_nil, List.length_cons]
      refine m223 (k := 0) (u := V) hM hL (by omega) hK (fun I' K hM' h8' hL' hK => kont_n.mpr ?_)
      simp (config := {decide := true}) only [r229_201, if_true, if_false, Nat.reduceAdd, Int32.reduceToNatClampNeg, lo_i, lo_r, lo_n, kont_v, kont_n, List.length_nil, List.length_cons]
      exact hok _ _ (by rw [hu, hn]) I' K hM' (by rw [h8']; exact h8) hL' hK
    · intro e he K hK
      rw [hrn] at he
      refine kont_v.mpr ?_
      simp (config := {decide := true}) only [r229_198, if_true, if_false, Nat.reduceAdd, Int32.reduceToNatClampNeg, lo_i, lo_r, lo_n, kont_v, kont_n, List.length_nil, List.length_cons, m223f hK]
      simp (config := {decide := true}) only [r229_201, if_true, if_false, Nat.reduceAdd, Int32.reduceToNatClampNeg, lo_i, lo_r, lo_n, kont_v, kont_n, List.length_nil, List.length_cons]
      exact hbad e (by rw [hu, he]) I K hM hK
theorem m226e (hX0 : MX I0 N B) (hM : ML I0 I) (hJ : MT I J N (.inl a)) (hty : tyP (cur B N (skp B N a)) = 0) (v1 : Value) (h : ∀ K, MT I K N (.inl (skp B N a)) → Φ (.inl none) (mk n K L x)) : wp (d + 3) 226 4 [.ref (70 : Nat), v1] [] (mk n J L x) Φ := by
  have hX := MX_ml hX0 hM
  have f5 : J 70 5 = 0 := MT_5 hJ
  have s42 : ¬ cur B N (skp B N a) = 42 := fun z => by rw [z] at hty; exact absurd hty (by decide)
  have s47 : ¬ cur B N (skp B N a) = 47 := fun z => by rw [z] at hty; exact absurd hty (by decide)
  have s37 : ¬ cur B N (skp B N a) = 37 := fun z => by rw [z] at hty; exact absurd hty (by decide)
  simp (config := {decide := true}) only [r226_4, r226_5, r226_8, r226_11, r226_12, r226_14, if_true, if_false, Nat.reduceAdd, Int32.reduceToNatClampNeg, lo_i, lo_r, lo_n, kont_v, kont_n, List.length_nil, List.length_cons, f5]
  refine m211 hX (by decide) hJ (fun a' h1 hc => by cases h1; exact absurd hc s42) (fun a' h1 hc K0 hK0 => kont_v.mpr ?_) (fun e h1 => by cases h1)
  cases h1
  simp (config := {decide := true}) only [r226_17, r226_24, r226_25, r226_27, if_true, if_false, Nat.reduceAdd, Int32.reduceToNatClampNeg, lo_i, lo_r, lo_n, kont_v, kont_n, List.length_nil, List.length_cons]
  refine m211 hX (by decide) hK0 (fun a' h1 hc => by cases h1; exact absurd (skp_skp (B := B) (N := N) (a := a) ▸ hc) s47) (fun a' h1 hc K1 hK1 => kont_v.mpr ?_) (fun e h1 => by cases h1)
  cases h1
  rw [skp_skp] at hK1
  simp (config := {decide := true}) only [r226_30, r226_37, r226_38, r226_40, if_true, if_false, Nat.reduceAdd, Int32.reduceToNatClampNeg, lo_i, lo_r, lo_n, kont_v, kont_n, List.length_nil, List.length_cons]
  refine m211 hX (by decide) hK1 (fun a' h1 hc => by cases h1; exact absurd (skp_skp (B := B) (N := N) (a := a) ▸ hc) s37) (fun a' h1 hc K2 hK2 => kont_v.mpr ?_) (fun e h1 => by cases h1)
  cases h1
  rw [skp_skp] at hK2
  simp (config := {decide := true}) only [r226_43, r226_51, r226_52, r226_53, r226_54, r226_55, r226_58, if_true, if_false, Nat.reduceAdd, Int32.reduceToNatClampNeg, lo_i, lo_r, lo_n, kont_v, kont_n, List.length_nil, List.length_cons]
  exact h K2 hK2
theorem m226L (hX0 : MX I0 N B) (hN : N ≤ 150) (hU : MUn n I0 N B (d + 6) 229 o U) (hP : PG 1 U) : ∀ f c a I J v1, N ≤ a + f → ML I0 I → I 70 8 = nt o → Lm I c → c.1 ≤ a → MT I J N (.inl a) → (∀ c' p', rLp B N tyP U f c a = .inl (c', p') → ∀ I' K, ML I0 I' → I' 70 8 = nt o → Lm I' c' → MT I' K N (.inl p') → Φ (.inl none) (mk n K L x)) → (∀ e, rLp B N tyP U f c a = .inr e → ∀ I' K, ML I0 I' → MT I' K N (.inr e) → Φ (.inl none) (mk n K L x)) → wp (d + 7) 226 4 [.ref (70 : Nat), v1] [] (mk n J L x) Φ := by
  intro f
  induction f with
  | zero =>
    intro c a I J v1 hNa hM h8 hL hca hJ hok hbad
    have hsk : skp B N a = a := endF_no (fun z => absurd z.1 (by omega))
    have hcu : cur B N (skp B N a) = -1 := by rw [hsk]; unfold cur; rw [if_neg (by omega)]
    refine m226e (d := d + 4) hX0 hM hJ (by rw [hcu]; rfl) v1 (fun K hK => ?_)
    rw [hsk] at hK
    exact hok c a rfl I K hM h8 hL hK
  | succ f ih =>
    intro c a I J v1 hNa hM h8 hL hca hJ hok hbad
    have hX := MX_ml hX0 hM
    have f5 : J 70 5 = 0 := MT_5 hJ
    have hge : a ≤ skp B N a := skp_ge
    have tb : ∀ e, rLp B N tyP U (f + 1) c a = .inr e → ∀ I K v1, ML I0 I → MT I K N (.inr e) → wp (d + 7) 226 4 [.ref (70 : Nat), v1] [] (mk n K L x) Φ := by
      intro e he I K v1 hM hK
      have f5 : ¬ K 70 5 = 0 := by rw [MT_5 hK]; exact kf hK.1 hK.2.1
      simp (config := {decide := true}) only [r226_4, r226_5, r226_8, r226_72, if_true, if_false, Nat.reduceAdd, Int32.reduceToNatClampNeg, lo_i, lo_r, lo_n, kont_v, kont_n, List.length_nil, List.length_cons, f5]
      exact hbad e he I K hM hK
    have go : ∀ k, tyP (cur B N (skp B N a)) = k → k ≠ 0 → ∀ K, MT I K N (.inl (skp B N a + 1)) → wp (d + 7) 226 59 [.ref (70 : Nat), .int (nt k)] [] (mk n K L x) Φ := by
      intro k hty hk0 K hK
      simp (config := {decide := true}) only [r226_59, r226_60, if_true, if_false, Nat.reduceAdd, Int32.reduceToNatClampNeg, lo_i, lo_r, lo_n, kont_v, kont_n, List.length_nil, List.length_cons]
      refine hU _ _ _ I K c (skp B N a + 1) hM h8 hL (by omega) hK (fun c1 p1 hf I1 K1 hM1 h81 hL1 hK1 => kont_n.mpr ?_) (fun e hf I1 K1 hM1 hK1 => kont_n.mpr ?_)
      · obtain ⟨b1, b2, -⟩ := hP _ _ _ _ hf
        have hp1 : p1 ≤ N := hK1.1
        have hstep := rLp_s (B := B) (N := N) (f := f) hty hk0 hf
        rw [hstep] at hok hbad
        simp (config := {decide := true}) only [r226_63, r226_64, r226_65, r226_66, if_true, if_false, Nat.reduceAdd, Int32.reduceToNatClampNeg, lo_i, lo_r, lo_n, kont_v, kont_n, List.length_nil, List.length_cons]
        refine m223 (k := k) (u := 0) hM1 hL1 (by omega) hK1 (fun I2 K2 hM2 h82 hL2 hK2 => kont_n.mpr ?_)
        simp (config := {decide := true}) only [r226_69, if_true, if_false, Nat.reduceAdd, Int32.reduceToNatClampNeg, lo_i, lo_r, lo_n, kont_v, kont_n, List.length_nil, List.length_cons]
        exact ih _ p1 I2 K2 _ (by omega) hM2 (by rw [h82]; exact h81) hL2 (by show c1.1 + 1 ≤ p1; omega) hK2 hok hbad
      · simp (config := {decide := true}) only [r226_63, r226_64, r226_65, r226_66, if_true, if_false, Nat.reduceAdd, Int32.reduceToNatClampNeg, lo_i, lo_r, lo_n, kont_v, kont_n, List.length_nil, List.length_cons, m223f hK1]
        simp (config := {decide := true}) only [r226_69, if_true, if_false, Nat.reduceAdd, Int32.reduceToNatClampNeg, lo_i, lo_r, lo_n, kont_v, kont_n, List.length_nil, List.length_cons]
        exact tb e (rLp_r (by rw [hty]; exact hk0) hf) I1 K1 _ hM1 hK1
    by_cases s42 : cur B N (skp B N a) = 42
    · have hty : tyP (cur B N (skp B N a)) = 4 := by rw [s42]; rfl
      simp (config := {decide := true}) only [r226_4, r226_5, r226_8, r226_11, r226_12, r226_14, if_true, if_false, Nat.reduceAdd, Int32.reduceToNatClampNeg, lo_i, lo_r, lo_n, kont_v, kont_n, List.length_nil, List.length_cons, f5]
      refine m211 hX (by decide) hJ (fun a' h1 hc K hK => kont_v.mpr ?_) (fun a' h1 hc => by cases h1; exact absurd s42 hc) (fun e h1 => by cases h1)
      cases h1
      simp (config := {decide := true}) only [r226_17, r226_20, r226_21, r226_52, r226_53, r226_54, r226_55, if_true, if_false, Nat.reduceAdd, Int32.reduceToNatClampNeg, lo_i, lo_r, lo_n, kont_v, kont_n, List.length_nil, List.length_cons]
      exact go 4 hty (by decide) K hK
    by_cases s47 : cur B N (skp B N a) = 47
    · have hty : tyP (cur B N (skp B N a)) = 5 := by rw [s47]; rfl
      simp (config := {decide := true}) only [r226_4, r226_5, r226_8, r226_11, r226_12, r226_14, if_true, if_false, Nat.reduceAdd, Int32.reduceToNatClampNeg, lo_i, lo_r, lo_n, kont_v, kont_n, List.length_nil, List.length_cons, f5]
      refine m211 hX (by decide) hJ (fun a' h1 hc => by cases h1; exact absurd hc s42) (fun a' h1 hc K0 hK0 => kont_v.mpr ?_) (fun e h1 => by cases h1)
      cases h1
      simp (config := {decide := true}) only [r226_17, r226_24, r226_25, r226_27, if_true, if_false, Nat.reduceAdd, Int32.reduceToNatClampNeg, lo_i, lo_r, lo_n, kont_v, kont_n, List.length_nil, List.length_cons]
      refine m211 hX (by decide) hK0 (fun a' h1 hc K hK => kont_v.mpr ?_) (fun a' h1 hc => by cases h1; exact absurd s47 (skp_skp (B := B) (N := N) (a := a) ▸ hc)) (fun e h1 => by cases h1)
      cases h1
      rw [skp_skp] at hK
      simp (config := {decide := true}) only [r226_30, r226_33, r226_34, r226_52, r226_53, r226_54, r226_55, if_true, if_false, Nat.reduceAdd, Int32.reduceToNatClampNeg, lo_i, lo_r, lo_n, kont_v, kont_n, List.length_nil, List.length_cons]
      exact go 5 hty (by decide) K hK
    by_cases s37 : cur B N (skp B N a) = 37
    · have hty : tyP (cur B N (skp B N a)) = 6 := by rw [s37]; rfl
      simp (config := {decide := true}) only [r226_4, r226_5, r226_8, r226_11, r226_12, r226_14, if_true, if_false, Nat.reduceAdd, Int32.reduceToNatClampNeg, lo_i, lo_r, lo_n, kont_v, kont_n, List.length_nil, List.length_cons, f5]
      refine m211 hX (by decide) hJ (fun a' h1 hc => by cases h1; exact absurd hc s42) (fun a' h1 hc K0 hK0 => kont_v.mpr ?_) (fun e h1 => by cases h1)
      cases h1
      simp (config := {decide := true}) only [r226_17, r226_24, r226_25, r226_27, if_true, if_false, Nat.reduceAdd, Int32.reduceToNatClampNeg, lo_i, lo_r, lo_n, kont_v, kont_n, List.length_nil, List.length_cons]
      refine m211 hX (by decide) hK0 (fun a' h1 hc => by cases h1; exact absurd (skp_skp (B := B) (N := N) (a := a) ▸ hc) s47) (fun a' h1 hc K1 hK1 => kont_v.mpr ?_) (fun e h1 => by cases h1)
      cases h1
      rw [skp_skp] at hK1
      simp (config := {decide := true}) only [r226_30, r226_37, r226_38, r226_40, if_true, if_false, Nat.reduceAdd, Int32.reduceToNatClampNeg, lo_i, lo_r, lo_n, kont_v, kont_n, List.length_nil, List.length_cons]
      refine m211 hX (by decide) hK1 (fun a' h1 hc K hK => kont_v.mpr ?_) (fun a' h1 hc => by cases h1; exact absurd s37 (skp_skp (B := B) (N := N) (a := a) ▸ hc)) (fun e h1 => by cases h1)
      cases h1
      rw [skp_skp] at hK
      simp (config := {decide := true}) only [r226_43, r226_46, r226_48, r226_52, r226_53, r226_54, r226_55, if_true, if_false, Nat.reduceAdd, Int32.reduceToNatClampNeg, lo_i, lo_r, lo_n, kont_v, kont_n, List.length_nil, List.length_cons]
      exact go 6 hty (by decide) K hK
    have hty : tyP (cur B N (skp B N a)) = 0 := by unfold tyP; rw [if_neg s42, if_neg s47, if_neg s37]
    exact m226e (d := d + 4) hX0 hM hJ hty v1 (fun K hK => hok c _ (rLp_0 hty) I K hM h8 hL hK)
theorem m226 (hX0 : MX I0 N B) (hN : N ≤ 150) (hU : MUn n I0 N B (d + 6) 229 o U) (hP : PG 1 U) : MUn n I0 N B (d + 7) 226 o (thn U (rLp B N tyP U 150)) := by
  intro x L Φ I J c a hM h8 hL hca hJ hok hbad
  show wp (d + 7) 226 0 [.ref (70 : Nat), noV] [] (mk n J L x) Φ
  simp (config := {decide := true}) only [r226_0, r226_1, if_true, if_false, Nat.reduceAdd, Int32.reduceToNatClampNeg, lo_i, lo_r, lo_n, kont_v, kont_n, List.length_nil, List.length_cons]
  refine hU _ _ _ I J c a hM h8 hL hca hJ (fun c1 p1 hf I1 K1 hM1 h81 hL1 hK1 => kont_n.mpr ?_) (fun e hf I1 K1 hM1 hK1 => kont_n.mpr ?_)
  · obtain ⟨b1, b2, -⟩ := hP _ _ _ _ hf
    have hstep : thn U (rLp B N tyP U 150) c a = rLp B N tyP U 150 c1 p1 := thn_l hf
    rw [hstep] at hok hbad
    exact m226L hX0 hN hU hP 150 c1 p1 I1 K1 _ (by omega) hM1 h81 hL1 (by omega) hK1 hok hbad
  · have f5 : ¬ K1 70 5 = 0 := by rw [MT_5 hK1]; exact kf hK1.1 hK1.2.1
    simp (config := {decide := true}) only [r226_4, r226_5, r226_8, r226_72, if_true, if_false, Nat.reduceAdd, Int32.reduceToNatClampNeg, lo_i, lo_r, lo_n, kont_v, kont_n, List.length_nil, List.length_cons, f5]
    exact hbad e (thn_r hf) I1 K1 hM1 hK1
theorem m225e (hX0 : MX I0 N B) (hM : ML I0 I) (hJ : MT I J N (.inl a)) (hty : tyS (cur B N (skp B N a)) = 0) (v1 : Value) (h : ∀ K, MT I K N (.inl (skp B N a)) → Φ (.inl none) (mk n K L x)) : wp (d + 3) 225 4 [.ref (70 : Nat), v1] [] (mk n J L x) Φ := by
  have hX := MX_ml hX0 hM
  have f5 : J 70 5 = 0 := MT_5 hJ
  have s43 : ¬ cur B N (skp B N a) = 43 := fun z => by rw [z] at hty; exact absurd hty (by decide)
  have s45 : ¬ cur B N (skp B N a) = 45 := fun z => by rw [z] at hty; exact absurd hty (by decide)
  simp (config := {decide := true}) only [r225_4, r225_5, r225_8, r225_11, r225_12, r225_14, if_true, if_false, Nat.reduceAdd, Int32.reduceToNatClampNeg, lo_i, lo_r, lo_n, kont_v, kont_n, List.length_nil, List.length_cons, f5]
  refine m211 hX (by decide) hJ (fun a' h1 hc => by cases h1; exact absurd hc s43) (fun a' h1 hc K0 hK0 => kont_v.mpr ?_) (fun e h1 => by cases h1)
  cases h1
  simp (config := {decide := true}) only [r225_17, r225_24, r225_25, r225_27, if_true, if_false, Nat.reduceAdd, Int32.reduceToNatClampNeg, lo_i, lo_r, lo_n, kont_v, kont_n, List.length_nil, List.length_cons]
  refine m211 hX (by decide) hK0 (fun a' h1 hc => by cases h1; exact absurd (skp_skp (B := B) (N := N) (a := a) ▸ hc) s45) (fun a' h1 hc K1 hK1 => kont_v.mpr ?_) (fun e h1 => by cases h1)
  cases h1
  rw [skp_skp] at hK1
  simp (config := {decide := true}) only [r225_30, r225_37, r225_38, r225_39, r225_40, r225_41, r225_44, if_true, if_false, Nat.reduceAdd, Int32.reduceToNatClampNeg, lo_i, lo_r, lo_n, kont_v, kont_n, List.length_nil, List.length_cons]
  exact h K1 hK1
theorem m225L (hX0 : MX I0 N B) (hN : N ≤ 150) (hU : MUn n I0 N B (d + 7) 226 o U) (hP : PG 1 U) : ∀ f c a I J v1, N ≤ a + f → ML I0 I → I 70 8 = nt o → Lm I c → c.1 ≤ a → MT I J N (.inl a) → (∀ c' p', rLp B N tyS U f c a = .inl (c', p') → ∀ I' K, ML I0 I' → I' 70 8 = nt o → Lm I' c' → MT I' K N (.inl p') → Φ (.inl none) (mk n K L x)) → (∀ e, rLp B N tyS U f c a = .inr e → ∀ I' K, ML I0 I' → MT I' K N (.inr e) → Φ (.inl none) (mk n K L x)) → wp (d + 8) 225 4 [.ref (70 : Nat), v1] [] (mk n J L x) Φ := by
  intro f
  induction f with
  | zero =>
    intro c a I J v1 hNa hM h8 hL hca hJ hok hbad
    have hsk : skp B N a = a := endF_no (fun z => absurd z.1 (by omega))
    have hcu : cur B N (skp B N a) = -1 := by rw [hsk]; unfold cur; rw [if_neg (by omega)]
    refine m225e (d := d + 5) hX0 hM hJ (by rw [hcu]; rfl) v1 (fun K hK => ?_)
    rw [hsk] at hK
    exact hok c a rfl I K hM h8 hL hK
  | succ f ih =>
    intro c a I J v1 hNa hM h8 hL hca hJ hok hbad
    have hX := MX_ml hX0 hM
    have f5 : J 70 5 = 0 := MT_5 hJ
    have hge : a ≤ skp B N a := skp_ge
    have tb : ∀ e, rLp B N tyS U (f + 1) c a = .inr e → ∀ I K v1, ML I0 I → MT I K N (.inr e) → wp (d + 8) 225 4 [.ref (70 : Nat), v1] [] (mk n K L x) Φ := by
      intro e he I K v1 hM hK
      have f5 : ¬ K 70 5 = 0 := by rw [MT_5 hK]; exact kf hK.1 hK.2.1
      simp (config := {decide := true}) only [r225_4, r225_5, r225_8, r225_58, if_true, if_false, Nat.reduceAdd, Int32.reduceToNatClampNeg, lo_i, lo_r, lo_n, kont_v, kont_n, List.length_nil, List.length_cons, f5]
      exact hbad e he I K hM hK
    have go : ∀ k, tyS (cur B N (skp B N a)) = k → k ≠ 0 → ∀ K, MT I K N (.inl (skp B N a + 1)) → wp (d + 8) 225 45 [.ref (70 : Nat), .int (nt k)] [] (mk n K L x) Φ := by
      intro k hty hk0 K hK
      simp (config := {decide := true}) only [r225_45, r225_46, if_true, if_false, Nat.reduceAdd, Int32.reduceToNatClampNeg, lo_i, lo_r, lo_n, kont_v, kont_n, List.length_nil, List.length_cons]
      refine hU _ _ _ I K c (skp B N a + 1) hM h8 hL (by omega) hK (fun c1 p1 hf I1 K1 hM1 h81 hL1 hK1 => kont_n.mpr ?_) (fun e hf I1 K1 hM1 hK1 => kont_n.mpr ?_)
      · obtain ⟨b1, b2, -⟩ := hP _ _ _ _ hf
        have hp1 : p1 ≤ N := hK1.1
        have hstep := rLp_s (B := B) (N := N) (f := f) hty hk0 hf
        rw [hstep] at hok hbad
        simp (config := {decide := true}) only [r225_49, r225_50, r225_51, r225_52, if_true, if_false, Nat.reduceAdd, Int32.reduceToNatClampNeg, lo_i, lo_r, lo_n, kont_v, kont_n, List.length_nil, List.length_cons]
        refine m223 (k := k) (u := 0) hM1 hL1 (by omega) hK1 (fun I2 K2 hM2 h82 hL2 hK2 => kont_n.mpr ?_)
        simp (config := {decide := true}) only [r225_55, if_true, if_false, Nat.reduceAdd, Int32.reduceToNatClampNeg, lo_i, lo_r, lo_n, kont_v, kont_n, List.length_nil, List.length_cons]
        exact ih _ p1 I2 K2 _ (by omega) hM2 (by rw [h82]; exact h81) hL2 (by show c1.1 + 1 ≤ p1; omega) hK2 hok hbad
      · simp (config := {decide := true}) only [r225_49, r225_50, r225_51, r225_52, if_true, if_false, Nat.reduceAdd, Int32.reduceToNatClampNeg, lo_i, lo_r, lo_n, kont_v, kont_n, List.length_nil, List.length_cons, m223f hK1]
        simp (config := {decide := true}) only [r225_55, if_true, if_false, Nat.reduceAdd, Int32.reduceToNatClampNeg, lo_i, lo_r, lo_n, kont_v, kont_n, List.length_nil, List.length_cons]
        exact tb e (rLp_r (by rw [hty]; exact hk0) hf) I1 K1 _ hM1 hK1
    by_cases s43 : cur B N (skp B N a) = 43
    · have hty : tyS (cur B N (skp B N a)) = 2 := by rw [s43]; rfl
      simp (config := {decide := true}) only [r225_4, r225_5, r225_8, r225_11, r225_12, r225_14, if_true, if_false, Nat.reduceAdd, Int32.reduceToNatClampNeg, lo_i, lo_r, lo_n, kont_v, kont_n, List.length_nil, List.length_cons, f5]
      refine m211 hX (by decide) hJ (fun a' h1 hc K hK => kont_v.mpr ?_) (fun a' h1 hc => by cases h1; exact absurd s43 hc) (fun e h1 => by cases h1)
      cases h1
      simp (config := {decide := true}) only [r225_17, r225_20, r225_21, r225_38, r225_39, r225_40, r225_41, if_true, if_false, Nat.reduceAdd, Int32.reduceToNatClampNeg, lo_i, lo_r, lo_n, kont_v, kont_n, List.length_nil, List.length_cons]
      exact go 2 hty (by decide) K hK
    by_cases s45 : cur B N (skp B N a) = 45
    · have hty : tyS (cur B N (skp B N a)) = 3 := by rw [s45]; rfl
      simp (config := {decide := true}) only [r225_4, r225_5, r225_8, r225_11, r225_12, r225_14, if_true, if_false, Nat.reduceAdd, Int32.reduceToNatClampNeg, lo_i, lo_r, lo_n, kont_v, kont_n, List.length_nil, List.length_cons, f5]
      refine m211 hX (by decide) hJ (fun a' h1 hc => by cases h1; exact absurd hc s43) (fun a' h1 hc K0 hK0 => kont_v.mpr ?_) (fun e h1 => by cases h1)
      cases h1
      simp (config := {decide := true}) only [r225_17, r225_24, r225_25, r225_27, if_true, if_false, Nat.reduceAdd, Int32.reduceToNatClampNeg, lo_i, lo_r, lo_n, kont_v, kont_n, List.length_nil, List.length_cons]
      refine m211 hX (by decide) hK0 (fun a' h1 hc K hK => kont_v.mpr ?_) (fun a' h1 hc => by cases h1; exact absurd s45 (skp_skp (B := B) (N := N) (a := a) ▸ hc)) (fun e h1 => by cases h1)
      cases h1
      rw [skp_skp] at hK
      simp (config := {decide := true}) only [r225_30, r225_33, r225_34, r225_38, r225_39, r225_40, r225_41, if_true, if_false, Nat.reduceAdd, Int32.reduceToNatClampNeg, lo_i, lo_r, lo_n, kont_v, kont_n, List.length_nil, List.length_cons]
      exact go 3 hty (by decide) K hK
    have hty : tyS (cur B N (skp B N a)) = 0 := by unfold tyS; rw [if_neg s43, if_neg s45]
    exact m225e (d := d + 5) hX0 hM hJ hty v1 (fun K hK => hok c _ (rLp_0 hty) I K hM h8 hL hK)
theorem m225 (hX0 : MX I0 N B) (hN : N ≤ 150) (hU : MUn n I0 N B (d + 7) 226 o U) (hP : PG 1 U) : MUn n I0 N B (d + 8) 225 o (thn U (rLp B N tyS U 150)) := by
  intro x L Φ I J c a hM h8 hL hca hJ hok hbad
  show wp (d + 8) 225 0 [.ref (70 : Nat), noV] [] (mk n J L x) Φ
  simp (config := {decide := true}) only [r225_0, r225_1, if_true, if_false, Nat.reduceAdd, Int32.reduceToNatClampNeg, lo_i, lo_r, lo_n, kont_v, kont_n, List.length_nil, List.length_cons]
  refine hU _ _ _ I J c a hM h8 hL hca hJ (fun c1 p1 hf I1 K1 hM1 h81 hL1 hK1 => kont_n.mpr ?_) (fun e hf I1 K1 hM1 hK1 => kont_n.mpr ?_)
  · obtain ⟨b1, b2, -⟩ := hP _ _ _ _ hf
    have hstep : thn U (rLp B N tyS U 150) c a = rLp B N tyS U 150 c1 p1 := thn_l hf
    rw [hstep] at hok hbad
    exact m225L hX0 hN hU hP 150 c1 p1 I1 K1 _ (by omega) hM1 h81 hL1 (by omega) hK1 hok hbad
  · have f5 : ¬ K1 70 5 = 0 := by rw [MT_5 hK1]; exact kf hK1.1 hK1.2.1
    simp (config := {decide := true}) only [r225_4, r225_5, r225_8, r225_58, if_true, if_false, Nat.reduceAdd, Int32.reduceToNatClampNeg, lo_i, lo_r, lo_n, kont_v, kont_n, List.length_nil, List.length_cons, f5]
    exact hbad e (thn_r hf) I1 K1 hM1 hK1
theorem m225_all (hX0 : MX I0 N B) (hN : N ≤ 150) : ∀ h o d, o + h = 6 → MUn n I0 N B (d + 3 * h + 8) 225 o (rSm B N h) := by
  intro h
  induction h with
  | zero =>
    intro o d ho
    have ho : o = 6 := by omega
    subst ho
    have hPS : ∀ f, (none : Option LPs) = some f → PG 1 f := fun f e => by cases e
    have hP := PG_rUn (B := B) (N := N) hPS
    exact m225 hX0 hN (m226 hX0 hN (m229 hX0 hN hPS m62n m130n) hP) (PG_rPd hP)
  | succ h ih =>
    intro o d ho
    have hS := ih (o + 1) d (by omega)
    have hPS : ∀ f, some (rSm B N h) = some f → PG 1 f := fun f e => by cases e; exact PG_rSm h
    have hP := PG_rUn (B := B) (N := N) hPS
    exact m225 (d := d + 3 * h + 3) hX0 hN (m226 (d := d + 3 * h + 3) hX0 hN (m229 (d := d + 3 * h + 3) hX0 hN hPS (m62s (d := d + 3 * h + 6) hX0 hN (by omega) (PG_rSm h) hS) (m130s (d := d + 3 * h + 6) hX0 (by omega) hS)) hP) (PG_rPd hP)
end Le

