/-! A REPUBLIC, read: a clause of the reference -/
theorem upF_eq {F : Nat → Nat → Nat} {i k v : Nat} : upF F i k v i k = v := if_pos ⟨rfl, rfl⟩
theorem upF_k {F : Nat → Nat → Nat} {i k v l : Nat} (h : l ≠ k) : upF F i k v i l = F i l := if_neg (fun z => h z.2)
section Mw2
variable {d n x N a b told : Nat} {B : Nat → Int32} {Φ : POut → PM → Prop} {I J K G : Nat → Nat → Int32} {L : Nat → Nat → Int64} {v w p s q lo hi : Int32} {g : Nat → Int32} {σ τ : RSt} {t : LSt} {r i : Nat}
theorem m218 (hX0 : MX I N B) (hM : MB I J) (hR : Rm J σ) (hs : σ.1 ≤ 7) (hc : σ.2.1 ≤ 6) (ht : told ≤ 60) (h7 : J 70 7 = nt told) (hK : MT J K N (.inl a)) (hok : ∀ τ p', rCl B N told σ a = .inl (τ, p') → ∀ J' K', MB I J' → Rm J' τ → J' 70 7 = nt (told + 1) → MT J' K' N (.inl p') → Φ (.inl none) (mk n K' L x)) (hbad : ∀ e, rCl B N told σ a = .inr e → ∀ J' K', MB I J' → MT J' K' N (.inr e) → Φ (.inl none) (mk n K' L x)) : wpc (d + 5) 218 [.ref (70 : Nat)] (mk n K L x) Φ := by
  have hX := MX_mb hM hX0
  obtain ⟨ha, q, rfl⟩ := hK
  have hle : skp B N a ≤ N := endF_le ha
  have e7 : ∀ a f q, mS J a f q 70 7 = nt told := fun a f q => by rw [mS_o (by decide) (by decide) (by decide)]; exact h7
  have e60 : (nt told = 60) = (told = 60) := nt_inj (k := 60) (by omega) (by decide)
  have e73 : ∀ a f q, mS J a f q 73 = J 73 := fun a f q => mS_ne (by decide)
  have e73b : ∀ a f q v, mS (wrI J 70 7 v) a f q 73 = J 73 := fun a f q v => by rw [mS_ne (by decide), wrI_ne (by decide)]
  have eM0 : J 73 0 = nt σ.1 := hR.1.1
  have eM1 : J 73 1 = nt σ.2.1 := hR.1.2.1
  have hM1 : MB I (wrI J 70 7 (nt (told + 1))) := MB_w hM
  have h71 : wrI J 70 7 (nt (told + 1)) 70 7 = nt (told + 1) := wr_eq
  have hR1 : Rm (wrI J 70 7 (nt (told + 1))) σ := by
    have z : ∀ r, r ≠ 70 → wrI J 70 7 (nt (told + 1)) r = J r := fun r h => wrI_ne h
    obtain ⟨w1, w4, w5, w6⟩ := hR
    refine ⟨by rw [z 73 (by decide)]; exact w1, fun k hk => by rw [z (76 + k) (by omega)]; exact w4 k hk, fun k hk => by rw [z (92 + k) (by omega)]; exact w5 k hk, fun s hs c hc => by rw [z (106 + s) (by omega)]; exact w6 s hs c hc⟩
  have hK1 : MT (wrI J 70 7 (nt (told + 1))) (mS (wrI J 70 7 (nt (told + 1))) (nt (endF isLt B N (skp B N a))) 0 q) N (.inl (endF isLt B N (skp B N a))) := mtX_ok (endF_le hle)
  show wp (d + 5) 218 0 [.ref (70 : Nat), noV, noV, noV, noV, noV] [] (mk n (mS J (nt a) 0 q) L x) Φ
  simp (config := {decide := true}) only [r218_0, r218_1, if_true, if_false, Nat.reduceAdd, Int32.reduceToNatClampNeg, lo_i, lo_r, lo_n, kont_v, kont_n, List.length_nil, List.length_cons, m216 hX ha]
  cases hf : fndW B N (skp B N a) ws0 0 with
  | none =>
    have hcl : rCl B N told σ a = .inr (1, skp B N a) := by unfold rCl rWrd; rw [hf]
    have hkd : kdM none = -1 := by decide
    simp (config := {decide := true}) only [r218_4, r218_5, r218_6, r218_7, r218_10, r218_11, r218_12, r218_13, r218_16, r218_19, r218_22, r218_23, r218_26, r218_28, r218_31, r218_32, r218_33, r218_36, r218_37, r218_40, r218_41, r218_42, r218_43, r218_46, r218_49, r218_50, r218_51, r218_52, r218_55, r218_58, r218_59, r218_62, r218_65, if_true, if_false, Nat.reduceAdd, Int32.reduceToNatClampNeg, lo_i, lo_r, lo_n, kont_v, kont_n, List.length_nil, List.length_cons, hkd, mS_4, m201, mS_5]
    exact hbad _ hcl J _ hM (mtX_f (by decide) (by decide) hle)
  | some k =>
    have hw : rWrd B N ws0 a = .inl (k, endF isLt B N (skp B N a)) := by unfold rWrd; rw [hf]
    have hk4 : k < 4 := rWrd_lt hw
    have : k = 0 ∨ k = 1 ∨ k = 2 ∨ k = 3 := by omega
    rcases this with rfl | rfl | rfl | rfl
    · have hkd : kdM (some 0) = 0 := by decide
      rw [hkd]
      by_cases hfu : full told 0 σ = true
      · have hcl : rCl B N told σ a = .inr (3, skp B N a) := by unfold rCl; rw [hw]; simp only [if_pos hfu]
        have go : wp (d + 5) 218 49 [.ref (70 : Nat), .int 0, noV, noV, noV, noV] [] (mk n (mS J (nt (skp B N a)) 0 q) L x) Φ := by
          simp (config := {decide := true}) only [r218_49, r218_50, r218_51, r218_52, r218_55, r218_58, r218_59, r218_62, r218_65, if_true, if_false, Nat.reduceAdd, Int32.reduceToNatClampNeg, lo_i, lo_r, lo_n, kont_v, kont_n, List.length_nil, List.length_cons, mS_4, m201, mS_5]
          exact hbad _ hcl J _ hM (mtX_f (by decide) (by decide) hle)
        by_cases h60 : told = 60
        · have e60' : nt told = 60 := by rw [h60]; rfl
          simp (config := {decide := true}) only [r218_4, r218_5, r218_6, r218_7, r218_10, r218_11, r218_12, r218_13, r218_16, r218_19, r218_22, r218_23, r218_26, r218_28, r218_31, r218_32, r218_33, r218_36, r218_37, r218_40, r218_41, r218_42, r218_43, r218_46, if_true, if_false, Nat.reduceAdd, Int32.reduceToNatClampNeg, lo_i, lo_r, lo_n, kont_v, kont_n, List.length_nil, List.length_cons, e7, e60']
          exact go
        · have e60' : ¬ (nt told = 60) := by rw [e60]; exact h60
          have hm : σ.1 = 7 := by
            unfold full at hfu
            simp only [decide_eq_false (show ¬ 60 ≤ told by omega), Bool.false_or, Bool.or_eq_true, Bool.and_eq_true, decide_eq_true_eq] at hfu
            omega
          have hm' : nt σ.1 = 7 := by rw [hm]; rfl
          simp (config := {decide := true}) only [r218_4, r218_5, r218_6, r218_7, r218_10, r218_11, r218_12, r218_13, r218_16, r218_19, r218_22, r218_23, r218_26, r218_28, r218_31, r218_32, r218_33, r218_36, r218_37, r218_40, r218_41, r218_42, r218_43, r218_46, if_true, if_false, Nat.reduceAdd, Int32.reduceToNatClampNeg, lo_i, lo_r, lo_n, kont_v, kont_n, List.length_nil, List.length_cons, e7, e60', s73, e73, eM0, m217, hm']
          exact go
      · have h60 : ¬ 60 ≤ told := fun z => hfu (by unfold full; rw [decide_eq_true z, Bool.true_or])
        have e60' : ¬ (nt told = 60) := by rw [e60]; omega
        have hn : σ.1 < 7 := by
          by_cases z : 7 ≤ σ.1
          · exact absurd (by unfold full; rw [decide_eq_true z]; simp) hfu
          · omega
        have hm' : ¬ (nt σ.1 = 7) := by rw [show (7 : Int32) = nt 7 from rfl, nt_inj (by omega) (by decide)]; omega
        have hb : ∀ e, rBd B N 0 σ (endF isLt B N (skp B N a)) = .inr e → rCl B N told σ a = .inr e := by
          intro e he
          unfold rCl
          rw [hw]
          simp only [if_neg hfu]
          rw [he]
        have hg : ∀ τ p2, rBd B N 0 σ (endF isLt B N (skp B N a)) = .inl (τ, p2) → (cur B N (skp B N p2) = 59 → rCl B N told σ a = .inl (τ, skp B N p2 + 1)) ∧ (¬ cur B N (skp B N p2) = 59 → rCl B N told σ a = .inr (1, skp B N p2)) := by
          intro τ p2 hbd
          constructor <;> intro hsg <;> unfold rCl <;> rw [hw] <;> simp only [if_neg hfu] <;> rw [hbd]
          · simp only [rSig, if_pos hsg]
          · simp only [rSig, if_neg hsg]
        simp (config := {decide := true}) only [r218_4, r218_5, r218_6, r218_7, r218_10, r218_11, r218_12, r218_13, r218_16, r218_19, r218_22, r218_23, r218_26, r218_28, r218_31, r218_32, r218_33, r218_36, r218_37, r218_40, r218_41, r218_42, r218_43, r218_46, r218_58, r218_59, r218_62, r218_65, r218_66, r218_67, r218_70, r218_71, r218_72, r218_75, r218_76, r218_77, r218_80, r218_81, r218_82, r218_85, r218_86, r218_89, r218_90, r218_91, r218_94, r218_95, r218_96, if_true, if_false, Nat.reduceAdd, Int32.reduceToNatClampNeg, lo_i, lo_r, lo_n, kont_v, kont_n, List.length_nil, List.length_cons, e7, e60', s73, e73, eM0, m217, hm', mS_5, m208 hX hle, nt_succ, mS_w (show 7 ≠ 4 by decide) (show 7 ≠ 5 by decide) (show 7 ≠ 6 by decide), e73b, eM0]
        rw [r218_97 124 rfl]
        refine m218_0 hX0 hM1 hR1 h71 hn ⟨hs, hc⟩ hK1 (fun u p' hr J' K' hM' h73 h7' hne h0 h1 hK' => ?_) (fun e he J' K' hM' hK' => ?_)
        · obtain ⟨y1, y2⟩ := hg _ _ (mpR_l hr)
          refine m218_e (k := 0) (m := σ.1) hX0 hM' (by decide) (by rw [h73]; exact hR1.1.1) hK' (fun hsg K2 hK2 => ?_) (fun hsg J2 K2 hM2 hK2 => hbad _ (y2 hsg) J2 K2 hM2 hK2)
          refine hok _ _ (y1 hsg) (inc 0 J' (σ.1 + 1)) K2 (MB_up hM' (by decide)) ?_ (by unfold inc; rw [upR_ne (by decide)]; exact h7') hK2
          have hz : ∀ r, r ≠ 73 → r ≠ 76 + σ.1 → inc 0 J' (σ.1 + 1) r = wrI J 70 7 (nt (told + 1)) r := fun r z1 z2 => by unfold inc; rw [upR_ne z1]; exact hne r z2
          have hzz : inc 0 J' (σ.1 + 1) (76 + σ.1) = J' (76 + σ.1) := by unfold inc; exact upR_ne (by omega)
          obtain ⟨⟨w1, w2, w3⟩, w4, w5, w6⟩ := hR1
          refine ⟨⟨?_, ?_, ?_⟩, fun k hk => ?_, fun k hk => ?_, fun s hs2 c hc2 => ?_⟩ <;> (first | dsimp only at hk ⊢ | dsimp only | skip)
          · unfold inc; rw [upR_same, up_same]
          · unfold inc; rw [upR_same, up_ne (by decide), h73]; exact w2
          · unfold inc; rw [upR_same, up_ne (by decide), h73, upF_ne (by decide), upF_ne (by decide)]; exact w3
          · by_cases hkk : k = σ.1
            · subst hkk
              rw [hzz, h0, h1, upF_ne (by decide), upF_eq, upF_eq]
              exact ⟨rfl, rfl⟩
            · rw [hz (76 + k) (by omega) (by omega), upF_ne (by decide), upF_k hkk, upF_k hkk, upF_ne (by decide)]
              exact w4 k (by omega)
          · rw [hz (92 + k) (by omega) (by omega), upF_ne (by decide), upF_ne (by decide), upF_ne (by decide), upF_ne (by decide)]
            exact w5 k hk
          · rw [hz (106 + s) (by omega) (by omega), upF_ne (by decide), upF_ne (by decide)]
            exact w6 s hs2 c hc2
        · exact m218_f (k := 0) hX0 hM' (by decide) hK' (fun J2 K2 hM2 hK2 => hbad e (hb e (mpR_r he)) J2 K2 hM2 hK2)
    · have hkd : kdM (some 1) = 1 := by decide
      rw [hkd]
      by_cases hfu : full told 1 σ = true
      · have hcl : rCl B N told σ a = .inr (3, skp B N a) := by unfold rCl; rw [hw]; simp only [if_pos hfu]
        have go : wp (d + 5) 218 49 [.ref (70 : Nat), .int 1, noV, noV, noV, noV] [] (mk n (mS J (nt (skp B N a)) 0 q) L x) Φ := by
          simp (config := {decide := true}) only [r218_49, r218_50, r218_51, r218_52, r218_55, r218_58, r218_59, r218_62, r218_65, if_true, if_false, Nat.reduceAdd, Int32.reduceToNatClampNeg, lo_i, lo_r, lo_n, kont_v, kont_n, List.length_nil, List.length_cons, mS_4, m201, mS_5]
          exact hbad _ hcl J _ hM (mtX_f (by decide) (by decide) hle)
        by_cases h60 : told = 60
        · have e60' : nt told = 60 := by rw [h60]; rfl
          simp (config := {decide := true}) only [r218_4, r218_5, r218_6, r218_7, r218_10, r218_11, r218_12, r218_13, r218_16, r218_19, r218_22, r218_23, r218_26, r218_28, r218_31, r218_32, r218_33, r218_36, r218_37, r218_40, r218_41, r218_42, r218_43, r218_46, if_true, if_false, Nat.reduceAdd, Int32.reduceToNatClampNeg, lo_i, lo_r, lo_n, kont_v, kont_n, List.length_nil, List.length_cons, e7, e60']
          exact go
        · have e60' : ¬ (nt told = 60) := by rw [e60]; exact h60
          have hm : σ.2.1 = 6 := by
            unfold full at hfu
            simp only [decide_eq_false (show ¬ 60 ≤ told by omega), Bool.false_or, Bool.or_eq_true, Bool.and_eq_true, decide_eq_true_eq] at hfu
            omega
          have hm' : nt σ.2.1 = 6 := by rw [hm]; rfl
          simp (config := {decide := true}) only [r218_4, r218_5, r218_6, r218_7, r218_10, r218_11, r218_12, r218_13, r218_16, r218_19, r218_22, r218_23, r218_26, r218_28, r218_31, r218_32, r218_33, r218_36, r218_37, r218_40, r218_41, r218_42, r218_43, r218_46, if_true, if_false, Nat.reduceAdd, Int32.reduceToNatClampNeg, lo_i, lo_r, lo_n, kont_v, kont_n, List.length_nil, List.length_cons, e7, e60', s73, e73, eM1, m217, hm']
          exact go
      · have h60 : ¬ 60 ≤ told := fun z => hfu (by unfold full; rw [decide_eq_true z, Bool.true_or])
        have e60' : ¬ (nt told = 60) := by rw [e60]; omega
        have hn : σ.2.1 < 6 := by
          by_cases z : 6 ≤ σ.2.1
          · exact absurd (by unfold full; rw [decide_eq_true z]; simp) hfu
          · omega
        have hm' : ¬ (nt σ.2.1 = 6) := by rw [show (6 : Int32) = nt 6 from rfl, nt_inj (by omega) (by decide)]; omega
        have hb : ∀ e, rBd B N 1 σ (endF isLt B N (skp B N a)) = .inr e → rCl B N told σ a = .inr e := by
          intro e he
          unfold rCl
          rw [hw]
          simp only [if_neg hfu]
          rw [he]
        have hg : ∀ τ p2, rBd B N 1 σ (endF isLt B N (skp B N a)) = .inl (τ, p2) → (cur B N (skp B N p2) = 59 → rCl B N told σ a = .inl (τ, skp B N p2 + 1)) ∧ (¬ cur B N (skp B N p2) = 59 → rCl B N told σ a = .inr (1, skp B N p2)) := by
          intro τ p2 hbd
          constructor <;> intro hsg <;> unfold rCl <;> rw [hw] <;> simp only [if_neg hfu] <;> rw [hbd]
          · simp only [rSig, if_pos hsg]
          · simp only [rSig, if_neg hsg]
        simp (config := {decide := true}) only [r218_4, r218_5, r218_6, r218_7, r218_10, r218_11, r218_12, r218_13, r218_16, r218_19, r218_22, r218_23, r218_26, r218_28, r218_31, r218_32, r218_33, r218_36, r218_37, r218_40, r218_41, r218_42, r218_43, r218_46, r218_58, r218_59, r218_62, r218_65, r218_66, r218_67, r218_70, r218_71, r218_72, r218_75, r218_76, r218_77, r218_80, r218_81, r218_82, r218_85, r218_86, r218_89, r218_90, r218_91, r218_94, r218_95, r218_96, if_true, if_false, Nat.reduceAdd, Int32.reduceToNatClampNeg, lo_i, lo_r, lo_n, kont_v, kont_n, List.length_nil, List.length_cons, e7, e60', s73, e73, eM1, m217, hm', mS_5, m208 hX hle, nt_succ, mS_w (show 7 ≠ 4 by decide) (show 7 ≠ 5 by decide) (show 7 ≠ 6 by decide), e73b, eM1]
        rw [r218_97 157 rfl]
        refine m218_1 hX0 hM1 hR1 h71 hn ⟨hs, hc⟩ hK1 (fun u p' hr J' K' hM' h73 h7' hne h0 h1 hK' => ?_) (fun e he J' K' hM' hK' => ?_)
        · obtain ⟨y1, y2⟩ := hg _ _ (mpR_l hr)
          refine m218_e (k := 1) (m := σ.2.1) hX0 hM' (by decide) (by rw [h73]; exact hR1.1.2.1) hK' (fun hsg K2 hK2 => ?_) (fun hsg J2 K2 hM2 hK2 => hbad _ (y2 hsg) J2 K2 hM2 hK2)
          refine hok _ _ (y1 hsg) (inc 1 J' (σ.2.1 + 1)) K2 (MB_up hM' (by decide)) ?_ (by unfold inc; rw [upR_ne (by decide)]; exact h7') hK2
          have hz : ∀ r, r ≠ 73 → r ≠ 92 + σ.2.1 → inc 1 J' (σ.2.1 + 1) r = wrI J 70 7 (nt (told + 1)) r := fun r z1 z2 => by unfold inc; rw [upR_ne z1]; exact hne r z2
          have hzz : inc 1 J' (σ.2.1 + 1) (92 + σ.2.1) = J' (92 + σ.2.1) := by unfold inc; exact upR_ne (by omega)
          obtain ⟨⟨w1, w2, w3⟩, w4, w5, w6⟩ := hR1
          refine ⟨⟨?_, ?_, ?_⟩, fun k hk => ?_, fun k hk => ?_, fun s hs2 c hc2 => ?_⟩ <;> (first | dsimp only at hk ⊢ | dsimp only | skip)
          · unfold inc; rw [upR_same, up_ne (by decide), h73]; exact w1
          · unfold inc; rw [upR_same, up_same]
          · unfold inc; rw [upR_same, up_ne (by decide), h73, upF_ne (by decide), upF_ne (by decide)]; exact w3
          · rw [hz (76 + k) (by omega) (by omega), upF_ne (by decide), upF_ne (by decide), upF_ne (by decide), upF_ne (by decide)]
            exact w4 k hk
          · by_cases hkk : k = σ.2.1
            · subst hkk
              rw [hzz, h0, h1, upF_ne (by decide), upF_eq, upF_eq]
              exact ⟨rfl, rfl⟩
            · rw [hz (92 + k) (by omega) (by omega), upF_ne (by decide), upF_k hkk, upF_k hkk, upF_ne (by decide)]
              exact w5 k (by omega)
          · rw [hz (106 + s) (by omega) (by omega), upF_ne (by decide), upF_ne (by decide)]
            exact w6 s hs2 c hc2
        · exact m218_f (k := 1) hX0 hM' (by decide) hK' (fun J2 K2 hM2 hK2 => hbad e (hb e (mpR_r he)) J2 K2 hM2 hK2)
    · have hkd : kdM (some 2) = 3 := by decide
      rw [hkd]
      by_cases hfu : full told 2 σ = true
      · have hcl : rCl B N told σ a = .inr (3, skp B N a) := by unfold rCl; rw [hw]; simp only [if_pos hfu]
        have go : wp (d + 5) 218 49 [.ref (70 : Nat), .int 3, noV, noV, noV, noV] [] (mk n (mS J (nt (skp B N a)) 0 q) L x) Φ := by
          simp (config := {decide := true}) only [r218_49, r218_50, r218_51, r218_52, r218_55, r218_58, r218_59, r218_62, r218_65, if_true, if_false, Nat.reduceAdd, Int32.reduceToNatClampNeg, lo_i, lo_r, lo_n, kont_v, kont_n, List.length_nil, List.length_cons, mS_4, m201, mS_5]
          exact hbad _ hcl J _ hM (mtX_f (by decide) (by decide) hle)
        by_cases h60 : told = 60
        · have e60' : nt told = 60 := by rw [h60]; rfl
          simp (config := {decide := true}) only [r218_4, r218_5, r218_6, r218_7, r218_10, r218_11, r218_12, r218_13, r218_16, r218_19, r218_22, r218_23, r218_26, r218_28, r218_31, r218_32, r218_33, r218_36, r218_37, r218_40, r218_41, r218_42, r218_43, r218_46, if_true, if_false, Nat.reduceAdd, Int32.reduceToNatClampNeg, lo_i, lo_r, lo_n, kont_v, kont_n, List.length_nil, List.length_cons, e7, e60']
          exact go
        · have e60' : ¬ (nt told = 60) := by rw [e60]; exact h60
          exfalso
          unfold full at hfu
          simp only [decide_eq_false (show ¬ 60 ≤ told by omega), Bool.false_or, Bool.or_eq_true, Bool.and_eq_true, decide_eq_true_eq] at hfu
          omega
      · have h60 : ¬ 60 ≤ told := fun z => hfu (by unfold full; rw [decide_eq_true z, Bool.true_or])
        have e60' : ¬ (nt told = 60) := by rw [e60]; omega
        have hb : ∀ e, rBd B N 2 σ (endF isLt B N (skp B N a)) = .inr e → rCl B N told σ a = .inr e := by
          intro e he
          unfold rCl
          rw [hw]
          simp only [if_neg hfu]
          rw [he]
        have hg : ∀ τ p2, rBd B N 2 σ (endF isLt B N (skp B N a)) = .inl (τ, p2) → (cur B N (skp B N p2) = 59 → rCl B N told σ a = .inl (τ, skp B N p2 + 1)) ∧ (¬ cur B N (skp B N p2) = 59 → rCl B N told σ a = .inr (1, skp B N p2)) := by
          intro τ p2 hbd
          constructor <;> intro hsg <;> unfold rCl <;> rw [hw] <;> simp only [if_neg hfu] <;> rw [hbd]
          · simp only [rSig, if_pos hsg]
          · simp only [rSig, if_neg hsg]
        simp (config := {decide := true}) only [r218_4, r218_5, r218_6, r218_7, r218_10, r218_11, r218_12, r218_13, r218_16, r218_19, r218_22, r218_23, r218_26, r218_28, r218_31, r218_32, r218_33, r218_36, r218_37, r218_40, r218_41, r218_42, r218_43, r218_46, r218_58, r218_59, r218_62, r218_65, r218_66, r218_67, r218_70, r218_71, r218_72, r218_75, r218_76, r218_77, r218_80, r218_81, r218_82, r218_85, r218_86, r218_89, r218_90, r218_91, r218_94, r218_95, r218_96, if_true, if_false, Nat.reduceAdd, Int32.reduceToNatClampNeg, lo_i, lo_r, lo_n, kont_v, kont_n, List.length_nil, List.length_cons, e7, e60', mS_5, m208 hX hle, nt_succ, mS_w (show 7 ≠ 4 by decide) (show 7 ≠ 5 by decide) (show 7 ≠ 6 by decide)]
        rw [r218_97 215 rfl]
        refine m218_3 hX0 hM1 hR1 hs hc hK1 lo_n lo_n lo_n (fun u p' hr u1 u2 K' v3 v4 v5 n3 n4 n5 hK' => ?_) (fun e he J' K' v3 v4 v5 n3 n4 n5 hM' hK' => ?_)
        · obtain ⟨y1, y2⟩ := hg _ _ (mpR_l hr)
          have ms : mset (106 + u.1) = true := decide_eq_true (by omega)
          refine m218_g (k := 3) hX0 (MB_up hM1 ms) (by decide) (by decide) hK' (fun hsg K2 hK2 => ?_) (fun hsg J2 K2 hM2 hK2 => hbad _ (y2 hsg) J2 K2 hM2 hK2)
          refine hok _ _ (y1 hsg) _ K2 (MB_up hM1 ms) ?_ (by rw [upR_ne (by omega)]; exact h71) hK2
          obtain ⟨⟨w1, w2, w3⟩, w4, w5, w6⟩ := hR1
          refine ⟨⟨?_, ?_, ?_⟩, fun k hk => ?_, fun k hk => ?_, fun s hs2 c hc2 => ?_⟩ <;> (first | dsimp only at hk ⊢ | dsimp only | skip)
          · rw [upR_ne (by omega)]; exact w1
          · rw [upR_ne (by omega)]; exact w2
          · rw [upR_ne (by omega), upF_ne (by decide)]; exact w3
          · rw [upR_ne (by omega), upF_ne (by decide), upF_ne (by decide)]; exact w4 k hk
          · rw [upR_ne (by omega), upF_ne (by decide), upF_ne (by decide)]; exact w5 k hk
          · by_cases hss : s = u.1
            · subst hss
              rw [upR_same]
              by_cases hcc : c = u.2.1
              · subst hcc
                rw [up_same, upF_eq]
              · rw [up_ne hcc, upF_k (by omega)]; exact w6 _ hs2 c hc2
            · rw [upR_ne (by omega), upF_k (by omega)]; exact w6 s hs2 c hc2
        · exact m218_f (k := 3) hX0 hM' (by decide) hK' (fun J2 K2 hM2 hK2 => hbad e (hb e (mpR_r he)) J2 K2 hM2 hK2)
    · have hkd : kdM (some 3) = 2 := by decide
      rw [hkd]
      by_cases hfu : full told 3 σ = true
      · have hcl : rCl B N told σ a = .inr (3, skp B N a) := by unfold rCl; rw [hw]; simp only [if_pos hfu]
        have go : wp (d + 5) 218 49 [.ref (70 : Nat), .int 2, noV, noV, noV, noV] [] (mk n (mS J (nt (skp B N a)) 0 q) L x) Φ := by
          simp (config := {decide := true}) only [r218_49, r218_50, r218_51, r218_52, r218_55, r218_58, r218_59, r218_62, r218_65, if_true, if_false, Nat.reduceAdd, Int32.reduceToNatClampNeg, lo_i, lo_r, lo_n, kont_v, kont_n, List.length_nil, List.length_cons, mS_4, m201, mS_5]
          exact hbad _ hcl J _ hM (mtX_f (by decide) (by decide) hle)
        by_cases h60 : told = 60
        · have e60' : nt told = 60 := by rw [h60]; rfl
          simp (config := {decide := true}) only [r218_4, r218_5, r218_6, r218_7, r218_10, r218_11, r218_12, r218_13, r218_16, r218_19, r218_22, r218_23, r218_26, r218_28, r218_31, r218_32, r218_33, r218_36, r218_37, r218_40, r218_41, r218_42, r218_43, r218_46, if_true, if_false, Nat.reduceAdd, Int32.reduceToNatClampNeg, lo_i, lo_r, lo_n, kont_v, kont_n, List.length_nil, List.length_cons, e7, e60']
          exact go
        · have e60' : ¬ (nt told = 60) := by rw [e60]; exact h60
          exfalso
          unfold full at hfu
          simp only [decide_eq_false (show ¬ 60 ≤ told by omega), Bool.false_or, Bool.or_eq_true, Bool.and_eq_true, decide_eq_true_eq] at hfu
          omega
      · have h60 : ¬ 60 ≤ told := fun z => hfu (by unfold full; rw [decide_eq_true z, Bool.true_or])
        have e60' : ¬ (nt told = 60) := by rw [e60]; omega
        have hb : ∀ e, rBd B N 3 σ (endF isLt B N (skp B N a)) = .inr e → rCl B N told σ a = .inr e := by
          intro e he
          unfold rCl
          rw [hw]
          simp only [if_neg hfu]
          rw [he]
        have hg : ∀ τ p2, rBd B N 3 σ (endF isLt B N (skp B N a)) = .inl (τ, p2) → (cur B N (skp B N p2) = 59 → rCl B N told σ a = .inl (τ, skp B N p2 + 1)) ∧ (¬ cur B N (skp B N p2) = 59 → rCl B N told σ a = .inr (1, skp B N p2)) := by
          intro τ p2 hbd
          constructor <;> intro hsg <;> unfold rCl <;> rw [hw] <;> simp only [if_neg hfu] <;> rw [hbd]
          · simp only [rSig, if_pos hsg]
          · simp only [rSig, if_neg hsg]
        simp (config := {decide := true}) only [r218_4, r218_5, r218_6, r218_7, r218_10, r218_11, r218_12, r218_13, r218_16, r218_19, r218_22, r218_23, r218_26, r218_28, r218_31, r218_32, r218_33, r218_36, r218_37, r218_40, r218_41, r218_42, r218_43, r218_46, r218_58, r218_59, r218_62, r218_65, r218_66, r218_67, r218_70, r218_71, r218_72, r218_75, r218_76, r218_77, r218_80, r218_81, r218_82, r218_85, r218_86, r218_89, r218_90, r218_91, r218_94, r218_95, r218_96, if_true, if_false, Nat.reduceAdd, Int32.reduceToNatClampNeg, lo_i, lo_r, lo_n, kont_v, kont_n, List.length_nil, List.length_cons, e7, e60', mS_5, m208 hX hle, nt_succ, mS_w (show 7 ≠ 4 by decide) (show 7 ≠ 5 by decide) (show 7 ≠ 6 by decide)]
        rw [r218_97 190 rfl]
        refine m218_2 hX0 hM1 hK1 lo_n (fun V p' hr K' v3 n3 hK' => ?_) (fun e he J' K' v3 n3 hM' hK' => ?_)
        · obtain ⟨y1, y2⟩ := hg _ _ (mpR_l hr)
          refine m218_g (k := 2) hX0 (MB_up hM1 (by decide)) (by decide) (by decide) hK' (fun hsg K2 hK2 => ?_) (fun hsg J2 K2 hM2 hK2 => hbad _ (y2 hsg) J2 K2 hM2 hK2)
          refine hok _ _ (y1 hsg) _ K2 (MB_up hM1 (by decide)) ?_ (by rw [upR_ne (by decide)]; exact h71) hK2
          obtain ⟨⟨w1, w2, w3⟩, w4, w5, w6⟩ := hR1
          refine ⟨⟨?_, ?_, ?_⟩, fun k hk => ?_, fun k hk => ?_, fun s hs2 c hc2 => ?_⟩ <;> (first | dsimp only at hk ⊢ | dsimp only | skip)
          · rw [upR_same, up_ne (by decide)]; exact w1
          · rw [upR_same, up_ne (by decide)]; exact w2
          · rw [upR_same, up_same, upF_eq]
          · rw [upR_ne (by omega), upF_ne (by decide), upF_ne (by decide)]; exact w4 k hk
          · rw [upR_ne (by omega), upF_ne (by decide), upF_ne (by decide)]; exact w5 k hk
          · rw [upR_ne (by omega), upF_ne (by decide)]; exact w6 s hs2 c hc2
        · exact m218_f (k := 2) hX0 hM' (by decide) hK' (fun J2 K2 hM2 hK2 => hbad e (hb e (mpR_r he)) J2 K2 hM2 hK2)
end Mw2

