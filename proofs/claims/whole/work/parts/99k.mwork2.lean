/-! WORK, read by the reference: a step -/
section Wl
variable {d n x N a b o sn cn R : Nat} {B : Nat → Int32} {Φ : POut → PM → Prop} {I I0 J K G : Nat → Nat → Int32} {L : Nat → Nat → Int64} {v w z q : Int32} {σ τ : WS} {k u : Nat} {t : LSt} {r i c : Nat} {g : Nat → Int32} {f U : WPs} {S : Option WPs} {s s' : Nat → Option Nat}
theorem mw_st {v : Nat} (hR : R = 454 + r) (hr8 : r < 80) (hM : MWk I0 I) (h8 : I 70 8 = z) (hW : Wm I σ) (hr : r < σ.1) (hk : σ.2 0 r = some k) (hi : i ≠ 0) (hc : (i = 1 ∧ c = 1 ∧ k ≤ 5) ∨ (i = 2 ∧ c = 2 ∧ k = 0) ∨ (i = 3 ∧ c = 2 ∧ k = 4) ∨ (i = 2 ∧ c = 3 ∧ k = 4) ∨ (i = 2 ∧ c = 1 ∧ k = 7) ∨ (i = 4 ∧ c = 4)) (hK : MT I K N t) : ∃ I', MWk I0 I' ∧ I' 70 8 = z ∧ Wm I' (putW σ i r v) ∧ MT I' (wrI K R c (nt v)) N t := by
  subst hR
  refine ⟨upR I (454 + r) (upd (I (454 + r)) c (nt v)), MWk_up hM (by omega), by rw [upR_ne (by omega)]; exact h8, Wm_put hW hr hk hi hr8 hc, ?_⟩
  rw [wr_raw, MT_ne hK (show 454 + r ≠ 70 by omega)]
  exact MT_up hK (by omega)
theorem mw_sf {e : Nat × Nat} (hR : 454 ≤ R ∧ R ≤ 533) (hM : MWk I0 I) (hK : MT I K N (.inr e)) : ∃ I', MWk I0 I' ∧ MT I' (wrI K R c v) N (.inr e) := ⟨_, MWk_up hM hR, MT_up (g := upd (K R) c v) hK (by omega)⟩
/-- the loop in an again -/
theorem m234L (hX0 : MX I0 N B) {h : Nat} (hU : MWn n I0 N (d + 5) o U) (hP : PSs N sn cn h U) (hUs : ∀ σ p, U σ (skp B N p) = U σ p) {v1 v2 : Value} : ∀ f σ p I K, N + 5 ≤ p + 5 * f → p ≤ N → MWk I0 I → I 70 8 = nt o → Wm I σ → 5 * σ.1 ≤ p → MT I K N (.inl (skp B N p)) → (∀ τ p', rWl B N 93 U f σ p = .inl (τ, p') → ∀ I' K', MWk I0 I' → I' 70 8 = nt o → Wm I' τ → MT I' K' N (.inl p') → wp (d + 6) 234 213 [.ref (70 : Nat), v1, v2] [] (mk n K' L x) Φ) → (∀ e, rWl B N 93 U f σ p = .inr e → ∀ I' K', MWk I0 I' → MT I' K' N (.inr e) → wp (d + 6) 234 213 [.ref (70 : Nat), v1, v2] [] (mk n K' L x) Φ) → wp (d + 6) 234 182 [.ref (70 : Nat), v1, v2] [] (mk n K L x) Φ := by
  intro f
  induction f with
  | zero => intro σ p I K h1 h2; omega
  | succ f ih =>
    intro σ p I K hNp hpN hM h8 hW h5p hK hok hbad
    have hX := MX_mw hX0 hM
    have hle : skp B N p ≤ N := endF_le hpN
    have hge : p ≤ skp B N p := skp_ge
    have hN6 := hX0.2.1
    have f5 : K 70 5 = 0 := MT_5 hK
    have hK0 := hK
    obtain ⟨hb1, q1, rfl⟩ := hK
    by_cases hs : cur B N (skp B N p) = 93
    · simp (config := {decide := true}) only [r234_182, r234_183, r234_186, r234_189, r234_190, r234_191, r234_194, r234_197, r234_199, if_true, if_false, Nat.reduceAdd, Int32.reduceToNatClampNeg, lo_i, lo_r, lo_n, kont_v, kont_n, List.length_nil, List.length_cons, f5, mS_4, m199 hX (show skp B N p < 2000 by omega), hs]
      exact hok σ _ (rWl_0 hs) I _ hM h8 hW hK0
    · simp (config := {decide := true}) only [r234_182, r234_183, r234_186, r234_189, r234_190, r234_191, r234_194, r234_197, r234_199, r234_202, r234_203, if_true, if_false, Nat.reduceAdd, Int32.reduceToNatClampNeg, lo_i, lo_r, lo_n, kont_v, kont_n, List.length_nil, List.length_cons, f5, mS_4, m199 hX (show skp B N p < 2000 by omega), hs]
      refine hU _ _ _ I _ σ (skp B N p) hM h8 hW (by omega) hK0 (fun τ p1 hu I1 K1 hM1 h81 hW1 hK1 => kont_n.mpr ?_) (fun e hu I1 K1 hM1 hK1 => kont_n.mpr ?_)
      · obtain ⟨b1, b2, b3, -⟩ := hP _ _ _ _ hle hu
        rw [hUs] at hu
        rw [rWl_s hs hu] at hok hbad
        simp (config := {decide := true}) only [r234_206, r234_207, if_true, if_false, Nat.reduceAdd, Int32.reduceToNatClampNeg, lo_i, lo_r, lo_n, kont_v, kont_n, List.length_nil, List.length_cons]
        refine m200a (MX_mw hX0 hM1) hK1 (fun K2 hK2 => kont_n.mpr ?_)
        simp (config := {decide := true}) only [r234_210, if_true, if_false, Nat.reduceAdd, Int32.reduceToNatClampNeg, lo_i, lo_r, lo_n, kont_v, kont_n, List.length_nil, List.length_cons]
        exact ih τ p1 I1 K2 (by omega) b1 hM1 h81 hW1 (by omega) hK2 hok hbad
      · rw [hUs] at hu
        simp (config := {decide := true}) only [r234_206, r234_207, if_true, if_false, Nat.reduceAdd, Int32.reduceToNatClampNeg, lo_i, lo_r, lo_n, kont_v, kont_n, List.length_nil, List.length_cons]
        refine m200f (MX_mw hX0 hM1) hK1 (fun K2 hK2 => kont_n.mpr ?_)
        have f5' : ¬ K2 70 5 = 0 := by rw [MT_5 hK2]; exact kf hK2.1 hK2.2.1
        simp (config := {decide := true}) only [r234_210, r234_182, r234_183, r234_186, if_true, if_false, Nat.reduceAdd, Int32.reduceToNatClampNeg, lo_i, lo_r, lo_n, kont_v, kont_n, List.length_nil, List.length_cons, f5']
        exact hbad e (rWl_r hs hu) I1 K2 hM1 hK2
theorem m234 (hX0 : MX I0 N B) (hN : N ≤ 150) (h740 : I0 74 0 = nt sn) (h741 : I0 74 1 = nt cn) (hs7 : sn ≤ 7) (hc6 : cn ≤ 6) (hS : (S = none ∧ o = 6) ∨ ∃ U h, S = some (rWl B N 93 U 31) ∧ o < 6 ∧ MWn n I0 N (d + 5) (o + 1) U ∧ PSs N sn cn h U ∧ (∀ σ p, U σ (skp B N p) = U σ p)) : MWn n I0 N (d + 6) o (rSt B N sn cn S) := by
  intro x L Φ I J σ a hM h8 hW h5a hJ hok hbad
  have hX := MX_mw hX0 hM
  obtain ⟨ha, q, rfl⟩ := hJ
  have hle : skp B N a ≤ N := endF_le ha
  have hJ2 : MT I (mS I (nt (skp B N a)) 0 q) N (.inl (skp B N a)) := mtX_ok hle
  show wp (d + 6) 234 0 [.ref (70 : Nat), noV, noV] [] (mk n (mS I (nt a) 0 q) L x) Φ
  simp (config := {decide := true}) only [r234_0, r234_1, r234_4, if_true, if_false, Nat.reduceAdd, Int32.reduceToNatClampNeg, lo_i, lo_r, lo_n, kont_v, kont_n, List.length_nil, List.length_cons, m233 hX ha]
  cases hf : fndW B N (skp B N a) ws2 0 with
  | none =>
    simp only [kVal]
    simp (config := {decide := true}) only [r234_5, r234_6, r234_7, r234_10, r234_11, r234_12, r234_13, r234_16, r234_19, r234_20, r234_22, r234_25, r234_26, r234_29, r234_32, r234_33, r234_34, r234_37, r234_40, if_true, if_false, Nat.reduceAdd, Int32.reduceToNatClampNeg, lo_i, lo_r, lo_n, kont_v, kont_n, List.length_nil, List.length_cons, mS_4, m201, mS_5]
    exact hbad (1, skp B N a) (by unfold rSt rWrd; rw [hf]) I _ hM (mtX_f (by decide) (by decide) hle)
  | some k =>
    have hw : rWrd B N ws2 a = .inl (k, endF isLt B N (skp B N a)) := by unfold rWrd; rw [hf]
    have hk8 : k < 8 := rWrd_lt hw
    have ek : ¬ (nt k = -1) := nt_m1 (by omega)
    obtain ⟨hp1, hlen⟩ := rWrd_len ha hw
    obtain ⟨w1, w2, w3⟩ := ws2_len k hk8
    have hrow : σ.1 < 30 := by omega
    simp only [kVal]
    by_cases hno : S = none ∧ k = 7
    · obtain ⟨rfl, rfl⟩ := hno
      have ho : o = 6 := by
        rcases hS with ⟨-, ho⟩ | ⟨f, h, hf, -⟩
        · exact ho
        · cases hf
      subst ho
      simp (config := {decide := true}) only [r234_5, r234_6, r234_7, r234_19, r234_20, r234_22, r234_25, r234_26, if_true, if_false, Nat.reduceAdd, Int32.reduceToNatClampNeg, lo_i, lo_r, lo_n, kont_v, kont_n, List.length_nil, List.length_cons, show nt 7 = (7 : Int32) from rfl]
      refine m224n h8 hJ2 (fun K hK => kont_v.mpr ?_)
      simp (config := {decide := true}) only [r234_29, r234_32, if_true, if_false, Nat.reduceAdd, Int32.reduceToNatClampNeg, lo_i, lo_r, lo_n, kont_v, kont_n, List.length_nil, List.length_cons]
      exact hbad (3, skp B N a) (by unfold rSt; rw [hw]; rfl) I K hM hK
    have hb := rSt_b (S := S) (sn := sn) (cn := cn) (σ := σ) hw (fun h1 h2 => hno ⟨h1, h2⟩)
    rw [hb] at hok hbad
    have hpos : skp B N a + 1 ≤ endF isLt B N (skp B N a) := by
      obtain ⟨h1, h2⟩ := fndW_wd ws2 0 hf
      have h3 := (wdIs_iff.mp h2).1
      rw [Nat.sub_zero] at h3
      omega
    generalize hp0 : endF isLt B N (skp B N a) = p1 at *
    obtain ⟨R, hR⟩ : ∃ R, R = 454 + σ.1 := ⟨_, rfl⟩
    have gR1 : sh0 n R = (20, 5, []) := by rw [hR]; exact s454 (k := σ.1) (by omega)
    have gR2 : R < 560 := by omega
    have gR3 : 9 ≤ R := by omega
    have hR2 : 454 ≤ R ∧ R ≤ 533 := by omega
    have hr8 : σ.1 < 80 := by omega
    -- behind the body
    have tg : ∀ τ p2, bdW B N sn cn (S.getD idW) k σ.1 (alW σ k) p1 = .inl (τ, p2) → ∀ I K, MWk I0 I → I 70 8 = nt o → Wm I τ → τ.2 0 σ.1 = some k → σ.1 < τ.1 → MT I K N (.inl p2) → ∀ v1, wp (d + 6) 234 229 [.ref (70 : Nat), v1, .ref R] [] (mk n K L x) Φ := by
      intro τ p2 hbd I K hM h8 hW hk0 hlt hK v1
      have s27 : K 70 27 = nt τ.1 := by rw [MT_o hK (by decide) (by decide) (by decide)]; exact hW.1
      obtain ⟨I', hM', h8', hW', hK'⟩ := mw_st (i := 4) (c := 4) (v := τ.1) hR hr8 hM h8 hW hlt hk0 (by decide) (Or.inr (Or.inr (Or.inr (Or.inr (Or.inr ⟨rfl, rfl⟩))))) hK
      simp (config := {decide := true}) only [r234_229, r234_230, r234_231, r234_232, r234_235, r234_236, r234_237, r234_239, if_true, if_false, Nat.reduceAdd, Int32.reduceToNatClampNeg, lo_i, lo_r, lo_n, kont_v, kont_n, List.length_nil, List.length_cons, s27, gR1, gR2, gR3]
      refine m210 (MX_mw hX0 hM') (by decide) hK' (fun K2 hK2 => kont_n.mpr ?_)
      simp (config := {decide := true}) only [r234_242, if_true, if_false, Nat.reduceAdd, Int32.reduceToNatClampNeg, lo_i, lo_r, lo_n, kont_v, kont_n, List.length_nil, List.length_cons]
      by_cases hs : cur B N (skp B N p2) = 59
      · simp only [lSig, if_pos hs] at hK2
        exact hok _ _ ((thW_l hbd).trans (sgW_l hs)) I' K2 hM' h8' hW' hK2
      · simp only [lSig, if_neg hs] at hK2
        exact hbad _ ((thW_l hbd).trans (sgW_r hs)) I' K2 hM' hK2
    have te : ∀ e, bdW B N sn cn (S.getD idW) k σ.1 (alW σ k) p1 = .inr e → ∀ I K, MWk I0 I → MT I K N (.inr e) → ∀ v1, wp (d + 6) 234 229 [.ref (70 : Nat), v1, .ref R] [] (mk n K L x) Φ := by
      intro e hbd I K hM hK v1
      obtain ⟨I', hM', hK'⟩ := mw_sf (c := 4) (v := K 70 27) hR2 hM hK
      simp (config := {decide := true}) only [r234_229, r234_230, r234_231, r234_232, r234_235, r234_236, r234_237, r234_239, if_true, if_false, Nat.reduceAdd, Int32.reduceToNatClampNeg, lo_i, lo_r, lo_n, kont_v, kont_n, List.length_nil, List.length_cons, gR1, gR2, gR3]
      refine m210 (MX_mw hX0 hM') (by decide) hK' (fun K2 hK2 => kont_n.mpr ?_)
      simp (config := {decide := true}) only [r234_242, if_true, if_false, Nat.reduceAdd, Int32.reduceToNatClampNeg, lo_i, lo_r, lo_n, kont_v, kont_n, List.length_nil, List.length_cons]
      exact hbad _ (thW_r hbd) I' K2 hM' hK2
    clear hok hbad
    -- from the word on
    have go : ∀ I1 K1 o1, MWk I0 I1 → I1 70 8 = nt o1 → Wm I1 σ → MT I1 K1 N (.inl (skp B N a)) → (∀ I2 K2, MWk I0 I2 → I2 70 8 = nt o1 → Wm I2 (alW σ k) → MT I2 K2 N (.inl p1) → wp (d + 6) 234 69 [.ref (70 : Nat), .int (nt k), .ref R] [] (mk n K2 L x) Φ) → wp (d + 6) 234 41 [.ref (70 : Nat), .int (nt k), noV] [] (mk n K1 L x) Φ := by
      intro I1 K1 o1 hM1 h81 hW1 hK1 hgo
      obtain ⟨hb1, q1, rfl⟩ := hK1
      have hX1 := MX_mw hX0 hM1
      have s27 : mS I1 (nt p1) 0 q1 70 27 = nt σ.1 := by rw [mS_o (by decide) (by decide) (by decide)]; exact hW1.1
      have sA : sh0 n 453 = (22, 80, (sh0 n 453).2.2) := eq_of_heq HEq.rfl
      have g4 : (sh0 n 453).1 = 22 := by rw [sA]
      have g5 : (sh0 n 453).2.1 = 80 := by rw [sA]
      have g1 : (nt σ.1).toNatClampNeg = σ.1 := nt_clamp (by omega)
      have g2 : (0 : Int32) ≤ nt σ.1 := nt_ge (by omega)
      have eR1 : 453 + 1 + σ.1 = R := by omega
      have eR2 : 454 + σ.1 = R := by omega
      have hK9 : MT (upR (wrI I1 70 27 (nt (σ.1 + 1))) R (upd (I1 R) 0 (nt k))) (wrI (wrI (mS I1 (nt p1) 0 q1) 70 27 (nt (σ.1 + 1))) R 0 (nt k)) N (.inl p1) := by
        rw [wr_raw (I := wrI (mS I1 (nt p1) 0 q1) 70 27 (nt (σ.1 + 1))) (q := R), wrI_ne (show R ≠ 70 by omega), mS_ne (show R ≠ 70 by omega)]
        exact MT_up (MT_w (mtX_ok hp1) (by decide) (by decide) (by decide)) (by omega)
      have hW9 := Wm_al (k := k) hW1
      rw [← hR] at hW9
      simp (config := {decide := true}) only [r234_41, r234_42, if_true, if_false, Nat.reduceAdd, Int32.reduceToNatClampNeg, lo_i, lo_r, lo_n, kont_v, kont_n, List.length_nil, List.length_cons, m208 hX1 hle, hp0]
      simp (config := {decide := true}) only [r234_45, r234_46, r234_49, r234_50, r234_53, r234_54, r234_55, r234_56, r234_57, r234_60, r234_61, r234_62, r234_65, r234_66, r234_67, r234_68, if_true, if_false, Nat.reduceAdd, Int32.reduceToNatClampNeg, lo_i, lo_r, lo_n, kont_v, kont_n, List.length_nil, List.length_cons, s27, g4, g5, g1, g2, hr8, eR1, eR2, gR1, gR2, gR3, nt_succ]
      exact hgo _ _ (MWk_up (MWk_w hM1 (Or.inr rfl)) hR2) (by rw [upR_ne (by omega), wr_k (by decide)]; exact h81) hW9 hK9
    -- the told ones
    have t74 : ∀ {I K t}, MWk I0 I → MT I K N t → K 74 0 = nt sn ∧ K 74 1 = nt cn := fun hM hK => by rw [MT_ne hK (by decide), hM.1 74 (by decide) (by decide)]; exact ⟨h740, h741⟩
    have al0 : (alW σ k).2 0 σ.1 = some k := putW_at
    have al1 : σ.1 < (alW σ k).1 := Nat.lt_succ_self _
    unfold bdW at tg te
    have hk : k = 0 ∨ k = 1 ∨ k = 2 ∨ k = 3 ∨ k = 4 ∨ k = 5 ∨ k = 6 ∨ k = 7 := by omega
    rcases hk with rfl | rfl | rfl | rfl | rfl | rfl | rfl | rfl
    · simp (config := {decide := true}) only [if_true, if_false, vlW] at tg te
      simp (config := {decide := true}) only [r234_5, r234_6, r234_7, r234_19, r234_20, r234_22, r234_33, r234_34, r234_37, if_true, if_false, Nat.reduceAdd, Int32.reduceToNatClampNeg, lo_i, lo_r, lo_n, kont_v, kont_n, List.length_nil, List.length_cons, show nt 0 = (0 : Int32) from rfl, mS_5]
      refine go I _ o hM h8 hW hJ2 (fun I2 K2 hM2 h82 hW2 hK2 => ?_)
      have hX2 := MX_mw hX0 hM2
      simp (config := {decide := true}) only [r234_69, r234_70, r234_71, r234_74, r234_75, r234_76, r234_77, r234_78, r234_79, r234_82, r234_83, r234_84, r234_85, r234_86, if_true, if_false, Nat.reduceAdd, Int32.reduceToNatClampNeg, lo_i, lo_r, lo_n, kont_v, kont_n, List.length_nil, List.length_cons, show nt 0 = (0 : Int32) from rfl, s74, (t74 hM2 hK2).2]
      refine m204a hX2 hK2 (hS1 (by omega)) (fun V p2 hn K3 hK3 => kont_v.mpr ?_) (fun e he K3 hK3 => kont_v.mpr ?_)
      · obtain ⟨I4, hM4, h84, hW4, hK4⟩ := mw_st (i := 1) (c := 1) (v := V) hR hr8 hM2 h82 hW2 al1 al0 (by decide) (Or.inl ⟨rfl, rfl, by decide⟩) hK3
        have hX4 := MX_mw hX0 hM4
        simp (config := {decide := true}) only [r234_89, r234_90, r234_91, r234_94, r234_95, r234_96, r234_97, r234_98, r234_100, if_true, if_false, Nat.reduceAdd, Int32.reduceToNatClampNeg, lo_i, lo_r, lo_n, kont_v, kont_n, List.length_nil, List.length_cons, show nt 0 = (0 : Int32) from rfl, gR1, gR2, gR3]
        refine m204a hX4 hK4 (by decide) (fun V2 p3 hn2 K5 hK5 => kont_v.mpr ?_) (fun e he K5 hK5 => kont_v.mpr ?_)
        · obtain ⟨I6, hM6, h86, hW6, hK6⟩ := mw_st (i := 2) (c := 2) (v := V2) hR hr8 hM4 h84 hW4 al1 (show (putW (alW σ 0) 1 σ.1 V).2 0 σ.1 = some 0 by rw [putW_i (by decide)]; exact al0) (by decide) (Or.inr (Or.inl ⟨rfl, rfl, rfl⟩)) hK5
          simp (config := {decide := true}) only [r234_103, r234_104, r234_105, r234_106, r234_135, r234_136, r234_137, r234_156, r234_157, r234_159, if_true, if_false, Nat.reduceAdd, Int32.reduceToNatClampNeg, lo_i, lo_r, lo_n, kont_v, kont_n, List.length_nil, List.length_cons, show nt 0 = (0 : Int32) from rfl, gR1, gR2, gR3]
          exact tg _ _ ((thW_l (nmW_l hn)).trans (nmW_l hn2)) I6 _ hM6 h86 hW6 (by rw [putW_i (by decide), putW_i (by decide)]; exact al0) al1 hK6 _
        · obtain ⟨I6, hM6, hK6⟩ := mw_sf (c := 2) (v := 0) hR2 hM4 hK5
          simp (config := {decide := true}) only [r234_103, r234_104, r234_105, r234_106, r234_135, r234_136, r234_137, r234_156, r234_157, r234_159, if_true, if_false, Nat.reduceAdd, Int32.reduceToNatClampNeg, lo_i, lo_r, lo_n, kont_v, kont_n, List.length_nil, List.length_cons, show nt 0 = (0 : Int32) from rfl, gR1, gR2, gR3]
          exact te _ ((thW_l (nmW_l hn)).trans (nmW_r he)) I6 _ hM6 hK6 _
      · obtain ⟨I4, hM4, hK4⟩ := mw_sf (c := 1) (v := 0) hR2 hM2 hK3
        have hX4 := MX_mw hX0 hM4
        simp (config := {decide := true}) only [r234_89, r234_90, r234_91, r234_94, r234_95, r234_96, r234_97, r234_98, r234_100, if_true, if_false, Nat.reduceAdd, Int32.reduceToNatClampNeg, lo_i, lo_r, lo_n, kont_v, kont_n, List.length_nil, List.length_cons, show nt 0 = (0 : Int32) from rfl, gR1, gR2, gR3]
        refine m204f hX4 hK4 (by decide) (fun K5 hK5 => kont_v.mpr ?_)
        obtain ⟨I6, hM6, hK6⟩ := mw_sf (c := 2) (v := 0) hR2 hM4 hK5
        simp (config := {decide := true}) only [r234_103, r234_104, r234_105, r234_106, r234_135, r234_136, r234_137, r234_156, r234_157, r234_159, if_true, if_false, Nat.reduceAdd, Int32.reduceToNatClampNeg, lo_i, lo_r, lo_n, kont_v, kont_n, List.length_nil, List.length_cons, show nt 0 = (0 : Int32) from rfl, gR1, gR2, gR3]
        exact te _ (thW_r (nmW_r he)) I6 _ hM6 hK6 _
    · simp (config := {decide := true}) only [if_true, if_false, vlW] at tg te
      simp (config := {decide := true}) only [r234_5, r234_6, r234_7, r234_19, r234_20, r234_22, r234_33, r234_34, r234_37, if_true, if_false, Nat.reduceAdd, Int32.reduceToNatClampNeg, lo_i, lo_r, lo_n, kont_v, kont_n, List.length_nil, List.length_cons, show nt 1 = (1 : Int32) from rfl, mS_5]
      refine go I _ o hM h8 hW hJ2 (fun I2 K2 hM2 h82 hW2 hK2 => ?_)
      have hX2 := MX_mw hX0 hM2
      simp (config := {decide := true}) only [r234_69, r234_70, r234_71, r234_74, r234_75, r234_76, r234_77, r234_78, r234_79, r234_82, r234_83, r234_84, r234_85, r234_86, if_true, if_false, Nat.reduceAdd, Int32.reduceToNatClampNeg, lo_i, lo_r, lo_n, kont_v, kont_n, List.length_nil, List.length_cons, show nt 1 = (1 : Int32) from rfl, s74, (t74 hM2 hK2).2]
      refine m204a hX2 hK2 (hS1 (by omega)) (fun V p2 hn K3 hK3 => kont_v.mpr ?_) (fun e he K3 hK3 => kont_v.mpr ?_)
      · obtain ⟨I4, hM4, h84, hW4, hK4⟩ := mw_st (i := 1) (c := 1) (v := V) hR hr8 hM2 h82 hW2 al1 al0 (by decide) (Or.inl ⟨rfl, rfl, by decide⟩) hK3
        have hX4 := MX_mw hX0 hM4
        simp (config := {decide := true}) only [r234_89, r234_90, r234_91, r234_104, r234_105, r234_106, r234_135, r234_136, r234_137, r234_156, r234_157, r234_159, if_true, if_false, Nat.reduceAdd, Int32.reduceToNatClampNeg, lo_i, lo_r, lo_n, kont_v, kont_n, List.length_nil, List.length_cons, show nt 1 = (1 : Int32) from rfl, gR1, gR2, gR3]
        exact tg _ _ ((thW_l (nmW_l hn)).trans rfl) I4 _ hM4 h84 hW4 (by rw [putW_i (by decide)]; exact al0) al1 hK4 _
      · obtain ⟨I4, hM4, hK4⟩ := mw_sf (c := 1) (v := 0) hR2 hM2 hK3
        have hX4 := MX_mw hX0 hM4
        simp (config := {decide := true}) only [r234_89, r234_90, r234_91, r234_104, r234_105, r234_106, r234_135, r234_136, r234_137, r234_156, r234_157, r234_159, if_true, if_false, Nat.reduceAdd, Int32.reduceToNatClampNeg, lo_i, lo_r, lo_n, kont_v, kont_n, List.length_nil, List.length_cons, show nt 1 = (1 : Int32) from rfl, gR1, gR2, gR3]
        exact te _ (thW_r (nmW_r he)) I4 _ hM4 hK4 _
    · simp (config := {decide := true}) only [if_true, if_false, vlW] at tg te
      simp (config := {decide := true}) only [r234_5, r234_6, r234_7, r234_19, r234_20, r234_22, r234_33, r234_34, r234_37, if_true, if_false, Nat.reduceAdd, Int32.reduceToNatClampNeg, lo_i, lo_r, lo_n, kont_v, kont_n, List.length_nil, List.length_cons, show nt 2 = (2 : Int32) from rfl, mS_5]
      refine go I _ o hM h8 hW hJ2 (fun I2 K2 hM2 h82 hW2 hK2 => ?_)
      have hX2 := MX_mw hX0 hM2
      simp (config := {decide := true}) only [r234_69, r234_70, r234_71, r234_74, r234_75, r234_76, r234_77, r234_78, r234_79, r234_82, r234_83, r234_84, r234_85, r234_86, if_true, if_false, Nat.reduceAdd, Int32.reduceToNatClampNeg, lo_i, lo_r, lo_n, kont_v, kont_n, List.length_nil, List.length_cons, show nt 2 = (2 : Int32) from rfl, s74, (t74 hM2 hK2).2]
      refine m204a hX2 hK2 (hS1 (by omega)) (fun V p2 hn K3 hK3 => kont_v.mpr ?_) (fun e he K3 hK3 => kont_v.mpr ?_)
      · obtain ⟨I4, hM4, h84, hW4, hK4⟩ := mw_st (i := 1) (c := 1) (v := V) hR hr8 hM2 h82 hW2 al1 al0 (by decide) (Or.inl ⟨rfl, rfl, by decide⟩) hK3
        have hX4 := MX_mw hX0 hM4
        simp (config := {decide := true}) only [r234_89, r234_90, r234_91, r234_104, r234_105, r234_106, r234_135, r234_136, r234_137, r234_156, r234_157, r234_159, if_true, if_false, Nat.reduceAdd, Int32.reduceToNatClampNeg, lo_i, lo_r, lo_n, kont_v, kont_n, List.length_nil, List.length_cons, show nt 2 = (2 : Int32) from rfl, gR1, gR2, gR3]
        exact tg _ _ ((thW_l (nmW_l hn)).trans rfl) I4 _ hM4 h84 hW4 (by rw [putW_i (by decide)]; exact al0) al1 hK4 _
      · obtain ⟨I4, hM4, hK4⟩ := mw_sf (c := 1) (v := 0) hR2 hM2 hK3
        have hX4 := MX_mw hX0 hM4
        simp (config := {decide := true}) only [r234_89, r234_90, r234_91, r234_104, r234_105, r234_106, r234_135, r234_136, r234_137, r234_156, r234_157, r234_159, if_true, if_false, Nat.reduceAdd, Int32.reduceToNatClampNeg, lo_i, lo_r, lo_n, kont_v, kont_n, List.length_nil, List.length_cons, show nt 2 = (2 : Int32) from rfl, gR1, gR2, gR3]
        exact te _ (thW_r (nmW_r he)) I4 _ hM4 hK4 _
    · simp (config := {decide := true}) only [if_true, if_false, vlW] at tg te
      simp (config := {decide := true}) only [r234_5, r234_6, r234_7, r234_19, r234_20, r234_22, r234_33, r234_34, r234_37, if_true, if_false, Nat.reduceAdd, Int32.reduceToNatClampNeg, lo_i, lo_r, lo_n, kont_v, kont_n, List.length_nil, List.length_cons, show nt 3 = (3 : Int32) from rfl, mS_5]
      refine go I _ o hM h8 hW hJ2 (fun I2 K2 hM2 h82 hW2 hK2 => ?_)
      have hX2 := MX_mw hX0 hM2
      simp (config := {decide := true}) only [r234_69, r234_70, r234_71, r234_74, r234_75, r234_76, r234_77, r234_78, r234_79, r234_82, r234_83, r234_84, r234_85, r234_86, if_true, if_false, Nat.reduceAdd, Int32.reduceToNatClampNeg, lo_i, lo_r, lo_n, kont_v, kont_n, List.length_nil, List.length_cons, show nt 3 = (3 : Int32) from rfl, s74, (t74 hM2 hK2).2]
      refine m204a hX2 hK2 (hS1 (by omega)) (fun V p2 hn K3 hK3 => kont_v.mpr ?_) (fun e he K3 hK3 => kont_v.mpr ?_)
      · obtain ⟨I4, hM4, h84, hW4, hK4⟩ := mw_st (i := 1) (c := 1) (v := V) hR hr8 hM2 h82 hW2 al1 al0 (by decide) (Or.inl ⟨rfl, rfl, by decide⟩) hK3
        have hX4 := MX_mw hX0 hM4
        simp (config := {decide := true}) only [r234_89, r234_90, r234_91, r234_104, r234_105, r234_106, r234_135, r234_136, r234_137, r234_156, r234_157, r234_159, if_true, if_false, Nat.reduceAdd, Int32.reduceToNatClampNeg, lo_i, lo_r, lo_n, kont_v, kont_n, List.length_nil, List.length_cons, show nt 3 = (3 : Int32) from rfl, gR1, gR2, gR3]
        exact tg _ _ ((thW_l (nmW_l hn)).trans rfl) I4 _ hM4 h84 hW4 (by rw [putW_i (by decide)]; exact al0) al1 hK4 _
      · obtain ⟨I4, hM4, hK4⟩ := mw_sf (c := 1) (v := 0) hR2 hM2 hK3
        have hX4 := MX_mw hX0 hM4
        simp (config := {decide := true}) only [r234_89, r234_90, r234_91, r234_104, r234_105, r234_106, r234_135, r234_136, r234_137, r234_156, r234_157, r234_159, if_true, if_false, Nat.reduceAdd, Int32.reduceToNatClampNeg, lo_i, lo_r, lo_n, kont_v, kont_n, List.length_nil, List.length_cons, show nt 3 = (3 : Int32) from rfl, gR1, gR2, gR3]
        exact te _ (thW_r (nmW_r he)) I4 _ hM4 hK4 _
    · simp (config := {decide := true}) only [if_true, if_false, vlW] at tg te
      simp (config := {decide := true}) only [r234_5, r234_6, r234_7, r234_19, r234_20, r234_22, r234_33, r234_34, r234_37, if_true, if_false, Nat.reduceAdd, Int32.reduceToNatClampNeg, lo_i, lo_r, lo_n, kont_v, kont_n, List.length_nil, List.length_cons, show nt 4 = (4 : Int32) from rfl, mS_5]
      refine go I _ o hM h8 hW hJ2 (fun I2 K2 hM2 h82 hW2 hK2 => ?_)
      have hX2 := MX_mw hX0 hM2
      simp (config := {decide := true}) only [r234_69, r234_70, r234_71, r234_74, r234_75, r234_76, r234_77, r234_78, r234_79, r234_82, r234_83, r234_84, r234_85, r234_86, if_true, if_false, Nat.reduceAdd, Int32.reduceToNatClampNeg, lo_i, lo_r, lo_n, kont_v, kont_n, List.length_nil, List.length_cons, show nt 4 = (4 : Int32) from rfl, s74, (t74 hM2 hK2).2]
      refine m204a hX2 hK2 (hS1 (by omega)) (fun V p2 hn K3 hK3 => kont_v.mpr ?_) (fun e he K3 hK3 => kont_v.mpr ?_)
      · obtain ⟨I4, hM4, h84, hW4, hK4⟩ := mw_st (i := 1) (c := 1) (v := V) hR hr8 hM2 h82 hW2 al1 al0 (by decide) (Or.inl ⟨rfl, rfl, by decide⟩) hK3
        have hX4 := MX_mw hX0 hM4
        simp (config := {decide := true}) only [r234_89, r234_90, r234_91, r234_104, r234_105, r234_106, r234_109, r234_110, r234_111, r234_112, r234_113, r234_114, r234_117, r234_118, r234_119, r234_120, r234_121, if_true, if_false, Nat.reduceAdd, Int32.reduceToNatClampNeg, lo_i, lo_r, lo_n, kont_v, kont_n, List.length_nil, List.length_cons, show nt 4 = (4 : Int32) from rfl, gR1, gR2, gR3, s74, (t74 hM4 hK4).1]
        refine m204a hX4 hK4 (hS1 hs7) (fun V2 p3 hn2 K5 hK5 => kont_v.mpr ?_) (fun e he K5 hK5 => kont_v.mpr ?_)
        · obtain ⟨I6, hM6, h86, hW6, hK6⟩ := mw_st (i := 3) (c := 2) (v := V2) hR hr8 hM4 h84 hW4 al1 (show (putW (alW σ 4) 1 σ.1 V).2 0 σ.1 = some 4 by rw [putW_i (by decide)]; exact al0) (by decide) (Or.inr (Or.inr (Or.inl ⟨rfl, rfl, rfl⟩))) hK5
          have hX6 := MX_mw hX0 hM6
          simp (config := {decide := true}) only [r234_124, r234_125, r234_126, r234_127, r234_128, r234_129, r234_131, if_true, if_false, Nat.reduceAdd, Int32.reduceToNatClampNeg, lo_i, lo_r, lo_n, kont_v, kont_n, List.length_nil, List.length_cons, show nt 4 = (4 : Int32) from rfl, gR1, gR2, gR3]
          refine m204a hX6 hK6 (by decide) (fun V3 p4 hn3 K7 hK7 => kont_v.mpr ?_) (fun e he K7 hK7 => kont_v.mpr ?_)
          · obtain ⟨I8, hM8, h88, hW8, hK8⟩ := mw_st (i := 2) (c := 3) (v := V3) hR hr8 hM6 h86 hW6 al1 (show (putW (putW (alW σ 4) 1 σ.1 V) 3 σ.1 V2).2 0 σ.1 = some 4 by rw [putW_i (by decide), putW_i (by decide)]; exact al0) (by decide) (Or.inr (Or.inr (Or.inr (Or.inl ⟨rfl, rfl, rfl⟩)))) hK7
            simp (config := {decide := true}) only [r234_134, r234_135, r234_136, r234_137, r234_156, r234_157, r234_159, if_true, if_false, Nat.reduceAdd, Int32.reduceToNatClampNeg, lo_i, lo_r, lo_n, kont_v, kont_n, List.length_nil, List.length_cons, show nt 4 = (4 : Int32) from rfl, gR1, gR2, gR3]
            exact tg _ _ ((thW_l (nmW_l hn)).trans ((thW_l (nmW_l hn2)).trans (nmW_l hn3))) I8 _ hM8 h88 hW8 (by rw [putW_i (by decide), putW_i (by decide), putW_i (by decide)]; exact al0) al1 hK8 _
          · obtain ⟨I8, hM8, hK8⟩ := mw_sf (c := 3) (v := 0) hR2 hM6 hK7
            simp (config := {decide := true}) only [r234_134, r234_135, r234_136, r234_137, r234_156, r234_157, r234_159, if_true, if_false, Nat.reduceAdd, Int32.reduceToNatClampNeg, lo_i, lo_r, lo_n, kont_v, kont_n, List.length_nil, List.length_cons, show nt 4 = (4 : Int32) from rfl, gR1, gR2, gR3]
            exact te _ ((thW_l (nmW_l hn)).trans ((thW_l (nmW_l hn2)).trans (nmW_r he))) I8 _ hM8 hK8 _
        · obtain ⟨I6, hM6, hK6⟩ := mw_sf (c := 2) (v := 0) hR2 hM4 hK5
          have hX6 := MX_mw hX0 hM6
          simp (config := {decide := true}) only [r234_124, r234_125, r234_126, r234_127, r234_128, r234_129, r234_131, if_true, if_false, Nat.reduceAdd, Int32.reduceToNatClampNeg, lo_i, lo_r, lo_n, kont_v, kont_n, List.length_nil, List.length_cons, show nt 4 = (4 : Int32) from rfl, gR1, gR2, gR3]
          refine m204f hX6 hK6 (by decide) (fun K7 hK7 => kont_v.mpr ?_)
          obtain ⟨I8, hM8, hK8⟩ := mw_sf (c := 3) (v := 0) hR2 hM6 hK7
          simp (config := {decide := true}) only [r234_134, r234_135, r234_136, r234_137, r234_156, r234_157, r234_159, if_true, if_false, Nat.reduceAdd, Int32.reduceToNatClampNeg, lo_i, lo_r, lo_n, kont_v, kont_n, List.length_nil, List.length_cons, show nt 4 = (4 : Int32) from rfl, gR1, gR2, gR3]
          exact te _ ((thW_l (nmW_l hn)).trans (thW_r (nmW_r he))) I8 _ hM8 hK8 _
      · obtain ⟨I4, hM4, hK4⟩ := mw_sf (c := 1) (v := 0) hR2 hM2 hK3
        have hX4 := MX_mw hX0 hM4
        simp (config := {decide := true}) only [r234_89, r234_90, r234_91, r234_104, r234_105, r234_106, r234_109, r234_110, r234_111, r234_112, r234_113, r234_114, r234_117, r234_118, r234_119, r234_120, r234_121, if_true, if_false, Nat.reduceAdd, Int32.reduceToNatClampNeg, lo_i, lo_r, lo_n, kont_v, kont_n, List.length_nil, List.length_cons, show nt 4 = (4 : Int32) from rfl, gR1, gR2, gR3, s74, (t74 hM4 hK4).1]
        refine m204f hX4 hK4 (hS1 hs7) (fun K5 hK5 => kont_v.mpr ?_)
        obtain ⟨I6, hM6, hK6⟩ := mw_sf (c := 2) (v := 0) hR2 hM4 hK5
        have hX6 := MX_mw hX0 hM6
        simp (config := {decide := true}) only [r234_124, r234_125, r234_126, r234_127, r234_128, r234_129, r234_131, if_true, if_false, Nat.reduceAdd, Int32.reduceToNatClampNeg, lo_i, lo_r, lo_n, kont_v, kont_n, List.length_nil, List.length_cons, show nt 4 = (4 : Int32) from rfl, gR1, gR2, gR3]
        refine m204f hX6 hK6 (by decide) (fun K7 hK7 => kont_v.mpr ?_)
        obtain ⟨I8, hM8, hK8⟩ := mw_sf (c := 3) (v := 0) hR2 hM6 hK7
        simp (config := {decide := true}) only [r234_134, r234_135, r234_136, r234_137, r234_156, r234_157, r234_159, if_true, if_false, Nat.reduceAdd, Int32.reduceToNatClampNeg, lo_i, lo_r, lo_n, kont_v, kont_n, List.length_nil, List.length_cons, show nt 4 = (4 : Int32) from rfl, gR1, gR2, gR3]
        exact te _ (thW_r (nmW_r he)) I8 _ hM8 hK8 _
    · simp (config := {decide := true}) only [if_true, if_false, vlW] at tg te
      simp (config := {decide := true}) only [r234_5, r234_6, r234_7, r234_19, r234_20, r234_22, r234_33, r234_34, r234_37, if_true, if_false, Nat.reduceAdd, Int32.reduceToNatClampNeg, lo_i, lo_r, lo_n, kont_v, kont_n, List.length_nil, List.length_cons, show nt 5 = (5 : Int32) from rfl, mS_5]
      refine go I _ o hM h8 hW hJ2 (fun I2 K2 hM2 h82 hW2 hK2 => ?_)
      have hX2 := MX_mw hX0 hM2
      simp (config := {decide := true}) only [r234_69, r234_70, r234_71, r234_90, r234_91, r234_104, r234_105, r234_106, r234_135, r234_136, r234_137, r234_140, r234_141, r234_142, r234_143, r234_144, r234_145, r234_148, r234_149, r234_150, r234_151, r234_152, if_true, if_false, Nat.reduceAdd, Int32.reduceToNatClampNeg, lo_i, lo_r, lo_n, kont_v, kont_n, List.length_nil, List.length_cons, show nt 5 = (5 : Int32) from rfl, s74, (t74 hM2 hK2).1]
      refine m204a hX2 hK2 (hS1 hs7) (fun V p2 hn K3 hK3 => kont_v.mpr ?_) (fun e he K3 hK3 => kont_v.mpr ?_)
      · obtain ⟨I4, hM4, h84, hW4, hK4⟩ := mw_st (i := 1) (c := 1) (v := V) hR hr8 hM2 h82 hW2 al1 al0 (by decide) (Or.inl ⟨rfl, rfl, by decide⟩) hK3
        simp (config := {decide := true}) only [r234_155, r234_156, r234_157, r234_159, if_true, if_false, Nat.reduceAdd, Int32.reduceToNatClampNeg, lo_i, lo_r, lo_n, kont_v, kont_n, List.length_nil, List.length_cons, show nt 5 = (5 : Int32) from rfl, gR1, gR2, gR3]
        exact tg _ _ (nmW_l hn) I4 _ hM4 h84 hW4 (by rw [putW_i (by decide)]; exact al0) al1 hK4 _
      · obtain ⟨I4, hM4, hK4⟩ := mw_sf (c := 1) (v := 0) hR2 hM2 hK3
        simp (config := {decide := true}) only [r234_155, r234_156, r234_157, r234_159, if_true, if_false, Nat.reduceAdd, Int32.reduceToNatClampNeg, lo_i, lo_r, lo_n, kont_v, kont_n, List.length_nil, List.length_cons, show nt 5 = (5 : Int32) from rfl, gR1, gR2, gR3]
        exact te _ (nmW_r he) I4 _ hM4 hK4 _
    · simp (config := {decide := true}) only [if_true, if_false, vlW] at tg te
      simp (config := {decide := true}) only [r234_5, r234_6, r234_7, r234_19, r234_20, r234_22, r234_33, r234_34, r234_37, if_true, if_false, Nat.reduceAdd, Int32.reduceToNatClampNeg, lo_i, lo_r, lo_n, kont_v, kont_n, List.length_nil, List.length_cons, show nt 6 = (6 : Int32) from rfl, mS_5]
      refine go I _ o hM h8 hW hJ2 (fun I2 K2 hM2 h82 hW2 hK2 => ?_)
      have hX2 := MX_mw hX0 hM2
      simp (config := {decide := true}) only [r234_69, r234_70, r234_71, r234_90, r234_91, r234_104, r234_105, r234_106, r234_135, r234_136, r234_137, r234_156, r234_157, r234_159, if_true, if_false, Nat.reduceAdd, Int32.reduceToNatClampNeg, lo_i, lo_r, lo_n, kont_v, kont_n, List.length_nil, List.length_cons, show nt 6 = (6 : Int32) from rfl]
      exact tg _ _ rfl I2 K2 hM2 h82 hW2 al0 al1 hK2 _
    · simp (config := {decide := true}) only [if_true, if_false] at tg te
      rcases hS with ⟨h1, -⟩ | ⟨U, h, hSf, ho, hU, hP, hUs⟩
      · exact absurd ⟨h1, rfl⟩ hno
      subst hSf
      have w5 := w3 rfl
      simp (config := {decide := true}) only [r234_5, r234_6, r234_7, r234_19, r234_20, r234_22, r234_25, r234_26, if_true, if_false, Nat.reduceAdd, Int32.reduceToNatClampNeg, lo_i, lo_r, lo_n, kont_v, kont_n, List.length_nil, List.length_cons, show nt 7 = (7 : Int32) from rfl]
      refine m224a ho h8 hJ2 (fun K hK => kont_v.mpr ?_)
      have hM1 : MWk I0 (wrI I 70 8 (nt (o + 1))) := MWk_w hM (Or.inl rfl)
      have f5 : K 70 5 = 0 := MT_5 hK
      simp (config := {decide := true}) only [r234_29, r234_33, r234_34, r234_37, if_true, if_false, Nat.reduceAdd, Int32.reduceToNatClampNeg, lo_i, lo_r, lo_n, kont_v, kont_n, List.length_nil, List.length_cons, f5]
      refine go _ K (o + 1) hM1 wr_eq (Wm_w8 hW) hK (fun I2 K2 hM2 h82 hW2 hK2 => ?_)
      have hX2 := MX_mw hX0 hM2
      -- the end of an again
      have z8 : ∀ e, agW B N (rWl B N 93 U 31) σ.1 (alW σ 7) p1 = .inr e → ∀ I K, MWk I0 I → MT I K N (.inr e) → ∀ v1, wp (d + 6) 234 219 [.ref (70 : Nat), v1, .ref R] [] (mk n K L x) Φ := by
        intro e he I K hM hK v1
        simp (config := {decide := true}) only [r234_219, r234_220, r234_221, r234_224, r234_225, r234_226, if_true, if_false, Nat.reduceAdd, Int32.reduceToNatClampNeg, lo_i, lo_r, lo_n, kont_v, kont_n, List.length_nil, List.length_cons]
        exact te e he _ _ (MWk_w hM (Or.inl rfl)) (MT_w (i := 8) hK (by decide) (by decide) (by decide)) _
      have z7 : ∀ e, agW B N (rWl B N 93 U 31) σ.1 (alW σ 7) p1 = .inr e → ∀ I K, MWk I0 I → MT I K N (.inr e) → ∀ v1, wp (d + 6) 234 213 [.ref (70 : Nat), v1, .ref R] [] (mk n K L x) Φ := by
        intro e he I K hM hK v1
        simp (config := {decide := true}) only [r234_213, r234_214, r234_216, if_true, if_false, Nat.reduceAdd, Int32.reduceToNatClampNeg, lo_i, lo_r, lo_n, kont_v, kont_n, List.length_nil, List.length_cons]
        exact m210 (MX_mw hX0 hM) (by decide) hK (fun K2 hK2 => kont_n.mpr (z8 e he I K2 hM hK2 v1))
      have z6 : ∀ e, agW B N (rWl B N 93 U 31) σ.1 (alW σ 7) p1 = .inr e → ∀ I K, MWk I0 I → MT I K N (.inr e) → ∀ v1, wp (d + 6) 234 178 [.ref (70 : Nat), v1, .ref R] [] (mk n K L x) Φ := by
        intro e he I K hM hK v1
        simp (config := {decide := true}) only [r234_178, r234_179, if_true, if_false, Nat.reduceAdd, Int32.reduceToNatClampNeg, lo_i, lo_r, lo_n, kont_v, kont_n, List.length_nil, List.length_cons]
        refine m200f (MX_mw hX0 hM) hK (fun K2 hK2 => kont_n.mpr ?_)
        have f5' : ¬ K2 70 5 = 0 := by rw [MT_5 hK2]; exact kf hK2.1 hK2.2.1
        simp (config := {decide := true}) only [r234_182, r234_183, r234_186, if_true, if_false, Nat.reduceAdd, Int32.reduceToNatClampNeg, lo_i, lo_r, lo_n, kont_v, kont_n, List.length_nil, List.length_cons, f5']
        exact z7 e he I K2 hM hK2 v1
      simp (config := {decide := true}) only [r234_69, r234_70, r234_71, r234_90, r234_91, r234_104, r234_105, r234_106, r234_135, r234_136, r234_137, r234_156, r234_157, r234_159, r234_162, r234_163, r234_164, r234_165, r234_166, r234_168, if_true, if_false, Nat.reduceAdd, Int32.reduceToNatClampNeg, lo_i, lo_r, lo_n, kont_v, kont_n, List.length_nil, List.length_cons, show nt 7 = (7 : Int32) from rfl]
      refine m204a hX2 hK2 (by decide) (fun V p2 hn K3 hK3 => kont_v.mpr ?_) (fun e he K3 hK3 => kont_v.mpr ?_)
      · obtain ⟨I4, hM4, h84, hW4, hK4⟩ := mw_st (i := 2) (c := 1) (v := V) hR hr8 hM2 h82 hW2 al1 al0 (by decide) (Or.inr (Or.inr (Or.inr (Or.inr (Or.inl ⟨rfl, rfl, rfl⟩))))) hK3
        have hX4 := MX_mw hX0 hM4
        have hg := rNum_ge hn
        have q0 := skp_ge (B := B) (N := N) (p := p1)
        simp (config := {decide := true}) only [r234_171, r234_172, r234_173, r234_175, if_true, if_false, Nat.reduceAdd, Int32.reduceToNatClampNeg, lo_i, lo_r, lo_n, kont_v, kont_n, List.length_nil, List.length_cons, gR1, gR2, gR3]
        refine m210 hX4 (by decide) hK4 (fun K5 hK5 => kont_n.mpr ?_)
        by_cases hs1 : cur B N (skp B N p2) = 91
        · simp only [lSig, if_pos hs1] at hK5
          have q1 := skp_ge (B := B) (N := N) (p := p2)
          have hp3 : skp B N p2 + 1 ≤ N := hK5.1
          simp (config := {decide := true}) only [r234_178, r234_179, if_true, if_false, Nat.reduceAdd, Int32.reduceToNatClampNeg, lo_i, lo_r, lo_n, kont_v, kont_n, List.length_nil, List.length_cons]
          refine m200a hX4 hK5 (fun K6 hK6 => kont_n.mpr ?_)
          refine m234L hX0 hU hP hUs 31 (putW (alW σ 7) 2 σ.1 V) (skp B N p2 + 1) I4 K6 (by omega) hp3 hM4 h84 hW4 (by show 5 * (σ.1 + 1) ≤ _; omega) hK6 (fun τ p4 hr I7 K7 hM7 h87 hW7 hK7 => ?_) (fun e hr I7 K7 hM7 hK7 => z7 e ((thW_l (nmW_l hn)).trans ((thW_l (sgW_l hs1)).trans (thW_r hr))) I7 K7 hM7 hK7 _)
          obtain ⟨f1, f2, f3, f4, f6, f7, -⟩ := PSb_l hP 31 _ _ _ _ hp3 hr
          have f4 : σ.1 + 1 ≤ τ.1 := f4
          have fk : τ.2 0 σ.1 = some 7 := by rw [f6 0 σ.1 (Nat.lt_succ_self _), putW_i (by decide)]; exact al0
          simp (config := {decide := true}) only [r234_213, r234_214, r234_216, if_true, if_false, Nat.reduceAdd, Int32.reduceToNatClampNeg, lo_i, lo_r, lo_n, kont_v, kont_n, List.length_nil, List.length_cons]
          refine m210 (MX_mw hX0 hM7) (by decide) hK7 (fun K8 hK8 => kont_n.mpr ?_)
          by_cases hs2 : cur B N (skp B N p4) = 93
          · simp only [lSig, if_pos hs2] at hK8
            have s8 : K8 70 8 = nt (o + 1) := by rw [MT_o hK8 (by decide) (by decide) (by decide)]; exact h87
            have e8 : nt (o + 1) - 1 = nt o := nt_sub1 (k := o + 1) (by omega)
            simp (config := {decide := true}) only [r234_219, r234_220, r234_221, r234_224, r234_225, r234_226, if_true, if_false, Nat.reduceAdd, Int32.reduceToNatClampNeg, lo_i, lo_r, lo_n, kont_v, kont_n, List.length_nil, List.length_cons, s8, e8]
            exact tg _ _ ((thW_l (nmW_l hn)).trans ((thW_l (sgW_l hs1)).trans ((thW_l hr).trans ((thW_l (sgW_l hs2)).trans rfl)))) _ _ (MWk_w hM7 (Or.inl rfl)) wr_eq (Wm_3 (Wm_w8 hW7) (by omega) fk) (by rw [putW_i (by decide)]; exact fk) (by show σ.1 < τ.1; omega) (MT_w (i := 8) hK8 (by decide) (by decide) (by decide)) _
          · simp only [lSig, if_neg hs2] at hK8
            exact z8 _ ((thW_l (nmW_l hn)).trans ((thW_l (sgW_l hs1)).trans ((thW_l hr).trans (thW_r (sgW_r hs2))))) I7 K8 hM7 hK8 _
        · simp only [lSig, if_neg hs1] at hK5
          exact z6 _ ((thW_l (nmW_l hn)).trans (thW_r (sgW_r hs1))) I4 K5 hM4 hK5 _
      · obtain ⟨I4, hM4, hK4⟩ := mw_sf (c := 1) (v := 0) hR2 hM2 hK3
        simp (config := {decide := true}) only [r234_171, r234_172, r234_173, r234_175, if_true, if_false, Nat.reduceAdd, Int32.reduceToNatClampNeg, lo_i, lo_r, lo_n, kont_v, kont_n, List.length_nil, List.length_cons, gR1, gR2, gR3]
        exact m210 (MX_mw hX0 hM4) (by decide) hK4 (fun K5 hK5 => kont_n.mpr (z6 _ (thW_r (nmW_r he)) I4 K5 hM4 hK5 _))
theorem m234_all (hX0 : MX I0 N B) (hN : N ≤ 150) (h740 : I0 74 0 = nt sn) (h741 : I0 74 1 = nt cn) (hs7 : sn ≤ 7) (hc6 : cn ≤ 6) : ∀ h o d, o + h = 6 → MWn n I0 N (d + h + 6) o (rSt B N sn cn (sB B N sn cn h)) := by
  intro h
  induction h with
  | zero =>
    intro o d ho
    exact m234 hX0 hN h740 h741 hs7 hc6 (Or.inl ⟨rfl, by omega⟩)
  | succ h ih =>
    intro o d ho
    have hi : MWn n I0 N (d + h + 1 + 5) (o + 1) (rSt B N sn cn (sB B N sn cn h)) := ih (o + 1) d (by omega)
    exact m234 (d := d + h + 1) hX0 hN h740 h741 hs7 hc6 (Or.inr ⟨_, h, rfl, by omega, hi, PSs_all hs7 hc6 h, fun σ p => rSt_skp⟩)
end Wl

