/-! WORK, read by the class -/
def WM (I G : Nat → Nat → Int32) : Nat → Nat → Int32 := fun r => if 32 ≤ r ∧ r ≤ 36 then G r else I r
def Wc (G : Nat → Nat → Int32) (σ : WS) : Prop := G 32 4 = nt σ.1 ∧ ∀ i, i < 4 → ∀ r, r < 30 → ∀ v, σ.2 i r = some v → G (33 + i) r = nt v
def CWn (n : Nat) (I : Nat → Nat → Int32) (N d M : Nat) (o : Int32) (U : WPs) : Prop := ∀ (x : Nat) (L : Nat → Nat → Int64) (Φ : POut → PM → Prop) (G J : Nat → Nat → Int32) (σ : WS) (a : Nat), Wc G σ → 5 * σ.1 ≤ a → CT (WM I G) J N (.inl a) → (∀ τ p', U σ a = .inl (τ, p') → ∀ G' K, Wc G' τ → CT (WM I G') K N (.inl p') → Φ (.inl none) (mk n K L x)) → (∀ e, U σ a = .inr e → ∀ G' K, CT (WM I G') K N (.inr e) → Φ (.inl none) (mk n K L x)) → wpc d M [.ref (32 : Nat), .ref (10 : Nat), .ref (12 : Nat), .int o] (mk n J L x) Φ
def CWf (n : Nat) (I : Nat → Nat → Int32) (N d M : Nat) : Prop := ∀ (x : Nat) (L : Nat → Nat → Int64) (Φ : POut → PM → Prop) (G J : Nat → Nat → Int32) (e : Nat × Nat) (o : Int32), CT (WM I G) J N (.inr e) → (∀ G' K, CT (WM I G') K N (.inr e) → Φ (.inl none) (mk n K L x)) → wpc d M [.ref (32 : Nat), .ref (10 : Nat), .ref (12 : Nat), .int o] (mk n J L x) Φ
def C18 (n : Nat) (I : Nat → Nat → Int32) (N d : Nat) (o : Int32) (f : WPs) : Prop := ∀ (x : Nat) (L : Nat → Nat → Int64) (Φ : POut → PM → Prop) (G J : Nat → Nat → Int32) (σ : WS) (a r : Nat), Wc G σ → 5 * σ.1 ≤ a → r < 30 → CT (WM I G) J N (.inl a) → (∀ τ p', agW (I 11) N f r σ a = .inl (τ, p') → ∀ G' K, Wc G' τ → CT (WM I G') K N (.inl p') → Φ (.inl none) (mk n K L x)) → (∀ e, agW (I 11) N f r σ a = .inr e → ∀ G' K, CT (WM I G') K N (.inr e) → Φ (.inl none) (mk n K L x)) → wpc d 18 [.ref (32 : Nat), .ref (10 : Nat), .ref (12 : Nat), .int (nt r), .int o] (mk n J L x) Φ
section Wi
variable {d n x N a o sn cn : Nat} {Φ : POut → PM → Prop} {I J K G : Nat → Nat → Int32} {L : Nat → Nat → Int64} {v w z s : Int32} {σ τ : WS} {k u : Nat} {t : LSt} {r i : Nat} {g : Nat → Int32} {f U : WPs} {S : Option WPs}
theorem WM_i (h : 32 ≤ r ∧ r ≤ 36) : WM I G r = G r := if_pos h
theorem WM_o (h : r < 32 ∨ 36 < r) : WM I G r = I r := if_neg (by omega)
theorem WM_up (h : 32 ≤ r ∧ r ≤ 36) : upR (WM I G) r g = WM I (upR G r g) := by
  funext b
  unfold WM
  by_cases hb : b = r
  · subst hb
    rw [upR_same, if_pos h, upR_same]
  · rw [upR_ne hb, upR_ne hb]
theorem TX_wm (h : TX I N) : TX (WM I G) N := by
  unfold TX
  rw [WM_o (by decide), WM_o (by decide)]
  exact h
theorem SG_wm {w : Nat} {W : List Nat} (h : SG I w W) : SG (WM I G) w W := by
  obtain ⟨h1, h2, h3, h4, h5⟩ := h
  have hw : w ≤ 2 := by rcases h1 with rfl | rfl | rfl <;> decide
  exact ⟨h1, by rw [WM_o (by omega)]; exact h2, h3, h4, by rw [WM_o (by omega)]; exact h5⟩
theorem CT_ww (h : CT (WM I G) J N t) (hr : 32 ≤ r ∧ r ≤ 36) : CT (WM I (upR G r g)) (upR J r g) N t := by
  rw [← WM_up hr]
  exact CT_up h (by omega)
theorem CT_wa (h : CT (WM I G) J N t) (hr : 32 ≤ r ∧ r ≤ 36) : CT (WM I (upR G r (upd (J r) i v))) (wrI J r i v) N t := CT_ww h hr
theorem Wc_p (hm : Wc G σ) (hJ : CT (WM I G) J N t) (hi : i < 4) (hr : r < 30) : Wc (upR G (33 + i) (upd (J (33 + i)) r (nt u))) (putW σ i r u) := by
  have e : J (33 + i) = G (33 + i) := by rw [CT_ne hJ (by omega), WM_i (by omega)]
  refine ⟨by rw [upR_ne (by omega)]; exact hm.1, fun i' hi' r' hr' v' hv' => ?_⟩
  by_cases h1 : i' = i
  · subst h1
    rw [upR_same, e]
    by_cases h2 : r' = r
    · subst h2
      rw [putW_at] at hv'
      rw [up_same, Option.some.inj hv']
    · rw [up_ne h2]
      rw [putW_r h2] at hv'
      exact hm.2 i' hi' r' hr' v' hv'
  · rw [upR_ne (by omega)]
    rw [putW_i h1] at hv'
    exact hm.2 i' hi' r' hr' v' hv'
theorem Wc_4 (hm : Wc G σ) : Wc G (putW σ 4 r u) := ⟨hm.1, fun i' hi' r' hr' v' hv' => by rw [putW_i (by omega)] at hv'; exact hm.2 i' hi' r' hr' v' hv'⟩
theorem w33 {i : Nat} (h : i < 4) : sh0 n (33 + i) = (20, 30, []) := by
  match i, h with
  | 0, _ => rfl
  | 1, _ => rfl
  | 2, _ => rfl
  | 3, _ => rfl
theorem z33 : sh0 n 33 = (20, 30, []) := w33 (i := 0) (by decide)
theorem z34 : sh0 n 34 = (20, 30, []) := w33 (i := 1) (by decide)
theorem z35 : sh0 n 35 = (20, 30, []) := w33 (i := 2) (by decide)
theorem z36 : sh0 n 36 = (20, 30, []) := w33 (i := 3) (by decide)
theorem pt30 {q r : Nat} (hr : r < 30) : putv 30 J q (nt r) v = wrI J q r v := putv_nt hr (by decide)
theorem c15f : CWf n I N (d + 1) 15 := by
  intro x L Φ G J e o hJ h
  have e1 : ¬ flt (.inr e) = 0 := hJ.1
  show wp (d + 1) 15 0 [.ref (32 : Nat), .ref (10 : Nat), .ref (12 : Nat), .int o, noV, noV] [] (mk n J L x) Φ
  by_cases h0 : o = 0
  · simp (config := {decide := true}) only [r15_0, r15_1, r15_4, r15_5, r15_8, r15_10, r15_12, r15_13, r15_15, r15_17, r15_19, r15_22, r15_23, r15_26, r15_51, if_true, if_false, Nat.reduceAdd, Int32.reduceToNatClampNeg, lo_i, lo_r, lo_n, kont_v, kont_n, List.length_nil, List.length_cons, h0, c95t hJ, e1]
    exact h _ _ hJ
  · simp (config := {decide := true}) only [r15_0, r15_1, r15_4, r15_5, r15_8, r15_10, r15_12, r15_13, r15_15, r15_17, r15_19, r15_22, r15_23, r15_26, r15_51, if_true, if_false, Nat.reduceAdd, Int32.reduceToNatClampNeg, lo_i, lo_r, lo_n, kont_v, kont_n, List.length_nil, List.length_cons, h0, c95t hJ, e1]
    exact h _ _ hJ
theorem c17f (hT : TX I N) (h5 : I 12 5 = nt sn) (hs7 : sn ≤ 7) (hk : k < 5) {e : Nat × Nat} (hJ : CT (WM I G) J N (.inr e)) (h : ∀ G' K, CT (WM I G') K N (.inr e) → Φ (.inl none) (mk n K L x)) : wpc (d + 3) 17 [.ref (32 : Nat), .ref (10 : Nat), .ref (12 : Nat), .int z, .int (nt k)] (mk n J L x) Φ := by
  have k12 : K6 12 := Or.inl rfl
  show wp (d + 3) 17 0 [.ref (32 : Nat), .ref (10 : Nat), .ref (12 : Nat), .int z, .int (nt k)] [] (mk n J L x) Φ
  by_cases k0 : k = 0
  · subst k0
    simp (config := {decide := true}) only [r17_0, r17_2, r17_5, r17_6, r17_9, r17_10, r17_11, r17_12, r17_14, if_true, if_false, Nat.reduceAdd, Int32.reduceToNatClampNeg, lo_i, lo_r, lo_n, kont_v, kont_n, List.length_nil, List.length_cons, show nt 0 = (0 : Int32) from rfl]
    refine c100f (TX_wm hT) hJ (by decide) (fun K hK => kont_v.mpr ?_)
    simp (config := {decide := true}) only [r17_17, r17_20, r17_63, if_true, if_false, Nat.reduceAdd, Int32.reduceToNatClampNeg, lo_i, lo_r, lo_n, kont_v, kont_n, List.length_nil, List.length_cons, c186, z35, putv_up]
    exact h _ _ (CT_ww hK (by decide))
  · have e0 : ¬ (nt k = 0) := by rw [show (0 : Int32) = nt 0 from rfl, nt_inj (by omega) (by decide)]; exact k0
    by_cases k4 : k = 4
    · subst k4
      have e5 : J 12 5 = nt sn := by rw [CT_ne hJ (by decide), WM_o (by decide)]; exact h5
      simp (config := {decide := true}) only [r17_0, r17_2, r17_23, r17_25, r17_26, r17_29, r17_30, r17_33, r17_34, r17_35, r17_36, r17_37, r17_40, r17_41, r17_42, if_true, if_false, Nat.reduceAdd, Int32.reduceToNatClampNeg, lo_i, lo_r, lo_n, kont_v, kont_n, List.length_nil, List.length_cons, show nt 4 = (4 : Int32) from rfl, k12, e5]
      refine c100f (TX_wm hT) hJ (hS1 hs7) (fun K hK => kont_v.mpr ?_)
      simp (config := {decide := true}) only [r17_45, r17_48, r17_49, r17_52, r17_53, r17_54, r17_55, r17_57, if_true, if_false, Nat.reduceAdd, Int32.reduceToNatClampNeg, lo_i, lo_r, lo_n, kont_v, kont_n, List.length_nil, List.length_cons, c186, z36, putv_up]
      refine c100f (TX_wm hT) (CT_ww (r := 36) (g := stv 30 (K 36) z 0) hK (by decide)) (by decide) (fun K2 hK2 => kont_v.mpr ?_)
      simp (config := {decide := true}) only [r17_60, r17_63, if_true, if_false, Nat.reduceAdd, Int32.reduceToNatClampNeg, lo_i, lo_r, lo_n, kont_v, kont_n, List.length_nil, List.length_cons, c186, z35, putv_up]
      exact h _ _ (CT_ww hK2 (by decide))
    · have e4 : ¬ (nt k = 4) := by rw [show (4 : Int32) = nt 4 from rfl, nt_inj (by omega) (by decide)]; exact k4
      simp (config := {decide := true}) only [r17_0, r17_2, r17_23, r17_25, r17_26, r17_63, if_true, if_false, Nat.reduceAdd, Int32.reduceToNatClampNeg, lo_i, lo_r, lo_n, kont_v, kont_n, List.length_nil, List.length_cons, e0, e4]
      exact h _ _ hJ
theorem c17 (hT : TX I N) (h5 : I 12 5 = nt sn) (hs7 : sn ≤ 7) (hk : k < 5) (hr : r < 30) (hm : Wc G σ) (hJ : CT (WM I G) J N (.inl a)) (hok : ∀ τ p', vlW (I 11) N sn k r σ a = .inl (τ, p') → ∀ G' K, Wc G' τ → CT (WM I G') K N (.inl p') → Φ (.inl none) (mk n K L x)) (hbad : ∀ e, vlW (I 11) N sn k r σ a = .inr e → ∀ G' K, CT (WM I G') K N (.inr e) → Φ (.inl none) (mk n K L x)) : wpc (d + 3) 17 [.ref (32 : Nat), .ref (10 : Nat), .ref (12 : Nat), .int (nt r), .int (nt k)] (mk n J L x) Φ := by
  have k12 : K6 12 := Or.inl rfl
  have h11 : ∀ G, WM I G 11 = I 11 := fun G => WM_o (by decide)
  show wp (d + 3) 17 0 [.ref (32 : Nat), .ref (10 : Nat), .ref (12 : Nat), .int (nt r), .int (nt k)] [] (mk n J L x) Φ
  unfold vlW at hok hbad
  by_cases k0 : k = 0
  · subst k0
    simp only [if_true] at hok hbad
    simp (config := {decide := true}) only [r17_0, r17_2, r17_5, r17_6, r17_9, r17_10, r17_11, r17_12, r17_14, if_true, if_false, Nat.reduceAdd, Int32.reduceToNatClampNeg, lo_i, lo_r, lo_n, kont_v, kont_n, List.length_nil, List.length_cons, show nt 0 = (0 : Int32) from rfl]
    refine c100a (TX_wm hT) hJ (by decide) ?_ ?_
    · intro V p1 hn q hq hp1
      rw [h11] at hn
      have hK : CT (WM I G) (tS (WM I G) (nt p1) (nt (skp (WM I G 11) N a)) 0 q) N (.inl p1) := ct_ok hq hp1
      generalize tS (WM I G) (nt p1) (nt (skp (WM I G 11) N a)) 0 q = K at hK
      refine kont_v.mpr ?_
      simp (config := {decide := true}) only [r17_17, r17_20, r17_63, if_true, if_false, Nat.reduceAdd, Int32.reduceToNatClampNeg, lo_i, lo_r, lo_n, kont_v, kont_n, List.length_nil, List.length_cons, c186, z35, pt30 hr]
      exact hok _ _ (nmW_l hn) _ _ (Wc_p (i := 2) hm hK (by decide) hr) (CT_wa hK (by decide))
    · intro e he v1 K hK
      rw [h11] at he
      refine kont_v.mpr ?_
      simp (config := {decide := true}) only [r17_17, r17_20, r17_63, if_true, if_false, Nat.reduceAdd, Int32.reduceToNatClampNeg, lo_i, lo_r, lo_n, kont_v, kont_n, List.length_nil, List.length_cons, c186, z35, putv_up]
      exact hbad e (nmW_r he) _ _ (CT_ww hK (by decide))
  · have e0 : ¬ (nt k = 0) := by rw [show (0 : Int32) = nt 0 from rfl, nt_inj (by omega) (by decide)]; exact k0
    simp only [if_neg k0] at hok hbad
    by_cases k4 : k = 4
    · subst k4
      simp only [if_true] at hok hbad
      have e5 : J 12 5 = nt sn := by rw [CT_ne hJ (by decide), WM_o (by decide)]; exact h5
      simp (config := {decide := true}) only [r17_0, r17_2, r17_23, r17_25, r17_26, r17_29, r17_30, r17_33, r17_34, r17_35, r17_36, r17_37, r17_40, r17_41, r17_42, if_true, if_false, Nat.reduceAdd, Int32.reduceToNatClampNeg, lo_i, lo_r, lo_n, kont_v, kont_n, List.length_nil, List.length_cons, show nt 4 = (4 : Int32) from rfl, k12, e5]
      refine c100a (TX_wm hT) hJ (hS1 hs7) ?_ ?_
      · intro V p1 hn q hq hp1
        rw [h11] at hn
        have hK : CT (WM I G) (tS (WM I G) (nt p1) (nt (skp (WM I G 11) N a)) 0 q) N (.inl p1) := ct_ok hq hp1
        generalize tS (WM I G) (nt p1) (nt (skp (WM I G 11) N a)) 0 q = K at hK
        refine kont_v.mpr ?_
        have hm1 := Wc_p (i := 3) (u := V) hm hK (by decide) hr
        have hK1 := CT_wa (r := 36) (i := r) (v := nt V) hK (by decide)
        simp (config := {decide := true}) only [r17_45, r17_48, r17_49, r17_52, r17_53, r17_54, r17_55, r17_57, if_true, if_false, Nat.reduceAdd, Int32.reduceToNatClampNeg, lo_i, lo_r, lo_n, kont_v, kont_n, List.length_nil, List.length_cons, c186, z36, pt30 hr]
        refine c100a (TX_wm hT) hK1 (by decide) ?_ ?_
        · intro V2 p2 hn2 q2 hq2 hp2
          rw [h11] at hn2
          have hK2 : CT (WM I (upR G 36 (upd (K 36) r (nt V)))) (tS (WM I (upR G 36 (upd (K 36) r (nt V)))) (nt p2) (nt (skp (WM I (upR G 36 (upd (K 36) r (nt V))) 11) N p1)) 0 q2) N (.inl p2) := ct_ok hq2 hp2
          generalize tS (WM I (upR G 36 (upd (K 36) r (nt V)))) (nt p2) (nt (skp (WM I (upR G 36 (upd (K 36) r (nt V))) 11) N p1)) 0 q2 = K2 at hK2
          refine kont_v.mpr ?_
          simp (config := {decide := true}) only [r17_60, r17_63, if_true, if_false, Nat.reduceAdd, Int32.reduceToNatClampNeg, lo_i, lo_r, lo_n, kont_v, kont_n, List.length_nil, List.length_cons, c186, z35, pt30 hr]
          exact hok _ _ ((thW_l (nmW_l hn)).trans (nmW_l hn2)) _ _ (Wc_p (i := 2) hm1 hK2 (by decide) hr) (CT_wa hK2 (by decide))
        · intro e he v1 K2 hK2
          rw [h11] at he
          refine kont_v.mpr ?_
          simp (config := {decide := true}) only [r17_60, r17_63, if_true, if_false, Nat.reduceAdd, Int32.reduceToNatClampNeg, lo_i, lo_r, lo_n, kont_v, kont_n, List.length_nil, List.length_cons, c186, z35, putv_up]
          exact hbad e ((thW_l (nmW_l hn)).trans (nmW_r he)) _ _ (CT_ww hK2 (by decide))
      · intro e he v1 K hK
        rw [h11] at he
        refine kont_v.mpr ?_
        simp (config := {decide := true}) only [r17_45, r17_48, r17_49, r17_52, r17_53, r17_54, r17_55, r17_57, if_true, if_false, Nat.reduceAdd, Int32.reduceToNatClampNeg, lo_i, lo_r, lo_n, kont_v, kont_n, List.length_nil, List.length_cons, c186, z36, putv_up]
        refine c100f (TX_wm hT) (CT_ww (r := 36) (g := stv 30 (K 36) (nt r) v1) hK (by decide)) (by decide) (fun K2 hK2 => kont_v.mpr ?_)
        simp (config := {decide := true}) only [r17_60, r17_63, if_true, if_false, Nat.reduceAdd, Int32.reduceToNatClampNeg, lo_i, lo_r, lo_n, kont_v, kont_n, List.length_nil, List.length_cons, c186, z35, putv_up]
        exact hbad e (thW_r (nmW_r he)) _ _ (CT_ww hK2 (by decide))
    · have e4 : ¬ (nt k = 4) := by rw [show (4 : Int32) = nt 4 from rfl, nt_inj (by omega) (by decide)]; exact k4
      simp only [if_neg k4] at hok hbad
      simp (config := {decide := true}) only [r17_0, r17_2, r17_23, r17_25, r17_26, r17_63, if_true, if_false, Nat.reduceAdd, Int32.reduceToNatClampNeg, lo_i, lo_r, lo_n, kont_v, kont_n, List.length_nil, List.length_cons, e0, e4]
      exact hok _ _ rfl G J hm hJ
theorem c18 (hT : TX I N) (hf : PSb N sn cn u f) (hS : CWn n I N (d + 7) 15 (nt (o + 1)) f) : C18 n I N (d + 8) (nt o) f := by
  intro x L Φ G J σ a r hm h5a hr hJ hok hbad
  have h11 : ∀ G, WM I G 11 = I 11 := fun G => WM_o (by decide)
  have hg : ∀ p, p ≤ skp (I 11) N p := fun p => skp_ge
  have t4 : ∀ e, agW (I 11) N f r σ a = .inr e → ∀ G K, CT (WM I G) K N (.inr e) → wp (d + 8) 18 31 [.ref (32 : Nat), .ref (10 : Nat), .ref (12 : Nat), .int (nt r), .int (nt o)] [] (mk n K L x) Φ := by
    intro e he G K hK
    simp (config := {decide := true}) only [r18_31, r18_32, r18_34, if_true, if_false, Nat.reduceAdd, Int32.reduceToNatClampNeg, lo_i, lo_r, lo_n, kont_v, kont_n, List.length_nil, List.length_cons]
    refine c98 (TX_wm hT) (by decide) hK (fun K2 hK2 => kont_n.mpr ?_)
    simp (config := {decide := true}) only [r18_37, r18_38, r18_41, r18_42, r18_43, r18_46, r18_49, if_true, if_false, Nat.reduceAdd, Int32.reduceToNatClampNeg, lo_i, lo_r, lo_n, kont_v, kont_n, List.length_nil, List.length_cons, c186, z36, putv_up]
    exact hbad e he _ _ (CT_ww hK2 (by decide))
  have t3 : ∀ e, agW (I 11) N f r σ a = .inr e → ∀ G K, CT (WM I G) K N (.inr e) → wp (d + 8) 18 21 [.ref (32 : Nat), .ref (10 : Nat), .ref (12 : Nat), .int (nt r), .int (nt o)] [] (mk n K L x) Φ := by
    intro e he G K hK
    simp (config := {decide := true}) only [r18_21, r18_22, r18_23, r18_24, r18_26, r18_27, r18_28, if_true, if_false, Nat.reduceAdd, Int32.reduceToNatClampNeg, lo_i, lo_r, lo_n, kont_v, kont_n, List.length_nil, List.length_cons]
    exact c15f _ _ _ G K e _ hK (fun G' K' hK' => kont_n.mpr (t4 e he G' K' hK'))
  show wp (d + 8) 18 0 [.ref (32 : Nat), .ref (10 : Nat), .ref (12 : Nat), .int (nt r), .int (nt o)] [] (mk n J L x) Φ
  simp (config := {decide := true}) only [r18_0, r18_1, r18_4, r18_5, r18_6, r18_7, r18_9, if_true, if_false, Nat.reduceAdd, Int32.reduceToNatClampNeg, lo_i, lo_r, lo_n, kont_v, kont_n, List.length_nil, List.length_cons]
  refine c100a (TX_wm hT) hJ (by decide) ?_ ?_
  · intro V p1 hn q hq hp1
    rw [h11] at hn
    have hge := (rNum_ge hn).1
    have q0 := hg a
    have hK : CT (WM I G) (tS (WM I G) (nt p1) (nt (skp (WM I G 11) N a)) 0 q) N (.inl p1) := ct_ok hq hp1
    generalize tS (WM I G) (nt p1) (nt (skp (WM I G 11) N a)) 0 q = K at hK
    have hm1 := Wc_p (i := 2) (u := V) hm hK (by decide) hr
    have hK1 := CT_wa (r := 35) (i := r) (v := nt V) hK (by decide)
    refine kont_v.mpr ?_
    simp (config := {decide := true}) only [r18_12, r18_15, r18_16, r18_18, if_true, if_false, Nat.reduceAdd, Int32.reduceToNatClampNeg, lo_i, lo_r, lo_n, kont_v, kont_n, List.length_nil, List.length_cons, c186, z35, pt30 hr]
    refine c98 (TX_wm hT) (by decide) hK1 (fun K2 hK2 => kont_n.mpr ?_)
    rw [h11] at hK2
    by_cases hs1 : cur (I 11) N (skp (I 11) N p1) = 91
    · simp only [lSig, if_pos hs1] at hK2
      have q1 := hg p1
      simp (config := {decide := true}) only [r18_21, r18_22, r18_23, r18_24, r18_26, r18_27, r18_28, if_true, if_false, Nat.reduceAdd, Int32.reduceToNatClampNeg, lo_i, lo_r, lo_n, kont_v, kont_n, List.length_nil, List.length_cons, nt_succ]
      refine hS _ _ _ _ K2 (putW σ 2 r V) (skp (I 11) N p1 + 1) hm1 (by show 5 * σ.1 ≤ _; omega) hK2 (fun τ1 p2 hf1 G3 K3 hm3 hK3 => kont_n.mpr ?_) (fun e hf1 G3 K3 hK3 => kont_n.mpr (t4 e ((thW_l (nmW_l hn)).trans ((thW_l (sgW_l hs1)).trans (thW_r hf1))) G3 K3 hK3))
      simp (config := {decide := true}) only [r18_31, r18_32, r18_34, if_true, if_false, Nat.reduceAdd, Int32.reduceToNatClampNeg, lo_i, lo_r, lo_n, kont_v, kont_n, List.length_nil, List.length_cons]
      refine c98 (TX_wm hT) (by decide) hK3 (fun K4 hK4 => kont_n.mpr ?_)
      rw [h11] at hK4
      by_cases hs2 : cur (I 11) N (skp (I 11) N p2) = 93
      · simp only [lSig, if_pos hs2] at hK4
        have e4 : K4 32 4 = nt τ1.1 := by rw [CT_ne hK4 (by decide), WM_i (by decide)]; exact hm3.1
        simp (config := {decide := true}) only [r18_37, r18_38, r18_41, r18_42, r18_43, r18_46, r18_49, if_true, if_false, Nat.reduceAdd, Int32.reduceToNatClampNeg, lo_i, lo_r, lo_n, kont_v, kont_n, List.length_nil, List.length_cons, e4, c186, z36, pt30 hr]
        exact hok _ _ ((thW_l (nmW_l hn)).trans ((thW_l (sgW_l hs1)).trans ((thW_l hf1).trans ((thW_l (sgW_l hs2)).trans rfl)))) _ _ (Wc_p (i := 3) hm3 hK4 (by decide) hr) (CT_wa hK4 (by decide))
      · simp only [lSig, if_neg hs2] at hK4
        simp (config := {decide := true}) only [r18_37, r18_38, r18_41, r18_42, r18_43, r18_46, r18_49, if_true, if_false, Nat.reduceAdd, Int32.reduceToNatClampNeg, lo_i, lo_r, lo_n, kont_v, kont_n, List.length_nil, List.length_cons, c186, z36, putv_up]
        exact hbad _ ((thW_l (nmW_l hn)).trans ((thW_l (sgW_l hs1)).trans ((thW_l hf1).trans (thW_r (sgW_r hs2))))) _ _ (CT_ww hK4 (by decide))
    · simp only [lSig, if_neg hs1] at hK2
      exact t3 _ ((thW_l (nmW_l hn)).trans (thW_r (sgW_r hs1))) _ K2 hK2
  · intro e he v1 K hK
    rw [h11] at he
    refine kont_v.mpr ?_
    simp (config := {decide := true}) only [r18_12, r18_15, r18_16, r18_18, if_true, if_false, Nat.reduceAdd, Int32.reduceToNatClampNeg, lo_i, lo_r, lo_n, kont_v, kont_n, List.length_nil, List.length_cons, c186, z35, putv_up]
    exact c98 (TX_wm hT) (by decide) (CT_ww (r := 35) (g := stv 30 (K 35) (nt r) v1) hK (by decide)) (fun K2 hK2 => kont_n.mpr (t3 e (thW_r (nmW_r he)) _ K2 hK2))
/-- what a step does, by its word -/
theorem rSt_b {p p1 : Nat} {B : Nat → Int32} (hw : rWrd B N ws2 p = .inl (k, p1)) (h7 : S = none → k ≠ 7) : rSt B N sn cn S σ p = thW (bdW B N sn cn (S.getD idW) k σ.1) (edW B N σ.1) (alW σ k) p1 := by
  unfold rSt
  rw [hw]
  cases S with
  | none => dsimp only; rw [if_neg (h7 rfl)]; rfl
  | some f => rfl
theorem c16 (hT : TX I N) (hG : SG I 2 wd2) (hN : N ≤ 150) (h5 : I 12 5 = nt sn) (h6 : I 12 6 = nt cn) (hs7 : sn ≤ 7) (hc6 : cn ≤ 6) (hS : (S = none ∧ z = 6) ∨ ∃ f o, S = some f ∧ o < 6 ∧ z = nt o ∧ C18 n I N (d + 5) (nt o) f) : CWn n I N (d + 6) 16 z (rSt (I 11) N sn cn S) := by
  intro x L Φ G J σ a hm h5a hJ hok hbad
  have k12 : K6 12 := Or.inl rfl
  have h11 : ∀ G, WM I G 11 = I 11 := fun G => WM_o (by decide)
  have hg : ∀ p, p ≤ skp (I 11) N p := fun p => skp_ge
  have fin : ∀ e, rSt (I 11) N sn cn S σ a = .inr e → ∀ G K, CT (WM I G) K N (.inr e) → ∀ v4 v5, wp (d + 6) 16 26 [.ref (32 : Nat), .ref (10 : Nat), .ref (12 : Nat), .int z, .int v4, v5] [] (mk n K L x) Φ := by
    intro e he G K hK v4 v5
    have e1 : ¬ flt (.inr e) = 0 := hK.1
    simp (config := {decide := true}) only [r16_26, r16_27, r16_30, r16_33, if_true, if_false, Nat.reduceAdd, Int32.reduceToNatClampNeg, lo_i, lo_r, lo_n, kont_v, kont_n, List.length_nil, List.length_cons, c95t hK, e1]
    exact hbad e he G K hK
  have tb : ∀ e, rSt (I 11) N sn cn S σ a = .inr e → ∀ G K, CT (WM I G) K N (.inr e) → ∀ v4 v5, wp (d + 6) 16 145 [.ref (32 : Nat), .ref (10 : Nat), .ref (12 : Nat), .int z, .int v4, .int v5] [] (mk n K L x) Φ := by
    intro e he G K hK v4 v5
    simp (config := {decide := true}) only [r16_145, r16_146, r16_148, if_true, if_false, Nat.reduceAdd, Int32.reduceToNatClampNeg, lo_i, lo_r, lo_n, kont_v, kont_n, List.length_nil, List.length_cons]
    refine c98 (TX_wm hT) (by decide) hK (fun K2 hK2 => kont_n.mpr ?_)
    simp (config := {decide := true}) only [r16_151, if_true, if_false, Nat.reduceAdd, Int32.reduceToNatClampNeg, lo_i, lo_r, lo_n, kont_v, kont_n, List.length_nil, List.length_cons]
    exact hbad e he G K2 hK2
  show wp (d + 6) 16 0 [.ref (32 : Nat), .ref (10 : Nat), .ref (12 : Nat), .int z, noV, noV] [] (mk n J L x) Φ
  simp (config := {decide := true}) only [r16_0, r16_1, r16_3, if_true, if_false, Nat.reduceAdd, Int32.reduceToNatClampNeg, lo_i, lo_r, lo_n, kont_v, kont_n, List.length_nil, List.length_cons]
  refine c101a (TX_wm hT) (SG_wm hG) sw2 (by decide) hJ ?_ ?_
  · intro k p1 hw q hq hp1
    rw [h11] at hw
    have hk8 : k < 8 := rWrd_lt hw
    have haN : a ≤ N := hJ.1
    obtain ⟨-, hlen⟩ := rWrd_len haN hw
    obtain ⟨w1, w2, w3⟩ := ws2_len k hk8
    have hrow : σ.1 < 30 := by omega
    refine kont_v.mpr ?_
    by_cases hno : S = none ∧ k = 7
    · obtain ⟨rfl, rfl⟩ := hno
      have hz : z = 6 := by
        rcases hS with ⟨-, hz⟩ | ⟨f, o, hf, -⟩
        · exact hz
        · cases hf
      subst hz
      rw [h11]
      simp (config := {decide := true}) only [r16_6, r16_8, r16_10, r16_12, r16_15, r16_16, r16_18, r16_21, r16_22, r16_23, if_true, if_false, Nat.reduceAdd, Int32.reduceToNatClampNeg, lo_i, lo_r, lo_n, kont_v, kont_n, List.length_nil, List.length_cons, show nt 7 = (7 : Int32) from rfl, c96]
      exact fin (3, skp (I 11) N a) (by unfold rSt; rw [hw]; rfl) G _ (ct_f (by decide) (by decide) hp1) _ _
    · have hb := rSt_b (S := S) (sn := sn) (cn := cn) (σ := σ) hw (fun h1 h2 => hno ⟨h1, h2⟩)
      rw [hb] at hok hbad fin tb
      have hK0 : CT (WM I G) (tS (WM I G) (nt p1) (nt (skp (WM I G 11) N a)) 0 q) N (.inl p1) := ct_ok hq hp1
      generalize tS (WM I G) (nt p1) (nt (skp (WM I G 11) N a)) 0 q = K0 at hK0
      have s4 : K0 32 4 = nt σ.1 := by rw [CT_ne hK0 (by decide), WM_i (by decide)]; exact hm.1
      have hK1 := CT_wa (r := 32) (i := 4) (v := nt (σ.1 + 1)) hK0 (by decide)
      have hm1 : Wc (upR G 32 (upd (K0 32) 4 (nt (σ.1 + 1)))) (σ.1 + 1, σ.2) := ⟨by rw [upR_same, up_same], fun i' hi' r' hr' v' hv' => by rw [upR_ne (by omega)]; exact hm.2 i' hi' r' hr' v' hv'⟩
      have hm2 := Wc_p (i := 0) (r := σ.1) (u := k) hm1 hK1 (by decide) hrow
      have hK2 := CT_wa (r := 33) (i := σ.1) (v := nt k) hK1 (by decide)
      have hm2 : Wc (upR (upR G 32 (upd (K0 32) 4 (nt (σ.1 + 1)))) 33 (upd (wrI K0 32 4 (nt (σ.1 + 1)) 33) σ.1 (nt k))) (alW σ k) := hm2
      -- up to the body
      have pre : wp (d + 6) 16 61 [.ref (32 : Nat), .ref (10 : Nat), .ref (12 : Nat), .int z, .int (nt k), .int (nt σ.1)] [] (mk n (wrI (wrI K0 32 4 (nt (σ.1 + 1))) 33 σ.1 (nt k)) L x) Φ → wp (d + 6) 16 6 [.ref (32 : Nat), .ref (10 : Nat), .ref (12 : Nat), .int z, noV, noV] [.int (nt k)] (mk n K0 L x) Φ := by
        intro hgo
        have e0 : flt (.inl p1) = 0 := rfl
        by_cases h7 : k = 7
        · subst h7
          have hlt : z < 6 := by
            rcases hS with ⟨h1, -⟩ | ⟨f, o, -, ho, hz, -⟩
            · exact absurd ⟨h1, rfl⟩ hno
            · rw [hz, show (6 : Int32) = nt 6 from rfl, nt_lt (by omega) (by decide)]; exact ho
          rw [show nt 7 = (7 : Int32) from rfl] at hgo ⊢
          simp (config := {decide := true}) only [r16_6, r16_8, r16_10, r16_12, r16_15, r16_16, r16_18, r16_26, r16_27, r16_30, r16_34, r16_35, r16_38, r16_40, r16_41, r16_42, r16_45, r16_46, r16_47, r16_50, r16_51, r16_54, r16_56, r16_58, if_true, if_false, Nat.reduceAdd, Int32.reduceToNatClampNeg, lo_i, lo_r, lo_n, kont_v, kont_n, List.length_nil, List.length_cons, hlt, c95t hK0, e0, s4, nt_succ, c186, z33, pt30 hrow]
          exact hgo
        · have e7 : ¬ (nt k = 7) := by rw [show (7 : Int32) = nt 7 from rfl, nt_inj (by omega) (by decide)]; exact h7
          simp (config := {decide := true}) only [r16_6, r16_8, r16_10, r16_12, r16_26, r16_27, r16_30, r16_34, r16_35, r16_38, r16_40, r16_41, r16_42, r16_45, r16_46, r16_47, r16_50, r16_51, r16_54, r16_56, r16_58, if_true, if_false, Nat.reduceAdd, Int32.reduceToNatClampNeg, lo_i, lo_r, lo_n, kont_v, kont_n, List.length_nil, List.length_cons, e7, c95t hK0, e0, s4, nt_succ, c186, z33, pt30 hrow]
          exact hgo
      refine pre ?_
      generalize hK9 : wrI (wrI K0 32 4 (nt (σ.1 + 1))) 33 σ.1 (nt k) = K9 at hK2 ⊢
      generalize upR (upR G 32 (upd (K0 32) 4 (nt (σ.1 + 1)))) 33 (upd (wrI K0 32 4 (nt (σ.1 + 1)) 33) σ.1 (nt k)) = G9 at hm2 hK2
      have tg : ∀ τ p2, bdW (I 11) N sn cn (S.getD idW) k σ.1 (alW σ k) p1 = .inl (τ, p2) → ∀ G K, Wc G τ → CT (WM I G) K N (.inl p2) → ∀ v4 v5, wp (d + 6) 16 145 [.ref (32 : Nat), .ref (10 : Nat), .ref (12 : Nat), .int z, .int v4, .int v5] [] (mk n K L x) Φ := by
        intro τ p2 hbd G K hmk hK v4 v5
        simp (config := {decide := true}) only [r16_145, r16_146, r16_148, if_true, if_false, Nat.reduceAdd, Int32.reduceToNatClampNeg, lo_i, lo_r, lo_n, kont_v, kont_n, List.length_nil, List.length_cons]
        refine c98 (TX_wm hT) (by decide) hK (fun K2 hK2 => kont_n.mpr ?_)
        rw [h11] at hK2
        simp (config := {decide := true}) only [r16_151, if_true, if_false, Nat.reduceAdd, Int32.reduceToNatClampNeg, lo_i, lo_r, lo_n, kont_v, kont_n, List.length_nil, List.length_cons]
        by_cases hs : cur (I 11) N (skp (I 11) N p2) = 59
        · simp only [lSig, if_pos hs] at hK2
          exact hok _ _ ((thW_l hbd).trans (sgW_l hs)) G K2 (Wc_4 hmk) hK2
        · simp only [lSig, if_neg hs] at hK2
          exact hbad _ ((thW_l hbd).trans (sgW_r hs)) G K2 hK2
      have te : ∀ e, bdW (I 11) N sn cn (S.getD idW) k σ.1 (alW σ k) p1 = .inr e → ∀ G K, CT (WM I G) K N (.inr e) → ∀ v4 v5, wp (d + 6) 16 145 [.ref (32 : Nat), .ref (10 : Nat), .ref (12 : Nat), .int z, .int v4, .int v5] [] (mk n K L x) Φ := fun e he G K hK v4 v5 => tb e (thW_r he) G K hK v4 v5
      unfold bdW at tg te
      by_cases h7 : k = 7
      · subst h7
        simp only [if_true] at tg te
        rcases hS with ⟨h1, -⟩ | ⟨f, o, hSf, ho, hz, h18⟩
        · exact absurd ⟨h1, rfl⟩ hno
        subst hz
        subst hSf
        have w5 := w3 rfl
        rw [show nt 7 = (7 : Int32) from rfl]
        simp (config := {decide := true}) only [r16_61, r16_63, r16_65, r16_68, r16_69, r16_70, r16_71, r16_73, r16_74, if_true, if_false, Nat.reduceAdd, Int32.reduceToNatClampNeg, lo_i, lo_r, lo_n, kont_v, kont_n, List.length_nil, List.length_cons]
        refine h18 _ _ _ G9 K9 (alW σ 7) p1 σ.1 hm2 (by show 5 * (σ.1 + 1) ≤ p1; omega) hrow hK2 (fun τ p2 hag G' K hmk hK => kont_n.mpr ?_) (fun e hag G' K hK => kont_n.mpr ?_)
        · simp (config := {decide := true}) only [r16_77, if_true, if_false, Nat.reduceAdd, Int32.reduceToNatClampNeg, lo_i, lo_r, lo_n, kont_v, kont_n, List.length_nil, List.length_cons]
          exact tg τ p2 hag G' K hmk hK _ _
        · simp (config := {decide := true}) only [r16_77, if_true, if_false, Nat.reduceAdd, Int32.reduceToNatClampNeg, lo_i, lo_r, lo_n, kont_v, kont_n, List.length_nil, List.length_cons]
          exact te e hag G' K hK _ _
      have e7 : ¬ (nt k = 7) := by rw [show (7 : Int32) = nt 7 from rfl, nt_inj (by omega) (by decide)]; exact h7
      simp only [if_neg h7] at tg te
      by_cases hk5 : k = 5
      · subst hk5
        simp only [if_true] at tg te
        have e5 : K9 12 5 = nt sn := by rw [CT_ne hK2 (by decide), WM_o (by decide)]; exact h5
        simp (config := {decide := true}) only [r16_61, r16_63, r16_65, r16_80, r16_82, r16_83, r16_86, r16_87, r16_90, r16_92, r16_93, r16_94, r16_95, r16_98, r16_99, r16_100, if_true, if_false, Nat.reduceAdd, Int32.reduceToNatClampNeg, lo_i, lo_r, lo_n, kont_v, kont_n, List.length_nil, List.length_cons, show nt 5 = (5 : Int32) from rfl, k12, e5]
        refine c100a (TX_wm hT) hK2 (hS1 hs7) ?_ ?_
        · intro V p2 hn q2 hq2 hp2
          rw [h11] at hn
          have hK3 : CT (WM I G9) (tS (WM I G9) (nt p2) (nt (skp (WM I G9 11) N p1)) 0 q2) N (.inl p2) := ct_ok hq2 hp2
          generalize tS (WM I G9) (nt p2) (nt (skp (WM I G9 11) N p1)) 0 q2 = K3 at hK3
          refine kont_v.mpr ?_
          simp (config := {decide := true}) only [r16_103, r16_106, if_true, if_false, Nat.reduceAdd, Int32.reduceToNatClampNeg, lo_i, lo_r, lo_n, kont_v, kont_n, List.length_nil, List.length_cons, c186, z34, pt30 hrow]
          exact tg _ _ (nmW_l hn) _ _ (Wc_p (i := 1) hm2 hK3 (by decide) hrow) (CT_wa hK3 (by decide)) _ _
        · intro e he v1 K hK
          rw [h11] at he
          refine kont_v.mpr ?_
          simp (config := {decide := true}) only [r16_103, r16_106, if_true, if_false, Nat.reduceAdd, Int32.reduceToNatClampNeg, lo_i, lo_r, lo_n, kont_v, kont_n, List.length_nil, List.length_cons, c186, z34, putv_up]
          exact te e (nmW_r he) _ _ (CT_ww hK (by decide)) _ _
      have e5' : ¬ (nt k = 5) := by rw [show (5 : Int32) = nt 5 from rfl, nt_inj (by omega) (by decide)]; exact hk5
      simp only [if_neg hk5] at tg te
      by_cases hk4 : k ≤ 4
      · simp only [if_pos hk4] at tg te
        have e4 : ¬ (4 < nt k) := by rw [show (4 : Int32) = nt 4 from rfl, nt_lt (by decide) (by omega)]; omega
        have e6 : K9 12 6 = nt cn := by rw [CT_ne hK2 (by decide), WM_o (by decide)]; exact h6
        simp (config := {decide := true}) only [r16_61, r16_63, r16_65, r16_80, r16_82, r16_83, r16_109, r16_111, r16_112, r16_115, r16_116, r16_119, r16_121, r16_122, r16_123, r16_124, r16_127, r16_128, r16_129, if_true, if_false, Nat.reduceAdd, Int32.reduceToNatClampNeg, lo_i, lo_r, lo_n, kont_v, kont_n, List.length_nil, List.length_cons, e7, e5', e4, k12, e6]
        refine c100a (TX_wm hT) hK2 (hS1 (by omega)) ?_ ?_
        · intro V p2 hn q2 hq2 hp2
          rw [h11] at hn
          have hK3 : CT (WM I G9) (tS (WM I G9) (nt p2) (nt (skp (WM I G9 11) N p1)) 0 q2) N (.inl p2) := ct_ok hq2 hp2
          generalize tS (WM I G9) (nt p2) (nt (skp (WM I G9 11) N p1)) 0 q2 = K3 at hK3
          have hm3 := Wc_p (i := 1) (u := V) hm2 hK3 (by decide) hrow
          have hK4 := CT_wa (r := 34) (i := σ.1) (v := nt V) hK3 (by decide)
          refine kont_v.mpr ?_
          simp (config := {decide := true}) only [r16_132, r16_135, r16_136, r16_137, r16_138, r16_140, r16_142, if_true, if_false, Nat.reduceAdd, Int32.reduceToNatClampNeg, lo_i, lo_r, lo_n, kont_v, kont_n, List.length_nil, List.length_cons, c186, z34, pt30 hrow]
          refine c17 (k := k) hT h5 hs7 (by omega) hrow hm3 hK4 (fun τ p3 hv G' K hmk hK => kont_n.mpr ?_) (fun e hv G' K hK => kont_n.mpr ?_)
          · exact tg _ _ ((thW_l (nmW_l hn)).trans hv) G' K hmk hK _ _
          · exact te _ ((thW_l (nmW_l hn)).trans hv) G' K hK _ _
        · intro e he v1 K hK
          rw [h11] at he
          refine kont_v.mpr ?_
          simp (config := {decide := true}) only [r16_132, r16_135, r16_136, r16_137, r16_138, r16_140, r16_142, if_true, if_false, Nat.reduceAdd, Int32.reduceToNatClampNeg, lo_i, lo_r, lo_n, kont_v, kont_n, List.length_nil, List.length_cons, c186, z34, putv_up]
          exact c17f (k := k) hT h5 hs7 (by omega) (CT_ww (r := 34) (g := stv 30 (K 34) (nt σ.1) v1) hK (by decide)) (fun G' K' hK' => kont_n.mpr (te e (thW_r (nmW_r he)) G' K' hK' _ _))
      · simp only [if_neg hk4] at tg te
        have e4 : 4 < nt k := by rw [show (4 : Int32) = nt 4 from rfl, nt_lt (by decide) (by omega)]; omega
        simp (config := {decide := true}) only [r16_61, r16_63, r16_65, r16_80, r16_82, r16_83, r16_109, r16_111, r16_112, if_true, if_false, Nat.reduceAdd, Int32.reduceToNatClampNeg, lo_i, lo_r, lo_n, kont_v, kont_n, List.length_nil, List.length_cons, e7, e5', e4]
        exact tg _ _ rfl G9 K9 hm2 hK2 _ _
  · intro e he K hK
    rw [h11] at he
    refine kont_v.mpr ?_
    simp (config := {decide := true}) only [r16_6, r16_8, r16_10, r16_12, if_true, if_false, Nat.reduceAdd, Int32.reduceToNatClampNeg, lo_i, lo_r, lo_n, kont_v, kont_n, List.length_nil, List.length_cons]
    exact fin e (by unfold rSt; rw [he]) G K hK _ _
theorem c15L (hT : TX I N) {h : Nat} (hU : CWn n I N (d + 6) 16 z U) (hP : PSs N sn cn h U) (hUs : ∀ σ p, U σ (skp (I 11) N p) = U σ p) : ∀ f i σ a G J, i + f = 31 → N + 5 ≤ a + 5 * f → Wc G σ → 5 * σ.1 ≤ a → CT (WM I G) J N (.inl a) → (∀ τ p', rWl (I 11) N s U f σ a = .inl (τ, p') → ∀ G' K, Wc G' τ → CT (WM I G') K N (.inl p') → Φ (.inl none) (mk n K L x)) → (∀ e, rWl (I 11) N s U f σ a = .inr e → ∀ G' K, CT (WM I G') K N (.inr e) → Φ (.inl none) (mk n K L x)) → wp (d + 7) 15 15 [.ref (32 : Nat), .ref (10 : Nat), .ref (12 : Nat), .int z, .int s, .int (nt i)] [] (mk n J L x) Φ := by
  have h11 : ∀ G, WM I G 11 = I 11 := fun G => WM_o (by decide)
  intro f
  induction f with
  | zero =>
    intro i σ a G J hi hNa hm h5a hJ
    have : a ≤ N := hJ.1
    omega
  | succ f ih =>
    intro i σ a G J hi hNa hm h5a hJ hok hbad
    have e1 : ¬ (30 < nt i) := by rw [show (30 : Int32) = nt 30 from rfl, nt_lt (by decide) (by omega)]; omega
    have e0 : flt (.inl a) = 0 := rfl
    have hc95 := fun Ψ => c95t (d := d + 6) (n := n) (L := L) (x := x) (Φ := Ψ) hJ
    obtain ⟨ha, s0, q, hq, rfl⟩ := id hJ
    have hc97 := fun Ψ => c97 (d := d + 6) (n := n) (L := L) (x := x) (s := s0) (q := q) (Φ := Ψ) (TX_wm (G := G) hT) ha
    rw [h11] at hc97
    have hle : skp (I 11) N a ≤ N := endF_le ha
    have hge : a ≤ skp (I 11) N a := skp_ge
    have hJ2 : CT (WM I G) (tS (WM I G) (nt (skp (I 11) N a)) (nt (skp (I 11) N a)) 0 q) N (.inl (skp (I 11) N a)) := ct_ok hq hle
    rw [r15_15]
    by_cases hs : cur (I 11) N (skp (I 11) N a) = s
    · simp (config := {decide := true}) only [r15_17, r15_19, r15_22, r15_23, r15_26, r15_29, r15_30, r15_33, r15_35, r15_51, if_true, if_false, Nat.reduceAdd, Int32.reduceToNatClampNeg, lo_i, lo_r, lo_n, kont_v, kont_n, List.length_nil, List.length_cons, e1, hc95, e0, hc97, hs]
      exact hok σ _ (rWl_0 hs) G _ hm hJ2
    · simp (config := {decide := true}) only [r15_17, r15_19, r15_22, r15_23, r15_26, r15_29, r15_30, r15_33, r15_35, r15_38, r15_39, r15_40, r15_41, r15_42, if_true, if_false, Nat.reduceAdd, Int32.reduceToNatClampNeg, lo_i, lo_r, lo_n, kont_v, kont_n, List.length_nil, List.length_cons, e1, hc95, e0, hc97, hs]
      refine hU _ _ _ G _ σ (skp (I 11) N a) hm (by omega) hJ2 (fun τ p1 hu G1 K1 hm1 hK1 => kont_n.mpr ?_) (fun e hu G1 K1 hK1 => kont_n.mpr ?_)
      · obtain ⟨b1, b2, b3, -⟩ := hP _ _ _ _ hle hu
        rw [hUs] at hu
        rw [rWl_s hs hu] at hok hbad
        simp (config := {decide := true}) only [r15_45, r15_48, if_true, if_false, Nat.reduceAdd, Int32.reduceToNatClampNeg, lo_i, lo_r, lo_n, kont_v, kont_n, List.length_nil, List.length_cons, nt_succ]
        exact ih (i + 1) τ p1 G1 K1 (by omega) (by omega) hm1 (by omega) hK1 hok hbad
      · rw [hUs] at hu
        have e2 : ¬ flt (.inr e) = 0 := hK1.1
        simp (config := {decide := true}) only [r15_45, r15_48, if_true, if_false, Nat.reduceAdd, Int32.reduceToNatClampNeg, lo_i, lo_r, lo_n, kont_v, kont_n, List.length_nil, List.length_cons, nt_succ]
        rw [r15_15]
        by_cases e3 : 30 < nt (i + 1)
        · simp (config := {decide := true}) only [r15_17, r15_19, r15_51, if_true, if_false, Nat.reduceAdd, Int32.reduceToNatClampNeg, lo_i, lo_r, lo_n, kont_v, kont_n, List.length_nil, List.length_cons, e3]
          exact hbad e (rWl_r hs hu) G1 K1 hK1
        · simp (config := {decide := true}) only [r15_17, r15_19, r15_22, r15_23, r15_26, r15_51, if_true, if_false, Nat.reduceAdd, Int32.reduceToNatClampNeg, lo_i, lo_r, lo_n, kont_v, kont_n, List.length_nil, List.length_cons, e3, c95t hK1, e2]
          exact hbad e (rWl_r hs hu) G1 K1 hK1
theorem c15 (hT : TX I N) (hN : N ≤ 150) {h : Nat} (hs : (z = 0 ∧ s = -1) ∨ (z ≠ 0 ∧ s = 93)) (hU : CWn n I N (d + 6) 16 z U) (hP : PSs N sn cn h U) (hUs : ∀ σ p, U σ (skp (I 11) N p) = U σ p) : CWn n I N (d + 7) 15 z (rWl (I 11) N s U 31) := by
  intro x L Φ G J σ a hm h5a hJ hok hbad
  have hgo := c15L (s := s) hT hU hP hUs 31 0 σ a G J rfl (by omega) hm h5a hJ hok hbad
  show wp (d + 7) 15 0 [.ref (32 : Nat), .ref (10 : Nat), .ref (12 : Nat), .int z, noV, noV] [] (mk n J L x) Φ
  rw [show nt 0 = (0 : Int32) from rfl] at hgo
  rcases hs with ⟨h0, rfl⟩ | ⟨h0, rfl⟩
  · simp (config := {decide := true}) only [r15_0, r15_1, r15_4, r15_5, r15_8, r15_10, r15_12, r15_13, if_true, if_false, Nat.reduceAdd, Int32.reduceToNatClampNeg, lo_i, lo_r, lo_n, kont_v, kont_n, List.length_nil, List.length_cons, h0]
    rw [h0] at hgo
    exact hgo
  · simp (config := {decide := true}) only [r15_0, r15_1, r15_4, r15_5, r15_8, r15_10, r15_12, r15_13, if_true, if_false, Nat.reduceAdd, Int32.reduceToNatClampNeg, lo_i, lo_r, lo_n, kont_v, kont_n, List.length_nil, List.length_cons, h0]
    exact hgo
theorem c16_all (hT : TX I N) (hG : SG I 2 wd2) (hN : N ≤ 150) (h5 : I 12 5 = nt sn) (h6 : I 12 6 = nt cn) (hs7 : sn ≤ 7) (hc6 : cn ≤ 6) : ∀ h o d, o + h = 6 → CWn n I N (d + 3 * h + 6) 16 (nt o) (rSt (I 11) N sn cn (sB (I 11) N sn cn h)) := by
  intro h
  induction h with
  | zero =>
    intro o d ho
    have ho : o = 6 := by omega
    subst ho
    exact c16 hT hG hN h5 h6 hs7 hc6 (Or.inl ⟨rfl, rfl⟩)
  | succ h ih =>
    intro o d ho
    have hi := ih (o + 1) d (by omega)
    have hP := PSs_all (B := I 11) (N := N) hs7 hc6 h
    have hz : nt (o + 1) ≠ 0 := by rw [show (0 : Int32) = nt 0 from rfl, ne_eq, nt_inj (by omega) (by decide)]; omega
    have h15 : CWn n I N (d + 3 * h + 7) 15 (nt (o + 1)) (rWl (I 11) N 93 (rSt (I 11) N sn cn (sB (I 11) N sn cn h)) 31) := c15 hT hN (Or.inr ⟨hz, rfl⟩) hi hP (fun σ p => rSt_skp)
    exact c16 (d := d + 3 * h + 3) hT hG hN h5 h6 hs7 hc6 (Or.inr ⟨_, o, rfl, by omega, rfl, c18 (d := d + 3 * h) hT (PSb_l hP 31) h15⟩)
end Wi

