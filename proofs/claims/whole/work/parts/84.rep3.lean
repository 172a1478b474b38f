/-! A REPUBLIC, read: the whole text, by the class -/
section Rr
variable {d n x N a told : Nat} {Φ : POut → PM → Prop} {I J K G : Nat → Nat → Int32} {L : Nat → Nat → Int64} {v w c p s k q lo hi : Int32} {g : Nat → Int32} {σ τ : RSt} {t : LSt} {r i : Nat}
theorem SG_rm {u : Nat} {W : List Nat} (h : SG I u W) : SG (RM I G) u W := by
  obtain ⟨h1, h2, h3, h4, h5⟩ := h
  have hw : u ≤ 2 := by rcases h1 with rfl | rfl | rfl <;> decide
  exact ⟨h1, by rw [RM_o (by omega)]; exact h2, h3, h4, by rw [RM_o (by omega)]; exact h5⟩
theorem mpR_l {α β : Type} {f : α → β} {r : RD α} {u : α} {p : Nat} (h : r = .inl (u, p)) : mpR f r = .inl (f u, p) := by rw [h]; rfl
theorem mpR_r {α β : Type} {f : α → β} {r : RD α} {e : Nat × Nat} (h : r = .inr e) : mpR f r = .inr e := by rw [h]; rfl
theorem c77 (hT : TX I N) (hG : SG I 0 wd0) (hR : Rc G σ) (hs : σ.1 ≤ 7) (hc : σ.2.1 ≤ 6) (ht : told ≤ 60) (hJ : CT (RM I G) J N (.inl a)) (hok : ∀ τ p', rCl (I 11) N told σ a = .inl (τ, p') → ∀ G' K, Rc G' τ → CT (RM I G') K N (.inl p') → Φ (.inl none) (mk n K L x)) (hbad : ∀ e, rCl (I 11) N told σ a = .inr e → ∀ G' K, CT (RM I G') K N (.inr e) → Φ (.inl none) (mk n K L x)) : wpc (d + 6) 77 [.ref (18 : Nat), .ref (10 : Nat), .int (nt told)] (mk n J L x) Φ := by
  have k18 : K6 18 := Or.inr rfl
  have hT2 : ∀ G, TX (RM I G) N := fun G => TX_rm hT
  have h11 : ∀ G, RM I G 11 = I 11 := fun G => RM_o (by decide)
  have fin : ∀ e, rCl (I 11) N told σ a = .inr e → ∀ G K, CT (RM I G) K N (.inr e) → ∀ v3, wp (d + 6) 77 26 [.ref (18 : Nat), .ref (10 : Nat), .int (nt told), .int v3] [] (mk n K L x) Φ := by
    intro e he G K hK v3
    have e0 : ¬ flt (.inr e) = 0 := hK.1
    simp (config := {decide := true}) only [r77_26, r77_27, r77_30, r77_33, if_true, if_false, Nat.reduceAdd, Int32.reduceToNatClampNeg, lo_i, lo_r, lo_n, kont_v, kont_n, List.length_nil, List.length_cons, c95t hK, e0]
    exact hbad e he G K hK
  have tb : ∀ e, rCl (I 11) N told σ a = .inr e → ∀ G K, CT (RM I G) K N (.inr e) → ∀ v3, wp (d + 6) 77 83 [.ref (18 : Nat), .ref (10 : Nat), .int (nt told), .int v3] [] (mk n K L x) Φ := by
    intro e he G K hK v3
    simp (config := {decide := true}) only [r77_83, r77_84, r77_86, if_true, if_false, Nat.reduceAdd, Int32.reduceToNatClampNeg, lo_i, lo_r, lo_n, kont_v, kont_n, List.length_nil, List.length_cons]
    refine c98 (hT2 G) (by decide) hK (fun K2 hK2 => kont_n.mpr ?_)
    simp (config := {decide := true}) only [r77_89, if_true, if_false, Nat.reduceAdd, Int32.reduceToNatClampNeg, lo_i, lo_r, lo_n, kont_v, kont_n, List.length_nil, List.length_cons]
    exact hbad e he G K2 hK2
  show wp (d + 6) 77 0 [.ref (18 : Nat), .ref (10 : Nat), .int (nt told), noV] [] (mk n J L x) Φ
  simp (config := {decide := true}) only [r77_0, r77_1, r77_3, if_true, if_false, Nat.reduceAdd, Int32.reduceToNatClampNeg, lo_i, lo_r, lo_n, kont_v, kont_n, List.length_nil, List.length_cons]
  refine c101a (hT2 G) (SG_rm hG) sw0 (by decide) hJ ?_ ?_
  · intro k p1 hw q hq hp1
    rw [h11] at hw
    have hk4 : k < 4 := rWrd_lt hw
    have hK1 : CT (RM I G) (tS (RM I G) (nt p1) (nt (skp (RM I G 11) N a)) 0 q) N (.inl p1) := ct_ok hq hp1
    have s5 : tS (RM I G) (nt p1) (nt (skp (RM I G 11) N a)) 0 q 18 5 = nt σ.1 := by rw [tS_ne (by decide), RM_i (by decide)]; exact hR.1
    have s6 : tS (RM I G) (nt p1) (nt (skp (RM I G 11) N a)) 0 q 18 6 = nt σ.2.1 := by rw [tS_ne (by decide), RM_i (by decide)]; exact hR.2.1
    have e60 : (60 ≤ nt told) = (60 ≤ told) := nt_le (j := 60) (by decide) (by omega)
    by_cases hfu : full told k σ = true
    · have hcl : rCl (I 11) N told σ a = .inr (3, skp (I 11) N a) := by unfold rCl; rw [hw]; simp only [if_pos hfu]
      have go : wp (d + 6) 77 21 [.ref (18 : Nat), .ref (10 : Nat), .int (nt told), .int (nt k)] [] (mk n (tS (RM I G) (nt p1) (nt (skp (RM I G 11) N a)) 0 q) L x) Φ := by
        simp (config := {decide := true}) only [r77_21, r77_22, r77_23, if_true, if_false, Nat.reduceAdd, Int32.reduceToNatClampNeg, lo_i, lo_r, lo_n, kont_v, kont_n, List.length_nil, List.length_cons, c96]
        rw [h11]
        exact fin _ hcl G _ (ct_f (by decide) (by decide) hp1) _
      by_cases h60 : 60 ≤ told
      · simp (config := {decide := true}) only [r77_6, r77_7, r77_8, r77_10, if_true, if_false, Nat.reduceAdd, Int32.reduceToNatClampNeg, lo_i, lo_r, lo_n, kont_v, kont_n, List.length_nil, List.length_cons, e60, h60]
        exact go
      · have hf2 : ((decide (k = 0) && decide (7 ≤ σ.1)) || (decide (k = 1) && decide (6 ≤ σ.2.1))) = true := by
          unfold full at hfu
          rw [decide_eq_false h60, Bool.false_or] at hfu
          exact hfu
        simp (config := {decide := true}) only [r77_6, r77_7, r77_8, r77_10, r77_13, r77_14, r77_15, r77_18, if_true, if_false, Nat.reduceAdd, Int32.reduceToNatClampNeg, lo_i, lo_r, lo_n, kont_v, kont_n, List.length_nil, List.length_cons, e60, h60, k18, c78 hk4 s5 s6 hs hc, hf2]
        exact go
    · have h60 : ¬ 60 ≤ told := fun z => hfu (by unfold full; rw [decide_eq_true z, Bool.true_or])
      have hf2 : ¬ ((decide (k = 0) && decide (7 ≤ σ.1)) || (decide (k = 1) && decide (6 ≤ σ.2.1))) = true := by
        unfold full at hfu
        rw [decide_eq_false h60, Bool.false_or] at hfu
        exact hfu
      have hb : ∀ e, rBd (I 11) N k σ p1 = .inr e → rCl (I 11) N told σ a = .inr e := by
        intro e he
        unfold rCl
        rw [hw]
        simp only [if_neg hfu]
        rw [he]
      have tg : ∀ τ p2, rBd (I 11) N k σ p1 = .inl (τ, p2) → ∀ G K, Rc G τ → CT (RM I G) K N (.inl p2) → ∀ v3, wp (d + 6) 77 83 [.ref (18 : Nat), .ref (10 : Nat), .int (nt told), .int v3] [] (mk n K L x) Φ := by
        intro τ p2 hbd G K hRc hK v3
        simp (config := {decide := true}) only [r77_83, r77_84, r77_86, if_true, if_false, Nat.reduceAdd, Int32.reduceToNatClampNeg, lo_i, lo_r, lo_n, kont_v, kont_n, List.length_nil, List.length_cons]
        refine c98 (hT2 G) (by decide) hK (fun K2 hK2 => kont_n.mpr ?_)
        simp (config := {decide := true}) only [r77_89, if_true, if_false, Nat.reduceAdd, Int32.reduceToNatClampNeg, lo_i, lo_r, lo_n, kont_v, kont_n, List.length_nil, List.length_cons]
        rw [h11] at hK2
        by_cases hsg : cur (I 11) N (skp (I 11) N p2) = 59
        · simp only [lSig, if_pos hsg] at hK2
          refine hok τ _ ?_ G K2 hRc hK2
          unfold rCl
          rw [hw]
          simp only [if_neg hfu]
          rw [hbd]
          simp only [rSig, if_pos hsg]
        · simp only [lSig, if_neg hsg] at hK2
          refine hbad _ ?_ G K2 hK2
          unfold rCl
          rw [hw]
          simp only [if_neg hfu]
          rw [hbd]
          simp only [rSig, if_neg hsg]
      have e0 : flt (.inl p1) = 0 := rfl
      simp (config := {decide := true}) only [r77_6, r77_7, r77_8, r77_10, r77_13, r77_14, r77_15, r77_18, r77_21, r77_22, r77_23, r77_26, r77_27, r77_30, r77_33, if_true, if_false, Nat.reduceAdd, Int32.reduceToNatClampNeg, lo_i, lo_r, lo_n, kont_v, kont_n, List.length_nil, List.length_cons, e60, h60, k18, c78 hk4 s5 s6 hs hc, hf2, c95t hK1, e0]
      generalize tS (RM I G) (nt p1) (nt (skp (RM I G 11) N a)) 0 q = K1 at hK1
      have : k = 0 ∨ k = 1 ∨ k = 2 ∨ k = 3 := by omega
      rcases this with rfl | rfl | rfl | rfl
      · have h7 : σ.1 < 7 := by
          by_cases z : 7 ≤ σ.1
          · exact absurd (by rw [decide_eq_true z]; rfl) hf2
          · omega
        simp (config := {decide := true}) only [r77_34, r77_35, r77_38, r77_39, r77_40, if_true, if_false, Nat.reduceAdd, Int32.reduceToNatClampNeg, lo_i, lo_r, lo_n, kont_v, kont_n, List.length_nil, List.length_cons, show nt 0 = (0 : Int32) from rfl, k18]
        refine c79 hT hR h7 hK1 (fun u p' h2 G' K hRc hK => ?_) (fun e h2 G' K hK => ?_)
        · simp (config := {decide := true}) only [r77_43, if_true, if_false, Nat.reduceAdd, Int32.reduceToNatClampNeg, lo_i, lo_r, lo_n, kont_v, kont_n, List.length_nil, List.length_cons]
          exact tg _ _ (mpR_l h2) G' K hRc hK _
        · simp (config := {decide := true}) only [r77_43, if_true, if_false, Nat.reduceAdd, Int32.reduceToNatClampNeg, lo_i, lo_r, lo_n, kont_v, kont_n, List.length_nil, List.length_cons]
          exact tb e (hb e (mpR_r h2)) G' K hK _
      · have h6 : σ.2.1 < 6 := by
          by_cases z : 6 ≤ σ.2.1
          · exact absurd (by rw [decide_eq_true z]; rfl) hf2
          · omega
        simp (config := {decide := true}) only [r77_34, r77_35, r77_38, r77_39, r77_40, r77_43, r77_46, r77_47, r77_48, r77_51, r77_52, r77_53, if_true, if_false, Nat.reduceAdd, Int32.reduceToNatClampNeg, lo_i, lo_r, lo_n, kont_v, kont_n, List.length_nil, List.length_cons, show nt 1 = (1 : Int32) from rfl, k18]
        refine c80 hT hR h6 hK1 (fun u p' h2 G' K hRc hK => ?_) (fun e h2 G' K hK => ?_)
        · simp (config := {decide := true}) only [r77_56, if_true, if_false, Nat.reduceAdd, Int32.reduceToNatClampNeg, lo_i, lo_r, lo_n, kont_v, kont_n, List.length_nil, List.length_cons]
          exact tg _ _ (mpR_l h2) G' K hRc hK _
        · simp (config := {decide := true}) only [r77_56, if_true, if_false, Nat.reduceAdd, Int32.reduceToNatClampNeg, lo_i, lo_r, lo_n, kont_v, kont_n, List.length_nil, List.length_cons]
          exact tb e (hb e (mpR_r h2)) G' K hK _
      · simp (config := {decide := true}) only [r77_34, r77_35, r77_38, r77_39, r77_40, r77_43, r77_46, r77_47, r77_48, r77_51, r77_52, r77_53, r77_56, r77_59, r77_60, r77_61, r77_64, r77_65, r77_66, if_true, if_false, Nat.reduceAdd, Int32.reduceToNatClampNeg, lo_i, lo_r, lo_n, kont_v, kont_n, List.length_nil, List.length_cons, show nt 2 = (2 : Int32) from rfl, k18]
        refine c81 hT hR hs hc hK1 (fun u p' h2 G' K hRc hK => ?_) (fun e h2 G' K hK => ?_)
        · simp (config := {decide := true}) only [r77_69, if_true, if_false, Nat.reduceAdd, Int32.reduceToNatClampNeg, lo_i, lo_r, lo_n, kont_v, kont_n, List.length_nil, List.length_cons]
          exact tg _ _ (mpR_l h2) G' K hRc hK _
        · simp (config := {decide := true}) only [r77_69, if_true, if_false, Nat.reduceAdd, Int32.reduceToNatClampNeg, lo_i, lo_r, lo_n, kont_v, kont_n, List.length_nil, List.length_cons]
          exact tb e (hb e (mpR_r h2)) G' K hK _
      · simp (config := {decide := true}) only [r77_34, r77_35, r77_38, r77_39, r77_40, r77_43, r77_46, r77_47, r77_48, r77_51, r77_52, r77_53, r77_56, r77_59, r77_60, r77_61, r77_64, r77_65, r77_66, r77_69, r77_72, r77_73, r77_74, r77_75, r77_77, if_true, if_false, Nat.reduceAdd, Int32.reduceToNatClampNeg, lo_i, lo_r, lo_n, kont_v, kont_n, List.length_nil, List.length_cons, show nt 3 = (3 : Int32) from rfl, k18]
        refine c100a (hT2 G) hK1 (by decide) ?_ ?_
        · intro V p2 hn2 q2 hq2 hp2
          rw [h11] at hn2
          have hK2 : CT (RM I G) (tS (RM I G) (nt p2) (nt (skp (RM I G 11) N p1)) 0 q2) N (.inl p2) := ct_ok hq2 hp2
          generalize tS (RM I G) (nt p2) (nt (skp (RM I G 11) N p1)) 0 q2 = K2 at hK2
          have hK3 := CT_wr (r := 18) (g := upd (K2 18) 7 (nt V)) hK2 (by decide)
          have q18 : K2 18 = G 18 := by rw [CT_ne hK2 (by decide), RM_i (by decide)]
          simp (config := {decide := true}) only [r77_80, if_true, if_false, Nat.reduceAdd, Int32.reduceToNatClampNeg, lo_i, lo_r, lo_n, kont_v, kont_n, List.length_nil, List.length_cons, k18]
          refine tg _ _ (mpR_l hn2) _ _ ?_ hK3 _
          rw [q18]
          obtain ⟨t1, t2, t3, t4, t5, t6, t7, t8⟩ := hR
          refine Rc_mk ?_ ?_ ?_ ?_ ?_ ?_ ?_ ?_ <;> (try dsimp only)
          · rw [upR_same, up_ne (by decide)]; exact t1
          · rw [upR_same, up_ne (by decide)]; exact t2
          · rw [upR_same, up_same]; exact congrArg nt (if_pos ⟨rfl, rfl⟩).symm
          · intro k hk; rw [upR_ne (by decide), upF_ne (by decide)]; exact t4 k hk
          · intro k hk; rw [upR_ne (by decide), upF_ne (by decide)]; exact t5 k hk
          · intro k hk; rw [upR_ne (by decide), upF_ne (by decide)]; exact t6 k hk
          · intro k hk; rw [upR_ne (by decide), upF_ne (by decide)]; exact t7 k hk
          · intro k hk; rw [upR_ne (by decide), upF_ne (by decide)]; exact t8 k hk
        · intro e he v4 K hK
          rw [h11] at he
          obtain ⟨G2, hG2⟩ := CT_any hK 18 7 v4 (by decide)
          simp (config := {decide := true}) only [r77_80, if_true, if_false, Nat.reduceAdd, Int32.reduceToNatClampNeg, lo_i, lo_r, lo_n, kont_v, kont_n, List.length_nil, List.length_cons, k18]
          exact tb e (hb e (mpR_r he)) G2 _ hG2 _
  · intro e he K hK
    rw [h11] at he
    have hcl : rCl (I 11) N told σ a = .inr e := by unfold rCl; rw [he]
    by_cases h60 : 60 ≤ nt told
    · simp (config := {decide := true}) only [r77_6, r77_7, r77_8, r77_10, r77_13, r77_14, r77_15, r77_18, r77_21, r77_22, r77_23, if_true, if_false, Nat.reduceAdd, Int32.reduceToNatClampNeg, lo_i, lo_r, lo_n, kont_v, kont_n, List.length_nil, List.length_cons, h60, c96f hK]
      exact fin e hcl G K hK _
    · simp (config := {decide := true}) only [r77_6, r77_7, r77_8, r77_10, r77_13, r77_14, r77_15, r77_18, r77_21, r77_22, r77_23, if_true, if_false, Nat.reduceAdd, Int32.reduceToNatClampNeg, lo_i, lo_r, lo_n, kont_v, kont_n, List.length_nil, List.length_cons, h60, k18, c78f]
      exact fin e hcl G K hK _
theorem rCl_bd {B : Nat → Int32} (hs : σ.1 ≤ 7) (hc : σ.2.1 ≤ 6) {p' : Nat} (h : rCl B N told σ a = .inl (τ, p')) : τ.1 ≤ 7 ∧ τ.2.1 ≤ 6 ∧ told < 60 := by
  unfold rCl at h
  split at h
  · cases h
  · rename_i k p1 hw
    split at h
    · cases h
    · rename_i hfu
      have hfu2 : full told k σ = false := by simpa using hfu
      unfold full at hfu2
      simp only [Bool.or_eq_false_iff, Bool.and_eq_false_iff, decide_eq_false_iff_not] at hfu2
      split at h
      · cases h
      · rename_i τ1 p2 hb
        have hb1 : τ1.1 ≤ 7 ∧ τ1.2.1 ≤ 6 := by
          unfold rBd at hb
          split at hb
          · unfold mpR at hb
            split at hb
            · cases hb
            · cases hb; exact ⟨by show σ.1 + 1 ≤ 7; omega, hc⟩
          · split at hb
            · unfold mpR at hb
              split at hb
              · cases hb
              · cases hb; exact ⟨hs, by show σ.2.1 + 1 ≤ 6; omega⟩
            · split at hb
              · unfold mpR at hb
                split at hb
                · cases hb
                · cases hb; exact ⟨hs, hc⟩
              · unfold mpR at hb
                split at hb
                · cases hb
                · cases hb; exact ⟨hs, hc⟩
        split at h
        · cases h
        · cases h; exact ⟨hb1.1, hb1.2, by omega⟩
def sg0r : RSt := (0, 0, fun i _ => if i = 5 then 2 else 0)
theorem CT_fill {m : Nat} (h : CT (RM I G) J N t) (hr : 18 ≤ r ∧ r ≤ 23) : CT (RM I (upR G r (fun j => if j < m then v else J r j))) (fillv J r m v) N t := CT_wr h hr
theorem CT_w (h : CT (RM I G) J N t) (hr : 18 ≤ r ∧ r ≤ 23) : CT (RM I (upR G r (upd (J r) i v))) (wrI J r i v) N t := CT_wr h hr
theorem c76 (hJ : CT (RM I G) J N t) (h : ∀ G' K, Rc G' sg0r → CT (RM I G') K N t → Φ (.inl none) (mk n K L x)) : wpc (d + 1) 76 [.ref (18 : Nat)] (mk n J L x) Φ := by
  have k18 : K6 18 := Or.inr rfl
  have z1 : sh0 n 19 = (20, 7, []) := sh6a k18
  have z2 : sh0 n 20 = (20, 7, []) := sh6b k18
  have z3 : sh0 n 21 = (20, 6, []) := sh6c k18
  have z4 : sh0 n 22 = (20, 6, []) := sh6d k18
  have z5 : sh0 n 23 = (20, 42, []) := sh6e k18
  show wp (d + 1) 76 0 [.ref (18 : Nat)] [] (mk n J L x) Φ
  simp (config := {decide := true}) only [r76_0, r76_1, r76_4, r76_5, r76_8, r76_9, r76_12, r76_13, r76_16, r76_17, r76_20, r76_21, r76_24, r76_25, r76_28, r76_29, r76_32, r76_33, r76_36, r76_37, r76_40, r76_41, r76_42, r76_45, r76_46, r76_47, r76_50, r76_51, r76_52, r76_55, if_true, if_false, Nat.reduceAdd, Int32.reduceToNatClampNeg, lo_i, lo_r, lo_n, kont_v, kont_n, List.length_nil, List.length_cons, k18, c328, z1, z2, z3, z4, z5]
  have h1 := CT_fill (r := 19) (m := 7) (v := 0) hJ (by decide)
  have h2 := CT_fill (r := 20) (m := 7) (v := 0) h1 (by decide)
  have h3 := CT_fill (r := 21) (m := 6) (v := 0) h2 (by decide)
  have h4 := CT_fill (r := 22) (m := 6) (v := 0) h3 (by decide)
  have h5 := CT_fill (r := 23) (m := 42) (v := 0) h4 (by decide)
  have h6 := CT_w (r := 18) (i := 5) (v := 0) h5 (by decide)
  have h7 := CT_w (r := 18) (i := 6) (v := 0) h6 (by decide)
  have h8 := CT_w (r := 18) (i := 7) (v := 2) h7 (by decide)
  refine h _ _ ?_ h8
  refine Rc_mk ?_ ?_ ?_ ?_ ?_ ?_ ?_ ?_
  · rw [upR_same, up_ne (by decide), wrI_at, up_ne (by decide), wrI_at, up_same]; rfl
  · rw [upR_same, up_ne (by decide), wrI_at, up_same]; rfl
  · rw [upR_same, up_same]; rfl
  · intro k hk; rw [upR_ne (by decide), upR_ne (by decide), upR_ne (by decide), upR_ne (by decide), upR_ne (by decide), upR_ne (by decide), upR_ne (by decide), upR_same, if_pos hk]; rfl
  · intro k hk; rw [upR_ne (by decide), upR_ne (by decide), upR_ne (by decide), upR_ne (by decide), upR_ne (by decide), upR_ne (by decide), upR_same, if_pos hk]; rfl
  · intro k hk; rw [upR_ne (by decide), upR_ne (by decide), upR_ne (by decide), upR_ne (by decide), upR_ne (by decide), upR_same, if_pos hk]; rfl
  · intro k hk; rw [upR_ne (by decide), upR_ne (by decide), upR_ne (by decide), upR_ne (by decide), upR_same, if_pos hk]; rfl
  · intro k hk; rw [upR_ne (by decide), upR_ne (by decide), upR_ne (by decide), upR_same, if_pos hk]; rfl
theorem c75L (hT : TX I N) (hG : SG I 0 wd0) : ∀ f told σ a G J, told + f = 61 → σ.1 ≤ 7 → σ.2.1 ≤ 6 → told ≤ 60 → Rc G σ → CT (RM I G) J N (.inl a) → (∀ τ p', rRp (I 11) N f told σ a = .inl (τ, p') → ∀ G' K, Rc G' τ → CT (RM I G') K N (.inl p') → Φ (.inl none) (mk n K L x)) → (∀ e, rRp (I 11) N f told σ a = .inr e → ∀ G' K, CT (RM I G') K N (.inr e) → Φ (.inl none) (mk n K L x)) → wp (d + 7) 75 6 [.ref (18 : Nat), .ref (10 : Nat), .int (nt told)] [] (mk n J L x) Φ := by
  have k18 : K6 18 := Or.inr rfl
  have hT2 : ∀ G, TX (RM I G) N := fun G => TX_rm hT
  have h11 : ∀ G, RM I G 11 = I 11 := fun G => RM_o (by decide)
  intro f
  induction f with
  | zero => intro told σ a G J h1 h2 h3 h4; omega
  | succ f ih =>
    intro told σ a G J hf hs hc ht hR hJ hok hbad
    unfold rRp at hok hbad
    have e1 : ¬ (60 < nt told) := by rw [show (60 : Int32) = nt 60 from rfl, nt_lt (by decide) (by omega)]; omega
    obtain ⟨ha, s1, q, hq, rfl⟩ := id hJ
    have hc97 := fun Ψ => c97 (d := d + 6) (n := n) (L := L) (x := x) (s := s1) (q := q) (Φ := Ψ) (hT2 G) ha
    rw [h11] at hc97
    rw [r75_6]
    by_cases hend : cur (I 11) N (skp (I 11) N a) = -1
    · simp only [if_pos hend] at hok hbad
      simp (config := {decide := true}) only [r75_7, r75_9, r75_12, r75_13, r75_16, r75_17, r75_20, r75_21, r75_22, r75_23, r75_26, r75_29, r75_32, if_true, if_false, Nat.reduceAdd, Int32.reduceToNatClampNeg, lo_i, lo_r, lo_n, kont_v, kont_n, List.length_nil, List.length_cons, e1, hc97, hend]
      exact hok σ _ rfl G _ hR (ct_ok hq (endF_le ha))
    · simp only [if_neg hend] at hok hbad
      simp (config := {decide := true}) only [r75_7, r75_9, r75_12, r75_13, r75_16, r75_17, r75_20, r75_21, r75_22, r75_23, if_true, if_false, Nat.reduceAdd, Int32.reduceToNatClampNeg, lo_i, lo_r, lo_n, kont_v, kont_n, List.length_nil, List.length_cons, e1, hc97, hend, k18]
      have hJ2 : CT (RM I G) (tS (RM I G) (nt (skp (I 11) N a)) (nt (skp (I 11) N a)) 0 q) N (.inl (skp (I 11) N a)) := ct_ok hq (endF_le ha)
      have hl : rCl (I 11) N told σ (skp (I 11) N a) = rCl (I 11) N told σ a := by unfold rCl rWrd; rw [skp_skp]
      refine c77 hT hG hR hs hc ht hJ2 ?_ ?_
      · intro τ p' hcl G' K hR' hK
        rw [hl] at hcl
        rw [hcl] at hok hbad
        obtain ⟨b1, b2, b3⟩ := rCl_bd hs hc hcl
        simp (config := {decide := true}) only [r75_26, r75_29, if_true, if_false, Nat.reduceAdd, Int32.reduceToNatClampNeg, lo_i, lo_r, lo_n, kont_v, kont_n, List.length_nil, List.length_cons, nt_succ]
        exact ih (told + 1) τ p' G' K (by omega) b1 b2 (by omega) hR' hK hok hbad
      · intro e hcl G' K hK
        rw [hl] at hcl
        rw [hcl] at hbad
        simp (config := {decide := true}) only [r75_26, r75_29, if_true, if_false, Nat.reduceAdd, Int32.reduceToNatClampNeg, lo_i, lo_r, lo_n, kont_v, kont_n, List.length_nil, List.length_cons, nt_succ]
        rw [r75_6]
        obtain ⟨h0, h1, a1, s2, ha1, rfl⟩ := id hK
        by_cases e2 : 60 < nt (told + 1)
        · simp (config := {decide := true}) only [r75_7, r75_9, r75_12, r75_13, r75_16, r75_17, r75_20, r75_21, r75_22, r75_23, r75_26, r75_29, r75_32, if_true, if_false, Nat.reduceAdd, Int32.reduceToNatClampNeg, lo_i, lo_r, lo_n, kont_v, kont_n, List.length_nil, List.length_cons, e2]
          exact hbad e rfl G' _ hK
        · simp (config := {decide := true}) only [r75_7, r75_9, r75_12, r75_13, r75_16, r75_17, r75_20, r75_21, r75_22, r75_23, r75_26, r75_29, r75_32, if_true, if_false, Nat.reduceAdd, Int32.reduceToNatClampNeg, lo_i, lo_r, lo_n, kont_v, kont_n, List.length_nil, List.length_cons, e2, c97f (kf h0 h1)]
          exact hbad e rfl G' _ hK
theorem c75 (hT : TX I N) (hG : SG I 0 wd0) (hJ : CT (RM I G) J N (.inl a)) (hok : ∀ τ p', rRp (I 11) N 61 0 sg0r a = .inl (τ, p') → ∀ G' K, Rc G' τ → CT (RM I G') K N (.inl p') → Φ (.inl none) (mk n K L x)) (hbad : ∀ e, rRp (I 11) N 61 0 sg0r a = .inr e → ∀ G' K, CT (RM I G') K N (.inr e) → Φ (.inl none) (mk n K L x)) : wpc (d + 7) 75 [.ref (18 : Nat), .ref (10 : Nat)] (mk n J L x) Φ := by
  have k18 : K6 18 := Or.inr rfl
  show wp (d + 7) 75 0 [.ref (18 : Nat), .ref (10 : Nat), noV] [] (mk n J L x) Φ
  simp (config := {decide := true}) only [r75_0, r75_1, if_true, if_false, Nat.reduceAdd, Int32.reduceToNatClampNeg, lo_i, lo_r, lo_n, kont_v, kont_n, List.length_nil, List.length_cons, k18]
  refine c76 hJ (fun G' K hR hK => ?_)
  simp (config := {decide := true}) only [r75_4, r75_5, if_true, if_false, Nat.reduceAdd, Int32.reduceToNatClampNeg, lo_i, lo_r, lo_n, kont_v, kont_n, List.length_nil, List.length_cons]
  exact c75L hT hG 61 0 sg0r a G' K rfl (Nat.zero_le 7) (Nat.zero_le 6) (Nat.zero_le 60) hR hK hok hbad
theorem rRp_bd {B : Nat → Int32} : ∀ f told σ a τ p', σ.1 ≤ 7 → σ.2.1 ≤ 6 → rRp B N f told σ a = .inl (τ, p') → τ.1 ≤ 7 ∧ τ.2.1 ≤ 6 := by
  intro f
  induction f with
  | zero => intro told σ a τ p' h1 h2 h; cases h; exact ⟨h1, h2⟩
  | succ f ih =>
    intro told σ a τ p' h1 h2 h
    unfold rRp at h
    split at h
    · cases h; exact ⟨h1, h2⟩
    · split at h
      · cases h
      · rename_i τ1 p1 hcl
        obtain ⟨b1, b2, b3⟩ := rCl_bd h1 h2 hcl
        exact ih _ _ _ _ _ b1 b2 h
end Rr

