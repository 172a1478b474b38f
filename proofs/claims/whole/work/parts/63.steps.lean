/-! STEPS OF A WORK on a row -/
section St
variable {d n x r : Nat} {μ : PM} {Φ : POut → PM → Prop} {I J : Nat → Nat → Int32} {L : Nat → Nat → Int64} {k s h v w a b : Int32} {f g : Nat → Int32}
theorem set_RO {c : Nat} (hc : c < cI I) (h6 : cI I ≤ 6) (ho : RO I f) (hv : v = -1 ∨ (0 ≤ v ∧ v < 24)) : RO I (upd f (6 + c) v) := by
  obtain ⟨o1, o2, o3, o4, o5, o6, o7⟩ := ho
  refine ⟨fun c' h1 h2 => ?_, fun s h1 h2 => ?_, fun s hs => ?_, ?_, fun c' hc' => ?_, fun c' hc' => ?_, fun c' hc' => ?_⟩
  · rw [up_ne (by omega), up_ne (by omega), up_ne (by omega)]; exact o1 c' h1 h2
  · rw [up_ne (by omega), up_ne (by omega)]; exact o2 s h1 h2
  · rw [up_ne (by omega)]; exact o3 s hs
  · rw [up_ne (by omega)]; exact o4
  · rw [up_ne (by omega)]; exact o5 c' hc'
  · rw [up_ne (by omega)]; exact o6 c' hc'
  · by_cases hcc : c' = c
    · subst hcc; rw [up_same]; exact hv
    · rw [up_ne (by omega)]; exact o7 c' hc'
theorem spr_RO {c : Nat} (hc : c < cI I) (h6 : cI I ≤ 6) (ho : RO I f) (hv : 0 ≤ v ∧ v ≤ 20) : RO I (upd f c v) := by
  obtain ⟨o1, o2, o3, o4, o5, o6, o7⟩ := ho
  refine ⟨fun c' h1 h2 => ?_, fun s h1 h2 => ?_, fun s hs => ?_, ?_, fun c' hc' => ?_, fun c' hc' => ?_, fun c' hc' => ?_⟩
  · rw [up_ne (by omega), up_ne (by omega), up_ne (by omega)]; exact o1 c' h1 h2
  · rw [up_ne (by omega), up_ne (by omega)]; exact o2 s h1 h2
  · rw [up_ne (by omega)]; exact o3 s hs
  · rw [up_ne (by omega)]; exact o4
  · rw [up_ne (by omega)]; exact o5 c' hc'
  · by_cases hcc : c' = c
    · subst hcc; rw [up_same]; exact hv
    · rw [up_ne (by omega)]; exact o6 c' hc'
  · rw [up_ne (by omega)]; exact o7 c' hc'
theorem sck_RO {c : Nat} (hc : c < cI I) (h6 : cI I ≤ 6) (ho : RO I f) (hv : v = 0 ∨ v = 1) : RO I (upd f (12 + c) v) := by
  obtain ⟨o1, o2, o3, o4, o5, o6, o7⟩ := ho
  refine ⟨fun c' h1 h2 => ?_, fun s h1 h2 => ?_, fun s hs => ?_, ?_, fun c' hc' => ?_, fun c' hc' => ?_, fun c' hc' => ?_⟩
  · rw [up_ne (by omega), up_ne (by omega), up_ne (by omega)]; exact o1 c' h1 h2
  · rw [up_ne (by omega), up_ne (by omega)]; exact o2 s h1 h2
  · rw [up_ne (by omega)]; exact o3 s hs
  · rw [up_ne (by omega)]; exact o4
  · by_cases hcc : c' = c
    · subst hcc; rw [up_same]; exact hv
    · rw [up_ne (by omega)]; exact o5 c' hc'
  · rw [up_ne (by omega)]; exact o6 c' hc'
  · rw [up_ne (by omega)]; exact o7 c' hc'
theorem wok_RO {s : Nat} (hs : s < 7) (ho : RO I f) : RO I (upd f (60 + s) (-1)) := by
  obtain ⟨o1, o2, o3, o4, o5, o6, o7⟩ := ho
  refine ⟨fun c' h1 h2 => ?_, fun s' h1 h2 => ?_, fun s' hs' => ?_, ?_, fun c' hc' => ?_, fun c' hc' => ?_, fun c' hc' => ?_⟩
  · rw [up_ne (by omega), up_ne (by omega), up_ne (by omega)]; exact o1 c' h1 h2
  · rw [up_ne (i := 60 + s) (j := 74 + s') (by omega)]
    refine ⟨?_, (o2 s' h1 h2).2⟩
    by_cases hss : s' = s
    · subst hss; exact up_same
    · rw [up_ne (by omega)]; exact (o2 s' h1 h2).1
  · by_cases hss : s' = s
    · subst hss; rw [up_same]; exact Or.inl rfl
    · rw [up_ne (by omega)]; exact o3 s' hs'
  · rw [up_ne (by omega)]; exact o4
  · rw [up_ne (by omega)]; exact o5 c' hc'
  · rw [up_ne (by omega)]; exact o6 c' hc'
  · rw [up_ne (by omega)]; exact o7 c' hc'
/-- a clock wound up -/
def wnf (f : Nat → Int32) (c : Nat) : Nat → Int32 := upd f c (mni 20 (f c + 5))
theorem wn_t : ∀ a, a < 21 → 0 ≤ mni 20 (nt a + 5) ∧ mni 20 (nt a + 5) ≤ 20 := by decide
theorem wnd_RO {c : Nat} (hc : c < cI I) (h6 : cI I ≤ 6) (ho : RO I f) : RO I (wnf f c) := by
  refine spr_RO hc h6 ho ?_
  obtain ⟨v1, v2⟩ := ho.2.2.2.2.2.1 c (by omega)
  obtain ⟨v3, v4⟩ := int_nt v1
  rw [v3, show (20 : Int32) = nt 20 from rfl, nt_le v4 (by decide)] at v2
  rw [v3]
  exact wn_t _ (by omega)
/-- a sock turned -/
def skf (f : Nat → Int32) (c : Nat) : Nat → Int32 := if f (12 + c) = 1 then upd (upd f (12 + c) 0) 83 (f 83 + 1) else if f 83 = 0 then f else upd (upd f (12 + c) 1) 83 (f 83 + -1)
theorem skf_tsk {c : Nat} (hc : c < 6) : tsk f (nt c) = skf f c := by
  unfold tsk skf
  have e0 : atv 84 f (12 + nt c) = f (12 + c) := at_b 12 (by omega) (by decide)
  have e : ∀ v, stv 84 f (12 + nt c) v = upd f (12 + c) v := fun v => st_b 12 (by omega) (by decide)
  simp only [e0, e, up_ne (show 83 ≠ 12 + c by omega)]
theorem skf_RO {c : Nat} (hc : c < cI I) (h6 : cI I ≤ 6) (ho : RO I f) : RO I (skf f c) := by
  unfold skf
  split
  · exact updhi_RO (Or.inr (Or.inl rfl)) (sck_RO hc h6 ho (Or.inl rfl))
  · split
    · exact ho
    · exact updhi_RO (Or.inr (Or.inl rfl)) (sck_RO hc h6 ho (Or.inr rfl))
/-- one dozes off -/
def dzg (f : Nat → Int32) (s : Nat) : Nat → Int32 := if f (60 + s) = -1 then f else upd (upd f (60 + s) (-1)) (67 + s) (f (67 + s) + 1)
theorem dzg_dzf {s : Nat} (hs : s < 7) : dzf f (nt s) = dzg f s := by
  unfold dzf dzg
  have e1 : ∀ f : Nat → Int32, atv 84 f (60 + nt s) = f (60 + s) := fun f => at_b 60 (by omega) (by decide)
  have e2 : ∀ f : Nat → Int32, atv 84 f (67 + nt s) = f (67 + s) := fun f => at_b 67 (by omega) (by decide)
  have e3 : ∀ (f : Nat → Int32) v, stv 84 f (60 + nt s) v = upd f (60 + s) v := fun f v => st_b 60 (by omega) (by decide)
  have e4 : ∀ (f : Nat → Int32) v, stv 84 f (67 + nt s) v = upd f (67 + s) v := fun f v => st_b 67 (by omega) (by decide)
  simp only [e1, e2, e3, e4, up_ne (show 67 + s ≠ 60 + s by omega)]
theorem dzg_RO {s : Nat} (hs : s < 7) (ho : RO I f) : RO I (dzg f s) := by
  unfold dzg
  split
  · exact ho
  · exact updhi_RO (Or.inr (Or.inr (Or.inr ⟨by omega, by omega⟩))) (wok_RO hs ho)
theorem wnf_hi {c i : Nat} (hc : c < 6) (hi : 84 ≤ i) : wnf f c i = f i := up_ne (by omega)
theorem skf_hi {c i : Nat} (hc : c < 6) (hi : 84 ≤ i) : skf f c i = f i := by
  unfold skf
  split
  · rw [up_ne (by omega), up_ne (by omega)]
  · split
    · rfl
    · rw [up_ne (by omega), up_ne (by omega)]
theorem dzg_hi {s i : Nat} (hs : s < 7) (hi : 84 ≤ i) : dzg f s i = f i := by
  unfold dzg
  split
  · rfl
  · rw [up_ne (by omega), up_ne (by omega)]
/-- the reference -/
theorem m247 {i : Nat} (hr : KR r) (hi : i < 84) : wpc d 247 [.ref r, .int (nt i), .int v] (mk n J L x) Φ ↔ Φ (.inl (some (.int (bi (J r i ≠ v))))) (mk n (upR J r (upd (J r) i v)) L x) := by
  have e2 : (nt i).toNatClampNeg = i := nt_clamp (by omega)
  have e3 : (0 : Int32) ≤ nt i := nt_ge (by omega)
  show wp d 247 0 [.ref r, .int (nt i), .int v] [] (mk n J L x) Φ ↔ _
  by_cases h1 : J r i = v
  · rw [bi_f (fun q => q h1), show upd (J r) i v = J r from by rw [← h1]; exact up_self _ _, upR_self]
    simp (config := {decide := true}) only [r247_0, r247_1, r247_2, r247_3, r247_4, r247_7, r247_8, r247_9, r247_10, r247_11, r247_12, r247_13, r247_14, if_true, if_false, Nat.reduceAdd, Int32.reduceToNatClampNeg, lo_i, lo_r, lo_n, kont_v, kont_n, List.length_nil, List.length_cons, shR hr, ltR hr, e2, e3, hi, h1, nb_0]
  · rw [bi_t h1]
    simp (config := {decide := true}) only [r247_0, r247_1, r247_2, r247_3, r247_4, r247_7, r247_8, r247_9, r247_10, r247_11, r247_12, r247_13, r247_14, if_true, if_false, Nat.reduceAdd, Int32.reduceToNatClampNeg, lo_i, lo_r, lo_n, kont_v, kont_n, List.length_nil, List.length_cons, shR hr, ltR hr, geR hr, e2, e3, hi, h1, nb_1, wr_raw]
theorem m248 {c : Nat} (hr : KR r) (hc : c < 6) (hf : J r = vc f) : wpc (d + 1) 248 [.ref r, .int (nt c)] (mk n J L x) Φ ↔ Φ (.inl (some (.int (bi (f c ≠ mni 20 (f c + 5)))))) (mk n (upR J r (vc (wnf f c))) L x) := by
  have y1 : (21 : Int32) + nt c = nt (21 + c) := nt_add 21 c
  have y2 : (nt (21 + c)).toNatClampNeg = 21 + c := nt_clamp (by omega)
  have y3 : (0 : Int32) ≤ nt (21 + c) := nt_ge (by omega)
  have y4 : 21 + c < 84 := by omega
  have y5 : vc f (21 + c) = f c := vc_hi (by omega)
  have y6 : ∀ v, upd (vc f) (21 + c) v = vc (upd f c v) := fun v => vup_hi (by omega)
  show wp (d + 1) 248 0 [.ref r, .int (nt c)] [] (mk n J L x) Φ ↔ _
  simp (config := {decide := true}) only [r248_0, r248_1, r248_3, r248_4, r248_5, r248_7, r248_8, r248_10, r248_11, r248_12, r248_13, r248_14, r248_15, r248_18, r248_21, if_true, if_false, Nat.reduceAdd, Int32.reduceToNatClampNeg, lo_i, lo_r, lo_n, kont_v, kont_n, List.length_nil, List.length_cons, shR hr, ltR hr, y1, y2, y3, y4, y5, hf, m195, m247 hr y4, nb_bi, y6, wnf]
theorem m249 {c : Nat} (hr : KR r) (hc : c < 6) (hf : J r = vc f) (h01 : f (12 + c) = 0 ∨ f (12 + c) = 1) : wpc d 249 [.ref r, .int (nt c)] (mk n J L x) Φ ↔ Φ (.inl (some (.int (bi (f (12 + c) = 1 ∨ f 83 ≠ 0))))) (mk n (upR J r (vc (skf f c))) L x) := by
  have y1 : (33 : Int32) + nt c = nt (33 + c) := nt_add 33 c
  have y2 : (nt (33 + c)).toNatClampNeg = 33 + c := nt_clamp (by omega)
  have y3 : (0 : Int32) ≤ nt (33 + c) := nt_ge (by omega)
  have y4 : 33 + c < 84 := by omega
  have y5 : ∀ f, vc f (33 + c) = f (12 + c) := fun f => vc_hi' (b := 12) (by omega)
  have y6 : ∀ f v, upd (vc f) (33 + c) v = vc (upd f (12 + c) v) := fun f v => by
    rw [show 33 + c = 21 + (12 + c) by omega]; exact vup_hi (by omega)
  have wr2 : ∀ g i v, wrI (upR J r (vc g)) r i v = upR J r (upd (vc g) i v) := fun g i v => wr_up
  have cm : ∀ v w, upd (upd f 83 w) (12 + c) v = upd (upd f (12 + c) v) 83 w := by
    intro v w
    funext i
    unfold upd
    by_cases h1 : i = 12 + c
    · subst h1; simp [show 12 + c ≠ 83 by omega]
    · by_cases h2 : i = 83
      · rw [h2] at h1 ⊢; simp [h1]
      · simp [h1, h2]
  have nu : ∀ w, upd f 83 w (12 + c) = f (12 + c) := fun w => up_ne (by omega)
  have w0 : ∀ i v, wrI J r i v = upR J r (upd (vc f) i v) := fun i v => by rw [wr_raw, hf]
  show wp d 249 0 [.ref r, .int (nt c)] [] (mk n J L x) Φ ↔ _
  unfold skf
  rcases h01 with h0 | h1
  · have hn : ¬ (f (12 + c) = 1) := by rw [h0]; decide
    by_cases h2 : f 83 = 0
    · rw [if_neg hn, if_pos h2, ← hf, upR_self, bi_f (fun q => q.elim hn (fun e => e h2))]
      simp (config := {decide := true}) only [r249_0, r249_1, r249_3, r249_4, r249_5, r249_6, r249_9, r249_10, r249_12, r249_13, r249_16, r249_17, r249_18, r249_19, r249_21, r249_22, r249_23, r249_24, r249_26, r249_27, r249_28, r249_29, r249_32, r249_33, r249_36, r249_37, r249_38, r249_39, r249_40, r249_42, r249_43, r249_44, r249_45, r249_46, r249_48, r249_49, r249_50, r249_51, r249_52, r249_53, r249_54, if_true, if_false, Nat.reduceAdd, Int32.reduceToNatClampNeg, lo_i, lo_r, lo_n, kont_v, kont_n, List.length_nil, List.length_cons, shR hr, ltR hr, geR hr, y1, y2, y3, y4, y5, hf, h0, vc_81, h2, nb_0]
    · rw [if_neg hn, if_neg h2, bi_t (Or.inr h2)]
      simp (config := {decide := true}) only [r249_0, r249_1, r249_3, r249_4, r249_5, r249_6, r249_9, r249_10, r249_12, r249_13, r249_16, r249_17, r249_18, r249_19, r249_21, r249_22, r249_23, r249_24, r249_26, r249_27, r249_28, r249_29, r249_32, r249_33, r249_36, r249_37, r249_38, r249_39, r249_40, r249_42, r249_43, r249_44, r249_45, r249_46, r249_48, r249_49, r249_50, r249_51, r249_52, r249_53, r249_54, if_true, if_false, Nat.reduceAdd, Int32.reduceToNatClampNeg, lo_i, lo_r, lo_n, kont_v, kont_n, List.length_nil, List.length_cons, shR hr, ltR hr, geR hr, y1, y2, y3, y4, y5, hf, h0, vc_81, h2, nb_1, w0, vup_81, upR_same, wr2, y6, cm, nu, Int32.sub_zero]
  · rw [if_pos h1, bi_t (Or.inl h1)]
    simp (config := {decide := true}) only [r249_0, r249_1, r249_3, r249_4, r249_5, r249_6, r249_9, r249_10, r249_12, r249_13, r249_16, r249_17, r249_18, r249_19, r249_21, r249_22, r249_23, r249_24, r249_26, r249_27, r249_28, r249_29, r249_32, r249_33, r249_36, r249_37, r249_38, r249_39, r249_40, r249_42, r249_43, r249_44, r249_45, r249_46, r249_48, r249_49, r249_50, r249_51, r249_52, r249_53, r249_54, if_true, if_false, Nat.reduceAdd, Int32.reduceToNatClampNeg, lo_i, lo_r, lo_n, kont_v, kont_n, List.length_nil, List.length_cons, shR hr, ltR hr, geR hr, y1, y2, y3, y4, y5, hf, h1, vc_81, nb_1, w0, vup_81, upR_same, wr2, y6, cm, nu, Int32.sub_self]
end St

