/-! THE MORNING, GOING ON -/
section Mor
variable {d n x c c2 : Nat} {Φ : POut → PM → Prop} {I : Nat → Nat → Int32} {L : Nat → Nat → Int64} {k s h v rung woken : Int32}
def slp (f : Nat → Int32) : Nat → Int32 := foldN (fun s g => upd g (60 + s) (-1)) 7 f
theorem c71 (hc : K5 c) : wpc d 71 [.ref c] (mk n I L x) Φ ↔ Φ (.inl none) (mk n (upR I (c + 1) (slp (I (c + 1)))) L x) := by
  show wp d 71 0 [.ref c, noV] [] (mk n I L x) Φ ↔ _
  simp (config := {decide := true}) only [r71_0, r71_2, if_true, if_false, Nat.reduceAdd, Int32.reduceToNatClampNeg, lo_i, lo_r, lo_n, kont_v, kont_n, List.length_nil, List.length_cons]
  have e0 := loopN (P := fun k g => wp d 71 3 [.ref c, .int (nt (60 + k))] [] (mk n (upR I (c + 1) g) L x) Φ) (Q := fun g => Φ (.inl none) (mk n (upR I (c + 1) g) L x)) (n := 7) (f := fun s g => upd g (60 + s) (-1)) ?_ ?_ (I (c + 1))
  · rw [upR_self] at e0
    exact e0
  · intro k b hk
    have e1 : ¬ ((67 : Int32) ≤ nt (60 + k)) := nt_nle (m := 67) (by omega) (by decide)
    have e2 : (nt (60 + k)).toNatClampNeg = 60 + k := nt_clamp (by omega)
    have e3 : 60 + k < 84 := by omega
    have e4 : (0 : Int32) ≤ nt (60 + k) := nt_ge (by omega)
    rw [r71_3]
    simp (config := {decide := true}) only [r71_4, r71_6, r71_9, r71_10, r71_13, r71_14, r71_15, r71_16, r71_19, r71_22, if_true, if_false, Nat.reduceAdd, Int32.reduceToNatClampNeg, lo_i, lo_r, lo_n, kont_v, kont_n, List.length_nil, List.length_cons, hc, sh5a hc, lt5a hc, ge5a hc, nt_succ, e1, e2, e3, e4, wr_up, Nat.add_assoc]
  · intro b
    rw [r71_3]
    simp (config := {decide := true}) only [r71_4, r71_6, r71_9, r71_10, r71_13, r71_14, r71_15, r71_16, r71_19, r71_22, if_true, if_false, Nat.reduceAdd, Int32.reduceToNatClampNeg, lo_i, lo_r, lo_n, kont_v, kont_n, List.length_nil, List.length_cons]
/-- an hour's end: springs spent, sleepers woken -/
def spd (rung : Int32) (f : Nat → Int32) : Nat → Int32 := foldN (fun k g => upd g k (g k - (rung >>> (nt k &&& 31) &&& 1))) 6 f
def wkn (woken : Int32) (f : Nat → Int32) : Nat → Int32 := foldN (fun s g => if woken >>> (nt s &&& 31) &&& 1 = 1 then upd g (60 + s) (g 81) else g) 7 f
theorem c69 (hc : K5 c) : wpc (d + 2) 69 [.ref c, .int rung, .int woken] (mk n I L x) Φ ↔ Φ (.inl none) (mk n (upR I (c + 1) (wkn woken (spd rung (I (c + 1))))) L x) := by
  show wp (d + 2) 69 0 [.ref c, .int rung, .int woken, noV] [] (mk n I L x) Φ ↔ _
  simp (config := {decide := true}) only [r69_0, r69_1, if_true, if_false, Nat.reduceAdd, Int32.reduceToNatClampNeg, lo_i, lo_r, lo_n, kont_v, kont_n, List.length_nil, List.length_cons]
  have e0 := loopN (P := fun k g => wp (d + 2) 69 2 [.ref c, .int rung, .int woken, .int (nt k)] [] (mk n (upR I (c + 1) g) L x) Φ) (Q := fun g => wp (d + 2) 69 37 [.ref c, .int rung, .int woken, .int 0] [] (mk n (upR I (c + 1) g) L x) Φ) (n := 6) (f := fun k g => upd g k (g k - (rung >>> (nt k &&& 31) &&& 1))) ?_ ?_ (I (c + 1))
  · rw [upR_self] at e0
    refine e0.trans ?_
    refine loopN (P := fun k g => wp (d + 2) 69 37 [.ref c, .int rung, .int woken, .int (nt k)] [] (mk n (upR I (c + 1) g) L x) Φ) (Q := fun g => Φ (.inl none) (mk n (upR I (c + 1) g) L x)) (n := 7) (f := fun s g => if woken >>> (nt s &&& 31) &&& 1 = 1 then upd g (60 + s) (g 81) else g) ?_ ?_ _
    · intro k g hk
      have e1 : ¬ ((7 : Int32) ≤ nt k) := nt_nle (m := 7) (by omega) (by decide)
      have e2 : ∀ v, stv 84 g (60 + nt k) v = upd g (60 + k) v := fun v => st_b 60 (by omega) (by decide)
      rw [r69_37]
      simp (config := {decide := true}) only [r69_38, r69_40, r69_43, r69_44, r69_45, r69_48, r69_51, r69_52, r69_55, r69_57, r69_58, r69_59, r69_60, r69_63, r69_66, r69_69, r69_72, if_true, if_false, Nat.reduceAdd, Int32.reduceToNatClampNeg, lo_i, lo_r, lo_n, kont_v, kont_n, List.length_nil, List.length_cons, hc, sh5a hc, lt5a hc, ge5a hc, nt_succ, e1, e2, c184, c43 hc, c186, putv_up, upR_same, upR_upR, bi_eq0]
      by_cases h1 : woken >>> (nt k &&& 31) &&& 1 = 1 <;> simp only [h1, if_true, if_false, not_true, not_false_eq_true]
    · intro g
      rw [r69_37]
      simp (config := {decide := true}) only [r69_38, r69_40, r69_43, r69_44, r69_45, r69_48, r69_51, r69_52, r69_55, r69_57, r69_58, r69_59, r69_60, r69_63, r69_66, r69_69, r69_72, if_true, if_false, Nat.reduceAdd, Int32.reduceToNatClampNeg, lo_i, lo_r, lo_n, kont_v, kont_n, List.length_nil, List.length_cons]
  · intro k g hk
    have e1 : ¬ ((6 : Int32) ≤ nt k) := nt_nle (m := 6) (by omega) (by decide)
    have e2 : ∀ v, stv 84 g (0 + nt k) v = upd g k v := fun v => st_0 (by omega) (by decide)
    have e3 : atv 84 g (0 + nt k) = g k := at_0 (by omega) (by decide)
    rw [r69_2]
    simp (config := {decide := true}) only [r69_3, r69_5, r69_8, r69_9, r69_12, r69_13, r69_14, r69_15, r69_16, r69_17, r69_20, r69_21, r69_22, r69_23, r69_24, r69_25, r69_26, r69_29, r69_32, if_true, if_false, Nat.reduceAdd, Int32.reduceToNatClampNeg, lo_i, lo_r, lo_n, kont_v, kont_n, List.length_nil, List.length_cons, hc, sh5a hc, lt5a hc, ge5a hc, nt_succ, e1, e2, e3, c47 hc, c186, putv_up, upR_same, upR_upR]
  · intro g
    rw [r69_2]
    simp (config := {decide := true}) only [r69_3, r69_5, r69_8, r69_9, r69_12, r69_13, r69_14, r69_15, r69_16, r69_17, r69_20, r69_21, r69_22, r69_23, r69_24, r69_25, r69_26, r69_29, r69_32, r69_35, r69_36, if_true, if_false, Nat.reduceAdd, Int32.reduceToNatClampNeg, lo_i, lo_r, lo_n, kont_v, kont_n, List.length_nil, List.length_cons]
/-- the hour turns -/
def trn (f : Nat → Int32) : Nat → Int32 := if 23 ≤ f 81 then (fun g : Nat → Int32 => upd (upd g 81 0) 82 (upd g 81 0 82 + 1)) (slp (if ldr f = -1 then f else stv 84 f (74 + ldr f) (atv 84 f (74 + ldr f) + 1))) else upd f 81 (f 81 + 1)
theorem c70 (hc : K5 c) : wpc (d + 3) 70 [.ref c] (mk n I L x) Φ ↔ Φ (.inl none) (mk n (upR I (c + 1) (trn (I (c + 1)))) L x) := by
  show wp (d + 3) 70 0 [.ref c, noV] [] (mk n I L x) Φ ↔ _
  unfold trn
  by_cases h1 : 23 ≤ I (c + 1) 81
  · by_cases h2 : ldr (I (c + 1)) = -1
    · simp (config := {decide := true}) only [r70_0, r70_1, r70_4, r70_6, r70_9, r70_10, r70_13, r70_15, r70_16, r70_17, r70_18, r70_19, r70_20, r70_21, r70_22, r70_25, r70_26, r70_27, r70_28, r70_31, r70_32, r70_35, r70_37, r70_38, r70_39, r70_40, r70_41, r70_44, r70_45, r70_46, r70_49, r70_50, r70_53, r70_54, r70_57, r70_59, r70_60, r70_61, r70_62, r70_65, r70_67, r70_68, r70_69, r70_70, r70_71, r70_72, if_true, if_false, Nat.reduceAdd, Int32.reduceToNatClampNeg, lo_i, lo_r, lo_n, kont_v, kont_n, List.length_nil, List.length_cons, hc, sh5a hc, lt5a hc, ge5a hc, c43 hc, c57 hc, c54 hc, c71 hc, c186, putv_up, upR_same, upR_upR, wr_up, wr_raw, h1, h2]
    · simp (config := {decide := true}) only [r70_0, r70_1, r70_4, r70_6, r70_9, r70_10, r70_13, r70_15, r70_16, r70_17, r70_18, r70_19, r70_20, r70_21, r70_22, r70_25, r70_26, r70_27, r70_28, r70_31, r70_32, r70_35, r70_37, r70_38, r70_39, r70_40, r70_41, r70_44, r70_45, r70_46, r70_49, r70_50, r70_53, r70_54, r70_57, r70_59, r70_60, r70_61, r70_62, r70_65, r70_67, r70_68, r70_69, r70_70, r70_71, r70_72, if_true, if_false, Nat.reduceAdd, Int32.reduceToNatClampNeg, lo_i, lo_r, lo_n, kont_v, kont_n, List.length_nil, List.length_cons, hc, sh5a hc, lt5a hc, ge5a hc, c43 hc, c57 hc, c54 hc, c71 hc, c186, putv_up, upR_same, upR_upR, wr_up, wr_raw, h1, h2]
  · simp (config := {decide := true}) only [r70_0, r70_1, r70_4, r70_6, r70_9, r70_10, r70_13, r70_15, r70_16, r70_17, r70_18, r70_19, r70_20, r70_21, r70_22, r70_25, r70_26, r70_27, r70_28, r70_31, r70_32, r70_35, r70_37, r70_38, r70_39, r70_40, r70_41, r70_44, r70_45, r70_46, r70_49, r70_50, r70_53, r70_54, r70_57, r70_59, r70_60, r70_61, r70_62, r70_65, r70_67, r70_68, r70_69, r70_70, r70_71, r70_72, if_true, if_false, Nat.reduceAdd, Int32.reduceToNatClampNeg, lo_i, lo_r, lo_n, kont_v, kont_n, List.length_nil, List.length_cons, hc, sh5a hc, lt5a hc, ge5a hc, c43 hc, c57 hc, c54 hc, c71 hc, c186, putv_up, upR_same, upR_upR, wr_up, wr_raw, h1]
theorem c42 (hc : K5 c) (hc2 : K5 c2) : wpc d 42 [.ref c, .ref c2] (mk n I L x) Φ ↔ Φ (.inl none) (mk n (cpI I (c2 + 1) 0 (c + 1) 0 84) L x) := by
  show wp d 42 0 [.ref c, .ref c2] [] (mk n I L x) Φ ↔ _
  simp (config := {decide := true}) only [r42_0, r42_1, r42_4, r42_5, r42_6, r42_9, r42_10, r42_12, r42_15, if_true, if_false, Nat.reduceAdd, Int32.reduceToNatClampNeg, lo_i, lo_r, lo_n, kont_v, kont_n, List.length_nil, List.length_cons, hc, sh5a hc, lt5a hc, ge5a hc, hc2, sh5a hc2, lt5a hc2, ge5a hc2, true_or]
end Mor
