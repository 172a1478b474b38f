/-! WORK, read by the reference -/
def swd (k : Nat) : List Nat := ws2.getD k []
def MWk (I K : Nat → Nat → Int32) : Prop := (∀ r, r ≠ 70 → (r < 454 ∨ 533 < r) → K r = I r) ∧ ∀ i, i ≠ 8 → i ≠ 27 → K 70 i = I 70 i
def RwM (g : Nat → Int32) (s : Nat → Option Nat) (k : Nat) : Prop := g 0 = nt k ∧ (k ≤ 5 → ∀ v, s 1 = some v → g 1 = nt v) ∧ (k = 0 → ∀ v, s 2 = some v → g 2 = nt v) ∧ (k = 4 → ∀ v, s 3 = some v → g 2 = nt v) ∧ (k = 4 → ∀ v, s 2 = some v → g 3 = nt v) ∧ (k = 7 → ∀ v, s 2 = some v → g 1 = nt v) ∧ (∀ v, s 4 = some v → g 4 = nt v)
def Wm (I : Nat → Nat → Int32) (σ : WS) : Prop := I 70 27 = nt σ.1 ∧ (∀ r, σ.1 ≤ r → ∀ j, σ.2 j r = none) ∧ ∀ r, r < 80 → ∀ k, σ.2 0 r = some k → RwM (I (454 + r)) (fun j => σ.2 j r) k
def MWn (n : Nat) (I0 : Nat → Nat → Int32) (N : Nat) (d o : Nat) (U : WPs) : Prop := ∀ (x : Nat) (L : Nat → Nat → Int64) (Φ : POut → PM → Prop) (I J : Nat → Nat → Int32) (σ : WS) (a : Nat), MWk I0 I → I 70 8 = nt o → Wm I σ → 5 * σ.1 ≤ a → MT I J N (.inl a) → (∀ τ p', U σ a = .inl (τ, p') → ∀ I' K, MWk I0 I' → I' 70 8 = nt o → Wm I' τ → MT I' K N (.inl p') → Φ (.inl none) (mk n K L x)) → (∀ e, U σ a = .inr e → ∀ I' K, MWk I0 I' → MT I' K N (.inr e) → Φ (.inl none) (mk n K L x)) → wpc d 234 [.ref (70 : Nat)] (mk n J L x) Φ
section Wj
variable {d n x N a b o sn cn : Nat} {B : Nat → Int32} {Φ : POut → PM → Prop} {I I0 J K G : Nat → Nat → Int32} {L : Nat → Nat → Int64} {v w z q : Int32} {σ τ : WS} {k u : Nat} {t : LSt} {r i : Nat} {g : Nat → Int32} {f U : WPs} {S : Option WPs} {s s' : Nat → Option Nat}
theorem swd_l {k : Nat} (hk : k < 8) : ltr (swd k) := by
  have : ∀ k : Fin 8, ltrB (swd k.1) = true := by decide +kernel
  exact ltr_of (this ⟨k, hk⟩)
theorem fnd2 : fndW B N b ws2 0 = if wdIs B N b (swd 0) = true then some 0 else if wdIs B N b (swd 1) = true then some 1 else if wdIs B N b (swd 2) = true then some 2 else if wdIs B N b (swd 3) = true then some 3 else if wdIs B N b (swd 4) = true then some 4 else if wdIs B N b (swd 5) = true then some 5 else if wdIs B N b (swd 6) = true then some 6 else if wdIs B N b (swd 7) = true then some 7 else none := rfl
theorem m233 (hX : MX I N B) (ha : a ≤ N) : wpc (d + 4) 233 [.ref (70 : Nat)] (mk n (mS I (nt a) 0 q) L x) Φ ↔ Φ (.inl (some (.int (kVal (fndW B N (skp B N a) ws2 0))))) (mk n (mS I (nt (skp B N a)) 0 q) L x) := by
  have hle : skp B N a ≤ N := endF_le ha
  have u0 := fun Ψ => m207 (d := d) (n := n) (L := L) (x := x) (q := q) (Φ := Ψ) (a := a) (u := swd 0) (a1 := 19) (a2 := 5) (a3 := 20) (a4 := 0) (a5 := 0) (a6 := 0) hX ha (swd_l (by decide)) (by decide) (by decide +kernel)
  have u1 := fun Ψ => m207 (d := d) (n := n) (L := L) (x := x) (q := q) (Φ := Ψ) (a := skp B N a) (u := swd 1) (a1 := 12) (a2 := 5) (a3 := 20) (a4 := 0) (a5 := 0) (a6 := 0) hX hle (swd_l (by decide)) (by decide) (by decide +kernel)
  have u2 := fun Ψ => m207 (d := d) (n := n) (L := L) (x := x) (q := q) (Φ := Ψ) (a := skp B N a) (u := swd 2) (a1 := 23) (a2 := 9) (a3 := 14) (a4 := 4) (a5 := 0) (a6 := 0) hX hle (swd_l (by decide)) (by decide) (by decide +kernel)
  have u3 := fun Ψ => m207 (d := d) (n := n) (L := L) (x := x) (q := q) (Φ := Ψ) (a := skp B N a) (u := swd 3) (a1 := 19) (a2 := 15) (a3 := 3) (a4 := 11) (a5 := 0) (a6 := 0) hX hle (swd_l (by decide)) (by decide) (by decide +kernel)
  have u4 := fun Ψ => m207 (d := d) (n := n) (L := L) (x := x) (q := q) (Φ := Ψ) (a := skp B N a) (u := swd 4) (a1 := 13) (a2 := 15) (a3 := 22) (a4 := 5) (a5 := 0) (a6 := 0) hX hle (swd_l (by decide)) (by decide) (by decide +kernel)
  have u5 := fun Ψ => m207 (d := d) (n := n) (L := L) (x := x) (q := q) (Φ := Ψ) (a := skp B N a) (u := swd 5) (a1 := 19) (a2 := 14) (a3 := 15) (a4 := 15) (a5 := 26) (a6 := 5) hX hle (swd_l (by decide)) (by decide) (by decide +kernel)
  have u6 := fun Ψ => m207 (d := d) (n := n) (L := L) (x := x) (q := q) (Φ := Ψ) (a := skp B N a) (u := swd 6) (a1 := 8) (a2 := 15) (a3 := 21) (a4 := 18) (a5 := 0) (a6 := 0) hX hle (swd_l (by decide)) (by decide) (by decide +kernel)
  have u7 := fun Ψ => m207 (d := d) (n := n) (L := L) (x := x) (q := q) (Φ := Ψ) (a := skp B N a) (u := swd 7) (a1 := 1) (a2 := 7) (a3 := 1) (a4 := 9) (a5 := 14) (a6 := 0) hX hle (swd_l (by decide)) (by decide) (by decide +kernel)
  rw [skp_skp] at u1 u2 u3 u4 u5 u6 u7
  show wp (d + 4) 233 0 [.ref (70 : Nat)] [] (mk n (mS I (nt a) 0 q) L x) Φ ↔ _
  rw [fnd2]
  by_cases h0 : wdIs B N (skp B N a) (swd 0) = true
  · rw [if_pos h0]
    simp (config := {decide := true}) only [r233_0, r233_1, r233_3, r233_4, r233_6, r233_7, r233_8, r233_9, r233_12, r233_15, r233_16, if_true, if_false, Nat.reduceAdd, Int32.reduceToNatClampNeg, lo_i, lo_r, lo_n, kont_v, kont_n, List.length_nil, List.length_cons, u0, h0]
    exact Iff.rfl
  rw [if_neg h0]
  by_cases h1 : wdIs B N (skp B N a) (swd 1) = true
  · rw [if_pos h1]
    simp (config := {decide := true}) only [r233_0, r233_1, r233_3, r233_4, r233_6, r233_7, r233_8, r233_9, r233_12, r233_15, r233_16, r233_17, r233_18, r233_20, r233_21, r233_23, r233_24, r233_25, r233_26, r233_29, r233_32, r233_33, if_true, if_false, Nat.reduceAdd, Int32.reduceToNatClampNeg, lo_i, lo_r, lo_n, kont_v, kont_n, List.length_nil, List.length_cons, u0, h0, u1, h1]
    exact Iff.rfl
  rw [if_neg h1]
  by_cases h2 : wdIs B N (skp B N a) (swd 2) = true
  · rw [if_pos h2]
    simp (config := {decide := true}) only [r233_0, r233_1, r233_3, r233_4, r233_6, r233_7, r233_8, r233_9, r233_12, r233_15, r233_16, r233_17, r233_18, r233_20, r233_21, r233_23, r233_24, r233_25, r233_26, r233_29, r233_32, r233_33, r233_34, r233_35, r233_37, r233_39, r233_41, r233_42, r233_43, r233_44, r233_47, r233_50, r233_51, if_true, if_false, Nat.reduceAdd, Int32.reduceToNatClampNeg, lo_i, lo_r, lo_n, kont_v, kont_n, List.length_nil, List.length_cons, u0, h0, u1, h1, u2, h2]
    exact Iff.rfl
  rw [if_neg h2]
  by_cases h3 : wdIs B N (skp B N a) (swd 3) = true
  · rw [if_pos h3]
    simp (config := {decide := true}) only [r233_0, r233_1, r233_3, r233_4, r233_6, r233_7, r233_8, r233_9, r233_12, r233_15, r233_16, r233_17, r233_18, r233_20, r233_21, r233_23, r233_24, r233_25, r233_26, r233_29, r233_32, r233_33, r233_34, r233_35, r233_37, r233_39, r233_41, r233_42, r233_43, r233_44, r233_47, r233_50, r233_51, r233_52, r233_53, r233_55, r233_57, r233_58, r233_60, r233_61, r233_62, r233_65, r233_68, r233_69, if_true, if_false, Nat.reduceAdd, Int32.reduceToNatClampNeg, lo_i, lo_r, lo_n, kont_v, kont_n, List.length_nil, List.length_cons, u0, h0, u1, h1, u2, h2, u3, h3]
    exact Iff.rfl
  rw [if_neg h3]
  by_cases h4 : wdIs B N (skp B N a) (swd 4) = true
  · rw [if_pos h4]
    simp (config := {decide := true}) only [r233_0, r233_1, r233_3, r233_4, r233_6, r233_7, r233_8, r233_9, r233_12, r233_15, r233_16, r233_17, r233_18, r233_20, r233_21, r233_23, r233_24, r233_25, r233_26, r233_29, r233_32, r233_33, r233_34, r233_35, r233_37, r233_39, r233_41, r233_42, r233_43, r233_44, r233_47, r233_50, r233_51, r233_52, r233_53, r233_55, r233_57, r233_58, r233_60, r233_61, r233_62, r233_65, r233_68, r233_69, r233_70, r233_71, r233_73, r233_75, r233_77, r233_78, r233_79, r233_80, r233_83, r233_86, r233_87, if_true, if_false, Nat.reduceAdd, Int32.reduceToNatClampNeg, lo_i, lo_r, lo_n, kont_v, kont_n, List.length_nil, List.length_cons, u0, h0, u1, h1, u2, h2, u3, h3, u4, h4]
    exact Iff.rfl
  rw [if_neg h4]
  by_cases h5 : wdIs B N (skp B N a) (swd 5) = true
  · rw [if_pos h5]
    simp (config := {decide := true}) only [r233_0, r233_1, r233_3, r233_4, r233_6, r233_7, r233_8, r233_9, r233_12, r233_15, r233_16, r233_17, r233_18, r233_20, r233_21, r233_23, r233_24, r233_25, r233_26, r233_29, r233_32, r233_33, r233_34, r233_35, r233_37, r233_39, r233_41, r233_42, r233_43, r233_44, r233_47, r233_50, r233_51, r233_52, r233_53, r233_55, r233_57, r233_58, r233_60, r233_61, r233_62, r233_65, r233_68, r233_69, r233_70, r233_71, r233_73, r233_75, r233_77, r233_78, r233_79, r233_80, r233_83, r233_86, r233_87, r233_88, r233_89, r233_91, r233_93, r233_95, r233_97, r233_99, r233_100, r233_103, r233_106, r233_107, if_true, if_false, Nat.reduceAdd, Int32.reduceToNatClampNeg, lo_i, lo_r, lo_n, kont_v, kont_n, List.length_nil, List.length_cons, u0, h0, u1, h1, u2, h2, u3, h3, u4, h4, u5, h5]
    exact Iff.rfl
  rw [if_neg h5]
  by_cases h6 : wdIs B N (skp B N a) (swd 6) = true
  · rw [if_pos h6]
    simp (config := {decide := true}) only [r233_0, r233_1, r233_3, r233_4, r233_6, r233_7, r233_8, r233_9, r233_12, r233_15, r233_16, r233_17, r233_18, r233_20, r233_21, r233_23, r233_24, r233_25, r233_26, r233_29, r233_32, r233_33, r233_34, r233_35, r233_37, r233_39, r233_41, r233_42, r233_43, r233_44, r233_47, r233_50, r233_51, r233_52, r233_53, r233_55, r233_57, r233_58, r233_60, r233_61, r233_62, r233_65, r233_68, r233_69, r233_70, r233_71, r233_73, r233_75, r233_77, r233_78, r233_79, r233_80, r233_83, r233_86, r233_87, r233_88, r233_89, r233_91, r233_93, r233_95, r233_97, r233_99, r233_100, r233_103, r233_106, r233_107, r233_108, r233_109, r233_111, r233_113, r233_115, r233_117, r233_118, r233_119, r233_122, r233_125, r233_127, if_true, if_false, Nat.reduceAdd, Int32.reduceToNatClampNeg, lo_i, lo_r, lo_n, kont_v, kont_n, List.length_nil, List.length_cons, u0, h0, u1, h1, u2, h2, u3, h3, u4, h4, u5, h5, u6, h6]
    exact Iff.rfl
  rw [if_neg h6]
  by_cases h7 : wdIs B N (skp B N a) (swd 7) = true
  · rw [if_pos h7]
    simp (config := {decide := true}) only [r233_0, r233_1, r233_3, r233_4, r233_6, r233_7, r233_8, r233_9, r233_12, r233_15, r233_16, r233_17, r233_18, r233_20, r233_21, r233_23, r233_24, r233_25, r233_26, r233_29, r233_32, r233_33, r233_34, r233_35, r233_37, r233_39, r233_41, r233_42, r233_43, r233_44, r233_47, r233_50, r233_51, r233_52, r233_53, r233_55, r233_57, r233_58, r233_60, r233_61, r233_62, r233_65, r233_68, r233_69, r233_70, r233_71, r233_73, r233_75, r233_77, r233_78, r233_79, r233_80, r233_83, r233_86, r233_87, r233_88, r233_89, r233_91, r233_93, r233_95, r233_97, r233_99, r233_100, r233_103, r233_106, r233_107, r233_108, r233_109, r233_111, r233_113, r233_115, r233_117, r233_118, r233_119, r233_122, r233_125, r233_127, r233_128, r233_129, r233_130, r233_132, r233_133, r233_135, r233_137, r233_138, r233_141, r233_144, r233_146, r233_149, r233_150, if_true, if_false, Nat.reduceAdd, Int32.reduceToNatClampNeg, lo_i, lo_r, lo_n, kont_v, kont_n, List.length_nil, List.length_cons, u0, h0, u1, h1, u2, h2, u3, h3, u4, h4, u5, h5, u6, h6, u7, h7]
    exact Iff.rfl
  rw [if_neg h7]
  simp (config := {decide := true}) only [r233_0, r233_1, r233_3, r233_4, r233_6, r233_7, r233_8, r233_9, r233_12, r233_15, r233_16, r233_17, r233_18, r233_20, r233_21, r233_23, r233_24, r233_25, r233_26, r233_29, r233_32, r233_33, r233_34, r233_35, r233_37, r233_39, r233_41, r233_42, r233_43, r233_44, r233_47, r233_50, r233_51, r233_52, r233_53, r233_55, r233_57, r233_58, r233_60, r233_61, r233_62, r233_65, r233_68, r233_69, r233_70, r233_71, r233_73, r233_75, r233_77, r233_78, r233_79, r233_80, r233_83, r233_86, r233_87, r233_88, r233_89, r233_91, r233_93, r233_95, r233_97, r233_99, r233_100, r233_103, r233_106, r233_107, r233_108, r233_109, r233_111, r233_113, r233_115, r233_117, r233_118, r233_119, r233_122, r233_125, r233_127, r233_128, r233_129, r233_130, r233_132, r233_133, r233_135, r233_137, r233_138, r233_141, r233_144, r233_146, r233_149, r233_150, if_true, if_false, Nat.reduceAdd, Int32.reduceToNatClampNeg, lo_i, lo_r, lo_n, kont_v, kont_n, List.length_nil, List.length_cons, u0, h0, u1, h1, u2, h2, u3, h3, u4, h4, u5, h5, u6, h6, u7, h7]
  exact Iff.rfl
theorem MWk_refl : MWk I I := ⟨fun _ _ _ => rfl, fun _ _ _ => rfl⟩
theorem MWk_up (h : MWk I0 I) (hr : 454 ≤ r ∧ r ≤ 533) : MWk I0 (upR I r g) := by
  refine ⟨fun r2 h1 h2 => ?_, fun i h1 h2 => ?_⟩
  · rw [upR_ne (by omega)]; exact h.1 r2 h1 h2
  · rw [upR_ne (by omega)]; exact h.2 i h1 h2
theorem MWk_w (h : MWk I0 I) (hi : i = 8 ∨ i = 27) : MWk I0 (wrI I 70 i v) := ⟨fun r2 h1 h2 => by rw [wrI_ne h1]; exact h.1 r2 h1 h2, fun j h1 h2 => by rw [wr_k (by omega)]; exact h.2 j h1 h2⟩
theorem MX_mw (hX : MX I0 N B) (h : MWk I0 I) : MX I N B := by
  unfold MX
  rw [h.2 2 (by decide) (by decide), h.1 71 (by decide) (by decide)]
  exact hX
theorem Wm_w8 (h : Wm I σ) : Wm (wrI I 70 8 v) σ := ⟨by rw [wr_k (by decide)]; exact h.1, h.2.1, fun r hr k hk => by rw [wrI_ne (by omega)]; exact h.2.2 r hr k hk⟩
theorem RwM_u {c i v : Nat} (h : RwM g s k) (hs : s' i = some v) (hn : ∀ j, j ≠ i → s' j = s j) (hc : (i = 1 ∧ c = 1 ∧ k ≤ 5) ∨ (i = 2 ∧ c = 2 ∧ k = 0) ∨ (i = 3 ∧ c = 2 ∧ k = 4) ∨ (i = 2 ∧ c = 3 ∧ k = 4) ∨ (i = 2 ∧ c = 1 ∧ k = 7) ∨ (i = 4 ∧ c = 4)) : RwM (upd g c (nt v)) s' k := by
  obtain ⟨a0, a1, a2, a3, a4, a5, a6⟩ := h
  rcases hc with ⟨rfl, rfl, hk⟩ | ⟨rfl, rfl, hk⟩ | ⟨rfl, rfl, hk⟩ | ⟨rfl, rfl, hk⟩ | ⟨rfl, rfl, hk⟩ | ⟨rfl, rfl⟩
  · refine ⟨by rw [up_ne (by decide)]; exact a0, fun q w hw => ?_, fun q w hw => ?_, fun q w hw => ?_, fun q w hw => ?_, fun q w hw => ?_, fun w hw => ?_⟩
    · first | (rw [hs] at hw; cases hw; exact up_same) | (rw [hn _ (by decide)] at hw; rw [up_ne (by decide)]; exact a1 q w hw) | omega
    · first | (rw [hs] at hw; cases hw; exact up_same) | (rw [hn _ (by decide)] at hw; rw [up_ne (by decide)]; exact a2 q w hw) | omega
    · first | (rw [hs] at hw; cases hw; exact up_same) | (rw [hn _ (by decide)] at hw; rw [up_ne (by decide)]; exact a3 q w hw) | omega
    · first | (rw [hs] at hw; cases hw; exact up_same) | (rw [hn _ (by decide)] at hw; rw [up_ne (by decide)]; exact a4 q w hw) | omega
    · first | (rw [hs] at hw; cases hw; exact up_same) | (rw [hn _ (by decide)] at hw; rw [up_ne (by decide)]; exact a5 q w hw) | omega
    · first | (rw [hs] at hw; cases hw; exact up_same) | (rw [hn _ (by decide)] at hw; rw [up_ne (by decide)]; exact a6 w hw)
  · refine ⟨by rw [up_ne (by decide)]; exact a0, fun q w hw => ?_, fun q w hw => ?_, fun q w hw => ?_, fun q w hw => ?_, fun q w hw => ?_, fun w hw => ?_⟩
    · first | (rw [hs] at hw; cases hw; exact up_same) | (rw [hn _ (by decide)] at hw; rw [up_ne (by decide)]; exact a1 q w hw) | omega
    · first | (rw [hs] at hw; cases hw; exact up_same) | (rw [hn _ (by decide)] at hw; rw [up_ne (by decide)]; exact a2 q w hw) | omega
    · first | (rw [hs] at hw; cases hw; exact up_same) | (rw [hn _ (by decide)] at hw; rw [up_ne (by decide)]; exact a3 q w hw) | omega
    · first | (rw [hs] at hw; cases hw; exact up_same) | (rw [hn _ (by decide)] at hw; rw [up_ne (by decide)]; exact a4 q w hw) | omega
    · first | (rw [hs] at hw; cases hw; exact up_same) | (rw [hn _ (by decide)] at hw; rw [up_ne (by decide)]; exact a5 q w hw) | omega
    · first | (rw [hs] at hw; cases hw; exact up_same) | (rw [hn _ (by decide)] at hw; rw [up_ne (by decide)]; exact a6 w hw)
  · refine ⟨by rw [up_ne (by decide)]; exact a0, fun q w hw => ?_, fun q w hw => ?_, fun q w hw => ?_, fun q w hw => ?_, fun q w hw => ?_, fun w hw => ?_⟩
    · first | (rw [hs] at hw; cases hw; exact up_same) | (rw [hn _ (by decide)] at hw; rw [up_ne (by decide)]; exact a1 q w hw) | omega
    · first | (rw [hs] at hw; cases hw; exact up_same) | (rw [hn _ (by decide)] at hw; rw [up_ne (by decide)]; exact a2 q w hw) | omega
    · first | (rw [hs] at hw; cases hw; exact up_same) | (rw [hn _ (by decide)] at hw; rw [up_ne (by decide)]; exact a3 q w hw) | omega
    · first | (rw [hs] at hw; cases hw; exact up_same) | (rw [hn _ (by decide)] at hw; rw [up_ne (by decide)]; exact a4 q w hw) | omega
    · first | (rw [hs] at hw; cases hw; exact up_same) | (rw [hn _ (by decide)] at hw; rw [up_ne (by decide)]; exact a5 q w hw) | omega
    · first | (rw [hs] at hw; cases hw; exact up_same) | (rw [hn _ (by decide)] at hw; rw [up_ne (by decide)]; exact a6 w hw)
  · refine ⟨by rw [up_ne (by decide)]; exact a0, fun q w hw => ?_, fun q w hw => ?_, fun q w hw => ?_, fun q w hw => ?_, fun q w hw => ?_, fun w hw => ?_⟩
    · first | (rw [hs] at hw; cases hw; exact up_same) | (rw [hn _ (by decide)] at hw; rw [up_ne (by decide)]; exact a1 q w hw) | omega
    · first | (rw [hs] at hw; cases hw; exact up_same) | (rw [hn _ (by decide)] at hw; rw [up_ne (by decide)]; exact a2 q w hw) | omega
    · first | (rw [hs] at hw; cases hw; exact up_same) | (rw [hn _ (by decide)] at hw; rw [up_ne (by decide)]; exact a3 q w hw) | omega
    · first | (rw [hs] at hw; cases hw; exact up_same) | (rw [hn _ (by decide)] at hw; rw [up_ne (by decide)]; exact a4 q w hw) | omega
    · first | (rw [hs] at hw; cases hw; exact up_same) | (rw [hn _ (by decide)] at hw; rw [up_ne (by decide)]; exact a5 q w hw) | omega
    · first | (rw [hs] at hw; cases hw; exact up_same) | (rw [hn _ (by decide)] at hw; rw [up_ne (by decide)]; exact a6 w hw)
  · refine ⟨by rw [up_ne (by decide)]; exact a0, fun q w hw => ?_, fun q w hw => ?_, fun q w hw => ?_, fun q w hw => ?_, fun q w hw => ?_, fun w hw => ?_⟩
    · first | (rw [hs] at hw; cases hw; exact up_same) | (rw [hn _ (by decide)] at hw; rw [up_ne (by decide)]; exact a1 q w hw) | omega
    · first | (rw [hs] at hw; cases hw; exact up_same) | (rw [hn _ (by decide)] at hw; rw [up_ne (by decide)]; exact a2 q w hw) | omega
    · first | (rw [hs] at hw; cases hw; exact up_same) | (rw [hn _ (by decide)] at hw; rw [up_ne (by decide)]; exact a3 q w hw) | omega
    · first | (rw [hs] at hw; cases hw; exact up_same) | (rw [hn _ (by decide)] at hw; rw [up_ne (by decide)]; exact a4 q w hw) | omega
    · first | (rw [hs] at hw; cases hw; exact up_same) | (rw [hn _ (by decide)] at hw; rw [up_ne (by decide)]; exact a5 q w hw) | omega
    · first | (rw [hs] at hw; cases hw; exact up_same) | (rw [hn _ (by decide)] at hw; rw [up_ne (by decide)]; exact a6 w hw)
  · refine ⟨by rw [up_ne (by decide)]; exact a0, fun q w hw => ?_, fun q w hw => ?_, fun q w hw => ?_, fun q w hw => ?_, fun q w hw => ?_, fun w hw => ?_⟩
    · first | (rw [hs] at hw; cases hw; exact up_same) | (rw [hn _ (by decide)] at hw; rw [up_ne (by decide)]; exact a1 q w hw) | omega
    · first | (rw [hs] at hw; cases hw; exact up_same) | (rw [hn _ (by decide)] at hw; rw [up_ne (by decide)]; exact a2 q w hw) | omega
    · first | (rw [hs] at hw; cases hw; exact up_same) | (rw [hn _ (by decide)] at hw; rw [up_ne (by decide)]; exact a3 q w hw) | omega
    · first | (rw [hs] at hw; cases hw; exact up_same) | (rw [hn _ (by decide)] at hw; rw [up_ne (by decide)]; exact a4 q w hw) | omega
    · first | (rw [hs] at hw; cases hw; exact up_same) | (rw [hn _ (by decide)] at hw; rw [up_ne (by decide)]; exact a5 q w hw) | omega
    · first | (rw [hs] at hw; cases hw; exact up_same) | (rw [hn _ (by decide)] at hw; rw [up_ne (by decide)]; exact a6 w hw)
theorem Wm_put {c i v : Nat} (h : Wm I σ) (hr : r < σ.1) (hk : σ.2 0 r = some k) (hi : i ≠ 0) (hr8 : r < 80) (hc : (i = 1 ∧ c = 1 ∧ k ≤ 5) ∨ (i = 2 ∧ c = 2 ∧ k = 0) ∨ (i = 3 ∧ c = 2 ∧ k = 4) ∨ (i = 2 ∧ c = 3 ∧ k = 4) ∨ (i = 2 ∧ c = 1 ∧ k = 7) ∨ (i = 4 ∧ c = 4)) : Wm (upR I (454 + r) (upd (I (454 + r)) c (nt v))) (putW σ i r v) := by
  refine ⟨by rw [upR_ne (by omega)]; exact h.1, fun r' hr' j => by rw [putW_r (by have : σ.1 ≤ r' := hr'; omega)]; exact h.2.1 r' hr' j, fun r' hr' k' hk' => ?_⟩
  rw [putW_i (Ne.symm hi)] at hk'
  by_cases e : r' = r
  · subst e
    rw [hk] at hk'
    cases hk'
    rw [upR_same]
    exact RwM_u (h.2.2 r' hr' k hk) putW_at (fun j hj => putW_i hj) hc
  · rw [upR_ne (by omega)]
    have e2 : (fun j => (putW σ i r v).2 j r') = fun j => σ.2 j r' := by
      funext j
      exact putW_r e
    rw [e2]
    exact h.2.2 r' hr' k' hk'
theorem Wm_3 {v : Nat} (h : Wm I σ) (hr : r < σ.1) (hk : σ.2 0 r = some 7) : Wm I (putW σ 3 r v) := by
  refine ⟨h.1, fun r' hr' j => by rw [putW_r (by have : σ.1 ≤ r' := hr'; omega)]; exact h.2.1 r' hr' j, fun r' hr' k' hk' => ?_⟩
  rw [putW_i (by decide)] at hk'
  by_cases e : r' = r
  · subst e
    rw [hk] at hk'
    cases hk'
    obtain ⟨a0, a1, a2, a3, a4, a5, a6⟩ := h.2.2 r' hr' 7 hk
    exact ⟨a0, fun q => absurd q (by decide), fun q => absurd q (by decide), fun q => absurd q (by decide), fun q => absurd q (by decide), fun q w hw => a5 q w ((putW_i (σ := σ) (i := 3) (r := r') (v := v) (j := 2) (l := r') (by decide)).symm.trans hw), fun w hw => a6 w ((putW_i (σ := σ) (i := 3) (r := r') (v := v) (j := 4) (l := r') (by decide)).symm.trans hw)⟩
  · have e2 : (fun j => (putW σ 3 r v).2 j r') = fun j => σ.2 j r' := by
      funext j
      exact putW_r e
    rw [e2]
    exact h.2.2 r' hr' k' hk'
theorem Wm_al (h : Wm I σ) : Wm (upR (wrI I 70 27 (nt (σ.1 + 1))) (454 + σ.1) (upd (I (454 + σ.1)) 0 (nt k))) (alW σ k) := by
  refine ⟨by rw [upR_ne (by omega), wr_eq]; rfl, fun r' hr' j => ?_, fun r' hr' k' hk' => ?_⟩
  · have hr' : σ.1 + 1 ≤ r' := hr'
    unfold alW
    rw [putW_r (by omega)]
    exact h.2.1 r' (by omega) j
  · unfold alW at hk'
    by_cases e : r' = σ.1
    · subst e
      rw [putW_at] at hk'
      cases hk'
      rw [upR_same]
      have hn : ∀ j, j ≠ 0 → (alW σ k).2 j σ.1 = none := fun j hj => by unfold alW; rw [putW_i hj]; exact h.2.1 σ.1 (Nat.le_refl _) j
      exact ⟨up_same, fun _ w hw => (nomatch ((hn 1 (by decide)).symm.trans hw)), fun _ w hw => (nomatch ((hn 2 (by decide)).symm.trans hw)), fun _ w hw => (nomatch ((hn 3 (by decide)).symm.trans hw)), fun _ w hw => (nomatch ((hn 2 (by decide)).symm.trans hw)), fun _ w hw => (nomatch ((hn 2 (by decide)).symm.trans hw)), fun w hw => (nomatch ((hn 4 (by decide)).symm.trans hw))⟩
    · rw [putW_r e] at hk'
      rw [upR_ne (by omega), wrI_ne (by omega)]
      have e2 : (fun j => (alW σ k).2 j r') = fun j => σ.2 j r' := by
        funext j
        exact putW_r e
      rw [e2]
      exact h.2.2 r' hr' k' hk'
theorem s454 {k : Nat} (h : k < 80) : sh0 n (453 + 1 + k) = (20, 5, []) := by
  rw [sh0_not7 (by omega)]
  have h2 : (List.range 80).all (fun k => decide (sh0 0 (453 + 1 + k) = (20, 5, []))) = true := by decide +kernel
  exact of_decide_eq_true (List.all_eq_true.mp h2 k (List.mem_range.mpr h))
theorem m200f (hX : MX I N B) {e : Nat × Nat} (hJ : MT I J N (.inr e)) (h : ∀ K, MT I K N (.inr e) → Φ (.inl none) (mk n K L x)) : wpc (d + 1) 200 [.ref (70 : Nat)] (mk n J L x) Φ := by
  obtain ⟨h0, h9, a1, ha1, rfl⟩ := hJ
  rw [m200 hX ha1]
  exact h _ (mtX_f h0 h9 (endF_le ha1))
theorem m200a (hX : MX I N B) (hJ : MT I J N (.inl a)) (h : ∀ K, MT I K N (.inl (skp B N a)) → Φ (.inl none) (mk n K L x)) : wpc (d + 1) 200 [.ref (70 : Nat)] (mk n J L x) Φ := by
  obtain ⟨ha, q, rfl⟩ := hJ
  rw [m200 hX ha]
  exact h _ (mtX_ok (endF_le ha))
end Wj

