/-! A REPUBLIC, read: the reference -/
def wCl : List Nat := [99, 108, 111, 99, 107]
def wNe : List Nat := [110, 101, 97, 114]
def wSo : List Nat := [115, 111, 99, 107, 115]
def ltrB (u : List Nat) : Bool := (List.range u.length).all (fun i => decide (97 ≤ u.getD i 0 ∧ u.getD i 0 ≤ 122))
theorem ltr_of {u : List Nat} (h : ltrB u = true) : ltr u := fun i hi => of_decide_eq_true ((List.all_eq_true.mp h) i (List.mem_range.mpr hi))
def kdM (o : Option Nat) : Int32 := if o = some 0 then 0 else if o = some 1 then 1 else if o = some 2 then 3 else if o = some 3 then 2 else -1
def mset (r : Nat) : Bool := decide (r = 73 ∨ (76 ≤ r ∧ r ≤ 82) ∨ (92 ≤ r ∧ r ≤ 97) ∨ (106 ≤ r ∧ r ≤ 112))
def MB (I K : Nat → Nat → Int32) : Prop := (∀ r, r ≠ 70 → mset r = false → K r = I r) ∧ ∀ i, i ≠ 7 → K 70 i = I 70 i
def Rm (I : Nat → Nat → Int32) (σ : RSt) : Prop := (I 73 0 = nt σ.1 ∧ I 73 1 = nt σ.2.1 ∧ I 73 2 = nt (σ.2.2 5 0)) ∧ (∀ k, k < σ.1 → I (76 + k) 0 = nt (σ.2.2 0 k) ∧ I (76 + k) 1 = nt (σ.2.2 1 k)) ∧ (∀ k, k < σ.2.1 → I (92 + k) 0 = nt (σ.2.2 2 k) ∧ I (92 + k) 1 = nt (σ.2.2 3 k)) ∧ (∀ s, s < 7 → ∀ c, c < 6 → I (106 + s) c = nt (σ.2.2 4 (s * 6 + c)))
section Ms
variable {d n x N a b told : Nat} {B : Nat → Int32} {Φ : POut → PM → Prop} {I J K G : Nat → Nat → Int32} {L : Nat → Nat → Int64} {v w c p s q lo hi : Int32} {g : Nat → Int32} {σ τ : RSt} {t : LSt} {r i : Nat}
theorem fnd0 : fndW B N b ws0 0 = if wdIs B N b wSl = true then some 0 else if wdIs B N b wCl = true then some 1 else if wdIs B N b wNe = true then some 2 else if wdIs B N b wSo = true then some 3 else none := rfl
theorem wd_ne {u u' : List Nat} (h1 : wdIs B N b u = true) (h2 : wdIs B N b u' = true) (h3 : 0 < u.length) (h4 : u.getD 0 0 < 1000) (h5 : u'.getD 0 0 < 1000) (h6 : 0 < u'.length) : u.getD 0 0 = u'.getD 0 0 := by
  have a1 := (wdIs_iff.mp h1).2 0 h3
  have a2 := (wdIs_iff.mp h2).2 0 h6
  rw [a1, nt_inj (by omega) (by omega)] at a2
  exact a2
theorem m216 (hX : MX I N B) (ha : a ≤ N) : wpc (d + 4) 216 [.ref (70 : Nat)] (mk n (mS I (nt a) 0 q) L x) Φ ↔ Φ (.inl (some (.int (kdM (fndW B N (skp B N a) ws0 0))))) (mk n (mS I (nt (skp B N a)) 0 q) L x) := by
  have hle : skp B N a ≤ N := endF_le ha
  have u1 := fun Ψ => m207 (d := d) (n := n) (L := L) (x := x) (q := q) (Φ := Ψ) (a := skp B N a) (u := wCl) (a1 := 3) (a2 := 12) (a3 := 15) (a4 := 3) (a5 := 11) (a6 := 0) hX hle (ltr_of (by decide +kernel)) (by decide) (by decide +kernel)
  have u2 := fun Ψ => m207 (d := d) (n := n) (L := L) (x := x) (q := q) (Φ := Ψ) (a := skp B N a) (u := wSo) (a1 := 19) (a2 := 15) (a3 := 3) (a4 := 11) (a5 := 19) (a6 := 0) hX hle (ltr_of (by decide +kernel)) (by decide) (by decide +kernel)
  have u3 := fun Ψ => m207 (d := d) (n := n) (L := L) (x := x) (q := q) (Φ := Ψ) (a := skp B N a) (u := wNe) (a1 := 14) (a2 := 5) (a3 := 1) (a4 := 18) (a5 := 0) (a6 := 0) hX hle (ltr_of (by decide +kernel)) (by decide) (by decide +kernel)
  rw [skp_skp] at u1 u2 u3
  show wp (d + 4) 216 0 [.ref (70 : Nat)] [] (mk n (mS I (nt a) 0 q) L x) Φ ↔ _
  rw [fnd0]
  by_cases h0 : wdIs B N (skp B N a) wSl = true
  · rw [if_pos h0]
    simp (config := {decide := true}) only [r216_0, r216_1, r216_4, r216_7, r216_8, r216_9, r216_10, r216_11, r216_13, r216_15, r216_16, r216_18, r216_19, r216_22, r216_25, r216_26, r216_27, r216_28, r216_30, r216_32, r216_33, r216_35, r216_37, r216_38, r216_41, r216_44, r216_45, r216_46, r216_47, r216_49, r216_50, r216_51, r216_53, r216_54, r216_55, r216_58, r216_61, r216_62, r216_65, r216_66, if_true, if_false, Nat.reduceAdd, Int32.reduceToNatClampNeg, lo_i, lo_r, lo_n, kont_v, kont_n, List.length_nil, List.length_cons, m215 hX ha, h0]
    exact Iff.rfl
  · rw [if_neg h0]
    by_cases h1 : wdIs B N (skp B N a) wCl = true
    · rw [if_pos h1]
      simp (config := {decide := true}) only [r216_0, r216_1, r216_4, r216_7, r216_8, r216_9, r216_10, r216_11, r216_13, r216_15, r216_16, r216_18, r216_19, r216_22, r216_25, r216_26, r216_27, r216_28, r216_30, r216_32, r216_33, r216_35, r216_37, r216_38, r216_41, r216_44, r216_45, r216_46, r216_47, r216_49, r216_50, r216_51, r216_53, r216_54, r216_55, r216_58, r216_61, r216_62, r216_65, r216_66, if_true, if_false, Nat.reduceAdd, Int32.reduceToNatClampNeg, lo_i, lo_r, lo_n, kont_v, kont_n, List.length_nil, List.length_cons, m215 hX ha, h0, u1, h1]
      exact Iff.rfl
    · rw [if_neg h1]
      by_cases h2 : wdIs B N (skp B N a) wNe = true
      · rw [if_pos h2]
        have h3 : ¬ wdIs B N (skp B N a) wSo = true := fun z => absurd (wd_ne h2 z (by decide) (by decide) (by decide) (by decide)) (by decide)
        simp (config := {decide := true}) only [r216_0, r216_1, r216_4, r216_7, r216_8, r216_9, r216_10, r216_11, r216_13, r216_15, r216_16, r216_18, r216_19, r216_22, r216_25, r216_26, r216_27, r216_28, r216_30, r216_32, r216_33, r216_35, r216_37, r216_38, r216_41, r216_44, r216_45, r216_46, r216_47, r216_49, r216_50, r216_51, r216_53, r216_54, r216_55, r216_58, r216_61, r216_62, r216_65, r216_66, if_true, if_false, Nat.reduceAdd, Int32.reduceToNatClampNeg, lo_i, lo_r, lo_n, kont_v, kont_n, List.length_nil, List.length_cons, m215 hX ha, h0, u1, h1, u2, h3, u3, h2]
        exact Iff.rfl
      · rw [if_neg h2]
        by_cases h3 : wdIs B N (skp B N a) wSo = true
        · rw [if_pos h3]
          simp (config := {decide := true}) only [r216_0, r216_1, r216_4, r216_7, r216_8, r216_9, r216_10, r216_11, r216_13, r216_15, r216_16, r216_18, r216_19, r216_22, r216_25, r216_26, r216_27, r216_28, r216_30, r216_32, r216_33, r216_35, r216_37, r216_38, r216_41, r216_44, r216_45, r216_46, r216_47, r216_49, r216_50, r216_51, r216_53, r216_54, r216_55, r216_58, r216_61, r216_62, r216_65, r216_66, if_true, if_false, Nat.reduceAdd, Int32.reduceToNatClampNeg, lo_i, lo_r, lo_n, kont_v, kont_n, List.length_nil, List.length_cons, m215 hX ha, h0, u1, h1, u2, h3]
          exact Iff.rfl
        · rw [if_neg h3]
          simp (config := {decide := true}) only [r216_0, r216_1, r216_4, r216_7, r216_8, r216_9, r216_10, r216_11, r216_13, r216_15, r216_16, r216_18, r216_19, r216_22, r216_25, r216_26, r216_27, r216_28, r216_30, r216_32, r216_33, r216_35, r216_37, r216_38, r216_41, r216_44, r216_45, r216_46, r216_47, r216_49, r216_50, r216_51, r216_53, r216_54, r216_55, r216_58, r216_61, r216_62, r216_65, r216_66, if_true, if_false, Nat.reduceAdd, Int32.reduceToNatClampNeg, lo_i, lo_r, lo_n, kont_v, kont_n, List.length_nil, List.length_cons, m215 hX ha, h0, u1, h1, u2, h3, u3, h2]
          exact Iff.rfl
theorem MB_refl : MB I I := ⟨fun _ _ _ => rfl, fun _ _ => rfl⟩
theorem MB_up (h : MB I K) (hr : mset r = true) : MB I (upR K r g) := by
  have hne : r ≠ 70 := fun e => by subst e; exact absurd hr (by decide)
  refine ⟨fun r2 h1 h2 => ?_, fun i hi => ?_⟩
  · rw [upR_ne (fun e => by subst e; rw [hr] at h2; exact absurd h2 (by decide))]; exact h.1 r2 h1 h2
  · rw [upR_ne (fun e => hne e.symm)]; exact h.2 i hi
theorem MB_w (h : MB I K) : MB I (wrI K 70 7 v) := ⟨fun r2 h1 h2 => by rw [wrI_ne h1]; exact h.1 r2 h1 h2, fun i hi => by rw [wr_k hi]; exact h.2 i hi⟩
theorem MX_mb (h : MB I K) (hX : MX I N B) : MX K N B := by
  unfold MX
  rw [h.2 2 (by decide), h.1 71 (by decide) (by decide)]
  exact hX
end Ms

