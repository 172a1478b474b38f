/-! A LAW, read by the reference: words -/
def lwd (k : Nat) : List Nat := ws1.getD k []
def ws9 : List (List Nat) := [lwd 0, lwd 1, lwd 2, lwd 3, lwd 4, lwd 5, lwd 6, lwd 7, lwd 8]
def ML (I K : Nat → Nat → Int32) : Prop := (∀ r, r ≠ 70 → (r < 275 ∨ 434 < r) → K r = I r) ∧ ∀ i, i ≠ 8 → i ≠ 19 → K 70 i = I 70 i
def Lm (I : Nat → Nat → Int32) (c : LCs) : Prop := I 70 19 = nt c.1 ∧ ∀ k, k < c.1 → I (275 + k) 0 = nt (c.2 k).1 ∧ I (275 + k) 1 = nt (c.2 k).2
section Ld
variable {d n x N a b o : Nat} {B : Nat → Int32} {Φ : POut → PM → Prop} {I I0 J K G : Nat → Nat → Int32} {L : Nat → Nat → Int64} {v w z q : Int32} {c : LCs} {k u : Nat} {t : LSt} {r i : Nat} {g : Nat → Int32} {f U : LPs} {S : Option LPs}
theorem wd_uni {u u' : List Nat} (h1 : wdIs B N b u = true) (h2 : wdIs B N b u' = true) (s1 : ∀ i, i < u.length → u.getD i 0 < 1000) (s2 : ∀ i, i < u'.length → u'.getD i 0 < 1000) : u = u' := by
  obtain ⟨a1, a2⟩ := wdIs_iff.mp h1
  obtain ⟨b1, b2⟩ := wdIs_iff.mp h2
  have hl : u.length = u'.length := by omega
  refine List.ext_getElem hl (fun i p1 p2 => ?_)
  have e := (a2 i p1).symm.trans (b2 i p2)
  have q1 := s1 i p1
  have q2 := s2 i p2
  rw [nt_inj (by omega) (by omega)] at e
  simpa [List.getD_eq_getElem?_getD, p1, p2] using e
theorem lwd_s {k : Nat} (hk : k < 11) : ∀ i, i < (lwd k).length → (lwd k).getD i 0 < 1000 := by
  have : ∀ k : Fin 11, ∀ i : Fin 8, (lwd k.1).getD i.1 0 < 1000 := by decide
  have hl : ∀ k : Fin 11, (lwd k.1).length < 8 := by decide
  intro i hi
  have h8 : (lwd k).length < 8 := hl ⟨k, hk⟩
  exact this ⟨k, hk⟩ ⟨i, by omega⟩
theorem lwd_ne {j k : Nat} (hj : j < 11) (hk : k < 11) (hjk : j ≠ k) (h : wdIs B N b (lwd k) = true) : ¬ wdIs B N b (lwd j) = true := by
  intro z
  have e := wd_uni z h (lwd_s hj) (lwd_s hk)
  have : ∀ j k : Fin 11, j ≠ k → lwd j.1 ≠ lwd k.1 := by decide
  exact this ⟨j, hj⟩ ⟨k, hk⟩ (fun q => hjk (Fin.mk.inj q)) e
theorem lwd_l {k : Nat} (hk : k < 11) : ltr (lwd k) := by
  have : ∀ k : Fin 11, ltrB (lwd k.1) = true := by decide +kernel
  exact ltr_of (this ⟨k, hk⟩)
theorem fnd1 : fndW B N b ws1 0 = if wdIs B N b (lwd 0) = true then some 0 else if wdIs B N b (lwd 1) = true then some 1 else if wdIs B N b (lwd 2) = true then some 2 else if wdIs B N b (lwd 3) = true then some 3 else if wdIs B N b (lwd 4) = true then some 4 else if wdIs B N b (lwd 5) = true then some 5 else if wdIs B N b (lwd 6) = true then some 6 else if wdIs B N b (lwd 7) = true then some 7 else if wdIs B N b (lwd 8) = true then some 8 else if wdIs B N b (lwd 9) = true then some 9 else if wdIs B N b (lwd 10) = true then some 10 else none := rfl
theorem fnd9 : fndW B N b ws9 0 = if wdIs B N b (lwd 0) = true then some 0 else if wdIs B N b (lwd 1) = true then some 1 else if wdIs B N b (lwd 2) = true then some 2 else if wdIs B N b (lwd 3) = true then some 3 else if wdIs B N b (lwd 4) = true then some 4 else if wdIs B N b (lwd 5) = true then some 5 else if wdIs B N b (lwd 6) = true then some 6 else if wdIs B N b (lwd 7) = true then some 7 else if wdIs B N b (lwd 8) = true then some 8 else none := rfl
theorem fnd_9 (h : wdIs B N b (lwd 9) = true) : fndW B N b ws1 0 = some 9 := by
  rw [fnd1, if_neg (lwd_ne (j := 0) (by decide) (by decide) (by decide) h), if_neg (lwd_ne (j := 1) (by decide) (by decide) (by decide) h), if_neg (lwd_ne (j := 2) (by decide) (by decide) (by decide) h), if_neg (lwd_ne (j := 3) (by decide) (by decide) (by decide) h), if_neg (lwd_ne (j := 4) (by decide) (by decide) (by decide) h), if_neg (lwd_ne (j := 5) (by decide) (by decide) (by decide) h), if_neg (lwd_ne (j := 6) (by decide) (by decide) (by decide) h), if_neg (lwd_ne (j := 7) (by decide) (by decide) (by decide) h), if_neg (lwd_ne (j := 8) (by decide) (by decide) (by decide) h), if_pos h]
theorem fnd_10 (h : wdIs B N b (lwd 10) = true) : fndW B N b ws1 0 = some 10 := by
  rw [fnd1, if_neg (lwd_ne (j := 0) (by decide) (by decide) (by decide) h), if_neg (lwd_ne (j := 1) (by decide) (by decide) (by decide) h), if_neg (lwd_ne (j := 2) (by decide) (by decide) (by decide) h), if_neg (lwd_ne (j := 3) (by decide) (by decide) (by decide) h), if_neg (lwd_ne (j := 4) (by decide) (by decide) (by decide) h), if_neg (lwd_ne (j := 5) (by decide) (by decide) (by decide) h), if_neg (lwd_ne (j := 6) (by decide) (by decide) (by decide) h), if_neg (lwd_ne (j := 7) (by decide) (by decide) (by decide) h), if_neg (lwd_ne (j := 8) (by decide) (by decide) (by decide) h), if_neg (lwd_ne (j := 9) (by decide) (by decide) (by decide) h), if_pos h]
theorem fnd_n (h : ¬ wdIs B N b (lwd 9) = true) (h2 : ¬ wdIs B N b (lwd 10) = true) : fndW B N b ws1 0 = fndW B N b ws9 0 := by
  rw [fnd1, fnd9, if_neg h, if_neg h2]
/-- what a word is no number and no bracket -/
theorem fnd_lt {k : Nat} (hf : fndW B N b ws1 0 = some k) : isLt (cur B N b) = true ∧ b < N ∧ b + 1 ≤ endF isLt B N b := by
  obtain ⟨w, h1, h2⟩ := fndW_in ws1 0 hf
  have h3 := (wdIs_iff.mp h2).1
  have h4 := ws1_p w h1
  have h5 := run_in (B := B) (N := N) (b := b) 0 (by omega)
  rw [Nat.add_zero] at h5
  exact ⟨(cur_P (P := isLt) (by decide)).mpr h5, h5.1, by omega⟩
theorem lt_dg {v : Int32} (h : isLt v = true) : ¬ isDg v = true ∧ ¬ v = 40 := by
  obtain ⟨h1, h2⟩ := of_decide_eq_true h
  refine ⟨fun z => ?_, fun z => ?_⟩
  · have := (of_decide_eq_true z).2
    exact absurd (Int32.le_trans h1 this) (by decide)
  · subst z
    exact absurd h1 (by decide)
theorem un_w (hf : fndW B N (skp B N a) ws1 0 = some k) (h9 : k < 9) : rUn B N S c a = .inl (psh c 1 k, endF isLt B N (skp B N a)) := by
  obtain ⟨h1, h2⟩ := lt_dg (fnd_lt hf).1
  have hw : rWrd B N ws1 a = .inl (k, endF isLt B N (skp B N a)) := by unfold rWrd; rw [hf]
  unfold rUn
  rw [if_neg h1, if_neg h2, hw]
  simp only [if_pos h9]
theorem un_p (hf : fndW B N (skp B N a) ws1 0 = some k) (h9 : ¬ k < 9) : rUn B N S c a = (match paP B N S c (skp B N a) (endF isLt B N (skp B N a)) with
    | .inr e => .inr e
    | .inl (c1, p2) => .inl (psh c1 (k - 2) 0, p2)) := by
  obtain ⟨h1, h2⟩ := lt_dg (fnd_lt hf).1
  have hw : rWrd B N ws1 a = .inl (k, endF isLt B N (skp B N a)) := by unfold rWrd; rw [hf]
  unfold rUn
  rw [if_neg h1, if_neg h2, hw]
  simp only [if_neg h9]
  rcases paP B N S c (skp B N a) (endF isLt B N (skp B N a)) with ⟨c1, p2⟩ | e <;> rfl
theorem un_b (h40 : cur B N (skp B N a) = 40) : rUn B N S c a = brP B N S c (skp B N a) := by
  unfold rUn
  rw [if_neg (by rw [h40]; decide), if_pos h40]
theorem un_n (hf : fndW B N (skp B N a) ws1 0 = none) (h40 : ¬ cur B N (skp B N a) = 40) : rUn B N S c a = (match rNum B N 0 999 a with
    | .inr e => .inr e
    | .inl (v, p1) => .inl (psh c 0 v, p1)) := by
  have hw : rWrd B N ws1 a = .inr (1, skp B N a) := by unfold rWrd; rw [hf]
  unfold rUn
  by_cases hd : isDg (cur B N (skp B N a)) = true
  · rw [if_pos hd]
    rcases rNum B N 0 999 a with ⟨c1, p2⟩ | e <;> rfl
  · have hn : rNum B N 0 999 a = .inr (1, skp B N a) := by unfold rNum; rw [if_neg hd]
    rw [if_neg hd, if_neg h40, hw, hn]
theorem m227 (hX : MX I N B) (ha : a ≤ N) : wpc (d + 4) 227 [.ref (70 : Nat)] (mk n (mS I (nt a) 0 q) L x) Φ ↔ Φ (.inl (some (.int (if wdIs B N (skp B N a) (lwd 8) = true then 1 else 0)))) (mk n (mS I (nt (if wdIs B N (skp B N a) (lwd 8) = true then endF isLt B N (skp B N a) else skp B N a)) 0 q) L x) := by
  have hle : skp B N a ≤ N := endF_le ha
  have e8 : lwd 8 = wSl := rfl
  rw [e8]
  show wp (d + 4) 227 0 [.ref (70 : Nat), noV] [] (mk n (mS I (nt a) 0 q) L x) Φ ↔ _
  by_cases hw : wdIs B N (skp B N a) wSl = true
  · simp (config := {decide := true}) only [r227_0, r227_1, r227_4, r227_5, r227_6, r227_9, r227_10, r227_13, r227_14, if_true, if_false, Nat.reduceAdd, Int32.reduceToNatClampNeg, lo_i, lo_r, lo_n, kont_v, kont_n, List.length_nil, List.length_cons, m215 hX ha, hw, m208 hX hle, nb_1]
  · simp (config := {decide := true}) only [r227_0, r227_1, r227_4, r227_5, r227_6, r227_9, r227_10, r227_13, r227_14, if_true, if_false, Nat.reduceAdd, Int32.reduceToNatClampNeg, lo_i, lo_r, lo_n, kont_v, kont_n, List.length_nil, List.length_cons, m215 hX ha, hw, nb_0]
def kVal (f : Option Nat) : Int32 := match f with
  | some k => nt k
  | none => -1
def kPos (f : Option Nat) (e s : Nat) : Nat := match f with
  | some _ => e
  | none => s
theorem m228 (hX : MX I N B) (ha : a ≤ N) : wpc (d + 5) 228 [.ref (70 : Nat)] (mk n (mS I (nt a) 0 q) L x) Φ ↔ Φ (.inl (some (.int (kVal (fndW B N (skp B N a) ws9 0))))) (mk n (mS I (nt (kPos (fndW B N (skp B N a) ws9 0) (endF isLt B N (skp B N a)) (skp B N a))) 0 q) L x) := by
  have hle : skp B N a ≤ N := endF_le ha
  have u0 := fun Ψ => m209 (d := d) (n := n) (L := L) (x := x) (q := q) (Φ := Ψ) (a := a) (u := lwd 0) (a1 := 12) (a2 := 15) (a3 := 21) (a4 := 4) (a5 := 0) (a6 := 0) hX ha (lwd_l (by decide)) (by decide) (by decide +kernel)
  have u1 := fun Ψ => m209 (d := d) (n := n) (L := L) (x := x) (q := q) (Φ := Ψ) (a := skp B N a) (u := lwd 1) (a1 := 14) (a2 := 5) (a3 := 1) (a4 := 18) (a5 := 0) (a6 := 0) hX hle (lwd_l (by decide)) (by decide) (by decide +kernel)
  have u2 := fun Ψ => m209 (d := d) (n := n) (L := L) (x := x) (q := q) (Φ := Ψ) (a := skp B N a) (u := lwd 2) (a1 := 4) (a2 := 5) (a3 := 16) (a4 := 20) (a5 := 8) (a6 := 0) hX hle (lwd_l (by decide)) (by decide) (by decide +kernel)
  have u3 := fun Ψ => m209 (d := d) (n := n) (L := L) (x := x) (q := q) (Φ := Ψ) (a := skp B N a) (u := lwd 3) (a1 := 19) (a2 := 15) (a3 := 3) (a4 := 11) (a5 := 0) (a6 := 0) hX hle (lwd_l (by decide)) (by decide) (by decide +kernel)
  have u4 := fun Ψ => m209 (d := d) (n := n) (L := L) (x := x) (q := q) (Φ := Ψ) (a := skp B N a) (u := lwd 4) (a1 := 8) (a2 := 15) (a3 := 21) (a4 := 18) (a5 := 0) (a6 := 0) hX hle (lwd_l (by decide)) (by decide) (by decide +kernel)
  have u5 := fun Ψ => m209 (d := d) (n := n) (L := L) (x := x) (q := q) (Φ := Ψ) (a := skp B N a) (u := lwd 5) (a1 := 4) (a2 := 1) (a3 := 25) (a4 := 0) (a5 := 0) (a6 := 0) hX hle (lwd_l (by decide)) (by decide) (by decide +kernel)
  have u6 := fun Ψ => m209 (d := d) (n := n) (L := L) (x := x) (q := q) (Φ := Ψ) (a := skp B N a) (u := lwd 6) (a1 := 1) (a2 := 23) (a3 := 1) (a4 := 11) (a5 := 5) (a6 := 0) hX hle (lwd_l (by decide)) (by decide) (by decide +kernel)
  have u7 := fun Ψ => m209 (d := d) (n := n) (L := L) (x := x) (q := q) (Φ := Ψ) (a := skp B N a) (u := lwd 7) (a1 := 19) (a2 := 16) (a3 := 18) (a4 := 9) (a5 := 14) (a6 := 7) hX hle (lwd_l (by decide)) (by decide) (by decide +kernel)
  have u8 := fun Ψ => m227 (d := d) (n := n) (L := L) (x := x) (q := q) (Φ := Ψ) hX hle
  rw [skp_skp] at u1 u2 u3 u4 u5 u6 u7 u8
  show wp (d + 5) 228 0 [.ref (70 : Nat)] [] (mk n (mS I (nt a) 0 q) L x) Φ ↔ _
  rw [fnd9]
  by_cases h0 : wdIs B N (skp B N a) (lwd 0) = true
  · rw [if_pos h0]
    simp (config := {decide := true}) only [r228_0, r228_1, r228_3, r228_5, r228_7, r228_8, r228_9, r228_10, r228_13, r228_16, r228_17, if_true, if_false, Nat.reduceAdd, Int32.reduceToNatClampNeg, lo_i, lo_r, lo_n, kont_v, kont_n, List.length_nil, List.length_cons, u0, h0]
    exact Iff.rfl
  rw [if_neg h0]
  by_cases h1 : wdIs B N (skp B N a) (lwd 1) = true
  · rw [if_pos h1]
    simp (config := {decide := true}) only [r228_0, r228_1, r228_3, r228_5, r228_7, r228_8, r228_9, r228_10, r228_13, r228_16, r228_17, r228_18, r228_19, r228_21, r228_22, r228_23, r228_25, r228_26, r228_27, r228_30, r228_33, r228_34, if_true, if_false, Nat.reduceAdd, Int32.reduceToNatClampNeg, lo_i, lo_r, lo_n, kont_v, kont_n, List.length_nil, List.length_cons, u0, h0, u1, h1]
    exact Iff.rfl
  rw [if_neg h1]
  by_cases h2 : wdIs B N (skp B N a) (lwd 2) = true
  · rw [if_pos h2]
    simp (config := {decide := true}) only [r228_0, r228_1, r228_3, r228_5, r228_7, r228_8, r228_9, r228_10, r228_13, r228_16, r228_17, r228_18, r228_19, r228_21, r228_22, r228_23, r228_25, r228_26, r228_27, r228_30, r228_33, r228_34, r228_35, r228_36, r228_37, r228_38, r228_40, r228_42, r228_44, r228_45, r228_48, r228_51, r228_52, if_true, if_false, Nat.reduceAdd, Int32.reduceToNatClampNeg, lo_i, lo_r, lo_n, kont_v, kont_n, List.length_nil, List.length_cons, u0, h0, u1, h1, u2, h2]
    exact Iff.rfl
  rw [if_neg h2]
  by_cases h3 : wdIs B N (skp B N a) (lwd 3) = true
  · rw [if_pos h3]
    simp (config := {decide := true}) only [r228_0, r228_1, r228_3, r228_5, r228_7, r228_8, r228_9, r228_10, r228_13, r228_16, r228_17, r228_18, r228_19, r228_21, r228_22, r228_23, r228_25, r228_26, r228_27, r228_30, r228_33, r228_34, r228_35, r228_36, r228_37, r228_38, r228_40, r228_42, r228_44, r228_45, r228_48, r228_51, r228_52, r228_53, r228_54, r228_56, r228_58, r228_59, r228_61, r228_62, r228_63, r228_66, r228_69, r228_70, if_true, if_false, Nat.reduceAdd, Int32.reduceToNatClampNeg, lo_i, lo_r, lo_n, kont_v, kont_n, List.length_nil, List.length_cons, u0, h0, u1, h1, u2, h2, u3, h3]
    exact Iff.rfl
  rw [if_neg h3]
  by_cases h4 : wdIs B N (skp B N a) (lwd 4) = true
  · rw [if_pos h4]
    simp (config := {decide := true}) only [r228_0, r228_1, r228_3, r228_5, r228_7, r228_8, r228_9, r228_10, r228_13, r228_16, r228_17, r228_18, r228_19, r228_21, r228_22, r228_23, r228_25, r228_26, r228_27, r228_30, r228_33, r228_34, r228_35, r228_36, r228_37, r228_38, r228_40, r228_42, r228_44, r228_45, r228_48, r228_51, r228_52, r228_53, r228_54, r228_56, r228_58, r228_59, r228_61, r228_62, r228_63, r228_66, r228_69, r228_70, r228_71, r228_72, r228_74, r228_76, r228_78, r228_80, r228_81, r228_82, r228_85, r228_88, r228_89, if_true, if_false, Nat.reduceAdd, Int32.reduceToNatClampNeg, lo_i, lo_r, lo_n, kont_v, kont_n, List.length_nil, List.length_cons, u0, h0, u1, h1, u2, h2, u3, h3, u4, h4]
    exact Iff.rfl
  rw [if_neg h4]
  by_cases h5 : wdIs B N (skp B N a) (lwd 5) = true
  · rw [if_pos h5]
    simp (config := {decide := true}) only [r228_0, r228_1, r228_3, r228_5, r228_7, r228_8, r228_9, r228_10, r228_13, r228_16, r228_17, r228_18, r228_19, r228_21, r228_22, r228_23, r228_25, r228_26, r228_27, r228_30, r228_33, r228_34, r228_35, r228_36, r228_37, r228_38, r228_40, r228_42, r228_44, r228_45, r228_48, r228_51, r228_52, r228_53, r228_54, r228_56, r228_58, r228_59, r228_61, r228_62, r228_63, r228_66, r228_69, r228_70, r228_71, r228_72, r228_74, r228_76, r228_78, r228_80, r228_81, r228_82, r228_85, r228_88, r228_89, r228_90, r228_91, r228_92, r228_93, r228_95, r228_96, r228_97, r228_98, r228_101, r228_104, r228_105, if_true, if_false, Nat.reduceAdd, Int32.reduceToNatClampNeg, lo_i, lo_r, lo_n, kont_v, kont_n, List.length_nil, List.length_cons, u0, h0, u1, h1, u2, h2, u3, h3, u4, h4, u5, h5]
    exact Iff.rfl
  rw [if_neg h5]
  by_cases h6 : wdIs B N (skp B N a) (lwd 6) = true
  · rw [if_pos h6]
    simp (config := {decide := true}) only [r228_0, r228_1, r228_3, r228_5, r228_7, r228_8, r228_9, r228_10, r228_13, r228_16, r228_17, r228_18, r228_19, r228_21, r228_22, r228_23, r228_25, r228_26, r228_27, r228_30, r228_33, r228_34, r228_35, r228_36, r228_37, r228_38, r228_40, r228_42, r228_44, r228_45, r228_48, r228_51, r228_52, r228_53, r228_54, r228_56, r228_58, r228_59, r228_61, r228_62, r228_63, r228_66, r228_69, r228_70, r228_71, r228_72, r228_74, r228_76, r228_78, r228_80, r228_81, r228_82, r228_85, r228_88, r228_89, r228_90, r228_91, r228_92, r228_93, r228_95, r228_96, r228_97, r228_98, r228_101, r228_104, r228_105, r228_106, r228_107, r228_108, r228_110, r228_111, r228_113, r228_114, r228_115, r228_118, r228_121, r228_123, if_true, if_false, Nat.reduceAdd, Int32.reduceToNatClampNeg, lo_i, lo_r, lo_n, kont_v, kont_n, List.length_nil, List.length_cons, u0, h0, u1, h1, u2, h2, u3, h3, u4, h4, u5, h5, u6, h6]
    exact Iff.rfl
  rw [if_neg h6]
  by_cases h7 : wdIs B N (skp B N a) (lwd 7) = true
  · rw [if_pos h7]
    simp (config := {decide := true}) only [r228_0, r228_1, r228_3, r228_5, r228_7, r228_8, r228_9, r228_10, r228_13, r228_16, r228_17, r228_18, r228_19, r228_21, r228_22, r228_23, r228_25, r228_26, r228_27, r228_30, r228_33, r228_34, r228_35, r228_36, r228_37, r228_38, r228_40, r228_42, r228_44, r228_45, r228_48, r228_51, r228_52, r228_53, r228_54, r228_56, r228_58, r228_59, r228_61, r228_62, r228_63, r228_66, r228_69, r228_70, r228_71, r228_72, r228_74, r228_76, r228_78, r228_80, r228_81, r228_82, r228_85, r228_88, r228_89, r228_90, r228_91, r228_92, r228_93, r228_95, r228_96, r228_97, r228_98, r228_101, r228_104, r228_105, r228_106, r228_107, r228_108, r228_110, r228_111, r228_113, r228_114, r228_115, r228_118, r228_121, r228_123, r228_124, r228_125, r228_127, r228_129, r228_131, r228_133, r228_135, r228_137, r228_140, r228_143, r228_145, if_true, if_false, Nat.reduceAdd, Int32.reduceToNatClampNeg, lo_i, lo_r, lo_n, kont_v, kont_n, List.length_nil, List.length_cons, u0, h0, u1, h1, u2, h2, u3, h3, u4, h4, u5, h5, u6, h6, u7, h7]
    exact Iff.rfl
  rw [if_neg h7]
  by_cases h8 : wdIs B N (skp B N a) (lwd 8) = true
  · rw [if_pos h8]
    simp (config := {decide := true}) only [r228_0, r228_1, r228_3, r228_5, r228_7, r228_8, r228_9, r228_10, r228_13, r228_16, r228_17, r228_18, r228_19, r228_21, r228_22, r228_23, r228_25, r228_26, r228_27, r228_30, r228_33, r228_34, r228_35, r228_36, r228_37, r228_38, r228_40, r228_42, r228_44, r228_45, r228_48, r228_51, r228_52, r228_53, r228_54, r228_56, r228_58, r228_59, r228_61, r228_62, r228_63, r228_66, r228_69, r228_70, r228_71, r228_72, r228_74, r228_76, r228_78, r228_80, r228_81, r228_82, r228_85, r228_88, r228_89, r228_90, r228_91, r228_92, r228_93, r228_95, r228_96, r228_97, r228_98, r228_101, r228_104, r228_105, r228_106, r228_107, r228_108, r228_110, r228_111, r228_113, r228_114, r228_115, r228_118, r228_121, r228_123, r228_124, r228_125, r228_127, r228_129, r228_131, r228_133, r228_135, r228_137, r228_140, r228_143, r228_145, r228_146, r228_147, r228_150, r228_153, r228_155, r228_158, r228_159, if_true, if_false, Nat.reduceAdd, Int32.reduceToNatClampNeg, lo_i, lo_r, lo_n, kont_v, kont_n, List.length_nil, List.length_cons, u0, h0, u1, h1, u2, h2, u3, h3, u4, h4, u5, h5, u6, h6, u7, h7, u8, h8]
    exact Iff.rfl
  rw [if_neg h8]
  simp (config := {decide := true}) only [r228_0, r228_1, r228_3, r228_5, r228_7, r228_8, r228_9, r228_10, r228_13, r228_16, r228_17, r228_18, r228_19, r228_21, r228_22, r228_23, r228_25, r228_26, r228_27, r228_30, r228_33, r228_34, r228_35, r228_36, r228_37, r228_38, r228_40, r228_42, r228_44, r228_45, r228_48, r228_51, r228_52, r228_53, r228_54, r228_56, r228_58, r228_59, r228_61, r228_62, r228_63, r228_66, r228_69, r228_70, r228_71, r228_72, r228_74, r228_76, r228_78, r228_80, r228_81, r228_82, r228_85, r228_88, r228_89, r228_90, r228_91, r228_92, r228_93, r228_95, r228_96, r228_97, r228_98, r228_101, r228_104, r228_105, r228_106, r228_107, r228_108, r228_110, r228_111, r228_113, r228_114, r228_115, r228_118, r228_121, r228_123, r228_124, r228_125, r228_127, r228_129, r228_131, r228_133, r228_135, r228_137, r228_140, r228_143, r228_145, r228_146, r228_147, r228_150, r228_153, r228_155, r228_158, r228_159, if_true, if_false, Nat.reduceAdd, Int32.reduceToNatClampNeg, lo_i, lo_r, lo_n, kont_v, kont_n, List.length_nil, List.length_cons, u0, h0, u1, h1, u2, h2, u3, h3, u4, h4, u5, h5, u6, h6, u7, h7, u8, h8]
  exact Iff.rfl
theorem ML_refl : ML I I := ⟨fun _ _ _ => rfl, fun _ _ _ => rfl⟩
theorem ML_up (h : ML I0 I) (hr : 275 ≤ r ∧ r ≤ 434) : ML I0 (upR I r g) := by
  refine ⟨fun r2 h1 h2 => ?_, fun i h1 h2 => ?_⟩
  · rw [upR_ne (by omega)]; exact h.1 r2 h1 h2
  · rw [upR_ne (by omega)]; exact h.2 i h1 h2
theorem ML_w (h : ML I0 I) (hi : i = 8 ∨ i = 19) : ML I0 (wrI I 70 i v) := ⟨fun r2 h1 h2 => by rw [wrI_ne h1]; exact h.1 r2 h1 h2, fun j h1 h2 => by rw [wr_k (by omega)]; exact h.2 j h1 h2⟩
theorem MX_ml (hX : MX I0 N B) (h : ML I0 I) : MX I N B := by
  unfold MX
  rw [h.2 2 (by decide) (by decide), h.1 71 (by decide) (by decide)]
  exact hX
theorem Lm_w8 (h : Lm I c) : Lm (wrI I 70 8 v) c := ⟨by rw [wr_k (by decide)]; exact h.1, fun k hk => by rw [wrI_ne (by omega)]; exact h.2 k hk⟩
theorem s275 {k : Nat} (h : k < 160) : sh0 n (274 + 1 + k) = (20, 2, []) := by
  rw [sh0_not7 (by omega)]
  have h2 : (List.range 160).all (fun k => decide (sh0 0 (274 + 1 + k) = (20, 2, []))) = true := by decide +kernel
  exact of_decide_eq_true (List.all_eq_true.mp h2 k (List.mem_range.mpr h))
theorem m223 (hM : ML I0 I) (hL : Lm I c) (hlt : c.1 < 150) (hJ : MT I J N (.inl a)) (h : ∀ I' K, ML I0 I' → I' 70 8 = I 70 8 → Lm I' (psh c k u) → MT I' K N (.inl a) → Φ (.inl none) (mk n K L x)) : wpc d 223 [.ref (70 : Nat), .int (nt k), .int (nt u)] (mk n J L x) Φ := by
  have f5 : J 70 5 = 0 := MT_5 hJ
  have f19 : J 70 19 = nt c.1 := by rw [MT_o hJ (by decide) (by decide) (by decide)]; exact hL.1
  have sA : sh0 n 274 = (22, 160, (sh0 n 274).2.2) := eq_of_heq HEq.rfl
  have g4 : (sh0 n 274).1 = 22 := by rw [sA]
  have g5 : (sh0 n 274).2.1 = 160 := by rw [sA]
  have g1 : (nt c.1).toNatClampNeg = c.1 := nt_clamp (by omega)
  have g2 : (0 : Int32) ≤ nt c.1 := nt_ge (by omega)
  have g3 : c.1 < 160 := by omega
  have g6 := s275 (n := n) g3
  have g7 : 274 + 1 + c.1 < 560 := by omega
  have g8 : 9 ≤ 274 + 1 + c.1 := by omega
  have f19' : ∀ i v, wrI J (274 + 1 + c.1) i v 70 19 = nt c.1 := fun i v => by rw [wrI_ne (by omega)]; exact f19
  have f19'' : ∀ i v j w, wrI (wrI J (274 + 1 + c.1) i v) (274 + 1 + c.1) j w 70 19 = nt c.1 := fun i v j w => by rw [wrI_ne (by omega), wrI_ne (by omega)]; exact f19
  show wp d 223 0 [.ref (70 : Nat), .int (nt k), .int (nt u)] [] (mk n J L x) Φ
  simp (config := {decide := true}) only [r223_0, r223_1, r223_4, r223_7, r223_8, r223_9, r223_12, r223_13, r223_16, r223_17, r223_18, r223_19, r223_20, r223_21, r223_24, r223_25, r223_28, r223_29, r223_30, r223_31, r223_32, r223_33, r223_34, r223_37, r223_38, r223_39, r223_42, if_true, if_false, Nat.reduceAdd, Int32.reduceToNatClampNeg, lo_i, lo_r, lo_n, kont_v, kont_n, List.length_nil, List.length_cons, f5, f19, g4, g5, g1, g2, g3, g6, g7, g8, f19', f19'', nt_succ]
  rw [wr2_raw, show 274 + 1 + c.1 = 275 + c.1 by omega, MT_ne hJ (show 275 + c.1 ≠ 70 by omega)]
  refine h _ _ (ML_w (ML_up (r := 275 + c.1) hM (by omega)) (Or.inr rfl)) (by rw [wr_k (by decide), upR_ne (by omega)]) ⟨wr_eq, fun i hi => ?_⟩ (MT_w (MT_up hJ (by omega)) (by decide) (by decide) (by decide))
  have hi : i < c.1 + 1 := hi
  rw [wrI_ne (by omega)]
  by_cases e : i = c.1
  · subst e
    rw [upR_same, up_same, up_ne (by decide), up_same, psh_eq]
    exact ⟨rfl, rfl⟩
  · rw [upR_ne (by omega), psh_lt (by omega)]
    exact hL.2 i (by omega)
theorem m223f {e : Nat × Nat} (hJ : MT I J N (.inr e)) : wpc d 223 [.ref (70 : Nat), .int v, .int w] (mk n J L x) Φ ↔ Φ (.inl none) (mk n J L x) := by
  have f5 : ¬ J 70 5 = 0 := by rw [MT_5 hJ]; exact kf hJ.1 hJ.2.1
  show wp d 223 0 [.ref (70 : Nat), .int v, .int w] [] (mk n J L x) Φ ↔ _
  simp (config := {decide := true}) only [r223_0, r223_1, r223_4, r223_7, if_true, if_false, Nat.reduceAdd, Int32.reduceToNatClampNeg, lo_i, lo_r, lo_n, kont_v, kont_n, List.length_nil, List.length_cons, f5]
theorem m224a (ho : o < 6) (h8 : I 70 8 = nt o) (hJ : MT I J N (.inl a)) (h : ∀ K, MT (wrI I 70 8 (nt (o + 1))) K N (.inl a) → Φ (.inl (some (.int 1))) (mk n K L x)) : wpc (d + 1) 224 [.ref (70 : Nat)] (mk n J L x) Φ := by
  have f5 : J 70 5 = 0 := MT_5 hJ
  have f8 : J 70 8 = nt o := by rw [MT_o hJ (by decide) (by decide) (by decide)]; exact h8
  have e1 : ¬ (nt o = 6) := by rw [show (6 : Int32) = nt 6 from rfl, nt_inj (by omega) (by decide)]; omega
  have hK := MT_w (i := 8) (v := nt (o + 1)) hJ (by decide) (by decide) (by decide)
  have f5' : wrI J 70 8 (nt (o + 1)) 70 5 = 0 := MT_5 hK
  show wp (d + 1) 224 0 [.ref (70 : Nat)] [] (mk n J L x) Φ
  simp (config := {decide := true}) only [r224_0, r224_1, r224_4, r224_7, r224_8, r224_11, r224_13, r224_16, r224_17, r224_18, r224_19, r224_22, r224_25, r224_28, r224_29, r224_32, r224_35, r224_36, r224_37, r224_40, r224_41, r224_42, r224_45, r224_46, r224_49, r224_52, r224_53, r224_56, r224_57, if_true, if_false, Nat.reduceAdd, Int32.reduceToNatClampNeg, lo_i, lo_r, lo_n, kont_v, kont_n, List.length_nil, List.length_cons, f5, f8, e1, nt_succ, f5', nb_1]
  exact h _ hK
theorem m224n (h8 : I 70 8 = 6) (hJ : MT I J N (.inl a)) (h : ∀ K, MT I K N (.inr (3, a)) → Φ (.inl (some (.int 0))) (mk n K L x)) : wpc (d + 1) 224 [.ref (70 : Nat)] (mk n J L x) Φ := by
  obtain ⟨ha, q, rfl⟩ := hJ
  have f8 : mS I (nt a) 0 q 70 8 = 6 := by rw [mS_o (by decide) (by decide) (by decide)]; exact h8
  show wp (d + 1) 224 0 [.ref (70 : Nat)] [] (mk n (mS I (nt a) 0 q) L x) Φ
  simp (config := {decide := true}) only [r224_0, r224_1, r224_4, r224_7, r224_8, r224_11, r224_13, r224_16, r224_17, r224_18, r224_19, r224_22, r224_25, r224_28, r224_29, r224_32, r224_35, r224_36, r224_37, r224_40, r224_41, r224_42, r224_45, r224_46, r224_49, r224_52, r224_53, r224_56, r224_57, if_true, if_false, Nat.reduceAdd, Int32.reduceToNatClampNeg, lo_i, lo_r, lo_n, kont_v, kont_n, List.length_nil, List.length_cons, mS_5, f8, mS_4, m201, nb_0]
  exact h _ (mtX_f (by decide) (by decide) ha)
end Ld

