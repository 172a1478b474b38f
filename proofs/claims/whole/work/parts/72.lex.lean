/-! READING A TEXT: what is read -/
/-- the end of a run -/
def endG (P : Int32 → Bool) (B : Nat → Int32) (N : Nat) : Nat → Nat → Nat
  | 0, p => p
  | m + 1, p => if p < N ∧ P (B p) = true then endG P B N m (p + 1) else p
def endF (P : Int32 → Bool) (B : Nat → Int32) (N p : Nat) : Nat := endG P B N (N - p) p
theorem endG_b {P : Int32 → Bool} {B : Nat → Int32} {N : Nat} : ∀ m p, p ≤ endG P B N m p ∧ (p ≤ N → endG P B N m p ≤ N)
  | 0, p => ⟨Nat.le_refl p, id⟩
  | m + 1, p => by
    unfold endG
    split
    · rename_i h
      obtain ⟨h1, h2⟩ := endG_b (P := P) (B := B) (N := N) m (p + 1)
      exact ⟨by omega, fun _ => h2 (by omega)⟩
    · exact ⟨Nat.le_refl p, id⟩
theorem endF_ge {P : Int32 → Bool} {B : Nat → Int32} {N p : Nat} : p ≤ endF P B N p := (endG_b _ _).1
theorem endF_le {P : Int32 → Bool} {B : Nat → Int32} {N p : Nat} (h : p ≤ N) : endF P B N p ≤ N := (endG_b _ _).2 h
theorem endF_go {P : Int32 → Bool} {B : Nat → Int32} {N p : Nat} (h : p < N) (hp : P (B p) = true) : endF P B N p = endF P B N (p + 1) := by
  unfold endF
  obtain ⟨m, hm⟩ : ∃ m, N - p = m + 1 := ⟨N - p - 1, by omega⟩
  rw [hm, show N - (p + 1) = m by omega]
  show (if p < N ∧ P (B p) = true then endG P B N m (p + 1) else p) = _
  rw [if_pos ⟨h, hp⟩]
theorem endF_no {P : Int32 → Bool} {B : Nat → Int32} {N p : Nat} (h : ¬ (p < N ∧ P (B p) = true)) : endF P B N p = p := by
  unfold endF
  cases hm : N - p with
  | zero => rfl
  | succ m =>
    show (if p < N ∧ P (B p) = true then endG P B N m (p + 1) else p) = _
    rw [if_neg h]
/-- a run, by steps -/
theorem end_ind {P : Int32 → Bool} {B : Nat → Int32} {N : Nat} {C : Nat → Prop} (h0 : ∀ p, ¬ (p < N ∧ P (B p) = true) → C p) (h1 : ∀ p, p < N → P (B p) = true → C (p + 1) → C p) : ∀ p, C p := by
  intro p
  by_cases hN : N ≤ p
  · exact h0 p (by omega)
  · obtain ⟨m, hm⟩ : ∃ m, m = N - p := ⟨_, rfl⟩
    induction m generalizing p with
    | zero => omega
    | succ m ih =>
      by_cases hp : P (B p) = true
      · refine h1 p (by omega) hp ?_
        by_cases h2 : N ≤ p + 1
        · exact h0 (p + 1) (by omega)
        · exact ih (p + 1) h2 (by omega)
      · exact h0 p (fun q => hp q.2)
theorem endF_at {P : Int32 → Bool} {B : Nat → Int32} {N : Nat} (p : Nat) : ¬ (endF P B N p < N ∧ P (B (endF P B N p)) = true) := by
  refine end_ind (P := P) (B := B) (N := N) (C := fun p => ¬ (endF P B N p < N ∧ P (B (endF P B N p)) = true)) ?_ ?_ p
  · intro p h; rw [endF_no h]; exact h
  · intro p h1 h2 h3; rw [endF_go h1 h2]; exact h3
theorem endF_in {P : Int32 → Bool} {B : Nat → Int32} {N : Nat} (p i : Nat) (h1 : p ≤ i) (h2 : i < endF P B N p) : i < N ∧ P (B i) = true := by
  revert i
  refine end_ind (P := P) (B := B) (N := N) (C := fun p => ∀ i, p ≤ i → i < endF P B N p → i < N ∧ P (B i) = true) ?_ ?_ p
  · intro p h i h1 h2; rw [endF_no h] at h2; omega
  · intro p h1 h2 ih i h3 h4
    rw [endF_go h1 h2] at h4
    by_cases hi : i = p
    · subst hi; exact ⟨h1, h2⟩
    · exact ih i (by omega) h4
def isBl (v : Int32) : Bool := decide (v = 32)
def isDg (v : Int32) : Bool := decide (48 ≤ v ∧ v ≤ 57)
def isLt (v : Int32) : Bool := decide (97 ≤ v ∧ v ≤ 122)
def cur (B : Nat → Int32) (N p : Nat) : Int32 := if p < N then B p else -1
def skp (B : Nat → Int32) (N p : Nat) : Nat := endF isBl B N p
/-- digits as a number -/
def dgF (B : Nat → Int32) (k : Nat) (v : Nat) : Nat := v * 10 + ((B k).toNatClampNeg - 48)
def dgV (B : Nat → Int32) (a : Nat) : Nat → Nat
  | 0 => 0
  | m + 1 => dgF B (a + m) (dgV B a m)
def dgN (B : Nat → Int32) (N p : Nat) : Nat := dgV B p (endF isDg B N p - p)
abbrev LSt : Type := Nat ⊕ (Nat × Nat)
abbrev RD (α : Type) : Type := (α × Nat) ⊕ (Nat × Nat)
def rNum (B : Nat → Int32) (N : Nat) (lo hi : Int32) (p : Nat) : RD Nat :=
  if isDg (cur B N (skp B N p)) = true then
    (if dgN B N (skp B N p) < 1000 ∧ lo ≤ nt (dgN B N (skp B N p)) ∧ nt (dgN B N (skp B N p)) ≤ hi then .inl (dgN B N (skp B N p), endF isDg B N (skp B N p)) else .inr (2, skp B N p))
  else .inr (1, skp B N p)
def rSig (B : Nat → Int32) (N : Nat) (c : Int32) (p : Nat) : RD Unit := if cur B N (skp B N p) = c then .inl ((), skp B N p + 1) else .inr (1, skp B N p)
/-- a word -/
def wdIs (B : Nat → Int32) (N p : Nat) (w : List Nat) : Bool := decide (endF isLt B N p - p = w.length) && (List.range w.length).all (fun i => decide (B (p + i) = nt (w.getD i 0)))
def fndW (B : Nat → Int32) (N p : Nat) : List (List Nat) → Nat → Option Nat
  | [], _ => none
  | w :: r, k => if wdIs B N p w = true then some k else fndW B N p r (k + 1)
def rWrd (B : Nat → Int32) (N : Nat) (ws : List (List Nat)) (p : Nat) : RD Nat := match fndW B N (skp B N p) ws 0 with
  | some k => .inl (k, endF isLt B N (skp B N p))
  | none => .inr (1, skp B N p)
/-! the tape of the class -/
def tS (I : Nat → Nat → Int32) (p s k q : Int32) : Nat → Nat → Int32 := upR I 10 (upd (upd (upd (upd (I 10) 3 p) 4 s) 5 k) 6 q)
section Tp
variable {d n x N : Nat} {μ : PM} {Φ : POut → PM → Prop} {I J K : Nat → Nat → Int32} {L : Nat → Nat → Int64} {v w c p s k q lo hi : Int32} {f g : Nat → Int32}
theorem tS_3 : tS I p s k q 10 3 = p := by unfold tS; rw [upR_same, up_ne (by decide), up_ne (by decide), up_ne (by decide), up_same]
theorem tS_4 : tS I p s k q 10 4 = s := by unfold tS; rw [upR_same, up_ne (by decide), up_ne (by decide), up_same]
theorem tS_5 : tS I p s k q 10 5 = k := by unfold tS; rw [upR_same, up_ne (by decide), up_same]
theorem tS_6 : tS I p s k q 10 6 = q := by unfold tS; rw [upR_same, up_same]
theorem tS_2 : tS I p s k q 10 2 = I 10 2 := by unfold tS; rw [upR_same, up_ne (by decide), up_ne (by decide), up_ne (by decide), up_ne (by decide)]
theorem tS_1 : tS I p s k q 10 1 = I 10 1 := by unfold tS; rw [upR_same, up_ne (by decide), up_ne (by decide), up_ne (by decide), up_ne (by decide)]
theorem tS_ne {a : Nat} (h : a ≠ 10) : tS I p s k q a = I a := upR_ne h
theorem tS_11 : tS I p s k q 11 = I 11 := upR_ne (by decide)
theorem tS_w3 : wrI (tS I p s k q) 10 3 v = tS I v s k q := by
  unfold tS wrI
  rw [upR_same, upR_upR]
  congr 1
  funext i
  unfold upd
  by_cases h3 : i = 3 <;> by_cases h4 : i = 4 <;> by_cases h5 : i = 5 <;> by_cases h6 : i = 6 <;> simp_all
theorem tS_w4 : wrI (tS I p s k q) 10 4 v = tS I p v k q := by
  unfold tS wrI
  rw [upR_same, upR_upR]
  congr 1
  funext i
  unfold upd
  by_cases h3 : i = 3 <;> by_cases h4 : i = 4 <;> by_cases h5 : i = 5 <;> by_cases h6 : i = 6 <;> simp_all
theorem tS_w5 : wrI (tS I p s k q) 10 5 v = tS I p s v q := by
  unfold tS wrI
  rw [upR_same, upR_upR]
  congr 1
  funext i
  unfold upd
  by_cases h3 : i = 3 <;> by_cases h4 : i = 4 <;> by_cases h5 : i = 5 <;> by_cases h6 : i = 6 <;> simp_all
theorem tS_w6 : wrI (tS I p s k q) 10 6 v = tS I p s k v := by
  unfold tS wrI
  rw [upR_same, upR_upR]
  congr 1
  funext i
  unfold upd
  by_cases h3 : i = 3 <;> by_cases h4 : i = 4 <;> by_cases h5 : i = 5 <;> by_cases h6 : i = 6 <;> simp_all
theorem c103 : wpc d 103 [.int v] μ Φ ↔ Φ (.inl (some (.int (if isDg v = true then 1 else 0)))) μ := by
  show wp d 103 0 [.int v] [] μ Φ ↔ _
  unfold isDg
  by_cases h1 : v < 48
  · rw [if_neg (fun q => Int32.not_lt.mpr (of_decide_eq_true q).1 h1)]
    simp (config := {decide := true}) only [r103_0, r103_1, r103_3, r103_6, r103_7, r103_9, r103_12, r103_13, r103_16, r103_17, if_true, if_false, Nat.reduceAdd, Int32.reduceToNatClampNeg, lo_i, lo_r, lo_n, kont_v, kont_n, List.length_nil, List.length_cons, h1, nb_0]
  · by_cases h2 : 57 < v
    · rw [if_neg (fun q => Int32.not_lt.mpr (of_decide_eq_true q).2 h2)]
      simp (config := {decide := true}) only [r103_0, r103_1, r103_3, r103_6, r103_7, r103_9, r103_12, r103_13, r103_16, r103_17, if_true, if_false, Nat.reduceAdd, Int32.reduceToNatClampNeg, lo_i, lo_r, lo_n, kont_v, kont_n, List.length_nil, List.length_cons, h1, h2, nb_0]
    · rw [if_pos (decide_eq_true ⟨Int32.not_lt.mp h1, Int32.not_lt.mp h2⟩)]
      simp (config := {decide := true}) only [r103_0, r103_1, r103_3, r103_6, r103_7, r103_9, r103_12, r103_13, r103_16, r103_17, if_true, if_false, Nat.reduceAdd, Int32.reduceToNatClampNeg, lo_i, lo_r, lo_n, kont_v, kont_n, List.length_nil, List.length_cons, h1, h2, nb_1]
theorem c104 : wpc d 104 [.int v] μ Φ ↔ Φ (.inl (some (.int (if isLt v = true then 1 else 0)))) μ := by
  show wp d 104 0 [.int v] [] μ Φ ↔ _
  unfold isLt
  by_cases h1 : v < 97
  · rw [if_neg (fun q => Int32.not_lt.mpr (of_decide_eq_true q).1 h1)]
    simp (config := {decide := true}) only [r104_0, r104_1, r104_3, r104_6, r104_7, r104_9, r104_12, r104_13, r104_16, r104_17, if_true, if_false, Nat.reduceAdd, Int32.reduceToNatClampNeg, lo_i, lo_r, lo_n, kont_v, kont_n, List.length_nil, List.length_cons, h1, nb_0]
  · by_cases h2 : 122 < v
    · rw [if_neg (fun q => Int32.not_lt.mpr (of_decide_eq_true q).2 h2)]
      simp (config := {decide := true}) only [r104_0, r104_1, r104_3, r104_6, r104_7, r104_9, r104_12, r104_13, r104_16, r104_17, if_true, if_false, Nat.reduceAdd, Int32.reduceToNatClampNeg, lo_i, lo_r, lo_n, kont_v, kont_n, List.length_nil, List.length_cons, h1, h2, nb_0]
    · rw [if_pos (decide_eq_true ⟨Int32.not_lt.mp h1, Int32.not_lt.mp h2⟩)]
      simp (config := {decide := true}) only [r104_0, r104_1, r104_3, r104_6, r104_7, r104_9, r104_12, r104_13, r104_16, r104_17, if_true, if_false, Nat.reduceAdd, Int32.reduceToNatClampNeg, lo_i, lo_r, lo_n, kont_v, kont_n, List.length_nil, List.length_cons, h1, h2, nb_1]
theorem c95 : wpc d 95 [.ref (10 : Nat)] (mk n (tS I p s k q) L x) Φ ↔ Φ (.inl (some (.int (bi (k ≠ 0))))) (mk n (tS I p s k q) L x) := by
  show wp d 95 0 [.ref (10 : Nat)] [] (mk n (tS I p s k q) L x) Φ ↔ _
  by_cases h : k = 0
  · rw [bi_f (fun e => e h)]
    simp (config := {decide := true}) only [r95_0, r95_1, r95_4, r95_7, r95_8, r95_11, r95_12, if_true, if_false, Nat.reduceAdd, Int32.reduceToNatClampNeg, lo_i, lo_r, lo_n, kont_v, kont_n, List.length_nil, List.length_cons, tS_5, h, nb_0]
  · rw [bi_t h]
    simp (config := {decide := true}) only [r95_0, r95_1, r95_4, r95_7, r95_8, r95_11, r95_12, if_true, if_false, Nat.reduceAdd, Int32.reduceToNatClampNeg, lo_i, lo_r, lo_n, kont_v, kont_n, List.length_nil, List.length_cons, tS_5, h, nb_1]
theorem c96 : wpc d 96 [.ref (10 : Nat), .int v] (mk n (tS I p s k q) L x) Φ ↔ Φ (.inl none) (mk n (if k = 0 then tS I p s v s else tS I p s k q) L x) := by
  show wp d 96 0 [.ref (10 : Nat), .int v] [] (mk n (tS I p s k q) L x) Φ ↔ _
  by_cases h : k = 0
  · rw [if_pos h]
    simp (config := {decide := true}) only [r96_0, r96_1, r96_4, r96_7, r96_8, r96_9, r96_12, r96_13, r96_14, r96_17, r96_20, if_true, if_false, Nat.reduceAdd, Int32.reduceToNatClampNeg, lo_i, lo_r, lo_n, kont_v, kont_n, List.length_nil, List.length_cons, tS_5, h, tS_w5, tS_4, tS_w6]
  · rw [if_neg h]
    simp (config := {decide := true}) only [r96_0, r96_1, r96_4, r96_7, r96_8, r96_9, r96_12, r96_13, r96_14, r96_17, r96_20, if_true, if_false, Nat.reduceAdd, Int32.reduceToNatClampNeg, lo_i, lo_r, lo_n, kont_v, kont_n, List.length_nil, List.length_cons, tS_5, h]
/-- a text that is open -/
def TX (I : Nat → Nat → Int32) (N : Nat) : Prop := I 10 2 = nt N ∧ N ≤ 600 ∧ ∀ i, i < N → 0 ≤ I 11 i ∧ I 11 i < 256
theorem c97f (hk : k ≠ 0) : wpc d 97 [.ref (10 : Nat)] (mk n (tS I p s k q) L x) Φ ↔ Φ (.inl (some (.int (-1)))) (mk n (tS I p s k q) L x) := by
  show wp d 97 0 [.ref (10 : Nat)] [] (mk n (tS I p s k q) L x) Φ ↔ _
  simp (config := {decide := true}) only [r97_0, r97_1, r97_4, r97_7, r97_8, if_true, if_false, Nat.reduceAdd, Int32.reduceToNatClampNeg, lo_i, lo_r, lo_n, kont_v, kont_n, List.length_nil, List.length_cons, tS_5, hk]
theorem c97 (hT : TX I N) {a : Nat} (ha : a ≤ N) : wpc d 97 [.ref (10 : Nat)] (mk n (tS I (nt a) s 0 q) L x) Φ ↔ Φ (.inl (some (.int (cur (I 11) N (skp (I 11) N a))))) (mk n (tS I (nt (skp (I 11) N a)) (nt (skp (I 11) N a)) 0 q) L x) := by
  obtain ⟨h2, hN, -⟩ := hT
  have t2 : ∀ p s k q, tS I p s k q 10 2 = nt N := fun p s k q => tS_2.trans h2
  show wp d 97 0 [.ref (10 : Nat)] [] (mk n (tS I (nt a) s 0 q) L x) Φ ↔ _
  simp (config := {decide := true}) only [r97_0, r97_1, r97_4, r97_7, r97_8, if_true, if_false, Nat.reduceAdd, Int32.reduceToNatClampNeg, lo_i, lo_r, lo_n, kont_v, kont_n, List.length_nil, List.length_cons, tS_5]
  have key : ∀ a, a ≤ N → (wp d 97 9 [.ref (10 : Nat)] [] (mk n (tS I (nt a) s 0 q) L x) Φ ↔ wp d 97 59 [.ref (10 : Nat)] [] (mk n (tS I (nt (skp (I 11) N a)) s 0 q) L x) Φ) := by
    refine end_ind (P := isBl) (B := I 11) (N := N) ?_ ?_
    · intro a h ha
      rw [show skp (I 11) N a = a from endF_no h]
      rw [r97_9]
      by_cases h1 : a < N
      · have e1 : ¬ (nt N ≤ nt a) := nt_nle h1 (by omega)
        have e2 : ¬ (nt 600 ≤ nt a) := nt_nle (by omega) (by decide)
        have e3 : (nt a).toNatClampNeg = a := nt_clamp (by omega)
        have e4 : (0 : Int32) ≤ nt a := nt_ge (by omega)
        have e5 : a < 600 := by omega
        have e6 : ¬ (I 11 a = 32) := fun e => h ⟨h1, decide_eq_true e⟩
        simp (config := {decide := true}) only [r97_10, r97_13, r97_14, r97_17, r97_20, r97_21, r97_24, r97_25, r97_28, r97_29, r97_32, r97_33, r97_36, r97_37, r97_40, r97_41, r97_43, r97_46, r97_47, r97_48, r97_51, r97_52, r97_53, r97_56, if_true, if_false, Nat.reduceAdd, Int32.reduceToNatClampNeg, lo_i, lo_r, lo_n, kont_v, kont_n, List.length_nil, List.length_cons, tS_3, t2, tS_11, e1, e2, e3, e4, e5, e6, s11, true_or]
      · have e1 : nt N ≤ nt a := by rw [nt_le (by omega) (by omega)]; omega
        simp (config := {decide := true}) only [r97_10, r97_13, r97_14, r97_17, r97_20, r97_21, r97_24, r97_25, r97_28, r97_29, r97_32, r97_33, r97_36, r97_37, r97_40, r97_41, r97_43, r97_46, r97_47, r97_48, r97_51, r97_52, r97_53, r97_56, if_true, if_false, Nat.reduceAdd, Int32.reduceToNatClampNeg, lo_i, lo_r, lo_n, kont_v, kont_n, List.length_nil, List.length_cons, tS_3, t2, e1]
    · intro a h1 hb ih ha
      have e1 : ¬ (nt N ≤ nt a) := nt_nle h1 (by omega)
      have e2 : ¬ (nt 600 ≤ nt a) := nt_nle (by omega) (by decide)
      have e3 : (nt a).toNatClampNeg = a := nt_clamp (by omega)
      have e4 : (0 : Int32) ≤ nt a := nt_ge (by omega)
      have e5 : a < 600 := by omega
      have e6 : I 11 a = 32 := of_decide_eq_true hb
      rw [show skp (I 11) N a = skp (I 11) N (a + 1) from endF_go h1 hb]
      refine Iff.trans ?_ (ih (by omega))
      rw [r97_9]
      simp (config := {decide := true}) only [r97_10, r97_13, r97_14, r97_17, r97_20, r97_21, r97_24, r97_25, r97_28, r97_29, r97_32, r97_33, r97_36, r97_37, r97_40, r97_41, r97_43, r97_46, r97_47, r97_48, r97_51, r97_52, r97_53, r97_56, if_true, if_false, Nat.reduceAdd, Int32.reduceToNatClampNeg, lo_i, lo_r, lo_n, kont_v, kont_n, List.length_nil, List.length_cons, tS_3, t2, tS_11, e1, e2, e3, e4, e5, e6, s11, true_or, tS_w3, nt_succ]
  rw [key a ha]
  have hle : skp (I 11) N a ≤ N := endF_le ha
  generalize skp (I 11) N a = b at hle
  unfold cur
  by_cases h1 : b < N
  · have e1 : ¬ (nt N ≤ nt b) := nt_nle h1 (by omega)
    have e2 : ¬ (nt 600 ≤ nt b) := nt_nle (by omega) (by decide)
    have e3 : (nt b).toNatClampNeg = b := nt_clamp (by omega)
    have e4 : (0 : Int32) ≤ nt b := nt_ge (by omega)
    have e5 : b < 600 := by omega
    rw [if_pos h1]
    simp (config := {decide := true}) only [r97_59, r97_60, r97_61, r97_64, r97_67, r97_68, r97_71, r97_72, r97_75, r97_78, r97_79, r97_82, r97_83, r97_86, r97_87, r97_90, r97_91, r97_94, r97_95, r97_98, r97_99, r97_102, r97_103, if_true, if_false, Nat.reduceAdd, Int32.reduceToNatClampNeg, lo_i, lo_r, lo_n, kont_v, kont_n, List.length_nil, List.length_cons, tS_3, tS_w4, t2, tS_11, e1, e2, e3, e4, e5, s11, true_or]
  · have e1 : nt N ≤ nt b := by rw [nt_le (by omega) (by omega)]; omega
    rw [if_neg h1]
    simp (config := {decide := true}) only [r97_59, r97_60, r97_61, r97_64, r97_67, r97_68, r97_71, r97_72, r97_75, r97_78, r97_79, r97_82, r97_83, r97_86, r97_87, r97_90, r97_91, r97_94, r97_95, r97_98, r97_99, r97_102, r97_103, if_true, if_false, Nat.reduceAdd, Int32.reduceToNatClampNeg, lo_i, lo_r, lo_n, kont_v, kont_n, List.length_nil, List.length_cons, tS_3, tS_w4, t2, e1]
/-- how the tape stands: at a place, or behind a fault -/
def CT (I J : Nat → Nat → Int32) (N : Nat) (t : LSt) : Prop := match t with
  | .inl a => a ≤ N ∧ ∃ s q, q = -1 ∧ J = tS I (nt a) s 0 q
  | .inr e => e.1 ≠ 0 ∧ e.1 < 10 ∧ ∃ (a : Nat) (s : Int32), a ≤ N ∧ J = tS I (nt a) s (nt e.1) (nt e.2)
theorem ct_ok {a : Nat} (hq : q = -1) (h : a ≤ N) : CT I (tS I (nt a) s 0 q) N (.inl a) := ⟨h, s, q, hq, rfl⟩
theorem ct_f {a e b : Nat} (h0 : e ≠ 0) (h1 : e < 10) (ha : a ≤ N) : CT I (tS I (nt a) s (nt e) (nt b)) N (.inr (e, b)) := ⟨h0, h1, a, s, ha, rfl⟩
theorem kf {e : Nat} (h0 : e ≠ 0) (h1 : e < 10) : nt e ≠ 0 := by
  rw [show (0 : Int32) = nt 0 from rfl, ne_eq, nt_inj (by omega) (by decide)]
  exact h0
theorem cur_lt (hT : TX I N) {a : Nat} (h : cur (I 11) N a ≠ -1) : a < N := by
  unfold cur at h
  split at h
  · assumption
  · exact absurd rfl h
/-- a sign -/
def lSig (B : Nat → Int32) (N : Nat) (c : Int32) (t : LSt) : LSt := match t with
  | .inl a => if cur B N (skp B N a) = c then .inl (skp B N a + 1) else .inr (1, skp B N a)
  | .inr e => .inr e
theorem c98 (hT : TX I N) (hc : c ≠ -1) {t : LSt} (hJ : CT I J N t) (h : ∀ K, CT I K N (lSig (I 11) N c t) → Φ (.inl none) (mk n K L x)) : wpc (d + 1) 98 [.ref (10 : Nat), .int c] (mk n J L x) Φ := by
  cases t with
  | inl a =>
    obtain ⟨ha, s, q, hq, rfl⟩ := hJ
    show wp (d + 1) 98 0 [.ref (10 : Nat), .int c] [] (mk n (tS I (nt a) s 0 q) L x) Φ
    simp only [lSig] at h
    by_cases h1 : cur (I 11) N (skp (I 11) N a) = c
    · rw [if_pos h1] at h
      have hlt := cur_lt hT (a := skp (I 11) N a) (by rw [h1]; exact hc)
      simp (config := {decide := true}) only [r98_0, r98_1, r98_4, r98_5, r98_8, r98_9, r98_10, r98_13, r98_14, r98_15, r98_18, r98_21, r98_22, r98_23, r98_26, if_true, if_false, Nat.reduceAdd, Int32.reduceToNatClampNeg, lo_i, lo_r, lo_n, kont_v, kont_n, List.length_nil, List.length_cons, c97 hT ha, h1, tS_3, nt_succ, tS_w3]
      exact h _ (ct_ok hq hlt)
    · rw [if_neg h1] at h
      simp (config := {decide := true}) only [r98_0, r98_1, r98_4, r98_5, r98_8, r98_9, r98_10, r98_13, r98_14, r98_15, r98_18, r98_21, r98_22, r98_23, r98_26, if_true, if_false, Nat.reduceAdd, Int32.reduceToNatClampNeg, lo_i, lo_r, lo_n, kont_v, kont_n, List.length_nil, List.length_cons, c97 hT ha, h1, c96]
      exact h _ (ct_f (by decide) (by decide) (endF_le ha))
  | inr e =>
    obtain ⟨h0, h1, a, s, ha, rfl⟩ := hJ
    have hk := kf h0 h1
    have hc2 : ¬ (-1 = c) := fun e => hc e.symm
    show wp (d + 1) 98 0 [.ref (10 : Nat), .int c] [] (mk n (tS I (nt a) s (nt e.1) (nt e.2)) L x) Φ
    simp (config := {decide := true}) only [r98_0, r98_1, r98_4, r98_5, r98_8, r98_9, r98_10, r98_13, r98_14, r98_15, r98_18, r98_21, r98_22, r98_23, r98_26, if_true, if_false, Nat.reduceAdd, Int32.reduceToNatClampNeg, lo_i, lo_r, lo_n, kont_v, kont_n, List.length_nil, List.length_cons, c97f hk, hc2, c96, hk]
    exact h _ (ct_f h0 h1 ha)
/-- a number -/
def okS (r : RD Nat) : LSt := match r with
  | .inl u => .inl u.2
  | .inr e => .inr e
theorem dg_small {B : Nat → Int32} {k : Nat} (h : isDg (B k) = true) : ∃ m, m < 10 ∧ B k = nt (48 + m) := by
  obtain ⟨h1, h2⟩ := of_decide_eq_true h
  obtain ⟨e, hl⟩ := int_nt (Int32.le_trans (by decide) h1)
  rw [e, show (48 : Int32) = nt 48 from rfl, nt_le (by decide) hl] at h1
  rw [e, show (57 : Int32) = nt 57 from rfl, nt_le hl (by decide)] at h2
  exact ⟨(B k).toNatClampNeg - 48, by omega, by rw [show 48 + ((B k).toNatClampNeg - 48) = (B k).toNatClampNeg by omega]; exact e⟩
theorem num_step {B : Nat → Int32} {k V M : Nat} (hM : M ≤ 100000) (h : isDg (B k) = true) (h9 : 99 ≤ M) : mni (nt M) (nt (min M V) * 10 + B k - 48) = nt (min M (dgF B k V)) := by
  obtain ⟨m, h1, h2⟩ := dg_small h
  have e1 : nt (min M V) * 10 + B k - 48 = nt (min M V * 10 + m) := by
    rw [h2, show nt (min M V) * 10 = nt (min M V * 10) from (Int32.ofNat_mul _ 10).symm, nt_add, show (48 : Int32) = nt 48 from rfl, nt_sub (by omega)]
    congr 1
    omega
  rw [e1, mni_nt (by omega) (by have := Nat.min_le_left M V; omega)]
  unfold dgF
  rw [h2, nt_clamp (by omega), show 48 + m - 48 = m by omega]
  congr 1
  by_cases hv : V ≤ M
  · rw [Nat.min_eq_right hv]
  · rw [Nat.min_eq_left (by omega), Nat.min_eq_left (by omega)]; try rw [Nat.min_eq_left (by omega)]
theorem c100 (hT : TX I N) {t : LSt} (hJ : CT I J N t) (hh : hi ≤ 999) (hok : ∀ a, t = .inl a → ∀ V b, rNum (I 11) N lo hi a = .inl (V, b) → ∀ q, q = -1 → b ≤ N → Φ (.inl (some (.int (nt V)))) (mk n (tS I (nt b) (nt (skp (I 11) N a)) 0 q) L x)) (hbad : ∀ a, t = .inl a → ∀ e, rNum (I 11) N lo hi a = .inr e → ∀ v K, CT I K N (.inr e) → Φ (.inl (some (.int v))) (mk n K L x)) (hf : ∀ e, t = .inr e → ∀ K, CT I K N (.inr e) → Φ (.inl (some (.int 0))) (mk n K L x)) : wpc (d + 2) 100 [.ref (10 : Nat), .int lo, .int hi] (mk n J L x) Φ := by
  cases t with
  | inr e =>
    obtain ⟨h0, h1, a, s, ha, rfl⟩ := hJ
    have hk := kf h0 h1
    have hd : ¬ isDg (-1) = true := by decide
    show wp (d + 2) 100 0 [.ref (10 : Nat), .int lo, .int hi, noV] [] (mk n (tS I (nt a) s (nt e.1) (nt e.2)) L x) Φ
    simp (config := {decide := true}) only [r100_0, r100_1, r100_4, r100_7, r100_10, r100_11, r100_12, r100_15, r100_16, if_true, if_false, Nat.reduceAdd, Int32.reduceToNatClampNeg, lo_i, lo_r, lo_n, kont_v, kont_n, List.length_nil, List.length_cons, c97f hk, c103, hd, c96, hk]
    exact hf e rfl _ (ct_f h0 h1 ha)
  | inl a =>
    obtain ⟨ha, s, q, hq, rfl⟩ := hJ
    replace hok := hok a rfl
    replace hbad := hbad a rfl
    obtain ⟨h2, hN, hB⟩ := id hT
    have t2 : ∀ p s k q, tS I p s k q 10 2 = nt N := fun p s k q => tS_2.trans h2
    show wp (d + 2) 100 0 [.ref (10 : Nat), .int lo, .int hi, noV] [] (mk n (tS I (nt a) s 0 q) L x) Φ
    unfold rNum at hok hbad
    have hle : skp (I 11) N a ≤ N := endF_le ha
    simp (config := {decide := true}) only [r100_0, r100_1, r100_4, if_true, if_false, Nat.reduceAdd, Int32.reduceToNatClampNeg, lo_i, lo_r, lo_n, kont_v, kont_n, List.length_nil, List.length_cons, c97 hT ha, c103]
    generalize skp (I 11) N a = b at hle hok hbad ⊢
    by_cases hd : isDg (cur (I 11) N b) = true
    · rw [if_pos hd] at hok hbad
      simp (config := {decide := true}) only [r100_7, r100_10, r100_11, r100_12, r100_15, r100_16, r100_17, r100_18, if_true, if_false, Nat.reduceAdd, Int32.reduceToNatClampNeg, lo_i, lo_r, lo_n, kont_v, kont_n, List.length_nil, List.length_cons, hd]
      have key : ∀ c, b ≤ c → c ≤ N → (∀ i, b ≤ i → i < c → isDg (I 11 i) = true) → wp (d + 2) 100 86 [.ref (10 : Nat), .int lo, .int hi, .int (nt (min 9999 (dgN (I 11) N b)))] [] (mk n (tS I (nt (endF isDg (I 11) N b)) (nt b) 0 q) L x) Φ → endF isDg (I 11) N c = endF isDg (I 11) N b → wp (d + 2) 100 19 [.ref (10 : Nat), .int lo, .int hi, .int (nt (min 9999 (dgV (I 11) b (c - b))))] [] (mk n (tS I (nt c) (nt b) 0 q) L x) Φ := by
        refine end_ind (P := isDg) (B := I 11) (N := N) ?_ ?_
        · intro c hc hbc hcN hin hw he
          rw [endF_no hc] at he
          rw [r100_19]
          by_cases h1 : c < N
          · have e1 : ¬ (nt N ≤ nt c) := nt_nle h1 (by omega)
            have e2 : atv 600 (I 11) (nt c) = I 11 c := atv_nt (by omega) (by decide)
            have e3 : ¬ isDg (I 11 c) = true := fun z => hc ⟨h1, z⟩
            simp (config := {decide := true}) only [r100_20, r100_23, r100_24, r100_27, r100_30, r100_31, r100_34, r100_35, r100_38, r100_41, r100_44, r100_47, r100_50, r100_51, r100_53, r100_54, r100_55, r100_58, r100_59, r100_62, r100_65, r100_66, r100_68, r100_69, r100_72, r100_73, r100_74, r100_75, r100_78, r100_79, r100_80, r100_83, if_true, if_false, Nat.reduceAdd, Int32.reduceToNatClampNeg, lo_i, lo_r, lo_n, kont_v, kont_n, List.length_nil, List.length_cons, tS_3, t2, tS_11, e1, s11, c185, e2, c103, e3]
            unfold dgN at hw
            rw [← he] at hw
            exact hw
          · have e1 : nt N ≤ nt c := by rw [nt_le (by omega) (by omega)]; omega
            simp (config := {decide := true}) only [r100_20, r100_23, r100_24, r100_27, r100_30, r100_31, r100_34, r100_35, r100_38, r100_41, r100_44, r100_47, r100_50, r100_51, r100_53, r100_54, r100_55, r100_58, r100_59, r100_62, r100_65, r100_66, r100_68, r100_69, r100_72, r100_73, r100_74, r100_75, r100_78, r100_79, r100_80, r100_83, if_true, if_false, Nat.reduceAdd, Int32.reduceToNatClampNeg, lo_i, lo_r, lo_n, kont_v, kont_n, List.length_nil, List.length_cons, tS_3, t2, e1]
            unfold dgN at hw
            rw [← he] at hw
            exact hw
        · intro c h1 hdc ih hbc hcN hin hw he
          have e1 : ¬ (nt N ≤ nt c) := nt_nle h1 (by omega)
          have e2 : atv 600 (I 11) (nt c) = I 11 c := atv_nt (by omega) (by decide)
          have e5 := num_step (M := 9999) (V := dgV (I 11) b (c - b)) (by decide) hdc (by decide)
          have e6 : mni 9999 (nt (min 9999 (dgV (I 11) b (c - b))) * 10 + I 11 c - 48) = nt (min 9999 (dgV (I 11) b (c + 1 - b))) := by
            rw [show c + 1 - b = (c - b) + 1 by omega]
            show _ = nt (min 9999 (dgF (I 11) (b + (c - b)) (dgV (I 11) b (c - b))))
            rw [show b + (c - b) = c by omega]
            exact e5
          rw [r100_19]
          simp (config := {decide := true}) only [r100_20, r100_23, r100_24, r100_27, r100_30, r100_31, r100_34, r100_35, r100_38, r100_41, r100_44, r100_47, r100_50, r100_51, r100_53, r100_54, r100_55, r100_58, r100_59, r100_62, r100_65, r100_66, r100_68, r100_69, r100_72, r100_73, r100_74, r100_75, r100_78, r100_79, r100_80, r100_83, if_true, if_false, Nat.reduceAdd, Int32.reduceToNatClampNeg, lo_i, lo_r, lo_n, kont_v, kont_n, List.length_nil, List.length_cons, tS_3, t2, tS_11, e1, s11, c185, e2, c103, hdc, c317, e6, tS_w3, nt_succ]
          exact ih (by omega) (by omega) (fun i h3 h4 => by
            by_cases hi : i = c
            · rw [hi]; exact hdc
            · exact hin i h3 (by omega)) hw (by rw [← endF_go h1 hdc]; exact he)
      have hfin : wp (d + 2) 100 86 [.ref (10 : Nat), .int lo, .int hi, .int (nt (min 9999 (dgN (I 11) N b)))] [] (mk n (tS I (nt (endF isDg (I 11) N b)) (nt b) 0 q) L x) Φ := by
        have heN : endF isDg (I 11) N b ≤ N := endF_le hle
        generalize dgN (I 11) N b = V at hok hbad
        generalize endF isDg (I 11) N b = e at hok hbad heN
        by_cases hr : V < 1000 ∧ lo ≤ nt V ∧ nt V ≤ hi
        · rw [if_pos hr] at hok
          have e1 : min 9999 V = V := Nat.min_eq_right (by omega)
          have e2 : lo ≤ nt V ∧ nt V ≤ hi := hr.2
          rw [e1]
          simp (config := {decide := true}) only [r100_86, r100_87, r100_88, r100_89, r100_92, r100_95, r100_96, r100_97, r100_100, r100_101, if_true, if_false, Nat.reduceAdd, Int32.reduceToNatClampNeg, lo_i, lo_r, lo_n, kont_v, kont_n, List.length_nil, List.length_cons, and_self, and_true, true_and, and_false, false_and, not_true, not_false_eq_true, true_or, or_true, bi_eq0, c182, e2]
          exact hok V e rfl q hq heN
        · rw [if_neg hr] at hbad
          have e2 : ¬ (lo ≤ nt (min 9999 V) ∧ nt (min 9999 V) ≤ hi) := by
            intro z
            have z2 := Int32.le_trans z.2 hh
            rw [show (999 : Int32) = nt 999 from rfl, nt_le (by omega) (by decide)] at z2
            have e1 : min 9999 V = V := Nat.min_eq_right (by omega)
            rw [e1] at z z2
            exact hr ⟨by omega, z⟩
          simp (config := {decide := true}) only [r100_86, r100_87, r100_88, r100_89, r100_92, r100_95, r100_96, r100_97, r100_100, r100_101, if_true, if_false, Nat.reduceAdd, Int32.reduceToNatClampNeg, lo_i, lo_r, lo_n, kont_v, kont_n, List.length_nil, List.length_cons, and_self, and_true, true_and, and_false, false_and, not_true, not_false_eq_true, true_or, or_true, bi_eq0, c182, e2, c96]
          exact hbad _ rfl _ _ (ct_f (by decide) (by decide) heN)
      have := key b (Nat.le_refl b) hle (fun i h1 h2 => by omega) hfin rfl
      rw [Nat.sub_self] at this
      exact this
    · rw [if_neg hd] at hbad
      simp (config := {decide := true}) only [r100_7, r100_10, r100_11, r100_12, r100_15, r100_16, if_true, if_false, Nat.reduceAdd, Int32.reduceToNatClampNeg, lo_i, lo_r, lo_n, kont_v, kont_n, List.length_nil, List.length_cons, hd, c96]
      exact hbad _ rfl 0 _ (ct_f (by decide) (by decide) hle)
theorem c100a (hT : TX I N) {a : Nat} (hJ : CT I J N (.inl a)) (hh : hi ≤ 999) (hok : ∀ V b, rNum (I 11) N lo hi a = .inl (V, b) → ∀ q, q = -1 → b ≤ N → Φ (.inl (some (.int (nt V)))) (mk n (tS I (nt b) (nt (skp (I 11) N a)) 0 q) L x)) (hbad : ∀ e, rNum (I 11) N lo hi a = .inr e → ∀ v K, CT I K N (.inr e) → Φ (.inl (some (.int v))) (mk n K L x)) : wpc (d + 2) 100 [.ref (10 : Nat), .int lo, .int hi] (mk n J L x) Φ := c100 hT hJ hh (fun a' h => by cases h; exact hok) (fun a' h => by cases h; exact hbad) (fun e h => by cases h)
theorem c100f (hT : TX I N) {e : Nat × Nat} (hJ : CT I J N (.inr e)) (hh : hi ≤ 999) (h : ∀ K, CT I K N (.inr e) → Φ (.inl (some (.int 0))) (mk n K L x)) : wpc (d + 2) 100 [.ref (10 : Nat), .int lo, .int hi] (mk n J L x) Φ := c100 hT hJ hh (fun a' h => by cases h) (fun a' h => by cases h) (fun e' he => by cases he; exact h)
theorem c96f {e : Nat × Nat} (hJ : CT I J N (.inr e)) : wpc d 96 [.ref (10 : Nat), .int v] (mk n J L x) Φ ↔ Φ (.inl none) (mk n J L x) := by
  obtain ⟨h0, h1, a, s, ha, rfl⟩ := hJ
  rw [c96, if_neg (kf h0 h1)]
end Tp

