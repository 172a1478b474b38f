/-! THE REFERENCE: its small methods -/
section Mc1
variable {d n x : Nat} {μ : PM} {Φ : POut → PM → Prop} {I : Nat → Nat → Int32} {L : Nat → Nat → Int64} {k s h v a b c i u w : Int32}
theorem m194 : wpc d 194 [.int a, .int b, .int c] μ Φ ↔ Φ (.inl (some (.int (bi (b ≤ a ∧ a ≤ c))))) μ := by
  show wp d 194 0 [.int a, .int b, .int c] [] μ Φ ↔ _
  simp (config := {decide := true}) only [r194_0, r194_1, r194_2, r194_5, r194_6, r194_7, r194_10, r194_11, r194_14, r194_15, if_true, if_false, Nat.reduceAdd, Int32.reduceToNatClampNeg, lo_i, lo_r, lo_n, kont_v, kont_n, List.length_nil, List.length_cons, nb_0, nb_1]
  by_cases h1 : a < b
  · rw [if_pos h1, bi_f (fun h => Int32.not_lt.mpr h.1 h1)]
  · rw [if_neg h1]
    by_cases h2 : c < a
    · rw [if_pos h2, bi_f (fun h => Int32.not_lt.mpr h.2 h2)]
    · rw [if_neg h2, bi_t ⟨Int32.not_lt.mp h1, Int32.not_lt.mp h2⟩]
theorem m195 : wpc d 195 [.int a, .int b] μ Φ ↔ Φ (.inl (some (.int (mni a b)))) μ := by
  show wp d 195 0 [.int a, .int b] [] μ Φ ↔ _
  simp (config := {decide := true}) only [r195_0, r195_1, r195_2, r195_5, r195_6, r195_9, r195_10, if_true, if_false, Nat.reduceAdd, Int32.reduceToNatClampNeg, lo_i, lo_r, lo_n, kont_v, kont_n, List.length_nil, List.length_cons]
  unfold mni
  by_cases h1 : b < a
  · rw [if_pos (Int32.le_of_lt h1), if_pos h1]
  · rw [if_neg h1]
    by_cases h2 : b ≤ a
    · rw [if_pos h2, Int32.le_antisymm h2 (Int32.not_lt.mp h1)]
    · rw [if_neg h2]
theorem m196 : wpc d 196 [.int a, .int b] μ Φ ↔ Φ (.inl (some (.int (mxi a b)))) μ := by
  show wp d 196 0 [.int a, .int b] [] μ Φ ↔ _
  simp (config := {decide := true}) only [r196_0, r196_1, r196_2, r196_5, r196_6, r196_9, r196_10, if_true, if_false, Nat.reduceAdd, Int32.reduceToNatClampNeg, lo_i, lo_r, lo_n, kont_v, kont_n, List.length_nil, List.length_cons]
  unfold mxi
  by_cases h1 : a < b
  · rw [if_pos (Int32.le_of_lt h1), if_pos h1]
  · rw [if_neg h1]
    by_cases h2 : a ≤ b
    · rw [if_pos h2, Int32.le_antisymm h2 (Int32.not_lt.mp h1)]
    · rw [if_neg h2]
theorem m197 : wpc d 197 [.int a, .int b] μ Φ ↔ Φ (.inl (some (.int (bi (a >>> (b &&& 31) &&& 1 = 1))))) μ := by
  show wp d 197 0 [.int a, .int b] [] μ Φ ↔ _
  simp (config := {decide := true}) only [r197_0, r197_1, r197_2, r197_3, r197_4, r197_5, r197_6, r197_9, r197_10, r197_13, r197_14, if_true, if_false, Nat.reduceAdd, Int32.reduceToNatClampNeg, lo_i, lo_r, lo_n, kont_v, kont_n, List.length_nil, List.length_cons, nb_0, nb_1]
  by_cases h1 : a >>> (b &&& 31) &&& 1 = 1
  · rw [if_pos h1, bi_t h1]
  · rw [if_neg h1, bi_f h1]
/-- bits counted -/
def one7 (v : Int32) : Int32 := foldN (fun k t => t + (v >>> (nt k &&& 31) &&& 1)) 7 0
theorem m238 : wpc d 238 [.int v] μ Φ ↔ Φ (.inl (some (.int (one7 v)))) μ := by
  show wp d 238 0 [.int v, noV, noV] [] μ Φ ↔ _
  simp (config := {decide := true}) only [r238_0, r238_1, r238_2, r238_3, if_true, if_false, Nat.reduceAdd, Int32.reduceToNatClampNeg, lo_i, lo_r, lo_n, kont_v, kont_n, List.length_nil, List.length_cons]
  refine loopN (P := fun k t => wp d 238 4 [.int v, .int t, .int (nt k)] [] μ Φ) (Q := fun t => Φ (.inl (some (.int t))) μ) (n := 7) (f := fun k t => t + (v >>> (nt k &&& 31) &&& 1)) ?_ ?_ 0
  · intro k t hk
    have e1 : ¬ ((7 : Int32) ≤ nt k) := nt_nle (m := 7) (by omega) (by decide)
    rw [r238_4]
    simp (config := {decide := true}) only [r238_5, r238_7, r238_10, r238_11, r238_12, r238_13, r238_14, r238_15, r238_16, r238_17, r238_18, r238_21, r238_24, r238_25, if_true, if_false, Nat.reduceAdd, Int32.reduceToNatClampNeg, lo_i, lo_r, lo_n, kont_v, kont_n, List.length_nil, List.length_cons, nt_succ, e1]
  · intro t
    rw [r238_4]
    simp (config := {decide := true}) only [r238_5, r238_7, r238_10, r238_11, r238_12, r238_13, r238_14, r238_15, r238_16, r238_17, r238_18, r238_21, r238_24, r238_25, if_true, if_false, Nat.reduceAdd, Int32.reduceToNatClampNeg, lo_i, lo_r, lo_n, kont_v, kont_n, List.length_nil, List.length_cons]
/-- the joining of two numbers -/
theorem div_m1 (a : Int32) : a / -1 = -a := by
  refine Int32.toInt_inj.1 ?_
  rw [Int32.toInt_div]
  show (a.toInt.tdiv (-1)).bmod _ = _
  rw [Int.tdiv_neg, Int.tdiv_one, Int32.toInt_neg]
theorem irm_m1 (a : Int32) : irm a (-1) = 0 := by
  unfold irm
  rw [div_m1, Int32.mul_neg, Int32.mul_one, Int32.neg_neg, Int32.sub_self]
theorem m231 {j : Nat} (hj : j < 7) : wpc (d + 1) 231 [.int (nt (2 + j)), .int a, .int b] μ Φ ↔ Φ (.inl (some (.int (jn (nt (2000 + j)) a b)))) μ := by
  show wp (d + 1) 231 0 [.int (nt (2 + j)), .int a, .int b] [] μ Φ ↔ _
  rw [r231_0]
  match j, hj with
  | 0, _ =>
    rw [r231_1 40 rfl]
    simp (config := {decide := true}) only [r231_40, r231_41, r231_42, r231_43, r231_44, r231_45, r231_46, r231_47, r231_48, r231_49, r231_50, r231_51, r231_52, r231_53, r231_56, r231_57, r231_60, r231_61, r231_62, r231_65, r231_66, r231_67, r231_70, r231_71, r231_72, r231_73, r231_74, r231_75, r231_78, r231_79, r231_80, r231_83, r231_84, r231_87, r231_88, r231_89, r231_90, r231_91, r231_92, r231_93, r231_96, r231_97, r231_98, r231_99, r231_102, if_true, if_false, Nat.reduceAdd, Int32.reduceToNatClampNeg, lo_i, lo_r, lo_n, kont_v, kont_n, List.length_nil, List.length_cons]
    rfl
  | 1, _ =>
    rw [r231_1 44 rfl]
    simp (config := {decide := true}) only [r231_40, r231_41, r231_42, r231_43, r231_44, r231_45, r231_46, r231_47, r231_48, r231_49, r231_50, r231_51, r231_52, r231_53, r231_56, r231_57, r231_60, r231_61, r231_62, r231_65, r231_66, r231_67, r231_70, r231_71, r231_72, r231_73, r231_74, r231_75, r231_78, r231_79, r231_80, r231_83, r231_84, r231_87, r231_88, r231_89, r231_90, r231_91, r231_92, r231_93, r231_96, r231_97, r231_98, r231_99, r231_102, if_true, if_false, Nat.reduceAdd, Int32.reduceToNatClampNeg, lo_i, lo_r, lo_n, kont_v, kont_n, List.length_nil, List.length_cons]
    rfl
  | 2, _ =>
    rw [r231_1 48 rfl]
    simp (config := {decide := true}) only [r231_40, r231_41, r231_42, r231_43, r231_44, r231_45, r231_46, r231_47, r231_48, r231_49, r231_50, r231_51, r231_52, r231_53, r231_56, r231_57, r231_60, r231_61, r231_62, r231_65, r231_66, r231_67, r231_70, r231_71, r231_72, r231_73, r231_74, r231_75, r231_78, r231_79, r231_80, r231_83, r231_84, r231_87, r231_88, r231_89, r231_90, r231_91, r231_92, r231_93, r231_96, r231_97, r231_98, r231_99, r231_102, if_true, if_false, Nat.reduceAdd, Int32.reduceToNatClampNeg, lo_i, lo_r, lo_n, kont_v, kont_n, List.length_nil, List.length_cons]
    rfl
  | 3, _ =>
    rw [r231_1 52 rfl, show jn (nt (2000 + 3)) a b = if b = 0 then 0 else a / b from rfl]
    by_cases hb : b = 0
    · simp (config := {decide := true}) only [r231_40, r231_41, r231_42, r231_43, r231_44, r231_45, r231_46, r231_47, r231_48, r231_49, r231_50, r231_51, r231_52, r231_53, r231_56, r231_57, r231_60, r231_61, r231_62, r231_65, r231_66, r231_67, r231_70, r231_71, r231_72, r231_73, r231_74, r231_75, r231_78, r231_79, r231_80, r231_83, r231_84, r231_87, r231_88, r231_89, r231_90, r231_91, r231_92, r231_93, r231_96, r231_97, r231_98, r231_99, r231_102, if_true, if_false, Nat.reduceAdd, Int32.reduceToNatClampNeg, lo_i, lo_r, lo_n, kont_v, kont_n, List.length_nil, List.length_cons, hb]
    · by_cases h1 : b = -1
      · simp (config := {decide := true}) only [r231_40, r231_41, r231_42, r231_43, r231_44, r231_45, r231_46, r231_47, r231_48, r231_49, r231_50, r231_51, r231_52, r231_53, r231_56, r231_57, r231_60, r231_61, r231_62, r231_65, r231_66, r231_67, r231_70, r231_71, r231_72, r231_73, r231_74, r231_75, r231_78, r231_79, r231_80, r231_83, r231_84, r231_87, r231_88, r231_89, r231_90, r231_91, r231_92, r231_93, r231_96, r231_97, r231_98, r231_99, r231_102, if_true, if_false, Nat.reduceAdd, Int32.reduceToNatClampNeg, lo_i, lo_r, lo_n, kont_v, kont_n, List.length_nil, List.length_cons, h1, div_m1]
      · simp (config := {decide := true}) only [r231_40, r231_41, r231_42, r231_43, r231_44, r231_45, r231_46, r231_47, r231_48, r231_49, r231_50, r231_51, r231_52, r231_53, r231_56, r231_57, r231_60, r231_61, r231_62, r231_65, r231_66, r231_67, r231_70, r231_71, r231_72, r231_73, r231_74, r231_75, r231_78, r231_79, r231_80, r231_83, r231_84, r231_87, r231_88, r231_89, r231_90, r231_91, r231_92, r231_93, r231_96, r231_97, r231_98, r231_99, r231_102, if_true, if_false, Nat.reduceAdd, Int32.reduceToNatClampNeg, lo_i, lo_r, lo_n, kont_v, kont_n, List.length_nil, List.length_cons, hb, h1, ne_eq, not_false_eq_true]
  | 4, _ =>
    rw [r231_1 74 rfl, show jn (nt (2000 + 4)) a b = if b = 0 then 0 else irm a b from rfl]
    by_cases hb : b = 0
    · simp (config := {decide := true}) only [r231_40, r231_41, r231_42, r231_43, r231_44, r231_45, r231_46, r231_47, r231_48, r231_49, r231_50, r231_51, r231_52, r231_53, r231_56, r231_57, r231_60, r231_61, r231_62, r231_65, r231_66, r231_67, r231_70, r231_71, r231_72, r231_73, r231_74, r231_75, r231_78, r231_79, r231_80, r231_83, r231_84, r231_87, r231_88, r231_89, r231_90, r231_91, r231_92, r231_93, r231_96, r231_97, r231_98, r231_99, r231_102, if_true, if_false, Nat.reduceAdd, Int32.reduceToNatClampNeg, lo_i, lo_r, lo_n, kont_v, kont_n, List.length_nil, List.length_cons, hb]
    · by_cases h1 : b = -1
      · simp (config := {decide := true}) only [r231_40, r231_41, r231_42, r231_43, r231_44, r231_45, r231_46, r231_47, r231_48, r231_49, r231_50, r231_51, r231_52, r231_53, r231_56, r231_57, r231_60, r231_61, r231_62, r231_65, r231_66, r231_67, r231_70, r231_71, r231_72, r231_73, r231_74, r231_75, r231_78, r231_79, r231_80, r231_83, r231_84, r231_87, r231_88, r231_89, r231_90, r231_91, r231_92, r231_93, r231_96, r231_97, r231_98, r231_99, r231_102, if_true, if_false, Nat.reduceAdd, Int32.reduceToNatClampNeg, lo_i, lo_r, lo_n, kont_v, kont_n, List.length_nil, List.length_cons, h1, irm_m1]
      · simp (config := {decide := true}) only [r231_40, r231_41, r231_42, r231_43, r231_44, r231_45, r231_46, r231_47, r231_48, r231_49, r231_50, r231_51, r231_52, r231_53, r231_56, r231_57, r231_60, r231_61, r231_62, r231_65, r231_66, r231_67, r231_70, r231_71, r231_72, r231_73, r231_74, r231_75, r231_78, r231_79, r231_80, r231_83, r231_84, r231_87, r231_88, r231_89, r231_90, r231_91, r231_92, r231_93, r231_96, r231_97, r231_98, r231_99, r231_102, if_true, if_false, Nat.reduceAdd, Int32.reduceToNatClampNeg, lo_i, lo_r, lo_n, kont_v, kont_n, List.length_nil, List.length_cons, hb, h1, ne_eq, not_false_eq_true]
  | 5, _ =>
    rw [r231_1 91 rfl]
    simp (config := {decide := true}) only [r231_40, r231_41, r231_42, r231_43, r231_44, r231_45, r231_46, r231_47, r231_48, r231_49, r231_50, r231_51, r231_52, r231_53, r231_56, r231_57, r231_60, r231_61, r231_62, r231_65, r231_66, r231_67, r231_70, r231_71, r231_72, r231_73, r231_74, r231_75, r231_78, r231_79, r231_80, r231_83, r231_84, r231_87, r231_88, r231_89, r231_90, r231_91, r231_92, r231_93, r231_96, r231_97, r231_98, r231_99, r231_102, if_true, if_false, Nat.reduceAdd, Int32.reduceToNatClampNeg, lo_i, lo_r, lo_n, kont_v, kont_n, List.length_nil, List.length_cons, m195]
    rfl
  | 6, _ =>
    rw [r231_1 97 rfl]
    simp (config := {decide := true}) only [r231_40, r231_41, r231_42, r231_43, r231_44, r231_45, r231_46, r231_47, r231_48, r231_49, r231_50, r231_51, r231_52, r231_53, r231_56, r231_57, r231_60, r231_61, r231_62, r231_65, r231_66, r231_67, r231_70, r231_71, r231_72, r231_73, r231_74, r231_75, r231_78, r231_79, r231_80, r231_83, r231_84, r231_87, r231_88, r231_89, r231_90, r231_91, r231_92, r231_93, r231_96, r231_97, r231_98, r231_99, r231_102, if_true, if_false, Nat.reduceAdd, Int32.reduceToNatClampNeg, lo_i, lo_r, lo_n, kont_v, kont_n, List.length_nil, List.length_cons, m196]
    rfl
end Mc1
/-! ROWS OF THE REFERENCE, out of rows of the class -/
def vc (f : Nat → Int32) : Nat → Int32 := fun j => if j < 21 then f (60 + j) else if j < 81 then f (j - 21) else if j = 81 then f 83 else if j = 82 then f 81 else if j = 83 then f 82 else 0
theorem vc_lo {f : Nat → Int32} {j : Nat} (h : j < 21) : vc f j = f (60 + j) := if_pos h
theorem vc_hi {f : Nat → Int32} {j : Nat} (h : j < 60) : vc f (21 + j) = f j := by
  unfold vc
  rw [if_neg (by omega), if_pos (by omega)]
  congr 1
  omega
theorem vc_lo' {f : Nat → Int32} {b j : Nat} (h : b + j < 21) : vc f (b + j) = f (60 + b + j) := by rw [vc_lo h, Nat.add_assoc]
theorem vc_hi' {f : Nat → Int32} {b j : Nat} (h : b + j < 60) : vc f (21 + b + j) = f (b + j) := by rw [Nat.add_assoc, vc_hi h]
theorem vc_81 {f : Nat → Int32} : vc f 81 = f 83 := rfl
theorem vc_82 {f : Nat → Int32} : vc f 82 = f 81 := rfl
theorem vc_83 {f : Nat → Int32} : vc f 83 = f 82 := rfl
theorem vc_ext {f g : Nat → Int32} (h : ∀ j, j < 84 → f j = g j) : vc f = vc g := by
  funext j
  unfold vc
  split
  · exact h _ (by omega)
  · split
    · exact h _ (by omega)
    · rw [h 83 (by omega), h 81 (by omega), h 82 (by omega)]
theorem vup_lo {f : Nat → Int32} {j : Nat} {v : Int32} (h : j < 21) : upd (vc f) j v = vc (upd f (60 + j) v) := by
  funext i
  by_cases hi : i = j
  · subst hi
    rw [up_same, vc_lo h, up_same]
  · rw [up_ne hi]
    unfold vc
    split
    · rw [up_ne (by omega)]
    · split
      · rw [up_ne (by omega)]
      · rw [up_ne (by omega), up_ne (by omega), up_ne (by omega)]
theorem vup_hi {f : Nat → Int32} {j : Nat} {v : Int32} (h : j < 60) : upd (vc f) (21 + j) v = vc (upd f j v) := by
  funext i
  by_cases hi : i = 21 + j
  · subst hi
    rw [up_same, vc_hi h, up_same]
  · rw [up_ne hi]
    unfold vc
    split
    · rw [up_ne (by omega)]
    · split
      · rw [up_ne (by omega)]
      · rw [up_ne (by omega), up_ne (by omega), up_ne (by omega)]
theorem vup_81 {f : Nat → Int32} {v : Int32} : upd (vc f) 81 v = vc (upd f 83 v) := by
  funext i
  by_cases hi : i = 81
  · subst hi; rfl
  · rw [up_ne hi]
    unfold vc
    split
    · rw [up_ne (by omega)]
    · split
      · rw [up_ne (by omega)]
      · rw [up_ne (show 81 ≠ 83 by decide), up_ne (show 82 ≠ 83 by decide)]
theorem vup_82 {f : Nat → Int32} {v : Int32} : upd (vc f) 82 v = vc (upd f 81 v) := by
  funext i
  by_cases hi : i = 82
  · subst hi; rfl
  · rw [up_ne hi]
    unfold vc
    split
    · rw [up_ne (by omega)]
    · split
      · rw [up_ne (by omega)]
      · rw [up_ne (show 83 ≠ 81 by decide), up_ne (show 82 ≠ 81 by decide)]
theorem vup_83 {f : Nat → Int32} {v : Int32} : upd (vc f) 83 v = vc (upd f 82 v) := by
  funext i
  by_cases hi : i = 83
  · subst hi; rfl
  · rw [up_ne hi]
    unfold vc
    split
    · rw [up_ne (by omega)]
    · split
      · rw [up_ne (by omega)]
      · rw [up_ne (show 83 ≠ 82 by decide), up_ne (show 81 ≠ 82 by decide)]
theorem foldN_cut {α : Type} {f : Nat → α → α} {a : α} {m : Nat} : ∀ n, m ≤ n → (∀ k, m ≤ k → k < n → ∀ b, f k b = b) → foldN f n a = foldN f m a := by
  intro n
  induction n with
  | zero => intro h _; rw [Nat.le_zero.mp h]
  | succ n ih =>
    intro h hf
    by_cases hm : m = n + 1
    · rw [hm]
    · show f n (foldN f n a) = _
      rw [hf n (by omega) (Nat.lt_succ_self n)]
      exact ih (by omega) (fun k h1 h2 => hf k h1 (Nat.lt_succ_of_lt h2))
theorem foldN_cong {α : Type} {f g : Nat → α → α} {a : α} : ∀ n, (∀ k b, k < n → f k b = g k b) → foldN f n a = foldN g n a
  | 0, _ => rfl
  | n + 1, h => by
    show f n (foldN f n a) = g n (foldN g n a)
    rw [foldN_cong n (fun k b hk => h k b (Nat.lt_succ_of_lt hk))]
    exact h n _ (Nat.lt_succ_self n)
/-- a loop, in one direction -/
theorem loopD {α : Type} {P : Nat → α → Prop} {Q : α → Prop} {f : Nat → α → α} {n : Nat} (hs : ∀ k a, k < n → P (k + 1) (f k a) → P k a) (he : ∀ a, Q a → P n a) (a : α) (h : Q (foldN f n a)) : P 0 a := by
  have key : ∀ k, k ≤ n → P k (foldN f k a) → P 0 a := by
    intro k
    induction k with
    | zero => intro _ h; exact h
    | succ k ih => intro hk h; exact ih (by omega) (hs k _ (by omega) h)
  exact key n (Nat.le_refl n) (he _ h)
theorem ixc (b k : Nat) (h : b + k < 2147483648) : (nt b + nt k).toNatClampNeg = b + k := by rw [nt_add]; exact nt_clamp h
theorem ixg (b k : Nat) (h : b + k < 2147483648) : (0 : Int32) ≤ nt b + nt k := by rw [nt_add]; exact nt_ge h
theorem ix0 (k : Nat) : (0 : Int32) + nt k = nt k := Int32.zero_add _
/-- the two rows of the reference -/
def KR (r : Nat) : Prop := r = 534 ∨ r = 535
theorem shR {n r : Nat} (h : KR r) : sh0 n r = (20, 84, []) := by rcases h with rfl | rfl <;> (rw [sh0_not7 (by decide)]; decide +kernel)
theorem ltR {r : Nat} (h : KR r) : r < 560 := by rcases h with rfl | rfl <;> decide
theorem geR {r : Nat} (h : KR r) : 9 ≤ r := by rcases h with rfl | rfl <;> decide
theorem s74 {n : Nat} : sh0 n 74 = (20, 3, []) := eq_of_heq HEq.rfl
/-- what holds of a row: nothing is told of those that are not there -/
def RO (I : Nat → Nat → Int32) (f : Nat → Int32) : Prop := (∀ c, cI I ≤ c → c < 6 → f c = 0 ∧ f (6 + c) = -1 ∧ f (12 + c) = 0) ∧ (∀ s, sI I ≤ s → s < 7 → f (60 + s) = -1 ∧ f (74 + s) = 0) ∧ (∀ s, s < 7 → f (60 + s) = -1 ∨ (0 ≤ f (60 + s) ∧ f (60 + s) < 24)) ∧ (0 ≤ f 81 ∧ f 81 < 24) ∧ (∀ c, c < 6 → f (12 + c) = 0 ∨ f (12 + c) = 1) ∧ (∀ c, c < 6 → 0 ≤ f c ∧ f c ≤ 20) ∧ (∀ c, c < 6 → f (6 + c) = -1 ∨ (0 ≤ f (6 + c) ∧ f (6 + c) < 24))
section Mc2
variable {d n x r : Nat} {Φ : POut → PM → Prop} {I : Nat → Nat → Int32} {L : Nat → Nat → Int64} {f : Nat → Int32} {k s h v a b c : Int32}
theorem awk_cut (ho : RO I f) (hs : sI I ≤ 7) : awk f = foldN (fun s b => b ||| (if f (60 + s) = -1 then 0 else bt s)) (sI I) 0 := by
  unfold awk
  exact foldN_cut 7 hs (fun k h1 h2 b => by rw [if_pos (ho.2.1 k h1 h2).1, Int32.or_zero])
theorem wnd_cut (ho : RO I f) (hs : cI I ≤ 6) : wnd f = foldN (fun k b => b ||| (if f k ≤ 0 then 0 else bt k)) (cI I) 0 := by
  unfold wnd
  exact foldN_cut 6 hs (fun k h1 h2 b => by rw [(ho.1 k h1 h2).1, if_pos (by decide), Int32.or_zero])
theorem stf_cut (ho : RO I f) (hs : cI I ≤ 6) : stf f = foldN (fun k b => b ||| (f (12 + k) <<< (nt k &&& 31))) (cI I) 0 := by
  unfold stf
  exact foldN_cut 6 hs (fun k h1 h2 b => by rw [(ho.1 k h1 h2).2.2, Int32.zero_shiftLeft, Int32.or_zero])
theorem spt_cut (ho : RO I f) (hs : cI I ≤ 6) : spt f = foldN (fun k b => b + f k) (cI I) 0 := by
  unfold spt
  exact foldN_cut 6 hs (fun k h1 h2 b => by rw [(ho.1 k h1 h2).1, Int32.add_zero])
theorem w6 : ∀ p0 p1 p2 p3 p4 p5 q0 q1 q2 q3 q4 q5 : Bool, (((((((0 : Int32) ||| (if p0 then bt 0 else 0)) ||| (if p1 then bt 1 else 0)) ||| (if p2 then bt 2 else 0)) ||| (if p3 then bt 3 else 0)) ||| (if p4 then bt 4 else 0)) ||| (if p5 then bt 5 else 0)) &&& (((((((0 : Int32) ||| (if q0 then 0 else bt 0)) ||| (if q1 then 0 else bt 1)) ||| (if q2 then 0 else bt 2)) ||| (if q3 then 0 else bt 3)) ||| (if q4 then 0 else bt 4)) ||| (if q5 then 0 else bt 5)) = (((((((0 : Int32) ||| (if p0 && !q0 then bt 0 else 0)) ||| (if p1 && !q1 then bt 1 else 0)) ||| (if p2 && !q2 then bt 2 else 0)) ||| (if p3 && !q3 then bt 3 else 0)) ||| (if p4 && !q4 then bt 4 else 0)) ||| (if p5 && !q5 then bt 5 else 0)) := by decide +kernel
theorem ib {α : Type} {p : Prop} [Decidable p] {a b : α} : (if p then a else b) = (if decide p then a else b) := by
  by_cases h : p <;> simp [h]
theorem rng_eq (f : Nat → Int32) (h : Int32) : rng f h = foldN (fun k b => b ||| (if f (6 + k) = h ∧ ¬ f k ≤ 0 then bt k else 0)) 6 0 := by
  have e1 : rng f h = clf f h &&& wnd f := by
    unfold rng
    split
    · rename_i e; rw [e, Int32.zero_and]
    · rfl
  rw [e1]
  have e2 := w6 (decide (f (6 + 0) = h)) (decide (f (6 + 1) = h)) (decide (f (6 + 2) = h)) (decide (f (6 + 3) = h)) (decide (f (6 + 4) = h)) (decide (f (6 + 5) = h)) (decide (f 0 ≤ 0)) (decide (f 1 ≤ 0)) (decide (f 2 ≤ 0)) (decide (f 3 ≤ 0)) (decide (f 4 ≤ 0)) (decide (f 5 ≤ 0))
  simp only [← ib, Bool.and_eq_true, Bool.not_eq_true', decide_eq_true_eq, decide_eq_false_iff_not] at e2
  exact e2
theorem rng_cut (ho : RO I f) (hs : cI I ≤ 6) (hh : h ≠ -1) : rng f h = foldN (fun k b => b ||| (if f (6 + k) = h ∧ ¬ f k ≤ 0 then bt k else 0)) (cI I) 0 := by
  rw [rng_eq]
  exact foldN_cut 6 hs (fun k h1 h2 b => by rw [if_neg (fun e => hh (e.1.symm.trans (ho.1 k h1 h2).2.1)), Int32.or_zero])

theorem m239 (hr : KR r) (h7 : I 74 0 = nt (sI I)) (hs : sI I ≤ 7) (ho : RO I f) (hf : I r = vc f) : wpc d 239 [.ref (70 : Nat), .ref r] (mk n I L x) Φ ↔ Φ (.inl (some (.int (awk f)))) (mk n I L x) := by
  rw [awk_cut ho hs]
  show wp d 239 0 [.ref (70 : Nat), .ref r, noV, noV] [] (mk n I L x) Φ ↔ _
  simp (config := {decide := true}) only [r239_0, r239_1, r239_2, r239_3, if_true, if_false, Nat.reduceAdd, Int32.reduceToNatClampNeg, lo_i, lo_r, lo_n, kont_v, kont_n, List.length_nil, List.length_cons]
  refine loopN (P := fun k t => wp d 239 4 [.ref (70 : Nat), .ref r, .int t, .int (nt k)] [] (mk n I L x) Φ) (Q := fun t => Φ (.inl (some (.int t))) (mk n I L x)) (n := sI I) ?_ ?_ 0
  · intro k t hk
    have e1 : ¬ (nt (sI I) ≤ nt k) := nt_nle hk (by omega)
    have e2 : (nt k).toNatClampNeg = k := nt_clamp (by omega)
    have e3 : (0 : Int32) ≤ nt k := nt_ge (by omega)
    have e4 : k < 84 := by omega
    have e5 : vc f k = f (60 + k) := vc_lo (by omega)
    rw [r239_4]
    simp (config := {decide := true}) only [r239_5, r239_6, r239_9, r239_10, r239_11, r239_14, r239_15, r239_16, r239_17, r239_18, r239_19, r239_20, r239_21, r239_24, r239_25, r239_28, r239_29, r239_30, r239_31, r239_32, r239_33, r239_36, r239_39, r239_40, if_true, if_false, Nat.reduceAdd, Int32.reduceToNatClampNeg, lo_i, lo_r, lo_n, kont_v, kont_n, List.length_nil, List.length_cons, nt_succ, s74, h7, e1, ix0, e2, e3, e4, e5, shR hr, ltR hr, hf]
    by_cases h1 : f (60 + k) = -1 <;> simp only [h1, if_true, if_false] <;> rfl
  · intro t
    have e6 : nt (sI I) ≤ nt (sI I) := Int32.le_refl _
    rw [r239_4]
    simp (config := {decide := true}) only [r239_5, r239_6, r239_9, r239_10, r239_11, r239_14, r239_15, r239_16, r239_17, r239_18, r239_19, r239_20, r239_21, r239_24, r239_25, r239_28, r239_29, r239_30, r239_31, r239_32, r239_33, r239_36, r239_39, r239_40, if_true, if_false, Nat.reduceAdd, Int32.reduceToNatClampNeg, lo_i, lo_r, lo_n, kont_v, kont_n, List.length_nil, List.length_cons, s74, h7, e6]
theorem m243 (hr : KR r) (h7 : I 74 1 = nt (cI I)) (hs : cI I ≤ 6) (ho : RO I f) (hf : I r = vc f) : wpc d 243 [.ref (70 : Nat), .ref r] (mk n I L x) Φ ↔ Φ (.inl (some (.int (wnd f)))) (mk n I L x) := by
  rw [wnd_cut ho hs]
  show wp d 243 0 [.ref (70 : Nat), .ref r, noV, noV] [] (mk n I L x) Φ ↔ _
  simp (config := {decide := true}) only [r243_0, r243_1, r243_2, r243_3, if_true, if_false, Nat.reduceAdd, Int32.reduceToNatClampNeg, lo_i, lo_r, lo_n, kont_v, kont_n, List.length_nil, List.length_cons]
  refine loopN (P := fun k t => wp d 243 4 [.ref (70 : Nat), .ref r, .int t, .int (nt k)] [] (mk n I L x) Φ) (Q := fun t => Φ (.inl (some (.int t))) (mk n I L x)) (n := cI I) ?_ ?_ 0
  · intro k t hk
    have e1 : ¬ (nt (cI I) ≤ nt k) := nt_nle hk (by omega)
    have e2 : ((21 : Int32) + nt k).toNatClampNeg = 21 + k := ixc 21 k (by omega)
    have e3 : (0 : Int32) ≤ 21 + nt k := ixg 21 k (by omega)
    have e4 : 21 + k < 84 := by omega
    have e5 : vc f (21 + k) = f k := vc_hi (by omega)
    rw [r243_4]
    simp (config := {decide := true}) only [r243_5, r243_6, r243_9, r243_10, r243_11, r243_14, r243_15, r243_16, r243_18, r243_19, r243_20, r243_21, r243_24, r243_25, r243_26, r243_27, r243_30, r243_31, r243_32, r243_33, r243_36, r243_39, r243_40, if_true, if_false, Nat.reduceAdd, Int32.reduceToNatClampNeg, lo_i, lo_r, lo_n, kont_v, kont_n, List.length_nil, List.length_cons, nt_succ, s74, h7, e1, e2, e3, e4, e5, shR hr, ltR hr, hf]
    by_cases h1 : f k ≤ 0 <;> simp only [h1, if_true, if_false] <;> rfl
  · intro t
    have e6 : nt (cI I) ≤ nt (cI I) := Int32.le_refl _
    rw [r243_4]
    simp (config := {decide := true}) only [r243_5, r243_6, r243_9, r243_10, r243_11, r243_14, r243_15, r243_16, r243_18, r243_19, r243_20, r243_21, r243_24, r243_25, r243_26, r243_27, r243_30, r243_31, r243_32, r243_33, r243_36, r243_39, r243_40, if_true, if_false, Nat.reduceAdd, Int32.reduceToNatClampNeg, lo_i, lo_r, lo_n, kont_v, kont_n, List.length_nil, List.length_cons, s74, h7, e6]
theorem m244 (hr : KR r) (h7 : I 74 1 = nt (cI I)) (hs : cI I ≤ 6) (ho : RO I f) (hf : I r = vc f) (hh : h ≠ -1) : wpc d 244 [.ref (70 : Nat), .ref r, .int h] (mk n I L x) Φ ↔ Φ (.inl (some (.int (rng f h)))) (mk n I L x) := by
  rw [rng_cut ho hs hh]
  show wp d 244 0 [.ref (70 : Nat), .ref r, .int h, noV, noV] [] (mk n I L x) Φ ↔ _
  simp (config := {decide := true}) only [r244_0, r244_1, r244_2, r244_3, if_true, if_false, Nat.reduceAdd, Int32.reduceToNatClampNeg, lo_i, lo_r, lo_n, kont_v, kont_n, List.length_nil, List.length_cons]
  refine loopN (P := fun k t => wp d 244 5 [.ref (70 : Nat), .ref r, .int h, .int t, .int (nt k)] [] (mk n I L x) Φ) (Q := fun t => Φ (.inl (some (.int t))) (mk n I L x)) (n := cI I) ?_ ?_ 0
  · intro k t hk
    have e1 : ¬ (nt (cI I) ≤ nt k) := nt_nle hk (by omega)
    have e2 : ((21 : Int32) + nt k).toNatClampNeg = 21 + k := ixc 21 k (by omega)
    have e3 : (0 : Int32) ≤ 21 + nt k := ixg 21 k (by omega)
    have e4 : 21 + k < 84 := by omega
    have e5 : vc f (21 + k) = f k := vc_hi (by omega)
    have g2 : ((27 : Int32) + nt k).toNatClampNeg = 27 + k := ixc 27 k (by omega)
    have g3 : (0 : Int32) ≤ 27 + nt k := ixg 27 k (by omega)
    have g4 : 27 + k < 84 := by omega
    have g5 : vc f (27 + k) = f (6 + k) := vc_hi' (b := 6) (by omega)
    rw [r244_5]
    simp (config := {decide := true}) only [r244_7, r244_8, r244_11, r244_12, r244_13, r244_16, r244_17, r244_18, r244_20, r244_22, r244_23, r244_24, r244_25, r244_28, r244_29, r244_31, r244_33, r244_34, r244_35, r244_38, r244_39, r244_41, r244_42, r244_45, r244_46, r244_47, r244_48, r244_51, r244_54, r244_55, if_true, if_false, Nat.reduceAdd, Int32.reduceToNatClampNeg, lo_i, lo_r, lo_n, kont_v, kont_n, List.length_nil, List.length_cons, nt_succ, s74, h7, e1, e2, e3, e4, e5, g2, g3, g4, g5, shR hr, ltR hr, hf]
    by_cases h1 : f (6 + k) = h <;> by_cases h2 : f k ≤ 0 <;> simp only [h1, h2, if_true, if_false, true_and, false_and, not_true, not_false_eq_true] <;> rfl
  · intro t
    have e6 : nt (cI I) ≤ nt (cI I) := Int32.le_refl _
    rw [r244_5]
    simp (config := {decide := true}) only [r244_7, r244_8, r244_11, r244_12, r244_13, r244_16, r244_17, r244_18, r244_20, r244_22, r244_23, r244_24, r244_25, r244_28, r244_29, r244_31, r244_33, r244_34, r244_35, r244_38, r244_39, r244_41, r244_42, r244_45, r244_46, r244_47, r244_48, r244_51, r244_54, r244_55, if_true, if_false, Nat.reduceAdd, Int32.reduceToNatClampNeg, lo_i, lo_r, lo_n, kont_v, kont_n, List.length_nil, List.length_cons, s74, h7, e6]
theorem m254 (hr : KR r) (h7 : I 74 1 = nt (cI I)) (hs : cI I ≤ 6) (ho : RO I f) (hf : I r = vc f) : wpc d 254 [.ref (70 : Nat), .ref r] (mk n I L x) Φ ↔ Φ (.inl (some (.int (spt f)))) (mk n I L x) := by
  rw [spt_cut ho hs]
  show wp d 254 0 [.ref (70 : Nat), .ref r, noV, noV] [] (mk n I L x) Φ ↔ _
  simp (config := {decide := true}) only [r254_0, r254_1, r254_2, r254_3, if_true, if_false, Nat.reduceAdd, Int32.reduceToNatClampNeg, lo_i, lo_r, lo_n, kont_v, kont_n, List.length_nil, List.length_cons]
  refine loopN (P := fun k t => wp d 254 4 [.ref (70 : Nat), .ref r, .int t, .int (nt k)] [] (mk n I L x) Φ) (Q := fun t => Φ (.inl (some (.int t))) (mk n I L x)) (n := cI I) ?_ ?_ 0
  · intro k t hk
    have e1 : ¬ (nt (cI I) ≤ nt k) := nt_nle hk (by omega)
    have e2 : ((21 : Int32) + nt k).toNatClampNeg = 21 + k := ixc 21 k (by omega)
    have e3 : (0 : Int32) ≤ 21 + nt k := ixg 21 k (by omega)
    have e4 : 21 + k < 84 := by omega
    have e5 : vc f (21 + k) = f k := vc_hi (by omega)
    rw [r254_4]
    simp (config := {decide := true}) only [r254_5, r254_6, r254_9, r254_10, r254_11, r254_14, r254_15, r254_16, r254_18, r254_19, r254_20, r254_21, r254_22, r254_23, r254_26, r254_29, r254_30, if_true, if_false, Nat.reduceAdd, Int32.reduceToNatClampNeg, lo_i, lo_r, lo_n, kont_v, kont_n, List.length_nil, List.length_cons, nt_succ, s74, h7, e1, e2, e3, e4, e5, shR hr, ltR hr, hf]
  · intro t
    have e6 : nt (cI I) ≤ nt (cI I) := Int32.le_refl _
    rw [r254_4]
    simp (config := {decide := true}) only [r254_5, r254_6, r254_9, r254_10, r254_11, r254_14, r254_15, r254_16, r254_18, r254_19, r254_20, r254_21, r254_22, r254_23, r254_26, r254_29, r254_30, if_true, if_false, Nat.reduceAdd, Int32.reduceToNatClampNeg, lo_i, lo_r, lo_n, kont_v, kont_n, List.length_nil, List.length_cons, s74, h7, e6]
theorem m255 (hr : KR r) (h7 : I 74 1 = nt (cI I)) (hs : cI I ≤ 6) (ho : RO I f) (hf : I r = vc f) : wpc d 255 [.ref (70 : Nat), .ref r] (mk n I L x) Φ ↔ Φ (.inl (some (.int (stf f)))) (mk n I L x) := by
  rw [stf_cut ho hs]
  show wp d 255 0 [.ref (70 : Nat), .ref r, noV, noV] [] (mk n I L x) Φ ↔ _
  simp (config := {decide := true}) only [r255_0, r255_1, r255_2, r255_3, if_true, if_false, Nat.reduceAdd, Int32.reduceToNatClampNeg, lo_i, lo_r, lo_n, kont_v, kont_n, List.length_nil, List.length_cons]
  refine loopN (P := fun k t => wp d 255 4 [.ref (70 : Nat), .ref r, .int t, .int (nt k)] [] (mk n I L x) Φ) (Q := fun t => Φ (.inl (some (.int t))) (mk n I L x)) (n := cI I) ?_ ?_ 0
  · intro k t hk
    have e1 : ¬ (nt (cI I) ≤ nt k) := nt_nle hk (by omega)
    have e2 : ((33 : Int32) + nt k).toNatClampNeg = 33 + k := ixc 33 k (by omega)
    have e3 : (0 : Int32) ≤ 33 + nt k := ixg 33 k (by omega)
    have e4 : 33 + k < 84 := by omega
    have e5 : vc f (33 + k) = f (12 + k) := vc_hi' (b := 12) (by omega)
    rw [r255_4]
    simp (config := {decide := true}) only [r255_5, r255_6, r255_9, r255_10, r255_11, r255_14, r255_15, r255_16, r255_18, r255_19, r255_20, r255_21, r255_22, r255_23, r255_24, r255_25, r255_28, r255_31, r255_32, if_true, if_false, Nat.reduceAdd, Int32.reduceToNatClampNeg, lo_i, lo_r, lo_n, kont_v, kont_n, List.length_nil, List.length_cons, nt_succ, s74, h7, e1, e2, e3, e4, e5, shR hr, ltR hr, hf]
  · intro t
    have e6 : nt (cI I) ≤ nt (cI I) := Int32.le_refl _
    rw [r255_4]
    simp (config := {decide := true}) only [r255_5, r255_6, r255_9, r255_10, r255_11, r255_14, r255_15, r255_16, r255_18, r255_19, r255_20, r255_21, r255_22, r255_23, r255_24, r255_25, r255_28, r255_31, r255_32, if_true, if_false, Nat.reduceAdd, Int32.reduceToNatClampNeg, lo_i, lo_r, lo_n, kont_v, kont_n, List.length_nil, List.length_cons, s74, h7, e6]
/-- bits of those who are awake, counted -/
theorem o7 : ∀ p0 p1 p2 p3 p4 p5 p6 : Bool, one7 ((((((((0 : Int32) ||| (if p0 then 0 else bt 0)) ||| (if p1 then 0 else bt 1)) ||| (if p2 then 0 else bt 2)) ||| (if p3 then 0 else bt 3)) ||| (if p4 then 0 else bt 4)) ||| (if p5 then 0 else bt 5)) ||| (if p6 then 0 else bt 6)) = (((((((0 : Int32) + (if p0 then 0 else 1)) + (if p1 then 0 else 1)) + (if p2 then 0 else 1)) + (if p3 then 0 else 1)) + (if p4 then 0 else 1)) + (if p5 then 0 else 1)) + (if p6 then 0 else 1) := by decide +kernel
theorem one_awk (f : Nat → Int32) : one7 (awk f) = awm f := by
  have e2 := o7 (decide (f (60 + 0) = -1)) (decide (f (60 + 1) = -1)) (decide (f (60 + 2) = -1)) (decide (f (60 + 3) = -1)) (decide (f (60 + 4) = -1)) (decide (f (60 + 5) = -1)) (decide (f (60 + 6) = -1))
  simp only [← ib] at e2
  exact e2
end Mc2

