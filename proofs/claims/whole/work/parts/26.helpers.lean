/-! SMALL HELPERS OF THE CLASS -/
section Hlp
variable {d n x : Nat} {μ : PM} {Φ : POut → PM → Prop} {I : Nat → Nat → Int32} {L : Nat → Nat → Int64} {a b c i v : Int32} {q : Nat}
def bi (p : Prop) [Decidable p] : Int32 := if p then 1 else 0
theorem bi_t {p : Prop} [Decidable p] (h : p) : bi p = 1 := if_pos h
theorem bi_f {p : Prop} [Decidable p] (h : ¬ p) : bi p = 0 := if_neg h
theorem bi_eq0 {p : Prop} [Decidable p] : (bi p = 0) = ¬ p := by unfold bi; split <;> simp_all
theorem bi_eq1 {p : Prop} [Decidable p] : (bi p = 1) = p := by unfold bi; split <;> simp_all
theorem c182 : wpc d 182 [.int a, .int b, .int c] μ Φ ↔ Φ (.inl (some (.int (bi (b ≤ a ∧ a ≤ c))))) μ := by
  show wp d 182 0 [.int a, .int b, .int c] [] μ Φ ↔ _
  simp only [r182_0, r182_1, r182_2, r182_5, r182_6, r182_7, r182_10, r182_11, r182_14, r182_15, nb_0, nb_1]
  by_cases h1 : a < b
  · rw [if_pos h1, bi_f (fun h => Int32.not_lt.mpr h.1 h1)]
  · rw [if_neg h1]
    by_cases h2 : c < a
    · rw [if_pos h2, bi_f (fun h => Int32.not_lt.mpr h.2 h2)]
    · rw [if_neg h2, bi_t ⟨Int32.not_lt.mp h1, Int32.not_lt.mp h2⟩]
theorem c183 : wpc d 183 [.int a, .int b] μ Φ ↔ Φ (.inl (some (.int (bi (0 ≤ a ∧ a < 1 <<< (b &&& 31)))))) μ := by
  show wp d 183 0 [.int a, .int b] [] μ Φ ↔ _
  simp only [r183_0, r183_1, r183_4, r183_5, r183_6, r183_7, r183_8, r183_11, r183_12, r183_15, r183_16, nb_0, nb_1]
  by_cases h1 : a < 0
  · rw [if_pos h1, bi_f (fun h => Int32.not_lt.mpr h.1 h1)]
  · rw [if_neg h1]
    by_cases h2 : 1 <<< (b &&& 31) ≤ a
    · rw [if_pos h2, bi_f (fun h => Int32.not_lt.mpr h2 h.2)]
    · rw [if_neg h2, bi_t ⟨Int32.not_lt.mp h1, Int32.not_le.mp h2⟩]
theorem c184 : wpc d 184 [.int a, .int b] μ Φ ↔ Φ (.inl (some (.int (bi (a >>> (b &&& 31) &&& 1 = 1))))) μ := by
  show wp d 184 0 [.int a, .int b] [] μ Φ ↔ _
  simp only [r184_0, r184_1, r184_2, r184_3, r184_4, r184_5, r184_6, r184_9, r184_10, r184_13, r184_14, nb_0, nb_1]
  by_cases h1 : a >>> (b &&& 31) &&& 1 = 1
  · rw [if_pos h1, bi_t h1]
  · rw [if_neg h1, bi_f h1]
/-- a row read at any place -/
def atv (m : Nat) (f : Nat → Int32) (i : Int32) : Int32 := if 0 ≤ i ∧ i < nt m then f i.toNatClampNeg else 0
def putv (m : Nat) (I : Nat → Nat → Int32) (q : Nat) (i v : Int32) : Nat → Nat → Int32 := if 0 ≤ i ∧ i < nt m then wrI I q i.toNatClampNeg v else I
theorem in_lt {m : Nat} (hm : m < 2147483648) (h1 : 0 ≤ i) (h2 : i < nt m) : i.toNatClampNeg < m := by
  have h3 := Int32.lt_iff_toInt_lt.mp h2
  rw [nt_toInt hm] at h3
  have h4 := Int32.le_iff_toInt_le.mp h1
  have h5 : (0 : Int32).toInt = 0 := rfl
  show i.toInt.toNat < m
  omega
theorem c185 (h1 : (sh0 n q).1 = 20) (h2 : q < 560) (h3 : (sh0 n q).2.1 < 2147483648) : wpc d 185 [.ref q, .int i] (mk n I L x) Φ ↔ Φ (.inl (some (.int (atv (sh0 n q).2.1 (I q) i)))) (mk n I L x) := by
  show wp d 185 0 [.ref q, .int i] [] (mk n I L x) Φ ↔ _
  rw [r185_0, r185_1]
  unfold atv
  by_cases g1 : i < 0
  · rw [if_pos g1, if_neg (fun h => Int32.not_lt.mpr h.1 g1), r185_16, r185_17]
  · rw [if_neg g1, r185_4, r185_5, r185_6 (Or.inl h1) h2, r185_7]
    by_cases g2 : nt (sh0 n q).2.1 ≤ i
    · rw [if_pos g2, if_neg (fun h => Int32.not_lt.mpr g2 h.2), r185_16, r185_17]
    · have g3 := Int32.not_lt.mp g1
      have g4 := Int32.not_le.mp g2
      rw [if_neg g2, if_pos ⟨g3, g4⟩, r185_10, r185_11, r185_12 h1 h2 g3 (in_lt h3 g3 g4), r185_13, r185_17]
theorem c186 (h1 : (sh0 n q).1 = 20) (h9 : 9 ≤ q) (h2 : q < 560) (h3 : (sh0 n q).2.1 < 2147483648) : wpc d 186 [.ref q, .int i, .int v] (mk n I L x) Φ ↔ Φ (.inl none) (mk n (putv (sh0 n q).2.1 I q i v) L x) := by
  show wp d 186 0 [.ref q, .int i, .int v] [] (mk n I L x) Φ ↔ _
  rw [r186_0, r186_1]
  unfold putv
  by_cases g1 : i < 0
  · rw [if_pos g1, if_neg (fun h => Int32.not_lt.mpr h.1 g1), r186_14]
  · rw [if_neg g1, r186_4, r186_5, r186_6 (Or.inl h1) h2, r186_7]
    by_cases g2 : nt (sh0 n q).2.1 ≤ i
    · rw [if_pos g2, if_neg (fun h => Int32.not_lt.mpr g2 h.2), r186_14]
    · have g3 := Int32.not_lt.mp g1
      have g4 := Int32.not_le.mp g2
      rw [if_neg g2, if_pos ⟨g3, g4⟩, r186_10, r186_11, r186_12, r186_13 h1 h9 h2 g3 (in_lt h3 g3 g4), r186_14]
theorem atv_nt {m k : Nat} {f : Nat → Int32} (h : k < m) (hm : m < 2147483648) : atv m f (nt k) = f k := by
  unfold atv
  rw [if_pos ⟨nt_ge (by omega), by rw [nt_lt (by omega) hm]; exact h⟩, nt_clamp (by omega)]
theorem putv_nt {m k : Nat} (h : k < m) (hm : m < 2147483648) : putv m I q (nt k) v = wrI I q k v := by
  unfold putv
  rw [if_pos ⟨nt_ge (by omega), by rw [nt_lt (by omega) hm]; exact h⟩, nt_clamp (by omega)]
def mxi (a b : Int32) : Int32 := if a < b then b else a
def mni (a b : Int32) : Int32 := if b < a then b else a
theorem c316 : wpc d 316 [.int a, .int b] μ Φ ↔ Φ (.inl (some (.int (mxi a b)))) μ := by
  show wp d 316 0 [.int a, .int b] [] μ Φ ↔ _
  simp only [r316_0, r316_1, r316_2, r316_5, r316_6, r316_9, r316_10]
  unfold mxi
  split <;> rfl
theorem c317 : wpc d 317 [.int a, .int b] μ Φ ↔ Φ (.inl (some (.int (mni a b)))) μ := by
  show wp d 317 0 [.int a, .int b] [] μ Φ ↔ _
  simp only [r317_0, r317_1, r317_2, r317_5, r317_6, r317_9, r317_10]
  unfold mni
  split <;> rfl
theorem nt_nle {j m : Nat} (h : j < m) (hm : m < 2147483648) : ¬ (nt m ≤ nt j) := by rw [nt_le hm (by omega)]; omega
def fillv (I : Nat → Nat → Int32) (q m : Nat) (v : Int32) : Nat → Nat → Int32 := upR I q (fun j => if j < m then v else I q j)
theorem wrI_at {k : Nat} : wrI I q k v q = upd (I q) k v := upR_same _ _ _
theorem wrI_ne {p k : Nat} (h : p ≠ q) : wrI I q k v p = I p := upR_ne h
theorem fill_fold (m : Nat) : foldN (fun k J => wrI J q k v) m I = fillv I q m v := by
  induction m with
  | zero =>
    funext a
    unfold fillv upR
    split
    · rename_i h; subst h; rfl
    · rfl
  | succ m ih =>
    show wrI (foldN _ m I) q m v = _
    rw [ih]
    funext a
    by_cases h : a = q
    · subst h
      rw [wrI_at]
      unfold fillv
      rw [upR_same, upR_same]
      funext j
      unfold upd
      by_cases hj : j = m
      · subst hj; simp
      · by_cases h2 : j < m
        · simp [hj, h2, show j < m + 1 by omega]
        · simp [hj, h2, show ¬ j < m + 1 by omega]
    · rw [wrI_ne h]
      unfold fillv
      rw [upR_ne h, upR_ne h]
theorem c328 (h1 : (sh0 n q).1 = 20) (h9 : 9 ≤ q) (h2 : q < 560) (h3 : (sh0 n q).2.1 < 2147483648) : wpc d 328 [.ref q, .int v] (mk n I L x) Φ ↔ Φ (.inl none) (mk n (fillv I q (sh0 n q).2.1 v) L x) := by
  show wp d 328 0 [.ref q, .int v, noV, noV] [] (mk n I L x) Φ ↔ _
  rw [r328_0, r328_1 (lo_i _), r328_2, r328_3 (Or.inl h1) h2, r328_4 (lo_i _), ← fill_fold]
  refine loopN (P := fun k J => wp d 328 5 [.ref q, .int v, .int (nt k), .int (nt (sh0 n q).2.1)] [] (mk n J L x) Φ) (Q := fun J => Φ (.inl none) (mk n J L x)) (n := (sh0 n q).2.1) ?_ ?_ I
  · intro k J hk
    rw [r328_5, r328_6, r328_7, if_neg (nt_nle hk h3), r328_10, r328_11, r328_12, r328_13 h1 h9 h2 (nt_ge (by omega)) (by rw [nt_clamp (by omega)]; exact hk), r328_14 (lo_i _), r328_17, nt_clamp (by omega), nt_succ]
  · intro J
    rw [r328_5, r328_6, r328_7, if_pos (Int32.le_refl _), r328_20]
end Hlp
