/-! TRIALS -/
theorem wb_or (c e : Nat → Bool) : ∀ m, wb c m ||| wb e m = wb (fun k => c k || e k) m
  | 0 => (by decide : (0 : Int32) ||| 0 = 0)
  | m + 1 => by
    have ih := wb_or c e m
    show (wb c m ||| (if c m then bt m else 0)) ||| (wb e m ||| (if e m then bt m else 0)) = wb (fun k => c k || e k) m ||| (if (c m || e m) then bt m else 0)
    rw [← ih]
    have e1 : ∀ a x b y : Int32, (a ||| x) ||| (b ||| y) = (a ||| b) ||| (x ||| y) := by
      intro a x b y
      rw [Int32.or_assoc, ← Int32.or_assoc x b y, Int32.or_comm x b, Int32.or_assoc b x y, Int32.or_assoc]
    rw [e1]
    congr 1
    cases c m <;> cases e m <;> simp [Int32.or_self]
theorem wa7_t : ∀ p0 p1 p2 p3 p4 p5 p6 q0 q1 q2 q3 q4 q5 q6 : Bool, wb (fun k => [p0, p1, p2, p3, p4, p5, p6].getD k false) 7 &&& wb (fun k => [q0, q1, q2, q3, q4, q5, q6].getD k false) 7 = wb (fun k => [p0 && q0, p1 && q1, p2 && q2, p3 && q3, p4 && q4, p5 && q5, p6 && q6].getD k false) 7 := by decide +kernel
theorem wb_l7 (c : Nat → Bool) : wb c 7 = wb (fun k => [c 0, c 1, c 2, c 3, c 4, c 5, c 6].getD k false) 7 := rfl
theorem wb_and7 (c e : Nat → Bool) : wb c 7 &&& wb e 7 = wb (fun k => c k && e k) 7 := by
  rw [wb_l7 c, wb_l7 e, wa7_t, wb_l7 (fun k => c k && e k)]
theorem wb_inj {c e : Nat → Bool} : wb c 7 = wb e 7 ↔ ∀ j, j < 7 → c j = e j := by
  constructor
  · intro h j hj
    have h1 := wb_bit (c := c) hj
    have h2 := wb_bit (c := e) hj
    rw [h, h2] at h1
    revert h1
    cases c j <;> cases e j <;> decide
  · exact fun h => wb_cong h
theorem wn7_t : ∀ p0 p1 p2 p3 p4 p5 p6 : Bool, ∃ a, a < 128 ∧ wb (fun k => [p0, p1, p2, p3, p4, p5, p6].getD k false) 7 = nt a := by
  intro p0 p1 p2 p3 p4 p5 p6
  refine ⟨(wb (fun k => [p0, p1, p2, p3, p4, p5, p6].getD k false) 7).toNatClampNeg, ?_⟩
  revert p0 p1 p2 p3 p4 p5 p6
  decide +kernel
theorem wb_nt (c : Nat → Bool) : ∃ a, a < 128 ∧ wb c 7 = nt a := by
  rw [wb_l7 c]
  exact wn7_t _ _ _ _ _ _ _
theorem wb_nt' {c : Nat → Bool} {m : Nat} (hm : m ≤ 7) : ∃ a, a < 128 ∧ wb c m = nt a := by
  rw [wb_cut hm]
  exact wb_nt _
theorem ins_fold {op : Int32 → Int32 → Int32} (hop : ∀ t x y, op (op t x) y = op (op t y) x) {P P' : Nat → Prop} [∀ k, Decidable (P k)] [∀ k, Decidable (P' k)] {g : Nat → Int32} {b n : Nat} {a : Int32} (h : ∀ k, k < n → (P k ↔ (k = b ∨ P' k))) (hb : ¬ P' b) : foldN (fun k t => if P k then op t (g k) else t) n a = if b < n then op (foldN (fun k t => if P' k then op t (g k) else t) n a) (g b) else foldN (fun k t => if P' k then op t (g k) else t) n a := by
  have key : ∀ m, m ≤ n → foldN (fun k t => if P k then op t (g k) else t) m a = if b < m then op (foldN (fun k t => if P' k then op t (g k) else t) m a) (g b) else foldN (fun k t => if P' k then op t (g k) else t) m a := by
    intro m
    induction m with
    | zero => intro _; rw [if_neg (Nat.not_lt_zero b)]; rfl
    | succ m ih =>
      intro hm
      have ih := ih (by omega)
      have hk := h m (by omega)
      show (if P m then op (foldN (fun k t => if P k then op t (g k) else t) m a) (g m) else foldN (fun k t => if P k then op t (g k) else t) m a) = if b < m + 1 then op (if P' m then op (foldN (fun k t => if P' k then op t (g k) else t) m a) (g m) else foldN (fun k t => if P' k then op t (g k) else t) m a) (g b) else (if P' m then op (foldN (fun k t => if P' k then op t (g k) else t) m a) (g m) else foldN (fun k t => if P' k then op t (g k) else t) m a)
      rw [ih]
      by_cases h1 : m = b
      · subst h1
        rw [if_pos (hk.mpr (Or.inl rfl)), if_neg (Nat.lt_irrefl m), if_pos (Nat.lt_succ_self m), if_neg hb]
      · by_cases h2 : P' m
        · rw [if_pos (hk.mpr (Or.inr h2)), if_pos h2]
          by_cases h3 : b < m
          · rw [if_pos h3, if_pos (show b < m + 1 by omega), hop]
          · rw [if_neg h3, if_neg (show ¬ b < m + 1 by omega)]
        · rw [if_neg (fun q => (hk.mp q).elim h1 h2), if_neg h2]
          by_cases h3 : b < m
          · rw [if_pos h3, if_pos (show b < m + 1 by omega)]
          · rw [if_neg h3, if_neg (show ¬ b < m + 1 by omega)]
  exact key n (Nat.le_refl n)
theorem add_rc (t x y : Int32) : t + x + y = t + y + x := by rw [Int32.add_assoc, Int32.add_comm x y, ← Int32.add_assoc]
theorem mxi_int (a b : Int32) : (mxi a b).toInt = max a.toInt b.toInt := by
  unfold mxi
  by_cases h : a < b
  · rw [if_pos h]
    have := Int32.lt_iff_toInt_lt.mp h
    omega
  · rw [if_neg h]
    have := Int32.le_iff_toInt_le.mp (Int32.not_lt.mp h)
    omega
theorem mxi_rc (t x y : Int32) : mxi (mxi t x) y = mxi (mxi t y) x := by
  refine Int32.toInt_inj.1 ?_
  rw [mxi_int, mxi_int, mxi_int, mxi_int]
  omega
def lowb (e : Nat) : Nat := if e % 2 ≠ 0 then 0 else if e % 4 ≠ 0 then 1 else if e % 8 ≠ 0 then 2 else if e % 16 ≠ 0 then 3 else if e % 32 ≠ 0 then 4 else 5
def clr (e : Nat) : Nat := e - 2 ^ lowb e
theorem low_a : ∀ e, e < 64 → e = 0 ∨ (ntz (nt e) = nt (lowb e) ∧ nt e &&& (nt e - 1) = nt (clr e) ∧ lowb e < 6 ∧ clr e < e ∧ (nt e ^^^ -1) &&& (nt e - 1) ≤ 256 ∧ ¬ (nt (clr e) >>> (nt (lowb e) &&& 31) &&& 1 = 1)) := by decide +kernel
theorem low_b : ∀ e, e < 64 → ∀ k, k < 6 → e = 0 ∨ ((nt e >>> (nt k &&& 31) &&& 1 = 1) ↔ (k = lowb e ∨ nt (clr e) >>> (nt k &&& 31) &&& 1 = 1)) := by decide +kernel
section Q8
variable {d n x c r j : Nat} {μ : PM} {Φ : POut → PM → Prop} {I J K : Nat → Nat → Int32} {L : Nat → Nat → Int64} {k s h v w a b z y lk wt : Int32} {p q : Scr} {f : Nat → Int32}
theorem sm_inv (hI : Inv I) (h : Sm I J) : Inv J := tr_Inv h.1 hI
theorem sm_w {a k : Nat} {v : Int32} (ha : a = 62 ∨ a = 63) (h : Sm I J) : Sm I (wrI J a k v) := by
  have hv : vis a k = false := by rcases ha with rfl | rfl <;> rfl
  have h2 : 9 ≠ a ∧ 72 ≠ a := by rcases ha with rfl | rfl <;> decide
  exact ⟨(view_wr hv).trans h.1, (wrI_ne h2.1).trans h.2.1, (wrI_ne h2.2).trans h.2.2⟩
theorem sm_w64 {k : Nat} {v : Int32} (hk : k ≠ 0) (h : Sm I J) : Sm I (wrI J 64 k v) := by
  have hv : vis 64 k = false := by rw [show vis 64 k = decide (k = 0) from rfl]; exact decide_eq_false hk
  exact ⟨(view_wr hv).trans h.1, (wrI_ne (by decide)).trans h.2.1, (wrI_ne (by decide)).trans h.2.2⟩
theorem wr_eq {a k : Nat} {v : Int32} : wrI I a k v a k = v := by unfold wrI; rw [upR_same, up_same]
theorem wr_k {a k i : Nat} {v : Int32} (h : i ≠ k) : wrI I a k v a i = I a i := by unfold wrI; rw [upR_same, up_ne h]
theorem s62 : sh0 n 62 = (20, 64, []) := eq_of_heq HEq.rfl
theorem s63 : sh0 n 63 = (20, 6, []) := eq_of_heq HEq.rfl
theorem s64 : sh0 n 64 = (20, 64, []) := eq_of_heq HEq.rfl
theorem c110 {e : Nat} (he : e < 64) : wpc (d + 1) 110 [.ref (61 : Nat), .int (nt e), .int a, .int b, .int s] (mk n J L x) Φ ↔ Φ (.inl none) (mk n (if b ≤ a ∧ J 62 e ≠ -1 then wrI J 62 e (J 62 e ||| 1 <<< (s &&& 31)) else J) L x) := by
  have e1 : atv 64 (J 62) (nt e) = J 62 e := atv_nt he (by decide)
  have e2 : ∀ v, putv 64 J 62 (nt e) v = wrI J 62 e v := fun v => putv_nt he (by decide)
  show wp (d + 1) 110 0 [.ref (61 : Nat), .int (nt e), .int a, .int b, .int s] [] (mk n J L x) Φ ↔ _
  by_cases h1 : a < b
  · rw [if_neg (fun q => Int32.not_lt.mpr q.1 h1)]
    simp (config := {decide := true}) only [r110_0, r110_1, r110_2, r110_5, r110_6, r110_9, r110_10, r110_13, r110_14, r110_17, r110_18, r110_21, r110_22, r110_23, r110_26, r110_27, r110_30, r110_31, r110_33, r110_34, r110_35, r110_38, if_true, if_false, Nat.reduceAdd, Int32.reduceToNatClampNeg, lo_i, lo_r, lo_n, kont_v, kont_n, List.length_nil, List.length_cons, h1]
  · by_cases h2 : J 62 e = -1
    · rw [if_neg (fun q => q.2 h2)]
      simp (config := {decide := true}) only [r110_0, r110_1, r110_2, r110_5, r110_6, r110_9, r110_10, r110_13, r110_14, r110_17, r110_18, r110_21, r110_22, r110_23, r110_26, r110_27, r110_30, r110_31, r110_33, r110_34, r110_35, r110_38, if_true, if_false, Nat.reduceAdd, Int32.reduceToNatClampNeg, lo_i, lo_r, lo_n, kont_v, kont_n, List.length_nil, List.length_cons, h1, h2, s62, c185, e1]
    · rw [if_pos ⟨Int32.not_lt.mp h1, h2⟩]
      simp (config := {decide := true}) only [r110_0, r110_1, r110_2, r110_5, r110_6, r110_9, r110_10, r110_13, r110_14, r110_17, r110_18, r110_21, r110_22, r110_23, r110_26, r110_27, r110_30, r110_31, r110_33, r110_34, r110_35, r110_38, if_true, if_false, Nat.reduceAdd, Int32.reduceToNatClampNeg, lo_i, lo_r, lo_n, kont_v, kont_n, List.length_nil, List.length_cons, h1, h2, s62, c185, c186, e1, e2]
theorem c111 {e : Nat} (he : e < 64) : wpc (d + 1) 111 [.ref (61 : Nat), .int (nt e), .int lk, .int wt] (mk n J L x) Φ ↔ Φ (.inl (some (.int (bi (J 62 e ≠ -1 ∧ J 62 e &&& lk = wt))))) (mk n J L x) := by
  have e1 : atv 64 (J 62) (nt e) = J 62 e := atv_nt he (by decide)
  show wp (d + 1) 111 0 [.ref (61 : Nat), .int (nt e), .int lk, .int wt, noV] [] (mk n J L x) Φ ↔ _
  by_cases h2 : J 62 e = -1
  · rw [bi_f (fun q => q.1 h2)]
    simp (config := {decide := true}) only [r111_0, r111_1, r111_4, r111_5, r111_8, r111_10, r111_12, r111_13, r111_16, r111_18, r111_19, r111_20, r111_21, r111_24, r111_25, r111_28, r111_29, if_true, if_false, Nat.reduceAdd, Int32.reduceToNatClampNeg, lo_i, lo_r, lo_n, kont_v, kont_n, List.length_nil, List.length_cons, h2, s62, c185, e1, nb_0]
  · by_cases h3 : J 62 e &&& lk = wt
    · rw [bi_t ⟨h2, h3⟩]
      simp (config := {decide := true}) only [r111_0, r111_1, r111_4, r111_5, r111_8, r111_10, r111_12, r111_13, r111_16, r111_18, r111_19, r111_20, r111_21, r111_24, r111_25, r111_28, r111_29, if_true, if_false, Nat.reduceAdd, Int32.reduceToNatClampNeg, lo_i, lo_r, lo_n, kont_v, kont_n, List.length_nil, List.length_cons, h2, h3, s62, c185, e1, nb_1]
    · rw [bi_f (fun q => h3 q.2)]
      simp (config := {decide := true}) only [r111_0, r111_1, r111_4, r111_5, r111_8, r111_10, r111_12, r111_13, r111_16, r111_18, r111_19, r111_20, r111_21, r111_24, r111_25, r111_28, r111_29, if_true, if_false, Nat.reduceAdd, Int32.reduceToNatClampNeg, lo_i, lo_r, lo_n, kont_v, kont_n, List.length_nil, List.length_cons, h2, h3, s62, c185, e1, nb_0]
/-- whether such a set can ring -/
def cnr (f : Nat → Int32) (e : Nat) : Prop := nt e &&& (wnd f ^^^ -1) = 0
def cnrD (f : Nat → Int32) (e : Nat) : Bool := decide (nt e &&& (wnd f ^^^ -1) = 0)
theorem c108 (h : ∀ J, Sm I J → (∀ e, e < 64 → J 62 e = if nt e &&& (v ^^^ -1) = 0 then 0 else -1) → Φ (.inl none) (mk n J L x)) : wpc d 108 [.ref (61 : Nat), .int v] (mk n I L x) Φ := by
  show wp d 108 0 [.ref (61 : Nat), .int v, noV] [] (mk n I L x) Φ
  simp (config := {decide := true}) only [r108_0, r108_1, if_true, if_false, Nat.reduceAdd, Int32.reduceToNatClampNeg, lo_i, lo_r, lo_n, kont_v, kont_n, List.length_nil, List.length_cons]
  have key : ∀ m e, e + m = 64 → ∀ J, Sm I J → (∀ i, i < e → J 62 i = if nt i &&& (v ^^^ -1) = 0 then 0 else -1) → wp d 108 2 [.ref (61 : Nat), .int v, .int (nt e)] [] (mk n J L x) Φ := by
    intro m
    induction m with
    | zero =>
      intro e he J hJ h1
      have : e = 64 := by omega
      subst this
      rw [r108_2]
      simp (config := {decide := true}) only [r108_3, r108_5, r108_8, r108_9, r108_12, r108_13, r108_14, r108_15, r108_16, r108_17, r108_18, r108_21, r108_22, r108_25, r108_26, r108_27, r108_30, r108_33, if_true, if_false, Nat.reduceAdd, Int32.reduceToNatClampNeg, lo_i, lo_r, lo_n, kont_v, kont_n, List.length_nil, List.length_cons]
      exact h J hJ h1
    | succ m ih =>
      intro e he J hJ h1
      have e1 : ¬ ((64 : Int32) ≤ nt e) := nt_nle (m := 64) (by omega) (by decide)
      have e2 : (nt e).toNatClampNeg = e := nt_clamp (by omega)
      have e3 : (0 : Int32) ≤ nt e := nt_ge (by omega)
      have e4 : e < 64 := by omega
      have nx : ∀ u, u = (if nt e &&& (v ^^^ -1) = 0 then 0 else -1) → ∀ i, i < e + 1 → wrI J 62 e u 62 i = if nt i &&& (v ^^^ -1) = 0 then 0 else -1 := by
        intro u hu i hi
        by_cases hie : i = e
        · subst hie; rw [wr_eq, hu]
        · rw [wr_k hie]; exact h1 i (by omega)
      rw [r108_2]
      by_cases h2 : nt e &&& (v ^^^ -1) = 0
      · simp (config := {decide := true}) only [r108_3, r108_5, r108_8, r108_9, r108_12, r108_13, r108_14, r108_15, r108_16, r108_17, r108_18, r108_21, r108_22, r108_25, r108_26, r108_27, r108_30, r108_33, if_true, if_false, Nat.reduceAdd, Int32.reduceToNatClampNeg, lo_i, lo_r, lo_n, kont_v, kont_n, List.length_nil, List.length_cons, e1, e2, e3, e4, h2, s62, nt_succ]
        exact ih (e + 1) (by omega) _ (sm_w (Or.inl rfl) hJ) (nx _ (by rw [if_pos h2]))
      · simp (config := {decide := true}) only [r108_3, r108_5, r108_8, r108_9, r108_12, r108_13, r108_14, r108_15, r108_16, r108_17, r108_18, r108_21, r108_22, r108_25, r108_26, r108_27, r108_30, r108_33, if_true, if_false, Nat.reduceAdd, Int32.reduceToNatClampNeg, lo_i, lo_r, lo_n, kont_v, kont_n, List.length_nil, List.length_cons, e1, e2, e3, e4, h2, s62, nt_succ]
        exact ih (e + 1) (by omega) _ (sm_w (Or.inl rfl) hJ) (nx _ (by rw [if_neg h2]))
  exact key 64 0 rfl I (sm_refl I) (fun i hi => absurd hi (Nat.not_lt_zero i))
/-- what one hears of each clock alone -/
def nzk (I : Nat → Nat → Int32) (f : Nat → Int32) (j k : Nat) : Int32 := if k < cI I then nzJ I f j k else 0
theorem c109 (hI : Inv I) (hj : j < 7) (hJ : Sm I J) (h : ∀ K, Sm I K → K 62 = J 62 → K 64 = J 64 → (∀ k, k < 6 → K 63 k = nzk I (I 41) j k) → Φ (.inl none) (mk n K L x)) : wpc (d + 5) 109 [.ref (61 : Nat), .ref (39 : Nat), .ref (40 : Nat), .int (nt j)] (mk n J L x) Φ := by
  show wp (d + 5) 109 0 [.ref (61 : Nat), .ref (39 : Nat), .ref (40 : Nat), .int (nt j), noV] [] (mk n J L x) Φ
  simp (config := {decide := true}) only [r109_0, r109_1, if_true, if_false, Nat.reduceAdd, Int32.reduceToNatClampNeg, lo_i, lo_r, lo_n, kont_v, kont_n, List.length_nil, List.length_cons]
  have key : ∀ m k, k + m = 6 → ∀ K, Sm I K → K 62 = J 62 → K 64 = J 64 → (∀ i, i < k → K 63 i = nzk I (I 41) j i) → wp (d + 5) 109 3 [.ref (61 : Nat), .ref (39 : Nat), .ref (40 : Nat), .int (nt j), .int (nt k)] [] (mk n K L x) Φ := by
    intro m
    induction m with
    | zero =>
      intro k hk K hK h1 h2 h3
      have : k = 6 := by omega
      subst this
      rw [r109_3]
      simp (config := {decide := true}) only [r109_5, r109_7, r109_10, r109_11, r109_14, r109_16, r109_18, r109_19, r109_22, r109_25, r109_28, r109_29, r109_30, r109_31, r109_32, r109_34, r109_35, r109_38, r109_41, r109_42, r109_43, r109_46, r109_49, if_true, if_false, Nat.reduceAdd, Int32.reduceToNatClampNeg, lo_i, lo_r, lo_n, kont_v, kont_n, List.length_nil, List.length_cons]
      exact h K hK h1 h2 h3
    | succ m ih =>
      intro k hk K hK h1 h2 h3
      have hIK := sm_inv hI hK
      have e1 : ¬ ((6 : Int32) ≤ nt k) := nt_nle (m := 6) (by omega) (by decide)
      have e2 : (nt k).toNatClampNeg = k := nt_clamp (by omega)
      have e3 : (0 : Int32) ≤ nt k := nt_ge (by omega)
      have e4 : k < 6 := by omega
      have ec : K 12 6 = nt (cI I) := by rw [t12 hK.1]; exact inv_c hI
      have nx : ∀ K' v, K' 63 = K 63 → v = nzk I (I 41) j k → ∀ i, i < k + 1 → wrI K' 63 k v 63 i = nzk I (I 41) j i := by
        intro K' v hK' hv i hi
        by_cases hie : i = k
        · subst hie; rw [wr_eq, hv]
        · rw [wr_k hie, hK']; exact h3 i (by omega)
      rw [r109_3]
      by_cases h4 : k < cI I
      · have f1 : ¬ (nt (cI I) ≤ nt k) := nt_nle h4 (by have := inv_c6 hI; omega)
        have f2 : hdI K (K 41) (nt j) (1 <<< (nt k &&& 31)) = nzJ I (I 41) j k := by
          rw [hd_one hj (by rw [tr_c hK.1]; exact h4) (inv_c6 hIK), tr_nj hK.1, t41 hK.1]
        simp (config := {decide := true}) only [r109_5, r109_7, r109_10, r109_11, r109_14, r109_16, r109_18, r109_19, r109_22, r109_25, r109_28, r109_29, r109_30, r109_31, r109_32, r109_34, r109_35, r109_38, r109_41, r109_42, r109_43, r109_46, r109_49, if_true, if_false, Nat.reduceAdd, Int32.reduceToNatClampNeg, lo_i, lo_r, lo_n, kont_v, kont_n, List.length_nil, List.length_cons, e1, e2, e3, e4, ec, f1, k12, k40, g23 hIK.1.1 k40, f2, s63, nt_succ]
        refine ih (k + 1) (by omega) _ (sm_w (Or.inr rfl) (sm_trans hK sm_scr)) ?_ ?_ (nx _ _ (scr_ne (by decide) (by decide)) (by unfold nzk; rw [if_pos h4]))
        · rw [wrI_ne (by decide), scr_ne (by decide) (by decide)]; exact h1
        · rw [wrI_ne (by decide), scr_ne (by decide) (by decide)]; exact h2
      · have f1 : nt (cI I) ≤ nt k := by rw [nt_le (by have := inv_c6 hI; omega) (by omega)]; omega
        simp (config := {decide := true}) only [r109_5, r109_7, r109_10, r109_11, r109_14, r109_16, r109_18, r109_19, r109_22, r109_25, r109_28, r109_29, r109_30, r109_31, r109_32, r109_34, r109_35, r109_38, r109_41, r109_42, r109_43, r109_46, r109_49, if_true, if_false, Nat.reduceAdd, Int32.reduceToNatClampNeg, lo_i, lo_r, lo_n, kont_v, kont_n, List.length_nil, List.length_cons, e1, e2, e3, e4, ec, f1, k12, s63, nt_succ]
        refine ih (k + 1) (by omega) _ (sm_w (Or.inr rfl) hK) ?_ ?_ (nx _ _ rfl (by unfold nzk; rw [if_neg h4]))
        · rw [wrI_ne (by decide)]; exact h1
        · rw [wrI_ne (by decide)]; exact h2
  exact key 6 0 rfl J hJ rfl rfl (fun i hi => absurd hi (Nat.not_lt_zero i))
/-- the hearing of a set: together, and the loudest alone -/
def hrT (I : Nat → Nat → Int32) (f : Nat → Int32) (s e : Nat) : Int32 := hdJ I f s (nt e)
def hrA (I : Nat → Nat → Int32) (f : Nat → Int32) (s e : Nat) : Int32 := foldN (fun k t => if nt e >>> (nt k &&& 31) &&& 1 = 1 then mxi t (nzJ I f s k) else t) (cI I) 0
theorem nz_ge {s k : Nat} : 0 ≤ nzJ I f s k := by
  unfold nzJ nzC nzV mxi
  by_cases h : 0 < mni 99 (atv 150 (nzA (I 25) (inpf (I 15 k) (atv 84 f (18 + nt s * 6 + nt k)) (I 13 s) (f (12 + k)) (f 81) (f 82) (awm f) (f k) (nt s)) (lnI I) (fun _ => 0)).2 0)
  · rw [if_pos h]; exact Int32.le_of_lt h
  · rw [if_neg h]; exact Int32.le_refl _
theorem hrA_ge {s e : Nat} (m : Nat) : 0 ≤ foldN (fun k t => if nt e >>> (nt k &&& 31) &&& 1 = 1 then mxi t (nzJ I f s k) else t) m 0 := by
  induction m with
  | zero => exact (by decide : (0 : Int32) ≤ 0)
  | succ m ih =>
    show 0 ≤ if nt e >>> (nt m &&& 31) &&& 1 = 1 then mxi _ _ else _
    split
    · rw [Int32.le_iff_toInt_le, mxi_int]
      have := Int32.le_iff_toInt_le.mp ih
      omega
    · exact ih
theorem hrT_s {s e : Nat} (h6 : cI I ≤ 6) (he : e < 64) (h0 : e ≠ 0) : hrT I f s e = hrT I f s (clr e) + nzk I f s (lowb e) := by
  obtain ⟨-, -, a3, -, -, a6⟩ := (low_a e he).resolve_left h0
  unfold hrT hdJ hdV nzk
  have h := ins_fold (op := fun t x => t + x) add_rc (P := fun k => nt e >>> (nt k &&& 31) &&& 1 = 1) (P' := fun k => nt (clr e) >>> (nt k &&& 31) &&& 1 = 1) (g := fun k => nzJ I f s k) (b := lowb e) (n := cI I) (a := 0) (fun k hk => (low_b e he k (by omega)).resolve_left h0) a6
  refine h.trans ?_
  by_cases hb : lowb e < cI I
  · rw [if_pos hb, if_pos hb]; rfl
  · rw [if_neg hb, if_neg hb, Int32.add_zero]; rfl
theorem hrA_s {s e : Nat} (h6 : cI I ≤ 6) (he : e < 64) (h0 : e ≠ 0) : hrA I f s e = mxi (hrA I f s (clr e)) (nzk I f s (lowb e)) := by
  obtain ⟨-, -, a3, -, -, a6⟩ := (low_a e he).resolve_left h0
  unfold hrA nzk
  have h := ins_fold (op := mxi) mxi_rc (P := fun k => nt e >>> (nt k &&& 31) &&& 1 = 1) (P' := fun k => nt (clr e) >>> (nt k &&& 31) &&& 1 = 1) (g := fun k => nzJ I f s k) (b := lowb e) (n := cI I) (a := 0) (fun k hk => (low_b e he k (by omega)).resolve_left h0) a6
  refine h.trans ?_
  by_cases hb : lowb e < cI I
  · rw [if_pos hb, if_pos hb]
  · rw [if_neg hb, if_neg hb]
    have hg := hrA_ge (I := I) (f := f) (s := s) (e := clr e) (cI I)
    have hm : ∀ t : Int32, 0 ≤ t → mxi t 0 = t := fun t ht => by unfold mxi; rw [if_neg (Int32.not_lt.mpr ht)]
    rw [hm _ hg]
theorem hrT_0 {s : Nat} : hrT I f s 0 = 0 := hdV_0
theorem hrA_0 {s : Nat} : hrA I f s 0 = 0 := foldN_id (cI I) (fun k _ => if_neg (z_bit _))
/-- who wakes by a set: of the first so many -/
def wkp (I : Nat → Nat → Int32) (f : Nat → Int32) (hr : Nat → Nat → Int32) (m e : Nat) : Int32 := foldN (fun k b => if f (60 + k) = -1 then (if I 13 k ≤ hr k e then b ||| bt k else b) else b) m 0
theorem wkp_s {hr : Nat → Nat → Int32} {m e : Nat} : wkp I f hr (m + 1) e = if f (60 + m) = -1 then (if I 13 m ≤ hr m e then wkp I f hr m e ||| bt m else wkp I f hr m e) else wkp I f hr m e := rfl
theorem wkp_wb {hr : Nat → Nat → Int32} {m e : Nat} : wkp I f hr m e = wb (fun k => decide (f (60 + k) = -1 ∧ I 13 k ≤ hr k e)) m := by
  unfold wkp wb
  refine foldN_cong m (fun k b _ => ?_)
  by_cases h1 : f (60 + k) = -1 <;> by_cases h2 : I 13 k ≤ hr k e <;> simp [h1, h2]
theorem wkp_ne {hr : Nat → Nat → Int32} {m e : Nat} (hm : m ≤ 7) : wkp I f hr m e ≠ -1 := by
  rw [wkp_wb]
  obtain ⟨a, h1, h2⟩ := wb_nt' (c := fun k => decide (f (60 + k) = -1 ∧ I 13 k ≤ hr k e)) hm
  rw [h2]
  exact nt_m1 (by omega)
theorem wkp_0 {hr : Nat → Nat → Int32} {m : Nat} (hd : 1 ≤ I 13 m) (h0 : hr m 0 = 0) : wkp I f hr (m + 1) 0 = wkp I f hr m 0 := by
  rw [wkp_s, h0, if_neg (pos_nle hd)]
  split <;> rfl
theorem wkp_I {e : Nat} : wkp I f (hrT I f) (sI I) e = wkI I f (nt e) := rfl
def trW (I : Nat → Nat → Int32) (f : Nat → Int32) (hr : Nat → Nat → Int32) (m e : Nat) : Int32 := if nt e &&& (wnd f ^^^ -1) = 0 then wkp I f hr m e else -1
theorem c106 (hI : Inv I) (h : ∀ J, Sm I J → (∀ e, e < 64 → J 62 e = trW I (I 41) (hrT I (I 41)) (sI I) e) → Φ (.inl none) (mk n J L x)) : wpc (d + 6) 106 [.ref (61 : Nat), .ref (39 : Nat), .ref (40 : Nat)] (mk n I L x) Φ := by
  have h7 := inv_s7 hI
  have h6 := inv_c6 hI
  show wp (d + 6) 106 0 [.ref (61 : Nat), .ref (39 : Nat), .ref (40 : Nat), noV, noV, noV] [] (mk n I L x) Φ
  simp (config := {decide := true}) only [r106_0, r106_1, r106_2, if_true, if_false, Nat.reduceAdd, Int32.reduceToNatClampNeg, lo_i, lo_r, lo_n, kont_v, kont_n, List.length_nil, List.length_cons, k40, c60 k40]
  rw [r106_5 (by decide)]
  refine c108 (fun J hJ hW => ?_)
  simp (config := {decide := true}) only [r106_8, r106_9, if_true, if_false, Nat.reduceAdd, Int32.reduceToNatClampNeg, lo_i, lo_r, lo_n, kont_v, kont_n, List.length_nil, List.length_cons]
  have key : ∀ m s, s + m = sI I → ∀ J, Sm I J → (∀ e, e < 64 → J 62 e = trW I (I 41) (hrT I (I 41)) s e) → ∀ v4 v5, NL v4 → NL v5 → wp (d + 6) 106 10 [.ref (61 : Nat), .ref (39 : Nat), .ref (40 : Nat), .int (nt s), v4, v5] [] (mk n J L x) Φ := by
    intro m
    induction m with
    | zero =>
      intro s hs J hJ hW v4 v5 _ _
      have : s = sI I := by omega
      subst this
      have es : J 12 5 = nt (sI I) := by rw [t12 hJ.1]; exact inv_s hI
      have e6 : nt (sI I) ≤ nt (sI I) := Int32.le_refl _
      rw [r106_10]
      simp (config := {decide := true}) only [r106_11, r106_12, r106_15, r106_18, r106_118, if_true, if_false, Nat.reduceAdd, Int32.reduceToNatClampNeg, lo_i, lo_r, lo_n, kont_v, kont_n, List.length_nil, List.length_cons, k12, es, e6]
      exact h J hJ hW
    | succ m ih =>
      intro s hs J hJ hW v4 v5 hv4 hv5
      have es : J 12 5 = nt (sI I) := by rw [t12 hJ.1]; exact inv_s hI
      have e1 : ¬ (nt (sI I) ≤ nt s) := nt_nle (by omega) (by omega)
      have e5 : atv 84 (J 41) (60 + nt s) = I 41 (60 + s) := by rw [t41 hJ.1]; exact at_b 60 (by omega) (by decide)
      rw [r106_10]
      by_cases hsl : I 41 (60 + s) = -1
      · simp (config := {decide := true}) only [r106_11, r106_12, r106_15, r106_18, r106_21, r106_22, r106_23, r106_26, r106_29, r106_30, r106_31, r106_32, if_true, if_false, Nat.reduceAdd, Int32.reduceToNatClampNeg, lo_i, lo_r, lo_n, kont_v, kont_n, List.length_nil, List.length_cons, and_self, and_true, true_and, and_false, false_and, not_true, not_false_eq_true, true_or, or_true, bi_eq0, k12, k40, es, e1, c52 k40, e5, hsl]
        rw [r106_33 (by decide)]
        refine c109 hI (by omega) hJ (fun K hK hK2 hK4 hN => ?_)
        simp (config := {decide := true}) only [r106_36, r106_37, if_true, if_false, Nat.reduceAdd, Int32.reduceToNatClampNeg, lo_i, lo_r, lo_n, kont_v, kont_n, List.length_nil, List.length_cons]
        have dep := hI.1.1.2.2.2 s (by omega)
        have inner : ∀ m2 e, e + m2 = 64 → e ≠ 0 → ∀ K, Sm I K → (∀ k, k < 6 → K 63 k = nzk I (I 41) s k) → (∀ i, i < e → K 64 i = hrT I (I 41) s i) → (∀ i, i < 64 → K 62 i = trW I (I 41) (hrT I (I 41)) (if i < e then s + 1 else s) i) → ∀ v5, NL v5 → wp (d + 6) 106 39 [.ref (61 : Nat), .ref (39 : Nat), .ref (40 : Nat), .int (nt s), .int (nt e), v5] [] (mk n K L x) Φ := by
          intro m2
          induction m2 with
          | zero =>
            intro e he _ K hK hN hH hW2 v5 hv5
            have : e = 64 := by omega
            subst this
            rw [r106_39]
            simp (config := {decide := true}) only [r106_41, r106_43, r106_112, r106_115, if_true, if_false, Nat.reduceAdd, Int32.reduceToNatClampNeg, lo_i, lo_r, lo_n, kont_v, kont_n, List.length_nil, List.length_cons, nt_succ]
            exact ih (s + 1) (by omega) K hK (fun i hi => by rw [hW2 i hi, if_pos hi]) _ _ (lo_i _) hv5
          | succ m2 ih2 =>
            intro e he h0 K hK hN hH hW2 v5 hv5
            obtain ⟨b1, b2, b3, b4, b5, -⟩ := (low_a e (by omega)).resolve_left h0
            have f1 : ¬ ((64 : Int32) ≤ nt e) := nt_nle (m := 64) (by omega) (by decide)
            have f2 : (nt e).toNatClampNeg = e := nt_clamp (by omega)
            have f3 : (0 : Int32) ≤ nt e := nt_ge (by omega)
            have f4 : e < 64 := by omega
            have f5 : atv 6 (K 63) (nt (lowb e)) = nzk I (I 41) s (lowb e) := by rw [atv_nt b3 (by decide), hN _ b3]
            have f6 : atv 64 (K 64) (nt (clr e)) = hrT I (I 41) s (clr e) := by rw [atv_nt (by omega) (by decide), hH _ b4]
            have f7 := hrT_s (I := I) (f := I 41) (s := s) h6 f4 h0
            have f8 : ∀ v, wrI K 64 e v 64 e = v := fun v => wr_eq
            have f9 : ∀ v, wrI K 64 e v 13 = I 13 := fun v => by rw [wrI_ne (by decide)]; exact t13 hK.1
            have g9 : ∀ v, wrI K 64 e v 62 e = K 62 e := fun v => by rw [wrI_ne (by decide)]
            have g8 : atv 7 (I 13) (nt s) = I 13 s := atv_nt (by omega) (by decide)
            have g7 : K 62 e = trW I (I 41) (hrT I (I 41)) s e := by rw [hW2 e f4, if_neg (Nat.lt_irrefl e)]
            rw [r106_39]
            simp (config := {decide := true}) only [r106_41, r106_43, r106_46, r106_47, r106_50, r106_52, r106_55, r106_58, r106_60, r106_61, r106_64, r106_66, r106_67, r106_70, r106_72, r106_74, r106_75, r106_76, r106_77, r106_80, r106_82, r106_83, r106_84, r106_85, r106_87, r106_88, r106_91, r106_93, r106_94, r106_95, r106_98, r106_99, r106_102, r106_103, r106_106, r106_109, if_true, if_false, Nat.reduceAdd, Int32.reduceToNatClampNeg, lo_i, lo_r, lo_n, kont_v, kont_n, List.length_nil, List.length_cons, f1, f2, f3, f4, s63, s64, k12, c314 b5, b1, b2, c185, f5, f6, hv5, f8, f9, g8, c82 k12, c110 f4, g9, g7, nt_succ]
            rw [← f7]
            have hsm : Sm I (wrI K 64 e (hrT I (I 41) s e)) := sm_w64 h0 hK
            have hN2 : ∀ k, k < 6 → wrI K 64 e (hrT I (I 41) s e) 63 k = nzk I (I 41) s k := fun k hk => by rw [wrI_ne (by decide)]; exact hN k hk
            have hH2 : ∀ i, i < e + 1 → wrI K 64 e (hrT I (I 41) s e) 64 i = hrT I (I 41) s i := by
              intro i hi
              by_cases hie : i = e
              · subst hie; exact wr_eq
              · rw [wr_k hie]; exact hH i (by omega)
            by_cases hp : I 13 s ≤ hrT I (I 41) s e ∧ trW I (I 41) (hrT I (I 41)) s e ≠ -1
            · have hc : nt e &&& (wnd (I 41) ^^^ -1) = 0 := by
                by_cases hc : nt e &&& (wnd (I 41) ^^^ -1) = 0
                · exact hc
                · exact absurd (if_neg hc) hp.2
              rw [if_pos hp]
              refine ih2 (e + 1) (by omega) (by omega) _ (sm_w (Or.inl rfl) hsm) ?_ ?_ ?_ _ (lo_i _)
              · intro k hk; rw [wrI_ne (by decide)]; exact hN2 k hk
              · intro i hi; rw [wrI_ne (by decide)]; exact hH2 i hi
              · intro i hi
                by_cases hie : i = e
                · subst hie
                  rw [wr_eq, if_pos (by omega)]
                  unfold trW
                  rw [if_pos hc, if_pos hc, wkp_s, if_pos hsl, if_pos hp.1]
                  rfl
                · rw [wr_k hie, wrI_ne (by decide), hW2 i hi]
                  by_cases h2 : i < e
                  · rw [if_pos h2, if_pos (by omega)]
                  · rw [if_neg h2, if_neg (by omega)]
            · rw [if_neg hp]
              refine ih2 (e + 1) (by omega) (by omega) _ hsm hN2 hH2 ?_ _ (lo_i _)
              intro i hi
              rw [wrI_ne (by decide), hW2 i hi]
              by_cases hie : i = e
              · subst hie
                rw [if_neg (Nat.lt_irrefl i), if_pos (by omega)]
                unfold trW at hp ⊢
                by_cases hc : nt i &&& (wnd (I 41) ^^^ -1) = 0
                · rw [if_pos hc] at hp ⊢
                  rw [if_pos hc, wkp_s, if_pos hsl, if_neg (fun q => hp ⟨q, wkp_ne (by omega)⟩)]
                · rw [if_neg hc, if_neg hc]
              · by_cases h2 : i < e
                · rw [if_pos h2, if_pos (by omega)]
                · rw [if_neg h2, if_neg (by omega)]
        refine inner 63 1 rfl (by decide) K hK hN ?_ ?_ _ hv5
        · intro i hi
          have : i = 0 := by omega
          subst this
          rw [hK4, show J 64 0 = 0 from (sm_inv hI hJ).2.2.2.2.2.2.2.1.2.2.2.2.2.2]
          exact hrT_0.symm
        · intro i hi
          rw [hK2, hW i hi]
          by_cases hi0 : i < 1
          · have : i = 0 := by omega
            subst this
            rw [if_pos hi0]
            unfold trW
            rw [wkp_0 dep hrT_0]
          · rw [if_neg hi0]
      · simp (config := {decide := true}) only [r106_11, r106_12, r106_15, r106_18, r106_21, r106_22, r106_23, r106_26, r106_29, r106_30, r106_31, r106_32, r106_112, r106_115, if_true, if_false, Nat.reduceAdd, Int32.reduceToNatClampNeg, lo_i, lo_r, lo_n, kont_v, kont_n, List.length_nil, List.length_cons, and_self, and_true, true_and, and_false, false_and, not_true, not_false_eq_true, true_or, or_true, bi_eq0, k12, k40, es, e1, c52 k40, e5, hsl, nt_succ]
        refine ih (s + 1) (by omega) J hJ (fun e he => ?_) v4 v5 hv4 hv5
        rw [hW e he]
        unfold trW
        rw [wkp_s, if_neg hsl]
  exact key (sI I) 0 (by omega) J hJ (fun e he => by rw [hW e he]; rfl) _ _ lo_n lo_n
theorem c107 (hI : Inv I) (h : ∀ J, Sm I J → (∀ e, e < 64 → J 62 e = trW I (I 41) (hrA I (I 41)) (sI I) e) → Φ (.inl none) (mk n J L x)) : wpc (d + 6) 107 [.ref (61 : Nat), .ref (39 : Nat), .ref (40 : Nat)] (mk n I L x) Φ := by
  have h7 := inv_s7 hI
  have h6 := inv_c6 hI
  show wp (d + 6) 107 0 [.ref (61 : Nat), .ref (39 : Nat), .ref (40 : Nat), noV, noV, noV] [] (mk n I L x) Φ
  simp (config := {decide := true}) only [r107_0, r107_1, r107_2, if_true, if_false, Nat.reduceAdd, Int32.reduceToNatClampNeg, lo_i, lo_r, lo_n, kont_v, kont_n, List.length_nil, List.length_cons, k40, c60 k40]
  rw [r107_5 (by decide)]
  refine c108 (fun J hJ hW => ?_)
  simp (config := {decide := true}) only [r107_8, r107_9, if_true, if_false, Nat.reduceAdd, Int32.reduceToNatClampNeg, lo_i, lo_r, lo_n, kont_v, kont_n, List.length_nil, List.length_cons]
  have key : ∀ m s, s + m = sI I → ∀ J, Sm I J → (∀ e, e < 64 → J 62 e = trW I (I 41) (hrA I (I 41)) s e) → ∀ v4 v5, NL v4 → NL v5 → wp (d + 6) 107 10 [.ref (61 : Nat), .ref (39 : Nat), .ref (40 : Nat), .int (nt s), v4, v5] [] (mk n J L x) Φ := by
    intro m
    induction m with
    | zero =>
      intro s hs J hJ hW v4 v5 _ _
      have : s = sI I := by omega
      subst this
      have es : J 12 5 = nt (sI I) := by rw [t12 hJ.1]; exact inv_s hI
      have e6 : nt (sI I) ≤ nt (sI I) := Int32.le_refl _
      rw [r107_10]
      simp (config := {decide := true}) only [r107_11, r107_12, r107_15, r107_18, r107_120, if_true, if_false, Nat.reduceAdd, Int32.reduceToNatClampNeg, lo_i, lo_r, lo_n, kont_v, kont_n, List.length_nil, List.length_cons, k12, es, e6]
      exact h J hJ hW
    | succ m ih =>
      intro s hs J hJ hW v4 v5 hv4 hv5
      have es : J 12 5 = nt (sI I) := by rw [t12 hJ.1]; exact inv_s hI
      have e1 : ¬ (nt (sI I) ≤ nt s) := nt_nle (by omega) (by omega)
      have e5 : atv 84 (J 41) (60 + nt s) = I 41 (60 + s) := by rw [t41 hJ.1]; exact at_b 60 (by omega) (by decide)
      rw [r107_10]
      by_cases hsl : I 41 (60 + s) = -1
      · simp (config := {decide := true}) only [r107_11, r107_12, r107_15, r107_18, r107_21, r107_22, r107_23, r107_26, r107_29, r107_30, r107_31, r107_32, if_true, if_false, Nat.reduceAdd, Int32.reduceToNatClampNeg, lo_i, lo_r, lo_n, kont_v, kont_n, List.length_nil, List.length_cons, and_self, and_true, true_and, and_false, false_and, not_true, not_false_eq_true, true_or, or_true, bi_eq0, k12, k40, es, e1, c52 k40, e5, hsl]
        rw [r107_33 (by decide)]
        refine c109 hI (by omega) hJ (fun K hK hK2 hK4 hN => ?_)
        simp (config := {decide := true}) only [r107_36, r107_37, if_true, if_false, Nat.reduceAdd, Int32.reduceToNatClampNeg, lo_i, lo_r, lo_n, kont_v, kont_n, List.length_nil, List.length_cons]
        have dep := hI.1.1.2.2.2 s (by omega)
        have inner : ∀ m2 e, e + m2 = 64 → e ≠ 0 → ∀ K, Sm I K → (∀ k, k < 6 → K 63 k = nzk I (I 41) s k) → (∀ i, i < e → K 64 i = hrA I (I 41) s i) → (∀ i, i < 64 → K 62 i = trW I (I 41) (hrA I (I 41)) (if i < e then s + 1 else s) i) → ∀ v5, NL v5 → wp (d + 6) 107 39 [.ref (61 : Nat), .ref (39 : Nat), .ref (40 : Nat), .int (nt s), .int (nt e), v5] [] (mk n K L x) Φ := by
          intro m2
          induction m2 with
          | zero =>
            intro e he _ K hK hN hH hW2 v5 hv5
            have : e = 64 := by omega
            subst this
            rw [r107_39]
            simp (config := {decide := true}) only [r107_41, r107_43, r107_114, r107_117, if_true, if_false, Nat.reduceAdd, Int32.reduceToNatClampNeg, lo_i, lo_r, lo_n, kont_v, kont_n, List.length_nil, List.length_cons, nt_succ]
            exact ih (s + 1) (by omega) K hK (fun i hi => by rw [hW2 i hi, if_pos hi]) _ _ (lo_i _) hv5
          | succ m2 ih2 =>
            intro e he h0 K hK hN hH hW2 v5 hv5
            obtain ⟨b1, b2, b3, b4, b5, -⟩ := (low_a e (by omega)).resolve_left h0
            have f1 : ¬ ((64 : Int32) ≤ nt e) := nt_nle (m := 64) (by omega) (by decide)
            have f2 : (nt e).toNatClampNeg = e := nt_clamp (by omega)
            have f3 : (0 : Int32) ≤ nt e := nt_ge (by omega)
            have f4 : e < 64 := by omega
            have f5 : atv 6 (K 63) (nt (lowb e)) = nzk I (I 41) s (lowb e) := by rw [atv_nt b3 (by decide), hN _ b3]
            have f6 : atv 64 (K 64) (nt (clr e)) = hrA I (I 41) s (clr e) := by rw [atv_nt (by omega) (by decide), hH _ b4]
            have f7 := hrA_s (I := I) (f := I 41) (s := s) h6 f4 h0
            have f8 : ∀ v, wrI K 64 e v 64 e = v := fun v => wr_eq
            have f9 : ∀ v, wrI K 64 e v 13 = I 13 := fun v => by rw [wrI_ne (by decide)]; exact t13 hK.1
            have g9 : ∀ v, wrI K 64 e v 62 e = K 62 e := fun v => by rw [wrI_ne (by decide)]
            have g8 : atv 7 (I 13) (nt s) = I 13 s := atv_nt (by omega) (by decide)
            have g7 : K 62 e = trW I (I 41) (hrA I (I 41)) s e := by rw [hW2 e f4, if_neg (Nat.lt_irrefl e)]
            rw [r107_39]
            simp (config := {decide := true}) only [r107_41, r107_43, r107_46, r107_47, r107_50, r107_52, r107_55, r107_58, r107_60, r107_61, r107_64, r107_66, r107_67, r107_70, r107_72, r107_74, r107_75, r107_76, r107_77, r107_80, r107_82, r107_85, r107_86, r107_87, r107_89, r107_90, r107_93, r107_95, r107_96, r107_97, r107_100, r107_101, r107_104, r107_105, r107_108, r107_111, if_true, if_false, Nat.reduceAdd, Int32.reduceToNatClampNeg, lo_i, lo_r, lo_n, kont_v, kont_n, List.length_nil, List.length_cons, f1, f2, f3, f4, s63, s64, k12, c314 b5, b1, b2, c185, f5, f6, hv5, c316, f8, f9, g8, c82 k12, c110 f4, g9, g7, nt_succ]
            rw [← f7]
            have hsm : Sm I (wrI K 64 e (hrA I (I 41) s e)) := sm_w64 h0 hK
            have hN2 : ∀ k, k < 6 → wrI K 64 e (hrA I (I 41) s e) 63 k = nzk I (I 41) s k := fun k hk => by rw [wrI_ne (by decide)]; exact hN k hk
            have hH2 : ∀ i, i < e + 1 → wrI K 64 e (hrA I (I 41) s e) 64 i = hrA I (I 41) s i := by
              intro i hi
              by_cases hie : i = e
              · subst hie; exact wr_eq
              · rw [wr_k hie]; exact hH i (by omega)
            by_cases hp : I 13 s ≤ hrA I (I 41) s e ∧ trW I (I 41) (hrA I (I 41)) s e ≠ -1
            · have hc : nt e &&& (wnd (I 41) ^^^ -1) = 0 := by
                by_cases hc : nt e &&& (wnd (I 41) ^^^ -1) = 0
                · exact hc
                · exact absurd (if_neg hc) hp.2
              rw [if_pos hp]
              refine ih2 (e + 1) (by omega) (by omega) _ (sm_w (Or.inl rfl) hsm) ?_ ?_ ?_ _ (lo_i _)
              · intro k hk; rw [wrI_ne (by decide)]; exact hN2 k hk
              · intro i hi; rw [wrI_ne (by decide)]; exact hH2 i hi
              · intro i hi
                by_cases hie : i = e
                · subst hie
                  rw [wr_eq, if_pos (by omega)]
                  unfold trW
                  rw [if_pos hc, if_pos hc, wkp_s, if_pos hsl, if_pos hp.1]
                  rfl
                · rw [wr_k hie, wrI_ne (by decide), hW2 i hi]
                  by_cases h2 : i < e
                  · rw [if_pos h2, if_pos (by omega)]
                  · rw [if_neg h2, if_neg (by omega)]
            · rw [if_neg hp]
              refine ih2 (e + 1) (by omega) (by omega) _ hsm hN2 hH2 ?_ _ (lo_i _)
              intro i hi
              rw [wrI_ne (by decide), hW2 i hi]
              by_cases hie : i = e
              · subst hie
                rw [if_neg (Nat.lt_irrefl i), if_pos (by omega)]
                unfold trW at hp ⊢
                by_cases hc : nt i &&& (wnd (I 41) ^^^ -1) = 0
                · rw [if_pos hc] at hp ⊢
                  rw [if_pos hc, wkp_s, if_pos hsl, if_neg (fun q => hp ⟨q, wkp_ne (by omega)⟩)]
                · rw [if_neg hc, if_neg hc]
              · by_cases h2 : i < e
                · rw [if_pos h2, if_pos (by omega)]
                · rw [if_neg h2, if_neg (by omega)]
        refine inner 63 1 rfl (by decide) K hK hN ?_ ?_ _ hv5
        · intro i hi
          have : i = 0 := by omega
          subst this
          rw [hK4, show J 64 0 = 0 from (sm_inv hI hJ).2.2.2.2.2.2.2.1.2.2.2.2.2.2]
          exact hrA_0.symm
        · intro i hi
          rw [hK2, hW i hi]
          by_cases hi0 : i < 1
          · have : i = 0 := by omega
            subst this
            rw [if_pos hi0]
            unfold trW
            rw [wkp_0 dep hrA_0]
          · rw [if_neg hi0]
      · simp (config := {decide := true}) only [r107_11, r107_12, r107_15, r107_18, r107_21, r107_22, r107_23, r107_26, r107_29, r107_30, r107_31, r107_32, r107_114, r107_117, if_true, if_false, Nat.reduceAdd, Int32.reduceToNatClampNeg, lo_i, lo_r, lo_n, kont_v, kont_n, List.length_nil, List.length_cons, and_self, and_true, true_and, and_false, false_and, not_true, not_false_eq_true, true_or, or_true, bi_eq0, k12, k40, es, e1, c52 k40, e5, hsl, nt_succ]
        refine ih (s + 1) (by omega) J hJ (fun e he => ?_) v4 v5 hv4 hv5
        rw [hW e he]
        unfold trW
        rw [wkp_s, if_neg hsl]
  exact key (sI I) 0 (by omega) J hJ (fun e he => by rw [hW e he]; rfl) _ _ lo_n lo_n
end Q8
