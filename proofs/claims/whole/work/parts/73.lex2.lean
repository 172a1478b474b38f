/-! READING A TEXT: words -/
theorem s11' {n : Nat} : sh0 n 11 = (20, 600, []) := s11
def SG (J : Nat → Nat → Int32) (w : Nat) (W : List Nat) : Prop := K13 w ∧ J w 1 = 0 ∧ sLen.getD w 0 = W.length ∧ W.length < 1000 ∧ ∀ k, k < W.length → J (w + 3) k = nt (W.getD k 0) ∧ W.getD k 0 < 128
section Wo
variable {d n x N : Nat} {μ : PM} {Φ : POut → PM → Prop} {I J K : Nat → Nat → Int32} {L : Nat → Nat → Int64} {v c p s k q lo hi : Int32} {w : Nat} {W : List Nat}
theorem sg_tS (h : SG I w W) : SG (tS I p s k q) w W := by
  obtain ⟨h1, h2, h3, h4, h5⟩ := h
  have hw : w ≤ 2 := by rcases h1 with rfl | rfl | rfl <;> decide
  exact ⟨h1, by rw [tS_ne (by omega)]; exact h2, h3, h4, by rw [tS_ne (by omega)]; exact h5⟩
theorem c320 (h1 : K13 w) (h2 : J w 1 = 0) : wpc d 320 [.ref w] (mk n J L x) Φ ↔ Φ (.inl (some (.int 0))) (mk n J L x) := by
  show wp d 320 0 [.ref w] [] (mk n J L x) Φ ↔ _
  simp (config := {decide := true}) only [r320_0, r320_3, r320_6, r320_7, r320_10, r320_13, r320_14, if_true, if_false, Nat.reduceAdd, Int32.reduceToNatClampNeg, lo_i, lo_r, lo_n, kont_v, kont_n, List.length_nil, List.length_cons, h1, h2]
  exact Iff.rfl
theorem c321 (h1 : K13 w) (h2 : J w 1 = 0) : wpc d 321 [.ref w] (mk n J L x) Φ ↔ Φ (.inl (some (.int 1))) (mk n J L x) := by
  show wp d 321 0 [.ref w] [] (mk n J L x) Φ ↔ _
  simp (config := {decide := true}) only [r321_0, r321_3, r321_6, r321_7, r321_10, r321_13, r321_14, r321_17, r321_18, if_true, if_false, Nat.reduceAdd, Int32.reduceToNatClampNeg, lo_i, lo_r, lo_n, kont_v, kont_n, List.length_nil, List.length_cons, h1, h2, nb_1]
theorem c318 (h : SG J w W) : wpc (d + 1) 318 [.ref w] (mk n J L x) Φ ↔ Φ (.inl (some (.int (nt W.length)))) (mk n J L x) := by
  obtain ⟨h1, h2, h3, h4, h5⟩ := h
  have hw : w + 3 < 9 := by rcases h1 with rfl | rfl | rfl <;> decide
  have e : ∀ a : Int32, a >>> ((0 : Int32) &&& 31) = a := fun a => by
    rw [show ((0 : Int32) &&& 31) = 0 from by decide]
    exact Int32.shiftRight_zero
  show wp (d + 1) 318 0 [.ref w] [] (mk n J L x) Φ ↔ _
  simp (config := {decide := true}) only [r318_0, r318_1, r318_4, r318_5, r318_6, r318_9, r318_10, if_true, if_false, Nat.reduceAdd, Int32.reduceToNatClampNeg, lo_i, lo_r, lo_n, kont_v, kont_n, List.length_nil, List.length_cons, h1, c320 h1 h2, sh13a h1, hw, h3, e, show w + 3 < 560 by omega, true_and, or_true, true_or]
theorem c329 {a m : Nat} (h : a < m) (hm : m < 2147483648) {r : Nat} : wpc d 329 [.int (nt a), .int (nt m), .ref r] μ Φ ↔ Φ (.inl (some (.int (nt a)))) μ := by
  have e1 : ¬ (nt a < 0) := Int32.not_lt.mpr (nt_ge (by omega))
  have e2 : nt a < nt m := by rw [nt_lt (by omega) hm]; exact h
  show wp d 329 0 [.int (nt a), .int (nt m), .ref r] [] μ Φ ↔ _
  simp (config := {decide := true}) only [r329_0, r329_1, r329_4, r329_5, r329_6, r329_9, r329_10, r329_11, r329_16, r329_17, if_true, if_false, Nat.reduceAdd, Int32.reduceToNatClampNeg, lo_i, lo_r, lo_n, kont_v, kont_n, List.length_nil, List.length_cons, e1, e2]
theorem c322 {a m : Nat} (h : a < m) (hm : m < 2147483648) : wpc (d + 1) 322 [.int (nt a), .int (nt m)] μ Φ ↔ Φ (.inl none) μ := by
  show wp (d + 1) 322 0 [.int (nt a), .int (nt m)] [] μ Φ ↔ _
  simp (config := {decide := true}) only [r322_0, r322_1, r322_2, r322_5, r322_8, r322_9, if_true, if_false, Nat.reduceAdd, Int32.reduceToNatClampNeg, lo_i, lo_r, lo_n, kont_v, kont_n, List.length_nil, List.length_cons, c329 h hm]
theorem ch_f {a : Nat} (h : a < 128) : ((nt a &&& 255).toUInt32 % 65536).toInt32 = nt a := by
  have : ∀ a : Fin 128, ((nt a.1 &&& 255).toUInt32 % 65536).toInt32 = nt a.1 := by decide +kernel
  exact this ⟨a, h⟩
theorem ch_n {a : Nat} (h : a < 128) : narrow .char (.int (nt a)) = .int (nt a) := by
  have : ∀ a : Fin 128, ((nt a.1).toUInt32 % 65536).toInt32 = nt a.1 := by decide +kernel
  show Value.int _ = _
  rw [← this ⟨a, h⟩]
  exact congrArg Value.int (by rw [this ⟨a, h⟩]; exact this ⟨a, h⟩)
theorem c319 (h : SG J w W) {i : Nat} (hi : i < W.length) : wpc (d + 3) 319 [.ref w, .int (nt i)] (mk n J L x) Φ ↔ Φ (.inl (some (.int (nt (W.getD i 0))))) (mk n J L x) := by
  obtain ⟨h1, h2, h3, h4, h5⟩ := h
  obtain ⟨h6, h7⟩ := h5 i hi
  have hw : w + 3 < 9 := by rcases h1 with rfl | rfl | rfl <;> decide
  have e1 : (nt i).toNatClampNeg = i := nt_clamp (by omega)
  have e2 : (0 : Int32) ≤ nt i := nt_ge (by omega)
  have c323 : ∀ Ψ : POut → PM → Prop, wpc (d + 2) 323 [.ref (w + 3), .int (nt i)] (mk n J L x) Ψ ↔ Ψ (.inl (some (.int (nt (W.getD i 0))))) (mk n J L x) := by
    intro Ψ
    show wp (d + 2) 323 0 [.ref (w + 3), .int (nt i)] [] (mk n J L x) Ψ ↔ _
    simp (config := {decide := true}) only [r323_0, r323_1, r323_2, r323_3, r323_6, r323_7, r323_8, r323_9, r323_12, r323_13, r323_14, if_true, if_false, Nat.reduceAdd, Int32.reduceToNatClampNeg, lo_i, lo_r, lo_n, kont_v, kont_n, List.length_nil, List.length_cons, sh13a h1, hw, h3, show w + 3 < 560 by omega, true_and, or_true, true_or, c322 hi (show W.length < 2147483648 by omega), e1, e2, hi, h6, ch_f h7, ch_n h7]
  show wp (d + 3) 319 0 [.ref w, .int (nt i)] [] (mk n J L x) Φ ↔ _
  simp (config := {decide := true}) only [r319_0, r319_1, r319_4, r319_7, r319_8, r319_11, r319_12, r319_15, r319_16, r319_17, r319_20, r319_21, r319_24, if_true, if_false, Nat.reduceAdd, Int32.reduceToNatClampNeg, lo_i, lo_r, lo_n, kont_v, kont_n, List.length_nil, List.length_cons, h1, c321 h1 h2, c323, ch_n h7]
/-- where a word of the string stands in the text -/
def wAt (B : Nat → Int32) (b : Nat) (W : List Nat) (o m : Nat) : Bool := (List.range m).all (fun i => decide (nt (W.getD (o + i) 0) = B (b + i)))
theorem wAt_iff {B : Nat → Int32} {b o m : Nat} : wAt B b W o m = true ↔ ∀ i, i < m → nt (W.getD (o + i) 0) = B (b + i) := by
  unfold wAt
  rw [List.all_eq_true]
  constructor
  · intro h i hi; exact of_decide_eq_true (h i (List.mem_range.mpr hi))
  · intro h i hi; exact decide_eq_true (h i (List.mem_range.mp hi))
theorem c102f (hk : k ≠ 0) {a b : Int32} : wpc (d + 1) 102 [.ref (10 : Nat), .ref w, .int a, .int b] (mk n (tS I p s k q) L x) Φ ↔ Φ (.inl (some (.int 0))) (mk n (tS I p s k q) L x) := by
  show wp (d + 1) 102 0 [.ref (10 : Nat), .ref w, .int a, .int b, noV] [] (mk n (tS I p s k q) L x) Φ ↔ _
  have e : ¬ bi (k ≠ 0) = 0 := by rw [bi_t hk]; decide
  simp (config := {decide := true}) only [r102_0, r102_1, r102_4, r102_7, r102_8, r102_11, r102_12, r102_15, r102_16, r102_17, r102_18, r102_19, r102_22, r102_23, r102_24, r102_25, if_true, if_false, Nat.reduceAdd, Int32.reduceToNatClampNeg, lo_i, lo_r, lo_n, kont_v, kont_n, List.length_nil, List.length_cons, c95, e, nb_0]
theorem c102 (hS : SG I w W) {e b o m : Nat} (hbe : b ≤ e) (he : e ≤ 600) (hm : o + m ≤ W.length) : wpc (d + 4) 102 [.ref (10 : Nat), .ref w, .int (nt o), .int (nt (o + m))] (mk n (tS I (nt e) (nt b) 0 q) L x) Φ ↔ Φ (.inl (some (.int (if e - b = m ∧ wAt (I 11) b W o m = true then 1 else 0)))) (mk n (tS I (nt e) (nt b) 0 q) L x) := by
  have hl : W.length < 1000 := hS.2.2.2.1
  have h13 : K13 w := hS.1
  have z : bi ((0 : Int32) ≠ 0) = 0 := bi_f (fun h => h rfl)
  show wp (d + 4) 102 0 [.ref (10 : Nat), .ref w, .int (nt o), .int (nt (o + m)), noV] [] (mk n (tS I (nt e) (nt b) 0 q) L x) Φ ↔ _
  have e1 : nt e - nt b = nt (e - b) := nt_sub hbe
  have e2 : nt (o + m) - nt o = nt m := by rw [nt_sub (by omega), show o + m - o = m by omega]
  have e3 : (nt (e - b) = nt m) = (e - b = m) := nt_inj (by omega) (by omega)
  by_cases hem : e - b = m
  · have hif : (if e - b = m ∧ wAt (I 11) b W o m = true then (1 : Int32) else 0) = (if wAt (I 11) b W o m = true then 1 else 0) := by simp [hem]
    rw [hif]
    simp (config := {decide := true}) only [r102_0, r102_1, r102_4, r102_7, r102_8, r102_11, r102_12, r102_15, r102_16, r102_17, r102_18, r102_19, r102_22, r102_23, r102_24, r102_25, if_true, if_false, Nat.reduceAdd, Int32.reduceToNatClampNeg, lo_i, lo_r, lo_n, kont_v, kont_n, List.length_nil, List.length_cons, c95, z, tS_3, tS_4, e1, e2, e3, hem]
    have key : ∀ r j, j + r = m → (∀ i, i < j → nt (W.getD (o + i) 0) = I 11 (b + i)) → (wp (d + 4) 102 27 [.ref (10 : Nat), .ref w, .int (nt o), .int (nt (o + m)), .int (nt (o + j))] [] (mk n (tS I (nt e) (nt b) 0 q) L x) Φ ↔ Φ (.inl (some (.int (if wAt (I 11) b W o m = true then 1 else 0)))) (mk n (tS I (nt e) (nt b) 0 q) L x)) := by
      intro r
      induction r with
      | zero =>
        intro j hj hp
        have e4 : nt (o + m) ≤ nt (o + j) := by rw [nt_le (by omega) (by omega)]; omega
        have e5 : wAt (I 11) b W o m = true := wAt_iff.mpr (fun i hi => hp i (by omega))
        rw [r102_27]
        simp (config := {decide := true}) only [r102_29, r102_30, r102_33, r102_35, r102_36, r102_39, r102_42, r102_43, r102_45, r102_48, r102_49, r102_52, r102_53, r102_56, r102_58, r102_59, r102_60, r102_61, r102_64, r102_67, r102_68, r102_69, r102_72, r102_75, r102_76, if_true, if_false, Nat.reduceAdd, Int32.reduceToNatClampNeg, lo_i, lo_r, lo_n, kont_v, kont_n, List.length_nil, List.length_cons, e4, e5, nb_1]
      | succ r ih =>
        intro j hj hp
        have e4 : ¬ (nt (o + m) ≤ nt (o + j)) := nt_nle (by omega) (by omega)
        have e5 : ¬ (nt W.length ≤ nt (o + j)) := nt_nle (by omega) (by omega)
        have e6 : nt b + nt (o + j) - nt o = nt (b + j) := by rw [nt_add, nt_sub (by omega)]; congr 1; omega
        have e7 : atv 600 (I 11) (nt (b + j)) = I 11 (b + j) := atv_nt (by omega) (by decide)
        have hS2 := sg_tS (p := nt e) (s := nt b) (k := 0) (q := q) hS
        rw [r102_27]
        by_cases hc : nt (W.getD (o + j) 0) = I 11 (b + j)
        · simp (config := {decide := true}) only [r102_29, r102_30, r102_33, r102_35, r102_36, r102_39, r102_42, r102_43, r102_45, r102_48, r102_49, r102_52, r102_53, r102_56, r102_58, r102_59, r102_60, r102_61, r102_64, r102_67, r102_68, r102_69, r102_72, r102_75, r102_76, if_true, if_false, Nat.reduceAdd, Int32.reduceToNatClampNeg, lo_i, lo_r, lo_n, kont_v, kont_n, List.length_nil, List.length_cons, e4, h13, c318 hS2, e5, c319 hS2 (show o + j < W.length by omega), tS_4, e6, tS_11, s11, c185, e7, hc, nt_succ]
          exact ih (j + 1) (by omega) (fun i hi => by
            by_cases h : i = j
            · rw [h]; exact hc
            · exact hp i (by omega))
        · have e8 : ¬ wAt (I 11) b W o m = true := fun z => hc (wAt_iff.mp z j (by omega))
          simp (config := {decide := true}) only [r102_29, r102_30, r102_33, r102_35, r102_36, r102_39, r102_42, r102_43, r102_45, r102_48, r102_49, r102_52, r102_53, r102_56, r102_58, r102_59, r102_60, r102_61, r102_64, r102_67, r102_68, r102_69, r102_72, r102_75, r102_76, if_true, if_false, Nat.reduceAdd, Int32.reduceToNatClampNeg, lo_i, lo_r, lo_n, kont_v, kont_n, List.length_nil, List.length_cons, e4, h13, c318 hS2, e5, c319 hS2 (show o + j < W.length by omega), tS_4, e6, tS_11, s11, c185, e7, hc, e8, nb_0]
    exact key m 0 (by omega) (fun i hi => absurd hi (by omega))
  · rw [if_neg (fun z => hem z.1)]
    simp (config := {decide := true}) only [r102_0, r102_1, r102_4, r102_7, r102_8, r102_11, r102_12, r102_15, r102_16, r102_17, r102_18, r102_19, r102_22, r102_23, r102_24, r102_25, if_true, if_false, Nat.reduceAdd, Int32.reduceToNatClampNeg, lo_i, lo_r, lo_n, kont_v, kont_n, List.length_nil, List.length_cons, c95, z, tS_3, tS_4, e1, e2, e3, hem, nb_0]
/-- the words of a string -/
def swB (W : List Nat) : Nat → List (List Nat) → Bool
  | _, [] => false
  | o, w :: r => decide (0 < w.length) && (List.range w.length).all (fun i => decide (W.getD (o + i) 0 = w.getD i 0 ∧ W.getD (o + i) 0 ≠ 32)) && (match r with
    | [] => decide (o + w.length = W.length)
    | _ :: _ => decide (o + w.length < W.length ∧ W.getD (o + w.length) 0 = 32) && swB W (o + w.length + 1) r)
def fnP (P : Nat → Nat → Prop) [DecidableRel P] : Nat → List (List Nat) → Nat → Option Nat
  | _, [], _ => none
  | o, w :: r, k => if P o w.length then some k else fnP P (o + w.length + 1) r (k + 1)
theorem fnP_false {o k : Nat} {ws : List (List Nat)} : fnP (fun _ _ => False) o ws k = none := by
  induction ws generalizing o k with
  | nil => rfl
  | cons w r ih => unfold fnP; rw [if_neg id]; exact ih
theorem words_loop (hS : SG J w W) (P : Nat → Nat → Prop) [DecidableRel P] (hP : ∀ o m Ψ, o + m ≤ W.length → (wpc (d + 4) 102 [.ref (10 : Nat), .ref w, .int (nt o), .int (nt (o + m))] (mk n J L x) Ψ ↔ Ψ (.inl (some (.int (if P o m then 1 else 0)))) (mk n J L x))) : ∀ (ws : List (List Nat)) (o k : Nat), swB W o ws = true → k + ws.length < 1000 → (∀ j, fnP P o ws k = some j → Φ (.inl (some (.int (nt j)))) (mk n J L x)) → (fnP P o ws k = none → ∀ a b c, wp (d + 5) 101 115 [.ref (10 : Nat), .ref w, .int a, .int b, .int c] [] (mk n J L x) Φ) → wp (d + 5) 101 53 [.ref (10 : Nat), .ref w, .int (nt k), .int (nt o), .int (nt o)] [] (mk n J L x) Φ := by
  have hl : W.length < 1000 := hS.2.2.2.1
  have h13 : K13 w := hS.1
  have walk : ∀ m i (k o : Nat), i + m ≤ W.length → (∀ j, i ≤ j → j < i + m → W.getD j 0 ≠ 32) → wp (d + 5) 101 53 [.ref (10 : Nat), .ref w, .int (nt k), .int (nt o), .int (nt (i + m))] [] (mk n J L x) Φ → wp (d + 5) 101 53 [.ref (10 : Nat), .ref w, .int (nt k), .int (nt o), .int (nt i)] [] (mk n J L x) Φ := by
    intro m
    induction m with
    | zero => intro i k o _ _ h; exact h
    | succ m ih =>
      intro i k o hi hc hw
      have e1 : ¬ (nt W.length < nt i) := by rw [nt_lt (by omega) (by omega)]; omega
      have e2 : ¬ (nt i = nt W.length) := by rw [nt_inj (by omega) (by omega)]; omega
      have hlt := (hS.2.2.2.2 i (by omega)).2
      have e3 : ¬ (nt (W.getD i 0) = 32) := by
        rw [show (32 : Int32) = nt 32 from rfl, nt_inj (by omega) (by decide)]
        exact hc i (Nat.le_refl i) (by omega)
      rw [r101_53]
      simp (config := {decide := true}) only [r101_55, r101_56, r101_59, r101_62, r101_64, r101_65, r101_68, r101_71, r101_72, r101_74, r101_77, r101_79, r101_82, r101_84, r101_85, r101_88, r101_89, r101_90, r101_91, r101_93, r101_96, r101_99, r101_100, r101_101, r101_104, r101_106, r101_107, r101_108, r101_109, r101_112, r101_115, if_true, if_false, Nat.reduceAdd, Int32.reduceToNatClampNeg, lo_i, lo_r, lo_n, kont_v, kont_n, List.length_nil, List.length_cons, h13, c318 hS, e1, e2, c319 hS (show i < W.length by omega), e3, nt_succ]
      exact ih (i + 1) k o (by omega) (fun j h1 h2 => hc j (by omega) (by omega)) (by rw [show i + 1 + m = i + (m + 1) by omega]; exact hw)
  intro ws
  induction ws with
  | nil => intro o k h; exact absurd h Bool.false_ne_true
  | cons u r ih =>
    intro o k hB hk hok hno
    unfold fnP at hok hno
    unfold swB at hB
    rw [Bool.and_eq_true, Bool.and_eq_true, List.all_eq_true] at hB
    obtain ⟨⟨hu, hall⟩, hr⟩ := hB
    replace hu := of_decide_eq_true hu
    have hin : ∀ i, i < u.length → W.getD (o + i) 0 ≠ 32 := fun i hi => (of_decide_eq_true (hall i (List.mem_range.mpr hi))).2
    have hle : o + u.length ≤ W.length := by
      cases r with
      | nil => exact Nat.le_of_eq (of_decide_eq_true hr)
      | cons u2 r2 =>
        simp only [Bool.and_eq_true] at hr
        exact Nat.le_of_lt (of_decide_eq_true hr.1).1
    refine walk u.length o k o hle (fun j h1 h2 => by
      obtain ⟨i, rfl⟩ : ∃ i, j = o + i := ⟨j - o, by omega⟩
      exact hin i (by omega)) ?_
    have e1 : ¬ (nt W.length < nt (o + u.length)) := by rw [nt_lt (by omega) (by omega)]; omega
    have e4 : ¬ (nt (o + u.length) ≤ nt o) := nt_nle (by omega) (by omega)
    have e5 : ¬ ((1 : Int32) = 0) := by decide
    rw [List.length_cons] at hk
    rw [r101_53]
    cases r with
    | nil =>
      have hend := of_decide_eq_true hr
      have e2' : (nt (o + u.length) = nt W.length) = True := eq_true (by rw [hend])
      by_cases hp : P o u.length
      · rw [if_pos hp] at hok
        simp (config := {decide := true}) only [r101_55, r101_56, r101_59, r101_62, r101_64, r101_65, r101_68, r101_71, r101_72, r101_74, r101_77, r101_79, r101_82, r101_84, r101_85, r101_88, r101_89, r101_90, r101_91, r101_93, r101_96, r101_99, r101_100, r101_101, r101_104, r101_106, r101_107, r101_108, r101_109, r101_112, r101_115, if_true, if_false, Nat.reduceAdd, Int32.reduceToNatClampNeg, lo_i, lo_r, lo_n, kont_v, kont_n, List.length_nil, List.length_cons, h13, c318 hS, e1, e2', e4, hP o u.length _ hle, hp, e5]
        exact hok k rfl
      · rw [if_neg hp] at hno
        simp (config := {decide := true}) only [r101_55, r101_56, r101_59, r101_62, r101_64, r101_65, r101_68, r101_71, r101_72, r101_74, r101_77, r101_79, r101_82, r101_84, r101_85, r101_88, r101_89, r101_90, r101_91, r101_93, r101_96, r101_99, r101_100, r101_101, r101_104, r101_106, r101_107, r101_108, r101_109, r101_112, r101_115, if_true, if_false, Nat.reduceAdd, Int32.reduceToNatClampNeg, lo_i, lo_r, lo_n, kont_v, kont_n, List.length_nil, List.length_cons, h13, c318 hS, e1, e2', e4, hP o u.length _ hle, hp, nt_succ]
        have e6 : nt W.length < nt (o + u.length + 1) := by rw [nt_lt (by omega) (by omega)]; omega
        rw [r101_53]
        simp (config := {decide := true}) only [r101_55, r101_56, r101_59, r101_62, r101_64, r101_65, r101_68, r101_71, r101_72, r101_74, r101_77, r101_79, r101_82, r101_84, r101_85, r101_88, r101_89, r101_90, r101_91, r101_93, r101_96, r101_99, r101_100, r101_101, r101_104, r101_106, r101_107, r101_108, r101_109, r101_112, if_true, if_false, Nat.reduceAdd, Int32.reduceToNatClampNeg, lo_i, lo_r, lo_n, kont_v, kont_n, List.length_nil, List.length_cons, h13, c318 hS, e6]
        exact hno rfl _ _ _
    | cons u2 r2 =>
      simp only [Bool.and_eq_true] at hr
      obtain ⟨h1, h2⟩ := of_decide_eq_true hr.1
      have e2 : ¬ (nt (o + u.length) = nt W.length) := by rw [nt_inj (by omega) (by omega)]; omega
      by_cases hp : P o u.length
      · rw [if_pos hp] at hok
        simp (config := {decide := true}) only [r101_55, r101_56, r101_59, r101_62, r101_64, r101_65, r101_68, r101_71, r101_72, r101_74, r101_77, r101_79, r101_82, r101_84, r101_85, r101_88, r101_89, r101_90, r101_91, r101_93, r101_96, r101_99, r101_100, r101_101, r101_104, r101_106, r101_107, r101_108, r101_109, r101_112, r101_115, if_true, if_false, Nat.reduceAdd, Int32.reduceToNatClampNeg, lo_i, lo_r, lo_n, kont_v, kont_n, List.length_nil, List.length_cons, h13, c318 hS, e1, e2, c319 hS h1, h2, show nt 32 = 32 from rfl, e4, hP o u.length _ hle, hp, e5]
        exact hok k rfl
      · rw [if_neg hp] at hok hno
        simp (config := {decide := true}) only [r101_55, r101_56, r101_59, r101_62, r101_64, r101_65, r101_68, r101_71, r101_72, r101_74, r101_77, r101_79, r101_82, r101_84, r101_85, r101_88, r101_89, r101_90, r101_91, r101_93, r101_96, r101_99, r101_100, r101_101, r101_104, r101_106, r101_107, r101_108, r101_109, r101_112, r101_115, if_true, if_false, Nat.reduceAdd, Int32.reduceToNatClampNeg, lo_i, lo_r, lo_n, kont_v, kont_n, List.length_nil, List.length_cons, h13, c318 hS, e1, e2, c319 hS h1, h2, show nt 32 = 32 from rfl, e4, hP o u.length _ hle, hp, nt_succ]
        exact ih (o + u.length + 1) (k + 1) hr.2 (by omega) hok hno
theorem fnP_fnd {B : Nat → Int32} {b : Nat} : ∀ (ws : List (List Nat)) (o k : Nat), swB W o ws = true → fnP (fun o m => endF isLt B N b - b = m ∧ wAt B b W o m = true) o ws k = fndW B N b ws k := by
  intro ws
  induction ws with
  | nil => intro o k h; rfl
  | cons u r ih =>
    intro o k hB
    unfold fnP fndW
    unfold swB at hB
    rw [Bool.and_eq_true, Bool.and_eq_true, List.all_eq_true] at hB
    obtain ⟨⟨hu, hall⟩, hr⟩ := hB
    have hc : (endF isLt B N b - b = u.length ∧ wAt B b W o u.length = true) ↔ wdIs B N b u = true := by
      unfold wdIs
      rw [Bool.and_eq_true, decide_eq_true_iff, List.all_eq_true, wAt_iff]
      refine and_congr Iff.rfl ⟨fun h i hi => ?_, fun h i hi => ?_⟩
      · have := h i (List.mem_range.mp hi)
        rw [(of_decide_eq_true (hall i hi)).1] at this
        exact decide_eq_true this.symm
      · have := of_decide_eq_true (h i (List.mem_range.mpr hi))
        rw [(of_decide_eq_true (hall i (List.mem_range.mpr hi))).1]
        exact this.symm
    by_cases hp : wdIs B N b u = true
    · rw [if_pos (hc.mpr hp), if_pos hp]
    · rw [if_neg (fun z => hp (hc.mp z)), if_neg hp]
      cases r with
      | nil => rfl
      | cons u2 r2 =>
        simp only [Bool.and_eq_true] at hr
        exact ih _ _ hr.2
theorem letters (hT : TX I N) {k q s : Int32} {a : Nat} (ha : a ≤ N) {r : List Value} (h : wp (d + 5) 101 46 (.ref (10 : Nat) :: r) [] (mk n (tS I (nt (endF isLt (I 11) N a)) s k q) L x) Φ) : wp (d + 5) 101 5 (.ref (10 : Nat) :: r) [] (mk n (tS I (nt a) s k q) L x) Φ := by
  obtain ⟨h2, hN, hB⟩ := id hT
  have t2 : ∀ p s k q, tS I p s k q 10 2 = nt N := fun p s k q => tS_2.trans h2
  revert ha h
  refine end_ind (P := isLt) (B := I 11) (N := N) (C := fun a => a ≤ N → wp (d + 5) 101 46 (.ref (10 : Nat) :: r) [] (mk n (tS I (nt (endF isLt (I 11) N a)) s k q) L x) Φ → wp (d + 5) 101 5 (.ref (10 : Nat) :: r) [] (mk n (tS I (nt a) s k q) L x) Φ) ?_ ?_ a
  · intro c hc hcN hw
    rw [endF_no hc] at hw
    rw [r101_5]
    by_cases h1 : c < N
    · have e1 : ¬ (nt N ≤ nt c) := nt_nle h1 (by omega)
      have e2 : atv 600 (I 11) (nt c) = I 11 c := atv_nt (by omega) (by decide)
      have e3 : ¬ isLt (I 11 c) = true := fun z => hc ⟨h1, z⟩
      simp (config := {decide := true}) only [r101_6, r101_9, r101_10, r101_13, r101_16, r101_17, r101_20, r101_21, r101_24, r101_27, r101_30, r101_33, r101_34, r101_35, r101_38, r101_39, r101_40, r101_43, if_true, if_false, Nat.reduceAdd, Int32.reduceToNatClampNeg, lo_i, lo_r, lo_n, kont_v, kont_n, List.length_nil, List.length_cons, tS_3, t2, tS_11, e1, s11, c185, e2, c104, e3]
      exact hw
    · have e1 : nt N ≤ nt c := by rw [nt_le (by omega) (by omega)]; omega
      simp (config := {decide := true}) only [r101_6, r101_9, r101_10, r101_13, r101_16, r101_17, r101_20, r101_21, r101_24, r101_27, r101_30, r101_33, r101_34, r101_35, r101_38, r101_39, r101_40, r101_43, if_true, if_false, Nat.reduceAdd, Int32.reduceToNatClampNeg, lo_i, lo_r, lo_n, kont_v, kont_n, List.length_nil, List.length_cons, tS_3, t2, e1]
      exact hw
  · intro c h1 hdc ih hcN hw
    have e1 : ¬ (nt N ≤ nt c) := nt_nle h1 (by omega)
    have e2 : atv 600 (I 11) (nt c) = I 11 c := atv_nt (by omega) (by decide)
    rw [endF_go h1 hdc] at hw
    rw [r101_5]
    simp (config := {decide := true}) only [r101_6, r101_9, r101_10, r101_13, r101_16, r101_17, r101_20, r101_21, r101_24, r101_27, r101_30, r101_33, r101_34, r101_35, r101_38, r101_39, r101_40, r101_43, if_true, if_false, Nat.reduceAdd, Int32.reduceToNatClampNeg, lo_i, lo_r, lo_n, kont_v, kont_n, List.length_nil, List.length_cons, tS_3, t2, tS_11, e1, s11, c185, e2, c104, hdc, tS_w3, nt_succ]
    exact ih (by omega) hw
theorem c101 (hT : TX I N) (hS : SG I w W) {ws : List (List Nat)} (hW : swB W 0 ws = true) (hn : ws.length < 1000) {t : LSt} (hJ : CT I J N t) (hok : ∀ a, t = .inl a → ∀ j b, rWrd (I 11) N ws a = .inl (j, b) → ∀ q, q = -1 → b ≤ N → Φ (.inl (some (.int (nt j)))) (mk n (tS I (nt b) (nt (skp (I 11) N a)) 0 q) L x)) (hbad : ∀ a, t = .inl a → ∀ e, rWrd (I 11) N ws a = .inr e → ∀ K, CT I K N (.inr e) → Φ (.inl (some (.int (-1)))) (mk n K L x)) (hf : ∀ e, t = .inr e → ∀ K, CT I K N (.inr e) → Φ (.inl (some (.int (-1)))) (mk n K L x)) : wpc (d + 5) 101 [.ref (10 : Nat), .ref w] (mk n J L x) Φ := by
  cases t with
  | inr e =>
    obtain ⟨h0, h1, a, s, ha, rfl⟩ := hJ
    have hk := kf h0 h1
    show wp (d + 5) 101 0 [.ref (10 : Nat), .ref w, noV, noV, noV] [] (mk n (tS I (nt a) s (nt e.1) (nt e.2)) L x) Φ
    simp (config := {decide := true}) only [r101_0, r101_1, r101_4, if_true, if_false, Nat.reduceAdd, Int32.reduceToNatClampNeg, lo_i, lo_r, lo_n, kont_v, kont_n, List.length_nil, List.length_cons, c97f hk]
    refine letters hT ha ?_
    simp (config := {decide := true}) only [r101_46, r101_47, r101_48, r101_49, r101_50, r101_51, if_true, if_false, Nat.reduceAdd, Int32.reduceToNatClampNeg, lo_i, lo_r, lo_n, kont_v, kont_n, List.length_nil, List.length_cons]
    refine words_loop (sg_tS hS) (fun _ _ => False) (fun o m Ψ _ => ?_) ws 0 0 hW (by omega) ?_ ?_
    · rw [if_neg id]; exact c102f hk
    · intro j hj; rw [fnP_false] at hj; exact absurd hj (by simp)
    · intro _ a b c
      simp (config := {decide := true}) only [r101_115, r101_116, r101_117, r101_120, r101_121, if_true, if_false, Nat.reduceAdd, Int32.reduceToNatClampNeg, lo_i, lo_r, lo_n, kont_v, kont_n, List.length_nil, List.length_cons, c96, hk]
      exact hf e rfl _ (ct_f h0 h1 (endF_le ha))
  | inl a =>
    obtain ⟨ha, s, q, hq, rfl⟩ := hJ
    replace hok := hok a rfl
    replace hbad := hbad a rfl
    have hle : skp (I 11) N a ≤ N := endF_le ha
    have hN := hT.2.1
    show wp (d + 5) 101 0 [.ref (10 : Nat), .ref w, noV, noV, noV] [] (mk n (tS I (nt a) s 0 q) L x) Φ
    simp (config := {decide := true}) only [r101_0, r101_1, r101_4, if_true, if_false, Nat.reduceAdd, Int32.reduceToNatClampNeg, lo_i, lo_r, lo_n, kont_v, kont_n, List.length_nil, List.length_cons, c97 hT ha]
    unfold rWrd at hok hbad
    generalize skp (I 11) N a = b at hle hok hbad ⊢
    refine letters hT hle ?_
    have hee : endF isLt (I 11) N b ≤ N := endF_le hle
    simp (config := {decide := true}) only [r101_46, r101_47, r101_48, r101_49, r101_50, r101_51, if_true, if_false, Nat.reduceAdd, Int32.reduceToNatClampNeg, lo_i, lo_r, lo_n, kont_v, kont_n, List.length_nil, List.length_cons]
    refine words_loop (sg_tS hS) (fun o m => endF isLt (I 11) N b - b = m ∧ wAt (I 11) b W o m = true) (fun o m Ψ hm => c102 hS endF_ge (by omega) hm) ws 0 0 hW (by omega) ?_ ?_
    · intro j hj
      rw [fnP_fnd ws 0 0 hW] at hj
      exact hok j _ (by rw [hj]) q hq hee
    · intro hj a b c
      rw [fnP_fnd ws 0 0 hW] at hj
      simp (config := {decide := true}) only [r101_115, r101_116, r101_117, r101_120, r101_121, if_true, if_false, Nat.reduceAdd, Int32.reduceToNatClampNeg, lo_i, lo_r, lo_n, kont_v, kont_n, List.length_nil, List.length_cons, c96]
      exact hbad _ (by rw [hj]) _ (ct_f (by decide) (by decide) hee)
theorem c101a (hT : TX I N) (hS : SG I w W) {ws : List (List Nat)} (hW : swB W 0 ws = true) (hn : ws.length < 1000) {a : Nat} (hJ : CT I J N (.inl a)) (hok : ∀ j b, rWrd (I 11) N ws a = .inl (j, b) → ∀ q, q = -1 → b ≤ N → Φ (.inl (some (.int (nt j)))) (mk n (tS I (nt b) (nt (skp (I 11) N a)) 0 q) L x)) (hbad : ∀ e, rWrd (I 11) N ws a = .inr e → ∀ K, CT I K N (.inr e) → Φ (.inl (some (.int (-1)))) (mk n K L x)) : wpc (d + 5) 101 [.ref (10 : Nat), .ref w] (mk n J L x) Φ := c101 hT hS hW hn hJ (fun a' h => by cases h; exact hok) (fun a' h => by cases h; exact hbad) (fun e h => by cases h)
theorem c101f (hT : TX I N) (hS : SG I w W) {ws : List (List Nat)} (hW : swB W 0 ws = true) (hn : ws.length < 1000) {e : Nat × Nat} (hJ : CT I J N (.inr e)) (h : ∀ K, CT I K N (.inr e) → Φ (.inl (some (.int (-1)))) (mk n K L x)) : wpc (d + 5) 101 [.ref (10 : Nat), .ref w] (mk n J L x) Φ := c101 hT hS hW hn hJ (fun a' h => by cases h) (fun a' h => by cases h) (fun e' he => by cases he; exact h)
theorem c99 (hT : TX I N) {t : LSt} (hJ : CT I J N t) (h : ∀ K, CT I K N (lSig (I 11) N (-1) t) ∨ (∃ a, t = .inl a ∧ cur (I 11) N (skp (I 11) N a) = -1 ∧ CT I K N (.inl (skp (I 11) N a))) → Φ (.inl none) (mk n K L x)) : wpc (d + 1) 99 [.ref (10 : Nat)] (mk n J L x) Φ := by
  cases t with
  | inl a =>
    obtain ⟨ha, s, q, hq, rfl⟩ := hJ
    show wp (d + 1) 99 0 [.ref (10 : Nat)] [] (mk n (tS I (nt a) s 0 q) L x) Φ
    simp only [lSig] at h
    by_cases h1 : cur (I 11) N (skp (I 11) N a) = -1
    · simp (config := {decide := true}) only [r99_0, r99_1, r99_4, r99_5, r99_8, r99_9, r99_10, r99_13, if_true, if_false, Nat.reduceAdd, Int32.reduceToNatClampNeg, lo_i, lo_r, lo_n, kont_v, kont_n, List.length_nil, List.length_cons, c97 hT ha, h1]
      exact h _ (Or.inr ⟨a, rfl, h1, ct_ok hq (endF_le ha)⟩)
    · rw [if_neg h1] at h
      simp (config := {decide := true}) only [r99_0, r99_1, r99_4, r99_5, r99_8, r99_9, r99_10, r99_13, if_true, if_false, Nat.reduceAdd, Int32.reduceToNatClampNeg, lo_i, lo_r, lo_n, kont_v, kont_n, List.length_nil, List.length_cons, c97 hT ha, h1, c96]
      exact h _ (Or.inl (ct_f (by decide) (by decide) (endF_le ha)))
  | inr e =>
    obtain ⟨h0, h1, a, s, ha, rfl⟩ := hJ
    have hk := kf h0 h1
    show wp (d + 1) 99 0 [.ref (10 : Nat)] [] (mk n (tS I (nt a) s (nt e.1) (nt e.2)) L x) Φ
    simp (config := {decide := true}) only [r99_0, r99_1, r99_4, r99_5, r99_8, r99_9, r99_10, r99_13, if_true, if_false, Nat.reduceAdd, Int32.reduceToNatClampNeg, lo_i, lo_r, lo_n, kont_v, kont_n, List.length_nil, List.length_cons, c97f hk]
    exact h _ (Or.inl (ct_f h0 h1 ha))
def ws0 : List (List Nat) := [[115, 108, 101, 101, 112, 101, 114], [99, 108, 111, 99, 107], [110, 101, 97, 114], [115, 111, 99, 107, 115]]
def ws1 : List (List Nat) := [[108, 111, 117, 100], [110, 101, 97, 114], [100, 101, 112, 116, 104], [115, 111, 99, 107], [104, 111, 117, 114], [100, 97, 121], [97, 119, 97, 107, 101], [115, 112, 114, 105, 110, 103], [115, 108, 101, 101, 112, 101, 114], [108, 101, 97, 115, 116], [109, 111, 115, 116]]
def ws2 : List (List Nat) := [[115, 101, 116], [108, 101, 116], [119, 105, 110, 100], [115, 111, 99, 107], [109, 111, 118, 101], [115, 110, 111, 111, 122, 101], [104, 111, 117, 114], [97, 103, 97, 105, 110]]
theorem sw0 : swB wd0 0 ws0 = true := by decide +kernel
theorem sw1 : swB wd1 0 ws1 = true := by decide +kernel
theorem sw2 : swB wd2 0 ws2 = true := by decide +kernel
theorem sg0' : ∀ k : Fin 24, wd0.getD k.1 0 < 128 := by decide +kernel
theorem sg0 (h : IK I) : SG I 0 wd0 := ⟨Or.inl rfl, h.2.1.1, rfl, by decide, fun k hk => ⟨h.2.2.2.1 k hk, sg0' ⟨k, hk⟩⟩⟩
theorem sg1' : ∀ k : Fin 61, wd1.getD k.1 0 < 128 := by decide +kernel
theorem sg1 (h : IK I) : SG I 1 wd1 := ⟨Or.inr (Or.inl rfl), h.2.1.2.1, rfl, by decide, fun k hk => ⟨h.2.2.2.2.1 k hk, sg1' ⟨k, hk⟩⟩⟩
theorem sg2' : ∀ k : Fin 40, wd2.getD k.1 0 < 128 := by decide +kernel
theorem sg2 (h : IK I) : SG I 2 wd2 := ⟨Or.inr (Or.inr rfl), h.2.1.2.2, rfl, by decide, fun k hk => ⟨h.2.2.2.2.2.1 k hk, sg2' ⟨k, hk⟩⟩⟩
end Wo

