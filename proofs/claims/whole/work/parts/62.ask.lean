/-! WHOM TO ASK -/
section Q11
variable {d n x c r j : Nat} {μ : PM} {Φ : POut → PM → Prop} {I J K : Nat → Nat → Int32} {L : Nat → Nat → Int64} {k s h v w a b z y lk wt : Int32} {p q : Scr} {f : Nat → Int32}
theorem c178 : wpc (d + 3) 178 [.ref (9 : Nat), .int b] (mk n J L x) Φ ↔ Φ (.inl (some (.int (mxi (wtV (fitW J (J 37 0 ||| b) (J 37 1 ||| b))).1 (wtV (fitW J (J 37 0 ||| b) (J 37 1))).1)))) (mk n J L x) := by
  show wp (d + 3) 178 0 [.ref (9 : Nat), .int b, noV, noV] [] (mk n J L x) Φ ↔ _
  simp (config := {decide := true}) only [r178_0, r178_1, r178_4, r178_5, r178_8, r178_11, r178_12, r178_13, r178_14, r178_17, r178_20, r178_21, r178_22, r178_25, r178_26, r178_27, r178_30, r178_31, r178_34, r178_37, r178_38, r178_39, r178_40, r178_43, r178_46, r178_49, r178_50, r178_51, r178_52, r178_55, if_true, if_false, Nat.reduceAdd, Int32.reduceToNatClampNeg, lo_i, lo_r, lo_n, kont_v, kont_n, List.length_nil, List.length_cons, k37, c113, c316]
def akL (I : Nat → Nat → Int32) (s : Nat) : Int32 := mxi (wtV (gwh I (I 37 0 ||| bt s) (I 37 1 ||| bt s))).1 (wtV (gwh I (I 37 0 ||| bt s) (I 37 1))).1
def akF (I : Nat → Nat → Int32) (k : Nat) (q : Int32 × Int32) : Int32 × Int32 := if I 37 0 >>> (nt k &&& 31) &&& 1 = 1 then q else if q.1 = -1 then (nt k, akL I k) else if q.2 ≤ akL I k then q else (nt k, akL I k)
theorem tr_ak (h : view J = view I) : akF J = akF I := by
  funext k q
  unfold akF akL
  rw [t37 h, tr_gw h]
def aAsk (I : Nat → Nat → Int32) (w : Int32) : An := if 0 ≤ w ∧ w ≤ 1 then (.inl ((if w = 0 then (foldN (akF I) (sI I) (-1, -1)).1 else (foldN (akF I) (sI I) (-1, -1)).2 : Int32))) else .inr (2, 1)
theorem t_aAsk {I J : Nat → Nat → Int32} {w : Int32} (h : view J = view I) : aAsk J w = aAsk I w := by
  unfold aAsk
  simp only [tr_s h, tr_ak h]
theorem q152 (hI : Inv I) (hx : x + 1 ≤ 600) (h : resC n I L x Φ (aAsk I w)) : wpc (d + 12) 152 [.ref (9 : Nat), .int w] (mk n I L x) Φ := by
  show wp (d + 12) 152 0 [.ref (9 : Nat), .int w, noV, noV, noV, noV] [] (mk n I L x) Φ
  unfold aAsk at h
  have hC := hI.1.1
  by_cases g1 : 0 ≤ w ∧ w ≤ 1
  · rw [if_pos g1] at h
    have h7 := inv_s7 hI
    simp (config := {decide := true}) only [r152_0, r152_1, r152_2, r152_3, r152_4, r152_7, r152_10, r152_11, r152_14, r152_15, r152_18, r152_19, if_true, if_false, Nat.reduceAdd, Int32.reduceToNatClampNeg, lo_i, lo_r, lo_n, kont_v, kont_n, List.length_nil, List.length_cons, and_self, and_true, true_and, and_false, false_and, not_true, not_false_eq_true, true_or, or_true, bi_eq0, c181 hx, c179 hx, c180 hx, c182, c183, kx, g1]
    rw [r152_22 (by decide)]
    refine c106 hI (fun J hJ hW => ?_)
    have e37 := t37 hJ.1
    have e12 := t12 hJ.1
    have ew : ∀ lk wt, wtV (fitW J lk wt) = wtV (gwh I lk wt) := fun lk wt => wt_cong (gw_fit hI hW)
    simp (config := {decide := true}) only [r152_25, r152_26, r152_27, r152_28, r152_29, r152_30, if_true, if_false, Nat.reduceAdd, Int32.reduceToNatClampNeg, lo_i, lo_r, lo_n, kont_v, kont_n, List.length_nil, List.length_cons]
    refine loopD (P := fun k (t : Int32 × Int32) => ∀ v, NL v → wp (d + 12) 152 32 [.ref (9 : Nat), .int w, .int t.1, .int t.2, .int (nt k), v] [] (mk n J L x) Φ) (Q := fun t => Φ (.inl (some (.int (if w = 0 then t.1 else t.2)))) (mk n J L x)) (n := sI I) (f := akF I) ?_ ?_ (-1, -1) (h J hJ) noV lo_n
    · intro k t hk hn v hv
      have e1 : ¬ (nt (sI I) ≤ nt k) := nt_nle hk (by omega)
      have el : mxi (wtV (gwh I (I 37 0 ||| 1 <<< (nt k &&& 31)) (I 37 1 ||| 1 <<< (nt k &&& 31)))).1 (wtV (gwh I (I 37 0 ||| 1 <<< (nt k &&& 31)) (I 37 1))).1 = akL I k := rfl
      unfold akF at hn
      rw [r152_32]
      by_cases h1 : I 37 0 >>> (nt k &&& 31) &&& 1 = 1
      · rw [if_pos h1] at hn
        simp (config := {decide := true}) only [r152_34, r152_35, r152_38, r152_41, r152_44, r152_45, r152_48, r152_51, r152_53, r152_56, r152_59, r152_60, r152_61, r152_63, r152_64, r152_67, r152_69, r152_70, r152_71, r152_74, r152_76, r152_77, r152_80, r152_82, r152_83, r152_85, r152_86, r152_89, r152_92, r152_93, r152_96, r152_97, r152_100, r152_101, if_true, if_false, Nat.reduceAdd, Int32.reduceToNatClampNeg, lo_i, lo_r, lo_n, kont_v, kont_n, List.length_nil, List.length_cons, and_self, and_true, true_and, and_false, false_and, not_true, not_false_eq_true, true_or, or_true, bi_eq0, k12, k37, e12, e37, inv_s hI, e1, c184, h1, nt_succ]
        exact hn v hv
      · rw [if_neg h1] at hn
        replace hn := hn (.int (akL I k)) (lo_i _)
        by_cases h2 : t.1 = -1
        · rw [if_pos h2] at hn
          simp (config := {decide := true}) only [r152_34, r152_35, r152_38, r152_41, r152_44, r152_45, r152_48, r152_51, r152_53, r152_56, r152_59, r152_60, r152_61, r152_63, r152_64, r152_67, r152_69, r152_70, r152_71, r152_74, r152_76, r152_77, r152_80, r152_82, r152_83, r152_85, r152_86, r152_89, r152_92, r152_93, r152_96, r152_97, r152_100, r152_101, if_true, if_false, Nat.reduceAdd, Int32.reduceToNatClampNeg, lo_i, lo_r, lo_n, kont_v, kont_n, List.length_nil, List.length_cons, and_self, and_true, true_and, and_false, false_and, not_true, not_false_eq_true, true_or, or_true, bi_eq0, k12, k37, e12, e37, inv_s hI, e1, c184, h1, c178, ew, el, hv, h2, nt_succ]
          exact hn
        · rw [if_neg h2] at hn
          by_cases h3 : t.2 ≤ akL I k
          · rw [if_pos h3] at hn
            simp (config := {decide := true}) only [r152_34, r152_35, r152_38, r152_41, r152_44, r152_45, r152_48, r152_51, r152_53, r152_56, r152_59, r152_60, r152_61, r152_63, r152_64, r152_67, r152_69, r152_70, r152_71, r152_74, r152_76, r152_77, r152_80, r152_82, r152_83, r152_85, r152_86, r152_89, r152_92, r152_93, r152_96, r152_97, r152_100, r152_101, if_true, if_false, Nat.reduceAdd, Int32.reduceToNatClampNeg, lo_i, lo_r, lo_n, kont_v, kont_n, List.length_nil, List.length_cons, and_self, and_true, true_and, and_false, false_and, not_true, not_false_eq_true, true_or, or_true, bi_eq0, k12, k37, e12, e37, inv_s hI, e1, c184, h1, c178, ew, el, hv, h2, h3, nt_succ]
            exact hn
          · rw [if_neg h3] at hn
            simp (config := {decide := true}) only [r152_34, r152_35, r152_38, r152_41, r152_44, r152_45, r152_48, r152_51, r152_53, r152_56, r152_59, r152_60, r152_61, r152_63, r152_64, r152_67, r152_69, r152_70, r152_71, r152_74, r152_76, r152_77, r152_80, r152_82, r152_83, r152_85, r152_86, r152_89, r152_92, r152_93, r152_96, r152_97, r152_100, r152_101, if_true, if_false, Nat.reduceAdd, Int32.reduceToNatClampNeg, lo_i, lo_r, lo_n, kont_v, kont_n, List.length_nil, List.length_cons, and_self, and_true, true_and, and_false, false_and, not_true, not_false_eq_true, true_or, or_true, bi_eq0, k12, k37, e12, e37, inv_s hI, e1, c184, h1, c178, ew, el, hv, h2, h3, nt_succ]
            exact hn
    · intro t ht v hv
      have e6 : nt (sI I) ≤ nt (sI I) := Int32.le_refl _
      rw [r152_32]
      by_cases h2 : w = 0
      · rw [if_pos h2] at ht
        simp (config := {decide := true}) only [r152_34, r152_35, r152_38, r152_41, r152_44, r152_45, r152_48, r152_51, r152_53, r152_56, r152_59, r152_60, r152_61, r152_63, r152_64, r152_67, r152_69, r152_70, r152_71, r152_74, r152_76, r152_77, r152_80, r152_82, r152_83, r152_85, r152_86, r152_89, r152_92, r152_93, r152_96, r152_97, r152_100, r152_101, if_true, if_false, Nat.reduceAdd, Int32.reduceToNatClampNeg, lo_i, lo_r, lo_n, kont_v, kont_n, List.length_nil, List.length_cons, k12, e12, inv_s hI, e6, h2]
        exact ht
      · rw [if_neg h2] at ht
        simp (config := {decide := true}) only [r152_34, r152_35, r152_38, r152_41, r152_44, r152_45, r152_48, r152_51, r152_53, r152_56, r152_59, r152_60, r152_61, r152_63, r152_64, r152_67, r152_69, r152_70, r152_71, r152_74, r152_76, r152_77, r152_80, r152_82, r152_83, r152_85, r152_86, r152_89, r152_92, r152_93, r152_96, r152_97, r152_100, r152_101, if_true, if_false, Nat.reduceAdd, Int32.reduceToNatClampNeg, lo_i, lo_r, lo_n, kont_v, kont_n, List.length_nil, List.length_cons, k12, e12, inv_s hI, e6, h2]
        exact ht
  · rw [if_neg g1] at h
    simp (config := {decide := true}) only [r152_0, r152_1, r152_2, r152_3, r152_4, r152_7, r152_10, r152_11, r152_14, r152_15, r152_18, r152_19, if_true, if_false, Nat.reduceAdd, Int32.reduceToNatClampNeg, lo_i, lo_r, lo_n, kont_v, kont_n, List.length_nil, List.length_cons, and_self, and_true, true_and, and_false, false_and, not_true, not_false_eq_true, true_or, or_true, bi_eq0, c181 hx, c179 hx, c180 hx, c182, c183, kx, g1]
    exact exC2 h
/-- what an answer of one more would leave -/
theorem ak_bit (hI : Inv I) {s e : Nat} (hs : s < 7) (ht : ¬ (I 37 0 >>> (nt s &&& 31) &&& 1 = 1)) : gwh I (I 37 0 ||| bt s) (I 37 1 ||| bt s) e = (gwh I (I 37 0) (I 37 1) e && decide (wkI I (I 41) (nt e) >>> (nt s &&& 31) &&& 1 = 1)) ∧ gwh I (I 37 0 ||| bt s) (I 37 1) e = (gwh I (I 37 0) (I 37 1) e && !decide (wkI I (I 41) (nt e) >>> (nt s &&& 31) &&& 1 = 1)) := by
  have h7 := inv_s7 hI
  obtain ⟨m, sk, b, b1, b2, b3, b4, b5, b6⟩ := hI.2.2.2.2.2.1
  have hs7 : ∀ k, k < m → sk k < 7 := fun k hk => by have := (b3 k hk).1; omega
  rw [b5, bk_T hs7 b4, wb_bit hs] at ht
  have t0 : bkT sk m s = false := by
    cases hb : bkT sk m s
    · rfl
    · rw [hb] at ht; exact absurd rfl ht
  have v0 : bkV sk b m s = false := by
    cases hb : bkV sk b m s
    · rfl
    · obtain ⟨k, k1, k2, k3⟩ := bkV_at.mp hb
      have := bkT_at.mpr ⟨k, k1, k2⟩
      rw [t0] at this
      cases this
  unfold gwh
  rw [b5, b6, bk_T hs7 b4, bk_V hs7 m (Nat.le_refl m), bt_wb s hs, wb_or, wb_or, wk_bit h7 hs, wk_wb h7]
  rw [wb_and7, wb_and7]
  generalize wkc I (I 41) (nt e) = cc
  generalize bkT sk m = t at t0 ⊢
  generalize bkV sk b m = vv at v0 ⊢
  constructor
  · rw [Bool.eq_iff_iff, Bool.and_eq_true, decide_eq_true_eq, decide_eq_true_eq, decide_eq_true_eq, wb_inj, wb_inj]
    constructor
    · rintro ⟨h1, h2⟩
      have h3 := h2 s hs
      simp only [beq_self_eq_true, Bool.or_true, Bool.and_true] at h3
      refine ⟨⟨h1, fun j hj => ?_⟩, by rw [h3]; rfl⟩
      by_cases hjs : j = s
      · subst hjs
        rw [t0, v0, Bool.and_false]
      · have h4 := h2 j hj
        rw [show (j == s) = false from by simpa using hjs, Bool.or_false, Bool.or_false] at h4
        exact h4
    · rintro ⟨⟨h1, h2⟩, h3⟩
      have h3 : cc s = true := by
        cases hc : cc s
        · rw [hc] at h3; exact absurd h3 (by decide)
        · rfl
      refine ⟨h1, fun j hj => ?_⟩
      by_cases hjs : j = s
      · subst hjs
        rw [h3]
        simp
      · have h4 := h2 j hj
        rw [show (j == s) = false from by simpa using hjs, Bool.or_false, Bool.or_false]
        exact h4
  · rw [Bool.eq_iff_iff, Bool.and_eq_true, decide_eq_true_eq, decide_eq_true_eq, wb_inj, wb_inj, Bool.not_eq_true', decide_eq_false_iff_not]
    constructor
    · rintro ⟨h1, h2⟩
      have h3 := h2 s hs
      rw [v0] at h3
      simp only [beq_self_eq_true, Bool.or_true, Bool.and_true] at h3
      refine ⟨⟨h1, fun j hj => ?_⟩, by rw [h3]; decide⟩
      by_cases hjs : j = s
      · subst hjs
        rw [t0, v0, Bool.and_false]
      · have h4 := h2 j hj
        rw [show (j == s) = false from by simpa using hjs, Bool.or_false] at h4
        exact h4
    · rintro ⟨⟨h1, h2⟩, h3⟩
      have h3 : cc s = false := by
        cases hc : cc s
        · rfl
        · rw [hc] at h3; exact absurd rfl h3
      refine ⟨h1, fun j hj => ?_⟩
      by_cases hjs : j = s
      · subst hjs
        rw [h3, v0]
        rfl
      · have h4 := h2 j hj
        rw [show (j == s) = false from by simpa using hjs, Bool.or_false]
        exact h4
theorem m279 (hI : Inv I) {s : Nat} (hs : s < 7) (h : Φ (.inl (some (.int (if I 37 0 >>> (nt s &&& 31) &&& 1 = 1 then 1 else 0)))) (mk n (scm I q) L x)) : wpc d 279 [.ref (70 : Nat), .int (nt s)] (mk n (scm I q) L x) Φ := by
  have h7 := inv_s7 hI
  obtain ⟨m, sk, b, b1, b2, b3, b4, b5, b6⟩ := hI.2.2.2.2.2.1
  have hs7 : ∀ k, k < m → sk k < 7 := fun k hk => by have := (b3 k hk).1; omega
  have u70 : ∀ q, scm I q 70 = I 70 := fun q => scm_ne (by decide) (by decide)
  have hb : I 37 0 >>> (nt s &&& 31) &&& 1 = if bkT sk m s then 1 else 0 := by rw [b5, bk_T hs7 b4, wb_bit hs]
  show wp d 279 0 [.ref (70 : Nat), .int (nt s), noV] [] (mk n (scm I q) L x) Φ
  simp (config := {decide := true}) only [r279_0, r279_1, if_true, if_false, Nat.reduceAdd, Int32.reduceToNatClampNeg, lo_i, lo_r, lo_n, kont_v, kont_n, List.length_nil, List.length_cons]
  have key : ∀ i k, k + i = m → (∀ j, j < k → sk j ≠ s) → wp d 279 2 [.ref (70 : Nat), .int (nt s), .int (nt k)] [] (mk n (scm I q) L x) Φ := by
    intro i
    induction i with
    | zero =>
      intro k hk hj
      have : k = m := by omega
      subst this
      have e6 : nt k ≤ nt k := Int32.le_refl _
      have hf : bkT sk k s = false := by
        cases hb2 : bkT sk k s
        · rfl
        · obtain ⟨j, j1, j2⟩ := bkT_at.mp hb2
          exact absurd j2 (hj j j1)
      rw [hf] at hb
      rw [if_neg (by rw [hb]; decide)] at h
      rw [r279_2]
      simp (config := {decide := true}) only [r279_3, r279_4, r279_7, r279_10, r279_11, r279_14, r279_15, r279_16, r279_17, r279_18, r279_19, r279_22, r279_23, r279_24, r279_27, r279_30, r279_31, if_true, if_false, Nat.reduceAdd, Int32.reduceToNatClampNeg, lo_i, lo_r, lo_n, kont_v, kont_n, List.length_nil, List.length_cons, u70, b2, e6, nb_0]
      exact h
    | succ i ih =>
      intro k hk hj
      have km : k < m := by omega
      have e1 : ¬ (nt m ≤ nt k) := nt_nle km (by omega)
      have e2 : (nt k).toNatClampNeg = k := nt_clamp (by omega)
      have e3 : (0 : Int32) ≤ nt k := nt_ge (by omega)
      have e4 : k < 7 := by omega
      have e5 : 436 + k < 560 := by omega
      have ul : scm I q (436 + k) = I (436 + k) := scm_ne (by omega) (by omega)
      obtain ⟨c1, c2, c3⟩ := b3 k km
      rw [r279_2]
      by_cases hq : sk k = s
      · have hf : bkT sk m s = true := bkT_at.mpr ⟨k, km, hq⟩
        rw [hf] at hb
        rw [if_pos (by rw [hb]; rfl)] at h
        rw [hq] at c2
        simp (config := {decide := true}) only [r279_3, r279_4, r279_7, r279_10, r279_11, r279_14, r279_15, r279_16, r279_17, r279_18, r279_19, r279_22, r279_23, r279_24, r279_27, r279_30, r279_31, if_true, if_false, Nat.reduceAdd, Int32.reduceToNatClampNeg, lo_i, lo_r, lo_n, kont_v, kont_n, List.length_nil, List.length_cons, u70, b2, e1, e2, e3, e4, e5, s435, sh436 e4, ul, c2, nb_1]
        exact h
      · have nq : ¬ (nt (sk k) = nt s) := by rw [nt_inj (by have := hs7 k km; omega) (by omega)]; exact hq
        simp (config := {decide := true}) only [r279_3, r279_4, r279_7, r279_10, r279_11, r279_14, r279_15, r279_16, r279_17, r279_18, r279_19, r279_22, r279_23, r279_24, r279_27, r279_30, r279_31, if_true, if_false, Nat.reduceAdd, Int32.reduceToNatClampNeg, lo_i, lo_r, lo_n, kont_v, kont_n, List.length_nil, List.length_cons, u70, b2, e1, e2, e3, e4, e5, s435, sh436 e4, ul, c2, nq, nt_succ]
        exact ih (k + 1) (by omega) (fun j h1 => by
          by_cases hjk : j = k
          · rw [hjk]; exact hq
          · exact hj j (by omega))
  exact key m 0 (by omega) (fun j hj => absurd hj (Nat.not_lt_zero j))
def ynF (I : Nat → Nat → Int32) (s k : Nat) (t : Int32 × Int32) : Int32 × Int32 := if gwh I (I 37 0) (I 37 1) k = true then (if wkI I (I 41) (nt k) >>> (nt s &&& 31) &&& 1 = 1 then (t.1 + 1, t.2) else (t.1, t.2 + 1)) else t
theorem yn_V (hI : Inv I) {s : Nat} (hs : s < 7) (ht : ¬ (I 37 0 >>> (nt s &&& 31) &&& 1 = 1)) : mxi (foldN (ynF I s) (2 ^ cI I) (0, 0)).1 (foldN (ynF I s) (2 ^ cI I) (0, 0)).2 = akL I s := by
  have hp : 2 ^ cI I ≤ 2 ^ 6 := Nat.pow_le_pow_right (by decide) (inv_c6 hI)
  have cut : ∀ g : Nat → Bool, (∀ e, e < 64 → g e = true → e < 2 ^ cI I) → foldN (hmF g) (2 ^ cI I) 0 = (wtV g).1 := by
    intro g hg
    rw [← hm_V]
    refine (foldN_cut 64 hp (fun k h1 h2 b => ?_)).symm
    unfold hmF
    rw [if_neg (fun q => by have := hg k h2 q; omega), Int32.add_zero]
  unfold akL
  rw [← cut _ (gw_lt hI), ← cut _ (gw_lt hI)]
  congr 1
  · refine foldN_map (π := fun t : Int32 × Int32 => t.1) (g := ynF I s) (fun k t => ?_) (0, 0) _
    unfold ynF hmF
    rw [(ak_bit hI hs ht).1]
    by_cases h1 : gwh I (I 37 0) (I 37 1) k = true
    · by_cases h2 : wkI I (I 41) (nt k) >>> (nt s &&& 31) &&& 1 = 1
      · simp [h1, h2]
      · simp [h1, h2]
    · simp [h1]
  · refine foldN_map (π := fun t : Int32 × Int32 => t.2) (g := ynF I s) (fun k t => ?_) (0, 0) _
    unfold ynF hmF
    rw [(ak_bit hI hs ht).2]
    by_cases h1 : gwh I (I 37 0) (I 37 1) k = true
    · by_cases h2 : wkI I (I 41) (nt k) >>> (nt s &&& 31) &&& 1 = 1
      · simp [h1, h2]
      · simp [h1, h2]
    · simp [h1]
theorem u280 (hI : Inv I) (h : resM n I L x Φ (aAsk I w)) : wpc (d + 12) 280 [.ref (70 : Nat), .int w] (mk n I L x) Φ := by
  show wp (d + 12) 280 0 [.ref (70 : Nat), .int w, noV, noV, noV, noV, noV, noV] [] (mk n I L x) Φ
  rw [r280_0, r280_1, r280_2]
  replace h := resM_z h
  rw [← t_aAsk v70] at h
  replace hI := tr_Inv v70 hI
  have hz := z70 (I := I)
  generalize wrI I 70 0 0 = I at h hI hz ⊢
  unfold aAsk at h
  have hM := hI.1
  by_cases g1 : 0 ≤ w ∧ w ≤ 1
  · rw [if_pos g1] at h
    have h6 := inv_c6 hI
    have h7 := inv_s7 hI
    have hp : 2 ^ cI I ≤ 2 ^ 6 := Nat.pow_le_pow_right (by decide) h6
    have hq : 0 < 2 ^ cI I := Nat.pow_pos (by decide)
    have e0 : (1 : Int32) <<< (I 12 6 &&& 31) - 1 = nt (2 ^ cI I - 1) := by rw [inv_c hI]; exact pow7m _ (Nat.le_succ_of_le h6)
    have m6 : ∀ (d : Nat) (Ψ : POut → PM → Prop) q, wpc d 266 [.ref (70 : Nat)] (mk n (scm I q) L x) Ψ ↔ Ψ (.inl (some (.int (nt (2 ^ cI I - 1))))) (mk n (scm I q) L x) := fun d Ψ q => by
      have u12 : scm I q 12 = I 12 := scm_ne (by decide) (by decide)
      rw [m266 (tr_Inv view_scm hI), u12, e0]
    have u74 : ∀ q, scm I q 74 = I 74 := fun q => scm_ne (by decide) (by decide)
    simp (config := {decide := true}) only [r280_5, r280_6, r280_7, r280_8, r280_9, r280_12, r280_15, r280_16, r280_19, r280_20, r280_21, r280_22, r280_25, r280_28, r280_29, r280_30, r280_31, r280_32, r280_33, r280_34, r280_35, if_true, if_false, Nat.reduceAdd, Int32.reduceToNatClampNeg, lo_i, lo_r, lo_n, kont_v, kont_n, List.length_nil, List.length_cons, and_self, and_true, true_and, and_false, false_and, not_true, not_false_eq_true, true_or, or_true, bi_eq0, b10 hz, b11 hz, b21 hz, m194, m259, g1]
    refine loopD (P := fun k (t : Int32 × Int32) => ∀ q v5 v6 v7, NL v5 → NL v6 → NL v7 → wp (d + 12) 280 37 [.ref (70 : Nat), .int w, .int t.1, .int t.2, .int (nt k), v5, v6, v7] [] (mk n (scm I q) L x) Φ) (Q := fun t => ∀ q, Φ (.inl (some (.int (if w = 0 then t.1 else t.2)))) (mk n (scm I q) L x)) (n := sI I) (f := akF I) ?_ ?_ (-1, -1) (fun q => okMs h hz) (I 451, I 452) noV noV noV lo_n lo_n lo_n |> fun hh => by rw [scm_self] at hh; exact hh
    · intro k t hk hn q v5 v6 v7 hv5 hv6 hv7
      have e1 : ¬ (nt (sI I) ≤ nt k) := nt_nle hk (by omega)
      unfold akF at hn
      rw [r280_37]
      simp (config := {decide := true}) only [r280_39, r280_40, r280_43, r280_44, r280_45, r280_48, r280_49, if_true, if_false, Nat.reduceAdd, Int32.reduceToNatClampNeg, lo_i, lo_r, lo_n, kont_v, kont_n, List.length_nil, List.length_cons, u74, s74, hI.1.2.1.1, e1]
      rw [r280_51 (by decide)]
      refine m279 hI (by omega) ?_
      by_cases h1 : I 37 0 >>> (nt k &&& 31) &&& 1 = 1
      · rw [if_pos h1] at hn ⊢
        simp (config := {decide := true}) only [r280_54, r280_57, r280_153, r280_156, if_true, if_false, Nat.reduceAdd, Int32.reduceToNatClampNeg, lo_i, lo_r, lo_n, kont_v, kont_n, List.length_nil, List.length_cons, nt_succ]
        exact hn q v5 v6 v7 hv5 hv6 hv7
      · rw [if_neg h1] at hn ⊢
        simp (config := {decide := true}) only [r280_54, r280_57, r280_60, r280_61, r280_63, r280_64, r280_66, r280_67, if_true, if_false, Nat.reduceAdd, Int32.reduceToNatClampNeg, lo_i, lo_r, lo_n, kont_v, kont_n, List.length_nil, List.length_cons, hv5, hv6]
        have hyn := yn_V hI (show k < 7 by omega) h1
        refine loopD (P := fun e (u : Int32 × Int32) => ∀ q, wp (d + 12) 280 69 [.ref (70 : Nat), .int w, .int t.1, .int t.2, .int (nt k), .int u.1, .int u.2, .int (nt e)] [] (mk n (scm I q) L x) Φ) (Q := fun u => mxi u.1 u.2 = akL I k) (n := 2 ^ cI I) (f := ynF I k) ?_ ?_ (0, 0) ?_ q
        · intro e u he hm q
          have f1 : ¬ (nt (2 ^ cI I - 1) < nt e) := by rw [nt_lt (by omega) (by omega)]; omega
          rw [r280_69]
          simp (config := {decide := true}) only [r280_71, r280_72, r280_75, r280_78, r280_79, if_true, if_false, Nat.reduceAdd, Int32.reduceToNatClampNeg, lo_i, lo_r, lo_n, kont_v, kont_n, List.length_nil, List.length_cons, m6, f1]
          rw [r280_81 (by decide)]
          refine m277 hI (fun p => ?_)
          unfold ynF at hm
          by_cases h2 : gwh I (I 37 0) (I 37 1) e = true
          · rw [if_pos h2] at hm ⊢
            by_cases h3 : wkI I (I 41) (nt e) >>> (nt k &&& 31) &&& 1 = 1
            · rw [if_pos h3] at hm
              simp (config := {decide := true}) only [r280_84, r280_87, r280_90, r280_91, r280_92, r280_95, r280_97, r280_100, r280_102, r280_105, r280_108, r280_111, r280_114, r280_117, r280_120, if_true, if_false, Nat.reduceAdd, Int32.reduceToNatClampNeg, lo_i, lo_r, lo_n, kont_v, kont_n, List.length_nil, List.length_cons, and_self, and_true, true_and, and_false, false_and, not_true, not_false_eq_true, true_or, or_true, bi_eq0, o242 hI, m197, h3, nt_succ]
              exact hm _
            · rw [if_neg h3] at hm
              simp (config := {decide := true}) only [r280_84, r280_87, r280_90, r280_91, r280_92, r280_95, r280_97, r280_100, r280_102, r280_105, r280_108, r280_111, r280_114, r280_117, r280_120, if_true, if_false, Nat.reduceAdd, Int32.reduceToNatClampNeg, lo_i, lo_r, lo_n, kont_v, kont_n, List.length_nil, List.length_cons, and_self, and_true, true_and, and_false, false_and, not_true, not_false_eq_true, true_or, or_true, bi_eq0, o242 hI, m197, h3, nt_succ]
              exact hm _
          · rw [if_neg h2] at hm ⊢
            simp (config := {decide := true}) only [r280_84, r280_87, r280_90, r280_91, r280_92, r280_95, r280_97, r280_100, r280_102, r280_105, r280_108, r280_111, r280_114, r280_117, r280_120, if_true, if_false, Nat.reduceAdd, Int32.reduceToNatClampNeg, lo_i, lo_r, lo_n, kont_v, kont_n, List.length_nil, List.length_cons, and_self, and_true, true_and, and_false, false_and, not_true, not_false_eq_true, true_or, or_true, bi_eq0, nt_succ]
            exact hm _
        · intro u hu q
          have f1 : nt (2 ^ cI I - 1) < nt (2 ^ cI I) := by rw [nt_lt (by omega) (by omega)]; omega
          have nx := hn q (.int u.1) (.int u.2) (.int (nt (2 ^ cI I))) (lo_i _) (lo_i _) (lo_i _)
          rw [r280_69]
          by_cases h2 : t.1 = -1
          · rw [if_pos h2] at nx
            simp (config := {decide := true}) only [r280_71, r280_72, r280_75, r280_123, r280_124, r280_125, r280_128, r280_130, r280_132, r280_135, r280_136, r280_139, r280_142, r280_144, r280_145, r280_147, r280_149, r280_152, r280_153, r280_156, if_true, if_false, Nat.reduceAdd, Int32.reduceToNatClampNeg, lo_i, lo_r, lo_n, kont_v, kont_n, List.length_nil, List.length_cons, m6, f1, h2, m196, hu, nt_succ]
            exact nx
          · rw [if_neg h2] at nx
            by_cases h3 : t.2 ≤ akL I k
            · have h4 := Int32.not_lt.mpr h3
              rw [if_pos h3] at nx
              simp (config := {decide := true}) only [r280_71, r280_72, r280_75, r280_123, r280_124, r280_125, r280_128, r280_130, r280_132, r280_135, r280_136, r280_139, r280_142, r280_144, r280_145, r280_147, r280_149, r280_152, r280_153, r280_156, if_true, if_false, Nat.reduceAdd, Int32.reduceToNatClampNeg, lo_i, lo_r, lo_n, kont_v, kont_n, List.length_nil, List.length_cons, m6, f1, h2, h4, m196, hu, nt_succ]
              exact nx
            · have h4 := Int32.not_le.mp h3
              rw [if_neg h3] at nx
              simp (config := {decide := true}) only [r280_71, r280_72, r280_75, r280_123, r280_124, r280_125, r280_128, r280_130, r280_132, r280_135, r280_136, r280_139, r280_142, r280_144, r280_145, r280_147, r280_149, r280_152, r280_153, r280_156, if_true, if_false, Nat.reduceAdd, Int32.reduceToNatClampNeg, lo_i, lo_r, lo_n, kont_v, kont_n, List.length_nil, List.length_cons, m6, f1, h2, h4, m196, hu, nt_succ]
              exact nx
        · exact hyn
    · intro t ht q v5 v6 v7 hv5 hv6 hv7
      have e6 : nt (sI I) ≤ nt (sI I) := Int32.le_refl _
      replace ht := ht q
      rw [r280_37]
      by_cases h2 : w = 0
      · rw [if_pos h2] at ht
        simp (config := {decide := true}) only [r280_39, r280_40, r280_43, r280_44, r280_45, r280_159, r280_160, r280_163, r280_164, r280_167, r280_168, if_true, if_false, Nat.reduceAdd, Int32.reduceToNatClampNeg, lo_i, lo_r, lo_n, kont_v, kont_n, List.length_nil, List.length_cons, u74, s74, hI.1.2.1.1, e6, h2]
        exact ht
      · rw [if_neg h2] at ht
        simp (config := {decide := true}) only [r280_39, r280_40, r280_43, r280_44, r280_45, r280_159, r280_160, r280_163, r280_164, r280_167, r280_168, if_true, if_false, Nat.reduceAdd, Int32.reduceToNatClampNeg, lo_i, lo_r, lo_n, kont_v, kont_n, List.length_nil, List.length_cons, u74, s74, hI.1.2.1.1, e6, h2]
        exact ht
  · rw [if_neg g1] at h
    simp (config := {decide := true}) only [r280_5, r280_6, r280_7, r280_8, r280_9, r280_12, r280_15, r280_16, r280_19, r280_20, r280_21, r280_22, r280_25, r280_28, r280_29, r280_30, r280_31, r280_32, r280_33, r280_34, r280_35, if_true, if_false, Nat.reduceAdd, Int32.reduceToNatClampNeg, lo_i, lo_r, lo_n, kont_v, kont_n, List.length_nil, List.length_cons, and_self, and_true, true_and, and_false, false_and, not_true, not_false_eq_true, true_or, or_true, bi_eq0, b10 hz, b11 hz, b21 hz, m194, m259, m257 hI, m258 hI, m266 hI, m274 hI, g1]
    exact exM h
end Q11
