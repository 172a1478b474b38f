/-! A BOOK, read by the reference -/
/-- rows of two, laid over others -/
def layF (A D : Nat) (k : Nat) (I : Nat → Nat → Int32) : Nat → Nat → Int32 := upR I (D + 1 + k) (upd (upd (I (D + 1 + k)) 0 (I (A + 1 + k) 0)) 1 (I (A + 1 + k) 1))
theorem layF_eq {A D k : Nat} {I : Nat → Nat → Int32} : layF A D k I = upR I (D + 1 + k) (upd (upd (I (D + 1 + k)) 0 (I (A + 1 + k) 0)) 1 (I (A + 1 + k) 1)) := rfl
theorem lay_ne {A D r : Nat} {I : Nat → Nat → Int32} : ∀ m, (r ≤ D ∨ D + m < r) → foldN (layF A D) m I r = I r
  | 0, _ => rfl
  | m + 1, h => by
    show layF A D m (foldN (layF A D) m I) r = I r
    rw [layF_eq, upR_ne (by omega)]
    exact lay_ne m (by omega)
theorem lay_at {A D : Nat} {I : Nat → Nat → Int32} (hd : A + 8 ≤ D ∨ D + 8 ≤ A) : ∀ m, m ≤ 7 → ∀ k, k < m → ∀ i, i < 2 → foldN (layF A D) m I (D + 1 + k) i = I (A + 1 + k) i
  | 0, _, k, hk => absurd hk (by omega)
  | m + 1, hm, k, hk => by
    intro i hi
    show layF A D m (foldN (layF A D) m I) (D + 1 + k) i = _
    rw [layF_eq]
    by_cases h : k = m
    · subst h
      rw [upR_same, lay_ne (A := A) (D := D) (I := I) (r := A + 1 + k) k (by omega)]
      have : i = 0 ∨ i = 1 := by omega
      rcases this with rfl | rfl
      · rw [up_ne (by decide), up_same]
      · rw [up_same]
    · rw [upR_ne (by omega)]
      exact lay_at hd m (by omega) k (by omega) i hi
theorem bkt_up' {s : Nat → Nat} {m v : Nat} : bkt0 (upN s m v) (m + 1) = bkt0 s m ||| bt v := bkT_up
theorem rLn_skp {B : Nat → Int32} {N S m p : Nat} {s : Nat → Nat} : rLn B N S m s (skp B N p) = rLn B N S m s p := by unfold rLn rNum; rw [skp_skp]
theorem rBk_skp {B : Nat → Int32} {N S f p : Nat} {σ : BS} : rBk B N S (f + 1) σ (skp B N p) = rBk B N S (f + 1) σ p := by
  unfold rBk
  rw [skp_skp, rLn_skp]
section Mb
variable {d n x N S m : Nat} {B : Nat → Int32} {μ : PM} {Φ : POut → PM → Prop} {I J K : Nat → Nat → Int32} {L : Nat → Nat → Int64} {v w c p k f q lo hi : Int32} {g : Nat → Int32} {s : Nat → Nat} {b : Nat → Bool} {t : LSt} {a : Nat}
theorem m220 {A D M : Nat} (hA : sh0 n A = (22, M, (sh0 n A).2.2)) (hD : sh0 n D = (22, M, (sh0 n D).2.2)) (hr : ∀ k, k < M → sh0 n (A + 1 + k) = (20, 2, []) ∧ sh0 n (D + 1 + k) = (20, 2, [])) (h9 : 9 ≤ D) (h5 : D + 1 + M ≤ 560 ∧ A + 1 + M ≤ 560) (hM : M ≤ 1000) (hm : m ≤ M) (hd : A + 1 + M ≤ D + 1 ∨ D + 1 + M ≤ A + 1) : wpc d 220 [.ref A, .ref D, .int (nt m)] (mk n I L x) Φ ↔ Φ (.inl none) (mk n (foldN (layF A D) m I) L x) := by
  show wp d 220 0 [.ref A, .ref D, .int (nt m), noV, noV] [] (mk n I L x) Φ ↔ _
  have sA1 : (sh0 n A).1 = 22 := by rw [hA]
  have sA2 : (sh0 n A).2.1 = M := by rw [hA]
  have sD1 : (sh0 n D).1 = 22 := by rw [hD]
  have sD2 : (sh0 n D).2.1 = M := by rw [hD]
  have a5 : A < 560 := by omega
  have d5 : D < 560 := by omega
  simp (config := {decide := true}) only [r220_0, r220_1, if_true, if_false, Nat.reduceAdd, Int32.reduceToNatClampNeg, lo_i, lo_r, lo_n, kont_v, kont_n, List.length_nil, List.length_cons]
  have key : ∀ r j J v, NL v → j + r = m → (wp d 220 2 [.ref A, .ref D, .int (nt m), .int (nt j), v] [] (mk n J L x) Φ ↔ Φ (.inl none) (mk n (foldN (fun k J => layF A D (j + k) J) r J) L x)) := by
    intro r
    induction r with
    | zero =>
      intro j J v hv hj
      have e1 : nt m ≤ nt j := by rw [nt_le (by omega) (by omega)]; omega
      rw [r220_2]
      simp (config := {decide := true}) only [r220_3, r220_4, r220_7, r220_8, r220_10, r220_12, r220_13, r220_14, r220_15, r220_16, r220_19, r220_20, r220_21, r220_22, r220_24, r220_25, r220_26, r220_27, r220_29, r220_30, r220_31, r220_34, r220_37, r220_40, r220_43, if_true, if_false, Nat.reduceAdd, Int32.reduceToNatClampNeg, lo_i, lo_r, lo_n, kont_v, kont_n, List.length_nil, List.length_cons, e1]
      exact Iff.rfl
    | succ r ih =>
      intro j J v hv hj
      have e1 : ¬ (nt m ≤ nt j) := nt_nle (by omega) (by omega)
      have e2 : (nt j).toNatClampNeg = j := nt_clamp (by omega)
      have e3 : (0 : Int32) ≤ nt j := nt_ge (by omega)
      have e4 : j < M := by omega
      obtain ⟨s1, s2⟩ := hr j e4
      have e5 : D + 1 + j < 560 := by omega
      have e6 : A + 1 + j < 560 := by omega
      have e7 : 9 ≤ D + 1 + j := by omega
      have e8 : A + 1 + j ≠ D + 1 + j := by omega
      have e9 : ∀ X, wrI J (D + 1 + j) 0 X (A + 1 + j) = J (A + 1 + j) := fun X => wrI_ne e8
      have hstep : wp d 220 2 [.ref A, .ref D, .int (nt m), .int (nt j), v] [] (mk n J L x) Φ ↔ wp d 220 2 [.ref A, .ref D, .int (nt m), .int (nt (j + 1)), .int 2] [] (mk n (layF A D j J) L x) Φ := by
        rw [r220_2]
        simp (config := {decide := true}) only [r220_3, r220_4, r220_7, r220_8, if_true, if_false, Nat.reduceAdd, Int32.reduceToNatClampNeg, lo_i, lo_r, lo_n, kont_v, kont_n, List.length_nil, List.length_cons, e1, hv]
        rw [r220_10]
        simp (config := {decide := true}) only [r220_12, r220_13, r220_14, r220_15, r220_16, r220_19, r220_20, r220_21, r220_22, r220_24, r220_25, r220_26, r220_27, r220_29, r220_30, r220_31, r220_34, if_true, if_false, Nat.reduceAdd, Int32.reduceToNatClampNeg, lo_i, lo_r, lo_n, kont_v, kont_n, List.length_nil, List.length_cons, sA1, sA2, sD1, sD2, a5, d5, e2, e3, e4, s1, s2, e5, e6, e7, true_or]
        rw [r220_10]
        simp (config := {decide := true}) only [r220_12, r220_13, r220_14, r220_15, r220_16, r220_19, r220_20, r220_21, r220_22, r220_24, r220_25, r220_26, r220_27, r220_29, r220_30, r220_31, r220_34, if_true, if_false, Nat.reduceAdd, Int32.reduceToNatClampNeg, lo_i, lo_r, lo_n, kont_v, kont_n, List.length_nil, List.length_cons, sA1, sA2, sD1, sD2, a5, d5, e2, e3, e4, s1, s2, e5, e6, e7, true_or, e9]
        rw [r220_10]
        simp (config := {decide := true}) only [r220_12, r220_13, r220_14, r220_15, r220_16, r220_19, r220_20, r220_21, r220_22, r220_24, r220_25, r220_26, r220_27, r220_29, r220_30, r220_31, r220_34, r220_37, r220_40, r220_43, if_true, if_false, Nat.reduceAdd, Int32.reduceToNatClampNeg, lo_i, lo_r, lo_n, kont_v, kont_n, List.length_nil, List.length_cons, sA1, sA2, sD1, sD2, a5, d5, e2, e3, e4, s1, s2, e5, e6, e7, true_or, nt_succ, wr2_raw]
        exact Iff.rfl
      refine hstep.trans ((ih (j + 1) (layF A D j J) (.int 2) (lo_i _) (by omega)).trans ?_)
      have ef : foldN (fun k J => layF A D (j + 1 + k) J) r (layF A D j J) = foldN (fun k J => layF A D (j + k) J) (r + 1) J := by
        clear hstep ih
        have : ∀ r J, foldN (fun k J => layF A D (j + 1 + k) J) r (layF A D j J) = foldN (fun k J => layF A D (j + k) J) (r + 1) J := by
          intro r
          induction r with
          | zero => intro J; rfl
          | succ r ih =>
            intro J
            show layF A D (j + 1 + r) (foldN (fun k J => layF A D (j + 1 + k) J) r (layF A D j J)) = layF A D (j + (r + 1)) (foldN (fun k J => layF A D (j + k) J) (r + 1) J)
            rw [ih, show j + 1 + r = j + (r + 1) by omega]
        exact this r J
      rw [ef]
  have := key m 0 I noV lo_n (by omega)
  simp only [Nat.zero_add] at this
  exact this
theorem s444 {k : Nat} (h : k < 7) : sh0 n (444 + k) = (20, 2, []) := by
  have : k = 0 ∨ k = 1 ∨ k = 2 ∨ k = 3 ∨ k = 4 ∨ k = 5 ∨ k = 6 := by omega
  rcases this with rfl | rfl | rfl | rfl | rfl | rfl | rfl <;> rfl
theorem s436 {k : Nat} (h : k < 7) : sh0 n (436 + k) = (20, 2, []) := by
  have : k = 0 ∨ k = 1 ∨ k = 2 ∨ k = 3 ∨ k = 4 ∨ k = 5 ∨ k = 6 := by omega
  rcases this with rfl | rfl | rfl | rfl | rfl | rfl | rfl <;> rfl
theorem m235L (hS : S ≤ 7) {v1 : Int32} : ∀ f m s b a I J v4 v5 v6, NL v4 → NL v5 → NL v6 → m + f = 8 → okB S m s → I 74 0 = nt S → (∀ k, k < m → I (444 + k) 0 = nt (s k) ∧ I (444 + k) 1 = if b k then 1 else 0) → MX I N B → MT I J N (.inl a) → skp B N a = a → (∀ m' s' b' p', rBk B N S f (m, s, b) a = .inl ((m', s', b'), p') → ∀ I' K v4 v5 v6, NL v4 → NL v5 → NL v6 → (∀ r, (r < 444 ∨ 450 < r) → I' r = I r) → (∀ k, k < m' → I' (444 + k) 0 = nt (s' k) ∧ I' (444 + k) 1 = if b' k then 1 else 0) → MT I' K N (.inl p') → wp (d + 3) 235 168 [.ref (70 : Nat), .int v1, .int (nt m'), .int (bkt0 s' m'), v4, v5, v6] [] (mk n K L x) Φ) → (∀ e, rBk B N S f (m, s, b) a = .inr e → ∀ I' K v2 v3 v4 v5 v6, NL v4 → NL v5 → NL v6 → (∀ r, (r < 444 ∨ 450 < r) → I' r = I r) → MT I' K N (.inr e) → wp (d + 3) 235 168 [.ref (70 : Nat), .int v1, .int v2, .int v3, v4, v5, v6] [] (mk n K L x) Φ) → wp (d + 3) 235 48 [.ref (70 : Nat), .int v1, .int (nt m), .int (bkt0 s m), v4, v5, v6] [] (mk n J L x) Φ := by
  intro f
  induction f with
  | zero =>
    intro m s b a I J v4 v5 v6 n4 n5 n6 hf hB
    have := okB_7 hS (by omega) hB
    omega
  | succ f ih =>
    intro m s b a I J v4 v5 v6 n4 n5 n6 hf hB h74 hrow hX hJ hsk hok hbad
    unfold rBk at hok hbad
    rw [hsk] at hok hbad
    obtain ⟨ha, q, rfl⟩ := id hJ
    have hN := hX.2.1
    have t2 : ∀ a f q, mS I a f q 70 2 = nt N := fun a f q => mS_2.trans hX.1
    have t74 : ∀ {K t}, MT I K N t → K 74 0 = nt S := fun hK => by rw [MT_ne hK (by decide)]; exact h74
    rw [r235_48]
    by_cases hlt : a < N
    · have hcur : cur B N a = B a := if_pos hlt
      have hne : ¬ (B a = -1) := fun z => absurd (z ▸ (hX.2.2.2 a hlt).1) (by decide)
      simp only [hcur, if_neg hne] at hok hbad
      have e1 : ¬ (nt N ≤ nt a) := nt_nle hlt (by omega)
      have bad1 : ∀ e, rLn B N S m s a = .inr e → ∀ K, MT I K N (.inr e) → ∀ u4 u5 u6, wp (d + 3) 235 124 [.ref (70 : Nat), .int v1, .int (nt m), .int (bkt0 s m), .int u4, .int u5, .int u6] [] (mk n K L x) Φ := by
        intro e he K hK u4 u5 u6
        rw [he] at hbad
        obtain ⟨h0, h1, a1, ha1, rfl⟩ := id hK
        have hf0 := kf h0 h1
        simp (config := {decide := true}) only [r235_124, r235_125, r235_128, r235_161, r235_162, r235_165, if_true, if_false, Nat.reduceAdd, Int32.reduceToNatClampNeg, lo_i, lo_r, lo_n, kont_v, kont_n, List.length_nil, List.length_cons, mS_5, hf0, m200 hX ha1]
        rw [r235_48]
        simp (config := {decide := true}) only [r235_49, r235_52, if_true, if_false, Nat.reduceAdd, Int32.reduceToNatClampNeg, lo_i, lo_r, lo_n, kont_v, kont_n, List.length_nil, List.length_cons, mS_5, hf0]
        exact hbad e rfl I _ _ _ _ _ _ (lo_i _) (lo_i _) (lo_i _) (fun r _ => rfl) (mtX_f h0 h1 (endF_le ha1))
      have bad2 : ∀ e, rLn B N S m s a = .inr e → ∀ K, MT I K N (.inr e) → ∀ u4 u5 u6, wp (d + 3) 235 118 [.ref (70 : Nat), .int v1, .int (nt m), .int (bkt0 s m), .int u4, .int u5, .int u6] [] (mk n K L x) Φ := by
        intro e he K hK u4 u5 u6
        simp (config := {decide := true}) only [r235_118, r235_119, r235_121, if_true, if_false, Nat.reduceAdd, Int32.reduceToNatClampNeg, lo_i, lo_r, lo_n, kont_v, kont_n, List.length_nil, List.length_cons]
        exact m210 hX (by decide) hK (fun K2 hK2 => kont_n.mpr (bad1 e he K2 hK2 _ _ _))
      have bad3 : ∀ e, rLn B N S m s a = .inr e → ∀ K, MT I K N (.inr e) → ∀ u4 u5 u6, NL u6 → wp (d + 3) 235 110 [.ref (70 : Nat), .int v1, .int (nt m), .int (bkt0 s m), .int u4, .int u5, u6] [] (mk n K L x) Φ := by
        intro e he K hK u4 u5 u6 n6
        simp (config := {decide := true}) only [r235_110, r235_111, r235_112, r235_113, if_true, if_false, Nat.reduceAdd, Int32.reduceToNatClampNeg, lo_i, lo_r, lo_n, kont_v, kont_n, List.length_nil, List.length_cons]
        refine m204f hX hK (by decide) (fun K2 hK2 => ?_)
        simp (config := {decide := true}) only [r235_116, if_true, if_false, Nat.reduceAdd, Int32.reduceToNatClampNeg, lo_i, lo_r, lo_n, kont_v, kont_n, List.length_nil, List.length_cons, n6]
        exact bad2 e he K2 hK2 _ _ _
      have s74' : sh0 n 74 = (20, 3, []) := eq_of_heq HEq.rfl
      simp (config := {decide := true}) only [r235_49, r235_52, r235_55, r235_56, r235_59, r235_60, r235_63, r235_66, r235_67, r235_70, r235_72, r235_73, r235_74, r235_75, r235_78, r235_79, r235_80, r235_81, r235_82, if_true, if_false, Nat.reduceAdd, Int32.reduceToNatClampNeg, lo_i, lo_r, lo_n, kont_v, kont_n, List.length_nil, List.length_cons, mS_5, mS_4, t2, e1, s74', t74 hJ, n4]
      refine m204a hX hJ (hS1 hS) ?_ ?_
      · intro v p1 hn1 K1 hK1
        have hv : v < S := rNum_lt (by omega) hn1
        have hb := bk_bit hS hB hv
        have f1 : K1 70 5 = 0 := MT_5 hK1
        by_cases hh : hasS s m v = true
        · have e1 : ¬ bi (bkt0 s m >>> (nt v &&& 31) &&& 1 = 1) = 0 := by rw [bi_eq0, hb]; exact fun z => z hh
          obtain ⟨hp1, q1, rfl⟩ := hK1
          simp (config := {decide := true}) only [r235_85, r235_87, r235_88, r235_91, r235_94, r235_95, r235_97, r235_100, r235_103, r235_104, r235_105, r235_107, if_true, if_false, Nat.reduceAdd, Int32.reduceToNatClampNeg, lo_i, lo_r, lo_n, kont_v, kont_n, List.length_nil, List.length_cons, n5, f1, m197, e1, m201]
          exact bad3 (2, a) (by rw [rLn_2 hn1 hh, hsk]) _ (mtX_f (by decide) (by decide) hp1) _ _ _ n6
        · have e1 : bi (bkt0 s m >>> (nt v &&& 31) &&& 1 = 1) = 0 := by rw [bi_eq0, hb]; exact hh
          simp (config := {decide := true}) only [r235_85, r235_87, r235_88, r235_91, r235_94, r235_95, r235_97, r235_100, r235_103, r235_104, r235_105, r235_107, r235_110, r235_111, r235_112, r235_113, if_true, if_false, Nat.reduceAdd, Int32.reduceToNatClampNeg, lo_i, lo_r, lo_n, kont_v, kont_n, List.length_nil, List.length_cons, n5, f1, m197, e1]
          refine m204a hX hK1 (by decide) ?_ ?_
          · intro w p2 hn2 K2 hK2
            have hw : w ≤ 1 := rNum_1 (H := 1) (by decide) hn2
            simp (config := {decide := true}) only [r235_116, r235_118, r235_119, r235_121, if_true, if_false, Nat.reduceAdd, Int32.reduceToNatClampNeg, lo_i, lo_r, lo_n, kont_v, kont_n, List.length_nil, List.length_cons, n6]
            refine m210 hX (by decide) hK2 (fun K3 hK3 => kont_n.mpr ?_)
            by_cases hsg : cur B N (skp B N p2) = 59
            · simp only [lSig, if_pos hsg] at hK3
              have hln := rLn_5 (m := m) (s := s) hn1 hh hn2 hsg
              rw [hln] at hok hbad
              obtain ⟨l1, l2, l3⟩ := rLn_ok hS hln
              have hB' := okB_up hB l1 l3
              have hm7 := okB_7 hS (by omega) hB'
              have f3 : K3 70 5 = 0 := MT_5 hK3
              have g1 : (nt m).toNatClampNeg = m := nt_clamp (by omega)
              have g2 : (0 : Int32) ≤ nt m := nt_ge (by omega)
              have g3 : m < 7 := by omega
              have s443 : sh0 n 443 = (22, 7, (sh0 n 443).2.2) := eq_of_heq HEq.rfl
              have g4 : (sh0 n 443).1 = 22 := by rw [s443]
              have g5 : (sh0 n 443).2.1 = 7 := by rw [s443]
              have g6 : sh0 n (443 + 1 + m) = (20, 2, []) := s444 g3
              have g7 : 443 + 1 + m < 560 := by omega
              have g8 : 9 ≤ 443 + 1 + m := by omega
              have ew1 : (1 : Int32) <<< (nt v &&& 31) = bt v := rfl
              have hK4 := MT_up (r := 443 + 1 + m) (g := upd (upd (K3 (443 + 1 + m)) 0 (nt v)) 1 (nt w)) hK3 (by omega)
              have hX4 : MX (upR I (443 + 1 + m) (upd (upd (K3 (443 + 1 + m)) 0 (nt v)) 1 (nt w))) N B := MX_up hX (by omega) (by omega)
              simp (config := {decide := true}) only [r235_124, r235_125, r235_128, r235_131, r235_132, r235_133, r235_135, r235_136, r235_137, r235_138, r235_139, r235_142, r235_143, r235_144, r235_145, r235_147, r235_148, r235_149, r235_152, r235_153, r235_154, r235_155, r235_157, r235_158, if_true, if_false, Nat.reduceAdd, Int32.reduceToNatClampNeg, lo_i, lo_r, lo_n, kont_v, kont_n, List.length_nil, List.length_cons, f3, ew1, g1, g2, g3, g4, g5, g6, g7, g8, nt_succ, wr2_raw, ← bkt_up']
              generalize hI4 : upR I (443 + 1 + m) (upd (upd (K3 (443 + 1 + m)) 0 (nt v)) 1 (nt w)) = I4 at hK4 hX4
              generalize upR K3 (443 + 1 + m) (upd (upd (K3 (443 + 1 + m)) 0 (nt v)) 1 (nt w)) = K4 at hK4
              have i4 : ∀ r, r ≠ 444 + m → I4 r = I r := fun r hr => by rw [← hI4]; exact upR_ne (by omega)
              have i4m : I4 (444 + m) = upd (upd (K3 (444 + m)) 0 (nt v)) 1 (nt w) := by rw [← hI4, show 443 + 1 + m = 444 + m by omega]; exact upR_same _ _ _
              obtain ⟨hp4, q4, rfl⟩ := hK4
              simp (config := {decide := true}) only [r235_161, r235_162, r235_165, if_true, if_false, Nat.reduceAdd, Int32.reduceToNatClampNeg, lo_i, lo_r, lo_n, kont_v, kont_n, List.length_nil, List.length_cons, m200 hX4 hp4]
              have skl : rBk B N S f (m + 1, upN s m v, upN b m (decide (w = 1))) (skp B N (skp B N p2 + 1)) = rBk B N S f (m + 1, upN s m v, upN b m (decide (w = 1))) (skp B N p2 + 1) := by
                obtain ⟨f', rfl⟩ : ∃ f', f = f' + 1 := ⟨f - 1, by omega⟩
                exact rBk_skp
              refine ih (m + 1) (upN s m v) (upN b m (decide (w = 1))) (skp B N (skp B N p2 + 1)) I4 _ _ _ _ (lo_i _) (lo_i _) (lo_i _) (by omega) hB' (by rw [i4 74 (by omega)]; exact h74) ?_ hX4 (mtX_ok (endF_le hp4)) skp_skp ?_ ?_
              · intro k hk
                by_cases hkm : k = m
                · subst hkm
                  rw [i4m, up_ne (by decide), up_same, up_same, show upN s k v k = v from if_pos rfl, show upN b k (decide (w = 1)) k = decide (w = 1) from if_pos rfl]
                  refine ⟨rfl, ?_⟩
                  have : w = 0 ∨ w = 1 := by omega
                  rcases this with rfl | rfl <;> rfl
                · rw [i4 (444 + k) (by omega), show upN s m v k = s k from if_neg hkm, show upN b m (decide (w = 1)) k = b k from if_neg hkm]
                  exact hrow k (by omega)
              · intro m' s' b' p' hr I' K v4 v5 v6 n4 n5 n6 h1 h2 h3
                rw [skl] at hr
                exact hok m' s' b' p' hr I' K v4 v5 v6 n4 n5 n6 (fun r hr => by rw [h1 r hr]; exact i4 r (by omega)) h2 h3
              · intro e hr I' K v2 v3 v4 v5 v6 n4 n5 n6 h1 h3
                rw [skl] at hr
                exact hbad e hr I' K v2 v3 v4 v5 v6 n4 n5 n6 (fun r hr => by rw [h1 r hr]; exact i4 r (by omega)) h3
            · simp only [lSig, if_neg hsg] at hK3
              exact bad1 _ (rLn_4 hn1 hh hn2 hsg) K3 hK3 _ _ _
          · intro e he K2 hK2
            simp (config := {decide := true}) only [r235_116, if_true, if_false, Nat.reduceAdd, Int32.reduceToNatClampNeg, lo_i, lo_r, lo_n, kont_v, kont_n, List.length_nil, List.length_cons, n6]
            exact bad2 e (rLn_3 hn1 hh he) K2 hK2 _ _ _
      · intro e he K hK
        have f1 : ¬ K 70 5 = 0 := by rw [MT_5 hK]; exact kf hK.1 hK.2.1
        simp (config := {decide := true}) only [r235_85, r235_87, r235_88, r235_91, if_true, if_false, Nat.reduceAdd, Int32.reduceToNatClampNeg, lo_i, lo_r, lo_n, kont_v, kont_n, List.length_nil, List.length_cons, n5, f1]
        exact bad3 e (rLn_1 he) K hK _ _ _ n6
    · have hcur : cur B N a = -1 := if_neg hlt
      simp only [hcur, if_true] at hok
      have e1 : nt N ≤ nt a := by rw [nt_le (by omega) (by omega)]; omega
      simp (config := {decide := true}) only [r235_49, r235_52, r235_55, r235_56, r235_59, r235_60, r235_63, if_true, if_false, Nat.reduceAdd, Int32.reduceToNatClampNeg, lo_i, lo_r, lo_n, kont_v, kont_n, List.length_nil, List.length_cons, mS_5, mS_4, t2, e1]
      exact hok m s b a rfl I _ v4 v5 v6 n4 n5 n6 (fun r _ => rfl) hrow hJ
end Mb

