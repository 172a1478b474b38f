/-! IMAGES: the pairs -/
section Ip
variable {d n x z : Nat} {μ : PM} {Φ : POut → PM → Prop} {I J K : Nat → Nat → Int32} {L : Nat → Nat → Int64} {v w : Int32} {f g : Nat → Int32}
theorem s47 : sh0 n 47 = (23, 3, [.ref (48 : Nat), .ref (50 : Nat), .ref (52 : Nat)]) := eq_of_heq HEq.rfl
theorem s54 : sh0 n 54 = (24, 3, [.ref (55 : Nat), .ref (57 : Nat), .ref (59 : Nat)]) := eq_of_heq HEq.rfl
theorem k48 : K5 48 := Or.inr (Or.inr (Or.inl rfl))
theorem k50 : K5 50 := Or.inr (Or.inr (Or.inr (Or.inl rfl)))
theorem k52 : K5 52 := Or.inr (Or.inr (Or.inr (Or.inr (Or.inl rfl))))
theorem k55 : K9 55 := Or.inr (Or.inl rfl)
theorem k57 : K9 57 := Or.inr (Or.inr (Or.inl rfl))
theorem k59 : K9 59 := Or.inr (Or.inr (Or.inr rfl))
def imC (I : Nat → Nat → Int32) (m : Nat) : Nat → Nat → Int32 := wrI (wrI (cpI (cpI I 41 0 (49 + 2 * m) 0 84) 45 0 (56 + 2 * m) 0 1344) (55 + 2 * m) 1 (I 44 1)) 46 2 (nt (m + 1))
theorem c5 {m : Nat} (hm : m < 3) (h46 : I 46 2 = nt m) : wpc (d + 2) 5 [.ref (46 : Nat), .ref (40 : Nat), .ref (44 : Nat)] (mk n I L x) Φ ↔ Φ (.inl none) (mk n (imC I m) L x) := by
  have u : ∀ a, a ≠ 44 → cpI I 41 0 a 0 84 44 = I 44 := fun a ha => by unfold cpI; exact upR_ne (Ne.symm ha)
  have t : ∀ a b c v, a ≠ 46 → b ≠ 46 → c ≠ 46 → wrI (cpI (cpI I 41 0 a 0 84) 45 0 b 0 1344) c 1 v 46 = I 46 := fun a b c v ha hb hc => by
    rw [wrI_ne (Ne.symm hc)]
    unfold cpI
    rw [upR_ne (Ne.symm hb), upR_ne (Ne.symm ha)]
  have t2 : ∀ a, a ≠ 46 → cpI I 41 0 a 0 84 46 = I 46 := fun a ha => by unfold cpI; exact upR_ne (Ne.symm ha)
  show wp (d + 2) 5 0 [.ref (46 : Nat), .ref (40 : Nat), .ref (44 : Nat)] [] (mk n I L x) Φ ↔ _
  unfold imC
  match m, hm with
  | 0, _ =>
    have h46 : I 46 2 = 0 := h46
    have t1 : wrI (cpI (cpI I 41 0 49 0 84) 45 0 56 0 1344) 55 1 (I 44 1) 46 2 = 0 := by rw [t _ _ _ _ (by decide) (by decide) (by decide)]; exact h46
    have t3 : cpI I 41 0 49 0 84 46 2 = 0 := by rw [t2 _ (by decide)]; exact h46
    simp (config := {decide := true}) only [r5_0, r5_1, r5_4, r5_7, r5_8, r5_11, r5_12, r5_15, r5_16, r5_19, r5_20, r5_23, r5_24, r5_27, r5_28, r5_31, r5_32, r5_35, r5_36, r5_39, r5_40, r5_41, r5_44, r5_45, r5_48, r5_49, r5_52, r5_53, r5_54, r5_57, r5_58, r5_59, r5_62, r5_63, r5_64, r5_67, if_true, if_false, Nat.reduceAdd, Int32.reduceToNatClampNeg, lo_i, lo_r, lo_n, kont_v, kont_n, List.length_nil, List.length_cons, and_self, and_true, true_and, and_false, false_and, not_true, not_false_eq_true, true_or, or_true, bi_eq0, h46, s47, s54, k40, k44, k48, k55, c42 k48 k40, c120 k55 k44, u 49 (by decide), t1, t3, Nat.mul_zero, Nat.add_zero]
    rfl
  | 1, _ =>
    have h46 : I 46 2 = 1 := h46
    have t1 : wrI (cpI (cpI I 41 0 51 0 84) 45 0 58 0 1344) 57 1 (I 44 1) 46 2 = 1 := by rw [t _ _ _ _ (by decide) (by decide) (by decide)]; exact h46
    have t3 : cpI I 41 0 51 0 84 46 2 = 1 := by rw [t2 _ (by decide)]; exact h46
    simp (config := {decide := true}) only [r5_0, r5_1, r5_4, r5_7, r5_8, r5_11, r5_12, r5_15, r5_16, r5_19, r5_20, r5_23, r5_24, r5_27, r5_28, r5_31, r5_32, r5_35, r5_36, r5_39, r5_40, r5_41, r5_44, r5_45, r5_48, r5_49, r5_52, r5_53, r5_54, r5_57, r5_58, r5_59, r5_62, r5_63, r5_64, r5_67, if_true, if_false, Nat.reduceAdd, Int32.reduceToNatClampNeg, lo_i, lo_r, lo_n, kont_v, kont_n, List.length_nil, List.length_cons, and_self, and_true, true_and, and_false, false_and, not_true, not_false_eq_true, true_or, or_true, bi_eq0, h46, s47, s54, k40, k44, k50, k57, c42 k50 k40, c120 k57 k44, u 51 (by decide), t1, t3, Nat.mul_one]
    rfl
  | 2, _ =>
    have h46 : I 46 2 = 2 := h46
    have t1 : wrI (cpI (cpI I 41 0 53 0 84) 45 0 60 0 1344) 59 1 (I 44 1) 46 2 = 2 := by rw [t _ _ _ _ (by decide) (by decide) (by decide)]; exact h46
    have t3 : cpI I 41 0 53 0 84 46 2 = 2 := by rw [t2 _ (by decide)]; exact h46
    simp (config := {decide := true}) only [r5_0, r5_1, r5_4, r5_7, r5_8, r5_11, r5_12, r5_15, r5_16, r5_19, r5_20, r5_23, r5_24, r5_27, r5_28, r5_31, r5_32, r5_35, r5_36, r5_39, r5_40, r5_41, r5_44, r5_45, r5_48, r5_49, r5_52, r5_53, r5_54, r5_57, r5_58, r5_59, r5_62, r5_63, r5_64, r5_67, if_true, if_false, Nat.reduceAdd, Int32.reduceToNatClampNeg, lo_i, lo_r, lo_n, kont_v, kont_n, List.length_nil, List.length_cons, and_self, and_true, true_and, and_false, false_and, not_true, not_false_eq_true, true_or, or_true, bi_eq0, h46, s47, s54, k40, k44, k52, k59, c42 k52 k40, c120 k59 k44, u 53 (by decide), t1, t3, Nat.reduceMul]
    rfl
theorem pd171 (hI : LI I) : PD (d + 12) 171 310 [] n I L x := by
  obtain ⟨m, m1, m2, m3, m4⟩ := hI.1.2.2.2.2.1
  obtain ⟨w, w1, w2, w3, w4⟩ := hI.1.2.2.2.1
  by_cases hm : m = 3
  · subst hm
    have e0 : 3 ≤ I 46 2 := by rw [m2]; decide
    refine ⟨-1, I, ?_, wrI I 70 0 0, L, rfl, ?_, z70I hI⟩
    · intro Φ h
      show wp (d + 12) 171 0 [.ref (9 : Nat)] [] (mk n I L x) Φ
      simp (config := {decide := true}) only [r171_0, r171_1, r171_4, r171_7, r171_10, r171_11, if_true, if_false, Nat.reduceAdd, Int32.reduceToNatClampNeg, lo_i, lo_r, lo_n, kont_v, kont_n, List.length_nil, List.length_cons, and_self, and_true, true_and, and_false, false_and, not_true, not_false_eq_true, true_or, or_true, bi_eq0, c1, e0, bi]
      exact h
    · intro Φ h
      have e1 : wrI I 70 0 0 70 36 = 3 := by rw [wr_k (by decide), m3]; rfl
      show wp (d + 12) 310 0 [.ref (70 : Nat)] [] (mk n I L x) Φ
      simp (config := {decide := true}) only [r310_0, r310_1, r310_2, r310_5, r310_6, r310_9, r310_10, r310_13, r310_14, if_true, if_false, Nat.reduceAdd, Int32.reduceToNatClampNeg, lo_i, lo_r, lo_n, kont_v, kont_n, List.length_nil, List.length_cons, e1]
      exact h
  · have hm3 : m < 3 := by omega
    have e0 : ¬ (3 ≤ I 46 2) := by rw [m2]; exact nt_nle (m := 3) hm3 (by decide)
    generalize hJ : imC I m = J
    have ja : ∀ a, a ≠ 49 + 2 * m → a ≠ 56 + 2 * m → a ≠ 55 + 2 * m → a ≠ 46 → J a = I a := by
      intro a n1 n2 n3 n4
      rw [← hJ]
      unfold imC cpI
      rw [wrI_ne n4, wrI_ne n3, upR_ne n2, upR_ne n1]
    have j46 : J 46 2 = nt (m + 1) := by rw [← hJ]; exact wr_eq
    have j49 : J (49 + 2 * m) = ovr 84 (I 41) (I (49 + 2 * m)) := by
      rw [← hJ]
      unfold imC cpI
      rw [wrI_ne (by omega), wrI_ne (by omega), upR_ne (by omega), upR_same, cpy_ovr]
      unfold ovr
      simp only [Nat.zero_add]
    have j56 : J (56 + 2 * m) = ovr 1344 (I 45) (I (56 + 2 * m)) := by
      rw [← hJ]
      unfold imC cpI
      rw [wrI_ne (by omega), wrI_ne (by omega), upR_same, upR_ne (by omega), upR_ne (by omega), cpy_big]
    have j55 : J (55 + 2 * m) 1 = I 44 1 := by
      rw [← hJ]
      unfold imC
      rw [wrI_ne (by omega)]
      exact wr_eq
    have hcl : cres (d + 12) 171 [.ref (9 : Nat)] (mk n I L x) (.inl (some (.int (nt (m + 1))))) (mk n J L x) := by
      intro Φ h
      show wp (d + 12) 171 0 [.ref (9 : Nat)] [] (mk n I L x) Φ
      simp (config := {decide := true}) only [r171_0, r171_1, r171_4, r171_7, r171_10, r171_11, r171_12, r171_13, r171_16, r171_17, r171_20, r171_21, r171_24, if_true, if_false, Nat.reduceAdd, Int32.reduceToNatClampNeg, lo_i, lo_r, lo_n, kont_v, kont_n, List.length_nil, List.length_cons, and_self, and_true, true_and, and_false, false_and, not_true, not_false_eq_true, true_or, or_true, bi_eq0, c1, e0, bi, c5 hm3 m2]
      rw [hJ]
      simp (config := {decide := true}) only [r171_27, r171_28, r171_31, r171_34, if_true, if_false, Nat.reduceAdd, Int32.reduceToNatClampNeg, lo_i, lo_r, lo_n, kont_v, kont_n, List.length_nil, List.length_cons, c3, j46]
      exact h
    refine ⟨_, J, hcl, ?_⟩
    have h70 : J 70 = I 70 := ja _ (by omega) (by omega) (by omega) (by omega)
    have hm : ∃ K, PF (wrI J 70 0 0) m 1429 K ∧ cres (d + 12) 310 [.ref (70 : Nat)] (mk n J L x) (.inl (some (.int (nt (m + 1))))) (mk n (wrI K 70 36 (nt (m + 1))) L x) := by
      have e1 : wrI J 70 0 0 70 36 = nt m := by rw [wr_k (by decide), h70]; exact m3
      have e2 : ¬ (nt m = 3) := by rw [show (3 : Int32) = nt 3 from rfl, nt_inj (by omega) (by decide)]; omega
      have e4 : (nt m).toNatClampNeg = m := nt_clamp (by omega)
      have e5 : (0 : Int32) ≤ nt m := nt_ge (by omega)
      have hw : wpc (d + 12) 310 [.ref (70 : Nat)] (mk n J L x) (fun o μ' => ∃ K, PF (wrI J 70 0 0) m 1429 K ∧ o = .inl (some (.int (nt (m + 1)))) ∧ μ' = mk n (wrI K 70 36 (nt (m + 1))) L x) := by
        show wp (d + 12) 310 0 [.ref (70 : Nat)] [] (mk n J L x) _
        simp (config := {decide := true}) only [r310_0, r310_1, r310_2, r310_5, r310_6, r310_9, r310_10, r310_13, r310_14, r310_15, r310_16, r310_17, r310_20, r310_21, r310_24, r310_25, if_true, if_false, Nat.reduceAdd, Int32.reduceToNatClampNeg, lo_i, lo_r, lo_n, kont_v, kont_n, List.length_nil, List.length_cons, e1, e2, e4, e5, hm3, s554]
        rw [r310_26 (by decide)]
        refine m309f hm3 (fun K hK => ?_)
        have f1 : K 70 36 = nt m := by rw [hK.2.1 36 (by decide)]; exact e1
        have f2 : ∀ u, wrI K 70 36 u 70 36 = u := fun u => wr_eq
        simp (config := {decide := true}) only [r310_29, r310_30, r310_31, r310_34, r310_35, r310_36, r310_39, r310_40, r310_43, if_true, if_false, Nat.reduceAdd, Int32.reduceToNatClampNeg, lo_i, lo_r, lo_n, kont_v, kont_n, List.length_nil, List.length_cons, f1, f2, nt_succ]
        exact ⟨K, hK, trivial, rfl⟩
      obtain ⟨o, μ', ⟨K, hK, rfl, rfl⟩, hc⟩ := cres_of hw
      exact ⟨K, hK, hc⟩
    obtain ⟨K0, hK0, hmm⟩ := hm
    refine ⟨_, L, rfl, hmm, ?_⟩
    obtain ⟨p1, p2, p3, p4⟩ := hK0
    generalize hKK : wrI K0 70 36 (nt (m + 1)) = K
    have ka : ∀ a, a ≠ 70 → a ≠ 555 + m → K a = J a := by
      intro a n1 n2
      rw [← hKK, wrI_ne n1, p1 a n1 n2, wrI_ne n1]
    have k70 : ∀ i, i ≠ 36 → i ≠ 37 → i ≠ 0 → K 70 i = I 70 i := by
      intro i n1 n2 n3
      rw [← hKK, wr_k n1, p2 i n2, wr_k n3, h70]
    have k36 : K 70 36 = nt (m + 1) := by rw [← hKK]; exact wr_eq
    have kr : ∀ i, i < 1429 → K (555 + m) i = cnt (wrI J 70 0 0) i := fun i hi => by rw [← hKK, wrI_ne (by omega)]; exact p4 i hi
    have kI : ∀ a, a ≠ 70 → a ≠ 555 + m → a ≠ 49 + 2 * m → a ≠ 56 + 2 * m → a ≠ 55 + 2 * m → a ≠ 46 → K a = I a := fun a n1 n2 n3 n4 n5 n6 => by rw [ka a n1 n2, ja a n3 n4 n5 n6]
    have ok : okc (fun a => decide (a = 49 ∨ a = 51 ∨ a = 53 ∨ (55 ≤ a ∧ a ≤ 60) ∨ a = 46 ∨ (555 ≤ a ∧ a ≤ 557))) (fun k => k == 36) I K := by
      refine ⟨fun a h1 h2 h3 h4 h5 => ?_, fun k h1 h2 => ?_⟩
      · rw [decide_eq_false_iff_not] at h1
        exact kI a h3 (by omega) (by omega) (by omega) (by omega) (by omega)
      · have h1 : k ≠ 36 := by simpa using h1
        refine k70 k h1 (fun e => ?_) (fun e => ?_)
        · subst e; exact absurd h2 (by decide)
        · subst e; exact absurd h2 (by decide)
    have sp : spc I K := ⟨fun j _ => by rw [kI 43 (by omega) (by omega) (by omega) (by omega) (by omega) (by omega), kI 67 (by omega) (by omega) (by omega) (by omega) (by omega) (by omega), kI 69 (by omega) (by omega) (by omega) (by omega) (by omega) (by omega), kI 535 (by omega) (by omega) (by omega) (by omega) (by omega) (by omega)]; exact ⟨rfl, rfl, rfl, rfl⟩, by rw [kI 64 (by omega) (by omega) (by omega) (by omega) (by omega) (by omega)]⟩
    have k12 : K 12 = I 12 := kI 12 (by omega) (by omega) (by omega) (by omega) (by omega) (by omega)
    have k9 : K 9 = I 9 := kI 9 (by omega) (by omega) (by omega) (by omega) (by omega) (by omega)
    have k10 : K 10 = I 10 := kI 10 (by omega) (by omega) (by omega) (by omega) (by omega) (by omega)
    have k72 : K 72 = I 72 := kI 72 (by omega) (by omega) (by omega) (by omega) (by omega) (by omega)
    have k41 : K 41 = I 41 := kI 41 (by omega) (by omega) (by omega) (by omega) (by omega) (by omega)
    have c0 : cnt (wrI J 70 0 0) 0 = nt w := by
      unfold cnt
      rw [if_pos rfl, wr_k (by decide), h70]; exact w3
    have c1 : ∀ k, k < 84 → cnt (wrI J 70 0 0) (1 + k) = I 534 k := by
      intro k hk
      unfold cnt
      rw [if_neg (by omega), if_pos (by omega), wrI_ne (by omega), ja 534 (by omega) (by omega) (by omega) (by omega), show 1 + k - 1 = k by omega]
    have c2 : ∀ i k, i < 16 → k < 84 → cnt (wrI J 70 0 0) (85 + 84 * i + k) = I (538 + i) k := by
      intro i k hi hk
      unfold cnt
      rw [if_neg (by omega), if_neg (by omega), show (85 + 84 * i + k - 85) / 84 = i by omega, show (85 + 84 * i + k - 85) % 84 = k by omega, wrI_ne (by omega), ja (538 + i) (by omega) (by omega) (by omega) (by omega)]
    obtain ⟨hM, hR, hV, hW, hA, hB, hT, hK9, hN⟩ := hI.1
    refine ⟨⟨kM ok (by decide +kernel) rfl hM, kR ok (by decide) hR, kV ok (by decide) hV, kW ok (by decide) rfl hW, ⟨m + 1, by omega, ?_, k36, fun j hj => ?_⟩, kB ok (by decide) rfl hB, kT ok (by decide) rfl rfl (by rw [k10]) (by rw [k10]) hT, kK ok sp (by decide) (fun j hj => by rw [k41]; exact hi41 hI.1 j hj) hK9, ?_⟩, ?_, ?_⟩
    · rw [ka 46 (by omega) (by omega)]; exact j46
    · by_cases hjm : j = m
      · subst hjm
        refine ⟨w, w1, ?_, ?_, ?_, fun k hk => ?_, fun i hi => ?_⟩
        · rw [ka _ (by omega) (by omega), j55]; exact w2
        · rw [kr 0 (by decide)]; exact c0
        · rw [ka _ (by omega) (by omega), j49]
          exact kRO k12 (RO_ext (fun i hi => by rw [ovr_lt hi]) hR.1)
        · rw [kr _ (by omega), c1 k hk, ka _ (by omega) (by omega), j49, hR.2]
          exact congrFun (vc_ext (fun i hi => by rw [ovr_lt hi])) k
        · obtain ⟨o1, o2⟩ := w4 i hi
          constructor
          · rw [ka _ (by omega) (by omega), j56]
            refine kRO k12 (RO_ext (fun q hq => ?_) o1)
            show _ = ovr 1344 (I 45) _ (84 * i + q)
            rw [ovr_lt (by omega)]
          · intro k hk
            show K (555 + j) (85 + 84 * i + k) = _
            rw [kr _ (by omega), c2 i k (by omega) hk, ka _ (by omega) (by omega), j56, show I (538 + i) k = _ from o2 k hk]
            refine congrFun (vc_ext (fun q hq => ?_)) k
            show _ = ovr 1344 (I 45) _ (84 * i + q)
            rw [ovr_lt (by omega)]
      · obtain ⟨v, v1, v2, v3, v4, v5, v6⟩ := m4 j (by omega)
        rw [kI (55 + 2 * j) (by omega) (by omega) (by omega) (by omega) (by omega) (by omega), kI (49 + 2 * j) (by omega) (by omega) (by omega) (by omega) (by omega) (by omega), kI (56 + 2 * j) (by omega) (by omega) (by omega) (by omega) (by omega) (by omega), kI (555 + j) (by omega) (by omega) (by omega) (by omega) (by omega) (by omega)]
        exact ⟨v, v1, v2, v3, kRO k12 v4, v5, kWK k12 (fun i hi => rfl) v6⟩
    · rw [k70 35 (by decide) (by decide) (by decide), k9]; exact hN
    · rw [k72, k9]; exact hI.2.1
    · rw [k72, k9]; exact hI.2.2
def reC (I : Nat → Nat → Int32) (m : Nat) : Nat → Nat → Int32 := wrI (wrI (cpI (cpI I (49 + 2 * m) 0 41 0 84) (56 + 2 * m) 0 45 0 1344) 44 1 (I (55 + 2 * m) 1)) 46 2 (nt m)
theorem c6 {m : Nat} (hm : m < 3) (h46 : I 46 2 = nt (m + 1)) : wpc (d + 2) 6 [.ref (46 : Nat), .ref (40 : Nat), .ref (44 : Nat)] (mk n I L x) Φ ↔ Φ (.inl none) (mk n (reC I m) L x) := by
  have u : ∀ a b, b ≠ 41 → cpI I a 0 41 0 84 b = I b := fun a b ha => by unfold cpI; exact upR_ne ha
  show wp (d + 2) 6 0 [.ref (46 : Nat), .ref (40 : Nat), .ref (44 : Nat), noV] [] (mk n I L x) Φ ↔ _
  unfold reC
  match m, hm with
  | 0, _ =>
    have h46 : I 46 2 - 1 = 0 := by rw [h46]; decide
    simp (config := {decide := true}) only [r6_0, r6_1, r6_4, r6_5, r6_6, r6_7, r6_8, r6_11, r6_12, r6_13, r6_16, r6_17, r6_20, r6_21, r6_22, r6_25, r6_26, r6_29, r6_30, r6_31, r6_34, r6_35, r6_36, r6_39, r6_40, r6_41, r6_44, r6_45, r6_46, r6_49, r6_50, r6_51, r6_54, if_true, if_false, Nat.reduceAdd, Int32.reduceToNatClampNeg, lo_i, lo_r, lo_n, kont_v, kont_n, List.length_nil, List.length_cons, and_self, and_true, true_and, and_false, false_and, not_true, not_false_eq_true, true_or, or_true, bi_eq0, h46, s47, s54, k40, k44, k48, k55, c42 k40 k48, c120 k44 k55, u 49 55 (by decide), Nat.mul_zero, Nat.add_zero]
    rfl
  | 1, _ =>
    have h46 : I 46 2 - 1 = 1 := by rw [h46]; decide
    simp (config := {decide := true}) only [r6_0, r6_1, r6_4, r6_5, r6_6, r6_7, r6_8, r6_11, r6_12, r6_13, r6_16, r6_17, r6_20, r6_21, r6_22, r6_25, r6_26, r6_29, r6_30, r6_31, r6_34, r6_35, r6_36, r6_39, r6_40, r6_41, r6_44, r6_45, r6_46, r6_49, r6_50, r6_51, r6_54, if_true, if_false, Nat.reduceAdd, Int32.reduceToNatClampNeg, lo_i, lo_r, lo_n, kont_v, kont_n, List.length_nil, List.length_cons, and_self, and_true, true_and, and_false, false_and, not_true, not_false_eq_true, true_or, or_true, bi_eq0, h46, s47, s54, k40, k44, k50, k57, c42 k40 k50, c120 k44 k57, u 51 57 (by decide), Nat.mul_one]
    rfl
  | 2, _ =>
    have h46 : I 46 2 - 1 = 2 := by rw [h46]; decide
    simp (config := {decide := true}) only [r6_0, r6_1, r6_4, r6_5, r6_6, r6_7, r6_8, r6_11, r6_12, r6_13, r6_16, r6_17, r6_20, r6_21, r6_22, r6_25, r6_26, r6_29, r6_30, r6_31, r6_34, r6_35, r6_36, r6_39, r6_40, r6_41, r6_44, r6_45, r6_46, r6_49, r6_50, r6_51, r6_54, if_true, if_false, Nat.reduceAdd, Int32.reduceToNatClampNeg, lo_i, lo_r, lo_n, kont_v, kont_n, List.length_nil, List.length_cons, and_self, and_true, true_and, and_false, false_and, not_true, not_false_eq_true, true_or, or_true, bi_eq0, h46, s47, s54, k40, k44, k52, k59, c42 k40 k52, c120 k44 k59, u 53 59 (by decide), Nat.reduceMul]
    rfl
theorem pd172 (hI : LI I) : PD (d + 12) 172 311 [] n I L x := by
  obtain ⟨m0, m1, m2, m3, m4⟩ := hI.1.2.2.2.2.1
  rcases Nat.eq_zero_or_pos m0 with h0 | h0
  · subst h0
    have e0 : I 46 2 ≤ 0 := by rw [m2]; decide
    refine ⟨-1, I, ?_, wrI I 70 0 0, L, rfl, ?_, z70I hI⟩
    · intro Φ h
      show wp (d + 12) 172 0 [.ref (9 : Nat)] [] (mk n I L x) Φ
      simp (config := {decide := true}) only [r172_0, r172_1, r172_4, r172_7, r172_10, r172_11, if_true, if_false, Nat.reduceAdd, Int32.reduceToNatClampNeg, lo_i, lo_r, lo_n, kont_v, kont_n, List.length_nil, List.length_cons, and_self, and_true, true_and, and_false, false_and, not_true, not_false_eq_true, true_or, or_true, bi_eq0, c2, e0, bi]
      exact h
    · intro Φ h
      have e1 : wrI I 70 0 0 70 36 = 0 := by rw [wr_k (by decide), m3]; rfl
      show wp (d + 12) 311 0 [.ref (70 : Nat)] [] (mk n I L x) Φ
      simp (config := {decide := true}) only [r311_0, r311_1, r311_2, r311_5, r311_6, r311_9, r311_12, r311_13, if_true, if_false, Nat.reduceAdd, Int32.reduceToNatClampNeg, lo_i, lo_r, lo_n, kont_v, kont_n, List.length_nil, List.length_cons, e1]
      exact h
  · obtain ⟨m, rfl⟩ : ∃ v, m0 = v + 1 := ⟨m0 - 1, by omega⟩
    have hm3 : m < 3 := by omega
    have e0 : ¬ (I 46 2 ≤ 0) := by rw [m2]; exact nt_nle (m := m + 1) (j := 0) (by omega) (by omega)
    obtain ⟨w, w1, w2, w3, w4, w5, w6⟩ := m4 m (by omega)
    generalize hJ : wrI (reC I m) 9 15 0 = J
    have ja : ∀ a, a ≠ 41 → a ≠ 45 → a ≠ 44 → a ≠ 46 → a ≠ 9 → J a = I a := by
      intro a n1 n2 n3 n4 n5
      rw [← hJ]
      unfold reC cpI
      rw [wrI_ne n5, wrI_ne n4, wrI_ne n3, upR_ne n2, upR_ne n1]
    have j46 : J 46 2 = nt m := by rw [← hJ, wrI_ne (by decide)]; exact wr_eq
    have j41 : J 41 = ovr 84 (I (49 + 2 * m)) (I 41) := by
      rw [← hJ]
      unfold reC cpI
      rw [wrI_ne (by decide), wrI_ne (by decide), wrI_ne (by decide), upR_ne (by decide), upR_same, cpy_ovr]
      unfold ovr
      simp only [Nat.zero_add]
    have j45 : J 45 = ovr 1344 (I (56 + 2 * m)) (I 45) := by
      rw [← hJ]
      unfold reC cpI
      rw [wrI_ne (by decide), wrI_ne (by decide), wrI_ne (by decide), upR_same, upR_ne (by omega), upR_ne (by decide), cpy_big]
    have j44 : J 44 1 = nt w := by
      rw [← hJ]
      unfold reC
      rw [wrI_ne (by decide), wrI_ne (by decide), wr_eq]
      exact w2
    have j9 : ∀ i, i ≠ 15 → J 9 i = I 9 i := by
      intro i hi
      rw [← hJ, wr_k hi]
      unfold reC cpI
      rw [wrI_ne (by decide), wrI_ne (by decide), upR_ne (by decide), upR_ne (by decide)]
    have j915 : J 9 15 = 0 := by rw [← hJ]; exact wr_eq
    have hcl : cres (d + 12) 172 [.ref (9 : Nat)] (mk n I L x) (.inl (some (.int (nt m)))) (mk n J L x) := by
      intro Φ h
      show wp (d + 12) 172 0 [.ref (9 : Nat)] [] (mk n I L x) Φ
      simp (config := {decide := true}) only [r172_0, r172_1, r172_4, r172_7, r172_10, r172_11, r172_12, r172_13, r172_16, r172_17, r172_20, r172_21, r172_24, r172_27, r172_28, r172_29, if_true, if_false, Nat.reduceAdd, Int32.reduceToNatClampNeg, lo_i, lo_r, lo_n, kont_v, kont_n, List.length_nil, List.length_cons, and_self, and_true, true_and, and_false, false_and, not_true, not_false_eq_true, true_or, or_true, bi_eq0, c2, e0, bi, c6 hm3 m2]
      rw [hJ]
      simp (config := {decide := true}) only [r172_32, r172_33, r172_36, r172_39, if_true, if_false, Nat.reduceAdd, Int32.reduceToNatClampNeg, lo_i, lo_r, lo_n, kont_v, kont_n, List.length_nil, List.length_cons, c3, j46]
      exact h
    refine ⟨_, J, hcl, ?_⟩
    have h70 : J 70 = I 70 := ja _ (by omega) (by omega) (by omega) (by omega) (by omega)
    generalize hJ2 : wrI (wrI J 70 0 0) 70 36 (nt m) = J2
    have j2a : ∀ a, a ≠ 70 → J2 a = J a := fun a ha => by rw [← hJ2, wrI_ne ha, wrI_ne ha]
    have j270 : ∀ i, i ≠ 36 → i ≠ 0 → J2 70 i = I 70 i := fun i n1 n2 => by rw [← hJ2, wr_k n1, wr_k n2, h70]
    have j236 : J2 70 36 = nt m := by rw [← hJ2]; exact wr_eq
    have hm : ∃ K, PT J2 m 1429 K ∧ cres (d + 12) 311 [.ref (70 : Nat)] (mk n J L x) (.inl (some (.int (nt m)))) (mk n (wrI K 70 35 0) L x) := by
      have e1 : wrI J 70 0 0 70 36 = nt (m + 1) := by rw [wr_k (by decide), h70]; exact m3
      have e2 : ¬ (nt (m + 1) = 0) := by rw [show (0 : Int32) = nt 0 from rfl, nt_inj (by omega) (by decide)]; omega
      have e3 : nt (m + 1) - 1 = nt m := nt_sub1 (by omega)
      have e4 : (nt m).toNatClampNeg = m := nt_clamp (by omega)
      have e5 : (0 : Int32) ≤ nt m := nt_ge (by omega)
      have hw : wpc (d + 12) 311 [.ref (70 : Nat)] (mk n J L x) (fun o μ' => ∃ K, PT J2 m 1429 K ∧ o = .inl (some (.int (nt m))) ∧ μ' = mk n (wrI K 70 35 0) L x) := by
        show wp (d + 12) 311 0 [.ref (70 : Nat)] [] (mk n J L x) _
        simp (config := {decide := true}) only [r311_0, r311_1, r311_2, r311_5, r311_6, r311_9, r311_12, r311_13, r311_14, r311_15, r311_16, r311_19, r311_20, r311_21, if_true, if_false, Nat.reduceAdd, Int32.reduceToNatClampNeg, lo_i, lo_r, lo_n, kont_v, kont_n, List.length_nil, List.length_cons, e1, e2, e3]
        rw [hJ2]
        simp (config := {decide := true}) only [r311_24, r311_25, r311_26, r311_29, r311_30, r311_33, r311_34, if_true, if_false, Nat.reduceAdd, Int32.reduceToNatClampNeg, lo_i, lo_r, lo_n, kont_v, kont_n, List.length_nil, List.length_cons, j236, e4, e5, hm3, s554]
        rw [r311_35 (by decide)]
        refine m309t hm3 (fun K hK => ?_)
        have f1 : K 70 36 = nt m := by rw [hK.2.1 36 (by decide) (by decide)]; exact j236
        have f2 : wrI K 70 35 0 70 36 = nt m := by rw [wr_k (by decide)]; exact f1
        simp (config := {decide := true}) only [r311_38, r311_39, r311_40, r311_43, r311_44, r311_47, if_true, if_false, Nat.reduceAdd, Int32.reduceToNatClampNeg, lo_i, lo_r, lo_n, kont_v, kont_n, List.length_nil, List.length_cons, f2]
        exact ⟨K, hK, trivial, rfl⟩
      obtain ⟨o, μ', ⟨K, hK, rfl, rfl⟩, hc⟩ := cres_of hw
      exact ⟨K, hK, hc⟩
    obtain ⟨K0, hK0, hmm⟩ := hm
    refine ⟨_, L, rfl, hmm, ?_⟩
    obtain ⟨p1, p2, p3, p4, p5, p6⟩ := hK0
    generalize hKK : wrI K0 70 35 0 = K
    have ka : ∀ a, a ≠ 70 → a ≠ 534 → (a < 538 ∨ 554 ≤ a) → K a = J a := by
      intro a n1 n2 n3
      rw [← hKK, wrI_ne n1, p1 a n1 n2 n3, j2a a n1]
    have kI : ∀ a, a ≠ 70 → a ≠ 534 → (a < 538 ∨ 554 ≤ a) → a ≠ 41 → a ≠ 45 → a ≠ 44 → a ≠ 46 → a ≠ 9 → K a = I a := fun a n1 n2 n3 n4 n5 n6 n7 n8 => by rw [ka a n1 n2 n3, ja a n4 n5 n6 n7 n8]
    have k70 : ∀ i, i ≠ 34 → i ≠ 35 → i ≠ 36 → i ≠ 37 → i ≠ 0 → K 70 i = I 70 i := by
      intro i n1 n2 n3 n4 n5
      rw [← hKK, wr_k n2, p2 i n4 n1, j270 i n3 n5]
    have k7035 : K 70 35 = 0 := by rw [← hKK]; exact wr_eq
    have k7036 : K 70 36 = nt m := by rw [← hKK, wr_k (by decide), p2 36 (by decide) (by decide)]; exact j236
    have rI : J2 (555 + m) = I (555 + m) := by rw [j2a _ (by omega), ja _ (by omega) (by omega) (by omega) (by omega) (by omega)]
    have k7034 : K 70 34 = nt w := by rw [← hKK, wr_k (by decide), p4 (by decide), rI]; exact w3
    have k534 : ∀ i, K 534 i = if i < 84 then I (555 + m) (1 + i) else I 534 i := by
      intro i
      rw [← hKK, wrI_ne (by decide), p5 i, rI, j2a 534 (by decide), ja 534 (by decide) (by decide) (by decide) (by decide) (by decide)]
      by_cases hi : i < 84
      · rw [if_pos ⟨hi, by omega⟩, if_pos hi]
      · rw [if_neg (fun z => hi z.1), if_neg hi]
    have k538 : ∀ i k, i < 16 → k < 84 → K (538 + i) k = I (555 + m) (85 + 84 * i + k) := by
      intro i k hi hk
      rw [← hKK, wrI_ne (by omega), p6 i k hi, if_pos ⟨hk, by omega⟩, rI]
    have k41 : K 41 = ovr 84 (I (49 + 2 * m)) (I 41) := by rw [ka 41 (by decide) (by decide) (by decide), j41]
    have k45 : K 45 = ovr 1344 (I (56 + 2 * m)) (I 45) := by rw [ka 45 (by decide) (by decide) (by decide), j45]
    have k9 : K 9 = J 9 := ka 9 (by decide) (by decide) (by decide)
    have k12 : K 12 = I 12 := kI 12 (by decide) (by decide) (by decide) (by decide) (by decide) (by decide) (by decide) (by decide)
    have k72 : K 72 = I 72 := kI 72 (by decide) (by decide) (by decide) (by decide) (by decide) (by decide) (by decide) (by decide)
    have k10 : K 10 = I 10 := kI 10 (by decide) (by decide) (by decide) (by decide) (by decide) (by decide) (by decide) (by decide)
    have ok : okc (fun a => decide (a = 534 ∨ (538 ≤ a ∧ a < 554) ∨ a = 41 ∨ a = 45 ∨ a = 44 ∨ a = 46)) (fun k => decide (k = 34 ∨ k = 35 ∨ k = 36)) I K := by
      refine ⟨fun a h1 h2 h3 h4 h5 => ?_, fun k h1 h2 => ?_⟩
      · rw [decide_eq_false_iff_not] at h1
        exact kI a h3 (by omega) (by omega) (by omega) (by omega) (by omega) (by omega) h5
      · rw [decide_eq_false_iff_not] at h1
        refine k70 k (by omega) (by omega) (by omega) (fun e => ?_) (fun e => ?_)
        · subst e; exact absurd h2 (by decide)
        · subst e; exact absurd h2 (by decide)
    have sp : spc I K := ⟨fun j _ => by rw [kI 43 (by decide) (by decide) (by decide) (by decide) (by decide) (by decide) (by decide) (by decide), kI 67 (by decide) (by decide) (by decide) (by decide) (by decide) (by decide) (by decide) (by decide), kI 69 (by decide) (by decide) (by decide) (by decide) (by decide) (by decide) (by decide) (by decide), kI 535 (by decide) (by decide) (by decide) (by decide) (by decide) (by decide) (by decide) (by decide)]; exact ⟨rfl, rfl, rfl, rfl⟩, by rw [kI 64 (by decide) (by decide) (by decide) (by decide) (by decide) (by decide) (by decide) (by decide)]⟩
    obtain ⟨hM, hR, hV, hW, hA, hB, hT, hK9, hN⟩ := hI.1
    refine ⟨⟨kM ok (by decide +kernel) rfl hM, ⟨?_, ?_⟩, kV ok (by decide) hV, ⟨w, w1, ?_, k7034, fun i hi => ?_⟩, ⟨m, by omega, ?_, k7036, fun j hj => ?_⟩, kB ok (by decide) rfl hB, kT ok (by decide) rfl rfl (by rw [k10]) (by rw [k10]) hT, kK ok sp (by decide) (fun j hj => by rw [k41, ovr_ge hj]; exact hi41 hI.1 j hj) hK9, ?_⟩, ?_, ?_⟩
    · rw [k41]
      exact kRO k12 (RO_ext (fun j hj => by rw [ovr_lt hj]) w4)
    · rw [k41]
      funext i
      rw [k534 i]
      by_cases hi : i < 84
      · rw [if_pos hi, w5 i hi]
        exact congrFun (vc_ext (fun j hj => by rw [ovr_lt hj])) i
      · rw [if_neg hi, vc_hi84 (by omega), hR.2, vc_hi84 (by omega)]
    · rw [ka 44 (by decide) (by decide) (by decide)]; exact j44
    · obtain ⟨o1, o2⟩ := w6 i hi
      have ex : ∀ q, q < 84 → I (56 + 2 * m) (84 * i + q) = K 45 (84 * i + q) := fun q hq => by rw [k45, ovr_lt (by omega)]
      constructor
      · exact kRO k12 (RO_ext (fun q hq => ex q hq) o1)
      · intro k hk
        show K (538 + i) k = _
        rw [k538 i k (by omega) hk, show I (555 + m) (85 + 84 * i + k) = _ from o2 k hk]
        exact congrFun (vc_ext (fun q hq => ex q hq)) k
    · rw [ka 46 (by decide) (by decide) (by decide)]; exact j46
    · obtain ⟨v, v1, v2, v3, v4, v5, v6⟩ := m4 j (by omega)
      rw [kI (55 + 2 * j) (by omega) (by omega) (by omega) (by omega) (by omega) (by omega) (by omega) (by omega), kI (49 + 2 * j) (by omega) (by omega) (by omega) (by omega) (by omega) (by omega) (by omega) (by omega), kI (56 + 2 * j) (by omega) (by omega) (by omega) (by omega) (by omega) (by omega) (by omega) (by omega), kI (555 + j) (by omega) (by omega) (by omega) (by omega) (by omega) (by omega) (by omega) (by omega)]
      exact ⟨v, v1, v2, v3, kRO k12 v4, v5, kWK k12 (fun i hi => rfl) v6⟩
    · rw [k7035, k9, j915]
    · rw [k72, k9, j9 16 (by decide)]; exact hI.2.1
    · rw [k72, k9, j9 17 (by decide)]; exact hI.2.2
end Ip

