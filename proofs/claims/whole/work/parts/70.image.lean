/-! IMAGES, RESTORED -/
section Im
variable {d n x z : Nat} {μ : PM} {Φ : POut → PM → Prop} {I J K : Nat → Nat → Int32} {L : Nat → Nat → Int64} {v w : Int32} {f g : Nat → Int32}
def cnt (J : Nat → Nat → Int32) (s : Nat) : Int32 := if s = 0 then J 70 34 else if s < 85 then J 534 (s - 1) else J (538 + (s - 85) / 84) ((s - 85) % 84)
def PF (J : Nat → Nat → Int32) (r s : Nat) (K : Nat → Nat → Int32) : Prop := (∀ a, a ≠ 70 → a ≠ 555 + r → K a = J a) ∧ (∀ i, i ≠ 37 → K 70 i = J 70 i) ∧ K 70 37 = nt s ∧ ∀ i, i < s → K (555 + r) i = cnt J i
theorem pf_step {r s : Nat} (hr : r < 3) (h : PF J r s K) (hv : v = cnt J s) : PF J r (s + 1) (wrI (wrI K (555 + r) s v) 70 37 (nt (s + 1))) := by
  obtain ⟨h1, h2, h3, h4⟩ := h
  refine ⟨fun a n1 n2 => ?_, fun i hi => ?_, wr_eq, fun i hi => ?_⟩
  · rw [wrI_ne n1, wrI_ne n2]; exact h1 a n1 n2
  · rw [wr_k hi, wrI_ne (by omega)]; exact h2 i hi
  · rw [wrI_ne (by omega)]
    by_cases his : i = s
    · subst his; rw [wr_eq]; exact hv
    · rw [wr_k his]; exact h4 i (by omega)
theorem pf_same {r s a i : Nat} (h : PF J r s K) (ha : a ≠ 555 + r) (h37 : ¬ (a = 70 ∧ i = 37)) (hv : v = J a i) : PF J r s (wrI K a i v) := by
  have e : wrI K a i v = K := by
    have : K a i = v := by
      rw [hv]
      by_cases h70 : a = 70
      · subst h70; exact h.2.1 i (fun e => h37 ⟨rfl, e⟩)
      · rw [h.1 a h70 ha]
    rw [← this]
    unfold wrI
    rw [up_self, upR_self]
  rw [e]
  exact h
theorem m309f {r : Nat} (hr : r < 3) (h : ∀ K, PF J r 1429 K → Φ (.inl none) (mk n K L x)) : wpc (d + 1) 309 [.ref (70 : Nat), .ref (555 + r), .int 0] (mk n J L x) Φ := by
  show wp (d + 1) 309 0 [.ref (70 : Nat), .ref (555 + r), .int 0, noV, noV] [] (mk n J L x) Φ
  have z37 : wrI J 70 37 0 70 37 = nt 0 := wr_eq
  have z34 : wrI J 70 37 0 70 34 = J 70 34 := wr_k (by decide)
  have h0 : PF J r 0 (wrI J 70 37 0) := ⟨fun a n1 _ => wrI_ne n1, fun i hi => wr_k hi, wr_eq, fun i hi => absurd hi (Nat.not_lt_zero i)⟩
  simp (config := {decide := true}) only [r309_0, r309_1, r309_2, r309_5, r309_6, r309_7, r309_8, r309_9, r309_12, r309_13, r309_16, r309_19, r309_20, if_true, if_false, Nat.reduceAdd, Int32.reduceToNatClampNeg, lo_i, lo_r, lo_n, kont_v, kont_n, List.length_nil, List.length_cons, z34, m308f hr (show 0 < 1429 by decide) z37]
  have h1 := pf_same (a := 70) (i := 34) (pf_step (v := J 70 34) hr h0 rfl) (by omega) (fun q => absurd q.2 (by decide)) rfl
  have k2 : ∀ m i, i + m = 16 → ∀ K, PF J r (85 + 84 * i) K → ∀ v4, NL v4 → wp (d + 1) 309 53 [.ref (70 : Nat), .ref (555 + r), .int 0, .int (nt i), v4] [] (mk n K L x) Φ := by
    intro m
    induction m with
    | zero =>
      intro i hi K hK v4 _
      have : i = 16 := by omega
      subst this
      rw [r309_53]
      simp (config := {decide := true}) only [r309_54, r309_56, r309_105, if_true, if_false, Nat.reduceAdd, Int32.reduceToNatClampNeg, lo_i, lo_r, lo_n, kont_v, kont_n, List.length_nil, List.length_cons]
      exact h K hK
    | succ m ih =>
      intro i hi K hK v4 hv4
      have e1 : ¬ ((16 : Int32) ≤ nt i) := nt_nle (m := 16) (by omega) (by decide)
      rw [r309_53]
      simp (config := {decide := true}) only [r309_54, r309_56, r309_59, r309_60, if_true, if_false, Nat.reduceAdd, Int32.reduceToNatClampNeg, lo_i, lo_r, lo_n, kont_v, kont_n, List.length_nil, List.length_cons, e1]
      have k3 : ∀ m2 k, k + m2 = 84 → ∀ K, PF J r (85 + 84 * i + k) K → wp (d + 1) 309 62 [.ref (70 : Nat), .ref (555 + r), .int 0, .int (nt i), .int (nt k)] [] (mk n K L x) Φ := by
        intro m2
        induction m2 with
        | zero =>
          intro k hk K hK
          have : k = 84 := by omega
          subst this
          rw [r309_62]
          simp (config := {decide := true}) only [r309_64, r309_66, r309_99, r309_102, if_true, if_false, Nat.reduceAdd, Int32.reduceToNatClampNeg, lo_i, lo_r, lo_n, kont_v, kont_n, List.length_nil, List.length_cons, nt_succ]
          exact ih (i + 1) (by omega) K (by rw [show 85 + 84 * (i + 1) = 85 + 84 * i + 84 by omega]; exact hK) _ (lo_i _)
        | succ m2 ih2 =>
          intro k hk K hK
          have f1 : ¬ ((84 : Int32) ≤ nt k) := nt_nle (m := 84) (by omega) (by decide)
          have f2 : (nt k).toNatClampNeg = k := nt_clamp (by omega)
          have f3 : (0 : Int32) ≤ nt k := nt_ge (by omega)
          have f4 : k < 84 := by omega
          have g2 : (nt i).toNatClampNeg = i := nt_clamp (by omega)
          have g3 : (0 : Int32) ≤ nt i := nt_ge (by omega)
          have g4 : i < 16 := by omega
          have g5 : 538 + i < 560 := by omega
          have g6 : 9 ≤ 538 + i := by omega
          have hv : K (538 + i) k = cnt J (85 + 84 * i + k) := by
            rw [hK.1 (538 + i) (by omega) (by omega)]
            unfold cnt
            rw [if_neg (by omega), if_neg (by omega), show (85 + 84 * i + k - 85) / 84 = i by omega, show (85 + 84 * i + k - 85) % 84 = k by omega]
          rw [r309_62]
          simp (config := {decide := true}) only [r309_64, r309_66, r309_69, r309_70, r309_73, r309_74, r309_75, r309_77, r309_78, r309_79, r309_80, r309_83, r309_84, r309_85, r309_87, r309_88, r309_89, r309_92, r309_93, r309_96, if_true, if_false, Nat.reduceAdd, Int32.reduceToNatClampNeg, lo_i, lo_r, lo_n, kont_v, kont_n, List.length_nil, List.length_cons, f1, f2, f3, f4, g2, g3, g4, g5, g6, s537, sh538 g4, m308f hr (show 85 + 84 * i + k < 1429 by omega) hK.2.2.1, nt_succ]
          refine ih2 (k + 1) (by omega) _ ?_
          exact pf_same (pf_step hr hK hv) (by omega) (fun q => absurd q.1 (by omega)) (by rw [hK.1 (538 + i) (by omega) (by omega)])
      exact k3 84 0 rfl K hK
  have k1 : ∀ m k, k + m = 84 → ∀ K, PF J r (1 + k) K → wp (d + 1) 309 21 [.ref (70 : Nat), .ref (555 + r), .int 0, .int (nt k), noV] [] (mk n K L x) Φ := by
    intro m
    induction m with
    | zero =>
      intro k hk K hK
      have : k = 84 := by omega
      subst this
      rw [r309_21]
      simp (config := {decide := true}) only [r309_22, r309_24, r309_51, r309_52, if_true, if_false, Nat.reduceAdd, Int32.reduceToNatClampNeg, lo_i, lo_r, lo_n, kont_v, kont_n, List.length_nil, List.length_cons]
      exact k2 16 0 rfl K hK _ lo_n
    | succ m ih =>
      intro k hk K hK
      have f1 : ¬ ((84 : Int32) ≤ nt k) := nt_nle (m := 84) (by omega) (by decide)
      have f2 : (nt k).toNatClampNeg = k := nt_clamp (by omega)
      have f3 : (0 : Int32) ≤ nt k := nt_ge (by omega)
      have f4 : k < 84 := by omega
      have hv : K 534 k = cnt J (1 + k) := by
        rw [hK.1 534 (by omega) (by omega)]
        unfold cnt
        rw [if_neg (by omega), if_pos (by omega), show 1 + k - 1 = k by omega]
      rw [r309_21]
      simp (config := {decide := true}) only [r309_22, r309_24, r309_27, r309_28, r309_31, r309_32, r309_33, r309_34, r309_35, r309_38, r309_39, r309_40, r309_41, r309_44, r309_45, r309_48, if_true, if_false, Nat.reduceAdd, Int32.reduceToNatClampNeg, lo_i, lo_r, lo_n, kont_v, kont_n, List.length_nil, List.length_cons, f1, f2, f3, f4, s534, m308f hr (show 1 + k < 1429 by omega) hK.2.2.1, nt_succ]
      refine ih (k + 1) (by omega) _ ?_
      exact pf_same (pf_step hr hK hv) (by omega) (fun q => absurd q.1 (by omega)) (by rw [hK.1 534 (by omega) (by omega)])
  exact k1 84 0 rfl _ h1
/-- taken out of an image -/
def PT (J : Nat → Nat → Int32) (r s : Nat) (K : Nat → Nat → Int32) : Prop := (∀ a, a ≠ 70 → a ≠ 534 → (a < 538 ∨ 554 ≤ a) → K a = J a) ∧ (∀ i, i ≠ 37 → i ≠ 34 → K 70 i = J 70 i) ∧ K 70 37 = nt s ∧ (0 < s → K 70 34 = J (555 + r) 0) ∧ (∀ i, K 534 i = if i < 84 ∧ 1 + i < s then J (555 + r) (1 + i) else J 534 i) ∧ (∀ i k, i < 16 → K (538 + i) k = if k < 84 ∧ 85 + 84 * i + k < s then J (555 + r) (85 + 84 * i + k) else J (538 + i) k)
theorem m309t {r : Nat} (hr : r < 3) (h : ∀ K, PT J r 1429 K → Φ (.inl none) (mk n K L x)) : wpc (d + 1) 309 [.ref (70 : Nat), .ref (555 + r), .int 1] (mk n J L x) Φ := by
  show wp (d + 1) 309 0 [.ref (70 : Nat), .ref (555 + r), .int 1, noV, noV] [] (mk n J L x) Φ
  have z37 : wrI J 70 37 0 70 37 = nt 0 := wr_eq
  have z34 : wrI J 70 37 0 70 34 = J 70 34 := wr_k (by decide)
  have zr : wrI J 70 37 0 (555 + r) = J (555 + r) := wrI_ne (by omega)
  simp (config := {decide := true}) only [r309_0, r309_1, r309_2, r309_5, r309_6, r309_7, r309_8, r309_9, r309_12, r309_13, r309_16, r309_19, r309_20, if_true, if_false, Nat.reduceAdd, Int32.reduceToNatClampNeg, lo_i, lo_r, lo_n, kont_v, kont_n, List.length_nil, List.length_cons, z34, m308t hr (show 0 < 1429 by decide) z37, zr]
  have h1 : PT J r 1 (wrI (wrI (wrI J 70 37 0) 70 37 (nt (0 + 1))) 70 34 (J (555 + r) 0)) := by
    refine ⟨fun a n1 _ _ => ?_, fun i n1 n2 => ?_, ?_, fun _ => wr_eq, fun i => ?_, fun i k hi => ?_⟩
    · rw [wrI_ne n1, wrI_ne n1, wrI_ne n1]
    · rw [wr_k n2, wr_k n1, wr_k n1]
    · rw [wr_k (by decide), wr_eq]
    · rw [wrI_ne (by omega), wrI_ne (by omega), wrI_ne (by omega), if_neg (by omega)]
    · rw [wrI_ne (by omega), wrI_ne (by omega), wrI_ne (by omega), if_neg (by omega)]
  have k2 : ∀ m i, i + m = 16 → ∀ K, PT J r (85 + 84 * i) K → ∀ v4, NL v4 → wp (d + 1) 309 53 [.ref (70 : Nat), .ref (555 + r), .int 1, .int (nt i), v4] [] (mk n K L x) Φ := by
    intro m
    induction m with
    | zero =>
      intro i hi K hK v4 _
      have : i = 16 := by omega
      subst this
      rw [r309_53]
      simp (config := {decide := true}) only [r309_54, r309_56, r309_105, if_true, if_false, Nat.reduceAdd, Int32.reduceToNatClampNeg, lo_i, lo_r, lo_n, kont_v, kont_n, List.length_nil, List.length_cons]
      exact h K hK
    | succ m ih =>
      intro i hi K hK v4 hv4
      have e1 : ¬ ((16 : Int32) ≤ nt i) := nt_nle (m := 16) (by omega) (by decide)
      rw [r309_53]
      simp (config := {decide := true}) only [r309_54, r309_56, r309_59, r309_60, if_true, if_false, Nat.reduceAdd, Int32.reduceToNatClampNeg, lo_i, lo_r, lo_n, kont_v, kont_n, List.length_nil, List.length_cons, e1]
      have k3 : ∀ m2 k, k + m2 = 84 → ∀ K, PT J r (85 + 84 * i + k) K → wp (d + 1) 309 62 [.ref (70 : Nat), .ref (555 + r), .int 1, .int (nt i), .int (nt k)] [] (mk n K L x) Φ := by
        intro m2
        induction m2 with
        | zero =>
          intro k hk K hK
          have : k = 84 := by omega
          subst this
          rw [r309_62]
          simp (config := {decide := true}) only [r309_64, r309_66, r309_99, r309_102, if_true, if_false, Nat.reduceAdd, Int32.reduceToNatClampNeg, lo_i, lo_r, lo_n, kont_v, kont_n, List.length_nil, List.length_cons, nt_succ]
          exact ih (i + 1) (by omega) K (by rw [show 85 + 84 * (i + 1) = 85 + 84 * i + 84 by omega]; exact hK) _ (lo_i _)
        | succ m2 ih2 =>
          intro k hk K hK
          have f1 : ¬ ((84 : Int32) ≤ nt k) := nt_nle (m := 84) (by omega) (by decide)
          have f2 : (nt k).toNatClampNeg = k := nt_clamp (by omega)
          have f3 : (0 : Int32) ≤ nt k := nt_ge (by omega)
          have f4 : k < 84 := by omega
          have g2 : (nt i).toNatClampNeg = i := nt_clamp (by omega)
          have g3 : (0 : Int32) ≤ nt i := nt_ge (by omega)
          have g4 : i < 16 := by omega
          have g5 : 538 + i < 560 := by omega
          have g6 : 9 ≤ 538 + i := by omega
          have hrr : K (555 + r) = J (555 + r) := hK.1 _ (by omega) (by omega) (by omega)
          rw [r309_62]
          simp (config := {decide := true}) only [r309_64, r309_66, r309_69, r309_70, r309_73, r309_74, r309_75, r309_77, r309_78, r309_79, r309_80, r309_83, r309_84, r309_85, r309_87, r309_88, r309_89, r309_92, r309_93, r309_96, if_true, if_false, Nat.reduceAdd, Int32.reduceToNatClampNeg, lo_i, lo_r, lo_n, kont_v, kont_n, List.length_nil, List.length_cons, f1, f2, f3, f4, g2, g3, g4, g5, g6, s537, sh538 g4, m308t hr (show 85 + 84 * i + k < 1429 by omega) hK.2.2.1, hrr, nt_succ]
          refine ih2 (k + 1) (by omega) _ ?_
          obtain ⟨p1, p2, p3, p4, p5, p6⟩ := hK
          refine ⟨fun a n1 n2 n3 => ?_, fun q n1 n2 => ?_, ?_, fun _ => ?_, fun q => ?_, fun i2 q hi2 => ?_⟩
          · rw [wrI_ne (by omega), wrI_ne n1]; exact p1 a n1 n2 n3
          · rw [wrI_ne (by omega), wr_k n1]; exact p2 q n1 n2
          · rw [wrI_ne (by omega), wr_eq]; rfl
          · rw [wrI_ne (by omega), wr_k (by decide)]; exact p4 (by omega)
          · rw [wrI_ne (by omega), wrI_ne (by omega), p5 q]
            by_cases hq : q < 84
            · rw [if_pos ⟨hq, by omega⟩, if_pos ⟨hq, by omega⟩]
            · rw [if_neg (fun z => hq z.1), if_neg (fun z => hq z.1)]
          · by_cases h2 : i2 = i
            · subst h2
              by_cases hqk : q = k
              · subst hqk
                rw [wr_eq, if_pos ⟨f4, by omega⟩]
              · rw [wr_k hqk, wrI_ne (by omega), p6 i2 q hi2]
                by_cases hq : q < 84 ∧ 85 + 84 * i2 + q < 85 + 84 * i2 + k
                · rw [if_pos hq, if_pos ⟨hq.1, by omega⟩]
                · rw [if_neg hq, if_neg (fun z => hq ⟨z.1, by have := z.2; omega⟩)]
            · rw [wrI_ne (by omega), wrI_ne (by omega), p6 i2 q hi2]
              by_cases hq : q < 84 ∧ 85 + 84 * i2 + q < 85 + 84 * i + k
              · rw [if_pos hq, if_pos ⟨hq.1, by omega⟩]
              · rw [if_neg hq, if_neg (fun z => hq ⟨z.1, by have := z.2; have := z.1; omega⟩)]
      exact k3 84 0 rfl K hK
  have k1 : ∀ m k, k + m = 84 → ∀ K, PT J r (1 + k) K → wp (d + 1) 309 21 [.ref (70 : Nat), .ref (555 + r), .int 1, .int (nt k), noV] [] (mk n K L x) Φ := by
    intro m
    induction m with
    | zero =>
      intro k hk K hK
      have : k = 84 := by omega
      subst this
      rw [r309_21]
      simp (config := {decide := true}) only [r309_22, r309_24, r309_51, r309_52, if_true, if_false, Nat.reduceAdd, Int32.reduceToNatClampNeg, lo_i, lo_r, lo_n, kont_v, kont_n, List.length_nil, List.length_cons]
      exact k2 16 0 rfl K hK _ lo_n
    | succ m ih =>
      intro k hk K hK
      have f1 : ¬ ((84 : Int32) ≤ nt k) := nt_nle (m := 84) (by omega) (by decide)
      have f2 : (nt k).toNatClampNeg = k := nt_clamp (by omega)
      have f3 : (0 : Int32) ≤ nt k := nt_ge (by omega)
      have f4 : k < 84 := by omega
      have hrr : K (555 + r) = J (555 + r) := hK.1 _ (by omega) (by omega) (by omega)
      rw [r309_21]
      simp (config := {decide := true}) only [r309_22, r309_24, r309_27, r309_28, r309_31, r309_32, r309_33, r309_34, r309_35, r309_38, r309_39, r309_40, r309_41, r309_44, r309_45, r309_48, if_true, if_false, Nat.reduceAdd, Int32.reduceToNatClampNeg, lo_i, lo_r, lo_n, kont_v, kont_n, List.length_nil, List.length_cons, f1, f2, f3, f4, s534, m308t hr (show 1 + k < 1429 by omega) hK.2.2.1, hrr, nt_succ]
      refine ih (k + 1) (by omega) _ ?_
      obtain ⟨p1, p2, p3, p4, p5, p6⟩ := hK
      refine ⟨fun a n1 n2 n3 => ?_, fun q n1 n2 => ?_, ?_, fun _ => ?_, fun q => ?_, fun i2 q hi2 => ?_⟩
      · rw [wrI_ne n2, wrI_ne n1]; exact p1 a n1 n2 n3
      · rw [wrI_ne (by omega), wr_k n1]; exact p2 q n1 n2
      · rw [wrI_ne (by omega), wr_eq, Nat.add_assoc]
      · rw [wrI_ne (by omega), wr_k (by decide)]; exact p4 (by omega)
      · by_cases hqk : q = k
        · subst hqk
          rw [wr_eq, if_pos ⟨f4, by omega⟩]
        · rw [wr_k hqk, wrI_ne (by omega), p5 q]
          by_cases hq : q < 84 ∧ 1 + q < 1 + k
          · rw [if_pos hq, if_pos ⟨hq.1, by omega⟩]
          · rw [if_neg hq, if_neg (fun z => hq ⟨z.1, by have := z.2; omega⟩)]
      · rw [wrI_ne (by omega), wrI_ne (by omega), p6 i2 q hi2, if_neg (fun z => absurd z.2 (by omega)), if_neg (fun z => absurd z.2 (by omega))]
  exact k1 84 0 rfl _ h1
end Im

