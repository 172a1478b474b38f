/-! A REPUBLIC: the reference begins anew -/
section My
variable {d n x sn cn sk : Nat} {Φ : POut → PM → Prop} {I J K G : Nat → Nat → Int32} {L : Nat → Nat → Int64} {nr : Nat → Int32} {sp : Nat → Int32}
theorem m222c (h : ∀ g v2, NL v2 → (∀ j, j < 84 → g j = 0) → (∀ j, 84 ≤ j → g j = J 534 j) → wp (d + 1) 222 80 [.ref (70 : Nat), .int 84, v2] [] (mk n (upR J 534 g) L x) Φ) : ∀ r i g v2, NL v2 → i + r = 84 → (∀ j, j < i → g j = 0) → (∀ j, 84 ≤ j → g j = J 534 j) → wp (d + 1) 222 61 [.ref (70 : Nat), .int (nt i), v2] [] (mk n (upR J 534 g) L x) Φ := by
  intro r
  induction r with
  | zero =>
    intro i g v2 n2 hi h0 h1
    have e1 : 84 ≤ nt i := by rw [show (84 : Int32) = nt 84 from rfl, nt_le (by decide) (by omega)]; omega
    have e2 : nt i = 84 := by rw [show i = 84 by omega]; rfl
    rw [r222_61, e2]
    simp (config := {decide := true}) only [r222_62, r222_64, if_true, if_false, Nat.reduceAdd, Int32.reduceToNatClampNeg, lo_i, lo_r, lo_n, kont_v, kont_n, List.length_nil, List.length_cons, Int32.le_refl]
    exact h g v2 n2 (fun j hj => h0 j (by omega)) h1
  | succ r ih =>
    intro i g v2 n2 hi h0 h1
    have e1 : ¬ (84 ≤ nt i) := nt_nle (m := 84) (by omega) (by decide)
    have e2 : (nt i).toNatClampNeg = i := nt_clamp (by omega)
    have e3 : (0 : Int32) ≤ nt i := nt_ge (by omega)
    have e4 : i < 84 := by omega
    rw [r222_61]
    simp (config := {decide := true}) only [r222_62, r222_64, r222_67, r222_68, r222_71, r222_72, r222_73, r222_74, r222_77, if_true, if_false, Nat.reduceAdd, Int32.reduceToNatClampNeg, lo_i, lo_r, lo_n, kont_v, kont_n, List.length_nil, List.length_cons, e1, e2, e3, e4, s534, wr_up, nt_succ]
    refine ih (i + 1) (upd g i 0) v2 n2 (by omega) (fun j hj => ?_) (fun j hj => ?_)
    · by_cases z : j = i
      · rw [z, up_same]
      · rw [up_ne z]; exact h0 j (by omega)
    · rw [up_ne (by omega)]; exact h1 j hj
def fD (nr : Nat → Int32) (s t : Nat) (j : Nat) : Int32 := if j < s then -1 else if 39 ≤ j ∧ j < 39 + t then nr (j - 39) else 0
theorem m222d (hn : ∀ s, s < 7 → ∀ c, c < 6 → J (106 + s) c = nr (s * 6 + c)) (h : ∀ g v2, NL v2 → (∀ j, j < 84 → g j = fD nr 7 42 j) → (∀ j, 84 ≤ j → g j = J 534 j) → wp (d + 1) 222 139 [.ref (70 : Nat), .int 7, v2] [] (mk n (upR J 534 g) L x) Φ) : ∀ r s g v2, NL v2 → s + r = 7 → (∀ j, j < 84 → g j = fD nr s (6 * s) j) → (∀ j, 84 ≤ j → g j = J 534 j) → wp (d + 1) 222 82 [.ref (70 : Nat), .int (nt s), v2] [] (mk n (upR J 534 g) L x) Φ := by
  have sA : sh0 n 105 = (22, 7, (sh0 n 105).2.2) := eq_of_heq HEq.rfl
  have g4 : (sh0 n 105).1 = 22 := by rw [sA]
  have g5 : (sh0 n 105).2.1 = 7 := by rw [sA]
  have inner : ∀ r2 c s g, c + r2 = 6 → s < 7 → (∀ j, j < 84 → g j = fD nr (s + 1) (6 * s + c) j) → (∀ j, 84 ≤ j → g j = J 534 j) → (∀ g, (∀ j, j < 84 → g j = fD nr (s + 1) (6 * (s + 1)) j) → (∀ j, 84 ≤ j → g j = J 534 j) → ∀ v2, NL v2 → wp (d + 1) 222 82 [.ref (70 : Nat), .int (nt (s + 1)), v2] [] (mk n (upR J 534 g) L x) Φ) → wp (d + 1) 222 99 [.ref (70 : Nat), .int (nt s), .int (nt c)] [] (mk n (upR J 534 g) L x) Φ := by
    intro r2
    induction r2 with
    | zero =>
      intro c s g hc hs h0 h1 hk
      have e1 : 6 ≤ nt c := by rw [show (6 : Int32) = nt 6 from rfl, nt_le (by decide) (by omega)]; omega
      rw [r222_99]
      simp (config := {decide := true}) only [r222_100, r222_102, r222_105, r222_106, r222_109, r222_111, r222_113, r222_114, r222_115, r222_116, r222_117, r222_118, r222_119, r222_122, r222_123, r222_124, r222_125, r222_126, r222_127, r222_130, r222_133, r222_136, if_true, if_false, Nat.reduceAdd, Int32.reduceToNatClampNeg, lo_i, lo_r, lo_n, kont_v, kont_n, List.length_nil, List.length_cons, e1, nt_succ]
      exact hk g (fun j hj => by rw [h0 j hj, show 6 * s + c = 6 * (s + 1) by omega]) h1 _ (lo_i _)
    | succ r2 ih =>
      intro c s g hc hs h0 h1 hk
      have e1 : ¬ (6 ≤ nt c) := nt_nle (m := 6) (by omega) (by decide)
      have g1 : (nt s).toNatClampNeg = s := nt_clamp (by omega)
      have g2 : (0 : Int32) ≤ nt s := nt_ge (by omega)
      have c1 : (nt c).toNatClampNeg = c := nt_clamp (by omega)
      have c2 : (0 : Int32) ≤ nt c := nt_ge (by omega)
      have c3 : c < 6 := by omega
      have g6 := s106 (n := n) hs
      have g7 : 105 + 1 + s < 560 := by omega
      have i0 : 39 + 6 * nt s + nt c = nt (39 + 6 * s + c) := by
        rw [show (6 : Int32) * nt s = nt (6 * s) from (Int32.ofNat_mul 6 s).symm, show (39 : Int32) = nt 39 from rfl, nt_add, nt_add]
      have i1 : (nt (39 + 6 * s + c)).toNatClampNeg = 39 + 6 * s + c := nt_clamp (by omega)
      have i2 : (0 : Int32) ≤ nt (39 + 6 * s + c) := nt_ge (by omega)
      have i3 : 39 + 6 * s + c < 84 := by omega
      have v1 : upR J 534 g (105 + 1 + s) c = nr (s * 6 + c) := by rw [upR_ne (by omega), show 105 + 1 + s = 106 + s by omega]; exact hn s hs c c3
      rw [r222_99]
      simp (config := {decide := true}) only [r222_100, r222_102, r222_105, r222_106, r222_109, r222_111, r222_113, r222_114, r222_115, r222_116, r222_117, r222_118, r222_119, r222_122, r222_123, r222_124, r222_125, r222_126, r222_127, r222_130, r222_133, r222_136, if_true, if_false, Nat.reduceAdd, Int32.reduceToNatClampNeg, lo_i, lo_r, lo_n, kont_v, kont_n, List.length_nil, List.length_cons, e1, g4, g5, g1, g2, hs, c1, c2, c3, g6, g7, i0, i1, i2, i3, s534, v1, wr_up, nt_succ]
      refine ih (c + 1) s (upd g (39 + 6 * s + c) (nr (s * 6 + c))) (by omega) hs (fun j hj => ?_) (fun j hj => ?_) hk
      · by_cases z : j = 39 + 6 * s + c
        · subst z
          rw [up_same]
          unfold fD
          rw [if_neg (by omega), if_pos (by omega)]
          congr 1
          omega
        · rw [up_ne z, h0 j hj]
          unfold fD
          by_cases q1 : j < s + 1
          · rw [if_pos q1, if_pos q1]
          · rw [if_neg q1, if_neg q1]
            by_cases q2 : 39 ≤ j ∧ j < 39 + (6 * s + c)
            · rw [if_pos q2, if_pos (by omega)]
            · rw [if_neg q2, if_neg (by omega)]
      · rw [up_ne (by omega)]; exact h1 j hj
  intro r
  induction r with
  | zero =>
    intro s g v2 n2 hs h0 h1
    have e2 : nt s = 7 := by rw [show s = 7 by omega]; rfl
    rw [r222_82, e2]
    simp (config := {decide := true}) only [r222_83, r222_85, if_true, if_false, Nat.reduceAdd, Int32.reduceToNatClampNeg, lo_i, lo_r, lo_n, kont_v, kont_n, List.length_nil, List.length_cons, Int32.le_refl]
    have : s = 7 := by omega
    subst this
    exact h g v2 n2 h0 h1
  | succ r ih =>
    intro s g v2 n2 hs h0 h1
    have e1 : ¬ (7 ≤ nt s) := nt_nle (m := 7) (by omega) (by decide)
    have z0 : 0 + nt s = nt s := Int32.zero_add _
    have g1 : (nt s).toNatClampNeg = s := nt_clamp (by omega)
    have g2 : (0 : Int32) ≤ nt s := nt_ge (by omega)
    have g3 : s < 84 := by omega
    rw [r222_82]
    simp (config := {decide := true}) only [r222_83, r222_85, r222_88, r222_89, r222_92, r222_93, r222_94, r222_95, r222_96, r222_97, r222_98, if_true, if_false, Nat.reduceAdd, Int32.reduceToNatClampNeg, lo_i, lo_r, lo_n, kont_v, kont_n, List.length_nil, List.length_cons, e1, z0, g1, g2, g3, s534, wr_up]
    refine inner 6 0 s (upd g s (-1)) (by omega) (by omega) (fun j hj => ?_) (fun j hj => ?_) (fun g' q1 q2 v2 n2 => ih (s + 1) g' v2 n2 (by omega) q1 q2)
    · by_cases z : j = s
      · subst z
        rw [up_same]
        unfold fD
        rw [if_pos (by omega)]
      · rw [up_ne z, h0 j hj]
        unfold fD
        by_cases q1 : j < s
        · rw [if_pos q1, if_pos (by omega)]
        · rw [if_neg q1, if_neg (show ¬ j < s + 1 by omega), Nat.add_zero]
    · rw [up_ne (by omega)]; exact h1 j hj
def fE (nr sp : Nat → Int32) (cn t : Nat) (j : Nat) : Int32 := if 27 ≤ j ∧ j < 27 + t then -1 else if 21 ≤ j ∧ j < 21 + t then (if j - 21 < cn then sp (j - 21) else 0) else fD nr 7 42 j
theorem s99k {k : Nat} (h : k < 6) : sh0 n (98 + 1 + k) = (20, 2, []) := by
  have : k = 0 ∨ k = 1 ∨ k = 2 ∨ k = 3 ∨ k = 4 ∨ k = 5 := by omega
  rcases this with rfl | rfl | rfl | rfl | rfl | rfl <;> rfl
theorem m222e (h74 : J 74 1 = nt cn) (hc6 : cn ≤ 6) (hp : ∀ c, c < cn → J (99 + c) 1 = sp c) (h : ∀ g v2, NL v2 → (∀ j, j < 84 → g j = fE nr sp cn 6 j) → (∀ j, 84 ≤ j → g j = J 534 j) → wp (d + 1) 222 194 [.ref (70 : Nat), .int 6, v2] [] (mk n (upR J 534 g) L x) Φ) : ∀ r c g v2, NL v2 → c + r = 6 → (∀ j, j < 84 → g j = fE nr sp cn c j) → (∀ j, 84 ≤ j → g j = J 534 j) → wp (d + 1) 222 141 [.ref (70 : Nat), .int (nt c), v2] [] (mk n (upR J 534 g) L x) Φ := by
  have sA : sh0 n 98 = (22, 6, (sh0 n 98).2.2) := eq_of_heq HEq.rfl
  have g4 : (sh0 n 98).1 = 22 := by rw [sA]
  have g5 : (sh0 n 98).2.1 = 6 := by rw [sA]
  intro r
  induction r with
  | zero =>
    intro c g v2 n2 hc h0 h1
    have e2 : nt c = 6 := by rw [show c = 6 by omega]; rfl
    rw [r222_141, e2]
    simp (config := {decide := true}) only [r222_142, r222_144, if_true, if_false, Nat.reduceAdd, Int32.reduceToNatClampNeg, lo_i, lo_r, lo_n, kont_v, kont_n, List.length_nil, List.length_cons, Int32.le_refl]
    have : c = 6 := by omega
    subst this
    exact h g v2 n2 h0 h1
  | succ r ih =>
    intro c g v2 n2 hc h0 h1
    have e1 : ¬ (6 ≤ nt c) := nt_nle (m := 6) (by omega) (by decide)
    have z1 : 27 + nt c = nt (27 + c) := nt_add 27 c
    have z2 : 21 + nt c = nt (21 + c) := nt_add 21 c
    have y1 : (nt (27 + c)).toNatClampNeg = 27 + c := nt_clamp (by omega)
    have y2 : (0 : Int32) ≤ nt (27 + c) := nt_ge (by omega)
    have y3 : 27 + c < 84 := by omega
    have x1 : (nt (21 + c)).toNatClampNeg = 21 + c := nt_clamp (by omega)
    have x2 : (0 : Int32) ≤ nt (21 + c) := nt_ge (by omega)
    have x3 : 21 + c < 84 := by omega
    have w1 : (nt c).toNatClampNeg = c := nt_clamp (by omega)
    have w2 : (0 : Int32) ≤ nt c := nt_ge (by omega)
    have w3 : c < 6 := by omega
    have t74 : ∀ g, upR J 534 g 74 1 = nt cn := fun g => by rw [upR_ne (by decide)]; exact h74
    have e5 : (nt cn ≤ nt c) = (cn ≤ c) := nt_le (by omega) (by omega)
    have fin : ∀ w, w = (if c < cn then sp c else 0) → wp (d + 1) 222 141 [.ref (70 : Nat), .int (nt (c + 1)), v2] [] (mk n (upR J 534 (upd (upd g (27 + c) (-1)) (21 + c) w)) L x) Φ := by
      intro w hw
      refine ih (c + 1) _ v2 n2 (by omega) (fun j hj => ?_) (fun j hj => ?_)
      · unfold fE
        by_cases q1 : j = 21 + c
        · subst q1
          rw [up_same, if_neg (by omega), if_pos (by omega), hw, show 21 + c - 21 = c by omega]
        · rw [up_ne q1]
          by_cases q2 : j = 27 + c
          · subst q2
            rw [up_same, if_pos (by omega)]
          · rw [up_ne q2, h0 j hj]
            unfold fE
            by_cases q3 : 27 ≤ j ∧ j < 27 + c
            · rw [if_pos q3, if_pos (by omega)]
            · rw [if_neg q3, if_neg (show ¬ (27 ≤ j ∧ j < 27 + (c + 1)) by omega)]
              by_cases q4 : 21 ≤ j ∧ j < 21 + c
              · rw [if_pos q4, if_pos (show 21 ≤ j ∧ j < 21 + (c + 1) by omega)]
              · rw [if_neg q4, if_neg (show ¬ (21 ≤ j ∧ j < 21 + (c + 1)) by omega)]
      · rw [up_ne (by omega), up_ne (by omega)]; exact h1 j hj
    rw [r222_141]
    by_cases hcc : c < cn
    · have e6 : ¬ (cn ≤ c) := by omega
      have g6 := s99k (n := n) w3
      have g7 : 98 + 1 + c < 560 := by omega
      have v1 : ∀ g, upR J 534 g (98 + 1 + c) 1 = sp c := fun g => by rw [upR_ne (by omega), show 98 + 1 + c = 99 + c by omega]; exact hp c hcc
      simp (config := {decide := true}) only [r222_142, r222_144, r222_147, r222_148, r222_151, r222_153, r222_154, r222_155, r222_156, r222_157, r222_158, r222_161, r222_163, r222_164, r222_165, r222_166, r222_167, r222_170, r222_171, r222_172, r222_175, r222_176, r222_179, r222_180, r222_181, r222_182, r222_183, r222_186, r222_187, r222_188, r222_191, if_true, if_false, Nat.reduceAdd, Int32.reduceToNatClampNeg, lo_i, lo_r, lo_n, kont_v, kont_n, List.length_nil, List.length_cons, e1, z1, z2, y1, y2, y3, x1, x2, x3, w1, w2, w3, t74, s74, e5, e6, g4, g5, g6, g7, v1, s534, wr_up, nt_succ]
      exact fin _ (if_pos hcc).symm
    · have e6 : cn ≤ c := by omega
      simp (config := {decide := true}) only [r222_142, r222_144, r222_147, r222_148, r222_151, r222_153, r222_154, r222_155, r222_156, r222_157, r222_158, r222_161, r222_163, r222_164, r222_165, r222_166, r222_167, r222_170, r222_171, r222_172, r222_175, r222_176, r222_179, r222_180, r222_181, r222_182, r222_183, r222_186, r222_187, r222_188, r222_191, if_true, if_false, Nat.reduceAdd, Int32.reduceToNatClampNeg, lo_i, lo_r, lo_n, kont_v, kont_n, List.length_nil, List.length_cons, e1, z1, z2, y1, y2, y3, x1, x2, x3, t74, s74, e5, e6, s534, wr_up, nt_succ]
      exact fin _ (if_neg hcc).symm
end My

