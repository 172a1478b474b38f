/-! QUESTIONS: the prophet -/
abbrev ll (k : Nat) : Int64 := Int64.ofNat k
theorem ll_toInt {k : Nat} (h : k < 2 ^ 63) : (ll k).toInt = (k : Int) := Int64.toInt_ofNat_of_lt h
theorem ll_mul (a b : Nat) : ll a * ll b = ll (a * b) := (Int64.ofNat_mul a b).symm
theorem ll_add (a b : Nat) : ll a + ll b = ll (a + b) := (Int64.ofNat_add a b).symm
theorem ll_i2l {k : Nat} (h : k < 2147483648) : (nt k).toInt64 = ll k := Int64.toInt_inj.1 (by rw [Int32.toInt_toInt64, nt_toInt h, ll_toInt (by omega)])
theorem ll_inj {a b : Nat} (ha : a < 2 ^ 63) (hb : b < 2 ^ 63) : (ll a = ll b) = (a = b) := by
  rw [← Int64.toInt_inj, ll_toInt ha, ll_toInt hb, eq_iff_iff]
  constructor <;> intro q <;> omega
theorem ll_div {a b : Nat} (ha : a < 2 ^ 63) (hb : b < 2 ^ 63) : ll a / ll b = ll (a / b) := by
  refine Int64.toInt_inj.1 ?_
  have hne : ll b ≠ -1 := by
    intro e
    have e2 := congrArg Int64.toInt e
    rw [ll_toInt hb] at e2
    have e3 : (-1 : Int64).toInt = -1 := rfl
    omega
  rw [Int64.toInt_div_of_ne_right _ _ hne, ll_toInt ha, ll_toInt hb, ll_toInt (Nat.lt_of_le_of_lt (Nat.div_le_self a b) ha)]
  exact (Int.ofNat_tdiv a b).symm
theorem ll_rem {a b : Nat} (ha : a < 2 ^ 63) (hb : b < 2 ^ 63) : ll a - ll a / ll b * ll b = ll (a % b) := by
  rw [ll_div ha hb, ll_mul]
  have e : ll a = ll (a % b) + ll (a / b * b) := by rw [ll_add, Nat.add_comm, Nat.div_add_mod']
  rw [e, Int64.sub_eq_add_neg, Int64.add_assoc, ← Int64.sub_eq_add_neg, Int64.sub_self, Int64.add_zero]
theorem lc_eq {a b : Nat} (ha : a < 2 ^ 63) (hb : b < 2 ^ 63) : lg_cmp (ll a) (ll b) = if b < a then 1 else if a = b then 0 else -1 := by
  unfold lg_cmp
  by_cases h1 : b < a
  · rw [if_pos (show ll a > ll b from by show ll b < ll a; rw [Int64.lt_iff_toInt_lt, ll_toInt ha, ll_toInt hb]; omega), if_pos h1]
  · rw [if_neg (show ¬ ll a > ll b from by show ¬ ll b < ll a; rw [Int64.lt_iff_toInt_lt, ll_toInt ha, ll_toInt hb]; omega), if_neg h1]
    by_cases h2 : a = b
    · rw [if_pos (by rw [h2]), if_pos h2]
    · rw [if_neg (by rw [ll_inj ha hb]; exact h2), if_neg h2]
theorem nt_sub {a b : Nat} (h : b ≤ a) : nt a - nt b = nt (a - b) := by
  have e : nt a = nt (a - b) + nt b := by rw [nt_add]; congr 1; omega
  rw [e, Int32.sub_eq_add_neg, Int32.add_assoc, ← Int32.sub_eq_add_neg, Int32.sub_self, Int32.add_zero]
def chT : List (List Nat) := [[1], [1, 1], [1, 2, 1], [1, 3, 3, 1], [1, 4, 6, 4, 1], [1, 5, 10, 10, 5, 1], [1, 6, 15, 20, 15, 6, 1], [1, 7, 21, 35, 35, 21, 7, 1], [1, 8, 28, 56, 70, 56, 28, 8, 1], [1, 9, 36, 84, 126, 126, 84, 36, 9, 1], [1, 10, 45, 120, 210, 252, 210, 120, 45, 10, 1], [1, 11, 55, 165, 330, 462, 462, 330, 165, 55, 11, 1], [1, 12, 66, 220, 495, 792, 924, 792, 495, 220, 66, 12, 1], [1, 13, 78, 286, 715, 1287, 1716, 1716, 1287, 715, 286, 78, 13, 1]]
def ch (n i : Nat) : Nat := (chT.getD n []).getD i 0
def prE (N Q i : Nat) : Nat := ch N i * Q ^ i * (16 - Q) ^ (N - i)
def prF (N K Q t : Nat) (q : Nat × Nat) : Nat × Nat := (if K ≤ t then q.1 + q.2 * Q ^ t * (16 - Q) ^ (N - t) else q.1, q.2 * (N - t) / (t + 1))
def prU (N K Q : Nat) : Nat := foldN (fun i t => t + prE N Q (K + i)) (14 - K) 0
def hv : Nat → Nat → Nat → Nat × Nat
  | 0, u, b => (u, b)
  | m + 1, u, b => if 1 < b ∧ u % 2 = 0 then hv m (u / 2) (b / 2) else (u, b)
theorem ch_s : ∀ N, N < 13 → ∀ t, t < N + 1 → ch N t * (N - t) / (t + 1) = ch N (t + 1) ∧ ch N t ≤ 924 := by decide +kernel
theorem prE_0 : ∀ Q, Q < 17 → ∀ i, i < 14 → prE 0 Q i = if i = 0 then 1 else 0 := by decide +kernel
theorem prE_s : ∀ Q, Q < 17 → ∀ e, e < 12 → ∀ i, i < 14 → prE (e + 1) Q i = prE e Q i * (16 - Q) + (if i = 0 then 0 else prE e Q (i - 1) * Q) := by decide +kernel
theorem pr_all : ∀ N, N < 13 → ∀ K, K < 14 → ∀ Q, Q < 17 → (foldN (prF N K Q) (N + 1) (0, 1)).1 = prU N K Q ∧ prU N K Q ≤ 281474976710656 ∧ hv 48 (prU N K Q) (16 ^ N) = (prU N K Q / Nat.gcd (16 ^ N) (prU N K Q), 16 ^ N / Nat.gcd (16 ^ N) (prU N K Q)) := by decide +kernel
theorem p16 : ∀ N, N < 13 → 16 ^ N ≤ 281474976710656 ∧ 0 < 16 ^ N ∧ (1 : Int64) <<< (((4 : Int32) * nt N).toInt64 &&& 63) = ll (16 ^ N) := by decide +kernel
section Q7
variable {d n x c r j : Nat} {μ : PM} {Φ : POut → PM → Prop} {I J : Nat → Nat → Int32} {L : Nat → Nat → Int64} {k s h v w a b z y : Int32} {p q : Scr}
theorem lu_same {f : Nat → Int64} {i : Nat} {v : Int64} : vp_updL f i v i = v := by
  unfold vp_updL
  exact if_pos rfl
theorem lu_ne {f : Nat → Int64} {i k : Nat} {v : Int64} (h : k ≠ i) : vp_updL f i v k = f k := by
  unfold vp_updL
  exact if_neg h
theorem wrL_up {g : Nat → Int64} {i : Nat} {v : Int64} : wrL (upR L 558 g) 558 i v = upR L 558 (vp_updL g i v) := by
  unfold wrL
  rw [upR_same, upR_upR]
theorem c189 {B m : Nat} (hB : B ≤ 16) (hm : m ≤ 12) : wpc d 189 [.int (nt B), .int (nt m)] μ Φ ↔ Φ (.inl (some (.long (ll (B ^ m))))) μ := by
  show wp d 189 0 [.int (nt B), .int (nt m), noV, noV, noV] [] μ Φ ↔ _
  have e0 : ∀ m, foldN (fun _ t => t * ll B) m 1 = ll (B ^ m) := by
    intro m
    induction m with
    | zero => rfl
    | succ m ih =>
      show foldN (fun _ t => t * ll B) m 1 * ll B = _
      rw [ih, ll_mul, Nat.pow_succ]
  rw [← e0 m]
  simp (config := {decide := true}) only [r189_0, r189_1, r189_2, r189_3, if_true, if_false, Nat.reduceAdd, Int32.reduceToNatClampNeg, lo_i, lo_r, lo_n, kont_v, kont_n, List.length_nil, List.length_cons]
  refine loopN (P := fun i t => wp d 189 5 [.int (nt B), .int (nt m), .long t, noV, .int (nt i)] [] μ Φ) (Q := fun t => Φ (.inl (some (.long t))) μ) (n := m) ?_ ?_ 1
  · intro i t hi
    have e1 : ¬ (nt m ≤ nt i) := nt_nle hi (by omega)
    rw [r189_5]
    simp (config := {decide := true}) only [r189_7, r189_8, r189_11, r189_12, r189_13, r189_14, r189_15, r189_16, r189_19, r189_22, r189_23, if_true, if_false, Nat.reduceAdd, Int32.reduceToNatClampNeg, lo_i, lo_r, lo_n, kont_v, kont_n, List.length_nil, List.length_cons, e1, ll_i2l (show B < 2147483648 by omega), nt_succ]
  · intro t
    have e6 : nt m ≤ nt m := Int32.le_refl _
    rw [r189_5]
    simp (config := {decide := true}) only [r189_7, r189_8, r189_11, r189_12, r189_13, r189_14, r189_15, r189_16, r189_19, r189_22, r189_23, if_true, if_false, Nat.reduceAdd, Int32.reduceToNatClampNeg, lo_i, lo_r, lo_n, kont_v, kont_n, List.length_nil, List.length_cons, e6]
abbrev AnL : Type := Int64 ⊕ (Nat × Nat)
def resCL (n : Nat) (I : Nat → Nat → Int32) (L : Nat → Nat → Int64) (x : Nat) (Φ : POut → PM → Prop) (r : AnL) : Prop := match r with
  | .inl A => ∀ J, Sm I J → Φ (.inl (some (.long A))) (mk n J L x)
  | .inr p => exQ n I L x Φ p.1
def resML (n : Nat) (I : Nat → Nat → Int32) (L : Nat → Nat → Int64) (x : Nat) (Φ : POut → PM → Prop) (r : AnL) : Prop := match r with
  | .inl A => ∀ J L', Sm I J → J 70 0 = 0 → L' 559 = L 559 → Φ (.inl (some (.long A))) (mk n J L' x)
  | .inr p => ∀ J, view J = view I → J 9 = I 9 → J 72 = upd (I 72) (p.1 - 1) (I 72 (p.1 - 1) + 1) → J 70 0 = nt p.2 → Φ (.inl (some (.long 0))) (mk n J L x)
def proV (N K Q : Nat) (z : Int32) : Int64 := if z = 0 then ll (prU N K Q / Nat.gcd (16 ^ N) (prU N K Q)) else ll (16 ^ N / Nat.gcd (16 ^ N) (prU N K Q))
def aPro (s w y z : Int32) : AnL := if 0 ≤ s ∧ s ≤ 12 then (if 0 ≤ w ∧ w ≤ 13 then (if 0 ≤ y ∧ y ≤ 16 then (if 0 ≤ z ∧ z ≤ 1 then .inl (proV s.toNatClampNeg w.toNatClampNeg y.toNatClampNeg z) else .inr (2, 1)) else .inr (2, 1)) else .inr (2, 1)) else .inr (2, 1)
theorem q156 (hI : Inv I) (hx : x + 1 ≤ 600) (h : resCL n I L x Φ (aPro s w y z)) : wpc (d + 12) 156 [.ref (9 : Nat), .int s, .int w, .int y, .int z] (mk n I L x) Φ := by
  show wp (d + 12) 156 0 [.ref (9 : Nat), .int s, .int w, .int y, .int z, noV, noV, noV, noV, noV, noV, noV] [] (mk n I L x) Φ
  unfold aPro at h
  by_cases g1 : 0 ≤ s ∧ s ≤ 12
  · rw [if_pos g1] at h
    by_cases g2 : 0 ≤ w ∧ w ≤ 13
    · rw [if_pos g2] at h
      by_cases g3 : 0 ≤ y ∧ y ≤ 16
      · rw [if_pos g3] at h
        by_cases g4 : 0 ≤ z ∧ z ≤ 1
        · rw [if_pos g4] at h
          obtain ⟨N, hN, rfl⟩ := rgN (N := 12) (by decide) g1
          obtain ⟨K, hK, rfl⟩ := rgN (N := 13) (by decide) g2
          obtain ⟨Q, hQ, rfl⟩ := rgN (N := 16) (by decide) g3
          rw [nt_clamp (k := N) (by omega), nt_clamp (k := K) (by omega), nt_clamp (k := Q) (by omega)] at h
          obtain ⟨a1, a2, a3⟩ := pr_all N hN K hK Q hQ
          obtain ⟨b1, b2, -⟩ := p16 N hN
          have s1 : (16 : Int32) - nt Q = nt (16 - Q) := nt_sub (a := 16) (by omega)
          simp (config := {decide := true}) only [r156_0, r156_1, r156_2, r156_3, r156_5, r156_8, r156_11, r156_12, r156_13, r156_15, r156_18, r156_21, r156_22, r156_23, r156_25, r156_28, r156_31, r156_33, r156_34, r156_35, r156_38, r156_41, r156_42, r156_45, r156_46, r156_49, r156_50, r156_52, r156_53, r156_55, r156_56, if_true, if_false, Nat.reduceAdd, Int32.reduceToNatClampNeg, lo_i, lo_r, lo_n, kont_v, kont_n, List.length_nil, List.length_cons, and_self, and_true, true_and, and_false, false_and, not_true, not_false_eq_true, true_or, or_true, bi_eq0, c181 hx, c179 hx, c180 hx, c182, c183, kx, g1, g2, g3, g4]
          have hfin : ∀ m i u b, i + m = 48 → u ≤ 281474976710656 → b ≤ 281474976710656 → ((if z = 0 then Φ (.inl (some (.long (ll (hv m u b).1)))) (mk n I L x) else Φ (.inl (some (.long (ll (hv m u b).2)))) (mk n I L x))) → ∀ v7, wp (d + 12) 156 129 [.ref (9 : Nat), .int (nt N), .int (nt K), .int (nt Q), .int z, .long (ll u), noV, .long v7, noV, .long (ll b), noV, .int (nt i)] [] (mk n I L x) Φ := by
            have tail : ∀ u b i v7, (if z = 0 then Φ (.inl (some (.long (ll u)))) (mk n I L x) else Φ (.inl (some (.long (ll b)))) (mk n I L x)) → wp (d + 12) 156 176 [.ref (9 : Nat), .int (nt N), .int (nt K), .int (nt Q), .int z, .long (ll u), noV, .long v7, noV, .long (ll b), noV, .int (nt i)] [] (mk n I L x) Φ := by
              intro u b i v7 hq
              by_cases h0 : z = 0
              · rw [if_pos h0] at hq
                simp (config := {decide := true}) only [r156_176, r156_178, r156_181, r156_183, r156_186, r156_188, if_true, if_false, Nat.reduceAdd, Int32.reduceToNatClampNeg, lo_i, lo_r, lo_n, kont_v, kont_n, List.length_nil, List.length_cons, h0]
                exact hq
              · rw [if_neg h0] at hq
                simp (config := {decide := true}) only [r156_176, r156_178, r156_181, r156_183, r156_186, r156_188, if_true, if_false, Nat.reduceAdd, Int32.reduceToNatClampNeg, lo_i, lo_r, lo_n, kont_v, kont_n, List.length_nil, List.length_cons, h0]
                exact hq
            intro m
            induction m with
            | zero =>
              intro i u b hi hu hb hq v7
              have : i = 48 := by omega
              subst this
              rw [r156_129]
              simp (config := {decide := true}) only [r156_131, r156_133, r156_136, r156_138, r156_139, r156_140, r156_143, r156_145, r156_148, r156_149, r156_150, r156_151, r156_154, r156_156, r156_159, r156_160, r156_162, r156_164, r156_167, r156_168, r156_170, r156_173, if_true, if_false, Nat.reduceAdd, Int32.reduceToNatClampNeg, lo_i, lo_r, lo_n, kont_v, kont_n, List.length_nil, List.length_cons]
              exact tail u b 48 v7 hq
            | succ m ih =>
              intro i u b hi hu hb hq v7
              have e1 : ¬ ((48 : Int32) ≤ nt i) := nt_nle (m := 48) (by omega) (by decide)
              have c1 := lc_eq (a := b) (b := 1) (by omega) (by omega)
              have c2 := lc_eq (a := u % 2) (b := 0) (by omega) (by omega)
              have r1 : ll u - ll u / 2 * 2 = ll (u % 2) := ll_rem (b := 2) (by omega) (by omega)
              have r2 : ll u / 2 = ll (u / 2) := ll_div (b := 2) (by omega) (by omega)
              rw [r2] at r1
              have r3 : ll b / 2 = ll (b / 2) := ll_div (b := 2) (by omega) (by omega)
              have c3 : lg_cmp (ll b) 1 = if 1 < b then 1 else if b = 1 then 0 else -1 := c1
              have c4 : lg_cmp (ll (u % 2)) 0 = if 0 < u % 2 then 1 else if u % 2 = 0 then 0 else -1 := c2
              rw [r156_129]
              by_cases h1 : 1 < b
              · rw [if_pos h1] at c3
                by_cases h2 : u % 2 = 0
                · rw [show hv (m + 1) u b = hv m (u / 2) (b / 2) from if_pos ⟨h1, h2⟩] at hq
                  rw [if_neg (by omega), if_pos h2] at c4
                  simp (config := {decide := true}) only [r156_131, r156_133, r156_136, r156_138, r156_139, r156_140, r156_143, r156_145, r156_148, r156_149, r156_150, r156_151, r156_154, r156_156, r156_159, r156_160, r156_162, r156_164, r156_167, r156_168, r156_170, r156_173, if_true, if_false, Nat.reduceAdd, Int32.reduceToNatClampNeg, lo_i, lo_r, lo_n, kont_v, kont_n, List.length_nil, List.length_cons, e1, c3, r1, c4, r2, r3, nt_succ, ne_eq]
                  exact ih (i + 1) (u / 2) (b / 2) (by omega) (by omega) (by omega) hq v7
                · rw [show hv (m + 1) u b = (u, b) from if_neg (fun e => h2 e.2)] at hq
                  rw [if_pos (by omega)] at c4
                  simp (config := {decide := true}) only [r156_131, r156_133, r156_136, r156_138, r156_139, r156_140, r156_143, r156_145, r156_148, r156_149, r156_150, r156_151, r156_154, r156_156, r156_159, r156_160, r156_162, r156_164, r156_167, r156_168, r156_170, r156_173, if_true, if_false, Nat.reduceAdd, Int32.reduceToNatClampNeg, lo_i, lo_r, lo_n, kont_v, kont_n, List.length_nil, List.length_cons, e1, c3, r1, c4, r2, ne_eq]
                  exact tail u b i v7 hq
              · rw [show hv (m + 1) u b = (u, b) from if_neg (fun e => h1 e.1)] at hq
                rw [if_neg h1] at c3
                have c5 : lg_cmp (ll b) 1 ≤ 0 := by rw [c3]; split <;> decide
                simp (config := {decide := true}) only [r156_131, r156_133, r156_136, r156_138, r156_139, r156_140, r156_143, r156_145, r156_148, r156_149, r156_150, r156_151, r156_154, r156_156, r156_159, r156_160, r156_162, r156_164, r156_167, r156_168, r156_170, r156_173, if_true, if_false, Nat.reduceAdd, Int32.reduceToNatClampNeg, lo_i, lo_r, lo_n, kont_v, kont_n, List.length_nil, List.length_cons, e1, c5]
                exact tail u b i v7 hq
          refine loopDJ (P := fun t (q : Nat × Nat) => ∀ v10 v11, NL v10 → wp (d + 12) 156 58 [.ref (9 : Nat), .int (nt N), .int (nt K), .int (nt Q), .int z, .long (ll q.1), noV, .long (ll q.2), noV, .int (nt t), v10, v11] [] (mk n I L x) Φ) (J := fun t q => q.2 = ch N t) (Q := fun q => ∀ v7, wp (d + 12) 156 129 [.ref (9 : Nat), .int (nt N), .int (nt K), .int (nt Q), .int z, .long (ll q.1), noV, .long v7, noV, .long (ll (16 ^ N)), noV, .int (nt 0)] [] (mk n I L x) Φ) (n := N + 1) (f := prF N K Q) ?_ ?_ (0, 1) ?_ ?_ noV noV lo_n
          · intro t q ht hJ
            obtain ⟨c1, c2⟩ := ch_s N hN t ht
            have hm : ch N t * (N - t) ≤ 924 * 12 := Nat.mul_le_mul c2 (by omega)
            refine ⟨by show q.2 * (N - t) / (t + 1) = _; rw [hJ]; exact c1, fun hn v10 v11 hv10 => ?_⟩
            replace hn := hn v10 v11 hv10
            have e1 : ¬ (nt N < nt t) := by rw [nt_lt (by omega) (by omega)]; omega
            have e2 : nt N - nt t = nt (N - t) := nt_sub (by omega)
            have e3 : (nt (N - t)).toInt64 = ll (N - t) := ll_i2l (by omega)
            have e4 : (nt (t + 1)).toInt64 = ll (t + 1) := ll_i2l (by omega)
            have e5 : ll (t + 1) ≠ 0 := by rw [show (0 : Int64) = ll 0 from rfl, ne_eq, ll_inj (by omega) (by omega)]; omega
            have e7 : ll (q.2 * (N - t)) / ll (t + 1) = ll (q.2 * (N - t) / (t + 1)) := ll_div (by rw [hJ]; omega) (by omega)
            unfold prF at hn
            dsimp only at hn
            rw [r156_58]
            by_cases h1 : K ≤ t
            · rw [if_pos h1] at hn
              have h2 : ¬ (nt t < nt K) := by rw [nt_lt (by omega) (by omega)]; omega
              simp (config := {decide := true}) only [r156_60, r156_61, r156_64, r156_66, r156_67, r156_70, r156_72, r156_74, r156_75, r156_77, r156_80, r156_81, r156_83, r156_84, r156_85, r156_86, r156_88, r156_89, r156_92, r156_93, r156_94, r156_96, r156_98, r156_99, r156_101, r156_102, r156_103, r156_104, r156_106, r156_107, r156_108, r156_109, r156_110, r156_112, r156_115, if_true, if_false, Nat.reduceAdd, Int32.reduceToNatClampNeg, lo_i, lo_r, lo_n, kont_v, kont_n, List.length_nil, List.length_cons, e1, h2, c189 (show Q ≤ 16 by omega) (show t ≤ 12 by omega), s1, e2, c189 (show 16 - Q ≤ 16 by omega) (show N - t ≤ 12 by omega), ll_mul, ll_add, e3, nt_succ, e4, e5, e7, hv10, ne_eq]
              exact hn
            · rw [if_neg h1] at hn
              have h2 : nt t < nt K := by rw [nt_lt (by omega) (by omega)]; omega
              simp (config := {decide := true}) only [r156_60, r156_61, r156_64, r156_66, r156_67, r156_70, r156_72, r156_74, r156_75, r156_77, r156_80, r156_81, r156_83, r156_84, r156_85, r156_86, r156_88, r156_89, r156_92, r156_93, r156_94, r156_96, r156_98, r156_99, r156_101, r156_102, r156_103, r156_104, r156_106, r156_107, r156_108, r156_109, r156_110, r156_112, r156_115, if_true, if_false, Nat.reduceAdd, Int32.reduceToNatClampNeg, lo_i, lo_r, lo_n, kont_v, kont_n, List.length_nil, List.length_cons, e1, h2, e2, ll_mul, e3, nt_succ, e4, e5, e7, hv10, ne_eq]
              exact hn
          · intro q _ hq v10 v11 hv10
            have e1 : nt N < nt (N + 1) := by rw [nt_lt (by omega) (by omega)]; omega
            have e2 := c189 (d := d + 11) (μ := mk n I L x) (Φ := kont (d + 11) 156 121 3 [.ref (9 : Nat), .int (nt N), .int (nt K), .int (nt Q), .int z, .long (ll q.1), noV, .long (ll q.2), noV, .int (nt (N + 1)), v10, v11] [] Φ) (show 16 ≤ 16 by omega) (show N ≤ 12 by omega)
            rw [r156_58]
            simp (config := {decide := true}) only [r156_60, r156_61, r156_64, r156_66, r156_67, r156_70, r156_72, r156_74, r156_75, r156_77, r156_80, r156_81, r156_83, r156_84, r156_85, r156_86, r156_88, r156_89, r156_92, r156_93, r156_94, r156_96, r156_98, r156_99, r156_101, r156_102, r156_103, r156_104, r156_106, r156_107, r156_108, r156_109, r156_110, r156_112, r156_115, r156_118, r156_120, r156_121, r156_124, r156_126, r156_127, if_true, if_false, Nat.reduceAdd, Int32.reduceToNatClampNeg, lo_i, lo_r, lo_n, kont_v, kont_n, List.length_nil, List.length_cons, e1, hv10]
            refine e2.mpr ?_
            simp (config := {decide := true}) only [r156_60, r156_61, r156_64, r156_66, r156_67, r156_70, r156_72, r156_74, r156_75, r156_77, r156_80, r156_81, r156_83, r156_84, r156_85, r156_86, r156_88, r156_89, r156_92, r156_93, r156_94, r156_96, r156_98, r156_99, r156_101, r156_102, r156_103, r156_104, r156_106, r156_107, r156_108, r156_109, r156_110, r156_112, r156_115, r156_118, r156_120, r156_121, r156_124, r156_126, r156_127, if_true, if_false, Nat.reduceAdd, Int32.reduceToNatClampNeg, lo_i, lo_r, lo_n, kont_v, kont_n, List.length_nil, List.length_cons, e1, hv10]
            exact hq _
          · exact (show ∀ N, N < 13 → 1 = ch N 0 by decide) N hN
          · intro v7
            rw [a1]
            refine hfin 48 0 _ _ rfl a2 b1 ?_ v7
            rw [a3]
            by_cases h0 : z = 0
            · rw [if_pos h0]
              have h2 := h I (sm_refl I)
              unfold proV at h2
              rw [if_pos h0] at h2
              exact h2
            · rw [if_neg h0]
              have h2 := h I (sm_refl I)
              unfold proV at h2
              rw [if_neg h0] at h2
              exact h2
        · rw [if_neg g4] at h
          simp (config := {decide := true}) only [r156_0, r156_1, r156_2, r156_3, r156_5, r156_8, r156_11, r156_12, r156_13, r156_15, r156_18, r156_21, r156_22, r156_23, r156_25, r156_28, r156_31, r156_33, r156_34, r156_35, r156_38, r156_41, r156_42, r156_45, r156_46, r156_49, r156_50, r156_52, r156_53, r156_55, r156_56, if_true, if_false, Nat.reduceAdd, Int32.reduceToNatClampNeg, lo_i, lo_r, lo_n, kont_v, kont_n, List.length_nil, List.length_cons, and_self, and_true, true_and, and_false, false_and, not_true, not_false_eq_true, true_or, or_true, bi_eq0, c181 hx, c179 hx, c180 hx, c182, c183, kx, g1, g2, g3, g4]
          exact h I (sm_refl I)
      · rw [if_neg g3] at h
        simp (config := {decide := true}) only [r156_0, r156_1, r156_2, r156_3, r156_5, r156_8, r156_11, r156_12, r156_13, r156_15, r156_18, r156_21, r156_22, r156_23, r156_25, r156_28, r156_31, r156_33, r156_34, r156_35, r156_38, r156_41, r156_42, r156_45, r156_46, r156_49, r156_50, r156_52, r156_53, r156_55, r156_56, if_true, if_false, Nat.reduceAdd, Int32.reduceToNatClampNeg, lo_i, lo_r, lo_n, kont_v, kont_n, List.length_nil, List.length_cons, and_self, and_true, true_and, and_false, false_and, not_true, not_false_eq_true, true_or, or_true, bi_eq0, c181 hx, c179 hx, c180 hx, c182, c183, kx, g1, g2, g3]
        exact h I (sm_refl I)
    · rw [if_neg g2] at h
      simp (config := {decide := true}) only [r156_0, r156_1, r156_2, r156_3, r156_5, r156_8, r156_11, r156_12, r156_13, r156_15, r156_18, r156_21, r156_22, r156_23, r156_25, r156_28, r156_31, r156_33, r156_34, r156_35, r156_38, r156_41, r156_42, r156_45, r156_46, r156_49, r156_50, r156_52, r156_53, r156_55, r156_56, if_true, if_false, Nat.reduceAdd, Int32.reduceToNatClampNeg, lo_i, lo_r, lo_n, kont_v, kont_n, List.length_nil, List.length_cons, and_self, and_true, true_and, and_false, false_and, not_true, not_false_eq_true, true_or, or_true, bi_eq0, c181 hx, c179 hx, c180 hx, c182, c183, kx, g1, g2]
      exact h I (sm_refl I)
  · rw [if_neg g1] at h
    simp (config := {decide := true}) only [r156_0, r156_1, r156_2, r156_3, r156_5, r156_8, r156_11, r156_12, r156_13, r156_15, r156_18, r156_21, r156_22, r156_23, r156_25, r156_28, r156_31, r156_33, r156_34, r156_35, r156_38, r156_41, r156_42, r156_45, r156_46, r156_49, r156_50, r156_52, r156_53, r156_55, r156_56, if_true, if_false, Nat.reduceAdd, Int32.reduceToNatClampNeg, lo_i, lo_r, lo_n, kont_v, kont_n, List.length_nil, List.length_cons, and_self, and_true, true_and, and_false, false_and, not_true, not_false_eq_true, true_or, or_true, bi_eq0, c181 hx, c179 hx, c180 hx, c182, c183, kx, g1]
    exact h I (sm_refl I)
theorem s558 : sh0 n 558 = (21, 14, []) := by rw [sh0_not7 (by decide)]; decide +kernel
theorem exML {t e : Nat} (h : resML n I L x Φ (.inr (t + 1, e))) : Φ (.inl (some (.long 0))) (mk n (wrI (wrI I 70 0 (nt e)) 72 t (I 72 t + 1)) L x) := by
  refine h _ ?_ ?_ ?_ ?_
  · rw [view_wr (scr_vis (by decide) _), view_wr rfl]
  · rw [wrI_ne (by decide), wrI_ne (by decide)]
  · rw [wrI_at, wrI_ne (by decide)]; rfl
  · rw [wrI_ne (by decide)]; unfold wrI; rw [upR_same, up_same]
theorem resML_z {r : AnL} (h : resML n I L x Φ r) : resML n (wrI I 70 0 0) L x Φ r := by
  have e9 : wrI I 70 0 0 9 = I 9 := wrI_ne (by decide)
  have e72 : wrI I 70 0 0 72 = I 72 := wrI_ne (by decide)
  cases r with
  | inl A => exact fun J L' hs hz hl => h J L' (sm_trans (sm_wr rfl) hs) hz hl
  | inr q => exact fun J h1 h2 h3 h4 => h J (h1.trans v70) (h2.trans e9) (by rw [h3, e72]) h4
theorem u289 (hI : Inv I) (h : resML n I L x Φ (aPro s w y z)) : wpc (d + 12) 289 [.ref (70 : Nat), .int s, .int w, .int y, .int z] (mk n I L x) Φ := by
  show wp (d + 12) 289 0 [.ref (70 : Nat), .int s, .int w, .int y, .int z, noV, noV, noV, noV, noV, noV, noV, noV, noV, noV] [] (mk n I L x) Φ
  rw [r289_0, r289_1, r289_2]
  replace h := resML_z h
  have hz := z70 (I := I)
  generalize wrI I 70 0 0 = I at h hz ⊢
  unfold aPro at h
  by_cases g1 : 0 ≤ s ∧ s ≤ 12
  · rw [if_pos g1] at h
    by_cases g2 : 0 ≤ w ∧ w ≤ 13
    · rw [if_pos g2] at h
      by_cases g3 : 0 ≤ y ∧ y ≤ 16
      · rw [if_pos g3] at h
        by_cases g4 : 0 ≤ z ∧ z ≤ 1
        · rw [if_pos g4] at h
          obtain ⟨N, hN, rfl⟩ := rgN (N := 12) (by decide) g1
          obtain ⟨K, hK, rfl⟩ := rgN (N := 13) (by decide) g2
          obtain ⟨Q, hQ, rfl⟩ := rgN (N := 16) (by decide) g3
          rw [nt_clamp (k := N) (by omega), nt_clamp (k := K) (by omega), nt_clamp (k := Q) (by omega)] at h
          obtain ⟨a1, a2, a3⟩ := pr_all N hN K hK Q hQ
          obtain ⟨b1, b2, b3⟩ := p16 N hN
          have s1 : (16 : Int32) - nt Q = nt (16 - Q) := nt_sub (a := 16) (by omega)
          have s2 : (nt (16 - Q)).toInt64 = ll (16 - Q) := ll_i2l (by omega)
          have s3 : (nt Q).toInt64 = ll Q := ll_i2l (by omega)
          simp (config := {decide := true}) only [r289_5, r289_6, r289_7, r289_8, r289_10, r289_13, r289_16, r289_17, r289_18, r289_20, r289_23, r289_26, r289_27, r289_28, r289_30, r289_33, r289_36, r289_38, r289_39, r289_40, r289_43, r289_46, r289_47, r289_50, r289_51, r289_52, r289_53, r289_56, r289_59, r289_60, r289_61, r289_62, if_true, if_false, Nat.reduceAdd, Int32.reduceToNatClampNeg, lo_i, lo_r, lo_n, kont_v, kont_n, List.length_nil, List.length_cons, and_self, and_true, true_and, and_false, false_and, not_true, not_false_eq_true, true_or, or_true, bi_eq0, b10 hz, b11 hz, b21 hz, m194, m259, g1, g2, g3, g4]
          have hgcd : ∀ b a g, a ≤ 281474976710656 → b ≤ 281474976710656 → Nat.gcd a b = Nat.gcd (16 ^ N) (prU N K Q) → ∀ v13 v14, wp (d + 12) 289 212 [.ref (70 : Nat), .int (nt N), .int (nt K), .int (nt Q), .int z, .long (ll (prU N K Q)), noV, .long (ll (16 ^ N)), noV, .long (ll a), noV, .long (ll b), noV, v13, v14] [] (mk n I (upR L 558 g) x) Φ := by
            intro b
            induction b using Nat.strongRecOn with
            | ind b ih =>
              intro a g ha hb hg v13 v14
              have c1 : lg_cmp (ll b) 0 = if 0 < b then 1 else if b = 0 then 0 else -1 := lc_eq (b := 0) (by omega) (by omega)
              rw [r289_212]
              by_cases h0 : b = 0
              · rw [if_neg (by omega), if_pos h0] at c1
                subst h0
                rw [Nat.gcd_zero_right] at hg
                have hp : 0 < a := by rw [hg]; exact Nat.gcd_pos_of_pos_left _ b2
                have e0 : ll a ≠ 0 := by rw [show (0 : Int64) = ll 0 from rfl, ne_eq, ll_inj (by omega) (by omega)]; omega
                have d1 : ll (prU N K Q) / ll a = ll (prU N K Q / a) := ll_div (by omega) (by omega)
                have d2 : ll (16 ^ N) / ll a = ll (16 ^ N / a) := ll_div (by omega) (by omega)
                have h2 := h I (upR L 558 g) (sm_refl I) hz (upR_ne (by decide))
                unfold proV at h2
                by_cases h1 : z = 0
                · rw [if_pos h1, ← hg] at h2
                  simp (config := {decide := true}) only [r289_214, r289_215, r289_216, r289_219, r289_221, r289_223, r289_224, r289_226, r289_228, r289_230, r289_232, r289_234, r289_237, r289_239, r289_242, r289_244, r289_246, r289_247, r289_250, r289_252, r289_254, r289_255, if_true, if_false, Nat.reduceAdd, Int32.reduceToNatClampNeg, lo_i, lo_r, lo_n, kont_v, kont_n, List.length_nil, List.length_cons, c1, h1, e0, d1, ne_eq]
                  exact h2
                · rw [if_neg h1, ← hg] at h2
                  simp (config := {decide := true}) only [r289_214, r289_215, r289_216, r289_219, r289_221, r289_223, r289_224, r289_226, r289_228, r289_230, r289_232, r289_234, r289_237, r289_239, r289_242, r289_244, r289_246, r289_247, r289_250, r289_252, r289_254, r289_255, if_true, if_false, Nat.reduceAdd, Int32.reduceToNatClampNeg, lo_i, lo_r, lo_n, kont_v, kont_n, List.length_nil, List.length_cons, c1, h1, e0, d2, ne_eq]
                  exact h2
              · rw [if_pos (by omega)] at c1
                have e0 : ll b ≠ 0 := by rw [show (0 : Int64) = ll 0 from rfl, ne_eq, ll_inj (by omega) (by omega)]; omega
                have d1 : ll a - ll a / ll b * ll b = ll (a % b) := ll_rem (by omega) (by omega)
                simp (config := {decide := true}) only [r289_214, r289_215, r289_216, r289_219, r289_221, r289_223, r289_224, r289_226, r289_228, r289_230, r289_232, r289_234, if_true, if_false, Nat.reduceAdd, Int32.reduceToNatClampNeg, lo_i, lo_r, lo_n, kont_v, kont_n, List.length_nil, List.length_cons, c1, e0, d1, ne_eq]
                refine ih (a % b) (Nat.mod_lt _ (by omega)) b g (by omega) (by have := Nat.mod_lt a (show 0 < b by omega); omega) ?_ _ _
                rw [← hg, Nat.gcd_comm a b, Nat.gcd_rec b a, Nat.gcd_comm]
          have hsum : ∀ g, (∀ i, i < 14 → g i = ll (prE N Q i)) → ∀ v5 v6 v7 v8 v9 v10 v11 v12 v13 v14, NL v8 → NL v10 → NL v12 → wp (d + 12) 289 166 [.ref (70 : Nat), .int (nt N), .int (nt K), .int (nt Q), .int z, v5, v6, v7, v8, v9, v10, v11, v12, v13, v14] [] (mk n I (upR L 558 g) x) Φ := by
            intro g hg v5 v6 v7 v8 v9 v10 v11 v12 v13 v14 hv8 hv10 hv12
            simp (config := {decide := true}) only [r289_166, r289_167, r289_169, r289_170, r289_171, r289_172, r289_173, r289_174, r289_176, r289_177, if_true, if_false, Nat.reduceAdd, Int32.reduceToNatClampNeg, lo_i, lo_r, lo_n, kont_v, kont_n, List.length_nil, List.length_cons, b3]
            have hup : prU N K Q = foldN (fun i t => t + prE N Q (K + i)) (14 - K) 0 := rfl
            refine loopD (P := fun i u => wp (d + 12) 289 179 [.ref (70 : Nat), .int (nt N), .int (nt K), .int (nt Q), .int z, .long (ll u), noV, .long (ll (16 ^ N)), noV, .int (nt (K + i)), v10, v11, v12, v13, v14] [] (mk n I (upR L 558 g) x) Φ) (Q := fun u => wp (d + 12) 289 179 [.ref (70 : Nat), .int (nt N), .int (nt K), .int (nt Q), .int z, .long (ll u), noV, .long (ll (16 ^ N)), noV, .int (nt (K + (14 - K))), v10, v11, v12, v13, v14] [] (mk n I (upR L 558 g) x) Φ) (n := 14 - K) (f := fun i t => t + prE N Q (K + i)) ?_ ?_ 0 ?_
            · intro i u hi hn
              have e1 : ¬ ((14 : Int32) ≤ nt (K + i)) := nt_nle (m := 14) (by omega) (by decide)
              have e2 : (nt (K + i)).toNatClampNeg = K + i := nt_clamp (by omega)
              have e3 : (0 : Int32) ≤ nt (K + i) := nt_ge (by omega)
              have e4 : K + i < 14 := by omega
              rw [r289_179]
              simp (config := {decide := true}) only [r289_181, r289_183, r289_186, r289_188, r289_189, r289_192, r289_194, r289_195, r289_196, r289_198, r289_201, if_true, if_false, Nat.reduceAdd, Int32.reduceToNatClampNeg, lo_i, lo_r, lo_n, kont_v, kont_n, List.length_nil, List.length_cons, e1, e2, e3, e4, s558, upR_same, hg _ e4, ll_add, nt_succ]
              exact hn
            · intro u hq
              exact hq
            · show wp (d + 12) 289 179 [.ref (70 : Nat), .int (nt N), .int (nt K), .int (nt Q), .int z, .long (ll (prU N K Q)), noV, .long (ll (16 ^ N)), noV, .int (nt (K + (14 - K))), v10, v11, v12, v13, v14] [] (mk n I (upR L 558 g) x) Φ
              have e1 : (14 : Int32) ≤ nt (K + (14 - K)) := by rw [show K + (14 - K) = 14 by omega]; decide
              rw [r289_179]
              simp (config := {decide := true}) only [r289_181, r289_183, r289_186, r289_188, r289_189, r289_192, r289_194, r289_195, r289_196, r289_198, r289_201, r289_204, r289_206, r289_208, r289_210, if_true, if_false, Nat.reduceAdd, Int32.reduceToNatClampNeg, lo_i, lo_r, lo_n, kont_v, kont_n, List.length_nil, List.length_cons, e1, hv10, hv12]
              exact hgcd _ _ g b1 a2 rfl _ _
          have hrow : ∀ m e, e + m = N → ∀ g, (∀ i, i < 14 → g i = ll (prE e Q i)) → ∀ v6, NL v6 → wp (d + 12) 289 97 [.ref (70 : Nat), .int (nt N), .int (nt K), .int (nt Q), .int z, .int (nt e), v6, noV, noV, noV, noV, noV, noV, noV, noV] [] (mk n I (upR L 558 g) x) Φ := by
            intro m
            induction m with
            | zero =>
              intro e he g hg v6 hv6
              have : e = N := by omega
              subst this
              have e6 : nt e ≤ nt e := Int32.le_refl _
              rw [r289_97]
              simp (config := {decide := true}) only [r289_99, r289_100, if_true, if_false, Nat.reduceAdd, Int32.reduceToNatClampNeg, lo_i, lo_r, lo_n, kont_v, kont_n, List.length_nil, List.length_cons, e6]
              exact hsum g hg _ _ _ _ _ _ _ _ _ _ lo_n lo_n lo_n
            | succ m ih =>
              intro e he g hg v6 hv6
              have e1 : ¬ (nt N ≤ nt e) := nt_nle (by omega) (by omega)
              rw [r289_97]
              simp (config := {decide := true}) only [r289_99, r289_100, r289_103, r289_105, if_true, if_false, Nat.reduceAdd, Int32.reduceToNatClampNeg, lo_i, lo_r, lo_n, kont_v, kont_n, List.length_nil, List.length_cons, e1]
              have inner : ∀ i, i ≤ 14 → ∀ g, (∀ j, j < 14 → g j = if j < i then ll (prE e Q j) else ll (prE (e + 1) Q j)) → wp (d + 12) 289 107 [.ref (70 : Nat), .int (nt N), .int (nt K), .int (nt Q), .int z, .int (nt e), .int (nt i + -1), noV, noV, noV, noV, noV, noV, noV, noV] [] (mk n I (upR L 558 g) x) Φ := by
                intro i
                induction i with
                | zero =>
                  intro _ g hg
                  rw [r289_107]
                  simp (config := {decide := true}) only [r289_109, r289_160, r289_163, if_true, if_false, Nat.reduceAdd, Int32.reduceToNatClampNeg, lo_i, lo_r, lo_n, kont_v, kont_n, List.length_nil, List.length_cons, nt_succ]
                  exact ih (e + 1) (by omega) g (fun j hj => by rw [hg j hj, if_neg (Nat.not_lt_zero j)]) _ (lo_i _)
                | succ k ihk =>
                  intro hk g hg
                  have q1 : nt (k + 1) + -1 = nt k := nt_pred (by omega)
                  have q2 : ¬ (nt k < 0) := Int32.not_lt.mpr (nt_ge (by omega))
                  have q3 : (nt k).toNatClampNeg = k := nt_clamp (by omega)
                  have q4 : (0 : Int32) ≤ nt k := nt_ge (by omega)
                  have q5 : k < 14 := by omega
                  have q6 : g k = ll (prE e Q k) := by rw [hg k q5, if_pos (by omega)]
                  have hs := prE_s Q hQ e (by omega) k q5
                  have hnx : ∀ v, v = ll (prE (e + 1) Q k) → ∀ j, j < 14 → vp_updL g k v j = if j < k then ll (prE e Q j) else ll (prE (e + 1) Q j) := by
                    intro v hv j hj
                    by_cases hjk : j = k
                    · subst hjk
                      rw [lu_same, if_neg (Nat.lt_irrefl j), hv]
                    · rw [lu_ne hjk, hg j hj]
                      by_cases h2 : j < k
                      · rw [if_pos h2, if_pos (by omega)]
                      · rw [if_neg h2, if_neg (by omega)]
                  rw [r289_107, q1]
                  by_cases hk0 : k = 0
                  · subst hk0
                    rw [if_pos rfl] at hs
                    have t1 : nt 0 ≤ 0 := by decide
                    simp (config := {decide := true}) only [r289_109, r289_112, r289_113, r289_116, r289_118, r289_119, r289_122, r289_124, r289_125, r289_127, r289_128, r289_129, r289_130, r289_131, r289_133, r289_136, r289_137, r289_140, r289_142, r289_143, r289_144, r289_145, r289_146, r289_147, r289_148, r289_151, r289_152, r289_153, r289_154, r289_157, if_true, if_false, Nat.reduceAdd, Int32.reduceToNatClampNeg, lo_i, lo_r, lo_n, kont_v, kont_n, List.length_nil, List.length_cons, q2, q3, q4, s558, upR_same, q6, s1, s2, ll_mul, t1, wrL_up, Int64.add_zero]
                    exact ihk (by omega) _ (hnx _ (by rw [hs]; rfl))
                  · rw [if_neg hk0] at hs
                    have t1 : ¬ (nt k ≤ 0) := nt_nle (m := k) (j := 0) (by omega) (by omega)
                    have t2 : nt k - 1 = nt (k - 1) := nt_sub1 (by omega)
                    have t3 : (nt (k - 1)).toNatClampNeg = k - 1 := nt_clamp (by omega)
                    have t4 : (0 : Int32) ≤ nt (k - 1) := nt_ge (by omega)
                    have t5 : k - 1 < 14 := by omega
                    have t6 : g (k - 1) = ll (prE e Q (k - 1)) := by rw [hg _ t5, if_pos (by omega)]
                    simp (config := {decide := true}) only [r289_109, r289_112, r289_113, r289_116, r289_118, r289_119, r289_122, r289_124, r289_125, r289_127, r289_128, r289_129, r289_130, r289_131, r289_133, r289_136, r289_137, r289_140, r289_142, r289_143, r289_144, r289_145, r289_146, r289_147, r289_148, r289_151, r289_152, r289_153, r289_154, r289_157, if_true, if_false, Nat.reduceAdd, Int32.reduceToNatClampNeg, lo_i, lo_r, lo_n, kont_v, kont_n, List.length_nil, List.length_cons, q2, q3, q4, q5, s558, upR_same, q6, s1, s2, s3, ll_mul, ll_add, t1, t2, t3, t4, t5, t6, wrL_up]
                    exact ihk (by omega) _ (hnx _ (by rw [hs]))
              exact inner 14 (Nat.le_refl _) g (fun j hj => by rw [if_pos hj]; exact hg j hj)
          have h64 := loopDJ (P := fun i (g : Nat → Int64) => wp (d + 12) 289 64 [.ref (70 : Nat), .int (nt N), .int (nt K), .int (nt Q), .int z, .int (nt i), noV, noV, noV, noV, noV, noV, noV, noV, noV] [] (mk n I (upR L 558 g) x) Φ) (J := fun i g => ∀ j, j < i → g j = ll (prE 0 Q j)) (Q := fun _ => True) (n := 14) (f := fun i g => vp_updL g i (ll (prE 0 Q i))) ?_ ?_ (L 558) (fun j hj => absurd hj (Nat.not_lt_zero j)) trivial
          · rw [upR_self] at h64
            exact h64
          · intro i g hi hJ
            have e1 : ¬ ((14 : Int32) ≤ nt i) := nt_nle (m := 14) hi (by decide)
            have e2 : (nt i).toNatClampNeg = i := nt_clamp (by omega)
            have e3 : (0 : Int32) ≤ nt i := nt_ge (by omega)
            have h0 := prE_0 Q hQ i hi
            refine ⟨fun j hj => ?_, fun hn => ?_⟩
            · by_cases hji : j = i
              · subst hji; rw [lu_same]
              · rw [lu_ne hji]; exact hJ j (by omega)
            · rw [h0] at hn
              rw [r289_64]
              by_cases hi0 : i = 0
              · subst hi0
                rw [if_pos rfl] at hn
                simp (config := {decide := true}) only [r289_66, r289_68, r289_71, r289_72, r289_75, r289_77, r289_79, r289_82, r289_83, r289_86, r289_87, r289_88, r289_91, if_true, if_false, Nat.reduceAdd, Int32.reduceToNatClampNeg, lo_i, lo_r, lo_n, kont_v, kont_n, List.length_nil, List.length_cons, s558, wrL_up, nc0]
                exact hn
              · have t1 : ¬ (nt i = 0) := by rw [show (0 : Int32) = nt 0 from rfl, nt_inj (by omega) (by decide)]; exact hi0
                rw [if_neg hi0] at hn
                simp (config := {decide := true}) only [r289_66, r289_68, r289_71, r289_72, r289_75, r289_77, r289_79, r289_82, r289_83, r289_86, r289_87, r289_88, r289_91, if_true, if_false, Nat.reduceAdd, Int32.reduceToNatClampNeg, lo_i, lo_r, lo_n, kont_v, kont_n, List.length_nil, List.length_cons, e1, e2, e3, hi, s558, t1, wrL_up, nt_succ]
                exact hn
          · intro g hJ _
            rw [r289_64]
            simp (config := {decide := true}) only [r289_66, r289_68, r289_71, r289_72, r289_75, r289_77, r289_79, r289_82, r289_83, r289_86, r289_87, r289_88, r289_91, r289_94, r289_95, if_true, if_false, Nat.reduceAdd, Int32.reduceToNatClampNeg, lo_i, lo_r, lo_n, kont_v, kont_n, List.length_nil, List.length_cons]
            exact hrow N 0 (by omega) g hJ noV lo_n
        · rw [if_neg g4] at h
          simp (config := {decide := true}) only [r289_5, r289_6, r289_7, r289_8, r289_10, r289_13, r289_16, r289_17, r289_18, r289_20, r289_23, r289_26, r289_27, r289_28, r289_30, r289_33, r289_36, r289_38, r289_39, r289_40, r289_43, r289_46, r289_47, r289_50, r289_51, r289_52, r289_53, r289_56, r289_59, r289_60, r289_61, r289_62, if_true, if_false, Nat.reduceAdd, Int32.reduceToNatClampNeg, lo_i, lo_r, lo_n, kont_v, kont_n, List.length_nil, List.length_cons, and_self, and_true, true_and, and_false, false_and, not_true, not_false_eq_true, true_or, or_true, bi_eq0, b10 hz, b11 hz, b21 hz, m194, m259, g1, g2, g3, g4]
          exact exML h
      · rw [if_neg g3] at h
        simp (config := {decide := true}) only [r289_5, r289_6, r289_7, r289_8, r289_10, r289_13, r289_16, r289_17, r289_18, r289_20, r289_23, r289_26, r289_27, r289_28, r289_30, r289_33, r289_36, r289_38, r289_39, r289_40, r289_43, r289_46, r289_47, r289_50, r289_51, r289_52, r289_53, r289_56, r289_59, r289_60, r289_61, r289_62, if_true, if_false, Nat.reduceAdd, Int32.reduceToNatClampNeg, lo_i, lo_r, lo_n, kont_v, kont_n, List.length_nil, List.length_cons, and_self, and_true, true_and, and_false, false_and, not_true, not_false_eq_true, true_or, or_true, bi_eq0, b10 hz, b11 hz, b21 hz, m194, m259, g1, g2, g3]
        exact exML h
    · rw [if_neg g2] at h
      simp (config := {decide := true}) only [r289_5, r289_6, r289_7, r289_8, r289_10, r289_13, r289_16, r289_17, r289_18, r289_20, r289_23, r289_26, r289_27, r289_28, r289_30, r289_33, r289_36, r289_38, r289_39, r289_40, r289_43, r289_46, r289_47, r289_50, r289_51, r289_52, r289_53, r289_56, r289_59, r289_60, r289_61, r289_62, if_true, if_false, Nat.reduceAdd, Int32.reduceToNatClampNeg, lo_i, lo_r, lo_n, kont_v, kont_n, List.length_nil, List.length_cons, and_self, and_true, true_and, and_false, false_and, not_true, not_false_eq_true, true_or, or_true, bi_eq0, b10 hz, b11 hz, b21 hz, m194, m259, g1, g2]
      exact exML h
  · rw [if_neg g1] at h
    simp (config := {decide := true}) only [r289_5, r289_6, r289_7, r289_8, r289_10, r289_13, r289_16, r289_17, r289_18, r289_20, r289_23, r289_26, r289_27, r289_28, r289_30, r289_33, r289_36, r289_38, r289_39, r289_40, r289_43, r289_46, r289_47, r289_50, r289_51, r289_52, r289_53, r289_56, r289_59, r289_60, r289_61, r289_62, if_true, if_false, Nat.reduceAdd, Int32.reduceToNatClampNeg, lo_i, lo_r, lo_n, kont_v, kont_n, List.length_nil, List.length_cons, and_self, and_true, true_and, and_false, false_and, not_true, not_false_eq_true, true_or, or_true, bi_eq0, b10 hz, b11 hz, b21 hz, m194, m259, g1]
    exact exML h
end Q7
