/-! A REPUBLIC, read: clauses -/
def r3 (B : Nat → Int32) (N sn cn : Nat) (p : Nat) : RD (Nat × Nat × Nat) := match rNum B N 0 (nt sn - 1) p with
  | .inr e => .inr e
  | .inl (v, p1) => match rNum B N 0 (nt cn - 1) p1 with
    | .inr e => .inr e
    | .inl (w, p2) => match rNum B N 0 9 p2 with
      | .inr e => .inr e
      | .inl (u, p3) => .inl ((v, w, u), p3)
def mpR {α β : Type} (f : α → β) (r : RD α) : RD β := match r with
  | .inr e => .inr e
  | .inl (u, p) => .inl (f u, p)
def rBd (B : Nat → Int32) (N k : Nat) (σ : RSt) (p : Nat) : RD RSt :=
  if k = 0 then mpR (fun u => (σ.1 + 1, σ.2.1, upF (upF σ.2.2 0 σ.1 u.1) 1 σ.1 u.2)) (r2 B N 1 60 1 9 p)
  else if k = 1 then mpR (fun u => (σ.1, σ.2.1 + 1, upF (upF σ.2.2 2 σ.2.1 u.1) 3 σ.2.1 u.2)) (r2 B N 1 30 0 20 p)
  else if k = 2 then mpR (fun u => (σ.1, σ.2.1, upF σ.2.2 4 (u.1 * 6 + u.2.1) u.2.2)) (r3 B N σ.1 σ.2.1 p)
  else mpR (fun u => (σ.1, σ.2.1, upF σ.2.2 5 0 u)) (rNum B N 0 9 p)
def full (told k : Nat) (σ : RSt) : Bool := decide (60 ≤ told) || ((decide (k = 0) && decide (7 ≤ σ.1)) || (decide (k = 1) && decide (6 ≤ σ.2.1)))
def rCl (B : Nat → Int32) (N told : Nat) (σ : RSt) (p : Nat) : RD RSt := match rWrd B N ws0 p with
  | .inr e => .inr e
  | .inl (k, p1) => if full told k σ = true then .inr (3, skp B N p) else match rBd B N k σ p1 with
    | .inr e => .inr e
    | .inl (τ, p2) => match rSig B N 59 p2 with
      | .inr e => .inr e
      | .inl (_, p3) => .inl (τ, p3)
def rRp (B : Nat → Int32) (N : Nat) : Nat → Nat → RSt → Nat → RD RSt
  | 0, _, σ, p => .inl (σ, p)
  | f + 1, told, σ, p => if cur B N (skp B N p) = -1 then .inl (σ, skp B N p) else match rCl B N told σ p with
    | .inr e => .inr e
    | .inl (τ, p') => rRp B N f (told + 1) τ p'
theorem fndW_lt {B : Nat → Int32} {N p k : Nat} : ∀ (ws : List (List Nat)) (i : Nat), fndW B N p ws i = some k → k < i + ws.length
  | [], i, h => by cases h
  | w :: r, i, h => by
    unfold fndW at h
    split at h
    · cases h; rw [List.length_cons]; omega
    · have := fndW_lt r (i + 1) h; rw [List.length_cons]; omega
theorem rWrd_lt {B : Nat → Int32} {N p k p1 : Nat} {ws : List (List Nat)} (h : rWrd B N ws p = .inl (k, p1)) : k < ws.length := by
  unfold rWrd at h
  split at h
  · rename_i j hj
    cases h
    have := fndW_lt ws 0 hj
    omega
  · cases h
section Rq
variable {d n x N a told : Nat} {Φ : POut → PM → Prop} {I J K G : Nat → Nat → Int32} {L : Nat → Nat → Int64} {v w c p s k q lo hi : Int32} {g : Nat → Int32} {σ : RSt} {t : LSt} {r i : Nat}
theorem c81 (hT : TX I N) (hR : Rc G σ) (hs : σ.1 ≤ 7) (hc : σ.2.1 ≤ 6) (hJ : CT (RM I G) J N (.inl a)) (hok : ∀ u p', r3 (I 11) N σ.1 σ.2.1 a = .inl (u, p') → ∀ G' K, Rc G' (σ.1, σ.2.1, upF σ.2.2 4 (u.1 * 6 + u.2.1) u.2.2) → CT (RM I G') K N (.inl p') → Φ (.inl none) (mk n K L x)) (hbad : ∀ e, r3 (I 11) N σ.1 σ.2.1 a = .inr e → ∀ G' K, CT (RM I G') K N (.inr e) → Φ (.inl none) (mk n K L x)) : wpc (d + 3) 81 [.ref (18 : Nat), .ref (10 : Nat)] (mk n J L x) Φ := by
  have k18 : K6 18 := Or.inr rfl
  have hT2 : TX (RM I G) N := TX_rm hT
  have h11 : RM I G 11 = I 11 := RM_o (by decide)
  have z5 : sh0 n 23 = (20, 42, []) := sh6e k18
  have s5 : ∀ {K t}, CT (RM I G) K N t → K 18 5 = nt σ.1 := fun h => by rw [CT_ne h (by decide), RM_i (by decide)]; exact hR.1
  have s6 : ∀ {K t}, CT (RM I G) K N t → K 18 6 = nt σ.2.1 := fun h => by rw [CT_ne h (by decide), RM_i (by decide)]; exact hR.2.1
  have f3 : ∀ e, r3 (I 11) N σ.1 σ.2.1 a = .inr e → ∀ K, CT (RM I G) K N (.inr e) → ∀ v2 v3 v4, wp (d + 3) 81 33 [.ref (18 : Nat), .ref (10 : Nat), .int v2, .int v3, .int v4] [] (mk n K L x) Φ := by
    intro e he K hK v2 v3 v4
    have e0 : ¬ flt (.inr e) = 0 := hK.1
    simp (config := {decide := true}) only [r81_33, r81_34, r81_37, r81_55, if_true, if_false, Nat.reduceAdd, Int32.reduceToNatClampNeg, lo_i, lo_r, lo_n, kont_v, kont_n, List.length_nil, List.length_cons, c95t hK, e0]
    exact hbad e he G K hK
  have f2 : ∀ e, r3 (I 11) N σ.1 σ.2.1 a = .inr e → ∀ K, CT (RM I G) K N (.inr e) → ∀ v2 v3 v4, NL v4 → wp (d + 3) 81 24 [.ref (18 : Nat), .ref (10 : Nat), .int v2, .int v3, v4] [] (mk n K L x) Φ := by
    intro e he K hK v2 v3 v4 n4
    simp (config := {decide := true}) only [r81_24, r81_25, r81_26, r81_28, if_true, if_false, Nat.reduceAdd, Int32.reduceToNatClampNeg, lo_i, lo_r, lo_n, kont_v, kont_n, List.length_nil, List.length_cons]
    refine c100f hT2 hK (by decide) (fun K2 hK2 => ?_)
    simp (config := {decide := true}) only [r81_31, if_true, if_false, Nat.reduceAdd, Int32.reduceToNatClampNeg, lo_i, lo_r, lo_n, kont_v, kont_n, List.length_nil, List.length_cons, n4]
    exact f3 e he K2 hK2 _ _ _
  have f1 : ∀ e, r3 (I 11) N σ.1 σ.2.1 a = .inr e → ∀ K, CT (RM I G) K N (.inr e) → ∀ v2 v3 v4, NL v3 → NL v4 → wp (d + 3) 81 12 [.ref (18 : Nat), .ref (10 : Nat), .int v2, v3, v4] [] (mk n K L x) Φ := by
    intro e he K hK v2 v3 v4 n3 n4
    simp (config := {decide := true}) only [r81_12, r81_13, r81_14, r81_15, r81_18, r81_19, r81_20, if_true, if_false, Nat.reduceAdd, Int32.reduceToNatClampNeg, lo_i, lo_r, lo_n, kont_v, kont_n, List.length_nil, List.length_cons, k18, s6 hK]
    refine c100f hT2 hK (hS1 (by omega)) (fun K2 hK2 => ?_)
    simp (config := {decide := true}) only [r81_23, if_true, if_false, Nat.reduceAdd, Int32.reduceToNatClampNeg, lo_i, lo_r, lo_n, kont_v, kont_n, List.length_nil, List.length_cons, n3]
    exact f2 e he K2 hK2 _ _ _ n4
  show wp (d + 3) 81 0 [.ref (18 : Nat), .ref (10 : Nat), noV, noV, noV] [] (mk n J L x) Φ
  simp (config := {decide := true}) only [r81_0, r81_1, r81_2, r81_3, r81_6, r81_7, r81_8, if_true, if_false, Nat.reduceAdd, Int32.reduceToNatClampNeg, lo_i, lo_r, lo_n, kont_v, kont_n, List.length_nil, List.length_cons, k18, s5 hJ]
  refine c100a hT2 hJ (hS1 hs) ?_ ?_
  · intro V1 p1 hn1 q1 hq1 hp1
    rw [h11] at hn1
    have hK1 : CT (RM I G) (tS (RM I G) (nt p1) (nt (skp (RM I G 11) N a)) 0 q1) N (.inl p1) := ct_ok hq1 hp1
    generalize tS (RM I G) (nt p1) (nt (skp (RM I G 11) N a)) 0 q1 = K1 at hK1
    simp (config := {decide := true}) only [r81_11, r81_12, r81_13, r81_14, r81_15, r81_18, r81_19, r81_20, if_true, if_false, Nat.reduceAdd, Int32.reduceToNatClampNeg, lo_i, lo_r, lo_n, kont_v, kont_n, List.length_nil, List.length_cons, k18, s6 hK1]
    refine c100a hT2 hK1 (hS1 (by omega)) ?_ ?_
    · intro V2 p2 hn2 q2 hq2 hp2
      rw [h11] at hn2
      have hK2 : CT (RM I G) (tS (RM I G) (nt p2) (nt (skp (RM I G 11) N p1)) 0 q2) N (.inl p2) := ct_ok hq2 hp2
      generalize tS (RM I G) (nt p2) (nt (skp (RM I G 11) N p1)) 0 q2 = K2 at hK2
      simp (config := {decide := true}) only [r81_23, r81_24, r81_25, r81_26, r81_28, if_true, if_false, Nat.reduceAdd, Int32.reduceToNatClampNeg, lo_i, lo_r, lo_n, kont_v, kont_n, List.length_nil, List.length_cons]
      refine c100a hT2 hK2 (by decide) ?_ ?_
      · intro V3 p3 hn3 q3 hq3 hp3
        rw [h11] at hn3
        have hK3 : CT (RM I G) (tS (RM I G) (nt p3) (nt (skp (RM I G 11) N p2)) 0 q3) N (.inl p3) := ct_ok hq3 hp3
        generalize tS (RM I G) (nt p3) (nt (skp (RM I G 11) N p2)) 0 q3 = K3 at hK3
        have hv1 := rNum_lt (by omega) hn1
        have hv2 := rNum_lt (by omega) hn2
        have e0 : flt (.inl p3) = 0 := rfl
        have e1 : nt V1 * 6 + nt V2 = nt (V1 * 6 + V2) := by rw [show nt V1 * 6 = nt (V1 * 6) from (Int32.ofNat_mul V1 6).symm, nt_add]
        have e2 : putv 42 K3 23 (nt (V1 * 6 + V2)) (nt V3) = wrI K3 23 (V1 * 6 + V2) (nt V3) := putv_nt (by omega) (by decide)
        have hK4 := CT_wr (r := 23) (g := upd (K3 23) (V1 * 6 + V2) (nt V3)) hK3 (by decide)
        simp (config := {decide := true}) only [r81_31, r81_33, r81_34, r81_37, r81_40, r81_41, r81_44, r81_45, r81_47, r81_48, r81_49, r81_50, r81_52, r81_55, if_true, if_false, Nat.reduceAdd, Int32.reduceToNatClampNeg, lo_i, lo_r, lo_n, kont_v, kont_n, List.length_nil, List.length_cons, c95t hK3, e0, k18, e1, c186, z5, e2]
        refine hok (V1, V2, V3) p3 (by unfold r3; rw [hn1]; simp only []; rw [hn2]; simp only []; rw [hn3]) _ _ ?_ hK4
        have q3' : K3 23 = G 23 := by rw [CT_ne hK3 (by decide), RM_i (by decide)]
        rw [q3']
        obtain ⟨t1, t2, t3, t4, t5, t6, t7, t8⟩ := hR
        refine Rc_mk ?_ ?_ ?_ ?_ ?_ ?_ ?_ ?_ <;> (try dsimp only)
        · rw [upR_ne (by decide)]; exact t1
        · rw [upR_ne (by decide)]; exact t2
        · rw [upR_ne (by decide), upF_ne (by decide)]; exact t3
        · intro k hk; rw [upR_ne (by decide), upF_ne (by decide)]; exact t4 k hk
        · intro k hk; rw [upR_ne (by decide), upF_ne (by decide)]; exact t5 k hk
        · intro k hk; rw [upR_ne (by decide), upF_ne (by decide)]; exact t6 k hk
        · intro k hk; rw [upR_ne (by decide), upF_ne (by decide)]; exact t7 k hk
        · intro k hk; rw [upR_same]; exact upF_n (t8 k hk)
      · intro e he v4 K hK
        rw [h11] at he
        simp (config := {decide := true}) only [r81_31, if_true, if_false, Nat.reduceAdd, Int32.reduceToNatClampNeg, lo_i, lo_r, lo_n, kont_v, kont_n, List.length_nil, List.length_cons]
        exact f3 e (by unfold r3; rw [hn1]; simp only []; rw [hn2]; simp only []; rw [he]) K hK _ _ _
    · intro e he v3 K hK
      rw [h11] at he
      simp (config := {decide := true}) only [r81_23, if_true, if_false, Nat.reduceAdd, Int32.reduceToNatClampNeg, lo_i, lo_r, lo_n, kont_v, kont_n, List.length_nil, List.length_cons]
      exact f2 e (by unfold r3; rw [hn1]; simp only []; rw [he]) K hK _ _ _ lo_n
  · intro e he v2 K hK
    rw [h11] at he
    simp (config := {decide := true}) only [r81_11, if_true, if_false, Nat.reduceAdd, Int32.reduceToNatClampNeg, lo_i, lo_r, lo_n, kont_v, kont_n, List.length_nil, List.length_cons]
    exact f1 e (by unfold r3; rw [he]) K hK _ _ _ lo_n lo_n
theorem c78 {k : Nat} (hk : k < 4) (h5 : J 18 5 = nt σ.1) (h6 : J 18 6 = nt σ.2.1) (hs : σ.1 ≤ 7) (hc : σ.2.1 ≤ 6) : wpc d 78 [.ref (18 : Nat), .int (nt k)] (mk n J L x) Φ ↔ Φ (.inl (some (.int (if (decide (k = 0) && decide (7 ≤ σ.1)) || (decide (k = 1) && decide (6 ≤ σ.2.1)) then 1 else 0)))) (mk n J L x) := by
  have k18 : K6 18 := Or.inr rfl
  have e7 : (7 ≤ nt σ.1) = (7 ≤ σ.1) := nt_le (j := 7) (by decide) (by omega)
  have e6 : (nt σ.2.1 < 6) = (σ.2.1 < 6) := nt_lt (k := 6) (by omega) (by decide)
  show wp d 78 0 [.ref (18 : Nat), .int (nt k)] [] (mk n J L x) Φ ↔ _
  have : k = 0 ∨ k = 1 ∨ k = 2 ∨ k = 3 := by omega
  rcases this with rfl | rfl | rfl | rfl
  · by_cases h : 7 ≤ σ.1
    · simp (config := {decide := true}) only [r78_0, r78_1, r78_4, r78_5, r78_8, r78_10, r78_13, r78_14, r78_15, r78_18, r78_19, r78_22, r78_24, r78_27, r78_28, r78_31, r78_32, if_true, if_false, Nat.reduceAdd, Int32.reduceToNatClampNeg, lo_i, lo_r, lo_n, kont_v, kont_n, List.length_nil, List.length_cons, k18, h5, e7, h, show nt 0 = (0 : Int32) from rfl, nb_1, decide_true, Bool.and_self, Bool.true_or]
    · simp (config := {decide := true}) only [r78_0, r78_1, r78_4, r78_5, r78_8, r78_10, r78_13, r78_14, r78_15, r78_18, r78_19, r78_22, r78_24, r78_27, r78_28, r78_31, r78_32, if_true, if_false, Nat.reduceAdd, Int32.reduceToNatClampNeg, lo_i, lo_r, lo_n, kont_v, kont_n, List.length_nil, List.length_cons, k18, h5, e7, h, show nt 0 = (0 : Int32) from rfl, nb_0, decide_true, decide_false, Bool.and_false, Bool.false_and, Bool.or_false, Bool.false_eq_true, show ¬ ((0 : Nat) = 1) from by decide]
  · by_cases h : σ.2.1 < 6
    · have h' : ¬ 6 ≤ σ.2.1 := by omega
      simp (config := {decide := true}) only [r78_0, r78_1, r78_4, r78_5, r78_8, r78_10, r78_13, r78_14, r78_15, r78_18, r78_19, r78_22, r78_24, r78_27, r78_28, r78_31, r78_32, if_true, if_false, Nat.reduceAdd, Int32.reduceToNatClampNeg, lo_i, lo_r, lo_n, kont_v, kont_n, List.length_nil, List.length_cons, k18, h6, e6, h, h', show nt 1 = (1 : Int32) from rfl, nb_0, decide_true, decide_false, Bool.and_false, Bool.false_and, Bool.or_false, Bool.false_eq_true, show ¬ ((1 : Nat) = 0) from by decide]
    · have h' : 6 ≤ σ.2.1 := by omega
      simp (config := {decide := true}) only [r78_0, r78_1, r78_4, r78_5, r78_8, r78_10, r78_13, r78_14, r78_15, r78_18, r78_19, r78_22, r78_24, r78_27, r78_28, r78_31, r78_32, if_true, if_false, Nat.reduceAdd, Int32.reduceToNatClampNeg, lo_i, lo_r, lo_n, kont_v, kont_n, List.length_nil, List.length_cons, k18, h6, e6, h, h', show nt 1 = (1 : Int32) from rfl, nb_1, decide_true, decide_false, Bool.and_self, Bool.false_and, Bool.or_true, Bool.false_or, show ¬ ((1 : Nat) = 0) from by decide]
  · simp (config := {decide := true}) only [r78_0, r78_1, r78_4, r78_5, r78_8, r78_10, r78_13, r78_14, r78_15, r78_18, r78_19, r78_22, r78_24, r78_27, r78_28, r78_31, r78_32, if_true, if_false, Nat.reduceAdd, Int32.reduceToNatClampNeg, lo_i, lo_r, lo_n, kont_v, kont_n, List.length_nil, List.length_cons, show nt 2 = (2 : Int32) from rfl, nb_0, decide_false, Bool.false_and, Bool.or_false, Bool.false_eq_true, show ¬ ((2 : Nat) = 0) from by decide, show ¬ ((2 : Nat) = 1) from by decide]
  · simp (config := {decide := true}) only [r78_0, r78_1, r78_4, r78_5, r78_8, r78_10, r78_13, r78_14, r78_15, r78_18, r78_19, r78_22, r78_24, r78_27, r78_28, r78_31, r78_32, if_true, if_false, Nat.reduceAdd, Int32.reduceToNatClampNeg, lo_i, lo_r, lo_n, kont_v, kont_n, List.length_nil, List.length_cons, show nt 3 = (3 : Int32) from rfl, nb_0, decide_false, Bool.false_and, Bool.or_false, Bool.false_eq_true, show ¬ ((3 : Nat) = 0) from by decide, show ¬ ((3 : Nat) = 1) from by decide]
theorem c78f : wpc d 78 [.ref (18 : Nat), .int (-1)] (mk n J L x) Φ ↔ Φ (.inl (some (.int 0))) (mk n J L x) := by
  show wp d 78 0 [.ref (18 : Nat), .int (-1)] [] (mk n J L x) Φ ↔ _
  simp (config := {decide := true}) only [r78_0, r78_1, r78_4, r78_5, r78_8, r78_10, r78_13, r78_14, r78_15, r78_18, r78_19, r78_22, r78_24, r78_27, r78_28, r78_31, r78_32, if_true, if_false, Nat.reduceAdd, Int32.reduceToNatClampNeg, lo_i, lo_r, lo_n, kont_v, kont_n, List.length_nil, List.length_cons, nb_0]
end Rq

