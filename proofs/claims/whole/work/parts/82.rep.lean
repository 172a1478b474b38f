/-! A REPUBLIC, read: the class -/
def upF (F : Nat → Nat → Nat) (i k v : Nat) : Nat → Nat → Nat := fun j l => if j = i ∧ l = k then v else F j l
abbrev RSt : Type := Nat × Nat × (Nat → Nat → Nat)
theorem upF_ne {F : Nat → Nat → Nat} {i k v j l : Nat} (h : j ≠ i) : upF F i k v j l = F j l := if_neg (fun z => h z.1)
theorem upF_n {F : Nat → Nat → Nat} {g : Nat → Int32} {i k v l : Nat} (h : g l = nt (F i l)) : upd g k (nt v) l = nt (upF F i k v i l) := by
  unfold upd upF
  by_cases e : l = k
  · rw [if_pos e, if_pos ⟨rfl, e⟩]
  · rw [if_neg e, if_neg (fun z => e z.2)]; exact h
/-- rows 18 to 23 -/
def RM (I G : Nat → Nat → Int32) : Nat → Nat → Int32 := fun r => if 18 ≤ r ∧ r ≤ 23 then G r else I r
def Rc (G : Nat → Nat → Int32) (σ : RSt) : Prop := G 18 5 = nt σ.1 ∧ G 18 6 = nt σ.2.1 ∧ G 18 7 = nt (σ.2.2 5 0) ∧ (∀ k, k < 7 → G 19 k = nt (σ.2.2 0 k)) ∧ (∀ k, k < 7 → G 20 k = nt (σ.2.2 1 k)) ∧ (∀ k, k < 6 → G 21 k = nt (σ.2.2 2 k)) ∧ (∀ k, k < 6 → G 22 k = nt (σ.2.2 3 k)) ∧ (∀ k, k < 42 → G 23 k = nt (σ.2.2 4 k))
def r2 (B : Nat → Int32) (N : Nat) (l1 h1 l2 h2 : Int32) (p : Nat) : RD (Nat × Nat) := match rNum B N l1 h1 p with
  | .inr e => .inr e
  | .inl (v, p1) => match rNum B N l2 h2 p1 with
    | .inr e => .inr e
    | .inl (w, p2) => .inl ((v, w), p2)
section Rp
variable {d n x N a : Nat} {Φ : POut → PM → Prop} {I J K G : Nat → Nat → Int32} {L : Nat → Nat → Int64} {v w c p s k q lo hi : Int32} {g : Nat → Int32} {σ : RSt} {t : LSt} {r i : Nat}
theorem RM_i (h : 18 ≤ r ∧ r ≤ 23) : RM I G r = G r := if_pos h
theorem RM_o (h : r < 18 ∨ 23 < r) : RM I G r = I r := if_neg (by omega)
theorem RM_up (h : 18 ≤ r ∧ r ≤ 23) : upR (RM I G) r g = RM I (upR G r g) := by
  funext b
  unfold RM
  by_cases hb : b = r
  · subst hb
    rw [upR_same, if_pos h, upR_same]
  · rw [upR_ne hb, upR_ne hb]
theorem TX_rm (h : TX I N) : TX (RM I G) N := by
  unfold TX
  rw [RM_o (by decide), RM_o (by decide)]
  exact h
theorem CT_wr (h : CT (RM I G) J N t) (hr : 18 ≤ r ∧ r ≤ 23) : CT (RM I (upR G r g)) (upR J r g) N t := by
  rw [← RM_up hr]
  exact CT_up h (by omega)
theorem CT_any (h : CT (RM I G) J N t) (r i : Nat) (v : Int32) (hr : 18 ≤ r ∧ r ≤ 23) : ∃ G2, CT (RM I G2) (wrI J r i v) N t := ⟨_, CT_wr h hr⟩
theorem Rc_mk (t1 : G 18 5 = nt σ.1) (t2 : G 18 6 = nt σ.2.1) (t3 : G 18 7 = nt (σ.2.2 5 0)) (t4 : ∀ k, k < 7 → G 19 k = nt (σ.2.2 0 k)) (t5 : ∀ k, k < 7 → G 20 k = nt (σ.2.2 1 k)) (t6 : ∀ k, k < 6 → G 21 k = nt (σ.2.2 2 k)) (t7 : ∀ k, k < 6 → G 22 k = nt (σ.2.2 3 k)) (t8 : ∀ k, k < 42 → G 23 k = nt (σ.2.2 4 k)) : Rc G σ := ⟨t1, t2, t3, t4, t5, t6, t7, t8⟩

theorem c79 (hT : TX I N) (hR : Rc G σ) (hn : σ.1 < 7) (hJ : CT (RM I G) J N (.inl a)) (hok : ∀ u p', r2 (I 11) N 1 60 1 9 a = .inl (u, p') → ∀ G' K, Rc G' ((σ.1 + 1, σ.2.1, upF (upF σ.2.2 0 σ.1 u.1) 1 σ.1 u.2)) → CT (RM I G') K N (.inl p') → Φ (.inl none) (mk n K L x)) (hbad : ∀ e, r2 (I 11) N 1 60 1 9 a = .inr e → ∀ G' K, CT (RM I G') K N (.inr e) → Φ (.inl none) (mk n K L x)) : wpc (d + 3) 79 [.ref (18 : Nat), .ref (10 : Nat)] (mk n J L x) Φ := by
  have k18 : K6 18 := Or.inr rfl
  have hT2 : ∀ G, TX (RM I G) N := fun G => TX_rm hT
  have h11 : ∀ G, RM I G 11 = I 11 := fun G => RM_o (by decide)
  have z1 : sh0 n 19 = (20, 7, []) := sh6a k18
  have z2 : sh0 n 20 = (20, 7, []) := sh6b k18
  have fin : ∀ e, r2 (I 11) N 1 60 1 9 a = .inr e → ∀ G K v2, CT (RM I G) K N (.inr e) → ∀ i2, wp (d + 3) 79 33 [.ref (18 : Nat), .ref (10 : Nat)] [.int v2, .int i2, .ref (20 : Nat)] (mk n K L x) Φ := by
    intro e he G K v2 hK i2
    simp (config := {decide := true}) only [r79_33, r79_36, r79_37, r79_38, r79_41, r79_42, r79_43, r79_46, if_true, if_false, Nat.reduceAdd, Int32.reduceToNatClampNeg, lo_i, lo_r, lo_n, kont_v, kont_n, List.length_nil, List.length_cons, k18, c186, z2, putv_up]
    have h2 := CT_wr (r := 20) (g := stv 7 (K 20) i2 v2) hK (by decide)
    obtain ⟨G2, h3⟩ := CT_any h2 18 5 (upR K 20 (stv 7 (K 20) i2 v2) 18 5 + 1) (by decide)
    exact hbad e he G2 _ h3
  have fin1 : ∀ e, r2 (I 11) N 1 60 1 9 a = .inr e → ∀ G K v1, CT (RM I G) K N (.inr e) → ∀ i1, wp (d + 3) 79 15 [.ref (18 : Nat), .ref (10 : Nat)] [.int v1, .int i1, .ref (19 : Nat)] (mk n K L x) Φ := by
    intro e he G K v1 hK i1
    simp (config := {decide := true}) only [r79_15, r79_18, r79_19, r79_22, r79_23, r79_26, r79_27, r79_28, r79_30, if_true, if_false, Nat.reduceAdd, Int32.reduceToNatClampNeg, lo_i, lo_r, lo_n, kont_v, kont_n, List.length_nil, List.length_cons, k18, c186, z1, putv_up]
    have h2 := CT_wr (r := 19) (g := stv 7 (K 19) i1 v1) hK (by decide)
    exact c100f (hT2 _) h2 (by decide) (fun K2 hK2 => kont_v.mpr (fin e he _ K2 0 hK2 _))
  show wp (d + 3) 79 0 [.ref (18 : Nat), .ref (10 : Nat)] [] (mk n J L x) Φ
  have s0 : J 18 5 = nt σ.1 := by rw [CT_ne hJ (by decide), RM_i (by decide)]; exact hR.1
  simp (config := {decide := true}) only [r79_0, r79_1, r79_4, r79_5, r79_8, r79_9, r79_10, r79_12, if_true, if_false, Nat.reduceAdd, Int32.reduceToNatClampNeg, lo_i, lo_r, lo_n, kont_v, kont_n, List.length_nil, List.length_cons, k18, s0]
  refine c100a (hT2 G) hJ (by decide) ?_ ?_
  · intro V1 p1 hn1 q hq hp1
    rw [h11] at hn1
    have hK1 : CT (RM I G) (tS (RM I G) (nt p1) (nt (skp (RM I G 11) N a)) 0 q) N (.inl p1) := ct_ok hq hp1
    generalize tS (RM I G) (nt p1) (nt (skp (RM I G 11) N a)) 0 q = K1 at hK1
    have e1 : putv 7 K1 19 (nt σ.1) (nt V1) = wrI K1 19 σ.1 (nt V1) := putv_nt hn (by decide)
    have hK2 := CT_wr (r := 19) (g := upd (K1 19) σ.1 (nt V1)) hK1 (by decide)
    have s1 : wrI K1 19 σ.1 (nt V1) 18 5 = nt σ.1 := by rw [wrI_ne (by decide), CT_ne hK1 (by decide), RM_i (by decide)]; exact hR.1
    refine kont_v.mpr ?_
    simp (config := {decide := true}) only [r79_15, r79_18, r79_19, r79_22, r79_23, r79_26, r79_27, r79_28, r79_30, if_true, if_false, Nat.reduceAdd, Int32.reduceToNatClampNeg, lo_i, lo_r, lo_n, kont_v, kont_n, List.length_nil, List.length_cons, k18, c186, z1, e1, s1]
    rw [wr_raw]
    refine c100a (hT2 _) hK2 (by decide) ?_ ?_
    · intro V2 p2 hn2 q2 hq2 hp2
      rw [h11] at hn2
      have hK3 : CT (RM I (upR G 19 (upd (K1 19) σ.1 (nt V1)))) (tS (RM I (upR G 19 (upd (K1 19) σ.1 (nt V1)))) (nt p2) (nt (skp (RM I (upR G 19 (upd (K1 19) σ.1 (nt V1))) 11) N p1)) 0 q2) N (.inl p2) := ct_ok hq2 hp2
      generalize tS (RM I (upR G 19 (upd (K1 19) σ.1 (nt V1)))) (nt p2) (nt (skp (RM I (upR G 19 (upd (K1 19) σ.1 (nt V1))) 11) N p1)) 0 q2 = K3 at hK3
      have e2 : putv 7 K3 20 (nt σ.1) (nt V2) = wrI K3 20 σ.1 (nt V2) := putv_nt hn (by decide)
      have hK4 := CT_wr (r := 20) (g := upd (K3 20) σ.1 (nt V2)) hK3 (by decide)
      have s3 : wrI K3 20 σ.1 (nt V2) 18 5 = nt σ.1 := by rw [wrI_ne (by decide), CT_ne hK3 (by decide), RM_i (by decide), upR_ne (by decide)]; exact hR.1
      have hK5 := CT_wr (r := 18) (g := upd (wrI K3 20 σ.1 (nt V2) 18) 5 (nt (σ.1 + 1))) hK4 (by decide)
      refine kont_v.mpr ?_
      simp (config := {decide := true}) only [r79_33, r79_36, r79_37, r79_38, r79_41, r79_42, r79_43, r79_46, if_true, if_false, Nat.reduceAdd, Int32.reduceToNatClampNeg, lo_i, lo_r, lo_n, kont_v, kont_n, List.length_nil, List.length_cons, k18, c186, z2, e2, s3, nt_succ]
      refine hok (V1, V2) p2 (by unfold r2; rw [hn1]; simp only []; rw [hn2]) _ _ ?_ hK5
      have q1 : K1 19 = G 19 := by rw [CT_ne hK1 (by decide), RM_i (by decide)]
      have q3 : K3 20 = G 20 := by rw [CT_ne hK3 (by decide), RM_i (by decide), upR_ne (by decide)]
      have q18 : wrI K3 20 σ.1 (nt V2) 18 = G 18 := by rw [wrI_ne (by decide), CT_ne hK3 (by decide), RM_i (by decide), upR_ne (by decide)]
      rw [q1, q3, q18]
      obtain ⟨t1, t2, t3, t4, t5, t6, t7, t8⟩ := hR
      refine Rc_mk ?_ ?_ ?_ ?_ ?_ ?_ ?_ ?_ <;> (try dsimp only)
      · rw [upR_same]; exact up_same
      · rw [upR_same]; rw [up_ne (by decide)]; exact t2
      · rw [upR_same, up_ne (by decide), upF_ne (by decide), upF_ne (by decide)]; exact t3
      · intro k hk
        rw [upR_ne (by decide), upR_ne (by decide), upR_same]
        rw [upF_ne (by decide)]; exact upF_n (t4 k hk)
      · intro k hk
        rw [upR_ne (by decide), upR_same]
        refine upF_n ?_; rw [upF_ne (by decide)]; exact t5 k hk
      · intro k hk
        rw [upR_ne (by decide), upR_ne (by decide), upR_ne (by decide)]
        rw [upF_ne (by decide), upF_ne (by decide)]; exact t6 k hk
      · intro k hk
        rw [upR_ne (by decide), upR_ne (by decide), upR_ne (by decide)]
        rw [upF_ne (by decide), upF_ne (by decide)]; exact t7 k hk
      · intro k hk
        rw [upR_ne (by decide), upR_ne (by decide), upR_ne (by decide)]
        rw [upF_ne (by decide), upF_ne (by decide)]; exact t8 k hk
    · intro e he v2 K hK
      rw [h11] at he
      exact kont_v.mpr (fin e (by unfold r2; rw [hn1]; simp only []; rw [he]) _ K v2 hK _)
  · intro e he v1 K hK
    rw [h11] at he
    exact kont_v.mpr (fin1 e (by unfold r2; rw [he]) G K v1 hK _)

theorem c80 (hT : TX I N) (hR : Rc G σ) (hn : σ.2.1 < 6) (hJ : CT (RM I G) J N (.inl a)) (hok : ∀ u p', r2 (I 11) N 1 30 0 20 a = .inl (u, p') → ∀ G' K, Rc G' ((σ.1, σ.2.1 + 1, upF (upF σ.2.2 2 σ.2.1 u.1) 3 σ.2.1 u.2)) → CT (RM I G') K N (.inl p') → Φ (.inl none) (mk n K L x)) (hbad : ∀ e, r2 (I 11) N 1 30 0 20 a = .inr e → ∀ G' K, CT (RM I G') K N (.inr e) → Φ (.inl none) (mk n K L x)) : wpc (d + 3) 80 [.ref (18 : Nat), .ref (10 : Nat)] (mk n J L x) Φ := by
  have k18 : K6 18 := Or.inr rfl
  have hT2 : ∀ G, TX (RM I G) N := fun G => TX_rm hT
  have h11 : ∀ G, RM I G 11 = I 11 := fun G => RM_o (by decide)
  have z1 : sh0 n 21 = (20, 6, []) := sh6c k18
  have z2 : sh0 n 22 = (20, 6, []) := sh6d k18
  have fin : ∀ e, r2 (I 11) N 1 30 0 20 a = .inr e → ∀ G K v2, CT (RM I G) K N (.inr e) → ∀ i2, wp (d + 3) 80 33 [.ref (18 : Nat), .ref (10 : Nat)] [.int v2, .int i2, .ref (22 : Nat)] (mk n K L x) Φ := by
    intro e he G K v2 hK i2
    simp (config := {decide := true}) only [r80_33, r80_36, r80_37, r80_38, r80_41, r80_42, r80_43, r80_46, if_true, if_false, Nat.reduceAdd, Int32.reduceToNatClampNeg, lo_i, lo_r, lo_n, kont_v, kont_n, List.length_nil, List.length_cons, k18, c186, z2, putv_up]
    have h2 := CT_wr (r := 22) (g := stv 6 (K 22) i2 v2) hK (by decide)
    obtain ⟨G2, h3⟩ := CT_any h2 18 6 (upR K 22 (stv 6 (K 22) i2 v2) 18 6 + 1) (by decide)
    exact hbad e he G2 _ h3
  have fin1 : ∀ e, r2 (I 11) N 1 30 0 20 a = .inr e → ∀ G K v1, CT (RM I G) K N (.inr e) → ∀ i1, wp (d + 3) 80 15 [.ref (18 : Nat), .ref (10 : Nat)] [.int v1, .int i1, .ref (21 : Nat)] (mk n K L x) Φ := by
    intro e he G K v1 hK i1
    simp (config := {decide := true}) only [r80_15, r80_18, r80_19, r80_22, r80_23, r80_26, r80_27, r80_28, r80_30, if_true, if_false, Nat.reduceAdd, Int32.reduceToNatClampNeg, lo_i, lo_r, lo_n, kont_v, kont_n, List.length_nil, List.length_cons, k18, c186, z1, putv_up]
    have h2 := CT_wr (r := 21) (g := stv 6 (K 21) i1 v1) hK (by decide)
    exact c100f (hT2 _) h2 (by decide) (fun K2 hK2 => kont_v.mpr (fin e he _ K2 0 hK2 _))
  show wp (d + 3) 80 0 [.ref (18 : Nat), .ref (10 : Nat)] [] (mk n J L x) Φ
  have s0 : J 18 6 = nt σ.2.1 := by rw [CT_ne hJ (by decide), RM_i (by decide)]; exact hR.2.1
  simp (config := {decide := true}) only [r80_0, r80_1, r80_4, r80_5, r80_8, r80_9, r80_10, r80_12, if_true, if_false, Nat.reduceAdd, Int32.reduceToNatClampNeg, lo_i, lo_r, lo_n, kont_v, kont_n, List.length_nil, List.length_cons, k18, s0]
  refine c100a (hT2 G) hJ (by decide) ?_ ?_
  · intro V1 p1 hn1 q hq hp1
    rw [h11] at hn1
    have hK1 : CT (RM I G) (tS (RM I G) (nt p1) (nt (skp (RM I G 11) N a)) 0 q) N (.inl p1) := ct_ok hq hp1
    generalize tS (RM I G) (nt p1) (nt (skp (RM I G 11) N a)) 0 q = K1 at hK1
    have e1 : putv 6 K1 21 (nt σ.2.1) (nt V1) = wrI K1 21 σ.2.1 (nt V1) := putv_nt hn (by decide)
    have hK2 := CT_wr (r := 21) (g := upd (K1 21) σ.2.1 (nt V1)) hK1 (by decide)
    have s1 : wrI K1 21 σ.2.1 (nt V1) 18 6 = nt σ.2.1 := by rw [wrI_ne (by decide), CT_ne hK1 (by decide), RM_i (by decide)]; exact hR.2.1
    refine kont_v.mpr ?_
    simp (config := {decide := true}) only [r80_15, r80_18, r80_19, r80_22, r80_23, r80_26, r80_27, r80_28, r80_30, if_true, if_false, Nat.reduceAdd, Int32.reduceToNatClampNeg, lo_i, lo_r, lo_n, kont_v, kont_n, List.length_nil, List.length_cons, k18, c186, z1, e1, s1]
    rw [wr_raw]
    refine c100a (hT2 _) hK2 (by decide) ?_ ?_
    · intro V2 p2 hn2 q2 hq2 hp2
      rw [h11] at hn2
      have hK3 : CT (RM I (upR G 21 (upd (K1 21) σ.2.1 (nt V1)))) (tS (RM I (upR G 21 (upd (K1 21) σ.2.1 (nt V1)))) (nt p2) (nt (skp (RM I (upR G 21 (upd (K1 21) σ.2.1 (nt V1))) 11) N p1)) 0 q2) N (.inl p2) := ct_ok hq2 hp2
      generalize tS (RM I (upR G 21 (upd (K1 21) σ.2.1 (nt V1)))) (nt p2) (nt (skp (RM I (upR G 21 (upd (K1 21) σ.2.1 (nt V1))) 11) N p1)) 0 q2 = K3 at hK3
      have e2 : putv 6 K3 22 (nt σ.2.1) (nt V2) = wrI K3 22 σ.2.1 (nt V2) := putv_nt hn (by decide)
      have hK4 := CT_wr (r := 22) (g := upd (K3 22) σ.2.1 (nt V2)) hK3 (by decide)
      have s3 : wrI K3 22 σ.2.1 (nt V2) 18 6 = nt σ.2.1 := by rw [wrI_ne (by decide), CT_ne hK3 (by decide), RM_i (by decide), upR_ne (by decide)]; exact hR.2.1
      have hK5 := CT_wr (r := 18) (g := upd (wrI K3 22 σ.2.1 (nt V2) 18) 6 (nt (σ.2.1 + 1))) hK4 (by decide)
      refine kont_v.mpr ?_
      simp (config := {decide := true}) only [r80_33, r80_36, r80_37, r80_38, r80_41, r80_42, r80_43, r80_46, if_true, if_false, Nat.reduceAdd, Int32.reduceToNatClampNeg, lo_i, lo_r, lo_n, kont_v, kont_n, List.length_nil, List.length_cons, k18, c186, z2, e2, s3, nt_succ]
      refine hok (V1, V2) p2 (by unfold r2; rw [hn1]; simp only []; rw [hn2]) _ _ ?_ hK5
      have q1 : K1 21 = G 21 := by rw [CT_ne hK1 (by decide), RM_i (by decide)]
      have q3 : K3 22 = G 22 := by rw [CT_ne hK3 (by decide), RM_i (by decide), upR_ne (by decide)]
      have q18 : wrI K3 22 σ.2.1 (nt V2) 18 = G 18 := by rw [wrI_ne (by decide), CT_ne hK3 (by decide), RM_i (by decide), upR_ne (by decide)]
      rw [q1, q3, q18]
      obtain ⟨t1, t2, t3, t4, t5, t6, t7, t8⟩ := hR
      refine Rc_mk ?_ ?_ ?_ ?_ ?_ ?_ ?_ ?_ <;> (try dsimp only)
      · rw [upR_same]; rw [up_ne (by decide)]; exact t1
      · rw [upR_same]; exact up_same
      · rw [upR_same, up_ne (by decide), upF_ne (by decide), upF_ne (by decide)]; exact t3
      · intro k hk
        rw [upR_ne (by decide), upR_ne (by decide), upR_ne (by decide)]
        rw [upF_ne (by decide), upF_ne (by decide)]; exact t4 k hk
      · intro k hk
        rw [upR_ne (by decide), upR_ne (by decide), upR_ne (by decide)]
        rw [upF_ne (by decide), upF_ne (by decide)]; exact t5 k hk
      · intro k hk
        rw [upR_ne (by decide), upR_ne (by decide), upR_same]
        rw [upF_ne (by decide)]; exact upF_n (t6 k hk)
      · intro k hk
        rw [upR_ne (by decide), upR_same]
        refine upF_n ?_; rw [upF_ne (by decide)]; exact t7 k hk
      · intro k hk
        rw [upR_ne (by decide), upR_ne (by decide), upR_ne (by decide)]
        rw [upF_ne (by decide), upF_ne (by decide)]; exact t8 k hk
    · intro e he v2 K hK
      rw [h11] at he
      exact kont_v.mpr (fin e (by unfold r2; rw [hn1]; simp only []; rw [he]) _ K v2 hK _)
  · intro e he v1 K hK
    rw [h11] at he
    exact kont_v.mpr (fin1 e (by unfold r2; rw [he]) G K v1 hK _)

end Rp

