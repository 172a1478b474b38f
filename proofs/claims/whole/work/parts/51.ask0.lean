/-! QUESTIONS: what they answer -/
abbrev An : Type := Int32 ⊕ (Nat × Nat)
def resC (n : Nat) (I : Nat → Nat → Int32) (L : Nat → Nat → Int64) (x : Nat) (Φ : POut → PM → Prop) (r : An) : Prop := match r with
  | .inl A => okQ n I L x Φ A
  | .inr p => exQ n I L x Φ p.1
def resM (n : Nat) (I : Nat → Nat → Int32) (L : Nat → Nat → Int64) (x : Nat) (Φ : POut → PM → Prop) (r : An) : Prop := match r with
  | .inl A => okU n I L x Φ A
  | .inr p => exU n I L x Φ p.1 p.2
section Q0
variable {d n x c : Nat} {Φ : POut → PM → Prop} {I J : Nat → Nat → Int32} {L : Nat → Nat → Int64} {k s h v w a b clocks : Int32} {p q : Scr}
theorem tr_hd (h : view J = view I) : hdI J = hdI I := by
  funext f s b
  unfold hdI
  rw [tr_l h, tr_c h, vrl h (a := 15) (by decide), vrl h (a := 25) (by decide), vrl h (a := 13) (by decide)]
theorem tr_hj (h : view J = view I) : hdJ J = hdJ I := by
  funext f s b
  unfold hdJ
  rw [tr_l h, tr_c h, vrl h (a := 15) (by decide), vrl h (a := 25) (by decide), vrl h (a := 13) (by decide)]
theorem tr_wk (h : view J = view I) : wkI J = wkI I := by
  funext f b
  unfold wkI
  rw [tr_l h, tr_c h, tr_s h, vrl h (a := 15) (by decide), vrl h (a := 25) (by decide), vrl h (a := 13) (by decide)]
theorem tr_pw (h : view J = view I) : phW J = phW I := by
  funext f
  unfold phW
  rw [tr_wk h]
theorem tr_pr (h : view J = view I) : phR J = phR I := by
  funext f
  unfold phR
  rw [tr_pw h]
theorem tr_nj (h : view J = view I) : nzJ J = nzJ I := by
  funext f j k
  unfold nzJ
  rw [tr_l h, vrl h (a := 15) (by decide), vrl h (a := 25) (by decide), vrl h (a := 13) (by decide)]
theorem t41 (h : view J = view I) : J 41 = I 41 := vrl h (by decide)
theorem t12 (h : view J = view I) : J 12 = I 12 := vrl h (by decide)
theorem t13 (h : view J = view I) : J 13 = I 13 := vrl h (by decide)
theorem t14 (h : view J = view I) : J 14 = I 14 := vrl h (by decide)
theorem t15 (h : view J = view I) : J 15 = I 15 := vrl h (by decide)
theorem t25 (h : view J = view I) : J 25 = I 25 := vrl h (by decide)
theorem t37 (h : view J = view I) : J 37 = I 37 := vrl h (by decide)
theorem t44 (h : view J = view I) : J 44 = I 44 := vrl h (by decide)
theorem t46 (h : view J = view I) : J 46 = I 46 := vrl h (by decide)
theorem t9 (h : view J = view I) : J 9 15 = I 9 15 := vw h rfl
theorem t10a (h : view J = view I) : J 10 1 = I 10 1 := vw h rfl
theorem t10b (h : view J = view I) : J 10 6 = I 10 6 := vw h rfl
/-- a number of a sleeper, of a clock -/
theorem isN {N : Nat} (hv : v = nt N) (hN : N ≤ 7) (h : 0 ≤ s ∧ s ≤ v - 1) : ∃ j, j < N ∧ s = nt j := by
  obtain ⟨e, hl⟩ := int_nt h.1
  subst hv
  rcases Nat.eq_zero_or_pos N with h0 | h0
  · subst h0
    exact absurd (Int32.le_trans h.1 h.2) (by decide)
  · refine ⟨s.toNatClampNeg, ?_, e⟩
    have h2 := h.2
    rw [nt_sub1 h0, e, nt_le hl (by omega)] at h2
    omega
theorem rgN {N : Nat} (hN : N < 1000) (h : 0 ≤ s ∧ s ≤ nt N) : ∃ j, j < N + 1 ∧ s = nt j := by
  obtain ⟨e, hl⟩ := int_nt h.1
  refine ⟨s.toNatClampNeg, ?_, e⟩
  have h2 := h.2
  rw [e, nt_le hl (by omega)] at h2
  omega
theorem nGe {j : Nat} (h : j < 2147483648) : (0 : Int32) ≤ nt j := nt_ge h
theorem inv_s (hI : Inv I) : I 12 5 = nt (sI I) := hI.1.1.2.2.1.1
theorem inv_c (hI : Inv I) : I 12 6 = nt (cI I) := hI.1.1.2.1.1
theorem inv_s7 (hI : Inv I) : sI I ≤ 7 := hI.1.1.2.2.1.2
theorem inv_c6 (hI : Inv I) : cI I ≤ 6 := hI.1.1.2.1.2
theorem inv_ts (hI : Inv I) : I 74 0 = I 12 5 := hI.1.2.1.1.trans (inv_s hI).symm
theorem inv_tc (hI : Inv I) : I 74 1 = I 12 6 := hI.1.2.1.2.trans (inv_c hI).symm
theorem k40 : K5 40 := Or.inl rfl
theorem k42 : K5 42 := Or.inr (Or.inl rfl)
theorem k37 : K1 37 := Or.inl rfl
theorem kr : KR 534 := Or.inl rfl
theorem g23 (h : CI I) (hc : K5 c) : wpc (d + 3) 23 [.ref (39 : Nat), .ref c, .int s, .int clocks] (mk n I L x) Φ ↔ Φ (.inl (some (.int (hdI I (I (c + 1)) s clocks)))) (mk n (scr I (hdS I (I (c + 1)) s clocks (I 26, I 27))) L x) := by
  have e := f23 (d := d) (n := n) (x := x) (Φ := Φ) (L := L) (s := s) (clocks := clocks) (q := (I 26, I 27)) h hc
  rwa [scr_self] at e
theorem g24 (h : CI I) (hc : K5 c) : wpc (d + 4) 24 [.ref (39 : Nat), .ref c, .int clocks] (mk n I L x) Φ ↔ Φ (.inl (some (.int (wkI I (I (c + 1)) clocks)))) (mk n (scr I (wkS I (I (c + 1)) clocks (I 26, I 27))) L x) := by
  have e := f24 (d := d) (n := n) (x := x) (Φ := Φ) (L := L) (clocks := clocks) (q := (I 26, I 27)) h hc
  rwa [scr_self] at e
theorem g25 (h : CI I) (hc : K5 c) : wpc (d + 5) 25 [.ref (39 : Nat), .ref c] (mk n I L x) Φ ↔ Φ (.inl (some (.int (phW I (I (c + 1)))))) (mk n (scr (upR I (c + 1) (phR I (I (c + 1)))) (phS I (I (c + 1)) (I 26, I 27))) L x) := by
  have e := f25 (d := d) (n := n) (x := x) (Φ := Φ) (L := L) (q := (I 26, I 27)) h hc
  rwa [scr_self] at e
/-- the reference, its row of now -/
theorem n239 (hI : Inv I) : wpc d 239 [.ref (70 : Nat), .ref (534 : Nat)] (mk n I L x) Φ ↔ Φ (.inl (some (.int (awk (I 41))))) (mk n I L x) := m239 kr hI.1.2.1.1 (inv_s7 hI) hI.2.1.1 hI.2.1.2
theorem n243 (hI : Inv I) : wpc d 243 [.ref (70 : Nat), .ref (534 : Nat)] (mk n I L x) Φ ↔ Φ (.inl (some (.int (wnd (I 41))))) (mk n I L x) := m243 kr hI.1.2.1.2 (inv_c6 hI) hI.2.1.1 hI.2.1.2
theorem n244 (hI : Inv I) (hh : h ≠ -1) : wpc d 244 [.ref (70 : Nat), .ref (534 : Nat), .int h] (mk n I L x) Φ ↔ Φ (.inl (some (.int (rng (I 41) h)))) (mk n I L x) := m244 kr hI.1.2.1.2 (inv_c6 hI) hI.2.1.1 hI.2.1.2 hh
theorem n254 (hI : Inv I) : wpc d 254 [.ref (70 : Nat), .ref (534 : Nat)] (mk n I L x) Φ ↔ Φ (.inl (some (.int (spt (I 41))))) (mk n I L x) := m254 kr hI.1.2.1.2 (inv_c6 hI) hI.2.1.1 hI.2.1.2
theorem n255 (hI : Inv I) : wpc d 255 [.ref (70 : Nat), .ref (534 : Nat)] (mk n I L x) Φ ↔ Φ (.inl (some (.int (stf (I 41))))) (mk n I L x) := m255 kr hI.1.2.1.2 (inv_c6 hI) hI.2.1.1 hI.2.1.2
theorem n245 (hI : Inv I) : wpc d 245 [.ref (70 : Nat), .ref (534 : Nat)] (mk n I L x) Φ ↔ Φ (.inl (some (.int (ldr (I 41))))) (mk n I L x) := m245 kr hI.1.2.1.1 (inv_s7 hI) (fun s h1 h2 => (hI.2.1.1.2.1 s h1 h2).1) (fun s h1 => (hI.2.1.1.2.2.1 s h1).imp id (fun e => e.2)) hI.2.1.2
theorem o240 {j k : Nat} (hI : Inv I) (hj : j < sI I) (hk : k < cI I) : wpc (d + 4) 240 [.ref (70 : Nat), .ref (534 : Nat), .int (nt j), .int (nt k)] (mk n (scm I p) L x) Φ ↔ Φ (.inl (some (.int (nzJ I (I 41) j k)))) (mk n (scm I (noS I (I 41) j k p)) L x) := m240 hI.1 kr hI.2.1.1 hI.2.1.2 hj hk
theorem n240 {j k : Nat} (hI : Inv I) (hj : j < sI I) (hk : k < cI I) : wpc (d + 4) 240 [.ref (70 : Nat), .ref (534 : Nat), .int (nt j), .int (nt k)] (mk n I L x) Φ ↔ Φ (.inl (some (.int (nzJ I (I 41) j k)))) (mk n (scm I (noS I (I 41) j k (I 451, I 452))) L x) := by
  have e := o240 (d := d) (n := n) (x := x) (Φ := Φ) (L := L) (p := (I 451, I 452)) hI hj hk
  rwa [scm_self] at e
theorem o241 {j : Nat} (hI : Inv I) (hj : j < sI I) : wpc (d + 5) 241 [.ref (70 : Nat), .ref (534 : Nat), .int (nt j), .int clocks] (mk n (scm I p) L x) Φ ↔ Φ (.inl (some (.int (hdJ I (I 41) j clocks)))) (mk n (scm I (mhS I (I 41) j clocks p)) L x) := m241 hI.1 kr hI.2.1.1 hI.2.1.2 hj
theorem n241 {j : Nat} (hI : Inv I) (hj : j < sI I) : wpc (d + 5) 241 [.ref (70 : Nat), .ref (534 : Nat), .int (nt j), .int clocks] (mk n I L x) Φ ↔ Φ (.inl (some (.int (hdJ I (I 41) j clocks)))) (mk n (scm I (mhS I (I 41) j clocks (I 451, I 452))) L x) := by
  have e := o241 (d := d) (n := n) (x := x) (Φ := Φ) (L := L) (p := (I 451, I 452)) (clocks := clocks) hI hj
  rwa [scm_self] at e
theorem o242 (hI : Inv I) : wpc (d + 6) 242 [.ref (70 : Nat), .ref (534 : Nat), .int clocks] (mk n (scm I p) L x) Φ ↔ Φ (.inl (some (.int (wkI I (I 41) clocks)))) (mk n (scm I (mwS I (I 41) clocks p)) L x) := m242 hI.1 kr hI.2.1.1 hI.2.1.2
theorem n242 (hI : Inv I) : wpc (d + 6) 242 [.ref (70 : Nat), .ref (534 : Nat), .int clocks] (mk n I L x) Φ ↔ Φ (.inl (some (.int (wkI I (I 41) clocks)))) (mk n (scm I (mwS I (I 41) clocks (I 451, I 452))) L x) := by
  have e := o242 (d := d) (n := n) (x := x) (Φ := Φ) (L := L) (p := (I 451, I 452)) (clocks := clocks) hI
  rwa [scm_self] at e
theorem s534 : sh0 n 534 = (20, 84, []) := shR kr
theorem s72 : sh0 n 72 = (20, 2, []) := eq_of_heq HEq.rfl
/-- a question that is none -/
theorem m193 {t : Nat} {e : Int32} (hz : I 70 0 = 0) (ht : t < 2) (he : e ≠ 0) : wpc d 193 [.ref (70 : Nat), .int b, .int e, .int (nt t)] (mk n I L x) Φ ↔ if b = 0 then Φ (.inl (some (.int 0))) (mk n I L x) else Φ (.inl (some (.int 1))) (mk n (wrI (wrI I 70 0 e) 72 t (I 72 t + 1)) L x) := by
  show wp d 193 0 [.ref (70 : Nat), .int b, .int e, .int (nt t)] [] (mk n I L x) Φ ↔ _
  have e1 : (nt t).toNatClampNeg = t := nt_clamp (by omega)
  have e2 : (0 : Int32) ≤ nt t := nt_ge (by omega)
  have e3 : wrI I 70 0 e 72 = I 72 := wrI_ne (by decide)
  have e4 : wrI (wrI I 70 0 e) 72 t (I 72 t + 1) 70 0 = e := by rw [wrI_ne (by decide)]; unfold wrI; rw [upR_same, up_same]
  by_cases hb : b = 0
  · simp (config := {decide := true}) only [r193_0, r193_1, r193_4, r193_5, r193_8, r193_11, r193_12, r193_13, r193_16, r193_17, r193_20, r193_21, r193_22, r193_23, r193_24, r193_25, r193_26, r193_27, r193_30, r193_33, r193_34, r193_37, r193_38, if_true, if_false, Nat.reduceAdd, Int32.reduceToNatClampNeg, lo_i, lo_r, lo_n, kont_v, kont_n, List.length_nil, List.length_cons, hb, hz, nb_0, nb_1]
  · simp (config := {decide := true}) only [r193_0, r193_1, r193_4, r193_5, r193_8, r193_11, r193_12, r193_13, r193_16, r193_17, r193_20, r193_21, r193_22, r193_23, r193_24, r193_25, r193_26, r193_27, r193_30, r193_33, r193_34, r193_37, r193_38, if_true, if_false, Nat.reduceAdd, Int32.reduceToNatClampNeg, lo_i, lo_r, lo_n, kont_v, kont_n, List.length_nil, List.length_cons, hb, hz, nb_0, nb_1, e1, e2, e3, e4, ht, he, s72, ne_eq]
theorem z70 : wrI I 70 0 0 70 0 = 0 := by unfold wrI; rw [upR_same, up_same]
theorem v70 : view (wrI I 70 0 0) = view I := view_wr rfl
theorem resM_z {r : An} (h : resM n I L x Φ r) : resM n (wrI I 70 0 0) L x Φ r := by
  have e9 : wrI I 70 0 0 9 = I 9 := wrI_ne (by decide)
  have e72 : wrI I 70 0 0 72 = I 72 := wrI_ne (by decide)
  cases r with
  | inl A => exact fun J L' hs hz hl => h J L' (sm_trans (sm_wr rfl) hs) hz hl
  | inr q => exact fun J h1 h2 h3 h4 => h J (h1.trans v70) (h2.trans e9) (by rw [h3, e72]) h4
theorem oqM {A : Int32} (h : resM n I L x Φ (.inl A)) (hz : I 70 0 = 0) : Φ (.inl (some (.int A))) (mk n I L x) := h I L (sm_refl I) hz rfl
theorem okMs {A : Int32} (h : resM n I L x Φ (.inl A)) (hz : I 70 0 = 0) : Φ (.inl (some (.int A))) (mk n (scm I p) L x) := h (scm I p) L sm_scm (by rw [scm_ne (by decide) (by decide)]; exact hz) rfl
theorem exM {t e : Nat} (h : resM n I L x Φ (.inr (t + 1, e))) : Φ (.inl (some (.int 0))) (mk n (wrI (wrI I 70 0 (nt e)) 72 t (I 72 t + 1)) L x) := by
  refine h _ ?_ ?_ ?_ ?_
  · rw [view_wr (scr_vis (by decide) _), view_wr rfl]
  · rw [wrI_ne (by decide), wrI_ne (by decide)]
  · rw [wrI_at, wrI_ne (by decide)]; rfl
  · rw [wrI_ne (by decide)]; unfold wrI; rw [upR_same, up_same]
theorem okC {A : Int32} (h : resC n I L x Φ (.inl A)) : Φ (.inl (some (.int A))) (mk n I L x) := h I (sm_refl I)
theorem okCs {A : Int32} (h : resC n I L x Φ (.inl A)) : Φ (.inl (some (.int A))) (mk n (scr I q) L x) := h _ sm_scr
theorem exC1 {e : Nat} (h : resC n I L x Φ (.inr (1, e))) : Φ (.inr 1) (mk n (wrI I 9 16 (I 9 16 + 1)) L (x + 1)) := h I (sm_refl I)
theorem exC2 {e : Nat} (h : resC n I L x Φ (.inr (2, e))) : Φ (.inr 2) (mk n (wrI I 9 17 (I 9 17 + 1)) L (x + 1)) := h I (sm_refl I)
theorem m257 (hI : Inv I) : wpc (d + 1) 257 [.ref (70 : Nat), .int s] (mk n I L x) Φ ↔ Φ (.inl (some (.int (bi (0 ≤ s ∧ s ≤ I 12 5 - 1))))) (mk n I L x) := by
  show wp (d + 1) 257 0 [.ref (70 : Nat), .int s] [] (mk n I L x) Φ ↔ _
  simp (config := {decide := true}) only [r257_0, r257_1, r257_2, r257_3, r257_6, r257_7, r257_8, r257_9, r257_10, r257_13, if_true, if_false, Nat.reduceAdd, Int32.reduceToNatClampNeg, lo_i, lo_r, lo_n, kont_v, kont_n, List.length_nil, List.length_cons, m194, s74, inv_ts hI, nb_bi]
theorem m258 (hI : Inv I) : wpc (d + 1) 258 [.ref (70 : Nat), .int s] (mk n I L x) Φ ↔ Φ (.inl (some (.int (bi (0 ≤ s ∧ s ≤ I 12 6 - 1))))) (mk n I L x) := by
  show wp (d + 1) 258 0 [.ref (70 : Nat), .int s] [] (mk n I L x) Φ ↔ _
  simp (config := {decide := true}) only [r258_0, r258_1, r258_2, r258_3, r258_6, r258_7, r258_8, r258_9, r258_10, r258_13, if_true, if_false, Nat.reduceAdd, Int32.reduceToNatClampNeg, lo_i, lo_r, lo_n, kont_v, kont_n, List.length_nil, List.length_cons, m194, s74, inv_tc hI, nb_bi]
theorem m259 {μ : PM} : wpc (d + 1) 259 [.int s] μ Φ ↔ Φ (.inl (some (.int (bi (0 ≤ s ∧ s ≤ 23))))) μ := by
  show wp (d + 1) 259 0 [.int s] [] μ Φ ↔ _
  simp (config := {decide := true}) only [r259_0, r259_1, r259_2, r259_4, r259_7, if_true, if_false, Nat.reduceAdd, Int32.reduceToNatClampNeg, lo_i, lo_r, lo_n, kont_v, kont_n, List.length_nil, List.length_cons, m194, nb_bi]
theorem m266 (hI : Inv I) : wpc d 266 [.ref (70 : Nat)] (mk n I L x) Φ ↔ Φ (.inl (some (.int (1 <<< (I 12 6 &&& 31) - 1)))) (mk n I L x) := by
  show wp d 266 0 [.ref (70 : Nat)] [] (mk n I L x) Φ ↔ _
  simp (config := {decide := true}) only [r266_0, r266_1, r266_2, r266_5, r266_6, r266_7, r266_8, r266_9, r266_10, if_true, if_false, Nat.reduceAdd, Int32.reduceToNatClampNeg, lo_i, lo_r, lo_n, kont_v, kont_n, List.length_nil, List.length_cons, s74, inv_tc hI]
theorem m282 (hI : Inv I) : wpc d 282 [.ref (70 : Nat)] (mk n I L x) Φ ↔ Φ (.inl (some (.int (1 <<< (I 12 5 &&& 31) - 1)))) (mk n I L x) := by
  show wp d 282 0 [.ref (70 : Nat)] [] (mk n I L x) Φ ↔ _
  simp (config := {decide := true}) only [r282_0, r282_1, r282_2, r282_5, r282_6, r282_7, r282_8, r282_9, r282_10, if_true, if_false, Nat.reduceAdd, Int32.reduceToNatClampNeg, lo_i, lo_r, lo_n, kont_v, kont_n, List.length_nil, List.length_cons, s74, inv_ts hI]
theorem m274 (hI : Inv I) : wpc (d + 1) 274 [.ref (70 : Nat), .int s] (mk n I L x) Φ ↔ Φ (.inl (some (.int (bi (0 ≤ s ∧ s ≤ 1 <<< (I 12 5 &&& 31) - 1))))) (mk n I L x) := by
  show wp (d + 1) 274 0 [.ref (70 : Nat), .int s] [] (mk n I L x) Φ ↔ _
  simp (config := {decide := true}) only [r274_0, r274_1, r274_2, r274_3, r274_4, r274_7, r274_8, r274_9, r274_10, r274_11, r274_12, r274_15, if_true, if_false, Nat.reduceAdd, Int32.reduceToNatClampNeg, lo_i, lo_r, lo_n, kont_v, kont_n, List.length_nil, List.length_cons, m194, s74, inv_ts hI, nb_bi]
theorem m265 (hI : Inv I) : wpc (d + 1) 265 [.ref (70 : Nat), .int s] (mk n I L x) Φ ↔ Φ (.inl (some (.int (bi (s &&& (wnd (I 41) ^^^ -1) = 0))))) (mk n I L x) := by
  show wp (d + 1) 265 0 [.ref (70 : Nat), .int s] [] (mk n I L x) Φ ↔ _
  simp (config := {decide := true}) only [r265_0, r265_1, r265_2, r265_3, r265_6, r265_9, r265_10, r265_11, r265_12, r265_15, r265_16, r265_19, r265_20, if_true, if_false, Nat.reduceAdd, Int32.reduceToNatClampNeg, lo_i, lo_r, lo_n, kont_v, kont_n, List.length_nil, List.length_cons, n243 hI, nb_0, nb_1]
  by_cases h1 : s &&& (wnd (I 41) ^^^ -1) = 0
  · rw [if_pos h1, bi_t h1]
  · rw [if_neg h1, bi_f h1]
theorem c10 (hc : K1 c) : wpc (d + 1) 10 [.ref c] (mk n I L x) Φ ↔ Φ (.inl (some (.int (bcI (I c 0))))) (mk n I L x) := by
  show wp (d + 1) 10 0 [.ref c] [] (mk n I L x) Φ ↔ _
  simp (config := {decide := true}) only [r10_0, r10_1, r10_4, r10_7, if_true, if_false, Nat.reduceAdd, Int32.reduceToNatClampNeg, lo_i, lo_r, lo_n, kont_v, kont_n, List.length_nil, List.length_cons, hc, c315]
/-- sets of clocks, of sleepers -/
theorem set_le {N : Nat} (hN : N ≤ 7) : (s ≤ 1 <<< (nt N &&& 31) - 1) = (s < 1 <<< (nt N &&& 31)) := by
  have e : ∀ N, N ≤ 7 → ((1 : Int32) <<< (nt N &&& 31) - 1 = nt (2 ^ N - 1) ∧ (1 : Int32) <<< (nt N &&& 31) = nt (2 ^ N)) := by decide
  obtain ⟨e1, e2⟩ := e N hN
  have hp : 2 ^ N ≤ 2 ^ 7 := Nat.pow_le_pow_right (by decide) hN
  have hq : 0 < 2 ^ N := Nat.pow_pos (by decide)
  rw [e1, e2, eq_iff_iff, Int32.le_iff_toInt_le, Int32.lt_iff_toInt_lt, nt_toInt (by omega), nt_toInt (by omega)]
  omega
theorem set_nt {N : Nat} (hN : N ≤ 7) (h : 0 ≤ s ∧ s < 1 <<< (nt N &&& 31)) : ∃ j, j < 2 ^ N ∧ s = nt j := by
  obtain ⟨e, hl⟩ := int_nt h.1
  have e2 : ∀ N, N ≤ 7 → (1 : Int32) <<< (nt N &&& 31) = nt (2 ^ N) := by decide
  have hp : 2 ^ N ≤ 2 ^ 7 := Nat.pow_le_pow_right (by decide) hN
  refine ⟨s.toNatClampNeg, ?_, e⟩
  have h2 := h.2
  rw [e2 N hN, e, nt_lt hl (by omega)] at h2
  exact h2
theorem sc6 : ∀ p0 p1 p2 p3 p4 p5 : Bool, (63 : Int32) &&& ((((((((0 : Int32) ||| (if p0 then bt 0 else 0)) ||| (if p1 then bt 1 else 0)) ||| (if p2 then bt 2 else 0)) ||| (if p3 then bt 3 else 0)) ||| (if p4 then bt 4 else 0)) ||| (if p5 then bt 5 else 0)) ^^^ -1) = ((((((0 : Int32) ||| (if p0 then 0 else bt 0)) ||| (if p1 then 0 else bt 1)) ||| (if p2 then 0 else bt 2)) ||| (if p3 then 0 else bt 3)) ||| (if p4 then 0 else bt 4)) ||| (if p5 then 0 else bt 5) := by decide +kernel
theorem stc_eq (f : Nat → Int32) : 63 &&& (clf f (-1) ^^^ -1) = foldN (fun k b => b ||| (if f (6 + k) = -1 then 0 else bt k)) 6 0 := by
  have e2 := sc6 (decide (f (6 + 0) = -1)) (decide (f (6 + 1) = -1)) (decide (f (6 + 2) = -1)) (decide (f (6 + 3) = -1)) (decide (f (6 + 4) = -1)) (decide (f (6 + 5) = -1))
  simp only [← ib] at e2
  exact e2
theorem stc_cut {f : Nat → Int32} (ho : RO I f) (hs : cI I ≤ 6) : 63 &&& (clf f (-1) ^^^ -1) = foldN (fun k b => b ||| (if f (6 + k) = -1 then 0 else bt k)) (cI I) 0 := by
  rw [stc_eq]
  exact foldN_cut 6 hs (fun k h1 h2 b => by rw [if_pos (ho.1 k h1 h2).2.1, Int32.or_zero])
end Q0

