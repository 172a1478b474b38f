/-! THE LAW'S VALUE: what was on the pile ahead doesn't matter -/
theorem nt_pred {k : Nat} (h : 1 ≤ k) : nt k + -1 = nt (k - 1) := by
  obtain ⟨m, rfl⟩ : ∃ m, k = m + 1 := ⟨k - 1, by omega⟩
  rw [← nt_succ, Int32.add_assoc]
  show nt m + 0 = _
  rw [Int32.add_zero]
  rfl
theorem nt_sub1 {k : Nat} (h : 1 ≤ k) : nt k - 1 = nt (k - 1) := by
  rw [Int32.sub_eq_add_neg]
  exact nt_pred h
theorem st_nt {f : Nat → Int32} {m k : Nat} {v : Int32} (h : k < m) (hm : m < 2147483648) : stv m f (nt k) v = upd f k v := by
  unfold stv
  rw [if_pos ⟨nt_ge (by omega), by rw [nt_lt (by omega) hm]; exact h⟩, nt_clamp (by omega)]
def ht (sg : Nat → Int32) (k : Nat) : Nat := foldN (fun j h => if 2000 ≤ sg j then h - 1 else h + 1) k 0
def wfs (sg : Nat → Int32) (len : Nat) : Prop := (∀ k, k < len → 2000 ≤ sg k → 2 ≤ ht sg k) ∧ 1 ≤ ht sg len ∧ len ≤ 150
theorem ht_s (sg : Nat → Int32) (k : Nat) : ht sg (k + 1) = if 2000 ≤ sg k then ht sg k - 1 else ht sg k + 1 := rfl
theorem ht_le (sg : Nat → Int32) (k : Nat) : ht sg k ≤ k := by
  induction k with
  | zero => exact Nat.le_refl _
  | succ k ih =>
    rw [ht_s]
    split <;> omega
theorem nzA_s (sg inp g : Nat → Int32) (k : Nat) : nzA sg inp (k + 1) g = nzF sg inp k (nzA sg inp k g) := rfl
theorem up_same {f : Nat → Int32} {i : Nat} {v : Int32} : upd f i v i = v := by
  unfold upd
  exact if_pos rfl
theorem up_ne {f : Nat → Int32} {i j : Nat} {v : Int32} (h : j ≠ i) : upd f i v j = f j := by
  unfold upd
  exact if_neg h
/-- one sign, its height known -/
theorem nzF_ht {sg inp g : Nat → Int32} {k : Nat} (hk : ht sg k < 150) (hw : 2000 ≤ sg k → 2 ≤ ht sg k) : nzF sg inp k (nt (ht sg k), g) = (nt (ht sg (k + 1)), if 2000 ≤ sg k then upd g (ht sg k - 2) (jn (sg k) (g (ht sg k - 2)) (g (ht sg k - 1))) else upd g (ht sg k) (if 1000 ≤ sg k then atv 9 inp (sg k - 1000) else sg k)) := by
  unfold nzF
  rw [ht_s]
  by_cases h2 : 2000 ≤ sg k
  · have h1 : 1000 ≤ sg k := Int32.le_trans (by decide) h2
    have h3 := hw h2
    rw [if_pos h1, if_pos h2, if_pos h2, if_pos h2, nt_pred (by omega), nt_sub1 (by omega), st_nt (by omega) (by decide), atv_nt (by omega) (by decide), atv_nt (by omega) (by decide)]
    rfl
  · rw [if_neg h2, if_neg h2, if_neg h2]
    by_cases h1 : 1000 ≤ sg k
    · rw [if_pos h1, if_pos h1, nt_succ, st_nt hk (by decide)]
    · rw [if_neg h1, if_neg h1, nt_succ, st_nt hk (by decide)]
theorem nz_ht {sg inp g : Nat → Int32} {len : Nat} (h : ∀ k, k < len → 2000 ≤ sg k → 2 ≤ ht sg k) (hl : len ≤ 150) : ∀ k, k ≤ len → (nzA sg inp k g).1 = nt (ht sg k) := by
  intro k
  induction k with
  | zero => intro _; rfl
  | succ k ih =>
    intro hk
    have e : nzA sg inp k g = (nt (ht sg k), (nzA sg inp k g).2) := by rw [← ih (by omega)]
    rw [nzA_s, e, nzF_ht (by have := ht_le sg k; omega) (h k (by omega))]
theorem nz_ind {sg inp g g' : Nat → Int32} {len : Nat} (h : ∀ k, k < len → 2000 ≤ sg k → 2 ≤ ht sg k) (hl : len ≤ 150) : ∀ k, k ≤ len → ∀ i, i < ht sg k → (nzA sg inp k g).2 i = (nzA sg inp k g').2 i := by
  intro k
  induction k with
  | zero => intro _ i hi; exact absurd hi (Nat.not_lt_zero i)
  | succ k ih =>
    intro hk i hi
    have e : nzA sg inp k g = (nt (ht sg k), (nzA sg inp k g).2) := by rw [← nz_ht h hl k (by omega)]
    have e' : nzA sg inp k g' = (nt (ht sg k), (nzA sg inp k g').2) := by rw [← nz_ht h hl k (by omega)]
    have hb := ht_le sg k
    rw [nzA_s, nzA_s, e, e', nzF_ht (by omega) (h k (by omega)), nzF_ht (by omega) (h k (by omega))]
    rw [ht_s] at hi
    dsimp only
    by_cases h2 : 2000 ≤ sg k
    · rw [if_pos h2, if_pos h2]
      rw [if_pos h2] at hi
      have h3 := h k (by omega) h2
      rw [ih (by omega) (ht sg k - 2) (by omega), ih (by omega) (ht sg k - 1) (by omega)]
      by_cases hj : i = ht sg k - 2
      · subst hj; rw [up_same, up_same]
      · rw [up_ne hj, up_ne hj]
        exact ih (by omega) i (by omega)
    · rw [if_neg h2, if_neg h2]
      rw [if_neg h2] at hi
      by_cases hj : i = ht sg k
      · subst hj; rw [up_same, up_same]
      · rw [up_ne hj, up_ne hj]
        exact ih (by omega) i (by omega)
theorem nzV_ind {sg inp g g' : Nat → Int32} {len : Nat} (h : wfs sg len) : nzV sg inp len g = nzV sg inp len g' := by
  obtain ⟨h1, h2, h3⟩ := h
  unfold nzV
  rw [show (0 : Int32) = nt 0 from rfl, atv_nt (by decide) (by decide), atv_nt (by decide) (by decide), nz_ind h1 h3 len (Nat.le_refl _) 0 (by omega)]
theorem nzA_cong {sg inp inp' : Nat → Int32} (h : ∀ i, i < 9 → inp i = inp' i) (g : Nat → Int32) : ∀ k, nzA sg inp k g = nzA sg inp' k g := by
  have e : ∀ i, atv 9 inp i = atv 9 inp' i := by
    intro i
    unfold atv
    split
    · rename_i q; exact h _ (in_lt (by decide) q.1 q.2)
    · rfl
  intro k
  induction k with
  | zero => rfl
  | succ k ih =>
    rw [nzA_s, nzA_s, ih]
    unfold nzF
    rw [e]
theorem nzV_cong {sg inp inp' : Nat → Int32} {len : Nat} (h : ∀ i, i < 9 → inp i = inp' i) (g : Nat → Int32) : nzV sg inp len g = nzV sg inp' len g := by
  unfold nzV
  rw [nzA_cong h]
def inpf (loud near depth sock hour day awake spring s : Int32) : Nat → Int32 := fun i => if i = 0 then loud else if i = 1 then near else if i = 2 then depth else if i = 3 then sock else if i = 4 then hour else if i = 5 then day else if i = 6 then awake else if i = 7 then spring else s
theorem below9 {P : Nat → Prop} (h0 : P 0) (h1 : P 1) (h2 : P 2) (h3 : P 3) (h4 : P 4) (h5 : P 5) (h6 : P 6) (h7 : P 7) (h8 : P 8) : ∀ i, i < 9 → P i
  | 0, _ => h0
  | 1, _ => h1
  | 2, _ => h2
  | 3, _ => h3
  | 4, _ => h4
  | 5, _ => h5
  | 6, _ => h6
  | 7, _ => h7
  | 8, _ => h8
theorem thg_inp {g : Nat → Int32} {loud near depth sock hour day awake spring s : Int32} (h4 : g 4 = hour) (h5 : g 5 = day) (h6 : g 6 = awake) (h8 : g 8 = s) : ∀ i, i < 9 → thg g loud near depth sock spring i = inpf loud near depth sock hour day awake spring s i := by
  subst h4 h5 h6 h8
  exact below9 rfl rfl rfl rfl rfl rfl rfl rfl rfl
/-- NOISE of such a clock -/
def nzC (sg : Nat → Int32) (len : Nat) (loud near depth sock hour day awake spring s : Int32) : Int32 := nzV sg (inpf loud near depth sock hour day awake spring s) len (fun _ => 0)
theorem foldN_two {α β : Type} {P : α → β → Prop} {f : Nat → α → α} {g : Nat → β → β} : ∀ (n : Nat), (∀ k a b, k < n → P a b → P (f k a) (g k b)) → ∀ {a : α} {b : β}, P a b → P (foldN f n a) (foldN g n b)
  | 0, _, _, _, h => h
  | n + 1, hs, _, _, h => hs n _ _ (Nat.lt_succ_self n) (foldN_two n (fun k a b hk => hs k a b (Nat.lt_succ_of_lt hk)) h)
def hdV (f lou sg : Nat → Int32) (len C : Nat) (dv s clocks : Int32) : Int32 := foldN (fun k t => if clocks >>> (nt k &&& 31) &&& 1 = 1 then t + nzC sg len (lou k) (atv 84 f (18 + s * 6 + nt k)) dv (f (12 + k)) (f 81) (f 82) (awm f) (f k) s else t) C 0
theorem hdA_val {f lou sg : Nat → Int32} {len C : Nat} {dv s clocks : Int32} {q : Scr} (h : wfs sg len) : (hdA f lou sg len C dv s clocks q).1 = hdV f lou sg len C dv s clocks := by
  unfold hdA hdV
  refine (foldN_two (P := fun (q : Int32 × Scr) t => q.1 = t ∧ q.2.2 4 = f 81 ∧ q.2.2 5 = f 82 ∧ q.2.2 6 = awm f ∧ q.2.2 8 = s) C ?_ ⟨rfl, rfl, rfl, rfl, rfl⟩).1
  intro k a t _ ⟨h1, h4, h5, h6, h8⟩
  unfold hdF
  by_cases hb : clocks >>> (nt k &&& 31) &&& 1 = 1
  · rw [if_pos hb, if_pos hb]
    refine ⟨?_, h4, h5, h6, h8⟩
    show a.1 + _ = _
    rw [h1, nzV_cong (thg_inp h4 h5 h6 h8), nzV_ind h (g' := fun _ => 0)]
    rfl
  · rw [if_neg hb, if_neg hb]
    exact ⟨h1, h4, h5, h6, h8⟩
def wkV (f dep lou sg : Nat → Int32) (len C Ns : Nat) (clocks : Int32) : Int32 := foldN (fun k b => if f (60 + k) = -1 then (if dep k ≤ hdV f lou sg len C (dep k) (nt k) clocks then b ||| bt k else b) else b) Ns 0
theorem z_bit (k : Int32) : ¬ ((0 : Int32) >>> k &&& 1 = 1) := by
  rw [Int32.zero_shiftRight, Int32.zero_and]
  decide
theorem foldN_id {α : Type} {f : Nat → α → α} {a : α} : ∀ n, (∀ k, k < n → f k a = a) → foldN f n a = a
  | 0, _ => rfl
  | n + 1, h => by
    show f n (foldN f n a) = a
    rw [foldN_id n (fun k hk => h k (Nat.lt_succ_of_lt hk))]
    exact h n (Nat.lt_succ_self n)
theorem hdV_0 {f lou sg : Nat → Int32} {len C : Nat} {dv s : Int32} : hdV f lou sg len C dv s 0 = 0 := by
  unfold hdV
  exact foldN_id C (fun k _ => if_neg (z_bit _))
theorem pos_nle {a : Int32} (h : 1 ≤ a) : ¬ a ≤ 0 := fun h2 => absurd (Int32.le_trans h h2) (by decide)
theorem wkV_0 {f dep lou sg : Nat → Int32} {len C Ns : Nat} (h : ∀ s, s < Ns → 1 ≤ dep s) : wkV f dep lou sg len C Ns 0 = 0 := by
  unfold wkV
  refine foldN_id Ns (fun k hk => ?_)
  rw [hdV_0, if_neg (pos_nle (h k hk))]
  split <;> rfl
theorem wkA_val {f dep lou sg : Nat → Int32} {len C Ns : Nat} {clocks : Int32} {q : Scr} (h : wfs sg len) (hd : ∀ s, s < Ns → 1 ≤ dep s) : (wkA f dep lou sg len C Ns clocks q).1 = wkV f dep lou sg len C Ns clocks := by
  unfold wkA
  by_cases h0 : clocks = 0
  · rw [if_pos h0, h0, wkV_0 hd]
  · rw [if_neg h0]
    refine foldN_two (P := fun (q : Int32 × Scr) t => q.1 = t) Ns ?_ rfl
    intro k a t _ h1
    unfold wkF
    rw [hdA_val h]
    subst h1
    by_cases hb : f (60 + k) = -1
    · rw [if_pos hb, if_pos hb]
    · rw [if_neg hb, if_neg hb]
/-! THE SAME, OUT OF THE MEMORY -/
def lnI (I : Nat → Nat → Int32) : Nat := (I 24 3).toNatClampNeg
def cI (I : Nat → Nat → Int32) : Nat := (I 12 6).toNatClampNeg
def sI (I : Nat → Nat → Int32) : Nat := (I 12 5).toNatClampNeg
/-- what holds of the republic and of the law of now -/
def CI (I : Nat → Nat → Int32) : Prop := (I 24 3 = nt (lnI I) ∧ wfs (I 25) (lnI I)) ∧ (I 12 6 = nt (cI I) ∧ cI I ≤ 6) ∧ (I 12 5 = nt (sI I) ∧ sI I ≤ 7) ∧ ∀ s, s < sI I → 1 ≤ I 13 s
def hdI (I : Nat → Nat → Int32) (f : Nat → Int32) (s clocks : Int32) : Int32 := hdV f (I 15) (I 25) (lnI I) (cI I) (atv 7 (I 13) s) s clocks
def hdS (I : Nat → Nat → Int32) (f : Nat → Int32) (s clocks : Int32) (q : Scr) : Scr := (hdA f (I 15) (I 25) (lnI I) (cI I) (atv 7 (I 13) s) s clocks q).2
def wkI (I : Nat → Nat → Int32) (f : Nat → Int32) (clocks : Int32) : Int32 := wkV f (I 13) (I 15) (I 25) (lnI I) (cI I) (sI I) clocks
def wkS (I : Nat → Nat → Int32) (f : Nat → Int32) (clocks : Int32) (q : Scr) : Scr := (wkA f (I 13) (I 15) (I 25) (lnI I) (cI I) (sI I) clocks q).2
section Fine
variable {d n x c : Nat} {Φ : POut → PM → Prop} {I : Nat → Nat → Int32} {L : Nat → Nat → Int64} {s clocks : Int32} {q : Scr}
theorem f23 (h : CI I) (hc : K5 c) : wpc (d + 3) 23 [.ref (39 : Nat), .ref c, .int s, .int clocks] (mk n (scr I q) L x) Φ ↔ Φ (.inl (some (.int (hdI I (I (c + 1)) s clocks)))) (mk n (scr I (hdS I (I (c + 1)) s clocks q)) L x) := by
  rw [e23 hc h.1.1 h.1.2.2.2 h.2.1.1 h.2.1.2, hdA_val h.1.2]
  rfl
theorem f24 (h : CI I) (hc : K5 c) : wpc (d + 4) 24 [.ref (39 : Nat), .ref c, .int clocks] (mk n (scr I q) L x) Φ ↔ Φ (.inl (some (.int (wkI I (I (c + 1)) clocks)))) (mk n (scr I (wkS I (I (c + 1)) clocks q)) L x) := by
  rw [c24 hc h.1.1 h.1.2.2.2 h.2.1.1 h.2.1.2 h.2.2.1.1 h.2.2.1.2, wkA_val h.1.2 h.2.2.2]
  rfl
/-- an hour goes by -/
def phW (I : Nat → Nat → Int32) (f : Nat → Int32) : Int32 := wkI I f (rng f (f 81))
def phR (I : Nat → Nat → Int32) (f : Nat → Int32) : Nat → Int32 := trn (wkn (phW I f) (spd (rng f (f 81)) f))
def phS (I : Nat → Nat → Int32) (f : Nat → Int32) (q : Scr) : Scr := wkS I f (rng f (f 81)) q
theorem up_self (f : Nat → Int32) (i : Nat) : upd f i (f i) = f := by
  funext j
  unfold upd
  split
  · rename_i h; rw [h]
  · rfl
theorem spd_0 (f : Nat → Int32) : spd 0 f = f := by
  unfold spd
  refine foldN_id 6 (fun k _ => ?_)
  rw [Int32.zero_shiftRight, Int32.zero_and, Int32.sub_zero, up_self]
theorem wkn_0 (f : Nat → Int32) : wkn 0 f = f := by
  unfold wkn
  exact foldN_id 7 (fun k _ => if_neg (z_bit _))
theorem f25 (h : CI I) (hc : K5 c) : wpc (d + 5) 25 [.ref (39 : Nat), .ref c] (mk n (scr I q) L x) Φ ↔ Φ (.inl (some (.int (phW I (I (c + 1)))))) (mk n (scr (upR I (c + 1) (phR I (I (c + 1)))) (phS I (I (c + 1)) q)) L x) := by
  show wp (d + 5) 25 0 [.ref (39 : Nat), .ref c, noV, noV] [] (mk n (scr I q) L x) Φ ↔ _
  have u5 : ∀ (J : Nat → Nat → Int32) q, scr J q (c + 1) = J (c + 1) := fun J q => scr_ne (n26 hc) (n27 hc)
  have o5 : ∀ (J : Nat → Nat → Int32) q g, upR (scr J q) (c + 1) g = scr (upR J (c + 1) g) q := fun J q g => scr_out (n26 hc) (n27 hc)
  unfold phR phW phS
  by_cases h0 : rng (I (c + 1)) (I (c + 1) 81) = 0
  · rw [h0, show wkI I (I (c + 1)) 0 = 0 from wkV_0 h.2.2.2, spd_0, wkn_0]
    rw [show wkS I (I (c + 1)) 0 q = q from by unfold wkS wkA; rw [if_pos rfl]]
    simp (config := {decide := true}) only [r25_0, r25_1, r25_2, r25_5, r25_8, r25_9, r25_10, r25_13, r25_14, r25_17, r25_18, r25_19, r25_20, r25_21, r25_22, r25_25, r25_26, r25_27, r25_28, r25_29, r25_32, r25_33, r25_36, r25_37, if_true, if_false, Nat.reduceAdd, Int32.reduceToNatClampNeg, lo_i, lo_r, lo_n, kont_v, kont_n, List.length_nil, List.length_cons, hc, c43 hc, c62 hc, c70 hc, u5, o5, h0]
  · simp (config := {decide := true}) only [r25_0, r25_1, r25_2, r25_5, r25_8, r25_9, r25_10, r25_13, r25_14, r25_17, r25_18, r25_19, r25_20, r25_21, r25_22, r25_25, r25_26, r25_27, r25_28, r25_29, r25_32, r25_33, r25_36, r25_37, if_true, if_false, Nat.reduceAdd, Int32.reduceToNatClampNeg, lo_i, lo_r, lo_n, kont_v, kont_n, List.length_nil, List.length_cons, hc, c43 hc, c62 hc, c70 hc, c69 hc, f24 h hc, u5, o5, h0, upR_same, upR_upR]
end Fine
