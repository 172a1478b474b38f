/-! A BOOK, read -/
def bkt0 (s : Nat → Nat) (m : Nat) : Int32 := foldN (fun k v => v ||| bt (s k)) m 0
def bkw0 (s : Nat → Nat) (b : Nat → Bool) (m : Nat) : Int32 := foldN (fun k v => v ||| (if b k then bt (s k) else 0)) m 0
def hasS (s : Nat → Nat) (m v : Nat) : Bool := (List.range m).any (fun k => s k == v)
def okB (S m : Nat) (s : Nat → Nat) : Prop := (∀ k, k < m → s k < S) ∧ ∀ k j, k < m → j < m → s k = s j → k = j
def rLn (B : Nat → Int32) (N S m : Nat) (s : Nat → Nat) (p : Nat) : RD (Nat × Nat) := match rNum B N 0 (nt S - 1) p with
  | .inr e => .inr e
  | .inl (v, p1) => if hasS s m v = true then .inr (2, skp B N p) else match rNum B N 0 1 p1 with
    | .inr e => .inr e
    | .inl (w, p2) => match rSig B N 59 p2 with
      | .inr e => .inr e
      | .inl (_, p3) => .inl ((v, w), p3)
def upN {α : Type} (s : Nat → α) (m : Nat) (v : α) : Nat → α := fun k => if k = m then v else s k
abbrev BS : Type := Nat × (Nat → Nat) × (Nat → Bool)
def rBk (B : Nat → Int32) (N S : Nat) : Nat → BS → Nat → RD BS
  | 0, σ, p => .inl (σ, p)
  | f + 1, σ, p => if cur B N (skp B N p) = -1 then .inl (σ, skp B N p) else match rLn B N S σ.1 σ.2.1 p with
    | .inr e => .inr e
    | .inl (u, p') => rBk B N S f (σ.1 + 1, upN σ.2.1 σ.1 u.1, upN σ.2.2 σ.1 (decide (u.2 = 1))) p'
theorem rNum_in {B : Nat → Int32} {N p V b : Nat} {lo hi : Int32} (h : rNum B N lo hi p = .inl (V, b)) : V < 1000 ∧ lo ≤ nt V ∧ nt V ≤ hi := by
  unfold rNum at h
  split at h
  · split at h
    · rename_i h1
      cases h
      exact h1
    · cases h
  · cases h
theorem rNum_lt {B : Nat → Int32} {N p V b S : Nat} (hS : S ≤ 600) (h : rNum B N 0 (nt S - 1) p = .inl (V, b)) : V < S := by
  obtain ⟨h1, h2, h3⟩ := rNum_in h
  by_cases h0 : S = 0
  · subst h0
    exact absurd (Int32.le_trans (nt_ge (k := V) (by omega)) h3) (by decide)
  · rw [nt_sub1 (by omega), nt_le (by omega) (by omega)] at h3
    omega
theorem rNum_1 {B : Nat → Int32} {N p V b H : Nat} (hH : H < 1000) (h : rNum B N 0 (nt H) p = .inl (V, b)) : V ≤ H := by
  obtain ⟨h1, h2, h3⟩ := rNum_in h
  rw [nt_le (by omega) (by omega)] at h3
  exact h3
theorem rLn_ok {B : Nat → Int32} {N S m p v w p' : Nat} {s : Nat → Nat} (hS : S ≤ 7) (h : rLn B N S m s p = .inl ((v, w), p')) : v < S ∧ w ≤ 1 ∧ hasS s m v = false := by
  unfold rLn at h
  split at h
  · cases h
  · rename_i v1 p1 h1
    split at h
    · cases h
    · rename_i h2
      split at h
      · cases h
      · rename_i w1 p2 h3
        split at h
        · cases h
        · cases h
          exact ⟨rNum_lt (by omega) h1, rNum_1 (H := 1) (by decide) h3, by simpa using h2⟩
theorem okB_up {S m v : Nat} {s : Nat → Nat} (h : okB S m s) (hv : v < S) (hs : hasS s m v = false) : okB S (m + 1) (upN s m v) := by
  have hne : ∀ k, k < m → s k ≠ v := by
    intro k hk e
    unfold hasS at hs
    rw [List.any_eq_false] at hs
    exact hs k (List.mem_range.mpr hk) (by simpa using e)
  refine ⟨fun k hk => ?_, fun k j hk hj e => ?_⟩
  · unfold upN
    split
    · exact hv
    · exact h.1 k (by omega)
  · unfold upN at e
    by_cases h1 : k = m <;> by_cases h2 : j = m
    · omega
    · rw [if_pos h1, if_neg h2] at e
      exact absurd e.symm (hne j (by omega))
    · rw [if_neg h1, if_pos h2] at e
      exact absurd e (hne k (by omega))
    · rw [if_neg h1, if_neg h2] at e
      exact h.2 k j (by omega) (by omega) e
theorem bkT_up {s : Nat → Nat} {m v : Nat} : bkt0 (upN s m v) (m + 1) = bkt0 s m ||| bt v := by
  unfold bkt0
  show foldN _ m 0 ||| bt (upN s m v m) = _
  rw [show upN s m v m = v from if_pos rfl]
  congr 1
  exact foldN_cong m (fun k b hk => by rw [show upN s m v k = s k from if_neg (by omega)])
theorem bkW_up {s : Nat → Nat} {b : Nat → Bool} {m v : Nat} {w : Bool} : bkw0 (upN s m v) (upN b m w) (m + 1) = bkw0 s b m ||| (if w then bt v else 0) := by
  unfold bkw0
  show foldN _ m 0 ||| (if upN b m w m then bt (upN s m v m) else 0) = _
  rw [show upN s m v m = v from if_pos rfl, show upN b m w m = w from if_pos rfl]
  congr 1
  exact foldN_cong m (fun k b hk => by rw [show upN s m v k = s k from if_neg (by omega), show upN _ m w k = _ from if_neg (by omega)])
theorem bc_le : ∀ p0 p1 p2 p3 p4 p5 p6 : Bool, ∃ k : Fin 8, bcI (wb (fun k => [p0, p1, p2, p3, p4, p5, p6].getD k false) 7) = nt k.1 := by decide +kernel
theorem okB_7 {S m : Nat} {s : Nat → Nat} (hS : S ≤ 7) (hm : m < 1000) (h : okB S m s) : m ≤ 7 := by
  obtain ⟨e1, e2⟩ := book_wb (s := s) (m := m) (fun k hk => by have := h.1 k hk; omega) h.2 m (Nat.le_refl m)
  rw [e1, wb_l7] at e2
  obtain ⟨k, hk⟩ := bc_le ((List.range m).any (fun k => s k == 0)) ((List.range m).any (fun k => s k == 1)) ((List.range m).any (fun k => s k == 2)) ((List.range m).any (fun k => s k == 3)) ((List.range m).any (fun k => s k == 4)) ((List.range m).any (fun k => s k == 5)) ((List.range m).any (fun k => s k == 6))
  rw [hk, nt_inj (by omega) (by omega)] at e2
  omega
theorem bk_bit {S m v : Nat} {s : Nat → Nat} (hS : S ≤ 7) (h : okB S m s) (hv : v < S) : (bkt0 s m >>> (nt v &&& 31) &&& 1 = 1) = (hasS s m v = true) := by
  unfold bkt0
  rw [(book_wb (s := s) (m := m) (fun k hk => by have := h.1 k hk; omega) h.2 m (Nat.le_refl m)).1, wb_bit (by omega)]
  unfold hasS
  cases (List.range m).any (fun k => s k == v) <;> decide
theorem sh_w : ∀ v, v < 7 → ∀ w, w < 2 → (nt w : Int32) <<< (nt v &&& 31) = if w = 1 then bt v else 0 := by decide
theorem wr2_raw {J : Nat → Nat → Int32} {r i j : Nat} {X Y : Int32} : wrI (wrI J r i X) r j Y = upR J r (upd (upd (J r) i X) j Y) := by simp only [wrI, upR_same, upR_upR]
section Ln
variable {B : Nat → Int32} {N S m p v w p1 p2 : Nat} {s : Nat → Nat} {e : Nat × Nat}
theorem rLn_1 (h : rNum B N 0 (nt S - 1) p = .inr e) : rLn B N S m s p = .inr e := by unfold rLn; rw [h]
theorem rLn_2 (h : rNum B N 0 (nt S - 1) p = .inl (v, p1)) (hh : hasS s m v = true) : rLn B N S m s p = .inr (2, skp B N p) := by unfold rLn; rw [h]; simp only [hh, if_true]
theorem rLn_3 (h : rNum B N 0 (nt S - 1) p = .inl (v, p1)) (hh : ¬ hasS s m v = true) (h2 : rNum B N 0 1 p1 = .inr e) : rLn B N S m s p = .inr e := by unfold rLn; rw [h]; simp only [if_neg hh]; rw [h2]
theorem rLn_4 (h : rNum B N 0 (nt S - 1) p = .inl (v, p1)) (hh : ¬ hasS s m v = true) (h2 : rNum B N 0 1 p1 = .inl (w, p2)) (h3 : ¬ cur B N (skp B N p2) = 59) : rLn B N S m s p = .inr (1, skp B N p2) := by unfold rLn; rw [h]; simp only [if_neg hh]; rw [h2]; simp only [rSig, if_neg h3]
theorem rLn_5 (h : rNum B N 0 (nt S - 1) p = .inl (v, p1)) (hh : ¬ hasS s m v = true) (h2 : rNum B N 0 1 p1 = .inl (w, p2)) (h3 : cur B N (skp B N p2) = 59) : rLn B N S m s p = .inl ((v, w), skp B N p2 + 1) := by unfold rLn; rw [h]; simp only [if_neg hh]; rw [h2]; simp only [rSig, if_pos h3]
end Ln
theorem rBk_ok {B : Nat → Int32} {N S : Nat} (hS : S ≤ 7) : ∀ f σ p σ' p', okB S σ.1 σ.2.1 → rBk B N S f σ p = .inl (σ', p') → okB S σ'.1 σ'.2.1 := by
  intro f
  induction f with
  | zero => intro σ p σ' p' h e; cases e; exact h
  | succ f ih =>
    intro σ p σ' p' h e
    unfold rBk at e
    split at e
    · cases e; exact h
    · split at e
      · cases e
      · rename_i u p1 hl
        obtain ⟨l1, l2, l3⟩ := rLn_ok (v := u.1) (w := u.2) hS hl
        exact ih _ _ _ _ (okB_up h l1 l3) e
section Bk
variable {d n x N S m : Nat} {B : Nat → Int32} {μ : PM} {Φ : POut → PM → Prop} {I J K : Nat → Nat → Int32} {L : Nat → Nat → Int64} {v w c p k f q lo hi : Int32} {g : Nat → Int32} {s : Nat → Nat} {b : Nat → Bool} {t : LSt} {a : Nat}
theorem hS1 (hS : S ≤ 7) : nt S - 1 ≤ (999 : Int32) := by
  have : ∀ S : Fin 8, nt S.1 - 1 ≤ (999 : Int32) := by decide
  exact this ⟨S, by omega⟩
theorem c12 (hT : TX I N) (hS : S ≤ 7) (hB : okB S m s) (h0 : I 38 0 = bkt0 s m) (h1 : I 38 1 = bkw0 s b m) (hJ : CT I J N (.inl a)) (hok : ∀ v w p', rLn (I 11) N S m s a = .inl ((v, w), p') → ∀ g K, g 0 = bkt0 (upN s m v) (m + 1) → g 1 = bkw0 (upN s m v) (upN b m (decide (w = 1))) (m + 1) → CT (upR I 38 g) K N (.inl p') → Φ (.inl none) (mk n K L x)) (hbad : ∀ e, rLn (I 11) N S m s a = .inr e → ∀ K, CT I K N (.inr e) → Φ (.inl none) (mk n K L x)) : wpc (d + 3) 12 [.ref (38 : Nat), .ref (10 : Nat), .int (nt S)] (mk n J L x) Φ := by
  show wp (d + 3) 12 0 [.ref (38 : Nat), .ref (10 : Nat), .int (nt S), noV, noV] [] (mk n J L x) Φ
  have k38 : K1 38 := Or.inr rfl
  have fin : ∀ e, rLn (I 11) N S m s a = .inr e → ∀ K, CT I K N (.inr e) → ∀ v3 v4, wp (d + 3) 12 46 [.ref (38 : Nat), .ref (10 : Nat), .int (nt S), .int v3, .int v4] [] (mk n K L x) Φ := by
    intro e he K hK v3 v4
    have e1 : ¬ flt (.inr e) = 0 := hK.1
    simp (config := {decide := true}) only [r12_46, r12_47, r12_50, r12_78, if_true, if_false, Nat.reduceAdd, Int32.reduceToNatClampNeg, lo_i, lo_r, lo_n, kont_v, kont_n, List.length_nil, List.length_cons, c95t hK, e1]
    exact hbad e he K hK
  have fin2 : ∀ e, rLn (I 11) N S m s a = .inr e → ∀ K, CT I K N (.inr e) → ∀ v3 v4, wp (d + 3) 12 40 [.ref (38 : Nat), .ref (10 : Nat), .int (nt S), .int v3, .int v4] [] (mk n K L x) Φ := by
    intro e he K hK v3 v4
    simp (config := {decide := true}) only [r12_40, r12_41, r12_43, if_true, if_false, Nat.reduceAdd, Int32.reduceToNatClampNeg, lo_i, lo_r, lo_n, kont_v, kont_n, List.length_nil, List.length_cons]
    exact c98 hT (by decide) hK (fun K2 hK2 => kont_n.mpr (fin e he K2 hK2 v3 v4))
  have fin3 : ∀ e, rLn (I 11) N S m s a = .inr e → ∀ K, CT I K N (.inr e) → ∀ v3 v4, NL v4 → wp (d + 3) 12 32 [.ref (38 : Nat), .ref (10 : Nat), .int (nt S), .int v3, v4] [] (mk n K L x) Φ := by
    intro e he K hK v3 v4 hv4
    simp (config := {decide := true}) only [r12_32, r12_33, r12_34, r12_35, if_true, if_false, Nat.reduceAdd, Int32.reduceToNatClampNeg, lo_i, lo_r, lo_n, kont_v, kont_n, List.length_nil, List.length_cons]
    refine c100f hT hK (by decide) (fun K2 hK2 => ?_)
    simp (config := {decide := true}) only [r12_38, if_true, if_false, Nat.reduceAdd, Int32.reduceToNatClampNeg, lo_i, lo_r, lo_n, kont_v, kont_n, List.length_nil, List.length_cons, hv4]
    exact fin2 e he K2 hK2 v3 0
  simp (config := {decide := true}) only [r12_0, r12_1, r12_2, r12_3, r12_4, r12_5, if_true, if_false, Nat.reduceAdd, Int32.reduceToNatClampNeg, lo_i, lo_r, lo_n, kont_v, kont_n, List.length_nil, List.length_cons]
  refine c100a hT hJ (hS1 hS) ?_ ?_
  · intro v p1 hn1 q hq hp1
    have hv : v < S := rNum_lt (by omega) hn1
    have hK1 : CT I (tS I (nt p1) (nt (skp (I 11) N a)) 0 q) N (.inl p1) := ct_ok hq hp1
    have e0 : flt (.inl p1) = 0 := rfl
    have t38 : tS I (nt p1) (nt (skp (I 11) N a)) 0 q 38 0 = bkt0 s m := by rw [tS_ne (by decide)]; exact h0
    have hb := bk_bit hS hB hv
    simp (config := {decide := true}) only [r12_8, r12_9, r12_10, r12_13, r12_16, r12_17, r12_20, r12_21, if_true, if_false, Nat.reduceAdd, Int32.reduceToNatClampNeg, lo_i, lo_r, lo_n, kont_v, kont_n, List.length_nil, List.length_cons, k38, c95t hK1, e0, t38, c184]
    by_cases hh : hasS s m v = true
    · have e1 : ¬ bi (bkt0 s m >>> (nt v &&& 31) &&& 1 = 1) = 0 := by rw [bi_eq0, hb]; exact fun z => z hh
      simp (config := {decide := true}) only [r12_24, r12_27, r12_28, r12_29, if_true, if_false, Nat.reduceAdd, Int32.reduceToNatClampNeg, lo_i, lo_r, lo_n, kont_v, kont_n, List.length_nil, List.length_cons, e1, c96]
      exact fin3 (2, skp (I 11) N a) (by unfold rLn; rw [hn1]; simp only [hh, if_true]) _ (ct_f (by decide) (by decide) hp1) _ _ lo_n
    · have e1 : bi (bkt0 s m >>> (nt v &&& 31) &&& 1 = 1) = 0 := by rw [bi_eq0, hb]; exact hh
      simp (config := {decide := true}) only [r12_24, r12_27, r12_28, r12_29, r12_32, r12_33, r12_34, r12_35, if_true, if_false, Nat.reduceAdd, Int32.reduceToNatClampNeg, lo_i, lo_r, lo_n, kont_v, kont_n, List.length_nil, List.length_cons, e1]
      refine c100a hT hK1 (by decide) ?_ ?_
      · intro w p2 hn2 q2 hq2 hp2
        have hw : w ≤ 1 := rNum_1 (H := 1) (by decide) hn2
        simp (config := {decide := true}) only [r12_38, r12_40, r12_41, r12_43, if_true, if_false, Nat.reduceAdd, Int32.reduceToNatClampNeg, lo_i, lo_r, lo_n, kont_v, kont_n, List.length_nil, List.length_cons]
        refine c98 hT (by decide) (ct_ok hq2 hp2) (fun K hK => ?_)
        by_cases hsg : cur (I 11) N (skp (I 11) N p2) = 59
        · simp only [lSig, if_pos hsg] at hK
          have hln : rLn (I 11) N S m s a = .inl ((v, w), skp (I 11) N p2 + 1) := by
            unfold rLn
            rw [hn1]
            simp only [if_neg hh]
            rw [hn2]
            simp only [rSig, if_pos hsg]
          obtain ⟨hb1, s1, q1, hq1, rfl⟩ := id hK
          have u38 : ∀ i, tS I (nt (skp (I 11) N p2 + 1)) s1 0 q1 38 i = I 38 i := fun i => by rw [tS_ne (by decide)]
          have ew := sh_w v (by omega) w (by omega)
          have e2 : flt (.inl (skp (I 11) N p2 + 1)) = 0 := rfl
          refine kont_n.mpr ?_
          have hgo := hok v w _ hln (upd (upd (I 38) 0 (bkt0 s m ||| bt v)) 1 (bkw0 s b m ||| (if w = 1 then bt v else 0))) _ (by rw [up_ne (by decide), up_same, bkT_up]) (by rw [up_same, bkW_up]; by_cases z : w = 1 <;> simp [z]) (CT_up hK (by decide))
          have u38' : ∀ X, wrI (tS I (nt (skp (I 11) N p2 + 1)) s1 0 q1) 38 0 X 38 1 = I 38 1 := fun X => by rw [wr_k (by decide)]; exact u38 1
          have ew1 : (1 : Int32) <<< (nt v &&& 31) = bt v := rfl
          simp (config := {decide := true}) only [r12_46, r12_47, r12_50, r12_53, r12_54, r12_55, r12_58, r12_59, r12_60, r12_61, r12_62, r12_65, r12_66, r12_67, r12_70, r12_72, r12_73, r12_74, r12_75, r12_78, if_true, if_false, Nat.reduceAdd, Int32.reduceToNatClampNeg, lo_i, lo_r, lo_n, kont_v, kont_n, List.length_nil, List.length_cons, k38, c95t hK, e2, u38, u38', h0, h1, ew, ew1]
          rw [wr2_raw, tS_ne (by decide)]
          exact hgo
        · simp only [lSig, if_neg hsg] at hK
          refine kont_n.mpr (fin _ ?_ K hK _ _)
          unfold rLn
          rw [hn1]
          simp only [if_neg hh]
          rw [hn2]
          simp only [rSig, if_neg hsg]
      · intro e he v4 K hK
        simp (config := {decide := true}) only [r12_38, if_true, if_false, Nat.reduceAdd, Int32.reduceToNatClampNeg, lo_i, lo_r, lo_n, kont_v, kont_n, List.length_nil, List.length_cons]
        refine fin2 e ?_ K hK _ _
        unfold rLn
        rw [hn1]
        simp only [if_neg hh]
        rw [he]
  · intro e he v3 K hK
    have e1 : ¬ flt (.inr e) = 0 := hK.1
    simp (config := {decide := true}) only [r12_8, r12_9, r12_10, r12_13, r12_16, if_true, if_false, Nat.reduceAdd, Int32.reduceToNatClampNeg, lo_i, lo_r, lo_n, kont_v, kont_n, List.length_nil, List.length_cons, c95t hK, e1]
    exact fin3 e (by unfold rLn; rw [he]) K hK v3 _ lo_n
theorem c8 {c : Nat} (hc : K1 c) : wpc d 8 [.ref c] (mk n I L x) Φ ↔ Φ (.inl none) (mk n (upR I c (upd (upd (I c) 0 0) 1 0)) L x) := by
  show wp d 8 0 [.ref c] [] (mk n I L x) Φ ↔ _
  simp (config := {decide := true}) only [r8_0, r8_1, r8_2, r8_5, r8_6, r8_7, r8_10, if_true, if_false, Nat.reduceAdd, Int32.reduceToNatClampNeg, lo_i, lo_r, lo_n, kont_v, kont_n, List.length_nil, List.length_cons, hc, wr2_raw]
theorem c11L (hT : TX I N) (hS : S ≤ 7) : ∀ f m s b a g J, m + f = 8 → okB S m s → g 0 = bkt0 s m → g 1 = bkw0 s b m → CT (upR I 38 g) J N (.inl a) → (∀ m' s' b' p', rBk (I 11) N S f (m, s, b) a = .inl ((m', s', b'), p') → ∀ g K, g 0 = bkt0 s' m' → g 1 = bkw0 s' b' m' → CT (upR I 38 g) K N (.inl p') → Φ (.inl none) (mk n K L x)) → (∀ e, rBk (I 11) N S f (m, s, b) a = .inr e → ∀ g K, CT (upR I 38 g) K N (.inr e) → Φ (.inl none) (mk n K L x)) → wp (d + 4) 11 6 [.ref (38 : Nat), .ref (10 : Nat), .int (nt S), .int (nt m)] [] (mk n J L x) Φ := by
  have k38 : K1 38 := Or.inr rfl
  intro f
  induction f with
  | zero =>
    intro m s b a g J hf hB
    have := okB_7 hS (by omega) hB
    omega
  | succ f ih =>
    intro m s b a g J hf hB g0 g1 hJ hok hbad
    unfold rBk at hok hbad
    have e1 : ¬ (7 < nt m) := by rw [show (7 : Int32) = nt 7 from rfl, nt_lt (by decide) (by omega)]; omega
    have hTg : TX (upR I 38 g) N := TX_up hT (by decide) (by decide)
    have h11 : upR I 38 g 11 = I 11 := upR_ne (by decide)
    obtain ⟨ha, s1, q, hq, rfl⟩ := id hJ
    have hc97 := fun Ψ => c97 (d := d + 3) (n := n) (L := L) (x := x) (s := s1) (q := q) (Φ := Ψ) hTg ha
    rw [h11] at hc97
    rw [r11_6]
    by_cases hend : cur (I 11) N (skp (I 11) N a) = -1
    · simp only [if_pos hend] at hok hbad
      simp (config := {decide := true}) only [r11_7, r11_9, r11_12, r11_13, r11_16, r11_17, r11_20, r11_21, r11_22, r11_23, r11_26, r11_29, r11_32, if_true, if_false, Nat.reduceAdd, Int32.reduceToNatClampNeg, lo_i, lo_r, lo_n, kont_v, kont_n, List.length_nil, List.length_cons, e1, hc97, hend]
      exact hok m s b _ rfl g _ g0 g1 (ct_ok hq (endF_le ha))
    · simp only [if_neg hend] at hok hbad
      simp (config := {decide := true}) only [r11_7, r11_9, r11_12, r11_13, r11_16, r11_17, r11_20, r11_21, r11_22, r11_23, if_true, if_false, Nat.reduceAdd, Int32.reduceToNatClampNeg, lo_i, lo_r, lo_n, kont_v, kont_n, List.length_nil, List.length_cons, e1, hc97, hend, k38]
      have hJ2 : CT (upR I 38 g) (tS (upR I 38 g) (nt (skp (I 11) N a)) (nt (skp (I 11) N a)) 0 q) N (.inl (skp (I 11) N a)) := ct_ok hq (endF_le ha)
      have hl : rLn (I 11) N S m s (skp (I 11) N a) = rLn (I 11) N S m s a := by unfold rLn rNum; rw [skp_skp]
      refine c12 hTg hS hB (by rw [upR_same]; exact g0) (by rw [upR_same]; exact g1) hJ2 ?_ ?_
      · intro v w p' hln g' K g0' g1' hK
        rw [h11, hl] at hln
        rw [upR_upR] at hK
        rw [hln] at hok hbad
        obtain ⟨l1, l2, l3⟩ := rLn_ok hS hln
        simp (config := {decide := true}) only [r11_26, r11_29, if_true, if_false, Nat.reduceAdd, Int32.reduceToNatClampNeg, lo_i, lo_r, lo_n, kont_v, kont_n, List.length_nil, List.length_cons, nt_succ]
        exact ih (m + 1) (upN s m v) (upN b m (decide (w = 1))) p' g' K (by omega) (okB_up hB l1 l3) g0' g1' hK hok hbad
      · intro e hln K hK
        rw [h11, hl] at hln
        rw [hln] at hbad
        simp (config := {decide := true}) only [r11_26, r11_29, if_true, if_false, Nat.reduceAdd, Int32.reduceToNatClampNeg, lo_i, lo_r, lo_n, kont_v, kont_n, List.length_nil, List.length_cons, nt_succ]
        rw [r11_6]
        obtain ⟨h0, h1, a1, s2, ha1, rfl⟩ := id hK
        by_cases e2 : 7 < nt (m + 1)
        · simp (config := {decide := true}) only [r11_7, r11_9, r11_12, r11_13, r11_16, r11_17, r11_20, r11_21, r11_22, r11_23, r11_26, r11_29, r11_32, if_true, if_false, Nat.reduceAdd, Int32.reduceToNatClampNeg, lo_i, lo_r, lo_n, kont_v, kont_n, List.length_nil, List.length_cons, e2]
          exact hbad e rfl g _ hK
        · simp (config := {decide := true}) only [r11_7, r11_9, r11_12, r11_13, r11_16, r11_17, r11_20, r11_21, r11_22, r11_23, r11_26, r11_29, r11_32, if_true, if_false, Nat.reduceAdd, Int32.reduceToNatClampNeg, lo_i, lo_r, lo_n, kont_v, kont_n, List.length_nil, List.length_cons, e2, c97f (kf h0 h1)]
          exact hbad e rfl g _ hK
theorem c11 (hT : TX I N) (hS : S ≤ 7) (hJ : CT I J N (.inl a)) {σ : (Nat → Nat) × (Nat → Bool)} (hok : ∀ m' s' b' p', rBk (I 11) N S 8 (0, σ) a = .inl ((m', s', b'), p') → ∀ g K, g 0 = bkt0 s' m' → g 1 = bkw0 s' b' m' → CT (upR I 38 g) K N (.inl p') → Φ (.inl none) (mk n K L x)) (hbad : ∀ e, rBk (I 11) N S 8 (0, σ) a = .inr e → ∀ g K, CT (upR I 38 g) K N (.inr e) → Φ (.inl none) (mk n K L x)) : wpc (d + 4) 11 [.ref (38 : Nat), .ref (10 : Nat), .int (nt S)] (mk n J L x) Φ := by
  show wp (d + 4) 11 0 [.ref (38 : Nat), .ref (10 : Nat), .int (nt S), noV] [] (mk n J L x) Φ
  have k38 : K1 38 := Or.inr rfl
  simp (config := {decide := true}) only [r11_0, r11_1, r11_4, r11_5, if_true, if_false, Nat.reduceAdd, Int32.reduceToNatClampNeg, lo_i, lo_r, lo_n, kont_v, kont_n, List.length_nil, List.length_cons, c8 k38, k38]
  have e38 : J 38 = I 38 := CT_ne hJ (by decide)
  rw [e38]
  exact c11L hT hS 8 0 σ.1 σ.2 a (upd (upd (I 38) 0 0) 1 0) _ rfl ⟨fun k hk => absurd hk (by omega), fun k j hk => absurd hk (by omega)⟩ rfl rfl (CT_up (r := 38) hJ (by decide)) hok hbad
end Bk

