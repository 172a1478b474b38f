/-! BITS -/
def wb (c : Nat → Bool) : Nat → Int32 := fun m => foldN (fun k b => b ||| (if c k then bt k else 0)) m 0
theorem wb_t : ∀ p0 p1 p2 p3 p4 p5 p6 : Bool, (∀ k, k < 7 → wb (fun k => [p0, p1, p2, p3, p4, p5, p6].getD k false) 7 >>> (nt k &&& 31) &&& 1 = if [p0, p1, p2, p3, p4, p5, p6].getD k false then 1 else 0) ∧ bcI (wb (fun k => [p0, p1, p2, p3, p4, p5, p6].getD k false) 7) = one7 (wb (fun k => [p0, p1, p2, p3, p4, p5, p6].getD k false) 7) := by decide +kernel
theorem wb_cong {c e : Nat → Bool} {m : Nat} (h : ∀ k, k < m → c k = e k) : wb c m = wb e m := foldN_cong m (fun k b hk => by rw [h k hk])
theorem wb_list (c : Nat → Bool) : ∀ k, k < 7 → [c 0, c 1, c 2, c 3, c 4, c 5, c 6].getD k false = c k
  | 0, _ => rfl
  | 1, _ => rfl
  | 2, _ => rfl
  | 3, _ => rfl
  | 4, _ => rfl
  | 5, _ => rfl
  | 6, _ => rfl
theorem wb_bit {c : Nat → Bool} {k : Nat} (h : k < 7) : wb c 7 >>> (nt k &&& 31) &&& 1 = if c k then 1 else 0 := by
  have e := (wb_t (c 0) (c 1) (c 2) (c 3) (c 4) (c 5) (c 6)).1 k h
  rw [wb_cong (wb_list c), wb_list c k h] at e
  exact e
theorem wb_cnt (c : Nat → Bool) : bcI (wb c 7) = one7 (wb c 7) := by
  have e := (wb_t (c 0) (c 1) (c 2) (c 3) (c 4) (c 5) (c 6)).2
  rw [wb_cong (wb_list c)] at e
  exact e
theorem wb_cut {c : Nat → Bool} {m : Nat} (hm : m ≤ 7) : wb c m = wb (fun k => decide (k < m) && c k) 7 := by
  unfold wb
  rw [foldN_cut (m := m) 7 hm (fun k h1 h2 b => by simp [Nat.not_lt.mpr h1])]
  exact foldN_cong m (fun k b hk => by simp [hk])
theorem or_ite {p : Prop} [Decidable p] {b v : Int32} : (if p then b ||| v else b) = b ||| (if decide p then v else 0) := by
  by_cases h : p <;> simp [h]
theorem rng_wb (f : Nat → Int32) (h : Int32) : rng f h = wb (fun k => decide (f (6 + k) = h ∧ ¬ f k ≤ 0)) 6 := by
  rw [rng_eq]
  exact foldN_cong 6 (fun k b _ => by rw [← ib])
theorem rng_bit {f : Nat → Int32} {h : Int32} {k : Nat} (hk : k < 6) : rng f h >>> (nt k &&& 31) &&& 1 = if f (6 + k) = h ∧ ¬ f k ≤ 0 then 1 else 0 := by
  rw [rng_wb, wb_cut (by decide), wb_bit (by omega), ib (p := f (6 + k) = h ∧ ¬ f k ≤ 0)]
  simp [hk]
def wkc (I : Nat → Nat → Int32) (f : Nat → Int32) (clocks : Int32) (k : Nat) : Bool := decide (k < sI I) && decide (f (60 + k) = -1 ∧ I 13 k ≤ hdJ I f k clocks)
theorem wk_wb {I : Nat → Nat → Int32} {f : Nat → Int32} {clocks : Int32} (h : sI I ≤ 7) : wkI I f clocks = wb (wkc I f clocks) 7 := by
  rw [show wb (wkc I f clocks) 7 = wb (fun k => decide (f (60 + k) = -1 ∧ I 13 k ≤ hdJ I f k clocks)) (sI I) from (wb_cut h).symm]
  unfold wkI wkV wb
  refine foldN_cong _ (fun k b hk => ?_)
  show (if f (60 + k) = -1 then (if I 13 k ≤ hdJ I f k clocks then b ||| bt k else b) else b) = _
  rw [← or_ite]
  by_cases h1 : f (60 + k) = -1 <;> by_cases h2 : I 13 k ≤ hdJ I f k clocks <;> simp [h1, h2]
theorem wk_bit {I : Nat → Nat → Int32} {f : Nat → Int32} {clocks : Int32} {k : Nat} (h : sI I ≤ 7) (hk : k < 7) : wkI I f clocks >>> (nt k &&& 31) &&& 1 = if wkc I f clocks k then 1 else 0 := by rw [wk_wb h, wb_bit hk]
theorem wk_cnt {I : Nat → Nat → Int32} {f : Nat → Int32} {clocks : Int32} (h : sI I ≤ 7) : bcI (wkI I f clocks) = one7 (wkI I f clocks) := by rw [wk_wb h, wb_cnt]
theorem wk_hi {I : Nat → Nat → Int32} {f : Nat → Int32} {clocks : Int32} {k : Nat} (hk : sI I ≤ k) : wkc I f clocks k = false := by
  unfold wkc
  simp [Nat.not_lt.mpr hk]
theorem fold_add {b : Nat → Int32} (w : Int32) : ∀ n, foldN (fun k t => t + b k) n w = w + foldN (fun k t => t + b k) n 0
  | 0 => (Int32.add_zero w).symm
  | n + 1 => by
    show foldN (fun k t => t + b k) n w + b n = w + (foldN (fun k t => t + b k) n 0 + b n)
    rw [fold_add w n, Int32.add_assoc]
theorem slp_at (f : Nat → Int32) (j : Nat) : slp f j = if 60 ≤ j ∧ j < 67 then -1 else f j := by
  have key : ∀ n, foldN (fun s g => upd g (60 + s) (-1)) n f j = if 60 ≤ j ∧ j < 60 + n then -1 else f j := by
    intro n
    induction n with
    | zero => rw [if_neg (by omega)]; rfl
    | succ n ih =>
      show upd (foldN _ n f) (60 + n) (-1) j = _
      by_cases h : j = 60 + n
      · rw [h, up_same, if_pos (by omega)]
      · rw [up_ne h, ih]
        by_cases h2 : 60 ≤ j ∧ j < 60 + n
        · rw [if_pos h2, if_pos (by omega)]
        · rw [if_neg h2, if_neg (by omega)]
  exact key 7
/-! AN HOUR OF THE REFERENCE -/
def hm (I : Nat → Nat → Int32) (r : Nat) (g : Nat → Int32) (w : Int32) (F : Nat → Int32) : Nat → Nat → Int32 := upR (upR (wrI I 70 38 w) 536 F) r (vc g)
section Hm
variable {I : Nat → Nat → Int32} {r : Nat} {g g' : Nat → Int32} {w w' : Int32} {F F' : Nat → Int32}
theorem nR5 (hr : KR r) : r ≠ 536 ∧ r ≠ 70 ∧ r ≠ 74 := by rcases hr with rfl | rfl <;> decide
theorem hm_r : hm I r g w F r = vc g := upR_same _ _ _
theorem hm_ur : upR (hm I r g w F) r (vc g') = hm I r g' w F := upR_upR _ _ _ _
theorem hm_F (hr : KR r) : hm I r g w F 536 = F := by
  unfold hm
  rw [upR_ne (Ne.symm (nR5 hr).1), upR_same]
theorem hm_uF (hr : KR r) : upR (hm I r g w F) 536 F' = hm I r g w F' := by
  unfold hm
  rw [upR_comm (nR5 hr).1, upR_upR]
theorem hm_w (hr : KR r) : hm I r g w F 70 38 = w := by
  unfold hm
  rw [upR_ne (Ne.symm (nR5 hr).2.1), upR_ne (by decide)]
  unfold wrI
  rw [upR_same, up_same]
theorem hm_uw (hr : KR r) : wrI (hm I r g w F) 70 38 w' = hm I r g w' F := by
  show upR _ 70 (upd (hm I r g w F 70) 38 w') = _
  have e : hm I r g w F 70 = upd (I 70) 38 w := by
    unfold hm
    rw [upR_ne (Ne.symm (nR5 hr).2.1), upR_ne (by decide)]
    exact upR_same _ _ _
  rw [e]
  unfold hm wrI
  rw [upR_comm (nR5 hr).2.1, upR_comm (show (536 : Nat) ≠ 70 by decide), upR_upR]
  congr 3
  funext j
  unfold upd
  split <;> rfl
theorem hm_ne {a : Nat} (h1 : a ≠ r) (h2 : a ≠ 536) (h3 : a ≠ 70) : hm I r g w F a = I a := by
  unfold hm
  rw [upR_ne h1, upR_ne h2, wrI_ne h3]
theorem hm_self : hm I r g w F = hm I r g w F := rfl
end Hm
def hsp (I : Nat → Nat → Int32) (f : Nat → Int32) : Nat → Int32 := spd (rng f (f 81)) f
def hwk (I : Nat → Nat → Int32) (f : Nat → Int32) : Nat → Int32 := wkn (phW I f) (hsp I f)
/-- who was first, counted -/
def hfF (I : Nat → Nat → Int32) (f F : Nat → Int32) : Nat → Int32 := if 23 ≤ f 81 then (if ldr (hwk I f) = -1 then F else stv 7 F (ldr (hwk I f)) (atv 7 F (ldr (hwk I f)) + 1)) else F
def heM (I : Nat → Nat → Int32) (r : Nat) (f : Nat → Int32) : Nat → Nat → Int32 := hm I r (phR I f) (I 70 38 + one7 (phW I f)) (hfF I f (I 536))
theorem spd_at (v : Int32) (f : Nat → Int32) (j : Nat) (h : 6 ≤ j) : spd v f j = f j := by
  have key : ∀ n, n ≤ 6 → foldN (fun k g => upd g k (g k - (v >>> (nt k &&& 31) &&& 1))) n f j = f j := by
    intro n
    induction n with
    | zero => intro _; rfl
    | succ n ih =>
      intro hn
      show upd (foldN _ n f) n _ j = _
      rw [up_ne (by omega), ih (by omega)]
  exact key 6 (Nat.le_refl _)
theorem wkn_at (v : Int32) (f : Nat → Int32) (j : Nat) (h : j < 60 ∨ 67 ≤ j) : wkn v f j = f j := by
  have key : ∀ n, n ≤ 7 → foldN (fun s g => if v >>> (nt s &&& 31) &&& 1 = 1 then upd g (60 + s) (g 81) else g) n f j = f j := by
    intro n
    induction n with
    | zero => intro _; rfl
    | succ n ih =>
      intro hn
      show (if v >>> (nt n &&& 31) &&& 1 = 1 then upd (foldN _ n f) (60 + n) _ else foldN _ n f) j = _
      split
      · rw [up_ne (by omega), ih (by omega)]
      · exact ih (by omega)
  exact key 7 (Nat.le_refl _)
theorem ldr_up (g : Nat → Int32) (v : Int32) (i : Nat) (h : i < 60 ∨ 67 ≤ i) : ldr (upd g i v) = ldr g := by
  unfold ldr
  rw [foldN_cong (g := ldF g) 7 (fun k b hk => by unfold ldF; rw [up_ne (by omega)])]
theorem ldr_rng (f : Nat → Int32) : ldr f = -1 ∨ ∃ j, j < 7 ∧ ldr f = nt j ∧ f (60 + j) ≠ -1 := by
  have key : ∀ n, n ≤ 7 → (foldN (ldF f) n (-1, 24)).1 = -1 ∨ ∃ j, j < n ∧ (foldN (ldF f) n (-1, 24)).1 = nt j ∧ f (60 + j) ≠ -1 := by
    intro n
    induction n with
    | zero => intro _; exact Or.inl rfl
    | succ n ih =>
      intro hn
      have e : foldN (ldF f) (n + 1) (-1, 24) = ldF f n (foldN (ldF f) n (-1, 24)) := rfl
      rw [e]
      have ih' : (foldN (ldF f) n (-1, 24)).1 = -1 ∨ ∃ j, j < n + 1 ∧ (foldN (ldF f) n (-1, 24)).1 = nt j ∧ f (60 + j) ≠ -1 := (ih (by omega)).imp id (fun ⟨j, a, b⟩ => ⟨j, by omega, b⟩)
      generalize foldN (ldF f) n (-1, 24) = q at ih' ⊢
      unfold ldF
      split
      · exact ih'
      · rename_i h1
        split
        · exact ih'
        · exact Or.inr ⟨n, by omega, rfl, h1⟩
  exact key 7 (Nat.le_refl _)

theorem int_nt {a : Int32} (h : 0 ≤ a) : a = nt a.toNatClampNeg ∧ a.toNatClampNeg < 2147483648 := by
  have h1 := Int32.le_iff_toInt_le.mp h
  have h2 : (0 : Int32).toInt = 0 := rfl
  have h3 := Int32.toInt_lt a
  have h4 : a.toNatClampNeg = a.toInt.toNat := rfl
  have h5 : a.toNatClampNeg < 2147483648 := by omega
  refine ⟨?_, h5⟩
  rw [← Int32.toInt_inj, nt_toInt h5, h4]
  omega
theorem le_of24 {a : Int32} (h : a < 24) : a ≤ 23 := by
  rw [Int32.lt_iff_toInt_lt] at h
  rw [Int32.le_iff_toInt_le]
  have h1 : (24 : Int32).toInt = 24 := rfl
  have h2 : (23 : Int32).toInt = 23 := rfl
  omega
theorem le_pred24 {a : Int32} (h : 0 ≤ a ∧ a < 24) (h2 : 24 ≤ a + 1) : 23 ≤ a := by
  obtain ⟨e, h3⟩ := int_nt h.1
  rw [e] at h h2 ⊢
  rw [nt_succ] at h2
  have h4 : a.toNatClampNeg < 24 := by
    have := h.2
    rw [show (24 : Int32) = nt 24 from rfl, nt_lt h3 (by decide)] at this
    exact this
  rw [show (24 : Int32) = nt 24 from rfl, nt_le (by decide) (by omega)] at h2
  rw [show (23 : Int32) = nt 23 from rfl, nt_le (by decide) (by omega)]
  omega
theorem spd_lo {v : Int32} {f : Nat → Int32} {k : Nat} (hk : k < 6) : spd v f k = f k - (v >>> (nt k &&& 31) &&& 1) := by
  have key : ∀ n, foldN (fun k g => upd g k (g k - (v >>> (nt k &&& 31) &&& 1))) n f k = if k < n then f k - (v >>> (nt k &&& 31) &&& 1) else f k := by
    intro n
    induction n with
    | zero => rfl
    | succ n ih =>
      show upd (foldN _ n f) n _ k = _
      by_cases h : k = n
      · subst h
        rw [up_same, ih, if_neg (by omega), if_pos (by omega)]
      · rw [up_ne h, ih]
        by_cases h2 : k < n
        · rw [if_pos h2, if_pos (by omega)]
        · rw [if_neg h2, if_neg (by omega)]
  rw [show spd v f = foldN (fun k g => upd g k (g k - (v >>> (nt k &&& 31) &&& 1))) 6 f from rfl, key, if_pos hk]
theorem wkn_lo {v : Int32} {f : Nat → Int32} {s : Nat} (hs : s < 7) : wkn v f (60 + s) = if v >>> (nt s &&& 31) &&& 1 = 1 then f 81 else f (60 + s) := by
  have key : ∀ n, foldN (fun s g => if v >>> (nt s &&& 31) &&& 1 = 1 then upd g (60 + s) (g 81) else g) n f (60 + s) = if s < n ∧ v >>> (nt s &&& 31) &&& 1 = 1 then f 81 else f (60 + s) := by
    have h81 : ∀ n, n ≤ 7 → foldN (fun s g => if v >>> (nt s &&& 31) &&& 1 = 1 then upd g (60 + s) (g 81) else g) n f 81 = f 81 := by
      intro n
      induction n with
      | zero => intro _; rfl
      | succ n ih =>
        intro hn
        show (if v >>> (nt n &&& 31) &&& 1 = 1 then upd (foldN _ n f) (60 + n) _ else foldN _ n f) 81 = _
        split
        · rw [up_ne (by omega), ih (by omega)]
        · exact ih (by omega)
    intro n
    induction n with
    | zero => exact (if_neg (fun e => Nat.not_lt_zero s e.1)).symm
    | succ n ih =>
      show (if v >>> (nt n &&& 31) &&& 1 = 1 then upd (foldN _ n f) (60 + n) (foldN _ n f 81) else foldN _ n f) (60 + s) = _
      by_cases h : s = n
      · subst h
        by_cases hb : v >>> (nt s &&& 31) &&& 1 = 1
        · rw [if_pos hb, up_same, h81 s (by omega), if_pos ⟨by omega, hb⟩]
        · rw [if_neg hb, ih, if_neg (fun e => hb e.2), if_neg (fun e => hb e.2)]
      · have e2 : (if v >>> (nt n &&& 31) &&& 1 = 1 then upd (foldN (fun s g => if v >>> (nt s &&& 31) &&& 1 = 1 then upd g (60 + s) (g 81) else g) n f) (60 + n) (foldN (fun s g => if v >>> (nt s &&& 31) &&& 1 = 1 then upd g (60 + s) (g 81) else g) n f 81) else foldN (fun s g => if v >>> (nt s &&& 31) &&& 1 = 1 then upd g (60 + s) (g 81) else g) n f) (60 + s) = foldN (fun s g => if v >>> (nt s &&& 31) &&& 1 = 1 then upd g (60 + s) (g 81) else g) n f (60 + s) := by
          split
          · exact up_ne (by omega)
          · rfl
        rw [e2, ih]
        by_cases hc : s < n ∧ v >>> (nt s &&& 31) &&& 1 = 1
        · rw [if_pos hc, if_pos ⟨by omega, hc.2⟩]
        · rw [if_neg hc, if_neg (fun e => hc ⟨by omega, e.2⟩)]
  rw [show wkn v f = foldN (fun s g => if v >>> (nt s &&& 31) &&& 1 = 1 then upd g (60 + s) (g 81) else g) 7 f from rfl, key]
  by_cases hb : v >>> (nt s &&& 31) &&& 1 = 1
  · rw [if_pos ⟨hs, hb⟩, if_pos hb]
  · rw [if_neg (fun e => hb e.2), if_neg hb]
theorem sub1_20 {a : Int32} (h : 0 ≤ a ∧ a ≤ 20) (hp : ¬ a ≤ 0) : 0 ≤ a - 1 ∧ a - 1 ≤ 20 := by
  obtain ⟨e, h3⟩ := int_nt h.1
  rw [e] at h hp ⊢
  have h4 : ¬ a.toNatClampNeg ≤ 0 := by
    intro h5
    apply hp
    rw [show (0 : Int32) = nt 0 from rfl, nt_le h3 (by decide)]
    exact h5
  have h6 : a.toNatClampNeg ≤ 20 := by
    have := h.2
    rw [show (20 : Int32) = nt 20 from rfl, nt_le h3 (by decide)] at this
    exact this
  rw [nt_sub1 (by omega)]
  refine ⟨nt_ge (by omega), ?_⟩
  rw [show (20 : Int32) = nt 20 from rfl, nt_le (by omega) (by decide)]
  omega
theorem ro_hwk {I : Nat → Nat → Int32} {f : Nat → Int32} (h7 : sI I ≤ 7) (ho : RO I f) : RO I (hwk I f) := by
  obtain ⟨o1, o2, o3, o4, o5, o6, o7⟩ := ho
  have hh : f 81 ≠ -1 := fun e => absurd (e ▸ o4.1) (by decide)
  have lo : ∀ k, k < 6 → hwk I f k = f k - (if f (6 + k) = f 81 ∧ ¬ f k ≤ 0 then 1 else 0) := fun k hk => by
    unfold hwk hsp
    rw [wkn_at _ _ _ (Or.inl (by omega)), spd_lo hk, rng_bit hk]
  have mid : ∀ j, 6 ≤ j → (j < 60 ∨ 67 ≤ j) → hwk I f j = f j := fun j h1 h2 => by
    unfold hwk hsp
    rw [wkn_at _ _ _ h2, spd_at _ _ _ h1]
  have hi : ∀ s, s < 7 → hwk I f (60 + s) = if wkc I f (rng f (f 81)) s then f 81 else f (60 + s) := fun s hs => by
    unfold hwk hsp phW
    rw [wkn_lo hs, spd_at _ _ _ (by omega), spd_at _ _ _ (by omega), wk_bit h7 hs]
    cases wkc I f (rng f (f 81)) s <;> rfl
  refine ⟨fun c h1 h2 => ⟨?_, ?_, ?_⟩, fun s h1 h2 => ⟨?_, ?_⟩, fun s hs => ?_, ?_, fun c hc => ?_, fun c hc => ?_, fun c hc => ?_⟩
  · rw [lo c h2, if_neg (fun e => hh (e.1.symm.trans (o1 c h1 h2).2.1)), (o1 c h1 h2).1]
    rfl
  · rw [mid _ (by omega) (Or.inl (by omega))]; exact (o1 c h1 h2).2.1
  · rw [mid _ (by omega) (Or.inl (by omega))]; exact (o1 c h1 h2).2.2
  · rw [hi s h2, wk_hi h1]
    exact (o2 s h1 h2).1
  · rw [mid _ (by omega) (Or.inr (by omega))]; exact (o2 s h1 h2).2
  · rw [hi s hs]
    split
    · exact Or.inr o4
    · exact o3 s hs
  · rw [mid _ (by omega) (Or.inr (by omega))]; exact o4
  · rw [mid _ (by omega) (Or.inl (by omega))]; exact o5 c hc
  · rw [lo c hc]
    split
    · rename_i e
      exact sub1_20 (o6 c hc) e.2
    · rw [Int32.sub_zero]; exact o6 c hc
  · rw [mid _ (by omega) (Or.inl (by omega))]; exact o7 c hc
section Mh2
variable {d n x r : Nat} {Φ : POut → PM → Prop} {I : Nat → Nat → Int32} {L : Nat → Nat → Int64} {f : Nat → Int32} {p : Scr}
theorem m246 (hM : MI I) (hr : KR r) (ho : RO I f) (hf : I r = vc f) : wpc (d + 7) 246 [.ref (70 : Nat), .ref r] (mk n (scm I p) L x) Φ ↔ Φ (.inl none) (mk n (scm (heM I r f) (mwS I f (rng f (f 81)) p)) L x) := by
  have hr' := hr
  rcases hr' with rfl | rfl
  · skip
    have hC := hM.1
    have h6 := hC.2.1.2
    have h7 := hC.2.2.1.2
    have u74 : ∀ g w F q, scm (hm I 534 g w F) q 74 = I 74 := fun _ _ _ _ => rfl
    have ur : ∀ g w F q, scm (hm I 534 g w F) q 534 = vc g := fun g w F q => (scm_ne (by decide) (by decide)).trans hm_r
    have uF : ∀ g w F q, scm (hm I 534 g w F) q 536 = F := fun g w F q => (scm_ne (by decide) (by decide)).trans (hm_F hr)
    have uw : ∀ g w F q, scm (hm I 534 g w F) q 70 38 = w := fun g w F q => by rw [scm_ne (by decide) (by decide)]; exact hm_w hr
    have wr : ∀ g w F q g', upR (scm (hm I 534 g w F) q) 534 (vc g') = scm (hm I 534 g' w F) q := fun g w F q g' => by rw [scm_out (by decide) (by decide), hm_ur]
    have wF : ∀ g w F q F', upR (scm (hm I 534 g w F) q) 536 F' = scm (hm I 534 g w F') q := fun g w F q g' => by rw [scm_out (by decide) (by decide), hm_uF hr]
    have ww : ∀ g w F q w', wrI (scm (hm I 534 g w F) q) 70 38 w' = scm (hm I 534 g w' F) q := fun g w F q g' => by rw [scm_wr (by decide) (by decide), hm_uw hr]
    have wrR : ∀ g w F q i v, wrI (scm (hm I 534 g w F) q) 534 i v = upR (scm (hm I 534 g w F) q) 534 (upd (vc g) i v) := fun g w F q i v => by rw [wr_raw, ur]
    have wrF : ∀ g w F q i v, wrI (scm (hm I 534 g w F) q) 536 i v = scm (hm I 534 g w (upd F i v)) q := fun g w F q i v => by rw [wr_raw, uF, wF]
    have hh : f 81 ≠ -1 := fun e => absurd (e ▸ ho.2.2.2.1.1) (by decide)
    have sR : sh0 n 534 = (20, 84, []) := shR hr
    have c244 : ∀ (d : Nat) (Ψ : POut → PM → Prop) p, wpc d 244 [.ref (70 : Nat), .ref (534 : Nat), .int (f 81)] (mk n (scm I p) L x) Ψ ↔ Ψ (.inl (some (.int (rng f (f 81))))) (mk n (scm I p) L x) := fun d Ψ p => m244 (I := scm I p) hr hM.2.1.2 h6 ho ((scm_ne (by decide) (by decide)).trans hf) hh
    have ur0 : ∀ q, scm I q 534 = vc f := fun q => (scm_ne (by decide) (by decide)).trans hf
    have i0 : I = hm I 534 f (I 70 38) (I 536) := by
      unfold hm wrI
      rw [up_self, upR_self, upR_self, ← hf, upR_self]
    have t0 : I 74 0 = nt (sI I) := hM.2.1.1
    have t1 : I 74 1 = nt (cI I) := hM.2.1.2
    show wp (d + 7) 246 0 [.ref (70 : Nat), .ref (534 : Nat), noV, noV, noV, noV] [] (mk n (scm I p) L x) Φ ↔ _
    simp (config := {decide := true}) only [r246_0, r246_1, r246_2, r246_3, r246_5, r246_6, r246_9, r246_10, r246_11, r246_12, r246_13, r246_16, r246_17, r246_18, if_true, if_false, Nat.reduceAdd, Int32.reduceToNatClampNeg, lo_i, lo_r, lo_n, kont_v, kont_n, List.length_nil, List.length_cons, ur0, sR, vc_82, c244, m242 hM hr ho hf]
    rw [show wkI I f (rng f (f 81)) = phW I f from rfl]
    have loop1 : wp (d + 7) 246 20 [.ref (70 : Nat), .ref (534 : Nat), .int (rng f (f 81)), .int (phW I f), .int (nt 0), noV] [] (mk n (scm (hm I 534 f (I 70 38) (I 536)) (mwS I f (rng f (f 81)) p)) L x) Φ ↔ wp (d + 7) 246 61 [.ref (70 : Nat), .ref (534 : Nat), .int (rng f (f 81)), .int (phW I f), .int (nt (cI I)), noV] [] (mk n (scm (hm I 534 (hsp I f) (I 70 38) (I 536)) (mwS I f (rng f (f 81)) p)) L x) Φ := by
      have hcut : hsp I f = foldN (fun k g => upd g k (g k - (rng f (f 81) >>> (nt k &&& 31) &&& 1))) (cI I) f := by
        unfold hsp spd
        refine foldN_cut 6 h6 (fun k h1 h2 b => ?_)
        rw [rng_bit h2, if_neg (fun e => hh (e.1.symm.trans (ho.1 k h1 h2).2.1)), Int32.sub_zero, up_self]
      rw [hcut]
      refine loopN (P := fun k g => wp (d + 7) 246 20 [.ref (70 : Nat), .ref (534 : Nat), .int (rng f (f 81)), .int (phW I f), .int (nt k), noV] [] (mk n (scm (hm I 534 g (I 70 38) (I 536)) (mwS I f (rng f (f 81)) p)) L x) Φ) (Q := fun g => wp (d + 7) 246 61 [.ref (70 : Nat), .ref (534 : Nat), .int (rng f (f 81)), .int (phW I f), .int (nt (cI I)), noV] [] (mk n (scm (hm I 534 g (I 70 38) (I 536)) (mwS I f (rng f (f 81)) p)) L x) Φ) (n := cI I) ?_ ?_ f
      · intro k g hk
        have e1 : ¬ (nt (cI I) ≤ nt k) := nt_nle hk (by omega)
        have e2 : ((21 : Int32) + nt k).toNatClampNeg = 21 + k := ixc 21 k (by omega)
        have e3 : (0 : Int32) ≤ 21 + nt k := ixg 21 k (by omega)
        have e4 : 21 + k < 84 := by omega
        have e5 : vc g (21 + k) = g k := vc_hi (by omega)
        have e6 : ∀ v, upd (vc g) (21 + k) v = vc (upd g k v) := fun v => vup_hi (by omega)
        have e7 := rng_bit (f := f) (h := f 81) (k := k) (by omega)
        rw [r246_20]
        by_cases hb : f (6 + k) = f 81 ∧ ¬ f k ≤ 0
        · rw [if_pos hb] at e7
          simp (config := {decide := true}) only [r246_22, r246_23, r246_26, r246_27, r246_28, r246_31, r246_32, r246_34, r246_36, r246_37, r246_38, r246_39, r246_40, r246_42, r246_45, r246_48, r246_49, r246_52, r246_53, r246_54, r246_55, r246_58, if_true, if_false, Nat.reduceAdd, Int32.reduceToNatClampNeg, lo_i, lo_r, lo_n, kont_v, kont_n, List.length_nil, List.length_cons, u74, t1, s74, e1, ur, sR, e2, e3, e4, e5, m197, e7, bi_eq0, not_true, nt_succ, wrR, e6, wr]
        · rw [if_neg hb] at e7
          simp (config := {decide := true}) only [r246_22, r246_23, r246_26, r246_27, r246_28, r246_31, r246_32, r246_34, r246_36, r246_37, r246_38, r246_39, r246_40, r246_42, r246_45, r246_48, r246_49, r246_52, r246_53, r246_54, r246_55, r246_58, if_true, if_false, Nat.reduceAdd, Int32.reduceToNatClampNeg, lo_i, lo_r, lo_n, kont_v, kont_n, List.length_nil, List.length_cons, u74, t1, s74, e1, ur, sR, e2, e3, e4, e5, m197, e7, bi_eq0, not_false_eq_true, nt_succ, wrR, e6, wr]
      · intro g
        have e6 : nt (cI I) ≤ nt (cI I) := Int32.le_refl _
        rw [r246_20]
        simp (config := {decide := true}) only [r246_22, r246_23, r246_26, r246_27, r246_28, r246_31, r246_32, r246_34, r246_36, r246_37, r246_38, r246_39, r246_40, r246_42, r246_45, r246_48, r246_49, r246_52, r246_53, r246_54, r246_55, r246_58, if_true, if_false, Nat.reduceAdd, Int32.reduceToNatClampNeg, lo_i, lo_r, lo_n, kont_v, kont_n, List.length_nil, List.length_cons, u74, t1, s74, e6]
    rw [← i0] at loop1
    refine loop1.trans ?_
    simp (config := {decide := true}) only [r246_61, r246_62, if_true, if_false, Nat.reduceAdd, Int32.reduceToNatClampNeg, lo_i, lo_r, lo_n, kont_v, kont_n, List.length_nil, List.length_cons]
    have loop2 : wp (d + 7) 246 64 [.ref (70 : Nat), .ref (534 : Nat), .int (rng f (f 81)), .int (phW I f), .int (nt 0), noV] [] (mk n (scm (hm I 534 (hsp I f) (I 70 38) (I 536)) (mwS I f (rng f (f 81)) p)) L x) Φ ↔ wp (d + 7) 246 113 [.ref (70 : Nat), .ref (534 : Nat), .int (rng f (f 81)), .int (phW I f), .int (nt (sI I)), noV] [] (mk n (scm (hm I 534 (hwk I f) (I 70 38 + one7 (phW I f)) (I 536)) (mwS I f (rng f (f 81)) p)) L x) Φ := by
      have hb0 : ∀ k, sI I ≤ k → k < 7 → phW I f >>> (nt k &&& 31) &&& 1 = 0 := fun k h1 h2 => by
        unfold phW
        rw [wk_bit h7 h2, wk_hi h1]
        rfl
      have hcut : hwk I f = foldN (fun s g => if phW I f >>> (nt s &&& 31) &&& 1 = 1 then upd g (60 + s) (g 81) else g) (sI I) (hsp I f) := by
        unfold hwk wkn
        refine foldN_cut 7 h7 (fun k h1 h2 b => ?_)
        rw [hb0 k h1 h2, if_neg (by decide)]
      have hcw : I 70 38 + one7 (phW I f) = foldN (fun s w => if phW I f >>> (nt s &&& 31) &&& 1 = 1 then w + 1 else w) (sI I) (I 70 38) := by
        unfold one7
        rw [← fold_add, foldN_cut 7 h7 (fun k h1 h2 b => by rw [hb0 k h1 h2, Int32.add_zero])]
        refine foldN_cong _ (fun k b hk => ?_)
        show b + (wkI I f (rng f (f 81)) >>> (nt k &&& 31) &&& 1) = if wkI I f (rng f (f 81)) >>> (nt k &&& 31) &&& 1 = 1 then b + 1 else b
        rw [wk_bit h7 (by omega)]
        cases wkc I f (rng f (f 81)) k
        · exact Int32.add_zero b
        · rfl
      rw [hcut, hcw]
      have e0 := loopN (P := fun k (q : (Nat → Int32) × Int32) => wp (d + 7) 246 64 [.ref (70 : Nat), .ref (534 : Nat), .int (rng f (f 81)), .int (phW I f), .int (nt k), noV] [] (mk n (scm (hm I 534 q.1 q.2 (I 536)) (mwS I f (rng f (f 81)) p)) L x) Φ) (Q := fun q => wp (d + 7) 246 113 [.ref (70 : Nat), .ref (534 : Nat), .int (rng f (f 81)), .int (phW I f), .int (nt (sI I)), noV] [] (mk n (scm (hm I 534 q.1 q.2 (I 536)) (mwS I f (rng f (f 81)) p)) L x) Φ) (n := sI I) (f := fun s q => if phW I f >>> (nt s &&& 31) &&& 1 = 1 then (upd q.1 (60 + s) (q.1 81), q.2 + 1) else q) ?_ ?_ (hsp I f, I 70 38)
      · dsimp only at e0
        rw [foldN_map (π := fun q : (Nat → Int32) × Int32 => q.1) (f := fun s g => if phW I f >>> (nt s &&& 31) &&& 1 = 1 then upd g (60 + s) (g 81) else g) (fun k a => by by_cases h : phW I f >>> (nt k &&& 31) &&& 1 = 1 <;> simp [h]), foldN_map (π := fun q : (Nat → Int32) × Int32 => q.2) (f := fun s w => if phW I f >>> (nt s &&& 31) &&& 1 = 1 then w + 1 else w) (fun k a => by by_cases h : phW I f >>> (nt k &&& 31) &&& 1 = 1 <;> simp [h])] at e0
        exact e0
      · intro k q hk
        obtain ⟨g, w⟩ := q
        have e1 : ¬ (nt (sI I) ≤ nt k) := nt_nle hk (by omega)
        have e2 : (nt k).toNatClampNeg = k := nt_clamp (by omega)
        have e3 : (0 : Int32) ≤ nt k := nt_ge (by omega)
        have e4 : k < 84 := by omega
        have e6 : ∀ v, upd (vc g) k v = vc (upd g (60 + k) v) := fun v => vup_lo (by omega)
        rw [r246_64]
        by_cases hb : phW I f >>> (nt k &&& 31) &&& 1 = 1
        · simp (config := {decide := true}) only [r246_66, r246_67, r246_70, r246_71, r246_72, r246_75, r246_76, r246_78, r246_81, r246_84, r246_87, r246_88, r246_89, r246_91, r246_92, r246_93, r246_95, r246_96, r246_97, r246_98, r246_99, r246_102, r246_103, r246_104, r246_107, r246_110, if_true, if_false, Nat.reduceAdd, Int32.reduceToNatClampNeg, lo_i, lo_r, lo_n, kont_v, kont_n, List.length_nil, List.length_cons, u74, t0, s74, e1, ur, sR, ix0, e2, e3, e4, m197, hb, bi_eq0, not_true, nt_succ, vc_82, uw, ww]
          simp (config := {decide := true}) only [wrR, ur, e6, wr, r246_97, r246_98, r246_99, r246_102, r246_103, r246_104, r246_107, r246_110, if_true, if_false, Nat.reduceAdd, Int32.reduceToNatClampNeg, lo_i, lo_r, lo_n, kont_v, kont_n, List.length_nil, List.length_cons, uw, ww, nt_succ]
        · simp (config := {decide := true}) only [r246_66, r246_67, r246_70, r246_71, r246_72, r246_75, r246_76, r246_78, r246_81, r246_84, r246_87, r246_88, r246_89, r246_91, r246_92, r246_93, r246_95, r246_96, r246_97, r246_98, r246_99, r246_102, r246_103, r246_104, r246_107, r246_110, if_true, if_false, Nat.reduceAdd, Int32.reduceToNatClampNeg, lo_i, lo_r, lo_n, kont_v, kont_n, List.length_nil, List.length_cons, u74, t0, s74, e1, m197, hb, bi_eq0, not_false_eq_true, nt_succ]
      · intro q
        have e6 : nt (sI I) ≤ nt (sI I) := Int32.le_refl _
        rw [r246_64]
        simp (config := {decide := true}) only [r246_66, r246_67, r246_70, r246_71, r246_72, r246_75, r246_76, r246_78, r246_81, r246_84, r246_87, r246_88, r246_89, r246_91, r246_92, r246_93, r246_95, r246_96, r246_97, r246_98, r246_99, r246_102, r246_103, r246_104, r246_107, r246_110, if_true, if_false, Nat.reduceAdd, Int32.reduceToNatClampNeg, lo_i, lo_r, lo_n, kont_v, kont_n, List.length_nil, List.length_cons, u74, t0, s74, e6]
    refine loop2.trans ?_
    have hro : RO I (hwk I f) := ro_hwk h7 ho
    have g81 : hwk I f 81 = f 81 := by
      unfold hwk hsp
      rw [wkn_at _ _ _ (Or.inr (by decide)), spd_at _ _ _ (by decide)]
    unfold heM phR
    rw [show trn (wkn (phW I f) (spd (rng f (f 81)) f)) = trn (hwk I f) from rfl]
    unfold trn hfF
    rw [g81]
    generalize hg : hwk I f = g at g81 ⊢
    have hA : ∀ s, sI I ≤ s → s < 7 → g (60 + s) = -1 := fun s h1 h2 => by rw [← hg]; exact (hro.2.1 s h1 h2).1
    have hB : ∀ s, s < 7 → g (60 + s) = -1 ∨ g (60 + s) < 24 := fun s h1 => by rw [← hg]; exact (hro.2.2.1 s h1).imp id (fun e => e.2)
    generalize mwS I f (rng f (f 81)) p = q
    generalize I 70 38 + one7 (phW I f) = w
    generalize I 536 = F
    have hA' : ∀ v s, sI I ≤ s → s < 7 → upd g 81 v (60 + s) = -1 := fun v s h1 h2 => by rw [up_ne (by omega)]; exact hA s h1 h2
    have hB' : ∀ v s, s < 7 → upd g 81 v (60 + s) = -1 ∨ upd g 81 v (60 + s) < 24 := fun v s h1 => by rw [up_ne (by omega)]; exact hB s h1
    have c245 : ∀ (d : Nat) (Ψ : POut → PM → Prop) v w F q, wpc d 245 [.ref (70 : Nat), .ref (534 : Nat)] (mk n (scm (hm I 534 (upd g 81 v) w F) q) L x) Ψ ↔ Ψ (.inl (some (.int (ldr g)))) (mk n (scm (hm I 534 (upd g 81 v) w F) q) L x) := fun d Ψ v w F q => by
      rw [← ldr_up g v 81 (Or.inr (by decide))]
      exact m245 (I := scm (hm I 534 (upd g 81 v) w F) q) hr t0 h7 (hA' v) (hB' v) (ur _ _ _ _)
    by_cases h23 : 23 ≤ f 81
    · have e23 : f 81 = 23 := Int32.le_antisymm (le_of24 ho.2.2.2.1.2) h23
      rw [if_pos h23, if_pos h23]
      simp (config := {decide := true}) only [r246_113, r246_114, r246_116, r246_117, r246_118, r246_119, r246_120, r246_121, r246_122, r246_124, r246_125, r246_127, r246_130, r246_131, r246_132, r246_133, r246_136, if_true, if_false, Nat.reduceAdd, Int32.reduceToNatClampNeg, lo_i, lo_r, lo_n, kont_v, kont_n, List.length_nil, List.length_cons, ur, sR, wrR, vc_82, vup_82, wr, up_same, g81, e23, Int32.reduceAdd, c245]
      have tail : ∀ (X F : Nat → Int32) (v : Int32), wp (d + 7) 246 166 [.ref (70 : Nat), .ref (534 : Nat), .int (rng f 23), .int (phW I f), .int v, noV] [] (mk n (scm (hm I 534 X w F) q) L x) Φ ↔ Φ (.inl none) (mk n (scm (hm I 534 (upd (upd (slp X) 81 0) 82 (upd (slp X) 81 0 82 + 1)) w F) q) L x) := by
        intro X F v
        simp (config := {decide := true}) only [r246_166, r246_167, if_true, if_false, Nat.reduceAdd, Int32.reduceToNatClampNeg, lo_i, lo_r, lo_n, kont_v, kont_n, List.length_nil, List.length_cons]
        refine loopN (P := fun k Y => wp (d + 7) 246 169 [.ref (70 : Nat), .ref (534 : Nat), .int (rng f 23), .int (phW I f), .int v, .int (nt k)] [] (mk n (scm (hm I 534 Y w F) q) L x) Φ) (Q := fun Y => Φ (.inl none) (mk n (scm (hm I 534 (upd (upd Y 81 0) 82 (upd Y 81 0 82 + 1)) w F) q) L x)) (n := 7) (f := fun s g => upd g (60 + s) (-1)) ?_ ?_ X
        · intro k Y hk
          have e1 : ¬ ((7 : Int32) ≤ nt k) := nt_nle (m := 7) (by omega) (by decide)
          have e2 : (nt k).toNatClampNeg = k := nt_clamp (by omega)
          have e3 : (0 : Int32) ≤ nt k := nt_ge (by omega)
          have e4 : k < 84 := by omega
          have e6 : ∀ v, upd (vc Y) k v = vc (upd Y (60 + k) v) := fun v => vup_lo (by omega)
          rw [r246_169]
          simp (config := {decide := true}) only [r246_171, r246_173, r246_176, r246_177, r246_178, r246_180, r246_181, r246_182, r246_183, r246_186, if_true, if_false, Nat.reduceAdd, Int32.reduceToNatClampNeg, lo_i, lo_r, lo_n, kont_v, kont_n, List.length_nil, List.length_cons, e1, ix0, e2, e3, e4, sR, wrR, ur, e6, wr, nt_succ]
        · intro Y
          rw [r246_169]
          simp (config := {decide := true}) only [r246_171, r246_173, r246_176, r246_177, r246_178, r246_180, r246_181, r246_182, r246_183, r246_186, r246_189, r246_190, r246_192, r246_193, r246_194, r246_195, r246_197, r246_198, r246_199, r246_200, r246_201, r246_202, if_true, if_false, Nat.reduceAdd, Int32.reduceToNatClampNeg, lo_i, lo_r, lo_n, kont_v, kont_n, List.length_nil, List.length_cons, sR, wrR, ur, vup_82, vc_83, vup_83, wr]
      have teq : ∀ X Y : Nat → Int32, (∀ j, j ≠ 81 → X j = Y j) → upd (slp X) 81 0 = upd (slp Y) 81 0 := by
        intro X Y h
        funext j
        by_cases hj : j = 81
        · rw [hj, up_same, up_same]
        · rw [up_ne hj, up_ne hj, slp_at, slp_at, h j hj]
      rw [r246_138]
      rcases ldr_rng g with hl | ⟨j, hj, hl, hjn⟩
      · rw [hl, if_pos rfl, if_pos rfl]
        simp (config := {decide := true}) only [r246_140, r246_141, r246_144, r246_145, r246_147, r246_149, r246_150, r246_151, r246_152, r246_153, r246_154, r246_155, r246_156, r246_159, r246_161, r246_162, r246_163, r246_164, r246_165, if_true, if_false, Nat.reduceAdd, Int32.reduceToNatClampNeg, lo_i, lo_r, lo_n, kont_v, kont_n, List.length_nil, List.length_cons, tail]
        rw [teq (upd g 81 24) g (fun j hj => up_ne hj)]
      · have j1 : ¬ (nt j = -1) := fun e => absurd (e ▸ nt_ge (k := j) (by omega)) (by decide)
        have j2 : ((14 : Int32) + nt j).toNatClampNeg = 14 + j := ixc 14 j (by omega)
        have j3 : (0 : Int32) ≤ 14 + nt j := ixg 14 j (by omega)
        have j4 : 14 + j < 84 := by omega
        have j5 : ∀ Y, vc Y (14 + j) = Y (74 + j) := fun Y => vc_lo' (b := 14) (by omega)
        have j6 : ∀ Y v, upd (vc Y) (14 + j) v = vc (upd Y (74 + j) v) := fun Y v => by rw [vup_lo (by omega), ← Nat.add_assoc]
        have k2 : (nt j).toNatClampNeg = j := nt_clamp (by omega)
        have k3 : (0 : Int32) ≤ nt j := nt_ge (by omega)
        have s536 : sh0 n 536 = (20, 7, []) := by rw [sh0_not7 (by decide)]; decide +kernel
        rw [hl, if_neg j1, if_neg j1, show (74 : Int32) = nt 74 from rfl, at_b 74 (by omega) (by decide), st_b 74 (by omega) (by decide), atv_nt hj (by decide), st_nt hj (by decide)]
        simp (config := {decide := true}) only [r246_140, r246_141, r246_144, r246_145, r246_147, r246_149, r246_150, r246_151, r246_152, r246_153, r246_154, r246_155, r246_156, r246_159, r246_161, r246_162, r246_163, r246_164, r246_165, if_true, if_false, Nat.reduceAdd, Int32.reduceToNatClampNeg, lo_i, lo_r, lo_n, kont_v, kont_n, List.length_nil, List.length_cons, j1, j2, j3, j4, k2, k3, hj, sR, s536, ur, uF, wrR, wrF, j5, j6, wr, tail]
        rw [up_ne (show 74 + j ≠ 81 by omega), teq (upd (upd g 81 24) (74 + j) (g (74 + j) + 1)) (upd g (74 + j) (g (74 + j) + 1)) (fun i hi => by unfold upd; split <;> simp [hi])]
    · rw [if_neg h23, if_neg h23]
      have h24 : ¬ (24 ≤ f 81 + 1) := fun e => h23 (le_pred24 ho.2.2.2.1 e)
      simp (config := {decide := true}) only [r246_113, r246_114, r246_116, r246_117, r246_118, r246_119, r246_120, r246_121, r246_122, r246_124, r246_125, r246_127, r246_130, r246_131, r246_132, r246_133, r246_136, if_true, if_false, Nat.reduceAdd, Int32.reduceToNatClampNeg, lo_i, lo_r, lo_n, kont_v, kont_n, List.length_nil, List.length_cons, ur, sR, wrR, vc_82, vup_82, wr, up_same, g81, h24]
  · skip
    have hC := hM.1
    have h6 := hC.2.1.2
    have h7 := hC.2.2.1.2
    have u74 : ∀ g w F q, scm (hm I 535 g w F) q 74 = I 74 := fun _ _ _ _ => rfl
    have ur : ∀ g w F q, scm (hm I 535 g w F) q 535 = vc g := fun g w F q => (scm_ne (by decide) (by decide)).trans hm_r
    have uF : ∀ g w F q, scm (hm I 535 g w F) q 536 = F := fun g w F q => (scm_ne (by decide) (by decide)).trans (hm_F hr)
    have uw : ∀ g w F q, scm (hm I 535 g w F) q 70 38 = w := fun g w F q => by rw [scm_ne (by decide) (by decide)]; exact hm_w hr
    have wr : ∀ g w F q g', upR (scm (hm I 535 g w F) q) 535 (vc g') = scm (hm I 535 g' w F) q := fun g w F q g' => by rw [scm_out (by decide) (by decide), hm_ur]
    have wF : ∀ g w F q F', upR (scm (hm I 535 g w F) q) 536 F' = scm (hm I 535 g w F') q := fun g w F q g' => by rw [scm_out (by decide) (by decide), hm_uF hr]
    have ww : ∀ g w F q w', wrI (scm (hm I 535 g w F) q) 70 38 w' = scm (hm I 535 g w' F) q := fun g w F q g' => by rw [scm_wr (by decide) (by decide), hm_uw hr]
    have wrR : ∀ g w F q i v, wrI (scm (hm I 535 g w F) q) 535 i v = upR (scm (hm I 535 g w F) q) 535 (upd (vc g) i v) := fun g w F q i v => by rw [wr_raw, ur]
    have wrF : ∀ g w F q i v, wrI (scm (hm I 535 g w F) q) 536 i v = scm (hm I 535 g w (upd F i v)) q := fun g w F q i v => by rw [wr_raw, uF, wF]
    have hh : f 81 ≠ -1 := fun e => absurd (e ▸ ho.2.2.2.1.1) (by decide)
    have sR : sh0 n 535 = (20, 84, []) := shR hr
    have c244 : ∀ (d : Nat) (Ψ : POut → PM → Prop) p, wpc d 244 [.ref (70 : Nat), .ref (535 : Nat), .int (f 81)] (mk n (scm I p) L x) Ψ ↔ Ψ (.inl (some (.int (rng f (f 81))))) (mk n (scm I p) L x) := fun d Ψ p => m244 (I := scm I p) hr hM.2.1.2 h6 ho ((scm_ne (by decide) (by decide)).trans hf) hh
    have ur0 : ∀ q, scm I q 535 = vc f := fun q => (scm_ne (by decide) (by decide)).trans hf
    have i0 : I = hm I 535 f (I 70 38) (I 536) := by
      unfold hm wrI
      rw [up_self, upR_self, upR_self, ← hf, upR_self]
    have t0 : I 74 0 = nt (sI I) := hM.2.1.1
    have t1 : I 74 1 = nt (cI I) := hM.2.1.2
    show wp (d + 7) 246 0 [.ref (70 : Nat), .ref (535 : Nat), noV, noV, noV, noV] [] (mk n (scm I p) L x) Φ ↔ _
    simp (config := {decide := true}) only [r246_0, r246_1, r246_2, r246_3, r246_5, r246_6, r246_9, r246_10, r246_11, r246_12, r246_13, r246_16, r246_17, r246_18, if_true, if_false, Nat.reduceAdd, Int32.reduceToNatClampNeg, lo_i, lo_r, lo_n, kont_v, kont_n, List.length_nil, List.length_cons, ur0, sR, vc_82, c244, m242 hM hr ho hf]
    rw [show wkI I f (rng f (f 81)) = phW I f from rfl]
    have loop1 : wp (d + 7) 246 20 [.ref (70 : Nat), .ref (535 : Nat), .int (rng f (f 81)), .int (phW I f), .int (nt 0), noV] [] (mk n (scm (hm I 535 f (I 70 38) (I 536)) (mwS I f (rng f (f 81)) p)) L x) Φ ↔ wp (d + 7) 246 61 [.ref (70 : Nat), .ref (535 : Nat), .int (rng f (f 81)), .int (phW I f), .int (nt (cI I)), noV] [] (mk n (scm (hm I 535 (hsp I f) (I 70 38) (I 536)) (mwS I f (rng f (f 81)) p)) L x) Φ := by
      have hcut : hsp I f = foldN (fun k g => upd g k (g k - (rng f (f 81) >>> (nt k &&& 31) &&& 1))) (cI I) f := by
        unfold hsp spd
        refine foldN_cut 6 h6 (fun k h1 h2 b => ?_)
        rw [rng_bit h2, if_neg (fun e => hh (e.1.symm.trans (ho.1 k h1 h2).2.1)), Int32.sub_zero, up_self]
      rw [hcut]
      refine loopN (P := fun k g => wp (d + 7) 246 20 [.ref (70 : Nat), .ref (535 : Nat), .int (rng f (f 81)), .int (phW I f), .int (nt k), noV] [] (mk n (scm (hm I 535 g (I 70 38) (I 536)) (mwS I f (rng f (f 81)) p)) L x) Φ) (Q := fun g => wp (d + 7) 246 61 [.ref (70 : Nat), .ref (535 : Nat), .int (rng f (f 81)), .int (phW I f), .int (nt (cI I)), noV] [] (mk n (scm (hm I 535 g (I 70 38) (I 536)) (mwS I f (rng f (f 81)) p)) L x) Φ) (n := cI I) ?_ ?_ f
      · intro k g hk
        have e1 : ¬ (nt (cI I) ≤ nt k) := nt_nle hk (by omega)
        have e2 : ((21 : Int32) + nt k).toNatClampNeg = 21 + k := ixc 21 k (by omega)
        have e3 : (0 : Int32) ≤ 21 + nt k := ixg 21 k (by omega)
        have e4 : 21 + k < 84 := by omega
        have e5 : vc g (21 + k) = g k := vc_hi (by omega)
        have e6 : ∀ v, upd (vc g) (21 + k) v = vc (upd g k v) := fun v => vup_hi (by omega)
        have e7 := rng_bit (f := f) (h := f 81) (k := k) (by omega)
        rw [r246_20]
        by_cases hb : f (6 + k) = f 81 ∧ ¬ f k ≤ 0
        · rw [if_pos hb] at e7
          simp (config := {decide := true}) only [r246_22, r246_23, r246_26, r246_27, r246_28, r246_31, r246_32, r246_34, r246_36, r246_37, r246_38, r246_39, r246_40, r246_42, r246_45, r246_48, r246_49, r246_52, r246_53, r246_54, r246_55, r246_58, if_true, if_false, Nat.reduceAdd, Int32.reduceToNatClampNeg, lo_i, lo_r, lo_n, kont_v, kont_n, List.length_nil, List.length_cons, u74, t1, s74, e1, ur, sR, e2, e3, e4, e5, m197, e7, bi_eq0, not_true, nt_succ, wrR, e6, wr]
        · rw [if_neg hb] at e7
          simp (config := {decide := true}) only [r246_22, r246_23, r246_26, r246_27, r246_28, r246_31, r246_32, r246_34, r246_36, r246_37, r246_38, r246_39, r246_40, r246_42, r246_45, r246_48, r246_49, r246_52, r246_53, r246_54, r246_55, r246_58, if_true, if_false, Nat.reduceAdd, Int32.reduceToNatClampNeg, lo_i, lo_r, lo_n, kont_v, kont_n, List.length_nil, List.length_cons, u74, t1, s74, e1, ur, sR, e2, e3, e4, e5, m197, e7, bi_eq0, not_false_eq_true, nt_succ, wrR, e6, wr]
      · intro g
        have e6 : nt (cI I) ≤ nt (cI I) := Int32.le_refl _
        rw [r246_20]
        simp (config := {decide := true}) only [r246_22, r246_23, r246_26, r246_27, r246_28, r246_31, r246_32, r246_34, r246_36, r246_37, r246_38, r246_39, r246_40, r246_42, r246_45, r246_48, r246_49, r246_52, r246_53, r246_54, r246_55, r246_58, if_true, if_false, Nat.reduceAdd, Int32.reduceToNatClampNeg, lo_i, lo_r, lo_n, kont_v, kont_n, List.length_nil, List.length_cons, u74, t1, s74, e6]
    rw [← i0] at loop1
    refine loop1.trans ?_
    simp (config := {decide := true}) only [r246_61, r246_62, if_true, if_false, Nat.reduceAdd, Int32.reduceToNatClampNeg, lo_i, lo_r, lo_n, kont_v, kont_n, List.length_nil, List.length_cons]
    have loop2 : wp (d + 7) 246 64 [.ref (70 : Nat), .ref (535 : Nat), .int (rng f (f 81)), .int (phW I f), .int (nt 0), noV] [] (mk n (scm (hm I 535 (hsp I f) (I 70 38) (I 536)) (mwS I f (rng f (f 81)) p)) L x) Φ ↔ wp (d + 7) 246 113 [.ref (70 : Nat), .ref (535 : Nat), .int (rng f (f 81)), .int (phW I f), .int (nt (sI I)), noV] [] (mk n (scm (hm I 535 (hwk I f) (I 70 38 + one7 (phW I f)) (I 536)) (mwS I f (rng f (f 81)) p)) L x) Φ := by
      have hb0 : ∀ k, sI I ≤ k → k < 7 → phW I f >>> (nt k &&& 31) &&& 1 = 0 := fun k h1 h2 => by
        unfold phW
        rw [wk_bit h7 h2, wk_hi h1]
        rfl
      have hcut : hwk I f = foldN (fun s g => if phW I f >>> (nt s &&& 31) &&& 1 = 1 then upd g (60 + s) (g 81) else g) (sI I) (hsp I f) := by
        unfold hwk wkn
        refine foldN_cut 7 h7 (fun k h1 h2 b => ?_)
        rw [hb0 k h1 h2, if_neg (by decide)]
      have hcw : I 70 38 + one7 (phW I f) = foldN (fun s w => if phW I f >>> (nt s &&& 31) &&& 1 = 1 then w + 1 else w) (sI I) (I 70 38) := by
        unfold one7
        rw [← fold_add, foldN_cut 7 h7 (fun k h1 h2 b => by rw [hb0 k h1 h2, Int32.add_zero])]
        refine foldN_cong _ (fun k b hk => ?_)
        show b + (wkI I f (rng f (f 81)) >>> (nt k &&& 31) &&& 1) = if wkI I f (rng f (f 81)) >>> (nt k &&& 31) &&& 1 = 1 then b + 1 else b
        rw [wk_bit h7 (by omega)]
        cases wkc I f (rng f (f 81)) k
        · exact Int32.add_zero b
        · rfl
      rw [hcut, hcw]
      have e0 := loopN (P := fun k (q : (Nat → Int32) × Int32) => wp (d + 7) 246 64 [.ref (70 : Nat), .ref (535 : Nat), .int (rng f (f 81)), .int (phW I f), .int (nt k), noV] [] (mk n (scm (hm I 535 q.1 q.2 (I 536)) (mwS I f (rng f (f 81)) p)) L x) Φ) (Q := fun q => wp (d + 7) 246 113 [.ref (70 : Nat), .ref (535 : Nat), .int (rng f (f 81)), .int (phW I f), .int (nt (sI I)), noV] [] (mk n (scm (hm I 535 q.1 q.2 (I 536)) (mwS I f (rng f (f 81)) p)) L x) Φ) (n := sI I) (f := fun s q => if phW I f >>> (nt s &&& 31) &&& 1 = 1 then (upd q.1 (60 + s) (q.1 81), q.2 + 1) else q) ?_ ?_ (hsp I f, I 70 38)
      · dsimp only at e0
        rw [foldN_map (π := fun q : (Nat → Int32) × Int32 => q.1) (f := fun s g => if phW I f >>> (nt s &&& 31) &&& 1 = 1 then upd g (60 + s) (g 81) else g) (fun k a => by by_cases h : phW I f >>> (nt k &&& 31) &&& 1 = 1 <;> simp [h]), foldN_map (π := fun q : (Nat → Int32) × Int32 => q.2) (f := fun s w => if phW I f >>> (nt s &&& 31) &&& 1 = 1 then w + 1 else w) (fun k a => by by_cases h : phW I f >>> (nt k &&& 31) &&& 1 = 1 <;> simp [h])] at e0
        exact e0
      · intro k q hk
        obtain ⟨g, w⟩ := q
        have e1 : ¬ (nt (sI I) ≤ nt k) := nt_nle hk (by omega)
        have e2 : (nt k).toNatClampNeg = k := nt_clamp (by omega)
        have e3 : (0 : Int32) ≤ nt k := nt_ge (by omega)
        have e4 : k < 84 := by omega
        have e6 : ∀ v, upd (vc g) k v = vc (upd g (60 + k) v) := fun v => vup_lo (by omega)
        rw [r246_64]
        by_cases hb : phW I f >>> (nt k &&& 31) &&& 1 = 1
        · simp (config := {decide := true}) only [r246_66, r246_67, r246_70, r246_71, r246_72, r246_75, r246_76, r246_78, r246_81, r246_84, r246_87, r246_88, r246_89, r246_91, r246_92, r246_93, r246_95, r246_96, r246_97, r246_98, r246_99, r246_102, r246_103, r246_104, r246_107, r246_110, if_true, if_false, Nat.reduceAdd, Int32.reduceToNatClampNeg, lo_i, lo_r, lo_n, kont_v, kont_n, List.length_nil, List.length_cons, u74, t0, s74, e1, ur, sR, ix0, e2, e3, e4, m197, hb, bi_eq0, not_true, nt_succ, vc_82, uw, ww]
          simp (config := {decide := true}) only [wrR, ur, e6, wr, r246_97, r246_98, r246_99, r246_102, r246_103, r246_104, r246_107, r246_110, if_true, if_false, Nat.reduceAdd, Int32.reduceToNatClampNeg, lo_i, lo_r, lo_n, kont_v, kont_n, List.length_nil, List.length_cons, uw, ww, nt_succ]
        · simp (config := {decide := true}) only [r246_66, r246_67, r246_70, r246_71, r246_72, r246_75, r246_76, r246_78, r246_81, r246_84, r246_87, r246_88, r246_89, r246_91, r246_92, r246_93, r246_95, r246_96, r246_97, r246_98, r246_99, r246_102, r246_103, r246_104, r246_107, r246_110, if_true, if_false, Nat.reduceAdd, Int32.reduceToNatClampNeg, lo_i, lo_r, lo_n, kont_v, kont_n, List.length_nil, List.length_cons, u74, t0, s74, e1, m197, hb, bi_eq0, not_false_eq_true, nt_succ]
      · intro q
        have e6 : nt (sI I) ≤ nt (sI I) := Int32.le_refl _
        rw [r246_64]
        simp (config := {decide := true}) only [r246_66, r246_67, r246_70, r246_71, r246_72, r246_75, r246_76, r246_78, r246_81, r246_84, r246_87, r246_88, r246_89, r246_91, r246_92, r246_93, r246_95, r246_96, r246_97, r246_98, r246_99, r246_102, r246_103, r246_104, r246_107, r246_110, if_true, if_false, Nat.reduceAdd, Int32.reduceToNatClampNeg, lo_i, lo_r, lo_n, kont_v, kont_n, List.length_nil, List.length_cons, u74, t0, s74, e6]
    refine loop2.trans ?_
    have hro : RO I (hwk I f) := ro_hwk h7 ho
    have g81 : hwk I f 81 = f 81 := by
      unfold hwk hsp
      rw [wkn_at _ _ _ (Or.inr (by decide)), spd_at _ _ _ (by decide)]
    unfold heM phR
    rw [show trn (wkn (phW I f) (spd (rng f (f 81)) f)) = trn (hwk I f) from rfl]
    unfold trn hfF
    rw [g81]
    generalize hg : hwk I f = g at g81 ⊢
    have hA : ∀ s, sI I ≤ s → s < 7 → g (60 + s) = -1 := fun s h1 h2 => by rw [← hg]; exact (hro.2.1 s h1 h2).1
    have hB : ∀ s, s < 7 → g (60 + s) = -1 ∨ g (60 + s) < 24 := fun s h1 => by rw [← hg]; exact (hro.2.2.1 s h1).imp id (fun e => e.2)
    generalize mwS I f (rng f (f 81)) p = q
    generalize I 70 38 + one7 (phW I f) = w
    generalize I 536 = F
    have hA' : ∀ v s, sI I ≤ s → s < 7 → upd g 81 v (60 + s) = -1 := fun v s h1 h2 => by rw [up_ne (by omega)]; exact hA s h1 h2
    have hB' : ∀ v s, s < 7 → upd g 81 v (60 + s) = -1 ∨ upd g 81 v (60 + s) < 24 := fun v s h1 => by rw [up_ne (by omega)]; exact hB s h1
    have c245 : ∀ (d : Nat) (Ψ : POut → PM → Prop) v w F q, wpc d 245 [.ref (70 : Nat), .ref (535 : Nat)] (mk n (scm (hm I 535 (upd g 81 v) w F) q) L x) Ψ ↔ Ψ (.inl (some (.int (ldr g)))) (mk n (scm (hm I 535 (upd g 81 v) w F) q) L x) := fun d Ψ v w F q => by
      rw [← ldr_up g v 81 (Or.inr (by decide))]
      exact m245 (I := scm (hm I 535 (upd g 81 v) w F) q) hr t0 h7 (hA' v) (hB' v) (ur _ _ _ _)
    by_cases h23 : 23 ≤ f 81
    · have e23 : f 81 = 23 := Int32.le_antisymm (le_of24 ho.2.2.2.1.2) h23
      rw [if_pos h23, if_pos h23]
      simp (config := {decide := true}) only [r246_113, r246_114, r246_116, r246_117, r246_118, r246_119, r246_120, r246_121, r246_122, r246_124, r246_125, r246_127, r246_130, r246_131, r246_132, r246_133, r246_136, if_true, if_false, Nat.reduceAdd, Int32.reduceToNatClampNeg, lo_i, lo_r, lo_n, kont_v, kont_n, List.length_nil, List.length_cons, ur, sR, wrR, vc_82, vup_82, wr, up_same, g81, e23, Int32.reduceAdd, c245]
      have tail : ∀ (X F : Nat → Int32) (v : Int32), wp (d + 7) 246 166 [.ref (70 : Nat), .ref (535 : Nat), .int (rng f 23), .int (phW I f), .int v, noV] [] (mk n (scm (hm I 535 X w F) q) L x) Φ ↔ Φ (.inl none) (mk n (scm (hm I 535 (upd (upd (slp X) 81 0) 82 (upd (slp X) 81 0 82 + 1)) w F) q) L x) := by
        intro X F v
        simp (config := {decide := true}) only [r246_166, r246_167, if_true, if_false, Nat.reduceAdd, Int32.reduceToNatClampNeg, lo_i, lo_r, lo_n, kont_v, kont_n, List.length_nil, List.length_cons]
        refine loopN (P := fun k Y => wp (d + 7) 246 169 [.ref (70 : Nat), .ref (535 : Nat), .int (rng f 23), .int (phW I f), .int v, .int (nt k)] [] (mk n (scm (hm I 535 Y w F) q) L x) Φ) (Q := fun Y => Φ (.inl none) (mk n (scm (hm I 535 (upd (upd Y 81 0) 82 (upd Y 81 0 82 + 1)) w F) q) L x)) (n := 7) (f := fun s g => upd g (60 + s) (-1)) ?_ ?_ X
        · intro k Y hk
          have e1 : ¬ ((7 : Int32) ≤ nt k) := nt_nle (m := 7) (by omega) (by decide)
          have e2 : (nt k).toNatClampNeg = k := nt_clamp (by omega)
          have e3 : (0 : Int32) ≤ nt k := nt_ge (by omega)
          have e4 : k < 84 := by omega
          have e6 : ∀ v, upd (vc Y) k v = vc (upd Y (60 + k) v) := fun v => vup_lo (by omega)
          rw [r246_169]
          simp (config := {decide := true}) only [r246_171, r246_173, r246_176, r246_177, r246_178, r246_180, r246_181, r246_182, r246_183, r246_186, if_true, if_false, Nat.reduceAdd, Int32.reduceToNatClampNeg, lo_i, lo_r, lo_n, kont_v, kont_n, List.length_nil, List.length_cons, e1, ix0, e2, e3, e4, sR, wrR, ur, e6, wr, nt_succ]
        · intro Y
          rw [r246_169]
          simp (config := {decide := true}) only [r246_171, r246_173, r246_176, r246_177, r246_178, r246_180, r246_181, r246_182, r246_183, r246_186, r246_189, r246_190, r246_192, r246_193, r246_194, r246_195, r246_197, r246_198, r246_199, r246_200, r246_201, r246_202, if_true, if_false, Nat.reduceAdd, Int32.reduceToNatClampNeg, lo_i, lo_r, lo_n, kont_v, kont_n, List.length_nil, List.length_cons, sR, wrR, ur, vup_82, vc_83, vup_83, wr]
      have teq : ∀ X Y : Nat → Int32, (∀ j, j ≠ 81 → X j = Y j) → upd (slp X) 81 0 = upd (slp Y) 81 0 := by
        intro X Y h
        funext j
        by_cases hj : j = 81
        · rw [hj, up_same, up_same]
        · rw [up_ne hj, up_ne hj, slp_at, slp_at, h j hj]
      rw [r246_138]
      rcases ldr_rng g with hl | ⟨j, hj, hl, hjn⟩
      · rw [hl, if_pos rfl, if_pos rfl]
        simp (config := {decide := true}) only [r246_140, r246_141, r246_144, r246_145, r246_147, r246_149, r246_150, r246_151, r246_152, r246_153, r246_154, r246_155, r246_156, r246_159, r246_161, r246_162, r246_163, r246_164, r246_165, if_true, if_false, Nat.reduceAdd, Int32.reduceToNatClampNeg, lo_i, lo_r, lo_n, kont_v, kont_n, List.length_nil, List.length_cons, tail]
        rw [teq (upd g 81 24) g (fun j hj => up_ne hj)]
      · have j1 : ¬ (nt j = -1) := fun e => absurd (e ▸ nt_ge (k := j) (by omega)) (by decide)
        have j2 : ((14 : Int32) + nt j).toNatClampNeg = 14 + j := ixc 14 j (by omega)
        have j3 : (0 : Int32) ≤ 14 + nt j := ixg 14 j (by omega)
        have j4 : 14 + j < 84 := by omega
        have j5 : ∀ Y, vc Y (14 + j) = Y (74 + j) := fun Y => vc_lo' (b := 14) (by omega)
        have j6 : ∀ Y v, upd (vc Y) (14 + j) v = vc (upd Y (74 + j) v) := fun Y v => by rw [vup_lo (by omega), ← Nat.add_assoc]
        have k2 : (nt j).toNatClampNeg = j := nt_clamp (by omega)
        have k3 : (0 : Int32) ≤ nt j := nt_ge (by omega)
        have s536 : sh0 n 536 = (20, 7, []) := by rw [sh0_not7 (by decide)]; decide +kernel
        rw [hl, if_neg j1, if_neg j1, show (74 : Int32) = nt 74 from rfl, at_b 74 (by omega) (by decide), st_b 74 (by omega) (by decide), atv_nt hj (by decide), st_nt hj (by decide)]
        simp (config := {decide := true}) only [r246_140, r246_141, r246_144, r246_145, r246_147, r246_149, r246_150, r246_151, r246_152, r246_153, r246_154, r246_155, r246_156, r246_159, r246_161, r246_162, r246_163, r246_164, r246_165, if_true, if_false, Nat.reduceAdd, Int32.reduceToNatClampNeg, lo_i, lo_r, lo_n, kont_v, kont_n, List.length_nil, List.length_cons, j1, j2, j3, j4, k2, k3, hj, sR, s536, ur, uF, wrR, wrF, j5, j6, wr, tail]
        rw [up_ne (show 74 + j ≠ 81 by omega), teq (upd (upd g 81 24) (74 + j) (g (74 + j) + 1)) (upd g (74 + j) (g (74 + j) + 1)) (fun i hi => by unfold upd; split <;> simp [hi])]
    · rw [if_neg h23, if_neg h23]
      have h24 : ¬ (24 ≤ f 81 + 1) := fun e => h23 (le_pred24 ho.2.2.2.1 e)
      simp (config := {decide := true}) only [r246_113, r246_114, r246_116, r246_117, r246_118, r246_119, r246_120, r246_121, r246_122, r246_124, r246_125, r246_127, r246_130, r246_131, r246_132, r246_133, r246_136, if_true, if_false, Nat.reduceAdd, Int32.reduceToNatClampNeg, lo_i, lo_r, lo_n, kont_v, kont_n, List.length_nil, List.length_cons, ur, sR, wrR, vc_82, vup_82, wr, up_same, g81, h24]
end Mh2
