/-! CALLS BY A WRAPPER, AND THE SAME QUESTION TO THE MODEL -/
theorem ok_ite {hs : Nat → Nat → Prop} {c : Prop} [Decidable c] {a b : An} (h1 : anOk hs a) (h2 : anOk hs b) : anOk hs (if c then a else b) := by
  by_cases h : c
  · rw [if_pos h]; exact h1
  · rw [if_neg h]; exact h2
def hW (W pc t c : Nat) : Prop := hnd W pc t = some (nt c)
theorem cres_upk {d M : Nat} {as : List Value} {μ μ' : PM} {o : POut} (h : cres d M as μ o μ') : cres (d + 1) M as μ o μ' := cres_up h
theorem wrL_at {L : Nat → Nat → Int64} {a i : Nat} {v : Int64} : wrL L a i v a i = v := by
  unfold wrL
  rw [upR_same]
  unfold vp_updL
  exact if_pos rfl
theorem nt_ne {c : Nat} (h : c ≠ 0) (h1 : c < 10) : nt c ≠ 0 := by
  have : c = 1 ∨ c = 2 ∨ c = 3 ∨ c = 4 ∨ c = 5 ∨ c = 6 ∨ c = 7 ∨ c = 8 ∨ c = 9 := by omega
  rcases this with rfl | rfl | rfl | rfl | rfl | rfl | rfl | rfl | rfl <;> decide
def WR (d W Mm : Nat) (as bs : List Value) (n : Nat) (I : Nat → Nat → Int32) (L : Nat → Nat → Int64) (x : Nat) : Prop :=
  (∃ A J, cres d W bs (mk n I L x) (.inl (some (.int 0))) (mk n J (wrL L 559 0 A.toInt64) x) ∧ J 7 = I 7 ∧ ∃ K L2, L2 559 0 = A.toInt64 ∧ cres d Mm (.ref (70 : Nat) :: as) (mk n J (wrL L 559 0 A.toInt64) x) (.inl (some (.int A))) (mk n K L2 x) ∧ K 70 0 = 0 ∧ LI K ∧ K 7 = I 7) ∨
  (∃ c J, c ≠ (0 : Int32) ∧ cres d W bs (mk n I L x) (.inl (some (.int c))) (mk n J L (x + 1)) ∧ J 7 = I 7 ∧ ∃ K, cres d Mm (.ref (70 : Nat) :: as) (mk n J L (x + 1)) (.inl (some (.int 0))) (mk n K L (x + 1)) ∧ K 70 0 = c ∧ LI K ∧ K 7 = I 7)
theorem wr_of {d W Mc Mm : Nat} {as bs : List Value} {hs : Nat → Nat → Prop} {n : Nat} {I : Nat → Nat → Int32} {L : Nat → Nat → Int64} {x : Nat} (h1 : ∀ A J, cres d Mc (.ref (9 : Nat) :: as) (mk n I L x) (.inl (some (.int A))) (mk n J L x) → cres (d + 1) W bs (mk n I L x) (.inl (some (.int 0))) (mk n J (wrL L 559 0 A.toInt64) x)) (h2 : ∀ t c J, hs t c → cres d Mc (.ref (9 : Nat) :: as) (mk n I L x) (.inr t) (mk n J L (x + 1)) → cres (d + 1) W bs (mk n I L x) (.inl (some (.int (nt c)))) (mk n J L (x + 1))) (hp : PW d Mc Mm as hs n I L x) : WR (d + 1) W Mm as bs n I L x := by
  rcases hp with ⟨A, J, c1, hK⟩ | ⟨t, c, J, g1, g2, g3, c1, K, c2, k1, k2⟩
  · obtain ⟨K, L2, k1, c2, k2, k3⟩ := hK (wrL L 559 0 A.toInt64)
    exact Or.inl ⟨A, J, h1 A J c1, cres_lo c1, K, L2, by rw [k1]; exact wrL_at, cres_up c2, k2, k3, (cres_lo c2).trans (cres_lo c1)⟩
  · exact Or.inr ⟨nt c, J, nt_ne g2 g3, h2 t c J g1 c1, cres_lo c1, K, cres_up c2, k1, k2, (cres_lo c2).trans (cres_lo c1)⟩
def PL (d Mc Mm : Nat) (as : List Value) (hs : Nat → Nat → Prop) (n : Nat) (I : Nat → Nat → Int32) (L : Nat → Nat → Int64) (x : Nat) : Prop :=
  (∃ A J, cres d Mc (.ref (9 : Nat) :: as) (mk n I L x) (.inl (some (.long A))) (mk n J L x) ∧ ∀ L1, ∃ K L2, L2 559 = L1 559 ∧ cres d Mm (.ref (70 : Nat) :: as) (mk n J L1 x) (.inl (some (.long A))) (mk n K L2 x) ∧ K 70 0 = 0 ∧ LI K) ∨
  (∃ t c J, hs t c ∧ c ≠ 0 ∧ c < 10 ∧ cres d Mc (.ref (9 : Nat) :: as) (mk n I L x) (.inr t) (mk n J L (x + 1)) ∧ ∃ K, cres d Mm (.ref (70 : Nat) :: as) (mk n J L (x + 1)) (.inl (some (.long 0))) (mk n K L (x + 1)) ∧ K 70 0 = nt c ∧ LI K)
theorem pl_q {d Mc Mm : Nat} {as : List Value} {hs : Nat → Nat → Prop} {n : Nat} {I : Nat → Nat → Int32} {L : Nat → Nat → Int64} {x : Nat} {r : AnL} (hI : LI I) (ho : ∀ q, r = .inr q → (q.1 = 1 ∨ q.1 = 2) ∧ hs q.1 q.2 ∧ q.2 ≠ 0 ∧ q.2 < 10) (hq : ∀ Φ, resCL n I L x Φ r → wpc d Mc (.ref (9 : Nat) :: as) (mk n I L x) Φ) (hu : ∀ J, view J = view I → ∀ L1 x1 Φ, resML n J L1 x1 Φ r → wpc d Mm (.ref (70 : Nat) :: as) (mk n J L1 x1) Φ) : PL d Mc Mm as hs n I L x := by
  cases r with
  | inl A =>
    refine Or.inl ?_
    obtain ⟨o, μ', ⟨J, hJ, rfl, rfl⟩, hc⟩ := cres_of (hq (fun o m => ∃ J, Sm I J ∧ o = .inl (some (.long A)) ∧ m = mk n J L x) (fun J hJ => ⟨J, hJ, rfl, rfl⟩))
    refine ⟨A, J, hc, fun L1 => ?_⟩
    obtain ⟨o, μ', ⟨K, L2, h1, h2, h3, rfl, rfl⟩, hm⟩ := cres_of (hu J hJ.1 L1 x (fun o m => ∃ K L2, Sm J K ∧ K 70 0 = 0 ∧ L2 559 = L1 559 ∧ o = .inl (some (.long A)) ∧ m = mk n K L2 x) (fun K L2 h1 h2 h3 => ⟨K, L2, h1, h2, h3, rfl, rfl⟩))
    exact ⟨K, L2, h3, hm, h2, LI_sm (LI_sm hI hJ) h1⟩
  | inr q =>
    obtain ⟨t, c⟩ := q
    obtain ⟨ht, h1, h2, h3⟩ := ho _ rfl
    refine Or.inr ?_
    obtain ⟨o, μ', ⟨J, hJ, rfl, rfl⟩, hc⟩ := cres_of (hq (fun o m => ∃ J, Sm I J ∧ o = .inr t ∧ m = mk n (wrI J 9 (15 + t) (J 9 (15 + t) + 1)) L (x + 1)) (fun J hJ => ⟨J, hJ, rfl, rfl⟩))
    have hv9 : vis 9 (15 + t) = false := by rcases ht with h | h <;> (have h : t = _ := h; subst h; rfl)
    have hv : view (wrI J 9 (15 + t) (J 9 (15 + t) + 1)) = view I := (view_wr hv9).trans hJ.1
    obtain ⟨o, μ', ⟨K, k1, k2, k3, k4, rfl, rfl⟩, hm⟩ := cres_of (hu _ hv L (x + 1) (fun o m => ∃ K, view K = view (wrI J 9 (15 + t) (J 9 (15 + t) + 1)) ∧ K 9 = wrI J 9 (15 + t) (J 9 (15 + t) + 1) 9 ∧ K 72 = upd (wrI J 9 (15 + t) (J 9 (15 + t) + 1) 72) (t - 1) (wrI J 9 (15 + t) (J 9 (15 + t) + 1) 72 (t - 1) + 1) ∧ K 70 0 = nt c ∧ o = .inl (some (.long 0)) ∧ m = mk n K L (x + 1)) (fun K k1 k2 k3 k4 => ⟨K, k1, k2, k3, k4, rfl, rfl⟩))
    refine ⟨t, c, _, h1, h2, h3, hc, K, hm, k4, tr_Inv (k1.trans hv) hI.1, ?_, ?_⟩
    · rw [k2, k3, wrI_ne (by decide), wrI_at, hJ.2.1, hJ.2.2]
      rcases ht with h | h <;> (have h : t = _ := h; subst h)
      · rw [up_same, up_same, hI.2.1]
      · rw [up_ne (by decide), up_ne (by decide)]; exact hI.2.1
    · rw [k2, k3, wrI_ne (by decide), wrI_at, hJ.2.1, hJ.2.2]
      rcases ht with h | h <;> (have h : t = _ := h; subst h)
      · rw [up_ne (by decide), up_ne (by decide)]; exact hI.2.2
      · rw [up_same, up_same, hI.2.2]
def WL (d W Mm : Nat) (as bs : List Value) (n : Nat) (I : Nat → Nat → Int32) (L : Nat → Nat → Int64) (x : Nat) : Prop :=
  (∃ A J, cres d W bs (mk n I L x) (.inl (some (.int 0))) (mk n J (wrL L 559 0 A) x) ∧ J 7 = I 7 ∧ ∃ K L2, L2 559 0 = A ∧ cres d Mm (.ref (70 : Nat) :: as) (mk n J (wrL L 559 0 A) x) (.inl (some (.long A))) (mk n K L2 x) ∧ K 70 0 = 0 ∧ LI K ∧ K 7 = I 7) ∨
  (∃ c J, c ≠ (0 : Int32) ∧ cres d W bs (mk n I L x) (.inl (some (.int c))) (mk n J L (x + 1)) ∧ J 7 = I 7 ∧ ∃ K, cres d Mm (.ref (70 : Nat) :: as) (mk n J L (x + 1)) (.inl (some (.long 0))) (mk n K L (x + 1)) ∧ K 70 0 = c ∧ LI K ∧ K 7 = I 7)
theorem wl_of {d W Mc Mm : Nat} {as bs : List Value} {hs : Nat → Nat → Prop} {n : Nat} {I : Nat → Nat → Int32} {L : Nat → Nat → Int64} {x : Nat} (h1 : ∀ A J, cres d Mc (.ref (9 : Nat) :: as) (mk n I L x) (.inl (some (.long A))) (mk n J L x) → cres (d + 1) W bs (mk n I L x) (.inl (some (.int 0))) (mk n J (wrL L 559 0 A) x)) (h2 : ∀ t c J, hs t c → cres d Mc (.ref (9 : Nat) :: as) (mk n I L x) (.inr t) (mk n J L (x + 1)) → cres (d + 1) W bs (mk n I L x) (.inl (some (.int (nt c)))) (mk n J L (x + 1))) (hp : PL d Mc Mm as hs n I L x) : WL (d + 1) W Mm as bs n I L x := by
  rcases hp with ⟨A, J, c1, hK⟩ | ⟨t, c, J, g1, g2, g3, c1, K, c2, k1, k2⟩
  · obtain ⟨K, L2, k1, c2, k2, k3⟩ := hK (wrL L 559 0 A)
    exact Or.inl ⟨A, J, h1 A J c1, cres_lo c1, K, L2, by rw [k1]; exact wrL_at, cres_up c2, k2, k3, (cres_lo c2).trans (cres_lo c1)⟩
  · exact Or.inr ⟨nt c, J, nt_ne g2 g3, h2 t c J g1 c1, cres_lo c1, K, cres_up c2, k1, k2, (cres_lo c2).trans (cres_lo c1)⟩
theorem s559 {n : Nat} : (sh0 n 559).1 = 21 := by
  rw [sh0_not7 (by decide)]
  decide +kernel
theorem z559 {n : Nat} : (0 : Int32).toNatClampNeg < (sh0 n 559).2.1 := by
  rw [sh0_not7 (by decide)]
  decide +kernel
section Wx
variable {d n x : Nat} {Φ : POut → PM → Prop} {I J : Nat → Nat → Int32} {L : Nat → Nat → Int64}
theorem w330 {v1 : Int32} {A : Int32} (hc : cres d 132 (.ref (9 : Nat) :: [.int v1]) (mk n I L x) (.inl (some (.int A))) (mk n J L x)) : cres (d + 1) 330 [.ref (9 : Nat), .int v1, .ref (559 : Nat)] (mk n I L x) (.inl (some (.int 0))) (mk n J (wrL L 559 0 A.toInt64) x) := by
  intro Φ h
  show wp (d + 1) 330 0 [.ref (9 : Nat), .int v1, .ref (559 : Nat), noV] [] (mk n I L x) Φ
  rw [r330_0, r330_1, r330_2, r330_3, r330_4 (by decide)]
  refine hc _ ?_
  show wp (d + 1) 330 7 [.ref (9 : Nat), .int v1, .ref (559 : Nat), noV] [.int A, .int 0, .ref (559 : Nat)] (mk n J L x) Φ
  rw [r330_7, r330_8 s559 (by decide) (by decide) (by decide) z559, r330_9, r330_15, r330_16]
  exact h
theorem x330 {v1 : Int32} {t c : Nat} (ht : hW 330 4 t c) (hc : cres d 132 (.ref (9 : Nat) :: [.int v1]) (mk n I L x) (.inr t) (mk n J L (x + 1))) : cres (d + 1) 330 [.ref (9 : Nat), .int v1, .ref (559 : Nat)] (mk n I L x) (.inl (some (.int (nt c)))) (mk n J L (x + 1)) := by
  intro Φ h
  show wp (d + 1) 330 0 [.ref (9 : Nat), .int v1, .ref (559 : Nat), noV] [] (mk n I L x) Φ
  rw [r330_0, r330_1, r330_2, r330_3, r330_4 (by decide)]
  refine hc _ ?_
  show (match hnd 330 4 t with
    | some v => Φ (.inl (some (.int v))) (mk n J L (x + 1))
    | none => Nat.blt 330 330 = true ∧ Φ (.inr t) (mk n J L (x + 1)))
  rw [show hnd 330 4 t = some (nt c) from ht]
  exact h
theorem w331 {v1 : Int32} {A : Int32} (hc : cres d 133 (.ref (9 : Nat) :: [.int v1]) (mk n I L x) (.inl (some (.int A))) (mk n J L x)) : cres (d + 1) 331 [.ref (9 : Nat), .int v1, .ref (559 : Nat)] (mk n I L x) (.inl (some (.int 0))) (mk n J (wrL L 559 0 A.toInt64) x) := by
  intro Φ h
  show wp (d + 1) 331 0 [.ref (9 : Nat), .int v1, .ref (559 : Nat), noV] [] (mk n I L x) Φ
  rw [r331_0, r331_1, r331_2, r331_3, r331_4 (by decide)]
  refine hc _ ?_
  show wp (d + 1) 331 7 [.ref (9 : Nat), .int v1, .ref (559 : Nat), noV] [.int A, .int 0, .ref (559 : Nat)] (mk n J L x) Φ
  rw [r331_7, r331_8 s559 (by decide) (by decide) (by decide) z559, r331_9, r331_15, r331_16]
  exact h
theorem x331 {v1 : Int32} {t c : Nat} (ht : hW 331 4 t c) (hc : cres d 133 (.ref (9 : Nat) :: [.int v1]) (mk n I L x) (.inr t) (mk n J L (x + 1))) : cres (d + 1) 331 [.ref (9 : Nat), .int v1, .ref (559 : Nat)] (mk n I L x) (.inl (some (.int (nt c)))) (mk n J L (x + 1)) := by
  intro Φ h
  show wp (d + 1) 331 0 [.ref (9 : Nat), .int v1, .ref (559 : Nat), noV] [] (mk n I L x) Φ
  rw [r331_0, r331_1, r331_2, r331_3, r331_4 (by decide)]
  refine hc _ ?_
  show (match hnd 331 4 t with
    | some v => Φ (.inl (some (.int v))) (mk n J L (x + 1))
    | none => Nat.blt 331 330 = true ∧ Φ (.inr t) (mk n J L (x + 1)))
  rw [show hnd 331 4 t = some (nt c) from ht]
  exact h
theorem w332 {v1 : Int32} {A : Int32} (hc : cres d 134 (.ref (9 : Nat) :: [.int v1]) (mk n I L x) (.inl (some (.int A))) (mk n J L x)) : cres (d + 1) 332 [.ref (9 : Nat), .int v1, .ref (559 : Nat)] (mk n I L x) (.inl (some (.int 0))) (mk n J (wrL L 559 0 A.toInt64) x) := by
  intro Φ h
  show wp (d + 1) 332 0 [.ref (9 : Nat), .int v1, .ref (559 : Nat), noV] [] (mk n I L x) Φ
  rw [r332_0, r332_1, r332_2, r332_3, r332_4 (by decide)]
  refine hc _ ?_
  show wp (d + 1) 332 7 [.ref (9 : Nat), .int v1, .ref (559 : Nat), noV] [.int A, .int 0, .ref (559 : Nat)] (mk n J L x) Φ
  rw [r332_7, r332_8 s559 (by decide) (by decide) (by decide) z559, r332_9, r332_15, r332_16]
  exact h
theorem x332 {v1 : Int32} {t c : Nat} (ht : hW 332 4 t c) (hc : cres d 134 (.ref (9 : Nat) :: [.int v1]) (mk n I L x) (.inr t) (mk n J L (x + 1))) : cres (d + 1) 332 [.ref (9 : Nat), .int v1, .ref (559 : Nat)] (mk n I L x) (.inl (some (.int (nt c)))) (mk n J L (x + 1)) := by
  intro Φ h
  show wp (d + 1) 332 0 [.ref (9 : Nat), .int v1, .ref (559 : Nat), noV] [] (mk n I L x) Φ
  rw [r332_0, r332_1, r332_2, r332_3, r332_4 (by decide)]
  refine hc _ ?_
  show (match hnd 332 4 t with
    | some v => Φ (.inl (some (.int v))) (mk n J L (x + 1))
    | none => Nat.blt 332 330 = true ∧ Φ (.inr t) (mk n J L (x + 1)))
  rw [show hnd 332 4 t = some (nt c) from ht]
  exact h
theorem w333 {v1 : Int32} {A : Int32} (hc : cres d 135 (.ref (9 : Nat) :: [.int v1]) (mk n I L x) (.inl (some (.int A))) (mk n J L x)) : cres (d + 1) 333 [.ref (9 : Nat), .int v1, .ref (559 : Nat)] (mk n I L x) (.inl (some (.int 0))) (mk n J (wrL L 559 0 A.toInt64) x) := by
  intro Φ h
  show wp (d + 1) 333 0 [.ref (9 : Nat), .int v1, .ref (559 : Nat), noV] [] (mk n I L x) Φ
  rw [r333_0, r333_1, r333_2, r333_3, r333_4 (by decide)]
  refine hc _ ?_
  show wp (d + 1) 333 7 [.ref (9 : Nat), .int v1, .ref (559 : Nat), noV] [.int A, .int 0, .ref (559 : Nat)] (mk n J L x) Φ
  rw [r333_7, r333_8 s559 (by decide) (by decide) (by decide) z559, r333_9, r333_15, r333_16]
  exact h
theorem x333 {v1 : Int32} {t c : Nat} (ht : hW 333 4 t c) (hc : cres d 135 (.ref (9 : Nat) :: [.int v1]) (mk n I L x) (.inr t) (mk n J L (x + 1))) : cres (d + 1) 333 [.ref (9 : Nat), .int v1, .ref (559 : Nat)] (mk n I L x) (.inl (some (.int (nt c)))) (mk n J L (x + 1)) := by
  intro Φ h
  show wp (d + 1) 333 0 [.ref (9 : Nat), .int v1, .ref (559 : Nat), noV] [] (mk n I L x) Φ
  rw [r333_0, r333_1, r333_2, r333_3, r333_4 (by decide)]
  refine hc _ ?_
  show (match hnd 333 4 t with
    | some v => Φ (.inl (some (.int v))) (mk n J L (x + 1))
    | none => Nat.blt 333 330 = true ∧ Φ (.inr t) (mk n J L (x + 1)))
  rw [show hnd 333 4 t = some (nt c) from ht]
  exact h
theorem w334 {v1 : Int32} {A : Int32} (hc : cres d 138 (.ref (9 : Nat) :: [.int v1]) (mk n I L x) (.inl (some (.int A))) (mk n J L x)) : cres (d + 1) 334 [.ref (9 : Nat), .int v1, .ref (559 : Nat)] (mk n I L x) (.inl (some (.int 0))) (mk n J (wrL L 559 0 A.toInt64) x) := by
  intro Φ h
  show wp (d + 1) 334 0 [.ref (9 : Nat), .int v1, .ref (559 : Nat), noV] [] (mk n I L x) Φ
  rw [r334_0, r334_1, r334_2, r334_3, r334_4 (by decide)]
  refine hc _ ?_
  show wp (d + 1) 334 7 [.ref (9 : Nat), .int v1, .ref (559 : Nat), noV] [.int A, .int 0, .ref (559 : Nat)] (mk n J L x) Φ
  rw [r334_7, r334_8 s559 (by decide) (by decide) (by decide) z559, r334_9, r334_15, r334_16]
  exact h
theorem x334 {v1 : Int32} {t c : Nat} (ht : hW 334 4 t c) (hc : cres d 138 (.ref (9 : Nat) :: [.int v1]) (mk n I L x) (.inr t) (mk n J L (x + 1))) : cres (d + 1) 334 [.ref (9 : Nat), .int v1, .ref (559 : Nat)] (mk n I L x) (.inl (some (.int (nt c)))) (mk n J L (x + 1)) := by
  intro Φ h
  show wp (d + 1) 334 0 [.ref (9 : Nat), .int v1, .ref (559 : Nat), noV] [] (mk n I L x) Φ
  rw [r334_0, r334_1, r334_2, r334_3, r334_4 (by decide)]
  refine hc _ ?_
  show (match hnd 334 4 t with
    | some v => Φ (.inl (some (.int v))) (mk n J L (x + 1))
    | none => Nat.blt 334 330 = true ∧ Φ (.inr t) (mk n J L (x + 1)))
  rw [show hnd 334 4 t = some (nt c) from ht]
  exact h
theorem w335 {v1 v2 : Int32} {A : Int32} (hc : cres d 139 (.ref (9 : Nat) :: [.int v1, .int v2]) (mk n I L x) (.inl (some (.int A))) (mk n J L x)) : cres (d + 1) 335 [.ref (9 : Nat), .int v1, .int v2, .ref (559 : Nat)] (mk n I L x) (.inl (some (.int 0))) (mk n J (wrL L 559 0 A.toInt64) x) := by
  intro Φ h
  show wp (d + 1) 335 0 [.ref (9 : Nat), .int v1, .int v2, .ref (559 : Nat), noV] [] (mk n I L x) Φ
  rw [r335_0, r335_1, r335_2, r335_3, r335_4, r335_5 (by decide)]
  refine hc _ ?_
  show wp (d + 1) 335 8 [.ref (9 : Nat), .int v1, .int v2, .ref (559 : Nat), noV] [.int A, .int 0, .ref (559 : Nat)] (mk n J L x) Φ
  rw [r335_8, r335_9 s559 (by decide) (by decide) (by decide) z559, r335_10, r335_21, r335_22]
  exact h
theorem x335 {v1 v2 : Int32} {t c : Nat} (ht : hW 335 5 t c) (hc : cres d 139 (.ref (9 : Nat) :: [.int v1, .int v2]) (mk n I L x) (.inr t) (mk n J L (x + 1))) : cres (d + 1) 335 [.ref (9 : Nat), .int v1, .int v2, .ref (559 : Nat)] (mk n I L x) (.inl (some (.int (nt c)))) (mk n J L (x + 1)) := by
  intro Φ h
  show wp (d + 1) 335 0 [.ref (9 : Nat), .int v1, .int v2, .ref (559 : Nat), noV] [] (mk n I L x) Φ
  rw [r335_0, r335_1, r335_2, r335_3, r335_4, r335_5 (by decide)]
  refine hc _ ?_
  show (match hnd 335 5 t with
    | some v => Φ (.inl (some (.int v))) (mk n J L (x + 1))
    | none => Nat.blt 335 330 = true ∧ Φ (.inr t) (mk n J L (x + 1)))
  rw [show hnd 335 5 t = some (nt c) from ht]
  exact h
theorem w336 {v1 v2 : Int32} {A : Int32} (hc : cres d 140 (.ref (9 : Nat) :: [.int v1, .int v2]) (mk n I L x) (.inl (some (.int A))) (mk n J L x)) : cres (d + 1) 336 [.ref (9 : Nat), .int v1, .int v2, .ref (559 : Nat)] (mk n I L x) (.inl (some (.int 0))) (mk n J (wrL L 559 0 A.toInt64) x) := by
  intro Φ h
  show wp (d + 1) 336 0 [.ref (9 : Nat), .int v1, .int v2, .ref (559 : Nat), noV] [] (mk n I L x) Φ
  rw [r336_0, r336_1, r336_2, r336_3, r336_4, r336_5 (by decide)]
  refine hc _ ?_
  show wp (d + 1) 336 8 [.ref (9 : Nat), .int v1, .int v2, .ref (559 : Nat), noV] [.int A, .int 0, .ref (559 : Nat)] (mk n J L x) Φ
  rw [r336_8, r336_9 s559 (by decide) (by decide) (by decide) z559, r336_10, r336_21, r336_22]
  exact h
theorem x336 {v1 v2 : Int32} {t c : Nat} (ht : hW 336 5 t c) (hc : cres d 140 (.ref (9 : Nat) :: [.int v1, .int v2]) (mk n I L x) (.inr t) (mk n J L (x + 1))) : cres (d + 1) 336 [.ref (9 : Nat), .int v1, .int v2, .ref (559 : Nat)] (mk n I L x) (.inl (some (.int (nt c)))) (mk n J L (x + 1)) := by
  intro Φ h
  show wp (d + 1) 336 0 [.ref (9 : Nat), .int v1, .int v2, .ref (559 : Nat), noV] [] (mk n I L x) Φ
  rw [r336_0, r336_1, r336_2, r336_3, r336_4, r336_5 (by decide)]
  refine hc _ ?_
  show (match hnd 336 5 t with
    | some v => Φ (.inl (some (.int v))) (mk n J L (x + 1))
    | none => Nat.blt 336 330 = true ∧ Φ (.inr t) (mk n J L (x + 1)))
  rw [show hnd 336 5 t = some (nt c) from ht]
  exact h
theorem w337 {v1 v2 : Int32} {A : Int32} (hc : cres d 141 (.ref (9 : Nat) :: [.int v1, .int v2]) (mk n I L x) (.inl (some (.int A))) (mk n J L x)) : cres (d + 1) 337 [.ref (9 : Nat), .int v1, .int v2, .ref (559 : Nat)] (mk n I L x) (.inl (some (.int 0))) (mk n J (wrL L 559 0 A.toInt64) x) := by
  intro Φ h
  show wp (d + 1) 337 0 [.ref (9 : Nat), .int v1, .int v2, .ref (559 : Nat), noV] [] (mk n I L x) Φ
  rw [r337_0, r337_1, r337_2, r337_3, r337_4, r337_5 (by decide)]
  refine hc _ ?_
  show wp (d + 1) 337 8 [.ref (9 : Nat), .int v1, .int v2, .ref (559 : Nat), noV] [.int A, .int 0, .ref (559 : Nat)] (mk n J L x) Φ
  rw [r337_8, r337_9 s559 (by decide) (by decide) (by decide) z559, r337_10, r337_17, r337_18]
  exact h
theorem x337 {v1 v2 : Int32} {t c : Nat} (ht : hW 337 5 t c) (hc : cres d 141 (.ref (9 : Nat) :: [.int v1, .int v2]) (mk n I L x) (.inr t) (mk n J L (x + 1))) : cres (d + 1) 337 [.ref (9 : Nat), .int v1, .int v2, .ref (559 : Nat)] (mk n I L x) (.inl (some (.int (nt c)))) (mk n J L (x + 1)) := by
  intro Φ h
  show wp (d + 1) 337 0 [.ref (9 : Nat), .int v1, .int v2, .ref (559 : Nat), noV] [] (mk n I L x) Φ
  rw [r337_0, r337_1, r337_2, r337_3, r337_4, r337_5 (by decide)]
  refine hc _ ?_
  show (match hnd 337 5 t with
    | some v => Φ (.inl (some (.int v))) (mk n J L (x + 1))
    | none => Nat.blt 337 330 = true ∧ Φ (.inr t) (mk n J L (x + 1)))
  rw [show hnd 337 5 t = some (nt c) from ht]
  exact h
theorem w338 {v1 v2 : Int32} {A : Int32} (hc : cres d 142 (.ref (9 : Nat) :: [.int v1, .int v2]) (mk n I L x) (.inl (some (.int A))) (mk n J L x)) : cres (d + 1) 338 [.ref (9 : Nat), .int v1, .int v2, .ref (559 : Nat)] (mk n I L x) (.inl (some (.int 0))) (mk n J (wrL L 559 0 A.toInt64) x) := by
  intro Φ h
  show wp (d + 1) 338 0 [.ref (9 : Nat), .int v1, .int v2, .ref (559 : Nat), noV] [] (mk n I L x) Φ
  rw [r338_0, r338_1, r338_2, r338_3, r338_4, r338_5 (by decide)]
  refine hc _ ?_
  show wp (d + 1) 338 8 [.ref (9 : Nat), .int v1, .int v2, .ref (559 : Nat), noV] [.int A, .int 0, .ref (559 : Nat)] (mk n J L x) Φ
  rw [r338_8, r338_9 s559 (by decide) (by decide) (by decide) z559, r338_10, r338_17, r338_18]
  exact h
theorem x338 {v1 v2 : Int32} {t c : Nat} (ht : hW 338 5 t c) (hc : cres d 142 (.ref (9 : Nat) :: [.int v1, .int v2]) (mk n I L x) (.inr t) (mk n J L (x + 1))) : cres (d + 1) 338 [.ref (9 : Nat), .int v1, .int v2, .ref (559 : Nat)] (mk n I L x) (.inl (some (.int (nt c)))) (mk n J L (x + 1)) := by
  intro Φ h
  show wp (d + 1) 338 0 [.ref (9 : Nat), .int v1, .int v2, .ref (559 : Nat), noV] [] (mk n I L x) Φ
  rw [r338_0, r338_1, r338_2, r338_3, r338_4, r338_5 (by decide)]
  refine hc _ ?_
  show (match hnd 338 5 t with
    | some v => Φ (.inl (some (.int v))) (mk n J L (x + 1))
    | none => Nat.blt 338 330 = true ∧ Φ (.inr t) (mk n J L (x + 1)))
  rw [show hnd 338 5 t = some (nt c) from ht]
  exact h
theorem w339 {v1 v2 v3 v4 v5 v6 v7 v8 v9 : Int32} {A : Int32} (hc : cres d 143 (.ref (9 : Nat) :: [.int v1, .int v2, .int v3, .int v4, .int v5, .int v6, .int v7, .int v8, .int v9]) (mk n I L x) (.inl (some (.int A))) (mk n J L x)) : cres (d + 1) 339 [.ref (9 : Nat), .int v1, .int v2, .int v3, .int v4, .int v5, .int v6, .int v7, .int v8, .int v9, .ref (559 : Nat)] (mk n I L x) (.inl (some (.int 0))) (mk n J (wrL L 559 0 A.toInt64) x) := by
  intro Φ h
  show wp (d + 1) 339 0 [.ref (9 : Nat), .int v1, .int v2, .int v3, .int v4, .int v5, .int v6, .int v7, .int v8, .int v9, .ref (559 : Nat), noV] [] (mk n I L x) Φ
  rw [r339_0, r339_2, r339_3, r339_4, r339_5, r339_6, r339_7, r339_9, r339_11, r339_13, r339_15, r339_17, r339_19 (by decide)]
  refine hc _ ?_
  show wp (d + 1) 339 22 [.ref (9 : Nat), .int v1, .int v2, .int v3, .int v4, .int v5, .int v6, .int v7, .int v8, .int v9, .ref (559 : Nat), noV] [.int A, .int 0, .ref (559 : Nat)] (mk n J L x) Φ
  rw [r339_22, r339_23 s559 (by decide) (by decide) (by decide) z559, r339_24, r339_31, r339_32]
  exact h
theorem x339 {v1 v2 v3 v4 v5 v6 v7 v8 v9 : Int32} {t c : Nat} (ht : hW 339 19 t c) (hc : cres d 143 (.ref (9 : Nat) :: [.int v1, .int v2, .int v3, .int v4, .int v5, .int v6, .int v7, .int v8, .int v9]) (mk n I L x) (.inr t) (mk n J L (x + 1))) : cres (d + 1) 339 [.ref (9 : Nat), .int v1, .int v2, .int v3, .int v4, .int v5, .int v6, .int v7, .int v8, .int v9, .ref (559 : Nat)] (mk n I L x) (.inl (some (.int (nt c)))) (mk n J L (x + 1)) := by
  intro Φ h
  show wp (d + 1) 339 0 [.ref (9 : Nat), .int v1, .int v2, .int v3, .int v4, .int v5, .int v6, .int v7, .int v8, .int v9, .ref (559 : Nat), noV] [] (mk n I L x) Φ
  rw [r339_0, r339_2, r339_3, r339_4, r339_5, r339_6, r339_7, r339_9, r339_11, r339_13, r339_15, r339_17, r339_19 (by decide)]
  refine hc _ ?_
  show (match hnd 339 19 t with
    | some v => Φ (.inl (some (.int v))) (mk n J L (x + 1))
    | none => Nat.blt 339 330 = true ∧ Φ (.inr t) (mk n J L (x + 1)))
  rw [show hnd 339 19 t = some (nt c) from ht]
  exact h
theorem w340 {v1 : Int32} {A : Int32} (hc : cres d 144 (.ref (9 : Nat) :: [.int v1]) (mk n I L x) (.inl (some (.int A))) (mk n J L x)) : cres (d + 1) 340 [.ref (9 : Nat), .int v1, .ref (559 : Nat)] (mk n I L x) (.inl (some (.int 0))) (mk n J (wrL L 559 0 A.toInt64) x) := by
  intro Φ h
  show wp (d + 1) 340 0 [.ref (9 : Nat), .int v1, .ref (559 : Nat), noV] [] (mk n I L x) Φ
  rw [r340_0, r340_1, r340_2, r340_3, r340_4 (by decide)]
  refine hc _ ?_
  show wp (d + 1) 340 7 [.ref (9 : Nat), .int v1, .ref (559 : Nat), noV] [.int A, .int 0, .ref (559 : Nat)] (mk n J L x) Φ
  rw [r340_7, r340_8 s559 (by decide) (by decide) (by decide) z559, r340_9, r340_15, r340_16]
  exact h
theorem x340 {v1 : Int32} {t c : Nat} (ht : hW 340 4 t c) (hc : cres d 144 (.ref (9 : Nat) :: [.int v1]) (mk n I L x) (.inr t) (mk n J L (x + 1))) : cres (d + 1) 340 [.ref (9 : Nat), .int v1, .ref (559 : Nat)] (mk n I L x) (.inl (some (.int (nt c)))) (mk n J L (x + 1)) := by
  intro Φ h
  show wp (d + 1) 340 0 [.ref (9 : Nat), .int v1, .ref (559 : Nat), noV] [] (mk n I L x) Φ
  rw [r340_0, r340_1, r340_2, r340_3, r340_4 (by decide)]
  refine hc _ ?_
  show (match hnd 340 4 t with
    | some v => Φ (.inl (some (.int v))) (mk n J L (x + 1))
    | none => Nat.blt 340 330 = true ∧ Φ (.inr t) (mk n J L (x + 1)))
  rw [show hnd 340 4 t = some (nt c) from ht]
  exact h
theorem w341 {v1 v2 : Int32} {A : Int32} (hc : cres d 146 (.ref (9 : Nat) :: [.int v1, .int v2]) (mk n I L x) (.inl (some (.int A))) (mk n J L x)) : cres (d + 1) 341 [.ref (9 : Nat), .int v1, .int v2, .ref (559 : Nat)] (mk n I L x) (.inl (some (.int 0))) (mk n J (wrL L 559 0 A.toInt64) x) := by
  intro Φ h
  show wp (d + 1) 341 0 [.ref (9 : Nat), .int v1, .int v2, .ref (559 : Nat), noV] [] (mk n I L x) Φ
  rw [r341_0, r341_1, r341_2, r341_3, r341_4, r341_5 (by decide)]
  refine hc _ ?_
  show wp (d + 1) 341 8 [.ref (9 : Nat), .int v1, .int v2, .ref (559 : Nat), noV] [.int A, .int 0, .ref (559 : Nat)] (mk n J L x) Φ
  rw [r341_8, r341_9 s559 (by decide) (by decide) (by decide) z559, r341_10, r341_17, r341_18]
  exact h
theorem x341 {v1 v2 : Int32} {t c : Nat} (ht : hW 341 5 t c) (hc : cres d 146 (.ref (9 : Nat) :: [.int v1, .int v2]) (mk n I L x) (.inr t) (mk n J L (x + 1))) : cres (d + 1) 341 [.ref (9 : Nat), .int v1, .int v2, .ref (559 : Nat)] (mk n I L x) (.inl (some (.int (nt c)))) (mk n J L (x + 1)) := by
  intro Φ h
  show wp (d + 1) 341 0 [.ref (9 : Nat), .int v1, .int v2, .ref (559 : Nat), noV] [] (mk n I L x) Φ
  rw [r341_0, r341_1, r341_2, r341_3, r341_4, r341_5 (by decide)]
  refine hc _ ?_
  show (match hnd 341 5 t with
    | some v => Φ (.inl (some (.int v))) (mk n J L (x + 1))
    | none => Nat.blt 341 330 = true ∧ Φ (.inr t) (mk n J L (x + 1)))
  rw [show hnd 341 5 t = some (nt c) from ht]
  exact h
theorem w342 {v1 : Int32} {A : Int32} (hc : cres d 147 (.ref (9 : Nat) :: [.int v1]) (mk n I L x) (.inl (some (.int A))) (mk n J L x)) : cres (d + 1) 342 [.ref (9 : Nat), .int v1, .ref (559 : Nat)] (mk n I L x) (.inl (some (.int 0))) (mk n J (wrL L 559 0 A.toInt64) x) := by
  intro Φ h
  show wp (d + 1) 342 0 [.ref (9 : Nat), .int v1, .ref (559 : Nat), noV] [] (mk n I L x) Φ
  rw [r342_0, r342_1, r342_2, r342_3, r342_4 (by decide)]
  refine hc _ ?_
  show wp (d + 1) 342 7 [.ref (9 : Nat), .int v1, .ref (559 : Nat), noV] [.int A, .int 0, .ref (559 : Nat)] (mk n J L x) Φ
  rw [r342_7, r342_8 s559 (by decide) (by decide) (by decide) z559, r342_9, r342_15, r342_16]
  exact h
theorem x342 {v1 : Int32} {t c : Nat} (ht : hW 342 4 t c) (hc : cres d 147 (.ref (9 : Nat) :: [.int v1]) (mk n I L x) (.inr t) (mk n J L (x + 1))) : cres (d + 1) 342 [.ref (9 : Nat), .int v1, .ref (559 : Nat)] (mk n I L x) (.inl (some (.int (nt c)))) (mk n J L (x + 1)) := by
  intro Φ h
  show wp (d + 1) 342 0 [.ref (9 : Nat), .int v1, .ref (559 : Nat), noV] [] (mk n I L x) Φ
  rw [r342_0, r342_1, r342_2, r342_3, r342_4 (by decide)]
  refine hc _ ?_
  show (match hnd 342 4 t with
    | some v => Φ (.inl (some (.int v))) (mk n J L (x + 1))
    | none => Nat.blt 342 330 = true ∧ Φ (.inr t) (mk n J L (x + 1)))
  rw [show hnd 342 4 t = some (nt c) from ht]
  exact h
theorem w343 {v1 : Int32} {A : Int32} (hc : cres d 148 (.ref (9 : Nat) :: [.int v1]) (mk n I L x) (.inl (some (.int A))) (mk n J L x)) : cres (d + 1) 343 [.ref (9 : Nat), .int v1, .ref (559 : Nat)] (mk n I L x) (.inl (some (.int 0))) (mk n J (wrL L 559 0 A.toInt64) x) := by
  intro Φ h
  show wp (d + 1) 343 0 [.ref (9 : Nat), .int v1, .ref (559 : Nat), noV] [] (mk n I L x) Φ
  rw [r343_0, r343_1, r343_2, r343_3, r343_4 (by decide)]
  refine hc _ ?_
  show wp (d + 1) 343 7 [.ref (9 : Nat), .int v1, .ref (559 : Nat), noV] [.int A, .int 0, .ref (559 : Nat)] (mk n J L x) Φ
  rw [r343_7, r343_8 s559 (by decide) (by decide) (by decide) z559, r343_9, r343_15, r343_16]
  exact h
theorem x343 {v1 : Int32} {t c : Nat} (ht : hW 343 4 t c) (hc : cres d 148 (.ref (9 : Nat) :: [.int v1]) (mk n I L x) (.inr t) (mk n J L (x + 1))) : cres (d + 1) 343 [.ref (9 : Nat), .int v1, .ref (559 : Nat)] (mk n I L x) (.inl (some (.int (nt c)))) (mk n J L (x + 1)) := by
  intro Φ h
  show wp (d + 1) 343 0 [.ref (9 : Nat), .int v1, .ref (559 : Nat), noV] [] (mk n I L x) Φ
  rw [r343_0, r343_1, r343_2, r343_3, r343_4 (by decide)]
  refine hc _ ?_
  show (match hnd 343 4 t with
    | some v => Φ (.inl (some (.int v))) (mk n J L (x + 1))
    | none => Nat.blt 343 330 = true ∧ Φ (.inr t) (mk n J L (x + 1)))
  rw [show hnd 343 4 t = some (nt c) from ht]
  exact h
theorem w344 {v1 : Int32} {A : Int32} (hc : cres d 149 (.ref (9 : Nat) :: [.int v1]) (mk n I L x) (.inl (some (.int A))) (mk n J L x)) : cres (d + 1) 344 [.ref (9 : Nat), .int v1, .ref (559 : Nat)] (mk n I L x) (.inl (some (.int 0))) (mk n J (wrL L 559 0 A.toInt64) x) := by
  intro Φ h
  show wp (d + 1) 344 0 [.ref (9 : Nat), .int v1, .ref (559 : Nat), noV] [] (mk n I L x) Φ
  rw [r344_0, r344_1, r344_2, r344_3, r344_4 (by decide)]
  refine hc _ ?_
  show wp (d + 1) 344 7 [.ref (9 : Nat), .int v1, .ref (559 : Nat), noV] [.int A, .int 0, .ref (559 : Nat)] (mk n J L x) Φ
  rw [r344_7, r344_8 s559 (by decide) (by decide) (by decide) z559, r344_9, r344_15, r344_16]
  exact h
theorem x344 {v1 : Int32} {t c : Nat} (ht : hW 344 4 t c) (hc : cres d 149 (.ref (9 : Nat) :: [.int v1]) (mk n I L x) (.inr t) (mk n J L (x + 1))) : cres (d + 1) 344 [.ref (9 : Nat), .int v1, .ref (559 : Nat)] (mk n I L x) (.inl (some (.int (nt c)))) (mk n J L (x + 1)) := by
  intro Φ h
  show wp (d + 1) 344 0 [.ref (9 : Nat), .int v1, .ref (559 : Nat), noV] [] (mk n I L x) Φ
  rw [r344_0, r344_1, r344_2, r344_3, r344_4 (by decide)]
  refine hc _ ?_
  show (match hnd 344 4 t with
    | some v => Φ (.inl (some (.int v))) (mk n J L (x + 1))
    | none => Nat.blt 344 330 = true ∧ Φ (.inr t) (mk n J L (x + 1)))
  rw [show hnd 344 4 t = some (nt c) from ht]
  exact h
theorem w345 {v1 : Int32} {A : Int32} (hc : cres d 150 (.ref (9 : Nat) :: [.int v1]) (mk n I L x) (.inl (some (.int A))) (mk n J L x)) : cres (d + 1) 345 [.ref (9 : Nat), .int v1, .ref (559 : Nat)] (mk n I L x) (.inl (some (.int 0))) (mk n J (wrL L 559 0 A.toInt64) x) := by
  intro Φ h
  show wp (d + 1) 345 0 [.ref (9 : Nat), .int v1, .ref (559 : Nat), noV] [] (mk n I L x) Φ
  rw [r345_0, r345_1, r345_2, r345_3, r345_4 (by decide)]
  refine hc _ ?_
  show wp (d + 1) 345 7 [.ref (9 : Nat), .int v1, .ref (559 : Nat), noV] [.int A, .int 0, .ref (559 : Nat)] (mk n J L x) Φ
  rw [r345_7, r345_8 s559 (by decide) (by decide) (by decide) z559, r345_9, r345_15, r345_16]
  exact h
theorem x345 {v1 : Int32} {t c : Nat} (ht : hW 345 4 t c) (hc : cres d 150 (.ref (9 : Nat) :: [.int v1]) (mk n I L x) (.inr t) (mk n J L (x + 1))) : cres (d + 1) 345 [.ref (9 : Nat), .int v1, .ref (559 : Nat)] (mk n I L x) (.inl (some (.int (nt c)))) (mk n J L (x + 1)) := by
  intro Φ h
  show wp (d + 1) 345 0 [.ref (9 : Nat), .int v1, .ref (559 : Nat), noV] [] (mk n I L x) Φ
  rw [r345_0, r345_1, r345_2, r345_3, r345_4 (by decide)]
  refine hc _ ?_
  show (match hnd 345 4 t with
    | some v => Φ (.inl (some (.int v))) (mk n J L (x + 1))
    | none => Nat.blt 345 330 = true ∧ Φ (.inr t) (mk n J L (x + 1)))
  rw [show hnd 345 4 t = some (nt c) from ht]
  exact h
theorem w346 {v1 : Int32} {A : Int32} (hc : cres d 151 (.ref (9 : Nat) :: [.int v1]) (mk n I L x) (.inl (some (.int A))) (mk n J L x)) : cres (d + 1) 346 [.ref (9 : Nat), .int v1, .ref (559 : Nat)] (mk n I L x) (.inl (some (.int 0))) (mk n J (wrL L 559 0 A.toInt64) x) := by
  intro Φ h
  show wp (d + 1) 346 0 [.ref (9 : Nat), .int v1, .ref (559 : Nat), noV] [] (mk n I L x) Φ
  rw [r346_0, r346_1, r346_2, r346_3, r346_4 (by decide)]
  refine hc _ ?_
  show wp (d + 1) 346 7 [.ref (9 : Nat), .int v1, .ref (559 : Nat), noV] [.int A, .int 0, .ref (559 : Nat)] (mk n J L x) Φ
  rw [r346_7, r346_8 s559 (by decide) (by decide) (by decide) z559, r346_9, r346_15, r346_16]
  exact h
theorem x346 {v1 : Int32} {t c : Nat} (ht : hW 346 4 t c) (hc : cres d 151 (.ref (9 : Nat) :: [.int v1]) (mk n I L x) (.inr t) (mk n J L (x + 1))) : cres (d + 1) 346 [.ref (9 : Nat), .int v1, .ref (559 : Nat)] (mk n I L x) (.inl (some (.int (nt c)))) (mk n J L (x + 1)) := by
  intro Φ h
  show wp (d + 1) 346 0 [.ref (9 : Nat), .int v1, .ref (559 : Nat), noV] [] (mk n I L x) Φ
  rw [r346_0, r346_1, r346_2, r346_3, r346_4 (by decide)]
  refine hc _ ?_
  show (match hnd 346 4 t with
    | some v => Φ (.inl (some (.int v))) (mk n J L (x + 1))
    | none => Nat.blt 346 330 = true ∧ Φ (.inr t) (mk n J L (x + 1)))
  rw [show hnd 346 4 t = some (nt c) from ht]
  exact h
theorem w347 {v1 : Int32} {A : Int32} (hc : cres d 152 (.ref (9 : Nat) :: [.int v1]) (mk n I L x) (.inl (some (.int A))) (mk n J L x)) : cres (d + 1) 347 [.ref (9 : Nat), .int v1, .ref (559 : Nat)] (mk n I L x) (.inl (some (.int 0))) (mk n J (wrL L 559 0 A.toInt64) x) := by
  intro Φ h
  show wp (d + 1) 347 0 [.ref (9 : Nat), .int v1, .ref (559 : Nat), noV] [] (mk n I L x) Φ
  rw [r347_0, r347_1, r347_2, r347_3, r347_4 (by decide)]
  refine hc _ ?_
  show wp (d + 1) 347 7 [.ref (9 : Nat), .int v1, .ref (559 : Nat), noV] [.int A, .int 0, .ref (559 : Nat)] (mk n J L x) Φ
  rw [r347_7, r347_8 s559 (by decide) (by decide) (by decide) z559, r347_9, r347_15, r347_16]
  exact h
theorem x347 {v1 : Int32} {t c : Nat} (ht : hW 347 4 t c) (hc : cres d 152 (.ref (9 : Nat) :: [.int v1]) (mk n I L x) (.inr t) (mk n J L (x + 1))) : cres (d + 1) 347 [.ref (9 : Nat), .int v1, .ref (559 : Nat)] (mk n I L x) (.inl (some (.int (nt c)))) (mk n J L (x + 1)) := by
  intro Φ h
  show wp (d + 1) 347 0 [.ref (9 : Nat), .int v1, .ref (559 : Nat), noV] [] (mk n I L x) Φ
  rw [r347_0, r347_1, r347_2, r347_3, r347_4 (by decide)]
  refine hc _ ?_
  show (match hnd 347 4 t with
    | some v => Φ (.inl (some (.int v))) (mk n J L (x + 1))
    | none => Nat.blt 347 330 = true ∧ Φ (.inr t) (mk n J L (x + 1)))
  rw [show hnd 347 4 t = some (nt c) from ht]
  exact h
theorem w348 {v1 : Int32} {A : Int32} (hc : cres d 153 (.ref (9 : Nat) :: [.int v1]) (mk n I L x) (.inl (some (.int A))) (mk n J L x)) : cres (d + 1) 348 [.ref (9 : Nat), .int v1, .ref (559 : Nat)] (mk n I L x) (.inl (some (.int 0))) (mk n J (wrL L 559 0 A.toInt64) x) := by
  intro Φ h
  show wp (d + 1) 348 0 [.ref (9 : Nat), .int v1, .ref (559 : Nat), noV] [] (mk n I L x) Φ
  rw [r348_0, r348_1, r348_2, r348_3, r348_4 (by decide)]
  refine hc _ ?_
  show wp (d + 1) 348 7 [.ref (9 : Nat), .int v1, .ref (559 : Nat), noV] [.int A, .int 0, .ref (559 : Nat)] (mk n J L x) Φ
  rw [r348_7, r348_8 s559 (by decide) (by decide) (by decide) z559, r348_9, r348_15, r348_16]
  exact h
theorem x348 {v1 : Int32} {t c : Nat} (ht : hW 348 4 t c) (hc : cres d 153 (.ref (9 : Nat) :: [.int v1]) (mk n I L x) (.inr t) (mk n J L (x + 1))) : cres (d + 1) 348 [.ref (9 : Nat), .int v1, .ref (559 : Nat)] (mk n I L x) (.inl (some (.int (nt c)))) (mk n J L (x + 1)) := by
  intro Φ h
  show wp (d + 1) 348 0 [.ref (9 : Nat), .int v1, .ref (559 : Nat), noV] [] (mk n I L x) Φ
  rw [r348_0, r348_1, r348_2, r348_3, r348_4 (by decide)]
  refine hc _ ?_
  show (match hnd 348 4 t with
    | some v => Φ (.inl (some (.int v))) (mk n J L (x + 1))
    | none => Nat.blt 348 330 = true ∧ Φ (.inr t) (mk n J L (x + 1)))
  rw [show hnd 348 4 t = some (nt c) from ht]
  exact h
theorem w349 {v1 : Int32} {A : Int32} (hc : cres d 154 (.ref (9 : Nat) :: [.int v1]) (mk n I L x) (.inl (some (.int A))) (mk n J L x)) : cres (d + 1) 349 [.ref (9 : Nat), .int v1, .ref (559 : Nat)] (mk n I L x) (.inl (some (.int 0))) (mk n J (wrL L 559 0 A.toInt64) x) := by
  intro Φ h
  show wp (d + 1) 349 0 [.ref (9 : Nat), .int v1, .ref (559 : Nat), noV] [] (mk n I L x) Φ
  rw [r349_0, r349_1, r349_2, r349_3, r349_4 (by decide)]
  refine hc _ ?_
  show wp (d + 1) 349 7 [.ref (9 : Nat), .int v1, .ref (559 : Nat), noV] [.int A, .int 0, .ref (559 : Nat)] (mk n J L x) Φ
  rw [r349_7, r349_8 s559 (by decide) (by decide) (by decide) z559, r349_9, r349_15, r349_16]
  exact h
theorem x349 {v1 : Int32} {t c : Nat} (ht : hW 349 4 t c) (hc : cres d 154 (.ref (9 : Nat) :: [.int v1]) (mk n I L x) (.inr t) (mk n J L (x + 1))) : cres (d + 1) 349 [.ref (9 : Nat), .int v1, .ref (559 : Nat)] (mk n I L x) (.inl (some (.int (nt c)))) (mk n J L (x + 1)) := by
  intro Φ h
  show wp (d + 1) 349 0 [.ref (9 : Nat), .int v1, .ref (559 : Nat), noV] [] (mk n I L x) Φ
  rw [r349_0, r349_1, r349_2, r349_3, r349_4 (by decide)]
  refine hc _ ?_
  show (match hnd 349 4 t with
    | some v => Φ (.inl (some (.int v))) (mk n J L (x + 1))
    | none => Nat.blt 349 330 = true ∧ Φ (.inr t) (mk n J L (x + 1)))
  rw [show hnd 349 4 t = some (nt c) from ht]
  exact h
theorem w350 {v1 v2 v3 : Int32} {A : Int32} (hc : cres d 155 (.ref (9 : Nat) :: [.int v1, .int v2, .int v3]) (mk n I L x) (.inl (some (.int A))) (mk n J L x)) : cres (d + 1) 350 [.ref (9 : Nat), .int v1, .int v2, .int v3, .ref (559 : Nat)] (mk n I L x) (.inl (some (.int 0))) (mk n J (wrL L 559 0 A.toInt64) x) := by
  intro Φ h
  show wp (d + 1) 350 0 [.ref (9 : Nat), .int v1, .int v2, .int v3, .ref (559 : Nat), noV] [] (mk n I L x) Φ
  rw [r350_0, r350_2, r350_3, r350_4, r350_5, r350_6, r350_7 (by decide)]
  refine hc _ ?_
  show wp (d + 1) 350 10 [.ref (9 : Nat), .int v1, .int v2, .int v3, .ref (559 : Nat), noV] [.int A, .int 0, .ref (559 : Nat)] (mk n J L x) Φ
  rw [r350_10, r350_11 s559 (by decide) (by decide) (by decide) z559, r350_12, r350_19, r350_20]
  exact h
theorem x350 {v1 v2 v3 : Int32} {t c : Nat} (ht : hW 350 7 t c) (hc : cres d 155 (.ref (9 : Nat) :: [.int v1, .int v2, .int v3]) (mk n I L x) (.inr t) (mk n J L (x + 1))) : cres (d + 1) 350 [.ref (9 : Nat), .int v1, .int v2, .int v3, .ref (559 : Nat)] (mk n I L x) (.inl (some (.int (nt c)))) (mk n J L (x + 1)) := by
  intro Φ h
  show wp (d + 1) 350 0 [.ref (9 : Nat), .int v1, .int v2, .int v3, .ref (559 : Nat), noV] [] (mk n I L x) Φ
  rw [r350_0, r350_2, r350_3, r350_4, r350_5, r350_6, r350_7 (by decide)]
  refine hc _ ?_
  show (match hnd 350 7 t with
    | some v => Φ (.inl (some (.int v))) (mk n J L (x + 1))
    | none => Nat.blt 350 330 = true ∧ Φ (.inr t) (mk n J L (x + 1)))
  rw [show hnd 350 7 t = some (nt c) from ht]
  exact h
theorem w351 {v1 v2 v3 v4 : Int32} {A : Int64} (hc : cres d 156 (.ref (9 : Nat) :: [.int v1, .int v2, .int v3, .int v4]) (mk n I L x) (.inl (some (.long A))) (mk n J L x)) : cres (d + 1) 351 [.ref (9 : Nat), .int v1, .int v2, .int v3, .int v4, .ref (559 : Nat)] (mk n I L x) (.inl (some (.int 0))) (mk n J (wrL L 559 0 A) x) := by
  intro Φ h
  show wp (d + 1) 351 0 [.ref (9 : Nat), .int v1, .int v2, .int v3, .int v4, .ref (559 : Nat), noV] [] (mk n I L x) Φ
  rw [r351_0, r351_2, r351_3, r351_4, r351_5, r351_6, r351_7, r351_9 (by decide)]
  refine hc _ ?_
  show wp (d + 1) 351 12 [.ref (9 : Nat), .int v1, .int v2, .int v3, .int v4, .ref (559 : Nat), noV] [.long A, .int 0, .ref (559 : Nat)] (mk n J L x) Φ
  rw [r351_12 s559 (by decide) (by decide) (by decide) z559, r351_13, r351_20, r351_21]
  exact h
theorem x351 {v1 v2 v3 v4 : Int32} {t c : Nat} (ht : hW 351 9 t c) (hc : cres d 156 (.ref (9 : Nat) :: [.int v1, .int v2, .int v3, .int v4]) (mk n I L x) (.inr t) (mk n J L (x + 1))) : cres (d + 1) 351 [.ref (9 : Nat), .int v1, .int v2, .int v3, .int v4, .ref (559 : Nat)] (mk n I L x) (.inl (some (.int (nt c)))) (mk n J L (x + 1)) := by
  intro Φ h
  show wp (d + 1) 351 0 [.ref (9 : Nat), .int v1, .int v2, .int v3, .int v4, .ref (559 : Nat), noV] [] (mk n I L x) Φ
  rw [r351_0, r351_2, r351_3, r351_4, r351_5, r351_6, r351_7, r351_9 (by decide)]
  refine hc _ ?_
  show (match hnd 351 9 t with
    | some v => Φ (.inl (some (.int v))) (mk n J L (x + 1))
    | none => Nat.blt 351 330 = true ∧ Φ (.inr t) (mk n J L (x + 1)))
  rw [show hnd 351 9 t = some (nt c) from ht]
  exact h
theorem w352 {v1 v2 v3 : Int32} {A : Int32} (hc : cres d 157 (.ref (9 : Nat) :: [.int v1, .int v2, .int v3]) (mk n I L x) (.inl (some (.int A))) (mk n J L x)) : cres (d + 1) 352 [.ref (9 : Nat), .int v1, .int v2, .int v3, .ref (559 : Nat)] (mk n I L x) (.inl (some (.int 0))) (mk n J (wrL L 559 0 A.toInt64) x) := by
  intro Φ h
  show wp (d + 1) 352 0 [.ref (9 : Nat), .int v1, .int v2, .int v3, .ref (559 : Nat), noV] [] (mk n I L x) Φ
  rw [r352_0, r352_2, r352_3, r352_4, r352_5, r352_6, r352_7 (by decide)]
  refine hc _ ?_
  show wp (d + 1) 352 10 [.ref (9 : Nat), .int v1, .int v2, .int v3, .ref (559 : Nat), noV] [.int A, .int 0, .ref (559 : Nat)] (mk n J L x) Φ
  rw [r352_10, r352_11 s559 (by decide) (by decide) (by decide) z559, r352_12, r352_23, r352_24]
  exact h
theorem x352 {v1 v2 v3 : Int32} {t c : Nat} (ht : hW 352 7 t c) (hc : cres d 157 (.ref (9 : Nat) :: [.int v1, .int v2, .int v3]) (mk n I L x) (.inr t) (mk n J L (x + 1))) : cres (d + 1) 352 [.ref (9 : Nat), .int v1, .int v2, .int v3, .ref (559 : Nat)] (mk n I L x) (.inl (some (.int (nt c)))) (mk n J L (x + 1)) := by
  intro Φ h
  show wp (d + 1) 352 0 [.ref (9 : Nat), .int v1, .int v2, .int v3, .ref (559 : Nat), noV] [] (mk n I L x) Φ
  rw [r352_0, r352_2, r352_3, r352_4, r352_5, r352_6, r352_7 (by decide)]
  refine hc _ ?_
  show (match hnd 352 7 t with
    | some v => Φ (.inl (some (.int v))) (mk n J L (x + 1))
    | none => Nat.blt 352 330 = true ∧ Φ (.inr t) (mk n J L (x + 1)))
  rw [show hnd 352 7 t = some (nt c) from ht]
  exact h
theorem w353 {v1 v2 : Int32} {A : Int32} (hc : cres d 158 (.ref (9 : Nat) :: [.int v1, .int v2]) (mk n I L x) (.inl (some (.int A))) (mk n J L x)) : cres (d + 1) 353 [.ref (9 : Nat), .int v1, .int v2, .ref (559 : Nat)] (mk n I L x) (.inl (some (.int 0))) (mk n J (wrL L 559 0 A.toInt64) x) := by
  intro Φ h
  show wp (d + 1) 353 0 [.ref (9 : Nat), .int v1, .int v2, .ref (559 : Nat), noV] [] (mk n I L x) Φ
  rw [r353_0, r353_1, r353_2, r353_3, r353_4, r353_5 (by decide)]
  refine hc _ ?_
  show wp (d + 1) 353 8 [.ref (9 : Nat), .int v1, .int v2, .ref (559 : Nat), noV] [.int A, .int 0, .ref (559 : Nat)] (mk n J L x) Φ
  rw [r353_8, r353_9 s559 (by decide) (by decide) (by decide) z559, r353_10, r353_21, r353_22]
  exact h
theorem x353 {v1 v2 : Int32} {t c : Nat} (ht : hW 353 5 t c) (hc : cres d 158 (.ref (9 : Nat) :: [.int v1, .int v2]) (mk n I L x) (.inr t) (mk n J L (x + 1))) : cres (d + 1) 353 [.ref (9 : Nat), .int v1, .int v2, .ref (559 : Nat)] (mk n I L x) (.inl (some (.int (nt c)))) (mk n J L (x + 1)) := by
  intro Φ h
  show wp (d + 1) 353 0 [.ref (9 : Nat), .int v1, .int v2, .ref (559 : Nat), noV] [] (mk n I L x) Φ
  rw [r353_0, r353_1, r353_2, r353_3, r353_4, r353_5 (by decide)]
  refine hc _ ?_
  show (match hnd 353 5 t with
    | some v => Φ (.inl (some (.int v))) (mk n J L (x + 1))
    | none => Nat.blt 353 330 = true ∧ Φ (.inr t) (mk n J L (x + 1)))
  rw [show hnd 353 5 t = some (nt c) from ht]
  exact h
theorem w354 {v1 : Int32} {A : Int32} (hc : cres d 160 (.ref (9 : Nat) :: [.int v1]) (mk n I L x) (.inl (some (.int A))) (mk n J L x)) : cres (d + 1) 354 [.ref (9 : Nat), .int v1, .ref (559 : Nat)] (mk n I L x) (.inl (some (.int 0))) (mk n J (wrL L 559 0 A.toInt64) x) := by
  intro Φ h
  show wp (d + 1) 354 0 [.ref (9 : Nat), .int v1, .ref (559 : Nat), noV] [] (mk n I L x) Φ
  rw [r354_0, r354_1, r354_2, r354_3, r354_4 (by decide)]
  refine hc _ ?_
  show wp (d + 1) 354 7 [.ref (9 : Nat), .int v1, .ref (559 : Nat), noV] [.int A, .int 0, .ref (559 : Nat)] (mk n J L x) Φ
  rw [r354_7, r354_8 s559 (by decide) (by decide) (by decide) z559, r354_9, r354_15, r354_16]
  exact h
theorem x354 {v1 : Int32} {t c : Nat} (ht : hW 354 4 t c) (hc : cres d 160 (.ref (9 : Nat) :: [.int v1]) (mk n I L x) (.inr t) (mk n J L (x + 1))) : cres (d + 1) 354 [.ref (9 : Nat), .int v1, .ref (559 : Nat)] (mk n I L x) (.inl (some (.int (nt c)))) (mk n J L (x + 1)) := by
  intro Φ h
  show wp (d + 1) 354 0 [.ref (9 : Nat), .int v1, .ref (559 : Nat), noV] [] (mk n I L x) Φ
  rw [r354_0, r354_1, r354_2, r354_3, r354_4 (by decide)]
  refine hc _ ?_
  show (match hnd 354 4 t with
    | some v => Φ (.inl (some (.int v))) (mk n J L (x + 1))
    | none => Nat.blt 354 330 = true ∧ Φ (.inr t) (mk n J L (x + 1)))
  rw [show hnd 354 4 t = some (nt c) from ht]
  exact h
theorem w355 {v1 : Int32} {A : Int32} (hc : cres d 161 (.ref (9 : Nat) :: [.int v1]) (mk n I L x) (.inl (some (.int A))) (mk n J L x)) : cres (d + 1) 355 [.ref (9 : Nat), .int v1, .ref (559 : Nat)] (mk n I L x) (.inl (some (.int 0))) (mk n J (wrL L 559 0 A.toInt64) x) := by
  intro Φ h
  show wp (d + 1) 355 0 [.ref (9 : Nat), .int v1, .ref (559 : Nat), noV] [] (mk n I L x) Φ
  rw [r355_0, r355_1, r355_2, r355_3, r355_4 (by decide)]
  refine hc _ ?_
  show wp (d + 1) 355 7 [.ref (9 : Nat), .int v1, .ref (559 : Nat), noV] [.int A, .int 0, .ref (559 : Nat)] (mk n J L x) Φ
  rw [r355_7, r355_8 s559 (by decide) (by decide) (by decide) z559, r355_9, r355_15, r355_16]
  exact h
theorem x355 {v1 : Int32} {t c : Nat} (ht : hW 355 4 t c) (hc : cres d 161 (.ref (9 : Nat) :: [.int v1]) (mk n I L x) (.inr t) (mk n J L (x + 1))) : cres (d + 1) 355 [.ref (9 : Nat), .int v1, .ref (559 : Nat)] (mk n I L x) (.inl (some (.int (nt c)))) (mk n J L (x + 1)) := by
  intro Φ h
  show wp (d + 1) 355 0 [.ref (9 : Nat), .int v1, .ref (559 : Nat), noV] [] (mk n I L x) Φ
  rw [r355_0, r355_1, r355_2, r355_3, r355_4 (by decide)]
  refine hc _ ?_
  show (match hnd 355 4 t with
    | some v => Φ (.inl (some (.int v))) (mk n J L (x + 1))
    | none => Nat.blt 355 330 = true ∧ Φ (.inr t) (mk n J L (x + 1)))
  rw [show hnd 355 4 t = some (nt c) from ht]
  exact h
theorem w356 {v1 v2 : Int32} {A : Int32} (hc : cres d 162 (.ref (9 : Nat) :: [.int v1, .int v2]) (mk n I L x) (.inl (some (.int A))) (mk n J L x)) : cres (d + 1) 356 [.ref (9 : Nat), .int v1, .int v2, .ref (559 : Nat)] (mk n I L x) (.inl (some (.int 0))) (mk n J (wrL L 559 0 A.toInt64) x) := by
  intro Φ h
  show wp (d + 1) 356 0 [.ref (9 : Nat), .int v1, .int v2, .ref (559 : Nat), noV] [] (mk n I L x) Φ
  rw [r356_0, r356_1, r356_2, r356_3, r356_4, r356_5 (by decide)]
  refine hc _ ?_
  show wp (d + 1) 356 8 [.ref (9 : Nat), .int v1, .int v2, .ref (559 : Nat), noV] [.int A, .int 0, .ref (559 : Nat)] (mk n J L x) Φ
  rw [r356_8, r356_9 s559 (by decide) (by decide) (by decide) z559, r356_10, r356_21, r356_22]
  exact h
theorem x356 {v1 v2 : Int32} {t c : Nat} (ht : hW 356 5 t c) (hc : cres d 162 (.ref (9 : Nat) :: [.int v1, .int v2]) (mk n I L x) (.inr t) (mk n J L (x + 1))) : cres (d + 1) 356 [.ref (9 : Nat), .int v1, .int v2, .ref (559 : Nat)] (mk n I L x) (.inl (some (.int (nt c)))) (mk n J L (x + 1)) := by
  intro Φ h
  show wp (d + 1) 356 0 [.ref (9 : Nat), .int v1, .int v2, .ref (559 : Nat), noV] [] (mk n I L x) Φ
  rw [r356_0, r356_1, r356_2, r356_3, r356_4, r356_5 (by decide)]
  refine hc _ ?_
  show (match hnd 356 5 t with
    | some v => Φ (.inl (some (.int v))) (mk n J L (x + 1))
    | none => Nat.blt 356 330 = true ∧ Φ (.inr t) (mk n J L (x + 1)))
  rw [show hnd 356 5 t = some (nt c) from ht]
  exact h
theorem w357 {v1 : Int32} {A : Int32} (hc : cres d 163 (.ref (9 : Nat) :: [.int v1]) (mk n I L x) (.inl (some (.int A))) (mk n J L x)) : cres (d + 1) 357 [.ref (9 : Nat), .int v1, .ref (559 : Nat)] (mk n I L x) (.inl (some (.int 0))) (mk n J (wrL L 559 0 A.toInt64) x) := by
  intro Φ h
  show wp (d + 1) 357 0 [.ref (9 : Nat), .int v1, .ref (559 : Nat), noV] [] (mk n I L x) Φ
  rw [r357_0, r357_1, r357_2, r357_3, r357_4 (by decide)]
  refine hc _ ?_
  show wp (d + 1) 357 7 [.ref (9 : Nat), .int v1, .ref (559 : Nat), noV] [.int A, .int 0, .ref (559 : Nat)] (mk n J L x) Φ
  rw [r357_7, r357_8 s559 (by decide) (by decide) (by decide) z559, r357_9, r357_15, r357_16]
  exact h
theorem x357 {v1 : Int32} {t c : Nat} (ht : hW 357 4 t c) (hc : cres d 163 (.ref (9 : Nat) :: [.int v1]) (mk n I L x) (.inr t) (mk n J L (x + 1))) : cres (d + 1) 357 [.ref (9 : Nat), .int v1, .ref (559 : Nat)] (mk n I L x) (.inl (some (.int (nt c)))) (mk n J L (x + 1)) := by
  intro Φ h
  show wp (d + 1) 357 0 [.ref (9 : Nat), .int v1, .ref (559 : Nat), noV] [] (mk n I L x) Φ
  rw [r357_0, r357_1, r357_2, r357_3, r357_4 (by decide)]
  refine hc _ ?_
  show (match hnd 357 4 t with
    | some v => Φ (.inl (some (.int v))) (mk n J L (x + 1))
    | none => Nat.blt 357 330 = true ∧ Φ (.inr t) (mk n J L (x + 1)))
  rw [show hnd 357 4 t = some (nt c) from ht]
  exact h
theorem w358 {v1 : Int32} {A : Int32} (hc : cres d 165 (.ref (9 : Nat) :: [.int v1]) (mk n I L x) (.inl (some (.int A))) (mk n J L x)) : cres (d + 1) 358 [.ref (9 : Nat), .int v1, .ref (559 : Nat)] (mk n I L x) (.inl (some (.int 0))) (mk n J (wrL L 559 0 A.toInt64) x) := by
  intro Φ h
  show wp (d + 1) 358 0 [.ref (9 : Nat), .int v1, .ref (559 : Nat), noV] [] (mk n I L x) Φ
  rw [r358_0, r358_1, r358_2, r358_3, r358_4 (by decide)]
  refine hc _ ?_
  show wp (d + 1) 358 7 [.ref (9 : Nat), .int v1, .ref (559 : Nat), noV] [.int A, .int 0, .ref (559 : Nat)] (mk n J L x) Φ
  rw [r358_7, r358_8 s559 (by decide) (by decide) (by decide) z559, r358_9, r358_15, r358_16]
  exact h
theorem x358 {v1 : Int32} {t c : Nat} (ht : hW 358 4 t c) (hc : cres d 165 (.ref (9 : Nat) :: [.int v1]) (mk n I L x) (.inr t) (mk n J L (x + 1))) : cres (d + 1) 358 [.ref (9 : Nat), .int v1, .ref (559 : Nat)] (mk n I L x) (.inl (some (.int (nt c)))) (mk n J L (x + 1)) := by
  intro Φ h
  show wp (d + 1) 358 0 [.ref (9 : Nat), .int v1, .ref (559 : Nat), noV] [] (mk n I L x) Φ
  rw [r358_0, r358_1, r358_2, r358_3, r358_4 (by decide)]
  refine hc _ ?_
  show (match hnd 358 4 t with
    | some v => Φ (.inl (some (.int v))) (mk n J L (x + 1))
    | none => Nat.blt 358 330 = true ∧ Φ (.inr t) (mk n J L (x + 1)))
  rw [show hnd 358 4 t = some (nt c) from ht]
  exact h
theorem w359 {v1 : Int32} {A : Int32} (hc : cres d 166 (.ref (9 : Nat) :: [.int v1]) (mk n I L x) (.inl (some (.int A))) (mk n J L x)) : cres (d + 1) 359 [.ref (9 : Nat), .int v1, .ref (559 : Nat)] (mk n I L x) (.inl (some (.int 0))) (mk n J (wrL L 559 0 A.toInt64) x) := by
  intro Φ h
  show wp (d + 1) 359 0 [.ref (9 : Nat), .int v1, .ref (559 : Nat), noV] [] (mk n I L x) Φ
  rw [r359_0, r359_1, r359_2, r359_3, r359_4 (by decide)]
  refine hc _ ?_
  show wp (d + 1) 359 7 [.ref (9 : Nat), .int v1, .ref (559 : Nat), noV] [.int A, .int 0, .ref (559 : Nat)] (mk n J L x) Φ
  rw [r359_7, r359_8 s559 (by decide) (by decide) (by decide) z559, r359_9, r359_15, r359_16]
  exact h
theorem x359 {v1 : Int32} {t c : Nat} (ht : hW 359 4 t c) (hc : cres d 166 (.ref (9 : Nat) :: [.int v1]) (mk n I L x) (.inr t) (mk n J L (x + 1))) : cres (d + 1) 359 [.ref (9 : Nat), .int v1, .ref (559 : Nat)] (mk n I L x) (.inl (some (.int (nt c)))) (mk n J L (x + 1)) := by
  intro Φ h
  show wp (d + 1) 359 0 [.ref (9 : Nat), .int v1, .ref (559 : Nat), noV] [] (mk n I L x) Φ
  rw [r359_0, r359_1, r359_2, r359_3, r359_4 (by decide)]
  refine hc _ ?_
  show (match hnd 359 4 t with
    | some v => Φ (.inl (some (.int v))) (mk n J L (x + 1))
    | none => Nat.blt 359 330 = true ∧ Φ (.inr t) (mk n J L (x + 1)))
  rw [show hnd 359 4 t = some (nt c) from ht]
  exact h
theorem w360 {v1 v2 v3 v4 : Int32} {A : Int32} (hc : cres d 169 (.ref (9 : Nat) :: [.int v1, .int v2, .int v3, .int v4]) (mk n I L x) (.inl (some (.int A))) (mk n J L x)) : cres (d + 1) 360 [.ref (9 : Nat), .int v1, .int v2, .int v3, .int v4, .ref (559 : Nat)] (mk n I L x) (.inl (some (.int 0))) (mk n J (wrL L 559 0 A.toInt64) x) := by
  intro Φ h
  show wp (d + 1) 360 0 [.ref (9 : Nat), .int v1, .int v2, .int v3, .int v4, .ref (559 : Nat), noV] [] (mk n I L x) Φ
  rw [r360_0, r360_2, r360_3, r360_4, r360_5, r360_6, r360_7, r360_9 (by decide)]
  refine hc _ ?_
  show wp (d + 1) 360 12 [.ref (9 : Nat), .int v1, .int v2, .int v3, .int v4, .ref (559 : Nat), noV] [.int A, .int 0, .ref (559 : Nat)] (mk n J L x) Φ
  rw [r360_12, r360_13 s559 (by decide) (by decide) (by decide) z559, r360_14, r360_21, r360_22]
  exact h
theorem x360 {v1 v2 v3 v4 : Int32} {t c : Nat} (ht : hW 360 9 t c) (hc : cres d 169 (.ref (9 : Nat) :: [.int v1, .int v2, .int v3, .int v4]) (mk n I L x) (.inr t) (mk n J L (x + 1))) : cres (d + 1) 360 [.ref (9 : Nat), .int v1, .int v2, .int v3, .int v4, .ref (559 : Nat)] (mk n I L x) (.inl (some (.int (nt c)))) (mk n J L (x + 1)) := by
  intro Φ h
  show wp (d + 1) 360 0 [.ref (9 : Nat), .int v1, .int v2, .int v3, .int v4, .ref (559 : Nat), noV] [] (mk n I L x) Φ
  rw [r360_0, r360_2, r360_3, r360_4, r360_5, r360_6, r360_7, r360_9 (by decide)]
  refine hc _ ?_
  show (match hnd 360 9 t with
    | some v => Φ (.inl (some (.int v))) (mk n J L (x + 1))
    | none => Nat.blt 360 330 = true ∧ Φ (.inr t) (mk n J L (x + 1)))
  rw [show hnd 360 9 t = some (nt c) from ht]
  exact h
theorem w361 {v1 v2 v3 v4 v5 v6 : Int32} {A : Int32} (hc : cres d 170 (.ref (9 : Nat) :: [.int v1, .int v2, .int v3, .int v4, .int v5, .int v6]) (mk n I L x) (.inl (some (.int A))) (mk n J L x)) : cres (d + 1) 361 [.ref (9 : Nat), .int v1, .int v2, .int v3, .int v4, .int v5, .int v6, .ref (559 : Nat)] (mk n I L x) (.inl (some (.int 0))) (mk n J (wrL L 559 0 A.toInt64) x) := by
  intro Φ h
  show wp (d + 1) 361 0 [.ref (9 : Nat), .int v1, .int v2, .int v3, .int v4, .int v5, .int v6, .ref (559 : Nat), noV] [] (mk n I L x) Φ
  rw [r361_0, r361_2, r361_3, r361_4, r361_5, r361_6, r361_7, r361_9, r361_11, r361_13 (by decide)]
  refine hc _ ?_
  show wp (d + 1) 361 16 [.ref (9 : Nat), .int v1, .int v2, .int v3, .int v4, .int v5, .int v6, .ref (559 : Nat), noV] [.int A, .int 0, .ref (559 : Nat)] (mk n J L x) Φ
  rw [r361_16, r361_17 s559 (by decide) (by decide) (by decide) z559, r361_18, r361_25, r361_26]
  exact h
theorem x361 {v1 v2 v3 v4 v5 v6 : Int32} {t c : Nat} (ht : hW 361 13 t c) (hc : cres d 170 (.ref (9 : Nat) :: [.int v1, .int v2, .int v3, .int v4, .int v5, .int v6]) (mk n I L x) (.inr t) (mk n J L (x + 1))) : cres (d + 1) 361 [.ref (9 : Nat), .int v1, .int v2, .int v3, .int v4, .int v5, .int v6, .ref (559 : Nat)] (mk n I L x) (.inl (some (.int (nt c)))) (mk n J L (x + 1)) := by
  intro Φ h
  show wp (d + 1) 361 0 [.ref (9 : Nat), .int v1, .int v2, .int v3, .int v4, .int v5, .int v6, .ref (559 : Nat), noV] [] (mk n I L x) Φ
  rw [r361_0, r361_2, r361_3, r361_4, r361_5, r361_6, r361_7, r361_9, r361_11, r361_13 (by decide)]
  refine hc _ ?_
  show (match hnd 361 13 t with
    | some v => Φ (.inl (some (.int v))) (mk n J L (x + 1))
    | none => Nat.blt 361 330 = true ∧ Φ (.inr t) (mk n J L (x + 1)))
  rw [show hnd 361 13 t = some (nt c) from ht]
  exact h
theorem z330 (hI : LI I) (hx : x + 1 ≤ 600) (v1 : Int32) : WR (d + 35) 330 219 [.int v1] [.ref (9 : Nat), .int v1, .ref (559 : Nat)] n I L x := by
  refine wr_of (d := d + 34) (Mc := 132) (hs := hW 330 4) (fun A J h => w330 h) (fun t c J h1 h2 => x330 h1 h2) ?_
  exact pw132 (d := d + 22) (show hnd 330 4 2 = some (nt 1) by decide +kernel) hx hI
theorem z331 (hI : LI I) (hx : x + 1 ≤ 600) (v1 : Int32) : WR (d + 35) 331 230 [.int v1] [.ref (9 : Nat), .int v1, .ref (559 : Nat)] n I L x := by
  refine wr_of (d := d + 34) (Mc := 133) (hs := hW 331 4) (fun A J h => w331 h) (fun t c J h1 h2 => x331 h1 h2) ?_
  exact pw133 (show hnd 331 4 2 = some (nt 1) by decide +kernel) hx hI
theorem z332 (hI : LI I) (hx : x + 1 ≤ 600) (v1 : Int32) : WR (d + 35) 332 252 [.int v1] [.ref (9 : Nat), .int v1, .ref (559 : Nat)] n I L x := by
  refine wr_of (d := d + 34) (Mc := 134) (hs := hW 332 4) (fun A J h => w332 h) (fun t c J h1 h2 => x332 h1 h2) ?_
  exact pw134 (show hnd 332 4 2 = some (nt 1) by decide +kernel) hx hI
theorem z333 (hI : LI I) (hx : x + 1 ≤ 600) (v1 : Int32) : WR (d + 35) 333 235 [.int v1] [.ref (9 : Nat), .int v1, .ref (559 : Nat)] n I L x := by
  refine wr_of (d := d + 34) (Mc := 135) (hs := hW 333 4) (fun A J h => w333 h) (fun t c J h1 h2 => x333 h1 h2) ?_
  exact pw135 (d := d + 22) (show hnd 333 4 2 = some (nt 1) by decide +kernel) hx hI
theorem z334 (hI : LI I) (hx : x + 1 ≤ 600) (v1 : Int32) : WR (d + 35) 334 256 [.int v1] [.ref (9 : Nat), .int v1, .ref (559 : Nat)] n I L x := by
  refine wr_of (d := d + 34) (Mc := 138) (hs := hW 334 4) (fun A J h => w334 h) (fun t c J h1 h2 => x334 h1 h2) ?_
  have o2 : anOk (hW 334 4) (.inr (2, 1)) := ⟨Or.inr rfl, (show hnd 334 4 2 = some (nt 1) by decide +kernel), by decide, by decide⟩
  have ho : anOk (hW 334 4) (aTold I v1) := by
    unfold aTold
    repeat' (apply ok_ite)
    all_goals first | exact True.intro | exact o2
  exact pw_q (r := aTold I v1) hI ho (fun Φ h => q138 (d := d + 22) hI.1 hx h) (fun J hv L1 x1 Φ h => u256 (d := d + 22) (tr_Inv hv hI.1) (by rw [t_aTold hv]; exact h))
theorem z335 (hI : LI I) (hx : x + 1 ≤ 600) (v1 v2 : Int32) : WR (d + 35) 335 260 [.int v1, .int v2] [.ref (9 : Nat), .int v1, .int v2, .ref (559 : Nat)] n I L x := by
  refine wr_of (d := d + 34) (Mc := 139) (hs := hW 335 5) (fun A J h => w335 h) (fun t c J h1 h2 => x335 h1 h2) ?_
  have o1 : anOk (hW 335 5) (.inr (1, 1)) := ⟨Or.inl rfl, (show hnd 335 5 1 = some (nt 1) by decide +kernel), by decide, by decide⟩
  have o2 : anOk (hW 335 5) (.inr (2, 2)) := ⟨Or.inr rfl, (show hnd 335 5 2 = some (nt 2) by decide +kernel), by decide, by decide⟩
  have ho : anOk (hW 335 5) (aSleeper I v1 v2) := by
    unfold aSleeper
    repeat' (apply ok_ite)
    all_goals first | exact True.intro | exact o1 | exact o2
  exact pw_q (r := aSleeper I v1 v2) hI ho (fun Φ h => q139 (d := d + 22) hI.1 hx h) (fun J hv L1 x1 Φ h => u260 (d := d + 22) (tr_Inv hv hI.1) (by rw [t_aSleeper hv]; exact h))
theorem z336 (hI : LI I) (hx : x + 1 ≤ 600) (v1 v2 : Int32) : WR (d + 35) 336 261 [.int v1, .int v2] [.ref (9 : Nat), .int v1, .int v2, .ref (559 : Nat)] n I L x := by
  refine wr_of (d := d + 34) (Mc := 140) (hs := hW 336 5) (fun A J h => w336 h) (fun t c J h1 h2 => x336 h1 h2) ?_
  have o1 : anOk (hW 336 5) (.inr (1, 1)) := ⟨Or.inl rfl, (show hnd 336 5 1 = some (nt 1) by decide +kernel), by decide, by decide⟩
  have o2 : anOk (hW 336 5) (.inr (2, 2)) := ⟨Or.inr rfl, (show hnd 336 5 2 = some (nt 2) by decide +kernel), by decide, by decide⟩
  have ho : anOk (hW 336 5) (aClock I v1 v2) := by
    unfold aClock
    repeat' (apply ok_ite)
    all_goals first | exact True.intro | exact o1 | exact o2
  exact pw_q (r := aClock I v1 v2) hI ho (fun Φ h => q140 (d := d + 22) hI.1 hx h) (fun J hv L1 x1 Φ h => u261 (d := d + 22) (tr_Inv hv hI.1) (by rw [t_aClock hv]; exact h))
theorem z337 (hI : LI I) (hx : x + 1 ≤ 600) (v1 v2 : Int32) : WR (d + 35) 337 262 [.int v1, .int v2] [.ref (9 : Nat), .int v1, .int v2, .ref (559 : Nat)] n I L x := by
  refine wr_of (d := d + 34) (Mc := 141) (hs := hW 337 5) (fun A J h => w337 h) (fun t c J h1 h2 => x337 h1 h2) ?_
  have o1 : anOk (hW 337 5) (.inr (1, 1)) := ⟨Or.inl rfl, (show hnd 337 5 1 = some (nt 1) by decide +kernel), by decide, by decide⟩
  have ho : anOk (hW 337 5) (aNear I v1 v2) := by
    unfold aNear
    repeat' (apply ok_ite)
    all_goals first | exact True.intro | exact o1
  exact pw_q (r := aNear I v1 v2) hI ho (fun Φ h => q141 (d := d + 22) hI.1 hx h) (fun J hv L1 x1 Φ h => u262 (d := d + 22) (tr_Inv hv hI.1) (by rw [t_aNear hv]; exact h))
theorem z338 (hI : LI I) (hx : x + 1 ≤ 600) (v1 v2 : Int32) : WR (d + 35) 338 263 [.int v1, .int v2] [.ref (9 : Nat), .int v1, .int v2, .ref (559 : Nat)] n I L x := by
  refine wr_of (d := d + 34) (Mc := 142) (hs := hW 338 5) (fun A J h => w338 h) (fun t c J h1 h2 => x338 h1 h2) ?_
  have o1 : anOk (hW 338 5) (.inr (1, 1)) := ⟨Or.inl rfl, (show hnd 338 5 1 = some (nt 1) by decide +kernel), by decide, by decide⟩
  have ho : anOk (hW 338 5) (aNoise I v1 v2) := by
    unfold aNoise
    repeat' (apply ok_ite)
    all_goals first | exact True.intro | exact o1
  exact pw_q (r := aNoise I v1 v2) hI ho (fun Φ h => q142 (d := d + 22) hI.1 hx h) (fun J hv L1 x1 Φ h => u263 (d := d + 22) (tr_Inv hv hI.1) (by rw [t_aNoise hv]; exact h))
theorem z339 (hI : LI I) (hx : x + 1 ≤ 600) (v1 v2 v3 v4 v5 v6 v7 v8 v9 : Int32) : WR (d + 35) 339 264 [.int v1, .int v2, .int v3, .int v4, .int v5, .int v6, .int v7, .int v8, .int v9] [.ref (9 : Nat), .int v1, .int v2, .int v3, .int v4, .int v5, .int v6, .int v7, .int v8, .int v9, .ref (559 : Nat)] n I L x := by
  refine wr_of (d := d + 34) (Mc := 143) (hs := hW 339 19) (fun A J h => w339 h) (fun t c J h1 h2 => x339 h1 h2) ?_
  have o2 : anOk (hW 339 19) (.inr (2, 1)) := ⟨Or.inr rfl, (show hnd 339 19 2 = some (nt 1) by decide +kernel), by decide, by decide⟩
  have ho : anOk (hW 339 19) (aWould I v1 v2 v3 v4 v5 v6 v7 v8 v9) := by
    unfold aWould
    repeat' (apply ok_ite)
    all_goals first | exact True.intro | exact o2
  exact pw_q (r := aWould I v1 v2 v3 v4 v5 v6 v7 v8 v9) hI ho (fun Φ h => q143 (d := d + 22) hI.1 hx h) (fun J hv L1 x1 Φ h => u264 (d := d + 22) (tr_Inv hv hI.1) (by rw [t_aWould hv]; exact h))
theorem z340 (hI : LI I) (hx : x + 1 ≤ 600) (v1 : Int32) : WR (d + 35) 340 267 [.int v1] [.ref (9 : Nat), .int v1, .ref (559 : Nat)] n I L x := by
  refine wr_of (d := d + 34) (Mc := 144) (hs := hW 340 4) (fun A J h => w340 h) (fun t c J h1 h2 => x340 h1 h2) ?_
  have o2 : anOk (hW 340 4) (.inr (2, 1)) := ⟨Or.inr rfl, (show hnd 340 4 2 = some (nt 1) by decide +kernel), by decide, by decide⟩
  have ho : anOk (hW 340 4) (aRung I v1) := by
    unfold aRung
    repeat' (apply ok_ite)
    all_goals first | exact True.intro | exact o2
  exact pw_q (r := aRung I v1) hI ho (fun Φ h => q144 (d := d + 22) hI.1 hx h) (fun J hv L1 x1 Φ h => u267 (d := d + 22) (tr_Inv hv hI.1) (by rw [t_aRung hv]; exact h))
theorem z341 (hI : LI I) (hx : x + 1 ≤ 600) (v1 v2 : Int32) : WR (d + 35) 341 269 [.int v1, .int v2] [.ref (9 : Nat), .int v1, .int v2, .ref (559 : Nat)] n I L x := by
  refine wr_of (d := d + 34) (Mc := 146) (hs := hW 341 5) (fun A J h => w341 h) (fun t c J h1 h2 => x341 h1 h2) ?_
  have o2 : anOk (hW 341 5) (.inr (2, 1)) := ⟨Or.inr rfl, (show hnd 341 5 2 = some (nt 1) by decide +kernel), by decide, by decide⟩
  have ho : anOk (hW 341 5) (aAhead I v1 v2) := by
    unfold aAhead
    repeat' (apply ok_ite)
    all_goals first | exact True.intro | exact o2
  exact pw_q (r := aAhead I v1 v2) hI ho (fun Φ h => q146 (d := d + 22) hI.1 hx h) (fun J hv L1 x1 Φ h => u269 (d := d + 22) (tr_Inv hv hI.1) (by rw [t_aAhead hv]; exact h))
theorem z342 (hI : LI I) (hx : x + 1 ≤ 600) (v1 : Int32) : WR (d + 35) 342 270 [.int v1] [.ref (9 : Nat), .int v1, .ref (559 : Nat)] n I L x := by
  refine wr_of (d := d + 34) (Mc := 147) (hs := hW 342 4) (fun A J h => w342 h) (fun t c J h1 h2 => x342 h1 h2) ?_
  have o1 : anOk (hW 342 4) (.inr (1, 1)) := ⟨Or.inl rfl, (show hnd 342 4 1 = some (nt 1) by decide +kernel), by decide, by decide⟩
  have ho : anOk (hW 342 4) (aWakes I v1) := by
    unfold aWakes
    repeat' (apply ok_ite)
    all_goals first | exact True.intro | exact o1
  exact pw_q (r := aWakes I v1) hI ho (fun Φ h => q147 (d := d + 22) hI.1 hx h) (fun J hv L1 x1 Φ h => u270 (d := d + 22) (tr_Inv hv hI.1) (by rw [t_aWakes hv]; exact h))
theorem z343 (hI : LI I) (hx : x + 1 ≤ 600) (v1 : Int32) : WR (d + 35) 343 273 [.int v1] [.ref (9 : Nat), .int v1, .ref (559 : Nat)] n I L x := by
  refine wr_of (d := d + 34) (Mc := 148) (hs := hW 343 4) (fun A J h => w343 h) (fun t c J h1 h2 => x343 h1 h2) ?_
  have o1 : anOk (hW 343 4) (.inr (1, 1)) := ⟨Or.inl rfl, (show hnd 343 4 1 = some (nt 1) by decide +kernel), by decide, by decide⟩
  have ho : anOk (hW 343 4) (aCrown I v1) := by
    unfold aCrown
    repeat' (apply ok_ite)
    all_goals first | exact True.intro | exact o1
  exact pw_q (r := aCrown I v1) hI ho (fun Φ h => q148 (d := d + 22) hI.1 hx h) (fun J hv L1 x1 Φ h => u273 (d := d + 22) (tr_Inv hv hI.1) (by rw [t_aCrown hv]; exact h))
theorem z344 (hI : LI I) (hx : x + 1 ≤ 600) (v1 : Int32) : WR (d + 35) 344 275 [.int v1] [.ref (9 : Nat), .int v1, .ref (559 : Nat)] n I L x := by
  refine wr_of (d := d + 34) (Mc := 149) (hs := hW 344 4) (fun A J h => w344 h) (fun t c J h1 h2 => x344 h1 h2) ?_
  have o2 : anOk (hW 344 4) (.inr (2, 1)) := ⟨Or.inr rfl, (show hnd 344 4 2 = some (nt 1) by decide +kernel), by decide, by decide⟩
  have ho : anOk (hW 344 4) (aJust I v1) := by
    unfold aJust
    repeat' (apply ok_ite)
    all_goals first | exact True.intro | exact o2
  exact pw_q (r := aJust I v1) hI ho (fun Φ h => q149 (d := d + 22) hI.1 hx h) (fun J hv L1 x1 Φ h => u275 (d := d + 22) (tr_Inv hv hI.1) (by rw [t_aJust hv]; exact h))
theorem z345 (hI : LI I) (hx : x + 1 ≤ 600) (v1 : Int32) : WR (d + 35) 345 276 [.int v1] [.ref (9 : Nat), .int v1, .ref (559 : Nat)] n I L x := by
  refine wr_of (d := d + 34) (Mc := 150) (hs := hW 345 4) (fun A J h => w345 h) (fun t c J h1 h2 => x345 h1 h2) ?_
  have o2 : anOk (hW 345 4) (.inr (2, 1)) := ⟨Or.inr rfl, (show hnd 345 4 2 = some (nt 1) by decide +kernel), by decide, by decide⟩
  have ho : anOk (hW 345 4) (aEach I v1) := by
    unfold aEach
    repeat' (apply ok_ite)
    all_goals first | exact True.intro | exact o2
  exact pw_q (r := aEach I v1) hI ho (fun Φ h => q150 (d := d + 22) hI.1 hx h) (fun J hv L1 x1 Φ h => u276 (d := d + 22) (tr_Inv hv hI.1) (by rw [t_aEach hv]; exact h))
theorem z346 (hI : LI I) (hx : x + 1 ≤ 600) (v1 : Int32) : WR (d + 35) 346 278 [.int v1] [.ref (9 : Nat), .int v1, .ref (559 : Nat)] n I L x := by
  refine wr_of (d := d + 34) (Mc := 151) (hs := hW 346 4) (fun A J h => w346 h) (fun t c J h1 h2 => x346 h1 h2) ?_
  have o2 : anOk (hW 346 4) (.inr (2, 1)) := ⟨Or.inr rfl, (show hnd 346 4 2 = some (nt 1) by decide +kernel), by decide, by decide⟩
  have ho : anOk (hW 346 4) (aWhich I v1) := by
    unfold aWhich
    repeat' (apply ok_ite)
    all_goals first | exact True.intro | exact o2
  exact pw_q (r := aWhich I v1) hI ho (fun Φ h => q151 (d := d + 22) hI.1 hx h) (fun J hv L1 x1 Φ h => u278 (d := d + 22) (tr_Inv hv hI.1) (by rw [t_aWhich hv]; exact h))
theorem z347 (hI : LI I) (hx : x + 1 ≤ 600) (v1 : Int32) : WR (d + 35) 347 280 [.int v1] [.ref (9 : Nat), .int v1, .ref (559 : Nat)] n I L x := by
  refine wr_of (d := d + 34) (Mc := 152) (hs := hW 347 4) (fun A J h => w347 h) (fun t c J h1 h2 => x347 h1 h2) ?_
  have o2 : anOk (hW 347 4) (.inr (2, 1)) := ⟨Or.inr rfl, (show hnd 347 4 2 = some (nt 1) by decide +kernel), by decide, by decide⟩
  have ho : anOk (hW 347 4) (aAsk I v1) := by
    unfold aAsk
    repeat' (apply ok_ite)
    all_goals first | exact True.intro | exact o2
  exact pw_q (r := aAsk I v1) hI ho (fun Φ h => q152 (d := d + 22) hI.1 hx h) (fun J hv L1 x1 Φ h => u280 (d := d + 22) (tr_Inv hv hI.1) (by rw [t_aAsk hv]; exact h))
theorem z348 (hI : LI I) (hx : x + 1 ≤ 600) (v1 : Int32) : WR (d + 35) 348 283 [.int v1] [.ref (9 : Nat), .int v1, .ref (559 : Nat)] n I L x := by
  refine wr_of (d := d + 34) (Mc := 153) (hs := hW 348 4) (fun A J h => w348 h) (fun t c J h1 h2 => x348 h1 h2) ?_
  have o1 : anOk (hW 348 4) (.inr (1, 1)) := ⟨Or.inl rfl, (show hnd 348 4 1 = some (nt 1) by decide +kernel), by decide, by decide⟩
  have ho : anOk (hW 348 4) (aSwing I v1) := by
    unfold aSwing
    repeat' (apply ok_ite)
    all_goals first | exact True.intro | exact o1
  exact pw_q (r := aSwing I v1) hI ho (fun Φ h => q153 (d := d + 22) hI.1 hx h) (fun J hv L1 x1 Φ h => u283 (d := d + 22) (tr_Inv hv hI.1) (by rw [t_aSwing hv]; exact h))
theorem z349 (hI : LI I) (hx : x + 1 ≤ 600) (v1 : Int32) : WR (d + 35) 349 285 [.int v1] [.ref (9 : Nat), .int v1, .ref (559 : Nat)] n I L x := by
  refine wr_of (d := d + 34) (Mc := 154) (hs := hW 349 4) (fun A J h => w349 h) (fun t c J h1 h2 => x349 h1 h2) ?_
  have o1 : anOk (hW 349 4) (.inr (1, 1)) := ⟨Or.inl rfl, (show hnd 349 4 1 = some (nt 1) by decide +kernel), by decide, by decide⟩
  have ho : anOk (hW 349 4) (aLasts I v1) := by
    unfold aLasts
    repeat' (apply ok_ite)
    all_goals first | exact True.intro | exact o1
  exact pw_q (r := aLasts I v1) hI ho (fun Φ h => q154 (d := d + 22) hI.1 hx h) (fun J hv L1 x1 Φ h => u285 (d := d + 22) (tr_Inv hv hI.1) (by rw [t_aLasts hv]; exact h))
theorem z350 (hI : LI I) (hx : x + 1 ≤ 600) (v1 v2 v3 : Int32) : WR (d + 35) 350 288 [.int v1, .int v2, .int v3] [.ref (9 : Nat), .int v1, .int v2, .int v3, .ref (559 : Nat)] n I L x := by
  refine wr_of (d := d + 34) (Mc := 155) (hs := hW 350 7) (fun A J h => w350 h) (fun t c J h1 h2 => x350 h1 h2) ?_
  have o2 : anOk (hW 350 7) (.inr (2, 1)) := ⟨Or.inr rfl, (show hnd 350 7 2 = some (nt 1) by decide +kernel), by decide, by decide⟩
  have ho : anOk (hW 350 7) (aCoup I v1 v2 v3) := by
    unfold aCoup
    repeat' (apply ok_ite)
    all_goals first | exact True.intro | exact o2
  exact pw_q (r := aCoup I v1 v2 v3) hI ho (fun Φ h => q155 (d := d + 22) hI.1 hx h) (fun J hv L1 x1 Φ h => u288 (d := d + 22) (tr_Inv hv hI.1) (by rw [t_aCoup hv]; exact h))
theorem z351 (hI : LI I) (hx : x + 1 ≤ 600) (v1 v2 v3 v4 : Int32) : WL (d + 35) 351 289 [.int v1, .int v2, .int v3, .int v4] [.ref (9 : Nat), .int v1, .int v2, .int v3, .int v4, .ref (559 : Nat)] n I L x := by
  refine wl_of (d := d + 34) (Mc := 156) (hs := hW 351 9) (fun A J h => w351 h) (fun t c J h1 h2 => x351 h1 h2) ?_
  refine pl_q (r := aPro v1 v2 v3 v4) hI (fun q hq => ?_) (fun Φ h => q156 (d := d + 22) hI.1 hx h) (fun J hv L1 x1 Φ h => u289 (d := d + 22) (tr_Inv hv hI.1) h)
  unfold aPro at hq
  split at hq
  · split at hq
    · split at hq
      · split at hq
        · cases hq
        · cases hq; exact ⟨Or.inr rfl, (show hnd 351 9 2 = some (nt 1) by decide +kernel), by decide, by decide⟩
      · cases hq; exact ⟨Or.inr rfl, (show hnd 351 9 2 = some (nt 1) by decide +kernel), by decide, by decide⟩
    · cases hq; exact ⟨Or.inr rfl, (show hnd 351 9 2 = some (nt 1) by decide +kernel), by decide, by decide⟩
  · cases hq; exact ⟨Or.inr rfl, (show hnd 351 9 2 = some (nt 1) by decide +kernel), by decide, by decide⟩
theorem z352 (hI : LI I) (hx : x + 1 ≤ 600) (v1 v2 v3 : Int32) : WR (d + 35) 352 291 [.int v1, .int v2, .int v3] [.ref (9 : Nat), .int v1, .int v2, .int v3, .ref (559 : Nat)] n I L x := by
  refine wr_of (d := d + 34) (Mc := 157) (hs := hW 352 7) (fun A J h => w352 h) (fun t c J h1 h2 => x352 h1 h2) ?_
  have o1 : anOk (hW 352 7) (.inr (1, 1)) := ⟨Or.inl rfl, (show hnd 352 7 1 = some (nt 1) by decide +kernel), by decide, by decide⟩
  have o2 : anOk (hW 352 7) (.inr (2, 2)) := ⟨Or.inr rfl, (show hnd 352 7 2 = some (nt 2) by decide +kernel), by decide, by decide⟩
  have ho : anOk (hW 352 7) (aDreams I v1 v2 v3) := by
    unfold aDreams
    repeat' (apply ok_ite)
    all_goals first | exact True.intro | exact o1 | exact o2
  exact pw_q (r := aDreams I v1 v2 v3) hI ho (fun Φ h => q157 (d := d + 22) hI.1 hx h) (fun J hv L1 x1 Φ h => u291 (d := d + 22) (tr_Inv hv hI.1) (by rw [t_aDreams hv]; exact h))
theorem z353 (hI : LI I) (hx : x + 1 ≤ 600) (v1 v2 : Int32) : WR (d + 35) 353 292 [.int v1, .int v2] [.ref (9 : Nat), .int v1, .int v2, .ref (559 : Nat)] n I L x := by
  refine wr_of (d := d + 34) (Mc := 158) (hs := hW 353 5) (fun A J h => w353 h) (fun t c J h1 h2 => x353 h1 h2) ?_
  have o1 : anOk (hW 353 5) (.inr (1, 1)) := ⟨Or.inl rfl, (show hnd 353 5 1 = some (nt 1) by decide +kernel), by decide, by decide⟩
  have o2 : anOk (hW 353 5) (.inr (2, 2)) := ⟨Or.inr rfl, (show hnd 353 5 2 = some (nt 2) by decide +kernel), by decide, by decide⟩
  have ho : anOk (hW 353 5) (aLoudest I v1 v2) := by
    unfold aLoudest
    repeat' (apply ok_ite)
    all_goals first | exact True.intro | exact o1 | exact o2
  exact pw_q (r := aLoudest I v1 v2) hI ho (fun Φ h => q158 (d := d + 22) hI.1 hx h) (fun J hv L1 x1 Φ h => u292 (d := d + 22) (tr_Inv hv hI.1) (by rw [t_aLoudest hv]; exact h))
theorem z354 (hI : LI I) (hx : x + 1 ≤ 600) (v1 : Int32) : WR (d + 35) 354 284 [.int v1] [.ref (9 : Nat), .int v1, .ref (559 : Nat)] n I L x := by
  refine wr_of (d := d + 34) (Mc := 160) (hs := hW 354 4) (fun A J h => w354 h) (fun t c J h1 h2 => x354 h1 h2) ?_
  have o2 : anOk (hW 354 4) (.inr (2, 1)) := ⟨Or.inr rfl, (show hnd 354 4 2 = some (nt 1) by decide +kernel), by decide, by decide⟩
  have ho : anOk (hW 354 4) (aVotes I v1) := by
    unfold aVotes
    repeat' (apply ok_ite)
    all_goals first | exact True.intro | exact o2
  exact pw_q (r := aVotes I v1) hI ho (fun Φ h => q160 (d := d + 22) hI.1 hx h) (fun J hv L1 x1 Φ h => u284 (d := d + 22) (tr_Inv hv hI.1) (by rw [t_aVotes hv]; exact h))
theorem z355 (hI : LI I) (hx : x + 1 ≤ 600) (v1 : Int32) : WR (d + 35) 355 300 [.int v1] [.ref (9 : Nat), .int v1, .ref (559 : Nat)] n I L x := by
  refine wr_of (d := d + 34) (Mc := 161) (hs := hW 355 4) (fun A J h => w355 h) (fun t c J h1 h2 => x355 h1 h2) ?_
  have o2 : anOk (hW 355 4) (.inr (2, 1)) := ⟨Or.inr rfl, (show hnd 355 4 2 = some (nt 1) by decide +kernel), by decide, by decide⟩
  have ho : anOk (hW 355 4) (aStroke I v1) := by
    unfold aStroke
    repeat' (apply ok_ite)
    all_goals first | exact True.intro | exact o2
  exact pw_q (r := aStroke I v1) hI ho (fun Φ h => q161 (d := d + 22) hI.1 hx h) (fun J hv L1 x1 Φ h => u300 (d := d + 22) (tr_Inv hv hI.1) (by rw [t_aStroke hv]; exact h))
theorem z356 (hI : LI I) (hx : x + 1 ≤ 600) (v1 v2 : Int32) : WR (d + 35) 356 301 [.int v1, .int v2] [.ref (9 : Nat), .int v1, .int v2, .ref (559 : Nat)] n I L x := by
  refine wr_of (d := d + 34) (Mc := 162) (hs := hW 356 5) (fun A J h => w356 h) (fun t c J h1 h2 => x356 h1 h2) ?_
  have o1 : anOk (hW 356 5) (.inr (1, 1)) := ⟨Or.inl rfl, (show hnd 356 5 1 = some (nt 1) by decide +kernel), by decide, by decide⟩
  have o2 : anOk (hW 356 5) (.inr (2, 2)) := ⟨Or.inr rfl, (show hnd 356 5 2 = some (nt 2) by decide +kernel), by decide, by decide⟩
  have ho : anOk (hW 356 5) (aLacks I v1 v2) := by
    unfold aLacks
    repeat' (apply ok_ite)
    all_goals first | exact True.intro | exact o1 | exact o2
  exact pw_q (r := aLacks I v1 v2) hI ho (fun Φ h => q162 (d := d + 22) hI.1 hx h) (fun J hv L1 x1 Φ h => u301 (d := d + 22) (tr_Inv hv hI.1) (by rw [t_aLacks hv]; exact h))
theorem z357 (hI : LI I) (hx : x + 1 ≤ 600) (v1 : Int32) : WR (d + 35) 357 294 [.int v1] [.ref (9 : Nat), .int v1, .ref (559 : Nat)] n I L x := by
  refine wr_of (d := d + 34) (Mc := 163) (hs := hW 357 4) (fun A J h => w357 h) (fun t c J h1 h2 => x357 h1 h2) ?_
  have o1 : anOk (hW 357 4) (.inr (1, 1)) := ⟨Or.inl rfl, (show hnd 357 4 1 = some (nt 1) by decide +kernel), by decide, by decide⟩
  have ho : anOk (hW 357 4) (aDeaf I v1) := by
    unfold aDeaf
    repeat' (apply ok_ite)
    all_goals first | exact True.intro | exact o1
  exact pw_q (r := aDeaf I v1) hI ho (fun Φ h => q163 (d := d + 22) hI.1 hx h) (fun J hv L1 x1 Φ h => u294 (d := d + 22) (tr_Inv hv hI.1) (by rw [t_aDeaf hv]; exact h))
theorem z358 (hI : LI I) (hx : x + 1 ≤ 600) (v1 : Int32) : WR (d + 35) 358 296 [.int v1] [.ref (9 : Nat), .int v1, .ref (559 : Nat)] n I L x := by
  refine wr_of (d := d + 34) (Mc := 165) (hs := hW 358 4) (fun A J h => w358 h) (fun t c J h1 h2 => x358 h1 h2) ?_
  have o2 : anOk (hW 358 4) (.inr (2, 1)) := ⟨Or.inr rfl, (show hnd 358 4 2 = some (nt 1) by decide +kernel), by decide, by decide⟩
  have ho : anOk (hW 358 4) (aLight I v1) := by
    unfold aLight
    repeat' (apply ok_ite)
    all_goals first | exact True.intro | exact o2
  exact pw_q (r := aLight I v1) hI ho (fun Φ h => q165 (d := d + 22) hI.1 hx h) (fun J hv L1 x1 Φ h => u296 (d := d + 22) (tr_Inv hv hI.1) (by rw [t_aLight hv]; exact h))
theorem z359 (hI : LI I) (hx : x + 1 ≤ 600) (v1 : Int32) : WR (d + 35) 359 297 [.int v1] [.ref (9 : Nat), .int v1, .ref (559 : Nat)] n I L x := by
  refine wr_of (d := d + 34) (Mc := 166) (hs := hW 359 4) (fun A J h => w359 h) (fun t c J h1 h2 => x359 h1 h2) ?_
  have o1 : anOk (hW 359 4) (.inr (1, 1)) := ⟨Or.inl rfl, (show hnd 359 4 1 = some (nt 1) by decide +kernel), by decide, by decide⟩
  have ho : anOk (hW 359 4) (aAll I v1) := by
    unfold aAll
    repeat' (apply ok_ite)
    all_goals first | exact True.intro | exact o1
  exact pw_q (r := aAll I v1) hI ho (fun Φ h => q166 (d := d + 22) hI.1 hx h) (fun J hv L1 x1 Φ h => u297 (d := d + 22) (tr_Inv hv hI.1) (by rw [t_aAll hv]; exact h))
theorem z360 (hI : LI I) (hx : x + 1 ≤ 600) (v1 v2 v3 v4 : Int32) : WR (d + 35) 360 306 [.int v1, .int v2, .int v3, .int v4] [.ref (9 : Nat), .int v1, .int v2, .int v3, .int v4, .ref (559 : Nat)] n I L x := by
  refine wr_of (d := d + 34) (Mc := 169) (hs := hW 360 9) (fun A J h => w360 h) (fun t c J h1 h2 => x360 h1 h2) ?_
  have o2 : anOk (hW 360 9) (.inr (2, 1)) := ⟨Or.inr rfl, (show hnd 360 9 2 = some (nt 1) by decide +kernel), by decide, by decide⟩
  have ho : anOk (hW 360 9) (aYear drw I v1 v2 v3 v4) := by
    unfold aYear
    repeat' (apply ok_ite)
    all_goals first | exact True.intro | exact o2
  exact pw_q (r := aYear drw I v1 v2 v3 v4) hI ho (fun Φ h => q169 (d := d + 22) hI.1 hx (fun _ => rfl) h) (fun J hv L1 x1 Φ h => u306 (d := d + 22) (tr_Inv hv hI.1) (fun _ => rfl) (by rw [t_aYear hv]; exact h))
theorem z361 (hI : LI I) (hx : x + 1 ≤ 600) (v1 v2 v3 v4 v5 v6 : Int32) : WR (d + 35) 361 307 [.int v1, .int v2, .int v3, .int v4, .int v5, .int v6] [.ref (9 : Nat), .int v1, .int v2, .int v3, .int v4, .int v5, .int v6, .ref (559 : Nat)] n I L x := by
  refine wr_of (d := d + 34) (Mc := 170) (hs := hW 361 13) (fun A J h => w361 h) (fun t c J h1 h2 => x361 h1 h2) ?_
  have o2 : anOk (hW 361 13) (.inr (2, 1)) := ⟨Or.inr rfl, (show hnd 361 13 2 = some (nt 1) by decide +kernel), by decide, by decide⟩
  have ho : anOk (hW 361 13) (aSpan drw I v1 v2 v3 v4 v5 v6) := by
    unfold aSpan
    repeat' (apply ok_ite)
    all_goals first | exact True.intro | exact o2
  exact pw_q (r := aSpan drw I v1 v2 v3 v4 v5 v6) hI ho (fun Φ h => q170 (d := d + 22) hI.1 hx (fun _ => rfl) h) (fun J hv L1 x1 Φ h => u307 (d := d + 22) (tr_Inv hv hI.1) (fun _ => rfl) (by rw [t_aSpan hv]; exact h))
theorem pd136 (hI : LI I) (hx : x + 1 ≤ 600) : PD (d + 12) 136 236 [] n I L x := by
  refine pd_q hI (fun Φ h => q136 hI.1 hx h) (fun J hv L1 x1 Φ h => u236 (tr_Inv hv hI.1) (by rw [t_aFault hv]; exact h))
theorem pd145 (hI : LI I) (hx : x + 1 ≤ 600) : PD (d + 12) 145 268 [] n I L x := by
  refine pd_q hI (fun Φ h => q145 hI.1 hx h) (fun J hv L1 x1 Φ h => u268 (tr_Inv hv hI.1) (by rw [t_aRings hv]; exact h))
theorem pd159 (hI : LI I) (hx : x + 1 ≤ 600) : PD (d + 12) 159 293 [] n I L x := by
  refine pd_q hI (fun Φ h => q159 hI.1 hx h) (fun J hv L1 x1 Φ h => u293 (tr_Inv hv hI.1) (by rw [t_aDead hv]; exact h))
theorem pd164 (hI : LI I) (hx : x + 1 ≤ 600) : PD (d + 12) 164 295 [] n I L x := by
  refine pd_q hI (fun Φ h => q164 hI.1 hx h) (fun J hv L1 x1 Φ h => u295 (tr_Inv hv hI.1) (by rw [t_aIdle hv]; exact h))
theorem pd167 (hI : LI I) (hx : x + 1 ≤ 600) : PD (d + 12) 167 298 [] n I L x := by
  refine pd_q hI (fun Φ h => q167 hI.1 hx h) (fun J hv L1 x1 Φ h => u298 (tr_Inv hv hI.1) (by rw [t_aBells hv]; exact h))
theorem pd168 (hI : LI I) (hx : x + 1 ≤ 600) : PD (d + 12) 168 299 [] n I L x := by
  refine pd_q hI (fun Φ h => q168 hI.1 hx h) (fun J hv L1 x1 Φ h => u299 (tr_Inv hv hI.1) (by rw [t_aUntil hv]; exact h))
theorem pd174 (hI : LI I) (hx : x + 1 ≤ 600) (v1 : Int32) : PD (d + 12) 174 313 [.int v1] n I L x := by
  refine pd_q hI (fun Φ h => q174 hI.1 hx h) (fun J hv L1 x1 Φ h => u313 (tr_Inv hv hI.1) (by rw [t_aCount hv]; exact h))
end Wx

