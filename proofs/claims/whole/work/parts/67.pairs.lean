/-! PAIRS OF CALLS -/
def LI (I : Nat → Nat → Int32) : Prop := Inv I ∧ I 72 0 = I 9 16 ∧ I 72 1 = I 9 17
/-- a call that comes to this end -/
def cres (d M : Nat) (as : List Value) (μ : PM) (o : POut) (μ' : PM) : Prop := ∀ Φ : POut → PM → Prop, Φ o μ' → wpc d M as μ Φ
theorem cres_of {d M : Nat} {as : List Value} {μ : PM} {P : POut → PM → Prop} (h : wpc d M as μ P) : ∃ o μ', P o μ' ∧ cres d M as μ o μ' := by
  obtain ⟨n, ⟨o, m⟩, h1, h2⟩ := h
  exact ⟨o, m, h2, fun Φ hΦ => ⟨n, (o, m), h1, hΦ⟩⟩
/-- calls without a wrapper -/
def PD (d Mc Mm : Nat) (as : List Value) (n : Nat) (I : Nat → Nat → Int32) (L : Nat → Nat → Int64) (x : Nat) : Prop := ∃ A J, cres d Mc (.ref (9 : Nat) :: as) (mk n I L x) (.inl (some (.int A))) (mk n J L x) ∧ ∃ K L2, L2 559 = L 559 ∧ cres d Mm (.ref (70 : Nat) :: as) (mk n J L x) (.inl (some (.int A))) (mk n K L2 x) ∧ LI K
/-- calls by a wrapper; hs: which exceptions it catches, and as what -/
def PW (d Mc Mm : Nat) (as : List Value) (hs : Nat → Nat → Prop) (n : Nat) (I : Nat → Nat → Int32) (L : Nat → Nat → Int64) (x : Nat) : Prop :=
  (∃ A J, cres d Mc (.ref (9 : Nat) :: as) (mk n I L x) (.inl (some (.int A))) (mk n J L x) ∧ ∀ L1, ∃ K L2, L2 559 = L1 559 ∧ cres d Mm (.ref (70 : Nat) :: as) (mk n J L1 x) (.inl (some (.int A))) (mk n K L2 x) ∧ K 70 0 = 0 ∧ LI K) ∨
  (∃ t c J, hs t c ∧ c ≠ 0 ∧ c < 10 ∧ cres d Mc (.ref (9 : Nat) :: as) (mk n I L x) (.inr t) (mk n J L (x + 1)) ∧ ∃ K, cres d Mm (.ref (70 : Nat) :: as) (mk n J L (x + 1)) (.inl (some (.int 0))) (mk n K L (x + 1)) ∧ K 70 0 = nt c ∧ LI K)
theorem LI_sm {I J : Nat → Nat → Int32} (h : LI I) (hs : Sm I J) : LI J := ⟨tr_Inv hs.1 h.1, by rw [hs.2.1, hs.2.2]; exact h.2.1, by rw [hs.2.1, hs.2.2]; exact h.2.2⟩
def anOk (hs : Nat → Nat → Prop) (r : An) : Prop := match r with
  | .inl _ => True
  | .inr q => (q.1 = 1 ∨ q.1 = 2) ∧ hs q.1 q.2 ∧ q.2 ≠ 0 ∧ q.2 < 10
theorem pw_q {d Mc Mm : Nat} {as : List Value} {hs : Nat → Nat → Prop} {n : Nat} {I : Nat → Nat → Int32} {L : Nat → Nat → Int64} {x : Nat} {r : An} (hI : LI I) (ho : anOk hs r) (hq : ∀ Φ, resC n I L x Φ r → wpc d Mc (.ref (9 : Nat) :: as) (mk n I L x) Φ) (hu : ∀ J, view J = view I → ∀ L1 x1 Φ, resM n J L1 x1 Φ r → wpc d Mm (.ref (70 : Nat) :: as) (mk n J L1 x1) Φ) : PW d Mc Mm as hs n I L x := by
  cases r with
  | inl A =>
    refine Or.inl ?_
    obtain ⟨o, μ', ⟨J, hJ, rfl, rfl⟩, hc⟩ := cres_of (hq (fun o m => ∃ J, Sm I J ∧ o = .inl (some (.int A)) ∧ m = mk n J L x) (fun J hJ => ⟨J, hJ, rfl, rfl⟩))
    refine ⟨A, J, hc, fun L1 => ?_⟩
    obtain ⟨o, μ', ⟨K, L2, h1, h2, h3, rfl, rfl⟩, hm⟩ := cres_of (hu J hJ.1 L1 x (fun o m => ∃ K L2, Sm J K ∧ K 70 0 = 0 ∧ L2 559 = L1 559 ∧ o = .inl (some (.int A)) ∧ m = mk n K L2 x) (fun K L2 h1 h2 h3 => ⟨K, L2, h1, h2, h3, rfl, rfl⟩))
    exact ⟨K, L2, h3, hm, h2, LI_sm (LI_sm hI hJ) h1⟩
  | inr q =>
    obtain ⟨t, c⟩ := q
    obtain ⟨ht, h1, h2, h3⟩ := ho
    refine Or.inr ?_
    obtain ⟨o, μ', ⟨J, hJ, rfl, rfl⟩, hc⟩ := cres_of (hq (fun o m => ∃ J, Sm I J ∧ o = .inr t ∧ m = mk n (wrI J 9 (15 + t) (J 9 (15 + t) + 1)) L (x + 1)) (fun J hJ => ⟨J, hJ, rfl, rfl⟩))
    have hv9 : vis 9 (15 + t) = false := by rcases ht with h | h <;> (have h : t = _ := h; subst h; rfl)
    have hv : view (wrI J 9 (15 + t) (J 9 (15 + t) + 1)) = view I := (view_wr hv9).trans hJ.1
    obtain ⟨o, μ', ⟨K, k1, k2, k3, k4, rfl, rfl⟩, hm⟩ := cres_of (hu _ hv L (x + 1) (fun o m => ∃ K, view K = view (wrI J 9 (15 + t) (J 9 (15 + t) + 1)) ∧ K 9 = wrI J 9 (15 + t) (J 9 (15 + t) + 1) 9 ∧ K 72 = upd (wrI J 9 (15 + t) (J 9 (15 + t) + 1) 72) (t - 1) (wrI J 9 (15 + t) (J 9 (15 + t) + 1) 72 (t - 1) + 1) ∧ K 70 0 = nt c ∧ o = .inl (some (.int 0)) ∧ m = mk n K L (x + 1)) (fun K k1 k2 k3 k4 => ⟨K, k1, k2, k3, k4, rfl, rfl⟩))
    refine ⟨t, c, _, h1, h2, h3, hc, K, hm, k4, tr_Inv (k1.trans hv) hI.1, ?_, ?_⟩
    · rw [k2, k3, wrI_ne (by decide), wrI_at, hJ.2.1, hJ.2.2]
      rcases ht with h | h <;> (have h : t = _ := h; subst h)
      · rw [up_same, up_same, hI.2.1]
      · rw [up_ne (by decide), up_ne (by decide)]; exact hI.2.1
    · rw [k2, k3, wrI_ne (by decide), wrI_at, hJ.2.1, hJ.2.2]
      rcases ht with h | h <;> (have h : t = _ := h; subst h)
      · rw [up_ne (by decide), up_ne (by decide)]; exact hI.2.2
      · rw [up_same, up_same, hI.2.2]
/-- a question without a wrapper -/
theorem pd_q {d Mc Mm : Nat} {as : List Value} {n : Nat} {I : Nat → Nat → Int32} {L : Nat → Nat → Int64} {x : Nat} {A : Int32} (hI : LI I) (hq : ∀ Φ, resC n I L x Φ (.inl A) → wpc d Mc (.ref (9 : Nat) :: as) (mk n I L x) Φ) (hu : ∀ J, view J = view I → ∀ L1 x1 Φ, resM n J L1 x1 Φ (.inl A) → wpc d Mm (.ref (70 : Nat) :: as) (mk n J L1 x1) Φ) : PD d Mc Mm as n I L x := by
  obtain ⟨o, μ', ⟨J, hJ, rfl, rfl⟩, hc⟩ := cres_of (hq (fun o m => ∃ J, Sm I J ∧ o = .inl (some (.int A)) ∧ m = mk n J L x) (fun J hJ => ⟨J, hJ, rfl, rfl⟩))
  obtain ⟨o, μ', ⟨K, L2, h1, h2, h3, rfl, rfl⟩, hm⟩ := cres_of (hu J hJ.1 L x (fun o m => ∃ K L2, Sm J K ∧ K 70 0 = 0 ∧ L2 559 = L 559 ∧ o = .inl (some (.int A)) ∧ m = mk n K L2 x) (fun K L2 h1 h2 h3 => ⟨K, L2, h1, h2, h3, rfl, rfl⟩))
  exact ⟨A, J, hc, K, L2, h3, hm, LI_sm (LI_sm hI hJ) h1⟩
section Pr
variable {d n x : Nat} {μ : PM} {Φ : POut → PM → Prop} {I J K : Nat → Nat → Int32} {L : Nat → Nat → Int64} {k s h v w a b : Int32} {f g : Nat → Int32}
/-- refusals, counted -/
theorem pd173 (hI : LI I) : PD (d + 12) 173 312 [.int w] n I L x := by
  have hcl : cres (d + 12) 173 [.ref (9 : Nat), .int w] (mk n I L x) (.inl (some (.int (if w = 0 then I 9 16 else if w = 1 then I 9 17 else -1)))) (mk n I L x) := by
    intro Φ h
    show wp (d + 12) 173 0 [.ref (9 : Nat), .int w] [] (mk n I L x) Φ
    rw [r173_0]
    by_cases g0 : w = 0
    · subst g0
      rw [r173_1 28 rfl]
      simp (config := {decide := true}) only [r173_28, r173_29, r173_32, if_true, if_false, Nat.reduceAdd, Int32.reduceToNatClampNeg, lo_i, lo_r, lo_n, kont_v, kont_n, List.length_nil, List.length_cons]
      exact h
    by_cases g1 : w = 1
    · subst g1
      rw [r173_1 33 rfl]
      simp (config := {decide := true}) only [r173_33, r173_34, r173_37, if_true, if_false, Nat.reduceAdd, Int32.reduceToNatClampNeg, lo_i, lo_r, lo_n, kont_v, kont_n, List.length_nil, List.length_cons]
      exact h
    rw [if_neg g0, if_neg g1] at h
    rw [r173_1 38 (by
      show plu 38 [(0, 28), (1, 33)] w = 38
      unfold plu
      rw [if_neg (show ¬ w.toInt = 0 from fun e => g0 (Int32.toInt_inj.1 e))]
      unfold plu
      rw [if_neg (show ¬ w.toInt = 1 from fun e => g1 (Int32.toInt_inj.1 e))]
      rfl)]
    simp (config := {decide := true}) only [r173_38, r173_39, if_true, if_false, Nat.reduceAdd, Int32.reduceToNatClampNeg, lo_i, lo_r, lo_n, kont_v, kont_n, List.length_nil, List.length_cons]
    exact h
  refine ⟨_, I, hcl, wrI I 70 0 0, L, rfl, ?_, LI_sm hI (sm_wr rfl)⟩
  intro Φ h
  have u72 : wrI I 70 0 0 72 = I 72 := wrI_ne (by decide)
  show wp (d + 12) 312 0 [.ref (70 : Nat), .int w] [] (mk n I L x) Φ
  rw [r312_0, r312_1, r312_2]
  by_cases g0 : w = 0
  · subst g0
    rw [if_pos rfl, ← hI.2.1] at h
    simp (config := {decide := true}) only [r312_5, r312_6, r312_7, r312_8, r312_11, r312_14, r312_15, r312_18, r312_19, r312_20, r312_23, r312_24, if_true, if_false, Nat.reduceAdd, Int32.reduceToNatClampNeg, lo_i, lo_r, lo_n, kont_v, kont_n, List.length_nil, List.length_cons, and_self, and_true, true_and, and_false, false_and, not_true, not_false_eq_true, true_or, or_true, bi_eq0, m194, s72, u72, bi]
    exact h
  by_cases g1 : w = 1
  · subst g1
    rw [if_neg (by decide), if_pos rfl, ← hI.2.2] at h
    simp (config := {decide := true}) only [r312_5, r312_6, r312_7, r312_8, r312_11, r312_14, r312_15, r312_18, r312_19, r312_20, r312_23, r312_24, if_true, if_false, Nat.reduceAdd, Int32.reduceToNatClampNeg, lo_i, lo_r, lo_n, kont_v, kont_n, List.length_nil, List.length_cons, and_self, and_true, true_and, and_false, false_and, not_true, not_false_eq_true, true_or, or_true, bi_eq0, m194, s72, u72, bi]
    exact h
  rw [if_neg g0, if_neg g1] at h
  have hn : ¬ (0 ≤ w ∧ w ≤ 1) := by
    intro q
    obtain ⟨k, hk, rfl⟩ := rgN (N := 1) (by decide) q
    have : k = 0 ∨ k = 1 := by omega
    rcases this with rfl | rfl
    · exact g0 rfl
    · exact g1 rfl
  simp (config := {decide := true}) only [r312_5, r312_6, r312_7, r312_8, r312_11, r312_14, r312_15, r312_18, r312_19, r312_20, r312_23, r312_24, if_true, if_false, Nat.reduceAdd, Int32.reduceToNatClampNeg, lo_i, lo_r, lo_n, kont_v, kont_n, List.length_nil, List.length_cons, and_self, and_true, true_and, and_false, false_and, not_true, not_false_eq_true, true_or, or_true, bi_eq0, m194, hn, bi]
  exact h
end Pr

