/-! A REPUBLIC, read: the whole text, by the reference -/
section Mx
variable {d n x N a b told : Nat} {B : Nat → Int32} {Φ : POut → PM → Prop} {I J K G : Nat → Nat → Int32} {L : Nat → Nat → Int64} {v w p s q lo hi : Int32} {g : Nat → Int32} {σ τ : RSt} {t : LSt} {r i : Nat}
theorem m191 (hM : MB I J) (h7 : J 70 7 = v) (hK : MT J K N t) (h : ∀ J' K', MB I J' → Rm J' sg0r → J' 70 7 = v → MT J' K' N t → Φ (.inl none) (mk n K' L x)) : wpc d 191 [.ref (70 : Nat)] (mk n K L x) Φ := by
  have sA : sh0 n 105 = (22, 7, (sh0 n 105).2.2) := eq_of_heq HEq.rfl
  have g4 : (sh0 n 105).1 = 22 := by rw [sA]
  have g5 : (sh0 n 105).2.1 = 7 := by rw [sA]
  have inner : ∀ r2 c s J K, c + r2 = 6 → s < 7 → MB I J → J 70 7 = v → (∀ c', c' < c → J (106 + s) c' = 0) → MT J K N t → (∀ J' K' u, NL u → MB I J' → J' 70 7 = v → (∀ r, r ≠ 106 + s → J' r = J r) → (∀ c', c' < 6 → J' (106 + s) c' = 0) → MT J' K' N t → wp d 191 23 [.ref (70 : Nat), .int (nt (s + 1)), u] [] (mk n K' L x) Φ) → wp d 191 31 [.ref (70 : Nat), .int (nt s), .int (nt c)] [] (mk n K L x) Φ := by
    intro r2
    induction r2 with
    | zero =>
      intro c s J K hc hs hM h7 h0 hK hn
      have e1 : 6 ≤ nt c := by rw [show (6 : Int32) = nt 6 from rfl, nt_le (by decide) (by omega)]; omega
      rw [r191_31]
      simp (config := {decide := true}) only [r191_32, r191_34, r191_37, r191_38, r191_41, r191_42, r191_43, r191_44, r191_45, r191_46, r191_49, r191_52, r191_55, if_true, if_false, Nat.reduceAdd, Int32.reduceToNatClampNeg, lo_i, lo_r, lo_n, kont_v, kont_n, List.length_nil, List.length_cons, e1, nt_succ]
      exact hn J K _ (lo_i _) hM h7 (fun r _ => rfl) (fun c' hc' => h0 c' (by omega)) hK
    | succ r2 ih =>
      intro c s J K hc hs hM h7 h0 hK hn
      have e1 : ¬ (6 ≤ nt c) := nt_nle (m := 6) (by omega) (by decide)
      have g1 : (nt s).toNatClampNeg = s := nt_clamp (by omega)
      have g2 : (0 : Int32) ≤ nt s := nt_ge (by omega)
      have c1 : (nt c).toNatClampNeg = c := nt_clamp (by omega)
      have c2 : (0 : Int32) ≤ nt c := nt_ge (by omega)
      have c3 : c < 6 := by omega
      have g6 := s106 (n := n) hs
      have g7 : 105 + 1 + s < 560 := by omega
      have g8 : 9 ≤ 105 + 1 + s := by omega
      have e3 : K (106 + s) = J (106 + s) := MT_ne hK (by omega)
      have ms : mset (106 + s) = true := decide_eq_true (by omega)
      rw [r191_31]
      simp (config := {decide := true}) only [r191_32, r191_34, r191_37, r191_38, r191_41, r191_42, r191_43, r191_44, r191_45, r191_46, r191_49, r191_52, r191_55, if_true, if_false, Nat.reduceAdd, Int32.reduceToNatClampNeg, lo_i, lo_r, lo_n, kont_v, kont_n, List.length_nil, List.length_cons, e1, g4, g5, g1, g2, hs, c1, c2, c3, g6, g7, g8, nt_succ]
      rw [wr_raw, show 105 + 1 + s = 106 + s by omega, e3]
      refine ih (c + 1) s _ _ (by omega) hs (MB_up (g := upd (J (106 + s)) c 0) hM ms) (by rw [upR_ne (by omega)]; exact h7) (fun c' hc' => ?_) (MT_up hK (by omega)) (fun J' K' u nu hM' h7' hr hz hK' => hn J' K' u nu hM' h7' (fun r hr2 => by rw [hr r hr2, upR_ne hr2]) hz hK')
      rw [upR_same]
      by_cases z : c' = c
      · rw [z, up_same]
      · rw [up_ne z]; exact h0 c' (by omega)
  have outer : ∀ r s J K u, NL u → s + r = 7 → MB I J → J 70 7 = v → (J 73 0 = 0 ∧ J 73 1 = 0 ∧ J 73 2 = 2) → (∀ s', s' < s → ∀ c, c < 6 → J (106 + s') c = 0) → MT J K N t → wp d 191 23 [.ref (70 : Nat), .int (nt s), u] [] (mk n K L x) Φ := by
    intro r
    induction r with
    | zero =>
      intro s J K u nu hs hM h7 h73 hz hK
      have e1 : 7 ≤ nt s := by rw [show (7 : Int32) = nt 7 from rfl, nt_le (by decide) (by omega)]; omega
      rw [r191_23]
      simp (config := {decide := true}) only [r191_24, r191_26, r191_58, if_true, if_false, Nat.reduceAdd, Int32.reduceToNatClampNeg, lo_i, lo_r, lo_n, kont_v, kont_n, List.length_nil, List.length_cons, e1]
      refine h J K hM ⟨h73, fun k hk => absurd hk (Nat.not_lt_zero k), fun k hk => absurd hk (Nat.not_lt_zero k), fun s' hs' c hc => ?_⟩ h7 hK
      exact hz s' (by omega) c hc
    | succ r ih =>
      intro s J K u nu hs hM h7 h73 hz hK
      have e1 : ¬ (7 ≤ nt s) := nt_nle (m := 7) (by omega) (by decide)
      rw [r191_23]
      simp (config := {decide := true}) only [r191_24, r191_26, r191_29, r191_30, if_true, if_false, Nat.reduceAdd, Int32.reduceToNatClampNeg, lo_i, lo_r, lo_n, kont_v, kont_n, List.length_nil, List.length_cons, e1, nu]
      refine inner 6 0 s J K (by omega) (by omega) hM h7 (fun c' hc' => absurd hc' (by omega)) hK (fun J' K' u nu hM' h7' hr hz' hK' => ?_)
      refine ih (s + 1) J' K' u nu (by omega) hM' h7' (by rw [hr 73 (by omega)]; exact h73) (fun s' hs' c hc => ?_) hK'
      by_cases z : s' = s
      · rw [z]; exact hz' c hc
      · rw [hr (106 + s') (by omega)]; exact hz s' (by omega) c hc
  show wp d 191 0 [.ref (70 : Nat), noV, noV] [] (mk n K L x) Φ
  simp (config := {decide := true}) only [r191_0, r191_1, r191_4, r191_5, r191_6, r191_7, r191_8, r191_11, r191_12, r191_13, r191_14, r191_15, r191_18, r191_19, r191_20, r191_21, r191_22, if_true, if_false, Nat.reduceAdd, Int32.reduceToNatClampNeg, lo_i, lo_r, lo_n, kont_v, kont_n, List.length_nil, List.length_cons, s73]
  have ew : wrI (wrI (wrI K 73 0 0) 73 1 0) 73 2 2 = upR K 73 (upd (upd (upd (K 73) 0 0) 1 0) 2 2) := by simp only [wrI, upR_same, upR_upR]
  rw [ew]
  have e3 : K 73 = J 73 := MT_ne hK (by decide)
  refine outer 7 0 _ _ noV lo_n rfl (MB_up (r := 73) (g := upd (upd (upd (K 73) 0 0) 1 0) 2 2) hM (by decide)) (by rw [upR_ne (by decide)]; exact h7) (by rw [upR_same]; exact ⟨rfl, rfl, rfl⟩) (fun s' hs' => absurd hs' (by omega)) (MT_up hK (by decide))
theorem rCl_skp {p : Nat} : rCl B N told σ (skp B N p) = rCl B N told σ p := by unfold rCl rWrd; rw [skp_skp]
theorem rRp_skp {f p : Nat} : rRp B N (f + 1) told σ (skp B N p) = rRp B N (f + 1) told σ p := by unfold rRp; rw [skp_skp, rCl_skp]
theorem m219L (hX0 : MX I N B) {v1 : Int32} : ∀ f told σ a J K, told + f = 61 → told ≤ 60 → σ.1 ≤ 7 → σ.2.1 ≤ 6 → MB I J → Rm J σ → J 70 7 = nt told → MT J K N (.inl a) → skp B N a = a → (∀ τ p', rRp B N f told σ a = .inl (τ, p') → ∀ J' K', MB I J' → Rm J' τ → MT J' K' N (.inl p') → wp (d + 6) 219 71 [.ref (70 : Nat), .int v1] [] (mk n K' L x) Φ) → (∀ e, rRp B N f told σ a = .inr e → ∀ J' K', MB I J' → MT J' K' N (.inr e) → wp (d + 6) 219 71 [.ref (70 : Nat), .int v1] [] (mk n K' L x) Φ) → wp (d + 6) 219 42 [.ref (70 : Nat), .int v1] [] (mk n K L x) Φ := by
  intro f
  induction f with
  | zero => intro told σ a J K h1 h2; omega
  | succ f ih =>
    intro told σ a J K hf ht hs hc hM hR h7 hK hsk hok hbad
    have hX := MX_mb hM hX0
    have hN := hX.2.1
    unfold rRp at hok hbad
    rw [hsk] at hok hbad
    obtain ⟨ha, q, rfl⟩ := id hK
    have t2 : ∀ a f q, mS J a f q 70 2 = nt N := fun a f q => mS_2.trans hX.1
    rw [r219_42]
    by_cases hlt : a < N
    · have hcur : cur B N a = B a := if_pos hlt
      have hne : ¬ (B a = -1) := fun z => absurd (z ▸ (hX.2.2.2 a hlt).1) (by decide)
      simp only [hcur, if_neg hne] at hok hbad
      have e1 : ¬ (nt N ≤ nt a) := nt_nle hlt (by omega)
      simp (config := {decide := true}) only [r219_43, r219_46, r219_49, r219_50, r219_53, r219_54, r219_57, r219_60, r219_61, if_true, if_false, Nat.reduceAdd, Int32.reduceToNatClampNeg, lo_i, lo_r, lo_n, kont_v, kont_n, List.length_nil, List.length_cons, mS_5, mS_4, t2, e1]
      refine m218 hX0 hM hR hs hc ht h7 hK ?_ ?_
      · intro τ p' hcl J' K' hM' hR' h7' hK'
        rw [hcl] at hok hbad
        obtain ⟨b1, b2, b3⟩ := rCl_bd hs hc hcl
        obtain ⟨hp, q2, rfl⟩ := id hK'
        simp (config := {decide := true}) only [r219_64, r219_65, r219_68, if_true, if_false, Nat.reduceAdd, Int32.reduceToNatClampNeg, lo_i, lo_r, lo_n, kont_v, kont_n, List.length_nil, List.length_cons, m200 (MX_mb hM' hX0) hp]
        have skl : rRp B N f (told + 1) τ (skp B N p') = rRp B N f (told + 1) τ p' := by
          obtain ⟨f', rfl⟩ : ∃ f', f = f' + 1 := ⟨f - 1, by omega⟩
          exact rRp_skp
        refine ih (told + 1) τ (skp B N p') J' _ (by omega) (by omega) b1 b2 hM' hR' h7' (mtX_ok (endF_le hp)) skp_skp (fun τ' p2 hr => hok τ' p2 (skl.symm.trans hr)) (fun e hr => hbad e (skl.symm.trans hr))
      · intro e hcl J' K' hM' hK'
        rw [hcl] at hbad
        obtain ⟨h0, h1, a1, ha1, rfl⟩ := id hK'
        have hf0 := kf h0 h1
        simp (config := {decide := true}) only [r219_64, r219_65, r219_68, if_true, if_false, Nat.reduceAdd, Int32.reduceToNatClampNeg, lo_i, lo_r, lo_n, kont_v, kont_n, List.length_nil, List.length_cons, m200 (MX_mb hM' hX0) ha1]
        rw [r219_42]
        simp (config := {decide := true}) only [r219_43, r219_46, if_true, if_false, Nat.reduceAdd, Int32.reduceToNatClampNeg, lo_i, lo_r, lo_n, kont_v, kont_n, List.length_nil, List.length_cons, mS_5, hf0]
        exact hbad e rfl J' _ hM' (mtX_f h0 h1 (endF_le ha1))
    · have hcur : cur B N a = -1 := if_neg hlt
      simp only [hcur, if_true] at hok
      have e1 : nt N ≤ nt a := by rw [nt_le (by omega) (by omega)]; omega
      simp (config := {decide := true}) only [r219_43, r219_46, r219_49, r219_50, r219_53, r219_54, r219_57, r219_60, if_true, if_false, Nat.reduceAdd, Int32.reduceToNatClampNeg, lo_i, lo_r, lo_n, kont_v, kont_n, List.length_nil, List.length_cons, mS_5, mS_4, t2, e1]
      exact hok σ a rfl J _ hM hR hK
end Mx

