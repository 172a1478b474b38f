/-! A REPUBLIC: the reference begins anew -/
section Mz
variable {d n x sn cn : Nat} {Φ : POut → PM → Prop} {I J K G : Nat → Nat → Int32} {L : Nat → Nat → Int64} {nr sp : Nat → Int32} {w : Int32}
theorem m222 (h0 : J 73 0 = nt sn) (h1 : J 73 1 = nt cn) (h2 : J 73 2 = w) (hs : sn ≤ 7) (hc : cn ≤ 6) (hn : ∀ s, s < 7 → ∀ c, c < 6 → J (106 + s) c = nr (s * 6 + c)) (hp : ∀ c, c < cn → J (92 + c) 1 = sp c) (h : ∀ K', (∀ r, r ≠ 70 → r ≠ 534 → r ≠ 74 → (r < 84 ∨ 90 < r) → (r < 99 ∨ 104 < r) → K' r = J r) → (K' 74 0 = nt sn ∧ K' 74 1 = nt cn) → (∀ k, k < sn → ∀ i, i < 2 → K' (84 + k) i = J (76 + k) i) → (∀ k, k < cn → ∀ i, i < 2 → K' (99 + k) i = J (92 + k) i) → (∀ j, j < 84 → K' 534 j = if j = 81 then w else fE nr sp cn 6 j) → (∀ j, 84 ≤ j → K' 534 j = J 534 j) → (K' 70 18 = 0 ∧ K' 70 33 = 0 ∧ K' 70 34 = 0 ∧ K' 70 35 = 0 ∧ K' 70 36 = 0) → (∀ i, i ≠ 18 → i ≠ 33 → i ≠ 34 → i ≠ 35 → i ≠ 36 → K' 70 i = J 70 i) → Φ (.inl none) (mk n K' L x)) : wpc (d + 1) 222 [.ref (70 : Nat)] (mk n J L x) Φ := by
  show wp (d + 1) 222 0 [.ref (70 : Nat), noV, noV] [] (mk n J L x) Φ
  have q73 : ∀ X, upR J 74 X 73 = J 73 := fun X => upR_ne (by decide)
  simp (config := {decide := true}) only [r222_0, r222_1, if_true, if_false, Nat.reduceAdd, Int32.reduceToNatClampNeg, lo_i, lo_r, lo_n, kont_v, kont_n, List.length_nil, List.length_cons]
  rw [r222_2]
  simp (config := {decide := true}) only [r222_3, r222_4, r222_7, r222_8, r222_11, r222_12, r222_13, r222_16, r222_17, r222_18, r222_19, r222_22, if_true, if_false, Nat.reduceAdd, Int32.reduceToNatClampNeg, lo_i, lo_r, lo_n, kont_v, kont_n, List.length_nil, List.length_cons, Int32.reduceAdd, s73, s74, wr_raw]
  rw [r222_2]
  simp (config := {decide := true}) only [r222_3, r222_4, r222_7, r222_8, r222_11, r222_12, r222_13, r222_16, r222_17, r222_18, r222_19, r222_22, if_true, if_false, Nat.reduceAdd, Int32.reduceToNatClampNeg, lo_i, lo_r, lo_n, kont_v, kont_n, List.length_nil, List.length_cons, Int32.reduceAdd, s73, s74, wr_up, q73]
  rw [r222_2]
  simp (config := {decide := true}) only [r222_3, r222_4, r222_7, r222_8, r222_11, r222_12, r222_13, r222_16, r222_17, r222_18, r222_19, r222_22, if_true, if_false, Nat.reduceAdd, Int32.reduceToNatClampNeg, lo_i, lo_r, lo_n, kont_v, kont_n, List.length_nil, List.length_cons, Int32.reduceAdd, s73, s74, wr_up, q73]
  rw [r222_2]
  simp (config := {decide := true}) only [r222_3, r222_4, r222_7, r222_8, r222_11, r222_12, r222_13, r222_16, r222_17, r222_18, r222_19, r222_22, r222_25, r222_26, r222_29, r222_30, r222_33, r222_34, r222_37, r222_38, if_true, if_false, Nat.reduceAdd, Int32.reduceToNatClampNeg, lo_i, lo_r, lo_n, kont_v, kont_n, List.length_nil, List.length_cons, Int32.reduceAdd, s73, s74, upR_same, up_same]
  rw [up_ne (by decide), up_ne (by decide), up_same, h0, h1, h2]
  generalize hJ1 : upR J 74 (upd (upd (upd (J 74) 0 (nt sn)) 1 (nt cn)) 2 w) = J1
  have j1 : ∀ r, r ≠ 74 → J1 r = J r := fun r hr => by rw [← hJ1]; exact upR_ne hr
  have j74 : J1 74 0 = nt sn ∧ J1 74 1 = nt cn ∧ J1 74 2 = w := by rw [← hJ1, upR_same]; exact ⟨rfl, rfl, rfl⟩
  have s75 : sh0 n 75 = (22, 7, (sh0 n 75).2.2) := eq_of_heq HEq.rfl
  have s83 : sh0 n 83 = (22, 7, (sh0 n 83).2.2) := eq_of_heq HEq.rfl
  have s91 : sh0 n 91 = (22, 6, (sh0 n 91).2.2) := eq_of_heq HEq.rfl
  have s98' : sh0 n 98 = (22, 6, (sh0 n 98).2.2) := eq_of_heq HEq.rfl
  have r1 : ∀ k, k < 7 → sh0 n (75 + 1 + k) = (20, 2, []) ∧ sh0 n (83 + 1 + k) = (20, 2, []) := by
    intro k hk
    have : k = 0 ∨ k = 1 ∨ k = 2 ∨ k = 3 ∨ k = 4 ∨ k = 5 ∨ k = 6 := by omega
    rcases this with rfl | rfl | rfl | rfl | rfl | rfl | rfl <;> exact ⟨rfl, rfl⟩
  have r2 : ∀ k, k < 6 → sh0 n (91 + 1 + k) = (20, 2, []) ∧ sh0 n (98 + 1 + k) = (20, 2, []) := by
    intro k hk
    have : k = 0 ∨ k = 1 ∨ k = 2 ∨ k = 3 ∨ k = 4 ∨ k = 5 := by omega
    rcases this with rfl | rfl | rfl | rfl | rfl | rfl <;> exact ⟨rfl, rfl⟩
  have ml1 := fun Ψ => m220 (d := d) (n := n) (L := L) (x := x) (I := J1) (Φ := Ψ) (A := 75) (D := 83) (M := 7) (m := sn) s75 s83 r1 (by decide) (by decide) (by decide) hs (by decide)
  have t1 : foldN (layF 75 83) sn J1 74 1 = nt cn := by rw [lay_ne sn (by omega)]; exact j74.2.1
  have ml2 := fun Ψ => m220 (d := d) (n := n) (L := L) (x := x) (I := foldN (layF 75 83) sn J1) (Φ := Ψ) (A := 91) (D := 98) (M := 6) (m := cn) s91 s98' r2 (by decide) (by decide) (by decide) hc (by decide)
  simp (config := {decide := true}) only [r222_39, r222_42, r222_43, r222_46, r222_47, r222_50, r222_51, r222_54, r222_55, r222_56, r222_59, r222_60, if_true, if_false, Nat.reduceAdd, Int32.reduceToNatClampNeg, lo_i, lo_r, lo_n, kont_v, kont_n, List.length_nil, List.length_cons, ml1, s74, t1, ml2]
  generalize hJ3 : foldN (layF 91 98) cn (foldN (layF 75 83) sn J1) = J3
  have j3 : ∀ r, r ≠ 74 → (r < 84 ∨ 90 < r) → (r < 99 ∨ 104 < r) → J3 r = J r := fun r a1 a2 a3 => by rw [← hJ3, lay_ne cn (by omega), lay_ne sn (by omega), j1 r a1]
  have j374 : J3 74 0 = nt sn ∧ J3 74 1 = nt cn ∧ J3 74 2 = w := by rw [← hJ3, lay_ne cn (by omega), lay_ne sn (by omega)]; exact j74
  have jA : ∀ k, k < sn → ∀ i, i < 2 → J3 (84 + k) i = J (76 + k) i := by
    intro k hk i hi
    have := lay_at (A := 75) (D := 83) (I := J1) (by decide) sn hs k hk i hi
    rw [← hJ3, lay_ne cn (by omega), show 84 + k = 83 + 1 + k by omega, this, j1 _ (by omega), show 75 + 1 + k = 76 + k by omega]
  have jB : ∀ k, k < cn → ∀ i, i < 2 → J3 (99 + k) i = J (92 + k) i := by
    intro k hk i hi
    have hd : ∀ m, m ≤ 6 → ∀ k, k < m → ∀ i, i < 2 → foldN (layF 91 98) m (foldN (layF 75 83) sn J1) (98 + 1 + k) i = foldN (layF 75 83) sn J1 (91 + 1 + k) i := by
      intro m hm
      induction m with
      | zero => intro k hk; omega
      | succ m ih =>
        intro k hk i hi
        show layF 91 98 m (foldN (layF 91 98) m (foldN (layF 75 83) sn J1)) (98 + 1 + k) i = _
        rw [layF_eq]
        by_cases hkm : k = m
        · subst hkm
          rw [upR_same, lay_ne (A := 91) (D := 98) (r := 91 + 1 + k) k (by omega)]
          have : i = 0 ∨ i = 1 := by omega
          rcases this with rfl | rfl
          · rw [up_ne (by decide), up_same]
          · rw [up_same]
        · rw [upR_ne (by omega)]
          exact ih (by omega) k (by omega) i hi
    rw [← hJ3, show 99 + k = 98 + 1 + k by omega, hd cn hc k hk i hi, lay_ne sn (by omega), j1 _ (by omega), show 91 + 1 + k = 92 + k by omega]
  have hC := m222c (d := d) (n := n) (x := x) (L := L) (J := J3) (Φ := Φ) ?_ 84 0 (J3 534) noV lo_n rfl (fun j hj => absurd hj (by omega)) (fun j _ => rfl)
  · rw [upR_self] at hC
    exact hC
  · intro g v2 n2 c1 c2
    simp (config := {decide := true}) only [r222_80, r222_81, if_true, if_false, Nat.reduceAdd, Int32.reduceToNatClampNeg, lo_i, lo_r, lo_n, kont_v, kont_n, List.length_nil, List.length_cons]
    refine m222d (nr := nr) (J := J3) (fun s hs c hc => by rw [j3 (106 + s) (by omega) (by omega) (by omega)]; exact hn s hs c hc) ?_ 7 0 g v2 n2 rfl (fun j hj => by rw [c1 j hj]; unfold fD; rw [if_neg (by omega), if_neg (by omega)]) c2
    intro g v2 n2 c1 c2
    simp (config := {decide := true}) only [r222_139, r222_140, if_true, if_false, Nat.reduceAdd, Int32.reduceToNatClampNeg, lo_i, lo_r, lo_n, kont_v, kont_n, List.length_nil, List.length_cons]
    refine m222e (nr := nr) (sp := sp) (cn := cn) (J := J3) j374.2.1 hc (fun c hcc => by rw [jB c hcc 1 (by decide)]; exact hp c hcc) ?_ 6 0 g v2 n2 rfl (fun j hj => by rw [c1 j hj]; unfold fE; rw [if_neg (by omega), if_neg (by omega)]) c2
    intro g v2 n2 c1 c2
    have w3 : upR J3 534 g 74 2 = w := by rw [upR_ne (by decide)]; exact j374.2.2
    simp (config := {decide := true}) only [r222_194, r222_195, r222_198, r222_200, r222_201, r222_204, r222_205, r222_206, r222_207, r222_208, r222_209, r222_212, r222_213, r222_214, r222_217, r222_218, r222_219, r222_222, r222_223, r222_224, r222_227, r222_228, r222_229, r222_232, if_true, if_false, Nat.reduceAdd, Int32.reduceToNatClampNeg, lo_i, lo_r, lo_n, kont_v, kont_n, List.length_nil, List.length_cons, s74, s534, w3, wr_up]
    refine h _ (fun r a1 a2 a3 a4 a5 => ?_) ⟨?_, ?_⟩ (fun k hk i hi => ?_) (fun k hk i hi => ?_) (fun j hj => ?_) (fun j hj => ?_) ⟨?_, ?_, ?_, ?_, ?_⟩ (fun i b1 b2 b3 b4 b5 => ?_)
    · rw [wrI_ne a1, wrI_ne a1, wrI_ne a1, wrI_ne a1, wrI_ne a1, upR_ne a2]; exact j3 r a3 a4 a5
    · rw [wrI_ne (by decide), wrI_ne (by decide), wrI_ne (by decide), wrI_ne (by decide), wrI_ne (by decide), upR_ne (by decide)]; exact j374.1
    · rw [wrI_ne (by decide), wrI_ne (by decide), wrI_ne (by decide), wrI_ne (by decide), wrI_ne (by decide), upR_ne (by decide)]; exact j374.2.1
    · rw [wrI_ne (by omega), wrI_ne (by omega), wrI_ne (by omega), wrI_ne (by omega), wrI_ne (by omega), upR_ne (by omega)]; exact jA k hk i hi
    · rw [wrI_ne (by omega), wrI_ne (by omega), wrI_ne (by omega), wrI_ne (by omega), wrI_ne (by omega), upR_ne (by omega)]; exact jB k hk i hi
    · rw [wrI_ne (by decide), wrI_ne (by decide), wrI_ne (by decide), wrI_ne (by decide), wrI_ne (by decide), upR_same]
      by_cases z : j = 81
      · rw [z, up_same, if_pos rfl]
      · rw [up_ne z, if_neg z]; exact c1 j hj
    · rw [wrI_ne (by decide), wrI_ne (by decide), wrI_ne (by decide), wrI_ne (by decide), wrI_ne (by decide), upR_same, up_ne (by omega), c2 j hj, j3 534 (by decide) (by decide) (by decide)]
    · rw [wr_k (by decide), wr_k (by decide), wr_k (by decide), wr_k (by decide), wr_eq]
    · rw [wr_k (by decide), wr_k (by decide), wr_k (by decide), wr_eq]
    · rw [wr_k (by decide), wr_k (by decide), wr_eq]
    · rw [wr_k (by decide), wr_eq]
    · rw [wr_eq]
    · rw [wr_k b5, wr_k b4, wr_k b3, wr_k b2, wr_k b1, upR_ne (by decide), j3 70 (by decide) (by decide) (by decide)]
end Mz

