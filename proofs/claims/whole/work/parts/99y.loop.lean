/-! THE LAW'S LOOP -/
theorem lg_self (a : Int64) : lg_cmp a a = 0 := by
  unfold lg_cmp
  simp
section Lx
variable {d n i x : Nat} {Φ : POut → PM → Prop} {I J : Nat → Nat → Int32} {L : Nat → Nat → Int64} {v5 v6 v7 : Value}
theorem th192 {K : Nat → Nat → Int32} : cres d 192 [.ref (70 : Nat)] (mk n K L x) (.inl (some (.int (K 70 0)))) (mk n K L x) := by
  intro Φ h
  show wp d 192 0 [.ref (70 : Nat)] [] (mk n K L x) Φ
  rw [r192_0, r192_1, r192_4]
  exact h
theorem s7 : (sh0 n 7).1 = 20 := rfl
theorem s7n : (sh0 n 7).2.1 = n := rfl
/-- the loop goes on from here -/
def GO (d n i x : Nat) (I : Nat → Nat → Int32) (Φ : POut → PM → Prop) : Prop := ∀ I' L' x' w5 w6 w7, LI I' → I' 7 = I 7 → x' ≤ x + 1 → wp (d + 36) 362 2633 [.ref (7 : Nat), .ref (9 : Nat), .ref (70 : Nat), .ref (559 : Nat), .int (nt i), w5, w6, w7] [] (mk n I' L' x') Φ
def FT (n i : Nat) : Prop := ∀ j : Nat, j < 10 → (0 : Int32) ≤ nt i + nt j ∧ (nt i + nt j).toNatClampNeg < (sh0 n 7).2.1
theorem k0_232 (hf : FT n i) (hx : x + 1 ≤ 600) (hI : LI I) (hgo : GO d n i x I Φ) : wp (d + 36) 362 232 [.ref (7 : Nat), .ref (9 : Nat), .ref (70 : Nat), .ref (559 : Nat), .int (nt i), v5, v6, v7] [] (mk n I L x) Φ := by
  have f1 : (0 : Int32) ≤ nt i + 1 := (hf 1 (by decide)).1
  have g1 : (nt i + 1).toNatClampNeg < (sh0 n 7).2.1 := (hf 1 (by decide)).2
  have f2 : (0 : Int32) ≤ nt i + 2 := (hf 2 (by decide)).1
  have g2 : (nt i + 2).toNatClampNeg < (sh0 n 7).2.1 := (hf 2 (by decide)).2
  have f3 : (0 : Int32) ≤ nt i + 3 := (hf 3 (by decide)).1
  have g3 : (nt i + 3).toNatClampNeg < (sh0 n 7).2.1 := (hf 3 (by decide)).2
  have f4 : (0 : Int32) ≤ nt i + 4 := (hf 4 (by decide)).1
  have g4 : (nt i + 4).toNatClampNeg < (sh0 n 7).2.1 := (hf 4 (by decide)).2
  have f5 : (0 : Int32) ≤ nt i + 5 := (hf 5 (by decide)).1
  have g5 : (nt i + 5).toNatClampNeg < (sh0 n 7).2.1 := (hf 5 (by decide)).2
  obtain ⟨A, J, c1, K, L2, e2, c2, hK⟩ := (show PD (d + 35) 131 198 [.int (I 7 (nt i + 1).toNatClampNeg), .int (I 7 (nt i + 2).toNatClampNeg), .int (I 7 (nt i + 3).toNatClampNeg), .int (I 7 (nt i + 4).toNatClampNeg), .int (I 7 (nt i + 5).toNatClampNeg)] n I L x from pd131 (d := d + 23) hI)
  rw [r362_232, r362_233, r362_234, r362_236, r362_237, r362_238 s7 (by decide) f1 g1, r362_239, r362_240, r362_242, r362_243, r362_244 s7 (by decide) f2 g2, r362_245, r362_246, r362_248, r362_249, r362_250 s7 (by decide) f3 g3, r362_251, r362_252, r362_254, r362_255, r362_256 s7 (by decide) f4 g4, r362_257, r362_258, r362_260, r362_261, r362_262 s7 (by decide) f5 g5, r362_263 (Nat.le_of_ble_eq_true rfl)]
  refine c1 _ ?_
  show wp (d + 36) 362 266 [.ref (7 : Nat), .ref (9 : Nat), .ref (70 : Nat), .ref (559 : Nat), .int (nt i), v5, v6, v7] [.int A] (mk n J L x) Φ
  rw [r362_266, r362_267, r362_268, r362_270, r362_271, r362_272 s7 (by decide) f1 g1, r362_273, r362_274, r362_276, r362_277, r362_278 s7 (by decide) f2 g2, r362_279, r362_280, r362_282, r362_283, r362_284 s7 (by decide) f3 g3, r362_285, r362_286, r362_288, r362_289, r362_290 s7 (by decide) f4 g4, r362_291, r362_292, r362_294, r362_295, r362_296 s7 (by decide) f5 g5, cres_lo c1, r362_297 (Nat.le_of_ble_eq_true rfl)]
  refine c2 _ ?_
  show wp (d + 36) 362 300 [.ref (7 : Nat), .ref (9 : Nat), .ref (70 : Nat), .ref (559 : Nat), .int (nt i), v5, v6, v7] [.int A, .int A] (mk n K L2 x) Φ
  rw [r362_300, if_pos rfl]
  exact hgo _ _ _ _ _ _ hK ((cres_lo c2).trans (cres_lo c1)) (Nat.le_succ _)
theorem k1_305 (hf : FT n i) (hx : x + 1 ≤ 600) (hI : LI I) (hgo : GO d n i x I Φ) : wp (d + 36) 362 305 [.ref (7 : Nat), .ref (9 : Nat), .ref (70 : Nat), .ref (559 : Nat), .int (nt i), v5, v6, v7] [] (mk n I L x) Φ := by
  have f1 : (0 : Int32) ≤ nt i + 1 := (hf 1 (by decide)).1
  have g1 : (nt i + 1).toNatClampNeg < (sh0 n 7).2.1 := (hf 1 (by decide)).2
  have hw := z330 (d := d) (L := L) (n := n) hI hx (I 7 (nt i + 1).toNatClampNeg)
  rw [r362_305, r362_306, r362_307, r362_309, r362_310, r362_311 s7 (by decide) f1 g1, r362_312, r362_313 (Nat.le_of_ble_eq_true rfl)]
  rcases hw with ⟨A, J, c1, e1, K, L2, e2, c2, e3, hK, e4⟩ | ⟨c, J, hc, c1, e1, K, c2, e3, hK, e4⟩
  · refine c1 _ ?_
    show wp (d + 36) 362 316 [.ref (7 : Nat), .ref (9 : Nat), .ref (70 : Nat), .ref (559 : Nat), .int (nt i), v5, v6, v7] [.int 0] (mk n J (wrL L 559 0 A.toInt64) x) Φ
    rw [r362_316 (lo_i _), r362_318, r362_319, r362_320, r362_322, r362_323, r362_324 s7 (by decide) f1 g1, e1, r362_325 (Nat.le_of_ble_eq_true rfl)]
    refine c2 _ ?_
    show wp (d + 36) 362 328 [.ref (7 : Nat), .ref (9 : Nat), .ref (70 : Nat), .ref (559 : Nat), .int (nt i), .int 0, v6, v7] [.int A] (mk n K L2 x) Φ
    rw [r362_328 (lo_i _), r362_330, r362_331 (Nat.le_of_ble_eq_true rfl)]
    refine th192 _ ?_
    show wp (d + 36) 362 334 [.ref (7 : Nat), .ref (9 : Nat), .ref (70 : Nat), .ref (559 : Nat), .int (nt i), .int 0, .int A, v7] [.int (K 70 0)] (mk n K L2 x) Φ
    rw [e3, r362_334, r362_336, if_pos rfl, r362_341, r362_343, if_pos rfl, r362_346, r362_347, r362_348 s559 (by decide) (by decide) (by decide) z559, r362_349, r362_351, show L2 559 (0 : Int32).toNatClampNeg = A.toInt64 from e2, r362_352, lg_self, r362_353, if_pos rfl, r362_358]
    exact hgo _ _ _ _ _ _ hK e4 (Nat.le_succ _)
  · refine c1 _ ?_
    show wp (d + 36) 362 316 [.ref (7 : Nat), .ref (9 : Nat), .ref (70 : Nat), .ref (559 : Nat), .int (nt i), v5, v6, v7] [.int c] (mk n J L (x + 1)) Φ
    rw [r362_316 (lo_i _), r362_318, r362_319, r362_320, r362_322, r362_323, r362_324 s7 (by decide) f1 g1, e1, r362_325 (Nat.le_of_ble_eq_true rfl)]
    refine c2 _ ?_
    show wp (d + 36) 362 328 [.ref (7 : Nat), .ref (9 : Nat), .ref (70 : Nat), .ref (559 : Nat), .int (nt i), .int c, v6, v7] [.int 0] (mk n K L (x + 1)) Φ
    rw [r362_328 (lo_i _), r362_330, r362_331 (Nat.le_of_ble_eq_true rfl)]
    refine th192 _ ?_
    show wp (d + 36) 362 334 [.ref (7 : Nat), .ref (9 : Nat), .ref (70 : Nat), .ref (559 : Nat), .int (nt i), .int c, .int 0, v7] [.int (K 70 0)] (mk n K L (x + 1)) Φ
    rw [e3, r362_334, r362_336, if_pos rfl, r362_341, r362_343, if_neg hc, r362_358]
    exact hgo _ _ _ _ _ _ hK e4 (Nat.le_refl _)
theorem k2_361 (hf : FT n i) (hx : x + 1 ≤ 600) (hI : LI I) (hgo : GO d n i x I Φ) : wp (d + 36) 362 361 [.ref (7 : Nat), .ref (9 : Nat), .ref (70 : Nat), .ref (559 : Nat), .int (nt i), v5, v6, v7] [] (mk n I L x) Φ := by
  have f1 : (0 : Int32) ≤ nt i + 1 := (hf 1 (by decide)).1
  have g1 : (nt i + 1).toNatClampNeg < (sh0 n 7).2.1 := (hf 1 (by decide)).2
  have hw := z331 (d := d) (L := L) (n := n) hI hx (I 7 (nt i + 1).toNatClampNeg)
  rw [r362_361, r362_362, r362_363, r362_365, r362_366, r362_367 s7 (by decide) f1 g1, r362_368, r362_369 (Nat.le_of_ble_eq_true rfl)]
  rcases hw with ⟨A, J, c1, e1, K, L2, e2, c2, e3, hK, e4⟩ | ⟨c, J, hc, c1, e1, K, c2, e3, hK, e4⟩
  · refine c1 _ ?_
    show wp (d + 36) 362 372 [.ref (7 : Nat), .ref (9 : Nat), .ref (70 : Nat), .ref (559 : Nat), .int (nt i), v5, v6, v7] [.int 0] (mk n J (wrL L 559 0 A.toInt64) x) Φ
    rw [r362_372 (lo_i _), r362_374, r362_375, r362_376, r362_378, r362_379, r362_380 s7 (by decide) f1 g1, e1, r362_381 (Nat.le_of_ble_eq_true rfl)]
    refine c2 _ ?_
    show wp (d + 36) 362 384 [.ref (7 : Nat), .ref (9 : Nat), .ref (70 : Nat), .ref (559 : Nat), .int (nt i), .int 0, v6, v7] [.int A] (mk n K L2 x) Φ
    rw [r362_384 (lo_i _), r362_386, r362_387 (Nat.le_of_ble_eq_true rfl)]
    refine th192 _ ?_
    show wp (d + 36) 362 390 [.ref (7 : Nat), .ref (9 : Nat), .ref (70 : Nat), .ref (559 : Nat), .int (nt i), .int 0, .int A, v7] [.int (K 70 0)] (mk n K L2 x) Φ
    rw [e3, r362_390, r362_392, if_pos rfl, r362_397, r362_399, if_pos rfl, r362_402, r362_403, r362_404 s559 (by decide) (by decide) (by decide) z559, r362_405, r362_407, show L2 559 (0 : Int32).toNatClampNeg = A.toInt64 from e2, r362_408, lg_self, r362_409, if_pos rfl, r362_414]
    exact hgo _ _ _ _ _ _ hK e4 (Nat.le_succ _)
  · refine c1 _ ?_
    show wp (d + 36) 362 372 [.ref (7 : Nat), .ref (9 : Nat), .ref (70 : Nat), .ref (559 : Nat), .int (nt i), v5, v6, v7] [.int c] (mk n J L (x + 1)) Φ
    rw [r362_372 (lo_i _), r362_374, r362_375, r362_376, r362_378, r362_379, r362_380 s7 (by decide) f1 g1, e1, r362_381 (Nat.le_of_ble_eq_true rfl)]
    refine c2 _ ?_
    show wp (d + 36) 362 384 [.ref (7 : Nat), .ref (9 : Nat), .ref (70 : Nat), .ref (559 : Nat), .int (nt i), .int c, v6, v7] [.int 0] (mk n K L (x + 1)) Φ
    rw [r362_384 (lo_i _), r362_386, r362_387 (Nat.le_of_ble_eq_true rfl)]
    refine th192 _ ?_
    show wp (d + 36) 362 390 [.ref (7 : Nat), .ref (9 : Nat), .ref (70 : Nat), .ref (559 : Nat), .int (nt i), .int c, .int 0, v7] [.int (K 70 0)] (mk n K L (x + 1)) Φ
    rw [e3, r362_390, r362_392, if_pos rfl, r362_397, r362_399, if_neg hc, r362_414]
    exact hgo _ _ _ _ _ _ hK e4 (Nat.le_refl _)
theorem k3_417 (hf : FT n i) (hx : x + 1 ≤ 600) (hI : LI I) (hgo : GO d n i x I Φ) : wp (d + 36) 362 417 [.ref (7 : Nat), .ref (9 : Nat), .ref (70 : Nat), .ref (559 : Nat), .int (nt i), v5, v6, v7] [] (mk n I L x) Φ := by
  have f1 : (0 : Int32) ≤ nt i + 1 := (hf 1 (by decide)).1
  have g1 : (nt i + 1).toNatClampNeg < (sh0 n 7).2.1 := (hf 1 (by decide)).2
  have hw := z332 (d := d) (L := L) (n := n) hI hx (I 7 (nt i + 1).toNatClampNeg)
  rw [r362_417, r362_418, r362_419, r362_421, r362_422, r362_423 s7 (by decide) f1 g1, r362_424, r362_425 (Nat.le_of_ble_eq_true rfl)]
  rcases hw with ⟨A, J, c1, e1, K, L2, e2, c2, e3, hK, e4⟩ | ⟨c, J, hc, c1, e1, K, c2, e3, hK, e4⟩
  · refine c1 _ ?_
    show wp (d + 36) 362 428 [.ref (7 : Nat), .ref (9 : Nat), .ref (70 : Nat), .ref (559 : Nat), .int (nt i), v5, v6, v7] [.int 0] (mk n J (wrL L 559 0 A.toInt64) x) Φ
    rw [r362_428 (lo_i _), r362_430, r362_431, r362_432, r362_434, r362_435, r362_436 s7 (by decide) f1 g1, e1, r362_437 (Nat.le_of_ble_eq_true rfl)]
    refine c2 _ ?_
    show wp (d + 36) 362 440 [.ref (7 : Nat), .ref (9 : Nat), .ref (70 : Nat), .ref (559 : Nat), .int (nt i), .int 0, v6, v7] [.int A] (mk n K L2 x) Φ
    rw [r362_440 (lo_i _), r362_442, r362_443 (Nat.le_of_ble_eq_true rfl)]
    refine th192 _ ?_
    show wp (d + 36) 362 446 [.ref (7 : Nat), .ref (9 : Nat), .ref (70 : Nat), .ref (559 : Nat), .int (nt i), .int 0, .int A, v7] [.int (K 70 0)] (mk n K L2 x) Φ
    rw [e3, r362_446, r362_448, if_pos rfl, r362_453, r362_455, if_pos rfl, r362_458, r362_459, r362_460 s559 (by decide) (by decide) (by decide) z559, r362_461, r362_463, show L2 559 (0 : Int32).toNatClampNeg = A.toInt64 from e2, r362_464, lg_self, r362_465, if_pos rfl, r362_470]
    exact hgo _ _ _ _ _ _ hK e4 (Nat.le_succ _)
  · refine c1 _ ?_
    show wp (d + 36) 362 428 [.ref (7 : Nat), .ref (9 : Nat), .ref (70 : Nat), .ref (559 : Nat), .int (nt i), v5, v6, v7] [.int c] (mk n J L (x + 1)) Φ
    rw [r362_428 (lo_i _), r362_430, r362_431, r362_432, r362_434, r362_435, r362_436 s7 (by decide) f1 g1, e1, r362_437 (Nat.le_of_ble_eq_true rfl)]
    refine c2 _ ?_
    show wp (d + 36) 362 440 [.ref (7 : Nat), .ref (9 : Nat), .ref (70 : Nat), .ref (559 : Nat), .int (nt i), .int c, v6, v7] [.int 0] (mk n K L (x + 1)) Φ
    rw [r362_440 (lo_i _), r362_442, r362_443 (Nat.le_of_ble_eq_true rfl)]
    refine th192 _ ?_
    show wp (d + 36) 362 446 [.ref (7 : Nat), .ref (9 : Nat), .ref (70 : Nat), .ref (559 : Nat), .int (nt i), .int c, .int 0, v7] [.int (K 70 0)] (mk n K L (x + 1)) Φ
    rw [e3, r362_446, r362_448, if_pos rfl, r362_453, r362_455, if_neg hc, r362_470]
    exact hgo _ _ _ _ _ _ hK e4 (Nat.le_refl _)
theorem k4_473 (hf : FT n i) (hx : x + 1 ≤ 600) (hI : LI I) (hgo : GO d n i x I Φ) : wp (d + 36) 362 473 [.ref (7 : Nat), .ref (9 : Nat), .ref (70 : Nat), .ref (559 : Nat), .int (nt i), v5, v6, v7] [] (mk n I L x) Φ := by
  have f1 : (0 : Int32) ≤ nt i + 1 := (hf 1 (by decide)).1
  have g1 : (nt i + 1).toNatClampNeg < (sh0 n 7).2.1 := (hf 1 (by decide)).2
  have hw := z333 (d := d) (L := L) (n := n) hI hx (I 7 (nt i + 1).toNatClampNeg)
  rw [r362_473, r362_474, r362_475, r362_477, r362_478, r362_479 s7 (by decide) f1 g1, r362_480, r362_481 (Nat.le_of_ble_eq_true rfl)]
  rcases hw with ⟨A, J, c1, e1, K, L2, e2, c2, e3, hK, e4⟩ | ⟨c, J, hc, c1, e1, K, c2, e3, hK, e4⟩
  · refine c1 _ ?_
    show wp (d + 36) 362 484 [.ref (7 : Nat), .ref (9 : Nat), .ref (70 : Nat), .ref (559 : Nat), .int (nt i), v5, v6, v7] [.int 0] (mk n J (wrL L 559 0 A.toInt64) x) Φ
    rw [r362_484 (lo_i _), r362_486, r362_487, r362_488, r362_490, r362_491, r362_492 s7 (by decide) f1 g1, e1, r362_493 (Nat.le_of_ble_eq_true rfl)]
    refine c2 _ ?_
    show wp (d + 36) 362 496 [.ref (7 : Nat), .ref (9 : Nat), .ref (70 : Nat), .ref (559 : Nat), .int (nt i), .int 0, v6, v7] [.int A] (mk n K L2 x) Φ
    rw [r362_496 (lo_i _), r362_498, r362_499 (Nat.le_of_ble_eq_true rfl)]
    refine th192 _ ?_
    show wp (d + 36) 362 502 [.ref (7 : Nat), .ref (9 : Nat), .ref (70 : Nat), .ref (559 : Nat), .int (nt i), .int 0, .int A, v7] [.int (K 70 0)] (mk n K L2 x) Φ
    rw [e3, r362_502, r362_504, if_pos rfl, r362_509, r362_511, if_pos rfl, r362_514, r362_515, r362_516 s559 (by decide) (by decide) (by decide) z559, r362_517, r362_519, show L2 559 (0 : Int32).toNatClampNeg = A.toInt64 from e2, r362_520, lg_self, r362_521, if_pos rfl, r362_526]
    exact hgo _ _ _ _ _ _ hK e4 (Nat.le_succ _)
  · refine c1 _ ?_
    show wp (d + 36) 362 484 [.ref (7 : Nat), .ref (9 : Nat), .ref (70 : Nat), .ref (559 : Nat), .int (nt i), v5, v6, v7] [.int c] (mk n J L (x + 1)) Φ
    rw [r362_484 (lo_i _), r362_486, r362_487, r362_488, r362_490, r362_491, r362_492 s7 (by decide) f1 g1, e1, r362_493 (Nat.le_of_ble_eq_true rfl)]
    refine c2 _ ?_
    show wp (d + 36) 362 496 [.ref (7 : Nat), .ref (9 : Nat), .ref (70 : Nat), .ref (559 : Nat), .int (nt i), .int c, v6, v7] [.int 0] (mk n K L (x + 1)) Φ
    rw [r362_496 (lo_i _), r362_498, r362_499 (Nat.le_of_ble_eq_true rfl)]
    refine th192 _ ?_
    show wp (d + 36) 362 502 [.ref (7 : Nat), .ref (9 : Nat), .ref (70 : Nat), .ref (559 : Nat), .int (nt i), .int c, .int 0, v7] [.int (K 70 0)] (mk n K L (x + 1)) Φ
    rw [e3, r362_502, r362_504, if_pos rfl, r362_509, r362_511, if_neg hc, r362_526]
    exact hgo _ _ _ _ _ _ hK e4 (Nat.le_refl _)
theorem k5_529 (hf : FT n i) (hx : x + 1 ≤ 600) (hI : LI I) (hgo : GO d n i x I Φ) : wp (d + 36) 362 529 [.ref (7 : Nat), .ref (9 : Nat), .ref (70 : Nat), .ref (559 : Nat), .int (nt i), v5, v6, v7] [] (mk n I L x) Φ := by
  obtain ⟨A, J, c1, K, L2, e2, c2, hK⟩ := (show PD (d + 35) 136 236 [] n I L x from pd136 (d := d + 23) hI hx)
  rw [r362_529, r362_530 (Nat.le_of_ble_eq_true rfl)]
  refine c1 _ ?_
  show wp (d + 36) 362 533 [.ref (7 : Nat), .ref (9 : Nat), .ref (70 : Nat), .ref (559 : Nat), .int (nt i), v5, v6, v7] [.int A] (mk n J L x) Φ
  rw [r362_533, r362_534 (Nat.le_of_ble_eq_true rfl)]
  refine c2 _ ?_
  show wp (d + 36) 362 537 [.ref (7 : Nat), .ref (9 : Nat), .ref (70 : Nat), .ref (559 : Nat), .int (nt i), v5, v6, v7] [.int A, .int A] (mk n K L2 x) Φ
  rw [r362_537, if_pos rfl]
  exact hgo _ _ _ _ _ _ hK ((cres_lo c2).trans (cres_lo c1)) (Nat.le_succ _)
theorem k6_542 (hf : FT n i) (hx : x + 1 ≤ 600) (hI : LI I) (hgo : GO d n i x I Φ) : wp (d + 36) 362 542 [.ref (7 : Nat), .ref (9 : Nat), .ref (70 : Nat), .ref (559 : Nat), .int (nt i), v5, v6, v7] [] (mk n I L x) Φ := by
  obtain ⟨A, J, c1, K, L2, e2, c2, hK⟩ := (show PD (d + 35) 137 253 [] n I L x from pd137 (d := d + 23) hI)
  rw [r362_542, r362_543 (Nat.le_of_ble_eq_true rfl)]
  refine c1 _ ?_
  show wp (d + 36) 362 546 [.ref (7 : Nat), .ref (9 : Nat), .ref (70 : Nat), .ref (559 : Nat), .int (nt i), v5, v6, v7] [.int A] (mk n J L x) Φ
  rw [r362_546, r362_547 (Nat.le_of_ble_eq_true rfl)]
  refine c2 _ ?_
  show wp (d + 36) 362 550 [.ref (7 : Nat), .ref (9 : Nat), .ref (70 : Nat), .ref (559 : Nat), .int (nt i), v5, v6, v7] [.int A, .int A] (mk n K L2 x) Φ
  rw [r362_550, if_pos rfl]
  exact hgo _ _ _ _ _ _ hK ((cres_lo c2).trans (cres_lo c1)) (Nat.le_succ _)
theorem k7_555 (hf : FT n i) (hx : x + 1 ≤ 600) (hI : LI I) (hgo : GO d n i x I Φ) : wp (d + 36) 362 555 [.ref (7 : Nat), .ref (9 : Nat), .ref (70 : Nat), .ref (559 : Nat), .int (nt i), v5, v6, v7] [] (mk n I L x) Φ := by
  have f1 : (0 : Int32) ≤ nt i + 1 := (hf 1 (by decide)).1
  have g1 : (nt i + 1).toNatClampNeg < (sh0 n 7).2.1 := (hf 1 (by decide)).2
  have hw := z334 (d := d) (L := L) (n := n) hI hx (I 7 (nt i + 1).toNatClampNeg)
  rw [r362_555, r362_556, r362_557, r362_559, r362_560, r362_561 s7 (by decide) f1 g1, r362_562, r362_563 (Nat.le_of_ble_eq_true rfl)]
  rcases hw with ⟨A, J, c1, e1, K, L2, e2, c2, e3, hK, e4⟩ | ⟨c, J, hc, c1, e1, K, c2, e3, hK, e4⟩
  · refine c1 _ ?_
    show wp (d + 36) 362 566 [.ref (7 : Nat), .ref (9 : Nat), .ref (70 : Nat), .ref (559 : Nat), .int (nt i), v5, v6, v7] [.int 0] (mk n J (wrL L 559 0 A.toInt64) x) Φ
    rw [r362_566 (lo_i _), r362_568, r362_569, r362_570, r362_572, r362_573, r362_574 s7 (by decide) f1 g1, e1, r362_575 (Nat.le_of_ble_eq_true rfl)]
    refine c2 _ ?_
    show wp (d + 36) 362 578 [.ref (7 : Nat), .ref (9 : Nat), .ref (70 : Nat), .ref (559 : Nat), .int (nt i), .int 0, v6, v7] [.int A] (mk n K L2 x) Φ
    rw [r362_578 (lo_i _), r362_580, r362_581 (Nat.le_of_ble_eq_true rfl)]
    refine th192 _ ?_
    show wp (d + 36) 362 584 [.ref (7 : Nat), .ref (9 : Nat), .ref (70 : Nat), .ref (559 : Nat), .int (nt i), .int 0, .int A, v7] [.int (K 70 0)] (mk n K L2 x) Φ
    rw [e3, r362_584, r362_586, if_pos rfl, r362_591, r362_593, if_pos rfl, r362_596, r362_597, r362_598 s559 (by decide) (by decide) (by decide) z559, r362_599, r362_601, show L2 559 (0 : Int32).toNatClampNeg = A.toInt64 from e2, r362_602, lg_self, r362_603, if_pos rfl, r362_608]
    exact hgo _ _ _ _ _ _ hK e4 (Nat.le_succ _)
  · refine c1 _ ?_
    show wp (d + 36) 362 566 [.ref (7 : Nat), .ref (9 : Nat), .ref (70 : Nat), .ref (559 : Nat), .int (nt i), v5, v6, v7] [.int c] (mk n J L (x + 1)) Φ
    rw [r362_566 (lo_i _), r362_568, r362_569, r362_570, r362_572, r362_573, r362_574 s7 (by decide) f1 g1, e1, r362_575 (Nat.le_of_ble_eq_true rfl)]
    refine c2 _ ?_
    show wp (d + 36) 362 578 [.ref (7 : Nat), .ref (9 : Nat), .ref (70 : Nat), .ref (559 : Nat), .int (nt i), .int c, v6, v7] [.int 0] (mk n K L (x + 1)) Φ
    rw [r362_578 (lo_i _), r362_580, r362_581 (Nat.le_of_ble_eq_true rfl)]
    refine th192 _ ?_
    show wp (d + 36) 362 584 [.ref (7 : Nat), .ref (9 : Nat), .ref (70 : Nat), .ref (559 : Nat), .int (nt i), .int c, .int 0, v7] [.int (K 70 0)] (mk n K L (x + 1)) Φ
    rw [e3, r362_584, r362_586, if_pos rfl, r362_591, r362_593, if_neg hc, r362_608]
    exact hgo _ _ _ _ _ _ hK e4 (Nat.le_refl _)
theorem k8_611 (hf : FT n i) (hx : x + 1 ≤ 600) (hI : LI I) (hgo : GO d n i x I Φ) : wp (d + 36) 362 611 [.ref (7 : Nat), .ref (9 : Nat), .ref (70 : Nat), .ref (559 : Nat), .int (nt i), v5, v6, v7] [] (mk n I L x) Φ := by
  have f1 : (0 : Int32) ≤ nt i + 1 := (hf 1 (by decide)).1
  have g1 : (nt i + 1).toNatClampNeg < (sh0 n 7).2.1 := (hf 1 (by decide)).2
  have f2 : (0 : Int32) ≤ nt i + 2 := (hf 2 (by decide)).1
  have g2 : (nt i + 2).toNatClampNeg < (sh0 n 7).2.1 := (hf 2 (by decide)).2
  have hw := z335 (d := d) (L := L) (n := n) hI hx (I 7 (nt i + 1).toNatClampNeg) (I 7 (nt i + 2).toNatClampNeg)
  rw [r362_611, r362_612, r362_613, r362_615, r362_616, r362_617 s7 (by decide) f1 g1, r362_618, r362_619, r362_621, r362_622, r362_623 s7 (by decide) f2 g2, r362_624, r362_625 (Nat.le_of_ble_eq_true rfl)]
  rcases hw with ⟨A, J, c1, e1, K, L2, e2, c2, e3, hK, e4⟩ | ⟨c, J, hc, c1, e1, K, c2, e3, hK, e4⟩
  · refine c1 _ ?_
    show wp (d + 36) 362 628 [.ref (7 : Nat), .ref (9 : Nat), .ref (70 : Nat), .ref (559 : Nat), .int (nt i), v5, v6, v7] [.int 0] (mk n J (wrL L 559 0 A.toInt64) x) Φ
    rw [r362_628 (lo_i _), r362_630, r362_631, r362_632, r362_634, r362_635, r362_636 s7 (by decide) f1 g1, r362_637, r362_638, r362_640, r362_641, r362_642 s7 (by decide) f2 g2, e1, r362_643 (Nat.le_of_ble_eq_true rfl)]
    refine c2 _ ?_
    show wp (d + 36) 362 646 [.ref (7 : Nat), .ref (9 : Nat), .ref (70 : Nat), .ref (559 : Nat), .int (nt i), .int 0, v6, v7] [.int A] (mk n K L2 x) Φ
    rw [r362_646 (lo_i _), r362_648, r362_649 (Nat.le_of_ble_eq_true rfl)]
    refine th192 _ ?_
    show wp (d + 36) 362 652 [.ref (7 : Nat), .ref (9 : Nat), .ref (70 : Nat), .ref (559 : Nat), .int (nt i), .int 0, .int A, v7] [.int (K 70 0)] (mk n K L2 x) Φ
    rw [e3, r362_652, r362_654, if_pos rfl, r362_659, r362_661, if_pos rfl, r362_664, r362_665, r362_666 s559 (by decide) (by decide) (by decide) z559, r362_667, r362_669, show L2 559 (0 : Int32).toNatClampNeg = A.toInt64 from e2, r362_670, lg_self, r362_671, if_pos rfl, r362_676]
    exact hgo _ _ _ _ _ _ hK e4 (Nat.le_succ _)
  · refine c1 _ ?_
    show wp (d + 36) 362 628 [.ref (7 : Nat), .ref (9 : Nat), .ref (70 : Nat), .ref (559 : Nat), .int (nt i), v5, v6, v7] [.int c] (mk n J L (x + 1)) Φ
    rw [r362_628 (lo_i _), r362_630, r362_631, r362_632, r362_634, r362_635, r362_636 s7 (by decide) f1 g1, r362_637, r362_638, r362_640, r362_641, r362_642 s7 (by decide) f2 g2, e1, r362_643 (Nat.le_of_ble_eq_true rfl)]
    refine c2 _ ?_
    show wp (d + 36) 362 646 [.ref (7 : Nat), .ref (9 : Nat), .ref (70 : Nat), .ref (559 : Nat), .int (nt i), .int c, v6, v7] [.int 0] (mk n K L (x + 1)) Φ
    rw [r362_646 (lo_i _), r362_648, r362_649 (Nat.le_of_ble_eq_true rfl)]
    refine th192 _ ?_
    show wp (d + 36) 362 652 [.ref (7 : Nat), .ref (9 : Nat), .ref (70 : Nat), .ref (559 : Nat), .int (nt i), .int c, .int 0, v7] [.int (K 70 0)] (mk n K L (x + 1)) Φ
    rw [e3, r362_652, r362_654, if_pos rfl, r362_659, r362_661, if_neg hc, r362_676]
    exact hgo _ _ _ _ _ _ hK e4 (Nat.le_refl _)
theorem k9_679 (hf : FT n i) (hx : x + 1 ≤ 600) (hI : LI I) (hgo : GO d n i x I Φ) : wp (d + 36) 362 679 [.ref (7 : Nat), .ref (9 : Nat), .ref (70 : Nat), .ref (559 : Nat), .int (nt i), v5, v6, v7] [] (mk n I L x) Φ := by
  have f1 : (0 : Int32) ≤ nt i + 1 := (hf 1 (by decide)).1
  have g1 : (nt i + 1).toNatClampNeg < (sh0 n 7).2.1 := (hf 1 (by decide)).2
  have f2 : (0 : Int32) ≤ nt i + 2 := (hf 2 (by decide)).1
  have g2 : (nt i + 2).toNatClampNeg < (sh0 n 7).2.1 := (hf 2 (by decide)).2
  have hw := z336 (d := d) (L := L) (n := n) hI hx (I 7 (nt i + 1).toNatClampNeg) (I 7 (nt i + 2).toNatClampNeg)
  rw [r362_679, r362_680, r362_681, r362_683, r362_684, r362_685 s7 (by decide) f1 g1, r362_686, r362_687, r362_689, r362_690, r362_691 s7 (by decide) f2 g2, r362_692, r362_693 (Nat.le_of_ble_eq_true rfl)]
  rcases hw with ⟨A, J, c1, e1, K, L2, e2, c2, e3, hK, e4⟩ | ⟨c, J, hc, c1, e1, K, c2, e3, hK, e4⟩
  · refine c1 _ ?_
    show wp (d + 36) 362 696 [.ref (7 : Nat), .ref (9 : Nat), .ref (70 : Nat), .ref (559 : Nat), .int (nt i), v5, v6, v7] [.int 0] (mk n J (wrL L 559 0 A.toInt64) x) Φ
    rw [r362_696 (lo_i _), r362_698, r362_699, r362_700, r362_702, r362_703, r362_704 s7 (by decide) f1 g1, r362_705, r362_706, r362_708, r362_709, r362_710 s7 (by decide) f2 g2, e1, r362_711 (Nat.le_of_ble_eq_true rfl)]
    refine c2 _ ?_
    show wp (d + 36) 362 714 [.ref (7 : Nat), .ref (9 : Nat), .ref (70 : Nat), .ref (559 : Nat), .int (nt i), .int 0, v6, v7] [.int A] (mk n K L2 x) Φ
    rw [r362_714 (lo_i _), r362_716, r362_717 (Nat.le_of_ble_eq_true rfl)]
    refine th192 _ ?_
    show wp (d + 36) 362 720 [.ref (7 : Nat), .ref (9 : Nat), .ref (70 : Nat), .ref (559 : Nat), .int (nt i), .int 0, .int A, v7] [.int (K 70 0)] (mk n K L2 x) Φ
    rw [e3, r362_720, r362_722, if_pos rfl, r362_727, r362_729, if_pos rfl, r362_732, r362_733, r362_734 s559 (by decide) (by decide) (by decide) z559, r362_735, r362_737, show L2 559 (0 : Int32).toNatClampNeg = A.toInt64 from e2, r362_738, lg_self, r362_739, if_pos rfl, r362_744]
    exact hgo _ _ _ _ _ _ hK e4 (Nat.le_succ _)
  · refine c1 _ ?_
    show wp (d + 36) 362 696 [.ref (7 : Nat), .ref (9 : Nat), .ref (70 : Nat), .ref (559 : Nat), .int (nt i), v5, v6, v7] [.int c] (mk n J L (x + 1)) Φ
    rw [r362_696 (lo_i _), r362_698, r362_699, r362_700, r362_702, r362_703, r362_704 s7 (by decide) f1 g1, r362_705, r362_706, r362_708, r362_709, r362_710 s7 (by decide) f2 g2, e1, r362_711 (Nat.le_of_ble_eq_true rfl)]
    refine c2 _ ?_
    show wp (d + 36) 362 714 [.ref (7 : Nat), .ref (9 : Nat), .ref (70 : Nat), .ref (559 : Nat), .int (nt i), .int c, v6, v7] [.int 0] (mk n K L (x + 1)) Φ
    rw [r362_714 (lo_i _), r362_716, r362_717 (Nat.le_of_ble_eq_true rfl)]
    refine th192 _ ?_
    show wp (d + 36) 362 720 [.ref (7 : Nat), .ref (9 : Nat), .ref (70 : Nat), .ref (559 : Nat), .int (nt i), .int c, .int 0, v7] [.int (K 70 0)] (mk n K L (x + 1)) Φ
    rw [e3, r362_720, r362_722, if_pos rfl, r362_727, r362_729, if_neg hc, r362_744]
    exact hgo _ _ _ _ _ _ hK e4 (Nat.le_refl _)
theorem k10_747 (hf : FT n i) (hx : x + 1 ≤ 600) (hI : LI I) (hgo : GO d n i x I Φ) : wp (d + 36) 362 747 [.ref (7 : Nat), .ref (9 : Nat), .ref (70 : Nat), .ref (559 : Nat), .int (nt i), v5, v6, v7] [] (mk n I L x) Φ := by
  have f1 : (0 : Int32) ≤ nt i + 1 := (hf 1 (by decide)).1
  have g1 : (nt i + 1).toNatClampNeg < (sh0 n 7).2.1 := (hf 1 (by decide)).2
  have f2 : (0 : Int32) ≤ nt i + 2 := (hf 2 (by decide)).1
  have g2 : (nt i + 2).toNatClampNeg < (sh0 n 7).2.1 := (hf 2 (by decide)).2
  have hw := z337 (d := d) (L := L) (n := n) hI hx (I 7 (nt i + 1).toNatClampNeg) (I 7 (nt i + 2).toNatClampNeg)
  rw [r362_747, r362_748, r362_749, r362_751, r362_752, r362_753 s7 (by decide) f1 g1, r362_754, r362_755, r362_757, r362_758, r362_759 s7 (by decide) f2 g2, r362_760, r362_761 (Nat.le_of_ble_eq_true rfl)]
  rcases hw with ⟨A, J, c1, e1, K, L2, e2, c2, e3, hK, e4⟩ | ⟨c, J, hc, c1, e1, K, c2, e3, hK, e4⟩
  · refine c1 _ ?_
    show wp (d + 36) 362 764 [.ref (7 : Nat), .ref (9 : Nat), .ref (70 : Nat), .ref (559 : Nat), .int (nt i), v5, v6, v7] [.int 0] (mk n J (wrL L 559 0 A.toInt64) x) Φ
    rw [r362_764 (lo_i _), r362_766, r362_767, r362_768, r362_770, r362_771, r362_772 s7 (by decide) f1 g1, r362_773, r362_774, r362_776, r362_777, r362_778 s7 (by decide) f2 g2, e1, r362_779 (Nat.le_of_ble_eq_true rfl)]
    refine c2 _ ?_
    show wp (d + 36) 362 782 [.ref (7 : Nat), .ref (9 : Nat), .ref (70 : Nat), .ref (559 : Nat), .int (nt i), .int 0, v6, v7] [.int A] (mk n K L2 x) Φ
    rw [r362_782 (lo_i _), r362_784, r362_785 (Nat.le_of_ble_eq_true rfl)]
    refine th192 _ ?_
    show wp (d + 36) 362 788 [.ref (7 : Nat), .ref (9 : Nat), .ref (70 : Nat), .ref (559 : Nat), .int (nt i), .int 0, .int A, v7] [.int (K 70 0)] (mk n K L2 x) Φ
    rw [e3, r362_788, r362_790, if_pos rfl, r362_795, r362_797, if_pos rfl, r362_800, r362_801, r362_802 s559 (by decide) (by decide) (by decide) z559, r362_803, r362_805, show L2 559 (0 : Int32).toNatClampNeg = A.toInt64 from e2, r362_806, lg_self, r362_807, if_pos rfl, r362_812]
    exact hgo _ _ _ _ _ _ hK e4 (Nat.le_succ _)
  · refine c1 _ ?_
    show wp (d + 36) 362 764 [.ref (7 : Nat), .ref (9 : Nat), .ref (70 : Nat), .ref (559 : Nat), .int (nt i), v5, v6, v7] [.int c] (mk n J L (x + 1)) Φ
    rw [r362_764 (lo_i _), r362_766, r362_767, r362_768, r362_770, r362_771, r362_772 s7 (by decide) f1 g1, r362_773, r362_774, r362_776, r362_777, r362_778 s7 (by decide) f2 g2, e1, r362_779 (Nat.le_of_ble_eq_true rfl)]
    refine c2 _ ?_
    show wp (d + 36) 362 782 [.ref (7 : Nat), .ref (9 : Nat), .ref (70 : Nat), .ref (559 : Nat), .int (nt i), .int c, v6, v7] [.int 0] (mk n K L (x + 1)) Φ
    rw [r362_782 (lo_i _), r362_784, r362_785 (Nat.le_of_ble_eq_true rfl)]
    refine th192 _ ?_
    show wp (d + 36) 362 788 [.ref (7 : Nat), .ref (9 : Nat), .ref (70 : Nat), .ref (559 : Nat), .int (nt i), .int c, .int 0, v7] [.int (K 70 0)] (mk n K L (x + 1)) Φ
    rw [e3, r362_788, r362_790, if_pos rfl, r362_795, r362_797, if_neg hc, r362_812]
    exact hgo _ _ _ _ _ _ hK e4 (Nat.le_refl _)
theorem k11_815 (hf : FT n i) (hx : x + 1 ≤ 600) (hI : LI I) (hgo : GO d n i x I Φ) : wp (d + 36) 362 815 [.ref (7 : Nat), .ref (9 : Nat), .ref (70 : Nat), .ref (559 : Nat), .int (nt i), v5, v6, v7] [] (mk n I L x) Φ := by
  have f1 : (0 : Int32) ≤ nt i + 1 := (hf 1 (by decide)).1
  have g1 : (nt i + 1).toNatClampNeg < (sh0 n 7).2.1 := (hf 1 (by decide)).2
  have f2 : (0 : Int32) ≤ nt i + 2 := (hf 2 (by decide)).1
  have g2 : (nt i + 2).toNatClampNeg < (sh0 n 7).2.1 := (hf 2 (by decide)).2
  have hw := z338 (d := d) (L := L) (n := n) hI hx (I 7 (nt i + 1).toNatClampNeg) (I 7 (nt i + 2).toNatClampNeg)
  rw [r362_815, r362_816, r362_817, r362_819, r362_820, r362_821 s7 (by decide) f1 g1, r362_822, r362_823, r362_825, r362_826, r362_827 s7 (by decide) f2 g2, r362_828, r362_829 (Nat.le_of_ble_eq_true rfl)]
  rcases hw with ⟨A, J, c1, e1, K, L2, e2, c2, e3, hK, e4⟩ | ⟨c, J, hc, c1, e1, K, c2, e3, hK, e4⟩
  · refine c1 _ ?_
    show wp (d + 36) 362 832 [.ref (7 : Nat), .ref (9 : Nat), .ref (70 : Nat), .ref (559 : Nat), .int (nt i), v5, v6, v7] [.int 0] (mk n J (wrL L 559 0 A.toInt64) x) Φ
    rw [r362_832 (lo_i _), r362_834, r362_835, r362_836, r362_838, r362_839, r362_840 s7 (by decide) f1 g1, r362_841, r362_842, r362_844, r362_845, r362_846 s7 (by decide) f2 g2, e1, r362_847 (Nat.le_of_ble_eq_true rfl)]
    refine c2 _ ?_
    show wp (d + 36) 362 850 [.ref (7 : Nat), .ref (9 : Nat), .ref (70 : Nat), .ref (559 : Nat), .int (nt i), .int 0, v6, v7] [.int A] (mk n K L2 x) Φ
    rw [r362_850 (lo_i _), r362_852, r362_853 (Nat.le_of_ble_eq_true rfl)]
    refine th192 _ ?_
    show wp (d + 36) 362 856 [.ref (7 : Nat), .ref (9 : Nat), .ref (70 : Nat), .ref (559 : Nat), .int (nt i), .int 0, .int A, v7] [.int (K 70 0)] (mk n K L2 x) Φ
    rw [e3, r362_856, r362_858, if_pos rfl, r362_863, r362_865, if_pos rfl, r362_868, r362_869, r362_870 s559 (by decide) (by decide) (by decide) z559, r362_871, r362_873, show L2 559 (0 : Int32).toNatClampNeg = A.toInt64 from e2, r362_874, lg_self, r362_875, if_pos rfl, r362_880]
    exact hgo _ _ _ _ _ _ hK e4 (Nat.le_succ _)
  · refine c1 _ ?_
    show wp (d + 36) 362 832 [.ref (7 : Nat), .ref (9 : Nat), .ref (70 : Nat), .ref (559 : Nat), .int (nt i), v5, v6, v7] [.int c] (mk n J L (x + 1)) Φ
    rw [r362_832 (lo_i _), r362_834, r362_835, r362_836, r362_838, r362_839, r362_840 s7 (by decide) f1 g1, r362_841, r362_842, r362_844, r362_845, r362_846 s7 (by decide) f2 g2, e1, r362_847 (Nat.le_of_ble_eq_true rfl)]
    refine c2 _ ?_
    show wp (d + 36) 362 850 [.ref (7 : Nat), .ref (9 : Nat), .ref (70 : Nat), .ref (559 : Nat), .int (nt i), .int c, v6, v7] [.int 0] (mk n K L (x + 1)) Φ
    rw [r362_850 (lo_i _), r362_852, r362_853 (Nat.le_of_ble_eq_true rfl)]
    refine th192 _ ?_
    show wp (d + 36) 362 856 [.ref (7 : Nat), .ref (9 : Nat), .ref (70 : Nat), .ref (559 : Nat), .int (nt i), .int c, .int 0, v7] [.int (K 70 0)] (mk n K L (x + 1)) Φ
    rw [e3, r362_856, r362_858, if_pos rfl, r362_863, r362_865, if_neg hc, r362_880]
    exact hgo _ _ _ _ _ _ hK e4 (Nat.le_refl _)
theorem k12_883 (hf : FT n i) (hx : x + 1 ≤ 600) (hI : LI I) (hgo : GO d n i x I Φ) : wp (d + 36) 362 883 [.ref (7 : Nat), .ref (9 : Nat), .ref (70 : Nat), .ref (559 : Nat), .int (nt i), v5, v6, v7] [] (mk n I L x) Φ := by
  have f1 : (0 : Int32) ≤ nt i + 1 := (hf 1 (by decide)).1
  have g1 : (nt i + 1).toNatClampNeg < (sh0 n 7).2.1 := (hf 1 (by decide)).2
  have f2 : (0 : Int32) ≤ nt i + 2 := (hf 2 (by decide)).1
  have g2 : (nt i + 2).toNatClampNeg < (sh0 n 7).2.1 := (hf 2 (by decide)).2
  have f3 : (0 : Int32) ≤ nt i + 3 := (hf 3 (by decide)).1
  have g3 : (nt i + 3).toNatClampNeg < (sh0 n 7).2.1 := (hf 3 (by decide)).2
  have f4 : (0 : Int32) ≤ nt i + 4 := (hf 4 (by decide)).1
  have g4 : (nt i + 4).toNatClampNeg < (sh0 n 7).2.1 := (hf 4 (by decide)).2
  have f5 : (0 : Int32) ≤ nt i + 5 := (hf 5 (by decide)).1
  have g5 : (nt i + 5).toNatClampNeg < (sh0 n 7).2.1 := (hf 5 (by decide)).2
  have f6 : (0 : Int32) ≤ nt i + 6 := (hf 6 (by decide)).1
  have g6 : (nt i + 6).toNatClampNeg < (sh0 n 7).2.1 := (hf 6 (by decide)).2
  have f7 : (0 : Int32) ≤ nt i + 7 := (hf 7 (by decide)).1
  have g7 : (nt i + 7).toNatClampNeg < (sh0 n 7).2.1 := (hf 7 (by decide)).2
  have f8 : (0 : Int32) ≤ nt i + 8 := (hf 8 (by decide)).1
  have g8 : (nt i + 8).toNatClampNeg < (sh0 n 7).2.1 := (hf 8 (by decide)).2
  have f9 : (0 : Int32) ≤ nt i + 9 := (hf 9 (by decide)).1
  have g9 : (nt i + 9).toNatClampNeg < (sh0 n 7).2.1 := (hf 9 (by decide)).2
  have hw := z339 (d := d) (L := L) (n := n) hI hx (I 7 (nt i + 1).toNatClampNeg) (I 7 (nt i + 2).toNatClampNeg) (I 7 (nt i + 3).toNatClampNeg) (I 7 (nt i + 4).toNatClampNeg) (I 7 (nt i + 5).toNatClampNeg) (I 7 (nt i + 6).toNatClampNeg) (I 7 (nt i + 7).toNatClampNeg) (I 7 (nt i + 8).toNatClampNeg) (I 7 (nt i + 9).toNatClampNeg)
  rw [r362_883, r362_884, r362_885, r362_887, r362_888, r362_889 s7 (by decide) f1 g1, r362_890, r362_891, r362_893, r362_894, r362_895 s7 (by decide) f2 g2, r362_896, r362_897, r362_899, r362_900, r362_901 s7 (by decide) f3 g3, r362_902, r362_903, r362_905, r362_906, r362_907 s7 (by decide) f4 g4, r362_908, r362_909, r362_911, r362_912, r362_913 s7 (by decide) f5 g5, r362_914, r362_915, r362_917, r362_919, r362_920 s7 (by decide) f6 g6, r362_921, r362_922, r362_924, r362_926, r362_927 s7 (by decide) f7 g7, r362_928, r362_929, r362_931, r362_933, r362_934 s7 (by decide) f8 g8, r362_935, r362_936, r362_938, r362_940, r362_941 s7 (by decide) f9 g9, r362_942, r362_943 (Nat.le_of_ble_eq_true rfl)]
  rcases hw with ⟨A, J, c1, e1, K, L2, e2, c2, e3, hK, e4⟩ | ⟨c, J, hc, c1, e1, K, c2, e3, hK, e4⟩
  · refine c1 _ ?_
    show wp (d + 36) 362 946 [.ref (7 : Nat), .ref (9 : Nat), .ref (70 : Nat), .ref (559 : Nat), .int (nt i), v5, v6, v7] [.int 0] (mk n J (wrL L 559 0 A.toInt64) x) Φ
    rw [r362_946 (lo_i _), r362_948, r362_949, r362_950, r362_952, r362_953, r362_954 s7 (by decide) f1 g1, r362_955, r362_956, r362_958, r362_959, r362_960 s7 (by decide) f2 g2, r362_961, r362_962, r362_964, r362_965, r362_966 s7 (by decide) f3 g3, r362_967, r362_968, r362_970, r362_971, r362_972 s7 (by decide) f4 g4, r362_973, r362_974, r362_976, r362_977, r362_978 s7 (by decide) f5 g5, r362_979, r362_980, r362_982, r362_984, r362_985 s7 (by decide) f6 g6, r362_986, r362_987, r362_989, r362_991, r362_992 s7 (by decide) f7 g7, r362_993, r362_994, r362_996, r362_998, r362_999 s7 (by decide) f8 g8, r362_1000, r362_1001, r362_1003, r362_1005, r362_1006 s7 (by decide) f9 g9, e1, r362_1007 (Nat.le_of_ble_eq_true rfl)]
    refine c2 _ ?_
    show wp (d + 36) 362 1010 [.ref (7 : Nat), .ref (9 : Nat), .ref (70 : Nat), .ref (559 : Nat), .int (nt i), .int 0, v6, v7] [.int A] (mk n K L2 x) Φ
    rw [r362_1010 (lo_i _), r362_1012, r362_1013 (Nat.le_of_ble_eq_true rfl)]
    refine th192 _ ?_
    show wp (d + 36) 362 1016 [.ref (7 : Nat), .ref (9 : Nat), .ref (70 : Nat), .ref (559 : Nat), .int (nt i), .int 0, .int A, v7] [.int (K 70 0)] (mk n K L2 x) Φ
    rw [e3, r362_1016, r362_1018, if_pos rfl, r362_1023, r362_1025, if_pos rfl, r362_1028, r362_1029, r362_1030 s559 (by decide) (by decide) (by decide) z559, r362_1031, r362_1033, show L2 559 (0 : Int32).toNatClampNeg = A.toInt64 from e2, r362_1034, lg_self, r362_1035, if_pos rfl, r362_1040]
    exact hgo _ _ _ _ _ _ hK e4 (Nat.le_succ _)
  · refine c1 _ ?_
    show wp (d + 36) 362 946 [.ref (7 : Nat), .ref (9 : Nat), .ref (70 : Nat), .ref (559 : Nat), .int (nt i), v5, v6, v7] [.int c] (mk n J L (x + 1)) Φ
    rw [r362_946 (lo_i _), r362_948, r362_949, r362_950, r362_952, r362_953, r362_954 s7 (by decide) f1 g1, r362_955, r362_956, r362_958, r362_959, r362_960 s7 (by decide) f2 g2, r362_961, r362_962, r362_964, r362_965, r362_966 s7 (by decide) f3 g3, r362_967, r362_968, r362_970, r362_971, r362_972 s7 (by decide) f4 g4, r362_973, r362_974, r362_976, r362_977, r362_978 s7 (by decide) f5 g5, r362_979, r362_980, r362_982, r362_984, r362_985 s7 (by decide) f6 g6, r362_986, r362_987, r362_989, r362_991, r362_992 s7 (by decide) f7 g7, r362_993, r362_994, r362_996, r362_998, r362_999 s7 (by decide) f8 g8, r362_1000, r362_1001, r362_1003, r362_1005, r362_1006 s7 (by decide) f9 g9, e1, r362_1007 (Nat.le_of_ble_eq_true rfl)]
    refine c2 _ ?_
    show wp (d + 36) 362 1010 [.ref (7 : Nat), .ref (9 : Nat), .ref (70 : Nat), .ref (559 : Nat), .int (nt i), .int c, v6, v7] [.int 0] (mk n K L (x + 1)) Φ
    rw [r362_1010 (lo_i _), r362_1012, r362_1013 (Nat.le_of_ble_eq_true rfl)]
    refine th192 _ ?_
    show wp (d + 36) 362 1016 [.ref (7 : Nat), .ref (9 : Nat), .ref (70 : Nat), .ref (559 : Nat), .int (nt i), .int c, .int 0, v7] [.int (K 70 0)] (mk n K L (x + 1)) Φ
    rw [e3, r362_1016, r362_1018, if_pos rfl, r362_1023, r362_1025, if_neg hc, r362_1040]
    exact hgo _ _ _ _ _ _ hK e4 (Nat.le_refl _)
theorem k13_1043 (hf : FT n i) (hx : x + 1 ≤ 600) (hI : LI I) (hgo : GO d n i x I Φ) : wp (d + 36) 362 1043 [.ref (7 : Nat), .ref (9 : Nat), .ref (70 : Nat), .ref (559 : Nat), .int (nt i), v5, v6, v7] [] (mk n I L x) Φ := by
  have f1 : (0 : Int32) ≤ nt i + 1 := (hf 1 (by decide)).1
  have g1 : (nt i + 1).toNatClampNeg < (sh0 n 7).2.1 := (hf 1 (by decide)).2
  have hw := z340 (d := d) (L := L) (n := n) hI hx (I 7 (nt i + 1).toNatClampNeg)
  rw [r362_1043, r362_1044, r362_1045, r362_1047, r362_1048, r362_1049 s7 (by decide) f1 g1, r362_1050, r362_1051 (Nat.le_of_ble_eq_true rfl)]
  rcases hw with ⟨A, J, c1, e1, K, L2, e2, c2, e3, hK, e4⟩ | ⟨c, J, hc, c1, e1, K, c2, e3, hK, e4⟩
  · refine c1 _ ?_
    show wp (d + 36) 362 1054 [.ref (7 : Nat), .ref (9 : Nat), .ref (70 : Nat), .ref (559 : Nat), .int (nt i), v5, v6, v7] [.int 0] (mk n J (wrL L 559 0 A.toInt64) x) Φ
    rw [r362_1054 (lo_i _), r362_1056, r362_1057, r362_1058, r362_1060, r362_1061, r362_1062 s7 (by decide) f1 g1, e1, r362_1063 (Nat.le_of_ble_eq_true rfl)]
    refine c2 _ ?_
    show wp (d + 36) 362 1066 [.ref (7 : Nat), .ref (9 : Nat), .ref (70 : Nat), .ref (559 : Nat), .int (nt i), .int 0, v6, v7] [.int A] (mk n K L2 x) Φ
    rw [r362_1066 (lo_i _), r362_1068, r362_1069 (Nat.le_of_ble_eq_true rfl)]
    refine th192 _ ?_
    show wp (d + 36) 362 1072 [.ref (7 : Nat), .ref (9 : Nat), .ref (70 : Nat), .ref (559 : Nat), .int (nt i), .int 0, .int A, v7] [.int (K 70 0)] (mk n K L2 x) Φ
    rw [e3, r362_1072, r362_1074, if_pos rfl, r362_1079, r362_1081, if_pos rfl, r362_1084, r362_1085, r362_1086 s559 (by decide) (by decide) (by decide) z559, r362_1087, r362_1089, show L2 559 (0 : Int32).toNatClampNeg = A.toInt64 from e2, r362_1090, lg_self, r362_1091, if_pos rfl, r362_1096]
    exact hgo _ _ _ _ _ _ hK e4 (Nat.le_succ _)
  · refine c1 _ ?_
    show wp (d + 36) 362 1054 [.ref (7 : Nat), .ref (9 : Nat), .ref (70 : Nat), .ref (559 : Nat), .int (nt i), v5, v6, v7] [.int c] (mk n J L (x + 1)) Φ
    rw [r362_1054 (lo_i _), r362_1056, r362_1057, r362_1058, r362_1060, r362_1061, r362_1062 s7 (by decide) f1 g1, e1, r362_1063 (Nat.le_of_ble_eq_true rfl)]
    refine c2 _ ?_
    show wp (d + 36) 362 1066 [.ref (7 : Nat), .ref (9 : Nat), .ref (70 : Nat), .ref (559 : Nat), .int (nt i), .int c, v6, v7] [.int 0] (mk n K L (x + 1)) Φ
    rw [r362_1066 (lo_i _), r362_1068, r362_1069 (Nat.le_of_ble_eq_true rfl)]
    refine th192 _ ?_
    show wp (d + 36) 362 1072 [.ref (7 : Nat), .ref (9 : Nat), .ref (70 : Nat), .ref (559 : Nat), .int (nt i), .int c, .int 0, v7] [.int (K 70 0)] (mk n K L (x + 1)) Φ
    rw [e3, r362_1072, r362_1074, if_pos rfl, r362_1079, r362_1081, if_neg hc, r362_1096]
    exact hgo _ _ _ _ _ _ hK e4 (Nat.le_refl _)
theorem k14_1099 (hf : FT n i) (hx : x + 1 ≤ 600) (hI : LI I) (hgo : GO d n i x I Φ) : wp (d + 36) 362 1099 [.ref (7 : Nat), .ref (9 : Nat), .ref (70 : Nat), .ref (559 : Nat), .int (nt i), v5, v6, v7] [] (mk n I L x) Φ := by
  obtain ⟨A, J, c1, K, L2, e2, c2, hK⟩ := (show PD (d + 35) 145 268 [] n I L x from pd145 (d := d + 23) hI hx)
  rw [r362_1099, r362_1100 (Nat.le_of_ble_eq_true rfl)]
  refine c1 _ ?_
  show wp (d + 36) 362 1103 [.ref (7 : Nat), .ref (9 : Nat), .ref (70 : Nat), .ref (559 : Nat), .int (nt i), v5, v6, v7] [.int A] (mk n J L x) Φ
  rw [r362_1103, r362_1104 (Nat.le_of_ble_eq_true rfl)]
  refine c2 _ ?_
  show wp (d + 36) 362 1107 [.ref (7 : Nat), .ref (9 : Nat), .ref (70 : Nat), .ref (559 : Nat), .int (nt i), v5, v6, v7] [.int A, .int A] (mk n K L2 x) Φ
  rw [r362_1107, if_pos rfl]
  exact hgo _ _ _ _ _ _ hK ((cres_lo c2).trans (cres_lo c1)) (Nat.le_succ _)
theorem k15_1112 (hf : FT n i) (hx : x + 1 ≤ 600) (hI : LI I) (hgo : GO d n i x I Φ) : wp (d + 36) 362 1112 [.ref (7 : Nat), .ref (9 : Nat), .ref (70 : Nat), .ref (559 : Nat), .int (nt i), v5, v6, v7] [] (mk n I L x) Φ := by
  have f1 : (0 : Int32) ≤ nt i + 1 := (hf 1 (by decide)).1
  have g1 : (nt i + 1).toNatClampNeg < (sh0 n 7).2.1 := (hf 1 (by decide)).2
  have f2 : (0 : Int32) ≤ nt i + 2 := (hf 2 (by decide)).1
  have g2 : (nt i + 2).toNatClampNeg < (sh0 n 7).2.1 := (hf 2 (by decide)).2
  have hw := z341 (d := d) (L := L) (n := n) hI hx (I 7 (nt i + 1).toNatClampNeg) (I 7 (nt i + 2).toNatClampNeg)
  rw [r362_1112, r362_1113, r362_1114, r362_1116, r362_1117, r362_1118 s7 (by decide) f1 g1, r362_1119, r362_1120, r362_1122, r362_1123, r362_1124 s7 (by decide) f2 g2, r362_1125, r362_1126 (Nat.le_of_ble_eq_true rfl)]
  rcases hw with ⟨A, J, c1, e1, K, L2, e2, c2, e3, hK, e4⟩ | ⟨c, J, hc, c1, e1, K, c2, e3, hK, e4⟩
  · refine c1 _ ?_
    show wp (d + 36) 362 1129 [.ref (7 : Nat), .ref (9 : Nat), .ref (70 : Nat), .ref (559 : Nat), .int (nt i), v5, v6, v7] [.int 0] (mk n J (wrL L 559 0 A.toInt64) x) Φ
    rw [r362_1129 (lo_i _), r362_1131, r362_1132, r362_1133, r362_1135, r362_1136, r362_1137 s7 (by decide) f1 g1, r362_1138, r362_1139, r362_1141, r362_1142, r362_1143 s7 (by decide) f2 g2, e1, r362_1144 (Nat.le_of_ble_eq_true rfl)]
    refine c2 _ ?_
    show wp (d + 36) 362 1147 [.ref (7 : Nat), .ref (9 : Nat), .ref (70 : Nat), .ref (559 : Nat), .int (nt i), .int 0, v6, v7] [.int A] (mk n K L2 x) Φ
    rw [r362_1147 (lo_i _), r362_1149, r362_1150 (Nat.le_of_ble_eq_true rfl)]
    refine th192 _ ?_
    show wp (d + 36) 362 1153 [.ref (7 : Nat), .ref (9 : Nat), .ref (70 : Nat), .ref (559 : Nat), .int (nt i), .int 0, .int A, v7] [.int (K 70 0)] (mk n K L2 x) Φ
    rw [e3, r362_1153, r362_1155, if_pos rfl, r362_1160, r362_1162, if_pos rfl, r362_1165, r362_1166, r362_1167 s559 (by decide) (by decide) (by decide) z559, r362_1168, r362_1170, show L2 559 (0 : Int32).toNatClampNeg = A.toInt64 from e2, r362_1171, lg_self, r362_1172, if_pos rfl, r362_1177]
    exact hgo _ _ _ _ _ _ hK e4 (Nat.le_succ _)
  · refine c1 _ ?_
    show wp (d + 36) 362 1129 [.ref (7 : Nat), .ref (9 : Nat), .ref (70 : Nat), .ref (559 : Nat), .int (nt i), v5, v6, v7] [.int c] (mk n J L (x + 1)) Φ
    rw [r362_1129 (lo_i _), r362_1131, r362_1132, r362_1133, r362_1135, r362_1136, r362_1137 s7 (by decide) f1 g1, r362_1138, r362_1139, r362_1141, r362_1142, r362_1143 s7 (by decide) f2 g2, e1, r362_1144 (Nat.le_of_ble_eq_true rfl)]
    refine c2 _ ?_
    show wp (d + 36) 362 1147 [.ref (7 : Nat), .ref (9 : Nat), .ref (70 : Nat), .ref (559 : Nat), .int (nt i), .int c, v6, v7] [.int 0] (mk n K L (x + 1)) Φ
    rw [r362_1147 (lo_i _), r362_1149, r362_1150 (Nat.le_of_ble_eq_true rfl)]
    refine th192 _ ?_
    show wp (d + 36) 362 1153 [.ref (7 : Nat), .ref (9 : Nat), .ref (70 : Nat), .ref (559 : Nat), .int (nt i), .int c, .int 0, v7] [.int (K 70 0)] (mk n K L (x + 1)) Φ
    rw [e3, r362_1153, r362_1155, if_pos rfl, r362_1160, r362_1162, if_neg hc, r362_1177]
    exact hgo _ _ _ _ _ _ hK e4 (Nat.le_refl _)
theorem k16_1180 (hf : FT n i) (hx : x + 1 ≤ 600) (hI : LI I) (hgo : GO d n i x I Φ) : wp (d + 36) 362 1180 [.ref (7 : Nat), .ref (9 : Nat), .ref (70 : Nat), .ref (559 : Nat), .int (nt i), v5, v6, v7] [] (mk n I L x) Φ := by
  have f1 : (0 : Int32) ≤ nt i + 1 := (hf 1 (by decide)).1
  have g1 : (nt i + 1).toNatClampNeg < (sh0 n 7).2.1 := (hf 1 (by decide)).2
  have hw := z342 (d := d) (L := L) (n := n) hI hx (I 7 (nt i + 1).toNatClampNeg)
  rw [r362_1180, r362_1181, r362_1182, r362_1184, r362_1185, r362_1186 s7 (by decide) f1 g1, r362_1187, r362_1188 (Nat.le_of_ble_eq_true rfl)]
  rcases hw with ⟨A, J, c1, e1, K, L2, e2, c2, e3, hK, e4⟩ | ⟨c, J, hc, c1, e1, K, c2, e3, hK, e4⟩
  · refine c1 _ ?_
    show wp (d + 36) 362 1191 [.ref (7 : Nat), .ref (9 : Nat), .ref (70 : Nat), .ref (559 : Nat), .int (nt i), v5, v6, v7] [.int 0] (mk n J (wrL L 559 0 A.toInt64) x) Φ
    rw [r362_1191 (lo_i _), r362_1193, r362_1194, r362_1195, r362_1197, r362_1198, r362_1199 s7 (by decide) f1 g1, e1, r362_1200 (Nat.le_of_ble_eq_true rfl)]
    refine c2 _ ?_
    show wp (d + 36) 362 1203 [.ref (7 : Nat), .ref (9 : Nat), .ref (70 : Nat), .ref (559 : Nat), .int (nt i), .int 0, v6, v7] [.int A] (mk n K L2 x) Φ
    rw [r362_1203 (lo_i _), r362_1205, r362_1206 (Nat.le_of_ble_eq_true rfl)]
    refine th192 _ ?_
    show wp (d + 36) 362 1209 [.ref (7 : Nat), .ref (9 : Nat), .ref (70 : Nat), .ref (559 : Nat), .int (nt i), .int 0, .int A, v7] [.int (K 70 0)] (mk n K L2 x) Φ
    rw [e3, r362_1209, r362_1211, if_pos rfl, r362_1216, r362_1218, if_pos rfl, r362_1221, r362_1222, r362_1223 s559 (by decide) (by decide) (by decide) z559, r362_1224, r362_1226, show L2 559 (0 : Int32).toNatClampNeg = A.toInt64 from e2, r362_1227, lg_self, r362_1228, if_pos rfl, r362_1233]
    exact hgo _ _ _ _ _ _ hK e4 (Nat.le_succ _)
  · refine c1 _ ?_
    show wp (d + 36) 362 1191 [.ref (7 : Nat), .ref (9 : Nat), .ref (70 : Nat), .ref (559 : Nat), .int (nt i), v5, v6, v7] [.int c] (mk n J L (x + 1)) Φ
    rw [r362_1191 (lo_i _), r362_1193, r362_1194, r362_1195, r362_1197, r362_1198, r362_1199 s7 (by decide) f1 g1, e1, r362_1200 (Nat.le_of_ble_eq_true rfl)]
    refine c2 _ ?_
    show wp (d + 36) 362 1203 [.ref (7 : Nat), .ref (9 : Nat), .ref (70 : Nat), .ref (559 : Nat), .int (nt i), .int c, v6, v7] [.int 0] (mk n K L (x + 1)) Φ
    rw [r362_1203 (lo_i _), r362_1205, r362_1206 (Nat.le_of_ble_eq_true rfl)]
    refine th192 _ ?_
    show wp (d + 36) 362 1209 [.ref (7 : Nat), .ref (9 : Nat), .ref (70 : Nat), .ref (559 : Nat), .int (nt i), .int c, .int 0, v7] [.int (K 70 0)] (mk n K L (x + 1)) Φ
    rw [e3, r362_1209, r362_1211, if_pos rfl, r362_1216, r362_1218, if_neg hc, r362_1233]
    exact hgo _ _ _ _ _ _ hK e4 (Nat.le_refl _)
theorem k17_1236 (hf : FT n i) (hx : x + 1 ≤ 600) (hI : LI I) (hgo : GO d n i x I Φ) : wp (d + 36) 362 1236 [.ref (7 : Nat), .ref (9 : Nat), .ref (70 : Nat), .ref (559 : Nat), .int (nt i), v5, v6, v7] [] (mk n I L x) Φ := by
  have f1 : (0 : Int32) ≤ nt i + 1 := (hf 1 (by decide)).1
  have g1 : (nt i + 1).toNatClampNeg < (sh0 n 7).2.1 := (hf 1 (by decide)).2
  have hw := z343 (d := d) (L := L) (n := n) hI hx (I 7 (nt i + 1).toNatClampNeg)
  rw [r362_1236, r362_1237, r362_1238, r362_1240, r362_1241, r362_1242 s7 (by decide) f1 g1, r362_1243, r362_1244 (Nat.le_of_ble_eq_true rfl)]
  rcases hw with ⟨A, J, c1, e1, K, L2, e2, c2, e3, hK, e4⟩ | ⟨c, J, hc, c1, e1, K, c2, e3, hK, e4⟩
  · refine c1 _ ?_
    show wp (d + 36) 362 1247 [.ref (7 : Nat), .ref (9 : Nat), .ref (70 : Nat), .ref (559 : Nat), .int (nt i), v5, v6, v7] [.int 0] (mk n J (wrL L 559 0 A.toInt64) x) Φ
    rw [r362_1247 (lo_i _), r362_1249, r362_1250, r362_1251, r362_1253, r362_1254, r362_1255 s7 (by decide) f1 g1, e1, r362_1256 (Nat.le_of_ble_eq_true rfl)]
    refine c2 _ ?_
    show wp (d + 36) 362 1259 [.ref (7 : Nat), .ref (9 : Nat), .ref (70 : Nat), .ref (559 : Nat), .int (nt i), .int 0, v6, v7] [.int A] (mk n K L2 x) Φ
    rw [r362_1259 (lo_i _), r362_1261, r362_1262 (Nat.le_of_ble_eq_true rfl)]
    refine th192 _ ?_
    show wp (d + 36) 362 1265 [.ref (7 : Nat), .ref (9 : Nat), .ref (70 : Nat), .ref (559 : Nat), .int (nt i), .int 0, .int A, v7] [.int (K 70 0)] (mk n K L2 x) Φ
    rw [e3, r362_1265, r362_1267, if_pos rfl, r362_1272, r362_1274, if_pos rfl, r362_1277, r362_1278, r362_1279 s559 (by decide) (by decide) (by decide) z559, r362_1280, r362_1282, show L2 559 (0 : Int32).toNatClampNeg = A.toInt64 from e2, r362_1283, lg_self, r362_1284, if_pos rfl, r362_1289]
    exact hgo _ _ _ _ _ _ hK e4 (Nat.le_succ _)
  · refine c1 _ ?_
    show wp (d + 36) 362 1247 [.ref (7 : Nat), .ref (9 : Nat), .ref (70 : Nat), .ref (559 : Nat), .int (nt i), v5, v6, v7] [.int c] (mk n J L (x + 1)) Φ
    rw [r362_1247 (lo_i _), r362_1249, r362_1250, r362_1251, r362_1253, r362_1254, r362_1255 s7 (by decide) f1 g1, e1, r362_1256 (Nat.le_of_ble_eq_true rfl)]
    refine c2 _ ?_
    show wp (d + 36) 362 1259 [.ref (7 : Nat), .ref (9 : Nat), .ref (70 : Nat), .ref (559 : Nat), .int (nt i), .int c, v6, v7] [.int 0] (mk n K L (x + 1)) Φ
    rw [r362_1259 (lo_i _), r362_1261, r362_1262 (Nat.le_of_ble_eq_true rfl)]
    refine th192 _ ?_
    show wp (d + 36) 362 1265 [.ref (7 : Nat), .ref (9 : Nat), .ref (70 : Nat), .ref (559 : Nat), .int (nt i), .int c, .int 0, v7] [.int (K 70 0)] (mk n K L (x + 1)) Φ
    rw [e3, r362_1265, r362_1267, if_pos rfl, r362_1272, r362_1274, if_neg hc, r362_1289]
    exact hgo _ _ _ _ _ _ hK e4 (Nat.le_refl _)
theorem k18_1292 (hf : FT n i) (hx : x + 1 ≤ 600) (hI : LI I) (hgo : GO d n i x I Φ) : wp (d + 36) 362 1292 [.ref (7 : Nat), .ref (9 : Nat), .ref (70 : Nat), .ref (559 : Nat), .int (nt i), v5, v6, v7] [] (mk n I L x) Φ := by
  have f1 : (0 : Int32) ≤ nt i + 1 := (hf 1 (by decide)).1
  have g1 : (nt i + 1).toNatClampNeg < (sh0 n 7).2.1 := (hf 1 (by decide)).2
  have hw := z344 (d := d) (L := L) (n := n) hI hx (I 7 (nt i + 1).toNatClampNeg)
  rw [r362_1292, r362_1293, r362_1294, r362_1296, r362_1297, r362_1298 s7 (by decide) f1 g1, r362_1299, r362_1300 (Nat.le_of_ble_eq_true rfl)]
  rcases hw with ⟨A, J, c1, e1, K, L2, e2, c2, e3, hK, e4⟩ | ⟨c, J, hc, c1, e1, K, c2, e3, hK, e4⟩
  · refine c1 _ ?_
    show wp (d + 36) 362 1303 [.ref (7 : Nat), .ref (9 : Nat), .ref (70 : Nat), .ref (559 : Nat), .int (nt i), v5, v6, v7] [.int 0] (mk n J (wrL L 559 0 A.toInt64) x) Φ
    rw [r362_1303 (lo_i _), r362_1305, r362_1306, r362_1307, r362_1309, r362_1310, r362_1311 s7 (by decide) f1 g1, e1, r362_1312 (Nat.le_of_ble_eq_true rfl)]
    refine c2 _ ?_
    show wp (d + 36) 362 1315 [.ref (7 : Nat), .ref (9 : Nat), .ref (70 : Nat), .ref (559 : Nat), .int (nt i), .int 0, v6, v7] [.int A] (mk n K L2 x) Φ
    rw [r362_1315 (lo_i _), r362_1317, r362_1318 (Nat.le_of_ble_eq_true rfl)]
    refine th192 _ ?_
    show wp (d + 36) 362 1321 [.ref (7 : Nat), .ref (9 : Nat), .ref (70 : Nat), .ref (559 : Nat), .int (nt i), .int 0, .int A, v7] [.int (K 70 0)] (mk n K L2 x) Φ
    rw [e3, r362_1321, r362_1323, if_pos rfl, r362_1328, r362_1330, if_pos rfl, r362_1333, r362_1334, r362_1335 s559 (by decide) (by decide) (by decide) z559, r362_1336, r362_1338, show L2 559 (0 : Int32).toNatClampNeg = A.toInt64 from e2, r362_1339, lg_self, r362_1340, if_pos rfl, r362_1345]
    exact hgo _ _ _ _ _ _ hK e4 (Nat.le_succ _)
  · refine c1 _ ?_
    show wp (d + 36) 362 1303 [.ref (7 : Nat), .ref (9 : Nat), .ref (70 : Nat), .ref (559 : Nat), .int (nt i), v5, v6, v7] [.int c] (mk n J L (x + 1)) Φ
    rw [r362_1303 (lo_i _), r362_1305, r362_1306, r362_1307, r362_1309, r362_1310, r362_1311 s7 (by decide) f1 g1, e1, r362_1312 (Nat.le_of_ble_eq_true rfl)]
    refine c2 _ ?_
    show wp (d + 36) 362 1315 [.ref (7 : Nat), .ref (9 : Nat), .ref (70 : Nat), .ref (559 : Nat), .int (nt i), .int c, v6, v7] [.int 0] (mk n K L (x + 1)) Φ
    rw [r362_1315 (lo_i _), r362_1317, r362_1318 (Nat.le_of_ble_eq_true rfl)]
    refine th192 _ ?_
    show wp (d + 36) 362 1321 [.ref (7 : Nat), .ref (9 : Nat), .ref (70 : Nat), .ref (559 : Nat), .int (nt i), .int c, .int 0, v7] [.int (K 70 0)] (mk n K L (x + 1)) Φ
    rw [e3, r362_1321, r362_1323, if_pos rfl, r362_1328, r362_1330, if_neg hc, r362_1345]
    exact hgo _ _ _ _ _ _ hK e4 (Nat.le_refl _)
theorem k19_1348 (hf : FT n i) (hx : x + 1 ≤ 600) (hI : LI I) (hgo : GO d n i x I Φ) : wp (d + 36) 362 1348 [.ref (7 : Nat), .ref (9 : Nat), .ref (70 : Nat), .ref (559 : Nat), .int (nt i), v5, v6, v7] [] (mk n I L x) Φ := by
  have f1 : (0 : Int32) ≤ nt i + 1 := (hf 1 (by decide)).1
  have g1 : (nt i + 1).toNatClampNeg < (sh0 n 7).2.1 := (hf 1 (by decide)).2
  have hw := z345 (d := d) (L := L) (n := n) hI hx (I 7 (nt i + 1).toNatClampNeg)
  rw [r362_1348, r362_1349, r362_1350, r362_1352, r362_1353, r362_1354 s7 (by decide) f1 g1, r362_1355, r362_1356 (Nat.le_of_ble_eq_true rfl)]
  rcases hw with ⟨A, J, c1, e1, K, L2, e2, c2, e3, hK, e4⟩ | ⟨c, J, hc, c1, e1, K, c2, e3, hK, e4⟩
  · refine c1 _ ?_
    show wp (d + 36) 362 1359 [.ref (7 : Nat), .ref (9 : Nat), .ref (70 : Nat), .ref (559 : Nat), .int (nt i), v5, v6, v7] [.int 0] (mk n J (wrL L 559 0 A.toInt64) x) Φ
    rw [r362_1359 (lo_i _), r362_1361, r362_1362, r362_1363, r362_1365, r362_1366, r362_1367 s7 (by decide) f1 g1, e1, r362_1368 (Nat.le_of_ble_eq_true rfl)]
    refine c2 _ ?_
    show wp (d + 36) 362 1371 [.ref (7 : Nat), .ref (9 : Nat), .ref (70 : Nat), .ref (559 : Nat), .int (nt i), .int 0, v6, v7] [.int A] (mk n K L2 x) Φ
    rw [r362_1371 (lo_i _), r362_1373, r362_1374 (Nat.le_of_ble_eq_true rfl)]
    refine th192 _ ?_
    show wp (d + 36) 362 1377 [.ref (7 : Nat), .ref (9 : Nat), .ref (70 : Nat), .ref (559 : Nat), .int (nt i), .int 0, .int A, v7] [.int (K 70 0)] (mk n K L2 x) Φ
    rw [e3, r362_1377, r362_1379, if_pos rfl, r362_1384, r362_1386, if_pos rfl, r362_1389, r362_1390, r362_1391 s559 (by decide) (by decide) (by decide) z559, r362_1392, r362_1394, show L2 559 (0 : Int32).toNatClampNeg = A.toInt64 from e2, r362_1395, lg_self, r362_1396, if_pos rfl, r362_1401]
    exact hgo _ _ _ _ _ _ hK e4 (Nat.le_succ _)
  · refine c1 _ ?_
    show wp (d + 36) 362 1359 [.ref (7 : Nat), .ref (9 : Nat), .ref (70 : Nat), .ref (559 : Nat), .int (nt i), v5, v6, v7] [.int c] (mk n J L (x + 1)) Φ
    rw [r362_1359 (lo_i _), r362_1361, r362_1362, r362_1363, r362_1365, r362_1366, r362_1367 s7 (by decide) f1 g1, e1, r362_1368 (Nat.le_of_ble_eq_true rfl)]
    refine c2 _ ?_
    show wp (d + 36) 362 1371 [.ref (7 : Nat), .ref (9 : Nat), .ref (70 : Nat), .ref (559 : Nat), .int (nt i), .int c, v6, v7] [.int 0] (mk n K L (x + 1)) Φ
    rw [r362_1371 (lo_i _), r362_1373, r362_1374 (Nat.le_of_ble_eq_true rfl)]
    refine th192 _ ?_
    show wp (d + 36) 362 1377 [.ref (7 : Nat), .ref (9 : Nat), .ref (70 : Nat), .ref (559 : Nat), .int (nt i), .int c, .int 0, v7] [.int (K 70 0)] (mk n K L (x + 1)) Φ
    rw [e3, r362_1377, r362_1379, if_pos rfl, r362_1384, r362_1386, if_neg hc, r362_1401]
    exact hgo _ _ _ _ _ _ hK e4 (Nat.le_refl _)
theorem k20_1404 (hf : FT n i) (hx : x + 1 ≤ 600) (hI : LI I) (hgo : GO d n i x I Φ) : wp (d + 36) 362 1404 [.ref (7 : Nat), .ref (9 : Nat), .ref (70 : Nat), .ref (559 : Nat), .int (nt i), v5, v6, v7] [] (mk n I L x) Φ := by
  have f1 : (0 : Int32) ≤ nt i + 1 := (hf 1 (by decide)).1
  have g1 : (nt i + 1).toNatClampNeg < (sh0 n 7).2.1 := (hf 1 (by decide)).2
  have hw := z346 (d := d) (L := L) (n := n) hI hx (I 7 (nt i + 1).toNatClampNeg)
  rw [r362_1404, r362_1405, r362_1406, r362_1408, r362_1409, r362_1410 s7 (by decide) f1 g1, r362_1411, r362_1412 (Nat.le_of_ble_eq_true rfl)]
  rcases hw with ⟨A, J, c1, e1, K, L2, e2, c2, e3, hK, e4⟩ | ⟨c, J, hc, c1, e1, K, c2, e3, hK, e4⟩
  · refine c1 _ ?_
    show wp (d + 36) 362 1415 [.ref (7 : Nat), .ref (9 : Nat), .ref (70 : Nat), .ref (559 : Nat), .int (nt i), v5, v6, v7] [.int 0] (mk n J (wrL L 559 0 A.toInt64) x) Φ
    rw [r362_1415 (lo_i _), r362_1417, r362_1418, r362_1419, r362_1421, r362_1422, r362_1423 s7 (by decide) f1 g1, e1, r362_1424 (Nat.le_of_ble_eq_true rfl)]
    refine c2 _ ?_
    show wp (d + 36) 362 1427 [.ref (7 : Nat), .ref (9 : Nat), .ref (70 : Nat), .ref (559 : Nat), .int (nt i), .int 0, v6, v7] [.int A] (mk n K L2 x) Φ
    rw [r362_1427 (lo_i _), r362_1429, r362_1430 (Nat.le_of_ble_eq_true rfl)]
    refine th192 _ ?_
    show wp (d + 36) 362 1433 [.ref (7 : Nat), .ref (9 : Nat), .ref (70 : Nat), .ref (559 : Nat), .int (nt i), .int 0, .int A, v7] [.int (K 70 0)] (mk n K L2 x) Φ
    rw [e3, r362_1433, r362_1435, if_pos rfl, r362_1440, r362_1442, if_pos rfl, r362_1445, r362_1446, r362_1447 s559 (by decide) (by decide) (by decide) z559, r362_1448, r362_1450, show L2 559 (0 : Int32).toNatClampNeg = A.toInt64 from e2, r362_1451, lg_self, r362_1452, if_pos rfl, r362_1457]
    exact hgo _ _ _ _ _ _ hK e4 (Nat.le_succ _)
  · refine c1 _ ?_
    show wp (d + 36) 362 1415 [.ref (7 : Nat), .ref (9 : Nat), .ref (70 : Nat), .ref (559 : Nat), .int (nt i), v5, v6, v7] [.int c] (mk n J L (x + 1)) Φ
    rw [r362_1415 (lo_i _), r362_1417, r362_1418, r362_1419, r362_1421, r362_1422, r362_1423 s7 (by decide) f1 g1, e1, r362_1424 (Nat.le_of_ble_eq_true rfl)]
    refine c2 _ ?_
    show wp (d + 36) 362 1427 [.ref (7 : Nat), .ref (9 : Nat), .ref (70 : Nat), .ref (559 : Nat), .int (nt i), .int c, v6, v7] [.int 0] (mk n K L (x + 1)) Φ
    rw [r362_1427 (lo_i _), r362_1429, r362_1430 (Nat.le_of_ble_eq_true rfl)]
    refine th192 _ ?_
    show wp (d + 36) 362 1433 [.ref (7 : Nat), .ref (9 : Nat), .ref (70 : Nat), .ref (559 : Nat), .int (nt i), .int c, .int 0, v7] [.int (K 70 0)] (mk n K L (x + 1)) Φ
    rw [e3, r362_1433, r362_1435, if_pos rfl, r362_1440, r362_1442, if_neg hc, r362_1457]
    exact hgo _ _ _ _ _ _ hK e4 (Nat.le_refl _)
theorem k21_1460 (hf : FT n i) (hx : x + 1 ≤ 600) (hI : LI I) (hgo : GO d n i x I Φ) : wp (d + 36) 362 1460 [.ref (7 : Nat), .ref (9 : Nat), .ref (70 : Nat), .ref (559 : Nat), .int (nt i), v5, v6, v7] [] (mk n I L x) Φ := by
  have f1 : (0 : Int32) ≤ nt i + 1 := (hf 1 (by decide)).1
  have g1 : (nt i + 1).toNatClampNeg < (sh0 n 7).2.1 := (hf 1 (by decide)).2
  have hw := z347 (d := d) (L := L) (n := n) hI hx (I 7 (nt i + 1).toNatClampNeg)
  rw [r362_1460, r362_1461, r362_1462, r362_1464, r362_1465, r362_1466 s7 (by decide) f1 g1, r362_1467, r362_1468 (Nat.le_of_ble_eq_true rfl)]
  rcases hw with ⟨A, J, c1, e1, K, L2, e2, c2, e3, hK, e4⟩ | ⟨c, J, hc, c1, e1, K, c2, e3, hK, e4⟩
  · refine c1 _ ?_
    show wp (d + 36) 362 1471 [.ref (7 : Nat), .ref (9 : Nat), .ref (70 : Nat), .ref (559 : Nat), .int (nt i), v5, v6, v7] [.int 0] (mk n J (wrL L 559 0 A.toInt64) x) Φ
    rw [r362_1471 (lo_i _), r362_1473, r362_1474, r362_1475, r362_1477, r362_1478, r362_1479 s7 (by decide) f1 g1, e1, r362_1480 (Nat.le_of_ble_eq_true rfl)]
    refine c2 _ ?_
    show wp (d + 36) 362 1483 [.ref (7 : Nat), .ref (9 : Nat), .ref (70 : Nat), .ref (559 : Nat), .int (nt i), .int 0, v6, v7] [.int A] (mk n K L2 x) Φ
    rw [r362_1483 (lo_i _), r362_1485, r362_1486 (Nat.le_of_ble_eq_true rfl)]
    refine th192 _ ?_
    show wp (d + 36) 362 1489 [.ref (7 : Nat), .ref (9 : Nat), .ref (70 : Nat), .ref (559 : Nat), .int (nt i), .int 0, .int A, v7] [.int (K 70 0)] (mk n K L2 x) Φ
    rw [e3, r362_1489, r362_1491, if_pos rfl, r362_1496, r362_1498, if_pos rfl, r362_1501, r362_1502, r362_1503 s559 (by decide) (by decide) (by decide) z559, r362_1504, r362_1506, show L2 559 (0 : Int32).toNatClampNeg = A.toInt64 from e2, r362_1507, lg_self, r362_1508, if_pos rfl, r362_1513]
    exact hgo _ _ _ _ _ _ hK e4 (Nat.le_succ _)
  · refine c1 _ ?_
    show wp (d + 36) 362 1471 [.ref (7 : Nat), .ref (9 : Nat), .ref (70 : Nat), .ref (559 : Nat), .int (nt i), v5, v6, v7] [.int c] (mk n J L (x + 1)) Φ
    rw [r362_1471 (lo_i _), r362_1473, r362_1474, r362_1475, r362_1477, r362_1478, r362_1479 s7 (by decide) f1 g1, e1, r362_1480 (Nat.le_of_ble_eq_true rfl)]
    refine c2 _ ?_
    show wp (d + 36) 362 1483 [.ref (7 : Nat), .ref (9 : Nat), .ref (70 : Nat), .ref (559 : Nat), .int (nt i), .int c, v6, v7] [.int 0] (mk n K L (x + 1)) Φ
    rw [r362_1483 (lo_i _), r362_1485, r362_1486 (Nat.le_of_ble_eq_true rfl)]
    refine th192 _ ?_
    show wp (d + 36) 362 1489 [.ref (7 : Nat), .ref (9 : Nat), .ref (70 : Nat), .ref (559 : Nat), .int (nt i), .int c, .int 0, v7] [.int (K 70 0)] (mk n K L (x + 1)) Φ
    rw [e3, r362_1489, r362_1491, if_pos rfl, r362_1496, r362_1498, if_neg hc, r362_1513]
    exact hgo _ _ _ _ _ _ hK e4 (Nat.le_refl _)
theorem k22_1516 (hf : FT n i) (hx : x + 1 ≤ 600) (hI : LI I) (hgo : GO d n i x I Φ) : wp (d + 36) 362 1516 [.ref (7 : Nat), .ref (9 : Nat), .ref (70 : Nat), .ref (559 : Nat), .int (nt i), v5, v6, v7] [] (mk n I L x) Φ := by
  have f1 : (0 : Int32) ≤ nt i + 1 := (hf 1 (by decide)).1
  have g1 : (nt i + 1).toNatClampNeg < (sh0 n 7).2.1 := (hf 1 (by decide)).2
  have hw := z348 (d := d) (L := L) (n := n) hI hx (I 7 (nt i + 1).toNatClampNeg)
  rw [r362_1516, r362_1517, r362_1518, r362_1520, r362_1521, r362_1522 s7 (by decide) f1 g1, r362_1523, r362_1524 (Nat.le_of_ble_eq_true rfl)]
  rcases hw with ⟨A, J, c1, e1, K, L2, e2, c2, e3, hK, e4⟩ | ⟨c, J, hc, c1, e1, K, c2, e3, hK, e4⟩
  · refine c1 _ ?_
    show wp (d + 36) 362 1527 [.ref (7 : Nat), .ref (9 : Nat), .ref (70 : Nat), .ref (559 : Nat), .int (nt i), v5, v6, v7] [.int 0] (mk n J (wrL L 559 0 A.toInt64) x) Φ
    rw [r362_1527 (lo_i _), r362_1529, r362_1530, r362_1531, r362_1533, r362_1534, r362_1535 s7 (by decide) f1 g1, e1, r362_1536 (Nat.le_of_ble_eq_true rfl)]
    refine c2 _ ?_
    show wp (d + 36) 362 1539 [.ref (7 : Nat), .ref (9 : Nat), .ref (70 : Nat), .ref (559 : Nat), .int (nt i), .int 0, v6, v7] [.int A] (mk n K L2 x) Φ
    rw [r362_1539 (lo_i _), r362_1541, r362_1542 (Nat.le_of_ble_eq_true rfl)]
    refine th192 _ ?_
    show wp (d + 36) 362 1545 [.ref (7 : Nat), .ref (9 : Nat), .ref (70 : Nat), .ref (559 : Nat), .int (nt i), .int 0, .int A, v7] [.int (K 70 0)] (mk n K L2 x) Φ
    rw [e3, r362_1545, r362_1547, if_pos rfl, r362_1552, r362_1554, if_pos rfl, r362_1557, r362_1558, r362_1559 s559 (by decide) (by decide) (by decide) z559, r362_1560, r362_1562, show L2 559 (0 : Int32).toNatClampNeg = A.toInt64 from e2, r362_1563, lg_self, r362_1564, if_pos rfl, r362_1569]
    exact hgo _ _ _ _ _ _ hK e4 (Nat.le_succ _)
  · refine c1 _ ?_
    show wp (d + 36) 362 1527 [.ref (7 : Nat), .ref (9 : Nat), .ref (70 : Nat), .ref (559 : Nat), .int (nt i), v5, v6, v7] [.int c] (mk n J L (x + 1)) Φ
    rw [r362_1527 (lo_i _), r362_1529, r362_1530, r362_1531, r362_1533, r362_1534, r362_1535 s7 (by decide) f1 g1, e1, r362_1536 (Nat.le_of_ble_eq_true rfl)]
    refine c2 _ ?_
    show wp (d + 36) 362 1539 [.ref (7 : Nat), .ref (9 : Nat), .ref (70 : Nat), .ref (559 : Nat), .int (nt i), .int c, v6, v7] [.int 0] (mk n K L (x + 1)) Φ
    rw [r362_1539 (lo_i _), r362_1541, r362_1542 (Nat.le_of_ble_eq_true rfl)]
    refine th192 _ ?_
    show wp (d + 36) 362 1545 [.ref (7 : Nat), .ref (9 : Nat), .ref (70 : Nat), .ref (559 : Nat), .int (nt i), .int c, .int 0, v7] [.int (K 70 0)] (mk n K L (x + 1)) Φ
    rw [e3, r362_1545, r362_1547, if_pos rfl, r362_1552, r362_1554, if_neg hc, r362_1569]
    exact hgo _ _ _ _ _ _ hK e4 (Nat.le_refl _)
theorem k23_1572 (hf : FT n i) (hx : x + 1 ≤ 600) (hI : LI I) (hgo : GO d n i x I Φ) : wp (d + 36) 362 1572 [.ref (7 : Nat), .ref (9 : Nat), .ref (70 : Nat), .ref (559 : Nat), .int (nt i), v5, v6, v7] [] (mk n I L x) Φ := by
  have f1 : (0 : Int32) ≤ nt i + 1 := (hf 1 (by decide)).1
  have g1 : (nt i + 1).toNatClampNeg < (sh0 n 7).2.1 := (hf 1 (by decide)).2
  have hw := z349 (d := d) (L := L) (n := n) hI hx (I 7 (nt i + 1).toNatClampNeg)
  rw [r362_1572, r362_1573, r362_1574, r362_1576, r362_1577, r362_1578 s7 (by decide) f1 g1, r362_1579, r362_1580 (Nat.le_of_ble_eq_true rfl)]
  rcases hw with ⟨A, J, c1, e1, K, L2, e2, c2, e3, hK, e4⟩ | ⟨c, J, hc, c1, e1, K, c2, e3, hK, e4⟩
  · refine c1 _ ?_
    show wp (d + 36) 362 1583 [.ref (7 : Nat), .ref (9 : Nat), .ref (70 : Nat), .ref (559 : Nat), .int (nt i), v5, v6, v7] [.int 0] (mk n J (wrL L 559 0 A.toInt64) x) Φ
    rw [r362_1583 (lo_i _), r362_1585, r362_1586, r362_1587, r362_1589, r362_1590, r362_1591 s7 (by decide) f1 g1, e1, r362_1592 (Nat.le_of_ble_eq_true rfl)]
    refine c2 _ ?_
    show wp (d + 36) 362 1595 [.ref (7 : Nat), .ref (9 : Nat), .ref (70 : Nat), .ref (559 : Nat), .int (nt i), .int 0, v6, v7] [.int A] (mk n K L2 x) Φ
    rw [r362_1595 (lo_i _), r362_1597, r362_1598 (Nat.le_of_ble_eq_true rfl)]
    refine th192 _ ?_
    show wp (d + 36) 362 1601 [.ref (7 : Nat), .ref (9 : Nat), .ref (70 : Nat), .ref (559 : Nat), .int (nt i), .int 0, .int A, v7] [.int (K 70 0)] (mk n K L2 x) Φ
    rw [e3, r362_1601, r362_1603, if_pos rfl, r362_1608, r362_1610, if_pos rfl, r362_1613, r362_1614, r362_1615 s559 (by decide) (by decide) (by decide) z559, r362_1616, r362_1618, show L2 559 (0 : Int32).toNatClampNeg = A.toInt64 from e2, r362_1619, lg_self, r362_1620, if_pos rfl, r362_1625]
    exact hgo _ _ _ _ _ _ hK e4 (Nat.le_succ _)
  · refine c1 _ ?_
    show wp (d + 36) 362 1583 [.ref (7 : Nat), .ref (9 : Nat), .ref (70 : Nat), .ref (559 : Nat), .int (nt i), v5, v6, v7] [.int c] (mk n J L (x + 1)) Φ
    rw [r362_1583 (lo_i _), r362_1585, r362_1586, r362_1587, r362_1589, r362_1590, r362_1591 s7 (by decide) f1 g1, e1, r362_1592 (Nat.le_of_ble_eq_true rfl)]
    refine c2 _ ?_
    show wp (d + 36) 362 1595 [.ref (7 : Nat), .ref (9 : Nat), .ref (70 : Nat), .ref (559 : Nat), .int (nt i), .int c, v6, v7] [.int 0] (mk n K L (x + 1)) Φ
    rw [r362_1595 (lo_i _), r362_1597, r362_1598 (Nat.le_of_ble_eq_true rfl)]
    refine th192 _ ?_
    show wp (d + 36) 362 1601 [.ref (7 : Nat), .ref (9 : Nat), .ref (70 : Nat), .ref (559 : Nat), .int (nt i), .int c, .int 0, v7] [.int (K 70 0)] (mk n K L (x + 1)) Φ
    rw [e3, r362_1601, r362_1603, if_pos rfl, r362_1608, r362_1610, if_neg hc, r362_1625]
    exact hgo _ _ _ _ _ _ hK e4 (Nat.le_refl _)
theorem k24_1628 (hf : FT n i) (hx : x + 1 ≤ 600) (hI : LI I) (hgo : GO d n i x I Φ) : wp (d + 36) 362 1628 [.ref (7 : Nat), .ref (9 : Nat), .ref (70 : Nat), .ref (559 : Nat), .int (nt i), v5, v6, v7] [] (mk n I L x) Φ := by
  have f1 : (0 : Int32) ≤ nt i + 1 := (hf 1 (by decide)).1
  have g1 : (nt i + 1).toNatClampNeg < (sh0 n 7).2.1 := (hf 1 (by decide)).2
  have f2 : (0 : Int32) ≤ nt i + 2 := (hf 2 (by decide)).1
  have g2 : (nt i + 2).toNatClampNeg < (sh0 n 7).2.1 := (hf 2 (by decide)).2
  have f3 : (0 : Int32) ≤ nt i + 3 := (hf 3 (by decide)).1
  have g3 : (nt i + 3).toNatClampNeg < (sh0 n 7).2.1 := (hf 3 (by decide)).2
  have hw := z350 (d := d) (L := L) (n := n) hI hx (I 7 (nt i + 1).toNatClampNeg) (I 7 (nt i + 2).toNatClampNeg) (I 7 (nt i + 3).toNatClampNeg)
  rw [r362_1628, r362_1629, r362_1630, r362_1632, r362_1633, r362_1634 s7 (by decide) f1 g1, r362_1635, r362_1636, r362_1638, r362_1639, r362_1640 s7 (by decide) f2 g2, r362_1641, r362_1642, r362_1644, r362_1645, r362_1646 s7 (by decide) f3 g3, r362_1647, r362_1648 (Nat.le_of_ble_eq_true rfl)]
  rcases hw with ⟨A, J, c1, e1, K, L2, e2, c2, e3, hK, e4⟩ | ⟨c, J, hc, c1, e1, K, c2, e3, hK, e4⟩
  · refine c1 _ ?_
    show wp (d + 36) 362 1651 [.ref (7 : Nat), .ref (9 : Nat), .ref (70 : Nat), .ref (559 : Nat), .int (nt i), v5, v6, v7] [.int 0] (mk n J (wrL L 559 0 A.toInt64) x) Φ
    rw [r362_1651 (lo_i _), r362_1653, r362_1654, r362_1655, r362_1657, r362_1658, r362_1659 s7 (by decide) f1 g1, r362_1660, r362_1661, r362_1663, r362_1664, r362_1665 s7 (by decide) f2 g2, r362_1666, r362_1667, r362_1669, r362_1670, r362_1671 s7 (by decide) f3 g3, e1, r362_1672 (Nat.le_of_ble_eq_true rfl)]
    refine c2 _ ?_
    show wp (d + 36) 362 1675 [.ref (7 : Nat), .ref (9 : Nat), .ref (70 : Nat), .ref (559 : Nat), .int (nt i), .int 0, v6, v7] [.int A] (mk n K L2 x) Φ
    rw [r362_1675 (lo_i _), r362_1677, r362_1678 (Nat.le_of_ble_eq_true rfl)]
    refine th192 _ ?_
    show wp (d + 36) 362 1681 [.ref (7 : Nat), .ref (9 : Nat), .ref (70 : Nat), .ref (559 : Nat), .int (nt i), .int 0, .int A, v7] [.int (K 70 0)] (mk n K L2 x) Φ
    rw [e3, r362_1681, r362_1683, if_pos rfl, r362_1688, r362_1690, if_pos rfl, r362_1693, r362_1694, r362_1695 s559 (by decide) (by decide) (by decide) z559, r362_1696, r362_1698, show L2 559 (0 : Int32).toNatClampNeg = A.toInt64 from e2, r362_1699, lg_self, r362_1700, if_pos rfl, r362_1705]
    exact hgo _ _ _ _ _ _ hK e4 (Nat.le_succ _)
  · refine c1 _ ?_
    show wp (d + 36) 362 1651 [.ref (7 : Nat), .ref (9 : Nat), .ref (70 : Nat), .ref (559 : Nat), .int (nt i), v5, v6, v7] [.int c] (mk n J L (x + 1)) Φ
    rw [r362_1651 (lo_i _), r362_1653, r362_1654, r362_1655, r362_1657, r362_1658, r362_1659 s7 (by decide) f1 g1, r362_1660, r362_1661, r362_1663, r362_1664, r362_1665 s7 (by decide) f2 g2, r362_1666, r362_1667, r362_1669, r362_1670, r362_1671 s7 (by decide) f3 g3, e1, r362_1672 (Nat.le_of_ble_eq_true rfl)]
    refine c2 _ ?_
    show wp (d + 36) 362 1675 [.ref (7 : Nat), .ref (9 : Nat), .ref (70 : Nat), .ref (559 : Nat), .int (nt i), .int c, v6, v7] [.int 0] (mk n K L (x + 1)) Φ
    rw [r362_1675 (lo_i _), r362_1677, r362_1678 (Nat.le_of_ble_eq_true rfl)]
    refine th192 _ ?_
    show wp (d + 36) 362 1681 [.ref (7 : Nat), .ref (9 : Nat), .ref (70 : Nat), .ref (559 : Nat), .int (nt i), .int c, .int 0, v7] [.int (K 70 0)] (mk n K L (x + 1)) Φ
    rw [e3, r362_1681, r362_1683, if_pos rfl, r362_1688, r362_1690, if_neg hc, r362_1705]
    exact hgo _ _ _ _ _ _ hK e4 (Nat.le_refl _)
theorem k25_1708 (hf : FT n i) (hx : x + 1 ≤ 600) (hI : LI I) (hgo : GO d n i x I Φ) : wp (d + 36) 362 1708 [.ref (7 : Nat), .ref (9 : Nat), .ref (70 : Nat), .ref (559 : Nat), .int (nt i), v5, v6, v7] [] (mk n I L x) Φ := by
  have f1 : (0 : Int32) ≤ nt i + 1 := (hf 1 (by decide)).1
  have g1 : (nt i + 1).toNatClampNeg < (sh0 n 7).2.1 := (hf 1 (by decide)).2
  have f2 : (0 : Int32) ≤ nt i + 2 := (hf 2 (by decide)).1
  have g2 : (nt i + 2).toNatClampNeg < (sh0 n 7).2.1 := (hf 2 (by decide)).2
  have f3 : (0 : Int32) ≤ nt i + 3 := (hf 3 (by decide)).1
  have g3 : (nt i + 3).toNatClampNeg < (sh0 n 7).2.1 := (hf 3 (by decide)).2
  have f4 : (0 : Int32) ≤ nt i + 4 := (hf 4 (by decide)).1
  have g4 : (nt i + 4).toNatClampNeg < (sh0 n 7).2.1 := (hf 4 (by decide)).2
  have hw := z351 (d := d) (L := L) (n := n) hI hx (I 7 (nt i + 1).toNatClampNeg) (I 7 (nt i + 2).toNatClampNeg) (I 7 (nt i + 3).toNatClampNeg) (I 7 (nt i + 4).toNatClampNeg)
  rw [r362_1708, r362_1709, r362_1710, r362_1712, r362_1713, r362_1714 s7 (by decide) f1 g1, r362_1715, r362_1716, r362_1718, r362_1719, r362_1720 s7 (by decide) f2 g2, r362_1721, r362_1722, r362_1724, r362_1725, r362_1726 s7 (by decide) f3 g3, r362_1727, r362_1728, r362_1730, r362_1731, r362_1732 s7 (by decide) f4 g4, r362_1733, r362_1734 (Nat.le_of_ble_eq_true rfl)]
  rcases hw with ⟨A, J, c1, e1, K, L2, e2, c2, e3, hK, e4⟩ | ⟨c, J, hc, c1, e1, K, c2, e3, hK, e4⟩
  · refine c1 _ ?_
    show wp (d + 36) 362 1737 [.ref (7 : Nat), .ref (9 : Nat), .ref (70 : Nat), .ref (559 : Nat), .int (nt i), v5, v6, v7] [.int 0] (mk n J (wrL L 559 0 A) x) Φ
    rw [r362_1737 (lo_i _), r362_1739, r362_1740, r362_1741, r362_1743, r362_1744, r362_1745 s7 (by decide) f1 g1, r362_1746, r362_1747, r362_1749, r362_1750, r362_1751 s7 (by decide) f2 g2, r362_1752, r362_1753, r362_1755, r362_1756, r362_1757 s7 (by decide) f3 g3, r362_1758, r362_1759, r362_1761, r362_1762, r362_1763 s7 (by decide) f4 g4, e1, r362_1764 (Nat.le_of_ble_eq_true rfl)]
    refine c2 _ ?_
    show wp (d + 36) 362 1767 [.ref (7 : Nat), .ref (9 : Nat), .ref (70 : Nat), .ref (559 : Nat), .int (nt i), .int 0, v6, v7] [.long A] (mk n K L2 x) Φ
    rw [r362_1767 (lo_i _), r362_1769, r362_1770 (Nat.le_of_ble_eq_true rfl)]
    refine th192 _ ?_
    show wp (d + 36) 362 1773 [.ref (7 : Nat), .ref (9 : Nat), .ref (70 : Nat), .ref (559 : Nat), .int (nt i), .int 0, .long A, noV] [.int (K 70 0)] (mk n K L2 x) Φ
    rw [e3, r362_1773, r362_1775, if_pos rfl, r362_1780, r362_1782, if_pos rfl, r362_1785, r362_1786, r362_1787 s559 (by decide) (by decide) (by decide) z559, r362_1788, show L2 559 (0 : Int32).toNatClampNeg = A from e2, r362_1790, lg_self, r362_1791, if_pos rfl, r362_1796]
    exact hgo _ _ _ _ _ _ hK e4 (Nat.le_succ _)
  · refine c1 _ ?_
    show wp (d + 36) 362 1737 [.ref (7 : Nat), .ref (9 : Nat), .ref (70 : Nat), .ref (559 : Nat), .int (nt i), v5, v6, v7] [.int c] (mk n J L (x + 1)) Φ
    rw [r362_1737 (lo_i _), r362_1739, r362_1740, r362_1741, r362_1743, r362_1744, r362_1745 s7 (by decide) f1 g1, r362_1746, r362_1747, r362_1749, r362_1750, r362_1751 s7 (by decide) f2 g2, r362_1752, r362_1753, r362_1755, r362_1756, r362_1757 s7 (by decide) f3 g3, r362_1758, r362_1759, r362_1761, r362_1762, r362_1763 s7 (by decide) f4 g4, e1, r362_1764 (Nat.le_of_ble_eq_true rfl)]
    refine c2 _ ?_
    show wp (d + 36) 362 1767 [.ref (7 : Nat), .ref (9 : Nat), .ref (70 : Nat), .ref (559 : Nat), .int (nt i), .int c, v6, v7] [.long 0] (mk n K L (x + 1)) Φ
    rw [r362_1767 (lo_i _), r362_1769, r362_1770 (Nat.le_of_ble_eq_true rfl)]
    refine th192 _ ?_
    show wp (d + 36) 362 1773 [.ref (7 : Nat), .ref (9 : Nat), .ref (70 : Nat), .ref (559 : Nat), .int (nt i), .int c, .long 0, noV] [.int (K 70 0)] (mk n K L (x + 1)) Φ
    rw [e3, r362_1773, r362_1775, if_pos rfl, r362_1780, r362_1782, if_neg hc, r362_1796]
    exact hgo _ _ _ _ _ _ hK e4 (Nat.le_refl _)
theorem k26_1799 (hf : FT n i) (hx : x + 1 ≤ 600) (hI : LI I) (hgo : GO d n i x I Φ) : wp (d + 36) 362 1799 [.ref (7 : Nat), .ref (9 : Nat), .ref (70 : Nat), .ref (559 : Nat), .int (nt i), v5, v6, v7] [] (mk n I L x) Φ := by
  have f1 : (0 : Int32) ≤ nt i + 1 := (hf 1 (by decide)).1
  have g1 : (nt i + 1).toNatClampNeg < (sh0 n 7).2.1 := (hf 1 (by decide)).2
  have f2 : (0 : Int32) ≤ nt i + 2 := (hf 2 (by decide)).1
  have g2 : (nt i + 2).toNatClampNeg < (sh0 n 7).2.1 := (hf 2 (by decide)).2
  have f3 : (0 : Int32) ≤ nt i + 3 := (hf 3 (by decide)).1
  have g3 : (nt i + 3).toNatClampNeg < (sh0 n 7).2.1 := (hf 3 (by decide)).2
  have hw := z352 (d := d) (L := L) (n := n) hI hx (I 7 (nt i + 1).toNatClampNeg) (I 7 (nt i + 2).toNatClampNeg) (I 7 (nt i + 3).toNatClampNeg)
  rw [r362_1799, r362_1800, r362_1801, r362_1803, r362_1804, r362_1805 s7 (by decide) f1 g1, r362_1806, r362_1807, r362_1809, r362_1810, r362_1811 s7 (by decide) f2 g2, r362_1812, r362_1813, r362_1815, r362_1816, r362_1817 s7 (by decide) f3 g3, r362_1818, r362_1819 (Nat.le_of_ble_eq_true rfl)]
  rcases hw with ⟨A, J, c1, e1, K, L2, e2, c2, e3, hK, e4⟩ | ⟨c, J, hc, c1, e1, K, c2, e3, hK, e4⟩
  · refine c1 _ ?_
    show wp (d + 36) 362 1822 [.ref (7 : Nat), .ref (9 : Nat), .ref (70 : Nat), .ref (559 : Nat), .int (nt i), v5, v6, v7] [.int 0] (mk n J (wrL L 559 0 A.toInt64) x) Φ
    rw [r362_1822 (lo_i _), r362_1824, r362_1825, r362_1826, r362_1828, r362_1829, r362_1830 s7 (by decide) f1 g1, r362_1831, r362_1832, r362_1834, r362_1835, r362_1836 s7 (by decide) f2 g2, r362_1837, r362_1838, r362_1840, r362_1841, r362_1842 s7 (by decide) f3 g3, e1, r362_1843 (Nat.le_of_ble_eq_true rfl)]
    refine c2 _ ?_
    show wp (d + 36) 362 1846 [.ref (7 : Nat), .ref (9 : Nat), .ref (70 : Nat), .ref (559 : Nat), .int (nt i), .int 0, v6, v7] [.int A] (mk n K L2 x) Φ
    rw [r362_1846 (lo_i _), r362_1848, r362_1849 (Nat.le_of_ble_eq_true rfl)]
    refine th192 _ ?_
    show wp (d + 36) 362 1852 [.ref (7 : Nat), .ref (9 : Nat), .ref (70 : Nat), .ref (559 : Nat), .int (nt i), .int 0, .int A, v7] [.int (K 70 0)] (mk n K L2 x) Φ
    rw [e3, r362_1852, r362_1854, if_pos rfl, r362_1859, r362_1861, if_pos rfl, r362_1864, r362_1865, r362_1866 s559 (by decide) (by decide) (by decide) z559, r362_1867, r362_1869, show L2 559 (0 : Int32).toNatClampNeg = A.toInt64 from e2, r362_1870, lg_self, r362_1871, if_pos rfl, r362_1876]
    exact hgo _ _ _ _ _ _ hK e4 (Nat.le_succ _)
  · refine c1 _ ?_
    show wp (d + 36) 362 1822 [.ref (7 : Nat), .ref (9 : Nat), .ref (70 : Nat), .ref (559 : Nat), .int (nt i), v5, v6, v7] [.int c] (mk n J L (x + 1)) Φ
    rw [r362_1822 (lo_i _), r362_1824, r362_1825, r362_1826, r362_1828, r362_1829, r362_1830 s7 (by decide) f1 g1, r362_1831, r362_1832, r362_1834, r362_1835, r362_1836 s7 (by decide) f2 g2, r362_1837, r362_1838, r362_1840, r362_1841, r362_1842 s7 (by decide) f3 g3, e1, r362_1843 (Nat.le_of_ble_eq_true rfl)]
    refine c2 _ ?_
    show wp (d + 36) 362 1846 [.ref (7 : Nat), .ref (9 : Nat), .ref (70 : Nat), .ref (559 : Nat), .int (nt i), .int c, v6, v7] [.int 0] (mk n K L (x + 1)) Φ
    rw [r362_1846 (lo_i _), r362_1848, r362_1849 (Nat.le_of_ble_eq_true rfl)]
    refine th192 _ ?_
    show wp (d + 36) 362 1852 [.ref (7 : Nat), .ref (9 : Nat), .ref (70 : Nat), .ref (559 : Nat), .int (nt i), .int c, .int 0, v7] [.int (K 70 0)] (mk n K L (x + 1)) Φ
    rw [e3, r362_1852, r362_1854, if_pos rfl, r362_1859, r362_1861, if_neg hc, r362_1876]
    exact hgo _ _ _ _ _ _ hK e4 (Nat.le_refl _)
theorem k27_1879 (hf : FT n i) (hx : x + 1 ≤ 600) (hI : LI I) (hgo : GO d n i x I Φ) : wp (d + 36) 362 1879 [.ref (7 : Nat), .ref (9 : Nat), .ref (70 : Nat), .ref (559 : Nat), .int (nt i), v5, v6, v7] [] (mk n I L x) Φ := by
  have f1 : (0 : Int32) ≤ nt i + 1 := (hf 1 (by decide)).1
  have g1 : (nt i + 1).toNatClampNeg < (sh0 n 7).2.1 := (hf 1 (by decide)).2
  have f2 : (0 : Int32) ≤ nt i + 2 := (hf 2 (by decide)).1
  have g2 : (nt i + 2).toNatClampNeg < (sh0 n 7).2.1 := (hf 2 (by decide)).2
  have hw := z353 (d := d) (L := L) (n := n) hI hx (I 7 (nt i + 1).toNatClampNeg) (I 7 (nt i + 2).toNatClampNeg)
  rw [r362_1879, r362_1880, r362_1881, r362_1883, r362_1884, r362_1885 s7 (by decide) f1 g1, r362_1886, r362_1887, r362_1889, r362_1890, r362_1891 s7 (by decide) f2 g2, r362_1892, r362_1893 (Nat.le_of_ble_eq_true rfl)]
  rcases hw with ⟨A, J, c1, e1, K, L2, e2, c2, e3, hK, e4⟩ | ⟨c, J, hc, c1, e1, K, c2, e3, hK, e4⟩
  · refine c1 _ ?_
    show wp (d + 36) 362 1896 [.ref (7 : Nat), .ref (9 : Nat), .ref (70 : Nat), .ref (559 : Nat), .int (nt i), v5, v6, v7] [.int 0] (mk n J (wrL L 559 0 A.toInt64) x) Φ
    rw [r362_1896 (lo_i _), r362_1898, r362_1899, r362_1900, r362_1902, r362_1903, r362_1904 s7 (by decide) f1 g1, r362_1905, r362_1906, r362_1908, r362_1909, r362_1910 s7 (by decide) f2 g2, e1, r362_1911 (Nat.le_of_ble_eq_true rfl)]
    refine c2 _ ?_
    show wp (d + 36) 362 1914 [.ref (7 : Nat), .ref (9 : Nat), .ref (70 : Nat), .ref (559 : Nat), .int (nt i), .int 0, v6, v7] [.int A] (mk n K L2 x) Φ
    rw [r362_1914 (lo_i _), r362_1916, r362_1917 (Nat.le_of_ble_eq_true rfl)]
    refine th192 _ ?_
    show wp (d + 36) 362 1920 [.ref (7 : Nat), .ref (9 : Nat), .ref (70 : Nat), .ref (559 : Nat), .int (nt i), .int 0, .int A, v7] [.int (K 70 0)] (mk n K L2 x) Φ
    rw [e3, r362_1920, r362_1922, if_pos rfl, r362_1927, r362_1929, if_pos rfl, r362_1932, r362_1933, r362_1934 s559 (by decide) (by decide) (by decide) z559, r362_1935, r362_1937, show L2 559 (0 : Int32).toNatClampNeg = A.toInt64 from e2, r362_1938, lg_self, r362_1939, if_pos rfl, r362_1944]
    exact hgo _ _ _ _ _ _ hK e4 (Nat.le_succ _)
  · refine c1 _ ?_
    show wp (d + 36) 362 1896 [.ref (7 : Nat), .ref (9 : Nat), .ref (70 : Nat), .ref (559 : Nat), .int (nt i), v5, v6, v7] [.int c] (mk n J L (x + 1)) Φ
    rw [r362_1896 (lo_i _), r362_1898, r362_1899, r362_1900, r362_1902, r362_1903, r362_1904 s7 (by decide) f1 g1, r362_1905, r362_1906, r362_1908, r362_1909, r362_1910 s7 (by decide) f2 g2, e1, r362_1911 (Nat.le_of_ble_eq_true rfl)]
    refine c2 _ ?_
    show wp (d + 36) 362 1914 [.ref (7 : Nat), .ref (9 : Nat), .ref (70 : Nat), .ref (559 : Nat), .int (nt i), .int c, v6, v7] [.int 0] (mk n K L (x + 1)) Φ
    rw [r362_1914 (lo_i _), r362_1916, r362_1917 (Nat.le_of_ble_eq_true rfl)]
    refine th192 _ ?_
    show wp (d + 36) 362 1920 [.ref (7 : Nat), .ref (9 : Nat), .ref (70 : Nat), .ref (559 : Nat), .int (nt i), .int c, .int 0, v7] [.int (K 70 0)] (mk n K L (x + 1)) Φ
    rw [e3, r362_1920, r362_1922, if_pos rfl, r362_1927, r362_1929, if_neg hc, r362_1944]
    exact hgo _ _ _ _ _ _ hK e4 (Nat.le_refl _)
theorem k28_1947 (hf : FT n i) (hx : x + 1 ≤ 600) (hI : LI I) (hgo : GO d n i x I Φ) : wp (d + 36) 362 1947 [.ref (7 : Nat), .ref (9 : Nat), .ref (70 : Nat), .ref (559 : Nat), .int (nt i), v5, v6, v7] [] (mk n I L x) Φ := by
  obtain ⟨A, J, c1, K, L2, e2, c2, hK⟩ := (show PD (d + 35) 159 293 [] n I L x from pd159 (d := d + 23) hI hx)
  rw [r362_1947, r362_1948 (Nat.le_of_ble_eq_true rfl)]
  refine c1 _ ?_
  show wp (d + 36) 362 1951 [.ref (7 : Nat), .ref (9 : Nat), .ref (70 : Nat), .ref (559 : Nat), .int (nt i), v5, v6, v7] [.int A] (mk n J L x) Φ
  rw [r362_1951, r362_1952 (Nat.le_of_ble_eq_true rfl)]
  refine c2 _ ?_
  show wp (d + 36) 362 1955 [.ref (7 : Nat), .ref (9 : Nat), .ref (70 : Nat), .ref (559 : Nat), .int (nt i), v5, v6, v7] [.int A, .int A] (mk n K L2 x) Φ
  rw [r362_1955, if_pos rfl]
  exact hgo _ _ _ _ _ _ hK ((cres_lo c2).trans (cres_lo c1)) (Nat.le_succ _)
theorem k29_1960 (hf : FT n i) (hx : x + 1 ≤ 600) (hI : LI I) (hgo : GO d n i x I Φ) : wp (d + 36) 362 1960 [.ref (7 : Nat), .ref (9 : Nat), .ref (70 : Nat), .ref (559 : Nat), .int (nt i), v5, v6, v7] [] (mk n I L x) Φ := by
  have f1 : (0 : Int32) ≤ nt i + 1 := (hf 1 (by decide)).1
  have g1 : (nt i + 1).toNatClampNeg < (sh0 n 7).2.1 := (hf 1 (by decide)).2
  have hw := z354 (d := d) (L := L) (n := n) hI hx (I 7 (nt i + 1).toNatClampNeg)
  rw [r362_1960, r362_1961, r362_1962, r362_1964, r362_1965, r362_1966 s7 (by decide) f1 g1, r362_1967, r362_1968 (Nat.le_of_ble_eq_true rfl)]
  rcases hw with ⟨A, J, c1, e1, K, L2, e2, c2, e3, hK, e4⟩ | ⟨c, J, hc, c1, e1, K, c2, e3, hK, e4⟩
  · refine c1 _ ?_
    show wp (d + 36) 362 1971 [.ref (7 : Nat), .ref (9 : Nat), .ref (70 : Nat), .ref (559 : Nat), .int (nt i), v5, v6, v7] [.int 0] (mk n J (wrL L 559 0 A.toInt64) x) Φ
    rw [r362_1971 (lo_i _), r362_1973, r362_1974, r362_1975, r362_1977, r362_1978, r362_1979 s7 (by decide) f1 g1, e1, r362_1980 (Nat.le_of_ble_eq_true rfl)]
    refine c2 _ ?_
    show wp (d + 36) 362 1983 [.ref (7 : Nat), .ref (9 : Nat), .ref (70 : Nat), .ref (559 : Nat), .int (nt i), .int 0, v6, v7] [.int A] (mk n K L2 x) Φ
    rw [r362_1983 (lo_i _), r362_1985, r362_1986 (Nat.le_of_ble_eq_true rfl)]
    refine th192 _ ?_
    show wp (d + 36) 362 1989 [.ref (7 : Nat), .ref (9 : Nat), .ref (70 : Nat), .ref (559 : Nat), .int (nt i), .int 0, .int A, v7] [.int (K 70 0)] (mk n K L2 x) Φ
    rw [e3, r362_1989, r362_1991, if_pos rfl, r362_1996, r362_1998, if_pos rfl, r362_2001, r362_2002, r362_2003 s559 (by decide) (by decide) (by decide) z559, r362_2004, r362_2006, show L2 559 (0 : Int32).toNatClampNeg = A.toInt64 from e2, r362_2007, lg_self, r362_2008, if_pos rfl, r362_2013]
    exact hgo _ _ _ _ _ _ hK e4 (Nat.le_succ _)
  · refine c1 _ ?_
    show wp (d + 36) 362 1971 [.ref (7 : Nat), .ref (9 : Nat), .ref (70 : Nat), .ref (559 : Nat), .int (nt i), v5, v6, v7] [.int c] (mk n J L (x + 1)) Φ
    rw [r362_1971 (lo_i _), r362_1973, r362_1974, r362_1975, r362_1977, r362_1978, r362_1979 s7 (by decide) f1 g1, e1, r362_1980 (Nat.le_of_ble_eq_true rfl)]
    refine c2 _ ?_
    show wp (d + 36) 362 1983 [.ref (7 : Nat), .ref (9 : Nat), .ref (70 : Nat), .ref (559 : Nat), .int (nt i), .int c, v6, v7] [.int 0] (mk n K L (x + 1)) Φ
    rw [r362_1983 (lo_i _), r362_1985, r362_1986 (Nat.le_of_ble_eq_true rfl)]
    refine th192 _ ?_
    show wp (d + 36) 362 1989 [.ref (7 : Nat), .ref (9 : Nat), .ref (70 : Nat), .ref (559 : Nat), .int (nt i), .int c, .int 0, v7] [.int (K 70 0)] (mk n K L (x + 1)) Φ
    rw [e3, r362_1989, r362_1991, if_pos rfl, r362_1996, r362_1998, if_neg hc, r362_2013]
    exact hgo _ _ _ _ _ _ hK e4 (Nat.le_refl _)
theorem k30_2016 (hf : FT n i) (hx : x + 1 ≤ 600) (hI : LI I) (hgo : GO d n i x I Φ) : wp (d + 36) 362 2016 [.ref (7 : Nat), .ref (9 : Nat), .ref (70 : Nat), .ref (559 : Nat), .int (nt i), v5, v6, v7] [] (mk n I L x) Φ := by
  have f1 : (0 : Int32) ≤ nt i + 1 := (hf 1 (by decide)).1
  have g1 : (nt i + 1).toNatClampNeg < (sh0 n 7).2.1 := (hf 1 (by decide)).2
  have hw := z355 (d := d) (L := L) (n := n) hI hx (I 7 (nt i + 1).toNatClampNeg)
  rw [r362_2016, r362_2017, r362_2018, r362_2020, r362_2021, r362_2022 s7 (by decide) f1 g1, r362_2023, r362_2024 (Nat.le_of_ble_eq_true rfl)]
  rcases hw with ⟨A, J, c1, e1, K, L2, e2, c2, e3, hK, e4⟩ | ⟨c, J, hc, c1, e1, K, c2, e3, hK, e4⟩
  · refine c1 _ ?_
    show wp (d + 36) 362 2027 [.ref (7 : Nat), .ref (9 : Nat), .ref (70 : Nat), .ref (559 : Nat), .int (nt i), v5, v6, v7] [.int 0] (mk n J (wrL L 559 0 A.toInt64) x) Φ
    rw [r362_2027 (lo_i _), r362_2029, r362_2030, r362_2031, r362_2033, r362_2034, r362_2035 s7 (by decide) f1 g1, e1, r362_2036 (Nat.le_of_ble_eq_true rfl)]
    refine c2 _ ?_
    show wp (d + 36) 362 2039 [.ref (7 : Nat), .ref (9 : Nat), .ref (70 : Nat), .ref (559 : Nat), .int (nt i), .int 0, v6, v7] [.int A] (mk n K L2 x) Φ
    rw [r362_2039 (lo_i _), r362_2041, r362_2042 (Nat.le_of_ble_eq_true rfl)]
    refine th192 _ ?_
    show wp (d + 36) 362 2045 [.ref (7 : Nat), .ref (9 : Nat), .ref (70 : Nat), .ref (559 : Nat), .int (nt i), .int 0, .int A, v7] [.int (K 70 0)] (mk n K L2 x) Φ
    rw [e3, r362_2045, r362_2047, if_pos rfl, r362_2052, r362_2054, if_pos rfl, r362_2057, r362_2058, r362_2059 s559 (by decide) (by decide) (by decide) z559, r362_2060, r362_2062, show L2 559 (0 : Int32).toNatClampNeg = A.toInt64 from e2, r362_2063, lg_self, r362_2064, if_pos rfl, r362_2069]
    exact hgo _ _ _ _ _ _ hK e4 (Nat.le_succ _)
  · refine c1 _ ?_
    show wp (d + 36) 362 2027 [.ref (7 : Nat), .ref (9 : Nat), .ref (70 : Nat), .ref (559 : Nat), .int (nt i), v5, v6, v7] [.int c] (mk n J L (x + 1)) Φ
    rw [r362_2027 (lo_i _), r362_2029, r362_2030, r362_2031, r362_2033, r362_2034, r362_2035 s7 (by decide) f1 g1, e1, r362_2036 (Nat.le_of_ble_eq_true rfl)]
    refine c2 _ ?_
    show wp (d + 36) 362 2039 [.ref (7 : Nat), .ref (9 : Nat), .ref (70 : Nat), .ref (559 : Nat), .int (nt i), .int c, v6, v7] [.int 0] (mk n K L (x + 1)) Φ
    rw [r362_2039 (lo_i _), r362_2041, r362_2042 (Nat.le_of_ble_eq_true rfl)]
    refine th192 _ ?_
    show wp (d + 36) 362 2045 [.ref (7 : Nat), .ref (9 : Nat), .ref (70 : Nat), .ref (559 : Nat), .int (nt i), .int c, .int 0, v7] [.int (K 70 0)] (mk n K L (x + 1)) Φ
    rw [e3, r362_2045, r362_2047, if_pos rfl, r362_2052, r362_2054, if_neg hc, r362_2069]
    exact hgo _ _ _ _ _ _ hK e4 (Nat.le_refl _)
theorem k31_2072 (hf : FT n i) (hx : x + 1 ≤ 600) (hI : LI I) (hgo : GO d n i x I Φ) : wp (d + 36) 362 2072 [.ref (7 : Nat), .ref (9 : Nat), .ref (70 : Nat), .ref (559 : Nat), .int (nt i), v5, v6, v7] [] (mk n I L x) Φ := by
  have f1 : (0 : Int32) ≤ nt i + 1 := (hf 1 (by decide)).1
  have g1 : (nt i + 1).toNatClampNeg < (sh0 n 7).2.1 := (hf 1 (by decide)).2
  have f2 : (0 : Int32) ≤ nt i + 2 := (hf 2 (by decide)).1
  have g2 : (nt i + 2).toNatClampNeg < (sh0 n 7).2.1 := (hf 2 (by decide)).2
  have hw := z356 (d := d) (L := L) (n := n) hI hx (I 7 (nt i + 1).toNatClampNeg) (I 7 (nt i + 2).toNatClampNeg)
  rw [r362_2072, r362_2073, r362_2074, r362_2076, r362_2077, r362_2078 s7 (by decide) f1 g1, r362_2079, r362_2080, r362_2082, r362_2083, r362_2084 s7 (by decide) f2 g2, r362_2085, r362_2086 (Nat.le_of_ble_eq_true rfl)]
  rcases hw with ⟨A, J, c1, e1, K, L2, e2, c2, e3, hK, e4⟩ | ⟨c, J, hc, c1, e1, K, c2, e3, hK, e4⟩
  · refine c1 _ ?_
    show wp (d + 36) 362 2089 [.ref (7 : Nat), .ref (9 : Nat), .ref (70 : Nat), .ref (559 : Nat), .int (nt i), v5, v6, v7] [.int 0] (mk n J (wrL L 559 0 A.toInt64) x) Φ
    rw [r362_2089 (lo_i _), r362_2091, r362_2092, r362_2093, r362_2095, r362_2096, r362_2097 s7 (by decide) f1 g1, r362_2098, r362_2099, r362_2101, r362_2102, r362_2103 s7 (by decide) f2 g2, e1, r362_2104 (Nat.le_of_ble_eq_true rfl)]
    refine c2 _ ?_
    show wp (d + 36) 362 2107 [.ref (7 : Nat), .ref (9 : Nat), .ref (70 : Nat), .ref (559 : Nat), .int (nt i), .int 0, v6, v7] [.int A] (mk n K L2 x) Φ
    rw [r362_2107 (lo_i _), r362_2109, r362_2110 (Nat.le_of_ble_eq_true rfl)]
    refine th192 _ ?_
    show wp (d + 36) 362 2113 [.ref (7 : Nat), .ref (9 : Nat), .ref (70 : Nat), .ref (559 : Nat), .int (nt i), .int 0, .int A, v7] [.int (K 70 0)] (mk n K L2 x) Φ
    rw [e3, r362_2113, r362_2115, if_pos rfl, r362_2120, r362_2122, if_pos rfl, r362_2125, r362_2126, r362_2127 s559 (by decide) (by decide) (by decide) z559, r362_2128, r362_2130, show L2 559 (0 : Int32).toNatClampNeg = A.toInt64 from e2, r362_2131, lg_self, r362_2132, if_pos rfl, r362_2137]
    exact hgo _ _ _ _ _ _ hK e4 (Nat.le_succ _)
  · refine c1 _ ?_
    show wp (d + 36) 362 2089 [.ref (7 : Nat), .ref (9 : Nat), .ref (70 : Nat), .ref (559 : Nat), .int (nt i), v5, v6, v7] [.int c] (mk n J L (x + 1)) Φ
    rw [r362_2089 (lo_i _), r362_2091, r362_2092, r362_2093, r362_2095, r362_2096, r362_2097 s7 (by decide) f1 g1, r362_2098, r362_2099, r362_2101, r362_2102, r362_2103 s7 (by decide) f2 g2, e1, r362_2104 (Nat.le_of_ble_eq_true rfl)]
    refine c2 _ ?_
    show wp (d + 36) 362 2107 [.ref (7 : Nat), .ref (9 : Nat), .ref (70 : Nat), .ref (559 : Nat), .int (nt i), .int c, v6, v7] [.int 0] (mk n K L (x + 1)) Φ
    rw [r362_2107 (lo_i _), r362_2109, r362_2110 (Nat.le_of_ble_eq_true rfl)]
    refine th192 _ ?_
    show wp (d + 36) 362 2113 [.ref (7 : Nat), .ref (9 : Nat), .ref (70 : Nat), .ref (559 : Nat), .int (nt i), .int c, .int 0, v7] [.int (K 70 0)] (mk n K L (x + 1)) Φ
    rw [e3, r362_2113, r362_2115, if_pos rfl, r362_2120, r362_2122, if_neg hc, r362_2137]
    exact hgo _ _ _ _ _ _ hK e4 (Nat.le_refl _)
theorem k32_2140 (hf : FT n i) (hx : x + 1 ≤ 600) (hI : LI I) (hgo : GO d n i x I Φ) : wp (d + 36) 362 2140 [.ref (7 : Nat), .ref (9 : Nat), .ref (70 : Nat), .ref (559 : Nat), .int (nt i), v5, v6, v7] [] (mk n I L x) Φ := by
  have f1 : (0 : Int32) ≤ nt i + 1 := (hf 1 (by decide)).1
  have g1 : (nt i + 1).toNatClampNeg < (sh0 n 7).2.1 := (hf 1 (by decide)).2
  have hw := z357 (d := d) (L := L) (n := n) hI hx (I 7 (nt i + 1).toNatClampNeg)
  rw [r362_2140, r362_2141, r362_2142, r362_2144, r362_2145, r362_2146 s7 (by decide) f1 g1, r362_2147, r362_2148 (Nat.le_of_ble_eq_true rfl)]
  rcases hw with ⟨A, J, c1, e1, K, L2, e2, c2, e3, hK, e4⟩ | ⟨c, J, hc, c1, e1, K, c2, e3, hK, e4⟩
  · refine c1 _ ?_
    show wp (d + 36) 362 2151 [.ref (7 : Nat), .ref (9 : Nat), .ref (70 : Nat), .ref (559 : Nat), .int (nt i), v5, v6, v7] [.int 0] (mk n J (wrL L 559 0 A.toInt64) x) Φ
    rw [r362_2151 (lo_i _), r362_2153, r362_2154, r362_2155, r362_2157, r362_2158, r362_2159 s7 (by decide) f1 g1, e1, r362_2160 (Nat.le_of_ble_eq_true rfl)]
    refine c2 _ ?_
    show wp (d + 36) 362 2163 [.ref (7 : Nat), .ref (9 : Nat), .ref (70 : Nat), .ref (559 : Nat), .int (nt i), .int 0, v6, v7] [.int A] (mk n K L2 x) Φ
    rw [r362_2163 (lo_i _), r362_2165, r362_2166 (Nat.le_of_ble_eq_true rfl)]
    refine th192 _ ?_
    show wp (d + 36) 362 2169 [.ref (7 : Nat), .ref (9 : Nat), .ref (70 : Nat), .ref (559 : Nat), .int (nt i), .int 0, .int A, v7] [.int (K 70 0)] (mk n K L2 x) Φ
    rw [e3, r362_2169, r362_2171, if_pos rfl, r362_2176, r362_2178, if_pos rfl, r362_2181, r362_2182, r362_2183 s559 (by decide) (by decide) (by decide) z559, r362_2184, r362_2186, show L2 559 (0 : Int32).toNatClampNeg = A.toInt64 from e2, r362_2187, lg_self, r362_2188, if_pos rfl, r362_2193]
    exact hgo _ _ _ _ _ _ hK e4 (Nat.le_succ _)
  · refine c1 _ ?_
    show wp (d + 36) 362 2151 [.ref (7 : Nat), .ref (9 : Nat), .ref (70 : Nat), .ref (559 : Nat), .int (nt i), v5, v6, v7] [.int c] (mk n J L (x + 1)) Φ
    rw [r362_2151 (lo_i _), r362_2153, r362_2154, r362_2155, r362_2157, r362_2158, r362_2159 s7 (by decide) f1 g1, e1, r362_2160 (Nat.le_of_ble_eq_true rfl)]
    refine c2 _ ?_
    show wp (d + 36) 362 2163 [.ref (7 : Nat), .ref (9 : Nat), .ref (70 : Nat), .ref (559 : Nat), .int (nt i), .int c, v6, v7] [.int 0] (mk n K L (x + 1)) Φ
    rw [r362_2163 (lo_i _), r362_2165, r362_2166 (Nat.le_of_ble_eq_true rfl)]
    refine th192 _ ?_
    show wp (d + 36) 362 2169 [.ref (7 : Nat), .ref (9 : Nat), .ref (70 : Nat), .ref (559 : Nat), .int (nt i), .int c, .int 0, v7] [.int (K 70 0)] (mk n K L (x + 1)) Φ
    rw [e3, r362_2169, r362_2171, if_pos rfl, r362_2176, r362_2178, if_neg hc, r362_2193]
    exact hgo _ _ _ _ _ _ hK e4 (Nat.le_refl _)
theorem k33_2196 (hf : FT n i) (hx : x + 1 ≤ 600) (hI : LI I) (hgo : GO d n i x I Φ) : wp (d + 36) 362 2196 [.ref (7 : Nat), .ref (9 : Nat), .ref (70 : Nat), .ref (559 : Nat), .int (nt i), v5, v6, v7] [] (mk n I L x) Φ := by
  obtain ⟨A, J, c1, K, L2, e2, c2, hK⟩ := (show PD (d + 35) 164 295 [] n I L x from pd164 (d := d + 23) hI hx)
  rw [r362_2196, r362_2197 (Nat.le_of_ble_eq_true rfl)]
  refine c1 _ ?_
  show wp (d + 36) 362 2200 [.ref (7 : Nat), .ref (9 : Nat), .ref (70 : Nat), .ref (559 : Nat), .int (nt i), v5, v6, v7] [.int A] (mk n J L x) Φ
  rw [r362_2200, r362_2201 (Nat.le_of_ble_eq_true rfl)]
  refine c2 _ ?_
  show wp (d + 36) 362 2204 [.ref (7 : Nat), .ref (9 : Nat), .ref (70 : Nat), .ref (559 : Nat), .int (nt i), v5, v6, v7] [.int A, .int A] (mk n K L2 x) Φ
  rw [r362_2204, if_pos rfl]
  exact hgo _ _ _ _ _ _ hK ((cres_lo c2).trans (cres_lo c1)) (Nat.le_succ _)
theorem k34_2209 (hf : FT n i) (hx : x + 1 ≤ 600) (hI : LI I) (hgo : GO d n i x I Φ) : wp (d + 36) 362 2209 [.ref (7 : Nat), .ref (9 : Nat), .ref (70 : Nat), .ref (559 : Nat), .int (nt i), v5, v6, v7] [] (mk n I L x) Φ := by
  have f1 : (0 : Int32) ≤ nt i + 1 := (hf 1 (by decide)).1
  have g1 : (nt i + 1).toNatClampNeg < (sh0 n 7).2.1 := (hf 1 (by decide)).2
  have hw := z358 (d := d) (L := L) (n := n) hI hx (I 7 (nt i + 1).toNatClampNeg)
  rw [r362_2209, r362_2210, r362_2211, r362_2213, r362_2214, r362_2215 s7 (by decide) f1 g1, r362_2216, r362_2217 (Nat.le_of_ble_eq_true rfl)]
  rcases hw with ⟨A, J, c1, e1, K, L2, e2, c2, e3, hK, e4⟩ | ⟨c, J, hc, c1, e1, K, c2, e3, hK, e4⟩
  · refine c1 _ ?_
    show wp (d + 36) 362 2220 [.ref (7 : Nat), .ref (9 : Nat), .ref (70 : Nat), .ref (559 : Nat), .int (nt i), v5, v6, v7] [.int 0] (mk n J (wrL L 559 0 A.toInt64) x) Φ
    rw [r362_2220 (lo_i _), r362_2222, r362_2223, r362_2224, r362_2226, r362_2227, r362_2228 s7 (by decide) f1 g1, e1, r362_2229 (Nat.le_of_ble_eq_true rfl)]
    refine c2 _ ?_
    show wp (d + 36) 362 2232 [.ref (7 : Nat), .ref (9 : Nat), .ref (70 : Nat), .ref (559 : Nat), .int (nt i), .int 0, v6, v7] [.int A] (mk n K L2 x) Φ
    rw [r362_2232 (lo_i _), r362_2234, r362_2235 (Nat.le_of_ble_eq_true rfl)]
    refine th192 _ ?_
    show wp (d + 36) 362 2238 [.ref (7 : Nat), .ref (9 : Nat), .ref (70 : Nat), .ref (559 : Nat), .int (nt i), .int 0, .int A, v7] [.int (K 70 0)] (mk n K L2 x) Φ
    rw [e3, r362_2238, r362_2240, if_pos rfl, r362_2245, r362_2247, if_pos rfl, r362_2250, r362_2251, r362_2252 s559 (by decide) (by decide) (by decide) z559, r362_2253, r362_2255, show L2 559 (0 : Int32).toNatClampNeg = A.toInt64 from e2, r362_2256, lg_self, r362_2257, if_pos rfl, r362_2262]
    exact hgo _ _ _ _ _ _ hK e4 (Nat.le_succ _)
  · refine c1 _ ?_
    show wp (d + 36) 362 2220 [.ref (7 : Nat), .ref (9 : Nat), .ref (70 : Nat), .ref (559 : Nat), .int (nt i), v5, v6, v7] [.int c] (mk n J L (x + 1)) Φ
    rw [r362_2220 (lo_i _), r362_2222, r362_2223, r362_2224, r362_2226, r362_2227, r362_2228 s7 (by decide) f1 g1, e1, r362_2229 (Nat.le_of_ble_eq_true rfl)]
    refine c2 _ ?_
    show wp (d + 36) 362 2232 [.ref (7 : Nat), .ref (9 : Nat), .ref (70 : Nat), .ref (559 : Nat), .int (nt i), .int c, v6, v7] [.int 0] (mk n K L (x + 1)) Φ
    rw [r362_2232 (lo_i _), r362_2234, r362_2235 (Nat.le_of_ble_eq_true rfl)]
    refine th192 _ ?_
    show wp (d + 36) 362 2238 [.ref (7 : Nat), .ref (9 : Nat), .ref (70 : Nat), .ref (559 : Nat), .int (nt i), .int c, .int 0, v7] [.int (K 70 0)] (mk n K L (x + 1)) Φ
    rw [e3, r362_2238, r362_2240, if_pos rfl, r362_2245, r362_2247, if_neg hc, r362_2262]
    exact hgo _ _ _ _ _ _ hK e4 (Nat.le_refl _)
theorem k35_2265 (hf : FT n i) (hx : x + 1 ≤ 600) (hI : LI I) (hgo : GO d n i x I Φ) : wp (d + 36) 362 2265 [.ref (7 : Nat), .ref (9 : Nat), .ref (70 : Nat), .ref (559 : Nat), .int (nt i), v5, v6, v7] [] (mk n I L x) Φ := by
  have f1 : (0 : Int32) ≤ nt i + 1 := (hf 1 (by decide)).1
  have g1 : (nt i + 1).toNatClampNeg < (sh0 n 7).2.1 := (hf 1 (by decide)).2
  have hw := z359 (d := d) (L := L) (n := n) hI hx (I 7 (nt i + 1).toNatClampNeg)
  rw [r362_2265, r362_2266, r362_2267, r362_2269, r362_2270, r362_2271 s7 (by decide) f1 g1, r362_2272, r362_2273 (Nat.le_of_ble_eq_true rfl)]
  rcases hw with ⟨A, J, c1, e1, K, L2, e2, c2, e3, hK, e4⟩ | ⟨c, J, hc, c1, e1, K, c2, e3, hK, e4⟩
  · refine c1 _ ?_
    show wp (d + 36) 362 2276 [.ref (7 : Nat), .ref (9 : Nat), .ref (70 : Nat), .ref (559 : Nat), .int (nt i), v5, v6, v7] [.int 0] (mk n J (wrL L 559 0 A.toInt64) x) Φ
    rw [r362_2276 (lo_i _), r362_2278, r362_2279, r362_2280, r362_2282, r362_2283, r362_2284 s7 (by decide) f1 g1, e1, r362_2285 (Nat.le_of_ble_eq_true rfl)]
    refine c2 _ ?_
    show wp (d + 36) 362 2288 [.ref (7 : Nat), .ref (9 : Nat), .ref (70 : Nat), .ref (559 : Nat), .int (nt i), .int 0, v6, v7] [.int A] (mk n K L2 x) Φ
    rw [r362_2288 (lo_i _), r362_2290, r362_2291 (Nat.le_of_ble_eq_true rfl)]
    refine th192 _ ?_
    show wp (d + 36) 362 2294 [.ref (7 : Nat), .ref (9 : Nat), .ref (70 : Nat), .ref (559 : Nat), .int (nt i), .int 0, .int A, v7] [.int (K 70 0)] (mk n K L2 x) Φ
    rw [e3, r362_2294, r362_2296, if_pos rfl, r362_2301, r362_2303, if_pos rfl, r362_2306, r362_2307, r362_2308 s559 (by decide) (by decide) (by decide) z559, r362_2309, r362_2311, show L2 559 (0 : Int32).toNatClampNeg = A.toInt64 from e2, r362_2312, lg_self, r362_2313, if_pos rfl, r362_2318]
    exact hgo _ _ _ _ _ _ hK e4 (Nat.le_succ _)
  · refine c1 _ ?_
    show wp (d + 36) 362 2276 [.ref (7 : Nat), .ref (9 : Nat), .ref (70 : Nat), .ref (559 : Nat), .int (nt i), v5, v6, v7] [.int c] (mk n J L (x + 1)) Φ
    rw [r362_2276 (lo_i _), r362_2278, r362_2279, r362_2280, r362_2282, r362_2283, r362_2284 s7 (by decide) f1 g1, e1, r362_2285 (Nat.le_of_ble_eq_true rfl)]
    refine c2 _ ?_
    show wp (d + 36) 362 2288 [.ref (7 : Nat), .ref (9 : Nat), .ref (70 : Nat), .ref (559 : Nat), .int (nt i), .int c, v6, v7] [.int 0] (mk n K L (x + 1)) Φ
    rw [r362_2288 (lo_i _), r362_2290, r362_2291 (Nat.le_of_ble_eq_true rfl)]
    refine th192 _ ?_
    show wp (d + 36) 362 2294 [.ref (7 : Nat), .ref (9 : Nat), .ref (70 : Nat), .ref (559 : Nat), .int (nt i), .int c, .int 0, v7] [.int (K 70 0)] (mk n K L (x + 1)) Φ
    rw [e3, r362_2294, r362_2296, if_pos rfl, r362_2301, r362_2303, if_neg hc, r362_2318]
    exact hgo _ _ _ _ _ _ hK e4 (Nat.le_refl _)
theorem k36_2321 (hf : FT n i) (hx : x + 1 ≤ 600) (hI : LI I) (hgo : GO d n i x I Φ) : wp (d + 36) 362 2321 [.ref (7 : Nat), .ref (9 : Nat), .ref (70 : Nat), .ref (559 : Nat), .int (nt i), v5, v6, v7] [] (mk n I L x) Φ := by
  obtain ⟨A, J, c1, K, L2, e2, c2, hK⟩ := (show PD (d + 35) 167 298 [] n I L x from pd167 (d := d + 23) hI hx)
  rw [r362_2321, r362_2322 (Nat.le_of_ble_eq_true rfl)]
  refine c1 _ ?_
  show wp (d + 36) 362 2325 [.ref (7 : Nat), .ref (9 : Nat), .ref (70 : Nat), .ref (559 : Nat), .int (nt i), v5, v6, v7] [.int A] (mk n J L x) Φ
  rw [r362_2325, r362_2326 (Nat.le_of_ble_eq_true rfl)]
  refine c2 _ ?_
  show wp (d + 36) 362 2329 [.ref (7 : Nat), .ref (9 : Nat), .ref (70 : Nat), .ref (559 : Nat), .int (nt i), v5, v6, v7] [.int A, .int A] (mk n K L2 x) Φ
  rw [r362_2329, if_pos rfl]
  exact hgo _ _ _ _ _ _ hK ((cres_lo c2).trans (cres_lo c1)) (Nat.le_succ _)
theorem k37_2334 (hf : FT n i) (hx : x + 1 ≤ 600) (hI : LI I) (hgo : GO d n i x I Φ) : wp (d + 36) 362 2334 [.ref (7 : Nat), .ref (9 : Nat), .ref (70 : Nat), .ref (559 : Nat), .int (nt i), v5, v6, v7] [] (mk n I L x) Φ := by
  obtain ⟨A, J, c1, K, L2, e2, c2, hK⟩ := (show PD (d + 35) 168 299 [] n I L x from pd168 (d := d + 23) hI hx)
  rw [r362_2334, r362_2335 (Nat.le_of_ble_eq_true rfl)]
  refine c1 _ ?_
  show wp (d + 36) 362 2338 [.ref (7 : Nat), .ref (9 : Nat), .ref (70 : Nat), .ref (559 : Nat), .int (nt i), v5, v6, v7] [.int A] (mk n J L x) Φ
  rw [r362_2338, r362_2339 (Nat.le_of_ble_eq_true rfl)]
  refine c2 _ ?_
  show wp (d + 36) 362 2342 [.ref (7 : Nat), .ref (9 : Nat), .ref (70 : Nat), .ref (559 : Nat), .int (nt i), v5, v6, v7] [.int A, .int A] (mk n K L2 x) Φ
  rw [r362_2342, if_pos rfl]
  exact hgo _ _ _ _ _ _ hK ((cres_lo c2).trans (cres_lo c1)) (Nat.le_succ _)
theorem k38_2347 (hf : FT n i) (hx : x + 1 ≤ 600) (hI : LI I) (hgo : GO d n i x I Φ) : wp (d + 36) 362 2347 [.ref (7 : Nat), .ref (9 : Nat), .ref (70 : Nat), .ref (559 : Nat), .int (nt i), v5, v6, v7] [] (mk n I L x) Φ := by
  have f1 : (0 : Int32) ≤ nt i + 1 := (hf 1 (by decide)).1
  have g1 : (nt i + 1).toNatClampNeg < (sh0 n 7).2.1 := (hf 1 (by decide)).2
  have f2 : (0 : Int32) ≤ nt i + 2 := (hf 2 (by decide)).1
  have g2 : (nt i + 2).toNatClampNeg < (sh0 n 7).2.1 := (hf 2 (by decide)).2
  have f3 : (0 : Int32) ≤ nt i + 3 := (hf 3 (by decide)).1
  have g3 : (nt i + 3).toNatClampNeg < (sh0 n 7).2.1 := (hf 3 (by decide)).2
  have f4 : (0 : Int32) ≤ nt i + 4 := (hf 4 (by decide)).1
  have g4 : (nt i + 4).toNatClampNeg < (sh0 n 7).2.1 := (hf 4 (by decide)).2
  have hw := z360 (d := d) (L := L) (n := n) hI hx (I 7 (nt i + 1).toNatClampNeg) (I 7 (nt i + 2).toNatClampNeg) (I 7 (nt i + 3).toNatClampNeg) (I 7 (nt i + 4).toNatClampNeg)
  rw [r362_2347, r362_2348, r362_2349, r362_2351, r362_2352, r362_2353 s7 (by decide) f1 g1, r362_2354, r362_2355, r362_2357, r362_2358, r362_2359 s7 (by decide) f2 g2, r362_2360, r362_2361, r362_2363, r362_2364, r362_2365 s7 (by decide) f3 g3, r362_2366, r362_2367, r362_2369, r362_2370, r362_2371 s7 (by decide) f4 g4, r362_2372, r362_2373 (Nat.le_of_ble_eq_true rfl)]
  rcases hw with ⟨A, J, c1, e1, K, L2, e2, c2, e3, hK, e4⟩ | ⟨c, J, hc, c1, e1, K, c2, e3, hK, e4⟩
  · refine c1 _ ?_
    show wp (d + 36) 362 2376 [.ref (7 : Nat), .ref (9 : Nat), .ref (70 : Nat), .ref (559 : Nat), .int (nt i), v5, v6, v7] [.int 0] (mk n J (wrL L 559 0 A.toInt64) x) Φ
    rw [r362_2376 (lo_i _), r362_2378, r362_2379, r362_2380, r362_2382, r362_2383, r362_2384 s7 (by decide) f1 g1, r362_2385, r362_2386, r362_2388, r362_2389, r362_2390 s7 (by decide) f2 g2, r362_2391, r362_2392, r362_2394, r362_2395, r362_2396 s7 (by decide) f3 g3, r362_2397, r362_2398, r362_2400, r362_2401, r362_2402 s7 (by decide) f4 g4, e1, r362_2403 (Nat.le_of_ble_eq_true rfl)]
    refine c2 _ ?_
    show wp (d + 36) 362 2406 [.ref (7 : Nat), .ref (9 : Nat), .ref (70 : Nat), .ref (559 : Nat), .int (nt i), .int 0, v6, v7] [.int A] (mk n K L2 x) Φ
    rw [r362_2406 (lo_i _), r362_2408, r362_2409 (Nat.le_of_ble_eq_true rfl)]
    refine th192 _ ?_
    show wp (d + 36) 362 2412 [.ref (7 : Nat), .ref (9 : Nat), .ref (70 : Nat), .ref (559 : Nat), .int (nt i), .int 0, .int A, v7] [.int (K 70 0)] (mk n K L2 x) Φ
    rw [e3, r362_2412, r362_2414, if_pos rfl, r362_2419, r362_2421, if_pos rfl, r362_2424, r362_2425, r362_2426 s559 (by decide) (by decide) (by decide) z559, r362_2427, r362_2429, show L2 559 (0 : Int32).toNatClampNeg = A.toInt64 from e2, r362_2430, lg_self, r362_2431, if_pos rfl, r362_2436]
    exact hgo _ _ _ _ _ _ hK e4 (Nat.le_succ _)
  · refine c1 _ ?_
    show wp (d + 36) 362 2376 [.ref (7 : Nat), .ref (9 : Nat), .ref (70 : Nat), .ref (559 : Nat), .int (nt i), v5, v6, v7] [.int c] (mk n J L (x + 1)) Φ
    rw [r362_2376 (lo_i _), r362_2378, r362_2379, r362_2380, r362_2382, r362_2383, r362_2384 s7 (by decide) f1 g1, r362_2385, r362_2386, r362_2388, r362_2389, r362_2390 s7 (by decide) f2 g2, r362_2391, r362_2392, r362_2394, r362_2395, r362_2396 s7 (by decide) f3 g3, r362_2397, r362_2398, r362_2400, r362_2401, r362_2402 s7 (by decide) f4 g4, e1, r362_2403 (Nat.le_of_ble_eq_true rfl)]
    refine c2 _ ?_
    show wp (d + 36) 362 2406 [.ref (7 : Nat), .ref (9 : Nat), .ref (70 : Nat), .ref (559 : Nat), .int (nt i), .int c, v6, v7] [.int 0] (mk n K L (x + 1)) Φ
    rw [r362_2406 (lo_i _), r362_2408, r362_2409 (Nat.le_of_ble_eq_true rfl)]
    refine th192 _ ?_
    show wp (d + 36) 362 2412 [.ref (7 : Nat), .ref (9 : Nat), .ref (70 : Nat), .ref (559 : Nat), .int (nt i), .int c, .int 0, v7] [.int (K 70 0)] (mk n K L (x + 1)) Φ
    rw [e3, r362_2412, r362_2414, if_pos rfl, r362_2419, r362_2421, if_neg hc, r362_2436]
    exact hgo _ _ _ _ _ _ hK e4 (Nat.le_refl _)
theorem k39_2439 (hf : FT n i) (hx : x + 1 ≤ 600) (hI : LI I) (hgo : GO d n i x I Φ) : wp (d + 36) 362 2439 [.ref (7 : Nat), .ref (9 : Nat), .ref (70 : Nat), .ref (559 : Nat), .int (nt i), v5, v6, v7] [] (mk n I L x) Φ := by
  have f1 : (0 : Int32) ≤ nt i + 1 := (hf 1 (by decide)).1
  have g1 : (nt i + 1).toNatClampNeg < (sh0 n 7).2.1 := (hf 1 (by decide)).2
  have f2 : (0 : Int32) ≤ nt i + 2 := (hf 2 (by decide)).1
  have g2 : (nt i + 2).toNatClampNeg < (sh0 n 7).2.1 := (hf 2 (by decide)).2
  have f3 : (0 : Int32) ≤ nt i + 3 := (hf 3 (by decide)).1
  have g3 : (nt i + 3).toNatClampNeg < (sh0 n 7).2.1 := (hf 3 (by decide)).2
  have f4 : (0 : Int32) ≤ nt i + 4 := (hf 4 (by decide)).1
  have g4 : (nt i + 4).toNatClampNeg < (sh0 n 7).2.1 := (hf 4 (by decide)).2
  have f5 : (0 : Int32) ≤ nt i + 5 := (hf 5 (by decide)).1
  have g5 : (nt i + 5).toNatClampNeg < (sh0 n 7).2.1 := (hf 5 (by decide)).2
  have f6 : (0 : Int32) ≤ nt i + 6 := (hf 6 (by decide)).1
  have g6 : (nt i + 6).toNatClampNeg < (sh0 n 7).2.1 := (hf 6 (by decide)).2
  have hw := z361 (d := d) (L := L) (n := n) hI hx (I 7 (nt i + 1).toNatClampNeg) (I 7 (nt i + 2).toNatClampNeg) (I 7 (nt i + 3).toNatClampNeg) (I 7 (nt i + 4).toNatClampNeg) (I 7 (nt i + 5).toNatClampNeg) (I 7 (nt i + 6).toNatClampNeg)
  rw [r362_2439, r362_2440, r362_2441, r362_2443, r362_2444, r362_2445 s7 (by decide) f1 g1, r362_2446, r362_2447, r362_2449, r362_2450, r362_2451 s7 (by decide) f2 g2, r362_2452, r362_2453, r362_2455, r362_2456, r362_2457 s7 (by decide) f3 g3, r362_2458, r362_2459, r362_2461, r362_2462, r362_2463 s7 (by decide) f4 g4, r362_2464, r362_2465, r362_2467, r362_2468, r362_2469 s7 (by decide) f5 g5, r362_2470, r362_2471, r362_2473, r362_2475, r362_2476 s7 (by decide) f6 g6, r362_2477, r362_2478 (Nat.le_of_ble_eq_true rfl)]
  rcases hw with ⟨A, J, c1, e1, K, L2, e2, c2, e3, hK, e4⟩ | ⟨c, J, hc, c1, e1, K, c2, e3, hK, e4⟩
  · refine c1 _ ?_
    show wp (d + 36) 362 2481 [.ref (7 : Nat), .ref (9 : Nat), .ref (70 : Nat), .ref (559 : Nat), .int (nt i), v5, v6, v7] [.int 0] (mk n J (wrL L 559 0 A.toInt64) x) Φ
    rw [r362_2481 (lo_i _), r362_2483, r362_2484, r362_2485, r362_2487, r362_2488, r362_2489 s7 (by decide) f1 g1, r362_2490, r362_2491, r362_2493, r362_2494, r362_2495 s7 (by decide) f2 g2, r362_2496, r362_2497, r362_2499, r362_2500, r362_2501 s7 (by decide) f3 g3, r362_2502, r362_2503, r362_2505, r362_2506, r362_2507 s7 (by decide) f4 g4, r362_2508, r362_2509, r362_2511, r362_2512, r362_2513 s7 (by decide) f5 g5, r362_2514, r362_2515, r362_2517, r362_2519, r362_2520 s7 (by decide) f6 g6, e1, r362_2521 (Nat.le_of_ble_eq_true rfl)]
    refine c2 _ ?_
    show wp (d + 36) 362 2524 [.ref (7 : Nat), .ref (9 : Nat), .ref (70 : Nat), .ref (559 : Nat), .int (nt i), .int 0, v6, v7] [.int A] (mk n K L2 x) Φ
    rw [r362_2524 (lo_i _), r362_2526, r362_2527 (Nat.le_of_ble_eq_true rfl)]
    refine th192 _ ?_
    show wp (d + 36) 362 2530 [.ref (7 : Nat), .ref (9 : Nat), .ref (70 : Nat), .ref (559 : Nat), .int (nt i), .int 0, .int A, v7] [.int (K 70 0)] (mk n K L2 x) Φ
    rw [e3, r362_2530, r362_2532, if_pos rfl, r362_2537, r362_2539, if_pos rfl, r362_2542, r362_2543, r362_2544 s559 (by decide) (by decide) (by decide) z559, r362_2545, r362_2547, show L2 559 (0 : Int32).toNatClampNeg = A.toInt64 from e2, r362_2548, lg_self, r362_2549, if_pos rfl, r362_2554]
    exact hgo _ _ _ _ _ _ hK e4 (Nat.le_succ _)
  · refine c1 _ ?_
    show wp (d + 36) 362 2481 [.ref (7 : Nat), .ref (9 : Nat), .ref (70 : Nat), .ref (559 : Nat), .int (nt i), v5, v6, v7] [.int c] (mk n J L (x + 1)) Φ
    rw [r362_2481 (lo_i _), r362_2483, r362_2484, r362_2485, r362_2487, r362_2488, r362_2489 s7 (by decide) f1 g1, r362_2490, r362_2491, r362_2493, r362_2494, r362_2495 s7 (by decide) f2 g2, r362_2496, r362_2497, r362_2499, r362_2500, r362_2501 s7 (by decide) f3 g3, r362_2502, r362_2503, r362_2505, r362_2506, r362_2507 s7 (by decide) f4 g4, r362_2508, r362_2509, r362_2511, r362_2512, r362_2513 s7 (by decide) f5 g5, r362_2514, r362_2515, r362_2517, r362_2519, r362_2520 s7 (by decide) f6 g6, e1, r362_2521 (Nat.le_of_ble_eq_true rfl)]
    refine c2 _ ?_
    show wp (d + 36) 362 2524 [.ref (7 : Nat), .ref (9 : Nat), .ref (70 : Nat), .ref (559 : Nat), .int (nt i), .int c, v6, v7] [.int 0] (mk n K L (x + 1)) Φ
    rw [r362_2524 (lo_i _), r362_2526, r362_2527 (Nat.le_of_ble_eq_true rfl)]
    refine th192 _ ?_
    show wp (d + 36) 362 2530 [.ref (7 : Nat), .ref (9 : Nat), .ref (70 : Nat), .ref (559 : Nat), .int (nt i), .int c, .int 0, v7] [.int (K 70 0)] (mk n K L (x + 1)) Φ
    rw [e3, r362_2530, r362_2532, if_pos rfl, r362_2537, r362_2539, if_neg hc, r362_2554]
    exact hgo _ _ _ _ _ _ hK e4 (Nat.le_refl _)
theorem k40_2557 (hf : FT n i) (hx : x + 1 ≤ 600) (hI : LI I) (hgo : GO d n i x I Φ) : wp (d + 36) 362 2557 [.ref (7 : Nat), .ref (9 : Nat), .ref (70 : Nat), .ref (559 : Nat), .int (nt i), v5, v6, v7] [] (mk n I L x) Φ := by
  obtain ⟨A, J, c1, K, L2, e2, c2, hK⟩ := (show PD (d + 35) 171 310 [] n I L x from pd171 (d := d + 23) hI)
  rw [r362_2557, r362_2558 (Nat.le_of_ble_eq_true rfl)]
  refine c1 _ ?_
  show wp (d + 36) 362 2561 [.ref (7 : Nat), .ref (9 : Nat), .ref (70 : Nat), .ref (559 : Nat), .int (nt i), v5, v6, v7] [.int A] (mk n J L x) Φ
  rw [r362_2561, r362_2562 (Nat.le_of_ble_eq_true rfl)]
  refine c2 _ ?_
  show wp (d + 36) 362 2565 [.ref (7 : Nat), .ref (9 : Nat), .ref (70 : Nat), .ref (559 : Nat), .int (nt i), v5, v6, v7] [.int A, .int A] (mk n K L2 x) Φ
  rw [r362_2565, if_pos rfl]
  exact hgo _ _ _ _ _ _ hK ((cres_lo c2).trans (cres_lo c1)) (Nat.le_succ _)
theorem k41_2570 (hf : FT n i) (hx : x + 1 ≤ 600) (hI : LI I) (hgo : GO d n i x I Φ) : wp (d + 36) 362 2570 [.ref (7 : Nat), .ref (9 : Nat), .ref (70 : Nat), .ref (559 : Nat), .int (nt i), v5, v6, v7] [] (mk n I L x) Φ := by
  obtain ⟨A, J, c1, K, L2, e2, c2, hK⟩ := (show PD (d + 35) 172 311 [] n I L x from pd172 (d := d + 23) hI)
  rw [r362_2570, r362_2571 (Nat.le_of_ble_eq_true rfl)]
  refine c1 _ ?_
  show wp (d + 36) 362 2574 [.ref (7 : Nat), .ref (9 : Nat), .ref (70 : Nat), .ref (559 : Nat), .int (nt i), v5, v6, v7] [.int A] (mk n J L x) Φ
  rw [r362_2574, r362_2575 (Nat.le_of_ble_eq_true rfl)]
  refine c2 _ ?_
  show wp (d + 36) 362 2578 [.ref (7 : Nat), .ref (9 : Nat), .ref (70 : Nat), .ref (559 : Nat), .int (nt i), v5, v6, v7] [.int A, .int A] (mk n K L2 x) Φ
  rw [r362_2578, if_pos rfl]
  exact hgo _ _ _ _ _ _ hK ((cres_lo c2).trans (cres_lo c1)) (Nat.le_succ _)
theorem k42_2583 (hf : FT n i) (hx : x + 1 ≤ 600) (hI : LI I) (hgo : GO d n i x I Φ) : wp (d + 36) 362 2583 [.ref (7 : Nat), .ref (9 : Nat), .ref (70 : Nat), .ref (559 : Nat), .int (nt i), v5, v6, v7] [] (mk n I L x) Φ := by
  have f1 : (0 : Int32) ≤ nt i + 1 := (hf 1 (by decide)).1
  have g1 : (nt i + 1).toNatClampNeg < (sh0 n 7).2.1 := (hf 1 (by decide)).2
  obtain ⟨A, J, c1, K, L2, e2, c2, hK⟩ := (show PD (d + 35) 173 312 [.int (I 7 (nt i + 1).toNatClampNeg)] n I L x from pd173 (d := d + 23) hI)
  rw [r362_2583, r362_2584, r362_2585, r362_2587, r362_2588, r362_2589 s7 (by decide) f1 g1, r362_2590 (Nat.le_of_ble_eq_true rfl)]
  refine c1 _ ?_
  show wp (d + 36) 362 2593 [.ref (7 : Nat), .ref (9 : Nat), .ref (70 : Nat), .ref (559 : Nat), .int (nt i), v5, v6, v7] [.int A] (mk n J L x) Φ
  rw [r362_2593, r362_2594, r362_2595, r362_2597, r362_2598, r362_2599 s7 (by decide) f1 g1, cres_lo c1, r362_2600 (Nat.le_of_ble_eq_true rfl)]
  refine c2 _ ?_
  show wp (d + 36) 362 2603 [.ref (7 : Nat), .ref (9 : Nat), .ref (70 : Nat), .ref (559 : Nat), .int (nt i), v5, v6, v7] [.int A, .int A] (mk n K L2 x) Φ
  rw [r362_2603, if_pos rfl]
  exact hgo _ _ _ _ _ _ hK ((cres_lo c2).trans (cres_lo c1)) (Nat.le_succ _)
theorem k43_2608 (hf : FT n i) (hx : x + 1 ≤ 600) (hI : LI I) (hgo : GO d n i x I Φ) : wp (d + 36) 362 2608 [.ref (7 : Nat), .ref (9 : Nat), .ref (70 : Nat), .ref (559 : Nat), .int (nt i), v5, v6, v7] [] (mk n I L x) Φ := by
  have f1 : (0 : Int32) ≤ nt i + 1 := (hf 1 (by decide)).1
  have g1 : (nt i + 1).toNatClampNeg < (sh0 n 7).2.1 := (hf 1 (by decide)).2
  obtain ⟨A, J, c1, K, L2, e2, c2, hK⟩ := (show PD (d + 35) 174 313 [.int (I 7 (nt i + 1).toNatClampNeg)] n I L x from pd174 (d := d + 23) hI hx _)
  rw [r362_2608, r362_2609, r362_2610, r362_2612, r362_2613, r362_2614 s7 (by decide) f1 g1, r362_2615 (Nat.le_of_ble_eq_true rfl)]
  refine c1 _ ?_
  show wp (d + 36) 362 2618 [.ref (7 : Nat), .ref (9 : Nat), .ref (70 : Nat), .ref (559 : Nat), .int (nt i), v5, v6, v7] [.int A] (mk n J L x) Φ
  rw [r362_2618, r362_2619, r362_2620, r362_2622, r362_2623, r362_2624 s7 (by decide) f1 g1, cres_lo c1, r362_2625 (Nat.le_of_ble_eq_true rfl)]
  refine c2 _ ?_
  show wp (d + 36) 362 2628 [.ref (7 : Nat), .ref (9 : Nat), .ref (70 : Nat), .ref (559 : Nat), .int (nt i), v5, v6, v7] [.int A, .int A] (mk n K L2 x) Φ
  rw [r362_2628, if_pos rfl]
  exact hgo _ _ _ _ _ _ hK ((cres_lo c2).trans (cres_lo c1)) (Nat.le_succ _)
def tgt (m : Nat) : Nat := [232, 305, 361, 417, 473, 529, 542, 555, 611, 679, 747, 815, 883, 1043, 1099, 1112, 1180, 1236, 1292, 1348, 1404, 1460, 1516, 1572, 1628, 1708, 1799, 1879, 1947, 1960, 2016, 2072, 2140, 2196, 2209, 2265, 2321, 2334, 2347, 2439, 2557, 2570, 2583, 2608].getD m 2633
theorem ptb_ok : ∀ m : Fin 64, ptb 2633 0 43 #[232, 305, 361, 417, 473, 529, 542, 555, 611, 679, 747, 815, 883, 1043, 1099, 1112, 1180, 1236, 1292, 1348, 1404, 1460, 1516, 1572, 1628, 1708, 1799, 1879, 1947, 1960, 2016, 2072, 2140, 2196, 2209, 2265, 2321, 2334, 2347, 2439, 2557, 2570, 2583, 2608] (nt m.1) = some (tgt m.1) := by decide +kernel
theorem tgt_hi (m : Nat) : tgt (m + 44) = 2633 := by
  unfold tgt
  rw [List.getD_eq_getElem?_getD, List.getElem?_eq_none (by simp)]
  rfl
theorem disp (m : Nat) (hf : FT n i) (hx : x + 1 ≤ 600) (hI : LI I) (hgo : GO d n i x I Φ) : wp (d + 36) 362 (tgt m) [.ref (7 : Nat), .ref (9 : Nat), .ref (70 : Nat), .ref (559 : Nat), .int (nt i), v5, v6, v7] [] (mk n I L x) Φ := by
  match m with
  | 0 => exact k0_232 hf hx hI hgo
  | 1 => exact k1_305 hf hx hI hgo
  | 2 => exact k2_361 hf hx hI hgo
  | 3 => exact k3_417 hf hx hI hgo
  | 4 => exact k4_473 hf hx hI hgo
  | 5 => exact k5_529 hf hx hI hgo
  | 6 => exact k6_542 hf hx hI hgo
  | 7 => exact k7_555 hf hx hI hgo
  | 8 => exact k8_611 hf hx hI hgo
  | 9 => exact k9_679 hf hx hI hgo
  | 10 => exact k10_747 hf hx hI hgo
  | 11 => exact k11_815 hf hx hI hgo
  | 12 => exact k12_883 hf hx hI hgo
  | 13 => exact k13_1043 hf hx hI hgo
  | 14 => exact k14_1099 hf hx hI hgo
  | 15 => exact k15_1112 hf hx hI hgo
  | 16 => exact k16_1180 hf hx hI hgo
  | 17 => exact k17_1236 hf hx hI hgo
  | 18 => exact k18_1292 hf hx hI hgo
  | 19 => exact k19_1348 hf hx hI hgo
  | 20 => exact k20_1404 hf hx hI hgo
  | 21 => exact k21_1460 hf hx hI hgo
  | 22 => exact k22_1516 hf hx hI hgo
  | 23 => exact k23_1572 hf hx hI hgo
  | 24 => exact k24_1628 hf hx hI hgo
  | 25 => exact k25_1708 hf hx hI hgo
  | 26 => exact k26_1799 hf hx hI hgo
  | 27 => exact k27_1879 hf hx hI hgo
  | 28 => exact k28_1947 hf hx hI hgo
  | 29 => exact k29_1960 hf hx hI hgo
  | 30 => exact k30_2016 hf hx hI hgo
  | 31 => exact k31_2072 hf hx hI hgo
  | 32 => exact k32_2140 hf hx hI hgo
  | 33 => exact k33_2196 hf hx hI hgo
  | 34 => exact k34_2209 hf hx hI hgo
  | 35 => exact k35_2265 hf hx hI hgo
  | 36 => exact k36_2321 hf hx hI hgo
  | 37 => exact k37_2334 hf hx hI hgo
  | 38 => exact k38_2347 hf hx hI hgo
  | 39 => exact k39_2439 hf hx hI hgo
  | 40 => exact k40_2557 hf hx hI hgo
  | 41 => exact k41_2570 hf hx hI hgo
  | 42 => exact k42_2583 hf hx hI hgo
  | 43 => exact k43_2608 hf hx hI hgo
  | m + 44 =>
    rw [tgt_hi]
    exact hgo I L x v5 v6 v7 hI rfl (Nat.le_succ x)
theorem m63_nt (y : Int32) : ∃ m, m < 64 ∧ y &&& 63 = nt m := by
  refine ⟨(y &&& 63).toBitVec.toNat, ?_, ?_⟩
  · rw [Int32.toBitVec_and, BitVec.toNat_and]
    have := Nat.and_le_right (n := y.toBitVec.toNat) (m := (63 : Int32).toBitVec.toNat)
    have e : (63 : Int32).toBitVec.toNat = 63 := rfl
    omega
  · refine Int32.toBitVec_inj.1 ?_
    show _ = BitVec.ofNat 32 _
    rw [BitVec.ofNat_toNat, BitVec.setWidth_eq]
theorem n10 : ∀ n : Fin 10, nt n.1 - 10 < 0 := by decide
theorem more {n i : Nat} (hn : n ≤ 5120) (hi : i ≤ 6000) (h : ¬ nt n - 10 < nt i) : i + 10 ≤ n := by
  by_cases h1 : n < 10
  · exact absurd (Int32.lt_of_lt_of_le (n10 ⟨n, h1⟩) (nt_ge (by omega))) h
  · rw [show nt n - 10 = nt (n - 10) from nt_sub (b := 10) (by omega), nt_lt (by omega) (by omega)] at h
    omega
theorem ft_of (hn : n ≤ 5120) (h : i + 10 ≤ n) : FT n i := by
  intro j hj
  rw [nt_add]
  exact ⟨nt_ge (by omega), by rw [nt_clamp (by omega), s7n]; omega⟩
theorem loopw (hn : n ≤ 5120) (hΦ : ∀ I L x, Φ (.inl (some (.int 1))) (mk n I L x)) : ∀ k i x I L v5 v6 v7, n < i + 10 * (k + 1) → x + k ≤ 599 → i ≤ 6000 → LI I → wp (d + 36) 362 23 [.ref (7 : Nat), .ref (9 : Nat), .ref (70 : Nat), .ref (559 : Nat), .int (nt i), v5, v6, v7] [] (mk n I L x) Φ := by
  intro k
  induction k with
  | zero =>
    intro i x I L v5 v6 v7 h1 h2 h3 hI
    rw [r362_23, r362_25, r362_26 (Or.inl s7) (by decide), r362_27, r362_29, r362_30, s7n]
    by_cases h : nt n - 10 < nt i
    · rw [if_pos h, r362_2639, r362_2640]
      exact hΦ I L x
    · have := more hn h3 h
      omega
  | succ k ih =>
    intro i x I L v5 v6 v7 h1 h2 h3 hI
    rw [r362_23, r362_25, r362_26 (Or.inl s7) (by decide), r362_27, r362_29, r362_30, s7n]
    by_cases h : nt n - 10 < nt i
    · rw [if_pos h, r362_2639, r362_2640]
      exact hΦ I L x
    · have h4 := more hn h3 h
      obtain ⟨m, hm, em⟩ := m63_nt (I 7 (nt i).toNatClampNeg)
      rw [if_neg h, r362_33, r362_34, r362_36 s7 (by decide) (nt_ge (by omega)) (by rw [nt_clamp (by omega), s7n]; omega), r362_37, r362_39, em, r362_40 (tgt m) (ptb_ok ⟨m, hm⟩)]
      refine disp m (ft_of hn h4) (by omega) hI (fun I' L' x' w5 w6 w7 g1 g2 g3 => ?_)
      rw [r362_2633 (lo_r _), r362_2636, show nt i + 10 = nt (i + 10) from nt_add i 10]
      exact ih (i + 10) x' I' L' w5 w6 w7 (by omega) (by omega) (by omega) g1
theorem lawx {f : Nat → Int32} (hn : n ≤ 5120) : wpc (d + 36) 362 [.ref (7 : Nat)] (sub7 (20, n, []) f b9) (fun o _ => o = .inl (some (.int 1))) := by
  refine bootw (fun I L hI _ => ?_)
  exact loopw hn (fun _ _ _ => rfl) 512 0 0 I L noV noV noV (by omega) (by omega) (by omega) hI
end Lx

