/-! THE MORNING -/
def bt (k : Nat) : Int32 := 1 <<< (nt k &&& 31)
def stv (m : Nat) (f : Nat → Int32) (i v : Int32) : Nat → Int32 := if 0 ≤ i ∧ i < nt m then upd f i.toNatClampNeg v else f
theorem upR_self {α : Type} (I : Nat → α) (q : Nat) : upR I q (I q) = I := by
  funext a
  unfold upR
  split
  · rename_i h; rw [h]
  · rfl
theorem putv_up (m : Nat) (I : Nat → Nat → Int32) (q : Nat) (i v : Int32) : putv m I q i v = upR I q (stv m (I q) i v) := by
  unfold putv stv
  split
  · rfl
  · rw [upR_self]
theorem wr_up {I : Nat → Nat → Int32} {q i : Nat} {g : Nat → Int32} {v : Int32} : wrI (upR I q g) q i v = upR I q (upd g i v) := by
  unfold wrI
  rw [upR_same, upR_upR]
theorem wr_raw {I : Nat → Nat → Int32} {q i : Nat} {v : Int32} : wrI I q i v = upR I q (upd (I q) i v) := rfl
theorem at_b {f : Nat → Int32} {m : Nat} (b : Nat) {k : Nat} (h : b + k < m) (hm : m < 2147483648) : atv m f (nt b + nt k) = f (b + k) := by rw [nt_add]; exact atv_nt h hm
theorem st_b {f : Nat → Int32} {m : Nat} {v : Int32} (b : Nat) {k : Nat} (h : b + k < m) (hm : m < 2147483648) : stv m f (nt b + nt k) v = upd f (b + k) v := by
  rw [nt_add]
  unfold stv
  rw [if_pos ⟨nt_ge (by omega), by rw [nt_lt (by omega) hm]; exact h⟩, nt_clamp (by omega)]
theorem at_0 {f : Nat → Int32} {m k : Nat} (h : k < m) (hm : m < 2147483648) : atv m f (0 + nt k) = f k := by rw [Int32.zero_add]; exact atv_nt h hm
theorem st_0 {f : Nat → Int32} {m k : Nat} {v : Int32} (h : k < m) (hm : m < 2147483648) : stv m f (0 + nt k) v = upd f k v := by
  rw [Int32.zero_add]
  unfold stv
  rw [if_pos ⟨nt_ge (by omega), by rw [nt_lt (by omega) hm]; exact h⟩, nt_clamp (by omega)]
theorem nb_bi {p : Prop} [Decidable p] : nb (bi p) = bi p := by unfold bi; split <;> rfl
theorem bi_ne0 {p : Prop} [Decidable p] : (bi p ≠ 0) = p := by unfold bi; split <;> simp_all
theorem foldN_map {α β : Type} {π : α → β} {g : Nat → α → α} {f : Nat → β → β} (h : ∀ k a, π (g k a) = f k (π a)) (a : α) : ∀ n, π (foldN g n a) = foldN f n (π a)
  | 0 => rfl
  | n + 1 => by
    show π (g n (foldN g n a)) = f n (foldN f n (π a))
    rw [h, foldN_map h a n]
def awk (f : Nat → Int32) : Int32 := foldN (fun s b => b ||| (if f (60 + s) = -1 then 0 else bt s)) 7 0
def awm (f : Nat → Int32) : Int32 := foldN (fun s b => b + (if f (60 + s) = -1 then 0 else 1)) 7 0
def ldF (f : Nat → Int32) (s : Nat) (p : Int32 × Int32) : Int32 × Int32 := if f (60 + s) = -1 then p else if p.2 ≤ f (60 + s) then p else (nt s, f (60 + s))
def ldr (f : Nat → Int32) : Int32 := (foldN (ldF f) 7 (-1, 24)).1
def clf (f : Nat → Int32) (h : Int32) : Int32 := foldN (fun k b => b ||| (if f (6 + k) = h then bt k else 0)) 6 0
def wnd (f : Nat → Int32) : Int32 := foldN (fun k b => b ||| (if f k ≤ 0 then 0 else bt k)) 6 0
def stf (f : Nat → Int32) : Int32 := foldN (fun k b => b ||| (f (12 + k) <<< (nt k &&& 31))) 6 0
def spt (f : Nat → Int32) : Int32 := foldN (fun k b => b + f k) 6 0
def rng (f : Nat → Int32) (h : Int32) : Int32 := if clf f h = 0 then 0 else clf f h &&& wnd f
section Mor
variable {d n x c : Nat} {Φ : POut → PM → Prop} {I : Nat → Nat → Int32} {L : Nat → Nat → Int64} {k s h v : Int32}
theorem c43 (hc : K5 c) : wpc d 43 [.ref c] (mk n I L x) Φ ↔ Φ (.inl (some (.int (I (c + 1) 81)))) (mk n I L x) := by
  show wp d 43 0 [.ref c] [] (mk n I L x) Φ ↔ _
  simp (config := {decide := true}) only [r43_0, r43_1, r43_4, r43_6, r43_7, if_true, if_false, Nat.reduceAdd, Int32.reduceToNatClampNeg, lo_i, lo_r, lo_n, kont_v, kont_n, List.length_nil, List.length_cons, hc, sh5a hc, lt5a hc, ge5a hc, c185]
theorem c44 (hc : K5 c) : wpc d 44 [.ref c] (mk n I L x) Φ ↔ Φ (.inl (some (.int (I (c + 1) 82)))) (mk n I L x) := by
  show wp d 44 0 [.ref c] [] (mk n I L x) Φ ↔ _
  simp (config := {decide := true}) only [r44_0, r44_1, r44_4, r44_6, r44_7, if_true, if_false, Nat.reduceAdd, Int32.reduceToNatClampNeg, lo_i, lo_r, lo_n, kont_v, kont_n, List.length_nil, List.length_cons, hc, sh5a hc, lt5a hc, ge5a hc, c185]
theorem c46 (hc : K5 c) : wpc d 46 [.ref c] (mk n I L x) Φ ↔ Φ (.inl (some (.int (I (c + 1) 83)))) (mk n I L x) := by
  show wp d 46 0 [.ref c] [] (mk n I L x) Φ ↔ _
  simp (config := {decide := true}) only [r46_0, r46_1, r46_4, r46_6, r46_7, if_true, if_false, Nat.reduceAdd, Int32.reduceToNatClampNeg, lo_i, lo_r, lo_n, kont_v, kont_n, List.length_nil, List.length_cons, hc, sh5a hc, lt5a hc, ge5a hc, c185]
theorem c47 (hc : K5 c) : wpc (d + 1) 47 [.ref c, .int k] (mk n I L x) Φ ↔ Φ (.inl (some (.int (atv 84 (I (c + 1)) (0 + k))))) (mk n I L x) := by
  show wp (d + 1) 47 0 [.ref c, .int k] [] (mk n I L x) Φ ↔ _
  simp (config := {decide := true}) only [r47_0, r47_1, r47_4, r47_5, r47_6, r47_7, r47_10, if_true, if_false, Nat.reduceAdd, Int32.reduceToNatClampNeg, lo_i, lo_r, lo_n, kont_v, kont_n, List.length_nil, List.length_cons, hc, sh5a hc, lt5a hc, ge5a hc, c185]
theorem c48 (hc : K5 c) : wpc (d + 1) 48 [.ref c, .int k] (mk n I L x) Φ ↔ Φ (.inl (some (.int (atv 84 (I (c + 1)) (6 + k))))) (mk n I L x) := by
  show wp (d + 1) 48 0 [.ref c, .int k] [] (mk n I L x) Φ ↔ _
  simp (config := {decide := true}) only [r48_0, r48_1, r48_4, r48_6, r48_7, r48_8, r48_11, if_true, if_false, Nat.reduceAdd, Int32.reduceToNatClampNeg, lo_i, lo_r, lo_n, kont_v, kont_n, List.length_nil, List.length_cons, hc, sh5a hc, lt5a hc, ge5a hc, c185]
theorem c49 (hc : K5 c) : wpc (d + 1) 49 [.ref c, .int k] (mk n I L x) Φ ↔ Φ (.inl (some (.int (atv 84 (I (c + 1)) (12 + k))))) (mk n I L x) := by
  show wp (d + 1) 49 0 [.ref c, .int k] [] (mk n I L x) Φ ↔ _
  simp (config := {decide := true}) only [r49_0, r49_1, r49_4, r49_6, r49_7, r49_8, r49_11, if_true, if_false, Nat.reduceAdd, Int32.reduceToNatClampNeg, lo_i, lo_r, lo_n, kont_v, kont_n, List.length_nil, List.length_cons, hc, sh5a hc, lt5a hc, ge5a hc, c185]
theorem c50 (hc : K5 c) : wpc (d + 1) 50 [.ref c, .int s, .int k] (mk n I L x) Φ ↔ Φ (.inl (some (.int (atv 84 (I (c + 1)) (18 + s * 6 + k))))) (mk n I L x) := by
  show wp (d + 1) 50 0 [.ref c, .int s, .int k] [] (mk n I L x) Φ ↔ _
  simp (config := {decide := true}) only [r50_0, r50_1, r50_4, r50_6, r50_7, r50_9, r50_10, r50_11, r50_12, r50_13, r50_16, if_true, if_false, Nat.reduceAdd, Int32.reduceToNatClampNeg, lo_i, lo_r, lo_n, kont_v, kont_n, List.length_nil, List.length_cons, hc, sh5a hc, lt5a hc, ge5a hc, c185]
theorem c51 (hc : K5 c) : wpc (d + 1) 51 [.ref c, .int k] (mk n I L x) Φ ↔ Φ (.inl (some (.int (atv 84 (I (c + 1)) (60 + k))))) (mk n I L x) := by
  show wp (d + 1) 51 0 [.ref c, .int k] [] (mk n I L x) Φ ↔ _
  simp (config := {decide := true}) only [r51_0, r51_1, r51_4, r51_6, r51_7, r51_8, r51_11, if_true, if_false, Nat.reduceAdd, Int32.reduceToNatClampNeg, lo_i, lo_r, lo_n, kont_v, kont_n, List.length_nil, List.length_cons, hc, sh5a hc, lt5a hc, ge5a hc, c185]
theorem c53 (hc : K5 c) : wpc (d + 1) 53 [.ref c, .int k] (mk n I L x) Φ ↔ Φ (.inl (some (.int (atv 84 (I (c + 1)) (67 + k))))) (mk n I L x) := by
  show wp (d + 1) 53 0 [.ref c, .int k] [] (mk n I L x) Φ ↔ _
  simp (config := {decide := true}) only [r53_0, r53_1, r53_4, r53_6, r53_7, r53_8, r53_11, if_true, if_false, Nat.reduceAdd, Int32.reduceToNatClampNeg, lo_i, lo_r, lo_n, kont_v, kont_n, List.length_nil, List.length_cons, hc, sh5a hc, lt5a hc, ge5a hc, c185]
theorem c54 (hc : K5 c) : wpc (d + 1) 54 [.ref c, .int k] (mk n I L x) Φ ↔ Φ (.inl (some (.int (atv 84 (I (c + 1)) (74 + k))))) (mk n I L x) := by
  show wp (d + 1) 54 0 [.ref c, .int k] [] (mk n I L x) Φ ↔ _
  simp (config := {decide := true}) only [r54_0, r54_1, r54_4, r54_6, r54_7, r54_8, r54_11, if_true, if_false, Nat.reduceAdd, Int32.reduceToNatClampNeg, lo_i, lo_r, lo_n, kont_v, kont_n, List.length_nil, List.length_cons, hc, sh5a hc, lt5a hc, ge5a hc, c185]
theorem c52 (hc : K5 c) : wpc (d + 1) 52 [.ref c, .int k] (mk n I L x) Φ ↔ Φ (.inl (some (.int (bi (atv 84 (I (c + 1)) (60 + k) = -1))))) (mk n I L x) := by
  show wp (d + 1) 52 0 [.ref c, .int k] [] (mk n I L x) Φ ↔ _
  simp (config := {decide := true}) only [r52_0, r52_1, r52_4, r52_6, r52_7, r52_8, r52_11, r52_12, r52_15, r52_16, r52_19, r52_20, if_true, if_false, Nat.reduceAdd, Int32.reduceToNatClampNeg, lo_i, lo_r, lo_n, kont_v, kont_n, List.length_nil, List.length_cons, hc, sh5a hc, lt5a hc, ge5a hc, c185, nb_0, nb_1]
  by_cases h1 : atv 84 (I (c + 1)) (60 + k) = -1
  · rw [if_pos h1, bi_t h1]
  · rw [if_neg h1, bi_f h1]
theorem c45 (hc : K5 c) : wpc (d + 1) 45 [.ref c] (mk n I L x) Φ ↔ Φ (.inl (some (.int (bi (I (c + 1) 81 = 23 ∧ 300 ≤ I (c + 1) 82))))) (mk n I L x) := by
  show wp (d + 1) 45 0 [.ref c] [] (mk n I L x) Φ ↔ _
  simp (config := {decide := true}) only [r45_0, r45_1, r45_4, r45_6, r45_9, r45_10, r45_13, r45_16, r45_19, r45_20, r45_23, r45_24, if_true, if_false, Nat.reduceAdd, Int32.reduceToNatClampNeg, lo_i, lo_r, lo_n, kont_v, kont_n, List.length_nil, List.length_cons, hc, sh5a hc, lt5a hc, ge5a hc, c185, c43 hc, c44 hc, nb_0, nb_1]
  by_cases h1 : I (c + 1) 81 = 23
  · rw [if_pos h1]
    by_cases h2 : I (c + 1) 82 < 300
    · rw [if_pos h2, bi_f (fun h => Int32.not_lt.mpr h.2 h2)]
    · rw [if_neg h2, bi_t ⟨h1, Int32.not_lt.mp h2⟩]
  · rw [if_neg h1, bi_f (fun h => h1 h.1)]
theorem c55 (hc : K5 c) : wpc (d + 2) 55 [.ref c] (mk n I L x) Φ ↔ Φ (.inl (some (.int (awk (I (c + 1)))))) (mk n I L x) := by
  show wp (d + 2) 55 0 [.ref c, noV, noV] [] (mk n I L x) Φ ↔ _
  simp (config := {decide := true}) only [r55_0, r55_1, r55_2, r55_3, if_true, if_false, Nat.reduceAdd, Int32.reduceToNatClampNeg, lo_i, lo_r, lo_n, kont_v, kont_n, List.length_nil, List.length_cons]
  refine loopN (P := fun k b => wp (d + 2) 55 4 [.ref c, .int b, .int (nt k)] [] (mk n I L x) Φ) (Q := fun b => Φ (.inl (some (.int (b)))) (mk n I L x)) (n := 7) (f := fun s b => b ||| (if I (c + 1) (60 + s) = -1 then 0 else bt s)) ?_ ?_ 0
  · intro k b hk
    have e1 : ¬ ((7 : Int32) ≤ nt k) := nt_nle (m := 7) (by omega) (by decide)
    have e2 : atv 84 (I (c + 1)) (60 + nt k) = I (c + 1) (60 + k) := at_b 60 (by omega) (by decide)
    rw [r55_4]
    simp (config := {decide := true}) only [r55_5, r55_7, r55_10, r55_11, r55_12, r55_13, r55_16, r55_19, r55_20, r55_23, r55_24, r55_25, r55_26, r55_27, r55_28, r55_31, r55_34, r55_35, if_true, if_false, Nat.reduceAdd, Int32.reduceToNatClampNeg, lo_i, lo_r, lo_n, kont_v, kont_n, List.length_nil, List.length_cons, hc, sh5a hc, lt5a hc, ge5a hc, nt_succ, e1, e2, if_false, c52 hc, bi_eq0, bt]
    by_cases h1 : I (c + 1) (60 + k) = -1 <;> simp only [h1, if_true, if_false, not_true, not_false_eq_true]
  · intro b
    rw [r55_4]
    simp (config := {decide := true}) only [r55_5, r55_7, r55_10, r55_11, r55_12, r55_13, r55_16, r55_19, r55_20, r55_23, r55_24, r55_25, r55_26, r55_27, r55_28, r55_31, r55_34, r55_35, if_true, if_false, Nat.reduceAdd, Int32.reduceToNatClampNeg, lo_i, lo_r, lo_n, kont_v, kont_n, List.length_nil, List.length_cons]
theorem c58 (hc : K5 c) : wpc (d + 2) 58 [.ref c, .int h] (mk n I L x) Φ ↔ Φ (.inl (some (.int (clf (I (c + 1)) h)))) (mk n I L x) := by
  show wp (d + 2) 58 0 [.ref c, .int h, noV, noV] [] (mk n I L x) Φ ↔ _
  simp (config := {decide := true}) only [r58_0, r58_1, r58_2, r58_3, if_true, if_false, Nat.reduceAdd, Int32.reduceToNatClampNeg, lo_i, lo_r, lo_n, kont_v, kont_n, List.length_nil, List.length_cons]
  refine loopN (P := fun k b => wp (d + 2) 58 4 [.ref c, .int h, .int b, .int (nt k)] [] (mk n I L x) Φ) (Q := fun b => Φ (.inl (some (.int (b)))) (mk n I L x)) (n := 6) (f := fun k b => b ||| (if I (c + 1) (6 + k) = h then bt k else 0)) ?_ ?_ 0
  · intro k b hk
    have e1 : ¬ ((6 : Int32) ≤ nt k) := nt_nle (m := 6) (by omega) (by decide)
    have e2 : atv 84 (I (c + 1)) (6 + nt k) = I (c + 1) (6 + k) := at_b 6 (by omega) (by decide)
    rw [r58_4]
    simp (config := {decide := true}) only [r58_5, r58_7, r58_10, r58_11, r58_12, r58_13, r58_16, r58_17, r58_20, r58_21, r58_22, r58_23, r58_26, r58_27, r58_28, r58_29, r58_32, r58_35, r58_36, if_true, if_false, Nat.reduceAdd, Int32.reduceToNatClampNeg, lo_i, lo_r, lo_n, kont_v, kont_n, List.length_nil, List.length_cons, hc, sh5a hc, lt5a hc, ge5a hc, nt_succ, e1, e2, if_false, c48 hc, bt]
    by_cases h1 : I (c + 1) (6 + k) = h <;> simp only [h1, if_true, if_false]
  · intro b
    rw [r58_4]
    simp (config := {decide := true}) only [r58_5, r58_7, r58_10, r58_11, r58_12, r58_13, r58_16, r58_17, r58_20, r58_21, r58_22, r58_23, r58_26, r58_27, r58_28, r58_29, r58_32, r58_35, r58_36, if_true, if_false, Nat.reduceAdd, Int32.reduceToNatClampNeg, lo_i, lo_r, lo_n, kont_v, kont_n, List.length_nil, List.length_cons]
theorem c60 (hc : K5 c) : wpc (d + 2) 60 [.ref c] (mk n I L x) Φ ↔ Φ (.inl (some (.int (wnd (I (c + 1)))))) (mk n I L x) := by
  show wp (d + 2) 60 0 [.ref c, noV, noV] [] (mk n I L x) Φ ↔ _
  simp (config := {decide := true}) only [r60_0, r60_1, r60_2, r60_3, if_true, if_false, Nat.reduceAdd, Int32.reduceToNatClampNeg, lo_i, lo_r, lo_n, kont_v, kont_n, List.length_nil, List.length_cons]
  refine loopN (P := fun k b => wp (d + 2) 60 4 [.ref c, .int b, .int (nt k)] [] (mk n I L x) Φ) (Q := fun b => Φ (.inl (some (.int (b)))) (mk n I L x)) (n := 6) (f := fun k b => b ||| (if I (c + 1) k ≤ 0 then 0 else bt k)) ?_ ?_ 0
  · intro k b hk
    have e1 : ¬ ((6 : Int32) ≤ nt k) := nt_nle (m := 6) (by omega) (by decide)
    have e2 : atv 84 (I (c + 1)) (0 + nt k) = I (c + 1) k := at_0 (by omega) (by decide)
    rw [r60_4]
    simp (config := {decide := true}) only [r60_5, r60_7, r60_10, r60_11, r60_12, r60_13, r60_16, r60_19, r60_20, r60_21, r60_22, r60_25, r60_26, r60_27, r60_28, r60_31, r60_34, r60_35, if_true, if_false, Nat.reduceAdd, Int32.reduceToNatClampNeg, lo_i, lo_r, lo_n, kont_v, kont_n, List.length_nil, List.length_cons, hc, sh5a hc, lt5a hc, ge5a hc, nt_succ, e1, e2, if_false, c47 hc, bt]
    by_cases h1 : I (c + 1) k ≤ 0 <;> simp only [h1, if_true, if_false]
  · intro b
    rw [r60_4]
    simp (config := {decide := true}) only [r60_5, r60_7, r60_10, r60_11, r60_12, r60_13, r60_16, r60_19, r60_20, r60_21, r60_22, r60_25, r60_26, r60_27, r60_28, r60_31, r60_34, r60_35, if_true, if_false, Nat.reduceAdd, Int32.reduceToNatClampNeg, lo_i, lo_r, lo_n, kont_v, kont_n, List.length_nil, List.length_cons]
theorem c61 (hc : K5 c) : wpc (d + 2) 61 [.ref c] (mk n I L x) Φ ↔ Φ (.inl (some (.int (stf (I (c + 1)))))) (mk n I L x) := by
  show wp (d + 2) 61 0 [.ref c, noV, noV] [] (mk n I L x) Φ ↔ _
  simp (config := {decide := true}) only [r61_0, r61_1, r61_2, r61_3, if_true, if_false, Nat.reduceAdd, Int32.reduceToNatClampNeg, lo_i, lo_r, lo_n, kont_v, kont_n, List.length_nil, List.length_cons]
  refine loopN (P := fun k b => wp (d + 2) 61 4 [.ref c, .int b, .int (nt k)] [] (mk n I L x) Φ) (Q := fun b => Φ (.inl (some (.int (b)))) (mk n I L x)) (n := 6) (f := fun k b => b ||| (I (c + 1) (12 + k) <<< (nt k &&& 31))) ?_ ?_ 0
  · intro k b hk
    have e1 : ¬ ((6 : Int32) ≤ nt k) := nt_nle (m := 6) (by omega) (by decide)
    have e2 : atv 84 (I (c + 1)) (12 + nt k) = I (c + 1) (12 + k) := at_b 12 (by omega) (by decide)
    rw [r61_4]
    simp (config := {decide := true}) only [r61_5, r61_7, r61_10, r61_11, r61_12, r61_13, r61_16, r61_17, r61_18, r61_19, r61_20, r61_23, r61_26, r61_27, if_true, if_false, Nat.reduceAdd, Int32.reduceToNatClampNeg, lo_i, lo_r, lo_n, kont_v, kont_n, List.length_nil, List.length_cons, hc, sh5a hc, lt5a hc, ge5a hc, nt_succ, e1, e2, if_false, c49 hc]
  · intro b
    rw [r61_4]
    simp (config := {decide := true}) only [r61_5, r61_7, r61_10, r61_11, r61_12, r61_13, r61_16, r61_17, r61_18, r61_19, r61_20, r61_23, r61_26, r61_27, if_true, if_false, Nat.reduceAdd, Int32.reduceToNatClampNeg, lo_i, lo_r, lo_n, kont_v, kont_n, List.length_nil, List.length_cons]
theorem c63 (hc : K5 c) : wpc (d + 2) 63 [.ref c] (mk n I L x) Φ ↔ Φ (.inl (some (.int (spt (I (c + 1)))))) (mk n I L x) := by
  show wp (d + 2) 63 0 [.ref c, noV, noV] [] (mk n I L x) Φ ↔ _
  simp (config := {decide := true}) only [r63_0, r63_1, r63_2, r63_3, if_true, if_false, Nat.reduceAdd, Int32.reduceToNatClampNeg, lo_i, lo_r, lo_n, kont_v, kont_n, List.length_nil, List.length_cons]
  refine loopN (P := fun k b => wp (d + 2) 63 4 [.ref c, .int b, .int (nt k)] [] (mk n I L x) Φ) (Q := fun b => Φ (.inl (some (.int (b)))) (mk n I L x)) (n := 6) (f := fun k b => b + I (c + 1) k) ?_ ?_ 0
  · intro k b hk
    have e1 : ¬ ((6 : Int32) ≤ nt k) := nt_nle (m := 6) (by omega) (by decide)
    have e2 : atv 84 (I (c + 1)) (0 + nt k) = I (c + 1) k := at_0 (by omega) (by decide)
    rw [r63_4]
    simp (config := {decide := true}) only [r63_5, r63_7, r63_10, r63_11, r63_12, r63_13, r63_16, r63_17, r63_18, r63_21, r63_24, r63_25, if_true, if_false, Nat.reduceAdd, Int32.reduceToNatClampNeg, lo_i, lo_r, lo_n, kont_v, kont_n, List.length_nil, List.length_cons, hc, sh5a hc, lt5a hc, ge5a hc, nt_succ, e1, e2, if_false, c47 hc]
  · intro b
    rw [r63_4]
    simp (config := {decide := true}) only [r63_5, r63_7, r63_10, r63_11, r63_12, r63_13, r63_16, r63_17, r63_18, r63_21, r63_24, r63_25, if_true, if_false, Nat.reduceAdd, Int32.reduceToNatClampNeg, lo_i, lo_r, lo_n, kont_v, kont_n, List.length_nil, List.length_cons]
theorem c57 (hc : K5 c) : wpc (d + 2) 57 [.ref c] (mk n I L x) Φ ↔ Φ (.inl (some (.int (ldr (I (c + 1)))))) (mk n I L x) := by
  show wp (d + 2) 57 0 [.ref c, noV, noV, noV, noV] [] (mk n I L x) Φ ↔ _
  simp (config := {decide := true}) only [r57_0, r57_1, r57_2, r57_4, r57_5, r57_6, if_true, if_false, Nat.reduceAdd, Int32.reduceToNatClampNeg, lo_i, lo_r, lo_n, kont_v, kont_n, List.length_nil, List.length_cons]
  have hl := foldN_map (π := fun q : (Int32 × Int32) × Value => q.1) (g := fun k q => (ldF (I (c + 1)) k q.1, .int (I (c + 1) (60 + k)))) (f := ldF (I (c + 1))) (fun _ _ => rfl) ((-1, 24), noV) 7
  unfold ldr
  rw [← hl]
  refine loopN (P := fun k (q : (Int32 × Int32) × Value) => wp (d + 2) 57 7 [.ref c, .int q.1.1, .int q.1.2, .int (nt k), q.2] [] (mk n I L x) Φ) (Q := fun q => Φ (.inl (some (.int q.1.1))) (mk n I L x)) (n := 7) ?_ ?_ ((-1, 24), noV)
  · intro k q hk
    have e1 : ¬ ((7 : Int32) ≤ nt k) := nt_nle (m := 7) (by omega) (by decide)
    have e2 : atv 84 (I (c + 1)) (60 + nt k) = I (c + 1) (60 + k) := at_b 60 (by omega) (by decide)
    rw [r57_7]
    simp (config := {decide := true}) only [r57_8, r57_10, r57_13, r57_14, r57_15, r57_18, r57_20, r57_22, r57_23, r57_26, r57_28, r57_29, r57_32, r57_33, r57_34, r57_36, r57_37, r57_40, r57_43, r57_44, if_true, if_false, Nat.reduceAdd, Int32.reduceToNatClampNeg, lo_i, lo_r, lo_n, kont_v, kont_n, List.length_nil, List.length_cons, hc, sh5a hc, lt5a hc, ge5a hc, nt_succ, e1, e2, c51 hc, ldF]
    by_cases h1 : I (c + 1) (60 + k) = -1
    · simp only [h1, if_true]
    · by_cases h2 : q.1.2 ≤ I (c + 1) (60 + k) <;> simp only [h1, h2, if_true, if_false]
  · intro q
    rw [r57_7]
    simp (config := {decide := true}) only [r57_8, r57_10, r57_13, r57_14, r57_15, r57_18, r57_20, r57_22, r57_23, r57_26, r57_28, r57_29, r57_32, r57_33, r57_34, r57_36, r57_37, r57_40, r57_43, r57_44, if_true, if_false, Nat.reduceAdd, Int32.reduceToNatClampNeg, lo_i, lo_r, lo_n, kont_v, kont_n, List.length_nil, List.length_cons]
theorem c56 (hc : K5 c) : wpc d 56 [.ref c] (mk n I L x) Φ ↔ Φ (.inl (some (.int (awm (I (c + 1)))))) (mk n I L x) := by
  show wp d 56 0 [.ref c, noV, noV] [] (mk n I L x) Φ ↔ _
  simp (config := {decide := true}) only [r56_0, r56_1, r56_2, r56_4, if_true, if_false, Nat.reduceAdd, Int32.reduceToNatClampNeg, lo_i, lo_r, lo_n, kont_v, kont_n, List.length_nil, List.length_cons]
  refine loopN (P := fun k b => wp d 56 5 [.ref c, .int b, .int (nt (60 + k))] [] (mk n I L x) Φ) (Q := fun b => Φ (.inl (some (.int b))) (mk n I L x)) (n := 7) (f := fun s b => b + (if I (c + 1) (60 + s) = -1 then 0 else 1)) ?_ ?_ 0
  · intro k b hk
    have e1 : ¬ ((67 : Int32) ≤ nt (60 + k)) := nt_nle (m := 67) (by omega) (by decide)
    have e2 : (nt (60 + k)).toNatClampNeg = 60 + k := nt_clamp (by omega)
    have e3 : 60 + k < 84 := by omega
    have e4 : (0 : Int32) ≤ nt (60 + k) := nt_ge (by omega)
    rw [r56_5]
    simp (config := {decide := true}) only [r56_6, r56_8, r56_11, r56_12, r56_13, r56_16, r56_17, r56_18, r56_19, r56_22, r56_23, r56_26, r56_27, r56_28, r56_29, r56_32, r56_35, r56_36, if_true, if_false, Nat.reduceAdd, Int32.reduceToNatClampNeg, lo_i, lo_r, lo_n, kont_v, kont_n, List.length_nil, List.length_cons, hc, sh5a hc, lt5a hc, ge5a hc, nt_succ, e1, e2, e3, e4]
    by_cases h1 : I (c + 1) (60 + k) = -1 <;> simp only [h1, if_true, if_false, Nat.add_assoc]
  · intro b
    rw [r56_5]
    simp (config := {decide := true}) only [r56_6, r56_8, r56_11, r56_12, r56_13, r56_16, r56_17, r56_18, r56_19, r56_22, r56_23, r56_26, r56_27, r56_28, r56_29, r56_32, r56_35, r56_36, if_true, if_false, Nat.reduceAdd, Int32.reduceToNatClampNeg, lo_i, lo_r, lo_n, kont_v, kont_n, List.length_nil, List.length_cons]
theorem c59 (hc : K5 c) : wpc (d + 3) 59 [.ref c] (mk n I L x) Φ ↔ Φ (.inl (some (.int (63 &&& (clf (I (c + 1)) (-1) ^^^ -1))))) (mk n I L x) := by
  show wp (d + 3) 59 0 [.ref c] [] (mk n I L x) Φ ↔ _
  simp (config := {decide := true}) only [r59_0, r59_2, r59_3, r59_4, r59_7, r59_8, r59_9, r59_10, if_true, if_false, Nat.reduceAdd, Int32.reduceToNatClampNeg, lo_i, lo_r, lo_n, kont_v, kont_n, List.length_nil, List.length_cons, hc, sh5a hc, lt5a hc, ge5a hc, c58 hc]
theorem c62 (hc : K5 c) : wpc (d + 3) 62 [.ref c, .int h] (mk n I L x) Φ ↔ Φ (.inl (some (.int (rng (I (c + 1)) h)))) (mk n I L x) := by
  show wp (d + 3) 62 0 [.ref c, .int h, noV] [] (mk n I L x) Φ ↔ _
  simp (config := {decide := true}) only [r62_0, r62_1, r62_2, r62_5, r62_6, r62_7, r62_10, r62_11, r62_14, r62_15, r62_16, r62_19, r62_20, if_true, if_false, Nat.reduceAdd, Int32.reduceToNatClampNeg, lo_i, lo_r, lo_n, kont_v, kont_n, List.length_nil, List.length_cons, hc, sh5a hc, lt5a hc, ge5a hc, c58 hc, c60 hc, rng]
  by_cases h1 : clf (I (c + 1)) h = 0 <;> simp only [h1, if_true, if_false]
theorem c72 (hc : K5 c) : wpc (d + 1) 72 [.ref c, .int k, .int v] (mk n I L x) Φ ↔ Φ (.inl (some (.int (bi (atv 84 (I (c + 1)) k ≠ v))))) (mk n (upR I (c + 1) (stv 84 (I (c + 1)) k v)) L x) := by
  show wp (d + 1) 72 0 [.ref c, .int k, .int v] [] (mk n I L x) Φ ↔ _
  simp (config := {decide := true}) only [r72_0, r72_1, r72_4, r72_5, r72_8, r72_9, r72_12, r72_13, r72_14, r72_15, r72_18, r72_19, r72_20, r72_23, r72_24, if_true, if_false, Nat.reduceAdd, Int32.reduceToNatClampNeg, lo_i, lo_r, lo_n, kont_v, kont_n, List.length_nil, List.length_cons, hc, sh5a hc, lt5a hc, ge5a hc, c185, c186, nb_0, nb_1]
  by_cases h1 : atv 84 (I (c + 1)) k = v
  · rw [if_pos h1, bi_f (fun h => h h1)]
    have : stv 84 (I (c + 1)) k v = I (c + 1) := by
      unfold atv at h1
      unfold stv
      split
      · rename_i h2
        rw [if_pos h2] at h1
        funext j
        unfold upd
        split
        · rename_i h3; rw [h3, h1]
        · rfl
      · rfl
    rw [this, upR_self]
  · rw [if_neg h1, bi_t h1, putv_up]
theorem c64 (hc : K5 c) : wpc (d + 2) 64 [.ref c, .int k, .int v] (mk n I L x) Φ ↔ Φ (.inl (some (.int (bi (atv 84 (I (c + 1)) (6 + k) ≠ v))))) (mk n (upR I (c + 1) (stv 84 (I (c + 1)) (6 + k) v)) L x) := by
  show wp (d + 2) 64 0 [.ref c, .int k, .int v] [] (mk n I L x) Φ ↔ _
  simp (config := {decide := true}) only [r64_0, r64_1, r64_3, r64_4, r64_5, r64_6, r64_9, if_true, if_false, Nat.reduceAdd, Int32.reduceToNatClampNeg, lo_i, lo_r, lo_n, kont_v, kont_n, List.length_nil, List.length_cons, hc, sh5a hc, lt5a hc, ge5a hc, c72 hc, nb_bi]
theorem c65 (hc : K5 c) : wpc (d + 2) 65 [.ref c, .int k, .int s, .int v] (mk n I L x) Φ ↔ Φ (.inl (some (.int (bi (atv 84 (I (c + 1)) (18 + s * 6 + k) ≠ v))))) (mk n (upR I (c + 1) (stv 84 (I (c + 1)) (18 + s * 6 + k) v)) L x) := by
  show wp (d + 2) 65 0 [.ref c, .int k, .int s, .int v] [] (mk n I L x) Φ ↔ _
  simp (config := {decide := true}) only [r65_0, r65_1, r65_3, r65_4, r65_6, r65_7, r65_8, r65_9, r65_10, r65_11, r65_14, if_true, if_false, Nat.reduceAdd, Int32.reduceToNatClampNeg, lo_i, lo_r, lo_n, kont_v, kont_n, List.length_nil, List.length_cons, hc, sh5a hc, lt5a hc, ge5a hc, c72 hc, nb_bi]
theorem c66 (hc : K5 c) : wpc (d + 2) 66 [.ref c, .int k] (mk n I L x) Φ ↔ Φ (.inl (some (.int (bi (atv 84 (I (c + 1)) (0 + k) ≠ mni 20 (atv 84 (I (c + 1)) (0 + k) + 5)))))) (mk n (upR I (c + 1) (stv 84 (I (c + 1)) (0 + k) (mni 20 (atv 84 (I (c + 1)) (0 + k) + 5)))) L x) := by
  show wp (d + 2) 66 0 [.ref c, .int k] [] (mk n I L x) Φ ↔ _
  simp (config := {decide := true}) only [r66_0, r66_1, r66_2, r66_3, r66_4, r66_6, r66_7, r66_8, r66_11, r66_12, r66_13, r66_16, r66_19, if_true, if_false, Nat.reduceAdd, Int32.reduceToNatClampNeg, lo_i, lo_r, lo_n, kont_v, kont_n, List.length_nil, List.length_cons, hc, sh5a hc, lt5a hc, ge5a hc, c72 hc, c47 hc, c317, nb_bi]
/-- mutators: the row behind them -/
def tsk (f : Nat → Int32) (k : Int32) : Nat → Int32 := if atv 84 f (12 + k) = 1 then upd (stv 84 f (12 + k) 0) 83 (stv 84 f (12 + k) 0 83 + 1) else if f 83 = 0 then f else upd (stv 84 f (12 + k) 1) 83 (stv 84 f (12 + k) 1 83 + -1)
theorem c67 (hc : K5 c) : wpc (d + 2) 67 [.ref c, .int k] (mk n I L x) Φ ↔ Φ (.inl (some (.int (bi (atv 84 (I (c + 1)) (12 + k) = 1 ∨ I (c + 1) 83 ≠ 0))))) (mk n (upR I (c + 1) (tsk (I (c + 1)) k)) L x) := by
  show wp (d + 2) 67 0 [.ref c, .int k, noV] [] (mk n I L x) Φ ↔ _
  unfold tsk
  by_cases h1 : atv 84 (I (c + 1)) (12 + k) = 1
  · simp (config := {decide := true}) only [r67_0, r67_1, r67_2, r67_5, r67_6, r67_9, r67_10, r67_13, r67_14, r67_15, r67_16, r67_19, r67_20, r67_23, r67_26, r67_27, r67_28, r67_29, r67_32, r67_34, r67_35, r67_36, r67_37, r67_40, r67_41, r67_44, r67_45, r67_48, r67_49, r67_52, r67_54, r67_55, r67_56, r67_57, r67_60, r67_61, r67_64, r67_65, r67_66, r67_67, r67_68, if_true, if_false, Nat.reduceAdd, Int32.reduceToNatClampNeg, lo_i, lo_r, lo_n, kont_v, kont_n, List.length_nil, List.length_cons, hc, sh5a hc, lt5a hc, ge5a hc, c49 hc, c46 hc, c186, putv_up, upR_same, wr_up, nb_1, h1, true_or, bi_t]
  · by_cases h2 : I (c + 1) 83 = 0
    · simp (config := {decide := true}) only [r67_0, r67_1, r67_2, r67_5, r67_6, r67_9, r67_10, r67_13, r67_14, r67_15, r67_16, r67_19, r67_20, r67_23, r67_26, r67_27, r67_28, r67_29, r67_32, r67_34, r67_35, r67_36, r67_37, r67_40, r67_41, r67_44, r67_45, r67_48, r67_49, r67_52, r67_54, r67_55, r67_56, r67_57, r67_60, r67_61, r67_64, r67_65, r67_66, r67_67, r67_68, if_true, if_false, Nat.reduceAdd, Int32.reduceToNatClampNeg, lo_i, lo_r, lo_n, kont_v, kont_n, List.length_nil, List.length_cons, hc, sh5a hc, lt5a hc, ge5a hc, c49 hc, c46 hc, c186, putv_up, upR_same, wr_up, nb_0, h1, h2, or_self, bi, ne_eq, not_true, upR_self]
    · simp (config := {decide := true}) only [r67_0, r67_1, r67_2, r67_5, r67_6, r67_9, r67_10, r67_13, r67_14, r67_15, r67_16, r67_19, r67_20, r67_23, r67_26, r67_27, r67_28, r67_29, r67_32, r67_34, r67_35, r67_36, r67_37, r67_40, r67_41, r67_44, r67_45, r67_48, r67_49, r67_52, r67_54, r67_55, r67_56, r67_57, r67_60, r67_61, r67_64, r67_65, r67_66, r67_67, r67_68, if_true, if_false, Nat.reduceAdd, Int32.reduceToNatClampNeg, lo_i, lo_r, lo_n, kont_v, kont_n, List.length_nil, List.length_cons, hc, sh5a hc, lt5a hc, ge5a hc, c49 hc, c46 hc, c186, putv_up, upR_same, wr_up, nb_1, h1, h2, or_true, bi, ne_eq, not_false_eq_true]
def dzf (f : Nat → Int32) (k : Int32) : Nat → Int32 := if atv 84 f (60 + k) = -1 then f else stv 84 (stv 84 f (60 + k) (-1)) (67 + k) (atv 84 (stv 84 f (60 + k) (-1)) (67 + k) + 1)
theorem c68 (hc : K5 c) : wpc (d + 2) 68 [.ref c, .int k] (mk n I L x) Φ ↔ Φ (.inl (some (.int (bi (atv 84 (I (c + 1)) (60 + k) ≠ -1))))) (mk n (upR I (c + 1) (dzf (I (c + 1)) k)) L x) := by
  show wp (d + 2) 68 0 [.ref c, .int k] [] (mk n I L x) Φ ↔ _
  unfold dzf
  by_cases h1 : atv 84 (I (c + 1)) (60 + k) = -1
  · simp (config := {decide := true}) only [r68_0, r68_1, r68_2, r68_5, r68_8, r68_9, r68_10, r68_11, r68_14, r68_16, r68_17, r68_18, r68_19, r68_22, r68_23, r68_26, r68_28, r68_29, r68_30, r68_31, r68_32, r68_35, r68_36, r68_37, r68_40, r68_41, if_true, if_false, Nat.reduceAdd, Int32.reduceToNatClampNeg, lo_i, lo_r, lo_n, kont_v, kont_n, List.length_nil, List.length_cons, hc, sh5a hc, lt5a hc, ge5a hc, c52 hc, c53 hc, c186, putv_up, upR_same, upR_upR, nb_0, h1, bi, ne_eq, not_true, upR_self]
  · simp (config := {decide := true}) only [r68_0, r68_1, r68_2, r68_5, r68_8, r68_9, r68_10, r68_11, r68_14, r68_16, r68_17, r68_18, r68_19, r68_22, r68_23, r68_26, r68_28, r68_29, r68_30, r68_31, r68_32, r68_35, r68_36, r68_37, r68_40, r68_41, if_true, if_false, Nat.reduceAdd, Int32.reduceToNatClampNeg, lo_i, lo_r, lo_n, kont_v, kont_n, List.length_nil, List.length_cons, hc, sh5a hc, lt5a hc, ge5a hc, c52 hc, c53 hc, c186, putv_up, upR_same, upR_upR, nb_1, h1, bi, ne_eq, not_false_eq_true]
end Mor
