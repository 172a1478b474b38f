def cnS (o : Nat) : String := cnm.getD o ""
/-- the field with the number g: declaring class, name, descriptor -/
def fInf (g : Nat) : String × String × String := match vwCl[g / 64]? with
  | some c => ((c.2.1 (g % 64)).1, (c.2.1 (g % 64)).2.1, (c.2.1 (g % 64)).2.2.1)
  | none => if g % 64 = 0 then ("java/lang/String", "value", "[B") else ("java/lang/String", "coder", "B")
def fCond (o idx g ne : Nat) : Cond := if ne = 0 then .fieldLink (cnS o) idx (fInf g).1 (fInf g).2.1 (fInf g).2.2 else .fieldLinkNest (cnS o) idx (fInf g).1 (fInf g).2.1 (fInf g).2.2 "AlarmRule"
def mNm (M : Nat) : MethodName := (mtab M).1
def mCd (M : Nat) : ByteArray := (mtab M).2.1
def yOf (M : Nat) : MethodName := if M = 1000 then objectInit else if M = 1001 then arraycopyName else mNm M
def mCond (o idx M ne : Nat) : Cond := if ne = 0 then .methodLink (cnS o) idx (yOf M) else .methodLinkNest (cnS o) idx (yOf M) "AlarmRule"
def sInf (j : Nat) : String × String × String := match j with
  | 0 => ("AlarmRule$Law", "PLAIN", "[I")
  | 1 => ("java/lang/String", "COMPACT_STRINGS", "Z")
  | _ => ("jdk/internal/util/Preconditions", "SIOOBE_FORMATTER", "Ljava/util/function/BiFunction;")
def kNm (k : Nat) : String := match k with
  | 22 => "[[I"
  | 23 => "AlarmRule$Morning"
  | 24 => "AlarmRule$Works"
  | k => cnS k
def eNm (k : Nat) : String := if k = 1 then "java/util/NoSuchElementException" else "java/lang/IllegalArgumentException"
/-- so many words further on in the table stands this one -/
def scn : List (Nat × Cond) → List Cond → Bool
  | [], _ => true
  | (k, q) :: r, t => match t.drop k with
    | [] => false
    | c :: u => decide (c = q) && scn r u
theorem scn_mem : ∀ (l : List (Nat × Cond)) (t : List Cond), scn l t = true → ∀ q ∈ l, q.2 ∈ t
  | [], _, _, q, h => nomatch h
  | (k, w0) :: r, t, hs, q, hq => by
    unfold scn at hs
    cases hd : t.drop k with
    | nil => rw [hd] at hs; cases hs
    | cons c u =>
      rw [hd] at hs
      simp only [Bool.and_eq_true, decide_eq_true_eq] at hs
      have hsub : ∀ z, z ∈ c :: u → z ∈ t := fun z hz => List.mem_of_mem_drop (hd ▸ hz)
      rcases List.mem_cons.mp hq with rfl | hq
      · exact hsub _ (by rw [← hs.1]; exact List.mem_cons_self)
      · exact hsub _ (List.mem_cons_of_mem _ (scn_mem r u hs.2 q hq))
theorem scn_in {ks : List Nat} {l t : List Cond} (h : scn (List.zip ks l) t = true) (hl : ks.length = l.length) {w0 : Cond} (hw : w0 ∈ l) : w0 ∈ t := by
  obtain ⟨i, hi⟩ := List.getElem?_of_mem hw
  have hlt : i < l.length := (List.getElem?_eq_some_iff.mp hi).1
  have hk : ∃ k, ks[i]? = some k := ⟨_, List.getElem?_eq_getElem (by omega)⟩
  obtain ⟨k, hk⟩ := hk
  have hz : (List.zip ks l)[i]? = some (k, w0) := by rw [List.getElem?_zip_eq_some]; exact ⟨hk, hi⟩
  exact scn_mem _ _ h _ (List.mem_of_getElem? hz)
def lfT_0 : List (Nat × Nat × Nat × Nat) := [(7, 9, 448, 0), (7, 15, 449, 0), (7, 19, 450, 0), (7, 22, 451, 0), (7, 25, 452, 0), (7, 28, 453, 0), (11, 415, 453, 1), (7, 31, 454, 0), (11, 187, 454, 1), (6, 9, 384, 0), (6, 15, 385, 0), (6, 18, 386, 0), (6, 21, 387, 0), (5, 21, 387, 1), (6, 24, 388, 0), (5, 32, 388, 1), (6, 27, 389, 0), (8, 37, 389, 1), (3, 71, 389, 1), (11, 143, 389, 1), (2, 72, 389, 1), (6, 31, 390, 0), (3, 35, 390, 1), (10, 38, 390, 1), (2, 81, 390, 1), (8, 74, 390, 1), (11, 202, 390, 1), (6, 34, 391, 0), (5, 38, 391, 1), (4, 9, 256, 0), (4, 15, 257, 0), (4, 18, 258, 0), (4, 21, 259, 0), (2, 11, 128, 0), (2, 15, 129, 0), (2, 18, 130, 0), (2, 21, 131, 0), (2, 24, 132, 0), (11, 167, 132, 1), (2, 28, 133, 0), (2, 31, 134, 0), (11, 177, 134, 1), (2, 34, 135, 0), (11, 174, 135, 1), (1, 9, 64, 0), (11, 318, 64, 1), (1, 15, 65, 0), (11, 321, 65, 1), (3, 7, 192, 0), (8, 31, 192, 1), (10, 32, 192, 1), (3, 13, 193, 0), (5, 11, 320, 0), (9, 31, 320, 1), (9, 11, 576, 0), (9, 17, 577, 0), (11, 196, 577, 1), (0, 12, 0, 0), (0, 21, 1, 0), (0, 25, 2, 0)]
set_option maxRecDepth 100000 in
theorem lfT_ok0 : scn (List.zip [135, 0, 0, 0, 0, 0, 0, 0, 0, 22, 0, 0, 0, 0, 0, 0, 0, 0, 0, 0, 0, 0, 0, 0, 0, 0, 0, 0, 0, 32, 0, 0, 0, 15, 0, 0, 0, 0, 0, 0, 0, 0, 0, 0, 23, 0, 0, 0, 11, 0, 0, 0, 11, 0, 9, 0, 0, 17, 0, 0] (lfT_0.map (fun e => fCond e.1 e.2.1 e.2.2.1 e.2.2.2))) lw_tbl = true := by decide +kernel
theorem lfT_in0 : ∀ e ∈ lfT_0, (fCond e.1 e.2.1 e.2.2.1 e.2.2.2) ∈ lw_tbl := fun e h => scn_in lfT_ok0 (by decide +kernel) (List.mem_map_of_mem (f := fun e => fCond e.1 e.2.1 e.2.2.1 e.2.2.2) h)
def lfT_1 : List (Nat × Nat × Nat × Nat) := [(8, 11, 512, 0), (8, 15, 513, 0), (8, 18, 514, 0), (10, 12, 640, 0), (11, 392, 640, 1), (10, 18, 641, 0), (10, 21, 642, 0), (10, 25, 643, 0), (11, 389, 643, 1), (11, 10, 704, 0), (11, 19, 705, 0), (11, 23, 706, 0), (11, 29, 707, 0), (11, 33, 708, 0), (11, 39, 709, 0), (11, 46, 710, 0), (11, 50, 711, 0), (11, 58, 712, 0), (11, 65, 713, 0), (11, 69, 714, 0), (11, 75, 715, 0), (11, 82, 716, 0), (11, 89, 717, 0), (11, 96, 718, 0), (11, 100, 719, 0), (11, 104, 720, 0), (11, 107, 721, 0), (12, 89, 768, 0), (12, 92, 769, 0), (12, 95, 770, 0), (12, 9, 771, 0), (12, 98, 772, 0), (12, 105, 773, 0), (12, 108, 774, 0), (12, 145, 775, 0), (12, 148, 776, 0), (12, 13, 777, 0), (12, 17, 778, 0), (12, 20, 779, 0), (12, 23, 780, 0), (12, 28, 781, 0), (12, 31, 782, 0), (12, 34, 783, 0), (12, 37, 784, 0), (12, 40, 785, 0), (12, 190, 786, 0), (12, 205, 787, 0), (12, 43, 788, 0), (12, 46, 789, 0), (12, 49, 790, 0), (12, 52, 791, 0), (12, 55, 792, 0), (12, 58, 793, 0), (12, 61, 794, 0), (12, 248, 795, 0), (12, 64, 796, 0), (12, 67, 797, 0), (12, 70, 798, 0), (12, 73, 799, 0), (12, 76, 800, 0)]
set_option maxRecDepth 100000 in
theorem lfT_ok1 : scn (List.zip [348, 0, 0, 15, 0, 0, 0, 0, 0, 21, 0, 0, 0, 0, 0, 0, 0, 0, 0, 0, 0, 0, 0, 0, 0, 0, 0, 1094, 0, 0, 0, 0, 0, 0, 0, 0, 0, 0, 0, 0, 0, 0, 0, 0, 0, 0, 0, 0, 0, 0, 0, 0, 0, 0, 0, 0, 0, 0, 0, 0] (lfT_1.map (fun e => fCond e.1 e.2.1 e.2.2.1 e.2.2.2))) lw_tbl = true := by decide +kernel
theorem lfT_in1 : ∀ e ∈ lfT_1, (fCond e.1 e.2.1 e.2.2.1 e.2.2.2) ∈ lw_tbl := fun e h => scn_in lfT_ok1 (by decide +kernel) (List.mem_map_of_mem (f := fun e => fCond e.1 e.2.1 e.2.2.1 e.2.2.2) h)
def lfT_2 : List (Nat × Nat × Nat × Nat) := [(12, 193, 801, 0), (12, 196, 802, 0), (12, 199, 803, 0), (12, 202, 804, 0), (12, 396, 805, 0), (12, 285, 806, 0), (12, 306, 807, 0), (12, 316, 808, 0), (12, 79, 809, 0), (12, 379, 810, 0), (13, 9, 832, 0), (13, 15, 833, 0)]
set_option maxRecDepth 100000 in
theorem lfT_ok2 : scn (List.zip [1538, 0, 0, 0, 0, 0, 0, 0, 0, 0, 570, 0] (lfT_2.map (fun e => fCond e.1 e.2.1 e.2.2.1 e.2.2.2))) lw_tbl = true := by decide +kernel
theorem lfT_in2 : ∀ e ∈ lfT_2, (fCond e.1 e.2.1 e.2.2.1 e.2.2.2) ∈ lw_tbl := fun e h => scn_in lfT_ok2 (by decide +kernel) (List.mem_map_of_mem (f := fun e => fCond e.1 e.2.1 e.2.2.1 e.2.2.2) h)
def lfT : List (Nat × Nat × Nat × Nat) := lfT_0 ++ (lfT_1 ++ (lfT_2))
theorem lfT_in : ∀ e ∈ lfT, (fCond e.1 e.2.1 e.2.2.1 e.2.2.2) ∈ lw_tbl := fun e h => (List.mem_append.mp h).elim (fun h => lfT_in0 e h) (fun h => (List.mem_append.mp h).elim (fun h => lfT_in1 e h) (fun h => lfT_in2 e h))
def lmT_0 : List (Nat × Nat × Nat × Nat) := [(14, 116, 130, 0), (11, 1, 1000, 0), (11, 9, 89, 1), (7, 3, 1000, 0), (11, 18, 73, 1), (6, 3, 1000, 0), (11, 28, 26, 0), (4, 3, 1000, 0), (4, 25, 27, 0), (4, 31, 1001, 0), (11, 38, 13, 1), (2, 3, 1000, 0), (11, 45, 7, 1), (1, 3, 1000, 0), (11, 55, 22, 0), (3, 1, 1000, 0), (11, 64, 40, 1), (5, 5, 1000, 0), (11, 74, 116, 1), (9, 3, 1000, 0), (11, 81, 0, 1), (0, 3, 1000, 0), (0, 11, 40, 1), (0, 20, 116, 1), (11, 88, 105, 1), (8, 3, 1000, 0), (11, 95, 123, 1), (10, 3, 1000, 0), (10, 11, 40, 1), (11, 110, 41, 0), (5, 15, 328, 0), (5, 26, 1001, 0), (5, 35, 71, 0), (14, 120, 131, 0), (11, 114, 90, 0), (11, 118, 91, 0), (7, 34, 186, 1), (11, 122, 92, 0), (14, 144, 136, 0), (14, 148, 137, 0), (11, 190, 118, 0), (11, 193, 122, 0), (9, 34, 118, 0), (9, 21, 1001, 0), (14, 175, 145, 0), (11, 205, 43, 0), (11, 296, 62, 0), (5, 64, 58, 0), (5, 61, 48, 0), (5, 49, 185, 1), (5, 73, 60, 0), (5, 67, 47, 0), (14, 220, 159, 0), (11, 361, 85, 0), (11, 211, 55, 0), (5, 53, 52, 0), (11, 289, 60, 0), (11, 292, 24, 0), (3, 74, 52, 0), (3, 78, 23, 0)]
set_option maxRecDepth 100000 in
theorem lmT_ok0 : scn (List.zip [123, 2, 4, 2, 27, 2, 39, 2, 0, 5, 17, 2, 30, 2, 11, 2, 11, 2, 7, 2, 10, 2, 2, 2, 12, 2, 12, 2, 1, 15, 3, 2, 0, 58, 3, 3, 3, 2, 3, 3, 3, 3, 3, 0, 0, 3, 3, 3, 3, 3, 2, 3, 3, 3, 3, 3, 3, 0, 3, 0] (lmT_0.map (fun e => mCond e.1 e.2.1 e.2.2.1 e.2.2.2))) lw_tbl = true := by decide +kernel
theorem lmT_in0 : ∀ e ∈ lmT_0, (mCond e.1 e.2.1 e.2.2.1 e.2.2.2) ∈ lw_tbl := fun e h => scn_in lmT_ok0 (by decide +kernel) (List.mem_map_of_mem (f := fun e => mCond e.1 e.2.1 e.2.2.1 e.2.2.2) h)
def lmT_1 : List (Nat × Nat × Nat × Nat) := [(3, 17, 43, 0), (3, 23, 44, 0), (3, 26, 56, 0), (3, 29, 37, 0), (3, 41, 184, 1), (3, 47, 84, 0), (6, 101, 185, 1), (3, 51, 50, 0), (3, 55, 82, 0), (3, 58, 49, 0), (3, 61, 47, 0), (3, 64, 36, 0), (3, 68, 38, 0), (4, 90, 186, 1), (4, 94, 185, 1), (4, 98, 39, 0), (4, 102, 317, 0), (4, 107, 316, 0), (14, 236, 164, 0), (11, 379, 86, 0), (11, 217, 59, 0), (14, 246, 167, 0), (14, 250, 168, 0), (14, 261, 171, 0), (11, 399, 1, 0), (11, 400, 5, 0), (0, 29, 42, 0), (0, 33, 120, 0), (11, 404, 3, 0), (14, 265, 172, 0), (11, 405, 2, 0), (11, 406, 6, 0), (14, 269, 173, 0), (14, 273, 174, 0), (14, 125, 330, 0), (14, 7, 132, 0), (11, 126, 175, 0), (11, 198, 181, 0), (11, 409, 94, 0), (7, 38, 317, 0), (11, 130, 75, 0), (6, 43, 76, 0), (6, 56, 328, 0), (6, 46, 97, 0), (6, 52, 77, 0), (6, 64, 101, 0), (7, 44, 97, 0), (7, 56, 185, 1), (7, 64, 104, 0), (7, 67, 318, 0), (13, 335, 320, 0), (7, 72, 319, 0), (13, 492, 321, 0), (13, 495, 323, 0), (15, 9, 322, 0), (13, 1059, 329, 0), (13, 498, 326, 0), (16, 67, 327, 0), (16, 48, 325, 0), (16, 414, 322, 0)]
set_option maxRecDepth 100000 in
theorem lmT_ok1 : scn (List.zip [542, 0, 3, 3, 3, 2, 3, 0, 3, 3, 3, 0, 3, 3, 0, 0, 2, 2, 2, 3, 3, 3, 3, 3, 3, 3, 3, 3, 3, 3, 3, 3, 3, 3, 3, 3, 3, 3, 70, 3, 0, 3, 3, 0, 3, 4, 3, 0, 0, 2, 3, 5, 3, 3, 2, 4, 2, 2, 2, 2] (lmT_1.map (fun e => mCond e.1 e.2.1 e.2.2.1 e.2.2.2))) lw_tbl = true := by decide +kernel
theorem lmT_in1 : ∀ e ∈ lmT_1, (mCond e.1 e.2.1 e.2.2.1 e.2.2.2) ∈ lw_tbl := fun e h => scn_in lmT_ok1 (by decide +kernel) (List.mem_map_of_mem (f := fun e => mCond e.1 e.2.1 e.2.2.1 e.2.2.2) h)
def lmT_2 : List (Nat × Nat × Nat × Nat) := [(16, 71, 324, 0), (7, 76, 102, 0), (7, 80, 95, 0), (7, 48, 96, 0), (6, 68, 78, 0), (6, 72, 96, 0), (6, 76, 95, 0), (6, 80, 79, 0), (6, 90, 100, 0), (7, 52, 103, 0), (7, 60, 182, 1), (6, 97, 186, 1), (6, 84, 80, 0), (6, 87, 81, 0), (6, 94, 98, 0), (11, 134, 95, 0), (11, 137, 74, 0), (6, 37, 1001, 0), (11, 140, 177, 0), (11, 418, 27, 0), (11, 421, 8, 0), (11, 422, 119, 0), (11, 423, 4, 0), (11, 146, 176, 0), (11, 412, 93, 0), (14, 135, 331, 0), (14, 15, 133, 0), (11, 150, 29, 0), (4, 37, 30, 0), (4, 46, 31, 0), (4, 64, 32, 0), (4, 53, 97, 0), (4, 67, 103, 0), (4, 71, 100, 0), (4, 61, 35, 0), (4, 75, 33, 0), (4, 87, 96, 0), (4, 57, 98, 0), (4, 80, 101, 0), (4, 84, 34, 0), (4, 49, 95, 0), (4, 41, 99, 0), (11, 151, 28, 0), (14, 138, 332, 0), (14, 18, 134, 0), (11, 154, 117, 0), (11, 157, 14, 0), (2, 37, 15, 0), (2, 43, 95, 0), (2, 47, 97, 0), (2, 51, 16, 0), (2, 56, 101, 0), (2, 60, 96, 0), (2, 64, 186, 1), (2, 68, 18, 0), (2, 77, 100, 0), (2, 87, 98, 0), (2, 84, 17, 0), (11, 160, 121, 0), (9, 27, 117, 0)]
set_option maxRecDepth 100000 in
theorem lmT_ok2 : scn (List.zip [813, 8, 3, 3, 3, 3, 0, 0, 3, 3, 2, 2, 0, 3, 3, 3, 0, 3, 0, 3, 0, 3, 3, 3, 3, 3, 2, 3, 3, 3, 3, 3, 0, 0, 0, 3, 3, 0, 1, 0, 3, 0, 3, 3, 2, 3, 3, 3, 3, 0, 0, 4, 0, 0, 0, 3, 0, 0, 3, 3] (lmT_2.map (fun e => mCond e.1 e.2.1 e.2.2.1 e.2.2.2))) lw_tbl = true := by decide +kernel
theorem lmT_in2 : ∀ e ∈ lmT_2, (mCond e.1 e.2.1 e.2.2.1 e.2.2.2) ∈ lw_tbl := fun e h => scn_in lmT_ok2 (by decide +kernel) (List.mem_map_of_mem (f := fun e => mCond e.1 e.2.1 e.2.2.1 e.2.2.2) h)
def lmT_3 : List (Nat × Nat × Nat × Nat) := [(11, 164, 19, 0), (11, 170, 20, 0), (2, 90, 185, 1), (2, 94, 316, 0), (2, 99, 20, 0), (2, 103, 21, 0), (2, 107, 64, 0), (5, 76, 72, 0), (5, 89, 186, 1), (2, 113, 66, 0), (5, 80, 317, 0), (2, 117, 67, 0), (5, 70, 49, 0), (5, 86, 46, 0), (2, 120, 65, 0), (2, 124, 68, 0), (5, 93, 53, 0), (2, 127, 45, 0), (5, 42, 43, 0), (5, 46, 44, 0), (2, 130, 25, 0), (3, 82, 62, 0), (3, 85, 70, 0), (5, 99, 57, 0), (5, 57, 51, 0), (5, 102, 54, 0), (3, 88, 24, 0), (3, 92, 69, 0), (5, 96, 184, 1), (14, 141, 333, 0), (14, 21, 135, 0), (11, 180, 11, 0), (1, 24, 8, 0), (1, 27, 97, 0), (1, 33, 12, 0), (1, 37, 100, 0), (1, 41, 95, 0), (1, 45, 184, 1), (1, 49, 96, 0), (1, 53, 98, 0), (11, 183, 9, 0), (11, 186, 10, 0), (1, 18, 315, 0), (14, 152, 334, 0), (14, 24, 138, 0), (11, 208, 44, 0), (11, 214, 57, 0), (11, 220, 61, 0), (11, 223, 46, 0), (11, 226, 63, 0), (14, 155, 335, 0), (14, 27, 139, 0), (11, 229, 179, 0), (11, 270, 182, 0), (11, 232, 82, 0), (11, 235, 83, 0), (11, 238, 51, 0), (11, 241, 53, 0), (11, 244, 54, 0), (14, 159, 336, 0)]
set_option maxRecDepth 100000 in
theorem lmT_ok3 : scn (List.zip [993, 3, 3, 0, 0, 0, 3, 3, 3, 0, 3, 0, 3, 0, 3, 3, 3, 3, 3, 0, 0, 3, 0, 3, 3, 3, 3, 0, 3, 0, 2, 3, 3, 0, 0, 3, 0, 0, 0, 0, 0, 3, 3, 5, 2, 3, 0, 0, 3, 0, 3, 3, 3, 3, 16, 0, 3, 0, 0, 0] (lmT_3.map (fun e => mCond e.1 e.2.1 e.2.2.1 e.2.2.2))) lw_tbl = true := by decide +kernel
theorem lmT_in3 : ∀ e ∈ lmT_3, (mCond e.1 e.2.1 e.2.2.1 e.2.2.2) ∈ lw_tbl := fun e h => scn_in lmT_ok3 (by decide +kernel) (List.mem_map_of_mem (f := fun e => mCond e.1 e.2.1 e.2.2.1 e.2.2.2) h)
def lmT_4 : List (Nat × Nat × Nat × Nat) := [(14, 33, 140, 0), (11, 247, 180, 0), (11, 250, 84, 0), (11, 253, 47, 0), (11, 256, 48, 0), (11, 259, 49, 0), (14, 162, 337, 0), (14, 36, 141, 0), (11, 262, 50, 0), (14, 165, 338, 0), (14, 39, 142, 0), (11, 266, 23, 0), (14, 168, 339, 0), (14, 42, 143, 0), (11, 274, 36, 0), (11, 278, 37, 0), (11, 282, 38, 0), (14, 172, 340, 0), (14, 46, 144, 0), (11, 285, 183, 0), (14, 179, 341, 0), (14, 49, 146, 0), (11, 299, 42, 0), (11, 301, 25, 0), (14, 182, 342, 0), (14, 52, 147, 0), (11, 305, 184, 0), (14, 185, 343, 0), (14, 55, 148, 0), (11, 308, 106, 0), (8, 21, 60, 0), (8, 27, 108, 0), (8, 43, 52, 0), (8, 47, 109, 0), (8, 77, 23, 0), (8, 51, 314, 0), (8, 57, 185, 1), (8, 61, 82, 0), (8, 64, 110, 0), (8, 80, 186, 1), (11, 312, 112, 0), (8, 84, 111, 0), (8, 88, 315, 0), (14, 188, 344, 0), (14, 58, 149, 0), (14, 191, 345, 0), (14, 61, 150, 0), (11, 315, 107, 0), (8, 68, 316, 0), (14, 194, 346, 0), (14, 64, 151, 0), (11, 324, 113, 0), (11, 327, 114, 0), (11, 330, 115, 0), (8, 91, 114, 0), (14, 197, 347, 0), (14, 67, 152, 0), (11, 333, 178, 0), (11, 376, 316, 0), (14, 200, 348, 0)]
set_option maxRecDepth 100000 in
theorem lmT_ok4 : scn (List.zip [1170, 3, 4, 0, 0, 0, 0, 2, 3, 0, 2, 3, 0, 2, 3, 0, 0, 0, 2, 3, 2, 2, 3, 0, 0, 2, 3, 0, 2, 3, 3, 0, 3, 0, 3, 0, 3, 0, 0, 3, 0, 3, 3, 0, 2, 3, 2, 3, 3, 0, 2, 3, 3, 3, 3, 0, 2, 3, 3, 0] (lmT_4.map (fun e => mCond e.1 e.2.1 e.2.2.1 e.2.2.2))) lw_tbl = true := by decide +kernel
theorem lmT_in4 : ∀ e ∈ lmT_4, (mCond e.1 e.2.1 e.2.2.1 e.2.2.2) ∈ lw_tbl := fun e h => scn_in lmT_ok4 (by decide +kernel) (List.mem_map_of_mem (f := fun e => mCond e.1 e.2.1 e.2.2.1 e.2.2.2) h)
def lmT_5 : List (Nat × Nat × Nat × Nat) := [(14, 70, 153, 0), (11, 336, 87, 0), (6, 105, 184, 1), (6, 109, 83, 0), (14, 203, 349, 0), (14, 73, 154, 0), (11, 339, 317, 0), (14, 206, 350, 0), (14, 76, 155, 0), (11, 344, 188, 0), (11, 348, 187, 0), (14, 210, 351, 0), (14, 80, 156, 0), (11, 352, 189, 0), (14, 214, 352, 0), (14, 84, 157, 0), (11, 358, 88, 0), (6, 113, 82, 0), (6, 116, 317, 0), (14, 217, 353, 0), (14, 87, 158, 0), (14, 224, 354, 0), (14, 90, 160, 0), (14, 227, 355, 0), (14, 93, 161, 0), (11, 364, 58, 0), (11, 367, 315, 0), (14, 230, 356, 0), (14, 96, 162, 0), (11, 372, 52, 0), (14, 233, 357, 0), (14, 99, 163, 0), (14, 240, 358, 0), (14, 102, 165, 0), (14, 243, 359, 0), (14, 105, 166, 0), (14, 254, 360, 0), (14, 108, 169, 0), (11, 382, 124, 0), (10, 28, 42, 0), (11, 385, 125, 0), (10, 43, 126, 0), (10, 57, 127, 0), (10, 60, 64, 0), (10, 64, 67, 0), (10, 68, 66, 0), (10, 47, 25, 0), (10, 51, 315, 0), (11, 393, 129, 0), (10, 75, 128, 0), (10, 72, 54, 0), (14, 257, 361, 0), (14, 112, 170, 0), (11, 396, 128, 0), (14, 119, 190, 0), (12, 1, 1000, 0), (12, 83, 191, 0), (12, 86, 222, 0), (12, 186, 220, 0), (14, 131, 192, 0)]
set_option maxRecDepth 100000 in
theorem lmT_ok5 : scn (List.zip [1332, 3, 3, 0, 0, 2, 3, 0, 2, 3, 2, 2, 2, 3, 3, 2, 3, 3, 0, 0, 2, 3, 2, 3, 2, 3, 0, 0, 2, 3, 0, 2, 3, 2, 3, 2, 3, 2, 3, 3, 0, 3, 3, 4, 0, 0, 0, 0, 0, 3, 3, 0, 2, 3, 2, 2, 2, 3, 3, 133] (lmT_5.map (fun e => mCond e.1 e.2.1 e.2.2.1 e.2.2.2))) lw_tbl = true := by decide +kernel
theorem lmT_in5 : ∀ e ∈ lmT_5, (mCond e.1 e.2.1 e.2.2.1 e.2.2.2) ∈ lw_tbl := fun e h => scn_in lmT_ok5 (by decide +kernel) (List.mem_map_of_mem (f := fun e => mCond e.1 e.2.1 e.2.2.1 e.2.2.2) h)
def lmT_6 : List (Nat × Nat × Nat × Nat) := [(14, 124, 198, 0), (14, 130, 219, 0), (12, 123, 194, 0), (12, 173, 193, 0), (12, 177, 212, 0), (12, 111, 200, 0), (12, 101, 199, 0), (12, 180, 218, 0), (12, 159, 216, 0), (12, 155, 215, 0), (12, 134, 206, 0), (12, 151, 214, 0), (12, 127, 203, 0), (12, 138, 207, 0), (12, 130, 205, 0), (12, 118, 201, 0), (12, 162, 217, 0), (12, 142, 208, 0), (12, 165, 204, 0), (12, 114, 202, 0), (12, 169, 210, 0), (12, 183, 213, 0), (14, 137, 230, 0), (12, 229, 225, 0), (12, 208, 226, 0), (12, 217, 229, 0), (12, 226, 224, 0), (12, 214, 223, 0), (12, 232, 228, 0), (12, 220, 209, 0), (12, 223, 227, 0), (12, 211, 211, 0), (14, 143, 235, 0), (12, 254, 197, 0), (14, 147, 236, 0), (14, 140, 252, 0), (12, 251, 234, 0), (12, 245, 233, 0), (12, 319, 221, 0), (12, 309, 251, 0), (12, 312, 250, 0), (12, 291, 247, 0), (12, 295, 248, 0), (12, 235, 195, 0), (12, 299, 249, 0), (12, 302, 246, 0), (12, 278, 244, 0), (12, 282, 242, 0), (12, 275, 241, 0), (12, 271, 240, 0), (12, 260, 239, 0), (12, 264, 238, 0), (12, 267, 237, 0), (12, 257, 232, 0), (12, 241, 231, 0), (12, 238, 196, 0), (12, 288, 245, 0), (14, 151, 253, 0), (14, 154, 256, 0), (12, 323, 255, 0)]
set_option maxRecDepth 100000 in
theorem lmT_ok6 : scn (List.zip [1640, 3, 3, 2, 3, 3, 3, 3, 3, 3, 3, 2, 3, 2, 3, 3, 3, 2, 3, 3, 3, 3, 3, 3, 3, 3, 3, 3, 3, 3, 3, 3, 3, 3, 2, 3, 3, 3, 3, 2, 3, 3, 2, 2, 2, 2, 3, 3, 3, 3, 3, 3, 2, 3, 3, 2, 2, 3, 3, 3] (lmT_6.map (fun e => mCond e.1 e.2.1 e.2.2.1 e.2.2.2))) lw_tbl = true := by decide +kernel
theorem lmT_in6 : ∀ e ∈ lmT_6, (mCond e.1 e.2.1 e.2.2.1 e.2.2.2) ∈ lw_tbl := fun e h => scn_in lmT_ok6 (by decide +kernel) (List.mem_map_of_mem (f := fun e => mCond e.1 e.2.1 e.2.2.1 e.2.2.2) h)
def lmT_7 : List (Nat × Nat × Nat × Nat) := [(12, 326, 254, 0), (14, 158, 260, 0), (12, 329, 257, 0), (14, 161, 261, 0), (12, 332, 258, 0), (14, 164, 262, 0), (14, 167, 263, 0), (14, 171, 264, 0), (12, 335, 259, 0), (14, 174, 267, 0), (12, 341, 266, 0), (12, 344, 265, 0), (12, 338, 243, 0), (14, 178, 268, 0), (14, 181, 269, 0), (14, 184, 270, 0), (14, 187, 273, 0), (12, 350, 272, 0), (12, 347, 271, 0), (14, 190, 275, 0), (12, 353, 274, 0), (14, 193, 276, 0), (14, 196, 278, 0), (12, 356, 277, 0), (14, 199, 280, 0), (12, 359, 279, 0), (14, 202, 283, 0), (12, 362, 282, 0), (12, 365, 281, 0), (14, 226, 284, 0), (14, 205, 285, 0), (14, 209, 288, 0), (12, 372, 287, 0), (12, 368, 286, 0), (14, 213, 289, 0), (14, 216, 291, 0), (12, 376, 290, 0), (14, 219, 292, 0), (14, 223, 293, 0), (14, 235, 294, 0), (14, 239, 295, 0), (14, 242, 296, 0), (14, 245, 297, 0), (14, 249, 298, 0), (14, 253, 299, 0), (14, 229, 300, 0), (14, 232, 301, 0), (14, 256, 306, 0), (12, 386, 305, 0), (12, 389, 303, 0), (12, 383, 302, 0), (12, 393, 304, 0), (14, 260, 307, 0), (14, 264, 310, 0), (12, 403, 309, 0), (12, 399, 308, 0), (14, 268, 311, 0), (14, 272, 312, 0), (14, 276, 313, 0)]
set_option maxRecDepth 100000 in
theorem lmT_ok7 : scn (List.zip [1867, 3, 3, 3, 3, 3, 3, 3, 3, 2, 3, 3, 3, 3, 3, 3, 3, 3, 3, 3, 3, 3, 3, 3, 3, 3, 3, 3, 3, 3, 3, 3, 3, 2, 2, 3, 3, 3, 3, 3, 3, 3, 3, 3, 3, 3, 3, 3, 3, 2, 3, 4, 3, 3, 3, 3, 3, 3, 3] (lmT_7.map (fun e => mCond e.1 e.2.1 e.2.2.1 e.2.2.2))) lw_tbl = true := by decide +kernel
theorem lmT_in7 : ∀ e ∈ lmT_7, (mCond e.1 e.2.1 e.2.2.1 e.2.2.2) ∈ lw_tbl := fun e h => scn_in lmT_ok7 (by decide +kernel) (List.mem_map_of_mem (f := fun e => mCond e.1 e.2.1 e.2.2.1 e.2.2.2) h)
def lmT : List (Nat × Nat × Nat × Nat) := lmT_0 ++ (lmT_1 ++ (lmT_2 ++ (lmT_3 ++ (lmT_4 ++ (lmT_5 ++ (lmT_6 ++ (lmT_7)))))))
theorem lmT_in : ∀ e ∈ lmT, (mCond e.1 e.2.1 e.2.2.1 e.2.2.2) ∈ lw_tbl := fun e h => (List.mem_append.mp h).elim (fun h => lmT_in0 e h) (fun h => (List.mem_append.mp h).elim (fun h => lmT_in1 e h) (fun h => (List.mem_append.mp h).elim (fun h => lmT_in2 e h) (fun h => (List.mem_append.mp h).elim (fun h => lmT_in3 e h) (fun h => (List.mem_append.mp h).elim (fun h => lmT_in4 e h) (fun h => (List.mem_append.mp h).elim (fun h => lmT_in5 e h) (fun h => (List.mem_append.mp h).elim (fun h => lmT_in6 e h) (fun h => lmT_in7 e h)))))))
def lsT_0 : List (Nat × Nat × Nat) := [(4, 28, 0), (13, 38, 1), (13, 1053, 2)]
set_option maxRecDepth 100000 in
theorem lsT_ok0 : scn (List.zip [213, 568, 15] (lsT_0.map (fun e => Cond.fieldLink (cnS e.1) e.2.1 (sInf e.2.2).1 (sInf e.2.2).2.1 (sInf e.2.2).2.2))) lw_tbl = true := by decide +kernel
theorem lsT_in0 : ∀ e ∈ lsT_0, (Cond.fieldLink (cnS e.1) e.2.1 (sInf e.2.2).1 (sInf e.2.2).2.1 (sInf e.2.2).2.2) ∈ lw_tbl := fun e h => scn_in lsT_ok0 (by decide +kernel) (List.mem_map_of_mem (f := fun e => Cond.fieldLink (cnS e.1) e.2.1 (sInf e.2.2).1 (sInf e.2.2).2.1 (sInf e.2.2).2.2) h)
def lsT : List (Nat × Nat × Nat) := lsT_0
theorem lsT_in : ∀ e ∈ lsT, (Cond.fieldLink (cnS e.1) e.2.1 (sInf e.2.2).1 (sInf e.2.2).2.1 (sInf e.2.2).2.2) ∈ lw_tbl := fun e h => lsT_in0 e h
def lnT_0 : List (Nat × Nat × Nat) := [(14, 8, 11), (11, 7, 7), (11, 16, 6), (11, 26, 4), (11, 36, 2), (11, 43, 1), (11, 53, 3), (11, 62, 5), (11, 72, 9), (11, 79, 0), (0, 9, 5), (0, 18, 9), (11, 86, 8), (11, 93, 10), (10, 9, 5), (14, 117, 12), (12, 26, 22)]
set_option maxRecDepth 100000 in
theorem lnT_ok0 : scn (List.zip [121, 7, 30, 42, 27, 33, 14, 14, 10, 13, 5, 2, 12, 15, 5, 1121, 5] (lnT_0.map (fun e => Cond.classLink (cnS e.1) e.2.1 (kNm e.2.2)))) lw_tbl = true := by decide +kernel
theorem lnT_in0 : ∀ e ∈ lnT_0, (Cond.classLink (cnS e.1) e.2.1 (kNm e.2.2)) ∈ lw_tbl := fun e h => scn_in lnT_ok0 (by decide +kernel) (List.mem_map_of_mem (f := fun e => Cond.classLink (cnS e.1) e.2.1 (kNm e.2.2)) h)
def lnT : List (Nat × Nat × Nat) := lnT_0
theorem lnT_in : ∀ e ∈ lnT, (Cond.classLink (cnS e.1) e.2.1 (kNm e.2.2)) ∈ lw_tbl := fun e h => lnT_in0 e h
def lcT_0 : List (Nat × Nat × Nat × Cond) := [(6, 62, 0, .stringRef "AlarmRule$Republic" 62 "sleeper clock near socks"), (4, 78, 1, .stringRef "AlarmRule$Law" 78 "loud near depth sock hour day awake spring sleeper least most"), (2, 54, 2, .stringRef "AlarmRule$Chores" 54 "set let wind sock move snooze hour again"), (18, 265, 3, .constant "java/lang/Integer" 265 1431655765), (18, 266, 4, .constant "java/lang/Integer" 266 858993459), (18, 267, 5, .constant "java/lang/Integer" 267 252645135), (18, 264, 6, .constant "java/lang/Integer" 264 65536), (11, 356, 7, .constantLong "AlarmRule" 356 2), (10, 71, 8, .constant "AlarmRule$Year" 71 1103515245), (12, 122, 9, .constant "AlarmRuleModel" 122 100000), (12, 382, 10, .constant "AlarmRuleModel" 382 1103515245)]
set_option maxRecDepth 100000 in
theorem lcT_ok0 : scn (List.zip [764, 169, 39, 134, 0, 0, 149, 111, 89, 251, 351] (lcT_0.map (fun e => e.2.2.2))) lw_tbl = true := by decide +kernel
theorem lcT_in0 : ∀ e ∈ lcT_0, (e.2.2.2) ∈ lw_tbl := fun e h => scn_in lcT_ok0 (by decide +kernel) (List.mem_map_of_mem (f := fun e => e.2.2.2) h)
def lcT : List (Nat × Nat × Nat × Cond) := lcT_0
theorem lcT_in : ∀ e ∈ lcT, (e.2.2.2) ∈ lw_tbl := fun e h => lcT_in0 e h
def hwT : List (Nat × List (Nat × Nat × Nat × Nat)) := [(330, [(0, 9, 12, 13)]), (331, [(0, 9, 12, 13)]), (332, [(0, 9, 12, 13)]), (333, [(0, 9, 12, 13)]), (334, [(0, 9, 12, 13)]), (335, [(0, 10, 13, 31), (0, 10, 17, 13)]), (336, [(0, 10, 13, 31), (0, 10, 17, 13)]), (337, [(0, 10, 13, 31)]), (338, [(0, 10, 13, 31)]), (339, [(0, 24, 27, 13)]), (340, [(0, 9, 12, 13)]), (341, [(0, 10, 13, 13)]), (342, [(0, 9, 12, 31)]), (343, [(0, 9, 12, 31)]), (344, [(0, 9, 12, 13)]), (345, [(0, 9, 12, 13)]), (346, [(0, 9, 12, 13)]), (347, [(0, 9, 12, 13)]), (348, [(0, 9, 12, 31)]), (349, [(0, 9, 12, 31)]), (350, [(0, 12, 15, 13)]), (351, [(0, 13, 16, 13)]), (352, [(0, 12, 15, 31), (0, 12, 19, 13)]), (353, [(0, 10, 13, 31), (0, 10, 17, 13)]), (354, [(0, 9, 12, 13)]), (355, [(0, 9, 12, 13)]), (356, [(0, 10, 13, 31), (0, 10, 17, 13)]), (357, [(0, 9, 12, 31)]), (358, [(0, 9, 12, 13)]), (359, [(0, 9, 12, 31)]), (360, [(0, 14, 17, 13)]), (361, [(0, 18, 21, 13)])]
def hwOf (M : Nat) : List (Nat × Nat × Nat × Nat) := if M < 330 then [] else ((hwT.find? (fun h => h.1 == M)).map (fun h => h.2)).getD []
def codeC (M : Nat) : Cond := if (hwOf M).isEmpty then .code (mNm M) (mCd M) (mMax M) (mRet M) else .codeWith (mNm M) (mCd M) (mMax M) (mRet M) (hwOf M)
def kindC (M : Nat) : Cond := if mKi M = 0 then .static (mNm M) else .instanceMethod (mNm M)
def selC (M : Nat) : Cond := .selects (mNm M).cls (mNm M) (mNm M)
def pick : List Nat → List Cond → List Cond
  | [], _ => []
  | k :: ks, t => match t.drop k with
    | [] => []
    | c :: r => c :: pick ks r
theorem pick_mem : ∀ (ks : List Nat) (t : List Cond) (c : Cond), c ∈ pick ks t → c ∈ t
  | [], _, _, h => nomatch h
  | k :: ks, t, c, h => by
    unfold pick at h
    cases hd : t.drop k with
    | nil => rw [hd] at h; cases h
    | cons a u =>
      rw [hd] at h
      have hsub : ∀ z, z ∈ a :: u → z ∈ t := fun z hz => List.mem_of_mem_drop (hd ▸ hz)
      rcases List.mem_cons.mp h with rfl | h
      · exact hsub _ List.mem_cons_self
      · exact hsub _ (List.mem_cons_of_mem _ (pick_mem ks u c h))
def mcT_0 : List Nat := [130, 89, 73, 26, 27, 13, 7, 22, 40, 116, 0, 105, 123, 41, 328, 71, 131, 90, 91, 186, 92, 136, 137, 118, 122, 145, 43, 62, 58, 48, 185, 60, 47, 159, 85, 55, 52, 24, 23, 44]
set_option maxRecDepth 100000 in
set_option maxHeartbeats 4000000 in
theorem mcT_pk0 : mcT_0.map codeC = pick [125, 7, 30, 42, 4, 22, 33, 14, 14, 10, 13, 21, 15, 21, 2, 4, 58, 3, 3, 2, 3, 3, 3, 3, 3, 5, 3, 3, 3, 3, 2, 3, 3, 3, 3, 3, 3, 4, 4, 4] lw_tbl := by rfl
theorem mcT_in0 : ∀ e ∈ mcT_0, codeC e ∈ lw_tbl := fun e h => pick_mem _ _ _ (mcT_pk0 ▸ List.mem_map_of_mem (f := codeC) h)
def mcT_1 : List Nat := [56, 37, 184, 84, 50, 82, 49, 36, 38, 39, 317, 316, 164, 86, 59, 167, 168, 171, 1, 5, 42, 120, 3, 172, 2, 6, 173, 174, 330, 132, 175, 181, 94, 75, 76, 97, 77, 101, 104, 318]
set_option maxRecDepth 100000 in
set_option maxHeartbeats 4000000 in
theorem mcT_pk1 : mcT_1.map codeC = pick [550, 3, 2, 3, 4, 3, 3, 4, 3, 4, 2, 2, 3, 3, 3, 3, 3, 3, 3, 3, 3, 3, 3, 3, 3, 3, 3, 3, 2, 4, 3, 3, 70, 4, 3, 4, 3, 4, 4, 3] lw_tbl := by rfl
theorem mcT_in1 : ∀ e ∈ mcT_1, codeC e ∈ lw_tbl := fun e h => pick_mem _ _ _ (mcT_pk1 ▸ List.mem_map_of_mem (f := codeC) h)
def mcT_2 : List Nat := [320, 319, 321, 323, 322, 329, 326, 327, 325, 324, 102, 95, 96, 78, 79, 100, 103, 182, 80, 81, 98, 74, 177, 8, 119, 4, 176, 93, 331, 133, 29, 30, 31, 32, 35, 33, 34, 99, 28, 332]
set_option maxRecDepth 100000 in
set_option maxHeartbeats 4000000 in
theorem mcT_pk2 : mcT_2.map codeC = pick [781, 5, 3, 2, 2, 4, 2, 2, 2, 3, 9, 3, 3, 3, 5, 3, 2, 2, 4, 3, 3, 4, 4, 4, 3, 3, 3, 3, 2, 3, 3, 3, 3, 3, 6, 3, 7, 4, 3, 2] lw_tbl := by rfl
theorem mcT_in2 : ∀ e ∈ mcT_2, codeC e ∈ lw_tbl := fun e h => pick_mem _ _ _ (mcT_pk2 ▸ List.mem_map_of_mem (f := codeC) h)
def mcT_3 : List Nat := [134, 117, 14, 15, 16, 18, 17, 121, 19, 20, 21, 64, 72, 66, 67, 46, 65, 68, 53, 45, 25, 70, 57, 51, 54, 69, 333, 135, 11, 12, 9, 10, 315, 334, 138, 61, 63, 335, 139, 179]
set_option maxRecDepth 100000 in
set_option maxHeartbeats 4000000 in
theorem mcT_pk3 : mcT_3.map codeC = pick [955, 3, 3, 3, 5, 7, 5, 3, 4, 3, 6, 3, 3, 4, 4, 4, 3, 3, 3, 3, 5, 4, 3, 3, 3, 4, 3, 3, 3, 5, 8, 3, 2, 5, 3, 5, 4, 2, 4, 3] lw_tbl := by rfl
theorem mcT_in3 : ∀ e ∈ mcT_3, codeC e ∈ lw_tbl := fun e h => pick_mem _ _ _ (mcT_pk3 ▸ List.mem_map_of_mem (f := codeC) h)
def mcT_4 : List Nat := [83, 336, 140, 180, 337, 141, 338, 142, 339, 143, 340, 144, 183, 341, 146, 342, 147, 343, 148, 106, 108, 109, 314, 110, 112, 111, 344, 149, 345, 150, 107, 346, 151, 113, 114, 115, 347, 152, 178, 348]
set_option maxRecDepth 100000 in
set_option maxHeartbeats 4000000 in
theorem mcT_pk4 : mcT_4.map codeC = pick [1163, 5, 3, 3, 7, 3, 3, 3, 3, 3, 5, 3, 2, 2, 3, 4, 3, 3, 3, 3, 4, 4, 3, 6, 4, 3, 3, 3, 2, 3, 3, 3, 3, 3, 3, 3, 3, 3, 3, 3] lw_tbl := by rfl
theorem mcT_in4 : ∀ e ∈ mcT_4, codeC e ∈ lw_tbl := fun e h => pick_mem _ _ _ (mcT_pk4 ▸ List.mem_map_of_mem (f := codeC) h)
def mcT_5 : List Nat := [153, 87, 349, 154, 350, 155, 188, 187, 351, 156, 189, 352, 157, 88, 353, 158, 354, 160, 355, 161, 356, 162, 357, 163, 358, 165, 359, 166, 360, 169, 124, 125, 126, 127, 129, 128, 361, 170, 190, 191]
set_option maxRecDepth 100000 in
set_option maxHeartbeats 4000000 in
theorem mcT_pk5 : mcT_5.map codeC = pick [1335, 3, 4, 3, 3, 3, 2, 2, 2, 3, 2, 3, 3, 3, 4, 3, 2, 3, 2, 3, 4, 3, 3, 3, 2, 3, 2, 3, 2, 3, 3, 4, 3, 3, 9, 3, 3, 3, 5, 6] lw_tbl := by rfl
theorem mcT_in5 : ∀ e ∈ mcT_5, codeC e ∈ lw_tbl := fun e h => pick_mem _ _ _ (mcT_pk5 ▸ List.mem_map_of_mem (f := codeC) h)
def mcT_6 : List Nat := [222, 220, 192, 198, 219, 194, 193, 212, 200, 199, 218, 216, 215, 206, 214, 203, 207, 205, 201, 217, 208, 204, 202, 210, 213, 230, 225, 226, 229, 224, 223, 228, 209, 227, 211, 235, 197, 236, 252, 234]
set_option maxRecDepth 100000 in
set_option maxHeartbeats 4000000 in
theorem mcT_pk6 : mcT_6.map codeC = pick [1501, 2, 134, 3, 3, 2, 3, 3, 3, 3, 3, 3, 3, 2, 3, 2, 3, 3, 3, 2, 3, 3, 2, 4, 3, 3, 3, 3, 3, 3, 3, 3, 3, 3, 3, 3, 2, 3, 3, 3] lw_tbl := by rfl
theorem mcT_in6 : ∀ e ∈ mcT_6, codeC e ∈ lw_tbl := fun e h => pick_mem _ _ _ (mcT_pk6 ▸ List.mem_map_of_mem (f := codeC) h)
def mcT_7 : List Nat := [233, 221, 251, 250, 247, 248, 195, 249, 246, 244, 242, 241, 240, 239, 238, 237, 232, 231, 196, 245, 253, 256, 255, 254, 260, 257, 261, 258, 262, 263, 264, 259, 267, 266, 265, 243, 268, 269, 270, 273]
set_option maxRecDepth 100000 in
set_option maxHeartbeats 4000000 in
theorem mcT_pk7 : mcT_7.map codeC = pick [1786, 2, 3, 3, 2, 2, 2, 2, 3, 3, 3, 3, 3, 3, 2, 3, 3, 2, 2, 3, 3, 3, 3, 3, 3, 3, 3, 3, 3, 3, 3, 2, 3, 3, 3, 3, 3, 3, 3, 3] lw_tbl := by rfl
theorem mcT_in7 : ∀ e ∈ mcT_7, codeC e ∈ lw_tbl := fun e h => pick_mem _ _ _ (mcT_pk7 ▸ List.mem_map_of_mem (f := codeC) h)
def mcT_8 : List Nat := [272, 271, 275, 274, 276, 278, 277, 280, 279, 283, 282, 281, 284, 285, 288, 287, 286, 289, 291, 290, 292, 293, 294, 295, 296, 297, 298, 299, 300, 301, 306, 305, 303, 302, 304, 307, 310, 309, 308, 311]
set_option maxRecDepth 100000 in
set_option maxHeartbeats 4000000 in
theorem mcT_pk8 : mcT_8.map codeC = pick [1937, 3, 3, 3, 3, 3, 3, 3, 3, 3, 3, 3, 3, 3, 3, 2, 2, 3, 3, 3, 3, 3, 3, 3, 3, 3, 3, 3, 3, 3, 3, 2, 3, 3, 4, 3, 3, 3, 3, 3] lw_tbl := by rfl
theorem mcT_in8 : ∀ e ∈ mcT_8, codeC e ∈ lw_tbl := fun e h => pick_mem _ _ _ (mcT_pk8 ▸ List.mem_map_of_mem (f := codeC) h)
def mcT_9 : List Nat := [312, 313]
set_option maxRecDepth 100000 in
set_option maxHeartbeats 4000000 in
theorem mcT_pk9 : mcT_9.map codeC = pick [2095, 3] lw_tbl := by rfl
theorem mcT_in9 : ∀ e ∈ mcT_9, codeC e ∈ lw_tbl := fun e h => pick_mem _ _ _ (mcT_pk9 ▸ List.mem_map_of_mem (f := codeC) h)
def mcT : List Nat := mcT_0 ++ (mcT_1 ++ (mcT_2 ++ (mcT_3 ++ (mcT_4 ++ (mcT_5 ++ (mcT_6 ++ (mcT_7 ++ (mcT_8 ++ (mcT_9)))))))))
theorem mcT_in : ∀ e ∈ mcT, codeC e ∈ lw_tbl := fun e h => (List.mem_append.mp h).elim (fun h => mcT_in0 e h) (fun h => (List.mem_append.mp h).elim (fun h => mcT_in1 e h) (fun h => (List.mem_append.mp h).elim (fun h => mcT_in2 e h) (fun h => (List.mem_append.mp h).elim (fun h => mcT_in3 e h) (fun h => (List.mem_append.mp h).elim (fun h => mcT_in4 e h) (fun h => (List.mem_append.mp h).elim (fun h => mcT_in5 e h) (fun h => (List.mem_append.mp h).elim (fun h => mcT_in6 e h) (fun h => (List.mem_append.mp h).elim (fun h => mcT_in7 e h) (fun h => (List.mem_append.mp h).elim (fun h => mcT_in8 e h) (fun h => mcT_in9 e h)))))))))
def mkT_0 : List (Nat) := [130, 89, 73, 26, 27, 13, 7, 22, 40, 116, 0, 105, 123, 41, 328, 71, 131, 90, 91, 186, 92, 136, 137, 118, 122, 145, 43, 62, 58, 48, 185, 60, 47, 159, 85, 55, 52, 24, 23, 44, 56, 37, 184, 84, 50, 82, 49, 36, 38, 39, 317, 316, 164, 86, 59, 167, 168, 171, 1, 5]
set_option maxRecDepth 100000 in
theorem mkT_ok0 : scn (List.zip [124, 7, 30, 42, 3, 23, 33, 14, 14, 10, 13, 21, 15, 20, 3, 4, 57, 3, 3, 3, 2, 3, 3, 3, 3, 5, 3, 3, 3, 3, 3, 2, 3, 3, 3, 3, 3, 4, 4, 4, 3, 3, 3, 2, 4, 3, 3, 4, 3, 5, 2, 2, 2, 3, 3, 3, 3, 3, 3, 3] (mkT_0.map (fun e => kindC e))) lw_tbl = true := by decide +kernel
theorem mkT_in0 : ∀ e ∈ mkT_0, (kindC e) ∈ lw_tbl := fun e h => scn_in mkT_ok0 (by decide +kernel) (List.mem_map_of_mem (f := fun e => kindC e) h)
def mkT_1 : List (Nat) := [42, 120, 3, 172, 2, 6, 173, 174, 330, 132, 175, 181, 94, 75, 76, 97, 77, 101, 104, 318, 320, 319, 321, 323, 322, 329, 326, 327, 325, 324, 102, 95, 96, 78, 79, 100, 103, 182, 80, 81, 98, 74, 177, 8, 119, 4, 176, 93, 331, 133, 29, 30, 31, 32, 35, 33, 34, 99, 28, 332]
set_option maxRecDepth 100000 in
theorem mkT_ok1 : scn (List.zip [628, 3, 3, 3, 3, 3, 3, 3, 3, 3, 4, 3, 69, 4, 4, 3, 4, 3, 5, 2, 3, 5, 3, 3, 2, 4, 2, 2, 2, 3, 9, 2, 3, 4, 5, 2, 3, 2, 4, 3, 2, 4, 5, 3, 3, 3, 4, 2, 3, 2, 3, 4, 3, 3, 6, 3, 7, 3, 3, 3] (mkT_1.map (fun e => kindC e))) lw_tbl = true := by decide +kernel
theorem mkT_in1 : ∀ e ∈ mkT_1, (kindC e) ∈ lw_tbl := fun e h => scn_in mkT_ok1 (by decide +kernel) (List.mem_map_of_mem (f := fun e => kindC e) h)
def mkT_2 : List (Nat) := [134, 117, 14, 15, 16, 18, 17, 121, 19, 20, 21, 64, 72, 66, 67, 46, 65, 68, 53, 45, 25, 70, 57, 51, 54, 69, 333, 135, 11, 12, 9, 10, 315, 334, 138, 61, 63, 335, 139, 179, 83, 336, 140, 180, 337, 141, 338, 142, 339, 143, 340, 144, 183, 341, 146, 342, 147, 343, 148, 106]
set_option maxRecDepth 100000 in
theorem mkT_ok2 : scn (List.zip [953, 3, 3, 4, 5, 7, 5, 2, 4, 3, 7, 2, 4, 3, 4, 4, 3, 3, 3, 3, 5, 4, 3, 3, 3, 4, 4, 2, 3, 6, 7, 3, 3, 5, 2, 5, 4, 3, 3, 4, 20, 6, 2, 4, 7, 2, 4, 2, 4, 2, 6, 2, 3, 2, 2, 5, 2, 4, 2, 3] (mkT_2.map (fun e => kindC e))) lw_tbl = true := by decide +kernel
theorem mkT_in2 : ∀ e ∈ mkT_2, (kindC e) ∈ lw_tbl := fun e h => scn_in mkT_ok2 (by decide +kernel) (List.mem_map_of_mem (f := fun e => kindC e) h)
def mkT_3 : List (Nat) := [108, 109, 314, 110, 112, 111, 344, 149, 345, 150, 107, 346, 151, 113, 114, 115, 347, 152, 178, 348, 153, 87, 349, 154, 350, 155, 188, 187, 351, 156, 189, 352, 157, 88, 353, 158, 354, 160, 355, 161, 356, 162, 357, 163, 358, 165, 359, 166, 360, 169, 124, 125, 126, 127, 129, 128, 361, 170, 190, 191]
set_option maxRecDepth 100000 in
theorem mkT_ok3 : scn (List.zip [1250, 4, 3, 6, 3, 4, 3, 2, 3, 2, 3, 4, 2, 3, 3, 3, 4, 2, 4, 3, 2, 3, 5, 2, 4, 2, 3, 2, 2, 2, 3, 3, 2, 3, 5, 2, 3, 2, 3, 2, 5, 2, 4, 2, 3, 2, 3, 2, 3, 2, 3, 4, 4, 3, 8, 3, 4, 2, 6, 6] (mkT_3.map (fun e => kindC e))) lw_tbl = true := by decide +kernel
theorem mkT_in3 : ∀ e ∈ mkT_3, (kindC e) ∈ lw_tbl := fun e h => scn_in mkT_ok3 (by decide +kernel) (List.mem_map_of_mem (f := fun e => kindC e) h)
def mkT_4 : List (Nat) := [222, 220, 192, 198, 219, 194, 193, 212, 200, 199, 218, 216, 215, 206, 214, 203, 207, 205, 201, 217, 208, 204, 202, 210, 213, 230, 225, 226, 229, 224, 223, 228, 209, 227, 211, 235, 197, 236, 252, 234, 233, 221, 251, 250, 247, 248, 195, 249, 246, 244, 242, 241, 240, 239, 238, 237, 232, 231, 196, 245]
set_option maxRecDepth 100000 in
theorem mkT_ok4 : scn (List.zip [1500, 2, 133, 3, 3, 3, 3, 3, 3, 3, 3, 3, 3, 2, 3, 2, 3, 3, 3, 2, 3, 3, 2, 4, 3, 2, 4, 3, 3, 3, 3, 3, 3, 3, 3, 2, 3, 2, 3, 4, 3, 2, 3, 3, 2, 2, 2, 2, 3, 3, 3, 3, 3, 3, 2, 3, 3, 2, 2, 3] (mkT_4.map (fun e => kindC e))) lw_tbl = true := by decide +kernel
theorem mkT_in4 : ∀ e ∈ mkT_4, (kindC e) ∈ lw_tbl := fun e h => scn_in mkT_ok4 (by decide +kernel) (List.mem_map_of_mem (f := fun e => kindC e) h)
def mkT_5 : List (Nat) := [253, 256, 255, 254, 260, 257, 261, 258, 262, 263, 264, 259, 267, 266, 265, 243, 268, 269, 270, 273, 272, 271, 275, 274, 276, 278, 277, 280, 279, 283, 282, 281, 284, 285, 288, 287, 286, 289, 291, 290, 292, 293, 294, 295, 296, 297, 298, 299, 300, 301, 306, 305, 303, 302, 304, 307, 310, 309, 308, 311]
set_option maxRecDepth 100000 in
theorem mkT_ok5 : scn (List.zip [1856, 3, 4, 3, 2, 4, 2, 4, 2, 3, 3, 3, 2, 4, 3, 3, 2, 3, 3, 3, 4, 3, 2, 4, 2, 3, 4, 2, 4, 2, 4, 3, 2, 3, 3, 3, 2, 2, 3, 4, 2, 3, 3, 3, 3, 3, 3, 3, 3, 3, 3, 3, 3, 3, 4, 2, 3, 4, 3, 2] (mkT_5.map (fun e => kindC e))) lw_tbl = true := by decide +kernel
theorem mkT_in5 : ∀ e ∈ mkT_5, (kindC e) ∈ lw_tbl := fun e h => scn_in mkT_ok5 (by decide +kernel) (List.mem_map_of_mem (f := fun e => kindC e) h)
def mkT_6 : List (Nat) := [312, 313]
set_option maxRecDepth 100000 in
theorem mkT_ok6 : scn (List.zip [2093, 3] (mkT_6.map (fun e => kindC e))) lw_tbl = true := by decide +kernel
theorem mkT_in6 : ∀ e ∈ mkT_6, (kindC e) ∈ lw_tbl := fun e h => scn_in mkT_ok6 (by decide +kernel) (List.mem_map_of_mem (f := fun e => kindC e) h)
def mkT : List (Nat) := mkT_0 ++ (mkT_1 ++ (mkT_2 ++ (mkT_3 ++ (mkT_4 ++ (mkT_5 ++ (mkT_6))))))
theorem mkT_in : ∀ e ∈ mkT, (kindC e) ∈ lw_tbl := fun e h => (List.mem_append.mp h).elim (fun h => mkT_in0 e h) (fun h => (List.mem_append.mp h).elim (fun h => mkT_in1 e h) (fun h => (List.mem_append.mp h).elim (fun h => mkT_in2 e h) (fun h => (List.mem_append.mp h).elim (fun h => mkT_in3 e h) (fun h => (List.mem_append.mp h).elim (fun h => mkT_in4 e h) (fun h => (List.mem_append.mp h).elim (fun h => mkT_in5 e h) (fun h => mkT_in6 e h))))))
def msT_0 : List (Nat) := [71, 175, 181, 76, 77, 102, 78, 79, 80, 81, 177, 176, 30, 31, 32, 35, 33, 34, 15, 16, 18, 17, 21, 72, 12, 179, 180, 108, 109, 110, 111, 178, 126, 127, 191, 222, 193, 212, 200, 199, 218, 216, 215, 214, 207, 205, 201, 208, 204, 210, 213, 225, 226, 229, 224, 223, 228, 209, 227, 211]
set_option maxRecDepth 100000 in
theorem msT_ok0 : scn (List.zip [0, 0, 0, 1, 0, 0, 0, 0, 0, 0, 0, 0, 0, 0, 0, 0, 0, 0, 0, 0, 0, 0, 0, 0, 0, 0, 0, 0, 0, 0, 0, 0, 0, 0, 0, 0, 0, 0, 0, 0, 0, 0, 0, 0, 0, 0, 0, 0, 0, 0, 0, 0, 0, 0, 0, 0, 0, 0, 0, 0] (msT_0.map (fun e => selC e))) lw_tbl = true := by decide +kernel
theorem msT_in0 : ∀ e ∈ msT_0, (selC e) ∈ lw_tbl := fun e h => scn_in msT_ok0 (by decide +kernel) (List.mem_map_of_mem (f := fun e => selC e) h)
def msT_1 : List (Nat) := [234, 233, 251, 250, 246, 244, 242, 241, 240, 239, 237, 232, 245, 255, 254, 257, 258, 266, 265, 243, 272, 271, 274, 277, 279, 282, 281, 290, 303, 302, 304, 309, 308, 27, 41, 131, 90, 91, 92, 136, 137, 118, 122, 145, 43, 62, 58, 48, 60, 47, 159, 85, 55, 52, 24, 23, 44, 56, 37, 84]
set_option maxRecDepth 100000 in
theorem msT_ok1 : scn (List.zip [61, 0, 0, 0, 0, 0, 0, 0, 0, 0, 0, 0, 0, 0, 0, 0, 0, 0, 0, 0, 0, 0, 0, 0, 0, 0, 0, 0, 0, 0, 0, 0, 0, 117, 171, 66, 3, 3, 6, 3, 3, 3, 3, 5, 3, 3, 3, 3, 6, 3, 3, 3, 3, 3, 4, 4, 4, 3, 3, 6] (msT_1.map (fun e => selC e))) lw_tbl = true := by decide +kernel
theorem msT_in1 : ∀ e ∈ msT_1, (selC e) ∈ lw_tbl := fun e h => scn_in msT_ok1 (by decide +kernel) (List.mem_map_of_mem (f := fun e => selC e) h)
def msT_2 : List (Nat) := [50, 82, 49, 36, 38, 164, 86, 59, 167, 168, 171, 1, 5, 42, 120, 3, 172, 2, 6, 173, 174, 132, 94, 75, 97, 101, 318, 320, 319, 321, 95, 96, 100, 98, 74, 8, 119, 4, 93, 133, 29, 99, 28, 134, 117, 14, 121, 19, 20, 64, 66, 67, 46, 65, 68, 53, 45, 25, 70, 57]
set_option maxRecDepth 100000 in
theorem msT_ok2 : scn (List.zip [565, 3, 3, 4, 3, 14, 3, 3, 3, 3, 3, 3, 3, 3, 3, 3, 3, 3, 3, 3, 3, 7, 78, 4, 8, 8, 8, 3, 5, 3, 37, 3, 13, 18, 4, 9, 3, 3, 7, 6, 3, 35, 3, 6, 3, 3, 27, 4, 3, 10, 8, 4, 4, 3, 3, 3, 3, 5, 4, 3] (msT_2.map (fun e => selC e))) lw_tbl = true := by decide +kernel
theorem msT_in2 : ∀ e ∈ msT_2, (selC e) ∈ lw_tbl := fun e h => scn_in msT_ok2 (by decide +kernel) (List.mem_map_of_mem (f := fun e => selC e) h)
def msT_3 : List (Nat) := [51, 54, 69, 135, 11, 9, 10, 138, 61, 63, 139, 83, 140, 141, 142, 143, 144, 146, 147, 148, 106, 112, 149, 150, 107, 151, 113, 114, 115, 152, 153, 87, 154, 155, 156, 157, 88, 158, 160, 161, 162, 163, 165, 166, 169, 124, 125, 129, 128, 170, 192, 198, 219, 230, 235, 236, 252, 253, 256, 260]
set_option maxRecDepth 100000 in
theorem msT_ok3 : scn (List.zip [1064, 3, 4, 7, 3, 14, 3, 12, 5, 4, 7, 25, 9, 15, 7, 7, 9, 9, 8, 7, 3, 25, 11, 6, 3, 7, 3, 3, 3, 7, 11, 3, 8, 7, 12, 10, 3, 8, 6, 6, 8, 7, 6, 6, 6, 3, 4, 17, 3, 7, 154, 3, 3, 79, 39, 6, 3, 79, 3, 11] (msT_3.map (fun e => selC e))) lw_tbl = true := by decide +kernel
theorem msT_in3 : ∀ e ∈ msT_3, (selC e) ∈ lw_tbl := fun e h => scn_in msT_ok3 (by decide +kernel) (List.mem_map_of_mem (f := fun e => selC e) h)
def msT_4 : List (Nat) := [261, 262, 263, 264, 267, 268, 269, 270, 273, 275, 276, 278, 280, 283, 284, 285, 288, 289, 291, 292, 293, 294, 295, 296, 297, 298, 299, 300, 301, 306, 307, 310, 311, 312, 313]
set_option maxRecDepth 100000 in
theorem msT_ok4 : scn (List.zip [1881, 7, 3, 3, 6, 15, 3, 3, 3, 11, 7, 3, 7, 7, 11, 3, 3, 9, 3, 7, 3, 3, 3, 3, 3, 3, 3, 3, 3, 3, 19, 3, 11, 3, 3] (msT_4.map (fun e => selC e))) lw_tbl = true := by decide +kernel
theorem msT_in4 : ∀ e ∈ msT_4, (selC e) ∈ lw_tbl := fun e h => scn_in msT_ok4 (by decide +kernel) (List.mem_map_of_mem (f := fun e => selC e) h)
def msT : List (Nat) := msT_0 ++ (msT_1 ++ (msT_2 ++ (msT_3 ++ (msT_4))))
theorem msT_in : ∀ e ∈ msT, (selC e) ∈ lw_tbl := fun e h => (List.mem_append.mp h).elim (fun h => msT_in0 e h) (fun h => (List.mem_append.mp h).elim (fun h => msT_in1 e h) (fun h => (List.mem_append.mp h).elim (fun h => msT_in2 e h) (fun h => (List.mem_append.mp h).elim (fun h => msT_in3 e h) (fun h => msT_in4 e h))))
def miT_0 : List (Nat) := [14, 11, 7, 6, 4, 2, 1, 3, 5, 9, 0, 8, 10, 17, 12, 19, 13, 15, 20, 16, 18]
set_option maxRecDepth 100000 in
theorem miT_ok0 : scn (List.zip [94, 0, 0, 0, 0, 1, 0, 0, 0, 0, 0, 0, 0, 0, 0, 4, 0, 0, 0, 0, 0] (miT_0.map (fun e => Cond.initialized (cnS e)))) lw_tbl = true := by decide +kernel
theorem miT_in0 : ∀ e ∈ miT_0, (Cond.initialized (cnS e)) ∈ lw_tbl := fun e h => scn_in miT_ok0 (by decide +kernel) (List.mem_map_of_mem (f := fun e => Cond.initialized (cnS e)) h)
def miT : List (Nat) := miT_0
theorem miT_in : ∀ e ∈ miT, (Cond.initialized (cnS e)) ∈ lw_tbl := fun e h => miT_in0 e h
def lyC (ci k : Nat) : Cond := match vwCl[ci]? with
  | some r => u_lay r.1 r.2.1 k
  | none => Cond.tt
def lyT_0 : List (Nat × Nat) := [(7, 0), (7, 1), (7, 2), (7, 3), (7, 4), (7, 5), (7, 6), (6, 0), (6, 1), (6, 2), (6, 3), (6, 4), (6, 5), (6, 6), (6, 7), (4, 0), (4, 1), (4, 2), (4, 3), (2, 0), (2, 1), (2, 2), (2, 3), (2, 4), (2, 5), (2, 6), (2, 7), (1, 0), (1, 1), (3, 0), (3, 1), (5, 0), (9, 0), (9, 1), (0, 0), (0, 1), (0, 2), (8, 0), (8, 1), (8, 2), (10, 0), (10, 1), (10, 2), (10, 3), (11, 0), (11, 1), (11, 2), (11, 3), (11, 4), (11, 5), (11, 6), (11, 7), (11, 8), (11, 9), (11, 10), (11, 11), (11, 12), (11, 13), (11, 14), (11, 15)]
set_option maxRecDepth 100000 in
theorem lyT_ok0 : scn (List.zip [144, 1, 1, 1, 1, 1, 1, 29, 1, 1, 1, 1, 1, 1, 1, 21, 1, 1, 1, 19, 1, 1, 1, 1, 1, 1, 1, 12, 1, 12, 1, 10, 11, 1, 17, 1, 1, 11, 1, 1, 16, 1, 1, 1, 32, 1, 1, 1, 1, 1, 1, 1, 1, 1, 1, 1, 1, 1, 1, 1] (lyT_0.map (fun e => lyC e.1 e.2))) lw_tbl = true := by decide +kernel
theorem lyT_in0 : ∀ e ∈ lyT_0, (lyC e.1 e.2) ∈ lw_tbl := fun e h => scn_in lyT_ok0 (by decide +kernel) (List.mem_map_of_mem (f := fun e => lyC e.1 e.2) h)
def lyT_1 : List (Nat × Nat) := [(11, 16), (11, 17), (12, 0), (12, 1), (12, 2), (12, 3), (12, 4), (12, 5), (12, 6), (12, 7), (12, 8), (12, 9), (12, 10), (12, 11), (12, 12), (12, 13), (12, 14), (12, 15), (12, 16), (12, 17), (12, 18), (12, 19), (12, 20), (12, 21), (12, 22), (12, 23), (12, 24), (12, 25), (12, 26), (12, 27), (12, 28), (12, 29), (12, 30), (12, 31), (12, 32), (12, 33), (12, 34), (12, 35), (12, 36), (12, 37), (12, 38), (12, 39), (12, 40), (12, 41), (12, 42)]
set_option maxRecDepth 100000 in
theorem lyT_ok1 : scn (List.zip [443, 1, 1102, 1, 1, 1, 1, 1, 1, 1, 1, 1, 1, 1, 1, 1, 1, 1, 1, 1, 1, 1, 1, 1, 1, 1, 1, 1, 1, 1, 1, 1, 1, 1, 1, 1, 1, 1, 1, 1, 1, 1, 1, 1, 1] (lyT_1.map (fun e => lyC e.1 e.2))) lw_tbl = true := by decide +kernel
theorem lyT_in1 : ∀ e ∈ lyT_1, (lyC e.1 e.2) ∈ lw_tbl := fun e h => scn_in lyT_ok1 (by decide +kernel) (List.mem_map_of_mem (f := fun e => lyC e.1 e.2) h)
def lyT : List (Nat × Nat) := lyT_0 ++ (lyT_1)
theorem lyT_in : ∀ e ∈ lyT, (lyC e.1 e.2) ∈ lw_tbl := fun e h => (List.mem_append.mp h).elim (fun h => lyT_in0 e h) (fun h => lyT_in1 e h)
def inC (ci : Nat) : Cond := match vwCl[ci]? with
  | some r => Cond.instantiable r.1 r.2.2
  | none => Cond.tt
def inT_0 : List (Nat) := [11, 7, 6, 4, 2, 1, 3, 5, 9, 0, 8, 10, 12]
set_option maxRecDepth 100000 in
theorem inT_ok0 : scn (List.zip [122, 7, 30, 42, 27, 33, 14, 14, 10, 13, 21, 15, 1127] (inT_0.map (fun e => inC e))) lw_tbl = true := by decide +kernel
theorem inT_in0 : ∀ e ∈ inT_0, (inC e) ∈ lw_tbl := fun e h => scn_in inT_ok0 (by decide +kernel) (List.mem_map_of_mem (f := fun e => inC e) h)
def inT : List (Nat) := inT_0
theorem inT_in : ∀ e ∈ inT, (inC e) ∈ lw_tbl := fun e h => inT_in0 e h
def xxT_0 : List (Cond) := [.initialized "java/lang/System", .initialized "java/lang/IllegalArgumentException", .initialized "java/util/NoSuchElementException", .instanceMethod objectInit, .arrayClass .int, .static arraycopyName, .native arraycopyName, .classLink "AlarmRuleLaw" 13 "java/lang/IllegalArgumentException", .classLink "AlarmRule" 433 "java/lang/IllegalArgumentException", .castable "java/lang/IllegalArgumentException" "java/lang/IllegalArgumentException", .arrayClass .byte, .classLink "AlarmRuleLaw" 31 "java/util/NoSuchElementException", .classLink "AlarmRule" 424 "java/util/NoSuchElementException", .castable "java/util/NoSuchElementException" "java/util/NoSuchElementException", .arrayClass .long]
set_option maxRecDepth 100000 in
theorem xxT_ok0 : scn (List.zip [99, 13, 6, 6, 31, 56, 0, 444, 12, 1, 63, 391, 9, 1, 489] (xxT_0.map (fun e => e))) lw_tbl = true := by decide +kernel
theorem xxT_in0 : ∀ e ∈ xxT_0, (e) ∈ lw_tbl := fun e h => scn_in xxT_ok0 (by decide +kernel) (List.mem_map_of_mem (f := fun e => e) h)
def xxT : List (Cond) := xxT_0
theorem xxT_in : ∀ e ∈ xxT, (e) ∈ lw_tbl := fun e h => xxT_in0 e h
