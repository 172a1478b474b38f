/-! SHAPES -/
def ushr (a b : Int32) : Int32 := (a.toUInt32 >>> (b.toUInt32 &&& Int32.toUInt32 31)).toInt32
def irm (a b : Int32) : Int32 := a - a / b * b
def K1 (c : Nat) : Prop := c = 37 ∨ c = 38
def K4 (c : Nat) : Prop := c = 24 ∨ c = 28
def K5 (c : Nat) : Prop := c = 40 ∨ c = 42 ∨ c = 48 ∨ c = 50 ∨ c = 52 ∨ c = 66 ∨ c = 68
def K6 (c : Nat) : Prop := c = 12 ∨ c = 18
def K9 (c : Nat) : Prop := c = 44 ∨ c = 55 ∨ c = 57 ∨ c = 59
def K13 (c : Nat) : Prop := c = 0 ∨ c = 1 ∨ c = 2
section Shp
variable {n c : Nat}
theorem shK1 (h : K1 c) : sh0 n c = (1, 2, [.int 0, .int 0]) := by rcases h with rfl | rfl <;> rfl
theorem shK4 (h : K4 c) : sh0 n c = (4, 4, [.ref (c + 1), .ref (c + 2), .ref (c + 3), .int 0]) := by rcases h with rfl | rfl <;> rfl
theorem shK5 (h : K5 c) : sh0 n c = (5, 1, [.ref (c + 1)]) := by rcases h with rfl | rfl | rfl | rfl | rfl | rfl | rfl <;> rfl
theorem shK6 (h : K6 c) : sh0 n c = (6, 8, [.ref (c + 1), .ref (c + 2), .ref (c + 3), .ref (c + 4), .ref (c + 5), .int 0, .int 0, .int 0]) := by rcases h with rfl | rfl <;> rfl
theorem shK9 (h : K9 c) : sh0 n c = (9, 2, [.ref (c + 1), .int 0]) := by rcases h with rfl | rfl | rfl | rfl <;> rfl
theorem shK13 (h : K13 c) : sh0 n c = (13, 2, [.ref (c + 3), .int 0]) := by rcases h with rfl | rfl | rfl <;> rfl
theorem ltK1 (h : K1 c) : c < 560 := by rcases h with rfl | rfl <;> decide
theorem ltK4 (h : K4 c) : c < 560 := by rcases h with rfl | rfl <;> decide
theorem ltK5 (h : K5 c) : c < 560 := by rcases h with rfl | rfl | rfl | rfl | rfl | rfl | rfl <;> decide
theorem ltK6 (h : K6 c) : c < 560 := by rcases h with rfl | rfl <;> decide
theorem ltK9 (h : K9 c) : c < 560 := by rcases h with rfl | rfl | rfl | rfl <;> decide
theorem ltK13 (h : K13 c) : c < 560 := by rcases h with rfl | rfl | rfl <;> decide
theorem geK1 (h : K1 c) : 9 ≤ c := by rcases h with rfl | rfl <;> decide
theorem geK4 (h : K4 c) : 9 ≤ c := by rcases h with rfl | rfl <;> decide
theorem geK5 (h : K5 c) : 9 ≤ c := by rcases h with rfl | rfl | rfl | rfl | rfl | rfl | rfl <;> decide
theorem geK6 (h : K6 c) : 9 ≤ c := by rcases h with rfl | rfl <;> decide
theorem geK9 (h : K9 c) : 9 ≤ c := by rcases h with rfl | rfl | rfl | rfl <;> decide
/-- the arrays behind them -/
theorem sh5a (h : K5 c) : sh0 n (c + 1) = (20, 84, []) := by rcases h with rfl | rfl | rfl | rfl | rfl | rfl | rfl <;> rfl
theorem lt5a (h : K5 c) : c + 1 < 560 := by rcases h with rfl | rfl | rfl | rfl | rfl | rfl | rfl <;> decide
theorem ge5a (h : K5 c) : 9 ≤ c + 1 := by rcases h with rfl | rfl | rfl | rfl | rfl | rfl | rfl <;> decide
theorem sh4a (h : K4 c) : sh0 n (c + 1) = (20, 150, []) := by rcases h with rfl | rfl <;> rfl
theorem sh4b (h : K4 c) : sh0 n (c + 2) = (20, 150, []) := by rcases h with rfl | rfl <;> rfl
theorem sh4c (h : K4 c) : sh0 n (c + 3) = (20, 9, []) := by rcases h with rfl | rfl <;> rfl
theorem sh6a (h : K6 c) : sh0 n (c + 1) = (20, 7, []) := by rcases h with rfl | rfl <;> rfl
theorem sh6b (h : K6 c) : sh0 n (c + 2) = (20, 7, []) := by rcases h with rfl | rfl <;> rfl
theorem sh6c (h : K6 c) : sh0 n (c + 3) = (20, 6, []) := by rcases h with rfl | rfl <;> rfl
theorem sh6d (h : K6 c) : sh0 n (c + 4) = (20, 6, []) := by rcases h with rfl | rfl <;> rfl
theorem sh6e (h : K6 c) : sh0 n (c + 5) = (20, 42, []) := by rcases h with rfl | rfl <;> rfl
theorem sh9a (h : K9 c) : sh0 n (c + 1) = (20, 1344, []) := by rcases h with rfl | rfl | rfl | rfl <;> rfl
theorem sh13a (h : K13 c) : sh0 n (c + 3) = (25, sLen.getD c 0, []) := by rcases h with rfl | rfl | rfl <;> rfl
end Shp
theorem sh0_not7 {n c : Nat} (h : c ≠ 7) : sh0 n c = sh0 0 c := by
  unfold sh0
  rw [List.getD_eq_getElem?_getD, List.getD_eq_getElem?_getD]
  congr 1
  by_cases h1 : c < 7
  · match c, h1 with
    | 0, _ => rfl
    | 1, _ => rfl
    | 2, _ => rfl
    | 3, _ => rfl
    | 4, _ => rfl
    | 5, _ => rfl
    | 6, _ => rfl
  · obtain ⟨k, rfl⟩ : ∃ k, c = k + 8 := ⟨c - 8, by omega⟩
    rfl
set_option maxRecDepth 100000 in
theorem aa_all : (List.range 560).all (fun a => (sh0 0 a).1 != 22 || (Nat.ble 9 a && (List.range (sh0 0 a).2.1).all (fun j => decide ((sh0 0 a).2.2[j]? = some (.ref (a + 1 + j)))))) = true := by decide +kernel
theorem aa_at {n a j : Nat} (h1 : (sh0 n a).1 = 22) (h2 : a < 560) (h3 : j < (sh0 n a).2.1) : 9 ≤ a ∧ (sh0 n a).2.2[j]? = some (.ref (a + 1 + j)) := by
  by_cases h7 : a = 7
  · subst h7
    have : (20 : Nat) = 22 := h1
    omega
  · rw [sh0_not7 h7] at h1 h3 ⊢
    have h := List.all_eq_true.mp aa_all a (List.mem_range.mpr h2)
    simp only [h1, bne_self_eq_false, Bool.false_or, Bool.and_eq_true, Nat.ble_eq] at h
    have h4 := List.all_eq_true.mp h.2 j (List.mem_range.mpr h3)
    exact ⟨h.1, of_decide_eq_true h4⟩
section Aa
variable {d M pc len idx n a : Nat} {ls st : List Value} {Φ : POut → PM → Prop} {I : Nat → Nat → Int32} {L : Nat → Nat → Int64} {x : Nat} {i : Int32}
theorem wp_aa (hf : fetch M pc = some (len, idx, .aaload)) (h1 : (sh0 n a).1 = 22) (h2 : a < 560) (h3 : 0 ≤ i) (h4 : i.toNatClampNeg < (sh0 n a).2.1) : wp d M pc ls (.int i :: .ref a :: st) (mk n I L x) Φ ↔ wp d M (pc + len) ls (.ref (a + 1 + i.toNatClampNeg) :: st) (mk n I L x) Φ :=
  wp_al hf (Or.inl h1) (aa_at h1 h2 h4).1 h2 h3 h4 (aa_at h1 h2 h4).2
theorem wp_alb (hf : fetch M pc = some (len, idx, .aaload)) (h1 : a = 47 ∨ a = 54) (h3 : 0 ≤ i) (h4 : i.toNatClampNeg < 3) : wp d M pc ls (.int i :: .ref a :: st) (mk n I L x) Φ ↔ wp d M (pc + len) ls (.ref (a + 1 + 2 * i.toNatClampNeg) :: st) (mk n I L x) Φ := by
  have h5 : ∀ j, j < 3 → (sh0 n a).2.2[j]? = some (.ref (a + 1 + 2 * j)) := by
    intro j hj
    rcases h1 with rfl | rfl
    · match j, hj with
      | 0, _ => rfl
      | 1, _ => rfl
      | 2, _ => rfl
    · match j, hj with
      | 0, _ => rfl
      | 1, _ => rfl
      | 2, _ => rfl
  refine wp_al hf ?_ ?_ ?_ h3 ?_ (h5 _ h4)
  · rcases h1 with rfl | rfl
    · exact Or.inr (Or.inl rfl)
    · exact Or.inr (Or.inr rfl)
  · rcases h1 with rfl | rfl <;> decide
  · rcases h1 with rfl | rfl <;> decide
  · rcases h1 with rfl | rfl <;> exact h4
end Aa
/-! NUMBERS -/
theorem nb_0 : nb 0 = 0 := rfl
theorem nb_1 : nb 1 = 1 := rfl
theorem nb_ite {p : Prop} [Decidable p] : nb (if p then 1 else 0) = if p then 1 else 0 := by split <;> rfl
/-- a fold over the numbers below n -/
def foldN {α : Type} (f : Nat → α → α) : Nat → α → α
  | 0, a => a
  | n + 1, a => f n (foldN f n a)
theorem loopN {α : Type} {P : Nat → α → Prop} {Q : α → Prop} {f : Nat → α → α} {n : Nat} (hs : ∀ k a, k < n → (P k a ↔ P (k + 1) (f k a))) (he : ∀ a, P n a ↔ Q a) (a : α) : P 0 a ↔ Q (foldN f n a) := by
  have key : ∀ k, k ≤ n → (P 0 a ↔ P k (foldN f k a)) := by
    intro k
    induction k with
    | zero => intro _; exact Iff.rfl
    | succ k ih => intro hk; exact (ih (by omega)).trans (hs k _ (by omega))
  exact (key n (Nat.le_refl n)).trans (he _)
/-- a fold that may end early -/
def foldE {α ρ : Type} (f : Nat → α → α ⊕ ρ) : Nat → Nat → α → α ⊕ ρ
  | 0, _, a => .inl a
  | n + 1, k, a => match f k a with
    | .inl a' => foldE f n (k + 1) a'
    | .inr r => .inr r
theorem loopE {α ρ : Type} {P : Nat → α → Prop} {Q : α → Prop} {R : ρ → Prop} {f : Nat → α → α ⊕ ρ} {n : Nat} (hs : ∀ k a, k < n → (P k a ↔ match f k a with
    | .inl a' => P (k + 1) a'
    | .inr r => R r)) (he : ∀ a, P n a ↔ Q a) : ∀ (m k : Nat) (a : α), k + m = n → (P k a ↔ match foldE f m k a with
    | .inl a' => Q a'
    | .inr r => R r) := by
  intro m
  induction m with
  | zero =>
    intro k a h
    have : k = n := by omega
    subst this
    exact he a
  | succ m ih =>
    intro k a h
    refine (hs k a (by omega)).trans ?_
    show _ ↔ (match (match f k a with
      | .inl a' => foldE f m (k + 1) a'
      | .inr r => .inr r) with
      | .inl a' => Q a'
      | .inr r => R r)
    cases f k a with
    | inl a' => exact ih (k + 1) a' (by omega)
    | inr r => exact Iff.rfl
/-- small numbers as ints -/
abbrev nt (k : Nat) : Int32 := Int32.ofNat k
theorem nt_toInt {k : Nat} (h : k < 2147483648) : (nt k).toInt = (k : Int) := Int32.toInt_ofNat_of_lt h
theorem nt_clamp {k : Nat} (h : k < 2147483648) : (nt k).toNatClampNeg = k := by
  show (nt k).toInt.toNat = k
  rw [nt_toInt h]
  simp
theorem nt_ge {k : Nat} (h : k < 2147483648) : (0 : Int32) ≤ nt k := by
  rw [Int32.le_iff_toInt_le, nt_toInt h]
  show (0 : Int) ≤ _
  omega
theorem nt_lt {j k : Nat} (h : j < 2147483648) (h2 : k < 2147483648) : (nt j < nt k) = (j < k) := by
  rw [Int32.lt_iff_toInt_lt, nt_toInt h, nt_toInt h2]
  simp
theorem nt_le {j k : Nat} (h : j < 2147483648) (h2 : k < 2147483648) : (nt j ≤ nt k) = (j ≤ k) := by
  rw [Int32.le_iff_toInt_le, nt_toInt h, nt_toInt h2]
  simp
theorem nt_succ (k : Nat) : nt k + 1 = nt (k + 1) := (Int32.ofNat_add k 1).symm
theorem nt_add (j k : Nat) : nt j + nt k = nt (j + k) := (Int32.ofNat_add j k).symm
theorem nt_inj {j k : Nat} (h : j < 2147483648) (h2 : k < 2147483648) : (nt j = nt k) = (j = k) := by
  rw [← Int32.toInt_inj, nt_toInt h, nt_toInt h2, eq_iff_iff]
  constructor <;> intro q <;> omega
