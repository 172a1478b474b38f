/-! A LAW: what is read -/
abbrev LCs : Type := Nat × (Nat → Nat × Nat)
abbrev LPs : Type := LCs → Nat → RD LCs
def psh (c : LCs) (k v : Nat) : LCs := (c.1 + 1, fun i => if i = c.1 then (k, v) else c.2 i)
def sgn (u : Nat × Nat) : Nat := if u.1 = 0 then u.2 else if u.1 = 1 then 1000 + u.2 else 1998 + u.1
def hgt (c : Nat → Nat × Nat) : Nat → Nat
  | 0 => 0
  | k + 1 => if 2 ≤ (c k).1 then hgt c k - 1 else hgt c k + 1
def thn (U V : LPs) (c : LCs) (p : Nat) : RD LCs := match U c p with
  | .inr e => .inr e
  | .inl (c1, p1) => V c1 p1
def sgP (B : Nat → Int32) (N : Nat) (s : Int32) (c : LCs) (p : Nat) : RD LCs := if cur B N (skp B N p) = s then .inl (c, skp B N p + 1) else .inr (1, skp B N p)
def rLp (B : Nat → Int32) (N : Nat) (T : Int32 → Nat) (U : LPs) : Nat → LCs → Nat → RD LCs
  | 0, c, p => .inl (c, p)
  | f + 1, c, p => if T (cur B N (skp B N p)) = 0 then .inl (c, skp B N p) else match U c (skp B N p + 1) with
    | .inr e => .inr e
    | .inl (c1, p1) => rLp B N T U f (psh c1 (T (cur B N (skp B N p))) 0) p1
def tyS (v : Int32) : Nat := if v = 43 then 2 else if v = 45 then 3 else 0
def tyP (v : Int32) : Nat := if v = 42 then 4 else if v = 47 then 5 else if v = 37 then 6 else 0
def rPd (B : Nat → Int32) (N : Nat) (U : LPs) : LPs := thn U (rLp B N tyP U 150)
def rSu (B : Nat → Int32) (N : Nat) (U : LPs) : LPs := thn (rPd B N U) (rLp B N tyS (rPd B N U) 150)
def prP (B : Nat → Int32) (N : Nat) (f : LPs) : LPs := thn (sgP B N 91) (thn f (thn (sgP B N 44) (thn f (sgP B N 93))))
def brP (B : Nat → Int32) (N : Nat) (S : Option LPs) (c : LCs) (b : Nat) : RD LCs := match S with
  | none => .inr (3, b)
  | some f => thn f (sgP B N 41) c (b + 1)
def paP (B : Nat → Int32) (N : Nat) (S : Option LPs) (c : LCs) (b p1 : Nat) : RD LCs := match S with
  | none => .inr (3, b)
  | some f => prP B N f c p1
def rUn (B : Nat → Int32) (N : Nat) (S : Option LPs) (c : LCs) (p : Nat) : RD LCs :=
  if isDg (cur B N (skp B N p)) = true then (match rNum B N 0 999 p with
    | .inr e => .inr e
    | .inl (v, p1) => .inl (psh c 0 v, p1))
  else if cur B N (skp B N p) = 40 then brP B N S c (skp B N p)
  else match rWrd B N ws1 p with
    | .inr e => .inr e
    | .inl (k, p1) => if k < 9 then .inl (psh c 1 k, p1) else match paP B N S c (skp B N p) p1 with
      | .inr e => .inr e
      | .inl (c1, p2) => .inl (psh c1 (k - 2) 0, p2)
def rSm (B : Nat → Int32) (N : Nat) : Nat → LPs
  | 0 => rSu B N (rUn B N none)
  | h + 1 => rSu B N (rUn B N (some (rSm B N h)))
/-- the law, to its end -/
def rLw (B : Nat → Int32) (N : Nat) (c : LCs) : RD LCs := match rSm B N 6 c 0 with
  | .inr e => .inr e
  | .inl (c1, p1) => if cur B N (skp B N p1) = -1 then .inl (c1, skp B N p1) else .inr (1, skp B N p1)
/-! what holds of it -/
def okLw (u : Nat × Nat) : Prop := u.1 ≤ 8 ∧ (u.1 = 0 → u.2 < 1000) ∧ (u.1 = 1 → u.2 < 9)
def GC (c : LCs) : Prop := ∀ k, k < c.1 → okLw (c.2 k) ∧ (2 ≤ (c.2 k).1 → 2 ≤ hgt c.2 k)
def PG (h : Nat) (U : LPs) : Prop := ∀ c p c' p', U c p = .inl (c', p') → p ≤ p' ∧ c'.1 + p ≤ c.1 + p' ∧ (GC c → GC c' ∧ hgt c'.2 c'.1 = hgt c.2 c.1 + h)
theorem hgt_cg {c c' : Nat → Nat × Nat} : ∀ m, (∀ k, k < m → c' k = c k) → hgt c' m = hgt c m
  | 0, _ => rfl
  | m + 1, h => by
    unfold hgt
    rw [h m (by omega), hgt_cg m (fun k hk => h k (by omega))]
section Lw
variable {B : Nat → Int32} {N : Nat} {c : LCs} {k v : Nat} {U V : LPs} {S : Option LPs} {h1 h2 : Nat}
theorem psh_lt {i : Nat} (h : i < c.1) : (psh c k v).2 i = c.2 i := if_neg (by omega)
theorem psh_eq : (psh c k v).2 c.1 = (k, v) := if_pos rfl
theorem hgt_psh : hgt (psh c k v).2 c.1 = hgt c.2 c.1 := hgt_cg c.1 (fun i hi => psh_lt hi)
theorem GC_psh (h : GC c) (ho : okLw (k, v)) (h2 : 2 ≤ k → 2 ≤ hgt c.2 c.1) : GC (psh c k v) := by
  intro i hi
  have hi : i < c.1 + 1 := hi
  by_cases e : i = c.1
  · subst e
    rw [psh_eq, hgt_psh]
    exact ⟨ho, h2⟩
  · have hl : i < c.1 := by omega
    rw [psh_lt hl, hgt_cg i (fun j hj => psh_lt (show j < c.1 by omega))]
    exact h i hl
theorem hgt_1 : hgt (psh c k v).2 (psh c k v).1 = if 2 ≤ k then hgt c.2 c.1 - 1 else hgt c.2 c.1 + 1 := by
  show (if 2 ≤ ((psh c k v).2 c.1).1 then hgt (psh c k v).2 c.1 - 1 else hgt (psh c k v).2 c.1 + 1) = _
  rw [psh_eq, hgt_psh]
theorem skp_ge {p : Nat} : p ≤ skp B N p := endF_ge
theorem PG_thn (hU : PG h1 U) (hV : PG h2 V) : PG (h1 + h2) (thn U V) := by
  intro c p c' p' h
  unfold thn at h
  split at h
  · cases h
  · rename_i c1 p1 hu
    obtain ⟨a1, a2, a3⟩ := hU _ _ _ _ hu
    obtain ⟨b1, b2, b3⟩ := hV _ _ _ _ h
    refine ⟨by omega, by omega, fun g => ?_⟩
    obtain ⟨g1, g2⟩ := a3 g
    obtain ⟨g3, g4⟩ := b3 g1
    exact ⟨g3, by omega⟩
theorem PG_sgP {s : Int32} : PG 0 (sgP B N s) := by
  intro c p c' p' h
  unfold sgP at h
  split at h
  · cases h
    have := skp_ge (B := B) (N := N) (p := p)
    exact ⟨by omega, by omega, fun g => ⟨g, rfl⟩⟩
  · cases h
theorem rLp_P {T : Int32 → Nat} (hT : ∀ v, T v = 0 ∨ (2 ≤ T v ∧ T v ≤ 8)) (hU : PG 1 U) : ∀ f c p c' p', rLp B N T U f c p = .inl (c', p') → p ≤ p' ∧ c'.1 + p ≤ c.1 + p' ∧ (GC c → 1 ≤ hgt c.2 c.1 → GC c' ∧ hgt c'.2 c'.1 = hgt c.2 c.1) := by
  intro f
  induction f with
  | zero =>
    intro c p c' p' h
    cases h
    exact ⟨Nat.le_refl p, Nat.le_refl _, fun g _ => ⟨g, rfl⟩⟩
  | succ f ih =>
    intro c p c' p' h
    have hk := skp_ge (B := B) (N := N) (p := p)
    unfold rLp at h
    split at h
    · cases h
      exact ⟨hk, by omega, fun g _ => ⟨g, rfl⟩⟩
    · rename_i hne
      split at h
      · cases h
      · rename_i c1 p1 hu
        obtain ⟨a1, a2, a3⟩ := hU _ _ _ _ hu
        obtain ⟨b1, b2, b3⟩ := ih _ _ _ _ h
        have ht := (hT (cur B N (skp B N p))).resolve_left hne
        have b2 : c'.1 + p1 ≤ c1.1 + 1 + p' := b2
        refine ⟨by omega, by omega, fun g g0 => ?_⟩
        obtain ⟨g1, g2⟩ := a3 g
        have g5 := hgt_1 (c := c1) (k := T (cur B N (skp B N p))) (v := 0)
        rw [if_pos ht.1] at g5
        obtain ⟨g3, g4⟩ := b3 (GC_psh g1 ⟨ht.2, fun z => by have z : T (cur B N (skp B N p)) = 0 := z; omega, fun z => by have z : T (cur B N (skp B N p)) = 1 := z; omega⟩ (fun _ => by omega)) (by omega)
        exact ⟨g3, by omega⟩
theorem PG_lp {T : Int32 → Nat} (hT : ∀ v, T v = 0 ∨ (2 ≤ T v ∧ T v ≤ 8)) (hU : PG 1 U) : PG 1 (thn U (rLp B N T U 150)) := by
  intro c p c' p' h
  unfold thn at h
  split at h
  · cases h
  · rename_i c1 p1 hu
    obtain ⟨a1, a2, a3⟩ := hU _ _ _ _ hu
    obtain ⟨b1, b2, b3⟩ := rLp_P hT hU _ _ _ _ _ h
    refine ⟨by omega, by omega, fun g => ?_⟩
    obtain ⟨g1, g2⟩ := a3 g
    obtain ⟨g3, g4⟩ := b3 g1 (by omega)
    exact ⟨g3, by omega⟩
theorem tyS_r : ∀ v, tyS v = 0 ∨ (2 ≤ tyS v ∧ tyS v ≤ 8) := by
  intro v
  unfold tyS
  split
  · exact Or.inr (by decide)
  · split
    · exact Or.inr (by decide)
    · exact Or.inl rfl
theorem tyP_r : ∀ v, tyP v = 0 ∨ (2 ≤ tyP v ∧ tyP v ≤ 8) := by
  intro v
  unfold tyP
  split
  · exact Or.inr (by decide)
  · split
    · exact Or.inr (by decide)
    · split
      · exact Or.inr (by decide)
      · exact Or.inl rfl
theorem PG_rPd (hU : PG 1 U) : PG 1 (rPd B N U) := PG_lp tyP_r hU
theorem PG_rSu (hU : PG 1 U) : PG 1 (rSu B N U) := by
  intro c p c' p' h
  unfold rSu thn at h
  split at h
  · cases h
  · rename_i c1 p1 hu
    obtain ⟨a1, a2, a3⟩ := PG_rPd hU _ _ _ _ hu
    obtain ⟨b1, b2, b3⟩ := rLp_P tyS_r (PG_rPd hU) _ _ _ _ _ h
    refine ⟨by omega, by omega, fun g => ?_⟩
    obtain ⟨g1, g2⟩ := a3 g
    obtain ⟨g3, g4⟩ := b3 g1 (by omega)
    exact ⟨g3, by omega⟩
theorem fndW_in {p j : Nat} : ∀ (ws : List (List Nat)) (i : Nat), fndW B N p ws i = some j → ∃ w, w ∈ ws ∧ wdIs B N p w = true
  | [], i, h => by cases h
  | w :: r, i, h => by
    unfold fndW at h
    split at h
    · rename_i hw
      exact ⟨w, List.mem_cons_self, hw⟩
    · obtain ⟨u, h1, h2⟩ := fndW_in r (i + 1) h
      exact ⟨u, List.mem_cons_of_mem _ h1, h2⟩
theorem rWrd_ge {ws : List (List Nat)} (hw : ∀ w, w ∈ ws → 0 < w.length) {p j p1 : Nat} (h : rWrd B N ws p = .inl (j, p1)) : skp B N p + 1 ≤ p1 := by
  unfold rWrd at h
  split at h
  · rename_i k hk
    cases h
    obtain ⟨w, h1, h2⟩ := fndW_in ws 0 hk
    have h3 := (wdIs_iff.mp h2).1
    have h4 := hw w h1
    omega
  · cases h
theorem ws1_p : ∀ w, w ∈ ws1 → 0 < w.length := by decide
theorem rNum_ge {lo hi : Int32} {p V p1 : Nat} (h : rNum B N lo hi p = .inl (V, p1)) : skp B N p + 1 ≤ p1 ∧ V < 1000 := by
  unfold rNum at h
  split at h
  · rename_i hd
    split at h
    · rename_i hr
      cases h
      have h2 := (cur_P (P := isDg) (by decide)).mp hd
      have h3 := endF_go (P := isDg) (B := B) h2.1 h2.2
      have h4 := endF_ge (P := isDg) (B := B) (N := N) (p := skp B N p + 1)
      exact ⟨by omega, hr.1⟩
    · cases h
  · cases h
theorem PG_prP (hS : PG 1 U) : PG 2 (prP B N U) := PG_thn PG_sgP (PG_thn hS (PG_thn PG_sgP (PG_thn hS PG_sgP)))
theorem brP_P (hS : ∀ f, S = some f → PG 1 f) {b p' : Nat} {c' : LCs} (h : brP B N S c b = .inl (c', p')) : b + 1 ≤ p' ∧ c'.1 + (b + 1) ≤ c.1 + p' ∧ (GC c → GC c' ∧ hgt c'.2 c'.1 = hgt c.2 c.1 + 1) := by
  unfold brP at h
  split at h
  · cases h
  · rename_i f
    exact PG_thn (hS f rfl) PG_sgP _ _ _ _ h
theorem paP_P (hS : ∀ f, S = some f → PG 1 f) {b p1 p' : Nat} {c' : LCs} (h : paP B N S c b p1 = .inl (c', p')) : p1 ≤ p' ∧ c'.1 + p1 ≤ c.1 + p' ∧ (GC c → GC c' ∧ hgt c'.2 c'.1 = hgt c.2 c.1 + 2) := by
  unfold paP at h
  split at h
  · cases h
  · rename_i f
    exact PG_prP (hS f rfl) _ _ _ _ h
theorem PG_rUn (hS : ∀ f, S = some f → PG 1 f) : PG 1 (rUn B N S) := by
  intro c p c' p' h
  have hk := skp_ge (B := B) (N := N) (p := p)
  unfold rUn at h
  split at h
  · split at h
    · cases h
    · rename_i v1 p1 hn
      cases h
      have hg := rNum_ge hn
      refine ⟨by omega, by show c.1 + 1 + p ≤ c.1 + p'; omega, fun g => ⟨GC_psh g ⟨Nat.zero_le 8, fun _ => hg.2, fun z => absurd (show (0 : Nat) = 1 from z) (by decide)⟩ (fun z => absurd z (by decide)), ?_⟩⟩
      rw [hgt_1, if_neg (by decide)]
  · split at h
    · obtain ⟨a1, a2, a3⟩ := brP_P hS h
      exact ⟨by omega, by omega, a3⟩
    · split at h
      · cases h
      · rename_i k1 p1 hw
        have hg := rWrd_ge ws1_p hw
        have hl := rWrd_lt hw
        have hl : k1 < 11 := hl
        split at h
        · rename_i h9
          cases h
          refine ⟨by omega, by show c.1 + 1 + p ≤ c.1 + p'; omega, fun g => ⟨GC_psh g ⟨by show 1 ≤ 8; decide, fun z => absurd (show (1 : Nat) = 0 from z) (by decide), fun _ => h9⟩ (fun z => absurd z (by decide)), ?_⟩⟩
          rw [hgt_1, if_neg (by decide)]
        · split at h
          · cases h
          · rename_i c1 p2 hp
            cases h
            obtain ⟨a1, a2, a3⟩ := paP_P hS hp
            refine ⟨by omega, by show c1.1 + 1 + p ≤ c.1 + p'; omega, fun g => ?_⟩
            obtain ⟨g1, g2⟩ := a3 g
            refine ⟨GC_psh g1 ⟨by show k1 - 2 ≤ 8; omega, fun z => by have z : k1 - 2 = 0 := z; omega, fun z => by have z : k1 - 2 = 1 := z; omega⟩ (fun _ => by omega), ?_⟩
            rw [hgt_1, if_pos (by omega)]
            omega
theorem PG_rSm : ∀ h, PG 1 (rSm B N h)
  | 0 => PG_rSu (PG_rUn (fun f e => by cases e))
  | h + 1 => PG_rSu (PG_rUn (fun f e => by cases e; exact PG_rSm h))
theorem rUn_skp {p : Nat} : rUn B N S c (skp B N p) = rUn B N S c p := by
  unfold rUn rNum rWrd
  rw [skp_skp]
theorem thn_l {p p1 : Nat} {c1 : LCs} (h : U c p = .inl (c1, p1)) : thn U V c p = V c1 p1 := by unfold thn; rw [h]
theorem thn_r {p : Nat} {e : Nat × Nat} (h : U c p = .inr e) : thn U V c p = .inr e := by unfold thn; rw [h]
theorem sgP_l {s : Int32} {p : Nat} (h : cur B N (skp B N p) = s) : sgP B N s c p = .inl (c, skp B N p + 1) := if_pos h
theorem sgP_r {s : Int32} {p : Nat} (h : ¬ cur B N (skp B N p) = s) : sgP B N s c p = .inr (1, skp B N p) := if_neg h
theorem rLp_0 {T : Int32 → Nat} {f p : Nat} (h : T (cur B N (skp B N p)) = 0) : rLp B N T U (f + 1) c p = .inl (c, skp B N p) := by rw [rLp, if_pos h]
theorem rLp_s {T : Int32 → Nat} {f p p1 : Nat} {c1 : LCs} (h : T (cur B N (skp B N p)) = k) (h0 : k ≠ 0) (hu : U c (skp B N p + 1) = .inl (c1, p1)) : rLp B N T U (f + 1) c p = rLp B N T U f (psh c1 k 0) p1 := by rw [rLp, h, if_neg h0, hu]
theorem rLp_r {T : Int32 → Nat} {f p : Nat} {e : Nat × Nat} (h0 : T (cur B N (skp B N p)) ≠ 0) (hu : U c (skp B N p + 1) = .inr e) : rLp B N T U (f + 1) c p = .inr e := by rw [rLp, if_neg h0, hu]
end Lw

