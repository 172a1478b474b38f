/-! WORK: what is read -/
abbrev WS : Type := Nat × (Nat → Nat → Option Nat)
abbrev WPs : Type := WS → Nat → RD WS
def putW (σ : WS) (i r v : Nat) : WS := (σ.1, fun j l => if j = i ∧ l = r then some v else σ.2 j l)
def alW (σ : WS) (k : Nat) : WS := putW (σ.1 + 1, σ.2) 0 σ.1 k
def thW (U V : WPs) (σ : WS) (p : Nat) : RD WS := match U σ p with
  | .inr e => .inr e
  | .inl (τ, p1) => V τ p1
def sgW (B : Nat → Int32) (N : Nat) (s : Int32) (σ : WS) (p : Nat) : RD WS := if cur B N (skp B N p) = s then .inl (σ, skp B N p + 1) else .inr (1, skp B N p)
def nmW (B : Nat → Int32) (N : Nat) (lo hi : Int32) (i r : Nat) (σ : WS) (p : Nat) : RD WS := match rNum B N lo hi p with
  | .inr e => .inr e
  | .inl (v, p1) => .inl (putW σ i r v, p1)
def idW (σ : WS) (p : Nat) : RD WS := .inl (σ, p)
def stW (i r : Nat) (σ : WS) (p : Nat) : RD WS := .inl (putW σ i r σ.1, p)
def vlW (B : Nat → Int32) (N sn k r : Nat) : WPs := if k = 0 then nmW B N 0 23 2 r else if k = 4 then thW (nmW B N 0 (nt sn - 1) 3 r) (nmW B N 0 9 2 r) else idW
def agW (B : Nat → Int32) (N : Nat) (f : WPs) (r : Nat) : WPs := thW (nmW B N 0 60 2 r) (thW (sgW B N 91) (thW f (thW (sgW B N 93) (stW 3 r))))
def bdW (B : Nat → Int32) (N sn cn : Nat) (f : WPs) (k r : Nat) : WPs := if k = 7 then agW B N f r else if k = 5 then nmW B N 0 (nt sn - 1) 1 r else if k ≤ 4 then thW (nmW B N 0 (nt cn - 1) 1 r) (vlW B N sn k r) else idW
def edW (B : Nat → Int32) (N r : Nat) : WPs := thW (stW 4 r) (sgW B N 59)
def rSt (B : Nat → Int32) (N sn cn : Nat) (S : Option WPs) (σ : WS) (p : Nat) : RD WS := match rWrd B N ws2 p with
  | .inr e => .inr e
  | .inl (k, p1) => match S with
    | none => if k = 7 then .inr (3, skp B N p) else thW (bdW B N sn cn idW k σ.1) (edW B N σ.1) (alW σ k) p1
    | some f => thW (bdW B N sn cn f k σ.1) (edW B N σ.1) (alW σ k) p1
def rWl (B : Nat → Int32) (N : Nat) (stop : Int32) (U : WPs) : Nat → WS → Nat → RD WS
  | 0, σ, p => .inl (σ, p)
  | f + 1, σ, p => if cur B N (skp B N p) = stop then .inl (σ, skp B N p) else match U σ p with
    | .inr e => .inr e
    | .inl (τ, p1) => rWl B N stop U f τ p1
def sB (B : Nat → Int32) (N sn cn : Nat) : Nat → Option WPs
  | 0 => none
  | h + 1 => some (rWl B N 93 (rSt B N sn cn (sB B N sn cn h)) 31)
def ws00 : WS := (0, fun _ _ => none)
def rWk (B : Nat → Int32) (N sn cn : Nat) : RD WS := rWl B N (-1) (rSt B N sn cn (sB B N sn cn 6)) 31 ws00 0
/-! what holds of it -/
def rwOK (F : Nat → Nat → Option Nat) (sn cn r : Nat) : Prop := ∃ k c v t, F 0 r = some k ∧ k < 8 ∧ (k ≤ 5 → F 1 r = some c) ∧ (k ≤ 4 → c < cn) ∧ (k = 5 → c < sn) ∧ (k = 0 → F 2 r = some v ∧ v < 24) ∧ (k = 4 → F 2 r = some v ∧ v ≤ 9 ∧ F 3 r = some t ∧ t < sn) ∧ (k = 7 → F 2 r = some v ∧ v ≤ 60)
def okI (F : Nat → Nat → Option Nat) (sn cn : Nat) : Nat → Nat → Nat → Nat → Prop
  | 0, _, r, e => r = e
  | m + 1, h, r, e => r = e ∨ ∃ t, (rwOK F sn cn r ∧ F 4 r = some t ∧ r < t ∧ t ≤ e ∧ (F 0 r = some 7 → F 3 r = some t ∧ ∃ h', h = h' + 1 ∧ okI F sn cn m h' (r + 1) t) ∧ (F 0 r ≠ some 7 → t = r + 1)) ∧ okI F sn cn m h t e
def stOK (F : Nat → Nat → Option Nat) (sn cn m h r t : Nat) : Prop := rwOK F sn cn r ∧ F 4 r = some t ∧ r < t ∧ (F 0 r = some 7 → F 3 r = some t ∧ ∃ h', h = h' + 1 ∧ okI F sn cn m h' (r + 1) t) ∧ (F 0 r ≠ some 7 → t = r + 1)
def PSb (N sn cn h : Nat) (U : WPs) : Prop := ∀ σ p τ p', p ≤ N → U σ p = .inl (τ, p') → p' ≤ N ∧ p ≤ p' ∧ p + 5 * τ.1 ≤ p' + 5 * σ.1 ∧ σ.1 ≤ τ.1 ∧ (∀ j l, l < σ.1 → τ.2 j l = σ.2 j l) ∧ (∀ j l, τ.1 ≤ l → τ.2 j l = σ.2 j l) ∧ okI τ.2 sn cn (τ.1 - σ.1) h σ.1 τ.1
def PSs (N sn cn h : Nat) (U : WPs) : Prop := ∀ σ p τ p', p ≤ N → U σ p = .inl (τ, p') → p' ≤ N ∧ p + 5 * τ.1 ≤ p' + 5 * σ.1 ∧ σ.1 < τ.1 ∧ (∀ j l, l < σ.1 → τ.2 j l = σ.2 j l) ∧ (∀ j l, τ.1 ≤ l → τ.2 j l = σ.2 j l) ∧ stOK τ.2 sn cn (τ.1 - σ.1 - 1) h σ.1 τ.1
section Wk
variable {B : Nat → Int32} {N sn cn k r i v : Nat} {σ τ : WS} {U V f : WPs} {S : Option WPs} {F F' : Nat → Nat → Option Nat}
theorem putW_at : (putW σ i r v).2 i r = some v := if_pos ⟨rfl, rfl⟩
theorem putW_r {j l : Nat} (h : l ≠ r) : (putW σ i r v).2 j l = σ.2 j l := if_neg (fun z => h z.2)
theorem putW_i {j l : Nat} (h : j ≠ i) : (putW σ i r v).2 j l = σ.2 j l := if_neg (fun z => h z.1)
theorem thW_l {p p1 : Nat} (h : U σ p = .inl (τ, p1)) : thW U V σ p = V τ p1 := by unfold thW; rw [h]
theorem thW_r {p : Nat} {e : Nat × Nat} (h : U σ p = .inr e) : thW U V σ p = .inr e := by unfold thW; rw [h]
theorem sgW_l {s : Int32} {p : Nat} (h : cur B N (skp B N p) = s) : sgW B N s σ p = .inl (σ, skp B N p + 1) := if_pos h
theorem sgW_r {s : Int32} {p : Nat} (h : ¬ cur B N (skp B N p) = s) : sgW B N s σ p = .inr (1, skp B N p) := if_neg h
theorem nmW_l {lo hi : Int32} {p p1 : Nat} (h : rNum B N lo hi p = .inl (v, p1)) : nmW B N lo hi i r σ p = .inl (putW σ i r v, p1) := by unfold nmW; rw [h]
theorem nmW_r {lo hi : Int32} {p : Nat} {e : Nat × Nat} (h : rNum B N lo hi p = .inr e) : nmW B N lo hi i r σ p = .inr e := by unfold nmW; rw [h]
theorem rWl_0 {s : Int32} {m p : Nat} (h : cur B N (skp B N p) = s) : rWl B N s U (m + 1) σ p = .inl (σ, skp B N p) := by rw [rWl, if_pos h]
theorem rWl_s {s : Int32} {m p p1 : Nat} (h : ¬ cur B N (skp B N p) = s) (hu : U σ p = .inl (τ, p1)) : rWl B N s U (m + 1) σ p = rWl B N s U m τ p1 := by rw [rWl, if_neg h, hu]
theorem rWl_r {s : Int32} {m p : Nat} {e : Nat × Nat} (h : ¬ cur B N (skp B N p) = s) (hu : U σ p = .inr e) : rWl B N s U (m + 1) σ p = .inr e := by rw [rWl, if_neg h, hu]
theorem thW_inv {p p' : Nat} (h : thW U V σ p = .inl (τ, p')) : ∃ σ1 p1, U σ p = .inl (σ1, p1) ∧ V σ1 p1 = .inl (τ, p') := by
  unfold thW at h
  split at h
  · cases h
  · rename_i σ1 p1 hu
    exact ⟨σ1, p1, hu, h⟩
theorem sgW_inv {s : Int32} (hs : s ≠ -1) {p p' : Nat} (h : sgW B N s σ p = .inl (τ, p')) : τ = σ ∧ p + 1 ≤ p' ∧ p' ≤ N := by
  unfold sgW at h
  split at h
  · rename_i hc
    cases h
    have h1 := skp_ge (B := B) (N := N) (p := p)
    exact ⟨rfl, by omega, cur_in (by rw [hc]; exact hs)⟩
  · cases h
theorem nmW_inv {lo hi : Int32} {p p' : Nat} (hp : p ≤ N) (h : nmW B N lo hi i r σ p = .inl (τ, p')) : ∃ v, rNum B N lo hi p = .inl (v, p') ∧ τ = putW σ i r v ∧ p + 1 ≤ p' ∧ p' ≤ N := by
  unfold nmW at h
  split at h
  · cases h
  · rename_i v1 p1 hn
    cases h
    have h1 := skp_ge (B := B) (N := N) (p := p)
    have h2 := (rNum_ge hn).1
    exact ⟨v1, hn, rfl, by omega, rNum_le hp hn⟩
theorem okI_mono : ∀ m h r e, okI F sn cn m h r e → okI F sn cn (m + 1) h r e := by
  intro m
  induction m with
  | zero => intro h r e hk; exact Or.inl hk
  | succ m ih =>
    intro h r e hk
    rcases hk with hk | ⟨t, ⟨a1, a2, a3, a4, a5, a6⟩, a7⟩
    · exact Or.inl hk
    · refine Or.inr ⟨t, ⟨a1, a2, a3, a4, fun z => ?_, a6⟩, ih _ _ _ a7⟩
      obtain ⟨b1, h', b2, b3⟩ := a5 z
      exact ⟨b1, h', b2, ih _ _ _ b3⟩
theorem okI_le {m m' h r e : Nat} (hm : m ≤ m') (hk : okI F sn cn m h r e) : okI F sn cn m' h r e := by
  obtain ⟨q, rfl⟩ := Nat.exists_eq_add_of_le hm
  induction q with
  | zero => exact hk
  | succ q ih => exact okI_mono _ _ _ _ (ih (by omega))
theorem rwOK_cg {r : Nat} (h : ∀ j, j < 4 → F' j r = F j r) (hk : rwOK F sn cn r) : rwOK F' sn cn r := by
  unfold rwOK at *
  rw [h 0 (by decide), h 1 (by decide), h 2 (by decide), h 3 (by decide)]
  exact hk
theorem okI_cg : ∀ m h r e, (∀ j l, r ≤ l → l < e → F' j l = F j l) → okI F sn cn m h r e → okI F' sn cn m h r e := by
  intro m
  induction m with
  | zero => intro h r e _ hk; exact hk
  | succ m ih =>
    intro h r e hc hk
    rcases hk with hk | ⟨t, ⟨a1, a2, a3, a4, a5, a6⟩, a7⟩
    · exact Or.inl hk
    · have hr : ∀ j, F' j r = F j r := fun j => hc j r (Nat.le_refl r) (by omega)
      refine Or.inr ⟨t, ⟨rwOK_cg (fun j _ => hr j) a1, by rw [hr]; exact a2, a3, a4, fun z => ?_, fun z => a6 (by rw [← hr]; exact z)⟩, ih _ _ _ (fun j l h1 h2 => hc j l (by omega) h2) a7⟩
      rw [hr] at z
      obtain ⟨b1, h', b2, b3⟩ := a5 z
      exact ⟨by rw [hr]; exact b1, h', b2, ih _ _ _ (fun j l h1 h2 => hc j l (by omega) (by omega)) b3⟩
theorem stOK_cg {m h r t : Nat} (hc : ∀ j l, r ≤ l → l < t → F' j l = F j l) (hk : stOK F sn cn m h r t) : stOK F' sn cn m h r t := by
  obtain ⟨a1, a2, a3, a5, a6⟩ := hk
  have hr : ∀ j, F' j r = F j r := fun j => hc j r (Nat.le_refl r) a3
  refine ⟨rwOK_cg (fun j _ => hr j) a1, by rw [hr]; exact a2, a3, fun z => ?_, fun z => a6 (by rw [← hr]; exact z)⟩
  rw [hr] at z
  obtain ⟨b1, h', b2, b3⟩ := a5 z
  exact ⟨by rw [hr]; exact b1, h', b2, okI_cg _ _ _ _ (fun j l h1 h2 => hc j l (by omega) h2) b3⟩
theorem okI_join {h r t e : Nat} (hs : stOK F sn cn (t - r - 1) h r t) (hte : t ≤ e) (hk : okI F sn cn (e - t) h t e) : okI F sn cn (e - r) h r e := by
  obtain ⟨a1, a2, a3, a5, a6⟩ := hs
  obtain ⟨m, hm⟩ : ∃ m, e - r = m + 1 := ⟨e - r - 1, by omega⟩
  rw [hm]
  refine Or.inr ⟨t, ⟨a1, a2, a3, hte, fun z => ?_, a6⟩, okI_le (by omega) hk⟩
  obtain ⟨b1, h', b2, b3⟩ := a5 z
  exact ⟨b1, h', b2, okI_le (by omega) b3⟩
theorem fndW_wd {p j : Nat} : ∀ (ws : List (List Nat)) (q : Nat), fndW B N p ws q = some j → q ≤ j ∧ wdIs B N p (ws.getD (j - q) []) = true
  | [], q, h => by cases h
  | w :: s, q, h => by
    unfold fndW at h
    split at h
    · rename_i hw
      cases h
      exact ⟨Nat.le_refl _, by rw [Nat.sub_self]; exact hw⟩
    · obtain ⟨h1, h2⟩ := fndW_wd s (q + 1) h
      refine ⟨by omega, ?_⟩
      rw [show j - q = (j - (q + 1)) + 1 by omega]
      exact h2
theorem rWrd_len {ws : List (List Nat)} {p j p1 : Nat} (hp : p ≤ N) (h : rWrd B N ws p = .inl (j, p1)) : p1 ≤ N ∧ p + (ws.getD j []).length ≤ p1 := by
  have hle : skp B N p ≤ N := endF_le hp
  have hge := skp_ge (B := B) (N := N) (p := p)
  unfold rWrd at h
  split at h
  · rename_i k hk
    cases h
    obtain ⟨h1, h2⟩ := fndW_wd ws 0 hk
    have h3 := (wdIs_iff.mp h2).1
    rw [Nat.sub_zero] at h3
    have h4 := endF_ge (P := isLt) (B := B) (N := N) (p := skp B N p)
    exact ⟨endF_le hle, by omega⟩
  · cases h
/-- a body of a step that is no again -/
theorem bd_ok (hk : k < 7) (hr : r < σ.1) (h0 : σ.2 0 r = some k) (hs7 : sn ≤ 7) (hc6 : cn ≤ 6) {p p' : Nat} (hp : p ≤ N) (h : bdW B N sn cn f k r σ p = .inl (τ, p')) : τ.1 = σ.1 ∧ (∀ j l, l ≠ r → τ.2 j l = σ.2 j l) ∧ τ.2 0 r = some k ∧ rwOK τ.2 sn cn r ∧ p' ≤ N ∧ (if k ≤ 5 then p + 1 else p) ≤ p' := by
  unfold bdW at h
  rw [if_neg (by omega)] at h
  by_cases h5 : k = 5
  · rw [if_pos h5] at h
    obtain ⟨v1, hn, rfl, g1, g2⟩ := nmW_inv hp h
    have hv := rNum_lt (by omega) hn
    refine ⟨rfl, fun j l hl => putW_r hl, by rw [putW_i (by decide)]; exact h0, ⟨k, v1, 0, 0, by rw [putW_i (by decide)]; exact h0, by omega, fun _ => putW_at, fun z => by omega, fun _ => hv, fun z => by omega, fun z => by omega, fun z => by omega⟩, g2, by rw [if_pos (by omega)]; exact g1⟩
  rw [if_neg h5] at h
  by_cases h4 : k ≤ 4
  · rw [if_pos h4] at h
    obtain ⟨σ1, p1, h1, h2⟩ := thW_inv h
    obtain ⟨c1, hn, rfl, g1, g2⟩ := nmW_inv hp h1
    have hc := rNum_lt (by omega) hn
    unfold vlW at h2
    by_cases k0 : k = 0
    · rw [if_pos k0] at h2
      obtain ⟨v1, hn2, rfl, g3, g4⟩ := nmW_inv g2 h2
      have hv : v1 ≤ 23 := rNum_1 (H := 23) (by decide) hn2
      refine ⟨rfl, fun j l hl => by rw [putW_r hl, putW_r hl], by rw [putW_i (by decide), putW_i (by decide)]; exact h0, ⟨k, c1, v1, 0, by rw [putW_i (by decide), putW_i (by decide)]; exact h0, by omega, fun _ => by rw [putW_i (by decide)]; exact putW_at, fun _ => hc, fun z => by omega, fun _ => ⟨putW_at, by omega⟩, fun z => by omega, fun z => by omega⟩, g4, by rw [if_pos (by omega)]; omega⟩
    · rw [if_neg k0] at h2
      by_cases k4 : k = 4
      · rw [if_pos k4] at h2
        obtain ⟨σ2, p2, h3, h5⟩ := thW_inv h2
        obtain ⟨t1, hn2, rfl, g3, g4⟩ := nmW_inv g2 h3
        obtain ⟨v1, hn3, rfl, g5, g6⟩ := nmW_inv g4 h5
        have ht := rNum_lt (by omega) hn2
        have hv : v1 ≤ 9 := rNum_1 (H := 9) (by decide) hn3
        refine ⟨rfl, fun j l hl => by rw [putW_r hl, putW_r hl, putW_r hl], by rw [putW_i (by decide), putW_i (by decide), putW_i (by decide)]; exact h0, ⟨k, c1, v1, t1, by rw [putW_i (by decide), putW_i (by decide), putW_i (by decide)]; exact h0, by omega, fun _ => by rw [putW_i (by decide), putW_i (by decide)]; exact putW_at, fun _ => hc, fun z => by omega, fun z => by omega, fun _ => ⟨putW_at, hv, by rw [putW_i (by decide)]; exact putW_at, ht⟩, fun z => by omega⟩, g6, by rw [if_pos (by omega)]; omega⟩
      · rw [if_neg k4] at h2
        cases h2
        refine ⟨rfl, fun j l hl => putW_r hl, by rw [putW_i (by decide)]; exact h0, ⟨k, c1, 0, 0, by rw [putW_i (by decide)]; exact h0, by omega, fun _ => putW_at, fun _ => hc, fun z => by omega, fun z => by omega, fun z => by omega, fun z => by omega⟩, g2, by rw [if_pos (by omega)]; exact g1⟩
  · rw [if_neg h4] at h
    cases h
    refine ⟨rfl, fun j l hl => rfl, h0, ⟨k, 0, 0, 0, h0, by omega, fun z => by omega, fun z => by omega, fun z => by omega, fun z => by omega, fun z => by omega, fun z => by omega⟩, hp, by rw [if_neg (by omega)]; exact Nat.le_refl _⟩
theorem ws2_len : ∀ k, k < 8 → 3 ≤ (ws2.getD k []).length ∧ (k = 6 → 4 ≤ (ws2.getD k []).length) ∧ (k = 7 → 5 ≤ (ws2.getD k []).length) := by decide
theorem ed_inv {p p' : Nat} (h : edW B N r σ p = .inl (τ, p')) : τ = putW σ 4 r σ.1 ∧ p + 1 ≤ p' ∧ p' ≤ N := by
  obtain ⟨σ1, p1, h1, h2⟩ := thW_inv h
  cases h1
  exact sgW_inv (by decide) h2
/-- a step that is no again -/
theorem st_plain {h : Nat} (hs7 : sn ≤ 7) (hc6 : cn ≤ 6) {p p1 p' : Nat} (hp : p ≤ N) (hw : rWrd B N ws2 p = .inl (k, p1)) (hk : k < 7) (hb : thW (bdW B N sn cn f k σ.1) (edW B N σ.1) (alW σ k) p1 = .inl (τ, p')) : p' ≤ N ∧ p + 5 * τ.1 ≤ p' + 5 * σ.1 ∧ σ.1 < τ.1 ∧ (∀ j l, l < σ.1 → τ.2 j l = σ.2 j l) ∧ (∀ j l, τ.1 ≤ l → τ.2 j l = σ.2 j l) ∧ stOK τ.2 sn cn (τ.1 - σ.1 - 1) h σ.1 τ.1 := by
  obtain ⟨q1, q2⟩ := rWrd_len hp hw
  obtain ⟨w1, w2, w3⟩ := ws2_len k (by omega)
  obtain ⟨σ1, p2, h1, h2⟩ := thW_inv hb
  have ha : (alW σ k).1 = σ.1 + 1 := rfl
  obtain ⟨b1, b2, b3, b4, b5, b6⟩ := bd_ok hk (r := σ.1) (σ := alW σ k) (by omega) putW_at hs7 hc6 q1 h1
  obtain ⟨rfl, c2, c3⟩ := ed_inv h2
  have ht : (putW σ1 4 σ.1 σ1.1).1 = σ.1 + 1 := b1.trans ha
  rw [ht]
  refine ⟨c3, ?_, by omega, fun j l hl => ?_, fun j l hl => ?_, ?_⟩
  · by_cases h5 : k ≤ 5
    · rw [if_pos h5] at b6; omega
    · rw [if_neg h5] at b6
      have := w2 (by omega)
      omega
  · rw [putW_r (by omega), b2 j l (by omega)]
    exact putW_r (by omega)
  · rw [putW_r (by omega), b2 j l (by omega)]
    exact putW_r (by omega)
  · refine ⟨rwOK_cg (fun j hj => putW_i (by omega)) b4, by rw [putW_at, b1]; rfl, by omega, fun z => ?_, fun _ => rfl⟩
    rw [putW_i (by decide), b3] at z
    exact absurd (Option.some.inj z) (by omega)
/-- an again -/
theorem st_again {h : Nat} (hf : PSb N sn cn h f) {p p1 p' : Nat} (hp : p ≤ N) (hw : rWrd B N ws2 p = .inl (7, p1)) (hb : thW (bdW B N sn cn f 7 σ.1) (edW B N σ.1) (alW σ 7) p1 = .inl (τ, p')) : p' ≤ N ∧ p + 5 * τ.1 ≤ p' + 5 * σ.1 ∧ σ.1 < τ.1 ∧ (∀ j l, l < σ.1 → τ.2 j l = σ.2 j l) ∧ (∀ j l, τ.1 ≤ l → τ.2 j l = σ.2 j l) ∧ stOK τ.2 sn cn (τ.1 - σ.1 - 1) (h + 1) σ.1 τ.1 := by
  obtain ⟨q1, q2⟩ := rWrd_len hp hw
  have w3 := (ws2_len 7 (by decide)).2.2 rfl
  obtain ⟨σ1, p2, h1, h2⟩ := thW_inv hb
  obtain ⟨rfl, c2, c3⟩ := ed_inv h2
  unfold bdW at h1
  rw [if_pos rfl] at h1
  obtain ⟨σ2, p3, h3, h4⟩ := thW_inv h1
  obtain ⟨v1, hn, rfl, g1, g2⟩ := nmW_inv q1 h3
  have hv : v1 ≤ 60 := rNum_1 (H := 60) (by decide) hn
  obtain ⟨σ3, p4, h5, h6⟩ := thW_inv h4
  obtain ⟨rfl, g3, g4⟩ := sgW_inv (by decide) h5
  obtain ⟨τ1, p5, h7, h8⟩ := thW_inv h6
  obtain ⟨f1, f2, f3, f4, f5, f6, f7⟩ := hf _ _ _ _ g4 h7
  obtain ⟨σ4, p6, h9, h10⟩ := thW_inv h8
  obtain ⟨rfl, g5, g6⟩ := sgW_inv (by decide) h9
  cases h10
  have ha : (putW (alW σ 7) 2 σ.1 v1).1 = σ.1 + 1 := rfl
  rw [ha] at f3 f4 f5 f7
  have ht : ∀ j l, l ≠ σ.1 → (putW (putW σ4 3 σ.1 σ4.1) 4 σ.1 (putW σ4 3 σ.1 σ4.1).1).2 j l = σ4.2 j l := fun j l hl => by rw [putW_r hl, putW_r hl]
  have hr0 : σ4.2 0 σ.1 = some 7 := by rw [f5 0 σ.1 (by omega), putW_i (by decide)]; exact putW_at
  have hr2 : σ4.2 2 σ.1 = some v1 := by rw [f5 2 σ.1 (by omega)]; exact putW_at
  show p' ≤ N ∧ p + 5 * σ4.1 ≤ p' + 5 * σ.1 ∧ σ.1 < σ4.1 ∧ _ ∧ (∀ j l, σ4.1 ≤ l → _) ∧ stOK _ sn cn (σ4.1 - σ.1 - 1) (h + 1) σ.1 σ4.1
  refine ⟨c3, by omega, by omega, fun j l hl => ?_, fun j l hl => ?_, ?_⟩
  · rw [ht j l (by omega), f5 j l (by omega), putW_r (by omega)]
    exact putW_r (by omega)
  · rw [ht j l (by omega), f6 j l hl, putW_r (by omega)]
    exact putW_r (by omega)
  · refine ⟨⟨7, 0, v1, 0, by rw [putW_i (by decide), putW_i (by decide)]; exact hr0, by decide, fun z => absurd z (by decide), fun z => absurd z (by decide), fun z => absurd z (by decide), fun z => absurd z (by decide), fun z => absurd z (by decide), fun _ => ⟨by rw [putW_i (by decide), putW_i (by decide)]; exact hr2, hv⟩⟩, putW_at, by omega, fun _ => ⟨by rw [putW_i (by decide)]; exact putW_at, h, rfl, ?_⟩, fun z => absurd (by rw [putW_i (by decide), putW_i (by decide)]; exact hr0) z⟩
    rw [show σ4.1 - σ.1 - 1 = σ4.1 - (σ.1 + 1) by omega]
    exact okI_cg _ _ _ _ (fun j l h1 h2 => ht j l (by omega)) f7
theorem PSs_0 (hs7 : sn ≤ 7) (hc6 : cn ≤ 6) : PSs N sn cn 0 (rSt B N sn cn none) := by
  intro σ p τ p' hp h
  unfold rSt at h
  split at h
  · cases h
  · rename_i k p1 hw
    have hk : k < 8 := rWrd_lt hw
    dsimp only at h
    split at h
    · cases h
    · rename_i h7
      exact st_plain hs7 hc6 hp hw (by omega) h
theorem PSs_s {h : Nat} (hs7 : sn ≤ 7) (hc6 : cn ≤ 6) (hf : PSb N sn cn h f) : PSs N sn cn (h + 1) (rSt B N sn cn (some f)) := by
  intro σ p τ p' hp hh
  unfold rSt at hh
  split at hh
  · cases hh
  · rename_i k p1 hw
    have hk : k < 8 := rWrd_lt hw
    dsimp only at hh
    by_cases h7 : k = 7
    · subst h7
      exact st_again hf hp hw hh
    · exact st_plain hs7 hc6 hp hw (by omega) hh
theorem PSb_l {h : Nat} {s : Int32} (hU : PSs N sn cn h U) : ∀ m, PSb N sn cn h (rWl B N s U m) := by
  intro m
  induction m with
  | zero =>
    intro σ p τ p' hp hh
    cases hh
    exact ⟨hp, Nat.le_refl _, Nat.le_refl _, Nat.le_refl _, fun _ _ _ => rfl, fun _ _ _ => rfl, by rw [Nat.sub_self]; rfl⟩
  | succ m ih =>
    intro σ p τ p' hp hh
    by_cases hc : cur B N (skp B N p) = s
    · rw [rWl_0 hc] at hh
      cases hh
      have hge := skp_ge (B := B) (N := N) (p := p)
      exact ⟨endF_le hp, hge, by omega, Nat.le_refl _, fun _ _ _ => rfl, fun _ _ _ => rfl, by rw [Nat.sub_self]; rfl⟩
    · rcases hu : U σ p with ⟨τ1, p1⟩ | e
      · rw [rWl_s hc hu] at hh
        obtain ⟨a1, a2, a3, a4, a5, a6⟩ := hU _ _ _ _ hp hu
        obtain ⟨b1, b2, b3, b4, b5, b6, b7⟩ := ih _ _ _ _ a1 hh
        refine ⟨b1, by omega, by omega, by omega, fun j l hl => ?_, fun j l hl => ?_, ?_⟩
        · rw [b5 j l (by omega), a4 j l hl]
        · rw [b6 j l hl, a5 j l (by omega)]
        · exact okI_join (stOK_cg (fun j l h1 h2 => b5 j l h2) a6) b4 b7
      · rw [rWl_r hc hu] at hh
        cases hh
theorem PSs_all (hs7 : sn ≤ 7) (hc6 : cn ≤ 6) : ∀ h, PSs N sn cn h (rSt B N sn cn (sB B N sn cn h))
  | 0 => PSs_0 hs7 hc6
  | h + 1 => PSs_s hs7 hc6 (PSb_l (PSs_all hs7 hc6 h) 31)
theorem rSt_skp {p : Nat} : rSt B N sn cn S σ (skp B N p) = rSt B N sn cn S σ p := by
  unfold rSt rWrd
  rw [skp_skp]
theorem rWl_skp {s : Int32} {m p : Nat} (hU : ∀ σ p, U σ (skp B N p) = U σ p) : rWl B N s U (m + 1) σ (skp B N p) = rWl B N s U (m + 1) σ p := by
  rw [rWl, rWl, skp_skp, hU]
end Wk

