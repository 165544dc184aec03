/-! the relation in five pieces, and how each of them is kept -/
def RSo (α : Nat → Int → Int) (ρ : Int → Int) : Prop := α 0 4 = ρ 0 ∧ α 0 5 = ρ 1
def RSw (α : Nat → Int → Int) (ρ : Int → Int) : Prop := α 1 0 = ρ 2 ∧ (0 ≤ ρ 2 ∧ ρ 2 ≤ 24) ∧ (∀ w, 0 ≤ w → w < ρ 2 → α 2 w = ρ (4 + 11 * w + 0) ∧ α 3 w = ρ (4 + 11 * w + 1) ∧ α 4 w = ρ (4 + 11 * w + 2) ∧ (0 ≤ α 2 w ∧ α 2 w ≤ 2) ∧ (0 ≤ α 3 w ∧ α 3 w ≤ 2) ∧ 0 ≤ α 4 w ∧ α 4 w ≤ 8) ∧ (∀ w p, 0 ≤ w → w < ρ 2 → 0 ≤ p → p < α 4 w → α 5 (w * 8 + p) = ρ (4 + 11 * w + (3 + p)) ∧ 1 ≤ α 5 (w * 8 + p))
def RSe (α : Nat → Int → Int) (ρ : Int → Int) : Prop := ∀ e, 0 ≤ e → e < 18 → α 6 e = 27 * ρ (268 + 2 * e) + ρ (268 + 2 * e + 1) ∧ (0 ≤ ρ (268 + 2 * e) ∧ ρ (268 + 2 * e) ≤ 26) ∧ (0 ≤ ρ (268 + 2 * e + 1) ∧ ρ (268 + 2 * e + 1) ≤ 26) ∧ (ρ (268 + 2 * e) = 0 → ρ (268 + 2 * e + 1) = 0)
def RSt (α : Nat → Int → Int) (ρ : Int → Int) : Prop := α 7 0 = ρ 3 ∧ (0 ≤ ρ 3 ∧ ρ 3 ≤ 20) ∧ (α 7 1 = hc ρ (ρ 3)) ∧ (∀ i, 0 ≤ i → i < ρ 3 → ρ (304 + 14 * i + 0) = 1 → α 8 i = hc ρ i ∧ α 14 (hc ρ i) = i ∧ α 12 (hc ρ i) = ρ (304 + 14 * i + 1) ∧ α 13 (hc ρ i) = ρ (304 + 14 * i + 2) ∧ HW (ρ 2) (α 15 (hc ρ i)) (ρ (304 + 14 * i + 3)) ∧ (0 ≤ ρ (304 + 14 * i + 1) ∧ ρ (304 + 14 * i + 1) ≤ 2) ∧ (0 ≤ ρ (304 + 14 * i + 2) ∧ ρ (304 + 14 * i + 2) ≤ 9)) ∧ (∀ i, 0 ≤ i → i < ρ 3 → ¬ ρ (304 + 14 * i + 0) = 1 → α 8 i = -1 ∧ α 10 i = ρ (304 + 14 * i + 1) ∧ (0 ≤ α 10 i ∧ α 10 i ≤ 10) ∧ 0 ≤ α 9 i ∧ α 9 i + α 10 i ≤ 60) ∧ (∀ i p, 0 ≤ i → i < ρ 3 → ¬ ρ (304 + 14 * i + 0) = 1 → 0 ≤ p → p < α 10 i → α 11 (α 9 i + p) = 96 + ρ (304 + 14 * i + (4 + p)))
def RSn (α : Nat → Int → Int) (ρ : Int → Int) : Prop := ∀ t, 0 ≤ t → t < 10 → α 16 t = ρ (584 + 2 * t) ∧ α 17 t = ρ (584 + 2 * t + 1) ∧ (0 ≤ ρ (584 + 2 * t) ∧ ρ (584 + 2 * t) ≤ 1) ∧ (0 ≤ ρ (584 + 2 * t + 1) ∧ ρ (584 + 2 * t + 1) ≤ 2)
section PT
variable {α α' : Nat → Int → Int} {ρ ρ' : Int → Int}
theorem RS.parts (R : RS α ρ) : RSo α ρ ∧ RSw α ρ ∧ RSe α ρ ∧ RSt α ρ ∧ RSn α ρ := ⟨⟨R.once, R.fil⟩, ⟨R.known, R.kr, R.word, R.stem⟩, R.ending, ⟨R.items, R.ir, R.holes, R.hole, R.plain, R.sign⟩, R.num⟩
theorem RS.of (a : RSo α ρ) (b : RSw α ρ) (c : RSe α ρ) (d : RSt α ρ) (e : RSn α ρ) : RS α ρ := ⟨a.1, a.2, b.1, b.2.1, b.2.2.1, b.2.2.2, c, d.1, d.2.1, d.2.2.1, d.2.2.2.1, d.2.2.2.2.1, d.2.2.2.2.2, e⟩
theorem RSo.cong (R : RSo α ρ) (hα : α' 0 = α 0) (h0 : ρ' 0 = ρ 0) (h1 : ρ' 1 = ρ 1) : RSo α' ρ' := by
  unfold RSo
  rw [hα, h0, h1]; exact R
theorem RSw.cong (R : RSw α ρ) (hα : ∀ o, 1 ≤ o → o ≤ 5 → α' o = α o) (h2 : ρ' 2 = ρ 2) (h : ∀ z, 4 ≤ z → z < 268 → ρ' z = ρ z) : RSw α' ρ' := by
  obtain ⟨R1, R2, R3, R4⟩ := R
  refine ⟨by rw [hα 1 (by omega) (by omega), h2]; exact R1, by rw [h2]; exact R2, fun w h0 h1 => ?_, fun w p h0 h1 p0 p1 => ?_⟩
  · rw [h2] at h1
    rw [hα 2 (by omega) (by omega), hα 3 (by omega) (by omega), hα 4 (by omega) (by omega), h _ (by omega) (by omega), h _ (by omega) (by omega), h _ (by omega) (by omega)]
    exact R3 w h0 h1
  · rw [h2] at h1
    rw [hα 4 (by omega) (by omega)] at p1
    have h8 := R3 w h0 h1
    rw [hα 5 (by omega) (by omega), h _ (by omega) (by omega)]
    exact R4 w p h0 h1 p0 p1
theorem RSe.cong (R : RSe α ρ) (hα : α' 6 = α 6) (h : ∀ z, 268 ≤ z → z < 304 → ρ' z = ρ z) : RSe α' ρ' := by
  intro e h0 h1
  rw [hα, h (268 + 2 * e) (by omega) (by omega), h (268 + 2 * e + 1) (by omega) (by omega)]
  exact R e h0 h1
theorem hcn_flag (n : Nat) (h : ∀ k : Nat, k < n → ρ' (304 + 14 * (k : Int) + 0) = ρ (304 + 14 * (k : Int) + 0)) : hcn ρ' n = hcn ρ n := by
  induction n with
  | zero => rfl
  | succ n ih =>
    unfold hcn
    rw [ih (fun k hk => h k (by omega)), h n (by omega)]
theorem hc_flag {i : Int} (h : ∀ k, 0 ≤ k → k < i → ρ' (304 + 14 * k + 0) = ρ (304 + 14 * k + 0)) : hc ρ' i = hc ρ i := hcn_flag _ fun k hk => h _ (by omega) (by omega)
theorem HW.mono {K K' a b : Int} (h : HW K a b) (hk : K ≤ K') : HW K' a b := by
  rcases h with h | ⟨h1, h2, h3⟩
  · exact Or.inl h
  · exact Or.inr ⟨h1, by omega, h3⟩
theorem RSt.cong (R : RSt α ρ) (hα : ∀ o, 7 ≤ o → o ≤ 15 → α' o = α o) (h2 : ρ 2 ≤ ρ' 2) (h3 : ρ' 3 = ρ 3) (h : ∀ z, 304 ≤ z → z < 584 → ρ' z = ρ z) : RSt α' ρ' := by
  obtain ⟨R1, R2, R3, R4, R5, R6⟩ := R
  have hh : ∀ i, i ≤ 20 → hc ρ' i = hc ρ i := fun i hi => hc_flag fun k k0 k1 => h _ (by omega) (by omega)
  refine ⟨by rw [hα 7 (by omega) (by omega), h3]; exact R1, by rw [h3]; exact R2, by rw [hα 7 (by omega) (by omega), h3, hh _ R2.2]; exact R3, fun i i0 i1 e => ?_, fun i i0 i1 e => ?_, fun i p i0 i1 e p0 p1 => ?_⟩
  · rw [h3] at i1
    rw [h _ (by omega) (by omega)] at e
    rw [hα 8 (by omega) (by omega), hα 14 (by omega) (by omega), hα 12 (by omega) (by omega), hα 13 (by omega) (by omega), hα 15 (by omega) (by omega), hh i (by omega), h (304 + 14 * i + 1) (by omega) (by omega), h (304 + 14 * i + 2) (by omega) (by omega), h (304 + 14 * i + 3) (by omega) (by omega)]
    obtain ⟨a, b, c, d, e', f⟩ := R4 i i0 i1 e
    exact ⟨a, b, c, d, e'.mono h2, f⟩
  · rw [h3] at i1
    rw [h _ (by omega) (by omega)] at e
    rw [hα 8 (by omega) (by omega), hα 10 (by omega) (by omega), hα 9 (by omega) (by omega), h (304 + 14 * i + 1) (by omega) (by omega)]
    exact R5 i i0 i1 e
  · rw [h3] at i1
    rw [h _ (by omega) (by omega)] at e
    rw [hα 10 (by omega) (by omega)] at p1
    have h8 := R5 i i0 i1 e
    rw [hα 11 (by omega) (by omega), hα 9 (by omega) (by omega), h (304 + 14 * i + (4 + p)) (by omega) (by omega)]
    exact R6 i p i0 i1 e p0 p1
theorem RSn.cong (R : RSn α ρ) (h16 : α' 16 = α 16) (h17 : α' 17 = α 17) (h : ∀ z, 584 ≤ z → z < 604 → ρ' z = ρ z) : RSn α' ρ' := by
  intro t h0 h1
  rw [h16, h17, h (584 + 2 * t) (by omega) (by omega), h (584 + 2 * t + 1) (by omega) (by omega)]
  exact R t h0 h1
theorem RSn.upd (R : RSn α ρ) {t a b : Int} (h16 : ∀ z, α' 16 z = if z = t then a else α 16 z) (h17 : ∀ z, α' 17 z = if z = t then b else α 17 z) (h : ∀ z, 584 ≤ z → z < 604 → ρ' z = if z = 584 + 2 * t + 1 then b else if z = 584 + 2 * t then a else ρ z) (ha : 0 ≤ a ∧ a ≤ 1) (hb : 0 ≤ b ∧ b ≤ 2) : RSn α' ρ' := by
  intro s h0 h1
  rw [h16, h17, h (584 + 2 * s) (by omega) (by omega), h (584 + 2 * s + 1) (by omega) (by omega)]
  by_cases hs : s = t
  · subst hs
    rw [if_pos rfl, if_pos rfl, if_neg (by omega), if_pos rfl, if_pos rfl]
    exact ⟨rfl, rfl, ha, hb⟩
  · rw [if_neg hs, if_neg hs, if_neg (by omega), if_neg (by omega), if_neg (by omega), if_neg (by omega)]
    exact R s h0 h1
theorem RSe.upd (R : RSe α ρ) {t a b : Int} (h6 : ∀ z, α' 6 z = if z = t then 27 * a + b else α 6 z) (h : ∀ z, 268 ≤ z → z < 304 → ρ' z = if z = 268 + 2 * t + 1 then b else if z = 268 + 2 * t then a else ρ z) (ha : 0 ≤ a ∧ a ≤ 26) (hb : 0 ≤ b ∧ b ≤ 26) (hab : a = 0 → b = 0) : RSe α' ρ' := by
  intro s h0 h1
  rw [h6, h (268 + 2 * s) (by omega) (by omega), h (268 + 2 * s + 1) (by omega) (by omega)]
  by_cases hs : s = t
  · subst hs
    rw [if_pos rfl, if_neg (by omega), if_pos rfl, if_pos rfl]
    exact ⟨rfl, ha, hb, hab⟩
  · rw [if_neg hs, if_neg (by omega), if_neg (by omega), if_neg (by omega), if_neg (by omega)]
    exact R s h0 h1
/-- a word is laid into the hole of an item, or taken out -/
theorem RSt.lay (R : RSt α ρ) {i x y : Int} (i0 : 0 ≤ i) (i1 : i < ρ 3) (e : ρ (304 + 14 * i + 0) = 1) (hα : ∀ o, 7 ≤ o → o ≤ 14 → α' o = α o) (h15 : ∀ z, α' 15 z = if z = hc ρ i then x else α 15 z) (h2 : ρ' 2 = ρ 2) (h3 : ρ' 3 = ρ 3) (h : ∀ z, 304 ≤ z → z < 584 → ρ' z = if z = 304 + 14 * i + 3 then y else ρ z) (hw : HW (ρ 2) x y) : RSt α' ρ' := by
  obtain ⟨R1, R2, R3, R4, R5, R6⟩ := R
  have hf : ∀ k, 0 ≤ k → k < 20 → ρ' (304 + 14 * k + 0) = ρ (304 + 14 * k + 0) := fun k k0 k1 => by
    rw [h _ (by omega) (by omega), if_neg (by omega)]
  have hh : ∀ i, i ≤ 20 → hc ρ' i = hc ρ i := fun i hi => hc_flag fun k k0 k1 => hf k k0 (by omega)
  have lt : ∀ a b, 0 ≤ a → a < b → ρ (304 + 14 * a + 0) = 1 → hc ρ a < hc ρ b := fun a b a0 ab ea => by
    have h1 := hc_succ (ρ := ρ) a0
    rw [if_pos ea] at h1
    have := hc_mono ρ (show 0 ≤ a + 1 by omega) (show a + 1 ≤ b by omega)
    omega
  refine ⟨by rw [hα 7 (by omega) (by omega), h3]; exact R1, by rw [h3]; exact R2, by rw [hα 7 (by omega) (by omega), h3, hh _ R2.2]; exact R3, fun j j0 j1 ej => ?_, fun j j0 j1 ej => ?_, fun j p j0 j1 ej p0 p1 => ?_⟩
  · rw [h3] at j1
    rw [hf j j0 (by omega)] at ej
    obtain ⟨a, b, c, d, e', f⟩ := R4 j j0 j1 ej
    rw [hα 8 (by omega) (by omega), hα 14 (by omega) (by omega), hα 12 (by omega) (by omega), hα 13 (by omega) (by omega), hh j (by omega), h15, h (304 + 14 * j + 1) (by omega) (by omega), h (304 + 14 * j + 2) (by omega) (by omega), h (304 + 14 * j + 3) (by omega) (by omega), h2, if_neg (by omega), if_neg (by omega)]
    refine ⟨a, b, c, d, ?_, f⟩
    by_cases hji : j = i
    · subst hji
      rw [if_pos rfl, if_pos rfl]
      exact hw
    · have hne : hc ρ j ≠ hc ρ i := by
        rcases Int.lt_or_lt_of_ne hji with q | q
        · have := lt j i j0 q ej; omega
        · have := lt i j i0 q e; omega
      rw [if_neg hne, if_neg (by omega)]
      exact e'
  · rw [h3] at j1
    rw [hf j j0 (by omega)] at ej
    rw [hα 8 (by omega) (by omega), hα 10 (by omega) (by omega), hα 9 (by omega) (by omega), h (304 + 14 * j + 1) (by omega) (by omega), if_neg (by omega)]
    exact R5 j j0 j1 ej
  · rw [h3] at j1
    rw [hf j j0 (by omega)] at ej
    rw [hα 10 (by omega) (by omega)] at p1
    have h8 := R5 j j0 j1 ej
    have hji : j ≠ i := fun q => ej (by rw [q]; exact e)
    rw [hα 11 (by omega) (by omega), hα 9 (by omega) (by omega), h (304 + 14 * j + (4 + p)) (by omega) (by omega), if_neg (by omega)]
    exact R6 j p j0 j1 ej p0 p1
/-- one word more -/
theorem RSw.add (R : RSw α ρ) {kd gd ln : Int} {L : Int → Int} (hK : ρ 2 < 24) (h1 : α' 1 0 = ρ 2 + 1) (h2 : ∀ z, α' 2 z = if z = ρ 2 then kd else α 2 z) (h3 : ∀ z, α' 3 z = if z = ρ 2 then gd else α 3 z) (h4 : ∀ z, α' 4 z = if z = ρ 2 then ln else α 4 z) (h5 : ∀ z, z < ρ 2 * 8 → α' 5 z = α 5 z) (h5n : ∀ p, 0 ≤ p → p < 8 → α' 5 (ρ 2 * 8 + p) = L p)
    (r2 : ρ' 2 = ρ 2 + 1) (r : ∀ z, 4 ≤ z → z < 4 + 11 * ρ 2 → ρ' z = ρ z) (rk : ρ' (4 + 11 * ρ 2 + 0) = kd) (rg : ρ' (4 + 11 * ρ 2 + 1) = gd) (rl : ρ' (4 + 11 * ρ 2 + 2) = ln) (rL : ∀ p, 0 ≤ p → p < ln → ρ' (4 + 11 * ρ 2 + (3 + p)) = L p ∧ 1 ≤ L p) (hk : 0 ≤ kd ∧ kd ≤ 2) (hg : 0 ≤ gd ∧ gd ≤ 2) (hl : 0 ≤ ln ∧ ln ≤ 8) : RSw α' ρ' := by
  obtain ⟨R1, R2, R3, R4⟩ := R
  refine ⟨by rw [h1, r2], by omega, fun w w0 w1 => ?_, fun w p w0 w1 p0 p1 => ?_⟩
  · rw [r2] at w1
    rw [h2, h3, h4]
    by_cases hw : w = ρ 2
    · rw [hw, if_pos rfl, if_pos rfl, if_pos rfl, rk, rg, rl]
      exact ⟨rfl, rfl, rfl, hk, hg, hl⟩
    · rw [if_neg hw, if_neg hw, if_neg hw, r _ (by omega) (by omega), r _ (by omega) (by omega), r _ (by omega) (by omega)]
      exact R3 w w0 (by omega)
  · rw [r2] at w1
    rw [h4] at p1
    by_cases hw : w = ρ 2
    · rw [if_pos hw] at p1
      rw [hw, h5n p p0 (by omega), (rL p p0 p1).1]
      exact ⟨rfl, (rL p p0 p1).2⟩
    · rw [if_neg hw] at p1
      have h8 := R3 w w0 (by omega)
      rw [h5 _ (by omega), r _ (by omega) (by omega)]
      exact R4 w p w0 (by omega) p0 p1
end PT
