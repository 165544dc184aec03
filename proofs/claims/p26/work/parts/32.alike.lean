/-! the two states: what is alike in them, and what each of them keeps -/
def nxt (l : Int) : Int := if l = 0 then 0 else l % 26 + 1
def nx2 (e : Int) : Int := 27 * nxt (e / 27) + nxt (e % 27)
def nsg (c : Int) : Int := if c < 97 then c else if c = 122 then 97 else c + 1
theorem nxt_r {l : Int} (h0 : 0 ≤ l) (h1 : l ≤ 26) : (l = 0 ∧ nxt l = 0) ∨ (1 ≤ l ∧ l < 26 ∧ nxt l = l + 1) ∨ (l = 26 ∧ nxt l = 1) := by
  unfold nxt
  split
  · omega
  · omega
theorem nx2_d {e : Int} (h0 : 0 ≤ e) (h1 : e ≤ 728) : nx2 e / 27 = nxt (e / 27) ∧ nx2 e % 27 = nxt (e % 27) := by
  have a := nxt_r (l := e / 27) (by omega) (by omega)
  have b := nxt_r (l := e % 27) (by omega) (by omega)
  unfold nx2
  omega
theorem nx2_0 {e : Int} (h0 : 0 ≤ e) (h1 : e ≤ 728) : nx2 e = 0 ↔ e = 0 := by
  have a := nxt_r (l := e / 27) (by omega) (by omega)
  have b := nxt_r (l := e % 27) (by omega) (by omega)
  unfold nx2
  omega
theorem nx2_inj {e d : Int} (h0 : 0 ≤ e) (h1 : e ≤ 728) (h2 : 0 ≤ d) (h3 : d ≤ 728) (h : nx2 e = nx2 d) : e = d := by
  have a := nxt_r (l := e / 27) (by omega) (by omega)
  have b := nxt_r (l := e % 27) (by omega) (by omega)
  have c := nxt_r (l := d / 27) (by omega) (by omega)
  have g := nxt_r (l := d % 27) (by omega) (by omega)
  unfold nx2 at h
  omega
def SR (α β : Nat → Int → Int) : Prop :=
  (β 0 4 = α 0 4 ∧ β 0 5 = α 0 5) ∧
  (β 1 0 = α 1 0 ∧ 0 ≤ α 1 0 ∧ α 1 0 ≤ 24) ∧
  (∀ w, 0 ≤ w → w < α 1 0 → β 2 w = α 2 w ∧ β 3 w = α 3 w ∧ β 4 w = α 4 w ∧ (0 ≤ α 2 w ∧ α 2 w ≤ 2) ∧ (1 ≤ α 4 w ∧ α 4 w ≤ 8)) ∧
  (∀ w p, 0 ≤ w → w < α 1 0 → 0 ≤ p → p < 8 → β 5 (w * 8 + p) = nxt (α 5 (w * 8 + p)) ∧ (p < α 4 w → 1 ≤ α 5 (w * 8 + p) ∧ α 5 (w * 8 + p) ≤ 26)) ∧
  (∀ e, 0 ≤ e → e < 18 → β 6 e = nx2 (α 6 e) ∧ (α 6 e = 0 ∨ (27 ≤ α 6 e ∧ α 6 e ≤ 728))) ∧
  (β 7 0 = α 7 0 ∧ β 7 1 = α 7 1 ∧ (0 ≤ α 7 0 ∧ α 7 0 ≤ 20) ∧ (0 ≤ α 7 1 ∧ α 7 1 ≤ 20)) ∧
  (∃ hc : Int → Int, hc 0 = 0 ∧ hc (α 7 0) = α 7 1 ∧ ∀ i, 0 ≤ i → i < α 7 0 → β 8 i = α 8 i ∧ ((α 8 i = -1 ∧ hc (i + 1) = hc i) ∨ (α 8 i = hc i ∧ hc (i + 1) = hc i + 1))) ∧
  (∀ i, 0 ≤ i → i < α 7 0 → α 8 i = -1 → β 9 i = α 9 i ∧ β 10 i = α 10 i ∧ (1 ≤ α 10 i ∧ α 10 i ≤ 10) ∧ 0 ≤ α 9 i ∧ α 9 i + α 10 i ≤ 60 ∧ ∀ p, 0 ≤ p → p < α 10 i → β 11 (α 9 i + p) = nsg (α 11 (α 9 i + p)) ∧ 97 ≤ α 11 (α 9 i + p) ∧ α 11 (α 9 i + p) ≤ 122) ∧
  (∀ h, 0 ≤ h → h < α 7 1 → β 12 h = α 12 h ∧ β 13 h = 9 - α 13 h ∧ β 14 h = α 14 h ∧ β 15 h = α 15 h ∧ (0 ≤ α 12 h ∧ α 12 h ≤ 2) ∧ (0 ≤ α 13 h ∧ α 13 h ≤ 9) ∧ (α 15 h = -1 ∨ (0 ≤ α 15 h ∧ α 15 h < α 1 0 ∧ α 2 (α 15 h) = α 12 h))) ∧
  (∀ h g, 0 ≤ h → h < α 7 1 → 0 ≤ g → g < α 7 1 → α 12 h = 0 → α 12 g = 0 → α 13 h = α 13 g → α 15 h ≠ -1 → α 15 g ≠ -1 → α 3 (α 15 h) = α 3 (α 15 g)) ∧
  (∀ t, 0 ≤ t → t ≤ 9 → β 16 t = α 16 (9 - t) ∧ β 17 t = α 17 (9 - t) ∧ (0 ≤ α 16 t ∧ α 16 t ≤ 1) ∧ (0 ≤ α 17 t ∧ α 17 t ≤ 2))
theorem SR.cong {α β α' β' : Nat → Int → Int} (h : SR α β) (ha : ∀ o, o < 18 → α' o = α o) (hb : ∀ o, o < 18 → β' o = β o) : SR α' β' := by
  unfold SR
  rw [ha 0 (by decide), ha 1 (by decide), ha 2 (by decide), ha 3 (by decide), ha 4 (by decide), ha 5 (by decide), ha 6 (by decide), ha 7 (by decide), ha 8 (by decide), ha 9 (by decide), ha 10 (by decide), ha 11 (by decide), ha 12 (by decide), ha 13 (by decide), ha 14 (by decide), ha 15 (by decide), ha 16 (by decide), ha 17 (by decide)]
  rw [hb 0 (by decide), hb 1 (by decide), hb 2 (by decide), hb 3 (by decide), hb 4 (by decide), hb 5 (by decide), hb 6 (by decide), hb 7 (by decide), hb 8 (by decide), hb 9 (by decide), hb 10 (by decide), hb 11 (by decide), hb 12 (by decide), hb 13 (by decide), hb 14 (by decide), hb 15 (by decide), hb 16 (by decide), hb 17 (by decide)]
  exact h
abbrev NR (μ ν : zM) : Prop := SR (fun o => μ (3 + o)) (fun o => ν (3 + o))
theorem ib_ok {a b : Int} (h : ¬ xx_isBelow a b = 0) : 0 ≤ a ∧ a < b := by
  unfold xx_isBelow at h
  split at h
  · exact absurd rfl h
  · split at h
    · omega
    · exact absurd rfl h
theorem ib_1 {a b : Int} (h0 : 0 ≤ a) (h1 : a < b) : xx_isBelow a b = 1 := by
  unfold xx_isBelow
  rw [if_neg (by omega), if_pos h1]
theorem ib_0 {a b : Int} (h : a < 0 ∨ b ≤ a) : xx_isBelow a b = 0 := by
  unfold xx_isBelow
  split
  · rfl
  · rw [if_neg (by omega)]
theorem kn_ok {μ : zM} {w : Int} (h : ¬ xx_knows μ w = 0) : 0 ≤ w ∧ w < μ 4 0 ∧ w < 24 := by
  unfold xx_knows at h
  split at h
  · exact absurd rfl h
  · split at h
    · split at h
      · omega
      · exact absurd rfl h
    · exact absurd rfl h
theorem hh_ok {μ : zM} {w : Int} (h : ¬ xx_hasHole μ w = 0) : 0 ≤ w ∧ w < μ 10 1 ∧ w < 20 := by
  unfold xx_hasHole at h
  split at h
  · exact absurd rfl h
  · split at h
    · split at h
      · omega
      · exact absurd rfl h
    · exact absurd rfl h
theorem hi_ok {μ : zM} {w : Int} (h : ¬ xx_hasItem μ w = 0) : 0 ≤ w ∧ w < μ 10 0 ∧ w < 20 := by
  unfold xx_hasItem at h
  split at h
  · exact absurd rfl h
  · split at h
    · split at h
      · omega
      · exact absurd rfl h
    · exact absurd rfl h
section NN
variable {μ ν : zM}
theorem NR.once (N : NR μ ν) : ν 3 4 = μ 3 4 := N.1.1
theorem NR.fil (N : NR μ ν) : ν 3 5 = μ 3 5 := N.1.2
theorem NR.kn (N : NR μ ν) : ν 4 0 = μ 4 0 := N.2.1.1
theorem NR.knb (N : NR μ ν) : 0 ≤ μ 4 0 ∧ μ 4 0 ≤ 24 := N.2.1.2
theorem NR.wd (N : NR μ ν) {w : Int} (h0 : 0 ≤ w) (h1 : w < μ 4 0) : ν 5 w = μ 5 w ∧ ν 6 w = μ 6 w ∧ ν 7 w = μ 7 w ∧ (0 ≤ μ 5 w ∧ μ 5 w ≤ 2) ∧ (1 ≤ μ 7 w ∧ μ 7 w ≤ 8) := N.2.2.1 w h0 h1
theorem NR.lt (N : NR μ ν) {w p : Int} (h0 : 0 ≤ w) (h1 : w < μ 4 0) (h2 : 0 ≤ p) (h3 : p < 8) : ν 8 (w * 8 + p) = nxt (μ 8 (w * 8 + p)) ∧ (p < μ 7 w → 1 ≤ μ 8 (w * 8 + p) ∧ μ 8 (w * 8 + p) ≤ 26) := N.2.2.2.1 w p h0 h1 h2 h3
theorem NR.en (N : NR μ ν) {e : Int} (h0 : 0 ≤ e) (h1 : e < 18) : ν 9 e = nx2 (μ 9 e) ∧ (μ 9 e = 0 ∨ (27 ≤ μ 9 e ∧ μ 9 e ≤ 728)) := N.2.2.2.2.1 e h0 h1
theorem NR.it (N : NR μ ν) : ν 10 0 = μ 10 0 := N.2.2.2.2.2.1.1
theorem NR.ho (N : NR μ ν) : ν 10 1 = μ 10 1 := N.2.2.2.2.2.1.2.1
theorem NR.itb (N : NR μ ν) : 0 ≤ μ 10 0 ∧ μ 10 0 ≤ 20 := N.2.2.2.2.2.1.2.2.1
theorem NR.hob (N : NR μ ν) : 0 ≤ μ 10 1 ∧ μ 10 1 ≤ 20 := N.2.2.2.2.2.1.2.2.2
theorem NR.hc (N : NR μ ν) : ∃ hc : Int → Int, hc 0 = 0 ∧ hc (μ 10 0) = μ 10 1 ∧ ∀ i, 0 ≤ i → i < μ 10 0 → ν 11 i = μ 11 i ∧ ((μ 11 i = -1 ∧ hc (i + 1) = hc i) ∨ (μ 11 i = hc i ∧ hc (i + 1) = hc i + 1)) := N.2.2.2.2.2.2.1
theorem NR.pl (N : NR μ ν) {i : Int} (h0 : 0 ≤ i) (h1 : i < μ 10 0) (h2 : μ 11 i = -1) : ν 12 i = μ 12 i ∧ ν 13 i = μ 13 i ∧ (1 ≤ μ 13 i ∧ μ 13 i ≤ 10) ∧ 0 ≤ μ 12 i ∧ μ 12 i + μ 13 i ≤ 60 ∧ ∀ p, 0 ≤ p → p < μ 13 i → ν 14 (μ 12 i + p) = nsg (μ 14 (μ 12 i + p)) ∧ 97 ≤ μ 14 (μ 12 i + p) ∧ μ 14 (μ 12 i + p) ≤ 122 := N.2.2.2.2.2.2.2.1 i h0 h1 h2
theorem NR.hl (N : NR μ ν) {h : Int} (h0 : 0 ≤ h) (h1 : h < μ 10 1) : ν 15 h = μ 15 h ∧ ν 16 h = 9 - μ 16 h ∧ ν 17 h = μ 17 h ∧ ν 18 h = μ 18 h ∧ (0 ≤ μ 15 h ∧ μ 15 h ≤ 2) ∧ (0 ≤ μ 16 h ∧ μ 16 h ≤ 9) ∧ (μ 18 h = -1 ∨ (0 ≤ μ 18 h ∧ μ 18 h < μ 4 0 ∧ μ 5 (μ 18 h) = μ 15 h)) := N.2.2.2.2.2.2.2.2.1 h h0 h1
theorem NR.gd (N : NR μ ν) {h g : Int} (h0 : 0 ≤ h) (h1 : h < μ 10 1) (g0 : 0 ≤ g) (g1 : g < μ 10 1) (k : μ 15 h = 0) (k' : μ 15 g = 0) (t : μ 16 h = μ 16 g) (f : μ 18 h ≠ -1) (f' : μ 18 g ≠ -1) : μ 6 (μ 18 h) = μ 6 (μ 18 g) := N.2.2.2.2.2.2.2.2.2.1 h g h0 h1 g0 g1 k k' t f f'
theorem NR.ti (N : NR μ ν) {t : Int} (h0 : 0 ≤ t) (h1 : t ≤ 9) : ν 19 t = μ 19 (9 - t) ∧ ν 20 t = μ 20 (9 - t) ∧ (0 ≤ μ 19 t ∧ μ 19 t ≤ 1) ∧ (0 ≤ μ 20 t ∧ μ 20 t ≤ 2) := N.2.2.2.2.2.2.2.2.2.2 t h0 h1
/-- an item is a plain word, or a hole that is there -/
theorem NR.ih (N : NR μ ν) {i : Int} (h0 : 0 ≤ i) (h1 : i < μ 10 0) : ν 11 i = μ 11 i ∧ (μ 11 i = -1 ∨ (0 ≤ μ 11 i ∧ μ 11 i < μ 10 1)) := by
  obtain ⟨hc, c0, c1, c2⟩ := N.hc
  have up : ∀ n : Nat, (n : Int) ≤ μ 10 0 → 0 ≤ hc n := by
    intro n
    induction n with
    | zero => intro _; rw [show ((0 : Nat) : Int) = 0 from rfl, c0]; omega
    | succ n ih =>
      intro hn
      have a := ih (by omega)
      have b := (c2 n (by omega) (by omega)).2
      rw [show ((n + 1 : Nat) : Int) = (n : Int) + 1 by omega]
      omega
  have dn : ∀ n : Nat, (n : Int) ≤ μ 10 0 → hc (μ 10 0 - n) ≤ μ 10 1 := by
    intro n
    induction n with
    | zero => intro _; rw [show μ 10 0 - ((0 : Nat) : Int) = μ 10 0 by omega, c1]; omega
    | succ n ih =>
      intro hn
      have a := ih (by omega)
      have b := (c2 (μ 10 0 - (n + 1 : Nat)) (by omega) (by omega)).2
      rw [show μ 10 0 - ((n + 1 : Nat) : Int) + 1 = μ 10 0 - n by omega] at b
      omega
  have a := up i.toNat (by omega)
  have b := dn (μ 10 0 - (i + 1)).toNat (by omega)
  rw [show ((i.toNat : Nat) : Int) = i by omega] at a
  rw [show μ 10 0 - (((μ 10 0 - (i + 1)).toNat : Nat) : Int) = i + 1 by omega] at b
  obtain ⟨c3, c4⟩ := c2 i h0 h1
  refine ⟨c3, ?_⟩
  omega
theorem kn_1 (N : NR μ ν) {w : Int} (h0 : 0 ≤ w) (h1 : w < μ 4 0) : xx_knows μ w = 1 := by
  have := N.knb
  unfold xx_knows
  rw [if_neg (by omega), if_pos h1, if_pos (by omega)]
theorem hh_1 (N : NR μ ν) {w : Int} (h0 : 0 ≤ w) (h1 : w < μ 10 1) : xx_hasHole μ w = 1 := by
  have := N.hob
  unfold xx_hasHole
  rw [if_neg (by omega), if_pos h1, if_pos (by omega)]
theorem hi_1 (N : NR μ ν) {w : Int} (h0 : 0 ≤ w) (h1 : w < μ 10 0) : xx_hasItem μ w = 1 := by
  have := N.itb
  unfold xx_hasItem
  rw [if_neg (by omega), if_pos h1, if_pos (by omega)]
theorem n10' : ¬ (1 : Int) = 0 := by decide
theorem al_knows (N : NR μ ν) (w : Int) : xx_knows ν w = xx_knows μ w := by unfold xx_knows; rw [N.kn]
end NN
