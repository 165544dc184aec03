/-! the class's numbers and the reference's row: what the one has to do with the other -/
def hcn (ρ : Int → Int) : Nat → Int
  | 0 => 0
  | n + 1 => hcn ρ n + (if ρ (304 + 14 * (n : Int) + 0) = 1 then 1 else 0)
/-- how many holes lie ahead of an item -/
def hc (ρ : Int → Int) (i : Int) : Int := hcn ρ i.toNat
theorem hc_zero {ρ : Int → Int} : hc ρ 0 = 0 := rfl
theorem hc_succ {ρ : Int → Int} {i : Int} (h : 0 ≤ i) : hc ρ (i + 1) = hc ρ i + (if ρ (304 + 14 * i + 0) = 1 then 1 else 0) := by
  obtain ⟨n, rfl⟩ := Int.eq_ofNat_of_zero_le h
  unfold hc
  rw [show ((n : Int) + 1).toNat = n + 1 by omega, show ((n : Int)).toNat = n by omega]
  rfl
theorem hcn_r (ρ : Int → Int) : ∀ n : Nat, 0 ≤ hcn ρ n ∧ hcn ρ n ≤ (n : Int)
  | 0 => ⟨Int.le_refl _, Int.le_refl _⟩
  | n + 1 => by
    have := hcn_r ρ n
    unfold hcn
    split <;> omega
theorem hc_nn (ρ : Int → Int) (i : Int) : 0 ≤ hc ρ i := (hcn_r ρ _).1
theorem hc_le (ρ : Int → Int) {i : Int} (h : 0 ≤ i) : hc ρ i ≤ i := by
  have := (hcn_r ρ i.toNat).2
  unfold hc
  omega
theorem hc_mono (ρ : Int → Int) {i j : Int} (h0 : 0 ≤ i) (h : i ≤ j) : hc ρ i ≤ hc ρ j := by
  obtain ⟨n, rfl⟩ : ∃ n : Nat, j = i + n := ⟨(j - i).toNat, by omega⟩
  clear h
  induction n with
  | zero => rw [show i + ((0 : Nat) : Int) = i by omega]; exact Int.le_refl _
  | succ n ih =>
    have h1 := hc_succ (ρ := ρ) (i := i + (n : Int)) (by omega)
    rw [show i + ((n + 1 : Nat) : Int) = i + (n : Int) + 1 by omega, h1]
    split <;> omega
theorem hcn_find (ρ : Int → Int) : ∀ (n : Nat) (h : Int), 0 ≤ h → h < hcn ρ n → ∃ i : Int, 0 ≤ i ∧ i < (n : Int) ∧ ρ (304 + 14 * i + 0) = 1 ∧ hc ρ i = h
  | 0, h, h0, h1 => absurd (show h < 0 from h1) (by omega)
  | n + 1, h, h0, h1 => by
    by_cases hl : h < hcn ρ n
    · obtain ⟨i, a, b, c, d⟩ := hcn_find ρ n h h0 hl
      exact ⟨i, a, by omega, c, d⟩
    · unfold hcn at h1
      refine ⟨(n : Int), by omega, by omega, ?_, ?_⟩
      · by_cases hc : ρ (304 + 14 * (n : Int) + 0) = 1
        · exact hc
        · rw [if_neg hc] at h1; omega
      · unfold hc
        rw [show ((n : Int)).toNat = n by omega]
        split at h1 <;> omega
/-- the word of a hole, as the two of them write it -/
def HW (K a b : Int) : Prop := (a = -1 ∧ b = -5) ∨ (0 ≤ a ∧ a < K ∧ b = a)
def RS (α : Nat → Int → Int) (ρ : Int → Int) : Prop :=
  (α 0 4 = ρ 0) ∧
  (α 0 5 = ρ 1) ∧
  (α 1 0 = ρ 2) ∧
  (0 ≤ ρ 2 ∧ ρ 2 ≤ 24) ∧
  (∀ w, 0 ≤ w → w < ρ 2 → α 2 w = ρ (4 + 11 * w + 0) ∧ α 3 w = ρ (4 + 11 * w + 1) ∧ α 4 w = ρ (4 + 11 * w + 2) ∧ (0 ≤ α 2 w ∧ α 2 w ≤ 2) ∧ (0 ≤ α 3 w ∧ α 3 w ≤ 2) ∧ 0 ≤ α 4 w ∧ α 4 w ≤ 8) ∧
  (∀ w p, 0 ≤ w → w < ρ 2 → 0 ≤ p → p < α 4 w → α 5 (w * 8 + p) = ρ (4 + 11 * w + (3 + p)) ∧ 1 ≤ α 5 (w * 8 + p)) ∧
  (∀ e, 0 ≤ e → e < 18 → α 6 e = 27 * ρ (268 + 2 * e) + ρ (268 + 2 * e + 1) ∧ (0 ≤ ρ (268 + 2 * e) ∧ ρ (268 + 2 * e) ≤ 26) ∧ (0 ≤ ρ (268 + 2 * e + 1) ∧ ρ (268 + 2 * e + 1) ≤ 26) ∧ (ρ (268 + 2 * e) = 0 → ρ (268 + 2 * e + 1) = 0)) ∧
  (α 7 0 = ρ 3) ∧
  (0 ≤ ρ 3 ∧ ρ 3 ≤ 20) ∧
  (α 7 1 = hc ρ (ρ 3)) ∧
  (∀ i, 0 ≤ i → i < ρ 3 → ρ (304 + 14 * i + 0) = 1 → α 8 i = hc ρ i ∧ α 14 (hc ρ i) = i ∧ α 12 (hc ρ i) = ρ (304 + 14 * i + 1) ∧ α 13 (hc ρ i) = ρ (304 + 14 * i + 2) ∧ HW (ρ 2) (α 15 (hc ρ i)) (ρ (304 + 14 * i + 3)) ∧ (0 ≤ ρ (304 + 14 * i + 1) ∧ ρ (304 + 14 * i + 1) ≤ 2) ∧ (0 ≤ ρ (304 + 14 * i + 2) ∧ ρ (304 + 14 * i + 2) ≤ 9)) ∧
  (∀ i, 0 ≤ i → i < ρ 3 → ¬ ρ (304 + 14 * i + 0) = 1 → α 8 i = -1 ∧ α 10 i = ρ (304 + 14 * i + 1) ∧ (0 ≤ α 10 i ∧ α 10 i ≤ 10) ∧ 0 ≤ α 9 i ∧ α 9 i + α 10 i ≤ 60) ∧
  (∀ i p, 0 ≤ i → i < ρ 3 → ¬ ρ (304 + 14 * i + 0) = 1 → 0 ≤ p → p < α 10 i → α 11 (α 9 i + p) = 96 + ρ (304 + 14 * i + (4 + p))) ∧
  (∀ t, 0 ≤ t → t < 10 → α 16 t = ρ (584 + 2 * t) ∧ α 17 t = ρ (584 + 2 * t + 1) ∧ (0 ≤ ρ (584 + 2 * t) ∧ ρ (584 + 2 * t) ≤ 1) ∧ (0 ≤ ρ (584 + 2 * t + 1) ∧ ρ (584 + 2 * t + 1) ≤ 2))
theorem RS.once {α : Nat → Int → Int} {ρ : Int → Int} (R : RS α ρ) : α 0 4 = ρ 0 := R.1
theorem RS.fil {α : Nat → Int → Int} {ρ : Int → Int} (R : RS α ρ) : α 0 5 = ρ 1 := R.2.1
theorem RS.known {α : Nat → Int → Int} {ρ : Int → Int} (R : RS α ρ) : α 1 0 = ρ 2 := R.2.2.1
theorem RS.kr {α : Nat → Int → Int} {ρ : Int → Int} (R : RS α ρ) : 0 ≤ ρ 2 ∧ ρ 2 ≤ 24 := R.2.2.2.1
theorem RS.word {α : Nat → Int → Int} {ρ : Int → Int} (R : RS α ρ) : ∀ w, 0 ≤ w → w < ρ 2 → α 2 w = ρ (4 + 11 * w + 0) ∧ α 3 w = ρ (4 + 11 * w + 1) ∧ α 4 w = ρ (4 + 11 * w + 2) ∧ (0 ≤ α 2 w ∧ α 2 w ≤ 2) ∧ (0 ≤ α 3 w ∧ α 3 w ≤ 2) ∧ 0 ≤ α 4 w ∧ α 4 w ≤ 8 := R.2.2.2.2.1
theorem RS.stem {α : Nat → Int → Int} {ρ : Int → Int} (R : RS α ρ) : ∀ w p, 0 ≤ w → w < ρ 2 → 0 ≤ p → p < α 4 w → α 5 (w * 8 + p) = ρ (4 + 11 * w + (3 + p)) ∧ 1 ≤ α 5 (w * 8 + p) := R.2.2.2.2.2.1
theorem RS.ending {α : Nat → Int → Int} {ρ : Int → Int} (R : RS α ρ) : ∀ e, 0 ≤ e → e < 18 → α 6 e = 27 * ρ (268 + 2 * e) + ρ (268 + 2 * e + 1) ∧ (0 ≤ ρ (268 + 2 * e) ∧ ρ (268 + 2 * e) ≤ 26) ∧ (0 ≤ ρ (268 + 2 * e + 1) ∧ ρ (268 + 2 * e + 1) ≤ 26) ∧ (ρ (268 + 2 * e) = 0 → ρ (268 + 2 * e + 1) = 0) := R.2.2.2.2.2.2.1
theorem RS.items {α : Nat → Int → Int} {ρ : Int → Int} (R : RS α ρ) : α 7 0 = ρ 3 := R.2.2.2.2.2.2.2.1
theorem RS.ir {α : Nat → Int → Int} {ρ : Int → Int} (R : RS α ρ) : 0 ≤ ρ 3 ∧ ρ 3 ≤ 20 := R.2.2.2.2.2.2.2.2.1
theorem RS.holes {α : Nat → Int → Int} {ρ : Int → Int} (R : RS α ρ) : α 7 1 = hc ρ (ρ 3) := R.2.2.2.2.2.2.2.2.2.1
theorem RS.hole {α : Nat → Int → Int} {ρ : Int → Int} (R : RS α ρ) : ∀ i, 0 ≤ i → i < ρ 3 → ρ (304 + 14 * i + 0) = 1 → α 8 i = hc ρ i ∧ α 14 (hc ρ i) = i ∧ α 12 (hc ρ i) = ρ (304 + 14 * i + 1) ∧ α 13 (hc ρ i) = ρ (304 + 14 * i + 2) ∧ HW (ρ 2) (α 15 (hc ρ i)) (ρ (304 + 14 * i + 3)) ∧ (0 ≤ ρ (304 + 14 * i + 1) ∧ ρ (304 + 14 * i + 1) ≤ 2) ∧ (0 ≤ ρ (304 + 14 * i + 2) ∧ ρ (304 + 14 * i + 2) ≤ 9) := R.2.2.2.2.2.2.2.2.2.2.1
theorem RS.plain {α : Nat → Int → Int} {ρ : Int → Int} (R : RS α ρ) : ∀ i, 0 ≤ i → i < ρ 3 → ¬ ρ (304 + 14 * i + 0) = 1 → α 8 i = -1 ∧ α 10 i = ρ (304 + 14 * i + 1) ∧ (0 ≤ α 10 i ∧ α 10 i ≤ 10) ∧ 0 ≤ α 9 i ∧ α 9 i + α 10 i ≤ 60 := R.2.2.2.2.2.2.2.2.2.2.2.1
theorem RS.sign {α : Nat → Int → Int} {ρ : Int → Int} (R : RS α ρ) : ∀ i p, 0 ≤ i → i < ρ 3 → ¬ ρ (304 + 14 * i + 0) = 1 → 0 ≤ p → p < α 10 i → α 11 (α 9 i + p) = 96 + ρ (304 + 14 * i + (4 + p)) := R.2.2.2.2.2.2.2.2.2.2.2.2.1
theorem RS.num {α : Nat → Int → Int} {ρ : Int → Int} (R : RS α ρ) : ∀ t, 0 ≤ t → t < 10 → α 16 t = ρ (584 + 2 * t) ∧ α 17 t = ρ (584 + 2 * t + 1) ∧ (0 ≤ ρ (584 + 2 * t) ∧ ρ (584 + 2 * t) ≤ 1) ∧ (0 ≤ ρ (584 + 2 * t + 1) ∧ ρ (584 + 2 * t + 1) ≤ 2) := R.2.2.2.2.2.2.2.2.2.2.2.2.2
theorem hcn_cong {ρ ρ' : Int → Int} (h : ∀ z, 0 ≤ z → z < 604 → ρ' z = ρ z) : ∀ n : Nat, n ≤ 20 → hcn ρ' n = hcn ρ n
  | 0, _ => rfl
  | n + 1, hn => by
    unfold hcn
    rw [hcn_cong h n (by omega), h _ (by omega) (by omega)]
theorem hc_cong {ρ ρ' : Int → Int} (h : ∀ z, 0 ≤ z → z < 604 → ρ' z = ρ z) {i : Int} (h1 : i ≤ 20) : hc ρ' i = hc ρ i := hcn_cong h _ (by omega)
/-- only the 18 places and the 604 numbers count -/
theorem RS.cong {α α' : Nat → Int → Int} {ρ ρ' : Int → Int} (R : RS α ρ) (hα : ∀ o, o < 18 → α' o = α o) (h : ∀ z, 0 ≤ z → z < 604 → ρ' z = ρ z) : RS α' ρ' := by
  have e2 : ρ' 2 = ρ 2 := h 2 (by omega) (by omega)
  have e3 : ρ' 3 = ρ 3 := h 3 (by omega) (by omega)
  have hk := R.kr
  have hi := R.ir
  refine ⟨?_, ?_, ?_, ?_, ?_, ?_, ?_, ?_, ?_, ?_, ?_, ?_, ?_, ?_⟩
  · rw [hα 0 (by omega), h 0 (by omega) (by omega)]; exact R.once
  · rw [hα 0 (by omega), h 1 (by omega) (by omega)]; exact R.fil
  · rw [hα 1 (by omega), e2]; exact R.known
  · rw [e2]; exact hk
  · intro w h0 h1
    rw [e2] at h1
    rw [hα 2 (by omega), hα 3 (by omega), hα 4 (by omega), h _ (by omega) (by omega), h _ (by omega) (by omega), h _ (by omega) (by omega)]
    exact R.word w h0 h1
  · intro w p h0 h1 h2 h3
    rw [e2] at h1
    rw [hα 4 (by omega)] at h3
    have h8 := R.word w h0 h1
    rw [hα 5 (by omega), h _ (by omega) (by omega)]
    exact R.stem w p h0 h1 h2 h3
  · intro e h0 h1
    rw [hα 6 (by omega), h (268 + 2 * e) (by omega) (by omega), h (268 + 2 * e + 1) (by omega) (by omega)]
    exact R.ending e h0 h1
  · rw [hα 7 (by omega), e3]; exact R.items
  · rw [e3]; exact hi
  · rw [hα 7 (by omega), e3, hc_cong h hi.2]; exact R.holes
  · intro i h0 h1 h2
    rw [e3] at h1
    rw [h _ (by omega) (by omega)] at h2
    rw [hα 8 (by omega), hα 14 (by omega), hα 12 (by omega), hα 13 (by omega), hα 15 (by omega), hc_cong h (by omega), h (304 + 14 * i + 1) (by omega) (by omega), h (304 + 14 * i + 2) (by omega) (by omega), h (304 + 14 * i + 3) (by omega) (by omega), e2]
    exact R.hole i h0 h1 h2
  · intro i h0 h1 h2
    rw [e3] at h1
    rw [h _ (by omega) (by omega)] at h2
    rw [hα 8 (by omega), hα 10 (by omega), hα 9 (by omega), h (304 + 14 * i + 1) (by omega) (by omega)]
    exact R.plain i h0 h1 h2
  · intro i p h0 h1 h2 h3 h4
    rw [e3] at h1
    rw [h _ (by omega) (by omega)] at h2
    rw [hα 10 (by omega)] at h4
    have h8 := R.plain i h0 h1 h2
    rw [hα 11 (by omega), hα 9 (by omega), h (304 + 14 * i + (4 + p)) (by omega) (by omega)]
    exact R.sign i p h0 h1 h2 h3 h4
  · intro t h0 h1
    rw [hα 16 (by omega), hα 17 (by omega), h (584 + 2 * t) (by omega) (by omega), h (584 + 2 * t + 1) (by omega) (by omega)]
    exact R.num t h0 h1
abbrev Rn (μ : zM) : Prop := RS (fun o => μ (3 + o)) (μ 114)
theorem q_below (a b : Int) : (xx_isBelow a b = 0 ∧ ¬ (0 ≤ a ∧ a < b)) ∨ (xx_isBelow a b = 1 ∧ 0 ≤ a ∧ a < b) := by
  unfold xx_isBelow
  by_cases h : a < 0
  · rw [if_pos h]; left; exact ⟨rfl, by omega⟩
  · rw [if_neg h]
    by_cases h2 : a < b
    · rw [if_pos h2]; right; exact ⟨rfl, by omega, h2⟩
    · rw [if_neg h2]; left; exact ⟨rfl, by omega⟩
theorem q_below1 {a b : Int} (h0 : 0 ≤ a) (h : a < b) : xx_isBelow a b = 1 := by
  rcases q_below a b with q | q
  · omega
  · exact q.1
theorem q_below0 {a b : Int} (h : ¬ (0 ≤ a ∧ a < b)) : xx_isBelow a b = 0 := by
  rcases q_below a b with q | q
  · exact q.1
  · omega
theorem q_in (a b c : Int) : (mm_in a b c = 0 ∧ ¬ (b ≤ a ∧ a ≤ c)) ∨ (mm_in a b c = 1 ∧ b ≤ a ∧ a ≤ c) := by
  unfold mm_in
  have h1 := zlcm_r a b
  have h2 := zlcm_r a c
  by_cases h : zlcm a b < 0
  · rw [if_pos h]; left; exact ⟨rfl, by omega⟩
  · rw [if_neg h]
    by_cases h3 : 0 < zlcm a c
    · rw [if_pos h3]; left; exact ⟨rfl, by omega⟩
    · rw [if_neg h3]; right; exact ⟨rfl, by omega, by omega⟩
theorem q_in1 {a b c : Int} (h : b ≤ a) (h2 : a ≤ c) : mm_in a b c = 1 := by
  rcases q_in a b c with q | q
  · omega
  · exact q.1
theorem q_in0 {a b c : Int} (h : ¬ (b ≤ a ∧ a ≤ c)) : mm_in a b c = 0 := by
  rcases q_in a b c with q | q
  · exact q.1
  · omega
theorem n10 : ¬ (1 : Int) = 0 := by decide
section EQ
variable {μ : zM}
theorem Rn.k (R : Rn μ) : μ 4 0 = μ 114 2 := R.known
theorem Rn.i (R : Rn μ) : μ 10 0 = μ 114 3 := R.items
theorem Rn.h (R : Rn μ) : μ 10 1 = hc (μ 114) (μ 114 3) := R.holes
theorem q_knows1 (R : Rn μ) {w : Int} (h0 : 0 ≤ w) (h : w < μ 114 2) : xx_knows μ w = 1 := by
  have := R.k
  have := R.kr
  unfold xx_knows
  rw [if_neg (by omega), if_pos (by omega), if_pos (by omega)]
theorem q_knows0 (R : Rn μ) {w : Int} (h : ¬ (0 ≤ w ∧ w < μ 114 2)) : xx_knows μ w = 0 := by
  have := R.k
  unfold xx_knows
  by_cases h0 : w < 0
  · rw [if_pos h0]
  · rw [if_neg h0, if_neg (by omega)]
theorem q_isWord1 {w : Int} (h0 : 0 ≤ w) (h : w < μ 114 2) : mm_isWord μ w = 1 := q_in1 h0 (by omega)
theorem q_isWord0 {w : Int} (h : ¬ (0 ≤ w ∧ w < μ 114 2)) : mm_isWord μ w = 0 := q_in0 (by omega)
theorem q_kind (R : Rn μ) {w : Int} (h0 : 0 ≤ w) (h : w < μ 114 2) : xx_kindOf μ w = mm_ofWord μ w 0 := by
  unfold xx_kindOf mm_ofWord
  rw [q_knows1 R h0 h, if_neg n10]
  exact (R.word w h0 h).1
theorem q_gender (R : Rn μ) {w : Int} (h0 : 0 ≤ w) (h : w < μ 114 2) : xx_genderOf μ w = mm_ofWord μ w 1 := by
  unfold xx_genderOf mm_ofWord
  rw [q_knows1 R h0 h, if_neg n10]
  exact (R.word w h0 h).2.1
theorem q_slen (R : Rn μ) {w : Int} (h0 : 0 ≤ w) (h : w < μ 114 2) : xx_stemLengthOf μ w = mm_ofWord μ w 2 := by
  unfold xx_stemLengthOf mm_ofWord
  rw [q_knows1 R h0 h, if_neg n10]
  exact (R.word w h0 h).2.2.1
theorem q_wr (R : Rn μ) {w : Int} (h0 : 0 ≤ w) (h : w < μ 114 2) : (0 ≤ mm_ofWord μ w 0 ∧ mm_ofWord μ w 0 ≤ 2) ∧ (0 ≤ mm_ofWord μ w 1 ∧ mm_ofWord μ w 1 ≤ 2) ∧ (0 ≤ mm_ofWord μ w 2 ∧ mm_ofWord μ w 2 ≤ 8) := by
  obtain ⟨a, b, c, d, e, f⟩ := R.word w h0 h
  unfold mm_ofWord
  rw [← a, ← b, ← c]
  exact ⟨d, e, f⟩
theorem q_endAt (R : Rn μ) {k f : Int} (hk0 : 0 ≤ k) (hk : k ≤ 2) (hf0 : 0 ≤ f) (hf : f ≤ 5) : xx_endingOf μ k f = 27 * μ 114 (mm_endingAt k f) + μ 114 (mm_endingAt k f + 1) ∧ (0 ≤ μ 114 (mm_endingAt k f) ∧ μ 114 (mm_endingAt k f) ≤ 26) ∧ (0 ≤ μ 114 (mm_endingAt k f + 1) ∧ μ 114 (mm_endingAt k f + 1) ≤ 26) ∧ (μ 114 (mm_endingAt k f) = 0 → μ 114 (mm_endingAt k f + 1) = 0) := by
  unfold xx_endingOf mm_endingAt
  rw [q_below1 hk0 (by omega), if_neg n10, q_below1 hf0 (by omega), if_neg n10, show 6 * k + f = k * 6 + f by omega]
  exact R.ending (k * 6 + f) (by omega) (by omega)
theorem q_endLen (R : Rn μ) {k f : Int} (hk0 : 0 ≤ k) (hk : k ≤ 2) (hf0 : 0 ≤ f) (hf : f ≤ 5) : xx_endingLengthOf μ k f = mm_endingLong μ k f := by
  obtain ⟨e, ha, hb, hab⟩ := q_endAt R hk0 hk hf0 hf
  unfold xx_endingLengthOf mm_endingLong
  rw [e]
  by_cases h1 : 0 < μ 114 (mm_endingAt k f)
  · by_cases h2 : 0 < μ 114 (mm_endingAt k f + 1)
    · rw [if_neg (by omega), if_neg (by omega), if_pos h1, if_pos h2]; rfl
    · rw [if_neg (by omega), if_pos (by omega), if_pos h1, if_neg h2]; rfl
  · rw [if_pos (by omega), if_neg h1, if_neg (by omega)]; rfl
theorem q_endLong (R : Rn μ) {k f : Int} (hk0 : 0 ≤ k) (hk : k ≤ 2) (hf0 : 0 ≤ f) (hf : f ≤ 5) : (mm_endingLong μ k f = 0 ∧ μ 114 (mm_endingAt k f) = 0 ∧ μ 114 (mm_endingAt k f + 1) = 0) ∨ (mm_endingLong μ k f = 1 ∧ 0 < μ 114 (mm_endingAt k f) ∧ μ 114 (mm_endingAt k f + 1) = 0) ∨ (mm_endingLong μ k f = 2 ∧ 0 < μ 114 (mm_endingAt k f) ∧ 0 < μ 114 (mm_endingAt k f + 1)) := by
  obtain ⟨e, ha, hb, hab⟩ := q_endAt R hk0 hk hf0 hf
  unfold mm_endingLong
  by_cases h1 : 0 < μ 114 (mm_endingAt k f)
  · by_cases h2 : 0 < μ 114 (mm_endingAt k f + 1)
    · rw [if_pos h1, if_pos h2]; omega
    · rw [if_pos h1, if_neg h2]; omega
  · rw [if_neg h1, if_neg (by omega)]; omega
theorem q_len (R : Rn μ) {w f : Int} (h0 : 0 ≤ w) (h : w < μ 114 2) (hf0 : 0 ≤ f) (hf : f ≤ 5) : xx_lengthOf μ w f = mm_lengthOf μ w f := by
  have hr := q_wr R h0 h
  unfold xx_lengthOf mm_lengthOf
  rw [q_slen R h0 h, q_kind R h0 h, q_endLen R hr.1.1 hr.1.2 hf0 hf]
theorem q_lenr (R : Rn μ) {w f : Int} (h0 : 0 ≤ w) (h : w < μ 114 2) (hf0 : 0 ≤ f) (hf : f ≤ 5) : 0 ≤ mm_lengthOf μ w f := by
  have hr := q_wr R h0 h
  have := q_endLong R hr.1.1 hr.1.2 hf0 hf
  unfold mm_lengthOf
  omega
theorem q_letter (R : Rn μ) {w f p : Int} (h0 : 0 ≤ w) (h : w < μ 114 2) (hf0 : 0 ≤ f) (hf : f ≤ 5) (hp : 0 ≤ p) :
    (p < mm_lengthOf μ w f → xx_letterAt μ w f p = mm_letterOf μ w f p ∧ 1 ≤ xx_letterAt μ w f p) ∧ (¬ p < mm_lengthOf μ w f → xx_letterAt μ w f p = 0) := by
  have hr := q_wr R h0 h
  have he := q_endLong R hr.1.1 hr.1.2 hf0 hf
  obtain ⟨e, ha, hb, hab⟩ := q_endAt R hr.1.1 hr.1.2 hf0 hf
  unfold xx_letterAt mm_letterOf mm_lengthOf
  rw [q_knows1 R h0 h, if_neg n10, q_slen R h0 h, q_kind R h0 h, e]
  by_cases hs : p < mm_ofWord μ w 2
  · rw [q_below1 hp hs, if_neg n10, if_pos (by omega), if_pos hs]
    have hs2 : p < μ (3 + 4) w := by
      rw [(R.word w h0 h).2.2.1]
      exact hs
    obtain ⟨s1, s2⟩ := R.stem w p h0 h hp hs2
    exact ⟨fun _ => ⟨s1, s2⟩, fun q => by omega⟩
  · rw [q_below0 (by omega), if_pos rfl, if_neg hs]
    by_cases h1 : p = mm_ofWord μ w 2
    · rw [if_pos h1, show mm_endingAt (mm_ofWord μ w 0) f + p - mm_ofWord μ w 2 = mm_endingAt (mm_ofWord μ w 0) f by omega]
      exact ⟨fun q => by omega, fun q => by omega⟩
    · rw [if_neg h1]
      by_cases h2 : p = mm_ofWord μ w 2 + 1
      · rw [if_pos h2, show mm_endingAt (mm_ofWord μ w 0) f + p - mm_ofWord μ w 2 = mm_endingAt (mm_ofWord μ w 0) f + 1 by omega]
        exact ⟨fun q => by omega, fun q => by omega⟩
      · rw [if_neg h2]
        exact ⟨fun q => by omega, fun _ => rfl⟩
/-! holes -/
theorem q_iha (μ : zM) (i : Int) : (mm_isHoleAt μ i = 1 ∧ μ 114 (304 + 14 * i + 0) = 1) ∨ (mm_isHoleAt μ i = 0 ∧ ¬ μ 114 (304 + 14 * i + 0) = 1) := by
  unfold mm_isHoleAt mm_ofItem
  by_cases h : μ 114 (304 + 14 * i + 0) = 1
  · rw [if_pos h]; exact Or.inl ⟨rfl, h⟩
  · rw [if_neg h]; exact Or.inr ⟨rfl, h⟩
theorem q_h (R : Rn μ) {i : Int} (h0 : 0 ≤ i) (hi : i < μ 114 3) (e : μ 114 (304 + 14 * i + 0) = 1) : (0 ≤ hc (μ 114) i ∧ hc (μ 114) i < μ 10 1 ∧ hc (μ 114) (i + 1) = hc (μ 114) i + 1 ∧ hc (μ 114) i < 20) ∧ xx_hasHole μ (hc (μ 114) i) = 1 := by
  have h1 := hc_succ (ρ := μ 114) h0
  rw [if_pos e] at h1
  have h2 := hc_mono (μ 114) (show 0 ≤ i + 1 by omega) (show i + 1 ≤ μ 114 3 by omega)
  have h3 := hc_nn (μ 114) i
  have h4 := R.h
  have h5 := hc_le (μ 114) h0
  have h6 := R.ir
  refine ⟨⟨h3, by omega, h1, by omega⟩, ?_⟩
  unfold xx_hasHole
  rw [if_neg (by omega), if_pos (by omega), if_pos (by omega)]
theorem q_p (R : Rn μ) {i : Int} (h0 : 0 ≤ i) (e : ¬ μ 114 (304 + 14 * i + 0) = 1) : hc (μ 114) (i + 1) = hc (μ 114) i := by
  have h1 := hc_succ (ρ := μ 114) h0
  rw [if_neg e] at h1
  omega
theorem q_hkind (R : Rn μ) {i : Int} (h0 : 0 ≤ i) (hi : i < μ 114 3) (e : μ 114 (304 + 14 * i + 0) = 1) : xx_kindOfHole μ (hc (μ 114) i) = mm_ofItem μ i 1 := by
  unfold xx_kindOfHole mm_ofItem
  rw [(q_h R h0 hi e).2, if_neg n10]
  exact (R.hole i h0 hi e).2.2.1
theorem q_htie (R : Rn μ) {i : Int} (h0 : 0 ≤ i) (hi : i < μ 114 3) (e : μ 114 (304 + 14 * i + 0) = 1) : xx_tieOf μ (hc (μ 114) i) = mm_ofItem μ i 2 := by
  unfold xx_tieOf mm_ofItem
  rw [(q_h R h0 hi e).2, if_neg n10]
  exact (R.hole i h0 hi e).2.2.2.1
theorem q_hitem (R : Rn μ) {i : Int} (h0 : 0 ≤ i) (hi : i < μ 114 3) (e : μ 114 (304 + 14 * i + 0) = 1) : xx_itemOf μ (hc (μ 114) i) = i := by
  unfold xx_itemOf
  rw [(q_h R h0 hi e).2, if_neg n10]
  exact (R.hole i h0 hi e).2.1
theorem q_hw0 (R : Rn μ) {i : Int} (h0 : 0 ≤ i) (hi : i < μ 114 3) (e : μ 114 (304 + 14 * i + 0) = 1) : xx_wordIn μ (hc (μ 114) i) = μ 18 (hc (μ 114) i) := by
  unfold xx_wordIn
  rw [(q_h R h0 hi e).2, if_neg n10]
theorem q_hword (R : Rn μ) {i : Int} (h0 : 0 ≤ i) (hi : i < μ 114 3) (e : μ 114 (304 + 14 * i + 0) = 1) : HW (μ 114 2) (xx_wordIn μ (hc (μ 114) i)) (mm_ofItem μ i 3) := by
  rw [q_hw0 R h0 hi e]
  exact (R.hole i h0 hi e).2.2.2.2.1
theorem q_ir (R : Rn μ) {i : Int} (h0 : 0 ≤ i) (hi : i < μ 114 3) (e : μ 114 (304 + 14 * i + 0) = 1) : (0 ≤ mm_ofItem μ i 1 ∧ mm_ofItem μ i 1 ≤ 2) ∧ (0 ≤ mm_ofItem μ i 2 ∧ mm_ofItem μ i 2 ≤ 9) :=
  ⟨(R.hole i h0 hi e).2.2.2.2.2.1, (R.hole i h0 hi e).2.2.2.2.2.2⟩
theorem q_hempty (R : Rn μ) {i : Int} (h0 : 0 ≤ i) (hi : i < μ 114 3) (e : μ 114 (304 + 14 * i + 0) = 1) : xx_isEmptyHole μ (hc (μ 114) i) = if mm_ofItem μ i 3 = (-5) then 1 else 0 := by
  unfold xx_isEmptyHole
  rcases q_hword R h0 hi e with ⟨a, b⟩ | ⟨a, b, c⟩
  · rw [a, b, if_pos rfl, if_pos rfl]
  · rw [if_neg (by omega), if_neg (by omega)]
theorem q_find (R : Rn μ) {h : Int} (h0 : 0 ≤ h) (hh : h < μ 10 1) : ∃ i, 0 ≤ i ∧ i < μ 114 3 ∧ μ 114 (304 + 14 * i + 0) = 1 ∧ hc (μ 114) i = h := by
  have hi := R.ir
  have h1 := R.h
  obtain ⟨i, a, b, c, d⟩ := hcn_find (μ 114) (μ 114 3).toNat h h0 (by unfold hc at h1; omega)
  exact ⟨i, a, by omega, c, d⟩
theorem q_inj (R : Rn μ) {i j : Int} (h0 : 0 ≤ i) (hi : i < μ 114 3) (e : μ 114 (304 + 14 * i + 0) = 1) (j0 : 0 ≤ j) (hj : j < μ 114 3) (e2 : μ 114 (304 + 14 * j + 0) = 1) : hc (μ 114) i = hc (μ 114) j ↔ i = j := by
  refine ⟨fun h => ?_, fun h => by rw [h]⟩
  have a := (q_h R h0 hi e).1.2.2
  have b := (q_h R j0 hj e2).1.2.2
  rcases Int.lt_trichotomy i j with q | q | q
  · have := hc_mono (μ 114) (show 0 ≤ i + 1 by omega) (show i + 1 ≤ j by omega)
    omega
  · exact q
  · have := hc_mono (μ 114) (show 0 ≤ j + 1 by omega) (show j + 1 ≤ i by omega)
    omega
end EQ
