/-! what is asked: the answers -/
section EQ
variable {μ : zM}
theorem q_holeOfItemH (R : Rn μ) {i : Int} (h0 : 0 ≤ i) (hi : i < μ 114 3) (e : μ 114 (304 + 14 * i + 0) = 1) : xx_holeOfItem μ i = hc (μ 114) i := by
  have h1 := R.i
  have h2 := R.ir
  unfold xx_holeOfItem xx_hasItem
  rw [if_neg (show ¬ i < 0 by omega), if_pos (show i < μ 10 0 by omega), if_pos (show i < 20 by omega), if_neg n10]
  exact (R.hole i h0 hi e).1
theorem q_hasItem (R : Rn μ) {i : Int} (h0 : 0 ≤ i) (hi : i < μ 114 3) : xx_hasItem μ i = 1 := by
  have h1 := R.i
  have h2 := R.ir
  unfold xx_hasItem
  rw [if_neg (show ¬ i < 0 by omega), if_pos (show i < μ 10 0 by omega), if_pos (show i < 20 by omega)]
theorem q_holeOfItemP (R : Rn μ) {i : Int} (h0 : 0 ≤ i) (hi : i < μ 114 3) (e : ¬ μ 114 (304 + 14 * i + 0) = 1) : xx_holeOfItem μ i = -1 := by
  unfold xx_holeOfItem
  rw [q_hasItem R h0 hi, if_neg n10]
  exact (R.plain i h0 hi e).1
theorem q_chars (R : Rn μ) {i : Int} (h0 : 0 ≤ i) (hi : i < μ 114 3) : xx_lengthOfItem μ i = mm_characters μ i ∧ 0 ≤ mm_characters μ i := by
  unfold xx_lengthOfItem mm_characters
  rcases q_iha μ i with ⟨e, e1⟩ | ⟨e, e1⟩
  · have hf := q_formIn R h0 hi e1
    have hn := hc_nn (μ 114) i
    rw [q_holeOfItemH R h0 hi e1, if_neg (show ¬ hc (μ 114) i = -1 by omega), e, if_neg n10, q_hempty R h0 hi e1]
    unfold mm_lettersAt
    rcases q_hword R h0 hi e1 with ⟨p, q⟩ | ⟨p, q, r⟩
    · rw [if_pos q, if_neg n10, if_pos q]; exact ⟨rfl, by decide⟩
    · rw [if_neg (show ¬ mm_ofItem μ i 3 = -5 by omega), if_pos rfl, if_neg (show ¬ mm_ofItem μ i 3 = -5 by omega), if_neg (show ¬ mm_ofItem μ i 3 = -5 by omega), r, hf.1, q_len R p q hf.2.1 hf.2.2]
      exact ⟨rfl, q_lenr R p q hf.2.1 hf.2.2⟩
  · obtain ⟨p1, p2, p3, p4, p5⟩ := R.plain i h0 hi e1
    have p2 : μ 13 i = mm_ofItem μ i 1 := p2
    have p3 : 0 ≤ μ 13 i ∧ μ 13 i ≤ 10 := p3
    rw [q_holeOfItemP R h0 hi e1, if_pos rfl, e, if_pos rfl]
    unfold xx_plainLengthOf
    rw [q_hasItem R h0 hi, if_neg n10]
    exact ⟨p2, by omega⟩
theorem q_char (R : Rn μ) {i p : Int} (h0 : 0 ≤ i) (hi : i < μ 114 3) (hp : 0 ≤ p) (hp2 : p < mm_characters μ i) : xx_signOfItem μ i p = mm_character μ i p := by
  unfold xx_signOfItem mm_character
  unfold mm_characters at hp2
  rcases q_iha μ i with ⟨e, e1⟩ | ⟨e, e1⟩
  · have hf := q_formIn R h0 hi e1
    have hn := hc_nn (μ 114) i
    rw [e, if_neg n10] at hp2
    rw [q_holeOfItemH R h0 hi e1, if_neg (show ¬ hc (μ 114) i = -1 by omega), e, if_neg n10, q_hempty R h0 hi e1]
    unfold mm_lettersAt at hp2
    rcases q_hword R h0 hi e1 with ⟨p1, q⟩ | ⟨p1, q, r⟩
    · rw [if_pos q, if_neg n10, if_pos q]
    · have h5 : ¬ mm_ofItem μ i 3 = -5 := by omega
      rw [if_neg h5, if_neg h5] at hp2
      rw [if_neg h5, if_pos rfl, if_neg h5, r, hf.1]
      rw [r] at hp2
      rw [((q_letter R p1 q hf.2.1 hf.2.2 hp).1 hp2).1]
  · obtain ⟨p1, p2, p3, p4, p5⟩ := R.plain i h0 hi e1
    have p2 : μ 13 i = mm_ofItem μ i 1 := p2
    have p3 : 0 ≤ μ 13 i ∧ μ 13 i ≤ 10 := p3
    have p4 : 0 ≤ μ 12 i := p4
    have p5 : μ 12 i + μ 13 i ≤ 60 := p5
    rw [e, if_pos rfl] at hp2
    have hs := R.sign i p h0 hi e1 hp (show p < μ (3 + 10) i by show p < μ 13 i; omega)
    rw [q_holeOfItemP R h0 hi e1, if_pos rfl, e, if_pos rfl]
    unfold xx_plainSignOf
    rw [q_hasItem R h0 hi, if_neg n10, q_below1 (show 0 ≤ μ 12 i + p by omega) (show μ 12 i + p < 60 by omega), if_neg n10]
    exact hs
theorem q_told_l (R : Rn μ) : ∀ (g : Nat) (l i : Int), 0 ≤ l → 0 ≤ i → i ≤ μ 114 3 → μ 114 3 - i < (g : Int) → xx_signToldAt_4 g μ l i = mm_told_11 g μ l i := by
  intro g
  induction g with
  | zero => intro l i hl h0 h1 hg; omega
  | succ g ih =>
    intro l i hl h0 h1 hg
    have hk := R.i
    rw [xx_signToldAt_4, mm_told_11, hk]
    by_cases hi : i < μ 114 3
    · obtain ⟨c1, c2⟩ := q_chars R h0 hi
      rw [if_pos hi, if_pos hi, c1]
      by_cases h2 : l < mm_characters μ i
      · rw [if_pos h2, if_pos h2]
        exact q_char R h0 hi hl h2
      · rw [if_neg h2, if_neg h2]
        by_cases h3 : l = mm_characters μ i
        · rw [if_pos h3, if_pos (show l - mm_characters μ i = 0 by omega)]
          by_cases h4 : i + 1 < μ 114 3
          · rw [if_pos h4, if_pos (show i < μ 114 3 - 1 by omega)]
          · rw [if_neg h4, if_neg (show ¬ i < μ 114 3 - 1 by omega)]
            obtain ⟨g, rfl⟩ : ∃ k, g = k + 1 := ⟨g - 1, by omega⟩
            rw [mm_told_11, if_neg h4]
        · rw [if_neg h3, if_neg (show ¬ l - mm_characters μ i = 0 by omega), show l - (mm_characters μ i + 1) = l - mm_characters μ i + (-1) by omega]
          exact ih _ _ (by omega) (by omega) (by omega) (by omega)
    · rw [if_neg hi, if_neg hi]
theorem a_told (R : Rn μ) (a : Int) : xx_told μ a = mm_told μ a := by
  unfold xx_told mm_told
  by_cases h : a < 0
  · rw [if_pos h, if_pos h]
  · rw [if_neg h, if_neg h]
    exact q_told_l R zN a 0 (by omega) (Int.le_refl _) R.ir.1 (q_fuel R).1
theorem q_taleLong_l (R : Rn μ) : ∀ (g : Nat) (a i : Int), 1 ≤ i → i ≤ μ 114 3 → μ 114 3 - i < (g : Int) → xx_lengthTold_16 g μ (a + (μ 114 3 - i)) i = mm_taleLong_4 g μ a i := by
  intro g
  induction g with
  | zero => intro a i h0 h1 hg; omega
  | succ g ih =>
    intro a i h0 h1 hg
    have hk := R.i
    rw [xx_lengthTold_16, mm_taleLong_4, hk]
    by_cases hi : i < μ 114 3
    · rw [if_pos hi, if_pos hi, if_pos (show 0 < i by omega), (q_chars R (show 0 ≤ i by omega) hi).1, ← ih _ (i + 1) (by omega) (by omega) (by omega)]
      congr 1
      omega
    · rw [if_neg hi, if_neg hi]
      omega
theorem q_taleLong (R : Rn μ) : xx_lengthTold μ = mm_taleLong μ := by
  unfold xx_lengthTold mm_taleLong
  have hk := R.i
  have hr := R.ir
  have hN := zN_big
  generalize zN = N at hN
  obtain ⟨g, rfl⟩ : ∃ k, N = k + 1 := ⟨N - 1, by omega⟩
  rw [xx_lengthTold_16, mm_taleLong_4, hk]
  by_cases hi : 0 < μ 114 3
  · have := zmax_r 0 (μ 114 3 - 1)
    rw [if_pos hi, if_pos hi, if_neg (show ¬ (0 : Int) < 0 by decide), (q_chars R (Int.le_refl _) hi).1, ← q_taleLong_l R g _ (0 + 1) (by omega) (by omega) (by omega)]
    congr 1
    omega
  · have := zmax_r 0 (μ 114 3 - 1)
    rw [if_neg hi, if_neg hi]
    omega
theorem q_itemOf_l (R : Rn μ) {i : Int} (h0 : 0 ≤ i) (hi : i < μ 114 3) (e : μ 114 (304 + 14 * i + 0) = 1) : ∀ (g : Nat) (j : Int), 0 ≤ j → j ≤ i → i - j < (g : Int) → mm_itemOf_4 g μ (hc (μ 114) i - hc (μ 114) j) j = i := by
  intro g
  induction g with
  | zero => intro j j0 j1 hg; omega
  | succ g ih =>
    intro j j0 j1 hg
    have hm := hc_mono (μ 114) j0 j1
    rw [mm_itemOf_4, if_pos (show j < μ 114 3 by omega), if_neg (show ¬ hc (μ 114) i - hc (μ 114) j < 0 by omega)]
    rcases q_iha μ j with ⟨e2, e1⟩ | ⟨e2, e1⟩
    · obtain ⟨⟨a1, a2, a3, a4⟩, -⟩ := q_h R j0 (show j < μ 114 3 by omega) e1
      rw [e2, if_neg n10]
      by_cases hji : j = i
      · subst hji
        rw [if_pos (by omega)]
      · have hm2 := hc_mono (μ 114) (show 0 ≤ j + 1 by omega) (show j + 1 ≤ i by omega)
        rw [if_neg (by omega)]
        have st := ih (j + 1) (by omega) (by omega) (by omega)
        rw [a3] at st
        rw [show hc (μ 114) i - hc (μ 114) j - 1 = hc (μ 114) i - (hc (μ 114) j + 1) by omega]
        exact st
    · have hne : j ≠ i := fun q => e1 (by rw [q]; exact e)
      have st := ih (j + 1) (by omega) (by omega) (by omega)
      rw [q_p R j0 e1] at st
      rw [e2, if_pos rfl, Int.sub_zero, if_neg (by omega)]
      exact st
theorem q_itemOf (R : Rn μ) {i : Int} (h0 : 0 ≤ i) (hi : i < μ 114 3) (e : μ 114 (304 + 14 * i + 0) = 1) : mm_itemOf μ (hc (μ 114) i) = i := by
  have h := q_itemOf_l R h0 hi e zN 0 (Int.le_refl _) h0 (by have := (q_fuel R).1; omega)
  rw [hc_zero, Int.sub_zero] at h
  exact h
theorem q_itemOfN_l (R : Rn μ) {h : Int} (hh : hc (μ 114) (μ 114 3) ≤ h) : ∀ (g : Nat) (j : Int), 0 ≤ j → j ≤ μ 114 3 → μ 114 3 - j < (g : Int) → mm_itemOf_4 g μ (h - hc (μ 114) j) j = -5 := by
  intro g
  induction g with
  | zero => intro j j0 j1 hg; omega
  | succ g ih =>
    intro j j0 j1 hg
    have hm := hc_mono (μ 114) j0 j1
    rw [mm_itemOf_4]
    by_cases hj : j < μ 114 3
    · rw [if_pos hj, if_neg (show ¬ h - hc (μ 114) j < 0 by omega)]
      have hm2 := hc_mono (μ 114) (show 0 ≤ j + 1 by omega) (show j + 1 ≤ μ 114 3 by omega)
      have st := ih (j + 1) (by omega) (by omega) (by omega)
      rcases q_iha μ j with ⟨e2, e1⟩ | ⟨e2, e1⟩
      · obtain ⟨⟨a1, a2, a3, a4⟩, -⟩ := q_h R j0 hj e1
        rw [a3] at st
        rw [e2, if_neg n10, if_neg (by omega), show h - hc (μ 114) j - 1 = h - (hc (μ 114) j + 1) by omega]
        exact st
      · rw [q_p R j0 e1] at st
        rw [e2, if_pos rfl, Int.sub_zero, if_neg (by omega)]
        exact st
    · rw [if_neg hj]
/-- a hole is a hole for both of them -/
theorem q_hh (R : Rn μ) (h : Int) : (xx_hasHole μ h = 0 ∧ mm_isHole μ h = 0) ∨ (xx_hasHole μ h = 1 ∧ mm_isHole μ h = 1 ∧ ∃ i, 0 ≤ i ∧ i < μ 114 3 ∧ μ 114 (304 + 14 * i + 0) = 1 ∧ hc (μ 114) i = h ∧ mm_itemOf μ h = i) := by
  by_cases h0 : h < 0
  · left
    unfold xx_hasHole mm_isHole
    rw [if_pos h0, if_pos h0]
    exact ⟨rfl, rfl⟩
  · by_cases h1 : h < μ 10 1
    · right
      obtain ⟨i, a, b, c, d⟩ := q_find R (by omega) h1
      have hI := q_itemOf R a b c
      rw [d] at hI
      refine ⟨?_, ?_, i, a, b, c, d, hI⟩
      · rw [← d]; exact (q_h R a b c).2
      · unfold mm_isHole
        rw [if_neg h0, hI, if_neg (by omega)]
    · left
      have hI := q_itemOfN_l R (h := h) (by rw [← R.h]; omega) zN 0 (Int.le_refl _) R.ir.1 (q_fuel R).1
      rw [hc_zero, Int.sub_zero] at hI
      have hI : mm_itemOf μ h = -5 := hI
      unfold xx_hasHole mm_isHole
      rw [if_neg h0, if_neg h1, if_neg h0, hI, if_pos rfl]
      exact ⟨rfl, rfl⟩
theorem q_kk (R : Rn μ) (w : Int) : (xx_knows μ w = 0 ∧ mm_isWord μ w = 0) ∨ (xx_knows μ w = 1 ∧ mm_isWord μ w = 1 ∧ 0 ≤ w ∧ w < μ 114 2) := by
  by_cases h : 0 ≤ w ∧ w < μ 114 2
  · exact Or.inr ⟨q_knows1 R h.1 h.2, q_isWord1 h.1 h.2, h⟩
  · exact Or.inl ⟨q_knows0 R h, q_isWord0 h⟩
theorem a_word (R : Rn μ) (a b : Int) : xx_word μ a b = mm_word μ a b := by
  unfold xx_word mm_word
  rcases q_kk R a with ⟨p, q⟩ | ⟨p, q, a0, a1⟩
  · rw [p, q, if_pos rfl, if_pos rfl]
  · rw [p, q, if_neg n10, if_neg n10, q_kind R a0 a1, q_gender R a0 a1, q_slen R a0 a1, q_holesWith R a0]
    rcases q_in b 0 2 with ⟨r, s⟩ | ⟨r, s⟩
    · rw [r, if_pos rfl, if_neg (show ¬ b = 0 by omega), if_neg (show ¬ b = 1 by omega), if_neg (show ¬ b = 2 by omega)]
    · rw [r, if_neg n10]
      by_cases h0 : b = 0
      · rw [if_pos h0, h0]
      · by_cases h1 : b = 1
        · rw [if_neg h0, if_pos h1, h1]
        · rw [if_neg h0, if_neg h1, if_pos (show b = 2 by omega), show b = 2 by omega]
theorem a_letter (R : Rn μ) (a b p : Int) : xx_letter μ a b p = mm_letter μ a b p := by
  unfold xx_letter mm_letter
  rcases q_kk R a with ⟨p1, q⟩ | ⟨p1, q, a0, a1⟩
  · rw [p1, q, if_pos rfl, if_pos rfl]
  · rw [p1, q, if_neg n10, if_neg n10]
    by_cases hb : 0 ≤ b ∧ b ≤ 5
    · rw [q_below1 hb.1 (by omega), q_in1 hb.1 hb.2, if_neg n10, if_neg n10]
      by_cases hp : p < 0
      · rw [if_pos hp, if_pos hp]
      · have hl := q_letter R a0 a1 hb.1 hb.2 (show 0 ≤ p by omega)
        rw [if_neg hp, if_neg hp]
        by_cases h2 : p < mm_lengthOf μ a b
        · rw [if_pos h2, if_neg (by have := (hl.1 h2).2; omega)]
          exact (hl.1 h2).1
        · rw [if_neg h2, if_pos (hl.2 h2)]
    · rw [q_below0 (by omega), q_in0 hb, if_pos rfl, if_pos rfl]
theorem a_hole (R : Rn μ) (a b : Int) : xx_hole μ a b = mm_hole μ a b := by
  unfold xx_hole mm_hole
  rcases q_hh R a with ⟨p, q⟩ | ⟨p, q, i, a0, a1, a2, a3, a4⟩
  · rw [p, q, if_pos rfl, if_pos rfl]
  · rw [p, q, if_neg n10, if_neg n10, a4, ← a3, q_hkind R a0 a1 a2, q_htie R a0 a1 a2, (q_formIn R a0 a1 a2).1, q_lettersIn R a0 a1 a2, q_hitem R a0 a1 a2, q_hempty R a0 a1 a2]
    by_cases h0 : b = 0
    · rw [if_pos h0, if_pos h0, h0]; rfl
    · rw [if_neg h0, if_neg h0]
      by_cases h1 : b = 1
      · rw [if_pos h1, if_pos h1, h1]; rfl
      · rw [if_neg h1, if_neg h1]
        by_cases h2 : b = 2
        · rw [if_pos h2, if_pos h2, h2]
          show _ = mm_ofItem μ i 3
          rcases q_hword R a0 a1 a2 with ⟨s, t⟩ | ⟨s, t, r⟩
          · rw [if_pos t, if_neg n10, t]
          · rw [if_neg (show ¬ mm_ofItem μ i 3 = -5 by omega), if_pos rfl, r]
        · rw [if_neg h2, if_neg h2]
theorem q_isTie (t : Int) : (xx_isBelow t 10 = 0 ∧ mm_isTie t = 0) ∨ (xx_isBelow t 10 = 1 ∧ mm_isTie t = 1 ∧ 0 ≤ t ∧ t ≤ 9) := by
  by_cases h : 0 ≤ t ∧ t ≤ 9
  · exact Or.inr ⟨q_below1 h.1 (by omega), q_in1 h.1 h.2, h⟩
  · exact Or.inl ⟨q_below0 (by omega), q_in0 h⟩
theorem a_tie (R : Rn μ) (a b : Int) : xx_tie μ a b = mm_tie μ a b := by
  unfold xx_tie mm_tie
  rcases q_isTie a with ⟨p, q⟩ | ⟨p, q, a0, a1⟩
  · rw [p, q, if_pos rfl, if_pos rfl]
  · have e1 : μ 19 a = mm_numberOf μ a := (R.num a a0 (by omega)).1
    have e2 : μ 20 a = mm_tenseOf μ a := (R.num a a0 (by omega)).2.1
    rw [p, q, if_neg n10, if_neg n10, e1, e2, (q_genderOfTie R a).1, q_holesOfTie R a0 (Or.inl rfl), q_holesOfTie R a0 (Or.inr rfl)]
    by_cases h0 : b = 0
    · rw [if_pos h0, if_pos h0]
    · rw [if_neg h0, if_neg h0]
      by_cases h1 : b = 1
      · rw [if_pos h1, if_pos h1]
      · rw [if_neg h1, if_neg h1]
        by_cases h2 : b = 2
        · rw [if_pos h2, if_pos h2]
        · rw [if_neg h2, if_neg h2]
          by_cases h3 : b = 3
          · rw [if_pos h3, if_pos h3, h3]; rfl
          · rw [if_neg h3, if_neg h3]
            by_cases h4 : b = 4
            · rw [if_pos h4, if_pos h4, h4]; rfl
            · rw [if_neg h4, if_neg h4]
              by_cases h5 : b = 5
              · rw [if_pos h5, if_pos h5]
                rcases q_nounIn R a with ⟨s, t⟩ | ⟨s, t, r⟩
                · rw [if_pos s, if_pos t]
                · have hw := (q_wr R s t).2.1
                  rw [if_neg (show ¬ xx_nounIn μ a (-1) = -1 by omega), if_neg (show ¬ mm_nounIn μ a (-5) = -5 by omega)]
              · rw [if_neg h5, if_neg h5]
theorem a_reason (R : Rn μ) (a b : Int) : xx_reason μ a b = mm_reason μ a b := by
  unfold xx_reason mm_reason
  rcases q_hh R a with ⟨p, q⟩ | ⟨p, q, i, a0, a1, a2, a3, a4⟩
  · rw [p, q, if_pos rfl, if_pos rfl]
  · rcases q_kk R b with ⟨r, s⟩ | ⟨r, s, b0, b1⟩
    · rw [p, q, if_neg n10, if_neg n10, r, s, if_pos rfl, if_pos rfl]
    · rw [p, q, if_neg n10, if_neg n10, r, s, if_neg n10, if_neg n10, a4, ← a3, q_why R a0 a1 a2 b0 b1]
theorem q_fits_l (R : Rn μ) {i : Int} (h0 : 0 ≤ i) (hi : i < μ 114 3) (e : μ 114 (304 + 14 * i + 0) = 1) {h : Int} (hI : mm_itemOf μ h = i) (hh : hc (μ 114) i = h) : ∀ (g : Nat) (y : Int32) (w : Int), 0 ≤ w → xx_fits_20 g μ h y.toInt w = mm_fits_14 g μ h y.toInt w := by
  intro g
  induction g with
  | zero => intro y w w0; rfl
  | succ g ih =>
    intro y w w0
    have hk := R.k
    rw [xx_fits_20, mm_fits_14, hk]
    by_cases hw : w < μ 114 2
    · rw [if_pos hw, if_pos hw, hI, ← hh, q_why R h0 hi e w0 hw, hh]
      by_cases h1 : mm_why μ i w = 0
      · rw [if_pos h1, if_pos h1]
        exact ih _ _ (by omega)
      · rw [if_neg h1, if_neg h1, show zor y.toInt 0 = y.toInt by
          unfold zor
          rw [Int32.ofInt_toInt]
          simp]
        exact ih _ _ (by omega)
    · rw [if_neg hw, if_neg hw]
theorem a_fits (R : Rn μ) (a : Int) : xx_fits μ a = mm_fits μ a := by
  unfold xx_fits mm_fits
  rcases q_hh R a with ⟨p, q⟩ | ⟨p, q, i, a0, a1, a2, a3, a4⟩
  · rw [p, q, if_pos rfl, if_pos rfl]
  · rw [p, q, if_neg n10, if_neg n10]
    exact q_fits_l R a0 a1 a2 a4 a3 zN 0 0 (Int.le_refl _)
theorem a_tieCould (R : Rn μ) (a b : Int) : xx_tieCould μ a b = mm_tieCould μ a b := by
  unfold xx_tieCould mm_tieCould
  rcases q_isTie a with ⟨p, q⟩ | ⟨p, q, a0, a1⟩
  · rw [p, q, if_pos rfl, if_pos rfl]
  · have hN := zN_big
    rw [p, q, if_neg n10, if_neg n10, q_hasNounHole R a]
    by_cases h : mm_hasNounHole μ a = 0
    · rw [if_pos h, if_pos h]
      exact q_tieCould_l R ⟨a0, a1⟩ (n := 0) (by decide) zN (-1) (-5) 0 (Or.inl ⟨rfl, rfl⟩) (by decide) (by decide) (by omega)
    · rw [if_neg h, if_neg h]
      exact q_tieCould_l R ⟨a0, a1⟩ (n := 2) (by decide) zN (-1) (-5) 0 (Or.inl ⟨rfl, rfl⟩) (by decide) (by decide) (by omega)
theorem a_count (R : Rn μ) (h9 : μ 39 1 = μ 113 3) (h10 : μ 1 1 = μ 113 8) (a : Int) : xx_count μ a = mm_count μ a := by
  unfold xx_count mm_count
  have e7 : μ 3 4 = μ 114 0 := R.once
  have e8 : μ 3 5 = μ 114 1 := R.fil
  rw [R.k, R.i, q_holesE R, q_taleLong R, q_lettersInHoles R, q_tiesWithHoles R, e7, e8, h9, h10]
  by_cases h2 : a = 2
  · subst h2
    rw [show (2 : Int) - 2 = 0 from rfl, q_holesA R]
    rfl
  · by_cases h3 : a = 3
    · subst h3
      rfl
    · rw [if_neg h2, if_neg h3, if_neg h2, if_neg h3]
end EQ
