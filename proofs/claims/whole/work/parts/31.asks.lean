/-! what is asked: the class's loops over holes are the reference's over items -/
section EQ
variable {μ : zM}
theorem q_fuel {μ : zM} (R : Rn μ) : μ 114 3 - 0 < ((zN : Nat) : Int) ∧ μ 114 2 - 0 < ((zN : Nat) : Int) := by
  have := zN_big
  have := R.ir
  have := R.kr
  omega
theorem q_holesWith_l (R : Rn μ) {w : Int} (hw : 0 ≤ w) : ∀ (g f : Nat) (i acc : Int), 0 ≤ i → i ≤ μ 114 3 → μ 114 3 - i < (f : Int) → μ 114 3 - i < (g : Int) → xx_holesWith_4 f μ w acc (hc (μ 114) i) = mm_holesWith_4 g μ w acc i := by
  intro g
  induction g with
  | zero => intro f i acc h0 h1 hf hg; omega
  | succ g ih =>
    intro f i acc h0 h1 hf hg
    by_cases hi : i < μ 114 3
    · rcases q_iha μ i with ⟨e, e1⟩ | ⟨e, e1⟩
      · obtain ⟨f, rfl⟩ : ∃ k, f = k + 1 := ⟨f - 1, by omega⟩
        obtain ⟨⟨a1, a2, a3, a4⟩, -⟩ := q_h R h0 hi e1
        have st := fun acc => ih f (i + 1) acc (by omega) (by omega) (by omega) (by omega)
        rw [a3] at st
        have hW := q_hword R h0 hi e1
        rw [xx_holesWith_4, mm_holesWith_4, if_pos a2, if_pos hi, e, if_neg n10]
        by_cases hx : xx_wordIn μ (hc (μ 114) i) = w
        · rw [if_pos hx, if_pos (by rcases hW with ⟨p, q⟩ | ⟨p, q, r⟩ <;> omega)]
          exact st _
        · rw [if_neg hx, if_neg (by rcases hW with ⟨p, q⟩ | ⟨p, q, r⟩ <;> omega), Int.add_zero]
          exact st _
      · have st := ih f (i + 1) acc (by omega) (by omega) (by omega) (by omega)
        rw [q_p R h0 e1] at st
        rw [mm_holesWith_4, if_pos hi, e, if_pos rfl, Int.add_zero]
        exact st
    · obtain ⟨f, rfl⟩ : ∃ k, f = k + 1 := ⟨f - 1, by omega⟩
      have := R.h
      rw [show i = μ 114 3 by omega, xx_holesWith_4, mm_holesWith_4, if_neg (by omega), if_neg (by omega)]
theorem q_holesWith (R : Rn μ) {w : Int} (hw : 0 ≤ w) : xx_holesWith μ w = mm_holesWith μ w :=
  q_holesWith_l R hw zN zN 0 0 (Int.le_refl _) R.ir.1 (q_fuel R).1 (q_fuel R).1
/-- the empty holes are counted alike -/
theorem q_holesE_l (R : Rn μ) : ∀ (g f : Nat) (i acc : Int), 0 ≤ i → i ≤ μ 114 3 → μ 114 3 - i < (f : Int) → μ 114 3 - i < (g : Int) → xx_holesWith_4 f μ (-1) acc (hc (μ 114) i) = mm_holes_5 g μ (-5) 1 acc i := by
  intro g
  induction g with
  | zero => intro f i acc h0 h1 hf hg; omega
  | succ g ih =>
    intro f i acc h0 h1 hf hg
    by_cases hi : i < μ 114 3
    · rcases q_iha μ i with ⟨e, e1⟩ | ⟨e, e1⟩
      · obtain ⟨f, rfl⟩ : ∃ k, f = k + 1 := ⟨f - 1, by omega⟩
        obtain ⟨⟨a1, a2, a3, a4⟩, -⟩ := q_h R h0 hi e1
        have st := fun acc => ih f (i + 1) acc (by omega) (by omega) (by omega) (by omega)
        rw [a3] at st
        have hW := q_hword R h0 hi e1
        rw [xx_holesWith_4, mm_holes_5, if_pos a2, if_pos hi, e, if_neg n10, if_pos rfl, if_neg n10]
        by_cases hx : xx_wordIn μ (hc (μ 114) i) = -1
        · rw [if_pos hx, if_pos (by rcases hW with ⟨p, q⟩ | ⟨p, q, r⟩ <;> omega), if_neg n10]
          exact st _
        · rw [if_neg hx, if_neg (by rcases hW with ⟨p, q⟩ | ⟨p, q, r⟩ <;> omega), if_pos rfl, Int.add_zero]
          exact st _
      · have st := ih f (i + 1) acc (by omega) (by omega) (by omega) (by omega)
        rw [q_p R h0 e1] at st
        rw [mm_holes_5, if_pos hi, e, if_pos rfl, if_pos rfl, Int.add_zero]
        exact st
    · obtain ⟨f, rfl⟩ : ∃ k, f = k + 1 := ⟨f - 1, by omega⟩
      have := R.h
      rw [show i = μ 114 3 by omega, xx_holesWith_4, mm_holes_5, if_neg (by omega), if_neg (by omega)]
theorem q_holesE (R : Rn μ) : xx_holesWith μ (-1) = mm_holes μ (-5) 1 :=
  q_holesE_l R zN zN 0 0 (Int.le_refl _) R.ir.1 (q_fuel R).1 (q_fuel R).1
theorem q_holesA_l (R : Rn μ) : ∀ (g : Nat) (i : Int), 0 ≤ i → i ≤ μ 114 3 → μ 114 3 - i < (g : Int) → mm_holes_5 g μ (-5) 0 (hc (μ 114) i) i = hc (μ 114) (μ 114 3) := by
  intro g
  induction g with
  | zero => intro i h0 h1 hg; omega
  | succ g ih =>
    intro i h0 h1 hg
    by_cases hi : i < μ 114 3
    · have st := ih (i + 1) (by omega) (by omega) (by omega)
      rcases q_iha μ i with ⟨e, e1⟩ | ⟨e, e1⟩
      · obtain ⟨⟨a1, a2, a3, a4⟩, -⟩ := q_h R h0 hi e1
        rw [a3] at st
        rw [mm_holes_5, if_pos hi, e, if_neg n10, if_pos rfl, if_pos rfl, if_neg n10]
        exact st
      · rw [q_p R h0 e1] at st
        rw [mm_holes_5, if_pos hi, e, if_pos rfl, if_pos rfl, Int.add_zero]
        exact st
    · rw [mm_holes_5, if_neg hi, show i = μ 114 3 by omega]
theorem q_holesA (R : Rn μ) : mm_holes μ (-5) 0 = μ 10 1 := by
  rw [R.h]
  exact q_holesA_l R zN 0 (Int.le_refl _) R.ir.1 (q_fuel R).1
theorem q_holesOfTie_l (R : Rn μ) {t em : Int} (ht : 0 ≤ t) (hem : em = 0 ∨ em = 1) : ∀ (g f : Nat) (i acc : Int), 0 ≤ i → i ≤ μ 114 3 → μ 114 3 - i < (f : Int) → μ 114 3 - i < (g : Int) → xx_holesOfTie_5 f μ t em acc (hc (μ 114) i) = mm_holes_5 g μ t em acc i := by
  intro g
  induction g with
  | zero => intro f i acc h0 h1 hf hg; omega
  | succ g ih =>
    intro f i acc h0 h1 hf hg
    by_cases hi : i < μ 114 3
    · rcases q_iha μ i with ⟨e, e1⟩ | ⟨e, e1⟩
      · obtain ⟨f, rfl⟩ : ∃ k, f = k + 1 := ⟨f - 1, by omega⟩
        obtain ⟨⟨a1, a2, a3, a4⟩, -⟩ := q_h R h0 hi e1
        have st := fun acc => ih f (i + 1) acc (by omega) (by omega) (by omega) (by omega)
        rw [a3] at st
        rw [xx_holesOfTie_5, mm_holes_5, if_pos a2, if_pos hi, e, if_neg n10, if_neg (show ¬ t = -5 by omega), q_htie R h0 hi e1]
        by_cases hx : mm_ofItem μ i 2 = t
        · rw [if_pos hx, if_pos hx]
          by_cases h0 : em = 0
          · rw [if_pos h0, if_pos h0, if_neg n10]
            exact st _
          · rw [if_neg h0, if_neg h0, q_hempty R (by omega) hi e1]
            by_cases h5 : mm_ofItem μ i 3 = (-5)
            · rw [if_pos h5, if_pos h5, if_neg n10, if_neg n10]
              exact st _
            · rw [if_neg h5, if_neg h5, if_pos rfl, if_pos rfl, Int.add_zero]
              exact st _
        · rw [if_neg hx, if_neg hx, if_pos rfl, Int.add_zero]
          exact st _
      · have st := ih f (i + 1) acc (by omega) (by omega) (by omega) (by omega)
        rw [q_p R h0 e1] at st
        rw [mm_holes_5, if_pos hi, e, if_pos rfl, if_pos rfl, Int.add_zero]
        exact st
    · obtain ⟨f, rfl⟩ : ∃ k, f = k + 1 := ⟨f - 1, by omega⟩
      have := R.h
      rw [show i = μ 114 3 by omega, xx_holesOfTie_5, mm_holes_5, if_neg (by omega), if_neg (by omega)]
theorem q_holesOfTie (R : Rn μ) {t em : Int} (ht : 0 ≤ t) (hem : em = 0 ∨ em = 1) : xx_holesOfTie μ t em = mm_holes μ t em :=
  q_holesOfTie_l R ht hem zN zN 0 0 (Int.le_refl _) R.ir.1 (q_fuel R).1 (q_fuel R).1
theorem q_tiesWithHoles_l (R : Rn μ) : ∀ (g : Nat) (acc t : Int), 0 ≤ t → xx_tiesWithHoles_4 g μ acc t = mm_tiesWithHoles_4 g μ acc t := by
  intro g
  induction g with
  | zero => intro acc t h0; rfl
  | succ g ih =>
    intro acc t h0
    rw [xx_tiesWithHoles_4, mm_tiesWithHoles_4, q_holesOfTie R h0 (Or.inl rfl), Int.add_zero, ih _ _ (by omega), ih _ _ (by omega)]
theorem q_tiesWithHoles (R : Rn μ) : xx_tiesWithHoles μ = mm_tiesWithHoles μ := q_tiesWithHoles_l R zN 0 0 (Int.le_refl _)
theorem q_hasNounHole_1 (t : Int) : ∀ (g : Nat) (i : Int), i ≤ μ 114 3 → μ 114 3 - i < (g : Int) → mm_hasNounHole_4 g μ t 1 i = 1 := by
  intro g
  induction g with
  | zero => intro i h1 hg; omega
  | succ g ih =>
    intro i h1 hg
    rw [mm_hasNounHole_4]
    by_cases hi : i < μ 114 3
    · rw [if_pos hi, if_neg n10]; exact ih _ (by omega) (by omega)
    · rw [if_neg hi]
theorem q_hasNounHole_l (R : Rn μ) (t : Int) : ∀ (g f : Nat) (i : Int), 0 ≤ i → i ≤ μ 114 3 → μ 114 3 - i < (f : Int) → μ 114 3 - i < (g : Int) → xx_hasNounHole_2 f μ t (hc (μ 114) i) = mm_hasNounHole_4 g μ t 0 i := by
  intro g
  induction g with
  | zero => intro f i h0 h1 hf hg; omega
  | succ g ih =>
    intro f i h0 h1 hf hg
    by_cases hi : i < μ 114 3
    · rcases q_iha μ i with ⟨e, e1⟩ | ⟨e, e1⟩
      · obtain ⟨f, rfl⟩ : ∃ k, f = k + 1 := ⟨f - 1, by omega⟩
        obtain ⟨⟨a1, a2, a3, a4⟩, -⟩ := q_h R h0 hi e1
        have st := ih f (i + 1) (by omega) (by omega) (by omega) (by omega)
        rw [a3] at st
        rw [xx_hasNounHole_2, mm_hasNounHole_4, if_pos a2, if_pos hi, e, if_pos rfl, if_neg n10, q_htie R h0 hi e1, q_hkind R h0 hi e1]
        by_cases hx : mm_ofItem μ i 2 = t
        · rw [if_pos hx, if_pos hx]
          by_cases hy : mm_ofItem μ i 1 = 0
          · rw [if_pos hy, if_pos hy, q_hasNounHole_1 t g (i + 1) (by omega) (by omega)]
          · rw [if_neg hy, if_neg hy]
            exact st
        · rw [if_neg hx, if_neg hx]
          exact st
      · have st := ih f (i + 1) (by omega) (by omega) (by omega) (by omega)
        rw [q_p R h0 e1] at st
        rw [mm_hasNounHole_4, if_pos hi, e, if_pos rfl, if_pos rfl]
        exact st
    · obtain ⟨f, rfl⟩ : ∃ k, f = k + 1 := ⟨f - 1, by omega⟩
      have := R.h
      rw [show i = μ 114 3 by omega, xx_hasNounHole_2, mm_hasNounHole_4, if_neg (by omega), if_neg (by omega)]
theorem q_hasNounHole (R : Rn μ) (t : Int) : xx_hasNounHole μ t = mm_hasNounHole μ t :=
  q_hasNounHole_l R t zN zN 0 (Int.le_refl _) R.ir.1 (q_fuel R).1 (q_fuel R).1
/-- a noun of a tie: the class gives the word, the reference its gender -/
def VN (μ : zM) (x m : Int) : Prop := (x = -1 ∧ m = -5) ∨ (0 ≤ x ∧ x < μ 114 2 ∧ m = mm_ofWord μ x 1)
theorem q_nounIn_l (R : Rn μ) {t a b : Int} (hab : ∀ i, 0 ≤ i → i < μ 114 3 → μ 114 (304 + 14 * i + 0) = 1 → (hc (μ 114) i = a ↔ i = b)) : ∀ (g f : Nat) (i : Int), 0 ≤ i → i ≤ μ 114 3 → μ 114 3 - i < (f : Int) → μ 114 3 - i < (g : Int) → VN μ (xx_nounIn_2 f μ t a (hc (μ 114) i)) (mm_nounIn_2 g μ t b i) := by
  intro g
  induction g with
  | zero => intro f i h0 h1 hf hg; omega
  | succ g ih =>
    intro f i h0 h1 hf hg
    by_cases hi : i < μ 114 3
    · rcases q_iha μ i with ⟨e, e1⟩ | ⟨e, e1⟩
      · obtain ⟨f, rfl⟩ : ∃ k, f = k + 1 := ⟨f - 1, by omega⟩
        obtain ⟨⟨a1, a2, a3, a4⟩, -⟩ := q_h R h0 hi e1
        have st := ih f (i + 1) (by omega) (by omega) (by omega) (by omega)
        rw [a3] at st
        have hW := q_hword R h0 hi e1
        rw [q_hw0 R h0 hi e1] at hW
        have e16 : μ 16 (hc (μ 114) i) = mm_ofItem μ i 2 := (R.hole i h0 hi e1).2.2.2.1
        have e15 : μ 15 (hc (μ 114) i) = mm_ofItem μ i 1 := (R.hole i h0 hi e1).2.2.1
        have hq := hab i h0 hi e1
        rw [xx_nounIn_2, mm_nounIn_2, if_pos a2, if_pos a4, if_pos hi, e, if_neg n10, e16, e15]
        by_cases hb : i = b
        · rw [if_pos hb, if_pos (hq.mpr hb), if_pos rfl]
          by_cases h2 : mm_ofItem μ i 2 = t
          · rw [if_pos h2]
            by_cases h3 : mm_ofItem μ i 1 = 0
            · rw [if_pos h3]; exact st
            · rw [if_neg h3]; exact st
          · rw [if_neg h2]; exact st
        · rw [if_neg hb, if_neg (fun q => hb (hq.mp q)), if_neg n10, if_pos rfl]
          by_cases h2 : mm_ofItem μ i 2 = t
          · rw [if_pos h2, if_pos h2]
            by_cases h3 : mm_ofItem μ i 1 = 0
            · rw [if_pos h3, if_pos h3]
              rcases hW with ⟨p, q⟩ | ⟨p, q, r⟩
              · rw [if_pos p, if_pos q]; exact st
              · rw [if_neg (by omega), if_neg (by omega), r]
                exact Or.inr ⟨p, q, rfl⟩
            · rw [if_neg h3, if_neg h3]; exact st
          · rw [if_neg h2, if_neg h2]; exact st
      · have st := ih f (i + 1) (by omega) (by omega) (by omega) (by omega)
        rw [q_p R h0 e1] at st
        rw [mm_nounIn_2, if_pos hi, e, if_pos rfl]
        by_cases hb : i = b
        · rw [if_pos hb]; exact st
        · rw [if_neg hb]; exact st
    · obtain ⟨f, rfl⟩ : ∃ k, f = k + 1 := ⟨f - 1, by omega⟩
      have := R.h
      rw [show i = μ 114 3 by omega, xx_nounIn_2, mm_nounIn_2, if_neg (by omega), if_neg (by omega)]
      exact Or.inl ⟨rfl, rfl⟩
theorem q_nounIn (R : Rn μ) (t : Int) : VN μ (xx_nounIn μ t (-1)) (mm_nounIn μ t (-5)) :=
  q_nounIn_l R (fun i h0 hi e => ⟨fun q => by have := hc_nn (μ 114) i; omega, fun q => by omega⟩) zN zN 0 (Int.le_refl _) R.ir.1 (q_fuel R).1 (q_fuel R).1
theorem q_nounInB (R : Rn μ) (t : Int) {j : Int} (j0 : 0 ≤ j) (hj : j < μ 114 3) (ej : μ 114 (304 + 14 * j + 0) = 1) : VN μ (xx_nounIn μ t (hc (μ 114) j)) (mm_nounIn μ t j) :=
  q_nounIn_l R (fun i h0 hi e => q_inj R h0 hi e j0 hj ej) zN zN 0 (Int.le_refl _) R.ir.1 (q_fuel R).1 (q_fuel R).1
theorem q_genderOfTie (R : Rn μ) (t : Int) : xx_genderOfTie μ t = mm_genderOf μ t ∧ 0 ≤ mm_genderOf μ t ∧ mm_genderOf μ t ≤ 2 := by
  unfold xx_genderOfTie mm_genderOf
  rcases q_nounIn R t with ⟨p, q⟩ | ⟨p, q, r⟩
  · rw [p, q, if_pos rfl]
    refine ⟨?_, by omega, by omega⟩
    unfold xx_genderOf
    rw [q_knows0 R (by omega), if_pos rfl]
  · have h := (q_wr R p q).2.1
    rw [q_gender R p q, r, if_neg (by omega)]
    exact ⟨rfl, h⟩
theorem q_form (R : Rn μ) {k t x : Int} (ht : 0 ≤ t ∧ t ≤ 9) (hx : 0 ≤ x ∧ x ≤ 2) : xx_formOf μ k t x = mm_form μ k t x ∧ 0 ≤ mm_form μ k t x ∧ mm_form μ k t x ≤ 5 := by
  obtain ⟨a, b, c, d⟩ := R.num t ht.1 (by omega)
  have a : μ 19 t = mm_numberOf μ t := a
  have b : μ 20 t = mm_tenseOf μ t := b
  have c : 0 ≤ mm_numberOf μ t ∧ mm_numberOf μ t ≤ 1 := c
  have d : 0 ≤ mm_tenseOf μ t ∧ mm_tenseOf μ t ≤ 2 := d
  unfold xx_formOf mm_form
  rw [q_below1 ht.1 (by omega), if_neg n10, a, b]
  refine ⟨rfl, ?_⟩
  by_cases h1 : k = 0
  · rw [if_pos h1]; omega
  · rw [if_neg h1]
    by_cases h2 : k = 1
    · rw [if_pos h2]; omega
    · rw [if_neg h2]; omega
theorem q_formIn (R : Rn μ) {i : Int} (h0 : 0 ≤ i) (hi : i < μ 114 3) (e : μ 114 (304 + 14 * i + 0) = 1) : xx_formIn μ (hc (μ 114) i) = mm_formAt μ i ∧ 0 ≤ mm_formAt μ i ∧ mm_formAt μ i ≤ 5 := by
  unfold xx_formIn mm_formAt
  have hg := q_genderOfTie R (mm_ofItem μ i 2)
  rw [q_hkind R h0 hi e, q_htie R h0 hi e, hg.1]
  exact q_form R (q_ir R h0 hi e).2 hg.2
theorem q_lettersIn (R : Rn μ) {i : Int} (h0 : 0 ≤ i) (hi : i < μ 114 3) (e : μ 114 (304 + 14 * i + 0) = 1) : xx_lettersIn μ (hc (μ 114) i) = mm_lettersAt μ i := by
  have hf := q_formIn R h0 hi e
  unfold xx_lettersIn mm_lettersAt
  rw [q_hempty R h0 hi e]
  rcases q_hword R h0 hi e with ⟨p, q⟩ | ⟨p, q, r⟩
  · rw [if_pos q, if_neg n10, if_pos q]
  · rw [if_neg (show ¬ mm_ofItem μ i 3 = -5 by omega), if_pos rfl, if_neg (show ¬ mm_ofItem μ i 3 = -5 by omega), r, hf.1, q_len R p q hf.2.1 hf.2.2]
theorem q_lettersInHoles_l (R : Rn μ) : ∀ (g f : Nat) (i acc : Int), 0 ≤ i → i ≤ μ 114 3 → μ 114 3 - i < (f : Int) → μ 114 3 - i < (g : Int) → xx_lettersInHoles_4 f μ acc (hc (μ 114) i) = mm_lettersInHoles_4 g μ acc i := by
  intro g
  induction g with
  | zero => intro f i acc h0 h1 hf hg; omega
  | succ g ih =>
    intro f i acc h0 h1 hf hg
    by_cases hi : i < μ 114 3
    · rcases q_iha μ i with ⟨e, e1⟩ | ⟨e, e1⟩
      · obtain ⟨f, rfl⟩ : ∃ k, f = k + 1 := ⟨f - 1, by omega⟩
        obtain ⟨⟨a1, a2, a3, a4⟩, -⟩ := q_h R h0 hi e1
        have st := fun acc => ih f (i + 1) acc (by omega) (by omega) (by omega) (by omega)
        rw [a3] at st
        rw [xx_lettersInHoles_4, mm_lettersInHoles_4, if_pos a2, if_pos hi, e, if_neg n10, q_lettersIn R h0 hi e1]
        exact st _
      · have st := ih f (i + 1) acc (by omega) (by omega) (by omega) (by omega)
        rw [q_p R h0 e1] at st
        rw [mm_lettersInHoles_4, if_pos hi, e, if_pos rfl, Int.add_zero]
        exact st
    · obtain ⟨f, rfl⟩ : ∃ k, f = k + 1 := ⟨f - 1, by omega⟩
      have := R.h
      rw [show i = μ 114 3 by omega, xx_lettersInHoles_4, mm_lettersInHoles_4, if_neg (by omega), if_neg (by omega)]
theorem q_lettersInHoles (R : Rn μ) : xx_lettersInHoles μ = mm_lettersInHoles μ :=
  q_lettersInHoles_l R zN zN 0 0 (Int.le_refl _) R.ir.1 (q_fuel R).1 (q_fuel R).1
/-- why a word does not fit -/
theorem q_why (R : Rn μ) {i w : Int} (h0 : 0 ≤ i) (hi : i < μ 114 3) (e : μ 114 (304 + 14 * i + 0) = 1) (w0 : 0 ≤ w) (hw : w < μ 114 2) : xx_reasonAgainst μ (hc (μ 114) i) w = mm_why μ i w := by
  have ho : μ 3 4 = μ 114 0 := R.once
  unfold xx_reasonAgainst mm_why xx_disagrees
  rw [q_kind R w0 hw, q_hkind R h0 hi e, q_htie R h0 hi e, ho, q_holesWith R w0, q_gender R w0 hw]
  by_cases h1 : mm_ofWord μ w 0 = mm_ofItem μ i 1
  · rw [if_pos h1, if_pos h1]
    by_cases h2 : mm_ofWord μ w 0 = 0
    · rw [if_pos h2, if_pos h2]
      rcases q_nounInB R (mm_ofItem μ i 2) h0 hi e with ⟨p, q⟩ | ⟨p, q, r⟩
      · rw [if_pos p, if_pos rfl, if_pos q]
      · have hr := (q_wr R p q).2.1
        rw [if_neg (show ¬ xx_nounIn μ (mm_ofItem μ i 2) (hc (μ 114) i) = -1 by omega), q_gender R p q, r, if_neg (show ¬ mm_ofWord μ (xx_nounIn μ (mm_ofItem μ i 2) (hc (μ 114) i)) 1 = -5 by omega)]
        by_cases h3 : mm_ofWord μ (xx_nounIn μ (mm_ofItem μ i 2) (hc (μ 114) i)) 1 = mm_ofWord μ w 1
        · rw [if_pos h3, if_pos rfl, if_pos h3]
        · rw [if_neg h3, if_neg n10, if_neg h3]
    · rw [if_neg h2, if_neg h2]
  · rw [if_neg h1, if_neg h1]
theorem q_lowest_l (R : Rn μ) {i : Int} (h0 : 0 ≤ i) (hi : i < μ 114 3) (e : μ 114 (304 + 14 * i + 0) = 1) : ∀ (g : Nat) (w : Int), 0 ≤ w → w ≤ μ 114 2 → μ 114 2 - w < (g : Int) → HW (μ 114 2) (xx_lowestFitting_2 g μ (hc (μ 114) i) w) (mm_lowest_2 g μ i w) := by
  intro g
  induction g with
  | zero => intro w w0 w1 hg; omega
  | succ g ih =>
    intro w w0 w1 hg
    have hk := R.k
    rw [xx_lowestFitting_2, mm_lowest_2, hk]
    by_cases hw : w < μ 114 2
    · rw [if_pos hw, if_pos hw, q_why R h0 hi e w0 hw]
      by_cases h1 : mm_why μ i w = 0
      · rw [if_pos h1, if_pos h1]
        exact Or.inr ⟨w0, hw, rfl⟩
      · rw [if_neg h1, if_neg h1]
        exact ih _ (by omega) (by omega) (by omega)
    · rw [if_neg hw, if_neg hw]
      exact Or.inl ⟨rfl, rfl⟩
theorem q_lowest (R : Rn μ) {i : Int} (h0 : 0 ≤ i) (hi : i < μ 114 3) (e : μ 114 (304 + 14 * i + 0) = 1) : HW (μ 114 2) (xx_lowestFitting μ (hc (μ 114) i)) (mm_lowest μ i) :=
  q_lowest_l R h0 hi e zN 0 (Int.le_refl _) R.kr.1 (q_fuel R).2
/-- best lengths -/
def VB (a b : Int) : Prop := (a = -1 ∧ b = -5) ∨ (0 ≤ a ∧ b = a)
theorem q_better {a b l its : Int} (h : VB a b) (hi : 0 ≤ its) : VB (xx_better a its l) (if b = (-5) then its else (if l = 0 then (if its < b then its else b) else (if b < its then its else b))) := by
  unfold xx_better
  rcases h with ⟨p, q⟩ | ⟨p, q⟩
  · rw [if_pos p, if_pos q]; exact Or.inr ⟨hi, rfl⟩
  · rw [if_neg (show ¬ a = -1 by omega), if_neg (show ¬ its = -1 by omega), if_neg (show ¬ b = -5 by omega)]
    by_cases hl : l = 0
    · rw [if_pos hl, if_pos hl, q]
      refine Or.inr ⟨?_, rfl⟩
      have := zmin_r a its
      omega
    · rw [if_neg hl, if_neg hl, q]
      refine Or.inr ⟨?_, rfl⟩
      have := zmax_r a its
      omega
theorem q_best_l (R : Rn μ) {k x fm l : Int} (hf : 0 ≤ fm ∧ fm ≤ 5) : ∀ (g : Nat) (a b w : Int), VB a b → 0 ≤ w → w ≤ μ 114 2 → μ 114 2 - w < (g : Int) → VB (xx_lettersKindCould_6 g μ k x fm l a w) (mm_best_7 g μ k fm x l b w) := by
  intro g
  induction g with
  | zero => intro a b w hv w0 w1 hg; omega
  | succ g ih =>
    intro a b w hv w0 w1 hg
    have hk := R.k
    rw [xx_lettersKindCould_6, mm_best_7, hk]
    by_cases hw : w < μ 114 2
    · have st := fun a b h => ih a b (w + 1) h (by omega) (by omega) (by omega)
      rw [if_pos hw, if_pos hw, q_kind R w0 hw, q_gender R w0 hw, q_len R w0 hw hf.1 hf.2, if_pos rfl, if_neg n10]
      have its := q_lenr R w0 hw hf.1 hf.2
      have sb := st _ _ (q_better (l := l) hv its)
      have e2 : (if b = (-5) then (mm_best_7 g μ k fm x l (mm_lengthOf μ w fm) (w + 1)) else (if l = 0 then (if l = 0 then (if (mm_lengthOf μ w fm) < b then (mm_best_7 g μ k fm x l (mm_lengthOf μ w fm) (w + 1)) else (mm_best_7 g μ k fm x l b (w + 1))) else (mm_best_7 g μ k fm x l b (w + 1))) else (if b < (mm_lengthOf μ w fm) then (mm_best_7 g μ k fm x l (mm_lengthOf μ w fm) (w + 1)) else (if l = 0 then (if (mm_lengthOf μ w fm) < b then (mm_best_7 g μ k fm x l (mm_lengthOf μ w fm) (w + 1)) else (mm_best_7 g μ k fm x l b (w + 1))) else (mm_best_7 g μ k fm x l b (w + 1)))))) = mm_best_7 g μ k fm x l (if b = (-5) then (mm_lengthOf μ w fm) else (if l = 0 then (if (mm_lengthOf μ w fm) < b then (mm_lengthOf μ w fm) else b) else (if b < (mm_lengthOf μ w fm) then (mm_lengthOf μ w fm) else b))) (w + 1) := by
        by_cases c1 : b = -5
        · rw [if_pos c1, if_pos c1]
        · rw [if_neg c1, if_neg c1]
          by_cases c2 : l = 0
          · rw [if_pos c2, if_pos c2, if_pos c2]
            by_cases c3 : mm_lengthOf μ w fm < b
            · rw [if_pos c3, if_pos c3]
            · rw [if_neg c3, if_neg c3]
          · rw [if_neg c2, if_neg c2, if_neg c2]
            by_cases c3 : b < mm_lengthOf μ w fm
            · rw [if_pos c3, if_pos c3]
            · rw [if_neg c3, if_neg c3]
      rw [e2]
      by_cases h1 : mm_ofWord μ w 0 = k
      · rw [if_pos h1, if_pos h1]
        by_cases h2 : k = 0
        · rw [if_pos h2, if_pos h2]
          by_cases h3 : mm_ofWord μ w 1 = x
          · rw [if_pos h3, if_pos h3]; exact sb
          · rw [if_neg h3, if_neg h3]; exact st _ _ hv
        · rw [if_neg h2, if_neg h2]; exact sb
      · rw [if_neg h1, if_neg h1]; exact st _ _ hv
    · rw [if_neg hw, if_neg hw]; exact hv
theorem q_best (R : Rn μ) {k x fm : Int} (l : Int) (hf : 0 ≤ fm ∧ fm ≤ 5) : VB (xx_lettersKindCould μ k x fm l) (mm_best μ k fm x l) :=
  q_best_l R hf zN (-1) (-5) 0 (Or.inl ⟨rfl, rfl⟩) (Int.le_refl _) R.kr.1 (q_fuel R).2
theorem q_could_l (R : Rn μ) {t x : Int} (l : Int) (ht : 0 ≤ t ∧ t ≤ 9) (hx : 0 ≤ x ∧ x ≤ 2) : ∀ (g f : Nat) (i acc : Int), 0 ≤ acc → 0 ≤ i → i ≤ μ 114 3 → μ 114 3 - i < (f : Int) → μ 114 3 - i < (g : Int) → VB (xx_lettersTieCould_6 f μ t x l acc (hc (μ 114) i)) (mm_couldWith_6 g μ t x l acc i) := by
  intro g
  induction g with
  | zero => intro f i acc ha h0 h1 hf hg; omega
  | succ g ih =>
    intro f i acc ha h0 h1 hf hg
    by_cases hi : i < μ 114 3
    · rcases q_iha μ i with ⟨e, e1⟩ | ⟨e, e1⟩
      · obtain ⟨f, rfl⟩ : ∃ k, f = k + 1 := ⟨f - 1, by omega⟩
        obtain ⟨⟨a1, a2, a3, a4⟩, -⟩ := q_h R h0 hi e1
        have st := fun acc ha => ih f (i + 1) acc ha (by omega) (by omega) (by omega) (by omega)
        rw [a3] at st
        have hfm := q_form R (k := mm_ofItem μ i 1) ht hx
        rw [xx_lettersTieCould_6, mm_couldWith_6, if_pos a2, if_pos hi, e, if_neg n10, q_htie R h0 hi e1, q_hkind R h0 hi e1, hfm.1]
        by_cases h2 : mm_ofItem μ i 2 = t
        · rw [if_pos h2, if_pos h2]
          rcases q_best R (k := mm_ofItem μ i 1) (x := x) l hfm.2 with ⟨p, q⟩ | ⟨p, q⟩
          · rw [if_pos p, if_pos q]; exact Or.inl ⟨rfl, rfl⟩
          · rw [if_neg (show ¬ xx_lettersKindCould μ (mm_ofItem μ i 1) x (mm_form μ (mm_ofItem μ i 1) t x) l = -1 by omega), q, if_neg (show ¬ xx_lettersKindCould μ (mm_ofItem μ i 1) x (mm_form μ (mm_ofItem μ i 1) t x) l = -5 by omega)]
            exact st _ (by omega)
        · rw [if_neg h2, if_neg h2]; exact st _ ha
      · have st := ih f (i + 1) acc ha (by omega) (by omega) (by omega) (by omega)
        rw [q_p R h0 e1] at st
        rw [mm_couldWith_6, if_pos hi, e, if_pos rfl]
        exact st
    · obtain ⟨f, rfl⟩ : ∃ k, f = k + 1 := ⟨f - 1, by omega⟩
      have := R.h
      rw [show i = μ 114 3 by omega, xx_lettersTieCould_6, mm_couldWith_6, if_neg (by omega), if_neg (by omega)]
      exact Or.inr ⟨ha, rfl⟩
theorem q_could (R : Rn μ) {t x : Int} (l : Int) (ht : 0 ≤ t ∧ t ≤ 9) (hx : 0 ≤ x ∧ x ≤ 2) : VB (xx_lettersTieCould μ t x l) (mm_couldWith μ t x l) :=
  q_could_l R l ht hx zN zN 0 0 (Int.le_refl _) (Int.le_refl _) R.ir.1 (q_fuel R).1 (q_fuel R).1
theorem q_tieCould_l (R : Rn μ) {t l n : Int} (ht : 0 ≤ t ∧ t ≤ 9) (hn : 0 ≤ n ∧ n ≤ 2) : ∀ (g : Nat) (a b x : Int), VB a b → 0 ≤ x → x ≤ n + 1 → n + 1 - x < (g : Int) → xx_tieCould_37 g μ t l (n + 1) a x = mm_tieCould_30 g μ t l n b x := by
  intro g
  induction g with
  | zero => intro a b x hv h0 h1 hg; omega
  | succ g ih =>
    intro a b x hv h0 h1 hg
    rw [xx_tieCould_37, mm_tieCould_30]
    by_cases hx : x < n + 1
    · have st := fun a b h => ih a b (x + 1) h (by omega) (by omega) (by omega)
      rw [if_pos hx, if_neg (by omega)]
      rcases q_could R l ht (show 0 ≤ x ∧ x ≤ 2 by omega) with ⟨p, q⟩ | ⟨p, q⟩
      · rw [if_pos q, p]
        refine st _ _ ?_
        unfold xx_better
        by_cases ha : a = -1
        · rw [if_pos ha]
          rcases hv with ⟨v1, v2⟩ | ⟨v1, v2⟩
          · exact Or.inl ⟨rfl, v2⟩
          · omega
        · rw [if_neg ha, if_pos rfl]; exact hv
      · rw [if_neg (show ¬ mm_couldWith μ t x l = -5 by omega)]
        have sb := st _ _ (q_better (l := l) hv p)
        rw [sb, q]
        by_cases c1 : b = -5
        · rw [if_pos c1, if_pos c1]
        · rw [if_neg c1, if_neg c1]
          by_cases c2 : l = 0
          · rw [if_pos c2, if_pos c2, if_pos c2]
            by_cases c3 : xx_lettersTieCould μ t x l < b
            · rw [if_pos c3, if_pos c3]
            · rw [if_neg c3, if_neg c3]
          · rw [if_neg c2, if_neg c2, if_neg c2]
            by_cases c3 : b < xx_lettersTieCould μ t x l
            · rw [if_pos c3, if_pos c3]
            · rw [if_neg c3, if_neg c3]
    · rw [if_neg hx, if_pos (show n < x by omega)]
      rcases hv with ⟨v1, v2⟩ | ⟨v1, v2⟩
      · rw [if_pos v1, v2]
      · rw [if_neg (show ¬ a = -1 by omega), v2]
end EQ
