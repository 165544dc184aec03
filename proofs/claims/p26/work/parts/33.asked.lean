/-! the same question on both sides -/
section NN
variable {μ ν : zM}
theorem al_kindOf (N : NR μ ν) (w : Int) : xx_kindOf ν w = xx_kindOf μ w := by
  unfold xx_kindOf
  rw [al_knows N]
  by_cases h : xx_knows μ w = 0
  · rw [if_pos h, if_pos h]
  · obtain ⟨h0, h1, -⟩ := kn_ok h
    rw [if_neg h, if_neg h]; exact (N.wd h0 h1).1
theorem al_genderOf (N : NR μ ν) (w : Int) : xx_genderOf ν w = xx_genderOf μ w := by
  unfold xx_genderOf
  rw [al_knows N]
  by_cases h : xx_knows μ w = 0
  · rw [if_pos h, if_pos h]
  · obtain ⟨h0, h1, -⟩ := kn_ok h
    rw [if_neg h, if_neg h]; exact (N.wd h0 h1).2.1
theorem al_stemLengthOf (N : NR μ ν) (w : Int) : xx_stemLengthOf ν w = xx_stemLengthOf μ w := by
  unfold xx_stemLengthOf
  rw [al_knows N]
  by_cases h : xx_knows μ w = 0
  · rw [if_pos h, if_pos h]
  · obtain ⟨h0, h1, -⟩ := kn_ok h
    rw [if_neg h, if_neg h]; exact (N.wd h0 h1).2.2.1
theorem al_endingOf (N : NR μ ν) (k f : Int) : xx_endingOf ν k f = nx2 (xx_endingOf μ k f) ∧ (xx_endingOf μ k f = 0 ∨ (27 ≤ xx_endingOf μ k f ∧ xx_endingOf μ k f ≤ 728)) := by
  unfold xx_endingOf
  by_cases h : xx_isBelow k 3 = 0
  · rw [if_pos h, if_pos h]; exact ⟨by decide, Or.inl rfl⟩
  · rw [if_neg h, if_neg h]
    by_cases h2 : xx_isBelow f 6 = 0
    · rw [if_pos h2, if_pos h2]; exact ⟨by decide, Or.inl rfl⟩
    · rw [if_neg h2, if_neg h2]
      have a := ib_ok h
      have b := ib_ok h2
      exact N.en (by omega) (by omega)
theorem al_endingLengthOf (N : NR μ ν) (k f : Int) : xx_endingLengthOf ν k f = xx_endingLengthOf μ k f := by
  obtain ⟨a, b⟩ := al_endingOf N k f
  have hr : 0 ≤ xx_endingOf μ k f ∧ xx_endingOf μ k f ≤ 728 := by omega
  have c := nx2_d hr.1 hr.2
  have d := nx2_0 hr.1 hr.2
  have e := nxt_r (l := xx_endingOf μ k f % 27) (by omega) (by omega)
  unfold xx_endingLengthOf
  rw [a, c.2]
  by_cases h : xx_endingOf μ k f = 0
  · rw [if_pos (d.mpr h), if_pos h]
  · rw [if_neg (fun q => h (d.mp q)), if_neg h]
    by_cases h2 : xx_endingOf μ k f % 27 = 0
    · rw [if_pos (by omega), if_pos h2]
    · rw [if_neg (by omega), if_neg h2]
theorem al_lengthOf (N : NR μ ν) (w f : Int) : xx_lengthOf ν w f = xx_lengthOf μ w f := by
  unfold xx_lengthOf
  rw [al_stemLengthOf N, al_kindOf N, al_endingLengthOf N]
theorem al_letterAt (N : NR μ ν) (w f p : Int) : xx_letterAt ν w f p = nxt (xx_letterAt μ w f p) := by
  obtain ⟨a, b⟩ := al_endingOf N (xx_kindOf μ w) f
  have hr : 0 ≤ xx_endingOf μ (xx_kindOf μ w) f ∧ xx_endingOf μ (xx_kindOf μ w) f ≤ 728 := by omega
  have c := nx2_d hr.1 hr.2
  unfold xx_letterAt
  rw [al_knows N, al_stemLengthOf N, al_kindOf N, a, c.1, c.2]
  by_cases h : xx_knows μ w = 0
  · rw [if_pos h, if_pos h]
    by_cases h2 : p = xx_stemLengthOf μ w
    · rw [if_pos h2, if_pos h2]
    · rw [if_neg h2, if_neg h2]
      by_cases h3 : p = xx_stemLengthOf μ w + 1
      · rw [if_pos h3, if_pos h3]
      · rw [if_neg h3, if_neg h3]; rfl
  · rw [if_neg h, if_neg h]
    obtain ⟨w0, w1, -⟩ := kn_ok h
    by_cases h2 : xx_isBelow p (xx_stemLengthOf μ w) = 0
    · rw [if_pos h2, if_pos h2]
      by_cases h3 : p = xx_stemLengthOf μ w
      · rw [if_pos h3, if_pos h3]
      · rw [if_neg h3, if_neg h3]
        by_cases h4 : p = xx_stemLengthOf μ w + 1
        · rw [if_pos h4, if_pos h4]
        · rw [if_neg h4, if_neg h4]; rfl
    · rw [if_neg h2, if_neg h2]
      have pb := ib_ok h2
      have hs : xx_stemLengthOf μ w = μ 7 w := by unfold xx_stemLengthOf; rw [if_neg h]
      have hw := N.wd w0 w1
      rw [if_pos (by omega), if_pos (by omega)]
      exact (N.lt w0 w1 pb.1 (by omega)).1
theorem al_lettersKindCould (N : NR μ ν) (k g f b : Int) : xx_lettersKindCould ν k g f b = xx_lettersKindCould μ k g f b := by
  have key : ∀ (n : Nat) (l5 l6 : Int), xx_lettersKindCould_6 n ν k g f b l5 l6 = xx_lettersKindCould_6 n μ k g f b l5 l6 := by
    intro n
    induction n with
    | zero => intro l5 l6; rfl
    | succ n ih =>
      intro l5 l6
      simp only [xx_lettersKindCould_6, N.kn, al_kindOf N, al_genderOf N, al_lengthOf N, ih]
  exact key zN (-1) 0
theorem al_hasHole (N : NR μ ν) (h : Int) : xx_hasHole ν h = xx_hasHole μ h := by unfold xx_hasHole; rw [N.ho]
theorem al_kindOfHole (N : NR μ ν) (w : Int) : xx_kindOfHole ν w = xx_kindOfHole μ w := by
  unfold xx_kindOfHole
  rw [al_hasHole N]
  by_cases h : xx_hasHole μ w = 0
  · rw [if_pos h, if_pos h]
  · obtain ⟨h0, h1, -⟩ := hh_ok h
    rw [if_neg h, if_neg h]; exact (N.hl h0 h1).1
theorem al_itemOf (N : NR μ ν) (w : Int) : xx_itemOf ν w = xx_itemOf μ w := by
  unfold xx_itemOf
  rw [al_hasHole N]
  by_cases h : xx_hasHole μ w = 0
  · rw [if_pos h, if_pos h]
  · obtain ⟨h0, h1, -⟩ := hh_ok h
    rw [if_neg h, if_neg h]; exact (N.hl h0 h1).2.2.1
theorem al_wordIn (N : NR μ ν) (w : Int) : xx_wordIn ν w = xx_wordIn μ w := by
  unfold xx_wordIn
  rw [al_hasHole N]
  by_cases h : xx_hasHole μ w = 0
  · rw [if_pos h, if_pos h]
  · obtain ⟨h0, h1, -⟩ := hh_ok h
    rw [if_neg h, if_neg h]; exact (N.hl h0 h1).2.2.2.1
theorem al_isEmptyHole (N : NR μ ν) (w : Int) : xx_isEmptyHole ν w = xx_isEmptyHole μ w := by
  unfold xx_isEmptyHole
  rw [al_wordIn N]
theorem at_tieOf (N : NR μ ν) {h : Int} (h0 : 0 ≤ h) (h1 : h < μ 10 1) : xx_tieOf μ h = μ 16 h := by
  unfold xx_tieOf
  rw [hh_1 N h0 h1, if_neg n10']
theorem at_kindOfHole (N : NR μ ν) {h : Int} (h0 : 0 ≤ h) (h1 : h < μ 10 1) : xx_kindOfHole μ h = μ 15 h := by
  unfold xx_kindOfHole
  rw [hh_1 N h0 h1, if_neg n10']
theorem at_wordIn (N : NR μ ν) {h : Int} (h0 : 0 ≤ h) (h1 : h < μ 10 1) : xx_wordIn μ h = μ 18 h := by
  unfold xx_wordIn
  rw [hh_1 N h0 h1, if_neg n10']
theorem al_tieOf (N : NR μ ν) {h : Int} (h0 : 0 ≤ h) (h1 : h < μ 10 1) : xx_tieOf ν h = 9 - xx_tieOf μ h := by
  rw [at_tieOf N h0 h1]
  unfold xx_tieOf
  rw [al_hasHole N, hh_1 N h0 h1, if_neg n10']
  exact (N.hl h0 h1).2.1
theorem al_nounIn (N : NR μ ν) (t a : Int) : xx_nounIn ν (9 - t) a = xx_nounIn μ t a := by
  have key : ∀ (n : Nat) (l : Int), 0 ≤ l → xx_nounIn_2 n ν (9 - t) a l = xx_nounIn_2 n μ t a l := by
    intro n
    induction n with
    | zero => intro l _; rfl
    | succ n ih =>
      intro l h0
      have e := ih (l + 1) (by omega)
      simp only [xx_nounIn_2, N.ho, e]
      by_cases h : l < μ 10 1
      · obtain ⟨a1, a2, -, a4, -⟩ := N.hl h0 h
        have q : (ν 16 l = 9 - t) = (μ 16 l = t) := propext (by omega)
        simp only [q, a1, a4]
      · rw [if_neg h, if_neg h]
  exact key zN 0 (by omega)
theorem al_holesWith (N : NR μ ν) (w : Int) : xx_holesWith ν w = xx_holesWith μ w := by
  have key : ∀ (n : Nat) (l2 l3 : Int), xx_holesWith_4 n ν w l2 l3 = xx_holesWith_4 n μ w l2 l3 := by
    intro n
    induction n with
    | zero => intro l2 l3; rfl
    | succ n ih =>
      intro l2 l3
      simp only [xx_holesWith_4, N.ho, al_wordIn N, ih]
  exact key zN 0 0
theorem al_holesOfTie (N : NR μ ν) (t b : Int) : xx_holesOfTie ν (9 - t) b = xx_holesOfTie μ t b := by
  have key : ∀ (n : Nat) (l3 l4 : Int), 0 ≤ l4 → xx_holesOfTie_5 n ν (9 - t) b l3 l4 = xx_holesOfTie_5 n μ t b l3 l4 := by
    intro n
    induction n with
    | zero => intro l3 l4 _; rfl
    | succ n ih =>
      intro l3 l4 h0
      simp only [xx_holesOfTie_5, N.ho, al_isEmptyHole N, ih _ (l4 + 1) (show 0 ≤ l4 + 1 by omega)]
      by_cases h : l4 < μ 10 1
      · have q : (xx_tieOf ν l4 = 9 - t) = (xx_tieOf μ l4 = t) := propext (by rw [al_tieOf N h0 h]; omega)
        simp only [q]
      · rw [if_neg h, if_neg h]
  exact key zN 0 0 (by omega)
theorem al_hasNounHole (N : NR μ ν) (t : Int) : xx_hasNounHole ν (9 - t) = xx_hasNounHole μ t := by
  have key : ∀ (n : Nat) (l : Int), 0 ≤ l → xx_hasNounHole_2 n ν (9 - t) l = xx_hasNounHole_2 n μ t l := by
    intro n
    induction n with
    | zero => intro l _; rfl
    | succ n ih =>
      intro l h0
      simp only [xx_hasNounHole_2, N.ho, al_kindOfHole N, ih (l + 1) (show 0 ≤ l + 1 by omega)]
      by_cases h : l < μ 10 1
      · have q : (xx_tieOf ν l = 9 - t) = (xx_tieOf μ l = t) := propext (by rw [al_tieOf N h0 h]; omega)
        simp only [q]
      · rw [if_neg h, if_neg h]
  exact key zN 0 (by omega)
theorem al_disagrees (N : NR μ ν) {h : Int} (h0 : 0 ≤ h) (h1 : h < μ 10 1) (w : Int) : xx_disagrees ν h w = xx_disagrees μ h w := by
  unfold xx_disagrees
  rw [al_tieOf N h0 h1, al_nounIn N, al_genderOf N, al_genderOf N]
theorem al_reasonAgainst (N : NR μ ν) {h : Int} (h0 : 0 ≤ h) (h1 : h < μ 10 1) (w : Int) : xx_reasonAgainst ν h w = xx_reasonAgainst μ h w := by
  unfold xx_reasonAgainst
  rw [al_kindOf N, al_kindOfHole N, al_disagrees N h0 h1, al_holesWith N, N.once]
theorem al_lowestFitting (N : NR μ ν) {h : Int} (h0 : 0 ≤ h) (h1 : h < μ 10 1) : xx_lowestFitting ν h = xx_lowestFitting μ h := by
  have key : ∀ (n : Nat) (l : Int), xx_lowestFitting_2 n ν h l = xx_lowestFitting_2 n μ h l := by
    intro n
    induction n with
    | zero => intro l; rfl
    | succ n ih =>
      intro l
      simp only [xx_lowestFitting_2, N.kn, al_reasonAgainst N h0 h1, ih]
  exact key zN 0
theorem al_someHole (N : NR μ ν) : xx_someHoleCanBeFilled ν = xx_someHoleCanBeFilled μ := by
  have key : ∀ (n : Nat) (l : Int), 0 ≤ l → xx_someHoleCanBeFilled_2 n ν l = xx_someHoleCanBeFilled_2 n μ l := by
    intro n
    induction n with
    | zero => intro l _; rfl
    | succ n ih =>
      intro l h0
      simp only [xx_someHoleCanBeFilled_2, N.ho, al_isEmptyHole N, ih (l + 1) (show 0 ≤ l + 1 by omega)]
      by_cases h : l < μ 10 1
      · rw [al_lowestFitting N h0 h]
      · rw [if_neg h, if_neg h]
  exact key zN 0 (by omega)
theorem al_genderOfTie (N : NR μ ν) (t : Int) : xx_genderOfTie ν (9 - t) = xx_genderOfTie μ t := by
  unfold xx_genderOfTie
  rw [al_nounIn N, al_genderOf N]
theorem al_formOf (N : NR μ ν) (k g : Int) {t : Int} (h0 : 0 ≤ t) (h1 : t ≤ 9) : xx_formOf ν k (9 - t) g = xx_formOf μ k t g := by
  unfold xx_formOf
  have a := N.ti (t := 9 - t) (by omega) (by omega)
  rw [show 9 - (9 - t) = t by omega] at a
  rw [ib_1 (a := 9 - t) (by omega) (by omega), ib_1 (a := t) h0 (by omega), if_neg n10', if_neg n10', a.1, a.2.1]
theorem at_tie_r (N : NR μ ν) {h : Int} (h0 : 0 ≤ h) (h1 : h < μ 10 1) : 0 ≤ xx_tieOf μ h ∧ xx_tieOf μ h ≤ 9 := by
  rw [at_tieOf N h0 h1]
  exact (N.hl h0 h1).2.2.2.2.2.1
theorem al_formIn (N : NR μ ν) {h : Int} (h0 : 0 ≤ h) (h1 : h < μ 10 1) : xx_formIn ν h = xx_formIn μ h := by
  have r := at_tie_r N h0 h1
  unfold xx_formIn
  rw [al_tieOf N h0 h1, al_kindOfHole N, al_genderOfTie N, al_formOf N _ _ r.1 r.2]
theorem al_lettersIn (N : NR μ ν) {h : Int} (h0 : 0 ≤ h) (h1 : h < μ 10 1) : xx_lettersIn ν h = xx_lettersIn μ h := by
  unfold xx_lettersIn
  rw [al_isEmptyHole N, al_wordIn N, al_formIn N h0 h1, al_lengthOf N]
theorem at_holeOfItem (N : NR μ ν) {i : Int} (h0 : 0 ≤ i) (h1 : i < μ 10 0) : xx_holeOfItem μ i = μ 11 i := by
  unfold xx_holeOfItem
  rw [hi_1 N h0 h1, if_neg n10']
theorem al_hasItem (N : NR μ ν) (i : Int) : xx_hasItem ν i = xx_hasItem μ i := by unfold xx_hasItem; rw [N.it]
theorem al_holeOfItem (N : NR μ ν) {i : Int} (h0 : 0 ≤ i) (h1 : i < μ 10 0) : xx_holeOfItem ν i = xx_holeOfItem μ i := by
  rw [at_holeOfItem N h0 h1]
  unfold xx_holeOfItem
  rw [al_hasItem N, hi_1 N h0 h1, if_neg n10']
  exact (N.ih h0 h1).1
theorem al_lengthOfItem (N : NR μ ν) {i : Int} (h0 : 0 ≤ i) (h1 : i < μ 10 0) : xx_lengthOfItem ν i = xx_lengthOfItem μ i := by
  unfold xx_lengthOfItem
  rw [al_holeOfItem N h0 h1, at_holeOfItem N h0 h1]
  by_cases h : μ 11 i = -1
  · rw [if_pos h, if_pos h]
    unfold xx_plainLengthOf
    rw [al_hasItem N, hi_1 N h0 h1, if_neg n10', if_neg n10']
    exact (N.pl h0 h1 h).2.1
  · rw [if_neg h, if_neg h]
    have hh : 0 ≤ μ 11 i ∧ μ 11 i < μ 10 1 := by have := (N.ih h0 h1).2; omega
    rw [al_isEmptyHole N, al_wordIn N, al_formIn N hh.1 hh.2, al_lengthOf N]
/-- a letter within a word's length is there -/
theorem lt_in (N : NR μ ν) {w f p : Int} (w0 : 0 ≤ w) (w1 : w < μ 4 0) (p0 : 0 ≤ p) (p1 : p < xx_lengthOf μ w f) : 1 ≤ xx_letterAt μ w f p ∧ xx_letterAt μ w f p ≤ 26 := by
  have hk : xx_knows μ w = 1 := kn_1 N w0 w1
  obtain ⟨-, b⟩ := al_endingOf N (xx_kindOf μ w) f
  have hw := N.wd w0 w1
  have hs : xx_stemLengthOf μ w = μ 7 w := by unfold xx_stemLengthOf; rw [hk, if_neg n10']
  unfold xx_lengthOf xx_endingLengthOf at p1
  unfold xx_letterAt
  rw [hk, if_neg n10']
  by_cases h : p < xx_stemLengthOf μ w
  · rw [ib_1 p0 h, if_neg n10', if_pos (by omega)]
    exact (N.lt w0 w1 p0 (by omega)).2 (by omega)
  · rw [ib_0 (Or.inr (by omega)), if_pos rfl]
    by_cases h0 : xx_endingOf μ (xx_kindOf μ w) f = 0
    · rw [if_pos h0] at p1; omega
    · rw [if_neg h0] at p1
      by_cases h2 : p = xx_stemLengthOf μ w
      · rw [if_pos h2]; omega
      · rw [if_neg h2]
        by_cases h3 : xx_endingOf μ (xx_kindOf μ w) f % 27 = 0
        · rw [if_pos h3] at p1; omega
        · rw [if_neg h3] at p1
          rw [if_pos (by omega)]; omega
/-- behind a word there is no letter -/
theorem lt_end (N : NR μ ν) {w f : Int} (w0 : 0 ≤ w) (w1 : w < μ 4 0) : xx_letterAt μ w f (xx_lengthOf μ w f) = 0 := by
  have hk : xx_knows μ w = 1 := kn_1 N w0 w1
  obtain ⟨-, b⟩ := al_endingOf N (xx_kindOf μ w) f
  have hw := N.wd w0 w1
  have hs : xx_stemLengthOf μ w = μ 7 w := by unfold xx_stemLengthOf; rw [hk, if_neg n10']
  have hl : (xx_lengthOf μ w f = xx_stemLengthOf μ w ∧ xx_endingOf μ (xx_kindOf μ w) f = 0) ∨ (xx_lengthOf μ w f = xx_stemLengthOf μ w + 1 ∧ xx_endingOf μ (xx_kindOf μ w) f % 27 = 0) ∨ xx_lengthOf μ w f = xx_stemLengthOf μ w + 2 := by
    unfold xx_lengthOf xx_endingLengthOf
    repeat' split
    · omega
    · omega
    · omega
  unfold xx_letterAt
  rw [hk, if_neg n10', ib_0 (Or.inr (by omega)), if_pos rfl]
  rcases hl with ⟨e, z⟩ | ⟨e, z⟩ | e
  · rw [if_pos e, z]; rfl
  · rw [if_neg (by omega), if_pos e]; exact z
  · rw [if_neg (by omega), if_neg (by omega)]
theorem nsg_l {l : Int} (h0 : 1 ≤ l) (h1 : l ≤ 26) : nsg (96 + l) = 96 + nxt l := by
  have := nxt_r (l := l) (by omega) h1
  unfold nsg
  rw [if_neg (by omega)]
  by_cases h : 96 + l = 122
  · rw [if_pos h]; omega
  · rw [if_neg h]; omega
theorem at_filled (N : NR μ ν) {h : Int} (h0 : 0 ≤ h) (h1 : h < μ 10 1) (he : xx_isEmptyHole μ h = 0) : μ 18 h ≠ -1 ∧ 0 ≤ μ 18 h ∧ μ 18 h < μ 4 0 ∧ μ 5 (μ 18 h) = μ 15 h := by
  unfold xx_isEmptyHole at he
  rw [at_wordIn N h0 h1] at he
  have := (N.hl h0 h1).2.2.2.2.2.2
  by_cases q : μ 18 h = -1
  · rw [if_pos q] at he; exact absurd he n10'
  · exact ⟨q, by omega⟩
theorem al_signOfItem (N : NR μ ν) {i p : Int} (h0 : 0 ≤ i) (h1 : i < μ 10 0) (p0 : 0 ≤ p) (p1 : p < xx_lengthOfItem μ i) : xx_signOfItem ν i p = nsg (xx_signOfItem μ i p) ∧ xx_signOfItem μ i p ≠ 32 := by
  unfold xx_lengthOfItem at p1
  unfold xx_signOfItem
  rw [al_holeOfItem N h0 h1]
  rw [at_holeOfItem N h0 h1] at p1 ⊢
  by_cases h : μ 11 i = -1
  · rw [if_pos h] at p1
    rw [if_pos h, if_pos h]
    obtain ⟨q1, q2, q3, q4, q5, q6⟩ := N.pl h0 h1 h
    unfold xx_plainLengthOf at p1
    rw [hi_1 N h0 h1, if_neg n10'] at p1
    unfold xx_plainSignOf
    rw [al_hasItem N, hi_1 N h0 h1, if_neg n10', if_neg n10', q1, ib_1 (a := μ 12 i + p) (by omega) (by omega), if_neg n10', if_neg n10']
    obtain ⟨r1, r2, r3⟩ := q6 p p0 p1
    exact ⟨r1, by omega⟩
  · rw [if_neg h] at p1
    rw [if_neg h, if_neg h]
    have hh : 0 ≤ μ 11 i ∧ μ 11 i < μ 10 1 := by have := (N.ih h0 h1).2; omega
    rw [al_isEmptyHole N]
    by_cases he : xx_isEmptyHole μ (μ 11 i) = 0
    · rw [if_pos he] at p1
      rw [if_pos he, if_pos he]
      obtain ⟨-, w0, w1, -⟩ := at_filled N hh.1 hh.2 he
      rw [at_wordIn N hh.1 hh.2] at p1
      rw [al_wordIn N, at_wordIn N hh.1 hh.2, al_formIn N hh.1 hh.2, al_letterAt N]
      have a := lt_in N (f := xx_formIn μ (μ 11 i)) w0 w1 p0 p1
      exact ⟨(nsg_l a.1 a.2).symm, by omega⟩
    · rw [if_neg he, if_neg he]; exact ⟨by decide, by decide⟩
theorem al_signToldAt (N : NR μ ν) {k : Int} (k0 : 0 ≤ k) : xx_signToldAt ν k = nsg (xx_signToldAt μ k) := by
  have key : ∀ (n : Nat) (l2 l3 : Int), 0 ≤ l2 → 0 ≤ l3 → (20 : Int) - l3 < n → xx_signToldAt_4 n ν l2 l3 = nsg (xx_signToldAt_4 n μ l2 l3) := by
    intro n
    induction n with
    | zero => intro l2 l3 h2 h3 hn; rfl
    | succ n ih =>
      intro l2 l3 h2 h3 hn
      have hi := N.itb
      simp only [xx_signToldAt_4, N.it]
      by_cases h : l3 < μ 10 0
      · rw [if_pos h, if_pos h, al_lengthOfItem N h3 h]
        by_cases c : l2 < xx_lengthOfItem μ l3
        · rw [if_pos c, if_pos c]; exact (al_signOfItem N h3 h h2 c).1
        · rw [if_neg c, if_neg c]
          by_cases d : l2 = xx_lengthOfItem μ l3
          · rw [if_pos d, if_pos d]
            by_cases e : l3 + 1 < μ 10 0
            · rw [if_pos e]; rfl
            · rw [if_neg e]; rfl
          · rw [if_neg d, if_neg d]; exact ih _ _ (by omega) (by omega) (by omega)
      · rw [if_neg h, if_neg h]; rfl
  have := zN_big
  exact key zN k 0 k0 (by omega) (by omega)
theorem al_lettersTieCould (N : NR μ ν) (g b : Int) {t : Int} (h0 : 0 ≤ t) (h1 : t ≤ 9) : xx_lettersTieCould ν (9 - t) g b = xx_lettersTieCould μ t g b := by
  have key : ∀ (n : Nat) (l4 l5 : Int), 0 ≤ l5 → xx_lettersTieCould_6 n ν (9 - t) g b l4 l5 = xx_lettersTieCould_6 n μ t g b l4 l5 := by
    intro n
    induction n with
    | zero => intro l4 l5 _; rfl
    | succ n ih =>
      intro l4 l5 hl
      simp only [xx_lettersTieCould_6, N.ho, al_kindOfHole N, al_formOf N _ _ h0 h1, al_lettersKindCould N, ih _ (l5 + 1) (show 0 ≤ l5 + 1 by omega)]
      by_cases h : l5 < μ 10 1
      · have q : (xx_tieOf ν l5 = 9 - t) = (xx_tieOf μ l5 = t) := propext (by rw [al_tieOf N hl h]; omega)
        simp only [q]
      · rw [if_neg h, if_neg h]
  exact key zN 0 0 (by omega)
theorem al_tieCould (N : NR μ ν) (b : Int) {t : Int} (h0 : 0 ≤ t) (h1 : t ≤ 9) : xx_tieCould ν (9 - t) b = xx_tieCould μ t b := by
  have key : ∀ (n : Nat) (l3 l4 l5 : Int), xx_tieCould_37 n ν (9 - t) b l3 l4 l5 = xx_tieCould_37 n μ t b l3 l4 l5 := by
    intro n
    induction n with
    | zero => intro l3 l4 l5; rfl
    | succ n ih =>
      intro l3 l4 l5
      simp only [xx_tieCould_37, al_lettersTieCould N _ _ h0 h1, ih]
  unfold xx_tieCould
  rw [ib_1 (a := 9 - t) (by omega) (by omega), ib_1 (a := t) h0 (by omega), if_neg n10', if_neg n10', al_hasNounHole N, key, key]
theorem al_lengthTold (N : NR μ ν) : xx_lengthTold ν = xx_lengthTold μ := by
  have key : ∀ (n : Nat) (l1 l2 : Int), 0 ≤ l2 → xx_lengthTold_16 n ν l1 l2 = xx_lengthTold_16 n μ l1 l2 := by
    intro n
    induction n with
    | zero => intro l1 l2 _; rfl
    | succ n ih =>
      intro l1 l2 h2
      simp only [xx_lengthTold_16, N.it]
      by_cases h : l2 < μ 10 0
      · rw [if_pos h, if_pos h, al_lengthOfItem N h2 h, ih _ _ (by omega)]
      · rw [if_neg h, if_neg h]
  unfold xx_lengthTold
  rw [N.it]
  exact key zN _ 0 (by omega)
theorem al_lettersInHoles (N : NR μ ν) : xx_lettersInHoles ν = xx_lettersInHoles μ := by
  have key : ∀ (n : Nat) (l1 l2 : Int), 0 ≤ l2 → xx_lettersInHoles_4 n ν l1 l2 = xx_lettersInHoles_4 n μ l1 l2 := by
    intro n
    induction n with
    | zero => intro l1 l2 _; rfl
    | succ n ih =>
      intro l1 l2 h2
      simp only [xx_lettersInHoles_4, N.ho]
      by_cases h : l2 < μ 10 1
      · rw [if_pos h, if_pos h, al_lettersIn N h2 h, ih _ _ (by omega)]
      · rw [if_neg h, if_neg h]
  exact key zN 0 0 (by omega)
theorem al_fits (N : NR μ ν) {h : Int} (h0 : 0 ≤ h) (h1 : h < μ 10 1) : xx_fits ν h = xx_fits μ h := by
  have key : ∀ (n : Nat) (l2 l3 : Int), xx_fits_20 n ν h l2 l3 = xx_fits_20 n μ h l2 l3 := by
    intro n
    induction n with
    | zero => intro l2 l3; rfl
    | succ n ih =>
      intro l2 l3
      simp only [xx_fits_20, N.kn, al_reasonAgainst N h0 h1, ih]
  unfold xx_fits
  rw [al_hasHole N, key]
/-! sums -/
def sm (g : Int → Int) : Nat → Int
  | 0 => 0
  | n + 1 => sm g n + g n
theorem sm_cong {g h : Int → Int} : ∀ {n : Nat}, (∀ k : Int, 0 ≤ k → k < n → g k = h k) → sm g n = sm h n
  | 0, _ => rfl
  | n + 1, e => by
    have ih := sm_cong (g := g) (h := h) (n := n) (fun k h0 h1 => e k h0 (by omega))
    simp only [sm]
    rw [ih, e n (by omega) (by omega)]
theorem sm_add (g h : Int → Int) : ∀ n : Nat, sm (fun k => g k + h k) n = sm g n + sm h n
  | 0 => rfl
  | n + 1 => by
    have ih := sm_add g h n
    simp only [sm]
    omega
theorem sm_succ (g : Int → Int) (n : Nat) : sm g (n + 1) = sm g n + g n := rfl
theorem sm_rev (g : Int → Int) : sm (fun k => g (9 - k)) 10 = sm g 10 := by
  simp only [sm]
  have e0 : (9 : Int) - ((0 : Nat) : Int) = ((9 : Nat) : Int) := rfl
  have e1 : (9 : Int) - ((1 : Nat) : Int) = ((8 : Nat) : Int) := rfl
  have e2 : (9 : Int) - ((2 : Nat) : Int) = ((7 : Nat) : Int) := rfl
  have e3 : (9 : Int) - ((3 : Nat) : Int) = ((6 : Nat) : Int) := rfl
  have e4 : (9 : Int) - ((4 : Nat) : Int) = ((5 : Nat) : Int) := rfl
  have e5 : (9 : Int) - ((5 : Nat) : Int) = ((4 : Nat) : Int) := rfl
  have e6 : (9 : Int) - ((6 : Nat) : Int) = ((3 : Nat) : Int) := rfl
  have e7 : (9 : Int) - ((7 : Nat) : Int) = ((2 : Nat) : Int) := rfl
  have e8 : (9 : Int) - ((8 : Nat) : Int) = ((1 : Nat) : Int) := rfl
  have e9 : (9 : Int) - ((9 : Nat) : Int) = ((0 : Nat) : Int) := rfl
  rw [e0, e1, e2, e3, e4, e5, e6, e7, e8, e9]
  omega
theorem ties_sm (μ : zM) : xx_tiesWithHoles μ = sm (fun t => if 0 < xx_holesOfTie μ t 0 then 1 else 0) 10 := by
  have key : ∀ (d f : Nat) (l1 l2 : Int), (d : Int) = 10 - l2 → 0 ≤ l2 → d < f → xx_tiesWithHoles_4 f μ l1 l2 + sm (fun t => if 0 < xx_holesOfTie μ t 0 then 1 else 0) l2.toNat = l1 + sm (fun t => if 0 < xx_holesOfTie μ t 0 then 1 else 0) 10 := by
    intro d
    induction d with
    | zero =>
      intro f l1 l2 hd h0 hf
      obtain ⟨f, rfl⟩ : ∃ g, f = g + 1 := ⟨f - 1, by omega⟩
      obtain rfl : l2 = 10 := by omega
      simp only [xx_tiesWithHoles_4]
      rw [if_neg (by decide)]
      rfl
    | succ d ih =>
      intro f l1 l2 hd h0 hf
      obtain ⟨f, rfl⟩ : ∃ g, f = g + 1 := ⟨f - 1, by omega⟩
      simp only [xx_tiesWithHoles_4]
      rw [if_pos (by omega)]
      have e : (l2 + 1).toNat = l2.toNat + 1 := by omega
      have e2 : ((l2.toNat : Nat) : Int) = l2 := by omega
      by_cases h : 0 < xx_holesOfTie μ l2 0
      · have a := ih f (l1 + 1) (l2 + 1) (by omega) (by omega) (by omega)
        rw [e, sm_succ _ l2.toNat, e2, if_pos h] at a
        rw [if_pos h]
        omega
      · have a := ih f l1 (l2 + 1) (by omega) (by omega) (by omega)
        rw [e, sm_succ _ l2.toNat, e2, if_neg h] at a
        rw [if_neg h]
        omega
  have hN := zN_big
  have a := key 10 zN 0 0 (by omega) (by omega) (by omega)
  unfold xx_tiesWithHoles
  rw [show (0 : Int).toNat = 0 from rfl, show sm (fun t => if 0 < xx_holesOfTie μ t 0 then 1 else 0) 0 = 0 from rfl] at a
  omega
theorem al_ties (N : NR μ ν) : xx_tiesWithHoles ν = xx_tiesWithHoles μ := by
  rw [ties_sm, ties_sm, ← sm_rev (fun t => if 0 < xx_holesOfTie ν t 0 then 1 else 0)]
  simp only [al_holesOfTie N]
/-! the questions themselves -/
theorem al_count (N : NR μ ν) {a : Int} (h : a < 9) : xx_count ν a = xx_count μ a := by
  unfold xx_count
  rw [N.kn, N.it, N.ho, al_holesWith N, al_lengthTold N, al_lettersInHoles N, al_ties N, N.once, N.fil]
  rw [if_neg (show ¬ a = 9 by omega), if_neg (show ¬ a = 9 by omega), if_neg (show ¬ a = 10 by omega), if_neg (show ¬ a = 10 by omega)]
theorem al_hole (N : NR μ ν) {h : Int} (a : Int) (ha : a ≠ 1) : xx_hole ν h a = xx_hole μ h a := by
  unfold xx_hole
  rw [al_hasHole N]
  by_cases q : xx_hasHole μ h = 0
  · rw [if_pos q, if_pos q]
  · rw [if_neg q, if_neg q, if_neg ha, if_neg ha]
    obtain ⟨h0, h1, -⟩ := hh_ok q
    rw [al_kindOfHole N, al_isEmptyHole N, al_wordIn N, al_formIn N h0 h1, al_lettersIn N h0 h1, al_itemOf N]
theorem at_hole1 (N : NR μ ν) {h : Int} (h0 : 0 ≤ h) (h1 : h < μ 10 1) : xx_hole μ h 1 = xx_tieOf μ h := by
  unfold xx_hole
  rw [hh_1 N h0 h1, if_neg n10', if_neg n10', if_pos rfl]
theorem al_hole1 (N : NR μ ν) {h : Int} (h0 : 0 ≤ h) (h1 : h < μ 10 1) : xx_hole μ h 1 = 9 - xx_hole ν h 1 := by
  have e : xx_hole ν h 1 = xx_tieOf ν h := by
    unfold xx_hole
    rw [al_hasHole N, hh_1 N h0 h1, if_neg n10', if_neg n10', if_pos rfl]
  rw [at_hole1 N h0 h1, e, al_tieOf N h0 h1]
  omega
theorem al_word (N : NR μ ν) (w a : Int) : xx_word ν w a = xx_word μ w a := by
  unfold xx_word
  rw [al_knows N, al_kindOf N, al_genderOf N, al_stemLengthOf N, al_holesWith N]
theorem al_letter (N : NR μ ν) {w f p : Int} (w0 : 0 ≤ w) (w1 : w < μ 4 0) (f0 : 0 ≤ f) (f1 : f < 6) (p0 : 0 ≤ p) : (xx_letter μ w f p < 0 → xx_letter ν w f p = xx_letter μ w f p) ∧ (¬ xx_letter μ w f p < 0 → xx_letter ν w f p = nxt (xx_letter μ w f p)) := by
  have hr : 0 ≤ xx_letterAt μ w f p ∧ xx_letterAt μ w f p ≤ 26 := by
    obtain ⟨-, b⟩ := al_endingOf N (xx_kindOf μ w) f
    have hs : xx_stemLengthOf μ w = μ 7 w := by unfold xx_stemLengthOf; rw [kn_1 N w0 w1, if_neg n10']
    have hw := N.wd w0 w1
    by_cases c : p < xx_lengthOf μ w f
    · have := lt_in N w0 w1 p0 c; omega
    · unfold xx_lengthOf xx_endingLengthOf at c
      unfold xx_letterAt
      rw [kn_1 N w0 w1, if_neg n10']
      have c1 : xx_stemLengthOf μ w ≤ p := by
        repeat' split at c
        all_goals omega
      rw [ib_0 (Or.inr c1), if_pos rfl]
      repeat' split
      all_goals omega
  have a := nxt_r hr.1 hr.2
  unfold xx_letter
  rw [al_knows N, kn_1 N w0 w1, if_neg n10', if_neg n10', ib_1 f0 f1, if_neg n10', if_neg n10', if_neg (show ¬ p < 0 by omega), if_neg (show ¬ p < 0 by omega), al_letterAt N]
  by_cases h : xx_letterAt μ w f p = 0
  · rw [if_pos h, if_pos (by omega)]; exact ⟨fun _ => rfl, fun q => absurd (by decide) q⟩
  · rw [if_neg h, if_neg (by omega)]; exact ⟨fun q => absurd q (by omega), fun _ => rfl⟩
theorem al_tie (N : NR μ ν) (a : Int) {t : Int} (h0 : 0 ≤ t) (h1 : t ≤ 9) : xx_tie ν (9 - t) a = xx_tie μ t a := by
  have b := N.ti (t := 9 - t) (by omega) (by omega)
  rw [show 9 - (9 - t) = t by omega] at b
  unfold xx_tie
  rw [ib_1 (a := 9 - t) (by omega) (by omega), ib_1 (a := t) h0 (by omega), if_neg n10', if_neg n10', b.1, b.2.1, al_genderOfTie N, al_holesOfTie N, al_holesOfTie N, al_nounIn N]
theorem al_told (N : NR μ ν) {k : Int} (k0 : 0 ≤ k) : xx_told ν k = nsg (xx_told μ k) := by
  unfold xx_told
  rw [if_neg (by omega), if_neg (by omega), al_signToldAt N k0]
end NN
