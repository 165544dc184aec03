/-! texts: how both of them read -/
theorem zup_self {μ : zM} {k : Nat} {z v : Int} : zup μ k z v k z = v := by rw [zup_ap]; simp
theorem zup_slot {μ : zM} {k : Nat} {z z' v : Int} (h : z' ≠ z) : zup μ k z v k z' = μ k z' := by rw [zup_ap]; simp [h]
theorem zup_id {μ : zM} {k : Nat} {z : Int} : zup μ k z (μ k z) = μ := zup_same rfl
abbrev Rt (μ : zM) : Prop := μ 1 1 = μ 113 8 ∧ (0 ≤ μ 113 8 ∧ μ 113 8 ≤ 60) ∧ ∀ p, 0 ≤ p → p < μ 113 8 → μ 2 p = μ 119 p
abbrev TS (μ ν : zM) : Prop := ν 119 = μ 119 ∧ ν 113 8 = μ 113 8
section EQ
variable {μ ν : zM}
theorem c_signAt (h1 : ν 1 = μ 1) (h2 : ν 2 = μ 2) (p : Int) : xx_signAt ν p = xx_signAt μ p := by unfold xx_signAt; rw [h1, h2]
theorem c_letterAt (h1 : ν 1 = μ 1) (h2 : ν 2 = μ 2) (p : Int) : xx_hasLetterAt ν p = xx_hasLetterAt μ p := by unfold xx_hasLetterAt; rw [c_signAt h1 h2]
theorem c_numberAt (h1 : ν 1 = μ 1) (h2 : ν 2 = μ 2) (p : Int) : xx_letterNumberAt ν p = xx_letterNumberAt μ p := by unfold xx_letterNumberAt; rw [c_signAt h1 h2, c_letterAt h1 h2]
theorem c_holeAt (h1 : ν 1 = μ 1) (h2 : ν 2 = μ 2) (p : Int) : xx_hasHoleAt ν p = xx_hasHoleAt μ p := by unfold xx_hasHoleAt; rw [c_signAt h1 h2]
theorem c_kindAt (h1 : ν 1 = μ 1) (h2 : ν 2 = μ 2) (p : Int) : xx_kindAt ν p = xx_kindAt μ p := by unfold xx_kindAt; rw [c_signAt h1 h2]
theorem c_digitAt (h1 : ν 1 = μ 1) (h2 : ν 2 = μ 2) (p : Int) : xx_digitAt ν p = xx_digitAt μ p := by unfold xx_digitAt; rw [c_signAt h1 h2]
theorem c_eol (h1 : ν 1 = μ 1) (h2 : ν 2 = μ 2) (a b : Int) : ∀ (f : Nat) (c : Int), xx_endOfLetters_2 f ν a b c = xx_endOfLetters_2 f μ a b c
  | 0, _ => rfl
  | f + 1, c => by rw [xx_endOfLetters_2, xx_endOfLetters_2, c_letterAt h1 h2, c_eol h1 h2 a b f]
theorem c_endOfItem (h1 : ν 1 = μ 1) (h2 : ν 2 = μ 2) (p : Int) : xx_endOfItem ν p = xx_endOfItem μ p := by unfold xx_endOfItem xx_endOfLetters; rw [c_holeAt h1 h2, c_eol h1 h2]
theorem t_sign (T : Rt μ) (p : Int) : (0 ≤ p ∧ p < μ 113 8 ∧ xx_signAt μ p = μ 119 p) ∨ (¬ (0 ≤ p ∧ p < μ 113 8) ∧ xx_signAt μ p = 0) := by
  obtain ⟨a, b, c⟩ := T
  unfold xx_signAt
  rw [a]
  rcases q_below p (μ 113 8) with ⟨h, h2⟩ | ⟨h, h2⟩
  · rw [h, if_pos rfl]; exact Or.inr ⟨h2, rfl⟩
  · rw [h, if_neg n10, c p h2.1 h2.2]; exact Or.inl ⟨h2.1, h2.2, rfl⟩
theorem t_letter (μ : zM) (p : Int) : (xx_hasLetterAt μ p = 1 ∧ 97 ≤ xx_signAt μ p ∧ xx_signAt μ p ≤ 122) ∨ (xx_hasLetterAt μ p = 0 ∧ ¬ (97 ≤ xx_signAt μ p ∧ xx_signAt μ p ≤ 122)) := by
  unfold xx_hasLetterAt
  by_cases h : xx_signAt μ p < 97
  · rw [if_pos h]; exact Or.inr ⟨rfl, by omega⟩
  · rw [if_neg h]
    by_cases h2 : 122 < xx_signAt μ p
    · rw [if_pos h2]; exact Or.inr ⟨rfl, by omega⟩
    · rw [if_neg h2]; exact Or.inl ⟨rfl, by omega⟩
theorem t_here (T : Rt μ) (S : TS μ ν) {a b s : Int} (ha : 0 < a) (e : ν 113 9 = s) (hs : 0 ≤ s) : (mm_isHere ν a b = 1 ∧ a ≤ xx_signAt μ s ∧ xx_signAt μ s ≤ b) ∨ (mm_isHere ν a b = 0 ∧ ¬ (a ≤ xx_signAt μ s ∧ xx_signAt μ s ≤ b)) := by
  unfold mm_isHere
  rw [S.1, S.2, e]
  rcases t_sign T s with ⟨h1, h2, h3⟩ | ⟨h1, h3⟩
  · rw [if_pos h2, h3]
    rcases q_in (μ 119 s) a b with ⟨h, h4⟩ | ⟨h, h4⟩
    · rw [h, if_pos rfl]; exact Or.inr ⟨rfl, h4⟩
    · rw [h, if_neg n10]; exact Or.inl ⟨rfl, h4⟩
  · rw [if_neg (by omega), h3]; exact Or.inr ⟨rfl, by omega⟩
theorem t_eol (μ : zM) (st most : Int) : ∀ (f : Nat) (n : Int), 0 ≤ n → n ≤ most → most - n < (f : Int) → st + n ≤ xx_endOfLetters_2 f μ st most n ∧ xx_endOfLetters_2 f μ st most n ≤ st + most ∧ (∀ p, st + n ≤ p → p < xx_endOfLetters_2 f μ st most n → xx_hasLetterAt μ p = 1) ∧ (xx_endOfLetters_2 f μ st most n = st + most ∨ xx_hasLetterAt μ (xx_endOfLetters_2 f μ st most n) = 0) := by
  intro f
  induction f with
  | zero => intro n h0 h1 hf; omega
  | succ f ih =>
    intro n h0 h1 hf
    rw [xx_endOfLetters_2]
    by_cases h2 : n < most
    · rw [if_pos h2]
      rcases t_letter μ (st + n) with ⟨h, -⟩ | ⟨h, -⟩
      · rw [h, if_neg n10]
        obtain ⟨a, b, c, d⟩ := ih (n + 1) (by omega) (by omega) (by omega)
        refine ⟨by omega, b, fun p hp hp2 => ?_, d⟩
        by_cases hq : p = st + n
        · rw [hq]; exact h
        · exact c p (by omega) hp2
      · rw [if_pos h]
        exact ⟨by omega, by omega, fun p hp hp2 => by omega, Or.inr h⟩
    · rw [if_neg h2]
      exact ⟨by omega, by omega, fun p hp hp2 => by omega, Or.inl (by omega)⟩
theorem t_eolq (μ : zM) {st most : Int} (h : 0 ≤ most ∧ most ≤ 20) : st ≤ xx_endOfLetters μ st most ∧ xx_endOfLetters μ st most ≤ st + most ∧ (∀ p, st ≤ p → p < xx_endOfLetters μ st most → xx_hasLetterAt μ p = 1) ∧ (xx_endOfLetters μ st most = st + most ∨ xx_hasLetterAt μ (xx_endOfLetters μ st most) = 0) := by
  have hN := zN_big
  have h := t_eol μ st most zN 0 (Int.le_refl _) h.1 (by omega)
  rw [Int.add_zero] at h
  exact h
theorem t_len (T : Rt μ) {p : Int} (h : xx_hasLetterAt μ p = 1) : 0 ≤ p ∧ p < μ 113 8 ∧ xx_signAt μ p = μ 119 p ∧ 97 ≤ μ 119 p ∧ μ 119 p ≤ 122 := by
  rcases t_letter μ p with ⟨-, a⟩ | ⟨a, -⟩
  · rcases t_sign T p with ⟨b, c, d⟩ | ⟨b, d⟩
    · exact ⟨b, c, d, by omega, by omega⟩
    · omega
  · omega
theorem t_stem_l (T : Rt μ) : ∀ (g f : Nat) (ν : zM) (s : Int), TS μ ν → ν 113 9 = s → 0 ≤ s → s ≤ 8 → 8 - s < (f : Int) → 8 - s < (g : Int) → (mm_stemFault_5 g ν).1 = (if xx_endOfLetters_2 f μ 0 8 s = μ 113 8 then (if 0 < xx_endOfLetters_2 f μ 0 8 s then (-5) else xx_endOfLetters_2 f μ 0 8 s) else xx_endOfLetters_2 f μ 0 8 s) := by
  intro g
  induction g with
  | zero => intro f ν s S e h0 h1 hf hg; omega
  | succ g ih =>
    intro f ν s S e h0 h1 hf hg
    obtain ⟨f, rfl⟩ : ∃ k, f = k + 1 := ⟨f - 1, by omega⟩
    have hE : (if ν 113 9 = ν 113 8 then (if 0 < ν 113 9 then ((-5 : Int), ν) else (ν 113 9, ν)) else (ν 113 9, ν)).1 = (if s = μ 113 8 then (if 0 < s then (-5) else s) else s) := by
      rw [e, S.2]
      by_cases h2 : s = μ 113 8
      · rw [if_pos h2, if_pos h2]
        by_cases h3 : 0 < s
        · rw [if_pos h3, if_pos h3]
        · rw [if_neg h3, if_neg h3]
      · rw [if_neg h2, if_neg h2]
    rw [mm_stemFault_5, xx_endOfLetters_2, Int.zero_add]
    by_cases h2 : s < 8
    · rw [if_pos (show ν 113 9 < 8 by omega), if_pos h2]
      rcases t_here T S (a := 97) (b := 122) (by decide) e h0 with ⟨h, h3⟩ | ⟨h, h3⟩
      · rcases t_letter μ s with ⟨h4, -⟩ | ⟨-, h4⟩
        · rw [h, if_neg n10, h4, if_neg n10, e]
          exact ih f (zup ν 113 9 (s + 1)) (s + 1) ⟨(zup_ne (by decide)).trans S.1, (zup_slot (by decide)).trans S.2⟩ zup_self (by omega) (by omega) (by omega) (by omega)
        · exact absurd h3 h4
      · rcases t_letter μ s with ⟨-, h4⟩ | ⟨h4, -⟩
        · exact absurd h4 h3
        · rw [h, if_pos rfl, h4, if_pos rfl]
          exact hE
    · rw [if_neg (show ¬ ν 113 9 < 8 by omega), if_neg h2]
      exact hE
theorem t_stem (T : Rt μ) : (xx_faultAsStem μ = -1 ∧ (mm_stemFault μ).1 = -5 ∧ 1 ≤ μ 113 8 ∧ μ 113 8 ≤ 8 ∧ ∀ p, 0 ≤ p → p < μ 113 8 → xx_hasLetterAt μ p = 1) ∨ (0 ≤ xx_faultAsStem μ ∧ (mm_stemFault μ).1 = xx_faultAsStem μ) := by
  have hN := zN_big
  have h1 : (mm_stemFault μ).1 = (if xx_endOfLetters μ 0 8 = μ 113 8 then (if 0 < xx_endOfLetters μ 0 8 then (-5) else xx_endOfLetters μ 0 8) else xx_endOfLetters μ 0 8) :=
    t_stem_l T zN zN (zup μ 113 9 0) 0 ⟨zup_ne (by decide), zup_slot (by decide)⟩ zup_self (by decide) (by decide) (by omega) (by omega)
  obtain ⟨a, b, c, d⟩ := t_eolq μ (st := 0) (most := 8) (by decide)
  rw [h1]
  unfold xx_faultAsStem
  rw [T.1]
  generalize xx_endOfLetters μ 0 8 = e at a b c d
  have hl : e ≤ μ 113 8 := by
    by_cases h : e = 0
    · have := T.2.1; omega
    · have := (t_len T (c (e - 1) (by omega) (by omega))).2.1
      omega
  by_cases h0 : e = 0
  · rw [if_pos h0]
    right
    refine ⟨by omega, ?_⟩
    by_cases h2 : e = μ 113 8
    · rw [if_pos h2, if_neg (by omega)]
    · rw [if_neg h2]
  · rw [if_neg h0]
    by_cases h2 : e < μ 113 8
    · rw [if_pos h2, if_neg (by omega)]
      exact Or.inr ⟨by omega, rfl⟩
    · rw [if_neg h2, if_pos (by omega), if_pos (by omega)]
      exact Or.inl ⟨rfl, rfl, by omega, by omega, fun p h3 h4 => c p (by omega) (by omega)⟩
theorem t_takes (T : Rt μ) (S : TS μ ν) {c s : Int} (hc : 0 < c) (e : ν 113 9 = s) (hs : 0 ≤ s) : (xx_signAt μ s = c ∧ mm_takesOne ν c = (1, zup ν 113 9 (s + 1))) ∨ (xx_signAt μ s ≠ c ∧ mm_takesOne ν c = (0, ν)) := by
  unfold mm_takesOne
  rcases t_here T S (a := c) (b := c) hc e hs with ⟨h, h3⟩ | ⟨h, h3⟩
  · rw [h, if_neg n10, e]
    exact Or.inl ⟨by omega, rfl⟩
  · rw [h, if_pos rfl, Int.add_zero, zup_id]
    exact Or.inr ⟨by omega, rfl⟩
end EQ
noncomputable def rhT (ν X : zM) (a1 k : Int) : Int × zM := (if k = (-5) then (0, X) else (if (mm_isHere X 48 57) = 0 then (0, X) else (1, zup (zup (zup (zup (zup X 118 (a1 + 0) 1) 118 (a1 + 1) k) 118 (a1 + 2) ((ν 119 (X 113 9)) - 48)) 118 (a1 + 3) (-5)) 113 9 ((X 113 9) + 1))))
section EQ
variable {μ ν : zM}
theorem t_rh0 {a1 : Int} (e1 : mm_takesOne ν 110 = (0, ν)) (e2 : mm_takesOne ν 118 = (0, ν)) (e3 : mm_takesOne ν 97 = (0, ν)) : mm_readsHole ν a1 = (0, ν) := by
  unfold mm_readsHole
  simp only [e1, zup_id, e2, e3, if_true]
theorem t_rhN {a1 : Int} {X : zM} (e1 : mm_takesOne ν 110 = (1, X)) (e0 : zup ν 113 9 (X 113 9) = X) : mm_readsHole ν a1 = rhT ν X a1 0 := by
  unfold mm_readsHole rhT
  simp only [e1, e0, if_neg n10]
theorem t_rhV {a1 : Int} {X : zM} (e1 : mm_takesOne ν 110 = (0, ν)) (e2 : mm_takesOne ν 118 = (1, X)) (e0 : zup ν 113 9 (X 113 9) = X) : mm_readsHole ν a1 = rhT ν X a1 1 := by
  unfold mm_readsHole rhT
  simp only [e1, zup_id, e2, e0, if_neg n10, if_true]
theorem t_rhA {a1 : Int} {X : zM} (e1 : mm_takesOne ν 110 = (0, ν)) (e2 : mm_takesOne ν 118 = (0, ν)) (e3 : mm_takesOne ν 97 = (1, X)) (e0 : zup ν 113 9 (X 113 9) = X) : mm_readsHole ν a1 = rhT ν X a1 2 := by
  unfold mm_readsHole rhT
  simp only [e1, zup_id, e2, e3, e0, if_neg n10, if_true]
end EQ
