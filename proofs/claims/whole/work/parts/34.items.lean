/-! how an item is read -/
theorem zup_at {μ : zM} {k : Nat} {z v z' : Int} : zup μ k z v k z' = if z' = z then v else μ k z' := by rw [zup_ap]; simp
def ITm (μ : zM) (d : Int → Int) (n st : Int) : Prop := (xx_hasHoleAt μ st = 1 ∧ d (14 * n + 0) = 1 ∧ d (14 * n + 1) = xx_kindAt μ (st + 1) ∧ d (14 * n + 2) = xx_digitAt μ (st + 2) ∧ d (14 * n + 3) = -5 ∧ (0 ≤ xx_kindAt μ (st + 1) ∧ xx_kindAt μ (st + 1) ≤ 2) ∧ (0 ≤ xx_digitAt μ (st + 2) ∧ xx_digitAt μ (st + 2) ≤ 9)) ∨ (xx_hasHoleAt μ st = 0 ∧ d (14 * n + 0) = 0 ∧ d (14 * n + 1) = xx_endOfItem μ st - st ∧ ∀ p, 0 ≤ p → p < xx_endOfItem μ st - st → d (14 * n + (4 + p)) = xx_signAt μ (st + p) - 96)
section EQ
variable {μ ν : zM}
theorem t_digit (μ : zM) (s : Int) : (xx_digitAt μ s = -1 ∧ ¬ (48 ≤ xx_signAt μ s ∧ xx_signAt μ s ≤ 57)) ∨ (xx_digitAt μ s = xx_signAt μ s - 48 ∧ 48 ≤ xx_signAt μ s ∧ xx_signAt μ s ≤ 57) := by
  unfold xx_digitAt
  rcases q_below (xx_signAt μ s - 48) 10 with ⟨h, h2⟩ | ⟨h, h2⟩
  · rw [h, if_pos rfl]; exact Or.inl ⟨rfl, by omega⟩
  · rw [h, if_neg n10]; exact Or.inr ⟨rfl, by omega⟩
theorem t_rhT (T : Rt μ) {X : zM} (S : TS μ X) (hν : ν 119 = μ 119) {a k s : Int} (hk : ¬ k = -5) (e : X 113 9 = s) (hs : 0 ≤ s) : (xx_digitAt μ s = -1 ∧ rhT ν X a k = (0, X)) ∨ ((0 ≤ xx_digitAt μ s ∧ xx_digitAt μ s ≤ 9) ∧ rhT ν X a k = (1, zup (zup (zup (zup (zup X 118 (a + 0) 1) 118 (a + 1) k) 118 (a + 2) (xx_digitAt μ s)) 118 (a + 3) (-5)) 113 9 (s + 1))) := by
  unfold rhT
  rw [if_neg hk, e, hν]
  rcases t_here T S (a := 48) (b := 57) (by decide) e hs with ⟨h, h3⟩ | ⟨h, h3⟩
  · right
    rcases t_digit μ s with ⟨d, d2⟩ | ⟨d, d2⟩
    · exact absurd h3 d2
    · rcases t_sign T s with ⟨-, -, g⟩ | ⟨-, g⟩
      · rw [h, if_neg n10, d, g]
        exact ⟨by omega, rfl⟩
      · omega
  · left
    rcases t_digit μ s with ⟨d, d2⟩ | ⟨d, d2⟩
    · rw [h, if_pos rfl]; exact ⟨d, rfl⟩
    · exact absurd d2 h3
theorem t_kind (μ : zM) (s : Int) : (xx_signAt μ s = 97 ∧ xx_kindAt μ s = 2) ∨ (xx_signAt μ s = 110 ∧ xx_kindAt μ s = 0) ∨ (xx_signAt μ s = 118 ∧ xx_kindAt μ s = 1) ∨ ((xx_signAt μ s ≠ 97 ∧ xx_signAt μ s ≠ 110 ∧ xx_signAt μ s ≠ 118) ∧ xx_kindAt μ s = -1) := by
  unfold xx_kindAt
  by_cases h1 : xx_signAt μ s = 97
  · rw [if_pos h1]; exact Or.inl ⟨h1, rfl⟩
  · rw [if_neg h1]
    by_cases h2 : xx_signAt μ s = 110
    · rw [if_pos h2]; exact Or.inr (Or.inl ⟨h2, rfl⟩)
    · rw [if_neg h2]
      by_cases h3 : xx_signAt μ s = 118
      · rw [if_pos h3]; exact Or.inr (Or.inr (Or.inl ⟨h3, rfl⟩))
      · rw [if_neg h3]; exact Or.inr (Or.inr (Or.inr ⟨⟨h1, h2, h3⟩, rfl⟩))
theorem t_readsHole (T : Rt μ) (S : TS μ ν) {a s : Int} (e : ν 113 9 = s) (hs : 0 ≤ s) :
    (xx_kindAt μ s = -1 ∧ mm_readsHole ν a = (0, ν)) ∨ ((0 ≤ xx_kindAt μ s ∧ xx_kindAt μ s ≤ 2) ∧ xx_digitAt μ (s + 1) = -1 ∧ mm_readsHole ν a = (0, zup ν 113 9 (s + 1))) ∨ ((0 ≤ xx_kindAt μ s ∧ xx_kindAt μ s ≤ 2) ∧ (0 ≤ xx_digitAt μ (s + 1) ∧ xx_digitAt μ (s + 1) ≤ 9) ∧ mm_readsHole ν a = (1, zup (zup (zup (zup (zup (zup ν 113 9 (s + 1)) 118 (a + 0) 1) 118 (a + 1) (xx_kindAt μ s)) 118 (a + 2) (xx_digitAt μ (s + 1))) 118 (a + 3) (-5)) 113 9 (s + 1 + 1))) := by
  have S2 : TS μ (zup ν 113 9 (s + 1)) := ⟨(zup_ne (by decide)).trans S.1, (zup_slot (by decide)).trans S.2⟩
  have e0 : zup ν 113 9 ((zup ν 113 9 (s + 1)) 113 9) = zup ν 113 9 (s + 1) := by rw [zup_self]
  have fin : ∀ k, 0 ≤ k → k ≤ 2 → xx_kindAt μ s = k → mm_readsHole ν a = rhT ν (zup ν 113 9 (s + 1)) a k → ((0 ≤ xx_kindAt μ s ∧ xx_kindAt μ s ≤ 2) ∧ xx_digitAt μ (s + 1) = -1 ∧ mm_readsHole ν a = (0, zup ν 113 9 (s + 1))) ∨ ((0 ≤ xx_kindAt μ s ∧ xx_kindAt μ s ≤ 2) ∧ (0 ≤ xx_digitAt μ (s + 1) ∧ xx_digitAt μ (s + 1) ≤ 9) ∧ mm_readsHole ν a = (1, zup (zup (zup (zup (zup (zup ν 113 9 (s + 1)) 118 (a + 0) 1) 118 (a + 1) (xx_kindAt μ s)) 118 (a + 2) (xx_digitAt μ (s + 1))) 118 (a + 3) (-5)) 113 9 (s + 1 + 1))) := by
    intro k k0 k1 hk hr
    rw [hr, hk]
    rcases t_rhT T S2 S.1 (a := a) (k := k) (by omega) zup_self (show 0 ≤ s + 1 by omega) with ⟨p, q⟩ | ⟨p, q⟩
    · exact Or.inl ⟨⟨k0, k1⟩, p, q⟩
    · exact Or.inr ⟨⟨k0, k1⟩, p, q⟩
  rcases t_takes T S (c := 110) (by decide) e hs with ⟨n1, n2⟩ | ⟨n1, n2⟩
  · right
    rcases t_kind μ s with ⟨g, h⟩ | ⟨g, h⟩ | ⟨g, h⟩ | ⟨g, h⟩
    · omega
    · exact fin 0 (by decide) (by decide) h (t_rhN n2 e0)
    · omega
    · omega
  · rcases t_takes T S (c := 118) (by decide) e hs with ⟨v1, v2⟩ | ⟨v1, v2⟩
    · right
      rcases t_kind μ s with ⟨g, h⟩ | ⟨g, h⟩ | ⟨g, h⟩ | ⟨g, h⟩
      · omega
      · omega
      · exact fin 1 (by decide) (by decide) h (t_rhV n2 v2 e0)
      · omega
    · rcases t_takes T S (c := 97) (by decide) e hs with ⟨w1, w2⟩ | ⟨w1, w2⟩
      · right
        rcases t_kind μ s with ⟨g, h⟩ | ⟨g, h⟩ | ⟨g, h⟩ | ⟨g, h⟩
        · exact fin 2 (by decide) (by decide) h (t_rhA n2 v2 w2 e0)
        · omega
        · omega
        · omega
      · left
        rcases t_kind μ s with ⟨g, h⟩ | ⟨g, h⟩ | ⟨g, h⟩ | ⟨g, h⟩
        · omega
        · omega
        · omega
        · exact ⟨h, t_rh0 n2 v2 w2⟩
theorem t_58 (T : Rt μ) {a st : Int} (h0 : 0 ≤ st) : ∀ (g f : Nat) (ν : zM) (n : Int), TS μ ν → ν 113 9 = st + n → 0 ≤ n → n ≤ 10 → 10 - n < (f : Int) → 10 - n < (g : Int) →
    (mm_readsItem_58 g ν a n).1 = (if 0 < xx_endOfLetters_2 f μ st 10 n - st then 1 else 0) ∧ (mm_readsItem_58 g ν a n).2 113 9 = xx_endOfLetters_2 f μ st 10 n ∧ (mm_readsItem_58 g ν a n).2 113 10 = ν 113 10 ∧ (mm_readsItem_58 g ν a n).2 118 (a + 1) = xx_endOfLetters_2 f μ st 10 n - st ∧ (mm_readsItem_58 g ν a n).2 118 (a + 0) = ν 118 (a + 0) ∧ (∀ p, 0 ≤ p → p < n → (mm_readsItem_58 g ν a n).2 118 (a + (4 + p)) = ν 118 (a + (4 + p))) ∧ (∀ p, n ≤ p → p < xx_endOfLetters_2 f μ st 10 n - st → (mm_readsItem_58 g ν a n).2 118 (a + (4 + p)) = xx_signAt μ (st + p) - 96) ∧ (∀ z, z < a → (mm_readsItem_58 g ν a n).2 118 z = ν 118 z) := by
  intro g
  induction g with
  | zero => intro f ν n S e n0 n1 hf hg; omega
  | succ g ih =>
    intro f ν n S e n0 n1 hf hg
    obtain ⟨f, rfl⟩ : ∃ k, f = k + 1 := ⟨f - 1, by omega⟩
    have hE : ∀ r : Int × zM, r = (if 0 < n then (1, (zup (zup ν 118 (a + 1) n) 118 (a + 3) (-5))) else (0, (zup (zup ν 118 (a + 1) n) 118 (a + 3) (-5)))) → ∀ E : Int, E = st + n →
      r.1 = (if 0 < E - st then 1 else 0) ∧ r.2 113 9 = E ∧ r.2 113 10 = ν 113 10 ∧ r.2 118 (a + 1) = E - st ∧ r.2 118 (a + 0) = ν 118 (a + 0) ∧ (∀ p, 0 ≤ p → p < n → r.2 118 (a + (4 + p)) = ν 118 (a + (4 + p))) ∧ (∀ p, n ≤ p → p < E - st → r.2 118 (a + (4 + p)) = xx_signAt μ (st + p) - 96) ∧ (∀ z, z < a → r.2 118 z = ν 118 z) := by
      intro r hr E hE
      have h2 : r.2 = zup (zup ν 118 (a + 1) n) 118 (a + 3) (-5) := by
        rw [hr]
        by_cases h : 0 < n
        · rw [if_pos h]
        · rw [if_neg h]
      have h1 : r.1 = (if 0 < n then 1 else 0) := by
        rw [hr]
        by_cases h : 0 < n
        · rw [if_pos h, if_pos h]
        · rw [if_neg h, if_neg h]
      have hz : ∀ z, z ≠ a + 1 → z ≠ a + 3 → r.2 118 z = ν 118 z := fun z z1 z3 => by
        rw [h2, zup_at, if_neg z3, zup_at, if_neg z1]
      rw [h1, show E - st = n by omega]
      refine ⟨rfl, ?_, ?_, ?_, hz _ (by omega) (by omega), fun p p0 p1 => hz _ (by omega) (by omega), fun p p0 p1 => by omega, fun z hz1 => hz _ (by omega) (by omega)⟩
      · rw [h2, zup_ne (by decide), zup_ne (by decide), e, hE]
      · rw [h2, zup_ne (by decide), zup_ne (by decide)]
      · rw [h2, zup_at, if_neg (by omega), zup_at, if_pos rfl]
    by_cases h2 : n < 10
    · rcases t_here T S (a := 97) (b := 122) (by decide) e (show 0 ≤ st + n by omega) with ⟨h, h3⟩ | ⟨h, h3⟩
      · rcases t_letter μ (st + n) with ⟨h4, -⟩ | ⟨-, h4⟩
        · rw [mm_readsItem_58, xx_endOfLetters_2, if_pos h2, h, if_neg n10, if_pos h2, h4, if_neg n10, e]
          obtain ⟨-, -, q1, -, -⟩ := t_len T h4
          have S2 : TS μ (zup (zup ν 118 (a + 4 + n) (ν 119 (st + n) - 97 + 1)) 113 9 (st + n + 1)) := ⟨by rw [zup_ne (by decide), zup_ne (by decide)]; exact S.1, by rw [zup_slot (by decide), zup_ne (by decide)]; exact S.2⟩
          obtain ⟨r1, r2, r3, r4, r5, r6, r7, r8⟩ := ih f _ (n + 1) S2 (by rw [zup_self]; omega) (by omega) (by omega) (by omega) (by omega)
          have hz : ∀ z, (zup (zup ν 118 (a + 4 + n) (ν 119 (st + n) - 97 + 1)) 113 9 (st + n + 1)) 118 z = if z = a + 4 + n then ν 119 (st + n) - 97 + 1 else ν 118 z := fun z => by
            rw [zup_ne (by decide), zup_at]
          refine ⟨r1, r2, ?_, r4, ?_, fun p p0 p1 => ?_, fun p p0 p1 => ?_, fun z hz1 => ?_⟩
          · rw [r3, zup_slot (by decide), zup_ne (by decide)]
          · rw [r5, hz, if_neg (by omega)]
          · rw [r6 p p0 (by omega), hz, if_neg (by omega)]
          · by_cases hp : p = n
            · rw [hp, r6 n n0 (by omega), hz, if_pos (by omega), q1, S.1]
              omega
            · exact r7 p (by omega) p1
          · rw [r8 z hz1, hz, if_neg (by omega)]
        · exact absurd h3 h4
      · rcases t_letter μ (st + n) with ⟨-, h4⟩ | ⟨h4, -⟩
        · exact absurd h4 h3
        · rw [mm_readsItem_58, xx_endOfLetters_2, if_pos h2, h, if_pos rfl, if_pos h2, h4, if_pos rfl]
          exact hE _ rfl _ rfl
    · rw [mm_readsItem_58, xx_endOfLetters_2, if_neg h2, if_neg h2]
      exact hE _ rfl _ rfl
theorem t_10 {a : Int} : ∀ (g : Nat) (ν : zM) (j : Int), 0 ≤ j → j ≤ 14 → 14 - j < (g : Int) → ∃ ν0 : zM, (∀ k, k ≠ 118 → ν0 k = ν k) ∧ (∀ z, a + j ≤ z → z < a + 14 → ν0 118 z = 0) ∧ (∀ z, z < a + j → ν0 118 z = ν 118 z) ∧ mm_readsItem_10 g ν a j = mm_readsItem_10 1 ν0 a 14 := by
  intro g
  induction g with
  | zero => intro ν j h0 h1 hg; omega
  | succ g ih =>
    intro ν j h0 h1 hg
    by_cases h : j < 14
    · obtain ⟨ν0, p, q, r, s⟩ := ih (zup ν 118 (a + j) 0) (j + 1) (by omega) (by omega) (by omega)
      refine ⟨ν0, fun k hk => (p k hk).trans (zup_ne hk), fun z z0 z1 => ?_, fun z z0 => ?_, ?_⟩
      · by_cases hz : z = a + j
        · rw [r z (by omega), zup_at, if_pos hz]
        · exact q z (by omega) z1
      · rw [r z (by omega), zup_at, if_neg (by omega)]
      · rw [mm_readsItem_10, if_pos h]
        exact s
    · refine ⟨ν, fun k hk => rfl, fun z z0 z1 => by omega, fun z z0 => rfl, ?_⟩
      rw [mm_readsItem_10, if_neg h, mm_readsItem_10, if_neg (show ¬ (14 : Int) < 14 by decide)]
theorem t_item (T : Rt μ) (S : TS μ ν) {st n : Int} (e : ν 113 9 = st) (h0 : 0 ≤ st) (e10 : ν 113 10 = n) :
    (xx_faultInItem μ st ≠ -1 ∧ (mm_readsItem ν).1 = 0 ∧ (mm_readsItem ν).2 113 9 = xx_faultInItem μ st) ∨ (xx_faultInItem μ st = -1 ∧ (mm_readsItem ν).1 = 1 ∧ (mm_readsItem ν).2 113 9 = xx_endOfItem μ st ∧ (mm_readsItem ν).2 113 10 = n + 1 ∧ ITm μ ((mm_readsItem ν).2 118) n st ∧ ∀ z, z < 14 * n → (mm_readsItem ν).2 118 z = ν 118 z) := by
  have hN := zN_big
  obtain ⟨ν0, p, q, r, s⟩ := t_10 (a := 14 * n) zN ν 0 (by decide) (by decide) (by omega)
  have hr : mm_readsItem ν = mm_readsItem_10 1 ν0 (14 * n) 14 := by
    unfold mm_readsItem
    rw [e10]; exact s
  have e1 : ν0 113 = ν 113 := p 113 (by decide)
  rw [hr, mm_readsItem_10, if_neg (show ¬ (14 : Int) < 14 by decide), e1, e10]
  have SX : TS μ (zup ν0 113 10 (n + 1)) := ⟨by rw [zup_ne (by decide), p 119 (by decide)]; exact S.1, by rw [zup_slot (by decide), e1]; exact S.2⟩
  have eX : (zup ν0 113 10 (n + 1)) 113 9 = st := by rw [zup_slot (by decide), e1]; exact e
  have eT : (zup ν0 113 10 (n + 1)) 113 10 = n + 1 := zup_self
  have eD : (zup ν0 113 10 (n + 1)) 118 = ν0 118 := zup_ne (by decide)
  generalize zup ν0 113 10 (n + 1) = X at SX eX eT eD
  rcases t_takes T SX (c := 35) (by decide) eX h0 with ⟨c1, c2⟩ | ⟨c1, c2⟩
  · have hh : xx_hasHoleAt μ st = 1 := by unfold xx_hasHoleAt; rw [if_pos c1]
    have hf : xx_faultInItem μ st = (if xx_kindAt μ (st + 1) = -1 then st + 1 else (if xx_digitAt μ (st + 2) = -1 then st + 2 else -1)) := by
      unfold xx_faultInItem; rw [hh, if_neg n10]
    have he : xx_endOfItem μ st = st + 3 := by unfold xx_endOfItem; rw [hh, if_neg n10]
    rw [c2, if_neg n10]
    dsimp only
    rw [zup_self]
    have SY : TS μ (zup X 113 9 (st + 1)) := ⟨by rw [zup_ne (by decide)]; exact SX.1, by rw [zup_slot (by decide)]; exact SX.2⟩
    have eY : (zup X 113 9 (st + 1)) 113 9 = st + 1 := zup_self
    have eYT : (zup X 113 9 (st + 1)) 113 10 = n + 1 := by rw [zup_slot (by decide)]; exact eT
    have eYD : (zup X 113 9 (st + 1)) 118 = ν0 118 := by rw [zup_ne (by decide)]; exact eD
    generalize zup X 113 9 (st + 1) = Y at SY eY eYT eYD
    have e12 : st + 1 + 1 = st + 2 := by omega
    rcases t_readsHole T SY (a := 14 * n) eY (show 0 ≤ st + 1 by omega) with ⟨k1, k2⟩ | ⟨k1, k3, k2⟩ | ⟨k1, k3, k2⟩
    · left
      rw [k2, hf, if_pos k1]
      exact ⟨by omega, rfl, by dsimp only; rw [zup_self]; exact eY⟩
    · left
      rw [e12] at k3
      rw [k2, hf, if_neg (by omega), if_pos k3]
      exact ⟨by omega, rfl, by dsimp only; rw [zup_self, zup_self]; omega⟩
    · right
      rw [e12] at k3
      rw [k2, hf, if_neg (by omega), if_neg (by omega), he]
      dsimp only
      rw [e12]
      refine ⟨rfl, rfl, ?_, ?_, ?_, ?_⟩
      · rw [zup_self, zup_self]; omega
      · rw [zup_slot (by decide), zset_ne (by decide)]; exact eYT
      · left
        rw [zup_ne (by decide), zset_eq]
        refine ⟨hh, ?_, ?_, ?_, ?_, k1, k3⟩
        · rw [zup_ne (by decide), zup_at, if_neg (by omega), zup_at, if_neg (by omega), zup_at, if_neg (by omega), zup_at, if_pos rfl]
        · rw [zup_ne (by decide), zup_at, if_neg (by omega), zup_at, if_neg (by omega), zup_at, if_pos rfl]
        · rw [zup_ne (by decide), zup_at, if_neg (by omega), zup_at, if_pos rfl]
        · rw [zup_ne (by decide), zup_at, if_pos rfl]
      · intro z hz
        rw [zup_ne (by decide), zset_eq, zup_ne (by decide), zup_at, if_neg (by omega), zup_at, if_neg (by omega), zup_at, if_neg (by omega), zup_at, if_neg (by omega), zup_ne (by decide), eYD, r z (by omega)]
  · have hh : xx_hasHoleAt μ st = 0 := by unfold xx_hasHoleAt; rw [if_neg c1]
    have he : xx_endOfItem μ st = xx_endOfLetters_2 zN μ st 10 0 := by unfold xx_endOfItem xx_endOfLetters; rw [hh, if_pos rfl]
    rw [c2, if_pos rfl]
    dsimp only
    rw [zup_id]
    obtain ⟨r1, r2, r3, r4, r5, r6, r7, r8⟩ := t_58 T (a := 14 * n) h0 zN zN X 0 SX (by rw [eX]; omega) (by decide) (by decide) (by omega) (by omega)
    obtain ⟨b1, b2, b3, b4⟩ := t_eol μ st 10 zN 0 (by decide) (by decide) (by omega)
    rw [← he] at r1 r2 r4 r7 b1 b2 b3 b4
    rcases t_letter μ st with ⟨l1, l2⟩ | ⟨l1, l2⟩
    · right
      have hlt : st < xx_endOfItem μ st := by
        rcases b4 with b4 | b4
        · omega
        · rcases Int.lt_or_le st (xx_endOfItem μ st) with g | g
          · exact g
          · rw [show xx_endOfItem μ st = st by omega] at b4; omega
      refine ⟨?_, ?_, r2, ?_, Or.inr ⟨hh, ?_, r4, fun p p0 p1 => r7 p p0 p1⟩, fun z hz => ?_⟩
      · unfold xx_faultInItem; rw [hh, if_pos rfl, l1, if_neg n10]
      · rw [r1, if_pos (by omega)]
      · rw [r3]; exact eT
      · rw [r5, eD]; exact q _ (by omega) (by omega)
      · rw [r8 z hz, eD]; exact r z (by omega)
    · left
      have hst : xx_endOfItem μ st = st := by
        rcases Int.lt_or_le st (xx_endOfItem μ st) with g | g
        · have := b3 st (by omega) g; omega
        · omega
      have hf : xx_faultInItem μ st = st := by unfold xx_faultInItem; rw [hh, if_pos rfl, l1, if_pos rfl]
      rw [hf]
      exact ⟨by omega, by rw [r1, if_neg (by omega)], by rw [r2, hst]⟩
end EQ
