/-! addWord, readTale -/
section EQ
variable {μ ν c : zM}
theorem e_learn : ∀ (g : Nat) (ν : zM) (l : Int), 0 ≤ l → l ≤ 8 → 8 - l < (g : Int) → (∀ k, k ≠ 8 → k ≠ 4 → (xx_learn_51 g ν l) k = ν k) ∧ (xx_learn_51 g ν l) 4 0 = ν 4 0 + 1 ∧ (∀ p, l ≤ p → p < 8 → (xx_learn_51 g ν l) 8 (ν 4 0 * 8 + p) = xx_letterNumberAt ν p) ∧ (∀ z, z < ν 4 0 * 8 + l → (xx_learn_51 g ν l) 8 z = ν 8 z) := by
  intro g
  induction g with
  | zero => intro ν l h0 h1 hg; omega
  | succ g ih =>
    intro ν l h0 h1 hg
    rw [xx_learn_51]
    by_cases h : l < 8
    · rw [if_pos h]
      obtain ⟨a, b, c, d⟩ := ih (zup ν 8 (ν 4 0 * 8 + l) (xx_letterNumberAt ν l)) (l + 1) (by omega) (by omega) (by omega)
      have e4 : (zup ν 8 (ν 4 0 * 8 + l) (xx_letterNumberAt ν l)) 4 = ν 4 := zup_ne (by decide)
      rw [e4] at b c d
      refine ⟨fun k k1 k2 => (a k k1 k2).trans (zup_ne k1), b, fun p p0 p1 => ?_, fun z z0 => ?_⟩
      · by_cases hp : p = l
        · rw [d _ (by omega), zup_at, if_pos (by omega), hp]
        · rw [c p (by omega) p1, c_numberAt (zup_ne (by decide)) (zup_ne (by decide))]
      · rw [d z (by omega), zup_at, if_neg (by omega)]
    · rw [if_neg h]
      exact ⟨fun k k1 k2 => zup_ne k2, zup_self, fun p p0 p1 => by omega, fun z z0 => by rw [zup_ne (by decide)]⟩
theorem e_115 (a : Int) (ha : 4 ≤ a) : ∀ (g : Nat) (ν : zM) (l : Int), 0 ≤ l → l ≤ ν 113 8 → ν 113 8 - l < (g : Int) → ∃ X : zM, (∀ k, k ≠ 114 → X k = ν k) ∧ (∀ p, l ≤ p → p < ν 113 8 → X 114 (a + 3 + p) = ν 119 p - 97 + 1) ∧ (∀ z, z < a + 3 + l → X 114 z = ν 114 z) ∧ (∀ z, a + 3 + ν 113 8 ≤ z → X 114 z = ν 114 z) ∧ mm_addWord_115 g ν a l = ((mm_ends (zup X 114 2 (X 114 2 + 1)) (X 114 2 + 1 - 1)).1, (mm_ends (zup X 114 2 (X 114 2 + 1)) (X 114 2 + 1 - 1)).2) := by
  intro g
  induction g with
  | zero => intro ν l h0 h1 hg; omega
  | succ g ih =>
    intro ν l h0 h1 hg
    rw [mm_addWord_115]
    by_cases h : l < ν 113 8
    · rw [if_pos h]
      have e1 : (zup ν 114 (a + 3 + l) (ν 119 l - 97 + 1)) 113 = ν 113 := zup_ne (by decide)
      have e2 : (zup ν 114 (a + 3 + l) (ν 119 l - 97 + 1)) 119 = ν 119 := zup_ne (by decide)
      obtain ⟨X, x1, x2, x3, x4, x5⟩ := ih (zup ν 114 (a + 3 + l) (ν 119 l - 97 + 1)) (l + 1) (by omega) (by rw [e1]; omega) (by rw [e1]; omega)
      rw [e1] at x2 x4
      rw [e2] at x2
      refine ⟨X, fun k hk => (x1 k hk).trans (zup_ne hk), fun p p0 p1 => ?_, fun z z0 => ?_, fun z z0 => ?_, x5⟩
      · by_cases hp : p = l
        · rw [x3 _ (by omega), zup_at, if_pos (by omega), hp]
        · exact x2 p (by omega) p1
      · rw [x3 z (by omega), zup_at, if_neg (by omega)]
      · rw [x4 z z0, zup_at, if_neg (by omega)]
    · rw [if_neg h]
      exact ⟨ν, fun k hk => rfl, fun p p0 p1 => by omega, fun z z0 => rfl, fun z z0 => rfl, rfl⟩
theorem b_addWord (R : Rz μ) (k g : Int) : (xx_addWord μ k g).1 = (mm_addWord (xx_addWord μ k g).2 k g).1 ∧ Rz (mm_addWord (xx_addWord μ k g).2 k g).2 := by
  obtain ⟨r1, r2⟩ := R.rec
  have R1 := R.1
  have T := R.2.1
  have hN := zN_big
  have Rt1 : ∀ v, Rz (zup μ 113 9 v) := fun v => R.text (fun k k1 k2 k3 k4 k5 => zup_ne k3) (fun z z8 z9 z10 => zup_slot z9) ⟨by rw [zup_ne (by decide), zup_slot (by decide)]; exact T.1, by rw [zup_slot (by decide)]; exact T.2.1, by rw [zup_slot (by decide), zup_ne (by decide), zup_ne (by decide)]; exact T.2.2⟩
  by_cases hk : 0 ≤ k ∧ k ≤ 2
  · have p : xx_isBelow k 3 = 1 := q_below1 hk.1 (by omega)
    have q : mm_isKind k = 1 := q_in1 hk.1 hk.2
    by_cases hg : 0 ≤ g ∧ g ≤ 2 ∧ (k ≠ 0 → g = 0)
    · have bx : ∀ (A B : Int × zM), (if k = 0 then (if xx_isBelow g 3 = 0 then A else B) else (if xx_isBelow g 1 = 0 then A else B)) = B := fun A B => by
        by_cases h0 : k = 0
        · rw [if_pos h0, q_below1 hg.1 (by omega), if_neg n10]
        · rw [if_neg h0, q_below1 hg.1 (by have := hg.2.2 h0; omega), if_neg n10]
      have bm : ∀ (A B : Int × zM), (if k = 0 then (if mm_in g 0 2 = 0 then A else B) else (if mm_in g 0 0 = 0 then A else B)) = B := fun A B => by
        by_cases h0 : k = 0
        · rw [if_pos h0, q_in1 hg.1 hg.2.1, if_neg n10]
        · rw [if_neg h0, q_in1 hg.1 (by have := hg.2.2 h0; omega), if_neg n10]
      rcases t_stem T with ⟨s1, s2, s3, s4, s5⟩ | ⟨s1, s2⟩
      · by_cases hK : μ 114 2 < 24
        · obtain ⟨c, hc⟩ : ∃ c, c = xx_learn (xx_record μ) k g := ⟨_, rfl⟩
          have hx : xx_addWord μ k g = (c 4 0 - 1, c) := by
            unfold xx_addWord
            rw [p, if_neg n10, bx, if_pos s1, R1.k, if_pos hK, hc]
          have e4 : (xx_record μ) 4 0 = μ 114 2 := by rw [r2 4 (by omega)]; exact R1.k
          have e1 : (xx_record μ) 1 1 = μ 113 8 := by rw [r2 1 (by omega)]; exact T.1
          have hl : c = xx_learn_51 zN (zup (zup (zup (xx_record μ) 5 (μ 114 2) k) 6 (μ 114 2) g) 7 (μ 114 2) (μ 113 8)) 0 := by
            have hz := zmin_r (μ 113 8) 8
            rw [hc]
            unfold xx_learn
            rw [e4, if_pos hK, e1, show zmin (μ 113 8) 8 = μ 113 8 by omega]
          obtain ⟨W, hW⟩ : ∃ W, W = zup (zup (zup (xx_record μ) 5 (μ 114 2) k) 6 (μ 114 2) g) 7 (μ 114 2) (μ 113 8) := ⟨_, rfl⟩
          rw [← hW] at hl
          have w4 : W 4 0 = μ 114 2 := by rw [hW, zup_ne (by decide), zup_ne (by decide), zup_ne (by decide)]; exact e4
          obtain ⟨l1, l2, l3, l4⟩ := e_learn zN W 0 (by decide) (by decide) (by omega)
          rw [← hl] at l1 l2 l3 l4
          rw [w4] at l2 l3 l4
          have wlo : ∀ k, k ≠ 5 → k ≠ 6 → k ≠ 7 → W k = (xx_record μ) k := fun k k5 k6 k7 => by rw [hW, zup_ne k7, zup_ne k6, zup_ne k5]
          have clo : ∀ k, k ≠ 4 → k ≠ 5 → k ≠ 6 → k ≠ 7 → k ≠ 8 → c k = (xx_record μ) k := fun k k4 k5 k6 k7 k8 => by rw [l1 k k8 k4, wlo k k5 k6 k7]
          have cl2 : ∀ k, k ≠ 4 → k ≠ 5 → k ≠ 6 → k ≠ 7 → k ≠ 8 → (k < 39 ∨ 113 ≤ k) → c k = μ k := fun k k4 k5 k6 k7 k8 h => by rw [clo k k4 k5 k6 k7 k8, r2 k h]
          have c1 : c 1 = μ 1 := cl2 1 (by decide) (by decide) (by decide) (by decide) (by decide) (by omega)
          have c2 : c 2 = μ 2 := cl2 2 (by decide) (by decide) (by decide) (by decide) (by decide) (by omega)
          have c113 : c 113 = μ 113 := cl2 113 (by decide) (by decide) (by decide) (by decide) (by decide) (by omega)
          have c114 : c 114 = μ 114 := cl2 114 (by decide) (by decide) (by decide) (by decide) (by decide) (by omega)
          have c119 : c 119 = μ 119 := cl2 119 (by decide) (by decide) (by decide) (by decide) (by decide) (by omega)
          have Tc : Rt c := by unfold Rt; rw [c1, c2, c113, c119]; exact T
          have sf : (mm_stemFault c).1 = -5 := by
            rcases t_stem Tc with ⟨-, u, -⟩ | ⟨u, -⟩
            · exact u
            · rw [f_stem c1 c2] at u; omega
          obtain ⟨Y, hY⟩ : ∃ Y, Y = zup c 113 9 ((mm_stemFault c).2 113 9) := ⟨_, rfl⟩
          have ylo : ∀ k, k ≠ 113 → Y k = c k := fun k hk => by rw [hY, zup_ne hk]
          have y113 : ∀ z, z ≠ 9 → Y 113 z = μ 113 z := fun z hz => by rw [hY, zup_slot hz, c113]
          obtain ⟨V, hV⟩ : ∃ V, V = zup (zup (zup (Kp Y) 114 (4 + 11 * μ 114 2 + 0) k) 114 (4 + 11 * μ 114 2 + 1) g) 114 (4 + 11 * μ 114 2 + 2) (μ 113 8) := ⟨_, rfl⟩
          have hm : mm_addWord c k g = mm_addWord_115 zN V (4 + 11 * μ 114 2) 0 := by
            unfold mm_addWord
            rw [q, if_neg n10, bm, sf, if_pos rfl, c114, if_neg (by omega), c113, hV, hY]; rfl
          have vlo : ∀ k, k ≠ 114 → V k = Kp Y k := fun k hk => by rw [hV, zup_ne hk, zup_ne hk, zup_ne hk]
          have v113 : V 113 8 = μ 113 8 := by rw [vlo 113 (by decide), Kp_ne (by decide), y113 8 (by decide)]
          have v119 : V 119 = μ 119 := by rw [vlo 119 (by decide), Kp_ne (by decide), ylo 119 (by decide), c119]
          have vr : ∀ z, V 114 z = if z = 4 + 11 * μ 114 2 + 2 then μ 113 8 else if z = 4 + 11 * μ 114 2 + 1 then g else if z = 4 + 11 * μ 114 2 + 0 then k else μ 114 z := fun z => by
            rw [hV, zup_at, zup_at, zup_at, Kp_ne (by decide), ylo 114 (by decide), c114]
          have hkr := R1.kr
          obtain ⟨X, x1, x2, x3, x4, x5⟩ := e_115 (4 + 11 * μ 114 2) (by omega) zN V 0 (by decide) (by rw [v113]; omega) (by rw [v113]; omega)
          rw [v113] at x2 x4
          rw [v119] at x2
          have X2 : X 114 2 = μ 114 2 := by rw [x3 2 (by omega), vr, if_neg (by omega), if_neg (by omega), if_neg (by omega)]
          rw [X2] at x5
          have hρ : ∀ z, z ≠ 2 → (zup X 114 2 (μ 114 2 + 1)) 114 z = X 114 z := fun z hz => by rw [zup_at, if_neg hz]
          have hρ2 : (zup X 114 2 (μ 114 2 + 1)) 114 2 = μ 114 2 + 1 := zup_self
          have xlo : ∀ z, z < 4 + 11 * μ 114 2 → X 114 z = μ 114 z := fun z hz => by rw [x3 z (by omega), vr, if_neg (by omega), if_neg (by omega), if_neg (by omega)]
          have xhi : ∀ z, 268 ≤ z → X 114 z = μ 114 z := fun z hz => by rw [x4 z (by omega), vr, if_neg (by omega), if_neg (by omega), if_neg (by omega)]
          have hα : ∀ o, (o = 0 ∨ 6 ≤ o) → o ≤ 17 → Y (3 + o) = μ (3 + o) := fun o o1 o2 => by rw [ylo _ (by omega), cl2 _ (by omega) (by omega) (by omega) (by omega) (by omega) (by omega)]
          have hL : ∀ p, 0 ≤ p → p < μ 113 8 → xx_letterNumberAt μ p = μ 119 p - 97 + 1 ∧ 1 ≤ xx_letterNumberAt μ p := fun p p0 p1 => by
            obtain ⟨-, -, u, u2, -⟩ := t_len T (s5 p p0 p1)
            unfold xx_letterNumberAt
            rw [s5 p p0 p1, if_neg n10, u]
            exact ⟨rfl, by omega⟩
          obtain ⟨P1, P2, P3, P4, P5⟩ := R1.parts
          have hN2 : RS (fun o => Y (3 + o)) ((zup X 114 2 (μ 114 2 + 1)) 114) :=
            RS.of (P1.cong (hα 0 (by omega) (by decide)) (by rw [hρ 0 (by decide), xlo 0 (by omega)]) (by rw [hρ 1 (by decide), xlo 1 (by omega)]))
              (P2.add (kd := k) (gd := g) (ln := μ 113 8) (L := xx_letterNumberAt μ) hK (by show Y 4 0 = _; rw [ylo 4 (by decide), l2])
                (fun z => by show Y 5 z = if z = μ 114 2 then k else μ 5 z; rw [ylo 5 (by decide), l1 5 (by decide) (by decide), hW, zup_ne (by decide), zup_ne (by decide), zup_at, r2 5 (by omega)])
                (fun z => by show Y 6 z = if z = μ 114 2 then g else μ 6 z; rw [ylo 6 (by decide), l1 6 (by decide) (by decide), hW, zup_ne (by decide), zup_at, zup_ne (by decide), r2 6 (by omega)])
                (fun z => by show Y 7 z = if z = μ 114 2 then μ 113 8 else μ 7 z; rw [ylo 7 (by decide), l1 7 (by decide) (by decide), hW, zup_at, zup_ne (by decide), zup_ne (by decide), r2 7 (by omega)])
                (fun z hz => by show Y 8 z = μ 8 z; rw [ylo 8 (by decide), l4 z (by omega), wlo 8 (by decide) (by decide) (by decide), r2 8 (by omega)])
                (fun p p0 p1 => by show Y 8 (μ 114 2 * 8 + p) = _; rw [ylo 8 (by decide), l3 p p0 p1, c_numberAt ((wlo 1 (by decide) (by decide) (by decide)).trans (r2 1 (by omega))) ((wlo 2 (by decide) (by decide) (by decide)).trans (r2 2 (by omega)))])
                hρ2 (fun z z0 z1 => by rw [hρ z (by omega), xlo z z1])
                (by rw [hρ _ (by omega), x3 _ (by omega), vr, if_neg (by omega), if_neg (by omega), if_pos rfl])
                (by rw [hρ _ (by omega), x3 _ (by omega), vr, if_neg (by omega), if_pos rfl])
                (by rw [hρ _ (by omega), x3 _ (by omega), vr, if_pos rfl])
                (fun p p0 p1 => by rw [hρ _ (by omega), show 4 + 11 * μ 114 2 + (3 + p) = 4 + 11 * μ 114 2 + 3 + p by omega, x2 p p0 p1]; exact ⟨(hL p p0 p1).1.symm, (hL p p0 p1).2⟩)
                hk ⟨hg.1, hg.2.1⟩ ⟨by omega, s4⟩)
              (P3.cong (hα 6 (by omega) (by decide)) (fun z z0 z1 => by rw [hρ z (by omega), xhi z (by omega)]))
              (P4.cong (fun o o1 o2 => hα o (by omega) (by omega)) (by rw [hρ2]; omega) (by rw [hρ 3 (by decide), xlo 3 (by omega)]) (fun z z0 z1 => by rw [hρ z (by omega), xhi z (by omega)]))
              (P5.cong (hα 16 (by omega) (by decide)) (hα 17 (by omega) (by decide)) (fun z z0 z1 => by rw [hρ z (by omega), xhi z (by omega)]))
          obtain ⟨p', q'⟩ := r_core R (c := Y) (X := zup X 114 2 (μ 114 2 + 1)) (μ 114 2 + 1 - 1) (fun k k1 k2 => by rw [ylo k (by omega), clo k (by omega) (by omega) (by omega) (by omega) (by omega)]) (fun k k1 k2 k3 => by rw [ylo k k3, cl2 k (by omega) (by omega) (by omega) (by omega) (by omega) (by omega)]) (fun z z9 _ => y113 z z9) (fun k hk => by rw [zup_ne hk, x1 k hk, vlo k hk]) hN2
          rw [hx]; dsimp only; rw [hm, x5]
          exact ⟨by dsimp only; rw [p', l2], q'⟩
        · have hx : xx_addWord μ k g = (-3, μ) := by
            unfold xx_addWord
            rw [p, if_neg n10, bx, if_pos s1, R1.k, if_neg hK]
          have hm : mm_addWord μ k g = (-3, zup μ 113 9 ((mm_stemFault μ).2 113 9)) := by
            unfold mm_addWord
            rw [q, if_neg n10, bm, if_pos s2, if_pos (by have := R1.kr; omega)]
          rw [hx]; dsimp only; rw [hm]
          exact ⟨rfl, Rt1 _⟩
      · have hx : xx_addWord μ k g = (-100 - xx_faultAsStem μ, μ) := by
          unfold xx_addWord
          rw [p, if_neg n10, bx, if_neg (by omega)]
        have hm : mm_addWord μ k g = (-100 - xx_faultAsStem μ, zup μ 113 9 ((mm_stemFault μ).2 113 9)) := by
          unfold mm_addWord
          rw [q, if_neg n10, bm, s2, if_neg (by omega)]
        rw [hx]; dsimp only; rw [hm]
        exact ⟨rfl, Rt1 _⟩
    · have hx : xx_addWord μ k g = (-2, μ) := by
        unfold xx_addWord
        rw [p, if_neg n10]
        by_cases h0 : k = 0
        · rw [if_pos h0, q_below0 (by omega), if_pos rfl]
        · rw [if_neg h0, q_below0 (by omega), if_pos rfl]
      have hm : mm_addWord μ k g = (-2, μ) := by
        unfold mm_addWord
        rw [q, if_neg n10]
        by_cases h0 : k = 0
        · rw [if_pos h0, q_in0 (by omega), if_pos rfl]
        · rw [if_neg h0, q_in0 (by omega), if_pos rfl]
      rw [hx]; dsimp only; rw [hm]; exact ⟨rfl, R⟩
  · have hx : xx_addWord μ k g = (-1, μ) := by unfold xx_addWord; rw [q_below0 (by omega), if_pos rfl]
    have hm : mm_addWord μ k g = (-1, μ) := by unfold mm_addWord mm_isKind; rw [q_in0 hk, if_pos rfl]
    rw [hx]; dsimp only; rw [hm]; exact ⟨rfl, R⟩
theorem tk_addHole (i a b : Int) (k : Nat) (hk : k < 10 ∨ 18 < k) : (xx_addHole ν i a b) k = ν k := by
  unfold xx_addHole
  split
  · rfl
  · split
    · rw [zup_ne (by omega), zup_ne (by omega), zup_ne (by omega), zup_ne (by omega), zup_ne (by omega), zup_ne (by omega)]
    · rfl
theorem tk_39 (k : Nat) (hk : k < 10 ∨ 18 < k) : ∀ (g : Nat) (ν : zM) (l n : Int), (xx_takeFrom_39 g ν l n) k = ν k := by
  intro g
  induction g with
  | zero => intro ν l n; rfl
  | succ g ih =>
    intro ν l n
    rw [xx_takeFrom_39]
    by_cases h1 : n < 20
    · rw [if_pos h1]
      by_cases h2 : l < ν 1 1
      · rw [if_pos h2]
        split
        · rw [ih, zup_ne (by omega), zup_ne (by omega), zup_ne (by omega), zup_ne (by omega)]
        · rw [ih, zup_ne (by omega), tk_addHole _ _ _ k hk, zup_ne (by omega), zup_ne (by omega), zup_ne (by omega)]
      · rw [if_neg h2]
    · rw [if_neg h1]
theorem tk_12 (k : Nat) (hk : k < 10 ∨ 18 < k) : ∀ (g : Nat) (ν : zM) (l : Int), (xx_takeFrom_12 g ν l) k = ν k := by
  intro g
  induction g with
  | zero => intro ν l; rfl
  | succ g ih =>
    intro ν l
    rw [xx_takeFrom_12]
    split
    · rw [ih, zup_ne (by omega)]
    · rw [tk_39 k hk]
theorem tk_frame (k : Nat) (hk : k < 10 ∨ 18 < k) : (xx_takeFrom ν) k = ν k := by
  unfold xx_takeFrom
  rw [tk_12 k hk, zup_ne (by omega), zup_ne (by omega)]
theorem e_22 : ∀ (g : Nat) (ν : zM) (l : Int), 0 ≤ l → l ≤ 280 → 280 - l < (g : Int) → ∃ X : zM, (∀ k, k ≠ 114 → X k = ν k) ∧ (∀ z, l ≤ z → z < 280 → X 114 (304 + z) = if z < 14 * ν 113 10 then ν 118 z else 0) ∧ (∀ z, z < 304 + l → X 114 z = ν 114 z) ∧ (∀ z, 584 ≤ z → X 114 z = ν 114 z) ∧ mm_readTale_22 g ν l = ((mm_ends (zup X 114 3 (X 113 10)) (mm_holes (zup X 114 3 (X 113 10)) (-5) 0)).1, (mm_ends (zup X 114 3 (X 113 10)) (mm_holes (zup X 114 3 (X 113 10)) (-5) 0)).2) := by
  intro g
  induction g with
  | zero => intro ν l h0 h1 hg; omega
  | succ g ih =>
    intro ν l h0 h1 hg
    rw [mm_readTale_22]
    by_cases h : l < 280
    · have e : (if l < 14 * ν 113 10 then mm_readTale_22 g (zup ν 114 (304 + l) (ν 118 l)) (l + 1) else mm_readTale_22 g (zup ν 114 (304 + l) 0) (l + 1)) = mm_readTale_22 g (zup ν 114 (304 + l) (if l < 14 * ν 113 10 then ν 118 l else 0)) (l + 1) := by
        by_cases h2 : l < 14 * ν 113 10
        · rw [if_pos h2, if_pos h2]
        · rw [if_neg h2, if_neg h2]
      rw [if_pos h, e]
      obtain ⟨X, x1, x2, x3, x4, x5⟩ := ih (zup ν 114 (304 + l) (if l < 14 * ν 113 10 then ν 118 l else 0)) (l + 1) (by omega) (by omega) (by omega)
      refine ⟨X, fun k hk => (x1 k hk).trans (zup_ne hk), fun z z0 z1 => ?_, fun z z0 => ?_, fun z z0 => ?_, x5⟩
      · by_cases hz : z = l
        · rw [x3 _ (by omega), zup_at, if_pos (by omega), hz]
        · rw [x2 z (by omega) z1, zup_ne (by decide), zup_ne (by decide)]
      · rw [x3 z (by omega), zup_at, if_neg (by omega)]
      · rw [x4 z z0, zup_at, if_neg (by omega)]
    · rw [if_neg h]
      exact ⟨ν, fun k hk => rfl, fun z z0 z1 => by omega, fun z z0 => rfl, fun z z0 => rfl, rfl⟩
theorem b_readTale (R : Rz μ) : (xx_readTale μ).1 = (mm_readTale (xx_readTale μ).2).1 ∧ Rz (mm_readTale (xx_readTale μ).2).2 := by
  obtain ⟨r1, r2⟩ := R.rec
  have R1 := R.1
  have T := R.2.1
  have hN := zN_big
  by_cases hf : xx_faultAsTale μ = -1
  · obtain ⟨c, cE⟩ : ∃ c, c = xx_takeFrom (xx_record μ) := ⟨_, rfl⟩
    have hx : xx_readTale μ = (c 10 1, c) := by unfold xx_readTale; rw [if_pos hf, cE]
    have clo : ∀ k, k < 10 ∨ 18 < k → c k = (xx_record μ) k := fun k hk => by rw [cE, tk_frame k hk]
    have cl2 : ∀ k, k < 10 ∨ (18 < k ∧ k < 39) ∨ 113 ≤ k → c k = μ k := fun k hk => by rw [clo k (by omega), r2 k (by omega)]
    have c1 : c 1 = μ 1 := cl2 1 (by omega)
    have c2 : c 2 = μ 2 := cl2 2 (by omega)
    have c113 : c 113 = μ 113 := cl2 113 (by omega)
    have Tc : Rt c := by unfold Rt; rw [c1, c2, c113, cl2 119 (by omega)]; exact T
    have w1 : (xx_record μ) 1 = c 1 := (clo 1 (by omega)).symm
    have w2 : (xx_record μ) 2 = c 2 := (clo 2 (by omega)).symm
    have w113 : (xx_record μ) 113 = c 113 := (clo 113 (by omega)).symm
    have Tw : Rt (xx_record μ) := by unfold Rt; rw [w1, w2, w113, (clo 119 (by omega)).symm]; exact Tc
    rcases t_tale Tc with ⟨-, s2, N, P, s3, s4⟩ | ⟨s1, -⟩
    · obtain ⟨D, hD⟩ : ∃ D, D = (mm_taleFault c).2 118 := ⟨_, rfl⟩
      rw [← hD] at s4
      obtain ⟨Y, hY⟩ : ∃ Y, Y = zup (zup (zset c 118 D) 113 9 ((mm_taleFault c).2 113 9)) 113 10 N := ⟨_, rfl⟩
      have ylo : ∀ k, k ≠ 113 → k ≠ 118 → Y k = c k := fun k k1 k2 => by rw [hY, zup_ne k1, zup_ne k1, zset_ne k2]
      have y118 : Y 118 = D := by rw [hY, zup_ne (by decide), zup_ne (by decide), zset_eq]
      have y10 : Y 113 10 = N := by rw [hY, zup_self]
      have y113 : ∀ z, z ≠ 9 → z ≠ 10 → Y 113 z = μ 113 z := fun z z9 z10 => by rw [hY, zup_slot z10, zup_slot z9, zset_ne (by decide), c113]
      have hm : mm_readTale c = mm_readTale_22 zN (Kp Y) 0 := by
        unfold mm_readTale
        rw [s2, if_pos rfl, s3, ← hD, ← hY]; rfl
      obtain ⟨X, x1, x2, x3, x4, x5⟩ := e_22 zN (Kp Y) 0 (by decide) (by decide) (by omega)
      have k10 : (Kp Y) 113 10 = N := by rw [Kp_ne (by decide), y10]
      have k118 : (Kp Y) 118 = D := by rw [Kp_ne (by decide), y118]
      have k114 : (Kp Y) 114 = μ 114 := by rw [Kp_ne (by decide), ylo 114 (by decide) (by decide), cl2 114 (by omega)]
      rw [k10] at x2
      rw [k118] at x2
      rw [k114] at x3 x4
      have X10 : X 113 10 = N := by rw [x1 113 (by decide), k10]
      rw [X10] at x5
      obtain ⟨Z, hZ⟩ : ∃ Z, Z = zup X 114 3 N := ⟨_, rfl⟩
      rw [← hZ] at x5
      have zlo : ∀ k, k ≠ 114 → Z k = Kp Y k := fun k hk => by rw [hZ, zup_ne hk, x1 k hk]
      have ρ3 : Z 114 3 = N := by rw [hZ, zup_self]
      have ρlo : ∀ z, z ≠ 3 → z < 304 → Z 114 z = μ 114 z := fun z hz h3 => by rw [hZ, zup_slot hz, x3 z (by omega)]
      have ρhi : ∀ z, 584 ≤ z → Z 114 z = μ 114 z := fun z hz => by rw [hZ, zup_slot (by omega), x4 z hz]
      have hNr := P.1
      have ρit : ∀ i k, 0 ≤ i → i < N → 0 ≤ k → k < 14 → Z 114 (304 + 14 * i + k) = D (14 * i + k) := fun i k i0 i1 k0 k1 => by
        rw [hZ, zup_slot (by omega), show 304 + 14 * i + k = 304 + (14 * i + k) by omega, x2 (14 * i + k) (by omega) (by omega), if_pos (by omega)]
      have hfl : ∀ i, 0 ≤ i → i < N → (Z 114 (304 + 14 * i + 0) = 1 ↔ xx_hasHoleAt c (tb c i) = 1) := fun i i0 i1 => by
        rw [ρit i 0 i0 i1 (by decide) (by decide)]
        rcases s4 i i0 i1 with ⟨a, b, -⟩ | ⟨a, b, -⟩ <;> omega
      have TK := t_take Tw (P.cong w1 w2 (by rw [w113])) (ρ := Z 114) (fun i i0 i1 => by rw [c_tb w1 w2, c_holeAt w1 w2]; exact hfl i i0 i1)
      rw [← cE] at TK
      obtain ⟨-, k2, k3, k4, k5⟩ := TK
      have hα : ∀ o, o ≤ 6 ∨ 16 ≤ o → o ≤ 17 → Y (3 + o) = μ (3 + o) := fun o o1 o2 => by rw [ylo _ (by omega) (by omega), cl2 _ (by omega)]
      have yc : ∀ o, o ≤ 17 → Y (3 + o) = c (3 + o) := fun o o2 => ylo _ (by omega) (by omega)
      obtain ⟨P1, P2, P3, P4, P5⟩ := R1.parts
      have N4 : RSt (fun o => Y (3 + o)) (Z 114) := by
        refine ⟨by show Y 10 0 = _; rw [ylo 10 (by decide) (by decide), k2, ρ3], by rw [ρ3]; omega, by show Y 10 1 = _; rw [ylo 10 (by decide) (by decide), k3, ρ3], fun i i0 i1 e => ?_, fun i i0 i1 e => ?_, fun i p i0 i1 e p0 p1 => ?_⟩
        · rw [ρ3] at i1
          obtain ⟨-, -, j3, -⟩ := k5 i i0 i1
          obtain ⟨a1, a2, a3, a4, a5⟩ := j3 e
          have hh := (hfl i i0 i1).mp e
          rw [c_tb w1 w2, c_kindAt w1 w2] at a3
          rw [c_tb w1 w2, c_digitAt w1 w2] at a4
          rw [ρit i 1 i0 i1 (by decide) (by decide), ρit i 2 i0 i1 (by decide) (by decide), ρit i 3 i0 i1 (by decide) (by decide)]
          show Y 11 i = _ ∧ Y 17 (hc _ i) = i ∧ Y 15 (hc _ i) = _ ∧ Y 16 (hc _ i) = _ ∧ HW _ (Y 18 (hc _ i)) _ ∧ _
          rw [ylo 11 (by decide) (by decide), ylo 17 (by decide) (by decide), ylo 15 (by decide) (by decide), ylo 16 (by decide) (by decide), ylo 18 (by decide) (by decide)]
          rcases s4 i i0 i1 with ⟨b1, b2, b3, b4, b5, b6, b7⟩ | ⟨b1, -⟩
          · rw [b3, b4, b5]
            exact ⟨a1, a2, a3, a4, Or.inl ⟨a5, rfl⟩, b6, b7⟩
          · omega
        · rw [ρ3] at i1
          obtain ⟨j1, j2, -, j4⟩ := k5 i i0 i1
          have hh : ¬ xx_hasHoleAt c (tb c i) = 1 := fun q => e ((hfl i i0 i1).mpr q)
          rw [c_tb w1 w2] at j1
          rw [c_tb w1 w2, c_endOfItem w1 w2] at j2
          obtain ⟨t0, tv⟩ := P.2.1 i i0 i1
          obtain ⟨v1, v2, v3⟩ := t_valid Tc t0 tv
          have hl := Tc.2.1
          rw [ρit i 1 i0 i1 (by decide) (by decide)]
          show Y 11 i = _ ∧ Y 13 i = _ ∧ (0 ≤ Y 13 i ∧ Y 13 i ≤ 10) ∧ 0 ≤ Y 12 i ∧ Y 12 i + Y 13 i ≤ 60
          rw [ylo 11 (by decide) (by decide), ylo 13 (by decide) (by decide), ylo 12 (by decide) (by decide), j1, j2]
          rcases s4 i i0 i1 with ⟨b1, -⟩ | ⟨b1, b2, b3, b4⟩
          · omega
          · exact ⟨j4 e, b3.symm, by omega, t0, by omega⟩
        · rw [ρ3] at i1
          obtain ⟨j1, j2, -, j4⟩ := k5 i i0 i1
          rw [c_tb w1 w2] at j1
          rw [c_tb w1 w2, c_endOfItem w1 w2] at j2
          obtain ⟨t0, tv⟩ := P.2.1 i i0 i1
          obtain ⟨v1, v2, v3⟩ := t_valid Tc t0 tv
          have hl := Tc.2.1
          have p1 : p < Y 13 i := p1
          rw [ylo 13 (by decide) (by decide), j2] at p1
          have hh : ¬ xx_hasHoleAt c (tb c i) = 1 := fun q => e ((hfl i i0 i1).mpr q)
          rw [ρit i (4 + p) i0 i1 (by omega) (by omega)]
          show Y 14 (Y 12 i + p) = _
          rw [ylo 14 (by decide) (by decide), ylo 12 (by decide) (by decide), j1, k4 _ (by omega) (by omega), c_signAt w1 w2]
          rcases s4 i i0 i1 with ⟨b1, -⟩ | ⟨b1, b2, b3, b4⟩
          · omega
          · rw [b4 p p0 p1]; omega
      have hN2 : RS (fun o => Y (3 + o)) (Z 114) :=
        RS.of (P1.cong (hα 0 (by omega) (by decide)) (ρlo 0 (by decide) (by decide)) (ρlo 1 (by decide) (by decide)))
          (P2.cong (fun o o1 o2 => hα o (by omega) (by omega)) (ρlo 2 (by decide) (by decide)) (fun z z0 z1 => ρlo z (by omega) (by omega)))
          (P3.cong (hα 6 (by omega) (by decide)) (fun z z0 z1 => ρlo z (by omega) (by omega)))
          N4
          (P5.cong (hα 16 (by omega) (by decide)) (hα 17 (by omega) (by decide)) (fun z z0 z1 => ρhi z (by omega)))
      have RZ : Rn Z := hN2.cong (fun o ho => by rw [zlo _ (by omega), Kp_ne (by omega)]) (fun z _ _ => rfl)
      have hA := q_holesA RZ
      rw [zlo 10 (by decide), Kp_ne (by decide), ylo 10 (by decide) (by decide)] at hA
      rw [hA] at x5
      obtain ⟨p', q'⟩ := r_core R (c := Y) (X := Z) (c 10 1) (fun k k1 k2 => by rw [ylo k (by omega) (by omega), clo k (by omega)]) (fun k k1 k2 k3 => by rw [ylo k k3 k2, cl2 k (by omega)]) y113 zlo hN2
      rw [hx]; dsimp only; rw [hm, x5]
      exact ⟨p'.symm, q'⟩
    · rw [c_tale c1 c2] at s1; omega
  · have hx : xx_readTale μ = (-100 - xx_faultAsTale μ, μ) := by unfold xx_readTale; rw [if_neg hf]
    rcases t_tale T with ⟨s1, -⟩ | ⟨s1, s2⟩
    · exact absurd s1 hf
    · have hm : mm_readTale μ = (-100 - xx_faultAsTale μ, zup (zup (zset μ 118 ((mm_taleFault μ).2 118)) 113 9 ((mm_taleFault μ).2 113 9)) 113 10 ((mm_taleFault μ).2 113 10)) := by
        unfold mm_readTale
        rw [s2, if_neg (by omega)]
      have hf2 := (b_fault R 1).2
      rw [hx]; dsimp only; rw [hm]
      refine ⟨rfl, ?_⟩
      unfold mm_fault at hf2
      rw [if_neg n10] at hf2
      exact hf2
end EQ
