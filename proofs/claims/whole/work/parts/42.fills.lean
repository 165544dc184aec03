/-! fillAll -/
/-- the class's memory beside the reference's, the class's account of fillings set to the reference's -/
def mixF (C M : zM) : zM := fun k => if k = 3 then (zup C 3 5 (M 114 1)) 3 else if k < 113 then C k else M k
section EQ
variable {μ ν C M : zM}
theorem mixF_3 {z : Int} (h : z ≠ 5) : mixF C M 3 z = C 3 z := by unfold mixF; rw [if_pos rfl, zup_slot h]
theorem mixF_35 : mixF C M 3 5 = M 114 1 := by unfold mixF; rw [if_pos rfl, zup_self]
theorem mixF_lo {k : Nat} (h : k ≠ 3) (h2 : k < 113) : mixF C M k = C k := by unfold mixF; rw [if_neg h, if_pos h2]
theorem mixF_hi {k : Nat} (h2 : 113 ≤ k) : mixF C M k = M k := by unfold mixF; rw [if_neg (by omega), if_neg (by omega)]
theorem q_hw (R : Rn μ) {i : Int} (h0 : 0 ≤ i) (hi : i < μ 114 3) (e : μ 114 (304 + 14 * i + 0) = 1) : (xx_isEmptyHole μ (hc (μ 114) i) = 0 ∧ ¬ mm_ofItem μ i 3 = -5) ∨ (xx_isEmptyHole μ (hc (μ 114) i) = 1 ∧ mm_ofItem μ i 3 = -5) := by
  rw [q_hempty R h0 hi e]
  by_cases h : mm_ofItem μ i 3 = -5
  · rw [if_pos h]; exact Or.inr ⟨rfl, h⟩
  · rw [if_neg h]; exact Or.inl ⟨rfl, h⟩
theorem g_mono : ∀ (f : Nat) (C : zM) (n h : Int), 0 ≤ C 10 1 → C 10 1 - h < (f : Int) → h ≤ C 10 1 → n ≤ (xx_fillEmptyHoles_4 f C n h).1 := by
  intro f
  induction f with
  | zero => intro C n h hc hf h1; omega
  | succ f ih =>
    intro C n h hc hf h1
    have pk : ∀ w, (xx_putIn C h w) 10 = C 10 := fun w => by
      unfold xx_putIn
      split
      · rfl
      · rw [zup_ne (by decide), zup_ne (by decide)]
    rw [xx_fillEmptyHoles_4]
    by_cases h2 : h < C 10 1
    · rw [if_pos h2, if_pos rfl]
      have st := ih C n (h + 1) hc (by omega) (by omega)
      by_cases h3 : xx_isEmptyHole C h = 0
      · rw [if_pos h3]; exact st
      · rw [if_neg h3]
        by_cases h4 : xx_lowestFitting C h = -1
        · rw [if_pos h4]; exact st
        · rw [if_neg h4]
          have := ih (xx_putIn C h (xx_lowestFitting C h)) (n + 1) (h + 1) (by rw [pk]; exact hc) (by rw [pk]; omega) (by rw [pk]; omega)
          omega
    · rw [if_neg h2]; exact Int.le_refl _
theorem g_some : ∀ (f : Nat) (C : zM) (n h : Int), 0 ≤ C 10 1 → C 10 1 - h < (f : Int) → h ≤ C 10 1 → ¬ xx_someHoleCanBeFilled_2 f C h = 0 → n < (xx_fillEmptyHoles_4 f C n h).1 := by
  intro f
  induction f with
  | zero => intro C n h hc hf h1; omega
  | succ f ih =>
    intro C n h hc hf h1 hs
    have pk : ∀ w, (xx_putIn C h w) 10 = C 10 := fun w => by
      unfold xx_putIn
      split
      · rfl
      · rw [zup_ne (by decide), zup_ne (by decide)]
    rw [xx_someHoleCanBeFilled_2] at hs
    rw [xx_fillEmptyHoles_4]
    by_cases h2 : h < C 10 1
    · rw [if_pos h2] at hs
      rw [if_pos h2, if_pos rfl]
      by_cases h3 : xx_isEmptyHole C h = 0
      · rw [if_pos h3] at hs
        rw [if_pos h3]
        exact ih C n (h + 1) hc (by omega) (by omega) hs
      · rw [if_neg h3] at hs
        rw [if_neg h3]
        by_cases h4 : xx_lowestFitting C h = -1
        · rw [if_pos h4] at hs
          rw [if_pos h4]
          exact ih C n (h + 1) hc (by omega) (by omega) hs
        · rw [if_neg h4]
          have := g_mono f (xx_putIn C h (xx_lowestFitting C h)) (n + 1) (h + 1) (by rw [pk]; exact hc) (by rw [pk]; omega) (by rw [pk]; omega)
          omega
    · rw [if_neg h2] at hs; exact absurd rfl hs
/-- where no hole can be filled, the reference fills none -/
theorem g_none (R : Rn μ) (hM : M 114 = μ 114) : ∀ (g f : Nat) (i : Int), 0 ≤ i → i ≤ μ 114 3 → μ 114 3 - i < (f : Int) → μ 114 3 - i < (g : Int) → xx_someHoleCanBeFilled_2 f μ (hc (μ 114) i) = 0 → mm_fillAll_8 g M 0 i = (-5, zup M 114 1 (μ 114 1 + 0)) := by
  intro g
  induction g with
  | zero => intro f i h0 h1 hf hg; omega
  | succ g ih =>
    intro f i h0 h1 hf hg hs
    rw [mm_fillAll_8, hM, d_isHoleAt hM, d_ofItem hM, d_lowest hM]
    by_cases hi : i < μ 114 3
    · rw [if_pos hi, if_pos rfl]
      rcases q_iha μ i with ⟨e, e1⟩ | ⟨e, e1⟩
      · obtain ⟨f, rfl⟩ : ∃ k, f = k + 1 := ⟨f - 1, by omega⟩
        obtain ⟨⟨a1, a2, a3, a4⟩, -⟩ := q_h R h0 hi e1
        have st := ih f (i + 1) (by omega) (by omega) (by omega) (by omega)
        rw [a3] at st
        rw [xx_someHoleCanBeFilled_2, if_pos a2] at hs
        rw [e, if_neg n10]
        rcases q_hw R h0 hi e1 with ⟨p, q⟩ | ⟨p, q⟩
        · rw [p, if_pos rfl] at hs
          rw [if_neg q]
          exact st hs
        · rw [p, if_neg n10] at hs
          rw [if_pos q]
          rcases q_lowest R h0 hi e1 with ⟨u, v⟩ | ⟨u, v, w⟩
          · rw [if_pos u] at hs
            rw [if_pos v]
            exact st hs
          · rw [if_neg (by omega)] at hs
            exact absurd hs n10
      · have st := ih f (i + 1) (by omega) (by omega) (by omega) (by omega)
        rw [q_p R h0 e1] at st
        rw [e, if_pos rfl]
        exact st hs
    · rw [if_neg hi, if_pos rfl]
/-- hole by hole, item by item -/
theorem g_fill : ∀ (g f : Nat) (C M : zM) (n i : Int), 0 ≤ i → i ≤ M 114 3 → M 114 3 - i < (f : Int) → M 114 3 - i < (g : Int) → Rn (mixF C M) → C 3 5 = M 114 1 + n →
    ∃ M' : zM, (∀ k, k ≠ 114 → M' k = M k) ∧ (mm_fillAll_8 g M n i = if (xx_fillEmptyHoles_4 f C n (hc (M 114) i)).1 = 0 then (-5, zup M' 114 1 (M' 114 1 + (xx_fillEmptyHoles_4 f C n (hc (M 114) i)).1)) else ((mm_ends (zup M' 114 1 (M' 114 1 + (xx_fillEmptyHoles_4 f C n (hc (M 114) i)).1)) (xx_fillEmptyHoles_4 f C n (hc (M 114) i)).1).1, (mm_ends (zup M' 114 1 (M' 114 1 + (xx_fillEmptyHoles_4 f C n (hc (M 114) i)).1)) (xx_fillEmptyHoles_4 f C n (hc (M 114) i)).1).2)) ∧ Rn (mixF (xx_fillEmptyHoles_4 f C n (hc (M 114) i)).2 M') ∧ (xx_fillEmptyHoles_4 f C n (hc (M 114) i)).2 3 5 = M' 114 1 + (xx_fillEmptyHoles_4 f C n (hc (M 114) i)).1 ∧ (∀ k, k ≠ 3 → k ≠ 18 → (xx_fillEmptyHoles_4 f C n (hc (M 114) i)).2 k = C k) := by
  intro g
  induction g with
  | zero => intro f C M n i h0 h1 hf hg; omega
  | succ g ih =>
    intro f C M n i h0 h1 hf hg R hn
    have m114 : (mixF C M) 114 = M 114 := mixF_hi (by omega)
    have fl : ∀ k, 4 ≤ k → k ≤ 20 → (mixF C M) k = C k := fun k k1 k2 => mixF_lo (by omega) (by omega)
    have f34 : (mixF C M) 3 4 = C 3 4 := mixF_3 (by decide)
    have r114 := m114
    rw [mm_fillAll_8]
    by_cases hi : i < M 114 3
    · have hi' : i < (mixF C M) 114 3 := by rw [m114]; exact hi
      rw [if_pos hi, if_pos rfl, ← d_isHoleAt m114, ← d_ofItem m114, ← d_lowest m114]
      rcases q_iha (mixF C M) i with ⟨e, e1⟩ | ⟨e, e1⟩
      · obtain ⟨f, rfl⟩ : ∃ k, f = k + 1 := ⟨f - 1, by omega⟩
        obtain ⟨⟨a1, a2, a3, a4⟩, ah⟩ := q_h R h0 hi' e1
        have hW := q_hw R h0 hi' e1
        have hL := q_lowest R h0 hi' e1
        rw [m114] at a1 a2 a3 a4 ah hW hL e1
        rw [mixF_lo (by decide) (by decide)] at a2
        rw [f_isEmptyHole fl] at hW
        rw [f_lowest fl f34] at hL
        rw [f_hasHole fl] at ah
        rw [e, if_neg n10, xx_fillEmptyHoles_4, if_pos a2, if_pos rfl]
        have st := fun C M n (hM : M 114 3 - (i + 1) < (f : Int)) => ih f C M n (i + 1) (by omega)
        rcases hW with ⟨p, q⟩ | ⟨p, q⟩
        · rw [p, if_pos rfl, if_neg q]
          have := ih f C M n (i + 1) (by omega) (by omega) (by omega) (by omega) R hn
          rw [a3] at this
          exact this
        · rw [p, if_neg n10, if_pos q]
          rcases hL with ⟨u, v⟩ | ⟨u, v, w⟩
          · rw [if_pos u, if_pos v]
            have := ih f C M n (i + 1) (by omega) (by omega) (by omega) (by omega) R hn
            rw [a3] at this
            exact this
          · rw [if_neg (show ¬ xx_lowestFitting C (hc (M 114) i) = -1 by omega), w, if_neg (show ¬ xx_lowestFitting C (hc (M 114) i) = -5 by omega)]
            obtain ⟨W, hWd⟩ : ∃ W, W = xx_lowestFitting C (hc (M 114) i) := ⟨_, rfl⟩
            rw [← hWd] at u v ⊢
            have hpi : xx_putIn C (hc (M 114) i) W = zup (zup C 18 (hc (M 114) i) W) 3 5 (C 3 5 + 1) := by
              unfold xx_putIn
              rw [ah, if_neg n10]
            rw [hpi]
            obtain ⟨C1, hC1⟩ : ∃ C1, C1 = zup (zup C 18 (hc (M 114) i) W) 3 5 (C 3 5 + 1) := ⟨_, rfl⟩
            obtain ⟨M1, hM1⟩ : ∃ M1, M1 = zset M 114 ((mm_lays M i W) 114) := ⟨_, rfl⟩
            rw [← hC1, ← hM1]
            have hir := R.ir
            rw [m114] at hir
            have ρ1 : ∀ z, M1 114 z = if z = 304 + 14 * i + 3 then W else M 114 z := fun z => by rw [hM1, zset_eq, lays_at]
            have m1 : ∀ k, k ≠ 114 → M1 k = M k := fun k hk => by rw [hM1, zset_ne hk]
            have c1 : ∀ k, k ≠ 3 → k ≠ 18 → C1 k = C k := fun k k3 k18 => by rw [hC1, zup_ne k3, zup_ne k18]
            have hcE : ∀ j, j ≤ 20 → hc (M1 114) j = hc (M 114) j := fun j hj => hc_flag fun k k0 k1 => by rw [ρ1, if_neg (by omega)]
            have R' : Rn (mixF C1 M1) := by
              obtain ⟨P1, P2, P3, P4, P5⟩ := R.parts
              have hα : ∀ o, o ≠ 0 → o ≠ 15 → o ≤ 17 → (mixF C1 M1) (3 + o) = (mixF C M) (3 + o) := fun o o0 o15 o17 => by
                rw [mixF_lo (by omega) (by omega), mixF_lo (by omega) (by omega), c1 _ (by omega) (by omega)]
              have hρ : ∀ z, (mixF C1 M1) 114 z = if z = 304 + 14 * i + 3 then W else (mixF C M) 114 z := fun z => by
                rw [mixF_hi (by omega), m114, ρ1]
              refine RS.of ⟨?_, ?_⟩ (P2.cong (fun o o1 o2 => hα o (by omega) (by omega) (by omega)) (by rw [hρ, if_neg (by omega)]) (fun z _ _ => by rw [hρ, if_neg (by omega)]))
                (P3.cong (hα 6 (by decide) (by decide) (by decide)) (fun z _ _ => by rw [hρ, if_neg (by omega)]))
                (P4.lay (x := W) (y := W) h0 hi' (by rw [m114]; exact e1) (fun o o1 o2 => hα o (by omega) (by omega) (by omega)) (fun z => ?_) (by rw [hρ, if_neg (by omega)]) (by rw [hρ, if_neg (by omega)]) (fun z _ _ => hρ z) (Or.inr ⟨u, by rw [m114]; exact v, rfl⟩))
                (P5.cong (hα 16 (by decide) (by decide) (by decide)) (hα 17 (by decide) (by decide) (by decide)) (fun z _ _ => by rw [hρ, if_neg (by omega)]))
              · show (mixF C1 M1) 3 4 = (mixF C1 M1) 114 0
                rw [hρ, if_neg (by omega), mixF_3 (by decide), hC1, zup_slot (by decide), zup_ne (by decide), ← f34]
                exact R.once
              · show (mixF C1 M1) 3 5 = _
                rw [mixF_35, mixF_hi (by omega)]
              · show (mixF C1 M1) 18 z = if z = hc ((mixF C M) 114) i then W else (mixF C M) 18 z
                rw [mixF_lo (k := 18) (by decide) (by decide), mixF_lo (k := 18) (by decide) (by decide), m114, hC1, zup_ne (by decide), zup_at]
            have h3 : M1 114 3 = M 114 3 := by rw [ρ1, if_neg (by omega)]
            have this := ih f C1 M1 (n + 1) (i + 1) (by omega) (by rw [h3]; omega) (by rw [h3]; omega) (by rw [h3]; omega) R' (by rw [ρ1, if_neg (by omega), hC1, zup_self, hn]; omega)
            rw [hcE (i + 1) (by omega), a3] at this
            obtain ⟨M', q1, q2, q3, q4, q5⟩ := this
            exact ⟨M', fun k hk => (q1 k hk).trans (m1 k hk), q2, q3, q4, fun k k3 k18 => (q5 k k3 k18).trans (c1 k k3 k18)⟩
      · rw [e, if_pos rfl]
        have := ih f C M n (i + 1) (by omega) (by omega) (by omega) (by omega) R hn
        rw [m114] at e1
        have e2 : hc (M 114) (i + 1) = hc (M 114) i := by
          have h1 := hc_succ (ρ := M 114) h0
          rw [if_neg e1] at h1
          omega
        rw [e2] at this
        exact this
    · obtain ⟨f, rfl⟩ : ∃ k, f = k + 1 := ⟨f - 1, by omega⟩
      have hH := R.h
      rw [m114, mixF_lo (by decide) (by decide)] at hH
      rw [if_neg hi, show i = M 114 3 by omega, xx_fillEmptyHoles_4, if_neg (show ¬ hc (M 114) (M 114 3) < C 10 1 by omega)]
      exact ⟨M, fun k hk => rfl, rfl, R, hn, fun k _ _ => rfl⟩
theorem Rz.kept (R : Rz μ) : Rz (Kp μ) := by
  obtain ⟨R1, R2, R3, R4, R5, R6, R7⟩ := R
  have h : ∀ k, k ≠ 115 → (Kp μ) k = μ k := fun k hk => Kp_ne hk
  refine ⟨R1.cong (fun o ho => h _ (by omega)) (fun z _ _ => by rw [h 114 (by decide)]), ?_, zperm_cong R3 (h 40 (by decide)), ?_, ?_, ?_, ?_⟩
  · unfold Rt
    rw [h 1 (by decide), h 2 (by decide), h 113 (by decide), h 119 (by decide)]; exact R2
  · unfold RK
    rw [h 0 (by decide), h 113 (by decide)]
    rcases R4 with q | ⟨q1, q2, q3⟩
    · exact Or.inl q
    · exact Or.inr ⟨q1, q2, q3.cong (fun o ho => h _ (by omega)) (fun z _ _ => by rw [h 117 (by decide)])⟩
  · rw [h 39 (by decide), h 113 (by decide)]; exact R5
  · rw [h 113 (by decide)]; exact R6
  · rw [h 113 (by decide)]
    intro j j0 j1
    have hq := (zst_nat (zperm_at R3 j0 (show j < 4 by omega))).1
    refine (R7 j j0 j1).cong (fun o ho => ?_) (fun z _ _ => ?_)
    · show (Kp μ) (((Kp μ) 40 j).toNat + o) = μ ((μ 40 j).toNat + o)
      rw [h 40 (by decide)]
      exact h _ (by omega)
    · show (Kp μ) 116 (604 * j + z) = μ 116 (604 * j + z)
      rw [h 116 (by decide)]
theorem b_fillAll (R : Rz μ) : (xx_fillAll μ).1 = (mm_fillAll (xx_fillAll μ).2).1 ∧ Rz (mm_fillAll (xx_fillAll μ).2).2 := by
  obtain ⟨r1, r2⟩ := R.rec
  have R1 := R.1
  have hN := zN_big
  have hir := R1.ir
  have hH := R1.h
  have hHr := hc_nn (μ 114) (μ 114 3)
  have hHl := hc_le (μ 114) hir.1
  by_cases hs : xx_someHoleCanBeFilled μ = 0
  · have hx : xx_fillAll μ = (-5, μ) := by unfold xx_fillAll; rw [if_pos hs]
    have k114 : (Kp μ) 114 = μ 114 := Kp_ne (by decide)
    have hm : mm_fillAll μ = (-5, zup (Kp μ) 114 1 (μ 114 1 + 0)) := g_none R1 k114 zN zN 0 (by decide) hir.1 (by omega) (by omega) hs
    rw [Int.add_zero, ← congrFun k114 1, zup_id] at hm
    rw [hx]; dsimp only; rw [hm]
    exact ⟨rfl, R.kept⟩
  · obtain ⟨n, hn⟩ : ∃ n, n = (xx_fillEmptyHoles (xx_record μ)).1 := ⟨_, rfl⟩
    obtain ⟨c, hc2⟩ : ∃ c, c = (xx_fillEmptyHoles (xx_record μ)).2 := ⟨_, rfl⟩
    have hx : xx_fillAll μ = (n, c) := by unfold xx_fillAll; rw [if_neg hs, hn, hc2]
    have ws : ∀ k, 4 ≤ k → k ≤ 20 → (xx_record μ) k = μ k := fun k _ _ => r2 k (by omega)
    have w10 : (xx_record μ) 10 = μ 10 := r2 10 (by omega)
    have hpos : 0 < n := by
      rw [hn]
      exact g_some zN (xx_record μ) 0 0 (by rw [w10]; omega) (by rw [w10]; omega) (by rw [w10]; omega) (fun q => hs (by rw [← f_someHole ws (by rw [r2 3 (by omega)])]; exact q))
    have fr : ∀ (f : Nat) (C : zM) (n h : Int) (k : Nat), k ≠ 3 → k ≠ 18 → (xx_fillEmptyHoles_4 f C n h).2 k = C k := by
      intro f
      induction f with
      | zero => intro C n h k k3 k18; rfl
      | succ f ih =>
        intro C n h k k3 k18
        have pk : ∀ w, (xx_putIn C h w) k = C k := fun w => by
          unfold xx_putIn
          split
          · rfl
          · rw [zup_ne k3, zup_ne k18]
        rw [xx_fillEmptyHoles_4]
        by_cases h2 : h < C 10 1
        · rw [if_pos h2, if_pos rfl]
          by_cases h3 : xx_isEmptyHole C h = 0
          · rw [if_pos h3]; exact ih _ _ _ k k3 k18
          · rw [if_neg h3]
            by_cases h4 : xx_lowestFitting C h = -1
            · rw [if_pos h4]; exact ih _ _ _ k k3 k18
            · rw [if_neg h4, ih _ _ _ k k3 k18, pk]
        · rw [if_neg h2]
    have clo : ∀ k, k ≠ 3 → k ≠ 18 → c k = (xx_record μ) k := fun k k3 k18 => by rw [hc2]; exact fr zN _ 0 0 k k3 k18
    have c114 : c 114 = μ 114 := by rw [clo 114 (by decide) (by decide), r2 114 (by omega)]
    have k114 : (Kp c) 114 = μ 114 := (Kp_ne (by decide)).trans c114
    have RM : Rn (mixF (xx_record μ) (Kp c)) := by
      refine R1.cong (fun o ho => ?_) (fun z _ _ => by rw [mixF_hi (by omega), k114])
      by_cases h0 : o = 0
      · subst h0
        funext z
        show (mixF (xx_record μ) (Kp c)) 3 z = μ 3 z
        by_cases hz : z = 5
        · rw [hz, mixF_35, k114]; exact R1.fil.symm
        · rw [mixF_3 hz, r2 3 (by omega)]
      · show (mixF (xx_record μ) (Kp c)) (3 + o) = μ (3 + o)
        rw [mixF_lo (by omega) (by omega), r2 _ (by omega)]
    obtain ⟨M', q1, q2, q3, q4, q5⟩ := g_fill zN zN (xx_record μ) (Kp c) 0 0 (by decide) (by rw [k114]; exact hir.1) (by rw [k114]; omega) (by rw [k114]; omega) RM (by rw [k114, r2 3 (by omega), Int.add_zero]; exact R1.fil)
    have hE : xx_fillEmptyHoles_4 zN (xx_record μ) 0 (hc ((Kp c) 114) 0) = (n, c) := by
      rw [hn, hc2]; rfl
    rw [hE] at q2 q3 q4 q5
    have hm : mm_fillAll c = ((mm_ends (zup M' 114 1 (M' 114 1 + n)) n).1, (mm_ends (zup M' 114 1 (M' 114 1 + n)) n).2) := by
      have : mm_fillAll c = mm_fillAll_8 zN (Kp c) 0 0 := rfl
      rw [this, q2, if_neg (show ¬ n = 0 by omega)]
    have q4 : c 3 5 = M' 114 1 + n := q4
    have q3 : Rn (mixF c M') := q3
    have hN2 : RS (fun o => c (3 + o)) ((zup M' 114 1 (M' 114 1 + n)) 114) := by
      have m114 : (mixF c M') 114 = M' 114 := mixF_hi (by omega)
      have hρ : ∀ z, z ≠ 1 → (zup M' 114 1 (M' 114 1 + n)) 114 z = (mixF c M') 114 z := fun z hz => by rw [zup_slot hz, m114]
      have hα : ∀ o, o ≠ 0 → o ≤ 17 → c (3 + o) = (mixF c M') (3 + o) := fun o o0 o17 => by rw [mixF_lo (by omega) (by omega)]
      obtain ⟨P1, P2, P3, P4, P5⟩ := q3.parts
      exact RS.of ⟨by show c 3 4 = _; rw [hρ 0 (by decide), ← mixF_3 (C := c) (M := M') (show (4 : Int) ≠ 5 by decide)]; exact q3.once, by show c 3 5 = _; rw [q4, zup_self]⟩
        (P2.cong (fun o o1 o2 => hα o (by omega) (by omega)) (hρ 2 (by decide)) (fun z z0 z1 => hρ z (by omega)))
        (P3.cong (hα 6 (by decide) (by decide)) (fun z z0 z1 => hρ z (by omega)))
        (P4.cong (fun o o1 o2 => hα o (by omega) (by omega)) (by rw [hρ 2 (by decide)]; exact Int.le_refl _) (hρ 3 (by decide)) (fun z z0 z1 => hρ z (by omega)))
        (P5.cong (hα 16 (by decide) (by decide)) (hα 17 (by decide) (by decide)) (fun z z0 z1 => hρ z (by omega)))
    obtain ⟨p', q'⟩ := r_core R (c := c) (X := zup M' 114 1 (M' 114 1 + n)) n (fun k k1 k2 => clo k (by omega) (by omega)) (fun k k1 _ _ => by rw [clo k (by omega) (by omega), r2 k (by omega)]) (fun z _ _ => by rw [clo 113 (by decide) (by decide), r2 113 (by omega)]) (fun k hk => by rw [zup_ne hk, q1 k hk]) hN2
    rw [hx]; dsimp only; rw [hm]
    exact ⟨p'.symm, q'⟩
end EQ
