/-! more acts -/
section EQ
variable {μ ν c : zM}
theorem b_empty (R : Rz μ) (h : Int) : (xx_empty μ h).1 = (mm_empty (xx_empty μ h).2 h).1 ∧ Rz (mm_empty (xx_empty μ h).2 h).2 := by
  obtain ⟨r1, r2⟩ := R.rec
  have R1 := R.1
  rcases q_hh R1 h with ⟨p, q⟩ | ⟨p, q, i, a0, a1, a2, a3, a4⟩
  · have hx : xx_empty μ h = (-1, μ) := by unfold xx_empty; rw [p, if_pos rfl]
    have hm : mm_empty μ h = (-1, μ) := by unfold mm_empty; rw [q, if_pos rfl]
    rw [hx]; dsimp only; rw [hm]; exact ⟨rfl, R⟩
  · have hW := q_hword R1 a0 a1 a2
    rw [a3] at hW
    by_cases hw : xx_wordIn μ h = -1
    · have h5 : mm_ofItem μ i 3 = -5 := by rcases hW with ⟨x, y⟩ | ⟨x, y, z⟩ <;> omega
      have hx : xx_empty μ h = (-5, μ) := by unfold xx_empty; rw [p, if_neg n10, if_pos hw]
      have hm : mm_empty μ h = (-5, μ) := by unfold mm_empty; rw [q, if_neg n10, a4, if_pos h5]
      rw [hx]; dsimp only; rw [hm]; exact ⟨rfl, R⟩
    · have h5 : ¬ mm_ofItem μ i 3 = -5 := by rcases hW with ⟨x, y⟩ | ⟨x, y, z⟩ <;> omega
      have h6 : mm_ofItem μ i 3 = xx_wordIn μ h := by rcases hW with ⟨x, y⟩ | ⟨x, y, z⟩ <;> omega
      have hx : xx_empty μ h = (xx_wordIn μ h, zup (xx_record μ) 18 h (-1)) := by unfold xx_empty; rw [p, if_neg n10, if_neg hw]
      rw [hx]; dsimp only
      obtain ⟨c, cE⟩ : ∃ c, c = zup (xx_record μ) 18 h (-1) := ⟨_, rfl⟩
      rw [← cE]
      have c114 : c 114 = μ 114 := by rw [cE, zup_ne (by decide), r2 114 (by omega)]
      obtain ⟨X, hX⟩ : ∃ X, X = zset (Kp c) 114 ((mm_lays (Kp c) i (-5)) 114) := ⟨_, rfl⟩
      have hm : mm_empty c h = ((mm_ends X (xx_wordIn μ h)).1, (mm_ends X (xx_wordIn μ h)).2) := by
        unfold mm_empty; rw [d_isHole c114, d_itemOf c114, d_ofItem c114, q, if_neg n10, a4, if_neg h5, h6, hX]; rfl
      have hρ : ∀ z, X 114 z = if z = 304 + 14 * i + 3 then -5 else μ 114 z := fun z => by rw [hX, zset_eq, lays_at, Kp_ne (by decide), c114]
      have hα : ∀ o, o ≠ 15 → o ≤ 17 → c (3 + o) = μ (3 + o) := fun o o1 o2 => by rw [cE, zup_ne (by omega), r2 _ (by omega)]
      have hir := R1.ir
      obtain ⟨P1, P2, P3, P4, P5⟩ := R1.parts
      obtain ⟨p', q'⟩ := r_core R (c := c) (X := X) (xx_wordIn μ h) (fun k k1 k2 => by rw [cE, zup_ne (by omega)]) (fun k k1 _ _ => by rw [cE, zup_ne (by omega), r2 k (by omega)]) (fun z _ _ => by rw [cE, zup_ne (by decide), r2 113 (by omega)]) (fun k hk => by rw [hX, zset_ne hk])
        (RS.of (P1.cong (hα 0 (by decide) (by decide)) (by rw [hρ, if_neg (by omega)]) (by rw [hρ, if_neg (by omega)]))
          (P2.cong (fun o o1 o2 => hα o (by omega) (by omega)) (by rw [hρ, if_neg (by omega)]) (fun z _ _ => by rw [hρ, if_neg (by omega)]))
          (P3.cong (hα 6 (by decide) (by decide)) (fun z _ _ => by rw [hρ, if_neg (by omega)]))
          (P4.lay (x := -1) (y := -5) a0 a1 a2 (fun o o1 o2 => hα o (by omega) (by omega)) (fun z => by show c 18 z = if z = hc (μ 114) i then -1 else μ 18 z; rw [cE, zup_at, r2 18 (by omega), a3]) (by rw [hρ, if_neg (by omega)]) (by rw [hρ, if_neg (by omega)]) (fun z _ _ => hρ z) (Or.inl ⟨rfl, rfl⟩))
          (P5.cong (hα 16 (by decide) (by decide)) (hα 17 (by decide) (by decide)) (fun z _ _ => by rw [hρ, if_neg (by omega)])))
      rw [hm]
      exact ⟨p'.symm, q'⟩
theorem b_fill (R : Rz μ) (h w : Int) : (xx_fill μ h w).1 = (mm_fill (xx_fill μ h w).2 h w).1 ∧ Rz (mm_fill (xx_fill μ h w).2 h w).2 := by
  obtain ⟨r1, r2⟩ := R.rec
  have R1 := R.1
  rcases q_hh R1 h with ⟨p, q⟩ | ⟨p, q, i, a0, a1, a2, a3, a4⟩
  · have hx : xx_fill μ h w = (-1, μ) := by unfold xx_fill; rw [p, if_pos rfl]
    have hm : mm_fill μ h w = (-1, μ) := by unfold mm_fill; rw [q, if_pos rfl]
    rw [hx]; dsimp only; rw [hm]; exact ⟨rfl, R⟩
  · rcases q_kk R1 w with ⟨s, t⟩ | ⟨s, t, w0, w1⟩
    · have hx : xx_fill μ h w = (-1, μ) := by unfold xx_fill; rw [p, if_neg n10, s, if_pos rfl]
      have hm : mm_fill μ h w = (-1, μ) := by unfold mm_fill; rw [q, if_neg n10, t, if_pos rfl]
      rw [hx]; dsimp only; rw [hm]; exact ⟨rfl, R⟩
    · have hy := q_why R1 a0 a1 a2 w0 w1
      rw [a3] at hy
      by_cases hz : xx_reasonAgainst μ h w = 0
      · have hW := q_hword R1 a0 a1 a2
        rw [a3] at hW
        obtain ⟨v, hv⟩ : ∃ v, v = (if xx_wordIn μ h = -1 then 100 else xx_wordIn μ h) := ⟨_, rfl⟩
        obtain ⟨c, cE⟩ : ∃ c, c = zup (zup (xx_record μ) 18 h w) 3 5 ((xx_record μ) 3 5 + 1) := ⟨_, rfl⟩
        have hx : xx_fill μ h w = (v, c) := by
          unfold xx_fill xx_putIn
          rw [p, if_neg n10, s, if_neg n10, if_pos hz, f_hasHole (fun k _ _ => r2 k (by omega)), p, if_neg n10, hv, cE]
          by_cases hw : xx_wordIn μ h = -1
          · rw [if_pos hw, if_pos hw]
          · rw [if_neg hw, if_neg hw]
        rw [hx]; dsimp only
        have c114 : c 114 = μ 114 := by rw [cE, zup_ne (by decide), zup_ne (by decide), r2 114 (by omega)]
        obtain ⟨X, hX⟩ : ∃ X, X = zup (zset (Kp c) 114 ((mm_lays (Kp c) i w) 114)) 114 1 ((zset (Kp c) 114 ((mm_lays (Kp c) i w) 114)) 114 1 + 1) := ⟨_, rfl⟩
        have k114 : (Kp c) 114 = μ 114 := (Kp_ne (by decide)).trans c114
        have hm : mm_fill c h w = ((mm_ends X v).1, (mm_ends X v).2) := by
          unfold mm_fill
          rw [d_isHole c114, d_isWord c114, d_itemOf c114, d_why c114, q, if_neg n10, t, if_neg n10, a4, ← hy, if_pos hz, show zset c 115 ((mm_keeps c) 115) = Kp c from rfl, d_ofItem k114, hv, hX]
          rcases hW with ⟨x, y⟩ | ⟨x, y, z⟩
          · rw [if_pos y, if_pos x]
          · rw [if_neg (show ¬ mm_ofItem μ i 3 = -5 by omega), if_neg (show ¬ xx_wordIn μ h = -1 by omega), z]
        have hM : ∀ z, (zset (Kp c) 114 ((mm_lays (Kp c) i w) 114)) 114 z = if z = 304 + 14 * i + 3 then w else μ 114 z := fun z => by rw [zset_eq, lays_at, k114]
        have hρ : ∀ z, X 114 z = if z = 1 then μ 114 1 + 1 else if z = 304 + 14 * i + 3 then w else μ 114 z := fun z => by rw [hX, zup_at, hM, hM, if_neg (show ¬ (1 : Int) = 304 + 14 * i + 3 by omega)]
        have hα : ∀ o, o ≠ 15 → o ≠ 0 → o ≤ 17 → c (3 + o) = μ (3 + o) := fun o o1 o0 o2 => by rw [cE, zup_ne (by omega), zup_ne (by omega), r2 _ (by omega)]
        have hir := R1.ir
        obtain ⟨P1, P2, P3, P4, P5⟩ := R1.parts
        obtain ⟨p', q'⟩ := r_core R (c := c) (X := X) v (fun k k1 k2 => by rw [cE, zup_ne (by omega), zup_ne (by omega)]) (fun k k1 _ _ => by rw [cE, zup_ne (by omega), zup_ne (by omega), r2 k (by omega)]) (fun z _ _ => by rw [cE, zup_ne (by decide), zup_ne (by decide), r2 113 (by omega)]) (fun k hk => by rw [hX, zup_ne hk, zset_ne hk])
          (RS.of ⟨by show c 3 4 = _; rw [hρ, if_neg (by omega), if_neg (by omega), cE, zup_slot (by decide), zup_ne (by decide), r2 3 (by omega)]; exact R1.once, by show c 3 5 = _; rw [hρ, if_pos rfl, cE, zup_self, r2 3 (by omega)]; exact congrArg (· + 1) R1.fil⟩
            (P2.cong (fun o o1 o2 => hα o (by omega) (by omega) (by omega)) (by rw [hρ, if_neg (by omega), if_neg (by omega)]) (fun z _ _ => by rw [hρ, if_neg (by omega), if_neg (by omega)]))
            (P3.cong (hα 6 (by decide) (by decide) (by decide)) (fun z _ _ => by rw [hρ, if_neg (by omega), if_neg (by omega)]))
            (P4.lay (x := w) (y := w) a0 a1 a2 (fun o o1 o2 => hα o (by omega) (by omega) (by omega)) (fun z => by show c 18 z = if z = hc (μ 114) i then w else μ 18 z; rw [cE, zup_ne (by decide), zup_at, r2 18 (by omega), a3]) (by rw [hρ, if_neg (by omega), if_neg (by omega)]) (by rw [hρ, if_neg (by omega), if_neg (by omega)]) (fun z _ _ => by rw [hρ, if_neg (by omega)]) (Or.inr ⟨w0, w1, rfl⟩))
            (P5.cong (hα 16 (by decide) (by decide) (by decide)) (hα 17 (by decide) (by decide) (by decide)) (fun z _ _ => by rw [hρ, if_neg (by omega), if_neg (by omega)])))
        rw [hm]
        exact ⟨p'.symm, q'⟩
      · have hx : xx_fill μ h w = (-10 - xx_reasonAgainst μ h w, μ) := by unfold xx_fill; rw [p, if_neg n10, s, if_neg n10, if_neg hz]
        have hm : mm_fill μ h w = (-10 - xx_reasonAgainst μ h w, μ) := by unfold mm_fill; rw [q, if_neg n10, t, if_neg n10, a4, ← hy, if_neg hz]
        rw [hx]; dsimp only; rw [hm]; exact ⟨rfl, R⟩
theorem b_type (R : Rz μ) (a : Int) : (xx_type μ a).1 = (mm_type (xx_type μ a).2 a).1 ∧ Rz (mm_type (xx_type μ a).2 a).2 := by
  obtain ⟨T1, T2, T3⟩ := R.2.1
  by_cases h : μ 113 8 = 60
  · have hx : xx_type μ a = (-3, μ) := by unfold xx_type; rw [T1, if_neg (by omega)]
    have hm : mm_type μ a = (-3, μ) := by unfold mm_type; rw [if_pos h]
    rw [hx]; dsimp only; rw [hm]; exact ⟨rfl, R⟩
  · obtain ⟨c, hc⟩ : ∃ c, c = zup (zup μ 2 (μ 113 8) a) 1 1 (μ 113 8 + 1) := ⟨_, rfl⟩
    have hx : xx_type μ a = (μ 113 8 + 1, c) := by
      unfold xx_type xx_append
      rw [T1, if_pos (by omega), if_pos (by omega), zup_self, hc]
    have e113 : c 113 = μ 113 := by rw [hc, zup_ne (by decide), zup_ne (by decide)]
    have hm : mm_type c a = (μ 113 8 + 1, zup (zup c 119 (μ 113 8) a) 113 8 (μ 113 8 + 1)) := by
      unfold mm_type
      rw [e113, if_neg h]
    rw [hx]; dsimp only; rw [hm]; dsimp only
    refine ⟨rfl, R.text (fun k k1 k2 k3 k4 k5 => ?_) (fun z z8 z9 z10 => ?_) ⟨?_, ?_, fun p p0 p1 => ?_⟩⟩
    · rw [zup_ne k3, zup_ne k5, hc, zup_ne k1, zup_ne k2]
    · rw [zup_slot z8, zup_ne (by decide), e113]
    · rw [zup_self, zup_ne (by decide), zup_ne (by decide), hc, zup_self]
    · rw [zup_self]; omega
    · rw [zup_self] at p1
      rw [zup_ne (by decide), zup_ne (by decide), zup_ne (by decide), zup_at, hc, zup_ne (by decide), zup_at, zup_ne (by decide), zup_ne (by decide)]
      by_cases hp : p = μ 113 8
      · rw [if_pos hp, if_pos hp]
      · rw [if_neg hp, if_neg hp]
        exact T3 p p0 (by omega)
theorem b_clearText (R : Rz μ) : (xx_clearText μ).1 = (mm_clearText (xx_clearText μ).2).1 ∧ Rz (mm_clearText (xx_clearText μ).2).2 := by
  obtain ⟨T1, T2, T3⟩ := R.2.1
  unfold xx_clearText mm_clearText
  dsimp only
  refine ⟨?_, R.text (fun k k1 k2 k3 k4 k5 => ?_) (fun z z8 z9 z10 => ?_) ⟨?_, ?_, fun p p0 p1 => ?_⟩⟩
  · rw [zup_ne (by decide)]; exact T1
  · rw [zup_ne k3, zup_ne k1]
  · rw [zup_slot z8, zup_ne (by decide)]
  · rw [zup_self, zup_ne (by decide), zup_self]
  · rw [zup_self]; decide
  · rw [zup_self] at p1; omega
theorem b_fault (R : Rz μ) (a : Int) : xx_fault μ a = (mm_fault μ a).1 ∧ Rz (mm_fault μ a).2 := by
  have T := R.2.1
  unfold xx_fault mm_fault
  by_cases h : a = 0
  · rw [if_pos h, if_pos h]
    refine ⟨?_, R.text (fun k k1 k2 k3 k4 k5 => zup_ne k3) (fun z z8 z9 z10 => show (zup μ 113 9 ((mm_stemFault μ).2 113 9)) 113 z = _ from zup_slot z9) ⟨?_, ?_, ?_⟩⟩
    · rcases t_stem T with ⟨p, q, -⟩ | ⟨p, q⟩
      · rw [if_pos p]; exact q.symm
      · rw [if_neg (by omega)]; exact q.symm
    · dsimp only
      rw [zup_ne (by decide), zup_slot (by decide)]; exact T.1
    · dsimp only
      rw [zup_slot (by decide)]; exact T.2.1
    · dsimp only
      rw [zup_slot (by decide), zup_ne (by decide), zup_ne (by decide)]; exact T.2.2
  · rw [if_neg h, if_neg h]
    refine ⟨?_, R.text (fun k k1 k2 k3 k4 k5 => ?_) (fun z z8 z9 z10 => ?_) ⟨?_, ?_, ?_⟩⟩
    · rcases t_tale T with ⟨p, q, -⟩ | ⟨p, q⟩
      · rw [if_pos p]; exact q.symm
      · rw [if_neg (by omega)]; exact q.symm
    · dsimp only
      rw [zup_ne k3, zup_ne k3, zset_ne k4]
    · dsimp only
      rw [zup_slot z10, zup_slot z9, zset_ne (by decide)]
    · dsimp only
      rw [zup_ne (by decide), zup_ne (by decide), zset_ne (by decide), zup_slot (by decide), zup_slot (by decide), zset_ne (by decide)]; exact T.1
    · dsimp only
      rw [zup_slot (by decide), zup_slot (by decide), zset_ne (by decide)]; exact T.2.1
    · dsimp only
      rw [zup_slot (by decide), zup_slot (by decide), zset_ne (by decide), zup_ne (by decide), zup_ne (by decide), zset_ne (by decide), zup_ne (by decide), zup_ne (by decide), zset_ne (by decide)]; exact T.2.2
theorem e_undo : ∀ (g : Nat) (ν : zM) (l : Int), 0 ≤ l → l ≤ 604 → 604 - l < (g : Int) → (mm_undo_22 g ν l).1 = ν 113 3 ∧ (∀ k, k ≠ 114 → (mm_undo_22 g ν l).2 k = ν k) ∧ (∀ z, l ≤ z → z < 604 → (mm_undo_22 g ν l).2 114 z = ν 116 (604 * ν 113 3 + z)) ∧ (∀ z, z < l → (mm_undo_22 g ν l).2 114 z = ν 114 z) := by
  intro g
  induction g with
  | zero => intro ν l h0 h1 hg; omega
  | succ g ih =>
    intro ν l h0 h1 hg
    rw [mm_undo_22]
    by_cases h : l < 604
    · rw [if_pos h]
      obtain ⟨a, b, c, d⟩ := ih (zup ν 114 l (ν 116 (604 * ν 113 3 + l))) (l + 1) (by omega) (by omega) (by omega)
      have e1 : (zup ν 114 l (ν 116 (604 * ν 113 3 + l))) 113 = ν 113 := zup_ne (by decide)
      have e2 : (zup ν 114 l (ν 116 (604 * ν 113 3 + l))) 116 = ν 116 := zup_ne (by decide)
      rw [e1] at a c
      rw [e2] at c
      refine ⟨a, fun k hk => (b k hk).trans (zup_ne hk), fun z z0 z1 => ?_, fun z z0 => ?_⟩
      · by_cases hz : z = l
        · rw [d z (by omega), zup_at, if_pos hz, hz]
        · exact c z (by omega) z1
      · rw [d z (by omega), zup_at, if_neg (by omega)]
    · rw [if_neg h]
      exact ⟨rfl, fun k hk => rfl, fun z z0 z1 => by omega, fun z z0 => rfl⟩
theorem b_undo (R : Rz μ) : (xx_undo μ).1 = (mm_undo (xx_undo μ).2).1 ∧ Rz (mm_undo (xx_undo μ).2).2 := by
  obtain ⟨R1, R2, R3, R4, R5, R6, R7⟩ := id R
  by_cases h : μ 113 3 = 0
  · have hx : xx_undo μ = (-5, μ) := by unfold xx_undo; rw [R5, if_pos h]
    have hm : mm_undo μ = (-5, μ) := by unfold mm_undo; rw [if_pos h]
    rw [hx]; dsimp only; rw [hm]; exact ⟨rfl, R⟩
  · have hN := zN_big
    have hp := zst_nat (zperm_at R3 (show 0 ≤ μ 113 3 - 1 by omega) (show μ 113 3 - 1 < 4 by omega))
    obtain ⟨c, hc⟩ : ∃ c, c = zup (zcs μ 3 ((μ 40 (μ 113 3 - 1)).toNat)) 39 1 (μ 113 3 - 1) := ⟨_, rfl⟩
    have hx : xx_undo μ = (μ 113 3 - 1, c) := by
      unfold xx_undo xx_bringBack
      rw [R5, if_neg h, zup_self, zcs_ne (by omega), R5, hc]
    have lo : ∀ k, k < 3 ∨ 20 < k → k ≠ 39 → c k = μ k := fun k k1 k2 => by rw [hc, zup_ne k2, zcs_ne (by omega)]
    obtain ⟨a, b, c1, d⟩ := e_undo zN (zup c 113 3 (μ 113 3 - 1)) 0 (by decide) (by decide) (by omega)
    have hm : mm_undo c = mm_undo_22 zN (zup c 113 3 (μ 113 3 - 1)) 0 := by
      unfold mm_undo
      rw [lo 113 (by omega) (by decide), if_neg h]
    rw [hx]; dsimp only; rw [hm]
    rw [zup_self] at a c1
    rw [zup_ne (by decide), lo 116 (by omega) (by decide)] at c1
    have lo2 : ∀ k, k ≠ 113 → k ≠ 114 → (mm_undo_22 zN (zup c 113 3 (μ 113 3 - 1)) 0).2 k = c k := fun k k1 k2 => by rw [b k k2, zup_ne k1]
    have l113 : ∀ z, z ≠ 3 → (mm_undo_22 zN (zup c 113 3 (μ 113 3 - 1)) 0).2 113 z = μ 113 z := fun z hz => by rw [b 113 (by decide), zup_slot hz, lo 113 (by omega) (by decide)]
    have l3 : (mm_undo_22 zN (zup c 113 3 (μ 113 3 - 1)) 0).2 113 3 = μ 113 3 - 1 := by rw [b 113 (by decide), zup_self]
    have l40 : (mm_undo_22 zN (zup c 113 3 (μ 113 3 - 1)) 0).2 40 = μ 40 := (lo2 40 (by decide) (by decide)).trans (lo 40 (by omega) (by decide))
    refine ⟨a.symm, ?_, ?_, zperm_cong R3 l40, ?_, ?_, ?_, ?_⟩
    · refine (R7 (μ 113 3 - 1) (by omega) (by omega)).cong (fun o ho => ?_) (fun z z0 z1 => c1 z z0 z1)
      show (mm_undo_22 zN (zup c 113 3 (μ 113 3 - 1)) 0).2 (3 + o) = μ ((μ 40 (μ 113 3 - 1)).toNat + o)
      rw [lo2 _ (by omega) (by omega), hc, zup_ne (by omega), zcs_in ho]
    · unfold Rt
      rw [l113 8 (by decide), lo2 1 (by decide) (by decide), lo2 2 (by decide) (by decide), lo2 119 (by decide) (by decide), lo 1 (by omega) (by decide), lo 2 (by omega) (by decide), lo 119 (by omega) (by decide)]
      exact R2
    · unfold RK
      rw [l113 5 (by decide), lo2 0 (by decide) (by decide), lo 0 (by omega) (by decide)]
      rcases R4 with q | ⟨q1, q2, q3⟩
      · exact Or.inl q
      · refine Or.inr ⟨q1, q2, q3.cong (fun o ho => ?_) (fun z _ _ => ?_)⟩
        · show (mm_undo_22 zN (zup c 113 3 (μ 113 3 - 1)) 0).2 (21 + o) = μ (21 + o)
          rw [lo2 _ (by omega) (by omega), lo _ (by omega) (by omega)]
        · rw [lo2 117 (by decide) (by decide), lo 117 (by omega) (by decide)]
    · rw [l3, lo2 39 (by decide) (by decide), hc, zup_self]
    · rw [l3]; omega
    · rw [l3]
      intro j j0 j1
      have hq := (zst_nat (zperm_at R3 j0 (show j < 4 by omega))).1
      refine (R7 j j0 (by omega)).cong (fun o ho => ?_) (fun z _ _ => ?_)
      · show (mm_undo_22 zN (zup c 113 3 (μ 113 3 - 1)) 0).2 (((mm_undo_22 zN (zup c 113 3 (μ 113 3 - 1)) 0).2 40 j).toNat + o) = μ ((μ 40 j).toNat + o)
        rw [l40, lo2 _ (by omega) (by omega), lo _ (by omega) (by omega)]
      · show (mm_undo_22 zN (zup c 113 3 (μ 113 3 - 1)) 0).2 116 (604 * j + z) = μ 116 (604 * j + z)
        rw [lo2 116 (by decide) (by decide), lo 116 (by omega) (by decide)]
theorem e_keep : ∀ (g : Nat) (ν : zM) (l : Int), 0 ≤ l → l ≤ 604 → 604 - l < (g : Int) → (mm_keep_2 g ν l).1 = ν 114 2 ∧ (∀ k, k ≠ 117 → k ≠ 113 → (mm_keep_2 g ν l).2 k = ν k) ∧ (∀ z, z ≠ 5 → (mm_keep_2 g ν l).2 113 z = ν 113 z) ∧ (mm_keep_2 g ν l).2 113 5 = 1 ∧ (∀ z, l ≤ z → z < 604 → (mm_keep_2 g ν l).2 117 z = ν 114 z) ∧ (∀ z, z < l → (mm_keep_2 g ν l).2 117 z = ν 117 z) := by
  intro g
  induction g with
  | zero => intro ν l h0 h1 hg; omega
  | succ g ih =>
    intro ν l h0 h1 hg
    rw [mm_keep_2]
    by_cases h : l < 604
    · rw [if_pos h]
      obtain ⟨a, b, c, d, e, f⟩ := ih (zup ν 117 l (ν 114 l)) (l + 1) (by omega) (by omega) (by omega)
      have e1 : (zup ν 117 l (ν 114 l)) 113 = ν 113 := zup_ne (by decide)
      have e2 : (zup ν 117 l (ν 114 l)) 114 = ν 114 := zup_ne (by decide)
      rw [e1] at c
      rw [e2] at a e
      refine ⟨a, fun k hk hk2 => (b k hk hk2).trans (zup_ne hk), c, d, fun z z0 z1 => ?_, fun z z0 => ?_⟩
      · by_cases hz : z = l
        · rw [f z (by omega), zup_at, if_pos hz, hz]
        · exact e z (by omega) z1
      · rw [f z (by omega), zup_at, if_neg (by omega)]
    · rw [if_neg h]
      exact ⟨rfl, fun k hk hk2 => show (zup ν 113 5 1) k = _ from zup_ne hk2, fun z hz => show (zup ν 113 5 1) 113 z = _ from zup_slot hz, show (zup ν 113 5 1) 113 5 = 1 from zup_self, fun z z0 z1 => by omega, fun z z0 => show (zup ν 113 5 1) 117 z = _ by rw [zup_ne (by decide)]⟩
theorem b_keep (R : Rz μ) : (xx_keep μ).1 = (mm_keep (xx_keep μ).2).1 ∧ Rz (mm_keep (xx_keep μ).2).2 := by
  obtain ⟨R1, R2, R3, R4, R5, R6, R7⟩ := id R
  have hN := zN_big
  obtain ⟨c, hc⟩ : ∃ c, c = zup (zcs μ 21 3) 0 4 1 := ⟨_, rfl⟩
  have hx : xx_keep μ = (μ 114 2, c) := by
    unfold xx_keep
    rw [hc, zcs_ne (by omega), R1.k]
  have lo : ∀ k, k < 21 ∨ 38 < k → k ≠ 0 → c k = μ k := fun k k1 k2 => by rw [hc, zup_ne k2, zcs_ne (by omega)]
  obtain ⟨a, b, c1, d, e, f⟩ := e_keep zN c 0 (by decide) (by decide) (by omega)
  rw [hx]; dsimp only
  unfold mm_keep
  have lo2 : ∀ k, k < 21 ∨ 38 < k → k ≠ 0 → k ≠ 117 → k ≠ 113 → (mm_keep_2 zN c 0).2 k = μ k := fun k k1 k2 k3 k4 => by rw [b k k3 k4, lo k k1 k2]
  have l113 : ∀ z, z ≠ 5 → (mm_keep_2 zN c 0).2 113 z = μ 113 z := fun z hz => by rw [c1 z hz, lo 113 (by omega) (by decide)]
  have l3 := l113 3 (by decide)
  have l40 : (mm_keep_2 zN c 0).2 40 = μ 40 := lo2 40 (by omega) (by decide) (by decide) (by decide)
  refine ⟨by rw [a, lo 114 (by omega) (by decide)], R1.cong (fun o ho => lo2 _ (by omega) (by omega) (by omega) (by omega)) (fun z _ _ => by rw [lo2 114 (by omega) (by decide) (by decide) (by decide)]), ?_, zperm_cong R3 l40, Or.inr ⟨?_, d, ?_⟩, ?_, ?_, ?_⟩
  · unfold Rt
    rw [l113 8 (by decide), lo2 1 (by omega) (by decide) (by decide) (by decide), lo2 2 (by omega) (by decide) (by decide) (by decide), lo2 119 (by omega) (by decide) (by decide) (by decide)]
    exact R2
  · rw [b 0 (by decide) (by decide), hc, zup_self]
  · refine R1.cong (fun o ho => ?_) (fun z z0 z1 => ?_)
    · show (mm_keep_2 zN c 0).2 (21 + o) = μ (3 + o)
      rw [b _ (by omega) (by omega), hc, zup_ne (by omega), zcs_in ho]
    · rw [e z z0 z1, lo 114 (by omega) (by decide)]
  · rw [l3, lo2 39 (by omega) (by decide) (by decide) (by decide)]; exact R5
  · rw [l3]; exact R6
  · rw [l3]
    intro j j0 j1
    have hq := (zst_nat (zperm_at R3 j0 (show j < 4 by omega))).1
    refine (R7 j j0 (by omega)).cong (fun o ho => ?_) (fun z _ _ => ?_)
    · show (mm_keep_2 zN c 0).2 (((mm_keep_2 zN c 0).2 40 j).toNat + o) = μ ((μ 40 j).toNat + o)
      rw [l40, lo2 _ (by omega) (by omega) (by omega) (by omega)]
    · show (mm_keep_2 zN c 0).2 116 (604 * j + z) = μ 116 (604 * j + z)
      rw [lo2 116 (by omega) (by decide) (by decide) (by decide)]
theorem e_restore : ∀ (g : Nat) (ν : zM) (l : Int), 0 ≤ l → l ≤ 604 → 604 - l < (g : Int) → ∃ X : zM, (∀ k, k ≠ 114 → X k = ν k) ∧ (∀ z, l ≤ z → z < 604 → X 114 z = ν 117 z) ∧ (∀ z, z < l → X 114 z = ν 114 z) ∧ mm_restore_16 g ν l = ((mm_ends X (X 114 2)).1, (mm_ends X (X 114 2)).2) := by
  intro g
  induction g with
  | zero => intro ν l h0 h1 hg; omega
  | succ g ih =>
    intro ν l h0 h1 hg
    rw [mm_restore_16]
    by_cases h : l < 604
    · rw [if_pos h]
      obtain ⟨X, a, b, c, d⟩ := ih (zup ν 114 l (ν 117 l)) (l + 1) (by omega) (by omega) (by omega)
      refine ⟨X, fun k hk => (a k hk).trans (zup_ne hk), fun z z0 z1 => ?_, fun z z0 => ?_, d⟩
      · by_cases hz : z = l
        · rw [c z (by omega), zup_at, if_pos hz, hz]
        · rw [b z (by omega) z1, zup_ne (by decide)]
      · rw [c z (by omega), zup_at, if_neg (by omega)]
    · rw [if_neg h]
      exact ⟨ν, fun k hk => rfl, fun z z0 z1 => by omega, fun z z0 => rfl, rfl⟩
theorem b_restore (R : Rz μ) : (xx_restore μ).1 = (mm_restore (xx_restore μ).2).1 ∧ Rz (mm_restore (xx_restore μ).2).2 := by
  obtain ⟨r1, r2⟩ := R.rec
  have hN := zN_big
  rcases R.2.2.2.1 with ⟨q1, q2⟩ | ⟨q1, q2, q3⟩
  · have hx : xx_restore μ = (-5, μ) := by unfold xx_restore; rw [if_pos q1]
    have hm : mm_restore μ = (-5, μ) := by unfold mm_restore; rw [if_pos q2]
    rw [hx]; dsimp only; rw [hm]; exact ⟨rfl, R⟩
  · obtain ⟨c, hc⟩ : ∃ c, c = zcs (xx_record μ) 3 21 := ⟨_, rfl⟩
    have hx : xx_restore μ = (c 4 0, c) := by unfold xx_restore; rw [if_neg (by omega), hc]
    have lo : ∀ k, k < 3 ∨ 20 < k → c k = (xx_record μ) k := fun k hk => by rw [hc, zcs_ne (by omega)]
    have now : ∀ o, o < 18 → c (3 + o) = μ (21 + o) := fun o ho => by rw [hc, zcs_in ho, r2 _ (by omega)]
    rw [hx]; dsimp only
    obtain ⟨X, a, b, c1, d⟩ := e_restore zN (Kp c) 0 (by decide) (by decide) (by omega)
    have hm : mm_restore c = ((mm_ends X (X 114 2)).1, (mm_ends X (X 114 2)).2) := by
      unfold mm_restore
      rw [if_neg (by rw [lo 113 (by omega), r2 113 (by omega)]; omega), ← d]; rfl
    have hr : ∀ z, 0 ≤ z → z < 604 → X 114 z = μ 117 z := fun z z0 z1 => by rw [b z z0 z1, Kp_ne (by decide), lo 117 (by omega), r2 117 (by omega)]
    obtain ⟨p', q'⟩ := r_core R (c := c) (X := X) (X 114 2) (fun k k1 k2 => lo k (by omega)) (fun k k1 _ _ => by rw [lo k (by omega), r2 k (by omega)]) (fun z _ _ => by rw [lo 113 (by omega), r2 113 (by omega)]) a (q3.cong (fun o ho => now o ho) hr)
    rw [hm]
    refine ⟨?_, q'⟩
    dsimp only
    rw [p', hr 2 (by decide) (by decide), show c 4 = μ 22 from now 1 (by decide)]
    exact q3.known
end EQ
