/-! fill, empty, fillAll -/
section EQ
variable {μ ν c d : zM}
theorem ni_spec (N : NR μ ν) (t a : Int) : (xx_nounIn μ t a = -1 ∧ ∀ g, 0 ≤ g → g < μ 10 1 → ¬ (μ 16 g = t ∧ μ 15 g = 0 ∧ g ≠ a ∧ μ 18 g ≠ -1)) ∨ (∃ g, 0 ≤ g ∧ g < μ 10 1 ∧ (μ 16 g = t ∧ μ 15 g = 0 ∧ g ≠ a ∧ μ 18 g ≠ -1) ∧ xx_nounIn μ t a = μ 18 g) := by
  have hb := N.hob
  have key : ∀ (n : Nat) (l : Int), 0 ≤ l → l ≤ μ 10 1 → μ 10 1 - l < n → (xx_nounIn_2 n μ t a l = -1 ∧ ∀ g, l ≤ g → g < μ 10 1 → ¬ (μ 16 g = t ∧ μ 15 g = 0 ∧ g ≠ a ∧ μ 18 g ≠ -1)) ∨ (∃ g, l ≤ g ∧ g < μ 10 1 ∧ (μ 16 g = t ∧ μ 15 g = 0 ∧ g ≠ a ∧ μ 18 g ≠ -1) ∧ xx_nounIn_2 n μ t a l = μ 18 g) := by
    intro n
    induction n with
    | zero => intro l l0 l1 hn; omega
    | succ n ih =>
      intro l l0 l1 hn
      by_cases h : l < μ 10 1
      · have st : ¬ (μ 16 l = t ∧ μ 15 l = 0 ∧ l ≠ a ∧ μ 18 l ≠ -1) → (xx_nounIn_2 n μ t a (l + 1) = -1 ∧ ∀ g, l ≤ g → g < μ 10 1 → ¬ (μ 16 g = t ∧ μ 15 g = 0 ∧ g ≠ a ∧ μ 18 g ≠ -1)) ∨ (∃ g, l ≤ g ∧ g < μ 10 1 ∧ (μ 16 g = t ∧ μ 15 g = 0 ∧ g ≠ a ∧ μ 18 g ≠ -1) ∧ xx_nounIn_2 n μ t a (l + 1) = μ 18 g) := by
          intro hc
          rcases ih (l + 1) (by omega) (by omega) (by omega) with ⟨e, f⟩ | ⟨g, g0, g1, g2, g3⟩
          · refine Or.inl ⟨e, fun g g0 g1 => ?_⟩
            by_cases q : g = l
            · rw [q]; exact hc
            · exact f g (by omega) g1
          · exact Or.inr ⟨g, by omega, g1, g2, g3⟩
        rw [xx_nounIn_2, if_pos h, if_pos (by omega)]
        by_cases q1 : μ 16 l = t
        · rw [if_pos q1]
          by_cases q2 : μ 15 l = 0
          · rw [if_pos q2]
            by_cases q3 : l = a
            · rw [if_pos q3, if_pos rfl]; exact st (fun q => q.2.2.1 q3)
            · rw [if_neg q3, if_neg n10']
              by_cases q4 : μ 18 l = -1
              · rw [if_pos q4]; exact st (fun q => q.2.2.2 q4)
              · rw [if_neg q4]; exact Or.inr ⟨l, by omega, h, ⟨q1, q2, q3, q4⟩, rfl⟩
          · rw [if_neg q2, if_pos rfl]; exact st (fun q => q2 q.2.1)
        · rw [if_neg q1, if_pos rfl]; exact st (fun q => q1 q.1)
      · rw [xx_nounIn_2, if_neg h]
        exact Or.inl ⟨rfl, fun g g0 g1 => by omega⟩
  have := zN_big
  exact key zN 0 (by omega) (by omega) (by omega)
theorem put18 (M : zM) (h w v g : Int) : zup (zup M 18 h w) 3 5 v 18 g = if g = h then w else M 18 g := by
  rw [zup_ne (show (18 : Nat) ≠ 3 by decide), zup_at]
theorem put_eq (N : NR μ ν) {h : Int} (h0 : 0 ≤ h) (h1 : h < μ 10 1) (w : Int) : xx_putIn μ h w = zup (zup μ 18 h w) 3 5 (μ 3 5 + 1) := by
  unfold xx_putIn
  rw [hh_1 N h0 h1, if_neg n10']
theorem put_eq' (N : NR μ ν) {h : Int} (h0 : 0 ≤ h) (h1 : h < μ 10 1) (w : Int) : xx_putIn ν h w = zup (zup ν 18 h w) 3 5 (ν 3 5 + 1) := by
  unfold xx_putIn
  rw [al_hasHole N, hh_1 N h0 h1, if_neg n10']
theorem at_kindOf (N : NR μ ν) {w : Int} (h0 : 0 ≤ w) (h1 : w < μ 4 0) : xx_kindOf μ w = μ 5 w := by
  unfold xx_kindOf
  rw [kn_1 N h0 h1, if_neg n10']
theorem at_genderOf (N : NR μ ν) {w : Int} (h0 : 0 ≤ w) (h1 : w < μ 4 0) : xx_genderOf μ w = μ 6 w := by
  unfold xx_genderOf
  rw [kn_1 N h0 h1, if_neg n10']
theorem ra_r (M : zM) (h w : Int) : 0 ≤ xx_reasonAgainst M h w ∧ xx_reasonAgainst M h w ≤ 3 := by
  unfold xx_reasonAgainst
  repeat' split
  all_goals omega
/-- a word that fits goes into a hole -/
theorem put_NR (N : NR μ ν) {h w : Int} (h0 : 0 ≤ h) (h1 : h < μ 10 1) (w0 : 0 ≤ w) (w1 : w < μ 4 0) (hr : xx_reasonAgainst μ h w = 0) : NR (xx_putIn μ h w) (xx_putIn ν h w) := by
  rw [put_eq N h0 h1, put_eq' N h0 h1]
  have hk : μ 5 w = μ 15 h ∧ (μ 5 w = 0 → xx_disagrees μ h w = 0) := by
    unfold xx_reasonAgainst at hr
    rw [at_kindOf N w0 w1, at_kindOfHole N h0 h1] at hr
    by_cases q : μ 5 w = μ 15 h
    · rw [if_pos q] at hr
      refine ⟨q, fun q2 => ?_⟩
      rw [if_pos q2] at hr
      by_cases q3 : xx_disagrees μ h w = 0
      · exact q3
      · rw [if_neg q3] at hr; exact absurd hr (by decide)
    · rw [if_neg q] at hr; exact absurd hr (by decide)
  have ag : ∀ i, 0 ≤ i → i < μ 10 1 → i ≠ h → μ 15 h = 0 → μ 15 i = 0 → μ 16 i = μ 16 h → μ 18 i ≠ -1 → μ 6 w = μ 6 (μ 18 i) := by
    intro i i0 i1 ih kh ki ti fi
    have hd := hk.2 (hk.1.trans kh)
    unfold xx_disagrees at hd
    rw [at_tieOf N h0 h1, at_genderOf N w0 w1] at hd
    rcases ni_spec N (μ 16 h) h with ⟨e, f⟩ | ⟨g, g0, g1, ⟨g2, g3, g4, g5⟩, g6⟩
    · exact absurd ⟨ti, ki, ih, fi⟩ (f i i0 i1)
    · rw [g6, if_neg g5] at hd
      have hg := (N.hl g0 g1).2.2.2.2.2.2
      rw [at_genderOf N (w := μ 18 g) (by omega) (by omega)] at hd
      have hgi := N.gd g0 g1 i0 i1 g3 ki (g2.trans ti.symm) g5 fi
      by_cases q : μ 6 (μ 18 g) = μ 6 w
      · rw [← q]; exact hgi
      · rw [if_neg q] at hd; exact absurd hd n10'
  refine N.w15 (fun o ho a b => ?_) (fun o ho a b => ?_) ⟨?_, ?_⟩ (fun g g0 g1 => ?_) (fun g i g0 g1 i0 i1 kg ki tg fg fi => ?_)
  · rw [zup_ne (by omega), zup_ne (by omega)]
  · rw [zup_ne (by omega), zup_ne (by omega)]
  · show zup (zup ν 18 h w) 3 5 (ν 3 5 + 1) 3 4 = zup (zup μ 18 h w) 3 5 (μ 3 5 + 1) 3 4
    rw [zup_slot (by decide), zup_slot (by decide), zup_ne (by decide), zup_ne (by decide)]; exact N.once
  · show zup (zup ν 18 h w) 3 5 (ν 3 5 + 1) 3 5 = zup (zup μ 18 h w) 3 5 (μ 3 5 + 1) 3 5
    rw [zup_self, zup_self, N.fil]
  · show zup (zup ν 18 h w) 3 5 (ν 3 5 + 1) 18 g = zup (zup μ 18 h w) 3 5 (μ 3 5 + 1) 18 g ∧ (zup (zup μ 18 h w) 3 5 (μ 3 5 + 1) 18 g = -1 ∨ (0 ≤ zup (zup μ 18 h w) 3 5 (μ 3 5 + 1) 18 g ∧ zup (zup μ 18 h w) 3 5 (μ 3 5 + 1) 18 g < μ 4 0 ∧ μ 5 (zup (zup μ 18 h w) 3 5 (μ 3 5 + 1) 18 g) = μ 15 g))
    have hg := N.hl g0 g1
    rw [put18, put18]
    by_cases q : g = h
    · rw [if_pos q, if_pos q, q]; exact ⟨rfl, Or.inr ⟨w0, w1, hk.1⟩⟩
    · rw [if_neg q, if_neg q]; exact ⟨hg.2.2.2.1, hg.2.2.2.2.2.2⟩
  · change zup (zup μ 18 h w) 3 5 (μ 3 5 + 1) 18 g ≠ -1 at fg
    change zup (zup μ 18 h w) 3 5 (μ 3 5 + 1) 18 i ≠ -1 at fi
    show μ 6 (zup (zup μ 18 h w) 3 5 (μ 3 5 + 1) 18 g) = μ 6 (zup (zup μ 18 h w) 3 5 (μ 3 5 + 1) 18 i)
    change μ 15 g = 0 at kg
    change μ 15 i = 0 at ki
    change μ 16 g = μ 16 i at tg
    rw [put18] at fg fi
    rw [put18, put18]
    by_cases q : g = h
    · rw [if_pos q]
      by_cases q2 : i = h
      · rw [if_pos q2]
      · rw [if_neg q2] at fi ⊢
        exact ag i i0 i1 q2 (by rw [← q]; exact kg) ki (by rw [← q]; exact tg.symm) fi
    · rw [if_neg q] at fg ⊢
      by_cases q2 : i = h
      · rw [if_pos q2]
        exact (ag g g0 g1 q (by rw [← q2]; exact ki) kg (by rw [← q2]; exact tg) fg).symm
      · rw [if_neg q2] at fi ⊢
        exact N.gd g0 g1 i0 i1 kg ki tg fg fi
theorem R2.recN (R : R2 μ ν) : NR (xx_record μ) (xx_record ν) := R.N.cong (fun o ho => rec_k R (by omega)) (fun o ho => rec_k' R (by omega))
theorem R2.recX (R : R2 μ ν) : NR (xx_record μ) ν := R.N.cong (fun o ho => rec_k R (by omega)) (fun o ho => rfl)
theorem R2.recY (R : R2 μ ν) : NR μ (xx_record ν) := R.N.cong (fun o ho => rfl) (fun o ho => rec_k' R (by omega))
theorem b_fill (R : R2 μ ν) {h w : Int} (hh : -2147483648 ≤ h ∧ h ≤ 2147483647) (hw : 0 ≤ w ∧ w ≤ 23) : (xx_fill ν h w).1 = (xx_fill μ h w).1 ∧ (xx_fill μ h w).1 = (if xx_reason μ h w < 0 then -1 else if 0 < xx_reason μ h w then -10 - xx_reason μ h w else if xx_hole μ h 2 = -5 then 100 else xx_hole μ h 2) ∧ (xx_fill μ h w).2 3 5 = μ 3 5 + (if (xx_fill μ h w).1 < 0 then 0 else 1) ∧ (¬ (xx_fill μ h w).1 < 0 → xx_hole (xx_fill μ h w).2 h 2 = w) ∧ R2 (xx_fill μ h w).2 (xx_fill ν h w).2 := by
  have xb := xb_fill R.B h w R.P (by omega) (by omega)
  have xb' := xb_fill R.B' h w R.P' (by omega) (by omega)
  have N := R.N
  by_cases q1 : xx_hasHole μ h = 0
  · have hx : xx_fill μ h w = (-1, μ) := by unfold xx_fill; rw [if_pos q1]
    have hy : xx_fill ν h w = (-1, ν) := by unfold xx_fill; rw [al_hasHole N, if_pos q1]
    have hz : xx_reason μ h w = -1 := by unfold xx_reason; rw [if_pos q1]
    rw [hx, hy, hz]
    dsimp only
    exact ⟨rfl, by rw [if_pos (by decide)], by rw [if_pos (by decide)]; omega, fun q => absurd (by decide) q, R⟩
  · obtain ⟨h0, h1, -⟩ := hh_ok q1
    by_cases q2 : xx_knows μ w = 0
    · have hx : xx_fill μ h w = (-1, μ) := by unfold xx_fill; rw [if_neg q1, if_pos q2]
      have hy : xx_fill ν h w = (-1, ν) := by unfold xx_fill; rw [al_hasHole N, if_neg q1, al_knows N, if_pos q2]
      have hz : xx_reason μ h w = -1 := by unfold xx_reason; rw [if_neg q1, if_pos q2]
      rw [hx, hy, hz]
      dsimp only
      exact ⟨rfl, by rw [if_pos (by decide)], by rw [if_pos (by decide)]; omega, fun q => absurd (by decide) q, R⟩
    · obtain ⟨w0, w1, -⟩ := kn_ok q2
      have hz : xx_reason μ h w = xx_reasonAgainst μ h w := by unfold xx_reason; rw [if_neg q1, if_neg q2]
      have rr := ra_r μ h w
      by_cases q3 : xx_reasonAgainst μ h w = 0
      · have hw18 := (N.hl h0 h1).2.2.2.2.2.2
        have e2 : xx_hole μ h 2 = if μ 18 h = -1 then -5 else μ 18 h := by
          unfold xx_hole xx_isEmptyHole
          rw [if_neg q1, if_neg (by decide), if_neg (by decide), if_pos rfl, at_wordIn N h0 h1]
          by_cases q : μ 18 h = -1
          · rw [if_pos q, if_neg n10', if_pos q]
          · rw [if_neg q, if_pos rfl, if_neg q]
        have hx : xx_fill μ h w = (if μ 18 h = -1 then 100 else μ 18 h, xx_putIn (xx_record μ) h w) := by
          unfold xx_fill
          rw [if_neg q1, if_neg q2, if_pos q3, at_wordIn N h0 h1]
          split <;> rfl
        have hy : xx_fill ν h w = (if μ 18 h = -1 then 100 else μ 18 h, xx_putIn (xx_record ν) h w) := by
          unfold xx_fill
          rw [al_hasHole N, if_neg q1, al_knows N, if_neg q2, al_reasonAgainst N h0 h1, if_pos q3, al_wordIn N, at_wordIn N h0 h1]
          split <;> rfl
        have NX := R.recN
        have k10 : xx_record μ 10 = μ 10 := rec_k R (by decide)
        have k4 : xx_record μ 4 = μ 4 := rec_k R (by decide)
        have h1' : h < xx_record μ 10 1 := by rw [k10]; exact h1
        have hr' : xx_reasonAgainst (xx_record μ) h w = 0 := by
          rw [← al_reasonAgainst R.recX h0 h1', al_reasonAgainst N h0 h1]; exact q3
        have NP := put_NR NX h0 h1' w0 (by rw [k4]; exact w1) hr'
        have pe := put_eq NX h0 h1' w
        have pe' := put_eq' NX h0 h1' w
        rw [hx] at xb ⊢
        rw [hy] at xb' ⊢
        rw [hz, q3, e2]
        dsimp only at xb xb' ⊢
        have ht : ¬ (if μ 18 h = -1 then 100 else μ 18 h) < 0 := by split <;> omega
        refine ⟨rfl, ?_, ?_, fun _ => ?_, R.act xb xb' (fun k hk _ => ?_) (fun k hk _ => ?_) NP⟩
        · by_cases q : μ 18 h = -1
          · rw [if_pos q, if_neg (show ¬ (0 : Int) < 0 by decide), if_neg (show ¬ (0 : Int) < 0 by decide), if_pos q, if_pos rfl]
          · rw [if_neg q, if_neg (show ¬ (0 : Int) < 0 by decide), if_neg (show ¬ (0 : Int) < 0 by decide), if_neg q, if_neg (by omega)]
        · rw [if_neg ht, pe, zup_self, rec_k R (by decide)]
        · have a := at_wordIn NP h0 (h := h) (by rw [pe, zup_ne (by decide), zup_ne (by decide)]; exact h1')
          have b : xx_putIn (xx_record μ) h w 18 h = w := by rw [pe, zup_ne (by decide), zup_self]
          have e : xx_hasHole (xx_putIn (xx_record μ) h w) h = 1 := hh_1 NP h0 (by rw [pe, zup_ne (by decide), zup_ne (by decide)]; exact h1')
          unfold xx_hole xx_isEmptyHole
          rw [e, if_neg n10', if_neg (by decide), if_neg (by decide), if_pos rfl, a, b, if_neg (show ¬ w = -1 by omega), if_pos rfl]
        · rw [pe, zup_ne (by omega), zup_ne (by omega)]
        · rw [pe', zup_ne (by omega), zup_ne (by omega)]
      · have hx : xx_fill μ h w = (-10 - xx_reasonAgainst μ h w, μ) := by unfold xx_fill; rw [if_neg q1, if_neg q2, if_neg q3]
        have hy : xx_fill ν h w = (-10 - xx_reasonAgainst μ h w, ν) := by unfold xx_fill; rw [al_hasHole N, if_neg q1, al_knows N, if_neg q2, al_reasonAgainst N h0 h1, if_neg q3]
        rw [hx, hy, hz]
        dsimp only
        exact ⟨rfl, by rw [if_neg (by omega), if_pos (by omega)], by rw [if_pos (by omega)]; omega, fun q => absurd (by omega) q, R⟩
theorem b_empty (R : R2 μ ν) {h : Int} (hh : -2147483648 ≤ h ∧ h ≤ 2147483647) : (xx_empty ν h).1 = (xx_empty μ h).1 ∧ (xx_empty μ h).1 = xx_hole μ h 2 ∧ (¬ (xx_empty μ h).1 < 0 → xx_hole (xx_empty μ h).2 h 2 = -5) ∧ R2 (xx_empty μ h).2 (xx_empty ν h).2 := by
  have xb := xb_empty R.B h R.P (by omega)
  have xb' := xb_empty R.B' h R.P' (by omega)
  have N := R.N
  by_cases q1 : xx_hasHole μ h = 0
  · have hx : xx_empty μ h = (-1, μ) := by unfold xx_empty; rw [if_pos q1]
    have hy : xx_empty ν h = (-1, ν) := by unfold xx_empty; rw [al_hasHole N, if_pos q1]
    have hz : xx_hole μ h 2 = -1 := by unfold xx_hole; rw [if_pos q1]
    rw [hx, hy, hz]
    dsimp only
    exact ⟨rfl, rfl, fun q => absurd (by decide) q, R⟩
  · obtain ⟨h0, h1, -⟩ := hh_ok q1
    have e2 : xx_hole μ h 2 = if μ 18 h = -1 then -5 else μ 18 h := by
      unfold xx_hole xx_isEmptyHole
      rw [if_neg q1, if_neg (by decide), if_neg (by decide), if_pos rfl, at_wordIn N h0 h1]
      by_cases q : μ 18 h = -1
      · rw [if_pos q, if_neg n10', if_pos q]
      · rw [if_neg q, if_pos rfl, if_neg q]
    by_cases q2 : μ 18 h = -1
    · have hx : xx_empty μ h = (-5, μ) := by unfold xx_empty; rw [if_neg q1, at_wordIn N h0 h1, if_pos q2]
      have hy : xx_empty ν h = (-5, ν) := by unfold xx_empty; rw [al_hasHole N, if_neg q1, al_wordIn N, at_wordIn N h0 h1, if_pos q2]
      rw [hx, hy, e2, if_pos q2]
      dsimp only
      exact ⟨rfl, rfl, fun q => absurd (by decide) q, R⟩
    · have hx : xx_empty μ h = (μ 18 h, zup (xx_record μ) 18 h (-1)) := by unfold xx_empty; rw [if_neg q1, at_wordIn N h0 h1, if_neg q2]
      have hy : xx_empty ν h = (μ 18 h, zup (xx_record ν) 18 h (-1)) := by unfold xx_empty; rw [al_hasHole N, if_neg q1, al_wordIn N, at_wordIn N h0 h1, if_neg q2]
      have NX := R.recN
      have k10 : xx_record μ 10 = μ 10 := rec_k R (by decide)
      rw [hx] at xb ⊢
      rw [hy] at xb' ⊢
      rw [e2, if_neg q2]
      dsimp only at xb xb' ⊢
      have NP : NR (zup (xx_record μ) 18 h (-1)) (zup (xx_record ν) 18 h (-1)) := by
        refine NX.w15 (fun o ho a b => zup_ne (by omega)) (fun o ho a b => zup_ne (by omega)) ⟨?_, ?_⟩ (fun g g0 g1 => ?_) (fun g i g0 g1 i0 i1 kg ki tg fg fi => ?_)
        · show zup (xx_record ν) 18 h (-1) 3 4 = zup (xx_record μ) 18 h (-1) 3 4
          rw [zup_ne (by decide), zup_ne (by decide)]; exact NX.once
        · show zup (xx_record ν) 18 h (-1) 3 5 = zup (xx_record μ) 18 h (-1) 3 5
          rw [zup_ne (by decide), zup_ne (by decide)]; exact NX.fil
        · show zup (xx_record ν) 18 h (-1) 18 g = zup (xx_record μ) 18 h (-1) 18 g ∧ (zup (xx_record μ) 18 h (-1) 18 g = -1 ∨ (0 ≤ zup (xx_record μ) 18 h (-1) 18 g ∧ zup (xx_record μ) 18 h (-1) 18 g < xx_record μ 4 0 ∧ xx_record μ 5 (zup (xx_record μ) 18 h (-1) 18 g) = xx_record μ 15 g))
          have hg := NX.hl g0 g1
          rw [zup_at, zup_at]
          by_cases q : g = h
          · rw [if_pos q, if_pos q]; exact ⟨rfl, Or.inl rfl⟩
          · rw [if_neg q, if_neg q]; exact ⟨hg.2.2.2.1, hg.2.2.2.2.2.2⟩
        · change zup (xx_record μ) 18 h (-1) 18 g ≠ -1 at fg
          change zup (xx_record μ) 18 h (-1) 18 i ≠ -1 at fi
          show xx_record μ 6 (zup (xx_record μ) 18 h (-1) 18 g) = xx_record μ 6 (zup (xx_record μ) 18 h (-1) 18 i)
          rw [zup_at] at fg fi ⊢
          rw [zup_at]
          by_cases q : g = h
          · rw [if_pos q] at fg; exact absurd rfl fg
          · by_cases q2 : i = h
            · rw [if_pos q2] at fi; exact absurd rfl fi
            · rw [if_neg q] at fg ⊢
              rw [if_neg q2] at fi ⊢
              exact NX.gd g0 g1 i0 i1 kg ki tg fg fi
      have h1' : h < zup (xx_record μ) 18 h (-1) 10 1 := by rw [zup_ne (by decide), k10]; exact h1
      refine ⟨rfl, rfl, fun _ => ?_, R.act xb xb' (fun k hk _ => zup_ne (by omega)) (fun k hk _ => zup_ne (by omega)) NP⟩
      have a := at_wordIn NP h0 h1'
      have e : xx_hasHole (zup (xx_record μ) 18 h (-1)) h = 1 := hh_1 NP h0 h1'
      unfold xx_hole xx_isEmptyHole
      rw [e, if_neg n10', if_neg (by decide), if_neg (by decide), if_pos rfl, a, zup_self, if_pos rfl, if_neg n10']
theorem lf_spec (N : NR μ ν) (h : Int) : xx_lowestFitting μ h = -1 ∨ (0 ≤ xx_lowestFitting μ h ∧ xx_lowestFitting μ h < μ 4 0 ∧ xx_reasonAgainst μ h (xx_lowestFitting μ h) = 0) := by
  have hb := N.knb
  have key : ∀ (n : Nat) (l : Int), 0 ≤ l → l ≤ μ 4 0 → μ 4 0 - l < n → xx_lowestFitting_2 n μ h l = -1 ∨ (0 ≤ xx_lowestFitting_2 n μ h l ∧ xx_lowestFitting_2 n μ h l < μ 4 0 ∧ xx_reasonAgainst μ h (xx_lowestFitting_2 n μ h l) = 0) := by
    intro n
    induction n with
    | zero => intro l l0 l1 hn; omega
    | succ n ih =>
      intro l l0 l1 hn
      rw [xx_lowestFitting_2]
      by_cases q : l < μ 4 0
      · rw [if_pos q]
        by_cases q2 : xx_reasonAgainst μ h l = 0
        · rw [if_pos q2]; exact Or.inr ⟨l0, q, q2⟩
        · rw [if_neg q2]; exact ih (l + 1) (by omega) (by omega) (by omega)
      · rw [if_neg q]; exact Or.inl rfl
  have := zN_big
  exact key zN 0 (by omega) (by omega) (by omega)
theorem sm_upd {g h : Int → Int} {j : Int} : ∀ {n : Nat}, 0 ≤ j → j < n → (∀ k : Int, 0 ≤ k → k < n → k ≠ j → h k = g k) → sm h n = sm g n + (h j - g j)
  | 0, h0, h1, _ => by omega
  | n + 1, h0, h1, e => by
    rw [sm_succ, sm_succ]
    by_cases q : j = n
    · rw [sm_cong (g := h) (h := g) (n := n) (fun k k0 k1 => e k k0 (by omega) (by omega)), ← q]
      omega
    · rw [sm_upd (g := g) (h := h) (n := n) h0 (by omega) (fun k k0 k1 k2 => e k k0 (by omega) k2), e n (by omega) (by omega) (fun w => q w.symm)]
      omega
theorem hw_sm (N : NR μ ν) (w : Int) : xx_holesWith μ w = sm (fun h => if μ 18 h = w then 1 else 0) (μ 10 1).toNat := by
  have hb := N.hob
  have key : ∀ (n d : Nat) (l2 l3 : Int), 0 ≤ l3 → l3 + d = μ 10 1 → d < n → xx_holesWith_4 n μ w l2 l3 + sm (fun h => if μ 18 h = w then 1 else 0) l3.toNat = l2 + sm (fun h => if μ 18 h = w then 1 else 0) (μ 10 1).toNat := by
    intro n
    induction n with
    | zero => intro d l2 l3 h0 hd hn; omega
    | succ n ih =>
      intro d l2 l3 h0 hd hn
      rw [xx_holesWith_4]
      by_cases h : l3 < μ 10 1
      · obtain ⟨d, rfl⟩ : ∃ g, d = g + 1 := ⟨d - 1, by omega⟩
        rw [if_pos h, at_wordIn N h0 h]
        have e : (l3 + 1).toNat = l3.toNat + 1 := by omega
        have e2 : ((l3.toNat : Nat) : Int) = l3 := by omega
        by_cases q : μ 18 l3 = w
        · have a := ih d (l2 + 1) (l3 + 1) (by omega) (by omega) (by omega)
          rw [e, sm_succ _ l3.toNat, e2, if_pos q] at a
          rw [if_pos q]; omega
        · have a := ih d l2 (l3 + 1) (by omega) (by omega) (by omega)
          rw [e, sm_succ _ l3.toNat, e2, if_neg q] at a
          rw [if_neg q]; omega
      · rw [if_neg h, show l3 = μ 10 1 by omega]
  have := zN_big
  have a := key zN (μ 10 1).toNat 0 0 (by omega) (by omega) (by omega)
  rw [show (0 : Int).toNat = 0 from rfl, show sm (fun h => if μ 18 h = w then 1 else 0) 0 = 0 from rfl] at a
  show xx_holesWith_4 zN μ w 0 0 = _
  omega
theorem fl_spec : ∀ (f : Nat) (C D : zM) (n l : Int), NR C D → 0 ≤ l → l ≤ C 10 1 → C 10 1 - l < f →
    (xx_fillEmptyHoles_4 f D n l).1 = (xx_fillEmptyHoles_4 f C n l).1 ∧ NR (xx_fillEmptyHoles_4 f C n l).2 (xx_fillEmptyHoles_4 f D n l).2 ∧ (∀ k, k ≠ 3 → k ≠ 18 → (xx_fillEmptyHoles_4 f C n l).2 k = C k) ∧ (∀ k, k ≠ 3 → k ≠ 18 → (xx_fillEmptyHoles_4 f D n l).2 k = D k) ∧ (xx_fillEmptyHoles_4 f C n l).2 3 5 = C 3 5 + ((xx_fillEmptyHoles_4 f C n l).1 - n) ∧ sm (fun h => if (xx_fillEmptyHoles_4 f C n l).2 18 h = -1 then 1 else 0) (C 10 1).toNat = sm (fun h => if C 18 h = -1 then 1 else 0) (C 10 1).toNat - ((xx_fillEmptyHoles_4 f C n l).1 - n) ∧ n ≤ (xx_fillEmptyHoles_4 f C n l).1 ∧ (¬ xx_someHoleCanBeFilled_2 f C l = 0 → n < (xx_fillEmptyHoles_4 f C n l).1) := by
  intro f
  induction f with
  | zero => intro C D n l N h0 h1 hf; omega
  | succ f ih =>
    intro C D n l N h0 h1 hf
    rw [xx_fillEmptyHoles_4, xx_fillEmptyHoles_4, xx_someHoleCanBeFilled_2, N.ho, al_isEmptyHole N]
    by_cases h : l < C 10 1
    · rw [if_pos h, if_pos h, if_pos h, if_pos rfl]
      have st := ih C D n (l + 1) N (by omega) (by omega) (by omega)
      by_cases q : xx_isEmptyHole C l = 0
      · rw [if_pos q, if_pos q, if_pos q]; exact st
      · rw [if_neg q, if_neg q, if_neg q, al_lowestFitting N h0 h]
        by_cases q2 : xx_lowestFitting C l = -1
        · rw [if_pos q2, if_pos q2, if_pos q2]; exact st
        · rw [if_neg q2, if_neg q2]
          obtain ⟨w0, w1, w2⟩ : 0 ≤ xx_lowestFitting C l ∧ xx_lowestFitting C l < C 4 0 ∧ xx_reasonAgainst C l (xx_lowestFitting C l) = 0 := by
            rcases lf_spec N l with e | e
            · exact absurd e q2
            · exact e
          have NP := put_NR N h0 h w0 w1 w2
          have pe := put_eq N h0 h (xx_lowestFitting C l)
          have pe' := put_eq' N h0 h (xx_lowestFitting C l)
          have e10 : xx_putIn C l (xx_lowestFitting C l) 10 = C 10 := by rw [pe, zup_ne (by decide), zup_ne (by decide)]
          obtain ⟨a1, a2, a3, a4, a5, a6, a7, -⟩ := ih _ _ (n + 1) (l + 1) NP (by omega) (by rw [e10]; omega) (by rw [e10]; omega)
          have e18 : C 18 l = -1 := by
            unfold xx_isEmptyHole at q
            rw [at_wordIn N h0 h] at q
            by_cases e : C 18 l = -1
            · exact e
            · rw [if_neg e] at q; exact absurd rfl q
          refine ⟨a1, a2, fun k k3 k18 => ?_, fun k k3 k18 => ?_, ?_, ?_, by omega, fun _ => by omega⟩
          · rw [a3 k k3 k18, pe, zup_ne k3, zup_ne k18]
          · rw [a4 k k3 k18, pe', zup_ne k3, zup_ne k18]
          · rw [a5, pe, zup_self]; omega
          · rw [e10] at a6
            rw [a6]
            have u := sm_upd (g := fun h => if C 18 h = -1 then 1 else 0) (h := fun h => if xx_putIn C l (xx_lowestFitting C l) 18 h = -1 then 1 else 0) (j := l) (n := (C 10 1).toNat) h0 (by omega) (fun k k0 k1 k2 => by
              rw [pe, zup_ne (by decide), zup_at, if_neg k2])
            rw [u]
            rw [if_pos e18, pe, zup_ne (by decide), zup_self, if_neg (by omega)]
            omega
    · rw [if_neg h, if_neg h, if_neg h]
      exact ⟨rfl, N, fun k _ _ => rfl, fun k _ _ => rfl, by dsimp only; omega, by dsimp only; omega, by dsimp only; omega, fun q => absurd rfl q⟩
theorem b_fillAll (R : R2 μ ν) : (xx_fillAll ν).1 = (xx_fillAll μ).1 ∧ (((xx_fillAll μ).1 = -5 ∧ (xx_fillAll μ).2 = μ) ∨ (0 < (xx_fillAll μ).1 ∧ (xx_fillAll μ).1 ≤ 20 ∧ xx_holesWith (xx_fillAll μ).2 (-1) = xx_holesWith μ (-1) - (xx_fillAll μ).1 ∧ (xx_fillAll μ).2 3 5 = μ 3 5 + (xx_fillAll μ).1)) ∧ R2 (xx_fillAll μ).2 (xx_fillAll ν).2 := by
  have xb := xb_fillAll R.B R.P
  have xb' := xb_fillAll R.B' R.P'
  have N := R.N
  have hob := N.hob
  by_cases q : xx_someHoleCanBeFilled μ = 0
  · have hx : xx_fillAll μ = (-5, μ) := by unfold xx_fillAll; rw [if_pos q]
    have hy : xx_fillAll ν = (-5, ν) := by unfold xx_fillAll; rw [al_someHole N, if_pos q]
    rw [hx, hy]; exact ⟨rfl, Or.inl ⟨rfl, rfl⟩, R⟩
  · have NX := R.recN
    have k10 : xx_record μ 10 = μ 10 := rec_k R (by decide)
    have k18 : xx_record μ 18 = μ 18 := rec_k R (by decide)
    have k3 : xx_record μ 3 = μ 3 := rec_k R (by decide)
    have hN := zN_big
    have qs : ¬ xx_someHoleCanBeFilled_2 zN (xx_record μ) 0 = 0 := by
      have e : xx_someHoleCanBeFilled (xx_record μ) = xx_someHoleCanBeFilled μ := by rw [← al_someHole R.recX, al_someHole N]
      intro w
      exact q (by rw [← e]; exact w)
    obtain ⟨a1, a2, a3, a4, a5, a6, a7, a8⟩ := fl_spec zN (xx_record μ) (xx_record ν) 0 0 NX (by omega) (by rw [k10]; omega) (by rw [k10]; omega)
    obtain ⟨c, hc⟩ : ∃ c, c = (xx_fillEmptyHoles_4 zN (xx_record μ) 0 0).2 := ⟨_, rfl⟩
    obtain ⟨d, hd⟩ : ∃ d, d = (xx_fillEmptyHoles_4 zN (xx_record ν) 0 0).2 := ⟨_, rfl⟩
    obtain ⟨t, ht⟩ : ∃ t, t = (xx_fillEmptyHoles_4 zN (xx_record μ) 0 0).1 := ⟨_, rfl⟩
    have hx : xx_fillAll μ = (t, c) := by unfold xx_fillAll; rw [if_neg q, ht, hc]; rfl
    have hy : xx_fillAll ν = (t, d) := by
      unfold xx_fillAll
      rw [al_someHole N, if_neg q, ht, hd, ← a1]; rfl
    rw [← hc] at a2 a3 a5 a6
    rw [← hd] at a2 a4
    rw [← ht] at a5 a6 a7 a8
    rw [hx] at xb ⊢
    rw [hy] at xb' ⊢
    dsimp only at xb xb' ⊢
    have hw := hw_sm a2 (-1)
    have hw0 := hw_sm N (-1)
    rw [a3 10 (by decide) (by decide), k10] at hw
    rw [k10, k18] at a6
    have hpos := a8 qs
    have hle : 0 ≤ sm (fun h => if c 18 h = -1 then 1 else 0) (μ 10 1).toNat ∧ sm (fun h => if μ 18 h = -1 then 1 else 0) (μ 10 1).toNat ≤ (μ 10 1).toNat := by
      have g : ∀ (M : zM) (n : Nat), 0 ≤ sm (fun h => if M 18 h = -1 then 1 else 0) n ∧ sm (fun h => if M 18 h = -1 then 1 else 0) n ≤ n := by
        intro M n
        induction n with
        | zero => exact ⟨by simp [sm], by simp [sm]⟩
        | succ n ih =>
          rw [sm_succ]
          split <;> omega
      exact ⟨(g c _).1, (g μ _).2⟩
    refine ⟨rfl, Or.inr ⟨hpos, by omega, by omega, by rw [a5, k3]; omega⟩, R.act xb xb' (fun k hk _ => a3 k (by omega) (by omega)) (fun k hk _ => a4 k (by omega) (by omega)) a2⟩
end EQ
