/-! acts -/
section EQ
variable {μ ν c : zM}
theorem lays_at {i w z : Int} : (mm_lays ν i w) 114 z = if z = 304 + 14 * i + 3 then w else ν 114 z := by unfold mm_lays; rw [zup_at]
theorem Rz.rec (R : Rz μ) : zperm (xx_record μ) ∧ (∀ k, k < 39 ∨ 113 ≤ k → (xx_record μ) k = μ k) := by
  obtain ⟨R1, R2, R3, R4, R5, R6, R7⟩ := R
  obtain ⟨a, b, -⟩ := e_record R3 (by rw [R5]; exact R6)
  exact ⟨a, b⟩
/-- only texts, spot and draft -/
theorem Rz.text (R : Rz μ) (h : ∀ k, k ≠ 1 → k ≠ 2 → k ≠ 113 → k ≠ 118 → k ≠ 119 → ν k = μ k) (h113 : ∀ z, z ≠ 8 → z ≠ 9 → z ≠ 10 → ν 113 z = μ 113 z) (T : Rt ν) : Rz ν := by
  obtain ⟨R1, R2, R3, R4, R5, R6, R7⟩ := R
  have h3 := h113 3 (by decide) (by decide) (by decide)
  have h40 : ν 40 = μ 40 := h 40 (by decide) (by decide) (by decide) (by decide) (by decide)
  refine ⟨R1.cong (fun o ho => h _ (by omega) (by omega) (by omega) (by omega) (by omega)) (fun z _ _ => by rw [h 114 (by decide) (by decide) (by decide) (by decide) (by decide)]), T, zperm_cong R3 h40, ?_, ?_, ?_, ?_⟩
  · unfold RK
    rw [h 0 (by decide) (by decide) (by decide) (by decide) (by decide), h113 5 (by decide) (by decide) (by decide)]
    rcases R4 with q | ⟨q1, q2, q3⟩
    · exact Or.inl q
    · exact Or.inr ⟨q1, q2, q3.cong (fun o ho => h _ (by omega) (by omega) (by omega) (by omega) (by omega)) (fun z _ _ => by rw [h 117 (by decide) (by decide) (by decide) (by decide) (by decide)])⟩
  · rw [h 39 (by decide) (by decide) (by decide) (by decide) (by decide), h3]; exact R5
  · rw [h3]; exact R6
  · rw [h3]
    intro j j0 j1
    have hp := (zst_nat (zperm_at R3 j0 (show j < 4 by omega))).1
    refine (R7 j j0 j1).cong (fun o ho => ?_) (fun z _ _ => ?_)
    · show ν ((ν 40 j).toNat + o) = μ ((μ 40 j).toNat + o)
      rw [h40]
      exact h _ (by omega) (by omega) (by omega) (by omega) (by omega)
    · show ν 116 (604 * j + z) = μ 116 (604 * j + z)
      rw [h 116 (by decide) (by decide) (by decide) (by decide) (by decide)]
theorem b_set (B : zB μ) (R : Rz μ) (a : Int) : (xx_set μ a).1 = (mm_set (xx_set μ a).2 a).1 ∧ Rz (mm_set (xx_set μ a).2 a).2 := by
  obtain ⟨r1, r2⟩ := R.rec
  have R1 := R.1
  have e : μ 3 4 = μ 114 0 := R1.once
  have b1 : 0 ≤ μ 3 4 ∧ μ 3 4 ≤ 1 := B 3 4
  by_cases ha : 0 ≤ a ∧ a ≤ 1
  · by_cases h2 : a = μ 3 4
    · have hx : xx_set μ a = (-5, μ) := by unfold xx_set; rw [q_below1 ha.1 (by omega), if_neg n10, if_pos h2]
      have hm : mm_set μ a = (-5, μ) := by unfold mm_set; rw [q_in1 ha.1 ha.2, if_neg n10, if_pos (by omega)]
      rw [hx]; dsimp only; rw [hm]; exact ⟨rfl, R⟩
    · have hx : xx_set μ a = (μ 3 4, zup (xx_record μ) 3 4 a) := by unfold xx_set; rw [q_below1 ha.1 (by omega), if_neg n10, if_neg h2]
      rw [hx]; dsimp only
      obtain ⟨c, hc⟩ : ∃ c, c = zup (xx_record μ) 3 4 a := ⟨_, rfl⟩
      rw [← hc]
      have c114 : c 114 = μ 114 := by rw [hc, zup_ne (by decide), r2 114 (by omega)]
      have hm : mm_set c a = ((mm_ends (zup (Kp c) 114 0 a) (1 - a)).1, (mm_ends (zup (Kp c) 114 0 a) (1 - a)).2) := by
        unfold mm_set; rw [q_in1 ha.1 ha.2, if_neg n10, c114, if_neg (show ¬ μ 114 0 = a by omega)]; rfl
      have hρ : ∀ z, (zup (Kp c) 114 0 a) 114 z = if z = 0 then a else μ 114 z := fun z => by rw [zup_at, Kp_ne (by decide), c114]
      have hα : ∀ o, 1 ≤ o → o ≤ 17 → c (3 + o) = μ (3 + o) := fun o o1 o2 => by rw [hc, zup_ne (by omega), r2 _ (by omega)]
      obtain ⟨P1, P2, P3, P4, P5⟩ := R1.parts
      obtain ⟨p, q⟩ := r_core R (c := c) (X := zup (Kp c) 114 0 a) (1 - a) (fun k k1 k2 => by rw [hc, zup_ne (by omega)]) (fun k k1 _ _ => by rw [hc, zup_ne (by omega), r2 k (by omega)]) (fun z _ _ => by rw [hc, zup_ne (by decide), r2 113 (by omega)]) (fun k hk => zup_ne hk)
        (RS.of ⟨by show c 3 4 = _; rw [hρ, if_pos rfl, hc, zup_self], by show c 3 5 = _; rw [hρ, if_neg (by decide), hc, zup_slot (by decide), r2 3 (by omega)]; exact R1.fil⟩
          (P2.cong (fun o o1 o2 => hα o o1 (by omega)) (by rw [hρ, if_neg (by decide)]) (fun z _ _ => by rw [hρ, if_neg (by omega)]))
          (P3.cong (hα 6 (by decide) (by decide)) (fun z _ _ => by rw [hρ, if_neg (by omega)]))
          (P4.cong (fun o o1 o2 => hα o (by omega) (by omega)) (by rw [hρ, if_neg (by decide)]; exact Int.le_refl _) (by rw [hρ, if_neg (by decide)]) (fun z _ _ => by rw [hρ, if_neg (by omega)]))
          (P5.cong (hα 16 (by decide) (by decide)) (hα 17 (by decide) (by decide)) (fun z _ _ => by rw [hρ, if_neg (by omega)])))
      rw [hm]
      exact ⟨by dsimp only; rw [p]; omega, q⟩
  · have hx : xx_set μ a = (-2, μ) := by unfold xx_set; rw [q_below0 (by omega), if_pos rfl]
    have hm : mm_set μ a = (-2, μ) := by unfold mm_set; rw [q_in0 ha, if_pos rfl]
    rw [hx]; dsimp only; rw [hm]; exact ⟨rfl, R⟩
theorem b_setTie (R : Rz μ) (t a b : Int) : (xx_setTie μ t a b).1 = (mm_setTie (xx_setTie μ t a b).2 t a b).1 ∧ Rz (mm_setTie (xx_setTie μ t a b).2 t a b).2 := by
  obtain ⟨r1, r2⟩ := R.rec
  have R1 := R.1
  rcases q_isTie t with ⟨p, q⟩ | ⟨p, q, t0, t1⟩
  · have hx : xx_setTie μ t a b = (-1, μ) := by unfold xx_setTie; rw [p, if_pos rfl]
    have hm : mm_setTie μ t a b = (-1, μ) := by unfold mm_setTie; rw [q, if_pos rfl]
    rw [hx]; dsimp only; rw [hm]; exact ⟨rfl, R⟩
  · have e19 : μ 19 t = mm_numberOf μ t := (R1.num t t0 (by omega)).1
    have e20 : μ 20 t = mm_tenseOf μ t := (R1.num t t0 (by omega)).2.1
    by_cases ha : 0 ≤ a ∧ a ≤ 1
    · by_cases hb : 0 ≤ b ∧ b ≤ 2
      · by_cases h : a = μ 19 t ∧ b = μ 20 t
        · have hx : xx_setTie μ t a b = (-5, μ) := by unfold xx_setTie; rw [p, if_neg n10, q_below1 ha.1 (by omega), if_neg n10, q_below1 hb.1 (by omega), if_neg n10, if_pos h.1, if_pos h.2]
          have hm : mm_setTie μ t a b = (-5, μ) := by unfold mm_setTie; rw [q, if_neg n10, q_in1 ha.1 ha.2, if_neg n10, q_in1 hb.1 hb.2, if_neg n10, ← e19, ← e20, if_pos h.1.symm, if_pos h.2.symm]
          rw [hx]; dsimp only; rw [hm]; exact ⟨rfl, R⟩
        · have hx : xx_setTie μ t a b = (3 * μ 19 t + μ 20 t, zup (zup (xx_record μ) 19 t a) 20 t b) := by
            unfold xx_setTie; rw [p, if_neg n10, q_below1 ha.1 (by omega), if_neg n10, q_below1 hb.1 (by omega), if_neg n10]
            by_cases h1 : a = μ 19 t
            · rw [if_pos h1, if_neg (fun h2 => h ⟨h1, h2⟩)]
            · rw [if_neg h1]
          rw [hx]; dsimp only
          obtain ⟨c, hc⟩ : ∃ c, c = zup (zup (xx_record μ) 19 t a) 20 t b := ⟨_, rfl⟩
          rw [← hc]
          have c114 : c 114 = μ 114 := by rw [hc, zup_ne (by decide), zup_ne (by decide), r2 114 (by omega)]
          have n1 : mm_numberOf c t = μ 19 t := by rw [e19]; unfold mm_numberOf; rw [c114]
          have n2 : mm_tenseOf c t = μ 20 t := by rw [e20]; unfold mm_tenseOf; rw [c114]
          have k1 : mm_numberOf (Kp c) t = μ 19 t := by rw [← n1]; unfold mm_numberOf; rw [Kp_ne (by decide)]
          have k2 : mm_tenseOf (Kp c) t = μ 20 t := by rw [← n2]; unfold mm_tenseOf; rw [Kp_ne (by decide)]
          have hm : mm_setTie c t a b = ((mm_ends (zup (zup (Kp c) 114 (584 + 2 * t) a) 114 (584 + 2 * t + 1) b) (3 * μ 19 t + μ 20 t)).1, (mm_ends (zup (zup (Kp c) 114 (584 + 2 * t) a) 114 (584 + 2 * t + 1) b) (3 * μ 19 t + μ 20 t)).2) := by
            rw [← k1, ← k2]
            unfold mm_setTie
            rw [q, if_neg n10, q_in1 ha.1 ha.2, if_neg n10, q_in1 hb.1 hb.2, if_neg n10]
            by_cases h1 : mm_numberOf c t = a
            · rw [if_pos h1, if_neg (fun h2 => h ⟨by omega, by omega⟩)]; rfl
            · rw [if_neg h1]; rfl
          have hρ : ∀ z, (zup (zup (Kp c) 114 (584 + 2 * t) a) 114 (584 + 2 * t + 1) b) 114 z = if z = 584 + 2 * t + 1 then b else if z = 584 + 2 * t then a else μ 114 z := fun z => by rw [zup_at, zup_at, Kp_ne (by decide), c114]
          have hα : ∀ o, o ≤ 15 → c (3 + o) = μ (3 + o) := fun o o2 => by rw [hc, zup_ne (by omega), zup_ne (by omega), r2 _ (by omega)]
          obtain ⟨P1, P2, P3, P4, P5⟩ := R1.parts
          obtain ⟨p', q'⟩ := r_core R (c := c) (X := zup (zup (Kp c) 114 (584 + 2 * t) a) 114 (584 + 2 * t + 1) b) (3 * μ 19 t + μ 20 t) (fun k k1 k2 => by rw [hc, zup_ne (by omega), zup_ne (by omega)]) (fun k k1 _ _ => by rw [hc, zup_ne (by omega), zup_ne (by omega), r2 k (by omega)]) (fun z _ _ => by rw [hc, zup_ne (by decide), zup_ne (by decide), r2 113 (by omega)]) (fun k hk => by rw [zup_ne hk, zup_ne hk])
            (RS.of (P1.cong (hα 0 (by decide)) (by rw [hρ, if_neg (by omega), if_neg (by omega)]) (by rw [hρ, if_neg (by omega), if_neg (by omega)]))
              (P2.cong (fun o o1 o2 => hα o (by omega)) (by rw [hρ, if_neg (by omega), if_neg (by omega)]) (fun z _ _ => by rw [hρ, if_neg (by omega), if_neg (by omega)]))
              (P3.cong (hα 6 (by decide)) (fun z _ _ => by rw [hρ, if_neg (by omega), if_neg (by omega)]))
              (P4.cong (fun o o1 o2 => hα o (by omega)) (by rw [hρ, if_neg (by omega), if_neg (by omega)]; exact Int.le_refl _) (by rw [hρ, if_neg (by omega), if_neg (by omega)]) (fun z _ _ => by rw [hρ, if_neg (by omega), if_neg (by omega)]))
              (P5.upd (t := t) (a := a) (b := b) (fun z => by show c 19 z = if z = t then a else μ 19 z; rw [hc, zup_ne (by decide), zup_at, r2 19 (by omega)]) (fun z => by show c 20 z = if z = t then b else μ 20 z; rw [hc, zup_at, zup_ne (by decide), r2 20 (by omega)]) (fun z _ _ => hρ z) ha hb))
          rw [hm]
          exact ⟨p'.symm, q'⟩
      · have hx : xx_setTie μ t a b = (-2, μ) := by unfold xx_setTie; rw [p, if_neg n10, q_below1 ha.1 (by omega), if_neg n10, q_below0 (by omega), if_pos rfl]
        have hm : mm_setTie μ t a b = (-2, μ) := by unfold mm_setTie; rw [q, if_neg n10, q_in1 ha.1 ha.2, if_neg n10, q_in0 hb, if_pos rfl]
        rw [hx]; dsimp only; rw [hm]; exact ⟨rfl, R⟩
    · have hx : xx_setTie μ t a b = (-2, μ) := by unfold xx_setTie; rw [p, if_neg n10, q_below0 (by omega), if_pos rfl]
      have hm : mm_setTie μ t a b = (-2, μ) := by unfold mm_setTie; rw [q, if_neg n10, q_in0 ha, if_pos rfl]
      rw [hx]; dsimp only; rw [hm]; exact ⟨rfl, R⟩
theorem q_isEnding (a b : Int) : (xx_isEnding a b = 0 ∧ ¬ ((0 ≤ a ∧ a ≤ 26) ∧ (0 ≤ b ∧ b ≤ 26) ∧ (a = 0 → b = 0))) ∨ (xx_isEnding a b = 1 ∧ (0 ≤ a ∧ a ≤ 26) ∧ (0 ≤ b ∧ b ≤ 26) ∧ (a = 0 → b = 0)) := by
  unfold xx_isEnding
  rcases q_below a 27 with ⟨h, h2⟩ | ⟨h, h2⟩
  · rw [h, if_pos rfl]; exact Or.inl ⟨rfl, by omega⟩
  · rw [h, if_neg n10]
    by_cases h0 : a = 0
    · rw [if_pos h0]
      rcases q_below b 1 with ⟨h3, h4⟩ | ⟨h3, h4⟩
      · rw [h3, if_pos rfl]; exact Or.inl ⟨rfl, by omega⟩
      · rw [h3, if_neg n10]; exact Or.inr ⟨rfl, by omega, by omega, by omega⟩
    · rw [if_neg h0]
      rcases q_below b 27 with ⟨h3, h4⟩ | ⟨h3, h4⟩
      · rw [h3, if_pos rfl]; exact Or.inl ⟨rfl, by omega⟩
      · rw [h3, if_neg n10]; exact Or.inr ⟨rfl, by omega, by omega, by omega⟩
theorem b_setEnding (R : Rz μ) (k f a b : Int) : (xx_setEnding μ k f a b).1 = (mm_setEnding (xx_setEnding μ k f a b).2 k f a b).1 ∧ Rz (mm_setEnding (xx_setEnding μ k f a b).2 k f a b).2 := by
  obtain ⟨r1, r2⟩ := R.rec
  have R1 := R.1
  by_cases hk : 0 ≤ k ∧ k ≤ 2
  · have p : xx_isBelow k 3 = 1 := q_below1 hk.1 (by omega)
    have q : mm_isKind k = 1 := q_in1 hk.1 hk.2
    by_cases hf : 0 ≤ f ∧ f ≤ 5
    · have p2 : xx_isBelow f 6 = 1 := q_below1 hf.1 (by omega)
      have q2 : mm_in f 0 5 = 1 := q_in1 hf.1 hf.2
      rcases q_isEnding a b with ⟨s, s2⟩ | ⟨s, sa, sb, sab⟩
      · have hx : xx_setEnding μ k f a b = (-2, μ) := by unfold xx_setEnding; rw [p, if_neg n10, p2, if_neg n10, s, if_pos rfl]
        have hm : mm_setEnding μ k f a b = (-2, μ) := by
          unfold mm_setEnding; rw [q, if_neg n10, q2, if_neg n10]
          rcases q_in a 0 26 with ⟨u, u2⟩ | ⟨u, u2⟩
          · rw [u, if_pos rfl]
          · rw [u, if_neg n10]
            by_cases h0 : a = 0
            · rw [if_pos h0, q_in0 (by omega), if_pos rfl]
            · rw [if_neg h0, q_in0 (by omega), if_pos rfl]
        rw [hx]; dsimp only; rw [hm]; exact ⟨rfl, R⟩
      · obtain ⟨e, ea, eb, eab⟩ := q_endAt R1 hk.1 hk.2 hf.1 hf.2
        have hA : mm_endingAt k f = 268 + 2 * (k * 6 + f) := by unfold mm_endingAt; omega
        have body : ∀ (c : zM) (U V : Int × zM), (if a = 0 then (if mm_in b 0 0 = 0 then U else V) else (if mm_in b 0 26 = 0 then U else V)) = V := fun c U V => by
          by_cases h0 : a = 0
          · rw [if_pos h0, q_in1 (by omega) (by omega), if_neg n10]
          · rw [if_neg h0, q_in1 (by omega) (by omega), if_neg n10]
        by_cases h : 27 * a + b = xx_endingOf μ k f
        · have hx : xx_setEnding μ k f a b = (-5, μ) := by unfold xx_setEnding; rw [p, if_neg n10, p2, if_neg n10, s, if_neg n10, if_pos h]
          have hm : mm_setEnding μ k f a b = (-5, μ) := by
            unfold mm_setEnding; rw [q, if_neg n10, q2, if_neg n10, q_in1 sa.1 sa.2, if_neg n10, body μ, if_pos (by omega), if_pos (by omega)]
          rw [hx]; dsimp only; rw [hm]; exact ⟨rfl, R⟩
        · have hx : xx_setEnding μ k f a b = (xx_endingOf μ k f, zup (xx_record μ) 9 (k * 6 + f) (27 * a + b)) := by
            unfold xx_setEnding xx_changeEnding; rw [p, if_neg n10, p2, if_neg n10, s, if_neg n10, if_neg h, if_neg n10, if_neg n10]
          rw [hx]; dsimp only
          obtain ⟨c, hc⟩ : ∃ c, c = zup (xx_record μ) 9 (k * 6 + f) (27 * a + b) := ⟨_, rfl⟩
          rw [← hc]
          have c114 : c 114 = μ 114 := by rw [hc, zup_ne (by decide), r2 114 (by omega)]
          have hm : mm_setEnding c k f a b = ((mm_ends (zup (zup (Kp c) 114 (mm_endingAt k f) a) 114 (mm_endingAt k f + 1) b) (xx_endingOf μ k f)).1, (mm_ends (zup (zup (Kp c) 114 (mm_endingAt k f) a) 114 (mm_endingAt k f + 1) b) (xx_endingOf μ k f)).2) := by
            unfold mm_setEnding; rw [q, if_neg n10, q2, if_neg n10, q_in1 sa.1 sa.2, if_neg n10, body c, c114, e]
            by_cases h1 : μ 114 (mm_endingAt k f) = a
            · rw [if_pos h1, if_neg (by omega)]; rfl
            · rw [if_neg h1]; rfl
          rw [hA] at hm
          have hρ : ∀ z, (zup (zup (Kp c) 114 (268 + 2 * (k * 6 + f)) a) 114 (268 + 2 * (k * 6 + f) + 1) b) 114 z = if z = 268 + 2 * (k * 6 + f) + 1 then b else if z = 268 + 2 * (k * 6 + f) then a else μ 114 z := fun z => by rw [zup_at, zup_at, Kp_ne (by decide), c114]
          have hα : ∀ o, o ≠ 6 → o ≤ 17 → c (3 + o) = μ (3 + o) := fun o o1 o2 => by rw [hc, zup_ne (by omega), r2 _ (by omega)]
          obtain ⟨P1, P2, P3, P4, P5⟩ := R1.parts
          obtain ⟨p', q'⟩ := r_core R (c := c) (X := zup (zup (Kp c) 114 (268 + 2 * (k * 6 + f)) a) 114 (268 + 2 * (k * 6 + f) + 1) b) (xx_endingOf μ k f) (fun k k1 k2 => by rw [hc, zup_ne (by omega)]) (fun k k1 _ _ => by rw [hc, zup_ne (by omega), r2 k (by omega)]) (fun z _ _ => by rw [hc, zup_ne (by decide), r2 113 (by omega)]) (fun k hk => by rw [zup_ne hk, zup_ne hk])
            (RS.of (P1.cong (hα 0 (by decide) (by decide)) (by rw [hρ, if_neg (by omega), if_neg (by omega)]) (by rw [hρ, if_neg (by omega), if_neg (by omega)]))
              (P2.cong (fun o o1 o2 => hα o (by omega) (by omega)) (by rw [hρ, if_neg (by omega), if_neg (by omega)]) (fun z _ _ => by rw [hρ, if_neg (by omega), if_neg (by omega)]))
              (P3.upd (t := k * 6 + f) (a := a) (b := b) (fun z => by show c 9 z = if z = k * 6 + f then 27 * a + b else μ 9 z; rw [hc, zup_at, r2 9 (by omega)]) (fun z _ _ => hρ z) sa sb sab)
              (P4.cong (fun o o1 o2 => hα o (by omega) (by omega)) (by rw [hρ, if_neg (by omega), if_neg (by omega)]; exact Int.le_refl _) (by rw [hρ, if_neg (by omega), if_neg (by omega)]) (fun z _ _ => by rw [hρ, if_neg (by omega), if_neg (by omega)]))
              (P5.cong (hα 16 (by decide) (by decide)) (hα 17 (by decide) (by decide)) (fun z _ _ => by rw [hρ, if_neg (by omega), if_neg (by omega)])))
          rw [hm]
          exact ⟨p'.symm, q'⟩
    · have hx : xx_setEnding μ k f a b = (-2, μ) := by unfold xx_setEnding; rw [p, if_neg n10, q_below0 (by omega), if_pos rfl]
      have hm : mm_setEnding μ k f a b = (-2, μ) := by unfold mm_setEnding; rw [q, if_neg n10, q_in0 hf, if_pos rfl]
      rw [hx]; dsimp only; rw [hm]; exact ⟨rfl, R⟩
  · have hx : xx_setEnding μ k f a b = (-1, μ) := by unfold xx_setEnding; rw [q_below0 (by omega), if_pos rfl]
    have hm : mm_setEnding μ k f a b = (-1, μ) := by unfold mm_setEnding mm_isKind; rw [q_in0 hk, if_pos rfl]
    rw [hx]; dsimp only; rw [hm]; exact ⟨rfl, R⟩
end EQ
