/-! the whole relation, and what an act leaves of it -/
def RK (μ : zM) : Prop := (μ 0 4 = 0 ∧ μ 113 5 = 0) ∨ (μ 0 4 = 1 ∧ μ 113 5 = 1 ∧ RS (fun o => μ (21 + o)) (μ 117))
def RH (μ : zM) : Prop := μ 39 1 = μ 113 3 ∧ (0 ≤ μ 113 3 ∧ μ 113 3 ≤ 4) ∧ ∀ j, 0 ≤ j → j < μ 113 3 → RS (fun o => μ ((μ 40 j).toNat + o)) (fun z => μ 116 (604 * j + z))
def Rz (μ : zM) : Prop := Rn μ ∧ Rt μ ∧ zperm μ ∧ RK μ ∧ RH μ
section EQ
variable {μ ν : zM}
theorem e_keeps_l : ∀ (g : Nat) (ν : zM) (l : Int), 0 ≤ l → l ≤ 604 → 604 - l < (g : Int) → (∀ k, k ≠ 115 → (mm_keeps_2 g ν l) k = ν k) ∧ (∀ z, l ≤ z → z < 604 → (mm_keeps_2 g ν l) 115 z = ν 114 z) ∧ (∀ z, z < l → (mm_keeps_2 g ν l) 115 z = ν 115 z) := by
  intro g
  induction g with
  | zero => intro ν l h0 h1 hg; omega
  | succ g ih =>
    intro ν l h0 h1 hg
    rw [mm_keeps_2]
    by_cases h : l < 604
    · rw [if_pos h]
      obtain ⟨a, b, c⟩ := ih (zup ν 115 l (ν 114 l)) (l + 1) (by omega) (by omega) (by omega)
      refine ⟨fun k hk => (a k hk).trans (zup_ne hk), fun z z0 z1 => ?_, fun z z0 => ?_⟩
      · by_cases hz : z = l
        · rw [c z (by omega), zup_at, if_pos hz, hz]
        · rw [b z (by omega) z1, zup_ne (by decide)]
      · rw [c z (by omega), zup_at, if_neg (by omega)]
    · rw [if_neg h]
      exact ⟨fun k hk => rfl, fun z z0 z1 => by omega, fun z z0 => rfl⟩
theorem e_keeps (ν : zM) {z : Int} (h0 : 0 ≤ z) (h1 : z < 604) : (mm_keeps ν) 115 z = ν 114 z := by
  have := zN_big
  exact (e_keeps_l zN ν 0 (by decide) (by decide) (by omega)).2.1 z h0 h1
theorem e_51 (v : Int) : ∀ (g : Nat) (ν : zM) (l : Int), 0 ≤ l → l ≤ 604 → 604 - l < (g : Int) → (mm_ends_51 g ν v l).1 = v ∧ (∀ k, k ≠ 113 → k ≠ 116 → (mm_ends_51 g ν v l).2 k = ν k) ∧ (∀ z, z ≠ 3 → (mm_ends_51 g ν v l).2 113 z = ν 113 z) ∧ (mm_ends_51 g ν v l).2 113 3 = ν 113 3 + 1 ∧ (∀ z, l ≤ z → z < 604 → (mm_ends_51 g ν v l).2 116 (604 * ν 113 3 + z) = ν 115 z) ∧ (∀ z, z < 604 * ν 113 3 + l → (mm_ends_51 g ν v l).2 116 z = ν 116 z) := by
  intro g
  induction g with
  | zero => intro ν l h0 h1 hg; omega
  | succ g ih =>
    intro ν l h0 h1 hg
    rw [mm_ends_51]
    by_cases h : l < 604
    · rw [if_pos h]
      obtain ⟨a, b, c, d, e, f⟩ := ih (zup ν 116 (604 * ν 113 3 + l) (ν 115 l)) (l + 1) (by omega) (by omega) (by omega)
      have e113 : (zup ν 116 (604 * ν 113 3 + l) (ν 115 l)) 113 = ν 113 := zup_ne (by decide)
      have e115 : (zup ν 116 (604 * ν 113 3 + l) (ν 115 l)) 115 = ν 115 := zup_ne (by decide)
      rw [e113] at c d e f
      rw [e115] at e
      refine ⟨a, fun k k1 k2 => (b k k1 k2).trans (zup_ne k2), c, d, fun z z0 z1 => ?_, fun z z0 => ?_⟩
      · by_cases hz : z = l
        · rw [f _ (by omega), zup_at, if_pos (by omega), hz]
        · exact e z (by omega) z1
      · rw [f z (by omega), zup_at, if_neg (by omega)]
    · rw [if_neg h]
      exact ⟨rfl, fun k k1 k2 => show (zup ν 113 3 (ν 113 3 + 1)) k = _ from zup_ne k1, fun z hz => show (zup ν 113 3 (ν 113 3 + 1)) 113 z = _ from zup_slot hz, show (zup ν 113 3 (ν 113 3 + 1)) 113 3 = _ from zup_self, fun z z0 z1 => by omega, fun z z0 => show (zup ν 113 3 (ν 113 3 + 1)) 116 z = _ by rw [zup_ne (by decide)]⟩
theorem e_10 (v : Int) : ∀ (g : Nat) (ν : zM) (l : Int), 0 ≤ l → l ≤ 1812 → 1812 - l < (g : Int) → ∃ ν0 : zM, (∀ k, k ≠ 116 → ν0 k = ν k) ∧ (∀ z, l ≤ z → z < 1812 → ν0 116 z = ν 116 (z + 604)) ∧ (∀ z, z < l → ν0 116 z = ν 116 z) ∧ mm_ends_10 g ν v l = mm_ends_51 zN (zup ν0 113 3 (ν0 113 3 - 1)) v 0 := by
  intro g
  induction g with
  | zero => intro ν l h0 h1 hg; omega
  | succ g ih =>
    intro ν l h0 h1 hg
    rw [mm_ends_10]
    by_cases h : l < 1812
    · rw [if_pos h]
      obtain ⟨ν0, a, b, c, d⟩ := ih (zup ν 116 l (ν 116 (l + 604))) (l + 1) (by omega) (by omega) (by omega)
      refine ⟨ν0, fun k hk => (a k hk).trans (zup_ne hk), fun z z0 z1 => ?_, fun z z0 => ?_, d⟩
      · by_cases hz : z = l
        · rw [c z (by omega), zup_at, if_pos hz, hz]
        · rw [b z (by omega) z1, zup_at, if_neg (by omega)]
      · rw [c z (by omega), zup_at, if_neg (by omega)]
    · rw [if_neg h]
      exact ⟨ν, fun k hk => rfl, fun z z0 z1 => by omega, fun z z0 => rfl, rfl⟩
theorem e_ends (ν : zM) (v : Int) (hs : 0 ≤ ν 113 3 ∧ ν 113 3 ≤ 4) : (mm_ends ν v).1 = v ∧ (∀ k, k ≠ 113 → k ≠ 116 → (mm_ends ν v).2 k = ν k) ∧ (∀ z, z ≠ 3 → (mm_ends ν v).2 113 z = ν 113 z) ∧
    ((ν 113 3 < 4 ∧ (mm_ends ν v).2 113 3 = ν 113 3 + 1 ∧ (∀ z, z < 604 * ν 113 3 → (mm_ends ν v).2 116 z = ν 116 z) ∧ ∀ z, 0 ≤ z → z < 604 → (mm_ends ν v).2 116 (604 * ν 113 3 + z) = ν 115 z) ∨
     (ν 113 3 = 4 ∧ (mm_ends ν v).2 113 3 = 4 ∧ (∀ z, 0 ≤ z → z < 1812 → (mm_ends ν v).2 116 z = ν 116 (z + 604)) ∧ ∀ z, 0 ≤ z → z < 604 → (mm_ends ν v).2 116 (604 * 3 + z) = ν 115 z)) := by
  have hN := zN_big
  unfold mm_ends
  by_cases h : ν 113 3 = 4
  · rw [if_pos h]
    obtain ⟨ν0, a, b, c, d⟩ := e_10 v zN ν 0 (by decide) (by decide) (by omega)
    rw [d]
    have e3 : ν0 113 3 = 4 := by rw [a 113 (by decide)]; exact h
    obtain ⟨p, q, r, s, t, u⟩ := e_51 v zN (zup ν0 113 3 (ν0 113 3 - 1)) 0 (by decide) (by decide) (by omega)
    have e33 : (zup ν0 113 3 (ν0 113 3 - 1)) 113 3 = 3 := by rw [zup_self, e3]; rfl
    rw [e33] at s t u
    refine ⟨p, fun k k1 k2 => ?_, fun z hz => ?_, Or.inr ⟨h, s, fun z z0 z1 => ?_, fun z z0 z1 => ?_⟩⟩
    · rw [q k k1 k2, zup_ne k1, a k k2]
    · rw [r z hz, zup_slot hz, a 113 (by decide)]
    · rw [u z (by omega), zup_ne (by decide), b z z0 z1]
    · rw [t z z0 z1, zup_ne (by decide), a 115 (by decide)]
  · rw [if_neg h]
    obtain ⟨p, q, r, s, t, u⟩ := e_51 v zN ν 0 (by decide) (by decide) (by omega)
    exact ⟨p, q, r, Or.inl ⟨by omega, s, fun z hz => u z (by omega), t⟩⟩
theorem zst_nat {z : Int} (h : zst4 z) : (z.toNat = 41 ∨ z.toNat = 59 ∨ z.toNat = 77 ∨ z.toNat = 95) ∧ ((z.toNat : Nat) : Int) = z := by
  rcases h with rfl | rfl | rfl | rfl <;> exact ⟨by decide, by decide⟩
theorem zperm_ne (P : zperm μ) {i j : Int} (i0 : 0 ≤ i) (i4 : i < 4) (j0 : 0 ≤ j) (j4 : j < 4) (h : i ≠ j) : μ 40 i ≠ μ 40 j := by
  obtain ⟨-, -, -, -, b1, b2, b3, b4, b5, b6⟩ := P
  rcases (show i = 0 ∨ i = 1 ∨ i = 2 ∨ i = 3 by omega) with rfl | rfl | rfl | rfl <;> rcases (show j = 0 ∨ j = 1 ∨ j = 2 ∨ j = 3 by omega) with rfl | rfl | rfl | rfl <;> omega
theorem zperm_cong (P : zperm μ) (h : ν 40 = μ 40) : zperm ν := by
  unfold zperm
  rw [h]; exact P
/-- the class's record: the state now is appended; the oldest goes if there are four -/
theorem e_record (P : zperm μ) (hs : 0 ≤ μ 39 1 ∧ μ 39 1 ≤ 4) : zperm (xx_record μ) ∧ (∀ k, k < 39 ∨ 113 ≤ k → (xx_record μ) k = μ k) ∧
    ((μ 39 1 < 4 ∧ (xx_record μ) 39 1 = μ 39 1 + 1 ∧ (∀ j, 0 ≤ j → j < μ 39 1 → ∀ o, o < 18 → (xx_record μ) (((xx_record μ) 40 j).toNat + o) = μ ((μ 40 j).toNat + o)) ∧ ∀ o, o < 18 → (xx_record μ) (((xx_record μ) 40 (μ 39 1)).toNat + o) = μ (3 + o)) ∨
     (μ 39 1 = 4 ∧ (xx_record μ) 39 1 = 4 ∧ (∀ j, 0 ≤ j → j < 3 → ∀ o, o < 18 → (xx_record μ) (((xx_record μ) 40 j).toNat + o) = μ ((μ 40 (j + 1)).toNat + o)) ∧ ∀ o, o < 18 → (xx_record μ) (((xx_record μ) 40 3).toNat + o) = μ (3 + o))) := by
  have gen : ∀ (X : zM) (s : Int), zperm X → 0 ≤ s → s < 4 → (∀ Y : zM, Y = zup (zcs X ((X 40 s).toNat) 3) 39 1 (((zcs X ((X 40 s).toNat) 3) 39 1) + 1) → zperm Y ∧ Y 40 = X 40 ∧ (∀ k, k < 39 ∨ 113 ≤ k → Y k = X k) ∧ Y 39 1 = X 39 1 + 1 ∧ (∀ j, 0 ≤ j → j < 4 → j ≠ s → ∀ o, o < 18 → Y ((X 40 j).toNat + o) = X ((X 40 j).toNat + o)) ∧ ∀ o, o < 18 → Y ((X 40 s).toNat + o) = X (3 + o)) := by
    intro X s PX s0 s4 Y hY
    have hp := (zst_nat (zperm_at PX s0 s4)).1
    have e40 : Y 40 = X 40 := by rw [hY, zup_ne (by decide), zcs_ne (by omega)]
    refine ⟨zperm_cong PX e40, e40, fun k hk => ?_, ?_, fun j j0 j4 hj o ho => ?_, fun o ho => ?_⟩
    · rw [hY, zup_ne (by omega), zcs_ne (by omega)]
    · rw [hY, zup_self, zcs_ne (by omega)]
    · have hq := zst_nat (zperm_at PX j0 j4)
      have hp2 := zst_nat (zperm_at PX s0 s4)
      have hne := zperm_ne PX j0 j4 s0 s4 hj
      have : (X 40 j).toNat ≠ (X 40 s).toNat := by omega
      rw [hY, zup_ne (by omega), zcs_ne (by omega)]
    · rw [hY, zup_ne (by omega), zcs_in ho]
  unfold xx_record
  by_cases h : μ 39 1 < 4
  · rw [if_pos h]
    obtain ⟨a, b, c, d, e, f⟩ := gen μ (μ 39 1) P hs.1 h _ rfl
    refine ⟨a, c, Or.inl ⟨h, d, fun j j0 j1 o ho => ?_, fun o ho => ?_⟩⟩
    · rw [b]; exact e j j0 (by omega) (by omega) o ho
    · rw [b]; exact f o ho
  · obtain ⟨d0, d1, d2, d3, d4, d5⟩ := xe_dropOldest μ P
    rw [if_neg h, d4]
    obtain ⟨a, b, c, d, e, f⟩ := gen (xx_dropOldest μ) 3 (zperm_drop P) (by decide) (by decide) _ rfl
    have sp : ∀ j, 0 ≤ j → j < 3 → (xx_dropOldest μ) 40 j = μ 40 (j + 1) := fun j j0 j1 => by
      rcases (show j = 0 ∨ j = 1 ∨ j = 2 by omega) with rfl | rfl | rfl
      · exact d0
      · exact d1
      · exact d2
    rw [d4] at d
    refine ⟨a, fun k hk => ?_, Or.inr ⟨by omega, d, fun j j0 j1 o ho => ?_, fun o ho => ?_⟩⟩
    · rw [c k hk]; exact d5 k (by omega) (by omega)
    · have hq := zst_nat (zperm_at P (show 0 ≤ j + 1 by omega) (show j + 1 < 4 by omega))
      rw [b, e j j0 (by omega) (by omega) o ho, sp j j0 j1]
      exact d5 _ (by omega) (by omega)
    · rw [b, f o ho]
      exact d5 _ (by omega) (by omega)
/-- the core: an act that is recorded -/
theorem r_act (R : Rz μ) (v : Int) (hc : ∀ k, k < 113 → (k < 3 ∨ 20 < k) → ν k = (xx_record μ) k) (h115 : ∀ z, 0 ≤ z → z < 604 → ν 115 z = μ 114 z) (h116 : ν 116 = μ 116) (h117 : ν 117 = μ 117) (h119 : ν 119 = μ 119) (h113 : ∀ z, z ≠ 9 → z ≠ 10 → ν 113 z = μ 113 z) (hN : Rn ν) : (mm_ends ν v).1 = v ∧ Rz (mm_ends ν v).2 := by
  obtain ⟨R1, R2, R3, R4, R5, R6, R7⟩ := R
  have e3 : ν 113 3 = μ 113 3 := h113 3 (by decide) (by decide)
  obtain ⟨a, b, c, d⟩ := e_ends ν v (by rw [e3]; exact R6)
  obtain ⟨r1, r2, r3⟩ := e_record R3 (by rw [R5]; exact R6)
  have lo : ∀ k, k < 113 → (mm_ends ν v).2 k = ν k := fun k hk => b k (by omega) (by omega)
  have e40 : (mm_ends ν v).2 40 = (xx_record μ) 40 := (lo 40 (by omega)).trans (hc 40 (by omega) (by omega))
  refine ⟨a, ?_, ?_, zperm_cong r1 e40, ?_, ?_, ?_, ?_⟩
  · refine hN.cong (fun o ho => lo _ (by omega)) (fun z z0 z1 => ?_)
    rw [b 114 (by decide) (by decide)]
  · unfold Rt
    rw [lo 1 (by omega), lo 2 (by omega), hc 1 (by omega) (by omega), hc 2 (by omega) (by omega), r2 1 (by omega), r2 2 (by omega), c 8 (by decide), h113 8 (by decide) (by decide), b 119 (by decide) (by decide), h119]
    exact R2
  · unfold RK
    rw [lo 0 (by omega), hc 0 (by omega) (by omega), r2 0 (by omega), c 5 (by decide), h113 5 (by decide) (by decide)]
    rcases R4 with h | ⟨h1, h2, h3⟩
    · exact Or.inl h
    · refine Or.inr ⟨h1, h2, h3.cong (fun o ho => ?_) (fun z z0 z1 => ?_)⟩
      · show (mm_ends ν v).2 (21 + o) = μ (21 + o)
        rw [lo _ (by omega), hc _ (by omega) (by omega), r2 _ (by omega)]
      · rw [b 117 (by decide) (by decide), h117]
  · rw [lo 39 (by omega), hc 39 (by omega) (by omega)]
    rcases d with ⟨d1, d2, -⟩ | ⟨d1, d2, -⟩ <;> rcases r3 with ⟨q1, q2, -⟩ | ⟨q1, q2, -⟩ <;> rw [d2, q2] <;> omega
  · rcases d with ⟨d1, d2, -⟩ | ⟨d1, d2, -⟩ <;> rw [d2] <;> omega
  · intro j j0 j1
    rcases d with ⟨d1, d2, d3, d4⟩ | ⟨d1, d2, d3, d4⟩
    · rw [d2] at j1
      rcases r3 with ⟨q1, q2, q3, q4⟩ | ⟨q1, -⟩
      · by_cases hj : j = μ 39 1
        · have hp := (zst_nat (zperm_at r1 (show 0 ≤ μ 39 1 by omega) q1)).1
          refine R1.cong (fun o ho => ?_) (fun z z0 z1 => ?_)
          · show (mm_ends ν v).2 (((mm_ends ν v).2 40 j).toNat + o) = μ (3 + o)
            rw [e40, hj, lo _ (by omega), hc _ (by omega) (by omega), q4 o ho]
          · show (mm_ends ν v).2 116 (604 * j + z) = μ 114 z
            rw [show j = ν 113 3 by omega, d4 z z0 z1, h115 z z0 z1]
        · have hp := (zst_nat (zperm_at r1 j0 (show j < 4 by omega))).1
          refine (R7 j j0 (by omega)).cong (fun o ho => ?_) (fun z z0 z1 => ?_)
          · show (mm_ends ν v).2 (((mm_ends ν v).2 40 j).toNat + o) = μ ((μ 40 j).toNat + o)
            rw [e40, lo _ (by omega), hc _ (by omega) (by omega), q3 j j0 (by omega) o ho]
          · show (mm_ends ν v).2 116 (604 * j + z) = μ 116 (604 * j + z)
            rw [d3 _ (by omega), h116]
      · omega
    · rw [d2] at j1
      rcases r3 with ⟨q1, -⟩ | ⟨q1, q2, q3, q4⟩
      · omega
      · have hp := (zst_nat (zperm_at r1 j0 j1)).1
        by_cases hj : j = 3
        · subst hj
          refine R1.cong (fun o ho => ?_) (fun z z0 z1 => ?_)
          · show (mm_ends ν v).2 (((mm_ends ν v).2 40 3).toNat + o) = μ (3 + o)
            rw [e40, lo _ (by omega), hc _ (by omega) (by omega), q4 o ho]
          · show (mm_ends ν v).2 116 (604 * 3 + z) = μ 114 z
            rw [d4 z z0 z1, h115 z z0 z1]
        · refine (R7 (j + 1) (by omega) (by omega)).cong (fun o ho => ?_) (fun z z0 z1 => ?_)
          · show (mm_ends ν v).2 (((mm_ends ν v).2 40 j).toNat + o) = μ ((μ 40 (j + 1)).toNat + o)
            rw [e40, lo _ (by omega), hc _ (by omega) (by omega), q3 j j0 (by omega) o ho]
          · show (mm_ends ν v).2 116 (604 * j + z) = μ 116 (604 * (j + 1) + z)
            rw [d3 _ (by omega) (by omega), h116]
            congr 1
            omega
end EQ
