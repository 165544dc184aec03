/-! the relation of the two objects; acts that keep it -/
theorem zup_self {μ : zM} {k : Nat} {z v : Int} : zup μ k z v k z = v := by rw [zup_ap]; simp
theorem zup_slot {μ : zM} {k : Nat} {z z' v : Int} (h : z' ≠ z) : zup μ k z v k z' = μ k z' := by rw [zup_ap]; simp [h]
theorem zup_at {μ : zM} {k : Nat} {z v z' : Int} : zup μ k z v k z' = if z' = z then v else μ k z' := by rw [zup_ap]; simp
section EQ
variable {μ ν c d : zM}
theorem zst_nat {z : Int} (h : zst4 z) : (z.toNat = 41 ∨ z.toNat = 59 ∨ z.toNat = 77 ∨ z.toNat = 95) ∧ ((z.toNat : Nat) : Int) = z := by
  rcases h with rfl | rfl | rfl | rfl <;> exact ⟨by decide, by decide⟩
theorem zperm_ne (P : zperm μ) {i j : Int} (i0 : 0 ≤ i) (i4 : i < 4) (j0 : 0 ≤ j) (j4 : j < 4) (h : i ≠ j) : μ 40 i ≠ μ 40 j := by
  obtain ⟨-, -, -, -, b1, b2, b3, b4, b5, b6⟩ := P
  rcases (show i = 0 ∨ i = 1 ∨ i = 2 ∨ i = 3 by omega) with rfl | rfl | rfl | rfl <;> rcases (show j = 0 ∨ j = 1 ∨ j = 2 ∨ j = 3 by omega) with rfl | rfl | rfl | rfl <;> omega
theorem zperm_cong (P : zperm μ) (h : ν 40 = μ 40) : zperm ν := by
  unfold zperm
  rw [h]; exact P
/-- the class's record: the state now is appended; the oldest goes if there are four -/
theorem e_record (P : zperm μ) (hs : 0 ≤ μ 39 1 ∧ μ 39 1 ≤ 4) : zperm (xx_record μ) ∧ (∀ k, k < 39 ∨ 113 ≤ k → (xx_record μ) k = μ k) ∧
    ((μ 39 1 < 4 ∧ (xx_record μ) 39 1 = μ 39 1 + 1 ∧ (∀ j, 0 ≤ j → j < μ 39 1 → ∀ o, o < 18 → (xx_record μ) (((xx_record μ) 40 j).toNat + o) = μ ((μ 40 j).toNat + o)) ∧ ∀ o, o < 18 → (xx_record μ) (((xx_record μ) 40 (μ 39 1)).toNat + o) = μ (3 + o)) ∨
     (μ 39 1 = 4 ∧ (xx_record μ) 39 1 = 4 ∧ (∀ j, 0 ≤ j → j < 3 → ∀ o, o < 18 → (xx_record μ) (((xx_record μ) 40 j).toNat + o) = μ ((μ 40 (j + 1)).toNat + o)) ∧ ∀ o, o < 18 → (xx_record μ) (((xx_record μ) 40 3).toNat + o) = μ (3 + o))) := by
  have gen : ∀ (X : zM) (s : Int), zperm X → 0 ≤ s → s < 4 → (∀ Y : zM, Y = zup (zcs X ((X 40 s).toNat) 3) 39 1 (((zcs X ((X 40 s).toNat) 3) 39 1) + 1) → zperm Y ∧ Y 40 = X 40 ∧ (∀ k, k < 39 ∨ 113 ≤ k → Y k = X k) ∧ Y 39 1 = X 39 1 + 1 ∧ (∀ j, 0 ≤ j → j < 4 → j ≠ s → ∀ o, o < 18 → Y ((X 40 j).toNat + o) = X ((X 40 j).toNat + o)) ∧ ∀ o, o < 18 → Y ((X 40 s).toNat + o) = X (3 + o)) := by
    intro X s PX s0 s4 Y hY
    have hp := (zst_nat (zperm_at PX s0 s4)).1
    have e40 : Y 40 = X 40 := by rw [hY, zup_ne (by decide), zcs_ne (by omega)]
    refine ⟨zperm_cong PX e40, e40, fun k hk => ?_, ?_, fun j j0 j4 hj o ho => ?_, fun o ho => ?_⟩
    · rw [hY, zup_ne (by omega), zcs_ne (by omega)]
    · rw [hY, zup_self, zcs_ne (by omega)]
    · have hq := zst_nat (zperm_at PX j0 j4)
      have hp2 := zst_nat (zperm_at PX s0 s4)
      have hne := zperm_ne PX j0 j4 s0 s4 hj
      have : (X 40 j).toNat ≠ (X 40 s).toNat := by omega
      rw [hY, zup_ne (by omega), zcs_ne (by omega)]
    · rw [hY, zup_ne (by omega), zcs_in ho]
  unfold xx_record
  by_cases h : μ 39 1 < 4
  · rw [if_pos h]
    obtain ⟨a, b, c, d, e, f⟩ := gen μ (μ 39 1) P hs.1 h _ rfl
    refine ⟨a, c, Or.inl ⟨h, d, fun j j0 j1 o ho => ?_, fun o ho => ?_⟩⟩
    · rw [b]; exact e j j0 (by omega) (by omega) o ho
    · rw [b]; exact f o ho
  · obtain ⟨d0, d1, d2, d3, d4, d5⟩ := xe_dropOldest μ P
    rw [if_neg h, d4]
    obtain ⟨a, b, c, d, e, f⟩ := gen (xx_dropOldest μ) 3 (zperm_drop P) (by decide) (by decide) _ rfl
    have sp : ∀ j, 0 ≤ j → j < 3 → (xx_dropOldest μ) 40 j = μ 40 (j + 1) := fun j j0 j1 => by
      rcases (show j = 0 ∨ j = 1 ∨ j = 2 by omega) with rfl | rfl | rfl
      · exact d0
      · exact d1
      · exact d2
    rw [d4] at d
    refine ⟨a, fun k hk => ?_, Or.inr ⟨by omega, d, fun j j0 j1 o ho => ?_, fun o ho => ?_⟩⟩
    · rw [c k hk]; exact d5 k (by omega) (by omega)
    · have hq := zst_nat (zperm_at P (show 0 ≤ j + 1 by omega) (show j + 1 < 4 by omega))
      rw [b, e j j0 (by omega) (by omega) o ho, sp j j0 j1]
      exact d5 _ (by omega) (by omega)
    · rw [b, f o ho]
      exact d5 _ (by omega) (by omega)

theorem hist_b (B : zB μ) : 0 ≤ μ 39 1 ∧ μ 39 1 ≤ 4 := B 39 1
def R2 (μ ν : zM) : Prop := zB μ ∧ zB ν ∧ zperm μ ∧ zperm ν ∧ NR μ ν ∧ (ν 39 1 = μ 39 1) ∧ (∀ j, 0 ≤ j → j < μ 39 1 → SR (fun o => μ ((μ 40 j).toNat + o)) (fun o => ν ((ν 40 j).toNat + o))) ∧ (ν 0 4 = μ 0 4) ∧ (μ 0 4 = 0 ∨ SR (fun o => μ (21 + o)) (fun o => ν (21 + o)))
theorem R2.B (R : R2 μ ν) : zB μ := R.1
theorem R2.B' (R : R2 μ ν) : zB ν := R.2.1
theorem R2.P (R : R2 μ ν) : zperm μ := R.2.2.1
theorem R2.P' (R : R2 μ ν) : zperm ν := R.2.2.2.1
theorem R2.N (R : R2 μ ν) : NR μ ν := R.2.2.2.2.1
/-- an act: the state before it is recorded on both sides, the states behind it are alike -/
theorem R2.act (R : R2 μ ν) (Bc : zB c) (Bd : zB d) (hc : ∀ k, k < 3 ∨ 20 < k → k < 113 → c k = xx_record μ k) (hd : ∀ k, k < 3 ∨ 20 < k → k < 113 → d k = xx_record ν k) (N : NR c d) : R2 c d := by
  obtain ⟨B, B', P, P', N0, Hs, Hh, Hf, Hk⟩ := R
  obtain ⟨p1, p2, p3⟩ := e_record P (hist_b B)
  obtain ⟨q1, q2, q3⟩ := e_record P' (hist_b B')
  have c40 : c 40 = xx_record μ 40 := hc 40 (by omega) (by omega)
  have d40 : d 40 = xx_record ν 40 := hd 40 (by omega) (by omega)
  have c39 : c 39 = xx_record μ 39 := hc 39 (by omega) (by omega)
  have d39 : d 39 = xx_record ν 39 := hd 39 (by omega) (by omega)
  have c0 : c 0 = μ 0 := (hc 0 (by omega) (by omega)).trans (p2 0 (by omega))
  have d0 : d 0 = ν 0 := (hd 0 (by omega) (by omega)).trans (q2 0 (by omega))
  have hb := hist_b B
  refine ⟨Bc, Bd, zperm_cong p1 c40, zperm_cong q1 d40, N, ?_, ?_, by rw [c0, d0]; exact Hf, ?_⟩
  · rw [c39, d39]
    rcases p3 with ⟨u1, u2, -⟩ | ⟨u1, u2, -⟩ <;> rcases q3 with ⟨v1, v2, -⟩ | ⟨v1, v2, -⟩ <;> omega
  · intro j j0 j1
    rw [c40, d40]
    rw [c39] at j1
    have zc : ∀ i, 0 ≤ i → i < 4 → ∀ o, o < 18 → c ((xx_record μ 40 i).toNat + o) = xx_record μ ((xx_record μ 40 i).toNat + o) := fun i i0 i1 o ho => by
      have := (zst_nat (zperm_at p1 i0 i1)).1
      exact hc _ (by omega) (by omega)
    have zd : ∀ i, 0 ≤ i → i < 4 → ∀ o, o < 18 → d ((xx_record ν 40 i).toNat + o) = xx_record ν ((xx_record ν 40 i).toNat + o) := fun i i0 i1 o ho => by
      have := (zst_nat (zperm_at q1 i0 i1)).1
      exact hd _ (by omega) (by omega)
    rcases p3 with ⟨u1, u2, u3, u4⟩ | ⟨u1, u2, u3, u4⟩ <;> rcases q3 with ⟨v1, v2, v3, v4⟩ | ⟨v1, v2, v3, v4⟩
    · rw [u2] at j1
      by_cases hj : j < μ 39 1
      · exact (Hh j j0 hj).cong (fun o ho => (zc j j0 (by omega) o ho).trans (u3 j j0 hj o ho)) (fun o ho => (zd j j0 (by omega) o ho).trans (v3 j j0 (by omega) o ho))
      · obtain rfl : j = μ 39 1 := by omega
        refine N0.cong (fun o ho => (zc _ j0 (by omega) o ho).trans (u4 o ho)) (fun o ho => ?_)
        rw [← Hs]
        exact (zd _ (by omega) (by omega) o ho).trans (v4 o ho)
    · omega
    · omega
    · rw [u2] at j1
      by_cases hj : j < 3
      · exact (Hh (j + 1) (by omega) (by omega)).cong (fun o ho => (zc j j0 (by omega) o ho).trans (u3 j j0 hj o ho)) (fun o ho => (zd j j0 (by omega) o ho).trans (v3 j j0 hj o ho))
      · obtain rfl : j = 3 := by omega
        exact N0.cong (fun o ho => (zc 3 (by omega) (by omega) o ho).trans (u4 o ho)) (fun o ho => (zd 3 (by omega) (by omega) o ho).trans (v4 o ho))
  · rw [c0]
    rcases Hk with h | h
    · exact Or.inl h
    · exact Or.inr (h.cong (fun o ho => (hc (21 + o) (by omega) (by omega)).trans (p2 _ (by omega))) (fun o ho => (hd (21 + o) (by omega) (by omega)).trans (q2 _ (by omega))))
theorem rec_k (R : R2 μ ν) {k : Nat} (h : k < 39) : xx_record μ k = μ k := (e_record R.P (hist_b R.B)).2.1 k (Or.inl h)
theorem rec_k' (R : R2 μ ν) {k : Nat} (h : k < 39) : xx_record ν k = ν k := (e_record R.P' (hist_b R.B')).2.1 k (Or.inl h)
/-- only the texts differ -/
theorem R2.text (R : R2 μ ν) (Bc : zB c) (Bd : zB d) (hc : ∀ k, k ≠ 1 → k ≠ 2 → k < 113 → c k = μ k) (hd : ∀ k, k ≠ 1 → k ≠ 2 → k < 113 → d k = ν k) : R2 c d := by
  obtain ⟨B, B', P, P', N0, Hs, Hh, Hf, Hk⟩ := R
  have hb := hist_b B
  refine ⟨Bc, Bd, zperm_cong P (hc 40 (by omega) (by omega) (by omega)), zperm_cong P' (hd 40 (by omega) (by omega) (by omega)), N0.cong (fun o ho => hc _ (by omega) (by omega) (by omega)) (fun o ho => hd _ (by omega) (by omega) (by omega)), ?_, ?_, ?_, ?_⟩
  · rw [hc 39 (by omega) (by omega) (by omega), hd 39 (by omega) (by omega) (by omega)]; exact Hs
  · rw [hc 39 (by omega) (by omega) (by omega), hc 40 (by omega) (by omega) (by omega), hd 40 (by omega) (by omega) (by omega)]
    intro j j0 j1
    have a := (zst_nat (zperm_at P j0 (by omega))).1
    have b := (zst_nat (zperm_at P' j0 (by omega))).1
    exact (Hh j j0 j1).cong (fun o ho => hc _ (by omega) (by omega) (by omega)) (fun o ho => hd _ (by omega) (by omega) (by omega))
  · rw [hc 0 (by omega) (by omega) (by omega), hd 0 (by omega) (by omega) (by omega)]; exact Hf
  · rw [hc 0 (by omega) (by omega) (by omega)]
    rcases Hk with h | h
    · exact Or.inl h
    · exact Or.inr (h.cong (fun o ho => hc _ (by omega) (by omega) (by omega)) (fun o ho => hd _ (by omega) (by omega) (by omega)))
/-! parts of a state changed -/
section SP
variable {α β α' β' : Nat → Int → Int}
theorem SR.w0 (h : SR α β) (ha : ∀ o, o < 18 → o ≠ 0 → α' o = α o) (hb : ∀ o, o < 18 → o ≠ 0 → β' o = β o) (c : β' 0 4 = α' 0 4 ∧ β' 0 5 = α' 0 5) : SR α' β' := by
  unfold SR
  rw [ha 1 (by decide) (by decide), ha 2 (by decide) (by decide), ha 3 (by decide) (by decide), ha 4 (by decide) (by decide), ha 5 (by decide) (by decide), ha 6 (by decide) (by decide), ha 7 (by decide) (by decide), ha 8 (by decide) (by decide), ha 9 (by decide) (by decide), ha 10 (by decide) (by decide), ha 11 (by decide) (by decide), ha 12 (by decide) (by decide), ha 13 (by decide) (by decide), ha 14 (by decide) (by decide), ha 15 (by decide) (by decide), ha 16 (by decide) (by decide), ha 17 (by decide) (by decide)]
  rw [hb 1 (by decide) (by decide), hb 2 (by decide) (by decide), hb 3 (by decide) (by decide), hb 4 (by decide) (by decide), hb 5 (by decide) (by decide), hb 6 (by decide) (by decide), hb 7 (by decide) (by decide), hb 8 (by decide) (by decide), hb 9 (by decide) (by decide), hb 10 (by decide) (by decide), hb 11 (by decide) (by decide), hb 12 (by decide) (by decide), hb 13 (by decide) (by decide), hb 14 (by decide) (by decide), hb 15 (by decide) (by decide), hb 16 (by decide) (by decide), hb 17 (by decide) (by decide)]
  exact ⟨c, h.2⟩
theorem SR.w6 (h : SR α β) (ha : ∀ o, o < 18 → o ≠ 6 → α' o = α o) (hb : ∀ o, o < 18 → o ≠ 6 → β' o = β o) (c : ∀ e, 0 ≤ e → e < 18 → β' 6 e = nx2 (α' 6 e) ∧ (α' 6 e = 0 ∨ (27 ≤ α' 6 e ∧ α' 6 e ≤ 728))) : SR α' β' := by
  unfold SR
  rw [ha 0 (by decide) (by decide), ha 1 (by decide) (by decide), ha 2 (by decide) (by decide), ha 3 (by decide) (by decide), ha 4 (by decide) (by decide), ha 5 (by decide) (by decide), ha 7 (by decide) (by decide), ha 8 (by decide) (by decide), ha 9 (by decide) (by decide), ha 10 (by decide) (by decide), ha 11 (by decide) (by decide), ha 12 (by decide) (by decide), ha 13 (by decide) (by decide), ha 14 (by decide) (by decide), ha 15 (by decide) (by decide), ha 16 (by decide) (by decide), ha 17 (by decide) (by decide)]
  rw [hb 0 (by decide) (by decide), hb 1 (by decide) (by decide), hb 2 (by decide) (by decide), hb 3 (by decide) (by decide), hb 4 (by decide) (by decide), hb 5 (by decide) (by decide), hb 7 (by decide) (by decide), hb 8 (by decide) (by decide), hb 9 (by decide) (by decide), hb 10 (by decide) (by decide), hb 11 (by decide) (by decide), hb 12 (by decide) (by decide), hb 13 (by decide) (by decide), hb 14 (by decide) (by decide), hb 15 (by decide) (by decide), hb 16 (by decide) (by decide), hb 17 (by decide) (by decide)]
  exact ⟨h.1, h.2.1, h.2.2.1, h.2.2.2.1, c, h.2.2.2.2.2⟩
theorem SR.w16 (h : SR α β) (ha : ∀ o, o < 18 → o ≠ 16 → o ≠ 17 → α' o = α o) (hb : ∀ o, o < 18 → o ≠ 16 → o ≠ 17 → β' o = β o) (c : ∀ t, 0 ≤ t → t ≤ 9 → β' 16 t = α' 16 (9 - t) ∧ β' 17 t = α' 17 (9 - t) ∧ (0 ≤ α' 16 t ∧ α' 16 t ≤ 1) ∧ (0 ≤ α' 17 t ∧ α' 17 t ≤ 2)) : SR α' β' := by
  unfold SR
  rw [ha 0 (by decide) (by decide) (by decide), ha 1 (by decide) (by decide) (by decide), ha 2 (by decide) (by decide) (by decide), ha 3 (by decide) (by decide) (by decide), ha 4 (by decide) (by decide) (by decide), ha 5 (by decide) (by decide) (by decide), ha 6 (by decide) (by decide) (by decide), ha 7 (by decide) (by decide) (by decide), ha 8 (by decide) (by decide) (by decide), ha 9 (by decide) (by decide) (by decide), ha 10 (by decide) (by decide) (by decide), ha 11 (by decide) (by decide) (by decide), ha 12 (by decide) (by decide) (by decide), ha 13 (by decide) (by decide) (by decide), ha 14 (by decide) (by decide) (by decide), ha 15 (by decide) (by decide) (by decide)]
  rw [hb 0 (by decide) (by decide) (by decide), hb 1 (by decide) (by decide) (by decide), hb 2 (by decide) (by decide) (by decide), hb 3 (by decide) (by decide) (by decide), hb 4 (by decide) (by decide) (by decide), hb 5 (by decide) (by decide) (by decide), hb 6 (by decide) (by decide) (by decide), hb 7 (by decide) (by decide) (by decide), hb 8 (by decide) (by decide) (by decide), hb 9 (by decide) (by decide) (by decide), hb 10 (by decide) (by decide) (by decide), hb 11 (by decide) (by decide) (by decide), hb 12 (by decide) (by decide) (by decide), hb 13 (by decide) (by decide) (by decide), hb 14 (by decide) (by decide) (by decide), hb 15 (by decide) (by decide) (by decide)]
  exact ⟨h.1, h.2.1, h.2.2.1, h.2.2.2.1, h.2.2.2.2.1, h.2.2.2.2.2.1, h.2.2.2.2.2.2.1, h.2.2.2.2.2.2.2.1, h.2.2.2.2.2.2.2.2.1, h.2.2.2.2.2.2.2.2.2.1, c⟩
theorem SR.w15 (h : SR α β) (ha : ∀ o, o < 18 → o ≠ 0 → o ≠ 15 → α' o = α o) (hb : ∀ o, o < 18 → o ≠ 0 → o ≠ 15 → β' o = β o) (c : β' 0 4 = α' 0 4 ∧ β' 0 5 = α' 0 5) (e : ∀ g, 0 ≤ g → g < α 7 1 → β' 15 g = α' 15 g ∧ (α' 15 g = -1 ∨ (0 ≤ α' 15 g ∧ α' 15 g < α 1 0 ∧ α 2 (α' 15 g) = α 12 g))) (f : ∀ g i, 0 ≤ g → g < α 7 1 → 0 ≤ i → i < α 7 1 → α 12 g = 0 → α 12 i = 0 → α 13 g = α 13 i → α' 15 g ≠ -1 → α' 15 i ≠ -1 → α 3 (α' 15 g) = α 3 (α' 15 i)) : SR α' β' := by
  unfold SR
  rw [ha 1 (by decide) (by decide) (by decide), ha 2 (by decide) (by decide) (by decide), ha 3 (by decide) (by decide) (by decide), ha 4 (by decide) (by decide) (by decide), ha 5 (by decide) (by decide) (by decide), ha 6 (by decide) (by decide) (by decide), ha 7 (by decide) (by decide) (by decide), ha 8 (by decide) (by decide) (by decide), ha 9 (by decide) (by decide) (by decide), ha 10 (by decide) (by decide) (by decide), ha 11 (by decide) (by decide) (by decide), ha 12 (by decide) (by decide) (by decide), ha 13 (by decide) (by decide) (by decide), ha 14 (by decide) (by decide) (by decide), ha 16 (by decide) (by decide) (by decide), ha 17 (by decide) (by decide) (by decide)]
  rw [hb 1 (by decide) (by decide) (by decide), hb 2 (by decide) (by decide) (by decide), hb 3 (by decide) (by decide) (by decide), hb 4 (by decide) (by decide) (by decide), hb 5 (by decide) (by decide) (by decide), hb 6 (by decide) (by decide) (by decide), hb 7 (by decide) (by decide) (by decide), hb 8 (by decide) (by decide) (by decide), hb 9 (by decide) (by decide) (by decide), hb 10 (by decide) (by decide) (by decide), hb 11 (by decide) (by decide) (by decide), hb 12 (by decide) (by decide) (by decide), hb 13 (by decide) (by decide) (by decide), hb 14 (by decide) (by decide) (by decide), hb 16 (by decide) (by decide) (by decide), hb 17 (by decide) (by decide) (by decide)]
  exact ⟨c, h.2.1, h.2.2.1, h.2.2.2.1, h.2.2.2.2.1, h.2.2.2.2.2.1, h.2.2.2.2.2.2.1, h.2.2.2.2.2.2.2.1, fun g g0 g1 => by
    obtain ⟨a1, a2, a3, -, a5, a6, -⟩ := h.2.2.2.2.2.2.2.2.1 g g0 g1
    exact ⟨a1, a2, a3, (e g g0 g1).1, a5, a6, (e g g0 g1).2⟩, f, h.2.2.2.2.2.2.2.2.2.2⟩
end SP
/-! the acts, one by one -/
theorem b_set (R : R2 μ ν) {a : Int} (ha : 0 ≤ a ∧ a ≤ 1) : (xx_set μ a).1 = (if μ 3 4 = a then -5 else μ 3 4) ∧ (xx_set ν a).1 = (if μ 3 4 = a then -5 else μ 3 4) ∧ R2 (xx_set μ a).2 (xx_set ν a).2 := by
  have e := R.N.once
  have xb := xb_set R.B a R.P (by omega)
  have xb' := xb_set R.B' a R.P' (by omega)
  unfold xx_set at xb xb' ⊢
  rw [ib_1 ha.1 (show a < 2 by omega), if_neg n10'] at xb xb' ⊢
  rw [if_neg n10']
  rw [e] at xb' ⊢
  by_cases h : μ 3 4 = a
  · rw [if_pos h.symm, if_pos h.symm, if_pos h]
    exact ⟨rfl, rfl, R⟩
  · rw [if_neg (fun q => h q.symm)] at xb xb'
    rw [if_neg (show ¬ a = μ 3 4 from fun q => h q.symm), if_neg (show ¬ a = μ 3 4 from fun q => h q.symm), if_neg h]
    refine ⟨rfl, rfl, R.act xb xb' (fun k hk _ => zup_ne (by omega)) (fun k hk _ => zup_ne (by omega)) ?_⟩
    refine R.N.w0 (fun o h1 h2 => (zup_ne (by omega)).trans (rec_k R (by omega))) (fun o h1 h2 => (zup_ne (by omega)).trans (rec_k' R (by omega))) ⟨?_, ?_⟩
    · show zup (xx_record ν) 3 4 a 3 4 = zup (xx_record μ) 3 4 a 3 4
      rw [zup_self, zup_self]
    · show zup (xx_record ν) 3 4 a 3 5 = zup (xx_record μ) 3 4 a 3 5
      rw [zup_slot (by decide), zup_slot (by decide), rec_k R (by decide), rec_k' R (by decide)]
      exact R.N.fil
theorem b_setTie (R : R2 μ ν) {t a b : Int} (ht : 0 ≤ t ∧ t ≤ 9) (ha : 0 ≤ a ∧ a ≤ 1) (hb : 0 ≤ b ∧ b ≤ 2) : (xx_setTie μ t a b).1 = (if 3 * μ 19 t + μ 20 t = 3 * a + b then -5 else 3 * μ 19 t + μ 20 t) ∧ (xx_setTie ν (9 - t) a b).1 = (xx_setTie μ t a b).1 ∧ (xx_setTie μ t a b).2 19 t = a ∧ (xx_setTie μ t a b).2 20 t = b ∧ R2 (xx_setTie μ t a b).2 (xx_setTie ν (9 - t) a b).2 := by
  have e := R.N.ti (t := 9 - t) (by omega) (by omega)
  rw [show 9 - (9 - t) = t by omega] at e
  have r := R.N.ti ht.1 ht.2
  have xb := xb_setTie R.B t a b R.P (by omega) (by omega) (by omega)
  have xb' := xb_setTie R.B' (9 - t) a b R.P' (by omega) (by omega) (by omega)
  have hx : ∀ (M : zM) (u : Int), 0 ≤ u → u ≤ 9 → xx_setTie M u a b = if a = M 19 u ∧ b = M 20 u then (-5, M) else (3 * M 19 u + M 20 u, zup (zup (xx_record M) 19 u a) 20 u b) := by
    intro M u u0 u1
    unfold xx_setTie
    rw [ib_1 u0 (show u < 10 by omega), if_neg n10', ib_1 ha.1 (show a < 2 by omega), if_neg n10', ib_1 hb.1 (show b < 3 by omega), if_neg n10']
    by_cases h1 : a = M 19 u
    · rw [if_pos h1]
      by_cases h2 : b = M 20 u
      · rw [if_pos h2, if_pos ⟨h1, h2⟩]
      · rw [if_neg h2, if_neg (fun q => h2 q.2)]
    · rw [if_neg h1, if_neg (fun q => h1 q.1)]
  rw [hx μ t ht.1 ht.2] at xb ⊢
  rw [hx ν (9 - t) (by omega) (by omega), e.1, e.2.1] at xb' ⊢
  by_cases h : a = μ 19 t ∧ b = μ 20 t
  · rw [if_pos h, if_pos h, if_pos (by omega)]
    exact ⟨rfl, rfl, h.1.symm, h.2.symm, R⟩
  · rw [if_neg h] at xb xb'
    rw [if_neg h, if_neg h, if_neg (by omega)]
    refine ⟨rfl, rfl, ?_, by dsimp only; exact zup_self, R.act xb xb' (fun k hk _ => (zup_ne (by omega)).trans (zup_ne (by omega))) (fun k hk _ => (zup_ne (by omega)).trans (zup_ne (by omega))) ?_⟩
    · show zup (zup (xx_record μ) 19 t a) 20 t b 19 t = a
      rw [zup_ne (by decide), zup_self]
    · refine R.N.w16 (fun o h1 h2 h3 => (zup_ne (by omega)).trans ((zup_ne (by omega)).trans (rec_k R (by omega)))) (fun o h1 h2 h3 => (zup_ne (by omega)).trans ((zup_ne (by omega)).trans (rec_k' R (by omega)))) (fun u u0 u1 => ?_)
      show zup (zup (xx_record ν) 19 (9 - t) a) 20 (9 - t) b 19 u = zup (zup (xx_record μ) 19 t a) 20 t b 19 (9 - u) ∧ zup (zup (xx_record ν) 19 (9 - t) a) 20 (9 - t) b 20 u = zup (zup (xx_record μ) 19 t a) 20 t b 20 (9 - u) ∧ (0 ≤ zup (zup (xx_record μ) 19 t a) 20 t b 19 u ∧ zup (zup (xx_record μ) 19 t a) 20 t b 19 u ≤ 1) ∧ (0 ≤ zup (zup (xx_record μ) 19 t a) 20 t b 20 u ∧ zup (zup (xx_record μ) 19 t a) 20 t b 20 u ≤ 2)
      have s := R.N.ti u0 u1
      simp only [zup_ne (show (19 : Nat) ≠ 20 by decide), zup_at, zup_ne (show (20 : Nat) ≠ 19 by decide), rec_k R (show 19 < 39 by decide), rec_k R (show 20 < 39 by decide), rec_k' R (show 19 < 39 by decide), rec_k' R (show 20 < 39 by decide)]
      by_cases q : u = t
      · rw [if_pos q, if_pos q]
        by_cases q2 : u = 9 - t
        · omega
        · rw [if_neg q2, if_neg q2, if_neg (by omega), if_neg (by omega)]; omega
      · rw [if_neg q, if_neg q]
        by_cases q2 : u = 9 - t
        · rw [if_pos q2, if_pos q2, if_pos (by omega), if_pos (by omega)]; omega
        · rw [if_neg q2, if_neg q2, if_neg (by omega), if_neg (by omega)]; omega
theorem b_setEnding (R : R2 μ ν) {k f a b : Int} (hk : 0 ≤ k ∧ k ≤ 2) (hf : 0 ≤ f ∧ f ≤ 5) (ha : 0 ≤ a ∧ a ≤ 26) (hb : 0 ≤ b ∧ b ≤ 26) (h0 : a = 0 → b = 0) : (((xx_setEnding μ k f a b).1 = -5 ∧ (xx_setEnding ν k f (nxt a) (nxt b)).1 = -5) ∨ (0 ≤ (xx_setEnding μ k f a b).1 ∧ (xx_setEnding μ k f a b).1 ≤ 728 ∧ (xx_setEnding ν k f (nxt a) (nxt b)).1 = nx2 (xx_setEnding μ k f a b).1)) ∧ R2 (xx_setEnding μ k f a b).2 (xx_setEnding ν k f (nxt a) (nxt b)).2 := by
  obtain ⟨e, r⟩ := al_endingOf R.N k f
  have na := nxt_r ha.1 ha.2
  have nb := nxt_r hb.1 hb.2
  have xb := xb_setEnding R.B k f a b R.P (by omega) (by omega) (by omega) (by omega)
  have xb' := xb_setEnding R.B' k f (nxt a) (nxt b) R.P' (by omega) (by omega) (by omega) (by omega)
  have ie : ∀ x y : Int, 0 ≤ x → x ≤ 26 → 0 ≤ y → y ≤ 26 → (x = 0 → y = 0) → xx_isEnding x y = 1 := by
    intro x y x0 x1 y0 y1 xy
    unfold xx_isEnding
    rw [ib_1 x0 (by omega), if_neg n10']
    by_cases q : x = 0
    · rw [if_pos q, xy q, ib_1 (by decide) (by decide), if_neg n10']
    · rw [if_neg q, ib_1 y0 (by omega), if_neg n10']
  have e2 : 27 * nxt a + nxt b = nx2 (27 * a + b) := by
    unfold nx2
    rw [show (27 * a + b) / 27 = a by omega, show (27 * a + b) % 27 = b by omega]
  have hx : ∀ (M : zM) (x y : Int), xx_isEnding x y = 1 → xx_setEnding M k f x y = if 27 * x + y = xx_endingOf M k f then (-5, M) else (xx_endingOf M k f, zup (xx_record M) 9 (k * 6 + f) (27 * x + y)) := by
    intro M x y hi
    unfold xx_setEnding xx_changeEnding
    rw [ib_1 hk.1 (show k < 3 by omega), if_neg n10', ib_1 hf.1 (show f < 6 by omega), if_neg n10', hi, if_neg n10', if_neg n10', if_neg n10']
  rw [hx μ a b (ie a b ha.1 ha.2 hb.1 hb.2 h0)] at xb ⊢
  rw [hx ν (nxt a) (nxt b) (ie _ _ (by omega) (by omega) (by omega) (by omega) (by omega)), e, e2] at xb' ⊢
  by_cases h : 27 * a + b = xx_endingOf μ k f
  · rw [if_pos h, if_pos (by rw [h])]
    exact ⟨Or.inl ⟨rfl, rfl⟩, R⟩
  · have h2 : ¬ nx2 (27 * a + b) = nx2 (xx_endingOf μ k f) := fun q => h (nx2_inj (by omega) (by omega) (by omega) (by omega) q)
    rw [if_neg h] at xb
    rw [if_neg h2] at xb'
    rw [if_neg h, if_neg h2]
    refine ⟨Or.inr ⟨by dsimp only; omega, by dsimp only; omega, rfl⟩, R.act xb xb' (fun k hk _ => zup_ne (by omega)) (fun k hk _ => zup_ne (by omega)) ?_⟩
    refine R.N.w6 (fun o h1 h2 => (zup_ne (by omega)).trans (rec_k R (by omega))) (fun o h1 h2 => (zup_ne (by omega)).trans (rec_k' R (by omega))) (fun u u0 u1 => ?_)
    show zup (xx_record ν) 9 (k * 6 + f) (nx2 (27 * a + b)) 9 u = nx2 (zup (xx_record μ) 9 (k * 6 + f) (27 * a + b) 9 u) ∧ (zup (xx_record μ) 9 (k * 6 + f) (27 * a + b) 9 u = 0 ∨ (27 ≤ zup (xx_record μ) 9 (k * 6 + f) (27 * a + b) 9 u ∧ zup (xx_record μ) 9 (k * 6 + f) (27 * a + b) 9 u ≤ 728))
    rw [zup_at, zup_at, rec_k R (by decide), rec_k' R (by decide)]
    by_cases q : u = k * 6 + f
    · rw [if_pos q, if_pos q]; exact ⟨rfl, by omega⟩
    · rw [if_neg q, if_neg q]; exact R.N.en u0 u1
theorem b_keep (R : R2 μ ν) : (xx_keep ν).1 = (xx_keep μ).1 ∧ R2 (xx_keep μ).2 (xx_keep ν).2 := by
  have xb := xb_keep R.B R.P
  have xb' := xb_keep R.B' R.P'
  obtain ⟨B, B', P, P', N, Hs, Hh, Hf, Hk⟩ := R
  have hb := hist_b B
  unfold xx_keep at xb xb' ⊢
  dsimp only at xb xb' ⊢
  have lo : ∀ (M : zM) (k : Nat), k ≠ 0 → k < 21 ∨ 39 ≤ k → zup (zcs M 21 3) 0 4 1 k = M k := fun M k k0 hk => by rw [zup_ne k0, zcs_ne (by omega)]
  refine ⟨by rw [zcs_ne (by omega), zcs_ne (by omega)]; exact N.kn, xb, xb', zperm_cong P (lo μ 40 (by omega) (by omega)), zperm_cong P' (lo ν 40 (by omega) (by omega)), N.cong (fun o ho => lo μ _ (by omega) (by omega)) (fun o ho => lo ν _ (by omega) (by omega)), ?_, ?_, ?_, Or.inr ?_⟩
  · rw [lo μ 39 (by omega) (by omega), lo ν 39 (by omega) (by omega)]; exact Hs
  · rw [lo μ 39 (by omega) (by omega), lo μ 40 (by omega) (by omega), lo ν 40 (by omega) (by omega)]
    intro j j0 j1
    have a := (zst_nat (zperm_at P j0 (by omega))).1
    have b := (zst_nat (zperm_at P' j0 (by omega))).1
    exact (Hh j j0 j1).cong (fun o ho => lo μ _ (by omega) (by omega)) (fun o ho => lo ν _ (by omega) (by omega))
  · rw [zup_self, zup_self]
  · exact N.cong (fun o ho => by rw [zup_ne (by omega), zcs_in ho]) (fun o ho => by rw [zup_ne (by omega), zcs_in ho])
theorem b_restore (R : R2 μ ν) : (xx_restore ν).1 = (xx_restore μ).1 ∧ R2 (xx_restore μ).2 (xx_restore ν).2 := by
  have xb := xb_restore R.B R.P
  have xb' := xb_restore R.B' R.P'
  have Hf := R.2.2.2.2.2.2.2.1
  have Hk := R.2.2.2.2.2.2.2.2
  unfold xx_restore at xb xb' ⊢
  rw [Hf] at xb' ⊢
  by_cases h : μ 0 4 = 0
  · rw [if_pos h, if_pos h]; exact ⟨rfl, R⟩
  · rw [if_neg h] at xb xb'
    rw [if_neg h, if_neg h]
    have S : SR (fun o => μ (21 + o)) (fun o => ν (21 + o)) := by
      rcases Hk with q | q
      · exact absurd q h
      · exact q
    have N : NR (zcs (xx_record μ) 3 21) (zcs (xx_record ν) 3 21) := S.cong (fun o ho => by rw [zcs_in ho]; exact rec_k R (by omega)) (fun o ho => by rw [zcs_in ho]; exact rec_k' R (by omega))
    exact ⟨N.kn, R.act xb xb' (fun k hk _ => zcs_ne (by omega)) (fun k hk _ => zcs_ne (by omega)) N⟩
theorem b_undo (R : R2 μ ν) : (xx_undo ν).1 = (xx_undo μ).1 ∧ R2 (xx_undo μ).2 (xx_undo ν).2 := by
  have xb := xb_undo R.B R.P
  have xb' := xb_undo R.B' R.P'
  have R0 := R
  obtain ⟨B, B', P, P', N, Hs, Hh, Hf, Hk⟩ := R
  have hb := hist_b B
  by_cases h : μ 39 1 = 0
  · have hx : xx_undo μ = (-5, μ) := by unfold xx_undo; rw [if_pos h]
    have hy : xx_undo ν = (-5, ν) := by unfold xx_undo; rw [Hs, if_pos h]
    rw [hx, hy]; exact ⟨rfl, R0⟩
  · obtain ⟨c, hc⟩ : ∃ c, c = zup (zcs μ 3 ((μ 40 (μ 39 1 - 1)).toNat)) 39 1 (μ 39 1 - 1) := ⟨_, rfl⟩
    obtain ⟨d, hd⟩ : ∃ d, d = zup (zcs ν 3 ((ν 40 (μ 39 1 - 1)).toNat)) 39 1 (μ 39 1 - 1) := ⟨_, rfl⟩
    have c1 : c 39 1 = μ 39 1 - 1 := by rw [hc, zup_self]
    have d1 : d 39 1 = μ 39 1 - 1 := by rw [hd, zup_self]
    have e1 : xx_bringBack μ = c := by
      unfold xx_bringBack
      rw [zcs_ne (k := 39) (by omega), hc]
    have e2 : xx_bringBack ν = d := by
      unfold xx_bringBack
      rw [zcs_ne (k := 39) (by omega), Hs, hd]
    have hx : xx_undo μ = (μ 39 1 - 1, c) := by unfold xx_undo; rw [if_neg h, e1, c1]
    have hy : xx_undo ν = (μ 39 1 - 1, d) := by unfold xx_undo; rw [Hs, if_neg h, e2, d1]
    rw [hx] at xb ⊢
    rw [hy] at xb' ⊢
    have lo : ∀ (k : Nat), k ≠ 39 → k < 3 ∨ 21 ≤ k → c k = μ k := fun k k0 hk => by rw [hc, zup_ne k0, zcs_ne (by omega)]
    have ld : ∀ (k : Nat), k ≠ 39 → k < 3 ∨ 21 ≤ k → d k = ν k := fun k k0 hk => by rw [hd, zup_ne k0, zcs_ne (by omega)]
    refine ⟨rfl, xb, xb', zperm_cong P (lo 40 (by omega) (by omega)), zperm_cong P' (ld 40 (by omega) (by omega)), ?_, d1.trans c1.symm, ?_, ?_, ?_⟩
    · exact (Hh (μ 39 1 - 1) (by omega) (by omega)).cong (fun o ho => by dsimp only; rw [hc, zup_ne (by omega), zcs_in ho]) (fun o ho => by dsimp only; rw [hd, zup_ne (by omega), zcs_in ho])
    · dsimp only
      rw [c1, lo 40 (by omega) (by omega), ld 40 (by omega) (by omega)]
      intro j j0 j1
      have a := (zst_nat (zperm_at P j0 (by omega))).1
      have b := (zst_nat (zperm_at P' j0 (by omega))).1
      exact (Hh j j0 (by omega)).cong (fun o ho => lo _ (by omega) (by omega)) (fun o ho => ld _ (by omega) (by omega))
    · dsimp only
      rw [lo 0 (by omega) (by omega), ld 0 (by omega) (by omega)]; exact Hf
    · dsimp only
      rw [lo 0 (by omega) (by omega)]
      rcases Hk with q | q
      · exact Or.inl q
      · exact Or.inr (q.cong (fun o ho => lo _ (by omega) (by omega)) (fun o ho => ld _ (by omega) (by omega)))
end EQ
