/-! how a tale is read -/
noncomputable def tbn (μ : zM) : Nat → Int
  | 0 => 0
  | n + 1 => xx_endOfItem μ (tbn μ n) + 1
noncomputable def tb (μ : zM) (i : Int) : Int := tbn μ i.toNat
theorem tb_zero {μ : zM} : tb μ 0 = 0 := rfl
theorem tb_succ {μ : zM} {i : Int} (h : 0 ≤ i) : tb μ (i + 1) = xx_endOfItem μ (tb μ i) + 1 := by
  obtain ⟨n, rfl⟩ := Int.eq_ofNat_of_zero_le h
  unfold tb
  rw [show ((n : Int) + 1).toNat = n + 1 by omega, show ((n : Int)).toNat = n by omega]
  rfl
section EQ
variable {μ ν : zM}
theorem t_holeAt (μ : zM) (s : Int) : (xx_hasHoleAt μ s = 1 ∧ xx_signAt μ s = 35) ∨ (xx_hasHoleAt μ s = 0 ∧ ¬ xx_signAt μ s = 35) := by
  unfold xx_hasHoleAt
  by_cases h : xx_signAt μ s = 35
  · rw [if_pos h]; exact Or.inl ⟨rfl, h⟩
  · rw [if_neg h]; exact Or.inr ⟨rfl, h⟩
theorem t_fault0 (μ : zM) {st : Int} (h : 0 ≤ st) : xx_faultInItem μ st = -1 ∨ 0 ≤ xx_faultInItem μ st := by
  unfold xx_faultInItem
  by_cases h1 : xx_hasHoleAt μ st = 0
  · rw [if_pos h1]
    by_cases h2 : xx_hasLetterAt μ st = 0
    · rw [if_pos h2]; exact Or.inr h
    · rw [if_neg h2]; exact Or.inl rfl
  · rw [if_neg h1]
    by_cases h2 : xx_kindAt μ (st + 1) = -1
    · rw [if_pos h2]; exact Or.inr (by omega)
    · rw [if_neg h2]
      by_cases h3 : xx_digitAt μ (st + 2) = -1
      · rw [if_pos h3]; exact Or.inr (by omega)
      · rw [if_neg h3]; exact Or.inl rfl
theorem t_valid (T : Rt μ) {st : Int} (h0 : 0 ≤ st) (h : xx_faultInItem μ st = -1) : st < xx_endOfItem μ st ∧ xx_endOfItem μ st ≤ μ 113 8 ∧ ((xx_hasHoleAt μ st = 1 ∧ xx_endOfItem μ st = st + 3) ∨ (xx_hasHoleAt μ st = 0 ∧ xx_endOfItem μ st ≤ st + 10)) := by
  unfold xx_faultInItem at h
  rcases t_holeAt μ st with ⟨a, b⟩ | ⟨a, b⟩
  · rw [a, if_neg n10] at h
    have he : xx_endOfItem μ st = st + 3 := by unfold xx_endOfItem; rw [a, if_neg n10]
    rw [he]
    have hd : ¬ xx_digitAt μ (st + 2) = -1 := by
      intro hd
      rw [hd, if_pos rfl] at h
      split at h <;> omega
    rcases t_digit μ (st + 2) with ⟨c, -⟩ | ⟨c, d⟩
    · exact absurd c hd
    · rcases t_sign T (st + 2) with ⟨e, f, -⟩ | ⟨-, f⟩
      · exact ⟨by omega, by omega, Or.inl ⟨a, rfl⟩⟩
      · omega
  · rw [a, if_pos rfl] at h
    have he : xx_endOfItem μ st = xx_endOfLetters μ st 10 := by unfold xx_endOfItem; rw [a, if_pos rfl]
    obtain ⟨b1, b2, b3, b4⟩ := t_eolq μ (st := st) (most := 10) (by decide)
    rw [he]
    have hl : xx_hasLetterAt μ st = 1 := by
      rcases t_letter μ st with ⟨l, -⟩ | ⟨l, -⟩
      · exact l
      · rw [l, if_pos rfl] at h; omega
    have hlt : st < xx_endOfLetters μ st 10 := by
      rcases b4 with b4 | b4
      · omega
      · rcases Int.lt_or_le st (xx_endOfLetters μ st 10) with g | g
        · exact g
        · rw [show xx_endOfLetters μ st 10 = st by omega] at b4; omega
    have := (t_len T (b3 (xx_endOfLetters μ st 10 - 1) (by omega) (by omega))).2.1
    exact ⟨hlt, by omega, Or.inr ⟨a, by omega⟩⟩
def Parse (μ : zM) (N : Int) : Prop := (1 ≤ N ∧ N ≤ 20) ∧ (∀ i, 0 ≤ i → i < N → 0 ≤ tb μ i ∧ xx_faultInItem μ (tb μ i) = -1) ∧ (∀ i, 0 ≤ i → i + 1 < N → xx_endOfItem μ (tb μ i) < μ 113 8) ∧ xx_endOfItem μ (tb μ (N - 1)) = μ 113 8
theorem t_tf0 (g : Nat) (X : zM) : mm_taleFault_12 (g + 1) X 0 = (if X 113 9 = X 113 8 then (-5, X) else (X 113 9, X)) := by rw [mm_taleFault_12, if_pos rfl]
theorem t_tf (T : Rt μ) : ∀ (g f : Nat) (ν : zM) (n : Int), TS μ ν → ν 113 9 = tb μ n → ν 113 10 = n → 0 ≤ n → n < 20 → 20 - n < (f : Int) → 21 - n < (g : Int) → 0 ≤ tb μ n →
    (∀ i, 0 ≤ i → i < n → ITm μ (ν 118) i (tb μ i) ∧ (0 ≤ tb μ i ∧ xx_faultInItem μ (tb μ i) = -1) ∧ xx_endOfItem μ (tb μ i) < μ 113 8) →
    (xx_faultAsTale_4 f μ (tb μ n) (n + 1) = -1 ∧ (mm_taleFault_12 g ν 1).1 = -5 ∧ ∃ N, Parse μ N ∧ (mm_taleFault_12 g ν 1).2 113 10 = N ∧ ∀ i, 0 ≤ i → i < N → ITm μ ((mm_taleFault_12 g ν 1).2 118) i (tb μ i)) ∨ (0 ≤ xx_faultAsTale_4 f μ (tb μ n) (n + 1) ∧ (mm_taleFault_12 g ν 1).1 = xx_faultAsTale_4 f μ (tb μ n) (n + 1)) := by
  intro g
  induction g with
  | zero => intro f ν n S e e10 n0 n1 hf hg; omega
  | succ g ih =>
    intro f ν n S e e10 n0 n1 hf hg t0 hI
    obtain ⟨f, rfl⟩ : ∃ k, f = k + 1 := ⟨f - 1, by omega⟩
    obtain ⟨g, rfl⟩ : ∃ k, g = k + 1 := ⟨g - 1, by omega⟩
    rw [mm_taleFault_12, xx_faultAsTale_4, if_neg n10, if_neg (show ¬ 20 < n + 1 by omega)]
    have S1 : TS μ (zup (zup (zset ν 118 ((mm_readsItem ν).2 118)) 113 9 ((mm_readsItem ν).2 113 9)) 113 10 ((mm_readsItem ν).2 113 10)) := ⟨by rw [zup_ne (by decide), zup_ne (by decide), zset_ne (by decide)]; exact S.1, by rw [zup_slot (by decide), zup_slot (by decide), zset_ne (by decide)]; exact S.2⟩
    have e1 : (zup (zup (zset ν 118 ((mm_readsItem ν).2 118)) 113 9 ((mm_readsItem ν).2 113 9)) 113 10 ((mm_readsItem ν).2 113 10)) 113 9 = (mm_readsItem ν).2 113 9 := by rw [zup_slot (by decide), zup_self]
    have e2 : (zup (zup (zset ν 118 ((mm_readsItem ν).2 118)) 113 9 ((mm_readsItem ν).2 113 9)) 113 10 ((mm_readsItem ν).2 113 10)) 113 10 = (mm_readsItem ν).2 113 10 := zup_self
    have e3 : (zup (zup (zset ν 118 ((mm_readsItem ν).2 118)) 113 9 ((mm_readsItem ν).2 113 9)) 113 10 ((mm_readsItem ν).2 113 10)) 118 = (mm_readsItem ν).2 118 := by rw [zup_ne (by decide), zup_ne (by decide), zset_eq]
    generalize zup (zup (zset ν 118 ((mm_readsItem ν).2 118)) 113 9 ((mm_readsItem ν).2 113 9)) 113 10 ((mm_readsItem ν).2 113 10) = X at S1 e1 e2 e3
    rcases t_item T S e t0 e10 with ⟨r1, r2, r3⟩ | ⟨r1, r2, r3, r4, r5, r6⟩
    · right
      rw [r2, if_pos rfl, if_neg r1]
      dsimp only
      rw [e1, r3]
      rcases t_fault0 μ t0 with h | h
      · exact absurd h r1
      · exact ⟨h, rfl⟩
    · rw [r2, if_neg n10, if_pos r1, T.1]
      rw [r3] at e1
      rw [r4] at e2
      obtain ⟨v1, v2, v3⟩ := t_valid T t0 r1
      have hI2 : ∀ i, 0 ≤ i → i < n + 1 → ITm μ (X 118) i (tb μ i) ∧ (0 ≤ tb μ i ∧ xx_faultInItem μ (tb μ i) = -1) := by
        intro i i0 i1
        by_cases hi : i = n
        · rw [hi, e3]; exact ⟨r5, t0, r1⟩
        · obtain ⟨q1, q2, q3⟩ := hI i i0 (by omega)
          refine ⟨?_, q2⟩
          rw [e3]
          rcases q1 with ⟨a, b, c, d, e', g1, g2⟩ | ⟨a, b, c, d⟩
          · exact Or.inl ⟨a, by rw [r6 _ (by omega)]; exact b, by rw [r6 _ (by omega)]; exact c, by rw [r6 _ (by omega)]; exact d, by rw [r6 _ (by omega)]; exact e', g1, g2⟩
          · have hv := t_valid T q2.1 q2.2
            refine Or.inr ⟨a, by rw [r6 _ (by omega)]; exact b, by rw [r6 _ (by omega)]; exact c, fun p p0 p1 => by rw [r6 _ (by omega)]; exact d p p0 p1⟩
      have done : xx_endOfItem μ (tb μ n) = μ 113 8 → (-1 : Int) = -1 ∧ (mm_taleFault_12 (g + 1) X 0).1 = -5 ∧ ∃ N, Parse μ N ∧ (mm_taleFault_12 (g + 1) X 0).2 113 10 = N ∧ ∀ i, 0 ≤ i → i < N → ITm μ ((mm_taleFault_12 (g + 1) X 0).2 118) i (tb μ i) := by
        intro hE
        rw [t_tf0, if_pos (by rw [e1, S1.2]; exact hE)]
        refine ⟨rfl, rfl, n + 1, ⟨⟨by omega, by omega⟩, fun i i0 i1 => (hI2 i i0 i1).2, fun i i0 i1 => (hI i i0 (by omega)).2.2, ?_⟩, e2, fun i i0 i1 => (hI2 i i0 i1).1⟩
        rw [show n + 1 - 1 = n by omega]; exact hE
      have stop : ¬ xx_endOfItem μ (tb μ n) = μ 113 8 → (mm_taleFault_12 (g + 1) X 0).1 = xx_endOfItem μ (tb μ n) := by
        intro hE
        rw [t_tf0, if_neg (by rw [e1, S1.2]; exact hE)]
        exact e1
      have h0 : 0 ≤ xx_endOfItem μ (tb μ n) := by omega
      by_cases hE : xx_endOfItem μ (tb μ n) < μ 113 8
      · rw [if_pos hE]
        by_cases h32 : xx_signAt μ (xx_endOfItem μ (tb μ n)) = 32
        · rw [if_pos h32]
          by_cases h20 : n + 1 = 20
          · right
            rw [if_pos h20, if_neg (show ¬ X 113 10 < 20 by omega)]
            exact ⟨h0, stop (by omega)⟩
          · rw [if_neg h20, if_pos (show X 113 10 < 20 by omega)]
            rcases t_takes T S1 (c := 32) (by decide) e1 h0 with ⟨c1, c2⟩ | ⟨c1, c2⟩
            · rw [c2, if_neg n10]
              dsimp only
              rw [zup_self, ← tb_succ n0]
              have st := ih f (zup X 113 9 (tb μ (n + 1))) (n + 1) ⟨by rw [zup_ne (by decide)]; exact S1.1, by rw [zup_slot (by decide)]; exact S1.2⟩ zup_self (by rw [zup_slot (by decide)]; exact e2) (by omega) (by omega) (by omega) (by omega) (by rw [tb_succ n0]; omega) (fun i i0 i1 => by
                rw [zup_ne (by decide)]
                refine ⟨(hI2 i i0 i1).1, (hI2 i i0 i1).2, ?_⟩
                by_cases hi : i = n
                · rw [hi]; exact hE
                · exact (hI i i0 (by omega)).2.2)
              exact st
            · exact absurd h32 c1
        · right
          rw [if_neg h32]
          by_cases h20 : X 113 10 < 20
          · rw [if_pos h20]
            rcases t_takes T S1 (c := 32) (by decide) e1 h0 with ⟨c1, c2⟩ | ⟨c1, c2⟩
            · exact absurd c1 h32
            · rw [c2, if_pos rfl, zup_id]
              exact ⟨h0, stop (by omega)⟩
          · rw [if_neg h20]
            exact ⟨h0, stop (by omega)⟩
      · left
        have hE2 : xx_endOfItem μ (tb μ n) = μ 113 8 := by omega
        rw [if_neg hE]
        by_cases h20 : X 113 10 < 20
        · rw [if_pos h20]
          rcases t_takes T S1 (c := 32) (by decide) e1 h0 with ⟨c1, c2⟩ | ⟨c1, c2⟩
          · rcases t_sign T (xx_endOfItem μ (tb μ n)) with ⟨-, q, -⟩ | ⟨-, q⟩ <;> omega
          · rw [c2, if_pos rfl, zup_id]
            exact done hE2
        · rw [if_neg h20]
          exact done hE2
theorem t_tale (T : Rt μ) : (xx_faultAsTale μ = -1 ∧ (mm_taleFault μ).1 = -5 ∧ ∃ N, Parse μ N ∧ (mm_taleFault μ).2 113 10 = N ∧ ∀ i, 0 ≤ i → i < N → ITm μ ((mm_taleFault μ).2 118) i (tb μ i)) ∨ (0 ≤ xx_faultAsTale μ ∧ (mm_taleFault μ).1 = xx_faultAsTale μ) := by
  have hN := zN_big
  exact t_tf T zN zN (zup (zup μ 113 9 0) 113 10 0) 0 ⟨by rw [zup_ne (by decide), zup_ne (by decide)], by rw [zup_slot (by decide), zup_slot (by decide)]⟩ (by rw [zup_slot (by decide), zup_self]; rfl) zup_self (by decide) (by decide) (by omega) (by omega) (Int.le_refl (0 : Int)) (fun i i0 i1 => by omega)
/-- the tale is taken: what stands in the class behind n items (flags of holes: those of a row) -/
def TkC (μ : zM) (ρ : Int → Int) (ν : zM) (n : Int) : Prop := (∀ k, k < 10 ∨ 18 < k → ν k = μ k) ∧ ν 10 0 = n ∧ ν 10 1 = hc ρ n ∧ (∀ p, 0 ≤ p → p < 60 → ν 14 p = xx_signAt μ p) ∧ ∀ i, 0 ≤ i → i < n → ν 12 i = tb μ i ∧ ν 13 i = xx_endOfItem μ (tb μ i) - tb μ i ∧ (ρ (304 + 14 * i + 0) = 1 → ν 11 i = hc ρ i ∧ ν 17 (hc ρ i) = i ∧ ν 15 (hc ρ i) = xx_kindAt μ (tb μ i + 1) ∧ ν 16 (hc ρ i) = xx_digitAt μ (tb μ i + 2) ∧ ν 18 (hc ρ i) = -1) ∧ (¬ ρ (304 + 14 * i + 0) = 1 → ν 11 i = -1)
theorem t_tk39 (T : Rt μ) {N : Int} (P : Parse μ N) {ρ : Int → Int} (hρ : ∀ i, 0 ≤ i → i < N → (ρ (304 + 14 * i + 0) = 1 ↔ xx_hasHoleAt μ (tb μ i) = 1)) : ∀ (g : Nat) (ν : zM) (n : Int), 0 ≤ n → n ≤ N → N - n < (g : Int) → TkC μ ρ ν n → TkC μ ρ (xx_takeFrom_39 g ν (tb μ n) n) N := by
  intro g
  induction g with
  | zero => intro ν n n0 n1 hg; omega
  | succ g ih =>
    intro ν n n0 n1 hg C
    have hC := C
    obtain ⟨P1, P2, P3, P4⟩ := P
    obtain ⟨C1, C2, C3, C4, C5⟩ := C
    have e1 : ν 1 = μ 1 := C1 1 (by omega)
    have e2 : ν 2 = μ 2 := C1 2 (by omega)
    rw [xx_takeFrom_39]
    by_cases hn : n < N
    · obtain ⟨t0, tv⟩ := P2 n n0 hn
      obtain ⟨v1, v2, v3⟩ := t_valid T t0 tv
      have hs := tb_succ (μ := μ) n0
      have hcs := hc_succ (ρ := ρ) n0
      have hle := hc_le ρ n0
      have hnn := hc_nn ρ n
      rw [if_pos (show n < 20 by omega), if_pos (show tb μ n < ν 1 1 by rw [e1, T.1]; omega), c_endOfItem e1 e2]
      have hm : ∀ i, 0 ≤ i → i < n → ρ (304 + 14 * i + 0) = 1 → hc ρ i < hc ρ n := by
        intro i i0 i1 hi
        have a := hc_succ (ρ := ρ) i0
        rw [if_pos hi] at a
        have b := hc_mono ρ (show 0 ≤ i + 1 by omega) (show i + 1 ≤ n by omega)
        omega
      have Z1 : ∀ k, k ≠ 12 → k ≠ 13 → k ≠ 11 → (zup (zup (zup ν 12 n (tb μ n)) 13 n (xx_endOfItem μ (tb μ n) - tb μ n)) 11 n (-1)) k = ν k := fun k k1 k2 k3 => by
        rw [zup_ne k3, zup_ne k2, zup_ne k1]
      have Z12 : ∀ z, (zup (zup (zup ν 12 n (tb μ n)) 13 n (xx_endOfItem μ (tb μ n) - tb μ n)) 11 n (-1)) 12 z = if z = n then tb μ n else ν 12 z := fun z => by
        rw [zup_ne (by decide), zup_ne (by decide), zup_at]
      have Z13 : ∀ z, (zup (zup (zup ν 12 n (tb μ n)) 13 n (xx_endOfItem μ (tb μ n) - tb μ n)) 11 n (-1)) 13 z = if z = n then xx_endOfItem μ (tb μ n) - tb μ n else ν 13 z := fun z => by
        rw [zup_ne (by decide), zup_at, zup_ne (by decide)]
      have Z11 : ∀ z, (zup (zup (zup ν 12 n (tb μ n)) 13 n (xx_endOfItem μ (tb μ n) - tb μ n)) 11 n (-1)) 11 z = if z = n then -1 else ν 11 z := fun z => by
        rw [zup_at, zup_ne (by decide), zup_ne (by decide)]
      generalize zup (zup (zup ν 12 n (tb μ n)) 13 n (xx_endOfItem μ (tb μ n) - tb μ n)) 11 n (-1) = X at Z1 Z12 Z13 Z11
      have x1 : X 1 = μ 1 := (Z1 1 (by decide) (by decide) (by decide)).trans e1
      have x2 : X 2 = μ 2 := (Z1 2 (by decide) (by decide) (by decide)).trans e2
      have x10 : X 10 = ν 10 := Z1 10 (by decide) (by decide) (by decide)
      rw [c_holeAt x1 x2, ← hs]
      by_cases hh : xx_hasHoleAt μ (tb μ n) = 0
      · rw [if_pos hh]
        have hf : ¬ ρ (304 + 14 * n + 0) = 1 := fun q => by
          have := (hρ n n0 hn).mp q
          omega
        rw [if_neg hf] at hcs
        refine ih _ (n + 1) (by omega) (by omega) (by omega) ⟨fun k hk => ?_, zup_self, ?_, fun p p0 p1 => ?_, fun i i0 i1 => ?_⟩
        · rw [zup_ne (by omega), Z1 k (by omega) (by omega) (by omega)]; exact C1 k hk
        · rw [zup_slot (by decide), x10, C3]; omega
        · rw [zup_ne (by decide), Z1 14 (by decide) (by decide) (by decide)]; exact C4 p p0 p1
        · rw [zup_ne (by decide), zup_ne (by decide), zup_ne (by decide), zup_ne (by decide), zup_ne (by decide), zup_ne (by decide), zup_ne (by decide), Z12, Z13, Z11, Z1 17 (by decide) (by decide) (by decide), Z1 15 (by decide) (by decide) (by decide), Z1 16 (by decide) (by decide) (by decide), Z1 18 (by decide) (by decide) (by decide)]
          by_cases hi : i = n
          · subst hi
            rw [if_pos rfl, if_pos rfl, if_pos rfl]
            exact ⟨rfl, rfl, fun q => absurd q hf, fun _ => rfl⟩
          · rw [if_neg hi, if_neg hi, if_neg hi]
            exact C5 i i0 (by omega)
      · rw [if_neg hh]
        have hh1 : xx_hasHoleAt μ (tb μ n) = 1 := by
          rcases t_holeAt μ (tb μ n) with ⟨a, -⟩ | ⟨a, -⟩
          · exact a
          · exact absurd a hh
        have hf : ρ (304 + 14 * n + 0) = 1 := (hρ n n0 hn).mpr hh1
        rw [if_pos hf] at hcs
        unfold xx_addHole
        rw [q_below1 n0 (show n < 20 by omega), if_neg n10, x10, C3, if_pos (show hc ρ n < 20 by omega), c_kindAt x1 x2, c_digitAt x1 x2]
        refine ih _ (n + 1) (by omega) (by omega) (by omega) ⟨fun k hk => ?_, zup_self, ?_, fun p p0 p1 => ?_, fun i i0 i1 => ?_⟩
        · rw [zup_ne (by omega), zup_ne (by omega), zup_ne (by omega), zup_ne (by omega), zup_ne (by omega), zup_ne (by omega), zup_ne (by omega), Z1 k (by omega) (by omega) (by omega)]; exact C1 k hk
        · rw [zup_slot (by decide), zup_self]; omega
        · rw [zup_ne (by decide), zup_ne (by decide), zup_ne (by decide), zup_ne (by decide), zup_ne (by decide), zup_ne (by decide), zup_ne (by decide), Z1 14 (by decide) (by decide) (by decide)]; exact C4 p p0 p1
        · have W12 : (zup (zup (zup (zup (zup (zup (zup X 11 n (hc ρ n)) 15 (hc ρ n) (xx_kindAt μ (tb μ n + 1))) 16 (hc ρ n) (xx_digitAt μ (tb μ n + 2))) 17 (hc ρ n) n) 18 (hc ρ n) (-1)) 10 1 (hc ρ n + 1)) 10 0 (n + 1)) 12 = X 12 := by
            rw [zup_ne (by decide), zup_ne (by decide), zup_ne (by decide), zup_ne (by decide), zup_ne (by decide), zup_ne (by decide), zup_ne (by decide)]
          have W13 : (zup (zup (zup (zup (zup (zup (zup X 11 n (hc ρ n)) 15 (hc ρ n) (xx_kindAt μ (tb μ n + 1))) 16 (hc ρ n) (xx_digitAt μ (tb μ n + 2))) 17 (hc ρ n) n) 18 (hc ρ n) (-1)) 10 1 (hc ρ n + 1)) 10 0 (n + 1)) 13 = X 13 := by
            rw [zup_ne (by decide), zup_ne (by decide), zup_ne (by decide), zup_ne (by decide), zup_ne (by decide), zup_ne (by decide), zup_ne (by decide)]
          have W11 : ∀ z, (zup (zup (zup (zup (zup (zup (zup X 11 n (hc ρ n)) 15 (hc ρ n) (xx_kindAt μ (tb μ n + 1))) 16 (hc ρ n) (xx_digitAt μ (tb μ n + 2))) 17 (hc ρ n) n) 18 (hc ρ n) (-1)) 10 1 (hc ρ n + 1)) 10 0 (n + 1)) 11 z = if z = n then hc ρ n else X 11 z := fun z => by
            rw [zup_ne (by decide), zup_ne (by decide), zup_ne (by decide), zup_ne (by decide), zup_ne (by decide), zup_ne (by decide), zup_at]
          have W15 : ∀ z, (zup (zup (zup (zup (zup (zup (zup X 11 n (hc ρ n)) 15 (hc ρ n) (xx_kindAt μ (tb μ n + 1))) 16 (hc ρ n) (xx_digitAt μ (tb μ n + 2))) 17 (hc ρ n) n) 18 (hc ρ n) (-1)) 10 1 (hc ρ n + 1)) 10 0 (n + 1)) 15 z = if z = hc ρ n then xx_kindAt μ (tb μ n + 1) else ν 15 z := fun z => by
            rw [zup_ne (by decide), zup_ne (by decide), zup_ne (by decide), zup_ne (by decide), zup_ne (by decide), zup_at, zup_ne (by decide), Z1 15 (by decide) (by decide) (by decide)]
          have W16 : ∀ z, (zup (zup (zup (zup (zup (zup (zup X 11 n (hc ρ n)) 15 (hc ρ n) (xx_kindAt μ (tb μ n + 1))) 16 (hc ρ n) (xx_digitAt μ (tb μ n + 2))) 17 (hc ρ n) n) 18 (hc ρ n) (-1)) 10 1 (hc ρ n + 1)) 10 0 (n + 1)) 16 z = if z = hc ρ n then xx_digitAt μ (tb μ n + 2) else ν 16 z := fun z => by
            rw [zup_ne (by decide), zup_ne (by decide), zup_ne (by decide), zup_ne (by decide), zup_at, zup_ne (by decide), zup_ne (by decide), Z1 16 (by decide) (by decide) (by decide)]
          have W17 : ∀ z, (zup (zup (zup (zup (zup (zup (zup X 11 n (hc ρ n)) 15 (hc ρ n) (xx_kindAt μ (tb μ n + 1))) 16 (hc ρ n) (xx_digitAt μ (tb μ n + 2))) 17 (hc ρ n) n) 18 (hc ρ n) (-1)) 10 1 (hc ρ n + 1)) 10 0 (n + 1)) 17 z = if z = hc ρ n then n else ν 17 z := fun z => by
            rw [zup_ne (by decide), zup_ne (by decide), zup_ne (by decide), zup_at, zup_ne (by decide), zup_ne (by decide), zup_ne (by decide), Z1 17 (by decide) (by decide) (by decide)]
          have W18 : ∀ z, (zup (zup (zup (zup (zup (zup (zup X 11 n (hc ρ n)) 15 (hc ρ n) (xx_kindAt μ (tb μ n + 1))) 16 (hc ρ n) (xx_digitAt μ (tb μ n + 2))) 17 (hc ρ n) n) 18 (hc ρ n) (-1)) 10 1 (hc ρ n + 1)) 10 0 (n + 1)) 18 z = if z = hc ρ n then -1 else ν 18 z := fun z => by
            rw [zup_ne (by decide), zup_ne (by decide), zup_at, zup_ne (by decide), zup_ne (by decide), zup_ne (by decide), zup_ne (by decide), Z1 18 (by decide) (by decide) (by decide)]
          rw [W12, W13, W11, W15, W16, W17, W18, Z12, Z13, Z11]
          by_cases hi : i = n
          · subst hi
            rw [if_pos rfl, if_pos rfl, if_pos rfl, if_pos rfl, if_pos rfl, if_pos rfl, if_pos rfl]
            exact ⟨rfl, rfl, fun _ => ⟨rfl, rfl, rfl, rfl, rfl⟩, fun q => absurd hf q⟩
          · obtain ⟨a, b, c, d⟩ := C5 i i0 (by omega)
            rw [if_neg hi, if_neg hi, if_neg hi, if_neg hi]
            refine ⟨a, b, fun q => ?_, d⟩
            have hlt := hm i i0 (by omega) q
            rw [if_neg (by omega), if_neg (by omega), if_neg (by omega), if_neg (by omega)]
            exact c q
    · have hnN : n = N := by omega
      subst hnN
      by_cases h20 : n < 20
      · have hs := tb_succ (μ := μ) (show 0 ≤ n - 1 by omega)
        rw [show n - 1 + 1 = n by omega] at hs
        rw [if_pos h20, if_neg (show ¬ tb μ n < ν 1 1 by rw [e1, T.1, hs]; omega)]
        exact hC
      · rw [if_neg h20]
        exact hC
theorem t_tk12 : ∀ (g : Nat) (ν : zM) (l : Int), 0 ≤ l → l ≤ 60 → 60 - l < (g : Int) → ν 1 = μ 1 → ν 2 = μ 2 → ∃ ν0 : zM, (∀ k, k ≠ 14 → ν0 k = ν k) ∧ (∀ p, l ≤ p → p < 60 → ν0 14 p = xx_signAt μ p) ∧ (∀ p, p < l → ν0 14 p = ν 14 p) ∧ xx_takeFrom_12 g ν l = xx_takeFrom_39 zN ν0 0 0 := by
  intro g
  induction g with
  | zero => intro ν l h0 h1 hg; omega
  | succ g ih =>
    intro ν l h0 h1 hg e1 e2
    rw [xx_takeFrom_12]
    by_cases h : l < 60
    · obtain ⟨ν0, p, q, r, s⟩ := ih (zup ν 14 l (xx_signAt ν l)) (l + 1) (by omega) (by omega) (by omega) ((zup_ne (by decide)).trans e1) ((zup_ne (by decide)).trans e2)
      rw [if_pos h]
      refine ⟨ν0, fun k hk => (p k hk).trans (zup_ne hk), fun z z0 z1 => ?_, fun z z0 => ?_, s⟩
      · by_cases hz : z = l
        · rw [r z (by omega), zup_at, if_pos hz, c_signAt e1 e2, hz]
        · exact q z (by omega) z1
      · rw [r z (by omega), zup_at, if_neg (by omega)]
    · rw [if_neg h]
      exact ⟨ν, fun k hk => rfl, fun z z0 z1 => by omega, fun z z0 => rfl, rfl⟩
theorem t_take (T : Rt μ) {N : Int} (P : Parse μ N) {ρ : Int → Int} (hρ : ∀ i, 0 ≤ i → i < N → (ρ (304 + 14 * i + 0) = 1 ↔ xx_hasHoleAt μ (tb μ i) = 1)) : TkC μ ρ (xx_takeFrom μ) N := by
  have hN := zN_big
  obtain ⟨ν0, p, q, r, s⟩ := t_tk12 (μ := μ) zN (zup (zup μ 10 0 0) 10 1 0) 0 (by decide) (by decide) (by omega) (by rw [zup_ne (by decide), zup_ne (by decide)]) (by rw [zup_ne (by decide), zup_ne (by decide)])
  unfold xx_takeFrom
  rw [s]
  refine t_tk39 T P hρ zN ν0 0 (by decide) (by have := P.1; omega) (by have := P.1; omega) ⟨fun k hk => ?_, ?_, ?_, q, fun i i0 i1 => by omega⟩
  · rw [p k (by omega), zup_ne (by omega), zup_ne (by omega)]
  · rw [p 10 (by decide), zup_slot (by decide), zup_self]
  · rw [p 10 (by decide), zup_self]; rfl
end EQ
