/-! tales that are typed; readTale -/
def kch (k : Int) : Int := if k = 0 then 110 else if k = 1 then 118 else 97
/-- a text of n items: where each begins, how long it is, its kind (-1 for a plain word), its tie -/
def TD (M : zM) (n : Int) (st ln kd ti : Int → Int) : Prop :=
  st 0 = 0 ∧ ∀ i, 0 ≤ i → i < n → st (i + 1) = st i + ln i + 1 ∧ 0 ≤ st i ∧ (0 < i → M 2 (st i - 1) = 32) ∧
   ((kd i = -1 ∧ (1 ≤ ln i ∧ ln i ≤ 10) ∧ ∀ p, 0 ≤ p → p < ln i → 97 ≤ M 2 (st i + p) ∧ M 2 (st i + p) ≤ 122) ∨
    ((0 ≤ kd i ∧ kd i ≤ 2) ∧ ln i = 3 ∧ (0 ≤ ti i ∧ ti i ≤ 9) ∧ M 2 (st i) = 35 ∧ M 2 (st i + 1) = kch (kd i) ∧ M 2 (st i + 2) = 48 + ti i))
def hcn (kd : Int → Int) (i : Int) : Int := sm (fun j => if kd j = -1 then 0 else 1) i.toNat
theorem hcn_0 (kd : Int → Int) : hcn kd 0 = 0 := rfl
theorem hcn_s (kd : Int → Int) {i : Int} (h : 0 ≤ i) : hcn kd (i + 1) = hcn kd i + (if kd i = -1 then 0 else 1) := by
  unfold hcn
  rw [show (i + 1).toNat = i.toNat + 1 by omega, sm_succ, show ((i.toNat : Nat) : Int) = i by omega]
theorem hcn_b (kd : Int → Int) : ∀ {i : Int}, 0 ≤ i → 0 ≤ hcn kd i ∧ hcn kd i ≤ i := by
  have key : ∀ n : Nat, 0 ≤ hcn kd n ∧ hcn kd n ≤ n := by
    intro n
    induction n with
    | zero => exact ⟨by rw [show ((0 : Nat) : Int) = 0 from rfl, hcn_0]; omega, by rw [show ((0 : Nat) : Int) = 0 from rfl, hcn_0]; omega⟩
    | succ n ih =>
      rw [show ((n + 1 : Nat) : Int) = (n : Int) + 1 by omega, hcn_s kd (by omega)]
      split <;> omega
  intro i h
  have := key i.toNat
  rw [show ((i.toNat : Nat) : Int) = i by omega] at this
  exact this
theorem hcn_at (kd : Int → Int) {i h : Int} (i0 : 0 ≤ i) (h0 : 0 ≤ h) (h1 : h < hcn kd i) : ∃ j, 0 ≤ j ∧ j < i ∧ kd j ≠ -1 ∧ hcn kd j = h := by
  have key : ∀ n : Nat, h < hcn kd n → ∃ j, 0 ≤ j ∧ j < (n : Int) ∧ kd j ≠ -1 ∧ hcn kd j = h := by
    intro n
    induction n with
    | zero => intro q; rw [show ((0 : Nat) : Int) = 0 from rfl, hcn_0] at q; omega
    | succ n ih =>
      intro q
      by_cases q2 : h < hcn kd n
      · obtain ⟨j, j0, j1, j2, j3⟩ := ih q2
        exact ⟨j, j0, by omega, j2, j3⟩
      · rw [show ((n + 1 : Nat) : Int) = (n : Int) + 1 by omega, hcn_s kd (by omega)] at q
        by_cases q3 : kd n = -1
        · rw [if_pos q3] at q; omega
        · rw [if_neg q3] at q
          exact ⟨n, by omega, by omega, q3, by omega⟩
  have := key i.toNat
  rw [show ((i.toNat : Nat) : Int) = i by omega] at this
  exact this h1
theorem hcn_lt (kd : Int → Int) {i j : Int} (i0 : 0 ≤ i) (hj : i < j) (hk : kd i ≠ -1) : hcn kd i < hcn kd j := by
  have key : ∀ d : Nat, hcn kd (i + 1) ≤ hcn kd (i + 1 + d) := by
    intro d
    induction d with
    | zero => rw [show i + 1 + ((0 : Nat) : Int) = i + 1 by omega]; omega
    | succ d ih =>
      rw [show i + 1 + ((d + 1 : Nat) : Int) = (i + 1 + d) + 1 by omega, hcn_s kd (i := i + 1 + d) (by omega)]
      split <;> omega
  have a := key (j - (i + 1)).toNat
  rw [show i + 1 + (((j - (i + 1)).toNat : Nat) : Int) = j by omega, hcn_s kd i0, if_neg hk] at a
  omega
section EQ
variable {μ ν c d M : zM} {n : Int} {st ln kd ti : Int → Int}
theorem td_up (T : TD M n st ln kd ti) : ∀ (d : Nat) (i : Int), 0 ≤ i → i + d ≤ n → st i + 2 * d ≤ st (i + d) := by
  intro d
  induction d with
  | zero => intro i i0 i1; rw [show i + ((0 : Nat) : Int) = i by omega]; omega
  | succ d ih =>
    intro i i0 i1
    have a := ih i i0 (by omega)
    obtain ⟨b, -, -, e⟩ := T.2 (i + d) (by omega) (by omega)
    rw [show i + ((d + 1 : Nat) : Int) = i + d + 1 by omega, b]
    omega
theorem td_end (T : TD M n st ln kd ti) {i : Int} (i0 : 0 ≤ i) (i1 : i < n) : st i + ln i + 1 ≤ st n ∧ (i + 1 < n → st i + ln i + 3 ≤ st n) := by
  obtain ⟨b, -, -, e⟩ := T.2 i i0 i1
  have a := td_up T (n - (i + 1)).toNat (i + 1) (by omega) (by omega)
  rw [show i + 1 + (((n - (i + 1)).toNat : Nat) : Int) = n by omega] at a
  omega
theorem td_item (T : TD M n st ln kd ti) (hL : M 1 1 = st n - 1) {i : Int} (i0 : 0 ≤ i) (i1 : i < n) : xx_endOfItem M (st i) = st i + ln i ∧ xx_faultInItem M (st i) = -1 ∧ (kd i = -1 → xx_hasHoleAt M (st i) = 0) ∧ (kd i ≠ -1 → xx_hasHoleAt M (st i) = 1 ∧ xx_kindAt M (st i + 1) = kd i ∧ xx_digitAt M (st i + 2) = ti i) := by
  obtain ⟨b, b0, -, e⟩ := T.2 i i0 i1
  have te := td_end T i0 i1
  rcases e with ⟨e1, e2, e3⟩ | ⟨e1, e2, e3, e4, e5, e6⟩
  · have s0 : xx_signAt M (st i) = M 2 (st i) := sg_in b0 (by omega)
    have p0 := e3 0 (by omega) (by omega)
    rw [Int.add_zero] at p0
    have hh : xx_hasHoleAt M (st i) = 0 := by
      unfold xx_hasHoleAt
      rw [s0, if_neg (by omega)]
    have le : ∀ p, 0 ≤ p → p < ln i → xx_hasLetterAt M (st i + p) = 1 := fun p q0 q1 => by
      have q := e3 p q0 q1
      exact hl_1 (by rw [sg_in (by omega) (by omega)]; exact q.1) (by rw [sg_in (by omega) (by omega)]; exact q.2)
    have he : xx_endOfLetters M (st i) 10 = st i + ln i := by
      refine eol (by omega) (by decide) le ?_
      by_cases q : ln i = 10
      · exact Or.inl q
      · refine Or.inr ⟨by omega, hl_0 ?_⟩
        by_cases q2 : i + 1 < n
        · obtain ⟨-, c0, c1, -⟩ := T.2 (i + 1) (by omega) q2
          have w := c1 (by omega)
          rw [b, show st i + ln i + 1 - 1 = st i + ln i by omega] at w
          rw [sg_in (by omega) (by have := te.2 q2; omega), w]; decide
        · rw [show n = i + 1 by omega] at hL
          rw [sg_out (by omega)]; decide
    refine ⟨?_, ?_, fun _ => hh, fun q => absurd e1 q⟩
    · unfold xx_endOfItem
      rw [hh, if_pos rfl, he]
    · unfold xx_faultInItem
      have l0 := le 0 (by omega) (by omega)
      rw [Int.add_zero] at l0
      rw [hh, if_pos rfl, l0, if_neg n10']
  · have s0 : xx_signAt M (st i) = M 2 (st i) := sg_in b0 (by omega)
    have s1 : xx_signAt M (st i + 1) = M 2 (st i + 1) := sg_in (by omega) (by omega)
    have s2 : xx_signAt M (st i + 2) = M 2 (st i + 2) := sg_in (by omega) (by omega)
    have hh : xx_hasHoleAt M (st i) = 1 := by
      unfold xx_hasHoleAt
      rw [s0, if_pos e4]
    have hk : xx_kindAt M (st i + 1) = kd i := by
      unfold xx_kindAt
      rw [s1, e5]
      unfold kch
      rcases (show kd i = 0 ∨ kd i = 1 ∨ kd i = 2 by omega) with q | q | q
      · rw [q]; decide
      · rw [q]; decide
      · rw [q]; decide
    have hd : xx_digitAt M (st i + 2) = ti i := by
      unfold xx_digitAt
      rw [s2, e6, show 48 + ti i - 48 = ti i by omega, ib_1 e3.1 (by omega), if_neg n10']
    refine ⟨?_, ?_, fun q => by omega, fun _ => ⟨hh, hk, hd⟩⟩
    · unfold xx_endOfItem
      rw [hh, if_neg n10', e2]
    · unfold xx_faultInItem
      rw [hh, if_neg n10', hk, hd, if_neg (by omega), if_neg (by omega)]
theorem td_fault (T : TD M n st ln kd ti) (hn : 1 ≤ n ∧ n ≤ 20) (hL : M 1 1 = st n - 1) : xx_faultAsTale M = -1 := by
  have key : ∀ (f : Nat) (i : Int), 0 ≤ i → i < n → n - i < f → xx_faultAsTale_4 f M (st i) (i + 1) = -1 := by
    intro f
    induction f with
    | zero => intro i i0 i1 hf; omega
    | succ f ih =>
      intro i i0 i1 hf
      obtain ⟨a1, a2, -, -⟩ := td_item T hL i0 i1
      have te := td_end T i0 i1
      obtain ⟨b, b0, -, e⟩ := T.2 i i0 i1
      rw [xx_faultAsTale_4, if_neg (by omega), if_pos a2, a1, hL]
      by_cases q : i + 1 < n
      · obtain ⟨-, c0, c1, -⟩ := T.2 (i + 1) (by omega) q
        have w := c1 (by omega)
        rw [b, show st i + ln i + 1 - 1 = st i + ln i by omega] at w
        have t2 := te.2 q
        rw [if_pos (by omega), sg_in (by omega) (by omega), if_pos w, if_neg (by omega), ← b]
        exact ih (i + 1) (by omega) q (by omega)
      · rw [show n = i + 1 by omega, b, if_neg (by omega)]
  have := zN_big
  have a := key zN 0 (by omega) (by omega) (by omega)
  rw [T.1] at a
  exact a
theorem c_holeAt (h1 : ν 1 = μ 1) (h2 : ν 2 = μ 2) (p : Int) : xx_hasHoleAt ν p = xx_hasHoleAt μ p := by unfold xx_hasHoleAt; rw [c_signAt h1 h2]
theorem c_kindAt (h1 : ν 1 = μ 1) (h2 : ν 2 = μ 2) (p : Int) : xx_kindAt ν p = xx_kindAt μ p := by unfold xx_kindAt; rw [c_signAt h1 h2]
theorem c_digitAt (h1 : ν 1 = μ 1) (h2 : ν 2 = μ 2) (p : Int) : xx_digitAt ν p = xx_digitAt μ p := by unfold xx_digitAt; rw [c_signAt h1 h2]
theorem c_eol (h1 : ν 1 = μ 1) (h2 : ν 2 = μ 2) (a b : Int) : ∀ (f : Nat) (c : Int), xx_endOfLetters_2 f ν a b c = xx_endOfLetters_2 f μ a b c
  | 0, _ => rfl
  | f + 1, c => by simp only [xx_endOfLetters_2, c_letterAt h1 h2, c_eol h1 h2 a b f]
theorem c_endOfItem (h1 : ν 1 = μ 1) (h2 : ν 2 = μ 2) (p : Int) : xx_endOfItem ν p = xx_endOfItem μ p := by unfold xx_endOfItem xx_endOfLetters; rw [c_holeAt h1 h2, c_eol h1 h2]
theorem tk_spec (T : TD M n st ln kd ti) (hn : 1 ≤ n ∧ n ≤ 20) (hL : M 1 1 = st n - 1) : ∀ (f : Nat) (X : zM) (i : Int), 0 ≤ i → i ≤ n → n - i < f → X 1 = M 1 → X 2 = M 2 → X 10 0 = i → X 10 1 = hcn kd i →
    (xx_takeFrom_39 f X (st i) i) 10 0 = n ∧ (xx_takeFrom_39 f X (st i) i) 10 1 = hcn kd n ∧ (∀ k, k < 10 ∨ k = 14 ∨ 18 < k → (xx_takeFrom_39 f X (st i) i) k = X k) ∧ (∀ j, j < i → (xx_takeFrom_39 f X (st i) i) 11 j = X 11 j ∧ (xx_takeFrom_39 f X (st i) i) 12 j = X 12 j ∧ (xx_takeFrom_39 f X (st i) i) 13 j = X 13 j) ∧
    (∀ h, h < hcn kd i → (xx_takeFrom_39 f X (st i) i) 15 h = X 15 h ∧ (xx_takeFrom_39 f X (st i) i) 16 h = X 16 h ∧ (xx_takeFrom_39 f X (st i) i) 17 h = X 17 h ∧ (xx_takeFrom_39 f X (st i) i) 18 h = X 18 h) ∧
    ∀ j, i ≤ j → j < n → (xx_takeFrom_39 f X (st i) i) 12 j = st j ∧ (xx_takeFrom_39 f X (st i) i) 13 j = ln j ∧ (kd j = -1 → (xx_takeFrom_39 f X (st i) i) 11 j = -1) ∧ (kd j ≠ -1 → (xx_takeFrom_39 f X (st i) i) 11 j = hcn kd j ∧ (xx_takeFrom_39 f X (st i) i) 15 (hcn kd j) = kd j ∧ (xx_takeFrom_39 f X (st i) i) 16 (hcn kd j) = ti j ∧ (xx_takeFrom_39 f X (st i) i) 17 (hcn kd j) = j ∧ (xx_takeFrom_39 f X (st i) i) 18 (hcn kd j) = -1) := by
  intro f
  induction f with
  | zero => intro X i i0 i1 hf; omega
  | succ f ih =>
    intro X i i0 i1 hf x1 x2 x0 xh
    have e11 : X 1 1 = st n - 1 := by rw [x1]; exact hL
    by_cases q : i < n
    · obtain ⟨a1, a2, a3, a4⟩ := td_item T hL i0 q
      have te := td_end T i0 q
      have hb := hcn_b kd i0
      obtain ⟨b, b0, -, e⟩ := T.2 i i0 q
      obtain ⟨V, hV⟩ : ∃ V, V = zup (zup (zup X 12 i (st i)) 13 i (ln i)) 11 i (-1) := ⟨_, rfl⟩
      have v1 : V 1 = M 1 := by rw [hV, zup_ne (by decide), zup_ne (by decide), zup_ne (by decide)]; exact x1
      have v2 : V 2 = M 2 := by rw [hV, zup_ne (by decide), zup_ne (by decide), zup_ne (by decide)]; exact x2
      have v10 : V 10 = X 10 := by rw [hV, zup_ne (by decide), zup_ne (by decide), zup_ne (by decide)]
      have st1 : xx_takeFrom_39 (f + 1) X (st i) i = if xx_hasHoleAt V (st i) = 0 then xx_takeFrom_39 f (zup V 10 0 (i + 1)) (st (i + 1)) (i + 1) else xx_takeFrom_39 f (zup (xx_addHole V i (xx_kindAt V (st i + 1)) (xx_digitAt V (st i + 2))) 10 0 (i + 1)) (st (i + 1)) (i + 1) := by
        rw [xx_takeFrom_39, if_pos (by omega), if_pos (by omega), c_endOfItem x1 x2, a1, show st i + ln i - st i = ln i by omega, ← hV, b]
      rw [st1, c_holeAt v1 v2, c_kindAt v1 v2, c_digitAt v1 v2]
      by_cases k : kd i = -1
      · rw [a3 k, if_pos rfl]
        obtain ⟨Z, hZ⟩ : ∃ Z, Z = zup V 10 0 (i + 1) := ⟨_, rfl⟩
        rw [← hZ]
        have z10 : Z 10 0 = i + 1 := by rw [hZ, zup_self]
        have z101 : Z 10 1 = hcn kd (i + 1) := by rw [hZ, zup_slot (by decide), v10, xh, hcn_s kd i0, if_pos k, Int.add_zero]
        have zk : ∀ j, j ≠ 10 → Z j = V j := fun j hj => by rw [hZ, zup_ne hj]
        have w11 : ∀ j, V 11 j = if j = i then -1 else X 11 j := fun j => by rw [hV]; simp [zup_ap]
        have w12 : ∀ j, V 12 j = if j = i then st i else X 12 j := fun j => by rw [hV]; simp [zup_ap]
        have w13 : ∀ j, V 13 j = if j = i then ln i else X 13 j := fun j => by rw [hV]; simp [zup_ap]
        have wk : ∀ j, j ≠ 11 → j ≠ 12 → j ≠ 13 → V j = X j := fun j j1 j2 j3 => by rw [hV, zup_ne j1, zup_ne j3, zup_ne j2]
        obtain ⟨c1, c2, c3, c4, c5, c6⟩ := ih Z (i + 1) (by omega) (by omega) (by omega) ((zk 1 (by decide)).trans v1) ((zk 2 (by decide)).trans v2) z10 z101
        have hs : hcn kd (i + 1) = hcn kd i := by rw [hcn_s kd i0, if_pos k, Int.add_zero]
        refine ⟨c1, c2, fun j hj => ?_, fun j hj => ?_, fun h hh => ?_, fun j j0 j1 => ?_⟩
        · rw [c3 j hj, zk j (by omega), wk j (by omega) (by omega) (by omega)]
        · obtain ⟨g1, g2, g3⟩ := c4 j (by omega)
          rw [g1, g2, g3, zk 11 (by decide), zk 12 (by decide), zk 13 (by decide), w11, w12, w13, if_neg (by omega), if_neg (by omega), if_neg (by omega)]
          exact ⟨rfl, rfl, rfl⟩
        · obtain ⟨g1, g2, g3, g4⟩ := c5 h (by omega)
          rw [g1, g2, g3, g4, zk 15 (by decide), zk 16 (by decide), zk 17 (by decide), zk 18 (by decide), wk 15 (by decide) (by decide) (by decide), wk 16 (by decide) (by decide) (by decide), wk 17 (by decide) (by decide) (by decide), wk 18 (by decide) (by decide) (by decide)]
          exact ⟨rfl, rfl, rfl, rfl⟩
        · by_cases hj : j = i
          · obtain ⟨g1, g2, g3⟩ := c4 j (by omega)
            rw [g1, g2, g3, zk 11 (by decide), zk 12 (by decide), zk 13 (by decide), w11, w12, w13, if_pos hj, if_pos hj, if_pos hj, hj]
            exact ⟨rfl, rfl, fun _ => rfl, fun q => absurd k q⟩
          · exact c6 j (by omega) j1
      · obtain ⟨t1, t2, t3⟩ := a4 k
        rw [t1, if_neg n10', t2, t3]
        obtain ⟨H, hH⟩ : ∃ H, H = hcn kd i := ⟨_, rfl⟩
        rw [← hH] at xh hb
        have ea : xx_addHole V i (kd i) (ti i) = zup (zup (zup (zup (zup (zup V 11 i H) 15 H (kd i)) 16 H (ti i)) 17 H i) 18 H (-1)) 10 1 (H + 1) := by
          unfold xx_addHole
          rw [ib_1 i0 (by omega), if_neg n10', v10, xh, if_pos (by omega)]
        rw [ea]
        obtain ⟨Z, hZ⟩ : ∃ Z, Z = zup (zup (zup (zup (zup (zup (zup V 11 i H) 15 H (kd i)) 16 H (ti i)) 17 H i) 18 H (-1)) 10 1 (H + 1)) 10 0 (i + 1) := ⟨_, rfl⟩
        rw [← hZ]
        have z10 : Z 10 0 = i + 1 := by rw [hZ, zup_self]
        have hs : hcn kd (i + 1) = H + 1 := by rw [hcn_s kd i0, if_neg k, hH]
        have z101 : Z 10 1 = hcn kd (i + 1) := by rw [hZ, zup_slot (by decide), zup_self, hs]
        have w11 : ∀ j, Z 11 j = if j = i then H else X 11 j := fun j => by
          rw [hZ, hV]; simp [zup_ap]
          split <;> rfl
        have w12 : ∀ j, Z 12 j = if j = i then st i else X 12 j := fun j => by rw [hZ, hV]; simp [zup_ap]
        have w13 : ∀ j, Z 13 j = if j = i then ln i else X 13 j := fun j => by rw [hZ, hV]; simp [zup_ap]
        have w15 : ∀ j, Z 15 j = if j = H then kd i else X 15 j := fun j => by rw [hZ, hV]; simp [zup_ap]
        have w16 : ∀ j, Z 16 j = if j = H then ti i else X 16 j := fun j => by rw [hZ, hV]; simp [zup_ap]
        have w17 : ∀ j, Z 17 j = if j = H then i else X 17 j := fun j => by rw [hZ, hV]; simp [zup_ap]
        have w18 : ∀ j, Z 18 j = if j = H then -1 else X 18 j := fun j => by rw [hZ, hV]; simp [zup_ap]
        have wk : ∀ j, j < 10 ∨ j = 14 ∨ 18 < j → Z j = X j := fun j hj => by
          rw [hZ, hV, zup_ne (by omega), zup_ne (by omega), zup_ne (by omega), zup_ne (by omega), zup_ne (by omega), zup_ne (by omega), zup_ne (by omega), zup_ne (by omega), zup_ne (by omega), zup_ne (by omega)]
        obtain ⟨c1, c2, c3, c4, c5, c6⟩ := ih Z (i + 1) (by omega) (by omega) (by omega) ((wk 1 (by omega)).trans x1) ((wk 2 (by omega)).trans x2) z10 z101
        refine ⟨c1, c2, fun j hj => ?_, fun j hj => ?_, fun h hh => ?_, fun j j0 j1 => ?_⟩
        · rw [c3 j hj, wk j hj]
        · obtain ⟨g1, g2, g3⟩ := c4 j (by omega)
          rw [g1, g2, g3, w11, w12, w13, if_neg (by omega), if_neg (by omega), if_neg (by omega)]
          exact ⟨rfl, rfl, rfl⟩
        · obtain ⟨g1, g2, g3, g4⟩ := c5 h (by omega)
          rw [g1, g2, g3, g4, w15, w16, w17, w18, if_neg (by omega), if_neg (by omega), if_neg (by omega), if_neg (by omega)]
          exact ⟨rfl, rfl, rfl, rfl⟩
        · by_cases hj : j = i
          · obtain ⟨g1, g2, g3⟩ := c4 j (by omega)
            obtain ⟨g4, g5, g6, g7⟩ := c5 H (by omega)
            rw [hj, ← hH, g4, g5, g6, g7, w15, w16, w17, w18]
            rw [hj] at g1 g2 g3
            rw [g1, g2, g3, w11, w12, w13]
            simp only [if_pos]
            exact ⟨trivial, trivial, fun q => absurd q k, fun _ => ⟨trivial, trivial, trivial, trivial, trivial⟩⟩
          · exact c6 j (by omega) j1
    · obtain rfl : i = n := by omega
      have es : xx_takeFrom_39 (f + 1) X (st i) i = X := by
        rw [xx_takeFrom_39]
        by_cases q2 : i < 20
        · rw [if_pos q2, if_neg (by omega)]
        · rw [if_neg q2]
      rw [es]
      exact ⟨x0, xh, fun k _ => rfl, fun j _ => ⟨rfl, rfl, rfl⟩, fun h _ => ⟨rfl, rfl, rfl, rfl⟩, fun j j0 j1 => by omega⟩
theorem tk12 : ∀ (f : Nat) (X : zM) (l : Int), 0 ≤ l → l ≤ 60 → 60 - l < f → ∃ Y : zM, xx_takeFrom_12 f X l = xx_takeFrom_39 zN Y 0 0 ∧ (∀ k, k ≠ 14 → Y k = X k) ∧ (∀ p, l ≤ p → p < 60 → Y 14 p = xx_signAt X p) ∧ ∀ p, p < l → Y 14 p = X 14 p := by
  intro f
  induction f with
  | zero => intro X l l0 l1 hf; omega
  | succ f ih =>
    intro X l l0 l1 hf
    rw [xx_takeFrom_12]
    by_cases q : l < 60
    · rw [if_pos q]
      obtain ⟨Y, y1, y2, y3, y4⟩ := ih (zup X 14 l (xx_signAt X l)) (l + 1) (by omega) (by omega) (by omega)
      refine ⟨Y, y1, fun k hk => (y2 k hk).trans (zup_ne hk), fun p p0 p1 => ?_, fun p p1 => ?_⟩
      · by_cases hp : p = l
        · rw [y4 p (by omega), hp, zup_self]
        · rw [y3 p (by omega) p1, c_signAt (zup_ne (by decide)) (zup_ne (by decide))]
      · rw [y4 p (by omega), zup_slot (by omega)]
    · rw [if_neg q]
      exact ⟨X, rfl, fun k _ => rfl, fun p p0 p1 => by omega, fun p _ => rfl⟩
theorem tk_all (T : TD M n st ln kd ti) (hn : 1 ≤ n ∧ n ≤ 20) (hL : M 1 1 = st n - 1) : (xx_takeFrom M) 10 0 = n ∧ (xx_takeFrom M) 10 1 = hcn kd n ∧ (∀ k, k < 10 ∨ 18 < k → (xx_takeFrom M) k = M k) ∧ (∀ p, 0 ≤ p → p < 60 → (xx_takeFrom M) 14 p = xx_signAt M p) ∧
    ∀ j, 0 ≤ j → j < n → (xx_takeFrom M) 12 j = st j ∧ (xx_takeFrom M) 13 j = ln j ∧ (kd j = -1 → (xx_takeFrom M) 11 j = -1) ∧ (kd j ≠ -1 → (xx_takeFrom M) 11 j = hcn kd j ∧ (xx_takeFrom M) 15 (hcn kd j) = kd j ∧ (xx_takeFrom M) 16 (hcn kd j) = ti j ∧ (xx_takeFrom M) 17 (hcn kd j) = j ∧ (xx_takeFrom M) 18 (hcn kd j) = -1) := by
  have hN := zN_big
  obtain ⟨Y, y1, y2, y3, -⟩ := tk12 zN (zup (zup M 10 0 0) 10 1 0) 0 (by decide) (by decide) (by omega)
  have e : xx_takeFrom M = xx_takeFrom_39 zN Y (st 0) 0 := by rw [T.1]; exact y1
  have m1 : ∀ k, k ≠ 14 → k ≠ 10 → Y k = M k := fun k k1 k2 => by rw [y2 k k1, zup_ne k2, zup_ne k2]
  obtain ⟨a1, a2, a3, -, -, a6⟩ := tk_spec T hn hL zN Y 0 (by decide) (by omega) (by omega) (m1 1 (by decide) (by decide)) (m1 2 (by decide) (by decide)) (by rw [y2 10 (by decide), zup_slot (by decide), zup_self]) (by rw [y2 10 (by decide), zup_self, hcn_0])
  rw [← e] at a1 a2 a3 a6
  refine ⟨a1, a2, fun k hk => (a3 k (by omega)).trans (m1 k (by omega) (by omega)), fun p p0 p1 => ?_, a6⟩
  rw [a3 14 (by omega), y3 p p0 p1, c_signAt (μ := M) (by rw [zup_ne (by decide), zup_ne (by decide)]) (by rw [zup_ne (by decide), zup_ne (by decide)])]
section SP
variable {α β α' β' : Nat → Int → Int}
theorem SR.tale (h : SR α β) (ha : ∀ o, o < 18 → o < 7 ∨ 15 < o → α' o = α o) (hb : ∀ o, o < 18 → o < 7 ∨ 15 < o → β' o = β o) (s6 : β' 7 0 = α' 7 0 ∧ β' 7 1 = α' 7 1 ∧ (0 ≤ α' 7 0 ∧ α' 7 0 ≤ 20) ∧ (0 ≤ α' 7 1 ∧ α' 7 1 ≤ 20))
    (s7 : ∃ hc : Int → Int, hc 0 = 0 ∧ hc (α' 7 0) = α' 7 1 ∧ ∀ i, 0 ≤ i → i < α' 7 0 → β' 8 i = α' 8 i ∧ ((α' 8 i = -1 ∧ hc (i + 1) = hc i) ∨ (α' 8 i = hc i ∧ hc (i + 1) = hc i + 1)))
    (s8 : ∀ i, 0 ≤ i → i < α' 7 0 → α' 8 i = -1 → β' 9 i = α' 9 i ∧ β' 10 i = α' 10 i ∧ (1 ≤ α' 10 i ∧ α' 10 i ≤ 10) ∧ 0 ≤ α' 9 i ∧ α' 9 i + α' 10 i ≤ 60 ∧ ∀ p, 0 ≤ p → p < α' 10 i → β' 11 (α' 9 i + p) = nsg (α' 11 (α' 9 i + p)) ∧ 97 ≤ α' 11 (α' 9 i + p) ∧ α' 11 (α' 9 i + p) ≤ 122)
    (s9 : ∀ h, 0 ≤ h → h < α' 7 1 → β' 12 h = α' 12 h ∧ β' 13 h = 9 - α' 13 h ∧ β' 14 h = α' 14 h ∧ β' 15 h = -1 ∧ (0 ≤ α' 12 h ∧ α' 12 h ≤ 2) ∧ (0 ≤ α' 13 h ∧ α' 13 h ≤ 9) ∧ α' 15 h = -1) : SR α' β' := by
  obtain ⟨t1, t2, t3, t4, t5, -, -, -, -, -, t11⟩ := h
  unfold SR
  rw [ha 0 (by decide) (by decide), ha 1 (by decide) (by decide), ha 2 (by decide) (by decide), ha 3 (by decide) (by decide), ha 4 (by decide) (by decide), ha 5 (by decide) (by decide), ha 6 (by decide) (by decide), ha 16 (by decide) (by decide), ha 17 (by decide) (by decide)]
  rw [hb 0 (by decide) (by decide), hb 1 (by decide) (by decide), hb 2 (by decide) (by decide), hb 3 (by decide) (by decide), hb 4 (by decide) (by decide), hb 5 (by decide) (by decide), hb 6 (by decide) (by decide), hb 16 (by decide) (by decide), hb 17 (by decide) (by decide)]
  exact ⟨t1, t2, t3, t4, t5, s6, s7, s8, fun h h0 h1 => by
    obtain ⟨a1, a2, a3, a4, a5, a6, a7⟩ := s9 h h0 h1
    exact ⟨a1, a2, a3, by rw [a4, a7], a5, a6, Or.inl a7⟩, fun h g h0 h1 _ _ _ _ _ fh _ => absurd (s9 h h0 h1).2.2.2.2.2.2 fh, t11⟩
end SP
/-- the text of both sides: n items, letters each the next one, ties 9 - t -/
def TX (μ ν : zM) (n : Int) (st ln kd ti : Int → Int) : Prop :=
  st 0 = 0 ∧ ∀ i, 0 ≤ i → i < n → st (i + 1) = st i + ln i + 1 ∧ 0 ≤ st i ∧ (0 < i → μ 2 (st i - 1) = 32 ∧ ν 2 (st i - 1) = 32) ∧
   ((kd i = -1 ∧ (1 ≤ ln i ∧ ln i ≤ 10) ∧ ∀ p, 0 ≤ p → p < ln i → 97 ≤ μ 2 (st i + p) ∧ μ 2 (st i + p) ≤ 122 ∧ ν 2 (st i + p) = nsg (μ 2 (st i + p))) ∨
    ((0 ≤ kd i ∧ kd i ≤ 2) ∧ ln i = 3 ∧ (0 ≤ ti i ∧ ti i ≤ 9) ∧ μ 2 (st i) = 35 ∧ μ 2 (st i + 1) = kch (kd i) ∧ μ 2 (st i + 2) = 48 + ti i ∧ ν 2 (st i) = 35 ∧ ν 2 (st i + 1) = kch (kd i) ∧ ν 2 (st i + 2) = 57 - ti i))
theorem TX.l (T : TX μ ν n st ln kd ti) (h : c 2 = μ 2) : TD c n st ln kd ti := by
  refine ⟨T.1, fun i i0 i1 => ?_⟩
  obtain ⟨a, b, e, f⟩ := T.2 i i0 i1
  rw [h]
  refine ⟨a, b, fun q => (e q).1, ?_⟩
  rcases f with ⟨f1, f2, f3⟩ | ⟨f1, f2, f3, f4, f5, f6, -⟩
  · exact Or.inl ⟨f1, f2, fun p p0 p1 => ⟨(f3 p p0 p1).1, (f3 p p0 p1).2.1⟩⟩
  · exact Or.inr ⟨f1, f2, f3, f4, f5, f6⟩
theorem TX.r (T : TX μ ν n st ln kd ti) (h : d 2 = ν 2) : TD d n st ln kd (fun i => 9 - ti i) := by
  refine ⟨T.1, fun i i0 i1 => ?_⟩
  obtain ⟨a, b, e, f⟩ := T.2 i i0 i1
  rw [h]
  refine ⟨a, b, fun q => (e q).2, ?_⟩
  rcases f with ⟨f1, f2, f3⟩ | ⟨f1, f2, f3, -, -, -, f4, f5, f6⟩
  · refine Or.inl ⟨f1, f2, fun p p0 p1 => ?_⟩
    obtain ⟨g1, g2, g3⟩ := f3 p p0 p1
    have := nsg_r g1 g2
    rw [g3]; omega
  · exact Or.inr ⟨f1, f2, by dsimp only; omega, f4, f5, by rw [f6]; dsimp only; omega⟩
theorem b_readTale (R : R2 μ ν) (T : TX μ ν n st ln kd ti) (hn : 1 ≤ n ∧ n ≤ 20) (hL : μ 1 1 = st n - 1) (hL' : ν 1 1 = st n - 1) (h61 : st n ≤ 61) : xx_fault μ 1 = -5 ∧ (xx_readTale μ).1 = hcn kd n ∧ (xx_readTale ν).1 = hcn kd n ∧ xx_count (xx_readTale μ).2 1 = n ∧ xx_count (xx_readTale μ).2 2 = hcn kd n ∧ xx_count (xx_readTale μ).2 3 = hcn kd n ∧ xx_count (xx_readTale μ).2 5 = 0 ∧ R2 (xx_readTale μ).2 (xx_readTale ν).2 := by
  have xb := xb_readTale R.B R.P
  have xb' := xb_readTale R.B' R.P'
  have r1 : xx_record μ 1 = μ 1 := rec_k R (by decide)
  have r2 : xx_record μ 2 = μ 2 := rec_k R (by decide)
  have q1 : xx_record ν 1 = ν 1 := rec_k' R (by decide)
  have q2 : xx_record ν 2 = ν 2 := rec_k' R (by decide)
  have f1 := td_fault (T.l (c := μ) rfl) hn hL
  have f2 := td_fault (T.r (d := ν) rfl) hn hL'
  have T1 := T.l r2
  have T2 := T.r q2
  obtain ⟨a1, a2, a3, a4, a5⟩ := tk_all T1 hn (by rw [r1]; exact hL)
  obtain ⟨b1, b2, b3, b4, b5⟩ := tk_all T2 hn (by rw [q1]; exact hL')
  obtain ⟨c, hc⟩ : ∃ c, c = xx_takeFrom (xx_record μ) := ⟨_, rfl⟩
  obtain ⟨d, hd⟩ : ∃ d, d = xx_takeFrom (xx_record ν) := ⟨_, rfl⟩
  rw [← hc] at a1 a2 a3 a4 a5
  rw [← hd] at b1 b2 b3 b4 b5
  have hx : xx_readTale μ = (hcn kd n, c) := by unfold xx_readTale; rw [if_pos f1, ← hc, a2]
  have hy : xx_readTale ν = (hcn kd n, d) := by unfold xx_readTale; rw [if_pos f2, ← hd, b2]
  have hb := hcn_b kd (i := n) (by omega)
  have NP : NR c d := by
    refine SR.tale (α := fun o => xx_record μ (3 + o)) (β := fun o => xx_record ν (3 + o)) R.recN (fun o ho h => a3 _ (by omega)) (fun o ho h => b3 _ (by omega)) ?_ ⟨hcn kd, hcn_0 kd, ?_, fun i i0 i1 => ?_⟩ (fun i i0 i1 ik => ?_) (fun h h0 h1 => ?_)
    · show d 10 0 = c 10 0 ∧ d 10 1 = c 10 1 ∧ (0 ≤ c 10 0 ∧ c 10 0 ≤ 20) ∧ (0 ≤ c 10 1 ∧ c 10 1 ≤ 20)
      rw [a1, a2, b1, b2]; exact ⟨rfl, rfl, by omega, by omega⟩
    · show hcn kd (c 10 0) = c 10 1
      rw [a1, a2]
    · change i < c 10 0 at i1
      rw [a1] at i1
      show d 11 i = c 11 i ∧ ((c 11 i = -1 ∧ hcn kd (i + 1) = hcn kd i) ∨ (c 11 i = hcn kd i ∧ hcn kd (i + 1) = hcn kd i + 1))
      obtain ⟨u1, u2, u3, u4⟩ := a5 i i0 i1
      obtain ⟨v1, v2, v3, v4⟩ := b5 i i0 i1
      rw [hcn_s kd i0]
      by_cases k : kd i = -1
      · rw [u3 k, v3 k, if_pos k]; exact ⟨rfl, Or.inl ⟨rfl, by omega⟩⟩
      · rw [(u4 k).1, (v4 k).1, if_neg k]; exact ⟨rfl, Or.inr ⟨rfl, rfl⟩⟩
    · change i < c 10 0 at i1
      change c 11 i = -1 at ik
      rw [a1] at i1
      show d 12 i = c 12 i ∧ d 13 i = c 13 i ∧ (1 ≤ c 13 i ∧ c 13 i ≤ 10) ∧ 0 ≤ c 12 i ∧ c 12 i + c 13 i ≤ 60 ∧ ∀ p, 0 ≤ p → p < c 13 i → d 14 (c 12 i + p) = nsg (c 14 (c 12 i + p)) ∧ 97 ≤ c 14 (c 12 i + p) ∧ c 14 (c 12 i + p) ≤ 122
      obtain ⟨u1, u2, u3, u4⟩ := a5 i i0 i1
      obtain ⟨v1, v2, v3, v4⟩ := b5 i i0 i1
      have k : kd i = -1 := by
        by_cases k : kd i = -1
        · exact k
        · have := (u4 k).1
          have := hcn_b kd i0
          omega
      obtain ⟨-, g0, -, g⟩ := T.2 i i0 i1
      have te := td_end T1 i0 i1
      rw [u1, u2, v1, v2]
      rcases g with ⟨g1, g2, g3⟩ | ⟨g1, -⟩
      · refine ⟨rfl, rfl, g2, g0, by omega, fun p p0 p1 => ?_⟩
        rw [a4 _ (by omega) (by omega), b4 _ (by omega) (by omega), sg_in (by omega) (by rw [q1, hL']; omega), sg_in (by omega) (by rw [r1, hL]; omega), r2, q2]
        obtain ⟨w1, w2, w3⟩ := g3 p p0 p1
        exact ⟨w3, w1, w2⟩
      · omega
    · change h < c 10 1 at h1
      rw [a2] at h1
      show d 15 h = c 15 h ∧ d 16 h = 9 - c 16 h ∧ d 17 h = c 17 h ∧ d 18 h = -1 ∧ (0 ≤ c 15 h ∧ c 15 h ≤ 2) ∧ (0 ≤ c 16 h ∧ c 16 h ≤ 9) ∧ c 18 h = -1
      obtain ⟨j, j0, j1, j2, j3⟩ := hcn_at kd (i := n) (by omega) h0 h1
      obtain ⟨-, -, -, u4⟩ := a5 j j0 j1
      obtain ⟨-, -, -, v4⟩ := b5 j j0 j1
      obtain ⟨-, e1, e2, e3, e4⟩ := u4 j2
      obtain ⟨-, g1, g2, g3, g4⟩ := v4 j2
      rw [j3] at e1 e2 e3 e4 g1 g2 g3 g4
      obtain ⟨-, -, -, g⟩ := T.2 j j0 j1
      rw [e1, e2, e3, e4, g1, g2, g3, g4]
      rcases g with ⟨w1, -⟩ | ⟨w1, w2, w3, -⟩
      · exact absurd w1 j2
      · exact ⟨rfl, rfl, rfl, rfl, w1, w3, rfl⟩
  have all : ∀ h, 0 ≤ h → h < hcn kd n → c 18 h = -1 := fun h h0 h1 => by
    obtain ⟨j, j0, j1, j2, j3⟩ := hcn_at kd (i := n) (by omega) h0 h1
    obtain ⟨-, -, -, u4⟩ := a5 j j0 j1
    rw [← j3]; exact (u4 j2).2.2.2.2
  rw [hx] at xb ⊢
  rw [hy] at xb' ⊢
  dsimp only at xb xb' ⊢
  refine ⟨?_, rfl, rfl, ?_, ?_, ?_, ?_, R.act xb xb' (fun k hk _ => a3 k (by omega)) (fun k hk _ => b3 k (by omega)) NP⟩
  · unfold xx_fault
    rw [if_neg n10', if_pos f1]
  · unfold xx_count
    rw [if_neg (by decide), if_pos rfl, a1]
  · unfold xx_count
    rw [if_neg (by decide), if_neg (by decide), if_pos rfl, a2]
  · unfold xx_count
    rw [if_neg (by decide), if_neg (by decide), if_neg (by decide), if_pos rfl, hw_sm NP, a2]
    have z : ∀ m : Nat, (m : Int) ≤ hcn kd n → sm (fun h => if c 18 h = -1 then 1 else 0) m = m := by
      intro m
      induction m with
      | zero => intro _; rfl
      | succ m ih =>
        intro hm
        rw [sm_succ, ih (by omega), all m (by omega) (by omega), if_pos rfl]; omega
    rw [z _ (by omega)]; omega
  · unfold xx_count
    rw [if_neg (by decide), if_neg (by decide), if_neg (by decide), if_neg (by decide), if_neg (by decide), if_pos rfl]
    have key : ∀ (f : Nat) (l : Int), 0 ≤ l → l ≤ c 10 1 → c 10 1 - l < f → xx_lettersInHoles_4 f c 0 l = 0 := by
      intro f
      induction f with
      | zero => intro l l0 l1 hf; omega
      | succ f ih =>
        intro l l0 l1 hf
        rw [xx_lettersInHoles_4]
        by_cases q : l < c 10 1
        · have e : xx_lettersIn c l = 0 := by
            unfold xx_lettersIn xx_isEmptyHole
            rw [at_wordIn NP l0 q, all l l0 (by omega), if_pos rfl, if_neg n10']
          rw [if_pos q, e, Int.add_zero]
          exact ih (l + 1) (by omega) (by omega) (by omega)
        · rw [if_neg q]
    have := zN_big
    have hob := NP.hob
    exact key zN 0 (by omega) (by omega) (by omega)
end EQ
