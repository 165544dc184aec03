/-! the reference looks at its own row alone, the class at its own state alone -/
section EQ
variable {μ ν : zM}
theorem d_ofItem (h : ν 114 = μ 114) (i k : Int) : mm_ofItem ν i k = mm_ofItem μ i k := by unfold mm_ofItem; rw [h]
theorem d_ofWord (h : ν 114 = μ 114) (i k : Int) : mm_ofWord ν i k = mm_ofWord μ i k := by unfold mm_ofWord; rw [h]
theorem d_isHoleAt (h : ν 114 = μ 114) (i : Int) : mm_isHoleAt ν i = mm_isHoleAt μ i := by unfold mm_isHoleAt; rw [d_ofItem h]
theorem d_isWord (h : ν 114 = μ 114) (w : Int) : mm_isWord ν w = mm_isWord μ w := by unfold mm_isWord; rw [h]
theorem d_itemOf_l (h : ν 114 = μ 114) : ∀ (g : Nat) (n i : Int), mm_itemOf_4 g ν n i = mm_itemOf_4 g μ n i
  | 0, _, _ => rfl
  | g + 1, n, i => by rw [mm_itemOf_4, mm_itemOf_4, h, d_isHoleAt h, d_itemOf_l h g, d_itemOf_l h g]
theorem d_itemOf (h : ν 114 = μ 114) (i : Int) : mm_itemOf ν i = mm_itemOf μ i := d_itemOf_l h zN i 0
theorem d_isHole (h : ν 114 = μ 114) (i : Int) : mm_isHole ν i = mm_isHole μ i := by unfold mm_isHole; rw [d_itemOf h]
theorem d_nounIn_l (h : ν 114 = μ 114) (t b : Int) : ∀ (g : Nat) (i : Int), mm_nounIn_2 g ν t b i = mm_nounIn_2 g μ t b i
  | 0, _ => rfl
  | g + 1, i => by rw [mm_nounIn_2, mm_nounIn_2, h, d_isHoleAt h, d_ofItem h, d_ofItem h, d_ofItem h, d_ofWord h, d_nounIn_l h t b g]
theorem d_nounIn (h : ν 114 = μ 114) (t b : Int) : mm_nounIn ν t b = mm_nounIn μ t b := d_nounIn_l h t b zN 0
theorem d_holesWith_l (h : ν 114 = μ 114) (w : Int) : ∀ (g : Nat) (a i : Int), mm_holesWith_4 g ν w a i = mm_holesWith_4 g μ w a i
  | 0, _, _ => rfl
  | g + 1, a, i => by rw [mm_holesWith_4, mm_holesWith_4, h, d_isHoleAt h, d_ofItem h, d_holesWith_l h w g, d_holesWith_l h w g]
theorem d_holesWith (h : ν 114 = μ 114) (w : Int) : mm_holesWith ν w = mm_holesWith μ w := d_holesWith_l h w zN 0 0
theorem d_why (h : ν 114 = μ 114) (i w : Int) : mm_why ν i w = mm_why μ i w := by
  unfold mm_why
  rw [d_ofWord h, d_ofWord h, d_ofItem h, d_ofItem h, d_nounIn h, d_holesWith h, h]
theorem d_lowest_l (h : ν 114 = μ 114) (i : Int) : ∀ (g : Nat) (w : Int), mm_lowest_2 g ν i w = mm_lowest_2 g μ i w
  | 0, _ => rfl
  | g + 1, w => by rw [mm_lowest_2, mm_lowest_2, h, d_why h, d_lowest_l h i g]
theorem d_lowest (h : ν 114 = μ 114) (i : Int) : mm_lowest ν i = mm_lowest μ i := d_lowest_l h i zN 0
/-! the class -/
theorem f_hasHole (h : ∀ k, 4 ≤ k → k ≤ 20 → ν k = μ k) (i : Int) : xx_hasHole ν i = xx_hasHole μ i := by unfold xx_hasHole; rw [h 10 (by omega) (by omega)]
theorem f_knows (h : ∀ k, 4 ≤ k → k ≤ 20 → ν k = μ k) (i : Int) : xx_knows ν i = xx_knows μ i := by unfold xx_knows; rw [h 4 (by omega) (by omega)]
theorem f_kindOf (h : ∀ k, 4 ≤ k → k ≤ 20 → ν k = μ k) (i : Int) : xx_kindOf ν i = xx_kindOf μ i := by unfold xx_kindOf; rw [f_knows h, h 5 (by omega) (by omega)]
theorem f_genderOf (h : ∀ k, 4 ≤ k → k ≤ 20 → ν k = μ k) (i : Int) : xx_genderOf ν i = xx_genderOf μ i := by unfold xx_genderOf; rw [f_knows h, h 6 (by omega) (by omega)]
theorem f_kindOfHole (h : ∀ k, 4 ≤ k → k ≤ 20 → ν k = μ k) (i : Int) : xx_kindOfHole ν i = xx_kindOfHole μ i := by unfold xx_kindOfHole; rw [f_hasHole h, h 15 (by omega) (by omega)]
theorem f_tieOf (h : ∀ k, 4 ≤ k → k ≤ 20 → ν k = μ k) (i : Int) : xx_tieOf ν i = xx_tieOf μ i := by unfold xx_tieOf; rw [f_hasHole h, h 16 (by omega) (by omega)]
theorem f_wordIn (h : ∀ k, 4 ≤ k → k ≤ 20 → ν k = μ k) (i : Int) : xx_wordIn ν i = xx_wordIn μ i := by unfold xx_wordIn; rw [f_hasHole h, h 18 (by omega) (by omega)]
theorem f_isEmptyHole (h : ∀ k, 4 ≤ k → k ≤ 20 → ν k = μ k) (i : Int) : xx_isEmptyHole ν i = xx_isEmptyHole μ i := by unfold xx_isEmptyHole; rw [f_wordIn h]
theorem f_nounIn_l (h : ∀ k, 4 ≤ k → k ≤ 20 → ν k = μ k) (t b : Int) : ∀ (g : Nat) (i : Int), xx_nounIn_2 g ν t b i = xx_nounIn_2 g μ t b i
  | 0, _ => rfl
  | g + 1, i => by rw [xx_nounIn_2, xx_nounIn_2, h 10 (by omega) (by omega), h 15 (by omega) (by omega), h 16 (by omega) (by omega), h 18 (by omega) (by omega), f_nounIn_l h t b g]
theorem f_nounIn (h : ∀ k, 4 ≤ k → k ≤ 20 → ν k = μ k) (t b : Int) : xx_nounIn ν t b = xx_nounIn μ t b := f_nounIn_l h t b zN 0
theorem f_holesWith_l (h : ∀ k, 4 ≤ k → k ≤ 20 → ν k = μ k) (w : Int) : ∀ (g : Nat) (a i : Int), xx_holesWith_4 g ν w a i = xx_holesWith_4 g μ w a i
  | 0, _, _ => rfl
  | g + 1, a, i => by rw [xx_holesWith_4, xx_holesWith_4, h 10 (by omega) (by omega), f_wordIn h, f_holesWith_l h w g, f_holesWith_l h w g]
theorem f_holesWith (h : ∀ k, 4 ≤ k → k ≤ 20 → ν k = μ k) (w : Int) : xx_holesWith ν w = xx_holesWith μ w := f_holesWith_l h w zN 0 0
theorem f_why (h : ∀ k, 4 ≤ k → k ≤ 20 → ν k = μ k) (h3 : ν 3 4 = μ 3 4) (i w : Int) : xx_reasonAgainst ν i w = xx_reasonAgainst μ i w := by
  unfold xx_reasonAgainst xx_disagrees
  rw [f_kindOf h, f_kindOfHole h, f_tieOf h, f_nounIn h, f_genderOf h, f_genderOf h, f_holesWith h, h3]
theorem f_lowest_l (h : ∀ k, 4 ≤ k → k ≤ 20 → ν k = μ k) (h3 : ν 3 4 = μ 3 4) (i : Int) : ∀ (g : Nat) (w : Int), xx_lowestFitting_2 g ν i w = xx_lowestFitting_2 g μ i w
  | 0, _ => rfl
  | g + 1, w => by rw [xx_lowestFitting_2, xx_lowestFitting_2, h 4 (by omega) (by omega), f_why h h3, f_lowest_l h h3 i g]
theorem f_lowest (h : ∀ k, 4 ≤ k → k ≤ 20 → ν k = μ k) (h3 : ν 3 4 = μ 3 4) (i : Int) : xx_lowestFitting ν i = xx_lowestFitting μ i := f_lowest_l h h3 i zN 0
theorem f_someHole_l (h : ∀ k, 4 ≤ k → k ≤ 20 → ν k = μ k) (h3 : ν 3 4 = μ 3 4) : ∀ (g : Nat) (i : Int), xx_someHoleCanBeFilled_2 g ν i = xx_someHoleCanBeFilled_2 g μ i
  | 0, _ => rfl
  | g + 1, i => by rw [xx_someHoleCanBeFilled_2, xx_someHoleCanBeFilled_2, h 10 (by omega) (by omega), f_isEmptyHole h, f_lowest h h3, f_someHole_l h h3 g]
theorem f_someHole (h : ∀ k, 4 ≤ k → k ≤ 20 → ν k = μ k) (h3 : ν 3 4 = μ 3 4) : xx_someHoleCanBeFilled ν = xx_someHoleCanBeFilled μ := f_someHole_l h h3 zN 0
theorem f_stem (h1 : ν 1 = μ 1) (h2 : ν 2 = μ 2) : xx_faultAsStem ν = xx_faultAsStem μ := by
  unfold xx_faultAsStem xx_endOfLetters
  rw [c_eol h1 h2, h1]
theorem c_faultInItem (h1 : ν 1 = μ 1) (h2 : ν 2 = μ 2) (p : Int) : xx_faultInItem ν p = xx_faultInItem μ p := by unfold xx_faultInItem; rw [c_holeAt h1 h2, c_letterAt h1 h2, c_kindAt h1 h2, c_digitAt h1 h2]
theorem c_tale_l (h1 : ν 1 = μ 1) (h2 : ν 2 = μ 2) : ∀ (g : Nat) (p i : Int), xx_faultAsTale_4 g ν p i = xx_faultAsTale_4 g μ p i
  | 0, _, _ => rfl
  | g + 1, p, i => by rw [xx_faultAsTale_4, xx_faultAsTale_4, c_faultInItem h1 h2, c_endOfItem h1 h2, c_signAt h1 h2, h1, c_tale_l h1 h2 g]
theorem c_tale (h1 : ν 1 = μ 1) (h2 : ν 2 = μ 2) : xx_faultAsTale ν = xx_faultAsTale μ := c_tale_l h1 h2 zN 0 1
theorem c_tbn (h1 : ν 1 = μ 1) (h2 : ν 2 = μ 2) : ∀ n : Nat, tbn ν n = tbn μ n
  | 0 => rfl
  | n + 1 => by rw [tbn, tbn, c_tbn h1 h2 n, c_endOfItem h1 h2]
theorem c_tb (h1 : ν 1 = μ 1) (h2 : ν 2 = μ 2) (i : Int) : tb ν i = tb μ i := c_tbn h1 h2 _
theorem Parse.cong {N : Int} (P : Parse μ N) (h1 : ν 1 = μ 1) (h2 : ν 2 = μ 2) (h8 : ν 113 8 = μ 113 8) : Parse ν N := by
  obtain ⟨a, b, c, d⟩ := P
  refine ⟨a, fun i i0 i1 => ?_, fun i i0 i1 => ?_, ?_⟩
  · rw [c_tb h1 h2, c_faultInItem h1 h2]; exact b i i0 i1
  · rw [c_tb h1 h2, c_endOfItem h1 h2, h8]; exact c i i0 i1
  · rw [c_tb h1 h2, c_endOfItem h1 h2, h8]; exact d
/-! the reference's texts -/
theorem d_here (h1 : ν 119 = μ 119) (h2 : ν 113 = μ 113) (a b : Int) : mm_isHere ν a b = mm_isHere μ a b := by unfold mm_isHere; rw [h1, h2]
end EQ
noncomputable def Kp (c : zM) : zM := zset c 115 ((mm_keeps c) 115)
section EQ
variable {μ ν c : zM}
theorem Kp_ne {k : Nat} (h : k ≠ 115) : Kp c k = c k := zset_ne h
theorem Kp_115 {z : Int} (h0 : 0 ≤ z) (h1 : z < 604) : Kp c 115 z = c 114 z := by
  unfold Kp
  rw [zset_eq]
  exact e_keeps c h0 h1
/-- the core, with what was kept written out: X is the memory ahead of the end, made of Kp c by writes to 114 -/
theorem r_core (R : Rz μ) (v : Int) {X : zM} (hc : ∀ k, k < 113 → (k < 3 ∨ 20 < k) → c k = (xx_record μ) k) (hr : ∀ k, 113 ≤ k → k ≠ 118 → k ≠ 113 → c k = μ k) (h113 : ∀ z, z ≠ 9 → z ≠ 10 → c 113 z = μ 113 z) (hX : ∀ k, k ≠ 114 → X k = Kp c k) (hN : RS (fun o => c (3 + o)) (X 114)) : (mm_ends X v).1 = v ∧ Rz (mm_ends X v).2 := by
  refine r_act R v (fun k k1 k2 => ?_) (fun z z0 z1 => ?_) ?_ ?_ ?_ (fun z z1 z2 => ?_) (hN.cong (fun o ho => ?_) fun z _ _ => rfl)
  · rw [hX k (by omega), Kp_ne (by omega)]; exact hc k k1 k2
  · rw [hX 115 (by decide), Kp_115 z0 z1, hr 114 (by omega) (by decide) (by decide)]
  · rw [hX 116 (by decide), Kp_ne (by decide), hr 116 (by omega) (by decide) (by decide)]
  · rw [hX 117 (by decide), Kp_ne (by decide), hr 117 (by omega) (by decide) (by decide)]
  · rw [hX 119 (by decide), Kp_ne (by decide), hr 119 (by omega) (by decide) (by decide)]
  · rw [hX 113 (by decide), Kp_ne (by decide)]; exact h113 z z1 z2
  · rw [hX _ (by omega), Kp_ne (by omega)]
end EQ
