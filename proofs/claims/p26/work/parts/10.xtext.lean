def kb_5_isBelow_0 : List zI := [(.iload_n 0, 1, 0, 0), (.ifCond .lt 12, 3, 13, 0)]
theorem kd_5_isBelow_0 : zdec md_5_isBelow 0 kb_5_isBelow_0 = true := by decide +kernel
def kb_5_isBelow_13 : List zI := [(.iconst 0, 1, 0, 0)]
theorem kd_5_isBelow_13 : zdec md_5_isBelow 13 kb_5_isBelow_13 = true := by decide +kernel
theorem kr_5_isBelow_14 : decode md_5_isBelow.2.1 14 = .ok (.ireturn, 1) := by decide +kernel
def kb_5_isBelow_4 : List zI := [(.iload_n 0, 1, 0, 0), (.iload_n 1, 1, 0, 0), (.if_icmp .ge 7, 3, 13, 0)]
theorem kd_5_isBelow_4 : zdec md_5_isBelow 4 kb_5_isBelow_4 = true := by decide +kernel
def kb_5_isBelow_9 : List zI := [(.iconst 1, 1, 0, 0), (.goto 4, 3, 14, 0)]
theorem kd_5_isBelow_9 : zdec md_5_isBelow 9 kb_5_isBelow_9 = true := by decide +kernel
noncomputable def xx_isBelow (a0 a1 : Int) : Int := (if a0 < 0 then 0 else (if a0 < a1 then 1 else 0))
set_option maxHeartbeats 4000000 in
set_option maxRecDepth 100000 in
theorem xr_isBelow (a0 a1 : Int) (h0 : -2147483648 ≤ a0 ∧ a0 ≤ 2147483647) (h1 : -2147483648 ≤ a1 ∧ a1 ≤ 2147483647) : 0 ≤ (xx_isBelow a0 a1) ∧ (xx_isBelow a0 a1) ≤ 1 ∧ ((xx_isBelow a0 a1) = 1 → 0 ≤ a0 ∧ a0 < a1) := by
  unfold xx_isBelow
  by_cases c1 : a0 < 0
  · rw [if_pos c1]
    first | omega | (dsimp only; omega)
  · rw [if_neg c1]
    by_cases c2 : a0 < a1
    · rw [if_pos c2]
      first | omega | (dsimp only; omega)
    · rw [if_neg c2]
      first | omega | (dsimp only; omega)
set_option maxHeartbeats 4000000 in
set_option maxRecDepth 100000 in
theorem xz_isBelow {μ : zM} (a0 a1 : Int) (h0 : -2147483648 ≤ a0 ∧ a0 ≤ 2147483647) (h1 : -2147483648 ≤ a1 ∧ a1 ≤ 2147483647) : Dz md_5_isBelow [zi a0, zi a1] zSh μ (some (zi (xx_isBelow a0 a1))) zSh μ := by
  refine Dz.of (by decide) rfl rfl (show Ez md_5_isBelow 0 0 0 [(0, zi a0), (1, zi a1)] [] zSh μ (some (zi (xx_isBelow a0 a1))) zSh μ from ?_)
  unfold xx_isBelow
  refine Az.blk kd_5_isBelow_0 (show zR a0 ∧ ((a0 < 0 → Ez md_5_isBelow 0 0 13 [(0, zi a0), (1, zi a1)] [] zSh μ _ _ _) ∧ (¬ a0 < 0 → Ez md_5_isBelow 0 0 4 [(0, zi a0), (1, zi a1)] [] zSh μ _ _ _)) from ⟨(by omega), fun c1 => ?_, fun c1 => ?_⟩)
  · rw [if_pos c1]
    refine Az.blk kd_5_isBelow_13 (show Ez md_5_isBelow 0 0 14 [(0, zi a0), (1, zi a1)] [zi 0] zSh μ _ _ _ from ?_)
    exact Ez.zret kr_5_isBelow_14 rfl (Nat.zero_le _) (Nat.zero_le _) (Or.inl rfl) rfl rfl
  · rw [if_neg c1]
    refine Az.blk kd_5_isBelow_4 (show zR a0 ∧ zR a1 ∧ ((¬ a0 < a1 → Ez md_5_isBelow 0 0 13 [(0, zi a0), (1, zi a1)] [] zSh μ _ _ _) ∧ (a0 < a1 → Ez md_5_isBelow 0 0 9 [(0, zi a0), (1, zi a1)] [] zSh μ _ _ _)) from ⟨(by omega), (by omega), fun c2 => ?_, fun c2 => ?_⟩)
    · rw [if_neg c2]
      refine Az.blk kd_5_isBelow_13 (show Ez md_5_isBelow 0 0 14 [(0, zi a0), (1, zi a1)] [zi 0] zSh μ _ _ _ from ?_)
      exact Ez.zret kr_5_isBelow_14 rfl (Nat.zero_le _) (Nat.zero_le _) (Or.inl rfl) rfl rfl
    · rw [if_pos c2]
      refine Az.blk kd_5_isBelow_9 (show Ez md_5_isBelow 0 0 14 [(0, zi a0), (1, zi a1)] [zi 1] zSh μ _ _ _ from ?_)
      exact Ez.zret kr_5_isBelow_14 rfl (Nat.zero_le _) (Nat.zero_le _) (Or.inr rfl) rfl rfl
def kb_3_signAt_0 : List zI := [(.iload_n 1, 1, 0, 0), (.aload_n 0, 1, 0, 0), (.getfield 15, 3, 3, 1)]
theorem kd_3_signAt_0 : zdec md_3_signAt 0 kb_3_signAt_0 = true := by decide +kernel
theorem kr_3_signAt_5 : decode md_3_signAt.2.1 5 = .ok (.invokestatic 19, 3) := by decide +kernel
def kb_3_signAt_8 : List zI := [(.ifCond .eq 12, 3, 20, 0)]
theorem kd_3_signAt_8 : zdec md_3_signAt 8 kb_3_signAt_8 = true := by decide +kernel
def kb_3_signAt_20 : List zI := [(.iconst 0, 1, 0, 0)]
theorem kd_3_signAt_20 : zdec md_3_signAt 20 kb_3_signAt_20 = true := by decide +kernel
theorem kr_3_signAt_21 : decode md_3_signAt.2.1 21 = .ok (.ireturn, 1) := by decide +kernel
def kb_3_signAt_11 : List zI := [(.aload_n 0, 1, 0, 0), (.getfield 9, 3, 3, 0), (.iload_n 1, 1, 0, 0), (.caload, 1, 0, 0), (.goto 4, 3, 21, 0)]
theorem kd_3_signAt_11 : zdec md_3_signAt 11 kb_3_signAt_11 = true := by decide +kernel
noncomputable def xx_signAt (μ : zM) (a1 : Int) : Int := (if (xx_isBelow a1 (μ 1 1)) = 0 then 0 else (μ 2 a1))
set_option maxHeartbeats 4000000 in
set_option maxRecDepth 100000 in
theorem xr_signAt {μ : zM} (hB : zB μ) (a1 : Int) (h0 : -2147483648 ≤ a1 ∧ a1 ≤ 2147483647) : 0 ≤ (xx_signAt μ a1) ∧ (xx_signAt μ a1) ≤ 65535 ∧ (0 < (xx_signAt μ a1) → 0 ≤ a1 ∧ a1 < μ 1 1) := by
  unfold xx_signAt
  have b1 : 0 ≤ (μ 1 1) ∧ (μ 1 1) ≤ 60 := hB 1 1
  have r2 : 0 ≤ (xx_isBelow a1 (μ 1 1)) ∧ (xx_isBelow a1 (μ 1 1)) ≤ 1 ∧ ((xx_isBelow a1 (μ 1 1)) = 1 → 0 ≤ a1 ∧ a1 < (μ 1 1)) := xr_isBelow a1 (μ 1 1) (by omega) (by omega)
  by_cases c3 : (xx_isBelow a1 (μ 1 1)) = 0
  · rw [if_pos c3]
    first | omega | (dsimp only; omega)
  · rw [if_neg c3]
    have b4 : 0 ≤ (μ 2 a1) ∧ (μ 2 a1) ≤ 65535 := hB 2 a1
    first | omega | (dsimp only; omega)
set_option maxHeartbeats 4000000 in
set_option maxRecDepth 100000 in
theorem xz_signAt {μ : zM} (hB : zB μ) (a1 : Int) (h0 : -2147483648 ≤ a1 ∧ a1 ≤ 2147483647) : Dz md_3_signAt [zr 1, zi a1] zSh μ (some (zi (xx_signAt μ a1))) zSh μ := by
  refine Dz.of (by decide) rfl rfl (show Ez md_3_signAt 0 0 0 [(0, zr 1), (1, zi a1)] [] zSh μ (some (zi (xx_signAt μ a1))) zSh μ from ?_)
  unfold xx_signAt
  have b1 : 0 ≤ (μ 1 1) ∧ (μ 1 1) ≤ 60 := hB 1 1
  refine Az.blk kd_3_signAt_0 (show Ez md_3_signAt 0 0 5 [(0, zr 1), (1, zi a1)] [zi (μ 1 1), zi a1] zSh μ _ _ _ from ?_)
  refine Az.cSN (mc := md_5_isBelow) (n := 2) (As := [zi a1, zi (μ 1 1)]) (rest := []) kr_3_signAt_5 zw_215 ok_5_isBelow rfl rfl (xz_isBelow a1 (μ 1 1) (by omega) (by omega)) rfl rfl (show Ez md_3_signAt 0 0 8 [(0, zr 1), (1, zi a1)] [zi (xx_isBelow a1 (μ 1 1))] zSh μ _ _ _ from ?_)
  have r2 : 0 ≤ (xx_isBelow a1 (μ 1 1)) ∧ (xx_isBelow a1 (μ 1 1)) ≤ 1 ∧ ((xx_isBelow a1 (μ 1 1)) = 1 → 0 ≤ a1 ∧ a1 < (μ 1 1)) := xr_isBelow a1 (μ 1 1) (by omega) (by omega)
  refine Az.blk kd_3_signAt_8 (show zR (xx_isBelow a1 (μ 1 1)) ∧ (((xx_isBelow a1 (μ 1 1)) = 0 → Ez md_3_signAt 0 0 20 [(0, zr 1), (1, zi a1)] [] zSh μ _ _ _) ∧ (¬ (xx_isBelow a1 (μ 1 1)) = 0 → Ez md_3_signAt 0 0 11 [(0, zr 1), (1, zi a1)] [] zSh μ _ _ _)) from ⟨(by omega), fun c3 => ?_, fun c3 => ?_⟩)
  · rw [if_pos c3]
    refine Az.blk kd_3_signAt_20 (show Ez md_3_signAt 0 0 21 [(0, zr 1), (1, zi a1)] [zi 0] zSh μ _ _ _ from ?_)
    exact Ez.iret kr_3_signAt_21 rfl (Nat.zero_le _) (Nat.zero_le _) rfl rfl
  · rw [if_neg c3]
    have b4 : 0 ≤ (μ 2 a1) ∧ (μ 2 a1) ≤ 65535 := hB 2 a1
    refine Az.blk kd_3_signAt_11 (show (0 ≤ a1 ∧ a1 < 60) ∧ Ez md_3_signAt 0 0 21 [(0, zr 1), (1, zi a1)] [zi (μ 2 a1)] zSh μ _ _ _ from ⟨(by omega), ?_⟩)
    exact Ez.iret kr_3_signAt_21 rfl (Nat.zero_le _) (Nat.zero_le _) rfl rfl
def kb_3_hasLetterAt_0 : List zI := [(.aload_n 0, 1, 0, 0), (.iload_n 1, 1, 0, 0)]
theorem kd_3_hasLetterAt_0 : zdec md_3_hasLetterAt 0 kb_3_hasLetterAt_0 = true := by decide +kernel
theorem kr_3_hasLetterAt_2 : decode md_3_hasLetterAt.2.1 2 = .ok (.invokevirtual 23, 3) := by decide +kernel
def kb_3_hasLetterAt_5 : List zI := [(.istore_n 2, 1, 0, 0), (.iload_n 2, 1, 0, 0), (.bipush 97, 2, 0, 0), (.if_icmp .lt 13, 3, 22, 0)]
theorem kd_3_hasLetterAt_5 : zdec md_3_hasLetterAt 5 kb_3_hasLetterAt_5 = true := by decide +kernel
def kb_3_hasLetterAt_22 : List zI := [(.iconst 0, 1, 0, 0)]
theorem kd_3_hasLetterAt_22 : zdec md_3_hasLetterAt 22 kb_3_hasLetterAt_22 = true := by decide +kernel
theorem kr_3_hasLetterAt_23 : decode md_3_hasLetterAt.2.1 23 = .ok (.ireturn, 1) := by decide +kernel
def kb_3_hasLetterAt_12 : List zI := [(.iload_n 2, 1, 0, 0), (.bipush 122, 2, 0, 0), (.if_icmp .gt 7, 3, 22, 0)]
theorem kd_3_hasLetterAt_12 : zdec md_3_hasLetterAt 12 kb_3_hasLetterAt_12 = true := by decide +kernel
def kb_3_hasLetterAt_18 : List zI := [(.iconst 1, 1, 0, 0), (.goto 4, 3, 23, 0)]
theorem kd_3_hasLetterAt_18 : zdec md_3_hasLetterAt 18 kb_3_hasLetterAt_18 = true := by decide +kernel
noncomputable def xx_hasLetterAt (μ : zM) (a1 : Int) : Int := (if (xx_signAt μ a1) < 97 then 0 else (if 122 < (xx_signAt μ a1) then 0 else 1))
set_option maxHeartbeats 4000000 in
set_option maxRecDepth 100000 in
theorem xr_hasLetterAt {μ : zM} (hB : zB μ) (a1 : Int) (h0 : -2147483648 ≤ a1 ∧ a1 ≤ 2147483647) : 0 ≤ (xx_hasLetterAt μ a1) ∧ (xx_hasLetterAt μ a1) ≤ 1 ∧ ((xx_hasLetterAt μ a1) = 1 → a1 < μ 1 1) ∧ ((xx_hasLetterAt μ a1) = 1 → 97 ≤ (xx_signAt μ a1) ∧ (xx_signAt μ a1) ≤ 122) := by
  unfold xx_hasLetterAt
  have r1 : 0 ≤ (xx_signAt μ a1) ∧ (xx_signAt μ a1) ≤ 65535 ∧ (0 < (xx_signAt μ a1) → 0 ≤ a1 ∧ a1 < μ 1 1) := xr_signAt hB a1 (by omega)
  by_cases c2 : (xx_signAt μ a1) < 97
  · rw [if_pos c2]
    first | omega | (dsimp only; omega)
  · rw [if_neg c2]
    by_cases c3 : 122 < (xx_signAt μ a1)
    · rw [if_pos c3]
      first | omega | (dsimp only; omega)
    · rw [if_neg c3]
      first | omega | (dsimp only; omega)
set_option maxHeartbeats 4000000 in
set_option maxRecDepth 100000 in
theorem xz_hasLetterAt {μ : zM} (hB : zB μ) (a1 : Int) (h0 : -2147483648 ≤ a1 ∧ a1 ≤ 2147483647) : Dz md_3_hasLetterAt [zr 1, zi a1] zSh μ (some (zi (xx_hasLetterAt μ a1))) zSh μ := by
  refine Dz.of (by decide) rfl rfl (show Ez md_3_hasLetterAt 0 0 0 [(0, zr 1), (1, zi a1)] [] zSh μ (some (zi (xx_hasLetterAt μ a1))) zSh μ from ?_)
  unfold xx_hasLetterAt
  refine Az.blk kd_3_hasLetterAt_0 (show Ez md_3_hasLetterAt 0 0 2 [(0, zr 1), (1, zi a1)] [zi a1, zr 1] zSh μ _ _ _ from ?_)
  refine Az.cV (mc := md_3_signAt) (k := 1) (n := 1) (As := [zi a1]) (rest := []) kr_3_hasLetterAt_2 zw_211 ok_3_signAt rfl rfl rfl trivial (xz_signAt hB a1 (by omega)) rfl rfl (show Ez md_3_hasLetterAt 0 0 5 [(0, zr 1), (1, zi a1)] [zi (xx_signAt μ a1)] zSh μ _ _ _ from ?_)
  have r1 : 0 ≤ (xx_signAt μ a1) ∧ (xx_signAt μ a1) ≤ 65535 ∧ (0 < (xx_signAt μ a1) → 0 ≤ a1 ∧ a1 < μ 1 1) := xr_signAt hB a1 (by omega)
  refine Az.blk kd_3_hasLetterAt_5 (show zR (xx_signAt μ a1) ∧ zR 97 ∧ (((xx_signAt μ a1) < 97 → Ez md_3_hasLetterAt 0 0 22 [(2, zi (xx_signAt μ a1)), (0, zr 1), (1, zi a1)] [] zSh μ _ _ _) ∧ (¬ (xx_signAt μ a1) < 97 → Ez md_3_hasLetterAt 0 0 12 [(2, zi (xx_signAt μ a1)), (0, zr 1), (1, zi a1)] [] zSh μ _ _ _)) from ⟨(by omega), (by omega), fun c2 => ?_, fun c2 => ?_⟩)
  · rw [if_pos c2]
    refine Az.blk kd_3_hasLetterAt_22 (show Ez md_3_hasLetterAt 0 0 23 [(2, zi (xx_signAt μ a1)), (0, zr 1), (1, zi a1)] [zi 0] zSh μ _ _ _ from ?_)
    exact Ez.zret kr_3_hasLetterAt_23 rfl (Nat.zero_le _) (Nat.zero_le _) (Or.inl rfl) rfl rfl
  · rw [if_neg c2]
    refine Az.blk kd_3_hasLetterAt_12 (show zR (xx_signAt μ a1) ∧ zR 122 ∧ ((122 < (xx_signAt μ a1) → Ez md_3_hasLetterAt 0 0 22 [(2, zi (xx_signAt μ a1)), (0, zr 1), (1, zi a1)] [] zSh μ _ _ _) ∧ (¬ 122 < (xx_signAt μ a1) → Ez md_3_hasLetterAt 0 0 18 [(2, zi (xx_signAt μ a1)), (0, zr 1), (1, zi a1)] [] zSh μ _ _ _)) from ⟨(by omega), (by omega), fun c3 => ?_, fun c3 => ?_⟩)
    · rw [if_pos c3]
      refine Az.blk kd_3_hasLetterAt_22 (show Ez md_3_hasLetterAt 0 0 23 [(2, zi (xx_signAt μ a1)), (0, zr 1), (1, zi a1)] [zi 0] zSh μ _ _ _ from ?_)
      exact Ez.zret kr_3_hasLetterAt_23 rfl (Nat.zero_le _) (Nat.zero_le _) (Or.inl rfl) rfl rfl
    · rw [if_neg c3]
      refine Az.blk kd_3_hasLetterAt_18 (show Ez md_3_hasLetterAt 0 0 23 [(2, zi (xx_signAt μ a1)), (0, zr 1), (1, zi a1)] [zi 1] zSh μ _ _ _ from ?_)
      exact Ez.zret kr_3_hasLetterAt_23 rfl (Nat.zero_le _) (Nat.zero_le _) (Or.inr rfl) rfl rfl
def kb_3_endOfLetters_0 : List zI := [(.iconst 0, 1, 0, 0), (.istore_n 3, 1, 0, 0)]
theorem kd_3_endOfLetters_0 : zdec md_3_endOfLetters 0 kb_3_endOfLetters_0 = true := by decide +kernel
def kb_3_endOfLetters_2 : List zI := [(.iload_n 3, 1, 0, 0), (.iload_n 2, 1, 0, 0), (.if_icmp .ge 19, 3, 23, 0)]
theorem kd_3_endOfLetters_2 : zdec md_3_endOfLetters 2 kb_3_endOfLetters_2 = true := by decide +kernel
def kb_3_endOfLetters_23 : List zI := [(.iload_n 1, 1, 0, 0), (.iload_n 3, 1, 0, 0), (.iadd, 1, 0, 0)]
theorem kd_3_endOfLetters_23 : zdec md_3_endOfLetters 23 kb_3_endOfLetters_23 = true := by decide +kernel
theorem kr_3_endOfLetters_26 : decode md_3_endOfLetters.2.1 26 = .ok (.ireturn, 1) := by decide +kernel
def kb_3_endOfLetters_7 : List zI := [(.aload_n 0, 1, 0, 0), (.iload_n 1, 1, 0, 0), (.iload_n 3, 1, 0, 0), (.iadd, 1, 0, 0)]
theorem kd_3_endOfLetters_7 : zdec md_3_endOfLetters 7 kb_3_endOfLetters_7 = true := by decide +kernel
theorem kr_3_endOfLetters_11 : decode md_3_endOfLetters.2.1 11 = .ok (.invokevirtual 27, 3) := by decide +kernel
def kb_3_endOfLetters_14 : List zI := [(.ifCond .eq 9, 3, 23, 0)]
theorem kd_3_endOfLetters_14 : zdec md_3_endOfLetters 14 kb_3_endOfLetters_14 = true := by decide +kernel
def kb_3_endOfLetters_17 : List zI := [(.iinc 3 1, 3, 0, 0), (.goto (-18), 3, 2, 0)]
theorem kd_3_endOfLetters_17 : zdec md_3_endOfLetters 17 kb_3_endOfLetters_17 = true := by decide +kernel
noncomputable def xx_endOfLetters_2 : Nat → zM → Int → Int → Int → Int
  | 0, μ, _, _, _ => 0
  | f + 1, μ, l1, l2, l3 => (if l3 < l2 then (if (xx_hasLetterAt μ (l1 + l3)) = 0 then (l1 + l3) else (xx_endOfLetters_2 f μ l1 l2 (l3 + 1))) else (l1 + l3))
noncomputable def xx_endOfLetters (μ : zM) (a1 a2 : Int) : Int := (xx_endOfLetters_2 zN μ a1 a2 0)
set_option maxHeartbeats 4000000 in
set_option maxRecDepth 100000 in
theorem xr_endOfLetters_2 (f : Nat) (μ : zM) (hB : zB μ) (l1 : Int) (l2 : Int) (l3 : Int) (i0 : 0 ≤ l3) (i1 : l3 ≤ l2) (i2 : 0 ≤ l1 ∧ l1 ≤ 100) (i3 : 0 ≤ l2 ∧ l2 ≤ 10) (hf : l2 - l3 < (f : Int)) : l1 ≤ (xx_endOfLetters_2 f μ l1 l2 l3) ∧ (xx_endOfLetters_2 f μ l1 l2 l3) ≤ l1 + l2 := by
  induction f generalizing μ l1 l2 l3 with
  | zero => exfalso; omega
  | succ f ih =>
    replace hf : l2 - l3 < (f : Int) + 1 := by omega
    rw [xx_endOfLetters_2]
    by_cases c1 : l3 < l2
    · rw [if_pos c1]
      have r2 : 0 ≤ (xx_hasLetterAt μ (l1 + l3)) ∧ (xx_hasLetterAt μ (l1 + l3)) ≤ 1 ∧ ((xx_hasLetterAt μ (l1 + l3)) = 1 → (l1 + l3) < μ 1 1) ∧ ((xx_hasLetterAt μ (l1 + l3)) = 1 → 97 ≤ (xx_signAt μ (l1 + l3)) ∧ (xx_signAt μ (l1 + l3)) ≤ 122) := xr_hasLetterAt hB (l1 + l3) (by omega)
      by_cases c3 : (xx_hasLetterAt μ (l1 + l3)) = 0
      · rw [if_pos c3]
        first | omega | (dsimp only; omega)
      · rw [if_neg c3]
        exact ih μ hB l1 l2 (l3 + 1) (by omega) (by omega) (by omega) (by omega) (by omega)
    · rw [if_neg c1]
      first | omega | (dsimp only; omega)
set_option maxHeartbeats 4000000 in
set_option maxRecDepth 100000 in
theorem xr_endOfLetters {μ : zM} (hB : zB μ) (a1 a2 : Int) (h0 : 0 ≤ a1 ∧ a1 ≤ 100) (h1 : 0 ≤ a2 ∧ a2 ≤ 10) : a1 ≤ (xx_endOfLetters μ a1 a2) ∧ (xx_endOfLetters μ a1 a2) ≤ a1 + a2 := by
  unfold xx_endOfLetters
  have fb : (3000 : Int) ≤ ((zN : Nat) : Int) := zN_big
  exact xr_endOfLetters_2 zN μ hB a1 a2 0 (by omega) (by omega) (by omega) (by omega) (by omega)
set_option maxHeartbeats 4000000 in
set_option maxRecDepth 100000 in
theorem xz_endOfLetters_2 (f : Nat) (μ : zM) (hB : zB μ) (l1 : Int) (l2 : Int) (l3 : Int) (i0 : 0 ≤ l3) (i1 : l3 ≤ l2) (i2 : 0 ≤ l1 ∧ l1 ≤ 100) (i3 : 0 ≤ l2 ∧ l2 ≤ 10) (hf : l2 - l3 < (f : Int)) : Ez md_3_endOfLetters 0 0 2 [(0, zr 1), (1, zi l1), (2, zi l2), (3, zi l3)] [] zSh μ (some (zi (xx_endOfLetters_2 f μ l1 l2 l3))) zSh μ := by
  induction f generalizing μ l1 l2 l3 with
  | zero => exfalso; omega
  | succ f ih =>
    replace hf : l2 - l3 < (f : Int) + 1 := by omega
    rw [xx_endOfLetters_2]
    refine Az.blk kd_3_endOfLetters_2 (show zR l3 ∧ zR l2 ∧ ((¬ l3 < l2 → Ez md_3_endOfLetters 0 0 23 [(0, zr 1), (1, zi l1), (2, zi l2), (3, zi l3)] [] zSh μ _ _ _) ∧ (l3 < l2 → Ez md_3_endOfLetters 0 0 7 [(0, zr 1), (1, zi l1), (2, zi l2), (3, zi l3)] [] zSh μ _ _ _)) from ⟨(by omega), (by omega), fun c1 => ?_, fun c1 => ?_⟩)
    · rw [if_neg c1]
      refine Az.blk kd_3_endOfLetters_23 (show Ez md_3_endOfLetters 0 0 26 [(0, zr 1), (1, zi l1), (2, zi l2), (3, zi l3)] [zi (l1 + l3)] zSh μ _ _ _ from ?_)
      exact Ez.iret kr_3_endOfLetters_26 rfl (Nat.zero_le _) (Nat.zero_le _) rfl rfl
    · rw [if_pos c1]
      refine Az.blk kd_3_endOfLetters_7 (show Ez md_3_endOfLetters 0 0 11 [(0, zr 1), (1, zi l1), (2, zi l2), (3, zi l3)] [zi (l1 + l3), zr 1] zSh μ _ _ _ from ?_)
      refine Az.cV (mc := md_3_hasLetterAt) (k := 1) (n := 1) (As := [zi (l1 + l3)]) (rest := []) kr_3_endOfLetters_11 zw_218 ok_3_hasLetterAt rfl rfl rfl trivial (xz_hasLetterAt hB (l1 + l3) (by omega)) rfl rfl (show Ez md_3_endOfLetters 0 0 14 [(0, zr 1), (1, zi l1), (2, zi l2), (3, zi l3)] [zi (xx_hasLetterAt μ (l1 + l3))] zSh μ _ _ _ from ?_)
      have r2 : 0 ≤ (xx_hasLetterAt μ (l1 + l3)) ∧ (xx_hasLetterAt μ (l1 + l3)) ≤ 1 ∧ ((xx_hasLetterAt μ (l1 + l3)) = 1 → (l1 + l3) < μ 1 1) ∧ ((xx_hasLetterAt μ (l1 + l3)) = 1 → 97 ≤ (xx_signAt μ (l1 + l3)) ∧ (xx_signAt μ (l1 + l3)) ≤ 122) := xr_hasLetterAt hB (l1 + l3) (by omega)
      refine Az.blk kd_3_endOfLetters_14 (show zR (xx_hasLetterAt μ (l1 + l3)) ∧ (((xx_hasLetterAt μ (l1 + l3)) = 0 → Ez md_3_endOfLetters 0 0 23 [(0, zr 1), (1, zi l1), (2, zi l2), (3, zi l3)] [] zSh μ _ _ _) ∧ (¬ (xx_hasLetterAt μ (l1 + l3)) = 0 → Ez md_3_endOfLetters 0 0 17 [(0, zr 1), (1, zi l1), (2, zi l2), (3, zi l3)] [] zSh μ _ _ _)) from ⟨(by omega), fun c3 => ?_, fun c3 => ?_⟩)
      · rw [if_pos c3]
        refine Az.blk kd_3_endOfLetters_23 (show Ez md_3_endOfLetters 0 0 26 [(0, zr 1), (1, zi l1), (2, zi l2), (3, zi l3)] [zi (l1 + l3)] zSh μ _ _ _ from ?_)
        exact Ez.iret kr_3_endOfLetters_26 rfl (Nat.zero_le _) (Nat.zero_le _) rfl rfl
      · rw [if_neg c3]
        refine Az.blk kd_3_endOfLetters_17 (show Ez md_3_endOfLetters 0 0 2 [(3, zi (l3 + 1)), (0, zr 1), (1, zi l1), (2, zi l2)] [] zSh μ _ _ _ from ?_)
        refine Az.lvs (lv' := [(0, zr 1), (1, zi l1), (2, zi l2), (3, zi (l3 + 1))]) ?_ ?_
        · intro q hq; simp only [List.mem_cons, List.not_mem_nil, or_false] at hq; rcases hq with rfl | rfl | rfl | rfl <;> rfl
        exact ih μ hB l1 l2 (l3 + 1) (by omega) (by omega) (by omega) (by omega) (by omega)
set_option maxHeartbeats 4000000 in
set_option maxRecDepth 100000 in
theorem xz_endOfLetters {μ : zM} (hB : zB μ) (a1 a2 : Int) (h0 : 0 ≤ a1 ∧ a1 ≤ 100) (h1 : 0 ≤ a2 ∧ a2 ≤ 10) : Dz md_3_endOfLetters [zr 1, zi a1, zi a2] zSh μ (some (zi (xx_endOfLetters μ a1 a2))) zSh μ := by
  refine Dz.of (by decide) rfl rfl (show Ez md_3_endOfLetters 0 0 0 [(0, zr 1), (1, zi a1), (2, zi a2)] [] zSh μ (some (zi (xx_endOfLetters μ a1 a2))) zSh μ from ?_)
  unfold xx_endOfLetters
  refine Az.blk kd_3_endOfLetters_0 (show Ez md_3_endOfLetters 0 0 2 [(3, zi 0), (0, zr 1), (1, zi a1), (2, zi a2)] [] zSh μ _ _ _ from ?_)
  refine Az.lvs (lv' := [(0, zr 1), (1, zi a1), (2, zi a2), (3, zi 0)]) ?_ ?_
  · intro q hq; simp only [List.mem_cons, List.not_mem_nil, or_false] at hq; rcases hq with rfl | rfl | rfl | rfl <;> rfl
  have fb : (3000 : Int) ≤ ((zN : Nat) : Int) := zN_big
  exact xz_endOfLetters_2 zN μ hB a1 a2 0 (by omega) (by omega) (by omega) (by omega) (by omega)
def kb_3_faultAsStem_0 : List zI := [(.aload_n 0, 1, 0, 0), (.iconst 0, 1, 0, 0), (.bipush 8, 2, 0, 0)]
theorem kd_3_faultAsStem_0 : zdec md_3_faultAsStem 0 kb_3_faultAsStem_0 = true := by decide +kernel
theorem kr_3_faultAsStem_4 : decode md_3_faultAsStem.2.1 4 = .ok (.invokevirtual 34, 3) := by decide +kernel
def kb_3_faultAsStem_7 : List zI := [(.istore_n 1, 1, 0, 0), (.iload_n 1, 1, 0, 0), (.ifCond .eq 11, 3, 20, 0)]
theorem kd_3_faultAsStem_7 : zdec md_3_faultAsStem 7 kb_3_faultAsStem_7 = true := by decide +kernel
def kb_3_faultAsStem_20 : List zI := [(.iload_n 1, 1, 0, 0), (.goto 4, 3, 25, 0)]
theorem kd_3_faultAsStem_20 : zdec md_3_faultAsStem 20 kb_3_faultAsStem_20 = true := by decide +kernel
theorem kr_3_faultAsStem_25 : decode md_3_faultAsStem.2.1 25 = .ok (.ireturn, 1) := by decide +kernel
def kb_3_faultAsStem_12 : List zI := [(.iload_n 1, 1, 0, 0), (.aload_n 0, 1, 0, 0), (.getfield 15, 3, 3, 1), (.if_icmp .ge 7, 3, 24, 0)]
theorem kd_3_faultAsStem_12 : zdec md_3_faultAsStem 12 kb_3_faultAsStem_12 = true := by decide +kernel
def kb_3_faultAsStem_24 : List zI := [(.iconst (-1), 1, 0, 0)]
theorem kd_3_faultAsStem_24 : zdec md_3_faultAsStem 24 kb_3_faultAsStem_24 = true := by decide +kernel
noncomputable def xx_faultAsStem (μ : zM) : Int := (if (xx_endOfLetters μ 0 8) = 0 then (xx_endOfLetters μ 0 8) else (if (xx_endOfLetters μ 0 8) < (μ 1 1) then (xx_endOfLetters μ 0 8) else (-1)))
set_option maxHeartbeats 4000000 in
set_option maxRecDepth 100000 in
theorem xr_faultAsStem {μ : zM} (hB : zB μ)  : -1 ≤ (xx_faultAsStem μ) ∧ (xx_faultAsStem μ) ≤ 8 := by
  unfold xx_faultAsStem
  have r1 : (0 : Int) ≤ (xx_endOfLetters μ 0 8) ∧ (xx_endOfLetters μ 0 8) ≤ (0 : Int) + (8 : Int) := xr_endOfLetters hB 0 8 (by omega) (by omega)
  by_cases c2 : (xx_endOfLetters μ 0 8) = 0
  · rw [if_pos c2]
    first | omega | (dsimp only; omega)
  · rw [if_neg c2]
    have b3 : 0 ≤ (μ 1 1) ∧ (μ 1 1) ≤ 60 := hB 1 1
    by_cases c4 : (xx_endOfLetters μ 0 8) < (μ 1 1)
    · rw [if_pos c4]
      first | omega | (dsimp only; omega)
    · rw [if_neg c4]
      first | omega | (dsimp only; omega)
set_option maxHeartbeats 4000000 in
set_option maxRecDepth 100000 in
theorem xz_faultAsStem {μ : zM} (hB : zB μ)  : Dz md_3_faultAsStem [zr 1] zSh μ (some (zi (xx_faultAsStem μ))) zSh μ := by
  refine Dz.of (by decide) rfl rfl (show Ez md_3_faultAsStem 0 0 0 [(0, zr 1)] [] zSh μ (some (zi (xx_faultAsStem μ))) zSh μ from ?_)
  unfold xx_faultAsStem
  refine Az.blk kd_3_faultAsStem_0 (show Ez md_3_faultAsStem 0 0 4 [(0, zr 1)] [zi 8, zi 0, zr 1] zSh μ _ _ _ from ?_)
  refine Az.cV (mc := md_3_endOfLetters) (k := 1) (n := 2) (As := [zi 0, zi 8]) (rest := []) kr_3_faultAsStem_4 zw_234 ok_3_endOfLetters rfl rfl rfl trivial (xz_endOfLetters hB 0 8 (by omega) (by omega)) rfl rfl (show Ez md_3_faultAsStem 0 0 7 [(0, zr 1)] [zi (xx_endOfLetters μ 0 8)] zSh μ _ _ _ from ?_)
  have r1 : (0 : Int) ≤ (xx_endOfLetters μ 0 8) ∧ (xx_endOfLetters μ 0 8) ≤ (0 : Int) + (8 : Int) := xr_endOfLetters hB 0 8 (by omega) (by omega)
  refine Az.blk kd_3_faultAsStem_7 (show zR (xx_endOfLetters μ 0 8) ∧ (((xx_endOfLetters μ 0 8) = 0 → Ez md_3_faultAsStem 0 0 20 [(1, zi (xx_endOfLetters μ 0 8)), (0, zr 1)] [] zSh μ _ _ _) ∧ (¬ (xx_endOfLetters μ 0 8) = 0 → Ez md_3_faultAsStem 0 0 12 [(1, zi (xx_endOfLetters μ 0 8)), (0, zr 1)] [] zSh μ _ _ _)) from ⟨(by omega), fun c2 => ?_, fun c2 => ?_⟩)
  · rw [if_pos c2]
    refine Az.blk kd_3_faultAsStem_20 (show Ez md_3_faultAsStem 0 0 25 [(1, zi (xx_endOfLetters μ 0 8)), (0, zr 1)] [zi (xx_endOfLetters μ 0 8)] zSh μ _ _ _ from ?_)
    exact Ez.iret kr_3_faultAsStem_25 rfl (Nat.zero_le _) (Nat.zero_le _) rfl rfl
  · rw [if_neg c2]
    have b3 : 0 ≤ (μ 1 1) ∧ (μ 1 1) ≤ 60 := hB 1 1
    refine Az.blk kd_3_faultAsStem_12 (show zR (xx_endOfLetters μ 0 8) ∧ zR (μ 1 1) ∧ ((¬ (xx_endOfLetters μ 0 8) < (μ 1 1) → Ez md_3_faultAsStem 0 0 24 [(1, zi (xx_endOfLetters μ 0 8)), (0, zr 1)] [] zSh μ _ _ _) ∧ ((xx_endOfLetters μ 0 8) < (μ 1 1) → Ez md_3_faultAsStem 0 0 20 [(1, zi (xx_endOfLetters μ 0 8)), (0, zr 1)] [] zSh μ _ _ _)) from ⟨(by omega), (by omega), fun c4 => ?_, fun c4 => ?_⟩)
    · rw [if_neg c4]
      refine Az.blk kd_3_faultAsStem_24 (show Ez md_3_faultAsStem 0 0 25 [(1, zi (xx_endOfLetters μ 0 8)), (0, zr 1)] [zi (-1)] zSh μ _ _ _ from ?_)
      exact Ez.iret kr_3_faultAsStem_25 rfl (Nat.zero_le _) (Nat.zero_le _) rfl rfl
    · rw [if_pos c4]
      refine Az.blk kd_3_faultAsStem_20 (show Ez md_3_faultAsStem 0 0 25 [(1, zi (xx_endOfLetters μ 0 8)), (0, zr 1)] [zi (xx_endOfLetters μ 0 8)] zSh μ _ _ _ from ?_)
      exact Ez.iret kr_3_faultAsStem_25 rfl (Nat.zero_le _) (Nat.zero_le _) rfl rfl
def kb_3_letterNumberAt_0 : List zI := [(.aload_n 0, 1, 0, 0), (.iload_n 1, 1, 0, 0)]
theorem kd_3_letterNumberAt_0 : zdec md_3_letterNumberAt 0 kb_3_letterNumberAt_0 = true := by decide +kernel
theorem kr_3_letterNumberAt_2 : decode md_3_letterNumberAt.2.1 2 = .ok (.invokevirtual 27, 3) := by decide +kernel
def kb_3_letterNumberAt_5 : List zI := [(.ifCond .eq 16, 3, 21, 0)]
theorem kd_3_letterNumberAt_5 : zdec md_3_letterNumberAt 5 kb_3_letterNumberAt_5 = true := by decide +kernel
def kb_3_letterNumberAt_21 : List zI := [(.iconst 0, 1, 0, 0)]
theorem kd_3_letterNumberAt_21 : zdec md_3_letterNumberAt 21 kb_3_letterNumberAt_21 = true := by decide +kernel
theorem kr_3_letterNumberAt_22 : decode md_3_letterNumberAt.2.1 22 = .ok (.ireturn, 1) := by decide +kernel
def kb_3_letterNumberAt_8 : List zI := [(.aload_n 0, 1, 0, 0), (.iload_n 1, 1, 0, 0)]
theorem kd_3_letterNumberAt_8 : zdec md_3_letterNumberAt 8 kb_3_letterNumberAt_8 = true := by decide +kernel
theorem kr_3_letterNumberAt_10 : decode md_3_letterNumberAt.2.1 10 = .ok (.invokevirtual 23, 3) := by decide +kernel
def kb_3_letterNumberAt_13 : List zI := [(.bipush 97, 2, 0, 0), (.isub, 1, 0, 0), (.iconst 1, 1, 0, 0), (.iadd, 1, 0, 0), (.goto 4, 3, 22, 0)]
theorem kd_3_letterNumberAt_13 : zdec md_3_letterNumberAt 13 kb_3_letterNumberAt_13 = true := by decide +kernel
noncomputable def xx_letterNumberAt (μ : zM) (a1 : Int) : Int := (if (xx_hasLetterAt μ a1) = 0 then 0 else (((xx_signAt μ a1) - 97) + 1))
set_option maxHeartbeats 4000000 in
set_option maxRecDepth 100000 in
theorem xr_letterNumberAt {μ : zM} (hB : zB μ) (a1 : Int) (h0 : -2147483648 ≤ a1 ∧ a1 ≤ 2147483647) : 0 ≤ (xx_letterNumberAt μ a1) ∧ (xx_letterNumberAt μ a1) ≤ 26 := by
  unfold xx_letterNumberAt
  have r1 : 0 ≤ (xx_hasLetterAt μ a1) ∧ (xx_hasLetterAt μ a1) ≤ 1 ∧ ((xx_hasLetterAt μ a1) = 1 → a1 < μ 1 1) ∧ ((xx_hasLetterAt μ a1) = 1 → 97 ≤ (xx_signAt μ a1) ∧ (xx_signAt μ a1) ≤ 122) := xr_hasLetterAt hB a1 (by omega)
  by_cases c2 : (xx_hasLetterAt μ a1) = 0
  · rw [if_pos c2]
    first | omega | (dsimp only; omega)
  · rw [if_neg c2]
    have r3 : 0 ≤ (xx_signAt μ a1) ∧ (xx_signAt μ a1) ≤ 65535 ∧ (0 < (xx_signAt μ a1) → 0 ≤ a1 ∧ a1 < μ 1 1) := xr_signAt hB a1 (by omega)
    first | omega | (dsimp only; omega)
set_option maxHeartbeats 4000000 in
set_option maxRecDepth 100000 in
theorem xz_letterNumberAt {μ : zM} (hB : zB μ) (a1 : Int) (h0 : -2147483648 ≤ a1 ∧ a1 ≤ 2147483647) : Dz md_3_letterNumberAt [zr 1, zi a1] zSh μ (some (zi (xx_letterNumberAt μ a1))) zSh μ := by
  refine Dz.of (by decide) rfl rfl (show Ez md_3_letterNumberAt 0 0 0 [(0, zr 1), (1, zi a1)] [] zSh μ (some (zi (xx_letterNumberAt μ a1))) zSh μ from ?_)
  unfold xx_letterNumberAt
  refine Az.blk kd_3_letterNumberAt_0 (show Ez md_3_letterNumberAt 0 0 2 [(0, zr 1), (1, zi a1)] [zi a1, zr 1] zSh μ _ _ _ from ?_)
  refine Az.cV (mc := md_3_hasLetterAt) (k := 1) (n := 1) (As := [zi a1]) (rest := []) kr_3_letterNumberAt_2 zw_218 ok_3_hasLetterAt rfl rfl rfl trivial (xz_hasLetterAt hB a1 (by omega)) rfl rfl (show Ez md_3_letterNumberAt 0 0 5 [(0, zr 1), (1, zi a1)] [zi (xx_hasLetterAt μ a1)] zSh μ _ _ _ from ?_)
  have r1 : 0 ≤ (xx_hasLetterAt μ a1) ∧ (xx_hasLetterAt μ a1) ≤ 1 ∧ ((xx_hasLetterAt μ a1) = 1 → a1 < μ 1 1) ∧ ((xx_hasLetterAt μ a1) = 1 → 97 ≤ (xx_signAt μ a1) ∧ (xx_signAt μ a1) ≤ 122) := xr_hasLetterAt hB a1 (by omega)
  refine Az.blk kd_3_letterNumberAt_5 (show zR (xx_hasLetterAt μ a1) ∧ (((xx_hasLetterAt μ a1) = 0 → Ez md_3_letterNumberAt 0 0 21 [(0, zr 1), (1, zi a1)] [] zSh μ _ _ _) ∧ (¬ (xx_hasLetterAt μ a1) = 0 → Ez md_3_letterNumberAt 0 0 8 [(0, zr 1), (1, zi a1)] [] zSh μ _ _ _)) from ⟨(by omega), fun c2 => ?_, fun c2 => ?_⟩)
  · rw [if_pos c2]
    refine Az.blk kd_3_letterNumberAt_21 (show Ez md_3_letterNumberAt 0 0 22 [(0, zr 1), (1, zi a1)] [zi 0] zSh μ _ _ _ from ?_)
    exact Ez.iret kr_3_letterNumberAt_22 rfl (Nat.zero_le _) (Nat.zero_le _) rfl rfl
  · rw [if_neg c2]
    refine Az.blk kd_3_letterNumberAt_8 (show Ez md_3_letterNumberAt 0 0 10 [(0, zr 1), (1, zi a1)] [zi a1, zr 1] zSh μ _ _ _ from ?_)
    refine Az.cV (mc := md_3_signAt) (k := 1) (n := 1) (As := [zi a1]) (rest := []) kr_3_letterNumberAt_10 zw_211 ok_3_signAt rfl rfl rfl trivial (xz_signAt hB a1 (by omega)) rfl rfl (show Ez md_3_letterNumberAt 0 0 13 [(0, zr 1), (1, zi a1)] [zi (xx_signAt μ a1)] zSh μ _ _ _ from ?_)
    have r3 : 0 ≤ (xx_signAt μ a1) ∧ (xx_signAt μ a1) ≤ 65535 ∧ (0 < (xx_signAt μ a1) → 0 ≤ a1 ∧ a1 < μ 1 1) := xr_signAt hB a1 (by omega)
    refine Az.blk kd_3_letterNumberAt_13 (show Ez md_3_letterNumberAt 0 0 22 [(0, zr 1), (1, zi a1)] [zi (((xx_signAt μ a1) - 97) + 1)] zSh μ _ _ _ from ?_)
    exact Ez.iret kr_3_letterNumberAt_22 rfl (Nat.zero_le _) (Nat.zero_le _) rfl rfl
def kb_5_isEnding_0 : List zI := [(.iload_n 0, 1, 0, 0), (.bipush 27, 2, 0, 0)]
theorem kd_5_isEnding_0 : zdec md_5_isEnding 0 kb_5_isEnding_0 = true := by decide +kernel
theorem kr_5_isEnding_3 : decode md_5_isEnding.2.1 3 = .ok (.invokestatic 37, 3) := by decide +kernel
def kb_5_isEnding_6 : List zI := [(.ifCond .eq 24, 3, 30, 0)]
theorem kd_5_isEnding_6 : zdec md_5_isEnding 6 kb_5_isEnding_6 = true := by decide +kernel
def kb_5_isEnding_30 : List zI := [(.iconst 0, 1, 0, 0)]
theorem kd_5_isEnding_30 : zdec md_5_isEnding 30 kb_5_isEnding_30 = true := by decide +kernel
theorem kr_5_isEnding_31 : decode md_5_isEnding.2.1 31 = .ok (.ireturn, 1) := by decide +kernel
def kb_5_isEnding_9 : List zI := [(.iload_n 1, 1, 0, 0), (.iload_n 0, 1, 0, 0), (.ifCond .ne 7, 3, 18, 0)]
theorem kd_5_isEnding_9 : zdec md_5_isEnding 9 kb_5_isEnding_9 = true := by decide +kernel
def kb_5_isEnding_18 : List zI := [(.bipush 27, 2, 0, 0)]
theorem kd_5_isEnding_18 : zdec md_5_isEnding 18 kb_5_isEnding_18 = true := by decide +kernel
theorem kr_5_isEnding_20 : decode md_5_isEnding.2.1 20 = .ok (.invokestatic 37, 3) := by decide +kernel
def kb_5_isEnding_23 : List zI := [(.ifCond .eq 7, 3, 30, 0)]
theorem kd_5_isEnding_23 : zdec md_5_isEnding 23 kb_5_isEnding_23 = true := by decide +kernel
def kb_5_isEnding_26 : List zI := [(.iconst 1, 1, 0, 0), (.goto 4, 3, 31, 0)]
theorem kd_5_isEnding_26 : zdec md_5_isEnding 26 kb_5_isEnding_26 = true := by decide +kernel
def kb_5_isEnding_14 : List zI := [(.iconst 1, 1, 0, 0), (.goto 5, 3, 20, 0)]
theorem kd_5_isEnding_14 : zdec md_5_isEnding 14 kb_5_isEnding_14 = true := by decide +kernel
noncomputable def xx_isEnding (a0 a1 : Int) : Int := (if (xx_isBelow a0 27) = 0 then 0 else (if a0 = 0 then (if (xx_isBelow a1 1) = 0 then 0 else 1) else (if (xx_isBelow a1 27) = 0 then 0 else 1)))
set_option maxHeartbeats 4000000 in
set_option maxRecDepth 100000 in
theorem xr_isEnding (a0 a1 : Int) (h0 : -2147483648 ≤ a0 ∧ a0 ≤ 2147483647) (h1 : -2147483648 ≤ a1 ∧ a1 ≤ 2147483647) : 0 ≤ (xx_isEnding a0 a1) ∧ (xx_isEnding a0 a1) ≤ 1 := by
  unfold xx_isEnding
  have r1 : 0 ≤ (xx_isBelow a0 27) ∧ (xx_isBelow a0 27) ≤ 1 ∧ ((xx_isBelow a0 27) = 1 → 0 ≤ a0 ∧ a0 < (27 : Int)) := xr_isBelow a0 27 (by omega) (by omega)
  by_cases c2 : (xx_isBelow a0 27) = 0
  · rw [if_pos c2]
    first | omega | (dsimp only; omega)
  · rw [if_neg c2]
    by_cases c3 : a0 = 0
    · rw [if_pos c3]
      have r6 : 0 ≤ (xx_isBelow a1 1) ∧ (xx_isBelow a1 1) ≤ 1 ∧ ((xx_isBelow a1 1) = 1 → 0 ≤ a1 ∧ a1 < (1 : Int)) := xr_isBelow a1 1 (by omega) (by omega)
      by_cases c7 : (xx_isBelow a1 1) = 0
      · rw [if_pos c7]
        first | omega | (dsimp only; omega)
      · rw [if_neg c7]
        first | omega | (dsimp only; omega)
    · rw [if_neg c3]
      have r4 : 0 ≤ (xx_isBelow a1 27) ∧ (xx_isBelow a1 27) ≤ 1 ∧ ((xx_isBelow a1 27) = 1 → 0 ≤ a1 ∧ a1 < (27 : Int)) := xr_isBelow a1 27 (by omega) (by omega)
      by_cases c5 : (xx_isBelow a1 27) = 0
      · rw [if_pos c5]
        first | omega | (dsimp only; omega)
      · rw [if_neg c5]
        first | omega | (dsimp only; omega)
set_option maxHeartbeats 4000000 in
set_option maxRecDepth 100000 in
theorem xz_isEnding {μ : zM} (a0 a1 : Int) (h0 : -2147483648 ≤ a0 ∧ a0 ≤ 2147483647) (h1 : -2147483648 ≤ a1 ∧ a1 ≤ 2147483647) : Dz md_5_isEnding [zi a0, zi a1] zSh μ (some (zi (xx_isEnding a0 a1))) zSh μ := by
  refine Dz.of (by decide) rfl rfl (show Ez md_5_isEnding 0 0 0 [(0, zi a0), (1, zi a1)] [] zSh μ (some (zi (xx_isEnding a0 a1))) zSh μ from ?_)
  unfold xx_isEnding
  refine Az.blk kd_5_isEnding_0 (show Ez md_5_isEnding 0 0 3 [(0, zi a0), (1, zi a1)] [zi 27, zi a0] zSh μ _ _ _ from ?_)
  refine Az.cS (mc := md_5_isBelow) (n := 2) (As := [zi a0, zi 27]) (rest := []) kr_5_isEnding_3 zw_422 ok_5_isBelow rfl rfl (xz_isBelow a0 27 (by omega) (by omega)) rfl rfl (show Ez md_5_isEnding 0 0 6 [(0, zi a0), (1, zi a1)] [zi (xx_isBelow a0 27)] zSh μ _ _ _ from ?_)
  have r1 : 0 ≤ (xx_isBelow a0 27) ∧ (xx_isBelow a0 27) ≤ 1 ∧ ((xx_isBelow a0 27) = 1 → 0 ≤ a0 ∧ a0 < (27 : Int)) := xr_isBelow a0 27 (by omega) (by omega)
  refine Az.blk kd_5_isEnding_6 (show zR (xx_isBelow a0 27) ∧ (((xx_isBelow a0 27) = 0 → Ez md_5_isEnding 0 0 30 [(0, zi a0), (1, zi a1)] [] zSh μ _ _ _) ∧ (¬ (xx_isBelow a0 27) = 0 → Ez md_5_isEnding 0 0 9 [(0, zi a0), (1, zi a1)] [] zSh μ _ _ _)) from ⟨(by omega), fun c2 => ?_, fun c2 => ?_⟩)
  · rw [if_pos c2]
    refine Az.blk kd_5_isEnding_30 (show Ez md_5_isEnding 0 0 31 [(0, zi a0), (1, zi a1)] [zi 0] zSh μ _ _ _ from ?_)
    exact Ez.zret kr_5_isEnding_31 rfl (Nat.zero_le _) (Nat.zero_le _) (Or.inl rfl) rfl rfl
  · rw [if_neg c2]
    refine Az.blk kd_5_isEnding_9 (show zR a0 ∧ ((¬ a0 = 0 → Ez md_5_isEnding 0 0 18 [(0, zi a0), (1, zi a1)] [zi a1] zSh μ _ _ _) ∧ (a0 = 0 → Ez md_5_isEnding 0 0 14 [(0, zi a0), (1, zi a1)] [zi a1] zSh μ _ _ _)) from ⟨(by omega), fun c3 => ?_, fun c3 => ?_⟩)
    · rw [if_neg c3]
      refine Az.blk kd_5_isEnding_18 (show Ez md_5_isEnding 0 0 20 [(0, zi a0), (1, zi a1)] [zi 27, zi a1] zSh μ _ _ _ from ?_)
      refine Az.cS (mc := md_5_isBelow) (n := 2) (As := [zi a1, zi 27]) (rest := []) kr_5_isEnding_20 zw_422 ok_5_isBelow rfl rfl (xz_isBelow a1 27 (by omega) (by omega)) rfl rfl (show Ez md_5_isEnding 0 0 23 [(0, zi a0), (1, zi a1)] [zi (xx_isBelow a1 27)] zSh μ _ _ _ from ?_)
      have r4 : 0 ≤ (xx_isBelow a1 27) ∧ (xx_isBelow a1 27) ≤ 1 ∧ ((xx_isBelow a1 27) = 1 → 0 ≤ a1 ∧ a1 < (27 : Int)) := xr_isBelow a1 27 (by omega) (by omega)
      refine Az.blk kd_5_isEnding_23 (show zR (xx_isBelow a1 27) ∧ (((xx_isBelow a1 27) = 0 → Ez md_5_isEnding 0 0 30 [(0, zi a0), (1, zi a1)] [] zSh μ _ _ _) ∧ (¬ (xx_isBelow a1 27) = 0 → Ez md_5_isEnding 0 0 26 [(0, zi a0), (1, zi a1)] [] zSh μ _ _ _)) from ⟨(by omega), fun c5 => ?_, fun c5 => ?_⟩)
      · rw [if_pos c5]
        refine Az.blk kd_5_isEnding_30 (show Ez md_5_isEnding 0 0 31 [(0, zi a0), (1, zi a1)] [zi 0] zSh μ _ _ _ from ?_)
        exact Ez.zret kr_5_isEnding_31 rfl (Nat.zero_le _) (Nat.zero_le _) (Or.inl rfl) rfl rfl
      · rw [if_neg c5]
        refine Az.blk kd_5_isEnding_26 (show Ez md_5_isEnding 0 0 31 [(0, zi a0), (1, zi a1)] [zi 1] zSh μ _ _ _ from ?_)
        exact Ez.zret kr_5_isEnding_31 rfl (Nat.zero_le _) (Nat.zero_le _) (Or.inr rfl) rfl rfl
    · rw [if_pos c3]
      refine Az.blk kd_5_isEnding_14 (show Ez md_5_isEnding 0 0 20 [(0, zi a0), (1, zi a1)] [zi 1, zi a1] zSh μ _ _ _ from ?_)
      refine Az.cS (mc := md_5_isBelow) (n := 2) (As := [zi a1, zi 1]) (rest := []) kr_5_isEnding_20 zw_422 ok_5_isBelow rfl rfl (xz_isBelow a1 1 (by omega) (by omega)) rfl rfl (show Ez md_5_isEnding 0 0 23 [(0, zi a0), (1, zi a1)] [zi (xx_isBelow a1 1)] zSh μ _ _ _ from ?_)
      have r6 : 0 ≤ (xx_isBelow a1 1) ∧ (xx_isBelow a1 1) ≤ 1 ∧ ((xx_isBelow a1 1) = 1 → 0 ≤ a1 ∧ a1 < (1 : Int)) := xr_isBelow a1 1 (by omega) (by omega)
      refine Az.blk kd_5_isEnding_23 (show zR (xx_isBelow a1 1) ∧ (((xx_isBelow a1 1) = 0 → Ez md_5_isEnding 0 0 30 [(0, zi a0), (1, zi a1)] [] zSh μ _ _ _) ∧ (¬ (xx_isBelow a1 1) = 0 → Ez md_5_isEnding 0 0 26 [(0, zi a0), (1, zi a1)] [] zSh μ _ _ _)) from ⟨(by omega), fun c7 => ?_, fun c7 => ?_⟩)
      · rw [if_pos c7]
        refine Az.blk kd_5_isEnding_30 (show Ez md_5_isEnding 0 0 31 [(0, zi a0), (1, zi a1)] [zi 0] zSh μ _ _ _ from ?_)
        exact Ez.zret kr_5_isEnding_31 rfl (Nat.zero_le _) (Nat.zero_le _) (Or.inl rfl) rfl rfl
      · rw [if_neg c7]
        refine Az.blk kd_5_isEnding_26 (show Ez md_5_isEnding 0 0 31 [(0, zi a0), (1, zi a1)] [zi 1] zSh μ _ _ _ from ?_)
        exact Ez.zret kr_5_isEnding_31 rfl (Nat.zero_le _) (Nat.zero_le _) (Or.inr rfl) rfl rfl
def kb_3_hasHoleAt_0 : List zI := [(.aload_n 0, 1, 0, 0), (.iload_n 1, 1, 0, 0)]
theorem kd_3_hasHoleAt_0 : zdec md_3_hasHoleAt 0 kb_3_hasHoleAt_0 = true := by decide +kernel
theorem kr_3_hasHoleAt_2 : decode md_3_hasHoleAt.2.1 2 = .ok (.invokevirtual 23, 3) := by decide +kernel
def kb_3_hasHoleAt_5 : List zI := [(.bipush 35, 2, 0, 0), (.if_icmp .ne 7, 3, 14, 0)]
theorem kd_3_hasHoleAt_5 : zdec md_3_hasHoleAt 5 kb_3_hasHoleAt_5 = true := by decide +kernel
def kb_3_hasHoleAt_14 : List zI := [(.iconst 0, 1, 0, 0)]
theorem kd_3_hasHoleAt_14 : zdec md_3_hasHoleAt 14 kb_3_hasHoleAt_14 = true := by decide +kernel
theorem kr_3_hasHoleAt_15 : decode md_3_hasHoleAt.2.1 15 = .ok (.ireturn, 1) := by decide +kernel
def kb_3_hasHoleAt_10 : List zI := [(.iconst 1, 1, 0, 0), (.goto 4, 3, 15, 0)]
theorem kd_3_hasHoleAt_10 : zdec md_3_hasHoleAt 10 kb_3_hasHoleAt_10 = true := by decide +kernel
noncomputable def xx_hasHoleAt (μ : zM) (a1 : Int) : Int := (if (xx_signAt μ a1) = 35 then 1 else 0)
set_option maxHeartbeats 4000000 in
set_option maxRecDepth 100000 in
theorem xr_hasHoleAt {μ : zM} (hB : zB μ) (a1 : Int) (h0 : -2147483648 ≤ a1 ∧ a1 ≤ 2147483647) : 0 ≤ (xx_hasHoleAt μ a1) ∧ (xx_hasHoleAt μ a1) ≤ 1 ∧ ((xx_hasHoleAt μ a1) = 1 → a1 < μ 1 1) := by
  unfold xx_hasHoleAt
  have r1 : 0 ≤ (xx_signAt μ a1) ∧ (xx_signAt μ a1) ≤ 65535 ∧ (0 < (xx_signAt μ a1) → 0 ≤ a1 ∧ a1 < μ 1 1) := xr_signAt hB a1 (by omega)
  by_cases c2 : (xx_signAt μ a1) = 35
  · rw [if_pos c2]
    first | omega | (dsimp only; omega)
  · rw [if_neg c2]
    first | omega | (dsimp only; omega)
set_option maxHeartbeats 4000000 in
set_option maxRecDepth 100000 in
theorem xz_hasHoleAt {μ : zM} (hB : zB μ) (a1 : Int) (h0 : -2147483648 ≤ a1 ∧ a1 ≤ 2147483647) : Dz md_3_hasHoleAt [zr 1, zi a1] zSh μ (some (zi (xx_hasHoleAt μ a1))) zSh μ := by
  refine Dz.of (by decide) rfl rfl (show Ez md_3_hasHoleAt 0 0 0 [(0, zr 1), (1, zi a1)] [] zSh μ (some (zi (xx_hasHoleAt μ a1))) zSh μ from ?_)
  unfold xx_hasHoleAt
  refine Az.blk kd_3_hasHoleAt_0 (show Ez md_3_hasHoleAt 0 0 2 [(0, zr 1), (1, zi a1)] [zi a1, zr 1] zSh μ _ _ _ from ?_)
  refine Az.cV (mc := md_3_signAt) (k := 1) (n := 1) (As := [zi a1]) (rest := []) kr_3_hasHoleAt_2 zw_211 ok_3_signAt rfl rfl rfl trivial (xz_signAt hB a1 (by omega)) rfl rfl (show Ez md_3_hasHoleAt 0 0 5 [(0, zr 1), (1, zi a1)] [zi (xx_signAt μ a1)] zSh μ _ _ _ from ?_)
  have r1 : 0 ≤ (xx_signAt μ a1) ∧ (xx_signAt μ a1) ≤ 65535 ∧ (0 < (xx_signAt μ a1) → 0 ≤ a1 ∧ a1 < μ 1 1) := xr_signAt hB a1 (by omega)
  refine Az.blk kd_3_hasHoleAt_5 (show zR (xx_signAt μ a1) ∧ zR 35 ∧ ((¬ (xx_signAt μ a1) = 35 → Ez md_3_hasHoleAt 0 0 14 [(0, zr 1), (1, zi a1)] [] zSh μ _ _ _) ∧ ((xx_signAt μ a1) = 35 → Ez md_3_hasHoleAt 0 0 10 [(0, zr 1), (1, zi a1)] [] zSh μ _ _ _)) from ⟨(by omega), (by omega), fun c2 => ?_, fun c2 => ?_⟩)
  · rw [if_neg c2]
    refine Az.blk kd_3_hasHoleAt_14 (show Ez md_3_hasHoleAt 0 0 15 [(0, zr 1), (1, zi a1)] [zi 0] zSh μ _ _ _ from ?_)
    exact Ez.zret kr_3_hasHoleAt_15 rfl (Nat.zero_le _) (Nat.zero_le _) (Or.inl rfl) rfl rfl
  · rw [if_pos c2]
    refine Az.blk kd_3_hasHoleAt_10 (show Ez md_3_hasHoleAt 0 0 15 [(0, zr 1), (1, zi a1)] [zi 1] zSh μ _ _ _ from ?_)
    exact Ez.zret kr_3_hasHoleAt_15 rfl (Nat.zero_le _) (Nat.zero_le _) (Or.inr rfl) rfl rfl
def kb_3_kindAt_0 : List zI := [(.aload_n 0, 1, 0, 0), (.iload_n 1, 1, 0, 0)]
theorem kd_3_kindAt_0 : zdec md_3_kindAt 0 kb_3_kindAt_0 = true := by decide +kernel
theorem kr_3_kindAt_2 : decode md_3_kindAt.2.1 2 = .ok (.invokevirtual 23, 3) := by decide +kernel
def kb_3_kindAt_5 : List zI := [(.lookupswitch 41 #[(97, 39), (110, 35), (118, 37)], 35, 0, 0)]
theorem kd_3_kindAt_5 : zdec md_3_kindAt 5 kb_3_kindAt_5 = true := by decide +kernel
def kb_3_kindAt_44 : List zI := [(.iconst 2, 1, 0, 0)]
theorem kd_3_kindAt_44 : zdec md_3_kindAt 44 kb_3_kindAt_44 = true := by decide +kernel
theorem kr_3_kindAt_45 : decode md_3_kindAt.2.1 45 = .ok (.ireturn, 1) := by decide +kernel
def kb_3_kindAt_40 : List zI := [(.iconst 0, 1, 0, 0)]
theorem kd_3_kindAt_40 : zdec md_3_kindAt 40 kb_3_kindAt_40 = true := by decide +kernel
theorem kr_3_kindAt_41 : decode md_3_kindAt.2.1 41 = .ok (.ireturn, 1) := by decide +kernel
def kb_3_kindAt_42 : List zI := [(.iconst 1, 1, 0, 0)]
theorem kd_3_kindAt_42 : zdec md_3_kindAt 42 kb_3_kindAt_42 = true := by decide +kernel
theorem kr_3_kindAt_43 : decode md_3_kindAt.2.1 43 = .ok (.ireturn, 1) := by decide +kernel
def kb_3_kindAt_46 : List zI := [(.iconst (-1), 1, 0, 0)]
theorem kd_3_kindAt_46 : zdec md_3_kindAt 46 kb_3_kindAt_46 = true := by decide +kernel
theorem kr_3_kindAt_47 : decode md_3_kindAt.2.1 47 = .ok (.ireturn, 1) := by decide +kernel
noncomputable def xx_kindAt (μ : zM) (a1 : Int) : Int := (if (xx_signAt μ a1) = 97 then 2 else (if (xx_signAt μ a1) = 110 then 0 else (if (xx_signAt μ a1) = 118 then 1 else (-1))))
set_option maxHeartbeats 4000000 in
set_option maxRecDepth 100000 in
theorem xr_kindAt {μ : zM} (hB : zB μ) (a1 : Int) (h0 : -2147483648 ≤ a1 ∧ a1 ≤ 2147483647) : -1 ≤ (xx_kindAt μ a1) ∧ (xx_kindAt μ a1) ≤ 2 := by
  unfold xx_kindAt
  have r1 : 0 ≤ (xx_signAt μ a1) ∧ (xx_signAt μ a1) ≤ 65535 ∧ (0 < (xx_signAt μ a1) → 0 ≤ a1 ∧ a1 < μ 1 1) := xr_signAt hB a1 (by omega)
  by_cases c2 : (xx_signAt μ a1) = 97
  · rw [if_pos c2]
    first | omega | (dsimp only; omega)
  by_cases c3 : (xx_signAt μ a1) = 110
  · rw [if_neg c2, if_pos c3]
    first | omega | (dsimp only; omega)
  by_cases c4 : (xx_signAt μ a1) = 118
  · rw [if_neg c2, if_neg c3, if_pos c4]
    first | omega | (dsimp only; omega)
  · rw [if_neg c2, if_neg c3, if_neg c4]
    first | omega | (dsimp only; omega)
set_option maxHeartbeats 4000000 in
set_option maxRecDepth 100000 in
theorem xz_kindAt {μ : zM} (hB : zB μ) (a1 : Int) (h0 : -2147483648 ≤ a1 ∧ a1 ≤ 2147483647) : Dz md_3_kindAt [zr 1, zi a1] zSh μ (some (zi (xx_kindAt μ a1))) zSh μ := by
  refine Dz.of (by decide) rfl rfl (show Ez md_3_kindAt 0 0 0 [(0, zr 1), (1, zi a1)] [] zSh μ (some (zi (xx_kindAt μ a1))) zSh μ from ?_)
  unfold xx_kindAt
  refine Az.blk kd_3_kindAt_0 (show Ez md_3_kindAt 0 0 2 [(0, zr 1), (1, zi a1)] [zi a1, zr 1] zSh μ _ _ _ from ?_)
  refine Az.cV (mc := md_3_signAt) (k := 1) (n := 1) (As := [zi a1]) (rest := []) kr_3_kindAt_2 zw_211 ok_3_signAt rfl rfl rfl trivial (xz_signAt hB a1 (by omega)) rfl rfl (show Ez md_3_kindAt 0 0 5 [(0, zr 1), (1, zi a1)] [zi (xx_signAt μ a1)] zSh μ _ _ _ from ?_)
  have r1 : 0 ≤ (xx_signAt μ a1) ∧ (xx_signAt μ a1) ≤ 65535 ∧ (0 < (xx_signAt μ a1) → 0 ≤ a1 ∧ a1 < μ 1 1) := xr_signAt hB a1 (by omega)
  refine Az.blk kd_3_kindAt_5 (show zR (xx_signAt μ a1) ∧ (((xx_signAt μ a1) = 97 → Ez md_3_kindAt 0 0 44 [(0, zr 1), (1, zi a1)] [] zSh μ _ _ _) ∧ (¬ (xx_signAt μ a1) = 97 → (((xx_signAt μ a1) = 110 → Ez md_3_kindAt 0 0 40 [(0, zr 1), (1, zi a1)] [] zSh μ _ _ _) ∧ (¬ (xx_signAt μ a1) = 110 → (((xx_signAt μ a1) = 118 → Ez md_3_kindAt 0 0 42 [(0, zr 1), (1, zi a1)] [] zSh μ _ _ _) ∧ (¬ (xx_signAt μ a1) = 118 → Ez md_3_kindAt 0 0 46 [(0, zr 1), (1, zi a1)] [] zSh μ _ _ _)))))) from ⟨(by omega), ⟨fun c2 => ?_, fun c2 => ⟨fun c3 => ?_, fun c3 => ⟨fun c4 => ?_, fun c4 => ?_⟩⟩⟩⟩)
  · rw [if_pos c2]
    refine Az.blk kd_3_kindAt_44 (show Ez md_3_kindAt 0 0 45 [(0, zr 1), (1, zi a1)] [zi 2] zSh μ _ _ _ from ?_)
    exact Ez.iret kr_3_kindAt_45 rfl (Nat.zero_le _) (Nat.zero_le _) rfl rfl
  · rw [if_neg c2, if_pos c3]
    refine Az.blk kd_3_kindAt_40 (show Ez md_3_kindAt 0 0 41 [(0, zr 1), (1, zi a1)] [zi 0] zSh μ _ _ _ from ?_)
    exact Ez.iret kr_3_kindAt_41 rfl (Nat.zero_le _) (Nat.zero_le _) rfl rfl
  · rw [if_neg c2, if_neg c3, if_pos c4]
    refine Az.blk kd_3_kindAt_42 (show Ez md_3_kindAt 0 0 43 [(0, zr 1), (1, zi a1)] [zi 1] zSh μ _ _ _ from ?_)
    exact Ez.iret kr_3_kindAt_43 rfl (Nat.zero_le _) (Nat.zero_le _) rfl rfl
  · rw [if_neg c2, if_neg c3, if_neg c4]
    refine Az.blk kd_3_kindAt_46 (show Ez md_3_kindAt 0 0 47 [(0, zr 1), (1, zi a1)] [zi (-1)] zSh μ _ _ _ from ?_)
    exact Ez.iret kr_3_kindAt_47 rfl (Nat.zero_le _) (Nat.zero_le _) rfl rfl
def kb_3_digitAt_0 : List zI := [(.aload_n 0, 1, 0, 0), (.iload_n 1, 1, 0, 0)]
theorem kd_3_digitAt_0 : zdec md_3_digitAt 0 kb_3_digitAt_0 = true := by decide +kernel
theorem kr_3_digitAt_2 : decode md_3_digitAt.2.1 2 = .ok (.invokevirtual 23, 3) := by decide +kernel
def kb_3_digitAt_5 : List zI := [(.bipush 48, 2, 0, 0), (.isub, 1, 0, 0), (.istore_n 2, 1, 0, 0), (.iload_n 2, 1, 0, 0), (.bipush 10, 2, 0, 0)]
theorem kd_3_digitAt_5 : zdec md_3_digitAt 5 kb_3_digitAt_5 = true := by decide +kernel
theorem kr_3_digitAt_12 : decode md_3_digitAt.2.1 12 = .ok (.invokestatic 19, 3) := by decide +kernel
def kb_3_digitAt_15 : List zI := [(.ifCond .eq 7, 3, 22, 0)]
theorem kd_3_digitAt_15 : zdec md_3_digitAt 15 kb_3_digitAt_15 = true := by decide +kernel
def kb_3_digitAt_22 : List zI := [(.iconst (-1), 1, 0, 0)]
theorem kd_3_digitAt_22 : zdec md_3_digitAt 22 kb_3_digitAt_22 = true := by decide +kernel
theorem kr_3_digitAt_23 : decode md_3_digitAt.2.1 23 = .ok (.ireturn, 1) := by decide +kernel
def kb_3_digitAt_18 : List zI := [(.iload_n 2, 1, 0, 0), (.goto 4, 3, 23, 0)]
theorem kd_3_digitAt_18 : zdec md_3_digitAt 18 kb_3_digitAt_18 = true := by decide +kernel
noncomputable def xx_digitAt (μ : zM) (a1 : Int) : Int := (if (xx_isBelow ((xx_signAt μ a1) - 48) 10) = 0 then (-1) else ((xx_signAt μ a1) - 48))
set_option maxHeartbeats 4000000 in
set_option maxRecDepth 100000 in
theorem xr_digitAt {μ : zM} (hB : zB μ) (a1 : Int) (h0 : -2147483648 ≤ a1 ∧ a1 ≤ 2147483647) : -1 ≤ (xx_digitAt μ a1) ∧ (xx_digitAt μ a1) ≤ 9 := by
  unfold xx_digitAt
  have r1 : 0 ≤ (xx_signAt μ a1) ∧ (xx_signAt μ a1) ≤ 65535 ∧ (0 < (xx_signAt μ a1) → 0 ≤ a1 ∧ a1 < μ 1 1) := xr_signAt hB a1 (by omega)
  have r2 : 0 ≤ (xx_isBelow ((xx_signAt μ a1) - 48) 10) ∧ (xx_isBelow ((xx_signAt μ a1) - 48) 10) ≤ 1 ∧ ((xx_isBelow ((xx_signAt μ a1) - 48) 10) = 1 → 0 ≤ ((xx_signAt μ a1) - 48) ∧ ((xx_signAt μ a1) - 48) < (10 : Int)) := xr_isBelow ((xx_signAt μ a1) - 48) 10 (by omega) (by omega)
  by_cases c3 : (xx_isBelow ((xx_signAt μ a1) - 48) 10) = 0
  · rw [if_pos c3]
    first | omega | (dsimp only; omega)
  · rw [if_neg c3]
    first | omega | (dsimp only; omega)
set_option maxHeartbeats 4000000 in
set_option maxRecDepth 100000 in
theorem xz_digitAt {μ : zM} (hB : zB μ) (a1 : Int) (h0 : -2147483648 ≤ a1 ∧ a1 ≤ 2147483647) : Dz md_3_digitAt [zr 1, zi a1] zSh μ (some (zi (xx_digitAt μ a1))) zSh μ := by
  refine Dz.of (by decide) rfl rfl (show Ez md_3_digitAt 0 0 0 [(0, zr 1), (1, zi a1)] [] zSh μ (some (zi (xx_digitAt μ a1))) zSh μ from ?_)
  unfold xx_digitAt
  refine Az.blk kd_3_digitAt_0 (show Ez md_3_digitAt 0 0 2 [(0, zr 1), (1, zi a1)] [zi a1, zr 1] zSh μ _ _ _ from ?_)
  refine Az.cV (mc := md_3_signAt) (k := 1) (n := 1) (As := [zi a1]) (rest := []) kr_3_digitAt_2 zw_211 ok_3_signAt rfl rfl rfl trivial (xz_signAt hB a1 (by omega)) rfl rfl (show Ez md_3_digitAt 0 0 5 [(0, zr 1), (1, zi a1)] [zi (xx_signAt μ a1)] zSh μ _ _ _ from ?_)
  have r1 : 0 ≤ (xx_signAt μ a1) ∧ (xx_signAt μ a1) ≤ 65535 ∧ (0 < (xx_signAt μ a1) → 0 ≤ a1 ∧ a1 < μ 1 1) := xr_signAt hB a1 (by omega)
  refine Az.blk kd_3_digitAt_5 (show Ez md_3_digitAt 0 0 12 [(2, zi ((xx_signAt μ a1) - 48)), (0, zr 1), (1, zi a1)] [zi 10, zi ((xx_signAt μ a1) - 48)] zSh μ _ _ _ from ?_)
  refine Az.cSN (mc := md_5_isBelow) (n := 2) (As := [zi ((xx_signAt μ a1) - 48), zi 10]) (rest := []) kr_3_digitAt_12 zw_215 ok_5_isBelow rfl rfl (xz_isBelow ((xx_signAt μ a1) - 48) 10 (by omega) (by omega)) rfl rfl (show Ez md_3_digitAt 0 0 15 [(2, zi ((xx_signAt μ a1) - 48)), (0, zr 1), (1, zi a1)] [zi (xx_isBelow ((xx_signAt μ a1) - 48) 10)] zSh μ _ _ _ from ?_)
  have r2 : 0 ≤ (xx_isBelow ((xx_signAt μ a1) - 48) 10) ∧ (xx_isBelow ((xx_signAt μ a1) - 48) 10) ≤ 1 ∧ ((xx_isBelow ((xx_signAt μ a1) - 48) 10) = 1 → 0 ≤ ((xx_signAt μ a1) - 48) ∧ ((xx_signAt μ a1) - 48) < (10 : Int)) := xr_isBelow ((xx_signAt μ a1) - 48) 10 (by omega) (by omega)
  refine Az.blk kd_3_digitAt_15 (show zR (xx_isBelow ((xx_signAt μ a1) - 48) 10) ∧ (((xx_isBelow ((xx_signAt μ a1) - 48) 10) = 0 → Ez md_3_digitAt 0 0 22 [(2, zi ((xx_signAt μ a1) - 48)), (0, zr 1), (1, zi a1)] [] zSh μ _ _ _) ∧ (¬ (xx_isBelow ((xx_signAt μ a1) - 48) 10) = 0 → Ez md_3_digitAt 0 0 18 [(2, zi ((xx_signAt μ a1) - 48)), (0, zr 1), (1, zi a1)] [] zSh μ _ _ _)) from ⟨(by omega), fun c3 => ?_, fun c3 => ?_⟩)
  · rw [if_pos c3]
    refine Az.blk kd_3_digitAt_22 (show Ez md_3_digitAt 0 0 23 [(2, zi ((xx_signAt μ a1) - 48)), (0, zr 1), (1, zi a1)] [zi (-1)] zSh μ _ _ _ from ?_)
    exact Ez.iret kr_3_digitAt_23 rfl (Nat.zero_le _) (Nat.zero_le _) rfl rfl
  · rw [if_neg c3]
    refine Az.blk kd_3_digitAt_18 (show Ez md_3_digitAt 0 0 23 [(2, zi ((xx_signAt μ a1) - 48)), (0, zr 1), (1, zi a1)] [zi ((xx_signAt μ a1) - 48)] zSh μ _ _ _ from ?_)
    exact Ez.iret kr_3_digitAt_23 rfl (Nat.zero_le _) (Nat.zero_le _) rfl rfl
def kb_3_faultInItem_0 : List zI := [(.aload_n 0, 1, 0, 0), (.iload_n 1, 1, 0, 0)]
theorem kd_3_faultInItem_0 : zdec md_3_faultInItem 0 kb_3_faultInItem_0 = true := by decide +kernel
theorem kr_3_faultInItem_2 : decode md_3_faultInItem.2.1 2 = .ok (.invokevirtual 31, 3) := by decide +kernel
def kb_3_faultInItem_5 : List zI := [(.ifCond .ne 17, 3, 22, 0)]
theorem kd_3_faultInItem_5 : zdec md_3_faultInItem 5 kb_3_faultInItem_5 = true := by decide +kernel
def kb_3_faultInItem_22 : List zI := [(.aload_n 0, 1, 0, 0), (.iload_n 1, 1, 0, 0), (.iconst 1, 1, 0, 0), (.iadd, 1, 0, 0)]
theorem kd_3_faultInItem_22 : zdec md_3_faultInItem 22 kb_3_faultInItem_22 = true := by decide +kernel
theorem kr_3_faultInItem_26 : decode md_3_faultInItem.2.1 26 = .ok (.invokevirtual 44, 3) := by decide +kernel
def kb_3_faultInItem_29 : List zI := [(.iconst (-1), 1, 0, 0), (.if_icmp .ne 7, 3, 37, 0)]
theorem kd_3_faultInItem_29 : zdec md_3_faultInItem 29 kb_3_faultInItem_29 = true := by decide +kernel
def kb_3_faultInItem_37 : List zI := [(.aload_n 0, 1, 0, 0), (.iload_n 1, 1, 0, 0), (.iconst 2, 1, 0, 0), (.iadd, 1, 0, 0)]
theorem kd_3_faultInItem_37 : zdec md_3_faultInItem 37 kb_3_faultInItem_37 = true := by decide +kernel
theorem kr_3_faultInItem_41 : decode md_3_faultInItem.2.1 41 = .ok (.invokevirtual 47, 3) := by decide +kernel
def kb_3_faultInItem_44 : List zI := [(.iconst (-1), 1, 0, 0), (.if_icmp .ne 9, 3, 54, 0)]
theorem kd_3_faultInItem_44 : zdec md_3_faultInItem 44 kb_3_faultInItem_44 = true := by decide +kernel
def kb_3_faultInItem_54 : List zI := [(.iconst (-1), 1, 0, 0)]
theorem kd_3_faultInItem_54 : zdec md_3_faultInItem 54 kb_3_faultInItem_54 = true := by decide +kernel
theorem kr_3_faultInItem_55 : decode md_3_faultInItem.2.1 55 = .ok (.ireturn, 1) := by decide +kernel
def kb_3_faultInItem_48 : List zI := [(.iload_n 1, 1, 0, 0), (.iconst 2, 1, 0, 0), (.iadd, 1, 0, 0), (.goto 4, 3, 55, 0)]
theorem kd_3_faultInItem_48 : zdec md_3_faultInItem 48 kb_3_faultInItem_48 = true := by decide +kernel
def kb_3_faultInItem_33 : List zI := [(.iload_n 1, 1, 0, 0), (.iconst 1, 1, 0, 0), (.iadd, 1, 0, 0)]
theorem kd_3_faultInItem_33 : zdec md_3_faultInItem 33 kb_3_faultInItem_33 = true := by decide +kernel
theorem kr_3_faultInItem_36 : decode md_3_faultInItem.2.1 36 = .ok (.ireturn, 1) := by decide +kernel
def kb_3_faultInItem_8 : List zI := [(.aload_n 0, 1, 0, 0), (.iload_n 1, 1, 0, 0)]
theorem kd_3_faultInItem_8 : zdec md_3_faultInItem 8 kb_3_faultInItem_8 = true := by decide +kernel
theorem kr_3_faultInItem_10 : decode md_3_faultInItem.2.1 10 = .ok (.invokevirtual 27, 3) := by decide +kernel
def kb_3_faultInItem_13 : List zI := [(.ifCond .eq 7, 3, 20, 0)]
theorem kd_3_faultInItem_13 : zdec md_3_faultInItem 13 kb_3_faultInItem_13 = true := by decide +kernel
def kb_3_faultInItem_20 : List zI := [(.iload_n 1, 1, 0, 0)]
theorem kd_3_faultInItem_20 : zdec md_3_faultInItem 20 kb_3_faultInItem_20 = true := by decide +kernel
theorem kr_3_faultInItem_21 : decode md_3_faultInItem.2.1 21 = .ok (.ireturn, 1) := by decide +kernel
def kb_3_faultInItem_16 : List zI := [(.iconst (-1), 1, 0, 0), (.goto 4, 3, 21, 0)]
theorem kd_3_faultInItem_16 : zdec md_3_faultInItem 16 kb_3_faultInItem_16 = true := by decide +kernel
noncomputable def xx_faultInItem (μ : zM) (a1 : Int) : Int := (if (xx_hasHoleAt μ a1) = 0 then (if (xx_hasLetterAt μ a1) = 0 then a1 else (-1)) else (if (xx_kindAt μ (a1 + 1)) = (-1) then (a1 + 1) else (if (xx_digitAt μ (a1 + 2)) = (-1) then (a1 + 2) else (-1))))
set_option maxHeartbeats 4000000 in
set_option maxRecDepth 100000 in
theorem xr_faultInItem {μ : zM} (hB : zB μ) (a1 : Int) (h0 : 0 ≤ a1 ∧ a1 ≤ 100) : -1 ≤ (xx_faultInItem μ a1) ∧ (xx_faultInItem μ a1) ≤ a1 + 2 := by
  unfold xx_faultInItem
  have r1 : 0 ≤ (xx_hasHoleAt μ a1) ∧ (xx_hasHoleAt μ a1) ≤ 1 ∧ ((xx_hasHoleAt μ a1) = 1 → a1 < μ 1 1) := xr_hasHoleAt hB a1 (by omega)
  by_cases c2 : (xx_hasHoleAt μ a1) = 0
  · rw [if_pos c2]
    have r7 : 0 ≤ (xx_hasLetterAt μ a1) ∧ (xx_hasLetterAt μ a1) ≤ 1 ∧ ((xx_hasLetterAt μ a1) = 1 → a1 < μ 1 1) ∧ ((xx_hasLetterAt μ a1) = 1 → 97 ≤ (xx_signAt μ a1) ∧ (xx_signAt μ a1) ≤ 122) := xr_hasLetterAt hB a1 (by omega)
    by_cases c8 : (xx_hasLetterAt μ a1) = 0
    · rw [if_pos c8]
      first | omega | (dsimp only; omega)
    · rw [if_neg c8]
      first | omega | (dsimp only; omega)
  · rw [if_neg c2]
    have r3 : -1 ≤ (xx_kindAt μ (a1 + 1)) ∧ (xx_kindAt μ (a1 + 1)) ≤ 2 := xr_kindAt hB (a1 + 1) (by omega)
    by_cases c4 : (xx_kindAt μ (a1 + 1)) = (-1)
    · rw [if_pos c4]
      first | omega | (dsimp only; omega)
    · rw [if_neg c4]
      have r5 : -1 ≤ (xx_digitAt μ (a1 + 2)) ∧ (xx_digitAt μ (a1 + 2)) ≤ 9 := xr_digitAt hB (a1 + 2) (by omega)
      by_cases c6 : (xx_digitAt μ (a1 + 2)) = (-1)
      · rw [if_pos c6]
        first | omega | (dsimp only; omega)
      · rw [if_neg c6]
        first | omega | (dsimp only; omega)
set_option maxHeartbeats 4000000 in
set_option maxRecDepth 100000 in
theorem xz_faultInItem {μ : zM} (hB : zB μ) (a1 : Int) (h0 : 0 ≤ a1 ∧ a1 ≤ 100) : Dz md_3_faultInItem [zr 1, zi a1] zSh μ (some (zi (xx_faultInItem μ a1))) zSh μ := by
  refine Dz.of (by decide) rfl rfl (show Ez md_3_faultInItem 0 0 0 [(0, zr 1), (1, zi a1)] [] zSh μ (some (zi (xx_faultInItem μ a1))) zSh μ from ?_)
  unfold xx_faultInItem
  refine Az.blk kd_3_faultInItem_0 (show Ez md_3_faultInItem 0 0 2 [(0, zr 1), (1, zi a1)] [zi a1, zr 1] zSh μ _ _ _ from ?_)
  refine Az.cV (mc := md_3_hasHoleAt) (k := 1) (n := 1) (As := [zi a1]) (rest := []) kr_3_faultInItem_2 zw_207 ok_3_hasHoleAt rfl rfl rfl trivial (xz_hasHoleAt hB a1 (by omega)) rfl rfl (show Ez md_3_faultInItem 0 0 5 [(0, zr 1), (1, zi a1)] [zi (xx_hasHoleAt μ a1)] zSh μ _ _ _ from ?_)
  have r1 : 0 ≤ (xx_hasHoleAt μ a1) ∧ (xx_hasHoleAt μ a1) ≤ 1 ∧ ((xx_hasHoleAt μ a1) = 1 → a1 < μ 1 1) := xr_hasHoleAt hB a1 (by omega)
  refine Az.blk kd_3_faultInItem_5 (show zR (xx_hasHoleAt μ a1) ∧ ((¬ (xx_hasHoleAt μ a1) = 0 → Ez md_3_faultInItem 0 0 22 [(0, zr 1), (1, zi a1)] [] zSh μ _ _ _) ∧ ((xx_hasHoleAt μ a1) = 0 → Ez md_3_faultInItem 0 0 8 [(0, zr 1), (1, zi a1)] [] zSh μ _ _ _)) from ⟨(by omega), fun c2 => ?_, fun c2 => ?_⟩)
  · rw [if_neg c2]
    refine Az.blk kd_3_faultInItem_22 (show Ez md_3_faultInItem 0 0 26 [(0, zr 1), (1, zi a1)] [zi (a1 + 1), zr 1] zSh μ _ _ _ from ?_)
    refine Az.cV (mc := md_3_kindAt) (k := 1) (n := 1) (As := [zi (a1 + 1)]) (rest := []) kr_3_faultInItem_26 zw_222 ok_3_kindAt rfl rfl rfl trivial (xz_kindAt hB (a1 + 1) (by omega)) rfl rfl (show Ez md_3_faultInItem 0 0 29 [(0, zr 1), (1, zi a1)] [zi (xx_kindAt μ (a1 + 1))] zSh μ _ _ _ from ?_)
    have r3 : -1 ≤ (xx_kindAt μ (a1 + 1)) ∧ (xx_kindAt μ (a1 + 1)) ≤ 2 := xr_kindAt hB (a1 + 1) (by omega)
    refine Az.blk kd_3_faultInItem_29 (show zR (xx_kindAt μ (a1 + 1)) ∧ zR (-1) ∧ ((¬ (xx_kindAt μ (a1 + 1)) = (-1) → Ez md_3_faultInItem 0 0 37 [(0, zr 1), (1, zi a1)] [] zSh μ _ _ _) ∧ ((xx_kindAt μ (a1 + 1)) = (-1) → Ez md_3_faultInItem 0 0 33 [(0, zr 1), (1, zi a1)] [] zSh μ _ _ _)) from ⟨(by omega), (by omega), fun c4 => ?_, fun c4 => ?_⟩)
    · rw [if_neg c4]
      refine Az.blk kd_3_faultInItem_37 (show Ez md_3_faultInItem 0 0 41 [(0, zr 1), (1, zi a1)] [zi (a1 + 2), zr 1] zSh μ _ _ _ from ?_)
      refine Az.cV (mc := md_3_digitAt) (k := 1) (n := 1) (As := [zi (a1 + 2)]) (rest := []) kr_3_faultInItem_41 zw_226 ok_3_digitAt rfl rfl rfl trivial (xz_digitAt hB (a1 + 2) (by omega)) rfl rfl (show Ez md_3_faultInItem 0 0 44 [(0, zr 1), (1, zi a1)] [zi (xx_digitAt μ (a1 + 2))] zSh μ _ _ _ from ?_)
      have r5 : -1 ≤ (xx_digitAt μ (a1 + 2)) ∧ (xx_digitAt μ (a1 + 2)) ≤ 9 := xr_digitAt hB (a1 + 2) (by omega)
      refine Az.blk kd_3_faultInItem_44 (show zR (xx_digitAt μ (a1 + 2)) ∧ zR (-1) ∧ ((¬ (xx_digitAt μ (a1 + 2)) = (-1) → Ez md_3_faultInItem 0 0 54 [(0, zr 1), (1, zi a1)] [] zSh μ _ _ _) ∧ ((xx_digitAt μ (a1 + 2)) = (-1) → Ez md_3_faultInItem 0 0 48 [(0, zr 1), (1, zi a1)] [] zSh μ _ _ _)) from ⟨(by omega), (by omega), fun c6 => ?_, fun c6 => ?_⟩)
      · rw [if_neg c6]
        refine Az.blk kd_3_faultInItem_54 (show Ez md_3_faultInItem 0 0 55 [(0, zr 1), (1, zi a1)] [zi (-1)] zSh μ _ _ _ from ?_)
        exact Ez.iret kr_3_faultInItem_55 rfl (Nat.zero_le _) (Nat.zero_le _) rfl rfl
      · rw [if_pos c6]
        refine Az.blk kd_3_faultInItem_48 (show Ez md_3_faultInItem 0 0 55 [(0, zr 1), (1, zi a1)] [zi (a1 + 2)] zSh μ _ _ _ from ?_)
        exact Ez.iret kr_3_faultInItem_55 rfl (Nat.zero_le _) (Nat.zero_le _) rfl rfl
    · rw [if_pos c4]
      refine Az.blk kd_3_faultInItem_33 (show Ez md_3_faultInItem 0 0 36 [(0, zr 1), (1, zi a1)] [zi (a1 + 1)] zSh μ _ _ _ from ?_)
      exact Ez.iret kr_3_faultInItem_36 rfl (Nat.zero_le _) (Nat.zero_le _) rfl rfl
  · rw [if_pos c2]
    refine Az.blk kd_3_faultInItem_8 (show Ez md_3_faultInItem 0 0 10 [(0, zr 1), (1, zi a1)] [zi a1, zr 1] zSh μ _ _ _ from ?_)
    refine Az.cV (mc := md_3_hasLetterAt) (k := 1) (n := 1) (As := [zi a1]) (rest := []) kr_3_faultInItem_10 zw_218 ok_3_hasLetterAt rfl rfl rfl trivial (xz_hasLetterAt hB a1 (by omega)) rfl rfl (show Ez md_3_faultInItem 0 0 13 [(0, zr 1), (1, zi a1)] [zi (xx_hasLetterAt μ a1)] zSh μ _ _ _ from ?_)
    have r7 : 0 ≤ (xx_hasLetterAt μ a1) ∧ (xx_hasLetterAt μ a1) ≤ 1 ∧ ((xx_hasLetterAt μ a1) = 1 → a1 < μ 1 1) ∧ ((xx_hasLetterAt μ a1) = 1 → 97 ≤ (xx_signAt μ a1) ∧ (xx_signAt μ a1) ≤ 122) := xr_hasLetterAt hB a1 (by omega)
    refine Az.blk kd_3_faultInItem_13 (show zR (xx_hasLetterAt μ a1) ∧ (((xx_hasLetterAt μ a1) = 0 → Ez md_3_faultInItem 0 0 20 [(0, zr 1), (1, zi a1)] [] zSh μ _ _ _) ∧ (¬ (xx_hasLetterAt μ a1) = 0 → Ez md_3_faultInItem 0 0 16 [(0, zr 1), (1, zi a1)] [] zSh μ _ _ _)) from ⟨(by omega), fun c8 => ?_, fun c8 => ?_⟩)
    · rw [if_pos c8]
      refine Az.blk kd_3_faultInItem_20 (show Ez md_3_faultInItem 0 0 21 [(0, zr 1), (1, zi a1)] [zi a1] zSh μ _ _ _ from ?_)
      exact Ez.iret kr_3_faultInItem_21 rfl (Nat.zero_le _) (Nat.zero_le _) rfl rfl
    · rw [if_neg c8]
      refine Az.blk kd_3_faultInItem_16 (show Ez md_3_faultInItem 0 0 21 [(0, zr 1), (1, zi a1)] [zi (-1)] zSh μ _ _ _ from ?_)
      exact Ez.iret kr_3_faultInItem_21 rfl (Nat.zero_le _) (Nat.zero_le _) rfl rfl
def kb_3_endOfItem_0 : List zI := [(.aload_n 0, 1, 0, 0), (.iload_n 1, 1, 0, 0)]
theorem kd_3_endOfItem_0 : zdec md_3_endOfItem 0 kb_3_endOfItem_0 = true := by decide +kernel
theorem kr_3_endOfItem_2 : decode md_3_endOfItem.2.1 2 = .ok (.invokevirtual 31, 3) := by decide +kernel
def kb_3_endOfItem_5 : List zI := [(.ifCond .eq 9, 3, 14, 0)]
theorem kd_3_endOfItem_5 : zdec md_3_endOfItem 5 kb_3_endOfItem_5 = true := by decide +kernel
def kb_3_endOfItem_14 : List zI := [(.aload_n 0, 1, 0, 0), (.iload_n 1, 1, 0, 0), (.bipush 10, 2, 0, 0)]
theorem kd_3_endOfItem_14 : zdec md_3_endOfItem 14 kb_3_endOfItem_14 = true := by decide +kernel
theorem kr_3_endOfItem_18 : decode md_3_endOfItem.2.1 18 = .ok (.invokevirtual 34, 3) := by decide +kernel
theorem kr_3_endOfItem_21 : decode md_3_endOfItem.2.1 21 = .ok (.ireturn, 1) := by decide +kernel
def kb_3_endOfItem_8 : List zI := [(.iload_n 1, 1, 0, 0), (.iconst 3, 1, 0, 0), (.iadd, 1, 0, 0), (.goto 10, 3, 21, 0)]
theorem kd_3_endOfItem_8 : zdec md_3_endOfItem 8 kb_3_endOfItem_8 = true := by decide +kernel
noncomputable def xx_endOfItem (μ : zM) (a1 : Int) : Int := (if (xx_hasHoleAt μ a1) = 0 then (xx_endOfLetters μ a1 10) else (a1 + 3))
set_option maxHeartbeats 4000000 in
set_option maxRecDepth 100000 in
theorem xr_endOfItem {μ : zM} (hB : zB μ) (a1 : Int) (h0 : 0 ≤ a1 ∧ a1 ≤ 100) : a1 ≤ (xx_endOfItem μ a1) ∧ (xx_endOfItem μ a1) ≤ a1 + 10 := by
  unfold xx_endOfItem
  have r1 : 0 ≤ (xx_hasHoleAt μ a1) ∧ (xx_hasHoleAt μ a1) ≤ 1 ∧ ((xx_hasHoleAt μ a1) = 1 → a1 < μ 1 1) := xr_hasHoleAt hB a1 (by omega)
  by_cases c2 : (xx_hasHoleAt μ a1) = 0
  · rw [if_pos c2]
    have r3 : a1 ≤ (xx_endOfLetters μ a1 10) ∧ (xx_endOfLetters μ a1 10) ≤ a1 + (10 : Int) := xr_endOfLetters hB a1 10 (by omega) (by omega)
    first | omega | (dsimp only; omega)
  · rw [if_neg c2]
    first | omega | (dsimp only; omega)
set_option maxHeartbeats 4000000 in
set_option maxRecDepth 100000 in
theorem xz_endOfItem {μ : zM} (hB : zB μ) (a1 : Int) (h0 : 0 ≤ a1 ∧ a1 ≤ 100) : Dz md_3_endOfItem [zr 1, zi a1] zSh μ (some (zi (xx_endOfItem μ a1))) zSh μ := by
  refine Dz.of (by decide) rfl rfl (show Ez md_3_endOfItem 0 0 0 [(0, zr 1), (1, zi a1)] [] zSh μ (some (zi (xx_endOfItem μ a1))) zSh μ from ?_)
  unfold xx_endOfItem
  refine Az.blk kd_3_endOfItem_0 (show Ez md_3_endOfItem 0 0 2 [(0, zr 1), (1, zi a1)] [zi a1, zr 1] zSh μ _ _ _ from ?_)
  refine Az.cV (mc := md_3_hasHoleAt) (k := 1) (n := 1) (As := [zi a1]) (rest := []) kr_3_endOfItem_2 zw_207 ok_3_hasHoleAt rfl rfl rfl trivial (xz_hasHoleAt hB a1 (by omega)) rfl rfl (show Ez md_3_endOfItem 0 0 5 [(0, zr 1), (1, zi a1)] [zi (xx_hasHoleAt μ a1)] zSh μ _ _ _ from ?_)
  have r1 : 0 ≤ (xx_hasHoleAt μ a1) ∧ (xx_hasHoleAt μ a1) ≤ 1 ∧ ((xx_hasHoleAt μ a1) = 1 → a1 < μ 1 1) := xr_hasHoleAt hB a1 (by omega)
  refine Az.blk kd_3_endOfItem_5 (show zR (xx_hasHoleAt μ a1) ∧ (((xx_hasHoleAt μ a1) = 0 → Ez md_3_endOfItem 0 0 14 [(0, zr 1), (1, zi a1)] [] zSh μ _ _ _) ∧ (¬ (xx_hasHoleAt μ a1) = 0 → Ez md_3_endOfItem 0 0 8 [(0, zr 1), (1, zi a1)] [] zSh μ _ _ _)) from ⟨(by omega), fun c2 => ?_, fun c2 => ?_⟩)
  · rw [if_pos c2]
    refine Az.blk kd_3_endOfItem_14 (show Ez md_3_endOfItem 0 0 18 [(0, zr 1), (1, zi a1)] [zi 10, zi a1, zr 1] zSh μ _ _ _ from ?_)
    refine Az.cV (mc := md_3_endOfLetters) (k := 1) (n := 2) (As := [zi a1, zi 10]) (rest := []) kr_3_endOfItem_18 zw_234 ok_3_endOfLetters rfl rfl rfl trivial (xz_endOfLetters hB a1 10 (by omega) (by omega)) rfl rfl (show Ez md_3_endOfItem 0 0 21 [(0, zr 1), (1, zi a1)] [zi (xx_endOfLetters μ a1 10)] zSh μ _ _ _ from ?_)
    have r3 : a1 ≤ (xx_endOfLetters μ a1 10) ∧ (xx_endOfLetters μ a1 10) ≤ a1 + (10 : Int) := xr_endOfLetters hB a1 10 (by omega) (by omega)
    exact Ez.iret kr_3_endOfItem_21 rfl (Nat.zero_le _) (Nat.zero_le _) rfl rfl
  · rw [if_neg c2]
    refine Az.blk kd_3_endOfItem_8 (show Ez md_3_endOfItem 0 0 21 [(0, zr 1), (1, zi a1)] [zi (a1 + 3)] zSh μ _ _ _ from ?_)
    exact Ez.iret kr_3_endOfItem_21 rfl (Nat.zero_le _) (Nat.zero_le _) rfl rfl
def kb_3_faultAsTale_0 : List zI := [(.iconst 0, 1, 0, 0), (.istore_n 1, 1, 0, 0), (.iconst 1, 1, 0, 0), (.istore_n 2, 1, 0, 0)]
theorem kd_3_faultAsTale_0 : zdec md_3_faultAsTale 0 kb_3_faultAsTale_0 = true := by decide +kernel
def kb_3_faultAsTale_4 : List zI := [(.iload_n 2, 1, 0, 0), (.bipush 20, 2, 0, 0), (.if_icmp .gt 65, 3, 72, 0)]
theorem kd_3_faultAsTale_4 : zdec md_3_faultAsTale 4 kb_3_faultAsTale_4 = true := by decide +kernel
def kb_3_faultAsTale_72 : List zI := [(.iload_n 1, 1, 0, 0)]
theorem kd_3_faultAsTale_72 : zdec md_3_faultAsTale 72 kb_3_faultAsTale_72 = true := by decide +kernel
theorem kr_3_faultAsTale_73 : decode md_3_faultAsTale.2.1 73 = .ok (.ireturn, 1) := by decide +kernel
def kb_3_faultAsTale_10 : List zI := [(.aload_n 0, 1, 0, 0), (.iload_n 1, 1, 0, 0)]
theorem kd_3_faultAsTale_10 : zdec md_3_faultAsTale 10 kb_3_faultAsTale_10 = true := by decide +kernel
theorem kr_3_faultAsTale_12 : decode md_3_faultAsTale.2.1 12 = .ok (.invokevirtual 38, 3) := by decide +kernel
def kb_3_faultAsTale_15 : List zI := [(.istore_n 3, 1, 0, 0), (.iload_n 3, 1, 0, 0), (.iconst (-1), 1, 0, 0), (.if_icmp .eq 5, 3, 23, 0)]
theorem kd_3_faultAsTale_15 : zdec md_3_faultAsTale 15 kb_3_faultAsTale_15 = true := by decide +kernel
def kb_3_faultAsTale_23 : List zI := [(.aload_n 0, 1, 0, 0), (.iload_n 1, 1, 0, 0)]
theorem kd_3_faultAsTale_23 : zdec md_3_faultAsTale 23 kb_3_faultAsTale_23 = true := by decide +kernel
theorem kr_3_faultAsTale_25 : decode md_3_faultAsTale.2.1 25 = .ok (.invokevirtual 41, 3) := by decide +kernel
def kb_3_faultAsTale_28 : List zI := [(.istore 4, 2, 0, 0), (.iload 4, 2, 0, 0), (.aload_n 0, 1, 0, 0), (.getfield 15, 3, 3, 1), (.if_icmp .lt 5, 3, 41, 0)]
theorem kd_3_faultAsTale_28 : zdec md_3_faultAsTale 28 kb_3_faultAsTale_28 = true := by decide +kernel
def kb_3_faultAsTale_41 : List zI := [(.aload_n 0, 1, 0, 0), (.iload 4, 2, 0, 0)]
theorem kd_3_faultAsTale_41 : zdec md_3_faultAsTale 41 kb_3_faultAsTale_41 = true := by decide +kernel
theorem kr_3_faultAsTale_44 : decode md_3_faultAsTale.2.1 44 = .ok (.invokevirtual 23, 3) := by decide +kernel
def kb_3_faultAsTale_47 : List zI := [(.bipush 32, 2, 0, 0), (.if_icmp .ne 9, 3, 58, 0)]
theorem kd_3_faultAsTale_47 : zdec md_3_faultAsTale 47 kb_3_faultAsTale_47 = true := by decide +kernel
def kb_3_faultAsTale_58 : List zI := [(.iload 4, 2, 0, 0)]
theorem kd_3_faultAsTale_58 : zdec md_3_faultAsTale 58 kb_3_faultAsTale_58 = true := by decide +kernel
theorem kr_3_faultAsTale_60 : decode md_3_faultAsTale.2.1 60 = .ok (.ireturn, 1) := by decide +kernel
def kb_3_faultAsTale_52 : List zI := [(.iload_n 2, 1, 0, 0), (.bipush 20, 2, 0, 0), (.if_icmp .ne 6, 3, 61, 0)]
theorem kd_3_faultAsTale_52 : zdec md_3_faultAsTale 52 kb_3_faultAsTale_52 = true := by decide +kernel
def kb_3_faultAsTale_61 : List zI := [(.iload 4, 2, 0, 0), (.iconst 1, 1, 0, 0), (.iadd, 1, 0, 0), (.istore_n 1, 1, 0, 0), (.iinc 2 1, 3, 0, 0), (.goto (-65), 3, 4, 0)]
theorem kd_3_faultAsTale_61 : zdec md_3_faultAsTale 61 kb_3_faultAsTale_61 = true := by decide +kernel
def kb_3_faultAsTale_39 : List zI := [(.iconst (-1), 1, 0, 0)]
theorem kd_3_faultAsTale_39 : zdec md_3_faultAsTale 39 kb_3_faultAsTale_39 = true := by decide +kernel
theorem kr_3_faultAsTale_40 : decode md_3_faultAsTale.2.1 40 = .ok (.ireturn, 1) := by decide +kernel
def kb_3_faultAsTale_21 : List zI := [(.iload_n 3, 1, 0, 0)]
theorem kd_3_faultAsTale_21 : zdec md_3_faultAsTale 21 kb_3_faultAsTale_21 = true := by decide +kernel
theorem kr_3_faultAsTale_22 : decode md_3_faultAsTale.2.1 22 = .ok (.ireturn, 1) := by decide +kernel
noncomputable def xx_faultAsTale_4 : Nat → zM → Int → Int → Int
  | 0, μ, _, _ => 0
  | f + 1, μ, l1, l2 => (if 20 < l2 then l1 else (if (xx_faultInItem μ l1) = (-1) then (if (xx_endOfItem μ l1) < (μ 1 1) then (if (xx_signAt μ (xx_endOfItem μ l1)) = 32 then (if l2 = 20 then (xx_endOfItem μ l1) else (xx_faultAsTale_4 f μ ((xx_endOfItem μ l1) + 1) (l2 + 1))) else (xx_endOfItem μ l1)) else (-1)) else (xx_faultInItem μ l1)))
noncomputable def xx_faultAsTale (μ : zM) : Int := (xx_faultAsTale_4 zN μ 0 1)
set_option maxHeartbeats 4000000 in
set_option maxRecDepth 100000 in
theorem xr_faultAsTale_4 (f : Nat) (μ : zM) (hB : zB μ) (l1 : Int) (l2 : Int) (i0 : 1 ≤ l2 ∧ l2 ≤ 21) (i1 : 0 ≤ l1 ∧ l1 ≤ 61) (hf : 21 - l2 < (f : Int)) : -1 ≤ (xx_faultAsTale_4 f μ l1 l2) ∧ (xx_faultAsTale_4 f μ l1 l2) ≤ 110 := by
  induction f generalizing μ l1 l2 with
  | zero => exfalso; omega
  | succ f ih =>
    replace hf : 21 - l2 < (f : Int) + 1 := by omega
    rw [xx_faultAsTale_4]
    by_cases c1 : 20 < l2
    · rw [if_pos c1]
      first | omega | (dsimp only; omega)
    · rw [if_neg c1]
      have r2 : -1 ≤ (xx_faultInItem μ l1) ∧ (xx_faultInItem μ l1) ≤ l1 + 2 := xr_faultInItem hB l1 (by omega)
      by_cases c3 : (xx_faultInItem μ l1) = (-1)
      · rw [if_pos c3]
        have r4 : l1 ≤ (xx_endOfItem μ l1) ∧ (xx_endOfItem μ l1) ≤ l1 + 10 := xr_endOfItem hB l1 (by omega)
        have b5 : 0 ≤ (μ 1 1) ∧ (μ 1 1) ≤ 60 := hB 1 1
        by_cases c6 : (xx_endOfItem μ l1) < (μ 1 1)
        · rw [if_pos c6]
          have r7 : 0 ≤ (xx_signAt μ (xx_endOfItem μ l1)) ∧ (xx_signAt μ (xx_endOfItem μ l1)) ≤ 65535 ∧ (0 < (xx_signAt μ (xx_endOfItem μ l1)) → 0 ≤ (xx_endOfItem μ l1) ∧ (xx_endOfItem μ l1) < μ 1 1) := xr_signAt hB (xx_endOfItem μ l1) (by omega)
          by_cases c8 : (xx_signAt μ (xx_endOfItem μ l1)) = 32
          · rw [if_pos c8]
            by_cases c9 : l2 = 20
            · rw [if_pos c9]
              first | omega | (dsimp only; omega)
            · rw [if_neg c9]
              exact ih μ hB ((xx_endOfItem μ l1) + 1) (l2 + 1) (by omega) (by omega) (by omega)
          · rw [if_neg c8]
            first | omega | (dsimp only; omega)
        · rw [if_neg c6]
          first | omega | (dsimp only; omega)
      · rw [if_neg c3]
        first | omega | (dsimp only; omega)
set_option maxHeartbeats 4000000 in
set_option maxRecDepth 100000 in
theorem xr_faultAsTale {μ : zM} (hB : zB μ)  : -1 ≤ (xx_faultAsTale μ) ∧ (xx_faultAsTale μ) ≤ 110 := by
  unfold xx_faultAsTale
  have fb : (3000 : Int) ≤ ((zN : Nat) : Int) := zN_big
  exact xr_faultAsTale_4 zN μ hB 0 1 (by omega) (by omega) (by omega)
set_option maxHeartbeats 4000000 in
set_option maxRecDepth 100000 in
theorem xz_faultAsTale_4 (f : Nat) (μ : zM) (hB : zB μ) (l1 : Int) (l2 : Int) (i0 : 1 ≤ l2 ∧ l2 ≤ 21) (i1 : 0 ≤ l1 ∧ l1 ≤ 61) (hf : 21 - l2 < (f : Int)) : Ez md_3_faultAsTale 0 0 4 [(0, zr 1), (1, zi l1), (2, zi l2)] [] zSh μ (some (zi (xx_faultAsTale_4 f μ l1 l2))) zSh μ := by
  induction f generalizing μ l1 l2 with
  | zero => exfalso; omega
  | succ f ih =>
    replace hf : 21 - l2 < (f : Int) + 1 := by omega
    rw [xx_faultAsTale_4]
    refine Az.blk kd_3_faultAsTale_4 (show zR l2 ∧ zR 20 ∧ ((20 < l2 → Ez md_3_faultAsTale 0 0 72 [(0, zr 1), (1, zi l1), (2, zi l2)] [] zSh μ _ _ _) ∧ (¬ 20 < l2 → Ez md_3_faultAsTale 0 0 10 [(0, zr 1), (1, zi l1), (2, zi l2)] [] zSh μ _ _ _)) from ⟨(by omega), (by omega), fun c1 => ?_, fun c1 => ?_⟩)
    · rw [if_pos c1]
      refine Az.blk kd_3_faultAsTale_72 (show Ez md_3_faultAsTale 0 0 73 [(0, zr 1), (1, zi l1), (2, zi l2)] [zi l1] zSh μ _ _ _ from ?_)
      exact Ez.iret kr_3_faultAsTale_73 rfl (Nat.zero_le _) (Nat.zero_le _) rfl rfl
    · rw [if_neg c1]
      refine Az.blk kd_3_faultAsTale_10 (show Ez md_3_faultAsTale 0 0 12 [(0, zr 1), (1, zi l1), (2, zi l2)] [zi l1, zr 1] zSh μ _ _ _ from ?_)
      refine Az.cV (mc := md_3_faultInItem) (k := 1) (n := 1) (As := [zi l1]) (rest := []) kr_3_faultAsTale_12 zw_203 ok_3_faultInItem rfl rfl rfl trivial (xz_faultInItem hB l1 (by omega)) rfl rfl (show Ez md_3_faultAsTale 0 0 15 [(0, zr 1), (1, zi l1), (2, zi l2)] [zi (xx_faultInItem μ l1)] zSh μ _ _ _ from ?_)
      have r2 : -1 ≤ (xx_faultInItem μ l1) ∧ (xx_faultInItem μ l1) ≤ l1 + 2 := xr_faultInItem hB l1 (by omega)
      refine Az.blk kd_3_faultAsTale_15 (show zR (xx_faultInItem μ l1) ∧ zR (-1) ∧ (((xx_faultInItem μ l1) = (-1) → Ez md_3_faultAsTale 0 0 23 [(3, zi (xx_faultInItem μ l1)), (0, zr 1), (1, zi l1), (2, zi l2)] [] zSh μ _ _ _) ∧ (¬ (xx_faultInItem μ l1) = (-1) → Ez md_3_faultAsTale 0 0 21 [(3, zi (xx_faultInItem μ l1)), (0, zr 1), (1, zi l1), (2, zi l2)] [] zSh μ _ _ _)) from ⟨(by omega), (by omega), fun c3 => ?_, fun c3 => ?_⟩)
      · rw [if_pos c3]
        refine Az.blk kd_3_faultAsTale_23 (show Ez md_3_faultAsTale 0 0 25 [(3, zi (xx_faultInItem μ l1)), (0, zr 1), (1, zi l1), (2, zi l2)] [zi l1, zr 1] zSh μ _ _ _ from ?_)
        refine Az.cV (mc := md_3_endOfItem) (k := 1) (n := 1) (As := [zi l1]) (rest := []) kr_3_faultAsTale_25 zw_230 ok_3_endOfItem rfl rfl rfl trivial (xz_endOfItem hB l1 (by omega)) rfl rfl (show Ez md_3_faultAsTale 0 0 28 [(3, zi (xx_faultInItem μ l1)), (0, zr 1), (1, zi l1), (2, zi l2)] [zi (xx_endOfItem μ l1)] zSh μ _ _ _ from ?_)
        have r4 : l1 ≤ (xx_endOfItem μ l1) ∧ (xx_endOfItem μ l1) ≤ l1 + 10 := xr_endOfItem hB l1 (by omega)
        have b5 : 0 ≤ (μ 1 1) ∧ (μ 1 1) ≤ 60 := hB 1 1
        refine Az.blk kd_3_faultAsTale_28 (show zR (xx_endOfItem μ l1) ∧ zR (μ 1 1) ∧ (((xx_endOfItem μ l1) < (μ 1 1) → Ez md_3_faultAsTale 0 0 41 [(4, zi (xx_endOfItem μ l1)), (3, zi (xx_faultInItem μ l1)), (0, zr 1), (1, zi l1), (2, zi l2)] [] zSh μ _ _ _) ∧ (¬ (xx_endOfItem μ l1) < (μ 1 1) → Ez md_3_faultAsTale 0 0 39 [(4, zi (xx_endOfItem μ l1)), (3, zi (xx_faultInItem μ l1)), (0, zr 1), (1, zi l1), (2, zi l2)] [] zSh μ _ _ _)) from ⟨(by omega), (by omega), fun c6 => ?_, fun c6 => ?_⟩)
        · rw [if_pos c6]
          refine Az.blk kd_3_faultAsTale_41 (show Ez md_3_faultAsTale 0 0 44 [(4, zi (xx_endOfItem μ l1)), (3, zi (xx_faultInItem μ l1)), (0, zr 1), (1, zi l1), (2, zi l2)] [zi (xx_endOfItem μ l1), zr 1] zSh μ _ _ _ from ?_)
          refine Az.cV (mc := md_3_signAt) (k := 1) (n := 1) (As := [zi (xx_endOfItem μ l1)]) (rest := []) kr_3_faultAsTale_44 zw_211 ok_3_signAt rfl rfl rfl trivial (xz_signAt hB (xx_endOfItem μ l1) (by omega)) rfl rfl (show Ez md_3_faultAsTale 0 0 47 [(4, zi (xx_endOfItem μ l1)), (3, zi (xx_faultInItem μ l1)), (0, zr 1), (1, zi l1), (2, zi l2)] [zi (xx_signAt μ (xx_endOfItem μ l1))] zSh μ _ _ _ from ?_)
          have r7 : 0 ≤ (xx_signAt μ (xx_endOfItem μ l1)) ∧ (xx_signAt μ (xx_endOfItem μ l1)) ≤ 65535 ∧ (0 < (xx_signAt μ (xx_endOfItem μ l1)) → 0 ≤ (xx_endOfItem μ l1) ∧ (xx_endOfItem μ l1) < μ 1 1) := xr_signAt hB (xx_endOfItem μ l1) (by omega)
          refine Az.blk kd_3_faultAsTale_47 (show zR (xx_signAt μ (xx_endOfItem μ l1)) ∧ zR 32 ∧ ((¬ (xx_signAt μ (xx_endOfItem μ l1)) = 32 → Ez md_3_faultAsTale 0 0 58 [(4, zi (xx_endOfItem μ l1)), (3, zi (xx_faultInItem μ l1)), (0, zr 1), (1, zi l1), (2, zi l2)] [] zSh μ _ _ _) ∧ ((xx_signAt μ (xx_endOfItem μ l1)) = 32 → Ez md_3_faultAsTale 0 0 52 [(4, zi (xx_endOfItem μ l1)), (3, zi (xx_faultInItem μ l1)), (0, zr 1), (1, zi l1), (2, zi l2)] [] zSh μ _ _ _)) from ⟨(by omega), (by omega), fun c8 => ?_, fun c8 => ?_⟩)
          · rw [if_neg c8]
            refine Az.blk kd_3_faultAsTale_58 (show Ez md_3_faultAsTale 0 0 60 [(4, zi (xx_endOfItem μ l1)), (3, zi (xx_faultInItem μ l1)), (0, zr 1), (1, zi l1), (2, zi l2)] [zi (xx_endOfItem μ l1)] zSh μ _ _ _ from ?_)
            exact Ez.iret kr_3_faultAsTale_60 rfl (Nat.zero_le _) (Nat.zero_le _) rfl rfl
          · rw [if_pos c8]
            refine Az.blk kd_3_faultAsTale_52 (show zR l2 ∧ zR 20 ∧ ((¬ l2 = 20 → Ez md_3_faultAsTale 0 0 61 [(4, zi (xx_endOfItem μ l1)), (3, zi (xx_faultInItem μ l1)), (0, zr 1), (1, zi l1), (2, zi l2)] [] zSh μ _ _ _) ∧ (l2 = 20 → Ez md_3_faultAsTale 0 0 58 [(4, zi (xx_endOfItem μ l1)), (3, zi (xx_faultInItem μ l1)), (0, zr 1), (1, zi l1), (2, zi l2)] [] zSh μ _ _ _)) from ⟨(by omega), (by omega), fun c9 => ?_, fun c9 => ?_⟩)
            · rw [if_neg c9]
              refine Az.blk kd_3_faultAsTale_61 (show Ez md_3_faultAsTale 0 0 4 [(2, zi (l2 + 1)), (1, zi ((xx_endOfItem μ l1) + 1)), (4, zi (xx_endOfItem μ l1)), (3, zi (xx_faultInItem μ l1)), (0, zr 1)] [] zSh μ _ _ _ from ?_)
              refine Az.lvs (lv' := [(0, zr 1), (1, zi ((xx_endOfItem μ l1) + 1)), (2, zi (l2 + 1))]) ?_ ?_
              · intro q hq; simp only [List.mem_cons, List.not_mem_nil, or_false] at hq; rcases hq with rfl | rfl | rfl <;> rfl
              exact ih μ hB ((xx_endOfItem μ l1) + 1) (l2 + 1) (by omega) (by omega) (by omega)
            · rw [if_pos c9]
              refine Az.blk kd_3_faultAsTale_58 (show Ez md_3_faultAsTale 0 0 60 [(4, zi (xx_endOfItem μ l1)), (3, zi (xx_faultInItem μ l1)), (0, zr 1), (1, zi l1), (2, zi l2)] [zi (xx_endOfItem μ l1)] zSh μ _ _ _ from ?_)
              exact Ez.iret kr_3_faultAsTale_60 rfl (Nat.zero_le _) (Nat.zero_le _) rfl rfl
        · rw [if_neg c6]
          refine Az.blk kd_3_faultAsTale_39 (show Ez md_3_faultAsTale 0 0 40 [(4, zi (xx_endOfItem μ l1)), (3, zi (xx_faultInItem μ l1)), (0, zr 1), (1, zi l1), (2, zi l2)] [zi (-1)] zSh μ _ _ _ from ?_)
          exact Ez.iret kr_3_faultAsTale_40 rfl (Nat.zero_le _) (Nat.zero_le _) rfl rfl
      · rw [if_neg c3]
        refine Az.blk kd_3_faultAsTale_21 (show Ez md_3_faultAsTale 0 0 22 [(3, zi (xx_faultInItem μ l1)), (0, zr 1), (1, zi l1), (2, zi l2)] [zi (xx_faultInItem μ l1)] zSh μ _ _ _ from ?_)
        exact Ez.iret kr_3_faultAsTale_22 rfl (Nat.zero_le _) (Nat.zero_le _) rfl rfl
set_option maxHeartbeats 4000000 in
set_option maxRecDepth 100000 in
theorem xz_faultAsTale {μ : zM} (hB : zB μ)  : Dz md_3_faultAsTale [zr 1] zSh μ (some (zi (xx_faultAsTale μ))) zSh μ := by
  refine Dz.of (by decide) rfl rfl (show Ez md_3_faultAsTale 0 0 0 [(0, zr 1)] [] zSh μ (some (zi (xx_faultAsTale μ))) zSh μ from ?_)
  unfold xx_faultAsTale
  refine Az.blk kd_3_faultAsTale_0 (show Ez md_3_faultAsTale 0 0 4 [(2, zi 1), (1, zi 0), (0, zr 1)] [] zSh μ _ _ _ from ?_)
  refine Az.lvs (lv' := [(0, zr 1), (1, zi 0), (2, zi 1)]) ?_ ?_
  · intro q hq; simp only [List.mem_cons, List.not_mem_nil, or_false] at hq; rcases hq with rfl | rfl | rfl <;> rfl
  have fb : (3000 : Int) ≤ ((zN : Nat) : Int) := zN_big
  exact xz_faultAsTale_4 zN μ hB 0 1 (by omega) (by omega) (by omega)
def kb_5_better_0 : List zI := [(.iload_n 0, 1, 0, 0), (.iconst (-1), 1, 0, 0), (.if_icmp .ne 5, 3, 7, 0)]
theorem kd_5_better_0 : zdec md_5_better 0 kb_5_better_0 = true := by decide +kernel
def kb_5_better_7 : List zI := [(.iload_n 1, 1, 0, 0), (.iconst (-1), 1, 0, 0), (.if_icmp .ne 5, 3, 14, 0)]
theorem kd_5_better_7 : zdec md_5_better 7 kb_5_better_7 = true := by decide +kernel
def kb_5_better_14 : List zI := [(.iload_n 2, 1, 0, 0), (.ifCond .eq 11, 3, 26, 0)]
theorem kd_5_better_14 : zdec md_5_better 14 kb_5_better_14 = true := by decide +kernel
def kb_5_better_26 : List zI := [(.iload_n 0, 1, 0, 0), (.iload_n 1, 1, 0, 0)]
theorem kd_5_better_26 : zdec md_5_better 26 kb_5_better_26 = true := by decide +kernel
theorem kr_5_better_28 : decode md_5_better.2.1 28 = .ok (.invokestatic 221, 3) := by decide +kernel
theorem kr_5_better_31 : decode md_5_better.2.1 31 = .ok (.ireturn, 1) := by decide +kernel
def kb_5_better_18 : List zI := [(.iload_n 0, 1, 0, 0), (.iload_n 1, 1, 0, 0)]
theorem kd_5_better_18 : zdec md_5_better 18 kb_5_better_18 = true := by decide +kernel
theorem kr_5_better_20 : decode md_5_better.2.1 20 = .ok (.invokestatic 216, 3) := by decide +kernel
def kb_5_better_23 : List zI := [(.goto 8, 3, 31, 0)]
theorem kd_5_better_23 : zdec md_5_better 23 kb_5_better_23 = true := by decide +kernel
def kb_5_better_12 : List zI := [(.iload_n 0, 1, 0, 0)]
theorem kd_5_better_12 : zdec md_5_better 12 kb_5_better_12 = true := by decide +kernel
theorem kr_5_better_13 : decode md_5_better.2.1 13 = .ok (.ireturn, 1) := by decide +kernel
def kb_5_better_5 : List zI := [(.iload_n 1, 1, 0, 0)]
theorem kd_5_better_5 : zdec md_5_better 5 kb_5_better_5 = true := by decide +kernel
theorem kr_5_better_6 : decode md_5_better.2.1 6 = .ok (.ireturn, 1) := by decide +kernel
noncomputable def xx_better (a0 a1 a2 : Int) : Int := (if a0 = (-1) then a1 else (if a1 = (-1) then a0 else (if a2 = 0 then (zmin a0 a1) else (zmax a0 a1))))
set_option maxHeartbeats 4000000 in
set_option maxRecDepth 100000 in
theorem xr_better (a0 a1 a2 : Int) (h0 : -2147483648 ≤ a0 ∧ a0 ≤ 2147483647) (h1 : -2147483648 ≤ a1 ∧ a1 ≤ 2147483647) (h2 : -2147483648 ≤ a2 ∧ a2 ≤ 2147483647) : ((xx_better a0 a1 a2) = a0 ∨ (xx_better a0 a1 a2) = a1) := by
  unfold xx_better
  by_cases c1 : a0 = (-1)
  · rw [if_pos c1]
    first | omega | (dsimp only; omega)
  · rw [if_neg c1]
    by_cases c2 : a1 = (-1)
    · rw [if_pos c2]
      first | omega | (dsimp only; omega)
    · rw [if_neg c2]
      by_cases c3 : a2 = 0
      · rw [if_pos c3]
        have f4 := zmin_r a0 a1
        first | omega | (dsimp only; omega)
      · rw [if_neg c3]
        have f5 := zmax_r a0 a1
        first | omega | (dsimp only; omega)
set_option maxHeartbeats 4000000 in
set_option maxRecDepth 100000 in
theorem xz_better {μ : zM} (a0 a1 a2 : Int) (h0 : -2147483648 ≤ a0 ∧ a0 ≤ 2147483647) (h1 : -2147483648 ≤ a1 ∧ a1 ≤ 2147483647) (h2 : -2147483648 ≤ a2 ∧ a2 ≤ 2147483647) : Dz md_5_better [zi a0, zi a1, zi a2] zSh μ (some (zi (xx_better a0 a1 a2))) zSh μ := by
  refine Dz.of (by decide) rfl rfl (show Ez md_5_better 0 0 0 [(0, zi a0), (1, zi a1), (2, zi a2)] [] zSh μ (some (zi (xx_better a0 a1 a2))) zSh μ from ?_)
  unfold xx_better
  refine Az.blk kd_5_better_0 (show zR a0 ∧ zR (-1) ∧ ((¬ a0 = (-1) → Ez md_5_better 0 0 7 [(0, zi a0), (1, zi a1), (2, zi a2)] [] zSh μ _ _ _) ∧ (a0 = (-1) → Ez md_5_better 0 0 5 [(0, zi a0), (1, zi a1), (2, zi a2)] [] zSh μ _ _ _)) from ⟨(by omega), (by omega), fun c1 => ?_, fun c1 => ?_⟩)
  · rw [if_neg c1]
    refine Az.blk kd_5_better_7 (show zR a1 ∧ zR (-1) ∧ ((¬ a1 = (-1) → Ez md_5_better 0 0 14 [(0, zi a0), (1, zi a1), (2, zi a2)] [] zSh μ _ _ _) ∧ (a1 = (-1) → Ez md_5_better 0 0 12 [(0, zi a0), (1, zi a1), (2, zi a2)] [] zSh μ _ _ _)) from ⟨(by omega), (by omega), fun c2 => ?_, fun c2 => ?_⟩)
    · rw [if_neg c2]
      refine Az.blk kd_5_better_14 (show zR a2 ∧ ((a2 = 0 → Ez md_5_better 0 0 26 [(0, zi a0), (1, zi a1), (2, zi a2)] [] zSh μ _ _ _) ∧ (¬ a2 = 0 → Ez md_5_better 0 0 18 [(0, zi a0), (1, zi a1), (2, zi a2)] [] zSh μ _ _ _)) from ⟨(by omega), fun c3 => ?_, fun c3 => ?_⟩)
      · rw [if_pos c3]
        refine Az.blk kd_5_better_26 (show Ez md_5_better 0 0 28 [(0, zi a0), (1, zi a1), (2, zi a2)] [zi a1, zi a0] zSh μ _ _ _ from ?_)
        have f4 := zmin_r a0 a1
        refine Az.mmin (a := a0) (b := a1) kr_5_better_28 zw_270 rfl (by omega) (by omega) rfl (show Ez md_5_better 0 0 31 [(0, zi a0), (1, zi a1), (2, zi a2)] [zi (zmin a0 a1)] zSh μ _ _ _ from ?_)
        exact Ez.iret kr_5_better_31 rfl (Nat.zero_le _) (Nat.zero_le _) rfl rfl
      · rw [if_neg c3]
        refine Az.blk kd_5_better_18 (show Ez md_5_better 0 0 20 [(0, zi a0), (1, zi a1), (2, zi a2)] [zi a1, zi a0] zSh μ _ _ _ from ?_)
        have f5 := zmax_r a0 a1
        refine Az.mmax (a := a0) (b := a1) kr_5_better_20 zw_584 rfl (by omega) (by omega) rfl (show Ez md_5_better 0 0 23 [(0, zi a0), (1, zi a1), (2, zi a2)] [zi (zmax a0 a1)] zSh μ _ _ _ from ?_)
        refine Az.blk kd_5_better_23 (show Ez md_5_better 0 0 31 [(0, zi a0), (1, zi a1), (2, zi a2)] [zi (zmax a0 a1)] zSh μ _ _ _ from ?_)
        exact Ez.iret kr_5_better_31 rfl (Nat.zero_le _) (Nat.zero_le _) rfl rfl
    · rw [if_pos c2]
      refine Az.blk kd_5_better_12 (show Ez md_5_better 0 0 13 [(0, zi a0), (1, zi a1), (2, zi a2)] [zi a0] zSh μ _ _ _ from ?_)
      exact Ez.iret kr_5_better_13 rfl (Nat.zero_le _) (Nat.zero_le _) rfl rfl
  · rw [if_pos c1]
    refine Az.blk kd_5_better_5 (show Ez md_5_better 0 0 6 [(0, zi a0), (1, zi a1), (2, zi a2)] [zi a1] zSh μ _ _ _ from ?_)
    exact Ez.iret kr_5_better_6 rfl (Nat.zero_le _) (Nat.zero_le _) rfl rfl
