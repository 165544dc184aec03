def kb_4_endingOf_0 : List zI := [(.iload_n 1, 1, 0, 0), (.iconst 3, 1, 0, 0)]
theorem kd_4_endingOf_0 : zdec md_4_endingOf 0 kb_4_endingOf_0 = true := by decide +kernel
theorem kr_4_endingOf_2 : decode md_4_endingOf.2.1 2 = .ok (.invokestatic 54, 3) := by decide +kernel
def kb_4_endingOf_5 : List zI := [(.ifCond .eq 26, 3, 31, 0)]
theorem kd_4_endingOf_5 : zdec md_4_endingOf 5 kb_4_endingOf_5 = true := by decide +kernel
def kb_4_endingOf_31 : List zI := [(.iconst 0, 1, 0, 0)]
theorem kd_4_endingOf_31 : zdec md_4_endingOf 31 kb_4_endingOf_31 = true := by decide +kernel
theorem kr_4_endingOf_32 : decode md_4_endingOf.2.1 32 = .ok (.ireturn, 1) := by decide +kernel
def kb_4_endingOf_8 : List zI := [(.iload_n 2, 1, 0, 0), (.bipush 6, 2, 0, 0)]
theorem kd_4_endingOf_8 : zdec md_4_endingOf 8 kb_4_endingOf_8 = true := by decide +kernel
theorem kr_4_endingOf_11 : decode md_4_endingOf.2.1 11 = .ok (.invokestatic 54, 3) := by decide +kernel
def kb_4_endingOf_14 : List zI := [(.ifCond .eq 17, 3, 31, 0)]
theorem kd_4_endingOf_14 : zdec md_4_endingOf 14 kb_4_endingOf_14 = true := by decide +kernel
def kb_4_endingOf_17 : List zI := [(.aload_n 0, 1, 0, 0), (.getfield 28, 3, 4, 5), (.iload_n 1, 1, 0, 0), (.bipush 6, 2, 0, 0), (.imul, 1, 0, 0), (.iload_n 2, 1, 0, 0), (.iadd, 1, 0, 0), (.iaload, 1, 0, 0), (.goto 4, 3, 32, 0)]
theorem kd_4_endingOf_17 : zdec md_4_endingOf 17 kb_4_endingOf_17 = true := by decide +kernel
noncomputable def xx_endingOf (μ : zM) (a1 a2 : Int) : Int := (if (xx_isBelow a1 3) = 0 then 0 else (if (xx_isBelow a2 6) = 0 then 0 else (μ 9 ((a1 * 6) + a2))))
set_option maxHeartbeats 4000000 in
set_option maxRecDepth 100000 in
theorem xr_endingOf {μ : zM} (hB : zB μ) (a1 a2 : Int) (h0 : -2147483648 ≤ a1 ∧ a1 ≤ 2147483647) (h1 : -2147483648 ≤ a2 ∧ a2 ≤ 2147483647) : 0 ≤ (xx_endingOf μ a1 a2) ∧ (xx_endingOf μ a1 a2) ≤ 728 := by
  unfold xx_endingOf
  have r1 : 0 ≤ (xx_isBelow a1 3) ∧ (xx_isBelow a1 3) ≤ 1 ∧ ((xx_isBelow a1 3) = 1 → 0 ≤ a1 ∧ a1 < (3 : Int)) := xr_isBelow a1 3 (by omega) (by omega)
  by_cases c2 : (xx_isBelow a1 3) = 0
  · rw [if_pos c2]
    first | omega | (dsimp only; omega)
  · rw [if_neg c2]
    have r3 : 0 ≤ (xx_isBelow a2 6) ∧ (xx_isBelow a2 6) ≤ 1 ∧ ((xx_isBelow a2 6) = 1 → 0 ≤ a2 ∧ a2 < (6 : Int)) := xr_isBelow a2 6 (by omega) (by omega)
    by_cases c4 : (xx_isBelow a2 6) = 0
    · rw [if_pos c4]
      first | omega | (dsimp only; omega)
    · rw [if_neg c4]
      have b5 : 0 ≤ (μ 9 ((a1 * 6) + a2)) ∧ (μ 9 ((a1 * 6) + a2)) ≤ 728 := hB 9 ((a1 * 6) + a2)
      first | omega | (dsimp only; omega)
set_option maxHeartbeats 4000000 in
set_option maxRecDepth 100000 in
theorem xz_endingOf {μ : zM} (hB : zB μ) (a1 a2 : Int) (h0 : -2147483648 ≤ a1 ∧ a1 ≤ 2147483647) (h1 : -2147483648 ≤ a2 ∧ a2 ≤ 2147483647) : Dz md_4_endingOf [zr 4, zi a1, zi a2] zSh μ (some (zi (xx_endingOf μ a1 a2))) zSh μ := by
  refine Dz.of (by decide) rfl rfl (show Ez md_4_endingOf 0 0 0 [(0, zr 4), (1, zi a1), (2, zi a2)] [] zSh μ (some (zi (xx_endingOf μ a1 a2))) zSh μ from ?_)
  unfold xx_endingOf
  refine Az.blk kd_4_endingOf_0 (show Ez md_4_endingOf 0 0 2 [(0, zr 4), (1, zi a1), (2, zi a2)] [zi 3, zi a1] zSh μ _ _ _ from ?_)
  refine Az.cSN (mc := md_5_isBelow) (n := 2) (As := [zi a1, zi 3]) (rest := []) kr_4_endingOf_2 zw_393 ok_5_isBelow rfl rfl (xz_isBelow a1 3 (by omega) (by omega)) rfl rfl (show Ez md_4_endingOf 0 0 5 [(0, zr 4), (1, zi a1), (2, zi a2)] [zi (xx_isBelow a1 3)] zSh μ _ _ _ from ?_)
  have r1 : 0 ≤ (xx_isBelow a1 3) ∧ (xx_isBelow a1 3) ≤ 1 ∧ ((xx_isBelow a1 3) = 1 → 0 ≤ a1 ∧ a1 < (3 : Int)) := xr_isBelow a1 3 (by omega) (by omega)
  refine Az.blk kd_4_endingOf_5 (show zR (xx_isBelow a1 3) ∧ (((xx_isBelow a1 3) = 0 → Ez md_4_endingOf 0 0 31 [(0, zr 4), (1, zi a1), (2, zi a2)] [] zSh μ _ _ _) ∧ (¬ (xx_isBelow a1 3) = 0 → Ez md_4_endingOf 0 0 8 [(0, zr 4), (1, zi a1), (2, zi a2)] [] zSh μ _ _ _)) from ⟨(by omega), fun c2 => ?_, fun c2 => ?_⟩)
  · rw [if_pos c2]
    refine Az.blk kd_4_endingOf_31 (show Ez md_4_endingOf 0 0 32 [(0, zr 4), (1, zi a1), (2, zi a2)] [zi 0] zSh μ _ _ _ from ?_)
    exact Ez.iret kr_4_endingOf_32 rfl (Nat.zero_le _) (Nat.zero_le _) rfl rfl
  · rw [if_neg c2]
    refine Az.blk kd_4_endingOf_8 (show Ez md_4_endingOf 0 0 11 [(0, zr 4), (1, zi a1), (2, zi a2)] [zi 6, zi a2] zSh μ _ _ _ from ?_)
    refine Az.cSN (mc := md_5_isBelow) (n := 2) (As := [zi a2, zi 6]) (rest := []) kr_4_endingOf_11 zw_393 ok_5_isBelow rfl rfl (xz_isBelow a2 6 (by omega) (by omega)) rfl rfl (show Ez md_4_endingOf 0 0 14 [(0, zr 4), (1, zi a1), (2, zi a2)] [zi (xx_isBelow a2 6)] zSh μ _ _ _ from ?_)
    have r3 : 0 ≤ (xx_isBelow a2 6) ∧ (xx_isBelow a2 6) ≤ 1 ∧ ((xx_isBelow a2 6) = 1 → 0 ≤ a2 ∧ a2 < (6 : Int)) := xr_isBelow a2 6 (by omega) (by omega)
    refine Az.blk kd_4_endingOf_14 (show zR (xx_isBelow a2 6) ∧ (((xx_isBelow a2 6) = 0 → Ez md_4_endingOf 0 0 31 [(0, zr 4), (1, zi a1), (2, zi a2)] [] zSh μ _ _ _) ∧ (¬ (xx_isBelow a2 6) = 0 → Ez md_4_endingOf 0 0 17 [(0, zr 4), (1, zi a1), (2, zi a2)] [] zSh μ _ _ _)) from ⟨(by omega), fun c4 => ?_, fun c4 => ?_⟩)
    · rw [if_pos c4]
      refine Az.blk kd_4_endingOf_31 (show Ez md_4_endingOf 0 0 32 [(0, zr 4), (1, zi a1), (2, zi a2)] [zi 0] zSh μ _ _ _ from ?_)
      exact Ez.iret kr_4_endingOf_32 rfl (Nat.zero_le _) (Nat.zero_le _) rfl rfl
    · rw [if_neg c4]
      have b5 : 0 ≤ (μ 9 ((a1 * 6) + a2)) ∧ (μ 9 ((a1 * 6) + a2)) ≤ 728 := hB 9 ((a1 * 6) + a2)
      refine Az.blk kd_4_endingOf_17 (show (0 ≤ ((a1 * 6) + a2) ∧ ((a1 * 6) + a2) < 18) ∧ Ez md_4_endingOf 0 0 32 [(0, zr 4), (1, zi a1), (2, zi a2)] [zi (μ 9 ((a1 * 6) + a2))] zSh μ _ _ _ from ⟨(by omega), ?_⟩)
      exact Ez.iret kr_4_endingOf_32 rfl (Nat.zero_le _) (Nat.zero_le _) rfl rfl
def kb_4_knows_0 : List zI := [(.iload_n 1, 1, 0, 0), (.ifCond .lt 21, 3, 22, 0)]
theorem kd_4_knows_0 : zdec md_4_knows 0 kb_4_knows_0 = true := by decide +kernel
def kb_4_knows_22 : List zI := [(.iconst 0, 1, 0, 0)]
theorem kd_4_knows_22 : zdec md_4_knows 22 kb_4_knows_22 = true := by decide +kernel
theorem kr_4_knows_23 : decode md_4_knows.2.1 23 = .ok (.ireturn, 1) := by decide +kernel
def kb_4_knows_4 : List zI := [(.iload_n 1, 1, 0, 0), (.aload_n 0, 1, 0, 0), (.getfield 9, 3, 4, 0), (.if_icmp .ge 13, 3, 22, 0)]
theorem kd_4_knows_4 : zdec md_4_knows 4 kb_4_knows_4 = true := by decide +kernel
def kb_4_knows_12 : List zI := [(.iload_n 1, 1, 0, 0), (.bipush 24, 2, 0, 0), (.if_icmp .ge 7, 3, 22, 0)]
theorem kd_4_knows_12 : zdec md_4_knows 12 kb_4_knows_12 = true := by decide +kernel
def kb_4_knows_18 : List zI := [(.iconst 1, 1, 0, 0), (.goto 4, 3, 23, 0)]
theorem kd_4_knows_18 : zdec md_4_knows 18 kb_4_knows_18 = true := by decide +kernel
noncomputable def xx_knows (μ : zM) (a1 : Int) : Int := (if a1 < 0 then 0 else (if a1 < (μ 4 0) then (if a1 < 24 then 1 else 0) else 0))
set_option maxHeartbeats 4000000 in
set_option maxRecDepth 100000 in
theorem xr_knows {μ : zM} (hB : zB μ) (a1 : Int) (h0 : -2147483648 ≤ a1 ∧ a1 ≤ 2147483647) : 0 ≤ (xx_knows μ a1) ∧ (xx_knows μ a1) ≤ 1 ∧ ((xx_knows μ a1) = 1 → 0 ≤ a1 ∧ a1 < μ 4 0 ∧ a1 < 24) := by
  unfold xx_knows
  by_cases c1 : a1 < 0
  · rw [if_pos c1]
    first | omega | (dsimp only; omega)
  · rw [if_neg c1]
    have b2 : 0 ≤ (μ 4 0) ∧ (μ 4 0) ≤ 24 := hB 4 0
    by_cases c3 : a1 < (μ 4 0)
    · rw [if_pos c3]
      by_cases c4 : a1 < 24
      · rw [if_pos c4]
        first | omega | (dsimp only; omega)
      · rw [if_neg c4]
        first | omega | (dsimp only; omega)
    · rw [if_neg c3]
      first | omega | (dsimp only; omega)
set_option maxHeartbeats 4000000 in
set_option maxRecDepth 100000 in
theorem xz_knows {μ : zM} (hB : zB μ) (a1 : Int) (h0 : -2147483648 ≤ a1 ∧ a1 ≤ 2147483647) : Dz md_4_knows [zr 4, zi a1] zSh μ (some (zi (xx_knows μ a1))) zSh μ := by
  refine Dz.of (by decide) rfl rfl (show Ez md_4_knows 0 0 0 [(0, zr 4), (1, zi a1)] [] zSh μ (some (zi (xx_knows μ a1))) zSh μ from ?_)
  unfold xx_knows
  refine Az.blk kd_4_knows_0 (show zR a1 ∧ ((a1 < 0 → Ez md_4_knows 0 0 22 [(0, zr 4), (1, zi a1)] [] zSh μ _ _ _) ∧ (¬ a1 < 0 → Ez md_4_knows 0 0 4 [(0, zr 4), (1, zi a1)] [] zSh μ _ _ _)) from ⟨(by omega), fun c1 => ?_, fun c1 => ?_⟩)
  · rw [if_pos c1]
    refine Az.blk kd_4_knows_22 (show Ez md_4_knows 0 0 23 [(0, zr 4), (1, zi a1)] [zi 0] zSh μ _ _ _ from ?_)
    exact Ez.zret kr_4_knows_23 rfl (Nat.zero_le _) (Nat.zero_le _) (Or.inl rfl) rfl rfl
  · rw [if_neg c1]
    have b2 : 0 ≤ (μ 4 0) ∧ (μ 4 0) ≤ 24 := hB 4 0
    refine Az.blk kd_4_knows_4 (show zR a1 ∧ zR (μ 4 0) ∧ ((¬ a1 < (μ 4 0) → Ez md_4_knows 0 0 22 [(0, zr 4), (1, zi a1)] [] zSh μ _ _ _) ∧ (a1 < (μ 4 0) → Ez md_4_knows 0 0 12 [(0, zr 4), (1, zi a1)] [] zSh μ _ _ _)) from ⟨(by omega), (by omega), fun c3 => ?_, fun c3 => ?_⟩)
    · rw [if_neg c3]
      refine Az.blk kd_4_knows_22 (show Ez md_4_knows 0 0 23 [(0, zr 4), (1, zi a1)] [zi 0] zSh μ _ _ _ from ?_)
      exact Ez.zret kr_4_knows_23 rfl (Nat.zero_le _) (Nat.zero_le _) (Or.inl rfl) rfl rfl
    · rw [if_pos c3]
      refine Az.blk kd_4_knows_12 (show zR a1 ∧ zR 24 ∧ ((¬ a1 < 24 → Ez md_4_knows 0 0 22 [(0, zr 4), (1, zi a1)] [] zSh μ _ _ _) ∧ (a1 < 24 → Ez md_4_knows 0 0 18 [(0, zr 4), (1, zi a1)] [] zSh μ _ _ _)) from ⟨(by omega), (by omega), fun c4 => ?_, fun c4 => ?_⟩)
      · rw [if_neg c4]
        refine Az.blk kd_4_knows_22 (show Ez md_4_knows 0 0 23 [(0, zr 4), (1, zi a1)] [zi 0] zSh μ _ _ _ from ?_)
        exact Ez.zret kr_4_knows_23 rfl (Nat.zero_le _) (Nat.zero_le _) (Or.inl rfl) rfl rfl
      · rw [if_pos c4]
        refine Az.blk kd_4_knows_18 (show Ez md_4_knows 0 0 23 [(0, zr 4), (1, zi a1)] [zi 1] zSh μ _ _ _ from ?_)
        exact Ez.zret kr_4_knows_23 rfl (Nat.zero_le _) (Nat.zero_le _) (Or.inr rfl) rfl rfl
def kb_4_kindOf_0 : List zI := [(.aload_n 0, 1, 0, 0), (.iload_n 1, 1, 0, 0)]
theorem kd_4_kindOf_0 : zdec md_4_kindOf 0 kb_4_kindOf_0 = true := by decide +kernel
theorem kr_4_kindOf_2 : decode md_4_kindOf.2.1 2 = .ok (.invokevirtual 50, 3) := by decide +kernel
def kb_4_kindOf_5 : List zI := [(.ifCond .eq 12, 3, 17, 0)]
theorem kd_4_kindOf_5 : zdec md_4_kindOf 5 kb_4_kindOf_5 = true := by decide +kernel
def kb_4_kindOf_17 : List zI := [(.iconst (-1), 1, 0, 0)]
theorem kd_4_kindOf_17 : zdec md_4_kindOf 17 kb_4_kindOf_17 = true := by decide +kernel
theorem kr_4_kindOf_18 : decode md_4_kindOf.2.1 18 = .ok (.ireturn, 1) := by decide +kernel
def kb_4_kindOf_8 : List zI := [(.aload_n 0, 1, 0, 0), (.getfield 15, 3, 4, 1), (.iload_n 1, 1, 0, 0), (.iaload, 1, 0, 0), (.goto 4, 3, 18, 0)]
theorem kd_4_kindOf_8 : zdec md_4_kindOf 8 kb_4_kindOf_8 = true := by decide +kernel
noncomputable def xx_kindOf (μ : zM) (a1 : Int) : Int := (if (xx_knows μ a1) = 0 then (-1) else (μ 5 a1))
set_option maxHeartbeats 4000000 in
set_option maxRecDepth 100000 in
theorem xr_kindOf {μ : zM} (hB : zB μ) (a1 : Int) (h0 : -2147483648 ≤ a1 ∧ a1 ≤ 2147483647) : -1 ≤ (xx_kindOf μ a1) ∧ (xx_kindOf μ a1) ≤ 2 := by
  unfold xx_kindOf
  have r1 : 0 ≤ (xx_knows μ a1) ∧ (xx_knows μ a1) ≤ 1 ∧ ((xx_knows μ a1) = 1 → 0 ≤ a1 ∧ a1 < μ 4 0 ∧ a1 < 24) := xr_knows hB a1 (by omega)
  by_cases c2 : (xx_knows μ a1) = 0
  · rw [if_pos c2]
    first | omega | (dsimp only; omega)
  · rw [if_neg c2]
    have b3 : 0 ≤ (μ 5 a1) ∧ (μ 5 a1) ≤ 2 := hB 5 a1
    first | omega | (dsimp only; omega)
set_option maxHeartbeats 4000000 in
set_option maxRecDepth 100000 in
theorem xz_kindOf {μ : zM} (hB : zB μ) (a1 : Int) (h0 : -2147483648 ≤ a1 ∧ a1 ≤ 2147483647) : Dz md_4_kindOf [zr 4, zi a1] zSh μ (some (zi (xx_kindOf μ a1))) zSh μ := by
  refine Dz.of (by decide) rfl rfl (show Ez md_4_kindOf 0 0 0 [(0, zr 4), (1, zi a1)] [] zSh μ (some (zi (xx_kindOf μ a1))) zSh μ from ?_)
  unfold xx_kindOf
  refine Az.blk kd_4_kindOf_0 (show Ez md_4_kindOf 0 0 2 [(0, zr 4), (1, zi a1)] [zi a1, zr 4] zSh μ _ _ _ from ?_)
  refine Az.cV (mc := md_4_knows) (k := 4) (n := 1) (As := [zi a1]) (rest := []) kr_4_kindOf_2 zw_364 ok_4_knows rfl rfl rfl trivial (xz_knows hB a1 (by omega)) rfl rfl (show Ez md_4_kindOf 0 0 5 [(0, zr 4), (1, zi a1)] [zi (xx_knows μ a1)] zSh μ _ _ _ from ?_)
  have r1 : 0 ≤ (xx_knows μ a1) ∧ (xx_knows μ a1) ≤ 1 ∧ ((xx_knows μ a1) = 1 → 0 ≤ a1 ∧ a1 < μ 4 0 ∧ a1 < 24) := xr_knows hB a1 (by omega)
  refine Az.blk kd_4_kindOf_5 (show zR (xx_knows μ a1) ∧ (((xx_knows μ a1) = 0 → Ez md_4_kindOf 0 0 17 [(0, zr 4), (1, zi a1)] [] zSh μ _ _ _) ∧ (¬ (xx_knows μ a1) = 0 → Ez md_4_kindOf 0 0 8 [(0, zr 4), (1, zi a1)] [] zSh μ _ _ _)) from ⟨(by omega), fun c2 => ?_, fun c2 => ?_⟩)
  · rw [if_pos c2]
    refine Az.blk kd_4_kindOf_17 (show Ez md_4_kindOf 0 0 18 [(0, zr 4), (1, zi a1)] [zi (-1)] zSh μ _ _ _ from ?_)
    exact Ez.iret kr_4_kindOf_18 rfl (Nat.zero_le _) (Nat.zero_le _) rfl rfl
  · rw [if_neg c2]
    have b3 : 0 ≤ (μ 5 a1) ∧ (μ 5 a1) ≤ 2 := hB 5 a1
    refine Az.blk kd_4_kindOf_8 (show (0 ≤ a1 ∧ a1 < 24) ∧ Ez md_4_kindOf 0 0 18 [(0, zr 4), (1, zi a1)] [zi (μ 5 a1)] zSh μ _ _ _ from ⟨(by omega), ?_⟩)
    exact Ez.iret kr_4_kindOf_18 rfl (Nat.zero_le _) (Nat.zero_le _) rfl rfl
def kb_4_genderOf_0 : List zI := [(.aload_n 0, 1, 0, 0), (.iload_n 1, 1, 0, 0)]
theorem kd_4_genderOf_0 : zdec md_4_genderOf 0 kb_4_genderOf_0 = true := by decide +kernel
theorem kr_4_genderOf_2 : decode md_4_genderOf.2.1 2 = .ok (.invokevirtual 50, 3) := by decide +kernel
def kb_4_genderOf_5 : List zI := [(.ifCond .eq 12, 3, 17, 0)]
theorem kd_4_genderOf_5 : zdec md_4_genderOf 5 kb_4_genderOf_5 = true := by decide +kernel
def kb_4_genderOf_17 : List zI := [(.iconst 0, 1, 0, 0)]
theorem kd_4_genderOf_17 : zdec md_4_genderOf 17 kb_4_genderOf_17 = true := by decide +kernel
theorem kr_4_genderOf_18 : decode md_4_genderOf.2.1 18 = .ok (.ireturn, 1) := by decide +kernel
def kb_4_genderOf_8 : List zI := [(.aload_n 0, 1, 0, 0), (.getfield 19, 3, 4, 2), (.iload_n 1, 1, 0, 0), (.iaload, 1, 0, 0), (.goto 4, 3, 18, 0)]
theorem kd_4_genderOf_8 : zdec md_4_genderOf 8 kb_4_genderOf_8 = true := by decide +kernel
noncomputable def xx_genderOf (μ : zM) (a1 : Int) : Int := (if (xx_knows μ a1) = 0 then 0 else (μ 6 a1))
set_option maxHeartbeats 4000000 in
set_option maxRecDepth 100000 in
theorem xr_genderOf {μ : zM} (hB : zB μ) (a1 : Int) (h0 : -2147483648 ≤ a1 ∧ a1 ≤ 2147483647) : 0 ≤ (xx_genderOf μ a1) ∧ (xx_genderOf μ a1) ≤ 2 := by
  unfold xx_genderOf
  have r1 : 0 ≤ (xx_knows μ a1) ∧ (xx_knows μ a1) ≤ 1 ∧ ((xx_knows μ a1) = 1 → 0 ≤ a1 ∧ a1 < μ 4 0 ∧ a1 < 24) := xr_knows hB a1 (by omega)
  by_cases c2 : (xx_knows μ a1) = 0
  · rw [if_pos c2]
    first | omega | (dsimp only; omega)
  · rw [if_neg c2]
    have b3 : 0 ≤ (μ 6 a1) ∧ (μ 6 a1) ≤ 2 := hB 6 a1
    first | omega | (dsimp only; omega)
set_option maxHeartbeats 4000000 in
set_option maxRecDepth 100000 in
theorem xz_genderOf {μ : zM} (hB : zB μ) (a1 : Int) (h0 : -2147483648 ≤ a1 ∧ a1 ≤ 2147483647) : Dz md_4_genderOf [zr 4, zi a1] zSh μ (some (zi (xx_genderOf μ a1))) zSh μ := by
  refine Dz.of (by decide) rfl rfl (show Ez md_4_genderOf 0 0 0 [(0, zr 4), (1, zi a1)] [] zSh μ (some (zi (xx_genderOf μ a1))) zSh μ from ?_)
  unfold xx_genderOf
  refine Az.blk kd_4_genderOf_0 (show Ez md_4_genderOf 0 0 2 [(0, zr 4), (1, zi a1)] [zi a1, zr 4] zSh μ _ _ _ from ?_)
  refine Az.cV (mc := md_4_knows) (k := 4) (n := 1) (As := [zi a1]) (rest := []) kr_4_genderOf_2 zw_364 ok_4_knows rfl rfl rfl trivial (xz_knows hB a1 (by omega)) rfl rfl (show Ez md_4_genderOf 0 0 5 [(0, zr 4), (1, zi a1)] [zi (xx_knows μ a1)] zSh μ _ _ _ from ?_)
  have r1 : 0 ≤ (xx_knows μ a1) ∧ (xx_knows μ a1) ≤ 1 ∧ ((xx_knows μ a1) = 1 → 0 ≤ a1 ∧ a1 < μ 4 0 ∧ a1 < 24) := xr_knows hB a1 (by omega)
  refine Az.blk kd_4_genderOf_5 (show zR (xx_knows μ a1) ∧ (((xx_knows μ a1) = 0 → Ez md_4_genderOf 0 0 17 [(0, zr 4), (1, zi a1)] [] zSh μ _ _ _) ∧ (¬ (xx_knows μ a1) = 0 → Ez md_4_genderOf 0 0 8 [(0, zr 4), (1, zi a1)] [] zSh μ _ _ _)) from ⟨(by omega), fun c2 => ?_, fun c2 => ?_⟩)
  · rw [if_pos c2]
    refine Az.blk kd_4_genderOf_17 (show Ez md_4_genderOf 0 0 18 [(0, zr 4), (1, zi a1)] [zi 0] zSh μ _ _ _ from ?_)
    exact Ez.iret kr_4_genderOf_18 rfl (Nat.zero_le _) (Nat.zero_le _) rfl rfl
  · rw [if_neg c2]
    have b3 : 0 ≤ (μ 6 a1) ∧ (μ 6 a1) ≤ 2 := hB 6 a1
    refine Az.blk kd_4_genderOf_8 (show (0 ≤ a1 ∧ a1 < 24) ∧ Ez md_4_genderOf 0 0 18 [(0, zr 4), (1, zi a1)] [zi (μ 6 a1)] zSh μ _ _ _ from ⟨(by omega), ?_⟩)
    exact Ez.iret kr_4_genderOf_18 rfl (Nat.zero_le _) (Nat.zero_le _) rfl rfl
def kb_4_stemLengthOf_0 : List zI := [(.aload_n 0, 1, 0, 0), (.iload_n 1, 1, 0, 0)]
theorem kd_4_stemLengthOf_0 : zdec md_4_stemLengthOf 0 kb_4_stemLengthOf_0 = true := by decide +kernel
theorem kr_4_stemLengthOf_2 : decode md_4_stemLengthOf.2.1 2 = .ok (.invokevirtual 50, 3) := by decide +kernel
def kb_4_stemLengthOf_5 : List zI := [(.ifCond .eq 12, 3, 17, 0)]
theorem kd_4_stemLengthOf_5 : zdec md_4_stemLengthOf 5 kb_4_stemLengthOf_5 = true := by decide +kernel
def kb_4_stemLengthOf_17 : List zI := [(.iconst 0, 1, 0, 0)]
theorem kd_4_stemLengthOf_17 : zdec md_4_stemLengthOf 17 kb_4_stemLengthOf_17 = true := by decide +kernel
theorem kr_4_stemLengthOf_18 : decode md_4_stemLengthOf.2.1 18 = .ok (.ireturn, 1) := by decide +kernel
def kb_4_stemLengthOf_8 : List zI := [(.aload_n 0, 1, 0, 0), (.getfield 22, 3, 4, 3), (.iload_n 1, 1, 0, 0), (.iaload, 1, 0, 0), (.goto 4, 3, 18, 0)]
theorem kd_4_stemLengthOf_8 : zdec md_4_stemLengthOf 8 kb_4_stemLengthOf_8 = true := by decide +kernel
noncomputable def xx_stemLengthOf (μ : zM) (a1 : Int) : Int := (if (xx_knows μ a1) = 0 then 0 else (μ 7 a1))
set_option maxHeartbeats 4000000 in
set_option maxRecDepth 100000 in
theorem xr_stemLengthOf {μ : zM} (hB : zB μ) (a1 : Int) (h0 : -2147483648 ≤ a1 ∧ a1 ≤ 2147483647) : 0 ≤ (xx_stemLengthOf μ a1) ∧ (xx_stemLengthOf μ a1) ≤ 8 := by
  unfold xx_stemLengthOf
  have r1 : 0 ≤ (xx_knows μ a1) ∧ (xx_knows μ a1) ≤ 1 ∧ ((xx_knows μ a1) = 1 → 0 ≤ a1 ∧ a1 < μ 4 0 ∧ a1 < 24) := xr_knows hB a1 (by omega)
  by_cases c2 : (xx_knows μ a1) = 0
  · rw [if_pos c2]
    first | omega | (dsimp only; omega)
  · rw [if_neg c2]
    have b3 : 0 ≤ (μ 7 a1) ∧ (μ 7 a1) ≤ 8 := hB 7 a1
    first | omega | (dsimp only; omega)
set_option maxHeartbeats 4000000 in
set_option maxRecDepth 100000 in
theorem xz_stemLengthOf {μ : zM} (hB : zB μ) (a1 : Int) (h0 : -2147483648 ≤ a1 ∧ a1 ≤ 2147483647) : Dz md_4_stemLengthOf [zr 4, zi a1] zSh μ (some (zi (xx_stemLengthOf μ a1))) zSh μ := by
  refine Dz.of (by decide) rfl rfl (show Ez md_4_stemLengthOf 0 0 0 [(0, zr 4), (1, zi a1)] [] zSh μ (some (zi (xx_stemLengthOf μ a1))) zSh μ from ?_)
  unfold xx_stemLengthOf
  refine Az.blk kd_4_stemLengthOf_0 (show Ez md_4_stemLengthOf 0 0 2 [(0, zr 4), (1, zi a1)] [zi a1, zr 4] zSh μ _ _ _ from ?_)
  refine Az.cV (mc := md_4_knows) (k := 4) (n := 1) (As := [zi a1]) (rest := []) kr_4_stemLengthOf_2 zw_364 ok_4_knows rfl rfl rfl trivial (xz_knows hB a1 (by omega)) rfl rfl (show Ez md_4_stemLengthOf 0 0 5 [(0, zr 4), (1, zi a1)] [zi (xx_knows μ a1)] zSh μ _ _ _ from ?_)
  have r1 : 0 ≤ (xx_knows μ a1) ∧ (xx_knows μ a1) ≤ 1 ∧ ((xx_knows μ a1) = 1 → 0 ≤ a1 ∧ a1 < μ 4 0 ∧ a1 < 24) := xr_knows hB a1 (by omega)
  refine Az.blk kd_4_stemLengthOf_5 (show zR (xx_knows μ a1) ∧ (((xx_knows μ a1) = 0 → Ez md_4_stemLengthOf 0 0 17 [(0, zr 4), (1, zi a1)] [] zSh μ _ _ _) ∧ (¬ (xx_knows μ a1) = 0 → Ez md_4_stemLengthOf 0 0 8 [(0, zr 4), (1, zi a1)] [] zSh μ _ _ _)) from ⟨(by omega), fun c2 => ?_, fun c2 => ?_⟩)
  · rw [if_pos c2]
    refine Az.blk kd_4_stemLengthOf_17 (show Ez md_4_stemLengthOf 0 0 18 [(0, zr 4), (1, zi a1)] [zi 0] zSh μ _ _ _ from ?_)
    exact Ez.iret kr_4_stemLengthOf_18 rfl (Nat.zero_le _) (Nat.zero_le _) rfl rfl
  · rw [if_neg c2]
    have b3 : 0 ≤ (μ 7 a1) ∧ (μ 7 a1) ≤ 8 := hB 7 a1
    refine Az.blk kd_4_stemLengthOf_8 (show (0 ≤ a1 ∧ a1 < 24) ∧ Ez md_4_stemLengthOf 0 0 18 [(0, zr 4), (1, zi a1)] [zi (μ 7 a1)] zSh μ _ _ _ from ⟨(by omega), ?_⟩)
    exact Ez.iret kr_4_stemLengthOf_18 rfl (Nat.zero_le _) (Nat.zero_le _) rfl rfl
def kb_4_letterAt_0 : List zI := [(.aload_n 0, 1, 0, 0), (.iload_n 1, 1, 0, 0)]
theorem kd_4_letterAt_0 : zdec md_4_letterAt 0 kb_4_letterAt_0 = true := by decide +kernel
theorem kr_4_letterAt_2 : decode md_4_letterAt.2.1 2 = .ok (.invokevirtual 61, 3) := by decide +kernel
def kb_4_letterAt_5 : List zI := [(.istore 4, 2, 0, 0), (.aload_n 0, 1, 0, 0), (.iload_n 1, 1, 0, 0)]
theorem kd_4_letterAt_5 : zdec md_4_letterAt 5 kb_4_letterAt_5 = true := by decide +kernel
theorem kr_4_letterAt_9 : decode md_4_letterAt.2.1 9 = .ok (.invokevirtual 50, 3) := by decide +kernel
def kb_4_letterAt_12 : List zI := [(.ifCond .eq 30, 3, 42, 0)]
theorem kd_4_letterAt_12 : zdec md_4_letterAt 12 kb_4_letterAt_12 = true := by decide +kernel
def kb_4_letterAt_42 : List zI := [(.aload_n 0, 1, 0, 0), (.aload_n 0, 1, 0, 0), (.iload_n 1, 1, 0, 0)]
theorem kd_4_letterAt_42 : zdec md_4_letterAt 42 kb_4_letterAt_42 = true := by decide +kernel
theorem kr_4_letterAt_45 : decode md_4_letterAt.2.1 45 = .ok (.invokevirtual 64, 3) := by decide +kernel
def kb_4_letterAt_48 : List zI := [(.iload_n 2, 1, 0, 0)]
theorem kd_4_letterAt_48 : zdec md_4_letterAt 48 kb_4_letterAt_48 = true := by decide +kernel
theorem kr_4_letterAt_49 : decode md_4_letterAt.2.1 49 = .ok (.invokevirtual 58, 3) := by decide +kernel
def kb_4_letterAt_52 : List zI := [(.istore 5, 2, 0, 0), (.iload_n 3, 1, 0, 0), (.iload 4, 2, 0, 0), (.if_icmp .ne 9, 3, 66, 0)]
theorem kd_4_letterAt_52 : zdec md_4_letterAt 52 kb_4_letterAt_52 = true := by decide +kernel
def kb_4_letterAt_66 : List zI := [(.iload_n 3, 1, 0, 0), (.iload 4, 2, 0, 0), (.iconst 1, 1, 0, 0), (.iadd, 1, 0, 0), (.if_icmp .ne 11, 3, 82, 0)]
theorem kd_4_letterAt_66 : zdec md_4_letterAt 66 kb_4_letterAt_66 = true := by decide +kernel
def kb_4_letterAt_82 : List zI := [(.iconst 0, 1, 0, 0)]
theorem kd_4_letterAt_82 : zdec md_4_letterAt 82 kb_4_letterAt_82 = true := by decide +kernel
theorem kr_4_letterAt_83 : decode md_4_letterAt.2.1 83 = .ok (.ireturn, 1) := by decide +kernel
def kb_4_letterAt_74 : List zI := [(.iload 5, 2, 0, 0), (.bipush 27, 2, 0, 0), (.irem, 1, 0, 0), (.goto 4, 3, 83, 0)]
theorem kd_4_letterAt_74 : zdec md_4_letterAt 74 kb_4_letterAt_74 = true := by decide +kernel
def kb_4_letterAt_60 : List zI := [(.iload 5, 2, 0, 0), (.bipush 27, 2, 0, 0), (.idiv, 1, 0, 0)]
theorem kd_4_letterAt_60 : zdec md_4_letterAt 60 kb_4_letterAt_60 = true := by decide +kernel
theorem kr_4_letterAt_65 : decode md_4_letterAt.2.1 65 = .ok (.ireturn, 1) := by decide +kernel
def kb_4_letterAt_15 : List zI := [(.iload_n 3, 1, 0, 0), (.iload 4, 2, 0, 0)]
theorem kd_4_letterAt_15 : zdec md_4_letterAt 15 kb_4_letterAt_15 = true := by decide +kernel
theorem kr_4_letterAt_18 : decode md_4_letterAt.2.1 18 = .ok (.invokestatic 54, 3) := by decide +kernel
def kb_4_letterAt_21 : List zI := [(.ifCond .eq 21, 3, 42, 0)]
theorem kd_4_letterAt_21 : zdec md_4_letterAt 21 kb_4_letterAt_21 = true := by decide +kernel
def kb_4_letterAt_24 : List zI := [(.iload_n 3, 1, 0, 0), (.bipush 8, 2, 0, 0), (.if_icmp .ge 15, 3, 42, 0)]
theorem kd_4_letterAt_24 : zdec md_4_letterAt 24 kb_4_letterAt_24 = true := by decide +kernel
def kb_4_letterAt_30 : List zI := [(.aload_n 0, 1, 0, 0), (.getfield 25, 3, 4, 4), (.iload_n 1, 1, 0, 0), (.bipush 8, 2, 0, 0), (.imul, 1, 0, 0), (.iload_n 3, 1, 0, 0), (.iadd, 1, 0, 0), (.iaload, 1, 0, 0)]
theorem kd_4_letterAt_30 : zdec md_4_letterAt 30 kb_4_letterAt_30 = true := by decide +kernel
theorem kr_4_letterAt_41 : decode md_4_letterAt.2.1 41 = .ok (.ireturn, 1) := by decide +kernel
noncomputable def xx_letterAt (μ : zM) (a1 a2 a3 : Int) : Int := (if (xx_knows μ a1) = 0 then (if a3 = (xx_stemLengthOf μ a1) then ((xx_endingOf μ (xx_kindOf μ a1) a2) / 27) else (if a3 = ((xx_stemLengthOf μ a1) + 1) then ((xx_endingOf μ (xx_kindOf μ a1) a2) % 27) else 0)) else (if (xx_isBelow a3 (xx_stemLengthOf μ a1)) = 0 then (if a3 = (xx_stemLengthOf μ a1) then ((xx_endingOf μ (xx_kindOf μ a1) a2) / 27) else (if a3 = ((xx_stemLengthOf μ a1) + 1) then ((xx_endingOf μ (xx_kindOf μ a1) a2) % 27) else 0)) else (if a3 < 8 then (μ 8 ((a1 * 8) + a3)) else (if a3 = (xx_stemLengthOf μ a1) then ((xx_endingOf μ (xx_kindOf μ a1) a2) / 27) else (if a3 = ((xx_stemLengthOf μ a1) + 1) then ((xx_endingOf μ (xx_kindOf μ a1) a2) % 27) else 0)))))
set_option maxHeartbeats 4000000 in
set_option maxRecDepth 100000 in
theorem xr_letterAt {μ : zM} (hB : zB μ) (a1 a2 a3 : Int) (h0 : -2147483648 ≤ a1 ∧ a1 ≤ 2147483647) (h1 : -2147483648 ≤ a2 ∧ a2 ≤ 2147483647) (h2 : -2147483648 ≤ a3 ∧ a3 ≤ 2147483647) : 0 ≤ (xx_letterAt μ a1 a2 a3) ∧ (xx_letterAt μ a1 a2 a3) ≤ 26 := by
  unfold xx_letterAt
  have r1 : 0 ≤ (xx_stemLengthOf μ a1) ∧ (xx_stemLengthOf μ a1) ≤ 8 := xr_stemLengthOf hB a1 (by omega)
  have r2 : 0 ≤ (xx_knows μ a1) ∧ (xx_knows μ a1) ≤ 1 ∧ ((xx_knows μ a1) = 1 → 0 ≤ a1 ∧ a1 < μ 4 0 ∧ a1 < 24) := xr_knows hB a1 (by omega)
  by_cases c3 : (xx_knows μ a1) = 0
  · rw [if_pos c3]
    have r4 : -1 ≤ (xx_kindOf μ a1) ∧ (xx_kindOf μ a1) ≤ 2 := xr_kindOf hB a1 (by omega)
    have r5 : 0 ≤ (xx_endingOf μ (xx_kindOf μ a1) a2) ∧ (xx_endingOf μ (xx_kindOf μ a1) a2) ≤ 728 := xr_endingOf hB (xx_kindOf μ a1) a2 (by omega) (by omega)
    by_cases c6 : a3 = (xx_stemLengthOf μ a1)
    · rw [if_pos c6]
      first | omega | (dsimp only; omega)
    · rw [if_neg c6]
      by_cases c7 : a3 = ((xx_stemLengthOf μ a1) + 1)
      · rw [if_pos c7]
        first | omega | (dsimp only; omega)
      · rw [if_neg c7]
        first | omega | (dsimp only; omega)
  · rw [if_neg c3]
    have r8 : 0 ≤ (xx_isBelow a3 (xx_stemLengthOf μ a1)) ∧ (xx_isBelow a3 (xx_stemLengthOf μ a1)) ≤ 1 ∧ ((xx_isBelow a3 (xx_stemLengthOf μ a1)) = 1 → 0 ≤ a3 ∧ a3 < (xx_stemLengthOf μ a1)) := xr_isBelow a3 (xx_stemLengthOf μ a1) (by omega) (by omega)
    by_cases c9 : (xx_isBelow a3 (xx_stemLengthOf μ a1)) = 0
    · rw [if_pos c9]
      have r10 : -1 ≤ (xx_kindOf μ a1) ∧ (xx_kindOf μ a1) ≤ 2 := xr_kindOf hB a1 (by omega)
      have r11 : 0 ≤ (xx_endingOf μ (xx_kindOf μ a1) a2) ∧ (xx_endingOf μ (xx_kindOf μ a1) a2) ≤ 728 := xr_endingOf hB (xx_kindOf μ a1) a2 (by omega) (by omega)
      by_cases c12 : a3 = (xx_stemLengthOf μ a1)
      · rw [if_pos c12]
        first | omega | (dsimp only; omega)
      · rw [if_neg c12]
        by_cases c13 : a3 = ((xx_stemLengthOf μ a1) + 1)
        · rw [if_pos c13]
          first | omega | (dsimp only; omega)
        · rw [if_neg c13]
          first | omega | (dsimp only; omega)
    · rw [if_neg c9]
      by_cases c14 : a3 < 8
      · rw [if_pos c14]
        have b19 : 0 ≤ (μ 8 ((a1 * 8) + a3)) ∧ (μ 8 ((a1 * 8) + a3)) ≤ 26 := hB 8 ((a1 * 8) + a3)
        first | omega | (dsimp only; omega)
      · rw [if_neg c14]
        have r15 : -1 ≤ (xx_kindOf μ a1) ∧ (xx_kindOf μ a1) ≤ 2 := xr_kindOf hB a1 (by omega)
        have r16 : 0 ≤ (xx_endingOf μ (xx_kindOf μ a1) a2) ∧ (xx_endingOf μ (xx_kindOf μ a1) a2) ≤ 728 := xr_endingOf hB (xx_kindOf μ a1) a2 (by omega) (by omega)
        by_cases c17 : a3 = (xx_stemLengthOf μ a1)
        · rw [if_pos c17]
          first | omega | (dsimp only; omega)
        · rw [if_neg c17]
          by_cases c18 : a3 = ((xx_stemLengthOf μ a1) + 1)
          · rw [if_pos c18]
            first | omega | (dsimp only; omega)
          · rw [if_neg c18]
            first | omega | (dsimp only; omega)
set_option maxHeartbeats 4000000 in
set_option maxRecDepth 100000 in
theorem xz_letterAt {μ : zM} (hB : zB μ) (a1 a2 a3 : Int) (h0 : -2147483648 ≤ a1 ∧ a1 ≤ 2147483647) (h1 : -2147483648 ≤ a2 ∧ a2 ≤ 2147483647) (h2 : -2147483648 ≤ a3 ∧ a3 ≤ 2147483647) : Dz md_4_letterAt [zr 4, zi a1, zi a2, zi a3] zSh μ (some (zi (xx_letterAt μ a1 a2 a3))) zSh μ := by
  refine Dz.of (by decide) rfl rfl (show Ez md_4_letterAt 0 0 0 [(0, zr 4), (1, zi a1), (2, zi a2), (3, zi a3)] [] zSh μ (some (zi (xx_letterAt μ a1 a2 a3))) zSh μ from ?_)
  unfold xx_letterAt
  refine Az.blk kd_4_letterAt_0 (show Ez md_4_letterAt 0 0 2 [(0, zr 4), (1, zi a1), (2, zi a2), (3, zi a3)] [zi a1, zr 4] zSh μ _ _ _ from ?_)
  refine Az.cV (mc := md_4_stemLengthOf) (k := 4) (n := 1) (As := [zi a1]) (rest := []) kr_4_letterAt_2 zw_377 ok_4_stemLengthOf rfl rfl rfl trivial (xz_stemLengthOf hB a1 (by omega)) rfl rfl (show Ez md_4_letterAt 0 0 5 [(0, zr 4), (1, zi a1), (2, zi a2), (3, zi a3)] [zi (xx_stemLengthOf μ a1)] zSh μ _ _ _ from ?_)
  have r1 : 0 ≤ (xx_stemLengthOf μ a1) ∧ (xx_stemLengthOf μ a1) ≤ 8 := xr_stemLengthOf hB a1 (by omega)
  refine Az.blk kd_4_letterAt_5 (show Ez md_4_letterAt 0 0 9 [(4, zi (xx_stemLengthOf μ a1)), (0, zr 4), (1, zi a1), (2, zi a2), (3, zi a3)] [zi a1, zr 4] zSh μ _ _ _ from ?_)
  refine Az.cV (mc := md_4_knows) (k := 4) (n := 1) (As := [zi a1]) (rest := []) kr_4_letterAt_9 zw_364 ok_4_knows rfl rfl rfl trivial (xz_knows hB a1 (by omega)) rfl rfl (show Ez md_4_letterAt 0 0 12 [(4, zi (xx_stemLengthOf μ a1)), (0, zr 4), (1, zi a1), (2, zi a2), (3, zi a3)] [zi (xx_knows μ a1)] zSh μ _ _ _ from ?_)
  have r2 : 0 ≤ (xx_knows μ a1) ∧ (xx_knows μ a1) ≤ 1 ∧ ((xx_knows μ a1) = 1 → 0 ≤ a1 ∧ a1 < μ 4 0 ∧ a1 < 24) := xr_knows hB a1 (by omega)
  refine Az.blk kd_4_letterAt_12 (show zR (xx_knows μ a1) ∧ (((xx_knows μ a1) = 0 → Ez md_4_letterAt 0 0 42 [(4, zi (xx_stemLengthOf μ a1)), (0, zr 4), (1, zi a1), (2, zi a2), (3, zi a3)] [] zSh μ _ _ _) ∧ (¬ (xx_knows μ a1) = 0 → Ez md_4_letterAt 0 0 15 [(4, zi (xx_stemLengthOf μ a1)), (0, zr 4), (1, zi a1), (2, zi a2), (3, zi a3)] [] zSh μ _ _ _)) from ⟨(by omega), fun c3 => ?_, fun c3 => ?_⟩)
  · rw [if_pos c3]
    refine Az.blk kd_4_letterAt_42 (show Ez md_4_letterAt 0 0 45 [(4, zi (xx_stemLengthOf μ a1)), (0, zr 4), (1, zi a1), (2, zi a2), (3, zi a3)] [zi a1, zr 4, zr 4] zSh μ _ _ _ from ?_)
    refine Az.cV (mc := md_4_kindOf) (k := 4) (n := 1) (As := [zi a1]) (rest := [zr 4]) kr_4_letterAt_45 zw_381 ok_4_kindOf rfl rfl rfl trivial (xz_kindOf hB a1 (by omega)) rfl rfl (show Ez md_4_letterAt 0 0 48 [(4, zi (xx_stemLengthOf μ a1)), (0, zr 4), (1, zi a1), (2, zi a2), (3, zi a3)] [zi (xx_kindOf μ a1), zr 4] zSh μ _ _ _ from ?_)
    have r4 : -1 ≤ (xx_kindOf μ a1) ∧ (xx_kindOf μ a1) ≤ 2 := xr_kindOf hB a1 (by omega)
    refine Az.blk kd_4_letterAt_48 (show Ez md_4_letterAt 0 0 49 [(4, zi (xx_stemLengthOf μ a1)), (0, zr 4), (1, zi a1), (2, zi a2), (3, zi a3)] [zi a2, zi (xx_kindOf μ a1), zr 4] zSh μ _ _ _ from ?_)
    refine Az.cV (mc := md_4_endingOf) (k := 4) (n := 2) (As := [zi (xx_kindOf μ a1), zi a2]) (rest := []) kr_4_letterAt_49 zw_389 ok_4_endingOf rfl rfl rfl trivial (xz_endingOf hB (xx_kindOf μ a1) a2 (by omega) (by omega)) rfl rfl (show Ez md_4_letterAt 0 0 52 [(4, zi (xx_stemLengthOf μ a1)), (0, zr 4), (1, zi a1), (2, zi a2), (3, zi a3)] [zi (xx_endingOf μ (xx_kindOf μ a1) a2)] zSh μ _ _ _ from ?_)
    have r5 : 0 ≤ (xx_endingOf μ (xx_kindOf μ a1) a2) ∧ (xx_endingOf μ (xx_kindOf μ a1) a2) ≤ 728 := xr_endingOf hB (xx_kindOf μ a1) a2 (by omega) (by omega)
    refine Az.blk kd_4_letterAt_52 (show zR a3 ∧ zR (xx_stemLengthOf μ a1) ∧ ((¬ a3 = (xx_stemLengthOf μ a1) → Ez md_4_letterAt 0 0 66 [(5, zi (xx_endingOf μ (xx_kindOf μ a1) a2)), (4, zi (xx_stemLengthOf μ a1)), (0, zr 4), (1, zi a1), (2, zi a2), (3, zi a3)] [] zSh μ _ _ _) ∧ (a3 = (xx_stemLengthOf μ a1) → Ez md_4_letterAt 0 0 60 [(5, zi (xx_endingOf μ (xx_kindOf μ a1) a2)), (4, zi (xx_stemLengthOf μ a1)), (0, zr 4), (1, zi a1), (2, zi a2), (3, zi a3)] [] zSh μ _ _ _)) from ⟨(by omega), (by omega), fun c6 => ?_, fun c6 => ?_⟩)
    · rw [if_neg c6]
      refine Az.blk kd_4_letterAt_66 (show zR a3 ∧ zR ((xx_stemLengthOf μ a1) + 1) ∧ ((¬ a3 = ((xx_stemLengthOf μ a1) + 1) → Ez md_4_letterAt 0 0 82 [(5, zi (xx_endingOf μ (xx_kindOf μ a1) a2)), (4, zi (xx_stemLengthOf μ a1)), (0, zr 4), (1, zi a1), (2, zi a2), (3, zi a3)] [] zSh μ _ _ _) ∧ (a3 = ((xx_stemLengthOf μ a1) + 1) → Ez md_4_letterAt 0 0 74 [(5, zi (xx_endingOf μ (xx_kindOf μ a1) a2)), (4, zi (xx_stemLengthOf μ a1)), (0, zr 4), (1, zi a1), (2, zi a2), (3, zi a3)] [] zSh μ _ _ _)) from ⟨(by omega), (by omega), fun c7 => ?_, fun c7 => ?_⟩)
      · rw [if_neg c7]
        refine Az.blk kd_4_letterAt_82 (show Ez md_4_letterAt 0 0 83 [(5, zi (xx_endingOf μ (xx_kindOf μ a1) a2)), (4, zi (xx_stemLengthOf μ a1)), (0, zr 4), (1, zi a1), (2, zi a2), (3, zi a3)] [zi 0] zSh μ _ _ _ from ?_)
        exact Ez.iret kr_4_letterAt_83 rfl (Nat.zero_le _) (Nat.zero_le _) rfl rfl
      · rw [if_pos c7]
        refine Az.blk kd_4_letterAt_74 (show (0 ≤ (xx_endingOf μ (xx_kindOf μ a1) a2) ∧ (xx_endingOf μ (xx_kindOf μ a1) a2) ≤ 2147483647) ∧ (0 < (27 : Int) ∧ (27 : Int) ≤ 2147483647) ∧ Ez md_4_letterAt 0 0 83 [(5, zi (xx_endingOf μ (xx_kindOf μ a1) a2)), (4, zi (xx_stemLengthOf μ a1)), (0, zr 4), (1, zi a1), (2, zi a2), (3, zi a3)] [zi ((xx_endingOf μ (xx_kindOf μ a1) a2) % 27)] zSh μ _ _ _ from ⟨(by omega), (by omega), ?_⟩)
        exact Ez.iret kr_4_letterAt_83 rfl (Nat.zero_le _) (Nat.zero_le _) rfl rfl
    · rw [if_pos c6]
      refine Az.blk kd_4_letterAt_60 (show (0 ≤ (xx_endingOf μ (xx_kindOf μ a1) a2) ∧ (xx_endingOf μ (xx_kindOf μ a1) a2) ≤ 2147483647) ∧ (0 < (27 : Int) ∧ (27 : Int) ≤ 2147483647) ∧ Ez md_4_letterAt 0 0 65 [(5, zi (xx_endingOf μ (xx_kindOf μ a1) a2)), (4, zi (xx_stemLengthOf μ a1)), (0, zr 4), (1, zi a1), (2, zi a2), (3, zi a3)] [zi ((xx_endingOf μ (xx_kindOf μ a1) a2) / 27)] zSh μ _ _ _ from ⟨(by omega), (by omega), ?_⟩)
      exact Ez.iret kr_4_letterAt_65 rfl (Nat.zero_le _) (Nat.zero_le _) rfl rfl
  · rw [if_neg c3]
    refine Az.blk kd_4_letterAt_15 (show Ez md_4_letterAt 0 0 18 [(4, zi (xx_stemLengthOf μ a1)), (0, zr 4), (1, zi a1), (2, zi a2), (3, zi a3)] [zi (xx_stemLengthOf μ a1), zi a3] zSh μ _ _ _ from ?_)
    refine Az.cSN (mc := md_5_isBelow) (n := 2) (As := [zi a3, zi (xx_stemLengthOf μ a1)]) (rest := []) kr_4_letterAt_18 zw_393 ok_5_isBelow rfl rfl (xz_isBelow a3 (xx_stemLengthOf μ a1) (by omega) (by omega)) rfl rfl (show Ez md_4_letterAt 0 0 21 [(4, zi (xx_stemLengthOf μ a1)), (0, zr 4), (1, zi a1), (2, zi a2), (3, zi a3)] [zi (xx_isBelow a3 (xx_stemLengthOf μ a1))] zSh μ _ _ _ from ?_)
    have r8 : 0 ≤ (xx_isBelow a3 (xx_stemLengthOf μ a1)) ∧ (xx_isBelow a3 (xx_stemLengthOf μ a1)) ≤ 1 ∧ ((xx_isBelow a3 (xx_stemLengthOf μ a1)) = 1 → 0 ≤ a3 ∧ a3 < (xx_stemLengthOf μ a1)) := xr_isBelow a3 (xx_stemLengthOf μ a1) (by omega) (by omega)
    refine Az.blk kd_4_letterAt_21 (show zR (xx_isBelow a3 (xx_stemLengthOf μ a1)) ∧ (((xx_isBelow a3 (xx_stemLengthOf μ a1)) = 0 → Ez md_4_letterAt 0 0 42 [(4, zi (xx_stemLengthOf μ a1)), (0, zr 4), (1, zi a1), (2, zi a2), (3, zi a3)] [] zSh μ _ _ _) ∧ (¬ (xx_isBelow a3 (xx_stemLengthOf μ a1)) = 0 → Ez md_4_letterAt 0 0 24 [(4, zi (xx_stemLengthOf μ a1)), (0, zr 4), (1, zi a1), (2, zi a2), (3, zi a3)] [] zSh μ _ _ _)) from ⟨(by omega), fun c9 => ?_, fun c9 => ?_⟩)
    · rw [if_pos c9]
      refine Az.blk kd_4_letterAt_42 (show Ez md_4_letterAt 0 0 45 [(4, zi (xx_stemLengthOf μ a1)), (0, zr 4), (1, zi a1), (2, zi a2), (3, zi a3)] [zi a1, zr 4, zr 4] zSh μ _ _ _ from ?_)
      refine Az.cV (mc := md_4_kindOf) (k := 4) (n := 1) (As := [zi a1]) (rest := [zr 4]) kr_4_letterAt_45 zw_381 ok_4_kindOf rfl rfl rfl trivial (xz_kindOf hB a1 (by omega)) rfl rfl (show Ez md_4_letterAt 0 0 48 [(4, zi (xx_stemLengthOf μ a1)), (0, zr 4), (1, zi a1), (2, zi a2), (3, zi a3)] [zi (xx_kindOf μ a1), zr 4] zSh μ _ _ _ from ?_)
      have r10 : -1 ≤ (xx_kindOf μ a1) ∧ (xx_kindOf μ a1) ≤ 2 := xr_kindOf hB a1 (by omega)
      refine Az.blk kd_4_letterAt_48 (show Ez md_4_letterAt 0 0 49 [(4, zi (xx_stemLengthOf μ a1)), (0, zr 4), (1, zi a1), (2, zi a2), (3, zi a3)] [zi a2, zi (xx_kindOf μ a1), zr 4] zSh μ _ _ _ from ?_)
      refine Az.cV (mc := md_4_endingOf) (k := 4) (n := 2) (As := [zi (xx_kindOf μ a1), zi a2]) (rest := []) kr_4_letterAt_49 zw_389 ok_4_endingOf rfl rfl rfl trivial (xz_endingOf hB (xx_kindOf μ a1) a2 (by omega) (by omega)) rfl rfl (show Ez md_4_letterAt 0 0 52 [(4, zi (xx_stemLengthOf μ a1)), (0, zr 4), (1, zi a1), (2, zi a2), (3, zi a3)] [zi (xx_endingOf μ (xx_kindOf μ a1) a2)] zSh μ _ _ _ from ?_)
      have r11 : 0 ≤ (xx_endingOf μ (xx_kindOf μ a1) a2) ∧ (xx_endingOf μ (xx_kindOf μ a1) a2) ≤ 728 := xr_endingOf hB (xx_kindOf μ a1) a2 (by omega) (by omega)
      refine Az.blk kd_4_letterAt_52 (show zR a3 ∧ zR (xx_stemLengthOf μ a1) ∧ ((¬ a3 = (xx_stemLengthOf μ a1) → Ez md_4_letterAt 0 0 66 [(5, zi (xx_endingOf μ (xx_kindOf μ a1) a2)), (4, zi (xx_stemLengthOf μ a1)), (0, zr 4), (1, zi a1), (2, zi a2), (3, zi a3)] [] zSh μ _ _ _) ∧ (a3 = (xx_stemLengthOf μ a1) → Ez md_4_letterAt 0 0 60 [(5, zi (xx_endingOf μ (xx_kindOf μ a1) a2)), (4, zi (xx_stemLengthOf μ a1)), (0, zr 4), (1, zi a1), (2, zi a2), (3, zi a3)] [] zSh μ _ _ _)) from ⟨(by omega), (by omega), fun c12 => ?_, fun c12 => ?_⟩)
      · rw [if_neg c12]
        refine Az.blk kd_4_letterAt_66 (show zR a3 ∧ zR ((xx_stemLengthOf μ a1) + 1) ∧ ((¬ a3 = ((xx_stemLengthOf μ a1) + 1) → Ez md_4_letterAt 0 0 82 [(5, zi (xx_endingOf μ (xx_kindOf μ a1) a2)), (4, zi (xx_stemLengthOf μ a1)), (0, zr 4), (1, zi a1), (2, zi a2), (3, zi a3)] [] zSh μ _ _ _) ∧ (a3 = ((xx_stemLengthOf μ a1) + 1) → Ez md_4_letterAt 0 0 74 [(5, zi (xx_endingOf μ (xx_kindOf μ a1) a2)), (4, zi (xx_stemLengthOf μ a1)), (0, zr 4), (1, zi a1), (2, zi a2), (3, zi a3)] [] zSh μ _ _ _)) from ⟨(by omega), (by omega), fun c13 => ?_, fun c13 => ?_⟩)
        · rw [if_neg c13]
          refine Az.blk kd_4_letterAt_82 (show Ez md_4_letterAt 0 0 83 [(5, zi (xx_endingOf μ (xx_kindOf μ a1) a2)), (4, zi (xx_stemLengthOf μ a1)), (0, zr 4), (1, zi a1), (2, zi a2), (3, zi a3)] [zi 0] zSh μ _ _ _ from ?_)
          exact Ez.iret kr_4_letterAt_83 rfl (Nat.zero_le _) (Nat.zero_le _) rfl rfl
        · rw [if_pos c13]
          refine Az.blk kd_4_letterAt_74 (show (0 ≤ (xx_endingOf μ (xx_kindOf μ a1) a2) ∧ (xx_endingOf μ (xx_kindOf μ a1) a2) ≤ 2147483647) ∧ (0 < (27 : Int) ∧ (27 : Int) ≤ 2147483647) ∧ Ez md_4_letterAt 0 0 83 [(5, zi (xx_endingOf μ (xx_kindOf μ a1) a2)), (4, zi (xx_stemLengthOf μ a1)), (0, zr 4), (1, zi a1), (2, zi a2), (3, zi a3)] [zi ((xx_endingOf μ (xx_kindOf μ a1) a2) % 27)] zSh μ _ _ _ from ⟨(by omega), (by omega), ?_⟩)
          exact Ez.iret kr_4_letterAt_83 rfl (Nat.zero_le _) (Nat.zero_le _) rfl rfl
      · rw [if_pos c12]
        refine Az.blk kd_4_letterAt_60 (show (0 ≤ (xx_endingOf μ (xx_kindOf μ a1) a2) ∧ (xx_endingOf μ (xx_kindOf μ a1) a2) ≤ 2147483647) ∧ (0 < (27 : Int) ∧ (27 : Int) ≤ 2147483647) ∧ Ez md_4_letterAt 0 0 65 [(5, zi (xx_endingOf μ (xx_kindOf μ a1) a2)), (4, zi (xx_stemLengthOf μ a1)), (0, zr 4), (1, zi a1), (2, zi a2), (3, zi a3)] [zi ((xx_endingOf μ (xx_kindOf μ a1) a2) / 27)] zSh μ _ _ _ from ⟨(by omega), (by omega), ?_⟩)
        exact Ez.iret kr_4_letterAt_65 rfl (Nat.zero_le _) (Nat.zero_le _) rfl rfl
    · rw [if_neg c9]
      refine Az.blk kd_4_letterAt_24 (show zR a3 ∧ zR 8 ∧ ((¬ a3 < 8 → Ez md_4_letterAt 0 0 42 [(4, zi (xx_stemLengthOf μ a1)), (0, zr 4), (1, zi a1), (2, zi a2), (3, zi a3)] [] zSh μ _ _ _) ∧ (a3 < 8 → Ez md_4_letterAt 0 0 30 [(4, zi (xx_stemLengthOf μ a1)), (0, zr 4), (1, zi a1), (2, zi a2), (3, zi a3)] [] zSh μ _ _ _)) from ⟨(by omega), (by omega), fun c14 => ?_, fun c14 => ?_⟩)
      · rw [if_neg c14]
        refine Az.blk kd_4_letterAt_42 (show Ez md_4_letterAt 0 0 45 [(4, zi (xx_stemLengthOf μ a1)), (0, zr 4), (1, zi a1), (2, zi a2), (3, zi a3)] [zi a1, zr 4, zr 4] zSh μ _ _ _ from ?_)
        refine Az.cV (mc := md_4_kindOf) (k := 4) (n := 1) (As := [zi a1]) (rest := [zr 4]) kr_4_letterAt_45 zw_381 ok_4_kindOf rfl rfl rfl trivial (xz_kindOf hB a1 (by omega)) rfl rfl (show Ez md_4_letterAt 0 0 48 [(4, zi (xx_stemLengthOf μ a1)), (0, zr 4), (1, zi a1), (2, zi a2), (3, zi a3)] [zi (xx_kindOf μ a1), zr 4] zSh μ _ _ _ from ?_)
        have r15 : -1 ≤ (xx_kindOf μ a1) ∧ (xx_kindOf μ a1) ≤ 2 := xr_kindOf hB a1 (by omega)
        refine Az.blk kd_4_letterAt_48 (show Ez md_4_letterAt 0 0 49 [(4, zi (xx_stemLengthOf μ a1)), (0, zr 4), (1, zi a1), (2, zi a2), (3, zi a3)] [zi a2, zi (xx_kindOf μ a1), zr 4] zSh μ _ _ _ from ?_)
        refine Az.cV (mc := md_4_endingOf) (k := 4) (n := 2) (As := [zi (xx_kindOf μ a1), zi a2]) (rest := []) kr_4_letterAt_49 zw_389 ok_4_endingOf rfl rfl rfl trivial (xz_endingOf hB (xx_kindOf μ a1) a2 (by omega) (by omega)) rfl rfl (show Ez md_4_letterAt 0 0 52 [(4, zi (xx_stemLengthOf μ a1)), (0, zr 4), (1, zi a1), (2, zi a2), (3, zi a3)] [zi (xx_endingOf μ (xx_kindOf μ a1) a2)] zSh μ _ _ _ from ?_)
        have r16 : 0 ≤ (xx_endingOf μ (xx_kindOf μ a1) a2) ∧ (xx_endingOf μ (xx_kindOf μ a1) a2) ≤ 728 := xr_endingOf hB (xx_kindOf μ a1) a2 (by omega) (by omega)
        refine Az.blk kd_4_letterAt_52 (show zR a3 ∧ zR (xx_stemLengthOf μ a1) ∧ ((¬ a3 = (xx_stemLengthOf μ a1) → Ez md_4_letterAt 0 0 66 [(5, zi (xx_endingOf μ (xx_kindOf μ a1) a2)), (4, zi (xx_stemLengthOf μ a1)), (0, zr 4), (1, zi a1), (2, zi a2), (3, zi a3)] [] zSh μ _ _ _) ∧ (a3 = (xx_stemLengthOf μ a1) → Ez md_4_letterAt 0 0 60 [(5, zi (xx_endingOf μ (xx_kindOf μ a1) a2)), (4, zi (xx_stemLengthOf μ a1)), (0, zr 4), (1, zi a1), (2, zi a2), (3, zi a3)] [] zSh μ _ _ _)) from ⟨(by omega), (by omega), fun c17 => ?_, fun c17 => ?_⟩)
        · rw [if_neg c17]
          refine Az.blk kd_4_letterAt_66 (show zR a3 ∧ zR ((xx_stemLengthOf μ a1) + 1) ∧ ((¬ a3 = ((xx_stemLengthOf μ a1) + 1) → Ez md_4_letterAt 0 0 82 [(5, zi (xx_endingOf μ (xx_kindOf μ a1) a2)), (4, zi (xx_stemLengthOf μ a1)), (0, zr 4), (1, zi a1), (2, zi a2), (3, zi a3)] [] zSh μ _ _ _) ∧ (a3 = ((xx_stemLengthOf μ a1) + 1) → Ez md_4_letterAt 0 0 74 [(5, zi (xx_endingOf μ (xx_kindOf μ a1) a2)), (4, zi (xx_stemLengthOf μ a1)), (0, zr 4), (1, zi a1), (2, zi a2), (3, zi a3)] [] zSh μ _ _ _)) from ⟨(by omega), (by omega), fun c18 => ?_, fun c18 => ?_⟩)
          · rw [if_neg c18]
            refine Az.blk kd_4_letterAt_82 (show Ez md_4_letterAt 0 0 83 [(5, zi (xx_endingOf μ (xx_kindOf μ a1) a2)), (4, zi (xx_stemLengthOf μ a1)), (0, zr 4), (1, zi a1), (2, zi a2), (3, zi a3)] [zi 0] zSh μ _ _ _ from ?_)
            exact Ez.iret kr_4_letterAt_83 rfl (Nat.zero_le _) (Nat.zero_le _) rfl rfl
          · rw [if_pos c18]
            refine Az.blk kd_4_letterAt_74 (show (0 ≤ (xx_endingOf μ (xx_kindOf μ a1) a2) ∧ (xx_endingOf μ (xx_kindOf μ a1) a2) ≤ 2147483647) ∧ (0 < (27 : Int) ∧ (27 : Int) ≤ 2147483647) ∧ Ez md_4_letterAt 0 0 83 [(5, zi (xx_endingOf μ (xx_kindOf μ a1) a2)), (4, zi (xx_stemLengthOf μ a1)), (0, zr 4), (1, zi a1), (2, zi a2), (3, zi a3)] [zi ((xx_endingOf μ (xx_kindOf μ a1) a2) % 27)] zSh μ _ _ _ from ⟨(by omega), (by omega), ?_⟩)
            exact Ez.iret kr_4_letterAt_83 rfl (Nat.zero_le _) (Nat.zero_le _) rfl rfl
        · rw [if_pos c17]
          refine Az.blk kd_4_letterAt_60 (show (0 ≤ (xx_endingOf μ (xx_kindOf μ a1) a2) ∧ (xx_endingOf μ (xx_kindOf μ a1) a2) ≤ 2147483647) ∧ (0 < (27 : Int) ∧ (27 : Int) ≤ 2147483647) ∧ Ez md_4_letterAt 0 0 65 [(5, zi (xx_endingOf μ (xx_kindOf μ a1) a2)), (4, zi (xx_stemLengthOf μ a1)), (0, zr 4), (1, zi a1), (2, zi a2), (3, zi a3)] [zi ((xx_endingOf μ (xx_kindOf μ a1) a2) / 27)] zSh μ _ _ _ from ⟨(by omega), (by omega), ?_⟩)
          exact Ez.iret kr_4_letterAt_65 rfl (Nat.zero_le _) (Nat.zero_le _) rfl rfl
      · rw [if_pos c14]
        have b19 : 0 ≤ (μ 8 ((a1 * 8) + a3)) ∧ (μ 8 ((a1 * 8) + a3)) ≤ 26 := hB 8 ((a1 * 8) + a3)
        refine Az.blk kd_4_letterAt_30 (show (0 ≤ ((a1 * 8) + a3) ∧ ((a1 * 8) + a3) < 192) ∧ Ez md_4_letterAt 0 0 41 [(4, zi (xx_stemLengthOf μ a1)), (0, zr 4), (1, zi a1), (2, zi a2), (3, zi a3)] [zi (μ 8 ((a1 * 8) + a3))] zSh μ _ _ _ from ⟨(by omega), ?_⟩)
        exact Ez.iret kr_4_letterAt_41 rfl (Nat.zero_le _) (Nat.zero_le _) rfl rfl
def kb_4_endingLengthOf_0 : List zI := [(.aload_n 0, 1, 0, 0), (.iload_n 1, 1, 0, 0), (.iload_n 2, 1, 0, 0)]
theorem kd_4_endingLengthOf_0 : zdec md_4_endingLengthOf 0 kb_4_endingLengthOf_0 = true := by decide +kernel
theorem kr_4_endingLengthOf_3 : decode md_4_endingLengthOf.2.1 3 = .ok (.invokevirtual 58, 3) := by decide +kernel
def kb_4_endingLengthOf_6 : List zI := [(.istore_n 3, 1, 0, 0), (.iload_n 3, 1, 0, 0), (.ifCond .ne 5, 3, 13, 0)]
theorem kd_4_endingLengthOf_6 : zdec md_4_endingLengthOf 6 kb_4_endingLengthOf_6 = true := by decide +kernel
def kb_4_endingLengthOf_13 : List zI := [(.iload_n 3, 1, 0, 0), (.bipush 27, 2, 0, 0), (.irem, 1, 0, 0), (.ifCond .ne 7, 3, 24, 0)]
theorem kd_4_endingLengthOf_13 : zdec md_4_endingLengthOf 13 kb_4_endingLengthOf_13 = true := by decide +kernel
def kb_4_endingLengthOf_24 : List zI := [(.iconst 2, 1, 0, 0)]
theorem kd_4_endingLengthOf_24 : zdec md_4_endingLengthOf 24 kb_4_endingLengthOf_24 = true := by decide +kernel
theorem kr_4_endingLengthOf_25 : decode md_4_endingLengthOf.2.1 25 = .ok (.ireturn, 1) := by decide +kernel
def kb_4_endingLengthOf_20 : List zI := [(.iconst 1, 1, 0, 0), (.goto 4, 3, 25, 0)]
theorem kd_4_endingLengthOf_20 : zdec md_4_endingLengthOf 20 kb_4_endingLengthOf_20 = true := by decide +kernel
def kb_4_endingLengthOf_11 : List zI := [(.iconst 0, 1, 0, 0)]
theorem kd_4_endingLengthOf_11 : zdec md_4_endingLengthOf 11 kb_4_endingLengthOf_11 = true := by decide +kernel
theorem kr_4_endingLengthOf_12 : decode md_4_endingLengthOf.2.1 12 = .ok (.ireturn, 1) := by decide +kernel
noncomputable def xx_endingLengthOf (μ : zM) (a1 a2 : Int) : Int := (if (xx_endingOf μ a1 a2) = 0 then 0 else (if ((xx_endingOf μ a1 a2) % 27) = 0 then 1 else 2))
set_option maxHeartbeats 4000000 in
set_option maxRecDepth 100000 in
theorem xr_endingLengthOf {μ : zM} (hB : zB μ) (a1 a2 : Int) (h0 : -2147483648 ≤ a1 ∧ a1 ≤ 2147483647) (h1 : -2147483648 ≤ a2 ∧ a2 ≤ 2147483647) : 0 ≤ (xx_endingLengthOf μ a1 a2) ∧ (xx_endingLengthOf μ a1 a2) ≤ 2 := by
  unfold xx_endingLengthOf
  have r1 : 0 ≤ (xx_endingOf μ a1 a2) ∧ (xx_endingOf μ a1 a2) ≤ 728 := xr_endingOf hB a1 a2 (by omega) (by omega)
  by_cases c2 : (xx_endingOf μ a1 a2) = 0
  · rw [if_pos c2]
    first | omega | (dsimp only; omega)
  · rw [if_neg c2]
    by_cases c3 : ((xx_endingOf μ a1 a2) % 27) = 0
    · rw [if_pos c3]
      first | omega | (dsimp only; omega)
    · rw [if_neg c3]
      first | omega | (dsimp only; omega)
set_option maxHeartbeats 4000000 in
set_option maxRecDepth 100000 in
theorem xz_endingLengthOf {μ : zM} (hB : zB μ) (a1 a2 : Int) (h0 : -2147483648 ≤ a1 ∧ a1 ≤ 2147483647) (h1 : -2147483648 ≤ a2 ∧ a2 ≤ 2147483647) : Dz md_4_endingLengthOf [zr 4, zi a1, zi a2] zSh μ (some (zi (xx_endingLengthOf μ a1 a2))) zSh μ := by
  refine Dz.of (by decide) rfl rfl (show Ez md_4_endingLengthOf 0 0 0 [(0, zr 4), (1, zi a1), (2, zi a2)] [] zSh μ (some (zi (xx_endingLengthOf μ a1 a2))) zSh μ from ?_)
  unfold xx_endingLengthOf
  refine Az.blk kd_4_endingLengthOf_0 (show Ez md_4_endingLengthOf 0 0 3 [(0, zr 4), (1, zi a1), (2, zi a2)] [zi a2, zi a1, zr 4] zSh μ _ _ _ from ?_)
  refine Az.cV (mc := md_4_endingOf) (k := 4) (n := 2) (As := [zi a1, zi a2]) (rest := []) kr_4_endingLengthOf_3 zw_389 ok_4_endingOf rfl rfl rfl trivial (xz_endingOf hB a1 a2 (by omega) (by omega)) rfl rfl (show Ez md_4_endingLengthOf 0 0 6 [(0, zr 4), (1, zi a1), (2, zi a2)] [zi (xx_endingOf μ a1 a2)] zSh μ _ _ _ from ?_)
  have r1 : 0 ≤ (xx_endingOf μ a1 a2) ∧ (xx_endingOf μ a1 a2) ≤ 728 := xr_endingOf hB a1 a2 (by omega) (by omega)
  refine Az.blk kd_4_endingLengthOf_6 (show zR (xx_endingOf μ a1 a2) ∧ ((¬ (xx_endingOf μ a1 a2) = 0 → Ez md_4_endingLengthOf 0 0 13 [(3, zi (xx_endingOf μ a1 a2)), (0, zr 4), (1, zi a1), (2, zi a2)] [] zSh μ _ _ _) ∧ ((xx_endingOf μ a1 a2) = 0 → Ez md_4_endingLengthOf 0 0 11 [(3, zi (xx_endingOf μ a1 a2)), (0, zr 4), (1, zi a1), (2, zi a2)] [] zSh μ _ _ _)) from ⟨(by omega), fun c2 => ?_, fun c2 => ?_⟩)
  · rw [if_neg c2]
    refine Az.blk kd_4_endingLengthOf_13 (show (0 ≤ (xx_endingOf μ a1 a2) ∧ (xx_endingOf μ a1 a2) ≤ 2147483647) ∧ (0 < (27 : Int) ∧ (27 : Int) ≤ 2147483647) ∧ zR ((xx_endingOf μ a1 a2) % 27) ∧ ((¬ ((xx_endingOf μ a1 a2) % 27) = 0 → Ez md_4_endingLengthOf 0 0 24 [(3, zi (xx_endingOf μ a1 a2)), (0, zr 4), (1, zi a1), (2, zi a2)] [] zSh μ _ _ _) ∧ (((xx_endingOf μ a1 a2) % 27) = 0 → Ez md_4_endingLengthOf 0 0 20 [(3, zi (xx_endingOf μ a1 a2)), (0, zr 4), (1, zi a1), (2, zi a2)] [] zSh μ _ _ _)) from ⟨(by omega), (by omega), (by omega), fun c3 => ?_, fun c3 => ?_⟩)
    · rw [if_neg c3]
      refine Az.blk kd_4_endingLengthOf_24 (show Ez md_4_endingLengthOf 0 0 25 [(3, zi (xx_endingOf μ a1 a2)), (0, zr 4), (1, zi a1), (2, zi a2)] [zi 2] zSh μ _ _ _ from ?_)
      exact Ez.iret kr_4_endingLengthOf_25 rfl (Nat.zero_le _) (Nat.zero_le _) rfl rfl
    · rw [if_pos c3]
      refine Az.blk kd_4_endingLengthOf_20 (show Ez md_4_endingLengthOf 0 0 25 [(3, zi (xx_endingOf μ a1 a2)), (0, zr 4), (1, zi a1), (2, zi a2)] [zi 1] zSh μ _ _ _ from ?_)
      exact Ez.iret kr_4_endingLengthOf_25 rfl (Nat.zero_le _) (Nat.zero_le _) rfl rfl
  · rw [if_pos c2]
    refine Az.blk kd_4_endingLengthOf_11 (show Ez md_4_endingLengthOf 0 0 12 [(3, zi (xx_endingOf μ a1 a2)), (0, zr 4), (1, zi a1), (2, zi a2)] [zi 0] zSh μ _ _ _ from ?_)
    exact Ez.iret kr_4_endingLengthOf_12 rfl (Nat.zero_le _) (Nat.zero_le _) rfl rfl
def kb_4_lengthOf_0 : List zI := [(.aload_n 0, 1, 0, 0), (.iload_n 1, 1, 0, 0)]
theorem kd_4_lengthOf_0 : zdec md_4_lengthOf 0 kb_4_lengthOf_0 = true := by decide +kernel
theorem kr_4_lengthOf_2 : decode md_4_lengthOf.2.1 2 = .ok (.invokevirtual 61, 3) := by decide +kernel
def kb_4_lengthOf_5 : List zI := [(.aload_n 0, 1, 0, 0), (.aload_n 0, 1, 0, 0), (.iload_n 1, 1, 0, 0)]
theorem kd_4_lengthOf_5 : zdec md_4_lengthOf 5 kb_4_lengthOf_5 = true := by decide +kernel
theorem kr_4_lengthOf_8 : decode md_4_lengthOf.2.1 8 = .ok (.invokevirtual 64, 3) := by decide +kernel
def kb_4_lengthOf_11 : List zI := [(.iload_n 2, 1, 0, 0)]
theorem kd_4_lengthOf_11 : zdec md_4_lengthOf 11 kb_4_lengthOf_11 = true := by decide +kernel
theorem kr_4_lengthOf_12 : decode md_4_lengthOf.2.1 12 = .ok (.invokevirtual 67, 3) := by decide +kernel
def kb_4_lengthOf_15 : List zI := [(.iadd, 1, 0, 0)]
theorem kd_4_lengthOf_15 : zdec md_4_lengthOf 15 kb_4_lengthOf_15 = true := by decide +kernel
theorem kr_4_lengthOf_16 : decode md_4_lengthOf.2.1 16 = .ok (.ireturn, 1) := by decide +kernel
noncomputable def xx_lengthOf (μ : zM) (a1 a2 : Int) : Int := ((xx_stemLengthOf μ a1) + (xx_endingLengthOf μ (xx_kindOf μ a1) a2))
set_option maxHeartbeats 4000000 in
set_option maxRecDepth 100000 in
theorem xr_lengthOf {μ : zM} (hB : zB μ) (a1 a2 : Int) (h0 : -2147483648 ≤ a1 ∧ a1 ≤ 2147483647) (h1 : -2147483648 ≤ a2 ∧ a2 ≤ 2147483647) : 0 ≤ (xx_lengthOf μ a1 a2) ∧ (xx_lengthOf μ a1 a2) ≤ 10 := by
  unfold xx_lengthOf
  have r1 : 0 ≤ (xx_stemLengthOf μ a1) ∧ (xx_stemLengthOf μ a1) ≤ 8 := xr_stemLengthOf hB a1 (by omega)
  have r2 : -1 ≤ (xx_kindOf μ a1) ∧ (xx_kindOf μ a1) ≤ 2 := xr_kindOf hB a1 (by omega)
  have r3 : 0 ≤ (xx_endingLengthOf μ (xx_kindOf μ a1) a2) ∧ (xx_endingLengthOf μ (xx_kindOf μ a1) a2) ≤ 2 := xr_endingLengthOf hB (xx_kindOf μ a1) a2 (by omega) (by omega)
  first | omega | (dsimp only; omega)
set_option maxHeartbeats 4000000 in
set_option maxRecDepth 100000 in
theorem xz_lengthOf {μ : zM} (hB : zB μ) (a1 a2 : Int) (h0 : -2147483648 ≤ a1 ∧ a1 ≤ 2147483647) (h1 : -2147483648 ≤ a2 ∧ a2 ≤ 2147483647) : Dz md_4_lengthOf [zr 4, zi a1, zi a2] zSh μ (some (zi (xx_lengthOf μ a1 a2))) zSh μ := by
  refine Dz.of (by decide) rfl rfl (show Ez md_4_lengthOf 0 0 0 [(0, zr 4), (1, zi a1), (2, zi a2)] [] zSh μ (some (zi (xx_lengthOf μ a1 a2))) zSh μ from ?_)
  unfold xx_lengthOf
  refine Az.blk kd_4_lengthOf_0 (show Ez md_4_lengthOf 0 0 2 [(0, zr 4), (1, zi a1), (2, zi a2)] [zi a1, zr 4] zSh μ _ _ _ from ?_)
  refine Az.cV (mc := md_4_stemLengthOf) (k := 4) (n := 1) (As := [zi a1]) (rest := []) kr_4_lengthOf_2 zw_377 ok_4_stemLengthOf rfl rfl rfl trivial (xz_stemLengthOf hB a1 (by omega)) rfl rfl (show Ez md_4_lengthOf 0 0 5 [(0, zr 4), (1, zi a1), (2, zi a2)] [zi (xx_stemLengthOf μ a1)] zSh μ _ _ _ from ?_)
  have r1 : 0 ≤ (xx_stemLengthOf μ a1) ∧ (xx_stemLengthOf μ a1) ≤ 8 := xr_stemLengthOf hB a1 (by omega)
  refine Az.blk kd_4_lengthOf_5 (show Ez md_4_lengthOf 0 0 8 [(0, zr 4), (1, zi a1), (2, zi a2)] [zi a1, zr 4, zr 4, zi (xx_stemLengthOf μ a1)] zSh μ _ _ _ from ?_)
  refine Az.cV (mc := md_4_kindOf) (k := 4) (n := 1) (As := [zi a1]) (rest := [zr 4, zi (xx_stemLengthOf μ a1)]) kr_4_lengthOf_8 zw_381 ok_4_kindOf rfl rfl rfl trivial (xz_kindOf hB a1 (by omega)) rfl rfl (show Ez md_4_lengthOf 0 0 11 [(0, zr 4), (1, zi a1), (2, zi a2)] [zi (xx_kindOf μ a1), zr 4, zi (xx_stemLengthOf μ a1)] zSh μ _ _ _ from ?_)
  have r2 : -1 ≤ (xx_kindOf μ a1) ∧ (xx_kindOf μ a1) ≤ 2 := xr_kindOf hB a1 (by omega)
  refine Az.blk kd_4_lengthOf_11 (show Ez md_4_lengthOf 0 0 12 [(0, zr 4), (1, zi a1), (2, zi a2)] [zi a2, zi (xx_kindOf μ a1), zr 4, zi (xx_stemLengthOf μ a1)] zSh μ _ _ _ from ?_)
  refine Az.cV (mc := md_4_endingLengthOf) (k := 4) (n := 2) (As := [zi (xx_kindOf μ a1), zi a2]) (rest := [zi (xx_stemLengthOf μ a1)]) kr_4_lengthOf_12 zw_385 ok_4_endingLengthOf rfl rfl rfl trivial (xz_endingLengthOf hB (xx_kindOf μ a1) a2 (by omega) (by omega)) rfl rfl (show Ez md_4_lengthOf 0 0 15 [(0, zr 4), (1, zi a1), (2, zi a2)] [zi (xx_endingLengthOf μ (xx_kindOf μ a1) a2), zi (xx_stemLengthOf μ a1)] zSh μ _ _ _ from ?_)
  have r3 : 0 ≤ (xx_endingLengthOf μ (xx_kindOf μ a1) a2) ∧ (xx_endingLengthOf μ (xx_kindOf μ a1) a2) ≤ 2 := xr_endingLengthOf hB (xx_kindOf μ a1) a2 (by omega) (by omega)
  refine Az.blk kd_4_lengthOf_15 (show Ez md_4_lengthOf 0 0 16 [(0, zr 4), (1, zi a1), (2, zi a2)] [zi ((xx_stemLengthOf μ a1) + (xx_endingLengthOf μ (xx_kindOf μ a1) a2))] zSh μ _ _ _ from ?_)
  exact Ez.iret kr_4_lengthOf_16 rfl (Nat.zero_le _) (Nat.zero_le _) rfl rfl
def kb_4_lettersKindCould_0 : List zI := [(.iconst (-1), 1, 0, 0), (.istore 5, 2, 0, 0), (.iconst 0, 1, 0, 0), (.istore 6, 2, 0, 0)]
theorem kd_4_lettersKindCould_0 : zdec md_4_lettersKindCould 0 kb_4_lettersKindCould_0 = true := by decide +kernel
def kb_4_lettersKindCould_6 : List zI := [(.iload 6, 2, 0, 0), (.aload_n 0, 1, 0, 0), (.getfield 9, 3, 4, 0), (.if_icmp .ge 61, 3, 73, 0)]
theorem kd_4_lettersKindCould_6 : zdec md_4_lettersKindCould 6 kb_4_lettersKindCould_6 = true := by decide +kernel
def kb_4_lettersKindCould_73 : List zI := [(.iload 5, 2, 0, 0)]
theorem kd_4_lettersKindCould_73 : zdec md_4_lettersKindCould 73 kb_4_lettersKindCould_73 = true := by decide +kernel
theorem kr_4_lettersKindCould_75 : decode md_4_lettersKindCould.2.1 75 = .ok (.ireturn, 1) := by decide +kernel
def kb_4_lettersKindCould_15 : List zI := [(.aload_n 0, 1, 0, 0), (.iload 6, 2, 0, 0)]
theorem kd_4_lettersKindCould_15 : zdec md_4_lettersKindCould 15 kb_4_lettersKindCould_15 = true := by decide +kernel
theorem kr_4_lettersKindCould_18 : decode md_4_lettersKindCould.2.1 18 = .ok (.invokevirtual 64, 3) := by decide +kernel
def kb_4_lettersKindCould_21 : List zI := [(.iload_n 1, 1, 0, 0), (.if_icmp .ne 21, 3, 43, 0)]
theorem kd_4_lettersKindCould_21 : zdec md_4_lettersKindCould 21 kb_4_lettersKindCould_21 = true := by decide +kernel
def kb_4_lettersKindCould_43 : List zI := [(.iconst 0, 1, 0, 0), (.istore 7, 2, 0, 0), (.iload 7, 2, 0, 0), (.ifCond .eq 19, 3, 67, 0)]
theorem kd_4_lettersKindCould_43 : zdec md_4_lettersKindCould 43 kb_4_lettersKindCould_43 = true := by decide +kernel
def kb_4_lettersKindCould_67 : List zI := [(.iinc 6 1, 3, 0, 0), (.goto (-64), 3, 6, 0)]
theorem kd_4_lettersKindCould_67 : zdec md_4_lettersKindCould 67 kb_4_lettersKindCould_67 = true := by decide +kernel
def kb_4_lettersKindCould_51 : List zI := [(.iload 5, 2, 0, 0), (.aload_n 0, 1, 0, 0), (.iload 6, 2, 0, 0), (.iload_n 3, 1, 0, 0)]
theorem kd_4_lettersKindCould_51 : zdec md_4_lettersKindCould 51 kb_4_lettersKindCould_51 = true := by decide +kernel
theorem kr_4_lettersKindCould_57 : decode md_4_lettersKindCould.2.1 57 = .ok (.invokevirtual 73, 3) := by decide +kernel
def kb_4_lettersKindCould_60 : List zI := [(.iload 4, 2, 0, 0)]
theorem kd_4_lettersKindCould_60 : zdec md_4_lettersKindCould 60 kb_4_lettersKindCould_60 = true := by decide +kernel
theorem kr_4_lettersKindCould_62 : decode md_4_lettersKindCould.2.1 62 = .ok (.invokestatic 76, 3) := by decide +kernel
def kb_4_lettersKindCould_65 : List zI := [(.istore 5, 2, 0, 0), (.iinc 6 1, 3, 0, 0), (.goto (-64), 3, 6, 0)]
theorem kd_4_lettersKindCould_65 : zdec md_4_lettersKindCould 65 kb_4_lettersKindCould_65 = true := by decide +kernel
def kb_4_lettersKindCould_25 : List zI := [(.iload_n 1, 1, 0, 0), (.ifCond .ne 13, 3, 39, 0)]
theorem kd_4_lettersKindCould_25 : zdec md_4_lettersKindCould 25 kb_4_lettersKindCould_25 = true := by decide +kernel
def kb_4_lettersKindCould_39 : List zI := [(.iconst 1, 1, 0, 0), (.goto 4, 3, 44, 0)]
theorem kd_4_lettersKindCould_39 : zdec md_4_lettersKindCould 39 kb_4_lettersKindCould_39 = true := by decide +kernel
def kb_4_lettersKindCould_44 : List zI := [(.istore 7, 2, 0, 0), (.iload 7, 2, 0, 0), (.ifCond .eq 19, 3, 67, 0)]
theorem kd_4_lettersKindCould_44 : zdec md_4_lettersKindCould 44 kb_4_lettersKindCould_44 = true := by decide +kernel
def kb_4_lettersKindCould_29 : List zI := [(.aload_n 0, 1, 0, 0), (.iload 6, 2, 0, 0)]
theorem kd_4_lettersKindCould_29 : zdec md_4_lettersKindCould 29 kb_4_lettersKindCould_29 = true := by decide +kernel
theorem kr_4_lettersKindCould_32 : decode md_4_lettersKindCould.2.1 32 = .ok (.invokevirtual 70, 3) := by decide +kernel
def kb_4_lettersKindCould_35 : List zI := [(.iload_n 2, 1, 0, 0), (.if_icmp .ne 7, 3, 43, 0)]
theorem kd_4_lettersKindCould_35 : zdec md_4_lettersKindCould 35 kb_4_lettersKindCould_35 = true := by decide +kernel
noncomputable def xx_lettersKindCould_6 : Nat → zM → Int → Int → Int → Int → Int → Int → Int
  | 0, μ, _, _, _, _, _, _ => 0
  | f + 1, μ, l1, l2, l3, l4, l5, l6 => (if l6 < (μ 4 0) then (if (xx_kindOf μ l6) = l1 then (if l1 = 0 then (if (xx_genderOf μ l6) = l2 then (if (1 : Int) = 0 then (xx_lettersKindCould_6 f μ l1 l2 l3 l4 l5 (l6 + 1)) else (xx_lettersKindCould_6 f μ l1 l2 l3 l4 (xx_better l5 (xx_lengthOf μ l6 l3) l4) (l6 + 1))) else (if (0 : Int) = 0 then (xx_lettersKindCould_6 f μ l1 l2 l3 l4 l5 (l6 + 1)) else (xx_lettersKindCould_6 f μ l1 l2 l3 l4 (xx_better l5 (xx_lengthOf μ l6 l3) l4) (l6 + 1)))) else (if (1 : Int) = 0 then (xx_lettersKindCould_6 f μ l1 l2 l3 l4 l5 (l6 + 1)) else (xx_lettersKindCould_6 f μ l1 l2 l3 l4 (xx_better l5 (xx_lengthOf μ l6 l3) l4) (l6 + 1)))) else (if (0 : Int) = 0 then (xx_lettersKindCould_6 f μ l1 l2 l3 l4 l5 (l6 + 1)) else (xx_lettersKindCould_6 f μ l1 l2 l3 l4 (xx_better l5 (xx_lengthOf μ l6 l3) l4) (l6 + 1)))) else l5)
noncomputable def xx_lettersKindCould (μ : zM) (a1 a2 a3 a4 : Int) : Int := (xx_lettersKindCould_6 zN μ a1 a2 a3 a4 (-1) 0)
set_option maxHeartbeats 4000000 in
set_option maxRecDepth 100000 in
theorem xr_lettersKindCould_6 (f : Nat) (μ : zM) (hB : zB μ) (l1 : Int) (l2 : Int) (l3 : Int) (l4 : Int) (l5 : Int) (l6 : Int) (i0 : 0 ≤ l6 ∧ l6 ≤ (μ 4 0)) (i1 : -1 ≤ l5 ∧ l5 ≤ 10) (i2 : -2147483648 ≤ l1 ∧ l1 ≤ 2147483647) (i3 : -2147483648 ≤ l2 ∧ l2 ≤ 2147483647) (i4 : -2147483648 ≤ l3 ∧ l3 ≤ 2147483647) (i5 : -2147483648 ≤ l4 ∧ l4 ≤ 2147483647) (hf : (μ 4 0) - l6 < (f : Int)) : -1 ≤ (xx_lettersKindCould_6 f μ l1 l2 l3 l4 l5 l6) ∧ (xx_lettersKindCould_6 f μ l1 l2 l3 l4 l5 l6) ≤ 10 := by
  induction f generalizing μ l1 l2 l3 l4 l5 l6 with
  | zero => exfalso; omega
  | succ f ih =>
    replace hf : (μ 4 0) - l6 < (f : Int) + 1 := by omega
    rw [xx_lettersKindCould_6]
    have b2 : 0 ≤ (μ 4 0) ∧ (μ 4 0) ≤ 24 := hB 4 0
    by_cases c3 : l6 < (μ 4 0)
    · rw [if_pos c3]
      have r4 : -1 ≤ (xx_kindOf μ l6) ∧ (xx_kindOf μ l6) ≤ 2 := xr_kindOf hB l6 (by omega)
      by_cases c5 : (xx_kindOf μ l6) = l1
      · rw [if_pos c5]
        by_cases c11 : l1 = 0
        · rw [if_pos c11]
          have r17 : 0 ≤ (xx_genderOf μ l6) ∧ (xx_genderOf μ l6) ≤ 2 := xr_genderOf hB l6 (by omega)
          by_cases c18 : (xx_genderOf μ l6) = l2
          · rw [if_pos c18]
            by_cases c24 : (1 : Int) = 0
            · rw [if_pos c24]
              have b25 : 0 ≤ (μ 4 0) ∧ (μ 4 0) ≤ 24 := hB 4 0
              exact ih μ hB l1 l2 l3 l4 l5 (l6 + 1) (by omega) (by omega) (by omega) (by omega) (by omega) (by omega) (by omega)
            · rw [if_neg c24]
              have r26 : 0 ≤ (xx_lengthOf μ l6 l3) ∧ (xx_lengthOf μ l6 l3) ≤ 10 := xr_lengthOf hB l6 l3 (by omega) (by omega)
              have r27 : ((xx_better l5 (xx_lengthOf μ l6 l3) l4) = l5 ∨ (xx_better l5 (xx_lengthOf μ l6 l3) l4) = (xx_lengthOf μ l6 l3)) := xr_better l5 (xx_lengthOf μ l6 l3) l4 (by omega) (by omega) (by omega)
              have b28 : 0 ≤ (μ 4 0) ∧ (μ 4 0) ≤ 24 := hB 4 0
              exact ih μ hB l1 l2 l3 l4 (xx_better l5 (xx_lengthOf μ l6 l3) l4) (l6 + 1) (by omega) (by omega) (by omega) (by omega) (by omega) (by omega) (by omega)
          · rw [if_neg c18]
            by_cases c19 : (0 : Int) = 0
            · rw [if_pos c19]
              have b20 : 0 ≤ (μ 4 0) ∧ (μ 4 0) ≤ 24 := hB 4 0
              exact ih μ hB l1 l2 l3 l4 l5 (l6 + 1) (by omega) (by omega) (by omega) (by omega) (by omega) (by omega) (by omega)
            · rw [if_neg c19]
              have r21 : 0 ≤ (xx_lengthOf μ l6 l3) ∧ (xx_lengthOf μ l6 l3) ≤ 10 := xr_lengthOf hB l6 l3 (by omega) (by omega)
              have r22 : ((xx_better l5 (xx_lengthOf μ l6 l3) l4) = l5 ∨ (xx_better l5 (xx_lengthOf μ l6 l3) l4) = (xx_lengthOf μ l6 l3)) := xr_better l5 (xx_lengthOf μ l6 l3) l4 (by omega) (by omega) (by omega)
              have b23 : 0 ≤ (μ 4 0) ∧ (μ 4 0) ≤ 24 := hB 4 0
              exact ih μ hB l1 l2 l3 l4 (xx_better l5 (xx_lengthOf μ l6 l3) l4) (l6 + 1) (by omega) (by omega) (by omega) (by omega) (by omega) (by omega) (by omega)
        · rw [if_neg c11]
          by_cases c12 : (1 : Int) = 0
          · rw [if_pos c12]
            have b13 : 0 ≤ (μ 4 0) ∧ (μ 4 0) ≤ 24 := hB 4 0
            exact ih μ hB l1 l2 l3 l4 l5 (l6 + 1) (by omega) (by omega) (by omega) (by omega) (by omega) (by omega) (by omega)
          · rw [if_neg c12]
            have r14 : 0 ≤ (xx_lengthOf μ l6 l3) ∧ (xx_lengthOf μ l6 l3) ≤ 10 := xr_lengthOf hB l6 l3 (by omega) (by omega)
            have r15 : ((xx_better l5 (xx_lengthOf μ l6 l3) l4) = l5 ∨ (xx_better l5 (xx_lengthOf μ l6 l3) l4) = (xx_lengthOf μ l6 l3)) := xr_better l5 (xx_lengthOf μ l6 l3) l4 (by omega) (by omega) (by omega)
            have b16 : 0 ≤ (μ 4 0) ∧ (μ 4 0) ≤ 24 := hB 4 0
            exact ih μ hB l1 l2 l3 l4 (xx_better l5 (xx_lengthOf μ l6 l3) l4) (l6 + 1) (by omega) (by omega) (by omega) (by omega) (by omega) (by omega) (by omega)
      · rw [if_neg c5]
        by_cases c6 : (0 : Int) = 0
        · rw [if_pos c6]
          have b7 : 0 ≤ (μ 4 0) ∧ (μ 4 0) ≤ 24 := hB 4 0
          exact ih μ hB l1 l2 l3 l4 l5 (l6 + 1) (by omega) (by omega) (by omega) (by omega) (by omega) (by omega) (by omega)
        · rw [if_neg c6]
          have r8 : 0 ≤ (xx_lengthOf μ l6 l3) ∧ (xx_lengthOf μ l6 l3) ≤ 10 := xr_lengthOf hB l6 l3 (by omega) (by omega)
          have r9 : ((xx_better l5 (xx_lengthOf μ l6 l3) l4) = l5 ∨ (xx_better l5 (xx_lengthOf μ l6 l3) l4) = (xx_lengthOf μ l6 l3)) := xr_better l5 (xx_lengthOf μ l6 l3) l4 (by omega) (by omega) (by omega)
          have b10 : 0 ≤ (μ 4 0) ∧ (μ 4 0) ≤ 24 := hB 4 0
          exact ih μ hB l1 l2 l3 l4 (xx_better l5 (xx_lengthOf μ l6 l3) l4) (l6 + 1) (by omega) (by omega) (by omega) (by omega) (by omega) (by omega) (by omega)
    · rw [if_neg c3]
      first | omega | (dsimp only; omega)
set_option maxHeartbeats 4000000 in
set_option maxRecDepth 100000 in
theorem xr_lettersKindCould {μ : zM} (hB : zB μ) (a1 a2 a3 a4 : Int) (h0 : -2147483648 ≤ a1 ∧ a1 ≤ 2147483647) (h1 : -2147483648 ≤ a2 ∧ a2 ≤ 2147483647) (h2 : -2147483648 ≤ a3 ∧ a3 ≤ 2147483647) (h3 : -2147483648 ≤ a4 ∧ a4 ≤ 2147483647) : -1 ≤ (xx_lettersKindCould μ a1 a2 a3 a4) ∧ (xx_lettersKindCould μ a1 a2 a3 a4) ≤ 10 := by
  unfold xx_lettersKindCould
  have b1 : 0 ≤ (μ 4 0) ∧ (μ 4 0) ≤ 24 := hB 4 0
  have fb : (3000 : Int) ≤ ((zN : Nat) : Int) := zN_big
  exact xr_lettersKindCould_6 zN μ hB a1 a2 a3 a4 (-1) 0 (by omega) (by omega) (by omega) (by omega) (by omega) (by omega) (by omega)
set_option maxHeartbeats 4000000 in
set_option maxRecDepth 100000 in
theorem xz_lettersKindCould_6 (f : Nat) (μ : zM) (hB : zB μ) (l1 : Int) (l2 : Int) (l3 : Int) (l4 : Int) (l5 : Int) (l6 : Int) (i0 : 0 ≤ l6 ∧ l6 ≤ (μ 4 0)) (i1 : -1 ≤ l5 ∧ l5 ≤ 10) (i2 : -2147483648 ≤ l1 ∧ l1 ≤ 2147483647) (i3 : -2147483648 ≤ l2 ∧ l2 ≤ 2147483647) (i4 : -2147483648 ≤ l3 ∧ l3 ≤ 2147483647) (i5 : -2147483648 ≤ l4 ∧ l4 ≤ 2147483647) (hf : (μ 4 0) - l6 < (f : Int)) : Ez md_4_lettersKindCould 0 0 6 [(0, zr 4), (1, zi l1), (2, zi l2), (3, zi l3), (4, zi l4), (5, zi l5), (6, zi l6)] [] zSh μ (some (zi (xx_lettersKindCould_6 f μ l1 l2 l3 l4 l5 l6))) zSh μ := by
  induction f generalizing μ l1 l2 l3 l4 l5 l6 with
  | zero => exfalso; omega
  | succ f ih =>
    replace hf : (μ 4 0) - l6 < (f : Int) + 1 := by omega
    rw [xx_lettersKindCould_6]
    have b2 : 0 ≤ (μ 4 0) ∧ (μ 4 0) ≤ 24 := hB 4 0
    refine Az.blk kd_4_lettersKindCould_6 (show zR l6 ∧ zR (μ 4 0) ∧ ((¬ l6 < (μ 4 0) → Ez md_4_lettersKindCould 0 0 73 [(0, zr 4), (1, zi l1), (2, zi l2), (3, zi l3), (4, zi l4), (5, zi l5), (6, zi l6)] [] zSh μ _ _ _) ∧ (l6 < (μ 4 0) → Ez md_4_lettersKindCould 0 0 15 [(0, zr 4), (1, zi l1), (2, zi l2), (3, zi l3), (4, zi l4), (5, zi l5), (6, zi l6)] [] zSh μ _ _ _)) from ⟨(by omega), (by omega), fun c3 => ?_, fun c3 => ?_⟩)
    · rw [if_neg c3]
      refine Az.blk kd_4_lettersKindCould_73 (show Ez md_4_lettersKindCould 0 0 75 [(0, zr 4), (1, zi l1), (2, zi l2), (3, zi l3), (4, zi l4), (5, zi l5), (6, zi l6)] [zi l5] zSh μ _ _ _ from ?_)
      exact Ez.iret kr_4_lettersKindCould_75 rfl (Nat.zero_le _) (Nat.zero_le _) rfl rfl
    · rw [if_pos c3]
      refine Az.blk kd_4_lettersKindCould_15 (show Ez md_4_lettersKindCould 0 0 18 [(0, zr 4), (1, zi l1), (2, zi l2), (3, zi l3), (4, zi l4), (5, zi l5), (6, zi l6)] [zi l6, zr 4] zSh μ _ _ _ from ?_)
      refine Az.cV (mc := md_4_kindOf) (k := 4) (n := 1) (As := [zi l6]) (rest := []) kr_4_lettersKindCould_18 zw_381 ok_4_kindOf rfl rfl rfl trivial (xz_kindOf hB l6 (by omega)) rfl rfl (show Ez md_4_lettersKindCould 0 0 21 [(0, zr 4), (1, zi l1), (2, zi l2), (3, zi l3), (4, zi l4), (5, zi l5), (6, zi l6)] [zi (xx_kindOf μ l6)] zSh μ _ _ _ from ?_)
      have r4 : -1 ≤ (xx_kindOf μ l6) ∧ (xx_kindOf μ l6) ≤ 2 := xr_kindOf hB l6 (by omega)
      refine Az.blk kd_4_lettersKindCould_21 (show zR (xx_kindOf μ l6) ∧ zR l1 ∧ ((¬ (xx_kindOf μ l6) = l1 → Ez md_4_lettersKindCould 0 0 43 [(0, zr 4), (1, zi l1), (2, zi l2), (3, zi l3), (4, zi l4), (5, zi l5), (6, zi l6)] [] zSh μ _ _ _) ∧ ((xx_kindOf μ l6) = l1 → Ez md_4_lettersKindCould 0 0 25 [(0, zr 4), (1, zi l1), (2, zi l2), (3, zi l3), (4, zi l4), (5, zi l5), (6, zi l6)] [] zSh μ _ _ _)) from ⟨(by omega), (by omega), fun c5 => ?_, fun c5 => ?_⟩)
      · rw [if_neg c5]
        refine Az.blk kd_4_lettersKindCould_43 (show zR 0 ∧ (((0 : Int) = 0 → Ez md_4_lettersKindCould 0 0 67 [(7, zi 0), (0, zr 4), (1, zi l1), (2, zi l2), (3, zi l3), (4, zi l4), (5, zi l5), (6, zi l6)] [] zSh μ _ _ _) ∧ (¬ (0 : Int) = 0 → Ez md_4_lettersKindCould 0 0 51 [(7, zi 0), (0, zr 4), (1, zi l1), (2, zi l2), (3, zi l3), (4, zi l4), (5, zi l5), (6, zi l6)] [] zSh μ _ _ _)) from ⟨(by omega), fun c6 => ?_, fun c6 => ?_⟩)
        · rw [if_pos c6]
          refine Az.blk kd_4_lettersKindCould_67 (show Ez md_4_lettersKindCould 0 0 6 [(6, zi (l6 + 1)), (7, zi 0), (0, zr 4), (1, zi l1), (2, zi l2), (3, zi l3), (4, zi l4), (5, zi l5)] [] zSh μ _ _ _ from ?_)
          have b7 : 0 ≤ (μ 4 0) ∧ (μ 4 0) ≤ 24 := hB 4 0
          refine Az.lvs (lv' := [(0, zr 4), (1, zi l1), (2, zi l2), (3, zi l3), (4, zi l4), (5, zi l5), (6, zi (l6 + 1))]) ?_ ?_
          · intro q hq; simp only [List.mem_cons, List.not_mem_nil, or_false] at hq; rcases hq with rfl | rfl | rfl | rfl | rfl | rfl | rfl <;> rfl
          exact ih μ hB l1 l2 l3 l4 l5 (l6 + 1) (by omega) (by omega) (by omega) (by omega) (by omega) (by omega) (by omega)
        · rw [if_neg c6]
          refine Az.blk kd_4_lettersKindCould_51 (show Ez md_4_lettersKindCould 0 0 57 [(7, zi 0), (0, zr 4), (1, zi l1), (2, zi l2), (3, zi l3), (4, zi l4), (5, zi l5), (6, zi l6)] [zi l3, zi l6, zr 4, zi l5] zSh μ _ _ _ from ?_)
          refine Az.cV (mc := md_4_lengthOf) (k := 4) (n := 2) (As := [zi l6, zi l3]) (rest := [zi l5]) kr_4_lettersKindCould_57 zw_580 ok_4_lengthOf rfl rfl rfl trivial (xz_lengthOf hB l6 l3 (by omega) (by omega)) rfl rfl (show Ez md_4_lettersKindCould 0 0 60 [(7, zi 0), (0, zr 4), (1, zi l1), (2, zi l2), (3, zi l3), (4, zi l4), (5, zi l5), (6, zi l6)] [zi (xx_lengthOf μ l6 l3), zi l5] zSh μ _ _ _ from ?_)
          have r8 : 0 ≤ (xx_lengthOf μ l6 l3) ∧ (xx_lengthOf μ l6 l3) ≤ 10 := xr_lengthOf hB l6 l3 (by omega) (by omega)
          refine Az.blk kd_4_lettersKindCould_60 (show Ez md_4_lettersKindCould 0 0 62 [(7, zi 0), (0, zr 4), (1, zi l1), (2, zi l2), (3, zi l3), (4, zi l4), (5, zi l5), (6, zi l6)] [zi l4, zi (xx_lengthOf μ l6 l3), zi l5] zSh μ _ _ _ from ?_)
          refine Az.cSN (mc := md_5_better) (n := 3) (As := [zi l5, zi (xx_lengthOf μ l6 l3), zi l4]) (rest := []) kr_4_lettersKindCould_62 zw_581 ok_5_better rfl rfl (xz_better l5 (xx_lengthOf μ l6 l3) l4 (by omega) (by omega) (by omega)) rfl rfl (show Ez md_4_lettersKindCould 0 0 65 [(7, zi 0), (0, zr 4), (1, zi l1), (2, zi l2), (3, zi l3), (4, zi l4), (5, zi l5), (6, zi l6)] [zi (xx_better l5 (xx_lengthOf μ l6 l3) l4)] zSh μ _ _ _ from ?_)
          have r9 : ((xx_better l5 (xx_lengthOf μ l6 l3) l4) = l5 ∨ (xx_better l5 (xx_lengthOf μ l6 l3) l4) = (xx_lengthOf μ l6 l3)) := xr_better l5 (xx_lengthOf μ l6 l3) l4 (by omega) (by omega) (by omega)
          refine Az.blk kd_4_lettersKindCould_65 (show Ez md_4_lettersKindCould 0 0 6 [(6, zi (l6 + 1)), (5, zi (xx_better l5 (xx_lengthOf μ l6 l3) l4)), (7, zi 0), (0, zr 4), (1, zi l1), (2, zi l2), (3, zi l3), (4, zi l4)] [] zSh μ _ _ _ from ?_)
          have b10 : 0 ≤ (μ 4 0) ∧ (μ 4 0) ≤ 24 := hB 4 0
          refine Az.lvs (lv' := [(0, zr 4), (1, zi l1), (2, zi l2), (3, zi l3), (4, zi l4), (5, zi (xx_better l5 (xx_lengthOf μ l6 l3) l4)), (6, zi (l6 + 1))]) ?_ ?_
          · intro q hq; simp only [List.mem_cons, List.not_mem_nil, or_false] at hq; rcases hq with rfl | rfl | rfl | rfl | rfl | rfl | rfl <;> rfl
          exact ih μ hB l1 l2 l3 l4 (xx_better l5 (xx_lengthOf μ l6 l3) l4) (l6 + 1) (by omega) (by omega) (by omega) (by omega) (by omega) (by omega) (by omega)
      · rw [if_pos c5]
        refine Az.blk kd_4_lettersKindCould_25 (show zR l1 ∧ ((¬ l1 = 0 → Ez md_4_lettersKindCould 0 0 39 [(0, zr 4), (1, zi l1), (2, zi l2), (3, zi l3), (4, zi l4), (5, zi l5), (6, zi l6)] [] zSh μ _ _ _) ∧ (l1 = 0 → Ez md_4_lettersKindCould 0 0 29 [(0, zr 4), (1, zi l1), (2, zi l2), (3, zi l3), (4, zi l4), (5, zi l5), (6, zi l6)] [] zSh μ _ _ _)) from ⟨(by omega), fun c11 => ?_, fun c11 => ?_⟩)
        · rw [if_neg c11]
          refine Az.blk kd_4_lettersKindCould_39 (show Ez md_4_lettersKindCould 0 0 44 [(0, zr 4), (1, zi l1), (2, zi l2), (3, zi l3), (4, zi l4), (5, zi l5), (6, zi l6)] [zi 1] zSh μ _ _ _ from ?_)
          refine Az.blk kd_4_lettersKindCould_44 (show zR 1 ∧ (((1 : Int) = 0 → Ez md_4_lettersKindCould 0 0 67 [(7, zi 1), (0, zr 4), (1, zi l1), (2, zi l2), (3, zi l3), (4, zi l4), (5, zi l5), (6, zi l6)] [] zSh μ _ _ _) ∧ (¬ (1 : Int) = 0 → Ez md_4_lettersKindCould 0 0 51 [(7, zi 1), (0, zr 4), (1, zi l1), (2, zi l2), (3, zi l3), (4, zi l4), (5, zi l5), (6, zi l6)] [] zSh μ _ _ _)) from ⟨(by omega), fun c12 => ?_, fun c12 => ?_⟩)
          · rw [if_pos c12]
            refine Az.blk kd_4_lettersKindCould_67 (show Ez md_4_lettersKindCould 0 0 6 [(6, zi (l6 + 1)), (7, zi 1), (0, zr 4), (1, zi l1), (2, zi l2), (3, zi l3), (4, zi l4), (5, zi l5)] [] zSh μ _ _ _ from ?_)
            have b13 : 0 ≤ (μ 4 0) ∧ (μ 4 0) ≤ 24 := hB 4 0
            refine Az.lvs (lv' := [(0, zr 4), (1, zi l1), (2, zi l2), (3, zi l3), (4, zi l4), (5, zi l5), (6, zi (l6 + 1))]) ?_ ?_
            · intro q hq; simp only [List.mem_cons, List.not_mem_nil, or_false] at hq; rcases hq with rfl | rfl | rfl | rfl | rfl | rfl | rfl <;> rfl
            exact ih μ hB l1 l2 l3 l4 l5 (l6 + 1) (by omega) (by omega) (by omega) (by omega) (by omega) (by omega) (by omega)
          · rw [if_neg c12]
            refine Az.blk kd_4_lettersKindCould_51 (show Ez md_4_lettersKindCould 0 0 57 [(7, zi 1), (0, zr 4), (1, zi l1), (2, zi l2), (3, zi l3), (4, zi l4), (5, zi l5), (6, zi l6)] [zi l3, zi l6, zr 4, zi l5] zSh μ _ _ _ from ?_)
            refine Az.cV (mc := md_4_lengthOf) (k := 4) (n := 2) (As := [zi l6, zi l3]) (rest := [zi l5]) kr_4_lettersKindCould_57 zw_580 ok_4_lengthOf rfl rfl rfl trivial (xz_lengthOf hB l6 l3 (by omega) (by omega)) rfl rfl (show Ez md_4_lettersKindCould 0 0 60 [(7, zi 1), (0, zr 4), (1, zi l1), (2, zi l2), (3, zi l3), (4, zi l4), (5, zi l5), (6, zi l6)] [zi (xx_lengthOf μ l6 l3), zi l5] zSh μ _ _ _ from ?_)
            have r14 : 0 ≤ (xx_lengthOf μ l6 l3) ∧ (xx_lengthOf μ l6 l3) ≤ 10 := xr_lengthOf hB l6 l3 (by omega) (by omega)
            refine Az.blk kd_4_lettersKindCould_60 (show Ez md_4_lettersKindCould 0 0 62 [(7, zi 1), (0, zr 4), (1, zi l1), (2, zi l2), (3, zi l3), (4, zi l4), (5, zi l5), (6, zi l6)] [zi l4, zi (xx_lengthOf μ l6 l3), zi l5] zSh μ _ _ _ from ?_)
            refine Az.cSN (mc := md_5_better) (n := 3) (As := [zi l5, zi (xx_lengthOf μ l6 l3), zi l4]) (rest := []) kr_4_lettersKindCould_62 zw_581 ok_5_better rfl rfl (xz_better l5 (xx_lengthOf μ l6 l3) l4 (by omega) (by omega) (by omega)) rfl rfl (show Ez md_4_lettersKindCould 0 0 65 [(7, zi 1), (0, zr 4), (1, zi l1), (2, zi l2), (3, zi l3), (4, zi l4), (5, zi l5), (6, zi l6)] [zi (xx_better l5 (xx_lengthOf μ l6 l3) l4)] zSh μ _ _ _ from ?_)
            have r15 : ((xx_better l5 (xx_lengthOf μ l6 l3) l4) = l5 ∨ (xx_better l5 (xx_lengthOf μ l6 l3) l4) = (xx_lengthOf μ l6 l3)) := xr_better l5 (xx_lengthOf μ l6 l3) l4 (by omega) (by omega) (by omega)
            refine Az.blk kd_4_lettersKindCould_65 (show Ez md_4_lettersKindCould 0 0 6 [(6, zi (l6 + 1)), (5, zi (xx_better l5 (xx_lengthOf μ l6 l3) l4)), (7, zi 1), (0, zr 4), (1, zi l1), (2, zi l2), (3, zi l3), (4, zi l4)] [] zSh μ _ _ _ from ?_)
            have b16 : 0 ≤ (μ 4 0) ∧ (μ 4 0) ≤ 24 := hB 4 0
            refine Az.lvs (lv' := [(0, zr 4), (1, zi l1), (2, zi l2), (3, zi l3), (4, zi l4), (5, zi (xx_better l5 (xx_lengthOf μ l6 l3) l4)), (6, zi (l6 + 1))]) ?_ ?_
            · intro q hq; simp only [List.mem_cons, List.not_mem_nil, or_false] at hq; rcases hq with rfl | rfl | rfl | rfl | rfl | rfl | rfl <;> rfl
            exact ih μ hB l1 l2 l3 l4 (xx_better l5 (xx_lengthOf μ l6 l3) l4) (l6 + 1) (by omega) (by omega) (by omega) (by omega) (by omega) (by omega) (by omega)
        · rw [if_pos c11]
          refine Az.blk kd_4_lettersKindCould_29 (show Ez md_4_lettersKindCould 0 0 32 [(0, zr 4), (1, zi l1), (2, zi l2), (3, zi l3), (4, zi l4), (5, zi l5), (6, zi l6)] [zi l6, zr 4] zSh μ _ _ _ from ?_)
          refine Az.cV (mc := md_4_genderOf) (k := 4) (n := 1) (As := [zi l6]) (rest := []) kr_4_lettersKindCould_32 zw_579 ok_4_genderOf rfl rfl rfl trivial (xz_genderOf hB l6 (by omega)) rfl rfl (show Ez md_4_lettersKindCould 0 0 35 [(0, zr 4), (1, zi l1), (2, zi l2), (3, zi l3), (4, zi l4), (5, zi l5), (6, zi l6)] [zi (xx_genderOf μ l6)] zSh μ _ _ _ from ?_)
          have r17 : 0 ≤ (xx_genderOf μ l6) ∧ (xx_genderOf μ l6) ≤ 2 := xr_genderOf hB l6 (by omega)
          refine Az.blk kd_4_lettersKindCould_35 (show zR (xx_genderOf μ l6) ∧ zR l2 ∧ ((¬ (xx_genderOf μ l6) = l2 → Ez md_4_lettersKindCould 0 0 43 [(0, zr 4), (1, zi l1), (2, zi l2), (3, zi l3), (4, zi l4), (5, zi l5), (6, zi l6)] [] zSh μ _ _ _) ∧ ((xx_genderOf μ l6) = l2 → Ez md_4_lettersKindCould 0 0 39 [(0, zr 4), (1, zi l1), (2, zi l2), (3, zi l3), (4, zi l4), (5, zi l5), (6, zi l6)] [] zSh μ _ _ _)) from ⟨(by omega), (by omega), fun c18 => ?_, fun c18 => ?_⟩)
          · rw [if_neg c18]
            refine Az.blk kd_4_lettersKindCould_43 (show zR 0 ∧ (((0 : Int) = 0 → Ez md_4_lettersKindCould 0 0 67 [(7, zi 0), (0, zr 4), (1, zi l1), (2, zi l2), (3, zi l3), (4, zi l4), (5, zi l5), (6, zi l6)] [] zSh μ _ _ _) ∧ (¬ (0 : Int) = 0 → Ez md_4_lettersKindCould 0 0 51 [(7, zi 0), (0, zr 4), (1, zi l1), (2, zi l2), (3, zi l3), (4, zi l4), (5, zi l5), (6, zi l6)] [] zSh μ _ _ _)) from ⟨(by omega), fun c19 => ?_, fun c19 => ?_⟩)
            · rw [if_pos c19]
              refine Az.blk kd_4_lettersKindCould_67 (show Ez md_4_lettersKindCould 0 0 6 [(6, zi (l6 + 1)), (7, zi 0), (0, zr 4), (1, zi l1), (2, zi l2), (3, zi l3), (4, zi l4), (5, zi l5)] [] zSh μ _ _ _ from ?_)
              have b20 : 0 ≤ (μ 4 0) ∧ (μ 4 0) ≤ 24 := hB 4 0
              refine Az.lvs (lv' := [(0, zr 4), (1, zi l1), (2, zi l2), (3, zi l3), (4, zi l4), (5, zi l5), (6, zi (l6 + 1))]) ?_ ?_
              · intro q hq; simp only [List.mem_cons, List.not_mem_nil, or_false] at hq; rcases hq with rfl | rfl | rfl | rfl | rfl | rfl | rfl <;> rfl
              exact ih μ hB l1 l2 l3 l4 l5 (l6 + 1) (by omega) (by omega) (by omega) (by omega) (by omega) (by omega) (by omega)
            · rw [if_neg c19]
              refine Az.blk kd_4_lettersKindCould_51 (show Ez md_4_lettersKindCould 0 0 57 [(7, zi 0), (0, zr 4), (1, zi l1), (2, zi l2), (3, zi l3), (4, zi l4), (5, zi l5), (6, zi l6)] [zi l3, zi l6, zr 4, zi l5] zSh μ _ _ _ from ?_)
              refine Az.cV (mc := md_4_lengthOf) (k := 4) (n := 2) (As := [zi l6, zi l3]) (rest := [zi l5]) kr_4_lettersKindCould_57 zw_580 ok_4_lengthOf rfl rfl rfl trivial (xz_lengthOf hB l6 l3 (by omega) (by omega)) rfl rfl (show Ez md_4_lettersKindCould 0 0 60 [(7, zi 0), (0, zr 4), (1, zi l1), (2, zi l2), (3, zi l3), (4, zi l4), (5, zi l5), (6, zi l6)] [zi (xx_lengthOf μ l6 l3), zi l5] zSh μ _ _ _ from ?_)
              have r21 : 0 ≤ (xx_lengthOf μ l6 l3) ∧ (xx_lengthOf μ l6 l3) ≤ 10 := xr_lengthOf hB l6 l3 (by omega) (by omega)
              refine Az.blk kd_4_lettersKindCould_60 (show Ez md_4_lettersKindCould 0 0 62 [(7, zi 0), (0, zr 4), (1, zi l1), (2, zi l2), (3, zi l3), (4, zi l4), (5, zi l5), (6, zi l6)] [zi l4, zi (xx_lengthOf μ l6 l3), zi l5] zSh μ _ _ _ from ?_)
              refine Az.cSN (mc := md_5_better) (n := 3) (As := [zi l5, zi (xx_lengthOf μ l6 l3), zi l4]) (rest := []) kr_4_lettersKindCould_62 zw_581 ok_5_better rfl rfl (xz_better l5 (xx_lengthOf μ l6 l3) l4 (by omega) (by omega) (by omega)) rfl rfl (show Ez md_4_lettersKindCould 0 0 65 [(7, zi 0), (0, zr 4), (1, zi l1), (2, zi l2), (3, zi l3), (4, zi l4), (5, zi l5), (6, zi l6)] [zi (xx_better l5 (xx_lengthOf μ l6 l3) l4)] zSh μ _ _ _ from ?_)
              have r22 : ((xx_better l5 (xx_lengthOf μ l6 l3) l4) = l5 ∨ (xx_better l5 (xx_lengthOf μ l6 l3) l4) = (xx_lengthOf μ l6 l3)) := xr_better l5 (xx_lengthOf μ l6 l3) l4 (by omega) (by omega) (by omega)
              refine Az.blk kd_4_lettersKindCould_65 (show Ez md_4_lettersKindCould 0 0 6 [(6, zi (l6 + 1)), (5, zi (xx_better l5 (xx_lengthOf μ l6 l3) l4)), (7, zi 0), (0, zr 4), (1, zi l1), (2, zi l2), (3, zi l3), (4, zi l4)] [] zSh μ _ _ _ from ?_)
              have b23 : 0 ≤ (μ 4 0) ∧ (μ 4 0) ≤ 24 := hB 4 0
              refine Az.lvs (lv' := [(0, zr 4), (1, zi l1), (2, zi l2), (3, zi l3), (4, zi l4), (5, zi (xx_better l5 (xx_lengthOf μ l6 l3) l4)), (6, zi (l6 + 1))]) ?_ ?_
              · intro q hq; simp only [List.mem_cons, List.not_mem_nil, or_false] at hq; rcases hq with rfl | rfl | rfl | rfl | rfl | rfl | rfl <;> rfl
              exact ih μ hB l1 l2 l3 l4 (xx_better l5 (xx_lengthOf μ l6 l3) l4) (l6 + 1) (by omega) (by omega) (by omega) (by omega) (by omega) (by omega) (by omega)
          · rw [if_pos c18]
            refine Az.blk kd_4_lettersKindCould_39 (show Ez md_4_lettersKindCould 0 0 44 [(0, zr 4), (1, zi l1), (2, zi l2), (3, zi l3), (4, zi l4), (5, zi l5), (6, zi l6)] [zi 1] zSh μ _ _ _ from ?_)
            refine Az.blk kd_4_lettersKindCould_44 (show zR 1 ∧ (((1 : Int) = 0 → Ez md_4_lettersKindCould 0 0 67 [(7, zi 1), (0, zr 4), (1, zi l1), (2, zi l2), (3, zi l3), (4, zi l4), (5, zi l5), (6, zi l6)] [] zSh μ _ _ _) ∧ (¬ (1 : Int) = 0 → Ez md_4_lettersKindCould 0 0 51 [(7, zi 1), (0, zr 4), (1, zi l1), (2, zi l2), (3, zi l3), (4, zi l4), (5, zi l5), (6, zi l6)] [] zSh μ _ _ _)) from ⟨(by omega), fun c24 => ?_, fun c24 => ?_⟩)
            · rw [if_pos c24]
              refine Az.blk kd_4_lettersKindCould_67 (show Ez md_4_lettersKindCould 0 0 6 [(6, zi (l6 + 1)), (7, zi 1), (0, zr 4), (1, zi l1), (2, zi l2), (3, zi l3), (4, zi l4), (5, zi l5)] [] zSh μ _ _ _ from ?_)
              have b25 : 0 ≤ (μ 4 0) ∧ (μ 4 0) ≤ 24 := hB 4 0
              refine Az.lvs (lv' := [(0, zr 4), (1, zi l1), (2, zi l2), (3, zi l3), (4, zi l4), (5, zi l5), (6, zi (l6 + 1))]) ?_ ?_
              · intro q hq; simp only [List.mem_cons, List.not_mem_nil, or_false] at hq; rcases hq with rfl | rfl | rfl | rfl | rfl | rfl | rfl <;> rfl
              exact ih μ hB l1 l2 l3 l4 l5 (l6 + 1) (by omega) (by omega) (by omega) (by omega) (by omega) (by omega) (by omega)
            · rw [if_neg c24]
              refine Az.blk kd_4_lettersKindCould_51 (show Ez md_4_lettersKindCould 0 0 57 [(7, zi 1), (0, zr 4), (1, zi l1), (2, zi l2), (3, zi l3), (4, zi l4), (5, zi l5), (6, zi l6)] [zi l3, zi l6, zr 4, zi l5] zSh μ _ _ _ from ?_)
              refine Az.cV (mc := md_4_lengthOf) (k := 4) (n := 2) (As := [zi l6, zi l3]) (rest := [zi l5]) kr_4_lettersKindCould_57 zw_580 ok_4_lengthOf rfl rfl rfl trivial (xz_lengthOf hB l6 l3 (by omega) (by omega)) rfl rfl (show Ez md_4_lettersKindCould 0 0 60 [(7, zi 1), (0, zr 4), (1, zi l1), (2, zi l2), (3, zi l3), (4, zi l4), (5, zi l5), (6, zi l6)] [zi (xx_lengthOf μ l6 l3), zi l5] zSh μ _ _ _ from ?_)
              have r26 : 0 ≤ (xx_lengthOf μ l6 l3) ∧ (xx_lengthOf μ l6 l3) ≤ 10 := xr_lengthOf hB l6 l3 (by omega) (by omega)
              refine Az.blk kd_4_lettersKindCould_60 (show Ez md_4_lettersKindCould 0 0 62 [(7, zi 1), (0, zr 4), (1, zi l1), (2, zi l2), (3, zi l3), (4, zi l4), (5, zi l5), (6, zi l6)] [zi l4, zi (xx_lengthOf μ l6 l3), zi l5] zSh μ _ _ _ from ?_)
              refine Az.cSN (mc := md_5_better) (n := 3) (As := [zi l5, zi (xx_lengthOf μ l6 l3), zi l4]) (rest := []) kr_4_lettersKindCould_62 zw_581 ok_5_better rfl rfl (xz_better l5 (xx_lengthOf μ l6 l3) l4 (by omega) (by omega) (by omega)) rfl rfl (show Ez md_4_lettersKindCould 0 0 65 [(7, zi 1), (0, zr 4), (1, zi l1), (2, zi l2), (3, zi l3), (4, zi l4), (5, zi l5), (6, zi l6)] [zi (xx_better l5 (xx_lengthOf μ l6 l3) l4)] zSh μ _ _ _ from ?_)
              have r27 : ((xx_better l5 (xx_lengthOf μ l6 l3) l4) = l5 ∨ (xx_better l5 (xx_lengthOf μ l6 l3) l4) = (xx_lengthOf μ l6 l3)) := xr_better l5 (xx_lengthOf μ l6 l3) l4 (by omega) (by omega) (by omega)
              refine Az.blk kd_4_lettersKindCould_65 (show Ez md_4_lettersKindCould 0 0 6 [(6, zi (l6 + 1)), (5, zi (xx_better l5 (xx_lengthOf μ l6 l3) l4)), (7, zi 1), (0, zr 4), (1, zi l1), (2, zi l2), (3, zi l3), (4, zi l4)] [] zSh μ _ _ _ from ?_)
              have b28 : 0 ≤ (μ 4 0) ∧ (μ 4 0) ≤ 24 := hB 4 0
              refine Az.lvs (lv' := [(0, zr 4), (1, zi l1), (2, zi l2), (3, zi l3), (4, zi l4), (5, zi (xx_better l5 (xx_lengthOf μ l6 l3) l4)), (6, zi (l6 + 1))]) ?_ ?_
              · intro q hq; simp only [List.mem_cons, List.not_mem_nil, or_false] at hq; rcases hq with rfl | rfl | rfl | rfl | rfl | rfl | rfl <;> rfl
              exact ih μ hB l1 l2 l3 l4 (xx_better l5 (xx_lengthOf μ l6 l3) l4) (l6 + 1) (by omega) (by omega) (by omega) (by omega) (by omega) (by omega) (by omega)
set_option maxHeartbeats 4000000 in
set_option maxRecDepth 100000 in
theorem xz_lettersKindCould {μ : zM} (hB : zB μ) (a1 a2 a3 a4 : Int) (h0 : -2147483648 ≤ a1 ∧ a1 ≤ 2147483647) (h1 : -2147483648 ≤ a2 ∧ a2 ≤ 2147483647) (h2 : -2147483648 ≤ a3 ∧ a3 ≤ 2147483647) (h3 : -2147483648 ≤ a4 ∧ a4 ≤ 2147483647) : Dz md_4_lettersKindCould [zr 4, zi a1, zi a2, zi a3, zi a4] zSh μ (some (zi (xx_lettersKindCould μ a1 a2 a3 a4))) zSh μ := by
  refine Dz.of (by decide) rfl rfl (show Ez md_4_lettersKindCould 0 0 0 [(0, zr 4), (1, zi a1), (2, zi a2), (3, zi a3), (4, zi a4)] [] zSh μ (some (zi (xx_lettersKindCould μ a1 a2 a3 a4))) zSh μ from ?_)
  unfold xx_lettersKindCould
  refine Az.blk kd_4_lettersKindCould_0 (show Ez md_4_lettersKindCould 0 0 6 [(6, zi 0), (5, zi (-1)), (0, zr 4), (1, zi a1), (2, zi a2), (3, zi a3), (4, zi a4)] [] zSh μ _ _ _ from ?_)
  have b1 : 0 ≤ (μ 4 0) ∧ (μ 4 0) ≤ 24 := hB 4 0
  refine Az.lvs (lv' := [(0, zr 4), (1, zi a1), (2, zi a2), (3, zi a3), (4, zi a4), (5, zi (-1)), (6, zi 0)]) ?_ ?_
  · intro q hq; simp only [List.mem_cons, List.not_mem_nil, or_false] at hq; rcases hq with rfl | rfl | rfl | rfl | rfl | rfl | rfl <;> rfl
  have fb : (3000 : Int) ≤ ((zN : Nat) : Int) := zN_big
  exact xz_lettersKindCould_6 zN μ hB a1 a2 a3 a4 (-1) 0 (by omega) (by omega) (by omega) (by omega) (by omega) (by omega) (by omega)
