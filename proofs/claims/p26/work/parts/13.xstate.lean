def kb_1_disagrees_0 : List zI := [(.aload_n 0, 1, 0, 0), (.getfield 21, 3, 1, 1), (.aload_n 0, 1, 0, 0), (.getfield 21, 3, 1, 1), (.iload_n 1, 1, 0, 0)]
theorem kd_1_disagrees_0 : zdec md_1_disagrees 0 kb_1_disagrees_0 = true := by decide +kernel
theorem kr_1_disagrees_9 : decode md_1_disagrees.2.1 9 = .ok (.invokevirtual 63, 3) := by decide +kernel
def kb_1_disagrees_12 : List zI := [(.iload_n 1, 1, 0, 0)]
theorem kd_1_disagrees_12 : zdec md_1_disagrees 12 kb_1_disagrees_12 = true := by decide +kernel
theorem kr_1_disagrees_13 : decode md_1_disagrees.2.1 13 = .ok (.invokevirtual 51, 3) := by decide +kernel
def kb_1_disagrees_16 : List zI := [(.istore_n 3, 1, 0, 0), (.iload_n 3, 1, 0, 0), (.iconst (-1), 1, 0, 0), (.if_icmp .eq 26, 3, 45, 0)]
theorem kd_1_disagrees_16 : zdec md_1_disagrees 16 kb_1_disagrees_16 = true := by decide +kernel
def kb_1_disagrees_45 : List zI := [(.iconst 0, 1, 0, 0)]
theorem kd_1_disagrees_45 : zdec md_1_disagrees 45 kb_1_disagrees_45 = true := by decide +kernel
theorem kr_1_disagrees_46 : decode md_1_disagrees.2.1 46 = .ok (.ireturn, 1) := by decide +kernel
def kb_1_disagrees_22 : List zI := [(.aload_n 0, 1, 0, 0), (.getfield 12, 3, 1, 0), (.iload_n 3, 1, 0, 0)]
theorem kd_1_disagrees_22 : zdec md_1_disagrees 22 kb_1_disagrees_22 = true := by decide +kernel
theorem kr_1_disagrees_27 : decode md_1_disagrees.2.1 27 = .ok (.invokevirtual 55, 3) := by decide +kernel
def kb_1_disagrees_30 : List zI := [(.aload_n 0, 1, 0, 0), (.getfield 12, 3, 1, 0), (.iload_n 2, 1, 0, 0)]
theorem kd_1_disagrees_30 : zdec md_1_disagrees 30 kb_1_disagrees_30 = true := by decide +kernel
theorem kr_1_disagrees_35 : decode md_1_disagrees.2.1 35 = .ok (.invokevirtual 55, 3) := by decide +kernel
def kb_1_disagrees_38 : List zI := [(.if_icmp .eq 7, 3, 45, 0)]
theorem kd_1_disagrees_38 : zdec md_1_disagrees 38 kb_1_disagrees_38 = true := by decide +kernel
def kb_1_disagrees_41 : List zI := [(.iconst 1, 1, 0, 0), (.goto 4, 3, 46, 0)]
theorem kd_1_disagrees_41 : zdec md_1_disagrees 41 kb_1_disagrees_41 = true := by decide +kernel
noncomputable def xx_disagrees (μ : zM) (a1 a2 : Int) : Int := (if (xx_nounIn μ (xx_tieOf μ a1) a1) = (-1) then 0 else (if (xx_genderOf μ (xx_nounIn μ (xx_tieOf μ a1) a1)) = (xx_genderOf μ a2) then 0 else 1))
set_option maxHeartbeats 4000000 in
set_option maxRecDepth 100000 in
theorem xr_disagrees {μ : zM} (hB : zB μ) (a1 a2 : Int) (h0 : -2147483648 ≤ a1 ∧ a1 ≤ 2147483647) (h1 : -2147483648 ≤ a2 ∧ a2 ≤ 2147483647) : 0 ≤ (xx_disagrees μ a1 a2) ∧ (xx_disagrees μ a1 a2) ≤ 1 := by
  unfold xx_disagrees
  have r1 : -1 ≤ (xx_tieOf μ a1) ∧ (xx_tieOf μ a1) ≤ 9 := xr_tieOf hB a1 (by omega)
  have r2 : -1 ≤ (xx_nounIn μ (xx_tieOf μ a1) a1) ∧ (xx_nounIn μ (xx_tieOf μ a1) a1) ≤ 23 := xr_nounIn hB (xx_tieOf μ a1) a1 (by omega) (by omega)
  by_cases c3 : (xx_nounIn μ (xx_tieOf μ a1) a1) = (-1)
  · rw [if_pos c3]
    first | omega | (dsimp only; omega)
  · rw [if_neg c3]
    have r4 : 0 ≤ (xx_genderOf μ (xx_nounIn μ (xx_tieOf μ a1) a1)) ∧ (xx_genderOf μ (xx_nounIn μ (xx_tieOf μ a1) a1)) ≤ 2 := xr_genderOf hB (xx_nounIn μ (xx_tieOf μ a1) a1) (by omega)
    have r5 : 0 ≤ (xx_genderOf μ a2) ∧ (xx_genderOf μ a2) ≤ 2 := xr_genderOf hB a2 (by omega)
    by_cases c6 : (xx_genderOf μ (xx_nounIn μ (xx_tieOf μ a1) a1)) = (xx_genderOf μ a2)
    · rw [if_pos c6]
      first | omega | (dsimp only; omega)
    · rw [if_neg c6]
      first | omega | (dsimp only; omega)
set_option maxHeartbeats 4000000 in
set_option maxRecDepth 100000 in
theorem xz_disagrees {μ : zM} (hB : zB μ) (a1 a2 : Int) (h0 : -2147483648 ≤ a1 ∧ a1 ≤ 2147483647) (h1 : -2147483648 ≤ a2 ∧ a2 ≤ 2147483647) : Dz md_1_disagrees [zr 3, zi a1, zi a2] zSh μ (some (zi (xx_disagrees μ a1 a2))) zSh μ := by
  refine Dz.of (by decide) rfl rfl (show Ez md_1_disagrees 0 0 0 [(0, zr 3), (1, zi a1), (2, zi a2)] [] zSh μ (some (zi (xx_disagrees μ a1 a2))) zSh μ from ?_)
  unfold xx_disagrees
  refine Az.blk kd_1_disagrees_0 (show Ez md_1_disagrees 0 0 9 [(0, zr 3), (1, zi a1), (2, zi a2)] [zi a1, zr 10, zr 10] zSh μ _ _ _ from ?_)
  refine Az.cVN (mc := md_2_tieOf) (k := 10) (n := 1) (As := [zi a1]) (rest := [zr 10]) kr_1_disagrees_9 zw_344 ok_2_tieOf rfl rfl rfl trivial (xz_tieOf hB a1 (by omega)) rfl rfl (show Ez md_1_disagrees 0 0 12 [(0, zr 3), (1, zi a1), (2, zi a2)] [zi (xx_tieOf μ a1), zr 10] zSh μ _ _ _ from ?_)
  have r1 : -1 ≤ (xx_tieOf μ a1) ∧ (xx_tieOf μ a1) ≤ 9 := xr_tieOf hB a1 (by omega)
  refine Az.blk kd_1_disagrees_12 (show Ez md_1_disagrees 0 0 13 [(0, zr 3), (1, zi a1), (2, zi a2)] [zi a1, zi (xx_tieOf μ a1), zr 10] zSh μ _ _ _ from ?_)
  refine Az.cVN (mc := md_2_nounIn) (k := 10) (n := 2) (As := [zi (xx_tieOf μ a1), zi a1]) (rest := []) kr_1_disagrees_13 zw_356 ok_2_nounIn rfl rfl rfl trivial (xz_nounIn hB (xx_tieOf μ a1) a1 (by omega) (by omega)) rfl rfl (show Ez md_1_disagrees 0 0 16 [(0, zr 3), (1, zi a1), (2, zi a2)] [zi (xx_nounIn μ (xx_tieOf μ a1) a1)] zSh μ _ _ _ from ?_)
  have r2 : -1 ≤ (xx_nounIn μ (xx_tieOf μ a1) a1) ∧ (xx_nounIn μ (xx_tieOf μ a1) a1) ≤ 23 := xr_nounIn hB (xx_tieOf μ a1) a1 (by omega) (by omega)
  refine Az.blk kd_1_disagrees_16 (show zR (xx_nounIn μ (xx_tieOf μ a1) a1) ∧ zR (-1) ∧ (((xx_nounIn μ (xx_tieOf μ a1) a1) = (-1) → Ez md_1_disagrees 0 0 45 [(3, zi (xx_nounIn μ (xx_tieOf μ a1) a1)), (0, zr 3), (1, zi a1), (2, zi a2)] [] zSh μ _ _ _) ∧ (¬ (xx_nounIn μ (xx_tieOf μ a1) a1) = (-1) → Ez md_1_disagrees 0 0 22 [(3, zi (xx_nounIn μ (xx_tieOf μ a1) a1)), (0, zr 3), (1, zi a1), (2, zi a2)] [] zSh μ _ _ _)) from ⟨(by omega), (by omega), fun c3 => ?_, fun c3 => ?_⟩)
  · rw [if_pos c3]
    refine Az.blk kd_1_disagrees_45 (show Ez md_1_disagrees 0 0 46 [(3, zi (xx_nounIn μ (xx_tieOf μ a1) a1)), (0, zr 3), (1, zi a1), (2, zi a2)] [zi 0] zSh μ _ _ _ from ?_)
    exact Ez.zret kr_1_disagrees_46 rfl (Nat.zero_le _) (Nat.zero_le _) (Or.inl rfl) rfl rfl
  · rw [if_neg c3]
    refine Az.blk kd_1_disagrees_22 (show Ez md_1_disagrees 0 0 27 [(3, zi (xx_nounIn μ (xx_tieOf μ a1) a1)), (0, zr 3), (1, zi a1), (2, zi a2)] [zi (xx_nounIn μ (xx_tieOf μ a1) a1), zr 4] zSh μ _ _ _ from ?_)
    refine Az.cVN (mc := md_4_genderOf) (k := 4) (n := 1) (As := [zi (xx_nounIn μ (xx_tieOf μ a1) a1)]) (rest := []) kr_1_disagrees_27 zw_360 ok_4_genderOf rfl rfl rfl trivial (xz_genderOf hB (xx_nounIn μ (xx_tieOf μ a1) a1) (by omega)) rfl rfl (show Ez md_1_disagrees 0 0 30 [(3, zi (xx_nounIn μ (xx_tieOf μ a1) a1)), (0, zr 3), (1, zi a1), (2, zi a2)] [zi (xx_genderOf μ (xx_nounIn μ (xx_tieOf μ a1) a1))] zSh μ _ _ _ from ?_)
    have r4 : 0 ≤ (xx_genderOf μ (xx_nounIn μ (xx_tieOf μ a1) a1)) ∧ (xx_genderOf μ (xx_nounIn μ (xx_tieOf μ a1) a1)) ≤ 2 := xr_genderOf hB (xx_nounIn μ (xx_tieOf μ a1) a1) (by omega)
    refine Az.blk kd_1_disagrees_30 (show Ez md_1_disagrees 0 0 35 [(3, zi (xx_nounIn μ (xx_tieOf μ a1) a1)), (0, zr 3), (1, zi a1), (2, zi a2)] [zi a2, zr 4, zi (xx_genderOf μ (xx_nounIn μ (xx_tieOf μ a1) a1))] zSh μ _ _ _ from ?_)
    refine Az.cVN (mc := md_4_genderOf) (k := 4) (n := 1) (As := [zi a2]) (rest := [zi (xx_genderOf μ (xx_nounIn μ (xx_tieOf μ a1) a1))]) kr_1_disagrees_35 zw_360 ok_4_genderOf rfl rfl rfl trivial (xz_genderOf hB a2 (by omega)) rfl rfl (show Ez md_1_disagrees 0 0 38 [(3, zi (xx_nounIn μ (xx_tieOf μ a1) a1)), (0, zr 3), (1, zi a1), (2, zi a2)] [zi (xx_genderOf μ a2), zi (xx_genderOf μ (xx_nounIn μ (xx_tieOf μ a1) a1))] zSh μ _ _ _ from ?_)
    have r5 : 0 ≤ (xx_genderOf μ a2) ∧ (xx_genderOf μ a2) ≤ 2 := xr_genderOf hB a2 (by omega)
    refine Az.blk kd_1_disagrees_38 (show zR (xx_genderOf μ (xx_nounIn μ (xx_tieOf μ a1) a1)) ∧ zR (xx_genderOf μ a2) ∧ (((xx_genderOf μ (xx_nounIn μ (xx_tieOf μ a1) a1)) = (xx_genderOf μ a2) → Ez md_1_disagrees 0 0 45 [(3, zi (xx_nounIn μ (xx_tieOf μ a1) a1)), (0, zr 3), (1, zi a1), (2, zi a2)] [] zSh μ _ _ _) ∧ (¬ (xx_genderOf μ (xx_nounIn μ (xx_tieOf μ a1) a1)) = (xx_genderOf μ a2) → Ez md_1_disagrees 0 0 41 [(3, zi (xx_nounIn μ (xx_tieOf μ a1) a1)), (0, zr 3), (1, zi a1), (2, zi a2)] [] zSh μ _ _ _)) from ⟨(by omega), (by omega), fun c6 => ?_, fun c6 => ?_⟩)
    · rw [if_pos c6]
      refine Az.blk kd_1_disagrees_45 (show Ez md_1_disagrees 0 0 46 [(3, zi (xx_nounIn μ (xx_tieOf μ a1) a1)), (0, zr 3), (1, zi a1), (2, zi a2)] [zi 0] zSh μ _ _ _ from ?_)
      exact Ez.zret kr_1_disagrees_46 rfl (Nat.zero_le _) (Nat.zero_le _) (Or.inl rfl) rfl rfl
    · rw [if_neg c6]
      refine Az.blk kd_1_disagrees_41 (show Ez md_1_disagrees 0 0 46 [(3, zi (xx_nounIn μ (xx_tieOf μ a1) a1)), (0, zr 3), (1, zi a1), (2, zi a2)] [zi 1] zSh μ _ _ _ from ?_)
      exact Ez.zret kr_1_disagrees_46 rfl (Nat.zero_le _) (Nat.zero_le _) (Or.inr rfl) rfl rfl
def kb_1_reasonAgainst_0 : List zI := [(.aload_n 0, 1, 0, 0), (.getfield 12, 3, 1, 0), (.iload_n 2, 1, 0, 0)]
theorem kd_1_reasonAgainst_0 : zdec md_1_reasonAgainst 0 kb_1_reasonAgainst_0 = true := by decide +kernel
theorem kr_1_reasonAgainst_5 : decode md_1_reasonAgainst.2.1 5 = .ok (.invokevirtual 95, 3) := by decide +kernel
def kb_1_reasonAgainst_8 : List zI := [(.aload_n 0, 1, 0, 0), (.getfield 21, 3, 1, 1), (.iload_n 1, 1, 0, 0)]
theorem kd_1_reasonAgainst_8 : zdec md_1_reasonAgainst 8 kb_1_reasonAgainst_8 = true := by decide +kernel
theorem kr_1_reasonAgainst_13 : decode md_1_reasonAgainst.2.1 13 = .ok (.invokevirtual 66, 3) := by decide +kernel
def kb_1_reasonAgainst_16 : List zI := [(.if_icmp .eq 5, 3, 21, 0)]
theorem kd_1_reasonAgainst_16 : zdec md_1_reasonAgainst 16 kb_1_reasonAgainst_16 = true := by decide +kernel
def kb_1_reasonAgainst_21 : List zI := [(.aload_n 0, 1, 0, 0), (.getfield 12, 3, 1, 0), (.iload_n 2, 1, 0, 0)]
theorem kd_1_reasonAgainst_21 : zdec md_1_reasonAgainst 21 kb_1_reasonAgainst_21 = true := by decide +kernel
theorem kr_1_reasonAgainst_26 : decode md_1_reasonAgainst.2.1 26 = .ok (.invokevirtual 95, 3) := by decide +kernel
def kb_1_reasonAgainst_29 : List zI := [(.ifCond .ne 14, 3, 43, 0)]
theorem kd_1_reasonAgainst_29 : zdec md_1_reasonAgainst 29 kb_1_reasonAgainst_29 = true := by decide +kernel
def kb_1_reasonAgainst_43 : List zI := [(.aload_n 0, 1, 0, 0), (.getfield 32, 3, 1, 4), (.iconst 1, 1, 0, 0), (.if_icmp .ne 18, 3, 66, 0)]
theorem kd_1_reasonAgainst_43 : zdec md_1_reasonAgainst 43 kb_1_reasonAgainst_43 = true := by decide +kernel
def kb_1_reasonAgainst_66 : List zI := [(.iconst 0, 1, 0, 0)]
theorem kd_1_reasonAgainst_66 : zdec md_1_reasonAgainst 66 kb_1_reasonAgainst_66 = true := by decide +kernel
theorem kr_1_reasonAgainst_67 : decode md_1_reasonAgainst.2.1 67 = .ok (.ireturn, 1) := by decide +kernel
def kb_1_reasonAgainst_51 : List zI := [(.aload_n 0, 1, 0, 0), (.getfield 21, 3, 1, 1), (.iload_n 2, 1, 0, 0)]
theorem kd_1_reasonAgainst_51 : zdec md_1_reasonAgainst 51 kb_1_reasonAgainst_51 = true := by decide +kernel
theorem kr_1_reasonAgainst_56 : decode md_1_reasonAgainst.2.1 56 = .ok (.invokevirtual 101, 3) := by decide +kernel
def kb_1_reasonAgainst_59 : List zI := [(.ifCond .le 7, 3, 66, 0)]
theorem kd_1_reasonAgainst_59 : zdec md_1_reasonAgainst 59 kb_1_reasonAgainst_59 = true := by decide +kernel
def kb_1_reasonAgainst_62 : List zI := [(.iconst 3, 1, 0, 0), (.goto 4, 3, 67, 0)]
theorem kd_1_reasonAgainst_62 : zdec md_1_reasonAgainst 62 kb_1_reasonAgainst_62 = true := by decide +kernel
def kb_1_reasonAgainst_32 : List zI := [(.aload_n 0, 1, 0, 0), (.iload_n 1, 1, 0, 0), (.iload_n 2, 1, 0, 0)]
theorem kd_1_reasonAgainst_32 : zdec md_1_reasonAgainst 32 kb_1_reasonAgainst_32 = true := by decide +kernel
theorem kr_1_reasonAgainst_35 : decode md_1_reasonAgainst.2.1 35 = .ok (.invokevirtual 98, 3) := by decide +kernel
def kb_1_reasonAgainst_38 : List zI := [(.ifCond .eq 5, 3, 43, 0)]
theorem kd_1_reasonAgainst_38 : zdec md_1_reasonAgainst 38 kb_1_reasonAgainst_38 = true := by decide +kernel
def kb_1_reasonAgainst_41 : List zI := [(.iconst 2, 1, 0, 0)]
theorem kd_1_reasonAgainst_41 : zdec md_1_reasonAgainst 41 kb_1_reasonAgainst_41 = true := by decide +kernel
theorem kr_1_reasonAgainst_42 : decode md_1_reasonAgainst.2.1 42 = .ok (.ireturn, 1) := by decide +kernel
def kb_1_reasonAgainst_19 : List zI := [(.iconst 1, 1, 0, 0)]
theorem kd_1_reasonAgainst_19 : zdec md_1_reasonAgainst 19 kb_1_reasonAgainst_19 = true := by decide +kernel
theorem kr_1_reasonAgainst_20 : decode md_1_reasonAgainst.2.1 20 = .ok (.ireturn, 1) := by decide +kernel
noncomputable def xx_reasonAgainst (μ : zM) (a1 a2 : Int) : Int := (if (xx_kindOf μ a2) = (xx_kindOfHole μ a1) then (if (xx_kindOf μ a2) = 0 then (if (xx_disagrees μ a1 a2) = 0 then (if (μ 3 4) = 1 then (if 0 < (xx_holesWith μ a2) then 3 else 0) else 0) else 2) else (if (μ 3 4) = 1 then (if 0 < (xx_holesWith μ a2) then 3 else 0) else 0)) else 1)
set_option maxHeartbeats 4000000 in
set_option maxRecDepth 100000 in
theorem xr_reasonAgainst {μ : zM} (hB : zB μ) (a1 a2 : Int) (h0 : -2147483648 ≤ a1 ∧ a1 ≤ 2147483647) (h1 : -2147483648 ≤ a2 ∧ a2 ≤ 2147483647) : 0 ≤ (xx_reasonAgainst μ a1 a2) ∧ (xx_reasonAgainst μ a1 a2) ≤ 3 := by
  unfold xx_reasonAgainst
  have r1 : -1 ≤ (xx_kindOf μ a2) ∧ (xx_kindOf μ a2) ≤ 2 := xr_kindOf hB a2 (by omega)
  have r2 : -1 ≤ (xx_kindOfHole μ a1) ∧ (xx_kindOfHole μ a1) ≤ 2 := xr_kindOfHole hB a1 (by omega)
  by_cases c3 : (xx_kindOf μ a2) = (xx_kindOfHole μ a1)
  · rw [if_pos c3]
    have r4 : -1 ≤ (xx_kindOf μ a2) ∧ (xx_kindOf μ a2) ≤ 2 := xr_kindOf hB a2 (by omega)
    by_cases c5 : (xx_kindOf μ a2) = 0
    · rw [if_pos c5]
      have r10 : 0 ≤ (xx_disagrees μ a1 a2) ∧ (xx_disagrees μ a1 a2) ≤ 1 := xr_disagrees hB a1 a2 (by omega) (by omega)
      by_cases c11 : (xx_disagrees μ a1 a2) = 0
      · rw [if_pos c11]
        have b12 : 0 ≤ (μ 3 4) ∧ (μ 3 4) ≤ 1 := hB 3 4
        by_cases c13 : (μ 3 4) = 1
        · rw [if_pos c13]
          have r14 : 0 ≤ (xx_holesWith μ a2) ∧ (xx_holesWith μ a2) ≤ 20 := xr_holesWith hB a2 (by omega)
          by_cases c15 : 0 < (xx_holesWith μ a2)
          · rw [if_pos c15]
            first | omega | (dsimp only; omega)
          · rw [if_neg c15]
            first | omega | (dsimp only; omega)
        · rw [if_neg c13]
          first | omega | (dsimp only; omega)
      · rw [if_neg c11]
        first | omega | (dsimp only; omega)
    · rw [if_neg c5]
      have b6 : 0 ≤ (μ 3 4) ∧ (μ 3 4) ≤ 1 := hB 3 4
      by_cases c7 : (μ 3 4) = 1
      · rw [if_pos c7]
        have r8 : 0 ≤ (xx_holesWith μ a2) ∧ (xx_holesWith μ a2) ≤ 20 := xr_holesWith hB a2 (by omega)
        by_cases c9 : 0 < (xx_holesWith μ a2)
        · rw [if_pos c9]
          first | omega | (dsimp only; omega)
        · rw [if_neg c9]
          first | omega | (dsimp only; omega)
      · rw [if_neg c7]
        first | omega | (dsimp only; omega)
  · rw [if_neg c3]
    first | omega | (dsimp only; omega)
set_option maxHeartbeats 4000000 in
set_option maxRecDepth 100000 in
theorem xz_reasonAgainst {μ : zM} (hB : zB μ) (a1 a2 : Int) (h0 : -2147483648 ≤ a1 ∧ a1 ≤ 2147483647) (h1 : -2147483648 ≤ a2 ∧ a2 ≤ 2147483647) : Dz md_1_reasonAgainst [zr 3, zi a1, zi a2] zSh μ (some (zi (xx_reasonAgainst μ a1 a2))) zSh μ := by
  refine Dz.of (by decide) rfl rfl (show Ez md_1_reasonAgainst 0 0 0 [(0, zr 3), (1, zi a1), (2, zi a2)] [] zSh μ (some (zi (xx_reasonAgainst μ a1 a2))) zSh μ from ?_)
  unfold xx_reasonAgainst
  refine Az.blk kd_1_reasonAgainst_0 (show Ez md_1_reasonAgainst 0 0 5 [(0, zr 3), (1, zi a1), (2, zi a2)] [zi a2, zr 4] zSh μ _ _ _ from ?_)
  refine Az.cVN (mc := md_4_kindOf) (k := 4) (n := 1) (As := [zi a2]) (rest := []) kr_1_reasonAgainst_5 zw_475 ok_4_kindOf rfl rfl rfl trivial (xz_kindOf hB a2 (by omega)) rfl rfl (show Ez md_1_reasonAgainst 0 0 8 [(0, zr 3), (1, zi a1), (2, zi a2)] [zi (xx_kindOf μ a2)] zSh μ _ _ _ from ?_)
  have r1 : -1 ≤ (xx_kindOf μ a2) ∧ (xx_kindOf μ a2) ≤ 2 := xr_kindOf hB a2 (by omega)
  refine Az.blk kd_1_reasonAgainst_8 (show Ez md_1_reasonAgainst 0 0 13 [(0, zr 3), (1, zi a1), (2, zi a2)] [zi a1, zr 10, zi (xx_kindOf μ a2)] zSh μ _ _ _ from ?_)
  refine Az.cVN (mc := md_2_kindOfHole) (k := 10) (n := 1) (As := [zi a1]) (rest := [zi (xx_kindOf μ a2)]) kr_1_reasonAgainst_13 zw_348 ok_2_kindOfHole rfl rfl rfl trivial (xz_kindOfHole hB a1 (by omega)) rfl rfl (show Ez md_1_reasonAgainst 0 0 16 [(0, zr 3), (1, zi a1), (2, zi a2)] [zi (xx_kindOfHole μ a1), zi (xx_kindOf μ a2)] zSh μ _ _ _ from ?_)
  have r2 : -1 ≤ (xx_kindOfHole μ a1) ∧ (xx_kindOfHole μ a1) ≤ 2 := xr_kindOfHole hB a1 (by omega)
  refine Az.blk kd_1_reasonAgainst_16 (show zR (xx_kindOf μ a2) ∧ zR (xx_kindOfHole μ a1) ∧ (((xx_kindOf μ a2) = (xx_kindOfHole μ a1) → Ez md_1_reasonAgainst 0 0 21 [(0, zr 3), (1, zi a1), (2, zi a2)] [] zSh μ _ _ _) ∧ (¬ (xx_kindOf μ a2) = (xx_kindOfHole μ a1) → Ez md_1_reasonAgainst 0 0 19 [(0, zr 3), (1, zi a1), (2, zi a2)] [] zSh μ _ _ _)) from ⟨(by omega), (by omega), fun c3 => ?_, fun c3 => ?_⟩)
  · rw [if_pos c3]
    refine Az.blk kd_1_reasonAgainst_21 (show Ez md_1_reasonAgainst 0 0 26 [(0, zr 3), (1, zi a1), (2, zi a2)] [zi a2, zr 4] zSh μ _ _ _ from ?_)
    refine Az.cVN (mc := md_4_kindOf) (k := 4) (n := 1) (As := [zi a2]) (rest := []) kr_1_reasonAgainst_26 zw_475 ok_4_kindOf rfl rfl rfl trivial (xz_kindOf hB a2 (by omega)) rfl rfl (show Ez md_1_reasonAgainst 0 0 29 [(0, zr 3), (1, zi a1), (2, zi a2)] [zi (xx_kindOf μ a2)] zSh μ _ _ _ from ?_)
    have r4 : -1 ≤ (xx_kindOf μ a2) ∧ (xx_kindOf μ a2) ≤ 2 := xr_kindOf hB a2 (by omega)
    refine Az.blk kd_1_reasonAgainst_29 (show zR (xx_kindOf μ a2) ∧ ((¬ (xx_kindOf μ a2) = 0 → Ez md_1_reasonAgainst 0 0 43 [(0, zr 3), (1, zi a1), (2, zi a2)] [] zSh μ _ _ _) ∧ ((xx_kindOf μ a2) = 0 → Ez md_1_reasonAgainst 0 0 32 [(0, zr 3), (1, zi a1), (2, zi a2)] [] zSh μ _ _ _)) from ⟨(by omega), fun c5 => ?_, fun c5 => ?_⟩)
    · rw [if_neg c5]
      have b6 : 0 ≤ (μ 3 4) ∧ (μ 3 4) ≤ 1 := hB 3 4
      refine Az.blk kd_1_reasonAgainst_43 (show zR (μ 3 4) ∧ zR 1 ∧ ((¬ (μ 3 4) = 1 → Ez md_1_reasonAgainst 0 0 66 [(0, zr 3), (1, zi a1), (2, zi a2)] [] zSh μ _ _ _) ∧ ((μ 3 4) = 1 → Ez md_1_reasonAgainst 0 0 51 [(0, zr 3), (1, zi a1), (2, zi a2)] [] zSh μ _ _ _)) from ⟨(by omega), (by omega), fun c7 => ?_, fun c7 => ?_⟩)
      · rw [if_neg c7]
        refine Az.blk kd_1_reasonAgainst_66 (show Ez md_1_reasonAgainst 0 0 67 [(0, zr 3), (1, zi a1), (2, zi a2)] [zi 0] zSh μ _ _ _ from ?_)
        exact Ez.iret kr_1_reasonAgainst_67 rfl (Nat.zero_le _) (Nat.zero_le _) rfl rfl
      · rw [if_pos c7]
        refine Az.blk kd_1_reasonAgainst_51 (show Ez md_1_reasonAgainst 0 0 56 [(0, zr 3), (1, zi a1), (2, zi a2)] [zi a2, zr 10] zSh μ _ _ _ from ?_)
        refine Az.cVN (mc := md_2_holesWith) (k := 10) (n := 1) (As := [zi a2]) (rest := []) kr_1_reasonAgainst_56 zw_480 ok_2_holesWith rfl rfl rfl trivial (xz_holesWith hB a2 (by omega)) rfl rfl (show Ez md_1_reasonAgainst 0 0 59 [(0, zr 3), (1, zi a1), (2, zi a2)] [zi (xx_holesWith μ a2)] zSh μ _ _ _ from ?_)
        have r8 : 0 ≤ (xx_holesWith μ a2) ∧ (xx_holesWith μ a2) ≤ 20 := xr_holesWith hB a2 (by omega)
        refine Az.blk kd_1_reasonAgainst_59 (show zR (xx_holesWith μ a2) ∧ ((¬ 0 < (xx_holesWith μ a2) → Ez md_1_reasonAgainst 0 0 66 [(0, zr 3), (1, zi a1), (2, zi a2)] [] zSh μ _ _ _) ∧ (0 < (xx_holesWith μ a2) → Ez md_1_reasonAgainst 0 0 62 [(0, zr 3), (1, zi a1), (2, zi a2)] [] zSh μ _ _ _)) from ⟨(by omega), fun c9 => ?_, fun c9 => ?_⟩)
        · rw [if_neg c9]
          refine Az.blk kd_1_reasonAgainst_66 (show Ez md_1_reasonAgainst 0 0 67 [(0, zr 3), (1, zi a1), (2, zi a2)] [zi 0] zSh μ _ _ _ from ?_)
          exact Ez.iret kr_1_reasonAgainst_67 rfl (Nat.zero_le _) (Nat.zero_le _) rfl rfl
        · rw [if_pos c9]
          refine Az.blk kd_1_reasonAgainst_62 (show Ez md_1_reasonAgainst 0 0 67 [(0, zr 3), (1, zi a1), (2, zi a2)] [zi 3] zSh μ _ _ _ from ?_)
          exact Ez.iret kr_1_reasonAgainst_67 rfl (Nat.zero_le _) (Nat.zero_le _) rfl rfl
    · rw [if_pos c5]
      refine Az.blk kd_1_reasonAgainst_32 (show Ez md_1_reasonAgainst 0 0 35 [(0, zr 3), (1, zi a1), (2, zi a2)] [zi a2, zi a1, zr 3] zSh μ _ _ _ from ?_)
      refine Az.cV (mc := md_1_disagrees) (k := 3) (n := 2) (As := [zi a1, zi a2]) (rest := []) kr_1_reasonAgainst_35 zw_476 ok_1_disagrees rfl rfl rfl trivial (xz_disagrees hB a1 a2 (by omega) (by omega)) rfl rfl (show Ez md_1_reasonAgainst 0 0 38 [(0, zr 3), (1, zi a1), (2, zi a2)] [zi (xx_disagrees μ a1 a2)] zSh μ _ _ _ from ?_)
      have r10 : 0 ≤ (xx_disagrees μ a1 a2) ∧ (xx_disagrees μ a1 a2) ≤ 1 := xr_disagrees hB a1 a2 (by omega) (by omega)
      refine Az.blk kd_1_reasonAgainst_38 (show zR (xx_disagrees μ a1 a2) ∧ (((xx_disagrees μ a1 a2) = 0 → Ez md_1_reasonAgainst 0 0 43 [(0, zr 3), (1, zi a1), (2, zi a2)] [] zSh μ _ _ _) ∧ (¬ (xx_disagrees μ a1 a2) = 0 → Ez md_1_reasonAgainst 0 0 41 [(0, zr 3), (1, zi a1), (2, zi a2)] [] zSh μ _ _ _)) from ⟨(by omega), fun c11 => ?_, fun c11 => ?_⟩)
      · rw [if_pos c11]
        have b12 : 0 ≤ (μ 3 4) ∧ (μ 3 4) ≤ 1 := hB 3 4
        refine Az.blk kd_1_reasonAgainst_43 (show zR (μ 3 4) ∧ zR 1 ∧ ((¬ (μ 3 4) = 1 → Ez md_1_reasonAgainst 0 0 66 [(0, zr 3), (1, zi a1), (2, zi a2)] [] zSh μ _ _ _) ∧ ((μ 3 4) = 1 → Ez md_1_reasonAgainst 0 0 51 [(0, zr 3), (1, zi a1), (2, zi a2)] [] zSh μ _ _ _)) from ⟨(by omega), (by omega), fun c13 => ?_, fun c13 => ?_⟩)
        · rw [if_neg c13]
          refine Az.blk kd_1_reasonAgainst_66 (show Ez md_1_reasonAgainst 0 0 67 [(0, zr 3), (1, zi a1), (2, zi a2)] [zi 0] zSh μ _ _ _ from ?_)
          exact Ez.iret kr_1_reasonAgainst_67 rfl (Nat.zero_le _) (Nat.zero_le _) rfl rfl
        · rw [if_pos c13]
          refine Az.blk kd_1_reasonAgainst_51 (show Ez md_1_reasonAgainst 0 0 56 [(0, zr 3), (1, zi a1), (2, zi a2)] [zi a2, zr 10] zSh μ _ _ _ from ?_)
          refine Az.cVN (mc := md_2_holesWith) (k := 10) (n := 1) (As := [zi a2]) (rest := []) kr_1_reasonAgainst_56 zw_480 ok_2_holesWith rfl rfl rfl trivial (xz_holesWith hB a2 (by omega)) rfl rfl (show Ez md_1_reasonAgainst 0 0 59 [(0, zr 3), (1, zi a1), (2, zi a2)] [zi (xx_holesWith μ a2)] zSh μ _ _ _ from ?_)
          have r14 : 0 ≤ (xx_holesWith μ a2) ∧ (xx_holesWith μ a2) ≤ 20 := xr_holesWith hB a2 (by omega)
          refine Az.blk kd_1_reasonAgainst_59 (show zR (xx_holesWith μ a2) ∧ ((¬ 0 < (xx_holesWith μ a2) → Ez md_1_reasonAgainst 0 0 66 [(0, zr 3), (1, zi a1), (2, zi a2)] [] zSh μ _ _ _) ∧ (0 < (xx_holesWith μ a2) → Ez md_1_reasonAgainst 0 0 62 [(0, zr 3), (1, zi a1), (2, zi a2)] [] zSh μ _ _ _)) from ⟨(by omega), fun c15 => ?_, fun c15 => ?_⟩)
          · rw [if_neg c15]
            refine Az.blk kd_1_reasonAgainst_66 (show Ez md_1_reasonAgainst 0 0 67 [(0, zr 3), (1, zi a1), (2, zi a2)] [zi 0] zSh μ _ _ _ from ?_)
            exact Ez.iret kr_1_reasonAgainst_67 rfl (Nat.zero_le _) (Nat.zero_le _) rfl rfl
          · rw [if_pos c15]
            refine Az.blk kd_1_reasonAgainst_62 (show Ez md_1_reasonAgainst 0 0 67 [(0, zr 3), (1, zi a1), (2, zi a2)] [zi 3] zSh μ _ _ _ from ?_)
            exact Ez.iret kr_1_reasonAgainst_67 rfl (Nat.zero_le _) (Nat.zero_le _) rfl rfl
      · rw [if_neg c11]
        refine Az.blk kd_1_reasonAgainst_41 (show Ez md_1_reasonAgainst 0 0 42 [(0, zr 3), (1, zi a1), (2, zi a2)] [zi 2] zSh μ _ _ _ from ?_)
        exact Ez.iret kr_1_reasonAgainst_42 rfl (Nat.zero_le _) (Nat.zero_le _) rfl rfl
  · rw [if_neg c3]
    refine Az.blk kd_1_reasonAgainst_19 (show Ez md_1_reasonAgainst 0 0 20 [(0, zr 3), (1, zi a1), (2, zi a2)] [zi 1] zSh μ _ _ _ from ?_)
    exact Ez.iret kr_1_reasonAgainst_20 rfl (Nat.zero_le _) (Nat.zero_le _) rfl rfl
def kb_1_lowestFitting_0 : List zI := [(.iconst 0, 1, 0, 0), (.istore_n 2, 1, 0, 0)]
theorem kd_1_lowestFitting_0 : zdec md_1_lowestFitting 0 kb_1_lowestFitting_0 = true := by decide +kernel
def kb_1_lowestFitting_2 : List zI := [(.iload_n 2, 1, 0, 0), (.aload_n 0, 1, 0, 0), (.getfield 12, 3, 1, 0), (.getfield 110, 3, 4, 0), (.if_icmp .ge 20, 3, 30, 0)]
theorem kd_1_lowestFitting_2 : zdec md_1_lowestFitting 2 kb_1_lowestFitting_2 = true := by decide +kernel
def kb_1_lowestFitting_30 : List zI := [(.iconst (-1), 1, 0, 0)]
theorem kd_1_lowestFitting_30 : zdec md_1_lowestFitting 30 kb_1_lowestFitting_30 = true := by decide +kernel
theorem kr_1_lowestFitting_31 : decode md_1_lowestFitting.2.1 31 = .ok (.ireturn, 1) := by decide +kernel
def kb_1_lowestFitting_13 : List zI := [(.aload_n 0, 1, 0, 0), (.iload_n 1, 1, 0, 0), (.iload_n 2, 1, 0, 0)]
theorem kd_1_lowestFitting_13 : zdec md_1_lowestFitting 13 kb_1_lowestFitting_13 = true := by decide +kernel
theorem kr_1_lowestFitting_16 : decode md_1_lowestFitting.2.1 16 = .ok (.invokevirtual 113, 3) := by decide +kernel
def kb_1_lowestFitting_19 : List zI := [(.ifCond .ne 5, 3, 24, 0)]
theorem kd_1_lowestFitting_19 : zdec md_1_lowestFitting 19 kb_1_lowestFitting_19 = true := by decide +kernel
def kb_1_lowestFitting_24 : List zI := [(.iinc 2 1, 3, 0, 0), (.goto (-25), 3, 2, 0)]
theorem kd_1_lowestFitting_24 : zdec md_1_lowestFitting 24 kb_1_lowestFitting_24 = true := by decide +kernel
def kb_1_lowestFitting_22 : List zI := [(.iload_n 2, 1, 0, 0)]
theorem kd_1_lowestFitting_22 : zdec md_1_lowestFitting 22 kb_1_lowestFitting_22 = true := by decide +kernel
theorem kr_1_lowestFitting_23 : decode md_1_lowestFitting.2.1 23 = .ok (.ireturn, 1) := by decide +kernel
noncomputable def xx_lowestFitting_2 : Nat → zM → Int → Int → Int
  | 0, μ, _, _ => 0
  | f + 1, μ, l1, l2 => (if l2 < (μ 4 0) then (if (xx_reasonAgainst μ l1 l2) = 0 then l2 else (xx_lowestFitting_2 f μ l1 (l2 + 1))) else (-1))
noncomputable def xx_lowestFitting (μ : zM) (a1 : Int) : Int := (xx_lowestFitting_2 zN μ a1 0)
set_option maxHeartbeats 4000000 in
set_option maxRecDepth 100000 in
theorem xr_lowestFitting_2 (f : Nat) (μ : zM) (hB : zB μ) (l1 : Int) (l2 : Int) (i0 : 0 ≤ l2 ∧ l2 ≤ (μ 4 0)) (i1 : -2147483648 ≤ l1 ∧ l1 ≤ 2147483647) (hf : (μ 4 0) - l2 < (f : Int)) : -1 ≤ (xx_lowestFitting_2 f μ l1 l2) ∧ (xx_lowestFitting_2 f μ l1 l2) ≤ 23 := by
  induction f generalizing μ l1 l2 with
  | zero => exfalso; omega
  | succ f ih =>
    replace hf : (μ 4 0) - l2 < (f : Int) + 1 := by omega
    rw [xx_lowestFitting_2]
    have b2 : 0 ≤ (μ 4 0) ∧ (μ 4 0) ≤ 24 := hB 4 0
    by_cases c3 : l2 < (μ 4 0)
    · rw [if_pos c3]
      have r4 : 0 ≤ (xx_reasonAgainst μ l1 l2) ∧ (xx_reasonAgainst μ l1 l2) ≤ 3 := xr_reasonAgainst hB l1 l2 (by omega) (by omega)
      by_cases c5 : (xx_reasonAgainst μ l1 l2) = 0
      · rw [if_pos c5]
        first | omega | (dsimp only; omega)
      · rw [if_neg c5]
        have b6 : 0 ≤ (μ 4 0) ∧ (μ 4 0) ≤ 24 := hB 4 0
        exact ih μ hB l1 (l2 + 1) (by omega) (by omega) (by omega)
    · rw [if_neg c3]
      first | omega | (dsimp only; omega)
set_option maxHeartbeats 4000000 in
set_option maxRecDepth 100000 in
theorem xr_lowestFitting {μ : zM} (hB : zB μ) (a1 : Int) (h0 : -2147483648 ≤ a1 ∧ a1 ≤ 2147483647) : -1 ≤ (xx_lowestFitting μ a1) ∧ (xx_lowestFitting μ a1) ≤ 23 := by
  unfold xx_lowestFitting
  have b1 : 0 ≤ (μ 4 0) ∧ (μ 4 0) ≤ 24 := hB 4 0
  have fb : (3000 : Int) ≤ ((zN : Nat) : Int) := zN_big
  exact xr_lowestFitting_2 zN μ hB a1 0 (by omega) (by omega) (by omega)
set_option maxHeartbeats 4000000 in
set_option maxRecDepth 100000 in
theorem xz_lowestFitting_2 (f : Nat) (μ : zM) (hB : zB μ) (l1 : Int) (l2 : Int) (i0 : 0 ≤ l2 ∧ l2 ≤ (μ 4 0)) (i1 : -2147483648 ≤ l1 ∧ l1 ≤ 2147483647) (hf : (μ 4 0) - l2 < (f : Int)) : Ez md_1_lowestFitting 0 0 2 [(0, zr 3), (1, zi l1), (2, zi l2)] [] zSh μ (some (zi (xx_lowestFitting_2 f μ l1 l2))) zSh μ := by
  induction f generalizing μ l1 l2 with
  | zero => exfalso; omega
  | succ f ih =>
    replace hf : (μ 4 0) - l2 < (f : Int) + 1 := by omega
    rw [xx_lowestFitting_2]
    have b2 : 0 ≤ (μ 4 0) ∧ (μ 4 0) ≤ 24 := hB 4 0
    refine Az.blk kd_1_lowestFitting_2 (show zR l2 ∧ zR (μ 4 0) ∧ ((¬ l2 < (μ 4 0) → Ez md_1_lowestFitting 0 0 30 [(0, zr 3), (1, zi l1), (2, zi l2)] [] zSh μ _ _ _) ∧ (l2 < (μ 4 0) → Ez md_1_lowestFitting 0 0 13 [(0, zr 3), (1, zi l1), (2, zi l2)] [] zSh μ _ _ _)) from ⟨(by omega), (by omega), fun c3 => ?_, fun c3 => ?_⟩)
    · rw [if_neg c3]
      refine Az.blk kd_1_lowestFitting_30 (show Ez md_1_lowestFitting 0 0 31 [(0, zr 3), (1, zi l1), (2, zi l2)] [zi (-1)] zSh μ _ _ _ from ?_)
      exact Ez.iret kr_1_lowestFitting_31 rfl (Nat.zero_le _) (Nat.zero_le _) rfl rfl
    · rw [if_pos c3]
      refine Az.blk kd_1_lowestFitting_13 (show Ez md_1_lowestFitting 0 0 16 [(0, zr 3), (1, zi l1), (2, zi l2)] [zi l2, zi l1, zr 3] zSh μ _ _ _ from ?_)
      refine Az.cV (mc := md_1_reasonAgainst) (k := 3) (n := 2) (As := [zi l1, zi l2]) (rest := []) kr_1_lowestFitting_16 zw_520 ok_1_reasonAgainst rfl rfl rfl trivial (xz_reasonAgainst hB l1 l2 (by omega) (by omega)) rfl rfl (show Ez md_1_lowestFitting 0 0 19 [(0, zr 3), (1, zi l1), (2, zi l2)] [zi (xx_reasonAgainst μ l1 l2)] zSh μ _ _ _ from ?_)
      have r4 : 0 ≤ (xx_reasonAgainst μ l1 l2) ∧ (xx_reasonAgainst μ l1 l2) ≤ 3 := xr_reasonAgainst hB l1 l2 (by omega) (by omega)
      refine Az.blk kd_1_lowestFitting_19 (show zR (xx_reasonAgainst μ l1 l2) ∧ ((¬ (xx_reasonAgainst μ l1 l2) = 0 → Ez md_1_lowestFitting 0 0 24 [(0, zr 3), (1, zi l1), (2, zi l2)] [] zSh μ _ _ _) ∧ ((xx_reasonAgainst μ l1 l2) = 0 → Ez md_1_lowestFitting 0 0 22 [(0, zr 3), (1, zi l1), (2, zi l2)] [] zSh μ _ _ _)) from ⟨(by omega), fun c5 => ?_, fun c5 => ?_⟩)
      · rw [if_neg c5]
        refine Az.blk kd_1_lowestFitting_24 (show Ez md_1_lowestFitting 0 0 2 [(2, zi (l2 + 1)), (0, zr 3), (1, zi l1)] [] zSh μ _ _ _ from ?_)
        have b6 : 0 ≤ (μ 4 0) ∧ (μ 4 0) ≤ 24 := hB 4 0
        refine Az.lvs (lv' := [(0, zr 3), (1, zi l1), (2, zi (l2 + 1))]) ?_ ?_
        · intro q hq; simp only [List.mem_cons, List.not_mem_nil, or_false] at hq; rcases hq with rfl | rfl | rfl <;> rfl
        exact ih μ hB l1 (l2 + 1) (by omega) (by omega) (by omega)
      · rw [if_pos c5]
        refine Az.blk kd_1_lowestFitting_22 (show Ez md_1_lowestFitting 0 0 23 [(0, zr 3), (1, zi l1), (2, zi l2)] [zi l2] zSh μ _ _ _ from ?_)
        exact Ez.iret kr_1_lowestFitting_23 rfl (Nat.zero_le _) (Nat.zero_le _) rfl rfl
set_option maxHeartbeats 4000000 in
set_option maxRecDepth 100000 in
theorem xz_lowestFitting {μ : zM} (hB : zB μ) (a1 : Int) (h0 : -2147483648 ≤ a1 ∧ a1 ≤ 2147483647) : Dz md_1_lowestFitting [zr 3, zi a1] zSh μ (some (zi (xx_lowestFitting μ a1))) zSh μ := by
  refine Dz.of (by decide) rfl rfl (show Ez md_1_lowestFitting 0 0 0 [(0, zr 3), (1, zi a1)] [] zSh μ (some (zi (xx_lowestFitting μ a1))) zSh μ from ?_)
  unfold xx_lowestFitting
  refine Az.blk kd_1_lowestFitting_0 (show Ez md_1_lowestFitting 0 0 2 [(2, zi 0), (0, zr 3), (1, zi a1)] [] zSh μ _ _ _ from ?_)
  have b1 : 0 ≤ (μ 4 0) ∧ (μ 4 0) ≤ 24 := hB 4 0
  refine Az.lvs (lv' := [(0, zr 3), (1, zi a1), (2, zi 0)]) ?_ ?_
  · intro q hq; simp only [List.mem_cons, List.not_mem_nil, or_false] at hq; rcases hq with rfl | rfl | rfl <;> rfl
  have fb : (3000 : Int) ≤ ((zN : Nat) : Int) := zN_big
  exact xz_lowestFitting_2 zN μ hB a1 0 (by omega) (by omega) (by omega)
def kb_1_someHoleCanBeFilled_0 : List zI := [(.iconst 0, 1, 0, 0), (.istore_n 1, 1, 0, 0)]
theorem kd_1_someHoleCanBeFilled_0 : zdec md_1_someHoleCanBeFilled 0 kb_1_someHoleCanBeFilled_0 = true := by decide +kernel
def kb_1_someHoleCanBeFilled_2 : List zI := [(.iload_n 1, 1, 0, 0), (.aload_n 0, 1, 0, 0), (.getfield 21, 3, 1, 1), (.getfield 89, 3, 2, 1), (.if_icmp .ge 31, 3, 41, 0)]
theorem kd_1_someHoleCanBeFilled_2 : zdec md_1_someHoleCanBeFilled 2 kb_1_someHoleCanBeFilled_2 = true := by decide +kernel
def kb_1_someHoleCanBeFilled_41 : List zI := [(.iconst 0, 1, 0, 0)]
theorem kd_1_someHoleCanBeFilled_41 : zdec md_1_someHoleCanBeFilled 41 kb_1_someHoleCanBeFilled_41 = true := by decide +kernel
theorem kr_1_someHoleCanBeFilled_42 : decode md_1_someHoleCanBeFilled.2.1 42 = .ok (.ireturn, 1) := by decide +kernel
def kb_1_someHoleCanBeFilled_13 : List zI := [(.aload_n 0, 1, 0, 0), (.getfield 21, 3, 1, 1), (.iload_n 1, 1, 0, 0)]
theorem kd_1_someHoleCanBeFilled_13 : zdec md_1_someHoleCanBeFilled 13 kb_1_someHoleCanBeFilled_13 = true := by decide +kernel
theorem kr_1_someHoleCanBeFilled_18 : decode md_1_someHoleCanBeFilled.2.1 18 = .ok (.invokevirtual 76, 3) := by decide +kernel
def kb_1_someHoleCanBeFilled_21 : List zI := [(.ifCond .eq 14, 3, 35, 0)]
theorem kd_1_someHoleCanBeFilled_21 : zdec md_1_someHoleCanBeFilled 21 kb_1_someHoleCanBeFilled_21 = true := by decide +kernel
def kb_1_someHoleCanBeFilled_35 : List zI := [(.iinc 1 1, 3, 0, 0), (.goto (-36), 3, 2, 0)]
theorem kd_1_someHoleCanBeFilled_35 : zdec md_1_someHoleCanBeFilled 35 kb_1_someHoleCanBeFilled_35 = true := by decide +kernel
def kb_1_someHoleCanBeFilled_24 : List zI := [(.aload_n 0, 1, 0, 0), (.iload_n 1, 1, 0, 0)]
theorem kd_1_someHoleCanBeFilled_24 : zdec md_1_someHoleCanBeFilled 24 kb_1_someHoleCanBeFilled_24 = true := by decide +kernel
theorem kr_1_someHoleCanBeFilled_26 : decode md_1_someHoleCanBeFilled.2.1 26 = .ok (.invokevirtual 116, 3) := by decide +kernel
def kb_1_someHoleCanBeFilled_29 : List zI := [(.iconst (-1), 1, 0, 0), (.if_icmp .eq 5, 3, 35, 0)]
theorem kd_1_someHoleCanBeFilled_29 : zdec md_1_someHoleCanBeFilled 29 kb_1_someHoleCanBeFilled_29 = true := by decide +kernel
def kb_1_someHoleCanBeFilled_33 : List zI := [(.iconst 1, 1, 0, 0)]
theorem kd_1_someHoleCanBeFilled_33 : zdec md_1_someHoleCanBeFilled 33 kb_1_someHoleCanBeFilled_33 = true := by decide +kernel
theorem kr_1_someHoleCanBeFilled_34 : decode md_1_someHoleCanBeFilled.2.1 34 = .ok (.ireturn, 1) := by decide +kernel
noncomputable def xx_someHoleCanBeFilled_2 : Nat → zM → Int → Int
  | 0, μ, _ => 0
  | f + 1, μ, l1 => (if l1 < (μ 10 1) then (if (xx_isEmptyHole μ l1) = 0 then (xx_someHoleCanBeFilled_2 f μ (l1 + 1)) else (if (xx_lowestFitting μ l1) = (-1) then (xx_someHoleCanBeFilled_2 f μ (l1 + 1)) else 1)) else 0)
noncomputable def xx_someHoleCanBeFilled (μ : zM) : Int := (xx_someHoleCanBeFilled_2 zN μ 0)
set_option maxHeartbeats 4000000 in
set_option maxRecDepth 100000 in
theorem xr_someHoleCanBeFilled_2 (f : Nat) (μ : zM) (hB : zB μ) (l1 : Int) (i0 : 0 ≤ l1 ∧ l1 ≤ (μ 10 1)) (hf : (μ 10 1) - l1 < (f : Int)) : 0 ≤ (xx_someHoleCanBeFilled_2 f μ l1) ∧ (xx_someHoleCanBeFilled_2 f μ l1) ≤ 1 := by
  induction f generalizing μ l1 with
  | zero => exfalso; omega
  | succ f ih =>
    replace hf : (μ 10 1) - l1 < (f : Int) + 1 := by omega
    rw [xx_someHoleCanBeFilled_2]
    have b2 : 0 ≤ (μ 10 1) ∧ (μ 10 1) ≤ 20 := hB 10 1
    by_cases c3 : l1 < (μ 10 1)
    · rw [if_pos c3]
      have r4 : 0 ≤ (xx_isEmptyHole μ l1) ∧ (xx_isEmptyHole μ l1) ≤ 1 := xr_isEmptyHole hB l1 (by omega)
      by_cases c5 : (xx_isEmptyHole μ l1) = 0
      · rw [if_pos c5]
        have b6 : 0 ≤ (μ 10 1) ∧ (μ 10 1) ≤ 20 := hB 10 1
        exact ih μ hB (l1 + 1) (by omega) (by omega)
      · rw [if_neg c5]
        have r7 : -1 ≤ (xx_lowestFitting μ l1) ∧ (xx_lowestFitting μ l1) ≤ 23 := xr_lowestFitting hB l1 (by omega)
        by_cases c8 : (xx_lowestFitting μ l1) = (-1)
        · rw [if_pos c8]
          have b9 : 0 ≤ (μ 10 1) ∧ (μ 10 1) ≤ 20 := hB 10 1
          exact ih μ hB (l1 + 1) (by omega) (by omega)
        · rw [if_neg c8]
          first | omega | (dsimp only; omega)
    · rw [if_neg c3]
      first | omega | (dsimp only; omega)
set_option maxHeartbeats 4000000 in
set_option maxRecDepth 100000 in
theorem xr_someHoleCanBeFilled {μ : zM} (hB : zB μ)  : 0 ≤ (xx_someHoleCanBeFilled μ) ∧ (xx_someHoleCanBeFilled μ) ≤ 1 := by
  unfold xx_someHoleCanBeFilled
  have b1 : 0 ≤ (μ 10 1) ∧ (μ 10 1) ≤ 20 := hB 10 1
  have fb : (3000 : Int) ≤ ((zN : Nat) : Int) := zN_big
  exact xr_someHoleCanBeFilled_2 zN μ hB 0 (by omega) (by omega)
set_option maxHeartbeats 4000000 in
set_option maxRecDepth 100000 in
theorem xz_someHoleCanBeFilled_2 (f : Nat) (μ : zM) (hB : zB μ) (l1 : Int) (i0 : 0 ≤ l1 ∧ l1 ≤ (μ 10 1)) (hf : (μ 10 1) - l1 < (f : Int)) : Ez md_1_someHoleCanBeFilled 0 0 2 [(0, zr 3), (1, zi l1)] [] zSh μ (some (zi (xx_someHoleCanBeFilled_2 f μ l1))) zSh μ := by
  induction f generalizing μ l1 with
  | zero => exfalso; omega
  | succ f ih =>
    replace hf : (μ 10 1) - l1 < (f : Int) + 1 := by omega
    rw [xx_someHoleCanBeFilled_2]
    have b2 : 0 ≤ (μ 10 1) ∧ (μ 10 1) ≤ 20 := hB 10 1
    refine Az.blk kd_1_someHoleCanBeFilled_2 (show zR l1 ∧ zR (μ 10 1) ∧ ((¬ l1 < (μ 10 1) → Ez md_1_someHoleCanBeFilled 0 0 41 [(0, zr 3), (1, zi l1)] [] zSh μ _ _ _) ∧ (l1 < (μ 10 1) → Ez md_1_someHoleCanBeFilled 0 0 13 [(0, zr 3), (1, zi l1)] [] zSh μ _ _ _)) from ⟨(by omega), (by omega), fun c3 => ?_, fun c3 => ?_⟩)
    · rw [if_neg c3]
      refine Az.blk kd_1_someHoleCanBeFilled_41 (show Ez md_1_someHoleCanBeFilled 0 0 42 [(0, zr 3), (1, zi l1)] [zi 0] zSh μ _ _ _ from ?_)
      exact Ez.zret kr_1_someHoleCanBeFilled_42 rfl (Nat.zero_le _) (Nat.zero_le _) (Or.inl rfl) rfl rfl
    · rw [if_pos c3]
      refine Az.blk kd_1_someHoleCanBeFilled_13 (show Ez md_1_someHoleCanBeFilled 0 0 18 [(0, zr 3), (1, zi l1)] [zi l1, zr 10] zSh μ _ _ _ from ?_)
      refine Az.cVN (mc := md_2_isEmptyHole) (k := 10) (n := 1) (As := [zi l1]) (rest := []) kr_1_someHoleCanBeFilled_18 zw_335 ok_2_isEmptyHole rfl rfl rfl trivial (xz_isEmptyHole hB l1 (by omega)) rfl rfl (show Ez md_1_someHoleCanBeFilled 0 0 21 [(0, zr 3), (1, zi l1)] [zi (xx_isEmptyHole μ l1)] zSh μ _ _ _ from ?_)
      have r4 : 0 ≤ (xx_isEmptyHole μ l1) ∧ (xx_isEmptyHole μ l1) ≤ 1 := xr_isEmptyHole hB l1 (by omega)
      refine Az.blk kd_1_someHoleCanBeFilled_21 (show zR (xx_isEmptyHole μ l1) ∧ (((xx_isEmptyHole μ l1) = 0 → Ez md_1_someHoleCanBeFilled 0 0 35 [(0, zr 3), (1, zi l1)] [] zSh μ _ _ _) ∧ (¬ (xx_isEmptyHole μ l1) = 0 → Ez md_1_someHoleCanBeFilled 0 0 24 [(0, zr 3), (1, zi l1)] [] zSh μ _ _ _)) from ⟨(by omega), fun c5 => ?_, fun c5 => ?_⟩)
      · rw [if_pos c5]
        refine Az.blk kd_1_someHoleCanBeFilled_35 (show Ez md_1_someHoleCanBeFilled 0 0 2 [(1, zi (l1 + 1)), (0, zr 3)] [] zSh μ _ _ _ from ?_)
        have b6 : 0 ≤ (μ 10 1) ∧ (μ 10 1) ≤ 20 := hB 10 1
        refine Az.lvs (lv' := [(0, zr 3), (1, zi (l1 + 1))]) ?_ ?_
        · intro q hq; simp only [List.mem_cons, List.not_mem_nil, or_false] at hq; rcases hq with rfl | rfl <;> rfl
        exact ih μ hB (l1 + 1) (by omega) (by omega)
      · rw [if_neg c5]
        refine Az.blk kd_1_someHoleCanBeFilled_24 (show Ez md_1_someHoleCanBeFilled 0 0 26 [(0, zr 3), (1, zi l1)] [zi l1, zr 3] zSh μ _ _ _ from ?_)
        refine Az.cV (mc := md_1_lowestFitting) (k := 3) (n := 1) (As := [zi l1]) (rest := []) kr_1_someHoleCanBeFilled_26 zw_516 ok_1_lowestFitting rfl rfl rfl trivial (xz_lowestFitting hB l1 (by omega)) rfl rfl (show Ez md_1_someHoleCanBeFilled 0 0 29 [(0, zr 3), (1, zi l1)] [zi (xx_lowestFitting μ l1)] zSh μ _ _ _ from ?_)
        have r7 : -1 ≤ (xx_lowestFitting μ l1) ∧ (xx_lowestFitting μ l1) ≤ 23 := xr_lowestFitting hB l1 (by omega)
        refine Az.blk kd_1_someHoleCanBeFilled_29 (show zR (xx_lowestFitting μ l1) ∧ zR (-1) ∧ (((xx_lowestFitting μ l1) = (-1) → Ez md_1_someHoleCanBeFilled 0 0 35 [(0, zr 3), (1, zi l1)] [] zSh μ _ _ _) ∧ (¬ (xx_lowestFitting μ l1) = (-1) → Ez md_1_someHoleCanBeFilled 0 0 33 [(0, zr 3), (1, zi l1)] [] zSh μ _ _ _)) from ⟨(by omega), (by omega), fun c8 => ?_, fun c8 => ?_⟩)
        · rw [if_pos c8]
          refine Az.blk kd_1_someHoleCanBeFilled_35 (show Ez md_1_someHoleCanBeFilled 0 0 2 [(1, zi (l1 + 1)), (0, zr 3)] [] zSh μ _ _ _ from ?_)
          have b9 : 0 ≤ (μ 10 1) ∧ (μ 10 1) ≤ 20 := hB 10 1
          refine Az.lvs (lv' := [(0, zr 3), (1, zi (l1 + 1))]) ?_ ?_
          · intro q hq; simp only [List.mem_cons, List.not_mem_nil, or_false] at hq; rcases hq with rfl | rfl <;> rfl
          exact ih μ hB (l1 + 1) (by omega) (by omega)
        · rw [if_neg c8]
          refine Az.blk kd_1_someHoleCanBeFilled_33 (show Ez md_1_someHoleCanBeFilled 0 0 34 [(0, zr 3), (1, zi l1)] [zi 1] zSh μ _ _ _ from ?_)
          exact Ez.zret kr_1_someHoleCanBeFilled_34 rfl (Nat.zero_le _) (Nat.zero_le _) (Or.inr rfl) rfl rfl
set_option maxHeartbeats 4000000 in
set_option maxRecDepth 100000 in
theorem xz_someHoleCanBeFilled {μ : zM} (hB : zB μ)  : Dz md_1_someHoleCanBeFilled [zr 3] zSh μ (some (zi (xx_someHoleCanBeFilled μ))) zSh μ := by
  refine Dz.of (by decide) rfl rfl (show Ez md_1_someHoleCanBeFilled 0 0 0 [(0, zr 3)] [] zSh μ (some (zi (xx_someHoleCanBeFilled μ))) zSh μ from ?_)
  unfold xx_someHoleCanBeFilled
  refine Az.blk kd_1_someHoleCanBeFilled_0 (show Ez md_1_someHoleCanBeFilled 0 0 2 [(1, zi 0), (0, zr 3)] [] zSh μ _ _ _ from ?_)
  have b1 : 0 ≤ (μ 10 1) ∧ (μ 10 1) ≤ 20 := hB 10 1
  refine Az.lvs (lv' := [(0, zr 3), (1, zi 0)]) ?_ ?_
  · intro q hq; simp only [List.mem_cons, List.not_mem_nil, or_false] at hq; rcases hq with rfl | rfl <;> rfl
  have fb : (3000 : Int) ≤ ((zN : Nat) : Int) := zN_big
  exact xz_someHoleCanBeFilled_2 zN μ hB 0 (by omega) (by omega)
def kb_1_genderOfTie_0 : List zI := [(.aload_n 0, 1, 0, 0), (.getfield 12, 3, 1, 0), (.aload_n 0, 1, 0, 0), (.getfield 21, 3, 1, 1), (.iload_n 1, 1, 0, 0), (.iconst (-1), 1, 0, 0)]
theorem kd_1_genderOfTie_0 : zdec md_1_genderOfTie 0 kb_1_genderOfTie_0 = true := by decide +kernel
theorem kr_1_genderOfTie_10 : decode md_1_genderOfTie.2.1 10 = .ok (.invokevirtual 51, 3) := by decide +kernel
theorem kr_1_genderOfTie_13 : decode md_1_genderOfTie.2.1 13 = .ok (.invokevirtual 55, 3) := by decide +kernel
theorem kr_1_genderOfTie_16 : decode md_1_genderOfTie.2.1 16 = .ok (.ireturn, 1) := by decide +kernel
noncomputable def xx_genderOfTie (μ : zM) (a1 : Int) : Int := (xx_genderOf μ (xx_nounIn μ a1 (-1)))
set_option maxHeartbeats 4000000 in
set_option maxRecDepth 100000 in
theorem xr_genderOfTie {μ : zM} (hB : zB μ) (a1 : Int) (h0 : -2147483648 ≤ a1 ∧ a1 ≤ 2147483647) : 0 ≤ (xx_genderOfTie μ a1) ∧ (xx_genderOfTie μ a1) ≤ 2 := by
  unfold xx_genderOfTie
  have r1 : -1 ≤ (xx_nounIn μ a1 (-1)) ∧ (xx_nounIn μ a1 (-1)) ≤ 23 := xr_nounIn hB a1 (-1) (by omega) (by omega)
  have r2 : 0 ≤ (xx_genderOf μ (xx_nounIn μ a1 (-1))) ∧ (xx_genderOf μ (xx_nounIn μ a1 (-1))) ≤ 2 := xr_genderOf hB (xx_nounIn μ a1 (-1)) (by omega)
  first | omega | (dsimp only; omega)
set_option maxHeartbeats 4000000 in
set_option maxRecDepth 100000 in
theorem xz_genderOfTie {μ : zM} (hB : zB μ) (a1 : Int) (h0 : -2147483648 ≤ a1 ∧ a1 ≤ 2147483647) : Dz md_1_genderOfTie [zr 3, zi a1] zSh μ (some (zi (xx_genderOfTie μ a1))) zSh μ := by
  refine Dz.of (by decide) rfl rfl (show Ez md_1_genderOfTie 0 0 0 [(0, zr 3), (1, zi a1)] [] zSh μ (some (zi (xx_genderOfTie μ a1))) zSh μ from ?_)
  unfold xx_genderOfTie
  refine Az.blk kd_1_genderOfTie_0 (show Ez md_1_genderOfTie 0 0 10 [(0, zr 3), (1, zi a1)] [zi (-1), zi a1, zr 10, zr 4] zSh μ _ _ _ from ?_)
  refine Az.cVN (mc := md_2_nounIn) (k := 10) (n := 2) (As := [zi a1, zi (-1)]) (rest := [zr 4]) kr_1_genderOfTie_10 zw_356 ok_2_nounIn rfl rfl rfl trivial (xz_nounIn hB a1 (-1) (by omega) (by omega)) rfl rfl (show Ez md_1_genderOfTie 0 0 13 [(0, zr 3), (1, zi a1)] [zi (xx_nounIn μ a1 (-1)), zr 4] zSh μ _ _ _ from ?_)
  have r1 : -1 ≤ (xx_nounIn μ a1 (-1)) ∧ (xx_nounIn μ a1 (-1)) ≤ 23 := xr_nounIn hB a1 (-1) (by omega) (by omega)
  refine Az.cVN (mc := md_4_genderOf) (k := 4) (n := 1) (As := [zi (xx_nounIn μ a1 (-1))]) (rest := []) kr_1_genderOfTie_13 zw_360 ok_4_genderOf rfl rfl rfl trivial (xz_genderOf hB (xx_nounIn μ a1 (-1)) (by omega)) rfl rfl (show Ez md_1_genderOfTie 0 0 16 [(0, zr 3), (1, zi a1)] [zi (xx_genderOf μ (xx_nounIn μ a1 (-1)))] zSh μ _ _ _ from ?_)
  have r2 : 0 ≤ (xx_genderOf μ (xx_nounIn μ a1 (-1))) ∧ (xx_genderOf μ (xx_nounIn μ a1 (-1))) ≤ 2 := xr_genderOf hB (xx_nounIn μ a1 (-1)) (by omega)
  exact Ez.iret kr_1_genderOfTie_16 rfl (Nat.zero_le _) (Nat.zero_le _) rfl rfl
def kb_1_formOf_0 : List zI := [(.iload_n 2, 1, 0, 0), (.bipush 10, 2, 0, 0)]
theorem kd_1_formOf_0 : zdec md_1_formOf 0 kb_1_formOf_0 = true := by decide +kernel
theorem kr_1_formOf_3 : decode md_1_formOf.2.1 3 = .ok (.invokestatic 59, 3) := by decide +kernel
def kb_1_formOf_6 : List zI := [(.ifCond .ne 5, 3, 11, 0)]
theorem kd_1_formOf_6 : zdec md_1_formOf 6 kb_1_formOf_6 = true := by decide +kernel
def kb_1_formOf_11 : List zI := [(.iload_n 1, 1, 0, 0), (.ifCond .ne 10, 3, 22, 0)]
theorem kd_1_formOf_11 : zdec md_1_formOf 11 kb_1_formOf_11 = true := by decide +kernel
def kb_1_formOf_22 : List zI := [(.iconst 3, 1, 0, 0), (.aload_n 0, 1, 0, 0), (.getfield 25, 3, 1, 2), (.iload_n 2, 1, 0, 0), (.iaload, 1, 0, 0), (.imul, 1, 0, 0), (.iload_n 1, 1, 0, 0), (.iconst 1, 1, 0, 0), (.if_icmp .ne 12, 3, 44, 0)]
theorem kd_1_formOf_22 : zdec md_1_formOf 22 kb_1_formOf_22 = true := by decide +kernel
def kb_1_formOf_44 : List zI := [(.iload_n 3, 1, 0, 0), (.iadd, 1, 0, 0)]
theorem kd_1_formOf_44 : zdec md_1_formOf 44 kb_1_formOf_44 = true := by decide +kernel
theorem kr_1_formOf_46 : decode md_1_formOf.2.1 46 = .ok (.ireturn, 1) := by decide +kernel
def kb_1_formOf_35 : List zI := [(.aload_n 0, 1, 0, 0), (.getfield 29, 3, 1, 3), (.iload_n 2, 1, 0, 0), (.iaload, 1, 0, 0), (.goto 4, 3, 45, 0)]
theorem kd_1_formOf_35 : zdec md_1_formOf 35 kb_1_formOf_35 = true := by decide +kernel
def kb_1_formOf_45 : List zI := [(.iadd, 1, 0, 0)]
theorem kd_1_formOf_45 : zdec md_1_formOf 45 kb_1_formOf_45 = true := by decide +kernel
def kb_1_formOf_15 : List zI := [(.aload_n 0, 1, 0, 0), (.getfield 25, 3, 1, 2), (.iload_n 2, 1, 0, 0), (.iaload, 1, 0, 0)]
theorem kd_1_formOf_15 : zdec md_1_formOf 15 kb_1_formOf_15 = true := by decide +kernel
theorem kr_1_formOf_21 : decode md_1_formOf.2.1 21 = .ok (.ireturn, 1) := by decide +kernel
def kb_1_formOf_9 : List zI := [(.iconst 0, 1, 0, 0)]
theorem kd_1_formOf_9 : zdec md_1_formOf 9 kb_1_formOf_9 = true := by decide +kernel
theorem kr_1_formOf_10 : decode md_1_formOf.2.1 10 = .ok (.ireturn, 1) := by decide +kernel
noncomputable def xx_formOf (μ : zM) (a1 a2 a3 : Int) : Int := (if (xx_isBelow a2 10) = 0 then 0 else (if a1 = 0 then (μ 19 a2) else (if a1 = 1 then ((3 * (μ 19 a2)) + (μ 20 a2)) else ((3 * (μ 19 a2)) + a3))))
set_option maxHeartbeats 4000000 in
set_option maxRecDepth 100000 in
theorem xr_formOf {μ : zM} (hB : zB μ) (a1 a2 a3 : Int) (h0 : -2147483648 ≤ a1 ∧ a1 ≤ 2147483647) (h1 : -2147483648 ≤ a2 ∧ a2 ≤ 2147483647) (h2 : 0 ≤ a3 ∧ a3 ≤ 2) : 0 ≤ (xx_formOf μ a1 a2 a3) ∧ (xx_formOf μ a1 a2 a3) ≤ 5 := by
  unfold xx_formOf
  have r1 : 0 ≤ (xx_isBelow a2 10) ∧ (xx_isBelow a2 10) ≤ 1 ∧ ((xx_isBelow a2 10) = 1 → 0 ≤ a2 ∧ a2 < (10 : Int)) := xr_isBelow a2 10 (by omega) (by omega)
  by_cases c2 : (xx_isBelow a2 10) = 0
  · rw [if_pos c2]
    first | omega | (dsimp only; omega)
  · rw [if_neg c2]
    by_cases c3 : a1 = 0
    · rw [if_pos c3]
      have b7 : 0 ≤ (μ 19 a2) ∧ (μ 19 a2) ≤ 1 := hB 19 a2
      first | omega | (dsimp only; omega)
    · rw [if_neg c3]
      have b4 : 0 ≤ (μ 19 a2) ∧ (μ 19 a2) ≤ 1 := hB 19 a2
      by_cases c5 : a1 = 1
      · rw [if_pos c5]
        have b6 : 0 ≤ (μ 20 a2) ∧ (μ 20 a2) ≤ 2 := hB 20 a2
        first | omega | (dsimp only; omega)
      · rw [if_neg c5]
        first | omega | (dsimp only; omega)
set_option maxHeartbeats 4000000 in
set_option maxRecDepth 100000 in
theorem xz_formOf {μ : zM} (hB : zB μ) (a1 a2 a3 : Int) (h0 : -2147483648 ≤ a1 ∧ a1 ≤ 2147483647) (h1 : -2147483648 ≤ a2 ∧ a2 ≤ 2147483647) (h2 : 0 ≤ a3 ∧ a3 ≤ 2) : Dz md_1_formOf [zr 3, zi a1, zi a2, zi a3] zSh μ (some (zi (xx_formOf μ a1 a2 a3))) zSh μ := by
  refine Dz.of (by decide) rfl rfl (show Ez md_1_formOf 0 0 0 [(0, zr 3), (1, zi a1), (2, zi a2), (3, zi a3)] [] zSh μ (some (zi (xx_formOf μ a1 a2 a3))) zSh μ from ?_)
  unfold xx_formOf
  refine Az.blk kd_1_formOf_0 (show Ez md_1_formOf 0 0 3 [(0, zr 3), (1, zi a1), (2, zi a2), (3, zi a3)] [zi 10, zi a2] zSh μ _ _ _ from ?_)
  refine Az.cSN (mc := md_5_isBelow) (n := 2) (As := [zi a2, zi 10]) (rest := []) kr_1_formOf_3 zw_372 ok_5_isBelow rfl rfl (xz_isBelow a2 10 (by omega) (by omega)) rfl rfl (show Ez md_1_formOf 0 0 6 [(0, zr 3), (1, zi a1), (2, zi a2), (3, zi a3)] [zi (xx_isBelow a2 10)] zSh μ _ _ _ from ?_)
  have r1 : 0 ≤ (xx_isBelow a2 10) ∧ (xx_isBelow a2 10) ≤ 1 ∧ ((xx_isBelow a2 10) = 1 → 0 ≤ a2 ∧ a2 < (10 : Int)) := xr_isBelow a2 10 (by omega) (by omega)
  refine Az.blk kd_1_formOf_6 (show zR (xx_isBelow a2 10) ∧ ((¬ (xx_isBelow a2 10) = 0 → Ez md_1_formOf 0 0 11 [(0, zr 3), (1, zi a1), (2, zi a2), (3, zi a3)] [] zSh μ _ _ _) ∧ ((xx_isBelow a2 10) = 0 → Ez md_1_formOf 0 0 9 [(0, zr 3), (1, zi a1), (2, zi a2), (3, zi a3)] [] zSh μ _ _ _)) from ⟨(by omega), fun c2 => ?_, fun c2 => ?_⟩)
  · rw [if_neg c2]
    refine Az.blk kd_1_formOf_11 (show zR a1 ∧ ((¬ a1 = 0 → Ez md_1_formOf 0 0 22 [(0, zr 3), (1, zi a1), (2, zi a2), (3, zi a3)] [] zSh μ _ _ _) ∧ (a1 = 0 → Ez md_1_formOf 0 0 15 [(0, zr 3), (1, zi a1), (2, zi a2), (3, zi a3)] [] zSh μ _ _ _)) from ⟨(by omega), fun c3 => ?_, fun c3 => ?_⟩)
    · rw [if_neg c3]
      have b4 : 0 ≤ (μ 19 a2) ∧ (μ 19 a2) ≤ 1 := hB 19 a2
      refine Az.blk kd_1_formOf_22 (show (0 ≤ a2 ∧ a2 < 10) ∧ zR a1 ∧ zR 1 ∧ ((¬ a1 = 1 → Ez md_1_formOf 0 0 44 [(0, zr 3), (1, zi a1), (2, zi a2), (3, zi a3)] [zi (3 * (μ 19 a2))] zSh μ _ _ _) ∧ (a1 = 1 → Ez md_1_formOf 0 0 35 [(0, zr 3), (1, zi a1), (2, zi a2), (3, zi a3)] [zi (3 * (μ 19 a2))] zSh μ _ _ _)) from ⟨(by omega), (by omega), (by omega), fun c5 => ?_, fun c5 => ?_⟩)
      · rw [if_neg c5]
        refine Az.blk kd_1_formOf_44 (show Ez md_1_formOf 0 0 46 [(0, zr 3), (1, zi a1), (2, zi a2), (3, zi a3)] [zi ((3 * (μ 19 a2)) + a3)] zSh μ _ _ _ from ?_)
        exact Ez.iret kr_1_formOf_46 rfl (Nat.zero_le _) (Nat.zero_le _) rfl rfl
      · rw [if_pos c5]
        have b6 : 0 ≤ (μ 20 a2) ∧ (μ 20 a2) ≤ 2 := hB 20 a2
        refine Az.blk kd_1_formOf_35 (show (0 ≤ a2 ∧ a2 < 10) ∧ Ez md_1_formOf 0 0 45 [(0, zr 3), (1, zi a1), (2, zi a2), (3, zi a3)] [zi (μ 20 a2), zi (3 * (μ 19 a2))] zSh μ _ _ _ from ⟨(by omega), ?_⟩)
        refine Az.blk kd_1_formOf_45 (show Ez md_1_formOf 0 0 46 [(0, zr 3), (1, zi a1), (2, zi a2), (3, zi a3)] [zi ((3 * (μ 19 a2)) + (μ 20 a2))] zSh μ _ _ _ from ?_)
        exact Ez.iret kr_1_formOf_46 rfl (Nat.zero_le _) (Nat.zero_le _) rfl rfl
    · rw [if_pos c3]
      have b7 : 0 ≤ (μ 19 a2) ∧ (μ 19 a2) ≤ 1 := hB 19 a2
      refine Az.blk kd_1_formOf_15 (show (0 ≤ a2 ∧ a2 < 10) ∧ Ez md_1_formOf 0 0 21 [(0, zr 3), (1, zi a1), (2, zi a2), (3, zi a3)] [zi (μ 19 a2)] zSh μ _ _ _ from ⟨(by omega), ?_⟩)
      exact Ez.iret kr_1_formOf_21 rfl (Nat.zero_le _) (Nat.zero_le _) rfl rfl
  · rw [if_pos c2]
    refine Az.blk kd_1_formOf_9 (show Ez md_1_formOf 0 0 10 [(0, zr 3), (1, zi a1), (2, zi a2), (3, zi a3)] [zi 0] zSh μ _ _ _ from ?_)
    exact Ez.iret kr_1_formOf_10 rfl (Nat.zero_le _) (Nat.zero_le _) rfl rfl
def kb_1_formIn_0 : List zI := [(.aload_n 0, 1, 0, 0), (.getfield 21, 3, 1, 1), (.iload_n 1, 1, 0, 0)]
theorem kd_1_formIn_0 : zdec md_1_formIn 0 kb_1_formIn_0 = true := by decide +kernel
theorem kr_1_formIn_5 : decode md_1_formIn.2.1 5 = .ok (.invokevirtual 63, 3) := by decide +kernel
def kb_1_formIn_8 : List zI := [(.istore_n 2, 1, 0, 0), (.aload_n 0, 1, 0, 0), (.aload_n 0, 1, 0, 0), (.getfield 21, 3, 1, 1), (.iload_n 1, 1, 0, 0)]
theorem kd_1_formIn_8 : zdec md_1_formIn 8 kb_1_formIn_8 = true := by decide +kernel
theorem kr_1_formIn_15 : decode md_1_formIn.2.1 15 = .ok (.invokevirtual 66, 3) := by decide +kernel
def kb_1_formIn_18 : List zI := [(.iload_n 2, 1, 0, 0), (.aload_n 0, 1, 0, 0), (.iload_n 2, 1, 0, 0)]
theorem kd_1_formIn_18 : zdec md_1_formIn 18 kb_1_formIn_18 = true := by decide +kernel
theorem kr_1_formIn_21 : decode md_1_formIn.2.1 21 = .ok (.invokevirtual 69, 3) := by decide +kernel
theorem kr_1_formIn_24 : decode md_1_formIn.2.1 24 = .ok (.invokevirtual 72, 3) := by decide +kernel
theorem kr_1_formIn_27 : decode md_1_formIn.2.1 27 = .ok (.ireturn, 1) := by decide +kernel
noncomputable def xx_formIn (μ : zM) (a1 : Int) : Int := (xx_formOf μ (xx_kindOfHole μ a1) (xx_tieOf μ a1) (xx_genderOfTie μ (xx_tieOf μ a1)))
set_option maxHeartbeats 4000000 in
set_option maxRecDepth 100000 in
theorem xr_formIn {μ : zM} (hB : zB μ) (a1 : Int) (h0 : -2147483648 ≤ a1 ∧ a1 ≤ 2147483647) : 0 ≤ (xx_formIn μ a1) ∧ (xx_formIn μ a1) ≤ 5 := by
  unfold xx_formIn
  have r1 : -1 ≤ (xx_tieOf μ a1) ∧ (xx_tieOf μ a1) ≤ 9 := xr_tieOf hB a1 (by omega)
  have r2 : -1 ≤ (xx_kindOfHole μ a1) ∧ (xx_kindOfHole μ a1) ≤ 2 := xr_kindOfHole hB a1 (by omega)
  have r3 : 0 ≤ (xx_genderOfTie μ (xx_tieOf μ a1)) ∧ (xx_genderOfTie μ (xx_tieOf μ a1)) ≤ 2 := xr_genderOfTie hB (xx_tieOf μ a1) (by omega)
  have r4 : 0 ≤ (xx_formOf μ (xx_kindOfHole μ a1) (xx_tieOf μ a1) (xx_genderOfTie μ (xx_tieOf μ a1))) ∧ (xx_formOf μ (xx_kindOfHole μ a1) (xx_tieOf μ a1) (xx_genderOfTie μ (xx_tieOf μ a1))) ≤ 5 := xr_formOf hB (xx_kindOfHole μ a1) (xx_tieOf μ a1) (xx_genderOfTie μ (xx_tieOf μ a1)) (by omega) (by omega) (by omega)
  first | omega | (dsimp only; omega)
set_option maxHeartbeats 4000000 in
set_option maxRecDepth 100000 in
theorem xz_formIn {μ : zM} (hB : zB μ) (a1 : Int) (h0 : -2147483648 ≤ a1 ∧ a1 ≤ 2147483647) : Dz md_1_formIn [zr 3, zi a1] zSh μ (some (zi (xx_formIn μ a1))) zSh μ := by
  refine Dz.of (by decide) rfl rfl (show Ez md_1_formIn 0 0 0 [(0, zr 3), (1, zi a1)] [] zSh μ (some (zi (xx_formIn μ a1))) zSh μ from ?_)
  unfold xx_formIn
  refine Az.blk kd_1_formIn_0 (show Ez md_1_formIn 0 0 5 [(0, zr 3), (1, zi a1)] [zi a1, zr 10] zSh μ _ _ _ from ?_)
  refine Az.cVN (mc := md_2_tieOf) (k := 10) (n := 1) (As := [zi a1]) (rest := []) kr_1_formIn_5 zw_344 ok_2_tieOf rfl rfl rfl trivial (xz_tieOf hB a1 (by omega)) rfl rfl (show Ez md_1_formIn 0 0 8 [(0, zr 3), (1, zi a1)] [zi (xx_tieOf μ a1)] zSh μ _ _ _ from ?_)
  have r1 : -1 ≤ (xx_tieOf μ a1) ∧ (xx_tieOf μ a1) ≤ 9 := xr_tieOf hB a1 (by omega)
  refine Az.blk kd_1_formIn_8 (show Ez md_1_formIn 0 0 15 [(2, zi (xx_tieOf μ a1)), (0, zr 3), (1, zi a1)] [zi a1, zr 10, zr 3] zSh μ _ _ _ from ?_)
  refine Az.cVN (mc := md_2_kindOfHole) (k := 10) (n := 1) (As := [zi a1]) (rest := [zr 3]) kr_1_formIn_15 zw_348 ok_2_kindOfHole rfl rfl rfl trivial (xz_kindOfHole hB a1 (by omega)) rfl rfl (show Ez md_1_formIn 0 0 18 [(2, zi (xx_tieOf μ a1)), (0, zr 3), (1, zi a1)] [zi (xx_kindOfHole μ a1), zr 3] zSh μ _ _ _ from ?_)
  have r2 : -1 ≤ (xx_kindOfHole μ a1) ∧ (xx_kindOfHole μ a1) ≤ 2 := xr_kindOfHole hB a1 (by omega)
  refine Az.blk kd_1_formIn_18 (show Ez md_1_formIn 0 0 21 [(2, zi (xx_tieOf μ a1)), (0, zr 3), (1, zi a1)] [zi (xx_tieOf μ a1), zr 3, zi (xx_tieOf μ a1), zi (xx_kindOfHole μ a1), zr 3] zSh μ _ _ _ from ?_)
  refine Az.cV (mc := md_1_genderOfTie) (k := 3) (n := 1) (As := [zi (xx_tieOf μ a1)]) (rest := [zi (xx_tieOf μ a1), zi (xx_kindOfHole μ a1), zr 3]) kr_1_formIn_21 zw_352 ok_1_genderOfTie rfl rfl rfl trivial (xz_genderOfTie hB (xx_tieOf μ a1) (by omega)) rfl rfl (show Ez md_1_formIn 0 0 24 [(2, zi (xx_tieOf μ a1)), (0, zr 3), (1, zi a1)] [zi (xx_genderOfTie μ (xx_tieOf μ a1)), zi (xx_tieOf μ a1), zi (xx_kindOfHole μ a1), zr 3] zSh μ _ _ _ from ?_)
  have r3 : 0 ≤ (xx_genderOfTie μ (xx_tieOf μ a1)) ∧ (xx_genderOfTie μ (xx_tieOf μ a1)) ≤ 2 := xr_genderOfTie hB (xx_tieOf μ a1) (by omega)
  refine Az.cV (mc := md_1_formOf) (k := 3) (n := 3) (As := [zi (xx_kindOfHole μ a1), zi (xx_tieOf μ a1), zi (xx_genderOfTie μ (xx_tieOf μ a1))]) (rest := []) kr_1_formIn_24 zw_368 ok_1_formOf rfl rfl rfl trivial (xz_formOf hB (xx_kindOfHole μ a1) (xx_tieOf μ a1) (xx_genderOfTie μ (xx_tieOf μ a1)) (by omega) (by omega) (by omega)) rfl rfl (show Ez md_1_formIn 0 0 27 [(2, zi (xx_tieOf μ a1)), (0, zr 3), (1, zi a1)] [zi (xx_formOf μ (xx_kindOfHole μ a1) (xx_tieOf μ a1) (xx_genderOfTie μ (xx_tieOf μ a1)))] zSh μ _ _ _ from ?_)
  have r4 : 0 ≤ (xx_formOf μ (xx_kindOfHole μ a1) (xx_tieOf μ a1) (xx_genderOfTie μ (xx_tieOf μ a1))) ∧ (xx_formOf μ (xx_kindOfHole μ a1) (xx_tieOf μ a1) (xx_genderOfTie μ (xx_tieOf μ a1))) ≤ 5 := xr_formOf hB (xx_kindOfHole μ a1) (xx_tieOf μ a1) (xx_genderOfTie μ (xx_tieOf μ a1)) (by omega) (by omega) (by omega)
  exact Ez.iret kr_1_formIn_27 rfl (Nat.zero_le _) (Nat.zero_le _) rfl rfl
def kb_1_lettersIn_0 : List zI := [(.aload_n 0, 1, 0, 0), (.getfield 21, 3, 1, 1), (.iload_n 1, 1, 0, 0)]
theorem kd_1_lettersIn_0 : zdec md_1_lettersIn 0 kb_1_lettersIn_0 = true := by decide +kernel
theorem kr_1_lettersIn_5 : decode md_1_lettersIn.2.1 5 = .ok (.invokevirtual 76, 3) := by decide +kernel
def kb_1_lettersIn_8 : List zI := [(.ifCond .eq 7, 3, 15, 0)]
theorem kd_1_lettersIn_8 : zdec md_1_lettersIn 8 kb_1_lettersIn_8 = true := by decide +kernel
def kb_1_lettersIn_15 : List zI := [(.aload_n 0, 1, 0, 0), (.getfield 12, 3, 1, 0), (.aload_n 0, 1, 0, 0), (.getfield 21, 3, 1, 1), (.iload_n 1, 1, 0, 0)]
theorem kd_1_lettersIn_15 : zdec md_1_lettersIn 15 kb_1_lettersIn_15 = true := by decide +kernel
theorem kr_1_lettersIn_24 : decode md_1_lettersIn.2.1 24 = .ok (.invokevirtual 80, 3) := by decide +kernel
def kb_1_lettersIn_27 : List zI := [(.aload_n 0, 1, 0, 0), (.iload_n 1, 1, 0, 0)]
theorem kd_1_lettersIn_27 : zdec md_1_lettersIn 27 kb_1_lettersIn_27 = true := by decide +kernel
theorem kr_1_lettersIn_29 : decode md_1_lettersIn.2.1 29 = .ok (.invokevirtual 83, 3) := by decide +kernel
theorem kr_1_lettersIn_32 : decode md_1_lettersIn.2.1 32 = .ok (.invokevirtual 86, 3) := by decide +kernel
theorem kr_1_lettersIn_35 : decode md_1_lettersIn.2.1 35 = .ok (.ireturn, 1) := by decide +kernel
def kb_1_lettersIn_11 : List zI := [(.iconst 0, 1, 0, 0), (.goto 23, 3, 35, 0)]
theorem kd_1_lettersIn_11 : zdec md_1_lettersIn 11 kb_1_lettersIn_11 = true := by decide +kernel
noncomputable def xx_lettersIn (μ : zM) (a1 : Int) : Int := (if (xx_isEmptyHole μ a1) = 0 then (xx_lengthOf μ (xx_wordIn μ a1) (xx_formIn μ a1)) else 0)
set_option maxHeartbeats 4000000 in
set_option maxRecDepth 100000 in
theorem xr_lettersIn {μ : zM} (hB : zB μ) (a1 : Int) (h0 : -2147483648 ≤ a1 ∧ a1 ≤ 2147483647) : 0 ≤ (xx_lettersIn μ a1) ∧ (xx_lettersIn μ a1) ≤ 10 := by
  unfold xx_lettersIn
  have r1 : 0 ≤ (xx_isEmptyHole μ a1) ∧ (xx_isEmptyHole μ a1) ≤ 1 := xr_isEmptyHole hB a1 (by omega)
  by_cases c2 : (xx_isEmptyHole μ a1) = 0
  · rw [if_pos c2]
    have r3 : -1 ≤ (xx_wordIn μ a1) ∧ (xx_wordIn μ a1) ≤ 23 := xr_wordIn hB a1 (by omega)
    have r4 : 0 ≤ (xx_formIn μ a1) ∧ (xx_formIn μ a1) ≤ 5 := xr_formIn hB a1 (by omega)
    have r5 : 0 ≤ (xx_lengthOf μ (xx_wordIn μ a1) (xx_formIn μ a1)) ∧ (xx_lengthOf μ (xx_wordIn μ a1) (xx_formIn μ a1)) ≤ 10 := xr_lengthOf hB (xx_wordIn μ a1) (xx_formIn μ a1) (by omega) (by omega)
    first | omega | (dsimp only; omega)
  · rw [if_neg c2]
    first | omega | (dsimp only; omega)
set_option maxHeartbeats 4000000 in
set_option maxRecDepth 100000 in
theorem xz_lettersIn {μ : zM} (hB : zB μ) (a1 : Int) (h0 : -2147483648 ≤ a1 ∧ a1 ≤ 2147483647) : Dz md_1_lettersIn [zr 3, zi a1] zSh μ (some (zi (xx_lettersIn μ a1))) zSh μ := by
  refine Dz.of (by decide) rfl rfl (show Ez md_1_lettersIn 0 0 0 [(0, zr 3), (1, zi a1)] [] zSh μ (some (zi (xx_lettersIn μ a1))) zSh μ from ?_)
  unfold xx_lettersIn
  refine Az.blk kd_1_lettersIn_0 (show Ez md_1_lettersIn 0 0 5 [(0, zr 3), (1, zi a1)] [zi a1, zr 10] zSh μ _ _ _ from ?_)
  refine Az.cVN (mc := md_2_isEmptyHole) (k := 10) (n := 1) (As := [zi a1]) (rest := []) kr_1_lettersIn_5 zw_335 ok_2_isEmptyHole rfl rfl rfl trivial (xz_isEmptyHole hB a1 (by omega)) rfl rfl (show Ez md_1_lettersIn 0 0 8 [(0, zr 3), (1, zi a1)] [zi (xx_isEmptyHole μ a1)] zSh μ _ _ _ from ?_)
  have r1 : 0 ≤ (xx_isEmptyHole μ a1) ∧ (xx_isEmptyHole μ a1) ≤ 1 := xr_isEmptyHole hB a1 (by omega)
  refine Az.blk kd_1_lettersIn_8 (show zR (xx_isEmptyHole μ a1) ∧ (((xx_isEmptyHole μ a1) = 0 → Ez md_1_lettersIn 0 0 15 [(0, zr 3), (1, zi a1)] [] zSh μ _ _ _) ∧ (¬ (xx_isEmptyHole μ a1) = 0 → Ez md_1_lettersIn 0 0 11 [(0, zr 3), (1, zi a1)] [] zSh μ _ _ _)) from ⟨(by omega), fun c2 => ?_, fun c2 => ?_⟩)
  · rw [if_pos c2]
    refine Az.blk kd_1_lettersIn_15 (show Ez md_1_lettersIn 0 0 24 [(0, zr 3), (1, zi a1)] [zi a1, zr 10, zr 4] zSh μ _ _ _ from ?_)
    refine Az.cVN (mc := md_2_wordIn) (k := 10) (n := 1) (As := [zi a1]) (rest := [zr 4]) kr_1_lettersIn_24 zw_339 ok_2_wordIn rfl rfl rfl trivial (xz_wordIn hB a1 (by omega)) rfl rfl (show Ez md_1_lettersIn 0 0 27 [(0, zr 3), (1, zi a1)] [zi (xx_wordIn μ a1), zr 4] zSh μ _ _ _ from ?_)
    have r3 : -1 ≤ (xx_wordIn μ a1) ∧ (xx_wordIn μ a1) ≤ 23 := xr_wordIn hB a1 (by omega)
    refine Az.blk kd_1_lettersIn_27 (show Ez md_1_lettersIn 0 0 29 [(0, zr 3), (1, zi a1)] [zi a1, zr 3, zi (xx_wordIn μ a1), zr 4] zSh μ _ _ _ from ?_)
    refine Az.cV (mc := md_1_formIn) (k := 3) (n := 1) (As := [zi a1]) (rest := [zi (xx_wordIn μ a1), zr 4]) kr_1_lettersIn_29 zw_340 ok_1_formIn rfl rfl rfl trivial (xz_formIn hB a1 (by omega)) rfl rfl (show Ez md_1_lettersIn 0 0 32 [(0, zr 3), (1, zi a1)] [zi (xx_formIn μ a1), zi (xx_wordIn μ a1), zr 4] zSh μ _ _ _ from ?_)
    have r4 : 0 ≤ (xx_formIn μ a1) ∧ (xx_formIn μ a1) ≤ 5 := xr_formIn hB a1 (by omega)
    refine Az.cVN (mc := md_4_lengthOf) (k := 4) (n := 2) (As := [zi (xx_wordIn μ a1), zi (xx_formIn μ a1)]) (rest := []) kr_1_lettersIn_32 zw_373 ok_4_lengthOf rfl rfl rfl trivial (xz_lengthOf hB (xx_wordIn μ a1) (xx_formIn μ a1) (by omega) (by omega)) rfl rfl (show Ez md_1_lettersIn 0 0 35 [(0, zr 3), (1, zi a1)] [zi (xx_lengthOf μ (xx_wordIn μ a1) (xx_formIn μ a1))] zSh μ _ _ _ from ?_)
    have r5 : 0 ≤ (xx_lengthOf μ (xx_wordIn μ a1) (xx_formIn μ a1)) ∧ (xx_lengthOf μ (xx_wordIn μ a1) (xx_formIn μ a1)) ≤ 10 := xr_lengthOf hB (xx_wordIn μ a1) (xx_formIn μ a1) (by omega) (by omega)
    exact Ez.iret kr_1_lettersIn_35 rfl (Nat.zero_le _) (Nat.zero_le _) rfl rfl
  · rw [if_neg c2]
    refine Az.blk kd_1_lettersIn_11 (show Ez md_1_lettersIn 0 0 35 [(0, zr 3), (1, zi a1)] [zi 0] zSh μ _ _ _ from ?_)
    exact Ez.iret kr_1_lettersIn_35 rfl (Nat.zero_le _) (Nat.zero_le _) rfl rfl
def kb_1_lengthOfItem_0 : List zI := [(.aload_n 0, 1, 0, 0), (.getfield 21, 3, 1, 1), (.iload_n 1, 1, 0, 0)]
theorem kd_1_lengthOfItem_0 : zdec md_1_lengthOfItem 0 kb_1_lengthOfItem_0 = true := by decide +kernel
theorem kr_1_lengthOfItem_5 : decode md_1_lengthOfItem.2.1 5 = .ok (.invokevirtual 127, 3) := by decide +kernel
def kb_1_lengthOfItem_8 : List zI := [(.istore_n 2, 1, 0, 0), (.iload_n 2, 1, 0, 0), (.iconst (-1), 1, 0, 0), (.if_icmp .ne 12, 3, 23, 0)]
theorem kd_1_lengthOfItem_8 : zdec md_1_lengthOfItem 8 kb_1_lengthOfItem_8 = true := by decide +kernel
def kb_1_lengthOfItem_23 : List zI := [(.aload_n 0, 1, 0, 0), (.getfield 21, 3, 1, 1), (.iload_n 2, 1, 0, 0)]
theorem kd_1_lengthOfItem_23 : zdec md_1_lengthOfItem 23 kb_1_lengthOfItem_23 = true := by decide +kernel
theorem kr_1_lengthOfItem_28 : decode md_1_lengthOfItem.2.1 28 = .ok (.invokevirtual 76, 3) := by decide +kernel
def kb_1_lengthOfItem_31 : List zI := [(.ifCond .eq 7, 3, 38, 0)]
theorem kd_1_lengthOfItem_31 : zdec md_1_lengthOfItem 31 kb_1_lengthOfItem_31 = true := by decide +kernel
def kb_1_lengthOfItem_38 : List zI := [(.aload_n 0, 1, 0, 0), (.getfield 12, 3, 1, 0), (.aload_n 0, 1, 0, 0), (.getfield 21, 3, 1, 1), (.iload_n 2, 1, 0, 0)]
theorem kd_1_lengthOfItem_38 : zdec md_1_lengthOfItem 38 kb_1_lengthOfItem_38 = true := by decide +kernel
theorem kr_1_lengthOfItem_47 : decode md_1_lengthOfItem.2.1 47 = .ok (.invokevirtual 80, 3) := by decide +kernel
def kb_1_lengthOfItem_50 : List zI := [(.aload_n 0, 1, 0, 0), (.iload_n 2, 1, 0, 0)]
theorem kd_1_lengthOfItem_50 : zdec md_1_lengthOfItem 50 kb_1_lengthOfItem_50 = true := by decide +kernel
theorem kr_1_lengthOfItem_52 : decode md_1_lengthOfItem.2.1 52 = .ok (.invokevirtual 83, 3) := by decide +kernel
theorem kr_1_lengthOfItem_55 : decode md_1_lengthOfItem.2.1 55 = .ok (.invokevirtual 86, 3) := by decide +kernel
theorem kr_1_lengthOfItem_58 : decode md_1_lengthOfItem.2.1 58 = .ok (.ireturn, 1) := by decide +kernel
def kb_1_lengthOfItem_34 : List zI := [(.iconst 1, 1, 0, 0), (.goto 23, 3, 58, 0)]
theorem kd_1_lengthOfItem_34 : zdec md_1_lengthOfItem 34 kb_1_lengthOfItem_34 = true := by decide +kernel
def kb_1_lengthOfItem_14 : List zI := [(.aload_n 0, 1, 0, 0), (.getfield 21, 3, 1, 1), (.iload_n 1, 1, 0, 0)]
theorem kd_1_lengthOfItem_14 : zdec md_1_lengthOfItem 14 kb_1_lengthOfItem_14 = true := by decide +kernel
theorem kr_1_lengthOfItem_19 : decode md_1_lengthOfItem.2.1 19 = .ok (.invokevirtual 130, 3) := by decide +kernel
theorem kr_1_lengthOfItem_22 : decode md_1_lengthOfItem.2.1 22 = .ok (.ireturn, 1) := by decide +kernel
noncomputable def xx_lengthOfItem (μ : zM) (a1 : Int) : Int := (if (xx_holeOfItem μ a1) = (-1) then (xx_plainLengthOf μ a1) else (if (xx_isEmptyHole μ (xx_holeOfItem μ a1)) = 0 then (xx_lengthOf μ (xx_wordIn μ (xx_holeOfItem μ a1)) (xx_formIn μ (xx_holeOfItem μ a1))) else 1))
set_option maxHeartbeats 4000000 in
set_option maxRecDepth 100000 in
theorem xr_lengthOfItem {μ : zM} (hB : zB μ) (a1 : Int) (h0 : -2147483648 ≤ a1 ∧ a1 ≤ 2147483647) : 0 ≤ (xx_lengthOfItem μ a1) ∧ (xx_lengthOfItem μ a1) ≤ 60 := by
  unfold xx_lengthOfItem
  have r1 : -1 ≤ (xx_holeOfItem μ a1) ∧ (xx_holeOfItem μ a1) ≤ 19 := xr_holeOfItem hB a1 (by omega)
  by_cases c2 : (xx_holeOfItem μ a1) = (-1)
  · rw [if_pos c2]
    have r8 : 0 ≤ (xx_plainLengthOf μ a1) ∧ (xx_plainLengthOf μ a1) ≤ 60 := xr_plainLengthOf hB a1 (by omega)
    first | omega | (dsimp only; omega)
  · rw [if_neg c2]
    have r3 : 0 ≤ (xx_isEmptyHole μ (xx_holeOfItem μ a1)) ∧ (xx_isEmptyHole μ (xx_holeOfItem μ a1)) ≤ 1 := xr_isEmptyHole hB (xx_holeOfItem μ a1) (by omega)
    by_cases c4 : (xx_isEmptyHole μ (xx_holeOfItem μ a1)) = 0
    · rw [if_pos c4]
      have r5 : -1 ≤ (xx_wordIn μ (xx_holeOfItem μ a1)) ∧ (xx_wordIn μ (xx_holeOfItem μ a1)) ≤ 23 := xr_wordIn hB (xx_holeOfItem μ a1) (by omega)
      have r6 : 0 ≤ (xx_formIn μ (xx_holeOfItem μ a1)) ∧ (xx_formIn μ (xx_holeOfItem μ a1)) ≤ 5 := xr_formIn hB (xx_holeOfItem μ a1) (by omega)
      have r7 : 0 ≤ (xx_lengthOf μ (xx_wordIn μ (xx_holeOfItem μ a1)) (xx_formIn μ (xx_holeOfItem μ a1))) ∧ (xx_lengthOf μ (xx_wordIn μ (xx_holeOfItem μ a1)) (xx_formIn μ (xx_holeOfItem μ a1))) ≤ 10 := xr_lengthOf hB (xx_wordIn μ (xx_holeOfItem μ a1)) (xx_formIn μ (xx_holeOfItem μ a1)) (by omega) (by omega)
      first | omega | (dsimp only; omega)
    · rw [if_neg c4]
      first | omega | (dsimp only; omega)
set_option maxHeartbeats 4000000 in
set_option maxRecDepth 100000 in
theorem xz_lengthOfItem {μ : zM} (hB : zB μ) (a1 : Int) (h0 : -2147483648 ≤ a1 ∧ a1 ≤ 2147483647) : Dz md_1_lengthOfItem [zr 3, zi a1] zSh μ (some (zi (xx_lengthOfItem μ a1))) zSh μ := by
  refine Dz.of (by decide) rfl rfl (show Ez md_1_lengthOfItem 0 0 0 [(0, zr 3), (1, zi a1)] [] zSh μ (some (zi (xx_lengthOfItem μ a1))) zSh μ from ?_)
  unfold xx_lengthOfItem
  refine Az.blk kd_1_lengthOfItem_0 (show Ez md_1_lengthOfItem 0 0 5 [(0, zr 3), (1, zi a1)] [zi a1, zr 10] zSh μ _ _ _ from ?_)
  refine Az.cVN (mc := md_2_holeOfItem) (k := 10) (n := 1) (As := [zi a1]) (rest := []) kr_1_lengthOfItem_5 zw_323 ok_2_holeOfItem rfl rfl rfl trivial (xz_holeOfItem hB a1 (by omega)) rfl rfl (show Ez md_1_lengthOfItem 0 0 8 [(0, zr 3), (1, zi a1)] [zi (xx_holeOfItem μ a1)] zSh μ _ _ _ from ?_)
  have r1 : -1 ≤ (xx_holeOfItem μ a1) ∧ (xx_holeOfItem μ a1) ≤ 19 := xr_holeOfItem hB a1 (by omega)
  refine Az.blk kd_1_lengthOfItem_8 (show zR (xx_holeOfItem μ a1) ∧ zR (-1) ∧ ((¬ (xx_holeOfItem μ a1) = (-1) → Ez md_1_lengthOfItem 0 0 23 [(2, zi (xx_holeOfItem μ a1)), (0, zr 3), (1, zi a1)] [] zSh μ _ _ _) ∧ ((xx_holeOfItem μ a1) = (-1) → Ez md_1_lengthOfItem 0 0 14 [(2, zi (xx_holeOfItem μ a1)), (0, zr 3), (1, zi a1)] [] zSh μ _ _ _)) from ⟨(by omega), (by omega), fun c2 => ?_, fun c2 => ?_⟩)
  · rw [if_neg c2]
    refine Az.blk kd_1_lengthOfItem_23 (show Ez md_1_lengthOfItem 0 0 28 [(2, zi (xx_holeOfItem μ a1)), (0, zr 3), (1, zi a1)] [zi (xx_holeOfItem μ a1), zr 10] zSh μ _ _ _ from ?_)
    refine Az.cVN (mc := md_2_isEmptyHole) (k := 10) (n := 1) (As := [zi (xx_holeOfItem μ a1)]) (rest := []) kr_1_lengthOfItem_28 zw_335 ok_2_isEmptyHole rfl rfl rfl trivial (xz_isEmptyHole hB (xx_holeOfItem μ a1) (by omega)) rfl rfl (show Ez md_1_lengthOfItem 0 0 31 [(2, zi (xx_holeOfItem μ a1)), (0, zr 3), (1, zi a1)] [zi (xx_isEmptyHole μ (xx_holeOfItem μ a1))] zSh μ _ _ _ from ?_)
    have r3 : 0 ≤ (xx_isEmptyHole μ (xx_holeOfItem μ a1)) ∧ (xx_isEmptyHole μ (xx_holeOfItem μ a1)) ≤ 1 := xr_isEmptyHole hB (xx_holeOfItem μ a1) (by omega)
    refine Az.blk kd_1_lengthOfItem_31 (show zR (xx_isEmptyHole μ (xx_holeOfItem μ a1)) ∧ (((xx_isEmptyHole μ (xx_holeOfItem μ a1)) = 0 → Ez md_1_lengthOfItem 0 0 38 [(2, zi (xx_holeOfItem μ a1)), (0, zr 3), (1, zi a1)] [] zSh μ _ _ _) ∧ (¬ (xx_isEmptyHole μ (xx_holeOfItem μ a1)) = 0 → Ez md_1_lengthOfItem 0 0 34 [(2, zi (xx_holeOfItem μ a1)), (0, zr 3), (1, zi a1)] [] zSh μ _ _ _)) from ⟨(by omega), fun c4 => ?_, fun c4 => ?_⟩)
    · rw [if_pos c4]
      refine Az.blk kd_1_lengthOfItem_38 (show Ez md_1_lengthOfItem 0 0 47 [(2, zi (xx_holeOfItem μ a1)), (0, zr 3), (1, zi a1)] [zi (xx_holeOfItem μ a1), zr 10, zr 4] zSh μ _ _ _ from ?_)
      refine Az.cVN (mc := md_2_wordIn) (k := 10) (n := 1) (As := [zi (xx_holeOfItem μ a1)]) (rest := [zr 4]) kr_1_lengthOfItem_47 zw_339 ok_2_wordIn rfl rfl rfl trivial (xz_wordIn hB (xx_holeOfItem μ a1) (by omega)) rfl rfl (show Ez md_1_lengthOfItem 0 0 50 [(2, zi (xx_holeOfItem μ a1)), (0, zr 3), (1, zi a1)] [zi (xx_wordIn μ (xx_holeOfItem μ a1)), zr 4] zSh μ _ _ _ from ?_)
      have r5 : -1 ≤ (xx_wordIn μ (xx_holeOfItem μ a1)) ∧ (xx_wordIn μ (xx_holeOfItem μ a1)) ≤ 23 := xr_wordIn hB (xx_holeOfItem μ a1) (by omega)
      refine Az.blk kd_1_lengthOfItem_50 (show Ez md_1_lengthOfItem 0 0 52 [(2, zi (xx_holeOfItem μ a1)), (0, zr 3), (1, zi a1)] [zi (xx_holeOfItem μ a1), zr 3, zi (xx_wordIn μ (xx_holeOfItem μ a1)), zr 4] zSh μ _ _ _ from ?_)
      refine Az.cV (mc := md_1_formIn) (k := 3) (n := 1) (As := [zi (xx_holeOfItem μ a1)]) (rest := [zi (xx_wordIn μ (xx_holeOfItem μ a1)), zr 4]) kr_1_lengthOfItem_52 zw_340 ok_1_formIn rfl rfl rfl trivial (xz_formIn hB (xx_holeOfItem μ a1) (by omega)) rfl rfl (show Ez md_1_lengthOfItem 0 0 55 [(2, zi (xx_holeOfItem μ a1)), (0, zr 3), (1, zi a1)] [zi (xx_formIn μ (xx_holeOfItem μ a1)), zi (xx_wordIn μ (xx_holeOfItem μ a1)), zr 4] zSh μ _ _ _ from ?_)
      have r6 : 0 ≤ (xx_formIn μ (xx_holeOfItem μ a1)) ∧ (xx_formIn μ (xx_holeOfItem μ a1)) ≤ 5 := xr_formIn hB (xx_holeOfItem μ a1) (by omega)
      refine Az.cVN (mc := md_4_lengthOf) (k := 4) (n := 2) (As := [zi (xx_wordIn μ (xx_holeOfItem μ a1)), zi (xx_formIn μ (xx_holeOfItem μ a1))]) (rest := []) kr_1_lengthOfItem_55 zw_373 ok_4_lengthOf rfl rfl rfl trivial (xz_lengthOf hB (xx_wordIn μ (xx_holeOfItem μ a1)) (xx_formIn μ (xx_holeOfItem μ a1)) (by omega) (by omega)) rfl rfl (show Ez md_1_lengthOfItem 0 0 58 [(2, zi (xx_holeOfItem μ a1)), (0, zr 3), (1, zi a1)] [zi (xx_lengthOf μ (xx_wordIn μ (xx_holeOfItem μ a1)) (xx_formIn μ (xx_holeOfItem μ a1)))] zSh μ _ _ _ from ?_)
      have r7 : 0 ≤ (xx_lengthOf μ (xx_wordIn μ (xx_holeOfItem μ a1)) (xx_formIn μ (xx_holeOfItem μ a1))) ∧ (xx_lengthOf μ (xx_wordIn μ (xx_holeOfItem μ a1)) (xx_formIn μ (xx_holeOfItem μ a1))) ≤ 10 := xr_lengthOf hB (xx_wordIn μ (xx_holeOfItem μ a1)) (xx_formIn μ (xx_holeOfItem μ a1)) (by omega) (by omega)
      exact Ez.iret kr_1_lengthOfItem_58 rfl (Nat.zero_le _) (Nat.zero_le _) rfl rfl
    · rw [if_neg c4]
      refine Az.blk kd_1_lengthOfItem_34 (show Ez md_1_lengthOfItem 0 0 58 [(2, zi (xx_holeOfItem μ a1)), (0, zr 3), (1, zi a1)] [zi 1] zSh μ _ _ _ from ?_)
      exact Ez.iret kr_1_lengthOfItem_58 rfl (Nat.zero_le _) (Nat.zero_le _) rfl rfl
  · rw [if_pos c2]
    refine Az.blk kd_1_lengthOfItem_14 (show Ez md_1_lengthOfItem 0 0 19 [(2, zi (xx_holeOfItem μ a1)), (0, zr 3), (1, zi a1)] [zi a1, zr 10] zSh μ _ _ _ from ?_)
    refine Az.cVN (mc := md_2_plainLengthOf) (k := 10) (n := 1) (As := [zi a1]) (rest := []) kr_1_lengthOfItem_19 zw_331 ok_2_plainLengthOf rfl rfl rfl trivial (xz_plainLengthOf hB a1 (by omega)) rfl rfl (show Ez md_1_lengthOfItem 0 0 22 [(2, zi (xx_holeOfItem μ a1)), (0, zr 3), (1, zi a1)] [zi (xx_plainLengthOf μ a1)] zSh μ _ _ _ from ?_)
    have r8 : 0 ≤ (xx_plainLengthOf μ a1) ∧ (xx_plainLengthOf μ a1) ≤ 60 := xr_plainLengthOf hB a1 (by omega)
    exact Ez.iret kr_1_lengthOfItem_22 rfl (Nat.zero_le _) (Nat.zero_le _) rfl rfl
def kb_1_signOfItem_0 : List zI := [(.aload_n 0, 1, 0, 0), (.getfield 21, 3, 1, 1), (.iload_n 1, 1, 0, 0)]
theorem kd_1_signOfItem_0 : zdec md_1_signOfItem 0 kb_1_signOfItem_0 = true := by decide +kernel
theorem kr_1_signOfItem_5 : decode md_1_signOfItem.2.1 5 = .ok (.invokevirtual 127, 3) := by decide +kernel
def kb_1_signOfItem_8 : List zI := [(.istore_n 3, 1, 0, 0), (.iload_n 3, 1, 0, 0), (.iconst (-1), 1, 0, 0), (.if_icmp .ne 13, 3, 24, 0)]
theorem kd_1_signOfItem_8 : zdec md_1_signOfItem 8 kb_1_signOfItem_8 = true := by decide +kernel
def kb_1_signOfItem_24 : List zI := [(.aload_n 0, 1, 0, 0), (.getfield 21, 3, 1, 1), (.iload_n 3, 1, 0, 0)]
theorem kd_1_signOfItem_24 : zdec md_1_signOfItem 24 kb_1_signOfItem_24 = true := by decide +kernel
theorem kr_1_signOfItem_29 : decode md_1_signOfItem.2.1 29 = .ok (.invokevirtual 76, 3) := by decide +kernel
def kb_1_signOfItem_32 : List zI := [(.ifCond .eq 6, 3, 38, 0)]
theorem kd_1_signOfItem_32 : zdec md_1_signOfItem 32 kb_1_signOfItem_32 = true := by decide +kernel
def kb_1_signOfItem_38 : List zI := [(.bipush 96, 2, 0, 0), (.aload_n 0, 1, 0, 0), (.getfield 12, 3, 1, 0), (.aload_n 0, 1, 0, 0), (.getfield 21, 3, 1, 1), (.iload_n 3, 1, 0, 0)]
theorem kd_1_signOfItem_38 : zdec md_1_signOfItem 38 kb_1_signOfItem_38 = true := by decide +kernel
theorem kr_1_signOfItem_49 : decode md_1_signOfItem.2.1 49 = .ok (.invokevirtual 80, 3) := by decide +kernel
def kb_1_signOfItem_52 : List zI := [(.aload_n 0, 1, 0, 0), (.iload_n 3, 1, 0, 0)]
theorem kd_1_signOfItem_52 : zdec md_1_signOfItem 52 kb_1_signOfItem_52 = true := by decide +kernel
theorem kr_1_signOfItem_54 : decode md_1_signOfItem.2.1 54 = .ok (.invokevirtual 83, 3) := by decide +kernel
def kb_1_signOfItem_57 : List zI := [(.iload_n 2, 1, 0, 0)]
theorem kd_1_signOfItem_57 : zdec md_1_signOfItem 57 kb_1_signOfItem_57 = true := by decide +kernel
theorem kr_1_signOfItem_58 : decode md_1_signOfItem.2.1 58 = .ok (.invokevirtual 147, 3) := by decide +kernel
def kb_1_signOfItem_61 : List zI := [(.iadd, 1, 0, 0)]
theorem kd_1_signOfItem_61 : zdec md_1_signOfItem 61 kb_1_signOfItem_61 = true := by decide +kernel
theorem kr_1_signOfItem_62 : decode md_1_signOfItem.2.1 62 = .ok (.ireturn, 1) := by decide +kernel
def kb_1_signOfItem_35 : List zI := [(.bipush 95, 2, 0, 0)]
theorem kd_1_signOfItem_35 : zdec md_1_signOfItem 35 kb_1_signOfItem_35 = true := by decide +kernel
theorem kr_1_signOfItem_37 : decode md_1_signOfItem.2.1 37 = .ok (.ireturn, 1) := by decide +kernel
def kb_1_signOfItem_14 : List zI := [(.aload_n 0, 1, 0, 0), (.getfield 21, 3, 1, 1), (.iload_n 1, 1, 0, 0), (.iload_n 2, 1, 0, 0)]
theorem kd_1_signOfItem_14 : zdec md_1_signOfItem 14 kb_1_signOfItem_14 = true := by decide +kernel
theorem kr_1_signOfItem_20 : decode md_1_signOfItem.2.1 20 = .ok (.invokevirtual 144, 3) := by decide +kernel
theorem kr_1_signOfItem_23 : decode md_1_signOfItem.2.1 23 = .ok (.ireturn, 1) := by decide +kernel
noncomputable def xx_signOfItem (μ : zM) (a1 a2 : Int) : Int := (if (xx_holeOfItem μ a1) = (-1) then (xx_plainSignOf μ a1 a2) else (if (xx_isEmptyHole μ (xx_holeOfItem μ a1)) = 0 then (96 + (xx_letterAt μ (xx_wordIn μ (xx_holeOfItem μ a1)) (xx_formIn μ (xx_holeOfItem μ a1)) a2)) else 95))
set_option maxHeartbeats 4000000 in
set_option maxRecDepth 100000 in
theorem xr_signOfItem {μ : zM} (hB : zB μ) (a1 a2 : Int) (h0 : -2147483648 ≤ a1 ∧ a1 ≤ 2147483647) (h1 : 0 ≤ a2 ∧ a2 ≤ 1000) : 0 ≤ (xx_signOfItem μ a1 a2) ∧ (xx_signOfItem μ a1 a2) ≤ 65535 := by
  unfold xx_signOfItem
  have r1 : -1 ≤ (xx_holeOfItem μ a1) ∧ (xx_holeOfItem μ a1) ≤ 19 := xr_holeOfItem hB a1 (by omega)
  by_cases c2 : (xx_holeOfItem μ a1) = (-1)
  · rw [if_pos c2]
    have r8 : 0 ≤ (xx_plainSignOf μ a1 a2) ∧ (xx_plainSignOf μ a1 a2) ≤ 65535 := xr_plainSignOf hB a1 a2 (by omega) (by omega)
    first | omega | (dsimp only; omega)
  · rw [if_neg c2]
    have r3 : 0 ≤ (xx_isEmptyHole μ (xx_holeOfItem μ a1)) ∧ (xx_isEmptyHole μ (xx_holeOfItem μ a1)) ≤ 1 := xr_isEmptyHole hB (xx_holeOfItem μ a1) (by omega)
    by_cases c4 : (xx_isEmptyHole μ (xx_holeOfItem μ a1)) = 0
    · rw [if_pos c4]
      have r5 : -1 ≤ (xx_wordIn μ (xx_holeOfItem μ a1)) ∧ (xx_wordIn μ (xx_holeOfItem μ a1)) ≤ 23 := xr_wordIn hB (xx_holeOfItem μ a1) (by omega)
      have r6 : 0 ≤ (xx_formIn μ (xx_holeOfItem μ a1)) ∧ (xx_formIn μ (xx_holeOfItem μ a1)) ≤ 5 := xr_formIn hB (xx_holeOfItem μ a1) (by omega)
      have r7 : 0 ≤ (xx_letterAt μ (xx_wordIn μ (xx_holeOfItem μ a1)) (xx_formIn μ (xx_holeOfItem μ a1)) a2) ∧ (xx_letterAt μ (xx_wordIn μ (xx_holeOfItem μ a1)) (xx_formIn μ (xx_holeOfItem μ a1)) a2) ≤ 26 := xr_letterAt hB (xx_wordIn μ (xx_holeOfItem μ a1)) (xx_formIn μ (xx_holeOfItem μ a1)) a2 (by omega) (by omega) (by omega)
      first | omega | (dsimp only; omega)
    · rw [if_neg c4]
      first | omega | (dsimp only; omega)
set_option maxHeartbeats 4000000 in
set_option maxRecDepth 100000 in
theorem xz_signOfItem {μ : zM} (hB : zB μ) (a1 a2 : Int) (h0 : -2147483648 ≤ a1 ∧ a1 ≤ 2147483647) (h1 : 0 ≤ a2 ∧ a2 ≤ 1000) : Dz md_1_signOfItem [zr 3, zi a1, zi a2] zSh μ (some (zi (xx_signOfItem μ a1 a2))) zSh μ := by
  refine Dz.of (by decide) rfl rfl (show Ez md_1_signOfItem 0 0 0 [(0, zr 3), (1, zi a1), (2, zi a2)] [] zSh μ (some (zi (xx_signOfItem μ a1 a2))) zSh μ from ?_)
  unfold xx_signOfItem
  refine Az.blk kd_1_signOfItem_0 (show Ez md_1_signOfItem 0 0 5 [(0, zr 3), (1, zi a1), (2, zi a2)] [zi a1, zr 10] zSh μ _ _ _ from ?_)
  refine Az.cVN (mc := md_2_holeOfItem) (k := 10) (n := 1) (As := [zi a1]) (rest := []) kr_1_signOfItem_5 zw_323 ok_2_holeOfItem rfl rfl rfl trivial (xz_holeOfItem hB a1 (by omega)) rfl rfl (show Ez md_1_signOfItem 0 0 8 [(0, zr 3), (1, zi a1), (2, zi a2)] [zi (xx_holeOfItem μ a1)] zSh μ _ _ _ from ?_)
  have r1 : -1 ≤ (xx_holeOfItem μ a1) ∧ (xx_holeOfItem μ a1) ≤ 19 := xr_holeOfItem hB a1 (by omega)
  refine Az.blk kd_1_signOfItem_8 (show zR (xx_holeOfItem μ a1) ∧ zR (-1) ∧ ((¬ (xx_holeOfItem μ a1) = (-1) → Ez md_1_signOfItem 0 0 24 [(3, zi (xx_holeOfItem μ a1)), (0, zr 3), (1, zi a1), (2, zi a2)] [] zSh μ _ _ _) ∧ ((xx_holeOfItem μ a1) = (-1) → Ez md_1_signOfItem 0 0 14 [(3, zi (xx_holeOfItem μ a1)), (0, zr 3), (1, zi a1), (2, zi a2)] [] zSh μ _ _ _)) from ⟨(by omega), (by omega), fun c2 => ?_, fun c2 => ?_⟩)
  · rw [if_neg c2]
    refine Az.blk kd_1_signOfItem_24 (show Ez md_1_signOfItem 0 0 29 [(3, zi (xx_holeOfItem μ a1)), (0, zr 3), (1, zi a1), (2, zi a2)] [zi (xx_holeOfItem μ a1), zr 10] zSh μ _ _ _ from ?_)
    refine Az.cVN (mc := md_2_isEmptyHole) (k := 10) (n := 1) (As := [zi (xx_holeOfItem μ a1)]) (rest := []) kr_1_signOfItem_29 zw_335 ok_2_isEmptyHole rfl rfl rfl trivial (xz_isEmptyHole hB (xx_holeOfItem μ a1) (by omega)) rfl rfl (show Ez md_1_signOfItem 0 0 32 [(3, zi (xx_holeOfItem μ a1)), (0, zr 3), (1, zi a1), (2, zi a2)] [zi (xx_isEmptyHole μ (xx_holeOfItem μ a1))] zSh μ _ _ _ from ?_)
    have r3 : 0 ≤ (xx_isEmptyHole μ (xx_holeOfItem μ a1)) ∧ (xx_isEmptyHole μ (xx_holeOfItem μ a1)) ≤ 1 := xr_isEmptyHole hB (xx_holeOfItem μ a1) (by omega)
    refine Az.blk kd_1_signOfItem_32 (show zR (xx_isEmptyHole μ (xx_holeOfItem μ a1)) ∧ (((xx_isEmptyHole μ (xx_holeOfItem μ a1)) = 0 → Ez md_1_signOfItem 0 0 38 [(3, zi (xx_holeOfItem μ a1)), (0, zr 3), (1, zi a1), (2, zi a2)] [] zSh μ _ _ _) ∧ (¬ (xx_isEmptyHole μ (xx_holeOfItem μ a1)) = 0 → Ez md_1_signOfItem 0 0 35 [(3, zi (xx_holeOfItem μ a1)), (0, zr 3), (1, zi a1), (2, zi a2)] [] zSh μ _ _ _)) from ⟨(by omega), fun c4 => ?_, fun c4 => ?_⟩)
    · rw [if_pos c4]
      refine Az.blk kd_1_signOfItem_38 (show Ez md_1_signOfItem 0 0 49 [(3, zi (xx_holeOfItem μ a1)), (0, zr 3), (1, zi a1), (2, zi a2)] [zi (xx_holeOfItem μ a1), zr 10, zr 4, zi 96] zSh μ _ _ _ from ?_)
      refine Az.cVN (mc := md_2_wordIn) (k := 10) (n := 1) (As := [zi (xx_holeOfItem μ a1)]) (rest := [zr 4, zi 96]) kr_1_signOfItem_49 zw_339 ok_2_wordIn rfl rfl rfl trivial (xz_wordIn hB (xx_holeOfItem μ a1) (by omega)) rfl rfl (show Ez md_1_signOfItem 0 0 52 [(3, zi (xx_holeOfItem μ a1)), (0, zr 3), (1, zi a1), (2, zi a2)] [zi (xx_wordIn μ (xx_holeOfItem μ a1)), zr 4, zi 96] zSh μ _ _ _ from ?_)
      have r5 : -1 ≤ (xx_wordIn μ (xx_holeOfItem μ a1)) ∧ (xx_wordIn μ (xx_holeOfItem μ a1)) ≤ 23 := xr_wordIn hB (xx_holeOfItem μ a1) (by omega)
      refine Az.blk kd_1_signOfItem_52 (show Ez md_1_signOfItem 0 0 54 [(3, zi (xx_holeOfItem μ a1)), (0, zr 3), (1, zi a1), (2, zi a2)] [zi (xx_holeOfItem μ a1), zr 3, zi (xx_wordIn μ (xx_holeOfItem μ a1)), zr 4, zi 96] zSh μ _ _ _ from ?_)
      refine Az.cV (mc := md_1_formIn) (k := 3) (n := 1) (As := [zi (xx_holeOfItem μ a1)]) (rest := [zi (xx_wordIn μ (xx_holeOfItem μ a1)), zr 4, zi 96]) kr_1_signOfItem_54 zw_340 ok_1_formIn rfl rfl rfl trivial (xz_formIn hB (xx_holeOfItem μ a1) (by omega)) rfl rfl (show Ez md_1_signOfItem 0 0 57 [(3, zi (xx_holeOfItem μ a1)), (0, zr 3), (1, zi a1), (2, zi a2)] [zi (xx_formIn μ (xx_holeOfItem μ a1)), zi (xx_wordIn μ (xx_holeOfItem μ a1)), zr 4, zi 96] zSh μ _ _ _ from ?_)
      have r6 : 0 ≤ (xx_formIn μ (xx_holeOfItem μ a1)) ∧ (xx_formIn μ (xx_holeOfItem μ a1)) ≤ 5 := xr_formIn hB (xx_holeOfItem μ a1) (by omega)
      refine Az.blk kd_1_signOfItem_57 (show Ez md_1_signOfItem 0 0 58 [(3, zi (xx_holeOfItem μ a1)), (0, zr 3), (1, zi a1), (2, zi a2)] [zi a2, zi (xx_formIn μ (xx_holeOfItem μ a1)), zi (xx_wordIn μ (xx_holeOfItem μ a1)), zr 4, zi 96] zSh μ _ _ _ from ?_)
      refine Az.cVN (mc := md_4_letterAt) (k := 4) (n := 3) (As := [zi (xx_wordIn μ (xx_holeOfItem μ a1)), zi (xx_formIn μ (xx_holeOfItem μ a1)), zi a2]) (rest := [zi 96]) kr_1_signOfItem_58 zw_602 ok_4_letterAt rfl rfl rfl trivial (xz_letterAt hB (xx_wordIn μ (xx_holeOfItem μ a1)) (xx_formIn μ (xx_holeOfItem μ a1)) a2 (by omega) (by omega) (by omega)) rfl rfl (show Ez md_1_signOfItem 0 0 61 [(3, zi (xx_holeOfItem μ a1)), (0, zr 3), (1, zi a1), (2, zi a2)] [zi (xx_letterAt μ (xx_wordIn μ (xx_holeOfItem μ a1)) (xx_formIn μ (xx_holeOfItem μ a1)) a2), zi 96] zSh μ _ _ _ from ?_)
      have r7 : 0 ≤ (xx_letterAt μ (xx_wordIn μ (xx_holeOfItem μ a1)) (xx_formIn μ (xx_holeOfItem μ a1)) a2) ∧ (xx_letterAt μ (xx_wordIn μ (xx_holeOfItem μ a1)) (xx_formIn μ (xx_holeOfItem μ a1)) a2) ≤ 26 := xr_letterAt hB (xx_wordIn μ (xx_holeOfItem μ a1)) (xx_formIn μ (xx_holeOfItem μ a1)) a2 (by omega) (by omega) (by omega)
      refine Az.blk kd_1_signOfItem_61 (show Ez md_1_signOfItem 0 0 62 [(3, zi (xx_holeOfItem μ a1)), (0, zr 3), (1, zi a1), (2, zi a2)] [zi (96 + (xx_letterAt μ (xx_wordIn μ (xx_holeOfItem μ a1)) (xx_formIn μ (xx_holeOfItem μ a1)) a2))] zSh μ _ _ _ from ?_)
      exact Ez.iret kr_1_signOfItem_62 rfl (Nat.zero_le _) (Nat.zero_le _) rfl rfl
    · rw [if_neg c4]
      refine Az.blk kd_1_signOfItem_35 (show Ez md_1_signOfItem 0 0 37 [(3, zi (xx_holeOfItem μ a1)), (0, zr 3), (1, zi a1), (2, zi a2)] [zi 95] zSh μ _ _ _ from ?_)
      exact Ez.iret kr_1_signOfItem_37 rfl (Nat.zero_le _) (Nat.zero_le _) rfl rfl
  · rw [if_pos c2]
    refine Az.blk kd_1_signOfItem_14 (show Ez md_1_signOfItem 0 0 20 [(3, zi (xx_holeOfItem μ a1)), (0, zr 3), (1, zi a1), (2, zi a2)] [zi a2, zi a1, zr 10] zSh μ _ _ _ from ?_)
    refine Az.cVN (mc := md_2_plainSignOf) (k := 10) (n := 2) (As := [zi a1, zi a2]) (rest := []) kr_1_signOfItem_20 zw_598 ok_2_plainSignOf rfl rfl rfl trivial (xz_plainSignOf hB a1 a2 (by omega) (by omega)) rfl rfl (show Ez md_1_signOfItem 0 0 23 [(3, zi (xx_holeOfItem μ a1)), (0, zr 3), (1, zi a1), (2, zi a2)] [zi (xx_plainSignOf μ a1 a2)] zSh μ _ _ _ from ?_)
    have r8 : 0 ≤ (xx_plainSignOf μ a1 a2) ∧ (xx_plainSignOf μ a1 a2) ≤ 65535 := xr_plainSignOf hB a1 a2 (by omega) (by omega)
    exact Ez.iret kr_1_signOfItem_23 rfl (Nat.zero_le _) (Nat.zero_le _) rfl rfl
def kb_1_signToldAt_0 : List zI := [(.iload_n 1, 1, 0, 0), (.istore_n 2, 1, 0, 0), (.iconst 0, 1, 0, 0), (.istore_n 3, 1, 0, 0)]
theorem kd_1_signToldAt_0 : zdec md_1_signToldAt 0 kb_1_signToldAt_0 = true := by decide +kernel
def kb_1_signToldAt_4 : List zI := [(.iload_n 3, 1, 0, 0), (.aload_n 0, 1, 0, 0), (.getfield 21, 3, 1, 1), (.getfield 133, 3, 2, 0), (.if_icmp .ge 63, 3, 75, 0)]
theorem kd_1_signToldAt_4 : zdec md_1_signToldAt 4 kb_1_signToldAt_4 = true := by decide +kernel
def kb_1_signToldAt_75 : List zI := [(.bipush (-5), 2, 0, 0)]
theorem kd_1_signToldAt_75 : zdec md_1_signToldAt 75 kb_1_signToldAt_75 = true := by decide +kernel
theorem kr_1_signToldAt_77 : decode md_1_signToldAt.2.1 77 = .ok (.ireturn, 1) := by decide +kernel
def kb_1_signToldAt_15 : List zI := [(.aload_n 0, 1, 0, 0), (.iload_n 3, 1, 0, 0)]
theorem kd_1_signToldAt_15 : zdec md_1_signToldAt 15 kb_1_signToldAt_15 = true := by decide +kernel
theorem kr_1_signToldAt_17 : decode md_1_signToldAt.2.1 17 = .ok (.invokevirtual 141, 3) := by decide +kernel
def kb_1_signToldAt_20 : List zI := [(.istore 4, 2, 0, 0), (.iload_n 2, 1, 0, 0), (.iload 4, 2, 0, 0), (.if_icmp .ge 10, 3, 35, 0)]
theorem kd_1_signToldAt_20 : zdec md_1_signToldAt 20 kb_1_signToldAt_20 = true := by decide +kernel
def kb_1_signToldAt_35 : List zI := [(.iload_n 2, 1, 0, 0), (.iload 4, 2, 0, 0), (.if_icmp .ne 24, 3, 62, 0)]
theorem kd_1_signToldAt_35 : zdec md_1_signToldAt 35 kb_1_signToldAt_35 = true := by decide +kernel
def kb_1_signToldAt_62 : List zI := [(.iload_n 2, 1, 0, 0), (.iload 4, 2, 0, 0), (.iconst 1, 1, 0, 0), (.iadd, 1, 0, 0), (.isub, 1, 0, 0), (.istore_n 2, 1, 0, 0), (.iinc 3 1, 3, 0, 0), (.goto (-68), 3, 4, 0)]
theorem kd_1_signToldAt_62 : zdec md_1_signToldAt 62 kb_1_signToldAt_62 = true := by decide +kernel
def kb_1_signToldAt_41 : List zI := [(.iload_n 3, 1, 0, 0), (.iconst 1, 1, 0, 0), (.iadd, 1, 0, 0), (.aload_n 0, 1, 0, 0), (.getfield 21, 3, 1, 1), (.getfield 133, 3, 2, 0), (.if_icmp .ge 8, 3, 59, 0)]
theorem kd_1_signToldAt_41 : zdec md_1_signToldAt 41 kb_1_signToldAt_41 = true := by decide +kernel
def kb_1_signToldAt_59 : List zI := [(.bipush (-5), 2, 0, 0)]
theorem kd_1_signToldAt_59 : zdec md_1_signToldAt 59 kb_1_signToldAt_59 = true := by decide +kernel
theorem kr_1_signToldAt_61 : decode md_1_signToldAt.2.1 61 = .ok (.ireturn, 1) := by decide +kernel
def kb_1_signToldAt_54 : List zI := [(.bipush 32, 2, 0, 0), (.goto 5, 3, 61, 0)]
theorem kd_1_signToldAt_54 : zdec md_1_signToldAt 54 kb_1_signToldAt_54 = true := by decide +kernel
def kb_1_signToldAt_28 : List zI := [(.aload_n 0, 1, 0, 0), (.iload_n 3, 1, 0, 0), (.iload_n 2, 1, 0, 0)]
theorem kd_1_signToldAt_28 : zdec md_1_signToldAt 28 kb_1_signToldAt_28 = true := by decide +kernel
theorem kr_1_signToldAt_31 : decode md_1_signToldAt.2.1 31 = .ok (.invokevirtual 150, 3) := by decide +kernel
theorem kr_1_signToldAt_34 : decode md_1_signToldAt.2.1 34 = .ok (.ireturn, 1) := by decide +kernel
noncomputable def xx_signToldAt_4 : Nat → zM → Int → Int → Int
  | 0, μ, _, _ => 0
  | f + 1, μ, l2, l3 => (if l3 < (μ 10 0) then (if l2 < (xx_lengthOfItem μ l3) then (xx_signOfItem μ l3 l2) else (if l2 = (xx_lengthOfItem μ l3) then (if (l3 + 1) < (μ 10 0) then 32 else (-5)) else (xx_signToldAt_4 f μ (l2 - ((xx_lengthOfItem μ l3) + 1)) (l3 + 1)))) else (-5))
noncomputable def xx_signToldAt (μ : zM) (a1 : Int) : Int := (xx_signToldAt_4 zN μ a1 0)
set_option maxHeartbeats 4000000 in
set_option maxRecDepth 100000 in
theorem xr_signToldAt_4 (f : Nat) (μ : zM) (hB : zB μ) (l2 : Int) (l3 : Int) (i0 : 0 ≤ l3 ∧ l3 ≤ (μ 10 0)) (i1 : 0 ≤ l2 ∧ l2 ≤ 2147483647) (hf : (μ 10 0) - l3 < (f : Int)) : -5 ≤ (xx_signToldAt_4 f μ l2 l3) ∧ (xx_signToldAt_4 f μ l2 l3) ≤ 65535 := by
  induction f generalizing μ l2 l3 with
  | zero => exfalso; omega
  | succ f ih =>
    replace hf : (μ 10 0) - l3 < (f : Int) + 1 := by omega
    rw [xx_signToldAt_4]
    have b2 : 0 ≤ (μ 10 0) ∧ (μ 10 0) ≤ 20 := hB 10 0
    by_cases c3 : l3 < (μ 10 0)
    · rw [if_pos c3]
      have r4 : 0 ≤ (xx_lengthOfItem μ l3) ∧ (xx_lengthOfItem μ l3) ≤ 60 := xr_lengthOfItem hB l3 (by omega)
      by_cases c5 : l2 < (xx_lengthOfItem μ l3)
      · rw [if_pos c5]
        have r10 : 0 ≤ (xx_signOfItem μ l3 l2) ∧ (xx_signOfItem μ l3 l2) ≤ 65535 := xr_signOfItem hB l3 l2 (by omega) (by omega)
        first | omega | (dsimp only; omega)
      · rw [if_neg c5]
        by_cases c6 : l2 = (xx_lengthOfItem μ l3)
        · rw [if_pos c6]
          have b8 : 0 ≤ (μ 10 0) ∧ (μ 10 0) ≤ 20 := hB 10 0
          by_cases c9 : (l3 + 1) < (μ 10 0)
          · rw [if_pos c9]
            first | omega | (dsimp only; omega)
          · rw [if_neg c9]
            first | omega | (dsimp only; omega)
        · rw [if_neg c6]
          have b7 : 0 ≤ (μ 10 0) ∧ (μ 10 0) ≤ 20 := hB 10 0
          exact ih μ hB (l2 - ((xx_lengthOfItem μ l3) + 1)) (l3 + 1) (by omega) (by omega) (by omega)
    · rw [if_neg c3]
      first | omega | (dsimp only; omega)
set_option maxHeartbeats 4000000 in
set_option maxRecDepth 100000 in
theorem xr_signToldAt {μ : zM} (hB : zB μ) (a1 : Int) (h0 : 0 ≤ a1 ∧ a1 ≤ 2147483647) : -5 ≤ (xx_signToldAt μ a1) ∧ (xx_signToldAt μ a1) ≤ 65535 := by
  unfold xx_signToldAt
  have b1 : 0 ≤ (μ 10 0) ∧ (μ 10 0) ≤ 20 := hB 10 0
  have fb : (3000 : Int) ≤ ((zN : Nat) : Int) := zN_big
  exact xr_signToldAt_4 zN μ hB a1 0 (by omega) (by omega) (by omega)
set_option maxHeartbeats 4000000 in
set_option maxRecDepth 100000 in
theorem xz_signToldAt_4 (f : Nat) (μ : zM) (hB : zB μ) (l2 : Int) (l3 : Int) (i0 : 0 ≤ l3 ∧ l3 ≤ (μ 10 0)) (i1 : 0 ≤ l2 ∧ l2 ≤ 2147483647) (hf : (μ 10 0) - l3 < (f : Int)) : Ez md_1_signToldAt 0 0 4 [(0, zr 3), (2, zi l2), (3, zi l3)] [] zSh μ (some (zi (xx_signToldAt_4 f μ l2 l3))) zSh μ := by
  induction f generalizing μ l2 l3 with
  | zero => exfalso; omega
  | succ f ih =>
    replace hf : (μ 10 0) - l3 < (f : Int) + 1 := by omega
    rw [xx_signToldAt_4]
    have b2 : 0 ≤ (μ 10 0) ∧ (μ 10 0) ≤ 20 := hB 10 0
    refine Az.blk kd_1_signToldAt_4 (show zR l3 ∧ zR (μ 10 0) ∧ ((¬ l3 < (μ 10 0) → Ez md_1_signToldAt 0 0 75 [(0, zr 3), (2, zi l2), (3, zi l3)] [] zSh μ _ _ _) ∧ (l3 < (μ 10 0) → Ez md_1_signToldAt 0 0 15 [(0, zr 3), (2, zi l2), (3, zi l3)] [] zSh μ _ _ _)) from ⟨(by omega), (by omega), fun c3 => ?_, fun c3 => ?_⟩)
    · rw [if_neg c3]
      refine Az.blk kd_1_signToldAt_75 (show Ez md_1_signToldAt 0 0 77 [(0, zr 3), (2, zi l2), (3, zi l3)] [zi (-5)] zSh μ _ _ _ from ?_)
      exact Ez.iret kr_1_signToldAt_77 rfl (Nat.zero_le _) (Nat.zero_le _) rfl rfl
    · rw [if_pos c3]
      refine Az.blk kd_1_signToldAt_15 (show Ez md_1_signToldAt 0 0 17 [(0, zr 3), (2, zi l2), (3, zi l3)] [zi l3, zr 3] zSh μ _ _ _ from ?_)
      refine Az.cV (mc := md_1_lengthOfItem) (k := 3) (n := 1) (As := [zi l3]) (rest := []) kr_1_signToldAt_17 zw_319 ok_1_lengthOfItem rfl rfl rfl trivial (xz_lengthOfItem hB l3 (by omega)) rfl rfl (show Ez md_1_signToldAt 0 0 20 [(0, zr 3), (2, zi l2), (3, zi l3)] [zi (xx_lengthOfItem μ l3)] zSh μ _ _ _ from ?_)
      have r4 : 0 ≤ (xx_lengthOfItem μ l3) ∧ (xx_lengthOfItem μ l3) ≤ 60 := xr_lengthOfItem hB l3 (by omega)
      refine Az.blk kd_1_signToldAt_20 (show zR l2 ∧ zR (xx_lengthOfItem μ l3) ∧ ((¬ l2 < (xx_lengthOfItem μ l3) → Ez md_1_signToldAt 0 0 35 [(4, zi (xx_lengthOfItem μ l3)), (0, zr 3), (2, zi l2), (3, zi l3)] [] zSh μ _ _ _) ∧ (l2 < (xx_lengthOfItem μ l3) → Ez md_1_signToldAt 0 0 28 [(4, zi (xx_lengthOfItem μ l3)), (0, zr 3), (2, zi l2), (3, zi l3)] [] zSh μ _ _ _)) from ⟨(by omega), (by omega), fun c5 => ?_, fun c5 => ?_⟩)
      · rw [if_neg c5]
        refine Az.blk kd_1_signToldAt_35 (show zR l2 ∧ zR (xx_lengthOfItem μ l3) ∧ ((¬ l2 = (xx_lengthOfItem μ l3) → Ez md_1_signToldAt 0 0 62 [(4, zi (xx_lengthOfItem μ l3)), (0, zr 3), (2, zi l2), (3, zi l3)] [] zSh μ _ _ _) ∧ (l2 = (xx_lengthOfItem μ l3) → Ez md_1_signToldAt 0 0 41 [(4, zi (xx_lengthOfItem μ l3)), (0, zr 3), (2, zi l2), (3, zi l3)] [] zSh μ _ _ _)) from ⟨(by omega), (by omega), fun c6 => ?_, fun c6 => ?_⟩)
        · rw [if_neg c6]
          refine Az.blk kd_1_signToldAt_62 (show Ez md_1_signToldAt 0 0 4 [(3, zi (l3 + 1)), (2, zi (l2 - ((xx_lengthOfItem μ l3) + 1))), (4, zi (xx_lengthOfItem μ l3)), (0, zr 3)] [] zSh μ _ _ _ from ?_)
          have b7 : 0 ≤ (μ 10 0) ∧ (μ 10 0) ≤ 20 := hB 10 0
          refine Az.lvs (lv' := [(0, zr 3), (2, zi (l2 - ((xx_lengthOfItem μ l3) + 1))), (3, zi (l3 + 1))]) ?_ ?_
          · intro q hq; simp only [List.mem_cons, List.not_mem_nil, or_false] at hq; rcases hq with rfl | rfl | rfl <;> rfl
          exact ih μ hB (l2 - ((xx_lengthOfItem μ l3) + 1)) (l3 + 1) (by omega) (by omega) (by omega)
        · rw [if_pos c6]
          have b8 : 0 ≤ (μ 10 0) ∧ (μ 10 0) ≤ 20 := hB 10 0
          refine Az.blk kd_1_signToldAt_41 (show zR (l3 + 1) ∧ zR (μ 10 0) ∧ ((¬ (l3 + 1) < (μ 10 0) → Ez md_1_signToldAt 0 0 59 [(4, zi (xx_lengthOfItem μ l3)), (0, zr 3), (2, zi l2), (3, zi l3)] [] zSh μ _ _ _) ∧ ((l3 + 1) < (μ 10 0) → Ez md_1_signToldAt 0 0 54 [(4, zi (xx_lengthOfItem μ l3)), (0, zr 3), (2, zi l2), (3, zi l3)] [] zSh μ _ _ _)) from ⟨(by omega), (by omega), fun c9 => ?_, fun c9 => ?_⟩)
          · rw [if_neg c9]
            refine Az.blk kd_1_signToldAt_59 (show Ez md_1_signToldAt 0 0 61 [(4, zi (xx_lengthOfItem μ l3)), (0, zr 3), (2, zi l2), (3, zi l3)] [zi (-5)] zSh μ _ _ _ from ?_)
            exact Ez.iret kr_1_signToldAt_61 rfl (Nat.zero_le _) (Nat.zero_le _) rfl rfl
          · rw [if_pos c9]
            refine Az.blk kd_1_signToldAt_54 (show Ez md_1_signToldAt 0 0 61 [(4, zi (xx_lengthOfItem μ l3)), (0, zr 3), (2, zi l2), (3, zi l3)] [zi 32] zSh μ _ _ _ from ?_)
            exact Ez.iret kr_1_signToldAt_61 rfl (Nat.zero_le _) (Nat.zero_le _) rfl rfl
      · rw [if_pos c5]
        refine Az.blk kd_1_signToldAt_28 (show Ez md_1_signToldAt 0 0 31 [(4, zi (xx_lengthOfItem μ l3)), (0, zr 3), (2, zi l2), (3, zi l3)] [zi l2, zi l3, zr 3] zSh μ _ _ _ from ?_)
        refine Az.cV (mc := md_1_signOfItem) (k := 3) (n := 2) (As := [zi l3, zi l2]) (rest := []) kr_1_signToldAt_31 zw_594 ok_1_signOfItem rfl rfl rfl trivial (xz_signOfItem hB l3 l2 (by omega) (by omega)) rfl rfl (show Ez md_1_signToldAt 0 0 34 [(4, zi (xx_lengthOfItem μ l3)), (0, zr 3), (2, zi l2), (3, zi l3)] [zi (xx_signOfItem μ l3 l2)] zSh μ _ _ _ from ?_)
        have r10 : 0 ≤ (xx_signOfItem μ l3 l2) ∧ (xx_signOfItem μ l3 l2) ≤ 65535 := xr_signOfItem hB l3 l2 (by omega) (by omega)
        exact Ez.iret kr_1_signToldAt_34 rfl (Nat.zero_le _) (Nat.zero_le _) rfl rfl
set_option maxHeartbeats 4000000 in
set_option maxRecDepth 100000 in
theorem xz_signToldAt {μ : zM} (hB : zB μ) (a1 : Int) (h0 : 0 ≤ a1 ∧ a1 ≤ 2147483647) : Dz md_1_signToldAt [zr 3, zi a1] zSh μ (some (zi (xx_signToldAt μ a1))) zSh μ := by
  refine Dz.of (by decide) rfl rfl (show Ez md_1_signToldAt 0 0 0 [(0, zr 3), (1, zi a1)] [] zSh μ (some (zi (xx_signToldAt μ a1))) zSh μ from ?_)
  unfold xx_signToldAt
  refine Az.blk kd_1_signToldAt_0 (show Ez md_1_signToldAt 0 0 4 [(3, zi 0), (2, zi a1), (0, zr 3), (1, zi a1)] [] zSh μ _ _ _ from ?_)
  have b1 : 0 ≤ (μ 10 0) ∧ (μ 10 0) ≤ 20 := hB 10 0
  refine Az.lvs (lv' := [(0, zr 3), (2, zi a1), (3, zi 0)]) ?_ ?_
  · intro q hq; simp only [List.mem_cons, List.not_mem_nil, or_false] at hq; rcases hq with rfl | rfl | rfl <;> rfl
  have fb : (3000 : Int) ≤ ((zN : Nat) : Int) := zN_big
  exact xz_signToldAt_4 zN μ hB a1 0 (by omega) (by omega) (by omega)
def kb_1_lettersTieCould_0 : List zI := [(.iconst 0, 1, 0, 0), (.istore 4, 2, 0, 0), (.iconst 0, 1, 0, 0), (.istore 5, 2, 0, 0)]
theorem kd_1_lettersTieCould_0 : zdec md_1_lettersTieCould 0 kb_1_lettersTieCould_0 = true := by decide +kernel
def kb_1_lettersTieCould_6 : List zI := [(.iload 5, 2, 0, 0), (.aload_n 0, 1, 0, 0), (.getfield 21, 3, 1, 1), (.getfield 89, 3, 2, 1), (.if_icmp .ge 73, 3, 88, 0)]
theorem kd_1_lettersTieCould_6 : zdec md_1_lettersTieCould 6 kb_1_lettersTieCould_6 = true := by decide +kernel
def kb_1_lettersTieCould_88 : List zI := [(.iload 4, 2, 0, 0)]
theorem kd_1_lettersTieCould_88 : zdec md_1_lettersTieCould 88 kb_1_lettersTieCould_88 = true := by decide +kernel
theorem kr_1_lettersTieCould_90 : decode md_1_lettersTieCould.2.1 90 = .ok (.ireturn, 1) := by decide +kernel
def kb_1_lettersTieCould_18 : List zI := [(.aload_n 0, 1, 0, 0), (.getfield 21, 3, 1, 1), (.iload 5, 2, 0, 0)]
theorem kd_1_lettersTieCould_18 : zdec md_1_lettersTieCould 18 kb_1_lettersTieCould_18 = true := by decide +kernel
theorem kr_1_lettersTieCould_24 : decode md_1_lettersTieCould.2.1 24 = .ok (.invokevirtual 63, 3) := by decide +kernel
def kb_1_lettersTieCould_27 : List zI := [(.iload_n 1, 1, 0, 0), (.if_icmp .ne 54, 3, 82, 0)]
theorem kd_1_lettersTieCould_27 : zdec md_1_lettersTieCould 27 kb_1_lettersTieCould_27 = true := by decide +kernel
def kb_1_lettersTieCould_82 : List zI := [(.iinc 5 1, 3, 0, 0), (.goto (-79), 3, 6, 0)]
theorem kd_1_lettersTieCould_82 : zdec md_1_lettersTieCould 82 kb_1_lettersTieCould_82 = true := by decide +kernel
def kb_1_lettersTieCould_31 : List zI := [(.aload_n 0, 1, 0, 0), (.getfield 21, 3, 1, 1), (.iload 5, 2, 0, 0)]
theorem kd_1_lettersTieCould_31 : zdec md_1_lettersTieCould 31 kb_1_lettersTieCould_31 = true := by decide +kernel
theorem kr_1_lettersTieCould_37 : decode md_1_lettersTieCould.2.1 37 = .ok (.invokevirtual 66, 3) := by decide +kernel
def kb_1_lettersTieCould_40 : List zI := [(.istore 6, 2, 0, 0), (.aload_n 0, 1, 0, 0), (.iload 6, 2, 0, 0), (.iload_n 1, 1, 0, 0), (.iload_n 2, 1, 0, 0)]
theorem kd_1_lettersTieCould_40 : zdec md_1_lettersTieCould 40 kb_1_lettersTieCould_40 = true := by decide +kernel
theorem kr_1_lettersTieCould_47 : decode md_1_lettersTieCould.2.1 47 = .ok (.invokevirtual 72, 3) := by decide +kernel
def kb_1_lettersTieCould_50 : List zI := [(.istore 7, 2, 0, 0), (.aload_n 0, 1, 0, 0), (.getfield 12, 3, 1, 0), (.iload 6, 2, 0, 0), (.iload_n 2, 1, 0, 0), (.iload 7, 2, 0, 0), (.iload_n 3, 1, 0, 0)]
theorem kd_1_lettersTieCould_50 : zdec md_1_lettersTieCould 50 kb_1_lettersTieCould_50 = true := by decide +kernel
theorem kr_1_lettersTieCould_62 : decode md_1_lettersTieCould.2.1 62 = .ok (.invokevirtual 123, 3) := by decide +kernel
def kb_1_lettersTieCould_65 : List zI := [(.istore 8, 2, 0, 0), (.iload 8, 2, 0, 0), (.iconst (-1), 1, 0, 0), (.if_icmp .ne 5, 3, 75, 0)]
theorem kd_1_lettersTieCould_65 : zdec md_1_lettersTieCould 65 kb_1_lettersTieCould_65 = true := by decide +kernel
def kb_1_lettersTieCould_75 : List zI := [(.iload 4, 2, 0, 0), (.iload 8, 2, 0, 0), (.iadd, 1, 0, 0), (.istore 4, 2, 0, 0), (.iinc 5 1, 3, 0, 0), (.goto (-79), 3, 6, 0)]
theorem kd_1_lettersTieCould_75 : zdec md_1_lettersTieCould 75 kb_1_lettersTieCould_75 = true := by decide +kernel
def kb_1_lettersTieCould_73 : List zI := [(.iconst (-1), 1, 0, 0)]
theorem kd_1_lettersTieCould_73 : zdec md_1_lettersTieCould 73 kb_1_lettersTieCould_73 = true := by decide +kernel
theorem kr_1_lettersTieCould_74 : decode md_1_lettersTieCould.2.1 74 = .ok (.ireturn, 1) := by decide +kernel
noncomputable def xx_lettersTieCould_6 : Nat → zM → Int → Int → Int → Int → Int → Int
  | 0, μ, _, _, _, _, _ => 0
  | f + 1, μ, l1, l2, l3, l4, l5 => (if l5 < (μ 10 1) then (if (xx_tieOf μ l5) = l1 then (if (xx_lettersKindCould μ (xx_kindOfHole μ l5) l2 (xx_formOf μ (xx_kindOfHole μ l5) l1 l2) l3) = (-1) then (-1) else (xx_lettersTieCould_6 f μ l1 l2 l3 (l4 + (xx_lettersKindCould μ (xx_kindOfHole μ l5) l2 (xx_formOf μ (xx_kindOfHole μ l5) l1 l2) l3)) (l5 + 1))) else (xx_lettersTieCould_6 f μ l1 l2 l3 l4 (l5 + 1))) else l4)
noncomputable def xx_lettersTieCould (μ : zM) (a1 a2 a3 : Int) : Int := (xx_lettersTieCould_6 zN μ a1 a2 a3 0 0)
set_option maxHeartbeats 4000000 in
set_option maxRecDepth 100000 in
theorem xr_lettersTieCould_6 (f : Nat) (μ : zM) (hB : zB μ) (l1 : Int) (l2 : Int) (l3 : Int) (l4 : Int) (l5 : Int) (i0 : 0 ≤ l5 ∧ l5 ≤ (μ 10 1)) (i1 : 0 ≤ l4 ∧ l4 ≤ 10 * l5) (i2 : 0 ≤ l2 ∧ l2 ≤ 2) (i3 : -2147483648 ≤ l1 ∧ l1 ≤ 2147483647) (i4 : -2147483648 ≤ l3 ∧ l3 ≤ 2147483647) (hf : (μ 10 1) - l5 < (f : Int)) : -1 ≤ (xx_lettersTieCould_6 f μ l1 l2 l3 l4 l5) ∧ (xx_lettersTieCould_6 f μ l1 l2 l3 l4 l5) ≤ 200 := by
  induction f generalizing μ l1 l2 l3 l4 l5 with
  | zero => exfalso; omega
  | succ f ih =>
    replace hf : (μ 10 1) - l5 < (f : Int) + 1 := by omega
    rw [xx_lettersTieCould_6]
    have b2 : 0 ≤ (μ 10 1) ∧ (μ 10 1) ≤ 20 := hB 10 1
    by_cases c3 : l5 < (μ 10 1)
    · rw [if_pos c3]
      have r4 : -1 ≤ (xx_tieOf μ l5) ∧ (xx_tieOf μ l5) ≤ 9 := xr_tieOf hB l5 (by omega)
      by_cases c5 : (xx_tieOf μ l5) = l1
      · rw [if_pos c5]
        have r7 : -1 ≤ (xx_kindOfHole μ l5) ∧ (xx_kindOfHole μ l5) ≤ 2 := xr_kindOfHole hB l5 (by omega)
        have r8 : 0 ≤ (xx_formOf μ (xx_kindOfHole μ l5) l1 l2) ∧ (xx_formOf μ (xx_kindOfHole μ l5) l1 l2) ≤ 5 := xr_formOf hB (xx_kindOfHole μ l5) l1 l2 (by omega) (by omega) (by omega)
        have r9 : -1 ≤ (xx_lettersKindCould μ (xx_kindOfHole μ l5) l2 (xx_formOf μ (xx_kindOfHole μ l5) l1 l2) l3) ∧ (xx_lettersKindCould μ (xx_kindOfHole μ l5) l2 (xx_formOf μ (xx_kindOfHole μ l5) l1 l2) l3) ≤ 10 := xr_lettersKindCould hB (xx_kindOfHole μ l5) l2 (xx_formOf μ (xx_kindOfHole μ l5) l1 l2) l3 (by omega) (by omega) (by omega) (by omega)
        by_cases c10 : (xx_lettersKindCould μ (xx_kindOfHole μ l5) l2 (xx_formOf μ (xx_kindOfHole μ l5) l1 l2) l3) = (-1)
        · rw [if_pos c10]
          first | omega | (dsimp only; omega)
        · rw [if_neg c10]
          have b11 : 0 ≤ (μ 10 1) ∧ (μ 10 1) ≤ 20 := hB 10 1
          exact ih μ hB l1 l2 l3 (l4 + (xx_lettersKindCould μ (xx_kindOfHole μ l5) l2 (xx_formOf μ (xx_kindOfHole μ l5) l1 l2) l3)) (l5 + 1) (by omega) (by omega) (by omega) (by omega) (by omega) (by omega)
      · rw [if_neg c5]
        have b6 : 0 ≤ (μ 10 1) ∧ (μ 10 1) ≤ 20 := hB 10 1
        exact ih μ hB l1 l2 l3 l4 (l5 + 1) (by omega) (by omega) (by omega) (by omega) (by omega) (by omega)
    · rw [if_neg c3]
      first | omega | (dsimp only; omega)
set_option maxHeartbeats 4000000 in
set_option maxRecDepth 100000 in
theorem xr_lettersTieCould {μ : zM} (hB : zB μ) (a1 a2 a3 : Int) (h0 : -2147483648 ≤ a1 ∧ a1 ≤ 2147483647) (h1 : -2147483648 ≤ a3 ∧ a3 ≤ 2147483647) (h2 : 0 ≤ a2 ∧ a2 ≤ 2) : -1 ≤ (xx_lettersTieCould μ a1 a2 a3) ∧ (xx_lettersTieCould μ a1 a2 a3) ≤ 200 := by
  unfold xx_lettersTieCould
  have b1 : 0 ≤ (μ 10 1) ∧ (μ 10 1) ≤ 20 := hB 10 1
  have fb : (3000 : Int) ≤ ((zN : Nat) : Int) := zN_big
  exact xr_lettersTieCould_6 zN μ hB a1 a2 a3 0 0 (by omega) (by omega) (by omega) (by omega) (by omega) (by omega)
set_option maxHeartbeats 4000000 in
set_option maxRecDepth 100000 in
theorem xz_lettersTieCould_6 (f : Nat) (μ : zM) (hB : zB μ) (l1 : Int) (l2 : Int) (l3 : Int) (l4 : Int) (l5 : Int) (i0 : 0 ≤ l5 ∧ l5 ≤ (μ 10 1)) (i1 : 0 ≤ l4 ∧ l4 ≤ 10 * l5) (i2 : 0 ≤ l2 ∧ l2 ≤ 2) (i3 : -2147483648 ≤ l1 ∧ l1 ≤ 2147483647) (i4 : -2147483648 ≤ l3 ∧ l3 ≤ 2147483647) (hf : (μ 10 1) - l5 < (f : Int)) : Ez md_1_lettersTieCould 0 0 6 [(0, zr 3), (1, zi l1), (2, zi l2), (3, zi l3), (4, zi l4), (5, zi l5)] [] zSh μ (some (zi (xx_lettersTieCould_6 f μ l1 l2 l3 l4 l5))) zSh μ := by
  induction f generalizing μ l1 l2 l3 l4 l5 with
  | zero => exfalso; omega
  | succ f ih =>
    replace hf : (μ 10 1) - l5 < (f : Int) + 1 := by omega
    rw [xx_lettersTieCould_6]
    have b2 : 0 ≤ (μ 10 1) ∧ (μ 10 1) ≤ 20 := hB 10 1
    refine Az.blk kd_1_lettersTieCould_6 (show zR l5 ∧ zR (μ 10 1) ∧ ((¬ l5 < (μ 10 1) → Ez md_1_lettersTieCould 0 0 88 [(0, zr 3), (1, zi l1), (2, zi l2), (3, zi l3), (4, zi l4), (5, zi l5)] [] zSh μ _ _ _) ∧ (l5 < (μ 10 1) → Ez md_1_lettersTieCould 0 0 18 [(0, zr 3), (1, zi l1), (2, zi l2), (3, zi l3), (4, zi l4), (5, zi l5)] [] zSh μ _ _ _)) from ⟨(by omega), (by omega), fun c3 => ?_, fun c3 => ?_⟩)
    · rw [if_neg c3]
      refine Az.blk kd_1_lettersTieCould_88 (show Ez md_1_lettersTieCould 0 0 90 [(0, zr 3), (1, zi l1), (2, zi l2), (3, zi l3), (4, zi l4), (5, zi l5)] [zi l4] zSh μ _ _ _ from ?_)
      exact Ez.iret kr_1_lettersTieCould_90 rfl (Nat.zero_le _) (Nat.zero_le _) rfl rfl
    · rw [if_pos c3]
      refine Az.blk kd_1_lettersTieCould_18 (show Ez md_1_lettersTieCould 0 0 24 [(0, zr 3), (1, zi l1), (2, zi l2), (3, zi l3), (4, zi l4), (5, zi l5)] [zi l5, zr 10] zSh μ _ _ _ from ?_)
      refine Az.cVN (mc := md_2_tieOf) (k := 10) (n := 1) (As := [zi l5]) (rest := []) kr_1_lettersTieCould_24 zw_344 ok_2_tieOf rfl rfl rfl trivial (xz_tieOf hB l5 (by omega)) rfl rfl (show Ez md_1_lettersTieCould 0 0 27 [(0, zr 3), (1, zi l1), (2, zi l2), (3, zi l3), (4, zi l4), (5, zi l5)] [zi (xx_tieOf μ l5)] zSh μ _ _ _ from ?_)
      have r4 : -1 ≤ (xx_tieOf μ l5) ∧ (xx_tieOf μ l5) ≤ 9 := xr_tieOf hB l5 (by omega)
      refine Az.blk kd_1_lettersTieCould_27 (show zR (xx_tieOf μ l5) ∧ zR l1 ∧ ((¬ (xx_tieOf μ l5) = l1 → Ez md_1_lettersTieCould 0 0 82 [(0, zr 3), (1, zi l1), (2, zi l2), (3, zi l3), (4, zi l4), (5, zi l5)] [] zSh μ _ _ _) ∧ ((xx_tieOf μ l5) = l1 → Ez md_1_lettersTieCould 0 0 31 [(0, zr 3), (1, zi l1), (2, zi l2), (3, zi l3), (4, zi l4), (5, zi l5)] [] zSh μ _ _ _)) from ⟨(by omega), (by omega), fun c5 => ?_, fun c5 => ?_⟩)
      · rw [if_neg c5]
        refine Az.blk kd_1_lettersTieCould_82 (show Ez md_1_lettersTieCould 0 0 6 [(5, zi (l5 + 1)), (0, zr 3), (1, zi l1), (2, zi l2), (3, zi l3), (4, zi l4)] [] zSh μ _ _ _ from ?_)
        have b6 : 0 ≤ (μ 10 1) ∧ (μ 10 1) ≤ 20 := hB 10 1
        refine Az.lvs (lv' := [(0, zr 3), (1, zi l1), (2, zi l2), (3, zi l3), (4, zi l4), (5, zi (l5 + 1))]) ?_ ?_
        · intro q hq; simp only [List.mem_cons, List.not_mem_nil, or_false] at hq; rcases hq with rfl | rfl | rfl | rfl | rfl | rfl <;> rfl
        exact ih μ hB l1 l2 l3 l4 (l5 + 1) (by omega) (by omega) (by omega) (by omega) (by omega) (by omega)
      · rw [if_pos c5]
        refine Az.blk kd_1_lettersTieCould_31 (show Ez md_1_lettersTieCould 0 0 37 [(0, zr 3), (1, zi l1), (2, zi l2), (3, zi l3), (4, zi l4), (5, zi l5)] [zi l5, zr 10] zSh μ _ _ _ from ?_)
        refine Az.cVN (mc := md_2_kindOfHole) (k := 10) (n := 1) (As := [zi l5]) (rest := []) kr_1_lettersTieCould_37 zw_348 ok_2_kindOfHole rfl rfl rfl trivial (xz_kindOfHole hB l5 (by omega)) rfl rfl (show Ez md_1_lettersTieCould 0 0 40 [(0, zr 3), (1, zi l1), (2, zi l2), (3, zi l3), (4, zi l4), (5, zi l5)] [zi (xx_kindOfHole μ l5)] zSh μ _ _ _ from ?_)
        have r7 : -1 ≤ (xx_kindOfHole μ l5) ∧ (xx_kindOfHole μ l5) ≤ 2 := xr_kindOfHole hB l5 (by omega)
        refine Az.blk kd_1_lettersTieCould_40 (show Ez md_1_lettersTieCould 0 0 47 [(6, zi (xx_kindOfHole μ l5)), (0, zr 3), (1, zi l1), (2, zi l2), (3, zi l3), (4, zi l4), (5, zi l5)] [zi l2, zi l1, zi (xx_kindOfHole μ l5), zr 3] zSh μ _ _ _ from ?_)
        refine Az.cV (mc := md_1_formOf) (k := 3) (n := 3) (As := [zi (xx_kindOfHole μ l5), zi l1, zi l2]) (rest := []) kr_1_lettersTieCould_47 zw_368 ok_1_formOf rfl rfl rfl trivial (xz_formOf hB (xx_kindOfHole μ l5) l1 l2 (by omega) (by omega) (by omega)) rfl rfl (show Ez md_1_lettersTieCould 0 0 50 [(6, zi (xx_kindOfHole μ l5)), (0, zr 3), (1, zi l1), (2, zi l2), (3, zi l3), (4, zi l4), (5, zi l5)] [zi (xx_formOf μ (xx_kindOfHole μ l5) l1 l2)] zSh μ _ _ _ from ?_)
        have r8 : 0 ≤ (xx_formOf μ (xx_kindOfHole μ l5) l1 l2) ∧ (xx_formOf μ (xx_kindOfHole μ l5) l1 l2) ≤ 5 := xr_formOf hB (xx_kindOfHole μ l5) l1 l2 (by omega) (by omega) (by omega)
        refine Az.blk kd_1_lettersTieCould_50 (show Ez md_1_lettersTieCould 0 0 62 [(7, zi (xx_formOf μ (xx_kindOfHole μ l5) l1 l2)), (6, zi (xx_kindOfHole μ l5)), (0, zr 3), (1, zi l1), (2, zi l2), (3, zi l3), (4, zi l4), (5, zi l5)] [zi l3, zi (xx_formOf μ (xx_kindOfHole μ l5) l1 l2), zi l2, zi (xx_kindOfHole μ l5), zr 4] zSh μ _ _ _ from ?_)
        refine Az.cVN (mc := md_4_lettersKindCould) (k := 4) (n := 4) (As := [zi (xx_kindOfHole μ l5), zi l2, zi (xx_formOf μ (xx_kindOfHole μ l5) l1 l2), zi l3]) (rest := []) kr_1_lettersTieCould_62 zw_575 ok_4_lettersKindCould rfl rfl rfl trivial (xz_lettersKindCould hB (xx_kindOfHole μ l5) l2 (xx_formOf μ (xx_kindOfHole μ l5) l1 l2) l3 (by omega) (by omega) (by omega) (by omega)) rfl rfl (show Ez md_1_lettersTieCould 0 0 65 [(7, zi (xx_formOf μ (xx_kindOfHole μ l5) l1 l2)), (6, zi (xx_kindOfHole μ l5)), (0, zr 3), (1, zi l1), (2, zi l2), (3, zi l3), (4, zi l4), (5, zi l5)] [zi (xx_lettersKindCould μ (xx_kindOfHole μ l5) l2 (xx_formOf μ (xx_kindOfHole μ l5) l1 l2) l3)] zSh μ _ _ _ from ?_)
        have r9 : -1 ≤ (xx_lettersKindCould μ (xx_kindOfHole μ l5) l2 (xx_formOf μ (xx_kindOfHole μ l5) l1 l2) l3) ∧ (xx_lettersKindCould μ (xx_kindOfHole μ l5) l2 (xx_formOf μ (xx_kindOfHole μ l5) l1 l2) l3) ≤ 10 := xr_lettersKindCould hB (xx_kindOfHole μ l5) l2 (xx_formOf μ (xx_kindOfHole μ l5) l1 l2) l3 (by omega) (by omega) (by omega) (by omega)
        refine Az.blk kd_1_lettersTieCould_65 (show zR (xx_lettersKindCould μ (xx_kindOfHole μ l5) l2 (xx_formOf μ (xx_kindOfHole μ l5) l1 l2) l3) ∧ zR (-1) ∧ ((¬ (xx_lettersKindCould μ (xx_kindOfHole μ l5) l2 (xx_formOf μ (xx_kindOfHole μ l5) l1 l2) l3) = (-1) → Ez md_1_lettersTieCould 0 0 75 [(8, zi (xx_lettersKindCould μ (xx_kindOfHole μ l5) l2 (xx_formOf μ (xx_kindOfHole μ l5) l1 l2) l3)), (7, zi (xx_formOf μ (xx_kindOfHole μ l5) l1 l2)), (6, zi (xx_kindOfHole μ l5)), (0, zr 3), (1, zi l1), (2, zi l2), (3, zi l3), (4, zi l4), (5, zi l5)] [] zSh μ _ _ _) ∧ ((xx_lettersKindCould μ (xx_kindOfHole μ l5) l2 (xx_formOf μ (xx_kindOfHole μ l5) l1 l2) l3) = (-1) → Ez md_1_lettersTieCould 0 0 73 [(8, zi (xx_lettersKindCould μ (xx_kindOfHole μ l5) l2 (xx_formOf μ (xx_kindOfHole μ l5) l1 l2) l3)), (7, zi (xx_formOf μ (xx_kindOfHole μ l5) l1 l2)), (6, zi (xx_kindOfHole μ l5)), (0, zr 3), (1, zi l1), (2, zi l2), (3, zi l3), (4, zi l4), (5, zi l5)] [] zSh μ _ _ _)) from ⟨(by omega), (by omega), fun c10 => ?_, fun c10 => ?_⟩)
        · rw [if_neg c10]
          refine Az.blk kd_1_lettersTieCould_75 (show Ez md_1_lettersTieCould 0 0 6 [(5, zi (l5 + 1)), (4, zi (l4 + (xx_lettersKindCould μ (xx_kindOfHole μ l5) l2 (xx_formOf μ (xx_kindOfHole μ l5) l1 l2) l3))), (8, zi (xx_lettersKindCould μ (xx_kindOfHole μ l5) l2 (xx_formOf μ (xx_kindOfHole μ l5) l1 l2) l3)), (7, zi (xx_formOf μ (xx_kindOfHole μ l5) l1 l2)), (6, zi (xx_kindOfHole μ l5)), (0, zr 3), (1, zi l1), (2, zi l2), (3, zi l3)] [] zSh μ _ _ _ from ?_)
          have b11 : 0 ≤ (μ 10 1) ∧ (μ 10 1) ≤ 20 := hB 10 1
          refine Az.lvs (lv' := [(0, zr 3), (1, zi l1), (2, zi l2), (3, zi l3), (4, zi (l4 + (xx_lettersKindCould μ (xx_kindOfHole μ l5) l2 (xx_formOf μ (xx_kindOfHole μ l5) l1 l2) l3))), (5, zi (l5 + 1))]) ?_ ?_
          · intro q hq; simp only [List.mem_cons, List.not_mem_nil, or_false] at hq; rcases hq with rfl | rfl | rfl | rfl | rfl | rfl <;> rfl
          exact ih μ hB l1 l2 l3 (l4 + (xx_lettersKindCould μ (xx_kindOfHole μ l5) l2 (xx_formOf μ (xx_kindOfHole μ l5) l1 l2) l3)) (l5 + 1) (by omega) (by omega) (by omega) (by omega) (by omega) (by omega)
        · rw [if_pos c10]
          refine Az.blk kd_1_lettersTieCould_73 (show Ez md_1_lettersTieCould 0 0 74 [(8, zi (xx_lettersKindCould μ (xx_kindOfHole μ l5) l2 (xx_formOf μ (xx_kindOfHole μ l5) l1 l2) l3)), (7, zi (xx_formOf μ (xx_kindOfHole μ l5) l1 l2)), (6, zi (xx_kindOfHole μ l5)), (0, zr 3), (1, zi l1), (2, zi l2), (3, zi l3), (4, zi l4), (5, zi l5)] [zi (-1)] zSh μ _ _ _ from ?_)
          exact Ez.iret kr_1_lettersTieCould_74 rfl (Nat.zero_le _) (Nat.zero_le _) rfl rfl
set_option maxHeartbeats 4000000 in
set_option maxRecDepth 100000 in
theorem xz_lettersTieCould {μ : zM} (hB : zB μ) (a1 a2 a3 : Int) (h0 : -2147483648 ≤ a1 ∧ a1 ≤ 2147483647) (h1 : -2147483648 ≤ a3 ∧ a3 ≤ 2147483647) (h2 : 0 ≤ a2 ∧ a2 ≤ 2) : Dz md_1_lettersTieCould [zr 3, zi a1, zi a2, zi a3] zSh μ (some (zi (xx_lettersTieCould μ a1 a2 a3))) zSh μ := by
  refine Dz.of (by decide) rfl rfl (show Ez md_1_lettersTieCould 0 0 0 [(0, zr 3), (1, zi a1), (2, zi a2), (3, zi a3)] [] zSh μ (some (zi (xx_lettersTieCould μ a1 a2 a3))) zSh μ from ?_)
  unfold xx_lettersTieCould
  refine Az.blk kd_1_lettersTieCould_0 (show Ez md_1_lettersTieCould 0 0 6 [(5, zi 0), (4, zi 0), (0, zr 3), (1, zi a1), (2, zi a2), (3, zi a3)] [] zSh μ _ _ _ from ?_)
  have b1 : 0 ≤ (μ 10 1) ∧ (μ 10 1) ≤ 20 := hB 10 1
  refine Az.lvs (lv' := [(0, zr 3), (1, zi a1), (2, zi a2), (3, zi a3), (4, zi 0), (5, zi 0)]) ?_ ?_
  · intro q hq; simp only [List.mem_cons, List.not_mem_nil, or_false] at hq; rcases hq with rfl | rfl | rfl | rfl | rfl | rfl <;> rfl
  have fb : (3000 : Int) ≤ ((zN : Nat) : Int) := zN_big
  exact xz_lettersTieCould_6 zN μ hB a1 a2 a3 0 0 (by omega) (by omega) (by omega) (by omega) (by omega) (by omega)
def kb_1_lengthTold_0 : List zI := [(.iconst 0, 1, 0, 0), (.aload_n 0, 1, 0, 0), (.getfield 21, 3, 1, 1), (.getfield 133, 3, 2, 0), (.iconst 1, 1, 0, 0), (.isub, 1, 0, 0)]
theorem kd_1_lengthTold_0 : zdec md_1_lengthTold 0 kb_1_lengthTold_0 = true := by decide +kernel
theorem kr_1_lengthTold_10 : decode md_1_lengthTold.2.1 10 = .ok (.invokestatic 136, 3) := by decide +kernel
def kb_1_lengthTold_13 : List zI := [(.istore_n 1, 1, 0, 0), (.iconst 0, 1, 0, 0), (.istore_n 2, 1, 0, 0)]
theorem kd_1_lengthTold_13 : zdec md_1_lengthTold 13 kb_1_lengthTold_13 = true := by decide +kernel
def kb_1_lengthTold_16 : List zI := [(.iload_n 2, 1, 0, 0), (.aload_n 0, 1, 0, 0), (.getfield 21, 3, 1, 1), (.getfield 133, 3, 2, 0), (.if_icmp .ge 17, 3, 41, 0)]
theorem kd_1_lengthTold_16 : zdec md_1_lengthTold 16 kb_1_lengthTold_16 = true := by decide +kernel
def kb_1_lengthTold_41 : List zI := [(.iload_n 1, 1, 0, 0)]
theorem kd_1_lengthTold_41 : zdec md_1_lengthTold 41 kb_1_lengthTold_41 = true := by decide +kernel
theorem kr_1_lengthTold_42 : decode md_1_lengthTold.2.1 42 = .ok (.ireturn, 1) := by decide +kernel
def kb_1_lengthTold_27 : List zI := [(.iload_n 1, 1, 0, 0), (.aload_n 0, 1, 0, 0), (.iload_n 2, 1, 0, 0)]
theorem kd_1_lengthTold_27 : zdec md_1_lengthTold 27 kb_1_lengthTold_27 = true := by decide +kernel
theorem kr_1_lengthTold_30 : decode md_1_lengthTold.2.1 30 = .ok (.invokevirtual 141, 3) := by decide +kernel
def kb_1_lengthTold_33 : List zI := [(.iadd, 1, 0, 0), (.istore_n 1, 1, 0, 0), (.iinc 2 1, 3, 0, 0), (.goto (-22), 3, 16, 0)]
theorem kd_1_lengthTold_33 : zdec md_1_lengthTold 33 kb_1_lengthTold_33 = true := by decide +kernel
noncomputable def xx_lengthTold_16 : Nat → zM → Int → Int → Int
  | 0, μ, _, _ => 0
  | f + 1, μ, l1, l2 => (if l2 < (μ 10 0) then (xx_lengthTold_16 f μ (l1 + (xx_lengthOfItem μ l2)) (l2 + 1)) else l1)
noncomputable def xx_lengthTold (μ : zM) : Int := (xx_lengthTold_16 zN μ (zmax 0 ((μ 10 0) - 1)) 0)
set_option maxHeartbeats 4000000 in
set_option maxRecDepth 100000 in
theorem xr_lengthTold_16 (f : Nat) (μ : zM) (hB : zB μ) (l1 : Int) (l2 : Int) (i0 : 0 ≤ l2 ∧ l2 ≤ (μ 10 0)) (i1 : 0 ≤ l1 ∧ l1 ≤ 60 * l2 + 20) (hf : (μ 10 0) - l2 < (f : Int)) : 0 ≤ (xx_lengthTold_16 f μ l1 l2) ∧ (xx_lengthTold_16 f μ l1 l2) ≤ 1300 := by
  induction f generalizing μ l1 l2 with
  | zero => exfalso; omega
  | succ f ih =>
    replace hf : (μ 10 0) - l2 < (f : Int) + 1 := by omega
    rw [xx_lengthTold_16]
    have b4 : 0 ≤ (μ 10 0) ∧ (μ 10 0) ≤ 20 := hB 10 0
    by_cases c5 : l2 < (μ 10 0)
    · rw [if_pos c5]
      have r6 : 0 ≤ (xx_lengthOfItem μ l2) ∧ (xx_lengthOfItem μ l2) ≤ 60 := xr_lengthOfItem hB l2 (by omega)
      have b7 : 0 ≤ (μ 10 0) ∧ (μ 10 0) ≤ 20 := hB 10 0
      exact ih μ hB (l1 + (xx_lengthOfItem μ l2)) (l2 + 1) (by omega) (by omega) (by omega)
    · rw [if_neg c5]
      first | omega | (dsimp only; omega)
set_option maxHeartbeats 4000000 in
set_option maxRecDepth 100000 in
theorem xr_lengthTold {μ : zM} (hB : zB μ)  : 0 ≤ (xx_lengthTold μ) ∧ (xx_lengthTold μ) ≤ 1300 := by
  unfold xx_lengthTold
  have b1 : 0 ≤ (μ 10 0) ∧ (μ 10 0) ≤ 20 := hB 10 0
  have f2 := zmax_r 0 ((μ 10 0) - 1)
  have b3 : 0 ≤ (μ 10 0) ∧ (μ 10 0) ≤ 20 := hB 10 0
  have fb : (3000 : Int) ≤ ((zN : Nat) : Int) := zN_big
  exact xr_lengthTold_16 zN μ hB (zmax 0 ((μ 10 0) - 1)) 0 (by omega) (by omega) (by omega)
set_option maxHeartbeats 4000000 in
set_option maxRecDepth 100000 in
theorem xz_lengthTold_16 (f : Nat) (μ : zM) (hB : zB μ) (l1 : Int) (l2 : Int) (i0 : 0 ≤ l2 ∧ l2 ≤ (μ 10 0)) (i1 : 0 ≤ l1 ∧ l1 ≤ 60 * l2 + 20) (hf : (μ 10 0) - l2 < (f : Int)) : Ez md_1_lengthTold 0 0 16 [(0, zr 3), (1, zi l1), (2, zi l2)] [] zSh μ (some (zi (xx_lengthTold_16 f μ l1 l2))) zSh μ := by
  induction f generalizing μ l1 l2 with
  | zero => exfalso; omega
  | succ f ih =>
    replace hf : (μ 10 0) - l2 < (f : Int) + 1 := by omega
    rw [xx_lengthTold_16]
    have b4 : 0 ≤ (μ 10 0) ∧ (μ 10 0) ≤ 20 := hB 10 0
    refine Az.blk kd_1_lengthTold_16 (show zR l2 ∧ zR (μ 10 0) ∧ ((¬ l2 < (μ 10 0) → Ez md_1_lengthTold 0 0 41 [(0, zr 3), (1, zi l1), (2, zi l2)] [] zSh μ _ _ _) ∧ (l2 < (μ 10 0) → Ez md_1_lengthTold 0 0 27 [(0, zr 3), (1, zi l1), (2, zi l2)] [] zSh μ _ _ _)) from ⟨(by omega), (by omega), fun c5 => ?_, fun c5 => ?_⟩)
    · rw [if_neg c5]
      refine Az.blk kd_1_lengthTold_41 (show Ez md_1_lengthTold 0 0 42 [(0, zr 3), (1, zi l1), (2, zi l2)] [zi l1] zSh μ _ _ _ from ?_)
      exact Ez.iret kr_1_lengthTold_42 rfl (Nat.zero_le _) (Nat.zero_le _) rfl rfl
    · rw [if_pos c5]
      refine Az.blk kd_1_lengthTold_27 (show Ez md_1_lengthTold 0 0 30 [(0, zr 3), (1, zi l1), (2, zi l2)] [zi l2, zr 3, zi l1] zSh μ _ _ _ from ?_)
      refine Az.cV (mc := md_1_lengthOfItem) (k := 3) (n := 1) (As := [zi l2]) (rest := [zi l1]) kr_1_lengthTold_30 zw_319 ok_1_lengthOfItem rfl rfl rfl trivial (xz_lengthOfItem hB l2 (by omega)) rfl rfl (show Ez md_1_lengthTold 0 0 33 [(0, zr 3), (1, zi l1), (2, zi l2)] [zi (xx_lengthOfItem μ l2), zi l1] zSh μ _ _ _ from ?_)
      have r6 : 0 ≤ (xx_lengthOfItem μ l2) ∧ (xx_lengthOfItem μ l2) ≤ 60 := xr_lengthOfItem hB l2 (by omega)
      refine Az.blk kd_1_lengthTold_33 (show Ez md_1_lengthTold 0 0 16 [(2, zi (l2 + 1)), (1, zi (l1 + (xx_lengthOfItem μ l2))), (0, zr 3)] [] zSh μ _ _ _ from ?_)
      have b7 : 0 ≤ (μ 10 0) ∧ (μ 10 0) ≤ 20 := hB 10 0
      refine Az.lvs (lv' := [(0, zr 3), (1, zi (l1 + (xx_lengthOfItem μ l2))), (2, zi (l2 + 1))]) ?_ ?_
      · intro q hq; simp only [List.mem_cons, List.not_mem_nil, or_false] at hq; rcases hq with rfl | rfl | rfl <;> rfl
      exact ih μ hB (l1 + (xx_lengthOfItem μ l2)) (l2 + 1) (by omega) (by omega) (by omega)
set_option maxHeartbeats 4000000 in
set_option maxRecDepth 100000 in
theorem xz_lengthTold {μ : zM} (hB : zB μ)  : Dz md_1_lengthTold [zr 3] zSh μ (some (zi (xx_lengthTold μ))) zSh μ := by
  refine Dz.of (by decide) rfl rfl (show Ez md_1_lengthTold 0 0 0 [(0, zr 3)] [] zSh μ (some (zi (xx_lengthTold μ))) zSh μ from ?_)
  unfold xx_lengthTold
  have b1 : 0 ≤ (μ 10 0) ∧ (μ 10 0) ≤ 20 := hB 10 0
  refine Az.blk kd_1_lengthTold_0 (show Ez md_1_lengthTold 0 0 10 [(0, zr 3)] [zi ((μ 10 0) - 1), zi 0] zSh μ _ _ _ from ?_)
  have f2 := zmax_r 0 ((μ 10 0) - 1)
  refine Az.mmax (a := 0) (b := ((μ 10 0) - 1)) kr_1_lengthTold_10 zw_316 rfl (by omega) (by omega) rfl (show Ez md_1_lengthTold 0 0 13 [(0, zr 3)] [zi (zmax 0 ((μ 10 0) - 1))] zSh μ _ _ _ from ?_)
  refine Az.blk kd_1_lengthTold_13 (show Ez md_1_lengthTold 0 0 16 [(2, zi 0), (1, zi (zmax 0 ((μ 10 0) - 1))), (0, zr 3)] [] zSh μ _ _ _ from ?_)
  have b3 : 0 ≤ (μ 10 0) ∧ (μ 10 0) ≤ 20 := hB 10 0
  refine Az.lvs (lv' := [(0, zr 3), (1, zi (zmax 0 ((μ 10 0) - 1))), (2, zi 0)]) ?_ ?_
  · intro q hq; simp only [List.mem_cons, List.not_mem_nil, or_false] at hq; rcases hq with rfl | rfl | rfl <;> rfl
  have fb : (3000 : Int) ≤ ((zN : Nat) : Int) := zN_big
  exact xz_lengthTold_16 zN μ hB (zmax 0 ((μ 10 0) - 1)) 0 (by omega) (by omega) (by omega)
def kb_1_lettersInHoles_0 : List zI := [(.iconst 0, 1, 0, 0), (.istore_n 1, 1, 0, 0), (.iconst 0, 1, 0, 0), (.istore_n 2, 1, 0, 0)]
theorem kd_1_lettersInHoles_0 : zdec md_1_lettersInHoles 0 kb_1_lettersInHoles_0 = true := by decide +kernel
def kb_1_lettersInHoles_4 : List zI := [(.iload_n 2, 1, 0, 0), (.aload_n 0, 1, 0, 0), (.getfield 21, 3, 1, 1), (.getfield 89, 3, 2, 1), (.if_icmp .ge 17, 3, 29, 0)]
theorem kd_1_lettersInHoles_4 : zdec md_1_lettersInHoles 4 kb_1_lettersInHoles_4 = true := by decide +kernel
def kb_1_lettersInHoles_29 : List zI := [(.iload_n 1, 1, 0, 0)]
theorem kd_1_lettersInHoles_29 : zdec md_1_lettersInHoles 29 kb_1_lettersInHoles_29 = true := by decide +kernel
theorem kr_1_lettersInHoles_30 : decode md_1_lettersInHoles.2.1 30 = .ok (.ireturn, 1) := by decide +kernel
def kb_1_lettersInHoles_15 : List zI := [(.iload_n 1, 1, 0, 0), (.aload_n 0, 1, 0, 0), (.iload_n 2, 1, 0, 0)]
theorem kd_1_lettersInHoles_15 : zdec md_1_lettersInHoles 15 kb_1_lettersInHoles_15 = true := by decide +kernel
theorem kr_1_lettersInHoles_18 : decode md_1_lettersInHoles.2.1 18 = .ok (.invokevirtual 92, 3) := by decide +kernel
def kb_1_lettersInHoles_21 : List zI := [(.iadd, 1, 0, 0), (.istore_n 1, 1, 0, 0), (.iinc 2 1, 3, 0, 0), (.goto (-22), 3, 4, 0)]
theorem kd_1_lettersInHoles_21 : zdec md_1_lettersInHoles 21 kb_1_lettersInHoles_21 = true := by decide +kernel
noncomputable def xx_lettersInHoles_4 : Nat → zM → Int → Int → Int
  | 0, μ, _, _ => 0
  | f + 1, μ, l1, l2 => (if l2 < (μ 10 1) then (xx_lettersInHoles_4 f μ (l1 + (xx_lettersIn μ l2)) (l2 + 1)) else l1)
noncomputable def xx_lettersInHoles (μ : zM) : Int := (xx_lettersInHoles_4 zN μ 0 0)
set_option maxHeartbeats 4000000 in
set_option maxRecDepth 100000 in
theorem xr_lettersInHoles_4 (f : Nat) (μ : zM) (hB : zB μ) (l1 : Int) (l2 : Int) (i0 : 0 ≤ l2 ∧ l2 ≤ (μ 10 1)) (i1 : 0 ≤ l1 ∧ l1 ≤ 10 * l2) (hf : (μ 10 1) - l2 < (f : Int)) : 0 ≤ (xx_lettersInHoles_4 f μ l1 l2) ∧ (xx_lettersInHoles_4 f μ l1 l2) ≤ 200 := by
  induction f generalizing μ l1 l2 with
  | zero => exfalso; omega
  | succ f ih =>
    replace hf : (μ 10 1) - l2 < (f : Int) + 1 := by omega
    rw [xx_lettersInHoles_4]
    have b2 : 0 ≤ (μ 10 1) ∧ (μ 10 1) ≤ 20 := hB 10 1
    by_cases c3 : l2 < (μ 10 1)
    · rw [if_pos c3]
      have r4 : 0 ≤ (xx_lettersIn μ l2) ∧ (xx_lettersIn μ l2) ≤ 10 := xr_lettersIn hB l2 (by omega)
      have b5 : 0 ≤ (μ 10 1) ∧ (μ 10 1) ≤ 20 := hB 10 1
      exact ih μ hB (l1 + (xx_lettersIn μ l2)) (l2 + 1) (by omega) (by omega) (by omega)
    · rw [if_neg c3]
      first | omega | (dsimp only; omega)
set_option maxHeartbeats 4000000 in
set_option maxRecDepth 100000 in
theorem xr_lettersInHoles {μ : zM} (hB : zB μ)  : 0 ≤ (xx_lettersInHoles μ) ∧ (xx_lettersInHoles μ) ≤ 200 := by
  unfold xx_lettersInHoles
  have b1 : 0 ≤ (μ 10 1) ∧ (μ 10 1) ≤ 20 := hB 10 1
  have fb : (3000 : Int) ≤ ((zN : Nat) : Int) := zN_big
  exact xr_lettersInHoles_4 zN μ hB 0 0 (by omega) (by omega) (by omega)
set_option maxHeartbeats 4000000 in
set_option maxRecDepth 100000 in
theorem xz_lettersInHoles_4 (f : Nat) (μ : zM) (hB : zB μ) (l1 : Int) (l2 : Int) (i0 : 0 ≤ l2 ∧ l2 ≤ (μ 10 1)) (i1 : 0 ≤ l1 ∧ l1 ≤ 10 * l2) (hf : (μ 10 1) - l2 < (f : Int)) : Ez md_1_lettersInHoles 0 0 4 [(0, zr 3), (1, zi l1), (2, zi l2)] [] zSh μ (some (zi (xx_lettersInHoles_4 f μ l1 l2))) zSh μ := by
  induction f generalizing μ l1 l2 with
  | zero => exfalso; omega
  | succ f ih =>
    replace hf : (μ 10 1) - l2 < (f : Int) + 1 := by omega
    rw [xx_lettersInHoles_4]
    have b2 : 0 ≤ (μ 10 1) ∧ (μ 10 1) ≤ 20 := hB 10 1
    refine Az.blk kd_1_lettersInHoles_4 (show zR l2 ∧ zR (μ 10 1) ∧ ((¬ l2 < (μ 10 1) → Ez md_1_lettersInHoles 0 0 29 [(0, zr 3), (1, zi l1), (2, zi l2)] [] zSh μ _ _ _) ∧ (l2 < (μ 10 1) → Ez md_1_lettersInHoles 0 0 15 [(0, zr 3), (1, zi l1), (2, zi l2)] [] zSh μ _ _ _)) from ⟨(by omega), (by omega), fun c3 => ?_, fun c3 => ?_⟩)
    · rw [if_neg c3]
      refine Az.blk kd_1_lettersInHoles_29 (show Ez md_1_lettersInHoles 0 0 30 [(0, zr 3), (1, zi l1), (2, zi l2)] [zi l1] zSh μ _ _ _ from ?_)
      exact Ez.iret kr_1_lettersInHoles_30 rfl (Nat.zero_le _) (Nat.zero_le _) rfl rfl
    · rw [if_pos c3]
      refine Az.blk kd_1_lettersInHoles_15 (show Ez md_1_lettersInHoles 0 0 18 [(0, zr 3), (1, zi l1), (2, zi l2)] [zi l2, zr 3, zi l1] zSh μ _ _ _ from ?_)
      refine Az.cV (mc := md_1_lettersIn) (k := 3) (n := 1) (As := [zi l2]) (rest := [zi l1]) kr_1_lettersInHoles_18 zw_398 ok_1_lettersIn rfl rfl rfl trivial (xz_lettersIn hB l2 (by omega)) rfl rfl (show Ez md_1_lettersInHoles 0 0 21 [(0, zr 3), (1, zi l1), (2, zi l2)] [zi (xx_lettersIn μ l2), zi l1] zSh μ _ _ _ from ?_)
      have r4 : 0 ≤ (xx_lettersIn μ l2) ∧ (xx_lettersIn μ l2) ≤ 10 := xr_lettersIn hB l2 (by omega)
      refine Az.blk kd_1_lettersInHoles_21 (show Ez md_1_lettersInHoles 0 0 4 [(2, zi (l2 + 1)), (1, zi (l1 + (xx_lettersIn μ l2))), (0, zr 3)] [] zSh μ _ _ _ from ?_)
      have b5 : 0 ≤ (μ 10 1) ∧ (μ 10 1) ≤ 20 := hB 10 1
      refine Az.lvs (lv' := [(0, zr 3), (1, zi (l1 + (xx_lettersIn μ l2))), (2, zi (l2 + 1))]) ?_ ?_
      · intro q hq; simp only [List.mem_cons, List.not_mem_nil, or_false] at hq; rcases hq with rfl | rfl | rfl <;> rfl
      exact ih μ hB (l1 + (xx_lettersIn μ l2)) (l2 + 1) (by omega) (by omega) (by omega)
set_option maxHeartbeats 4000000 in
set_option maxRecDepth 100000 in
theorem xz_lettersInHoles {μ : zM} (hB : zB μ)  : Dz md_1_lettersInHoles [zr 3] zSh μ (some (zi (xx_lettersInHoles μ))) zSh μ := by
  refine Dz.of (by decide) rfl rfl (show Ez md_1_lettersInHoles 0 0 0 [(0, zr 3)] [] zSh μ (some (zi (xx_lettersInHoles μ))) zSh μ from ?_)
  unfold xx_lettersInHoles
  refine Az.blk kd_1_lettersInHoles_0 (show Ez md_1_lettersInHoles 0 0 4 [(2, zi 0), (1, zi 0), (0, zr 3)] [] zSh μ _ _ _ from ?_)
  have b1 : 0 ≤ (μ 10 1) ∧ (μ 10 1) ≤ 20 := hB 10 1
  refine Az.lvs (lv' := [(0, zr 3), (1, zi 0), (2, zi 0)]) ?_ ?_
  · intro q hq; simp only [List.mem_cons, List.not_mem_nil, or_false] at hq; rcases hq with rfl | rfl | rfl <;> rfl
  have fb : (3000 : Int) ≤ ((zN : Nat) : Int) := zN_big
  exact xz_lettersInHoles_4 zN μ hB 0 0 (by omega) (by omega) (by omega)
