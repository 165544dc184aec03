def kb_2_hasHole_0 : List zI := [(.iload_n 1, 1, 0, 0), (.ifCond .lt 21, 3, 22, 0)]
theorem kd_2_hasHole_0 : zdec md_2_hasHole 0 kb_2_hasHole_0 = true := by decide +kernel
def kb_2_hasHole_22 : List zI := [(.iconst 0, 1, 0, 0)]
theorem kd_2_hasHole_22 : zdec md_2_hasHole 22 kb_2_hasHole_22 = true := by decide +kernel
theorem kr_2_hasHole_23 : decode md_2_hasHole.2.1 23 = .ok (.ireturn, 1) := by decide +kernel
def kb_2_hasHole_4 : List zI := [(.iload_n 1, 1, 0, 0), (.aload_n 0, 1, 0, 0), (.getfield 15, 3, 2, 1), (.if_icmp .ge 13, 3, 22, 0)]
theorem kd_2_hasHole_4 : zdec md_2_hasHole 4 kb_2_hasHole_4 = true := by decide +kernel
def kb_2_hasHole_12 : List zI := [(.iload_n 1, 1, 0, 0), (.bipush 20, 2, 0, 0), (.if_icmp .ge 7, 3, 22, 0)]
theorem kd_2_hasHole_12 : zdec md_2_hasHole 12 kb_2_hasHole_12 = true := by decide +kernel
def kb_2_hasHole_18 : List zI := [(.iconst 1, 1, 0, 0), (.goto 4, 3, 23, 0)]
theorem kd_2_hasHole_18 : zdec md_2_hasHole 18 kb_2_hasHole_18 = true := by decide +kernel
noncomputable def xx_hasHole (μ : zM) (a1 : Int) : Int := (if a1 < 0 then 0 else (if a1 < (μ 10 1) then (if a1 < 20 then 1 else 0) else 0))
set_option maxHeartbeats 4000000 in
set_option maxRecDepth 100000 in
theorem xr_hasHole {μ : zM} (hB : zB μ) (a1 : Int) (h0 : -2147483648 ≤ a1 ∧ a1 ≤ 2147483647) : 0 ≤ (xx_hasHole μ a1) ∧ (xx_hasHole μ a1) ≤ 1 ∧ ((xx_hasHole μ a1) = 1 → 0 ≤ a1 ∧ a1 < μ 10 1 ∧ a1 < 20) := by
  unfold xx_hasHole
  by_cases c1 : a1 < 0
  · rw [if_pos c1]
    first | omega | (dsimp only; omega)
  · rw [if_neg c1]
    have b2 : 0 ≤ (μ 10 1) ∧ (μ 10 1) ≤ 20 := hB 10 1
    by_cases c3 : a1 < (μ 10 1)
    · rw [if_pos c3]
      by_cases c4 : a1 < 20
      · rw [if_pos c4]
        first | omega | (dsimp only; omega)
      · rw [if_neg c4]
        first | omega | (dsimp only; omega)
    · rw [if_neg c3]
      first | omega | (dsimp only; omega)
set_option maxHeartbeats 4000000 in
set_option maxRecDepth 100000 in
theorem xz_hasHole {μ : zM} (hB : zB μ) (a1 : Int) (h0 : -2147483648 ≤ a1 ∧ a1 ≤ 2147483647) : Dz md_2_hasHole [zr 10, zi a1] zSh μ (some (zi (xx_hasHole μ a1))) zSh μ := by
  refine Dz.of (by decide) rfl rfl (show Ez md_2_hasHole 0 0 0 [(0, zr 10), (1, zi a1)] [] zSh μ (some (zi (xx_hasHole μ a1))) zSh μ from ?_)
  unfold xx_hasHole
  refine Az.blk kd_2_hasHole_0 (show zR a1 ∧ ((a1 < 0 → Ez md_2_hasHole 0 0 22 [(0, zr 10), (1, zi a1)] [] zSh μ _ _ _) ∧ (¬ a1 < 0 → Ez md_2_hasHole 0 0 4 [(0, zr 10), (1, zi a1)] [] zSh μ _ _ _)) from ⟨(by omega), fun c1 => ?_, fun c1 => ?_⟩)
  · rw [if_pos c1]
    refine Az.blk kd_2_hasHole_22 (show Ez md_2_hasHole 0 0 23 [(0, zr 10), (1, zi a1)] [zi 0] zSh μ _ _ _ from ?_)
    exact Ez.zret kr_2_hasHole_23 rfl (Nat.zero_le _) (Nat.zero_le _) (Or.inl rfl) rfl rfl
  · rw [if_neg c1]
    have b2 : 0 ≤ (μ 10 1) ∧ (μ 10 1) ≤ 20 := hB 10 1
    refine Az.blk kd_2_hasHole_4 (show zR a1 ∧ zR (μ 10 1) ∧ ((¬ a1 < (μ 10 1) → Ez md_2_hasHole 0 0 22 [(0, zr 10), (1, zi a1)] [] zSh μ _ _ _) ∧ (a1 < (μ 10 1) → Ez md_2_hasHole 0 0 12 [(0, zr 10), (1, zi a1)] [] zSh μ _ _ _)) from ⟨(by omega), (by omega), fun c3 => ?_, fun c3 => ?_⟩)
    · rw [if_neg c3]
      refine Az.blk kd_2_hasHole_22 (show Ez md_2_hasHole 0 0 23 [(0, zr 10), (1, zi a1)] [zi 0] zSh μ _ _ _ from ?_)
      exact Ez.zret kr_2_hasHole_23 rfl (Nat.zero_le _) (Nat.zero_le _) (Or.inl rfl) rfl rfl
    · rw [if_pos c3]
      refine Az.blk kd_2_hasHole_12 (show zR a1 ∧ zR 20 ∧ ((¬ a1 < 20 → Ez md_2_hasHole 0 0 22 [(0, zr 10), (1, zi a1)] [] zSh μ _ _ _) ∧ (a1 < 20 → Ez md_2_hasHole 0 0 18 [(0, zr 10), (1, zi a1)] [] zSh μ _ _ _)) from ⟨(by omega), (by omega), fun c4 => ?_, fun c4 => ?_⟩)
      · rw [if_neg c4]
        refine Az.blk kd_2_hasHole_22 (show Ez md_2_hasHole 0 0 23 [(0, zr 10), (1, zi a1)] [zi 0] zSh μ _ _ _ from ?_)
        exact Ez.zret kr_2_hasHole_23 rfl (Nat.zero_le _) (Nat.zero_le _) (Or.inl rfl) rfl rfl
      · rw [if_pos c4]
        refine Az.blk kd_2_hasHole_18 (show Ez md_2_hasHole 0 0 23 [(0, zr 10), (1, zi a1)] [zi 1] zSh μ _ _ _ from ?_)
        exact Ez.zret kr_2_hasHole_23 rfl (Nat.zero_le _) (Nat.zero_le _) (Or.inr rfl) rfl rfl
def kb_2_kindOfHole_0 : List zI := [(.aload_n 0, 1, 0, 0), (.iload_n 1, 1, 0, 0)]
theorem kd_2_kindOfHole_0 : zdec md_2_kindOfHole 0 kb_2_kindOfHole_0 = true := by decide +kernel
theorem kr_2_kindOfHole_2 : decode md_2_kindOfHole.2.1 2 = .ok (.invokevirtual 77, 3) := by decide +kernel
def kb_2_kindOfHole_5 : List zI := [(.ifCond .eq 12, 3, 17, 0)]
theorem kd_2_kindOfHole_5 : zdec md_2_kindOfHole 5 kb_2_kindOfHole_5 = true := by decide +kernel
def kb_2_kindOfHole_17 : List zI := [(.iconst (-1), 1, 0, 0)]
theorem kd_2_kindOfHole_17 : zdec md_2_kindOfHole 17 kb_2_kindOfHole_17 = true := by decide +kernel
theorem kr_2_kindOfHole_18 : decode md_2_kindOfHole.2.1 18 = .ok (.ireturn, 1) := by decide +kernel
def kb_2_kindOfHole_8 : List zI := [(.aload_n 0, 1, 0, 0), (.getfield 31, 3, 2, 6), (.iload_n 1, 1, 0, 0), (.iaload, 1, 0, 0), (.goto 4, 3, 18, 0)]
theorem kd_2_kindOfHole_8 : zdec md_2_kindOfHole 8 kb_2_kindOfHole_8 = true := by decide +kernel
noncomputable def xx_kindOfHole (μ : zM) (a1 : Int) : Int := (if (xx_hasHole μ a1) = 0 then (-1) else (μ 15 a1))
set_option maxHeartbeats 4000000 in
set_option maxRecDepth 100000 in
theorem xr_kindOfHole {μ : zM} (hB : zB μ) (a1 : Int) (h0 : -2147483648 ≤ a1 ∧ a1 ≤ 2147483647) : -1 ≤ (xx_kindOfHole μ a1) ∧ (xx_kindOfHole μ a1) ≤ 2 := by
  unfold xx_kindOfHole
  have r1 : 0 ≤ (xx_hasHole μ a1) ∧ (xx_hasHole μ a1) ≤ 1 ∧ ((xx_hasHole μ a1) = 1 → 0 ≤ a1 ∧ a1 < μ 10 1 ∧ a1 < 20) := xr_hasHole hB a1 (by omega)
  by_cases c2 : (xx_hasHole μ a1) = 0
  · rw [if_pos c2]
    first | omega | (dsimp only; omega)
  · rw [if_neg c2]
    have b3 : (-1) ≤ (μ 15 a1) ∧ (μ 15 a1) ≤ 2 := hB 15 a1
    first | omega | (dsimp only; omega)
set_option maxHeartbeats 4000000 in
set_option maxRecDepth 100000 in
theorem xz_kindOfHole {μ : zM} (hB : zB μ) (a1 : Int) (h0 : -2147483648 ≤ a1 ∧ a1 ≤ 2147483647) : Dz md_2_kindOfHole [zr 10, zi a1] zSh μ (some (zi (xx_kindOfHole μ a1))) zSh μ := by
  refine Dz.of (by decide) rfl rfl (show Ez md_2_kindOfHole 0 0 0 [(0, zr 10), (1, zi a1)] [] zSh μ (some (zi (xx_kindOfHole μ a1))) zSh μ from ?_)
  unfold xx_kindOfHole
  refine Az.blk kd_2_kindOfHole_0 (show Ez md_2_kindOfHole 0 0 2 [(0, zr 10), (1, zi a1)] [zi a1, zr 10] zSh μ _ _ _ from ?_)
  refine Az.cV (mc := md_2_hasHole) (k := 10) (n := 1) (As := [zi a1]) (rest := []) kr_2_kindOfHole_2 zw_308 ok_2_hasHole rfl rfl rfl trivial (xz_hasHole hB a1 (by omega)) rfl rfl (show Ez md_2_kindOfHole 0 0 5 [(0, zr 10), (1, zi a1)] [zi (xx_hasHole μ a1)] zSh μ _ _ _ from ?_)
  have r1 : 0 ≤ (xx_hasHole μ a1) ∧ (xx_hasHole μ a1) ≤ 1 ∧ ((xx_hasHole μ a1) = 1 → 0 ≤ a1 ∧ a1 < μ 10 1 ∧ a1 < 20) := xr_hasHole hB a1 (by omega)
  refine Az.blk kd_2_kindOfHole_5 (show zR (xx_hasHole μ a1) ∧ (((xx_hasHole μ a1) = 0 → Ez md_2_kindOfHole 0 0 17 [(0, zr 10), (1, zi a1)] [] zSh μ _ _ _) ∧ (¬ (xx_hasHole μ a1) = 0 → Ez md_2_kindOfHole 0 0 8 [(0, zr 10), (1, zi a1)] [] zSh μ _ _ _)) from ⟨(by omega), fun c2 => ?_, fun c2 => ?_⟩)
  · rw [if_pos c2]
    refine Az.blk kd_2_kindOfHole_17 (show Ez md_2_kindOfHole 0 0 18 [(0, zr 10), (1, zi a1)] [zi (-1)] zSh μ _ _ _ from ?_)
    exact Ez.iret kr_2_kindOfHole_18 rfl (Nat.zero_le _) (Nat.zero_le _) rfl rfl
  · rw [if_neg c2]
    have b3 : (-1) ≤ (μ 15 a1) ∧ (μ 15 a1) ≤ 2 := hB 15 a1
    refine Az.blk kd_2_kindOfHole_8 (show (0 ≤ a1 ∧ a1 < 20) ∧ Ez md_2_kindOfHole 0 0 18 [(0, zr 10), (1, zi a1)] [zi (μ 15 a1)] zSh μ _ _ _ from ⟨(by omega), ?_⟩)
    exact Ez.iret kr_2_kindOfHole_18 rfl (Nat.zero_le _) (Nat.zero_le _) rfl rfl
def kb_2_tieOf_0 : List zI := [(.aload_n 0, 1, 0, 0), (.iload_n 1, 1, 0, 0)]
theorem kd_2_tieOf_0 : zdec md_2_tieOf 0 kb_2_tieOf_0 = true := by decide +kernel
theorem kr_2_tieOf_2 : decode md_2_tieOf.2.1 2 = .ok (.invokevirtual 77, 3) := by decide +kernel
def kb_2_tieOf_5 : List zI := [(.ifCond .eq 12, 3, 17, 0)]
theorem kd_2_tieOf_5 : zdec md_2_tieOf 5 kb_2_tieOf_5 = true := by decide +kernel
def kb_2_tieOf_17 : List zI := [(.iconst (-1), 1, 0, 0)]
theorem kd_2_tieOf_17 : zdec md_2_tieOf 17 kb_2_tieOf_17 = true := by decide +kernel
theorem kr_2_tieOf_18 : decode md_2_tieOf.2.1 18 = .ok (.ireturn, 1) := by decide +kernel
def kb_2_tieOf_8 : List zI := [(.aload_n 0, 1, 0, 0), (.getfield 34, 3, 2, 7), (.iload_n 1, 1, 0, 0), (.iaload, 1, 0, 0), (.goto 4, 3, 18, 0)]
theorem kd_2_tieOf_8 : zdec md_2_tieOf 8 kb_2_tieOf_8 = true := by decide +kernel
noncomputable def xx_tieOf (μ : zM) (a1 : Int) : Int := (if (xx_hasHole μ a1) = 0 then (-1) else (μ 16 a1))
set_option maxHeartbeats 4000000 in
set_option maxRecDepth 100000 in
theorem xr_tieOf {μ : zM} (hB : zB μ) (a1 : Int) (h0 : -2147483648 ≤ a1 ∧ a1 ≤ 2147483647) : -1 ≤ (xx_tieOf μ a1) ∧ (xx_tieOf μ a1) ≤ 9 := by
  unfold xx_tieOf
  have r1 : 0 ≤ (xx_hasHole μ a1) ∧ (xx_hasHole μ a1) ≤ 1 ∧ ((xx_hasHole μ a1) = 1 → 0 ≤ a1 ∧ a1 < μ 10 1 ∧ a1 < 20) := xr_hasHole hB a1 (by omega)
  by_cases c2 : (xx_hasHole μ a1) = 0
  · rw [if_pos c2]
    first | omega | (dsimp only; omega)
  · rw [if_neg c2]
    have b3 : (-1) ≤ (μ 16 a1) ∧ (μ 16 a1) ≤ 9 := hB 16 a1
    first | omega | (dsimp only; omega)
set_option maxHeartbeats 4000000 in
set_option maxRecDepth 100000 in
theorem xz_tieOf {μ : zM} (hB : zB μ) (a1 : Int) (h0 : -2147483648 ≤ a1 ∧ a1 ≤ 2147483647) : Dz md_2_tieOf [zr 10, zi a1] zSh μ (some (zi (xx_tieOf μ a1))) zSh μ := by
  refine Dz.of (by decide) rfl rfl (show Ez md_2_tieOf 0 0 0 [(0, zr 10), (1, zi a1)] [] zSh μ (some (zi (xx_tieOf μ a1))) zSh μ from ?_)
  unfold xx_tieOf
  refine Az.blk kd_2_tieOf_0 (show Ez md_2_tieOf 0 0 2 [(0, zr 10), (1, zi a1)] [zi a1, zr 10] zSh μ _ _ _ from ?_)
  refine Az.cV (mc := md_2_hasHole) (k := 10) (n := 1) (As := [zi a1]) (rest := []) kr_2_tieOf_2 zw_308 ok_2_hasHole rfl rfl rfl trivial (xz_hasHole hB a1 (by omega)) rfl rfl (show Ez md_2_tieOf 0 0 5 [(0, zr 10), (1, zi a1)] [zi (xx_hasHole μ a1)] zSh μ _ _ _ from ?_)
  have r1 : 0 ≤ (xx_hasHole μ a1) ∧ (xx_hasHole μ a1) ≤ 1 ∧ ((xx_hasHole μ a1) = 1 → 0 ≤ a1 ∧ a1 < μ 10 1 ∧ a1 < 20) := xr_hasHole hB a1 (by omega)
  refine Az.blk kd_2_tieOf_5 (show zR (xx_hasHole μ a1) ∧ (((xx_hasHole μ a1) = 0 → Ez md_2_tieOf 0 0 17 [(0, zr 10), (1, zi a1)] [] zSh μ _ _ _) ∧ (¬ (xx_hasHole μ a1) = 0 → Ez md_2_tieOf 0 0 8 [(0, zr 10), (1, zi a1)] [] zSh μ _ _ _)) from ⟨(by omega), fun c2 => ?_, fun c2 => ?_⟩)
  · rw [if_pos c2]
    refine Az.blk kd_2_tieOf_17 (show Ez md_2_tieOf 0 0 18 [(0, zr 10), (1, zi a1)] [zi (-1)] zSh μ _ _ _ from ?_)
    exact Ez.iret kr_2_tieOf_18 rfl (Nat.zero_le _) (Nat.zero_le _) rfl rfl
  · rw [if_neg c2]
    have b3 : (-1) ≤ (μ 16 a1) ∧ (μ 16 a1) ≤ 9 := hB 16 a1
    refine Az.blk kd_2_tieOf_8 (show (0 ≤ a1 ∧ a1 < 20) ∧ Ez md_2_tieOf 0 0 18 [(0, zr 10), (1, zi a1)] [zi (μ 16 a1)] zSh μ _ _ _ from ⟨(by omega), ?_⟩)
    exact Ez.iret kr_2_tieOf_18 rfl (Nat.zero_le _) (Nat.zero_le _) rfl rfl
def kb_2_nounIn_0 : List zI := [(.iconst 0, 1, 0, 0), (.istore_n 3, 1, 0, 0)]
theorem kd_2_nounIn_0 : zdec md_2_nounIn 0 kb_2_nounIn_0 = true := by decide +kernel
def kb_2_nounIn_2 : List zI := [(.iload_n 3, 1, 0, 0), (.aload_n 0, 1, 0, 0), (.getfield 15, 3, 2, 1), (.if_icmp .ge 68, 3, 75, 0)]
theorem kd_2_nounIn_2 : zdec md_2_nounIn 2 kb_2_nounIn_2 = true := by decide +kernel
def kb_2_nounIn_75 : List zI := [(.iconst (-1), 1, 0, 0)]
theorem kd_2_nounIn_75 : zdec md_2_nounIn 75 kb_2_nounIn_75 = true := by decide +kernel
theorem kr_2_nounIn_76 : decode md_2_nounIn.2.1 76 = .ok (.ireturn, 1) := by decide +kernel
def kb_2_nounIn_10 : List zI := [(.iload_n 3, 1, 0, 0), (.bipush 20, 2, 0, 0), (.if_icmp .ge 62, 3, 75, 0)]
theorem kd_2_nounIn_10 : zdec md_2_nounIn 10 kb_2_nounIn_10 = true := by decide +kernel
def kb_2_nounIn_16 : List zI := [(.aload_n 0, 1, 0, 0), (.getfield 34, 3, 2, 7), (.iload_n 3, 1, 0, 0), (.iaload, 1, 0, 0), (.iload_n 1, 1, 0, 0), (.if_icmp .ne 21, 3, 44, 0)]
theorem kd_2_nounIn_16 : zdec md_2_nounIn 16 kb_2_nounIn_16 = true := by decide +kernel
def kb_2_nounIn_44 : List zI := [(.iconst 0, 1, 0, 0), (.istore 4, 2, 0, 0), (.iload 4, 2, 0, 0), (.ifCond .eq 20, 3, 69, 0)]
theorem kd_2_nounIn_44 : zdec md_2_nounIn 44 kb_2_nounIn_44 = true := by decide +kernel
def kb_2_nounIn_69 : List zI := [(.iinc 3 1, 3, 0, 0), (.goto (-70), 3, 2, 0)]
theorem kd_2_nounIn_69 : zdec md_2_nounIn 69 kb_2_nounIn_69 = true := by decide +kernel
def kb_2_nounIn_52 : List zI := [(.aload_n 0, 1, 0, 0), (.getfield 40, 3, 2, 9), (.iload_n 3, 1, 0, 0), (.iaload, 1, 0, 0), (.iconst (-1), 1, 0, 0), (.if_icmp .eq 10, 3, 69, 0)]
theorem kd_2_nounIn_52 : zdec md_2_nounIn 52 kb_2_nounIn_52 = true := by decide +kernel
def kb_2_nounIn_62 : List zI := [(.aload_n 0, 1, 0, 0), (.getfield 40, 3, 2, 9), (.iload_n 3, 1, 0, 0), (.iaload, 1, 0, 0)]
theorem kd_2_nounIn_62 : zdec md_2_nounIn 62 kb_2_nounIn_62 = true := by decide +kernel
theorem kr_2_nounIn_68 : decode md_2_nounIn.2.1 68 = .ok (.ireturn, 1) := by decide +kernel
def kb_2_nounIn_26 : List zI := [(.aload_n 0, 1, 0, 0), (.getfield 31, 3, 2, 6), (.iload_n 3, 1, 0, 0), (.iaload, 1, 0, 0), (.ifCond .ne 12, 3, 44, 0)]
theorem kd_2_nounIn_26 : zdec md_2_nounIn 26 kb_2_nounIn_26 = true := by decide +kernel
def kb_2_nounIn_35 : List zI := [(.iload_n 3, 1, 0, 0), (.iload_n 2, 1, 0, 0), (.if_icmp .eq 7, 3, 44, 0)]
theorem kd_2_nounIn_35 : zdec md_2_nounIn 35 kb_2_nounIn_35 = true := by decide +kernel
def kb_2_nounIn_40 : List zI := [(.iconst 1, 1, 0, 0), (.goto 4, 3, 45, 0)]
theorem kd_2_nounIn_40 : zdec md_2_nounIn 40 kb_2_nounIn_40 = true := by decide +kernel
def kb_2_nounIn_45 : List zI := [(.istore 4, 2, 0, 0), (.iload 4, 2, 0, 0), (.ifCond .eq 20, 3, 69, 0)]
theorem kd_2_nounIn_45 : zdec md_2_nounIn 45 kb_2_nounIn_45 = true := by decide +kernel
noncomputable def xx_nounIn_2 : Nat → zM → Int → Int → Int → Int
  | 0, μ, _, _, _ => 0
  | f + 1, μ, l1, l2, l3 => (if l3 < (μ 10 1) then (if l3 < 20 then (if (μ 16 l3) = l1 then (if (μ 15 l3) = 0 then (if l3 = l2 then (if (0 : Int) = 0 then (xx_nounIn_2 f μ l1 l2 (l3 + 1)) else (if (μ 18 l3) = (-1) then (xx_nounIn_2 f μ l1 l2 (l3 + 1)) else (μ 18 l3))) else (if (1 : Int) = 0 then (xx_nounIn_2 f μ l1 l2 (l3 + 1)) else (if (μ 18 l3) = (-1) then (xx_nounIn_2 f μ l1 l2 (l3 + 1)) else (μ 18 l3)))) else (if (0 : Int) = 0 then (xx_nounIn_2 f μ l1 l2 (l3 + 1)) else (if (μ 18 l3) = (-1) then (xx_nounIn_2 f μ l1 l2 (l3 + 1)) else (μ 18 l3)))) else (if (0 : Int) = 0 then (xx_nounIn_2 f μ l1 l2 (l3 + 1)) else (if (μ 18 l3) = (-1) then (xx_nounIn_2 f μ l1 l2 (l3 + 1)) else (μ 18 l3)))) else (-1)) else (-1))
noncomputable def xx_nounIn (μ : zM) (a1 a2 : Int) : Int := (xx_nounIn_2 zN μ a1 a2 0)
set_option maxHeartbeats 4000000 in
set_option maxRecDepth 100000 in
theorem xr_nounIn_2 (f : Nat) (μ : zM) (hB : zB μ) (l1 : Int) (l2 : Int) (l3 : Int) (i0 : 0 ≤ l3 ∧ l3 ≤ (μ 10 1)) (i1 : -2147483648 ≤ l1 ∧ l1 ≤ 2147483647) (i2 : -2147483648 ≤ l2 ∧ l2 ≤ 2147483647) (hf : (μ 10 1) - l3 < (f : Int)) : -1 ≤ (xx_nounIn_2 f μ l1 l2 l3) ∧ (xx_nounIn_2 f μ l1 l2 l3) ≤ 23 := by
  induction f generalizing μ l1 l2 l3 with
  | zero => exfalso; omega
  | succ f ih =>
    replace hf : (μ 10 1) - l3 < (f : Int) + 1 := by omega
    rw [xx_nounIn_2]
    have b2 : 0 ≤ (μ 10 1) ∧ (μ 10 1) ≤ 20 := hB 10 1
    by_cases c3 : l3 < (μ 10 1)
    · rw [if_pos c3]
      by_cases c4 : l3 < 20
      · rw [if_pos c4]
        have b5 : (-1) ≤ (μ 16 l3) ∧ (μ 16 l3) ≤ 9 := hB 16 l3
        by_cases c6 : (μ 16 l3) = l1
        · rw [if_pos c6]
          have b13 : (-1) ≤ (μ 15 l3) ∧ (μ 15 l3) ≤ 2 := hB 15 l3
          by_cases c14 : (μ 15 l3) = 0
          · rw [if_pos c14]
            by_cases c21 : l3 = l2
            · rw [if_pos c21]
              by_cases c22 : (0 : Int) = 0
              · rw [if_pos c22]
                have b23 : 0 ≤ (μ 10 1) ∧ (μ 10 1) ≤ 20 := hB 10 1
                exact ih μ hB l1 l2 (l3 + 1) (by omega) (by omega) (by omega) (by omega)
              · rw [if_neg c22]
                have b24 : (-1) ≤ (μ 18 l3) ∧ (μ 18 l3) ≤ 23 := hB 18 l3
                by_cases c25 : (μ 18 l3) = (-1)
                · rw [if_pos c25]
                  have b26 : 0 ≤ (μ 10 1) ∧ (μ 10 1) ≤ 20 := hB 10 1
                  exact ih μ hB l1 l2 (l3 + 1) (by omega) (by omega) (by omega) (by omega)
                · rw [if_neg c25]
                  have b27 : (-1) ≤ (μ 18 l3) ∧ (μ 18 l3) ≤ 23 := hB 18 l3
                  first | omega | (dsimp only; omega)
            · rw [if_neg c21]
              by_cases c28 : (1 : Int) = 0
              · rw [if_pos c28]
                have b29 : 0 ≤ (μ 10 1) ∧ (μ 10 1) ≤ 20 := hB 10 1
                exact ih μ hB l1 l2 (l3 + 1) (by omega) (by omega) (by omega) (by omega)
              · rw [if_neg c28]
                have b30 : (-1) ≤ (μ 18 l3) ∧ (μ 18 l3) ≤ 23 := hB 18 l3
                by_cases c31 : (μ 18 l3) = (-1)
                · rw [if_pos c31]
                  have b32 : 0 ≤ (μ 10 1) ∧ (μ 10 1) ≤ 20 := hB 10 1
                  exact ih μ hB l1 l2 (l3 + 1) (by omega) (by omega) (by omega) (by omega)
                · rw [if_neg c31]
                  have b33 : (-1) ≤ (μ 18 l3) ∧ (μ 18 l3) ≤ 23 := hB 18 l3
                  first | omega | (dsimp only; omega)
          · rw [if_neg c14]
            by_cases c15 : (0 : Int) = 0
            · rw [if_pos c15]
              have b16 : 0 ≤ (μ 10 1) ∧ (μ 10 1) ≤ 20 := hB 10 1
              exact ih μ hB l1 l2 (l3 + 1) (by omega) (by omega) (by omega) (by omega)
            · rw [if_neg c15]
              have b17 : (-1) ≤ (μ 18 l3) ∧ (μ 18 l3) ≤ 23 := hB 18 l3
              by_cases c18 : (μ 18 l3) = (-1)
              · rw [if_pos c18]
                have b19 : 0 ≤ (μ 10 1) ∧ (μ 10 1) ≤ 20 := hB 10 1
                exact ih μ hB l1 l2 (l3 + 1) (by omega) (by omega) (by omega) (by omega)
              · rw [if_neg c18]
                have b20 : (-1) ≤ (μ 18 l3) ∧ (μ 18 l3) ≤ 23 := hB 18 l3
                first | omega | (dsimp only; omega)
        · rw [if_neg c6]
          by_cases c7 : (0 : Int) = 0
          · rw [if_pos c7]
            have b8 : 0 ≤ (μ 10 1) ∧ (μ 10 1) ≤ 20 := hB 10 1
            exact ih μ hB l1 l2 (l3 + 1) (by omega) (by omega) (by omega) (by omega)
          · rw [if_neg c7]
            have b9 : (-1) ≤ (μ 18 l3) ∧ (μ 18 l3) ≤ 23 := hB 18 l3
            by_cases c10 : (μ 18 l3) = (-1)
            · rw [if_pos c10]
              have b11 : 0 ≤ (μ 10 1) ∧ (μ 10 1) ≤ 20 := hB 10 1
              exact ih μ hB l1 l2 (l3 + 1) (by omega) (by omega) (by omega) (by omega)
            · rw [if_neg c10]
              have b12 : (-1) ≤ (μ 18 l3) ∧ (μ 18 l3) ≤ 23 := hB 18 l3
              first | omega | (dsimp only; omega)
      · rw [if_neg c4]
        first | omega | (dsimp only; omega)
    · rw [if_neg c3]
      first | omega | (dsimp only; omega)
set_option maxHeartbeats 4000000 in
set_option maxRecDepth 100000 in
theorem xr_nounIn {μ : zM} (hB : zB μ) (a1 a2 : Int) (h0 : -2147483648 ≤ a1 ∧ a1 ≤ 2147483647) (h1 : -2147483648 ≤ a2 ∧ a2 ≤ 2147483647) : -1 ≤ (xx_nounIn μ a1 a2) ∧ (xx_nounIn μ a1 a2) ≤ 23 := by
  unfold xx_nounIn
  have b1 : 0 ≤ (μ 10 1) ∧ (μ 10 1) ≤ 20 := hB 10 1
  have fb : (3000 : Int) ≤ ((zN : Nat) : Int) := zN_big
  exact xr_nounIn_2 zN μ hB a1 a2 0 (by omega) (by omega) (by omega) (by omega)
set_option maxHeartbeats 4000000 in
set_option maxRecDepth 100000 in
theorem xz_nounIn_2 (f : Nat) (μ : zM) (hB : zB μ) (l1 : Int) (l2 : Int) (l3 : Int) (i0 : 0 ≤ l3 ∧ l3 ≤ (μ 10 1)) (i1 : -2147483648 ≤ l1 ∧ l1 ≤ 2147483647) (i2 : -2147483648 ≤ l2 ∧ l2 ≤ 2147483647) (hf : (μ 10 1) - l3 < (f : Int)) : Ez md_2_nounIn 0 0 2 [(0, zr 10), (1, zi l1), (2, zi l2), (3, zi l3)] [] zSh μ (some (zi (xx_nounIn_2 f μ l1 l2 l3))) zSh μ := by
  induction f generalizing μ l1 l2 l3 with
  | zero => exfalso; omega
  | succ f ih =>
    replace hf : (μ 10 1) - l3 < (f : Int) + 1 := by omega
    rw [xx_nounIn_2]
    have b2 : 0 ≤ (μ 10 1) ∧ (μ 10 1) ≤ 20 := hB 10 1
    refine Az.blk kd_2_nounIn_2 (show zR l3 ∧ zR (μ 10 1) ∧ ((¬ l3 < (μ 10 1) → Ez md_2_nounIn 0 0 75 [(0, zr 10), (1, zi l1), (2, zi l2), (3, zi l3)] [] zSh μ _ _ _) ∧ (l3 < (μ 10 1) → Ez md_2_nounIn 0 0 10 [(0, zr 10), (1, zi l1), (2, zi l2), (3, zi l3)] [] zSh μ _ _ _)) from ⟨(by omega), (by omega), fun c3 => ?_, fun c3 => ?_⟩)
    · rw [if_neg c3]
      refine Az.blk kd_2_nounIn_75 (show Ez md_2_nounIn 0 0 76 [(0, zr 10), (1, zi l1), (2, zi l2), (3, zi l3)] [zi (-1)] zSh μ _ _ _ from ?_)
      exact Ez.iret kr_2_nounIn_76 rfl (Nat.zero_le _) (Nat.zero_le _) rfl rfl
    · rw [if_pos c3]
      refine Az.blk kd_2_nounIn_10 (show zR l3 ∧ zR 20 ∧ ((¬ l3 < 20 → Ez md_2_nounIn 0 0 75 [(0, zr 10), (1, zi l1), (2, zi l2), (3, zi l3)] [] zSh μ _ _ _) ∧ (l3 < 20 → Ez md_2_nounIn 0 0 16 [(0, zr 10), (1, zi l1), (2, zi l2), (3, zi l3)] [] zSh μ _ _ _)) from ⟨(by omega), (by omega), fun c4 => ?_, fun c4 => ?_⟩)
      · rw [if_neg c4]
        refine Az.blk kd_2_nounIn_75 (show Ez md_2_nounIn 0 0 76 [(0, zr 10), (1, zi l1), (2, zi l2), (3, zi l3)] [zi (-1)] zSh μ _ _ _ from ?_)
        exact Ez.iret kr_2_nounIn_76 rfl (Nat.zero_le _) (Nat.zero_le _) rfl rfl
      · rw [if_pos c4]
        have b5 : (-1) ≤ (μ 16 l3) ∧ (μ 16 l3) ≤ 9 := hB 16 l3
        refine Az.blk kd_2_nounIn_16 (show (0 ≤ l3 ∧ l3 < 20) ∧ zR (μ 16 l3) ∧ zR l1 ∧ ((¬ (μ 16 l3) = l1 → Ez md_2_nounIn 0 0 44 [(0, zr 10), (1, zi l1), (2, zi l2), (3, zi l3)] [] zSh μ _ _ _) ∧ ((μ 16 l3) = l1 → Ez md_2_nounIn 0 0 26 [(0, zr 10), (1, zi l1), (2, zi l2), (3, zi l3)] [] zSh μ _ _ _)) from ⟨(by omega), (by omega), (by omega), fun c6 => ?_, fun c6 => ?_⟩)
        · rw [if_neg c6]
          refine Az.blk kd_2_nounIn_44 (show zR 0 ∧ (((0 : Int) = 0 → Ez md_2_nounIn 0 0 69 [(4, zi 0), (0, zr 10), (1, zi l1), (2, zi l2), (3, zi l3)] [] zSh μ _ _ _) ∧ (¬ (0 : Int) = 0 → Ez md_2_nounIn 0 0 52 [(4, zi 0), (0, zr 10), (1, zi l1), (2, zi l2), (3, zi l3)] [] zSh μ _ _ _)) from ⟨(by omega), fun c7 => ?_, fun c7 => ?_⟩)
          · rw [if_pos c7]
            refine Az.blk kd_2_nounIn_69 (show Ez md_2_nounIn 0 0 2 [(3, zi (l3 + 1)), (4, zi 0), (0, zr 10), (1, zi l1), (2, zi l2)] [] zSh μ _ _ _ from ?_)
            have b8 : 0 ≤ (μ 10 1) ∧ (μ 10 1) ≤ 20 := hB 10 1
            refine Az.lvs (lv' := [(0, zr 10), (1, zi l1), (2, zi l2), (3, zi (l3 + 1))]) ?_ ?_
            · intro q hq; simp only [List.mem_cons, List.not_mem_nil, or_false] at hq; rcases hq with rfl | rfl | rfl | rfl <;> rfl
            exact ih μ hB l1 l2 (l3 + 1) (by omega) (by omega) (by omega) (by omega)
          · rw [if_neg c7]
            have b9 : (-1) ≤ (μ 18 l3) ∧ (μ 18 l3) ≤ 23 := hB 18 l3
            refine Az.blk kd_2_nounIn_52 (show (0 ≤ l3 ∧ l3 < 20) ∧ zR (μ 18 l3) ∧ zR (-1) ∧ (((μ 18 l3) = (-1) → Ez md_2_nounIn 0 0 69 [(4, zi 0), (0, zr 10), (1, zi l1), (2, zi l2), (3, zi l3)] [] zSh μ _ _ _) ∧ (¬ (μ 18 l3) = (-1) → Ez md_2_nounIn 0 0 62 [(4, zi 0), (0, zr 10), (1, zi l1), (2, zi l2), (3, zi l3)] [] zSh μ _ _ _)) from ⟨(by omega), (by omega), (by omega), fun c10 => ?_, fun c10 => ?_⟩)
            · rw [if_pos c10]
              refine Az.blk kd_2_nounIn_69 (show Ez md_2_nounIn 0 0 2 [(3, zi (l3 + 1)), (4, zi 0), (0, zr 10), (1, zi l1), (2, zi l2)] [] zSh μ _ _ _ from ?_)
              have b11 : 0 ≤ (μ 10 1) ∧ (μ 10 1) ≤ 20 := hB 10 1
              refine Az.lvs (lv' := [(0, zr 10), (1, zi l1), (2, zi l2), (3, zi (l3 + 1))]) ?_ ?_
              · intro q hq; simp only [List.mem_cons, List.not_mem_nil, or_false] at hq; rcases hq with rfl | rfl | rfl | rfl <;> rfl
              exact ih μ hB l1 l2 (l3 + 1) (by omega) (by omega) (by omega) (by omega)
            · rw [if_neg c10]
              have b12 : (-1) ≤ (μ 18 l3) ∧ (μ 18 l3) ≤ 23 := hB 18 l3
              refine Az.blk kd_2_nounIn_62 (show (0 ≤ l3 ∧ l3 < 20) ∧ Ez md_2_nounIn 0 0 68 [(4, zi 0), (0, zr 10), (1, zi l1), (2, zi l2), (3, zi l3)] [zi (μ 18 l3)] zSh μ _ _ _ from ⟨(by omega), ?_⟩)
              exact Ez.iret kr_2_nounIn_68 rfl (Nat.zero_le _) (Nat.zero_le _) rfl rfl
        · rw [if_pos c6]
          have b13 : (-1) ≤ (μ 15 l3) ∧ (μ 15 l3) ≤ 2 := hB 15 l3
          refine Az.blk kd_2_nounIn_26 (show (0 ≤ l3 ∧ l3 < 20) ∧ zR (μ 15 l3) ∧ ((¬ (μ 15 l3) = 0 → Ez md_2_nounIn 0 0 44 [(0, zr 10), (1, zi l1), (2, zi l2), (3, zi l3)] [] zSh μ _ _ _) ∧ ((μ 15 l3) = 0 → Ez md_2_nounIn 0 0 35 [(0, zr 10), (1, zi l1), (2, zi l2), (3, zi l3)] [] zSh μ _ _ _)) from ⟨(by omega), (by omega), fun c14 => ?_, fun c14 => ?_⟩)
          · rw [if_neg c14]
            refine Az.blk kd_2_nounIn_44 (show zR 0 ∧ (((0 : Int) = 0 → Ez md_2_nounIn 0 0 69 [(4, zi 0), (0, zr 10), (1, zi l1), (2, zi l2), (3, zi l3)] [] zSh μ _ _ _) ∧ (¬ (0 : Int) = 0 → Ez md_2_nounIn 0 0 52 [(4, zi 0), (0, zr 10), (1, zi l1), (2, zi l2), (3, zi l3)] [] zSh μ _ _ _)) from ⟨(by omega), fun c15 => ?_, fun c15 => ?_⟩)
            · rw [if_pos c15]
              refine Az.blk kd_2_nounIn_69 (show Ez md_2_nounIn 0 0 2 [(3, zi (l3 + 1)), (4, zi 0), (0, zr 10), (1, zi l1), (2, zi l2)] [] zSh μ _ _ _ from ?_)
              have b16 : 0 ≤ (μ 10 1) ∧ (μ 10 1) ≤ 20 := hB 10 1
              refine Az.lvs (lv' := [(0, zr 10), (1, zi l1), (2, zi l2), (3, zi (l3 + 1))]) ?_ ?_
              · intro q hq; simp only [List.mem_cons, List.not_mem_nil, or_false] at hq; rcases hq with rfl | rfl | rfl | rfl <;> rfl
              exact ih μ hB l1 l2 (l3 + 1) (by omega) (by omega) (by omega) (by omega)
            · rw [if_neg c15]
              have b17 : (-1) ≤ (μ 18 l3) ∧ (μ 18 l3) ≤ 23 := hB 18 l3
              refine Az.blk kd_2_nounIn_52 (show (0 ≤ l3 ∧ l3 < 20) ∧ zR (μ 18 l3) ∧ zR (-1) ∧ (((μ 18 l3) = (-1) → Ez md_2_nounIn 0 0 69 [(4, zi 0), (0, zr 10), (1, zi l1), (2, zi l2), (3, zi l3)] [] zSh μ _ _ _) ∧ (¬ (μ 18 l3) = (-1) → Ez md_2_nounIn 0 0 62 [(4, zi 0), (0, zr 10), (1, zi l1), (2, zi l2), (3, zi l3)] [] zSh μ _ _ _)) from ⟨(by omega), (by omega), (by omega), fun c18 => ?_, fun c18 => ?_⟩)
              · rw [if_pos c18]
                refine Az.blk kd_2_nounIn_69 (show Ez md_2_nounIn 0 0 2 [(3, zi (l3 + 1)), (4, zi 0), (0, zr 10), (1, zi l1), (2, zi l2)] [] zSh μ _ _ _ from ?_)
                have b19 : 0 ≤ (μ 10 1) ∧ (μ 10 1) ≤ 20 := hB 10 1
                refine Az.lvs (lv' := [(0, zr 10), (1, zi l1), (2, zi l2), (3, zi (l3 + 1))]) ?_ ?_
                · intro q hq; simp only [List.mem_cons, List.not_mem_nil, or_false] at hq; rcases hq with rfl | rfl | rfl | rfl <;> rfl
                exact ih μ hB l1 l2 (l3 + 1) (by omega) (by omega) (by omega) (by omega)
              · rw [if_neg c18]
                have b20 : (-1) ≤ (μ 18 l3) ∧ (μ 18 l3) ≤ 23 := hB 18 l3
                refine Az.blk kd_2_nounIn_62 (show (0 ≤ l3 ∧ l3 < 20) ∧ Ez md_2_nounIn 0 0 68 [(4, zi 0), (0, zr 10), (1, zi l1), (2, zi l2), (3, zi l3)] [zi (μ 18 l3)] zSh μ _ _ _ from ⟨(by omega), ?_⟩)
                exact Ez.iret kr_2_nounIn_68 rfl (Nat.zero_le _) (Nat.zero_le _) rfl rfl
          · rw [if_pos c14]
            refine Az.blk kd_2_nounIn_35 (show zR l3 ∧ zR l2 ∧ ((l3 = l2 → Ez md_2_nounIn 0 0 44 [(0, zr 10), (1, zi l1), (2, zi l2), (3, zi l3)] [] zSh μ _ _ _) ∧ (¬ l3 = l2 → Ez md_2_nounIn 0 0 40 [(0, zr 10), (1, zi l1), (2, zi l2), (3, zi l3)] [] zSh μ _ _ _)) from ⟨(by omega), (by omega), fun c21 => ?_, fun c21 => ?_⟩)
            · rw [if_pos c21]
              refine Az.blk kd_2_nounIn_44 (show zR 0 ∧ (((0 : Int) = 0 → Ez md_2_nounIn 0 0 69 [(4, zi 0), (0, zr 10), (1, zi l1), (2, zi l2), (3, zi l3)] [] zSh μ _ _ _) ∧ (¬ (0 : Int) = 0 → Ez md_2_nounIn 0 0 52 [(4, zi 0), (0, zr 10), (1, zi l1), (2, zi l2), (3, zi l3)] [] zSh μ _ _ _)) from ⟨(by omega), fun c22 => ?_, fun c22 => ?_⟩)
              · rw [if_pos c22]
                refine Az.blk kd_2_nounIn_69 (show Ez md_2_nounIn 0 0 2 [(3, zi (l3 + 1)), (4, zi 0), (0, zr 10), (1, zi l1), (2, zi l2)] [] zSh μ _ _ _ from ?_)
                have b23 : 0 ≤ (μ 10 1) ∧ (μ 10 1) ≤ 20 := hB 10 1
                refine Az.lvs (lv' := [(0, zr 10), (1, zi l1), (2, zi l2), (3, zi (l3 + 1))]) ?_ ?_
                · intro q hq; simp only [List.mem_cons, List.not_mem_nil, or_false] at hq; rcases hq with rfl | rfl | rfl | rfl <;> rfl
                exact ih μ hB l1 l2 (l3 + 1) (by omega) (by omega) (by omega) (by omega)
              · rw [if_neg c22]
                have b24 : (-1) ≤ (μ 18 l3) ∧ (μ 18 l3) ≤ 23 := hB 18 l3
                refine Az.blk kd_2_nounIn_52 (show (0 ≤ l3 ∧ l3 < 20) ∧ zR (μ 18 l3) ∧ zR (-1) ∧ (((μ 18 l3) = (-1) → Ez md_2_nounIn 0 0 69 [(4, zi 0), (0, zr 10), (1, zi l1), (2, zi l2), (3, zi l3)] [] zSh μ _ _ _) ∧ (¬ (μ 18 l3) = (-1) → Ez md_2_nounIn 0 0 62 [(4, zi 0), (0, zr 10), (1, zi l1), (2, zi l2), (3, zi l3)] [] zSh μ _ _ _)) from ⟨(by omega), (by omega), (by omega), fun c25 => ?_, fun c25 => ?_⟩)
                · rw [if_pos c25]
                  refine Az.blk kd_2_nounIn_69 (show Ez md_2_nounIn 0 0 2 [(3, zi (l3 + 1)), (4, zi 0), (0, zr 10), (1, zi l1), (2, zi l2)] [] zSh μ _ _ _ from ?_)
                  have b26 : 0 ≤ (μ 10 1) ∧ (μ 10 1) ≤ 20 := hB 10 1
                  refine Az.lvs (lv' := [(0, zr 10), (1, zi l1), (2, zi l2), (3, zi (l3 + 1))]) ?_ ?_
                  · intro q hq; simp only [List.mem_cons, List.not_mem_nil, or_false] at hq; rcases hq with rfl | rfl | rfl | rfl <;> rfl
                  exact ih μ hB l1 l2 (l3 + 1) (by omega) (by omega) (by omega) (by omega)
                · rw [if_neg c25]
                  have b27 : (-1) ≤ (μ 18 l3) ∧ (μ 18 l3) ≤ 23 := hB 18 l3
                  refine Az.blk kd_2_nounIn_62 (show (0 ≤ l3 ∧ l3 < 20) ∧ Ez md_2_nounIn 0 0 68 [(4, zi 0), (0, zr 10), (1, zi l1), (2, zi l2), (3, zi l3)] [zi (μ 18 l3)] zSh μ _ _ _ from ⟨(by omega), ?_⟩)
                  exact Ez.iret kr_2_nounIn_68 rfl (Nat.zero_le _) (Nat.zero_le _) rfl rfl
            · rw [if_neg c21]
              refine Az.blk kd_2_nounIn_40 (show Ez md_2_nounIn 0 0 45 [(0, zr 10), (1, zi l1), (2, zi l2), (3, zi l3)] [zi 1] zSh μ _ _ _ from ?_)
              refine Az.blk kd_2_nounIn_45 (show zR 1 ∧ (((1 : Int) = 0 → Ez md_2_nounIn 0 0 69 [(4, zi 1), (0, zr 10), (1, zi l1), (2, zi l2), (3, zi l3)] [] zSh μ _ _ _) ∧ (¬ (1 : Int) = 0 → Ez md_2_nounIn 0 0 52 [(4, zi 1), (0, zr 10), (1, zi l1), (2, zi l2), (3, zi l3)] [] zSh μ _ _ _)) from ⟨(by omega), fun c28 => ?_, fun c28 => ?_⟩)
              · rw [if_pos c28]
                refine Az.blk kd_2_nounIn_69 (show Ez md_2_nounIn 0 0 2 [(3, zi (l3 + 1)), (4, zi 1), (0, zr 10), (1, zi l1), (2, zi l2)] [] zSh μ _ _ _ from ?_)
                have b29 : 0 ≤ (μ 10 1) ∧ (μ 10 1) ≤ 20 := hB 10 1
                refine Az.lvs (lv' := [(0, zr 10), (1, zi l1), (2, zi l2), (3, zi (l3 + 1))]) ?_ ?_
                · intro q hq; simp only [List.mem_cons, List.not_mem_nil, or_false] at hq; rcases hq with rfl | rfl | rfl | rfl <;> rfl
                exact ih μ hB l1 l2 (l3 + 1) (by omega) (by omega) (by omega) (by omega)
              · rw [if_neg c28]
                have b30 : (-1) ≤ (μ 18 l3) ∧ (μ 18 l3) ≤ 23 := hB 18 l3
                refine Az.blk kd_2_nounIn_52 (show (0 ≤ l3 ∧ l3 < 20) ∧ zR (μ 18 l3) ∧ zR (-1) ∧ (((μ 18 l3) = (-1) → Ez md_2_nounIn 0 0 69 [(4, zi 1), (0, zr 10), (1, zi l1), (2, zi l2), (3, zi l3)] [] zSh μ _ _ _) ∧ (¬ (μ 18 l3) = (-1) → Ez md_2_nounIn 0 0 62 [(4, zi 1), (0, zr 10), (1, zi l1), (2, zi l2), (3, zi l3)] [] zSh μ _ _ _)) from ⟨(by omega), (by omega), (by omega), fun c31 => ?_, fun c31 => ?_⟩)
                · rw [if_pos c31]
                  refine Az.blk kd_2_nounIn_69 (show Ez md_2_nounIn 0 0 2 [(3, zi (l3 + 1)), (4, zi 1), (0, zr 10), (1, zi l1), (2, zi l2)] [] zSh μ _ _ _ from ?_)
                  have b32 : 0 ≤ (μ 10 1) ∧ (μ 10 1) ≤ 20 := hB 10 1
                  refine Az.lvs (lv' := [(0, zr 10), (1, zi l1), (2, zi l2), (3, zi (l3 + 1))]) ?_ ?_
                  · intro q hq; simp only [List.mem_cons, List.not_mem_nil, or_false] at hq; rcases hq with rfl | rfl | rfl | rfl <;> rfl
                  exact ih μ hB l1 l2 (l3 + 1) (by omega) (by omega) (by omega) (by omega)
                · rw [if_neg c31]
                  have b33 : (-1) ≤ (μ 18 l3) ∧ (μ 18 l3) ≤ 23 := hB 18 l3
                  refine Az.blk kd_2_nounIn_62 (show (0 ≤ l3 ∧ l3 < 20) ∧ Ez md_2_nounIn 0 0 68 [(4, zi 1), (0, zr 10), (1, zi l1), (2, zi l2), (3, zi l3)] [zi (μ 18 l3)] zSh μ _ _ _ from ⟨(by omega), ?_⟩)
                  exact Ez.iret kr_2_nounIn_68 rfl (Nat.zero_le _) (Nat.zero_le _) rfl rfl
set_option maxHeartbeats 4000000 in
set_option maxRecDepth 100000 in
theorem xz_nounIn {μ : zM} (hB : zB μ) (a1 a2 : Int) (h0 : -2147483648 ≤ a1 ∧ a1 ≤ 2147483647) (h1 : -2147483648 ≤ a2 ∧ a2 ≤ 2147483647) : Dz md_2_nounIn [zr 10, zi a1, zi a2] zSh μ (some (zi (xx_nounIn μ a1 a2))) zSh μ := by
  refine Dz.of (by decide) rfl rfl (show Ez md_2_nounIn 0 0 0 [(0, zr 10), (1, zi a1), (2, zi a2)] [] zSh μ (some (zi (xx_nounIn μ a1 a2))) zSh μ from ?_)
  unfold xx_nounIn
  refine Az.blk kd_2_nounIn_0 (show Ez md_2_nounIn 0 0 2 [(3, zi 0), (0, zr 10), (1, zi a1), (2, zi a2)] [] zSh μ _ _ _ from ?_)
  have b1 : 0 ≤ (μ 10 1) ∧ (μ 10 1) ≤ 20 := hB 10 1
  refine Az.lvs (lv' := [(0, zr 10), (1, zi a1), (2, zi a2), (3, zi 0)]) ?_ ?_
  · intro q hq; simp only [List.mem_cons, List.not_mem_nil, or_false] at hq; rcases hq with rfl | rfl | rfl | rfl <;> rfl
  have fb : (3000 : Int) ≤ ((zN : Nat) : Int) := zN_big
  exact xz_nounIn_2 zN μ hB a1 a2 0 (by omega) (by omega) (by omega) (by omega)
def kb_2_wordIn_0 : List zI := [(.aload_n 0, 1, 0, 0), (.iload_n 1, 1, 0, 0)]
theorem kd_2_wordIn_0 : zdec md_2_wordIn 0 kb_2_wordIn_0 = true := by decide +kernel
theorem kr_2_wordIn_2 : decode md_2_wordIn.2.1 2 = .ok (.invokevirtual 77, 3) := by decide +kernel
def kb_2_wordIn_5 : List zI := [(.ifCond .eq 12, 3, 17, 0)]
theorem kd_2_wordIn_5 : zdec md_2_wordIn 5 kb_2_wordIn_5 = true := by decide +kernel
def kb_2_wordIn_17 : List zI := [(.iconst (-1), 1, 0, 0)]
theorem kd_2_wordIn_17 : zdec md_2_wordIn 17 kb_2_wordIn_17 = true := by decide +kernel
theorem kr_2_wordIn_18 : decode md_2_wordIn.2.1 18 = .ok (.ireturn, 1) := by decide +kernel
def kb_2_wordIn_8 : List zI := [(.aload_n 0, 1, 0, 0), (.getfield 40, 3, 2, 9), (.iload_n 1, 1, 0, 0), (.iaload, 1, 0, 0), (.goto 4, 3, 18, 0)]
theorem kd_2_wordIn_8 : zdec md_2_wordIn 8 kb_2_wordIn_8 = true := by decide +kernel
noncomputable def xx_wordIn (μ : zM) (a1 : Int) : Int := (if (xx_hasHole μ a1) = 0 then (-1) else (μ 18 a1))
set_option maxHeartbeats 4000000 in
set_option maxRecDepth 100000 in
theorem xr_wordIn {μ : zM} (hB : zB μ) (a1 : Int) (h0 : -2147483648 ≤ a1 ∧ a1 ≤ 2147483647) : -1 ≤ (xx_wordIn μ a1) ∧ (xx_wordIn μ a1) ≤ 23 := by
  unfold xx_wordIn
  have r1 : 0 ≤ (xx_hasHole μ a1) ∧ (xx_hasHole μ a1) ≤ 1 ∧ ((xx_hasHole μ a1) = 1 → 0 ≤ a1 ∧ a1 < μ 10 1 ∧ a1 < 20) := xr_hasHole hB a1 (by omega)
  by_cases c2 : (xx_hasHole μ a1) = 0
  · rw [if_pos c2]
    first | omega | (dsimp only; omega)
  · rw [if_neg c2]
    have b3 : (-1) ≤ (μ 18 a1) ∧ (μ 18 a1) ≤ 23 := hB 18 a1
    first | omega | (dsimp only; omega)
set_option maxHeartbeats 4000000 in
set_option maxRecDepth 100000 in
theorem xz_wordIn {μ : zM} (hB : zB μ) (a1 : Int) (h0 : -2147483648 ≤ a1 ∧ a1 ≤ 2147483647) : Dz md_2_wordIn [zr 10, zi a1] zSh μ (some (zi (xx_wordIn μ a1))) zSh μ := by
  refine Dz.of (by decide) rfl rfl (show Ez md_2_wordIn 0 0 0 [(0, zr 10), (1, zi a1)] [] zSh μ (some (zi (xx_wordIn μ a1))) zSh μ from ?_)
  unfold xx_wordIn
  refine Az.blk kd_2_wordIn_0 (show Ez md_2_wordIn 0 0 2 [(0, zr 10), (1, zi a1)] [zi a1, zr 10] zSh μ _ _ _ from ?_)
  refine Az.cV (mc := md_2_hasHole) (k := 10) (n := 1) (As := [zi a1]) (rest := []) kr_2_wordIn_2 zw_308 ok_2_hasHole rfl rfl rfl trivial (xz_hasHole hB a1 (by omega)) rfl rfl (show Ez md_2_wordIn 0 0 5 [(0, zr 10), (1, zi a1)] [zi (xx_hasHole μ a1)] zSh μ _ _ _ from ?_)
  have r1 : 0 ≤ (xx_hasHole μ a1) ∧ (xx_hasHole μ a1) ≤ 1 ∧ ((xx_hasHole μ a1) = 1 → 0 ≤ a1 ∧ a1 < μ 10 1 ∧ a1 < 20) := xr_hasHole hB a1 (by omega)
  refine Az.blk kd_2_wordIn_5 (show zR (xx_hasHole μ a1) ∧ (((xx_hasHole μ a1) = 0 → Ez md_2_wordIn 0 0 17 [(0, zr 10), (1, zi a1)] [] zSh μ _ _ _) ∧ (¬ (xx_hasHole μ a1) = 0 → Ez md_2_wordIn 0 0 8 [(0, zr 10), (1, zi a1)] [] zSh μ _ _ _)) from ⟨(by omega), fun c2 => ?_, fun c2 => ?_⟩)
  · rw [if_pos c2]
    refine Az.blk kd_2_wordIn_17 (show Ez md_2_wordIn 0 0 18 [(0, zr 10), (1, zi a1)] [zi (-1)] zSh μ _ _ _ from ?_)
    exact Ez.iret kr_2_wordIn_18 rfl (Nat.zero_le _) (Nat.zero_le _) rfl rfl
  · rw [if_neg c2]
    have b3 : (-1) ≤ (μ 18 a1) ∧ (μ 18 a1) ≤ 23 := hB 18 a1
    refine Az.blk kd_2_wordIn_8 (show (0 ≤ a1 ∧ a1 < 20) ∧ Ez md_2_wordIn 0 0 18 [(0, zr 10), (1, zi a1)] [zi (μ 18 a1)] zSh μ _ _ _ from ⟨(by omega), ?_⟩)
    exact Ez.iret kr_2_wordIn_18 rfl (Nat.zero_le _) (Nat.zero_le _) rfl rfl
def kb_2_holesWith_0 : List zI := [(.iconst 0, 1, 0, 0), (.istore_n 2, 1, 0, 0), (.iconst 0, 1, 0, 0), (.istore_n 3, 1, 0, 0)]
theorem kd_2_holesWith_0 : zdec md_2_holesWith 0 kb_2_holesWith_0 = true := by decide +kernel
def kb_2_holesWith_4 : List zI := [(.iload_n 3, 1, 0, 0), (.aload_n 0, 1, 0, 0), (.getfield 15, 3, 2, 1), (.if_icmp .ge 21, 3, 30, 0)]
theorem kd_2_holesWith_4 : zdec md_2_holesWith 4 kb_2_holesWith_4 = true := by decide +kernel
def kb_2_holesWith_30 : List zI := [(.iload_n 2, 1, 0, 0)]
theorem kd_2_holesWith_30 : zdec md_2_holesWith 30 kb_2_holesWith_30 = true := by decide +kernel
theorem kr_2_holesWith_31 : decode md_2_holesWith.2.1 31 = .ok (.ireturn, 1) := by decide +kernel
def kb_2_holesWith_12 : List zI := [(.aload_n 0, 1, 0, 0), (.iload_n 3, 1, 0, 0)]
theorem kd_2_holesWith_12 : zdec md_2_holesWith 12 kb_2_holesWith_12 = true := by decide +kernel
theorem kr_2_holesWith_14 : decode md_2_holesWith.2.1 14 = .ok (.invokevirtual 80, 3) := by decide +kernel
def kb_2_holesWith_17 : List zI := [(.iload_n 1, 1, 0, 0), (.if_icmp .ne 6, 3, 24, 0)]
theorem kd_2_holesWith_17 : zdec md_2_holesWith 17 kb_2_holesWith_17 = true := by decide +kernel
def kb_2_holesWith_24 : List zI := [(.iinc 3 1, 3, 0, 0), (.goto (-23), 3, 4, 0)]
theorem kd_2_holesWith_24 : zdec md_2_holesWith 24 kb_2_holesWith_24 = true := by decide +kernel
def kb_2_holesWith_21 : List zI := [(.iinc 2 1, 3, 0, 0), (.iinc 3 1, 3, 0, 0), (.goto (-23), 3, 4, 0)]
theorem kd_2_holesWith_21 : zdec md_2_holesWith 21 kb_2_holesWith_21 = true := by decide +kernel
noncomputable def xx_holesWith_4 : Nat → zM → Int → Int → Int → Int
  | 0, μ, _, _, _ => 0
  | f + 1, μ, l1, l2, l3 => (if l3 < (μ 10 1) then (if (xx_wordIn μ l3) = l1 then (xx_holesWith_4 f μ l1 (l2 + 1) (l3 + 1)) else (xx_holesWith_4 f μ l1 l2 (l3 + 1))) else l2)
noncomputable def xx_holesWith (μ : zM) (a1 : Int) : Int := (xx_holesWith_4 zN μ a1 0 0)
set_option maxHeartbeats 4000000 in
set_option maxRecDepth 100000 in
theorem xr_holesWith_4 (f : Nat) (μ : zM) (hB : zB μ) (l1 : Int) (l2 : Int) (l3 : Int) (i0 : 0 ≤ l3 ∧ l3 ≤ (μ 10 1)) (i1 : 0 ≤ l2 ∧ l2 ≤ l3) (i2 : -2147483648 ≤ l1 ∧ l1 ≤ 2147483647) (hf : (μ 10 1) - l3 < (f : Int)) : 0 ≤ (xx_holesWith_4 f μ l1 l2 l3) ∧ (xx_holesWith_4 f μ l1 l2 l3) ≤ 20 := by
  induction f generalizing μ l1 l2 l3 with
  | zero => exfalso; omega
  | succ f ih =>
    replace hf : (μ 10 1) - l3 < (f : Int) + 1 := by omega
    rw [xx_holesWith_4]
    have b2 : 0 ≤ (μ 10 1) ∧ (μ 10 1) ≤ 20 := hB 10 1
    by_cases c3 : l3 < (μ 10 1)
    · rw [if_pos c3]
      have r4 : -1 ≤ (xx_wordIn μ l3) ∧ (xx_wordIn μ l3) ≤ 23 := xr_wordIn hB l3 (by omega)
      by_cases c5 : (xx_wordIn μ l3) = l1
      · rw [if_pos c5]
        have b7 : 0 ≤ (μ 10 1) ∧ (μ 10 1) ≤ 20 := hB 10 1
        exact ih μ hB l1 (l2 + 1) (l3 + 1) (by omega) (by omega) (by omega) (by omega)
      · rw [if_neg c5]
        have b6 : 0 ≤ (μ 10 1) ∧ (μ 10 1) ≤ 20 := hB 10 1
        exact ih μ hB l1 l2 (l3 + 1) (by omega) (by omega) (by omega) (by omega)
    · rw [if_neg c3]
      first | omega | (dsimp only; omega)
set_option maxHeartbeats 4000000 in
set_option maxRecDepth 100000 in
theorem xr_holesWith {μ : zM} (hB : zB μ) (a1 : Int) (h0 : -2147483648 ≤ a1 ∧ a1 ≤ 2147483647) : 0 ≤ (xx_holesWith μ a1) ∧ (xx_holesWith μ a1) ≤ 20 := by
  unfold xx_holesWith
  have b1 : 0 ≤ (μ 10 1) ∧ (μ 10 1) ≤ 20 := hB 10 1
  have fb : (3000 : Int) ≤ ((zN : Nat) : Int) := zN_big
  exact xr_holesWith_4 zN μ hB a1 0 0 (by omega) (by omega) (by omega) (by omega)
set_option maxHeartbeats 4000000 in
set_option maxRecDepth 100000 in
theorem xz_holesWith_4 (f : Nat) (μ : zM) (hB : zB μ) (l1 : Int) (l2 : Int) (l3 : Int) (i0 : 0 ≤ l3 ∧ l3 ≤ (μ 10 1)) (i1 : 0 ≤ l2 ∧ l2 ≤ l3) (i2 : -2147483648 ≤ l1 ∧ l1 ≤ 2147483647) (hf : (μ 10 1) - l3 < (f : Int)) : Ez md_2_holesWith 0 0 4 [(0, zr 10), (1, zi l1), (2, zi l2), (3, zi l3)] [] zSh μ (some (zi (xx_holesWith_4 f μ l1 l2 l3))) zSh μ := by
  induction f generalizing μ l1 l2 l3 with
  | zero => exfalso; omega
  | succ f ih =>
    replace hf : (μ 10 1) - l3 < (f : Int) + 1 := by omega
    rw [xx_holesWith_4]
    have b2 : 0 ≤ (μ 10 1) ∧ (μ 10 1) ≤ 20 := hB 10 1
    refine Az.blk kd_2_holesWith_4 (show zR l3 ∧ zR (μ 10 1) ∧ ((¬ l3 < (μ 10 1) → Ez md_2_holesWith 0 0 30 [(0, zr 10), (1, zi l1), (2, zi l2), (3, zi l3)] [] zSh μ _ _ _) ∧ (l3 < (μ 10 1) → Ez md_2_holesWith 0 0 12 [(0, zr 10), (1, zi l1), (2, zi l2), (3, zi l3)] [] zSh μ _ _ _)) from ⟨(by omega), (by omega), fun c3 => ?_, fun c3 => ?_⟩)
    · rw [if_neg c3]
      refine Az.blk kd_2_holesWith_30 (show Ez md_2_holesWith 0 0 31 [(0, zr 10), (1, zi l1), (2, zi l2), (3, zi l3)] [zi l2] zSh μ _ _ _ from ?_)
      exact Ez.iret kr_2_holesWith_31 rfl (Nat.zero_le _) (Nat.zero_le _) rfl rfl
    · rw [if_pos c3]
      refine Az.blk kd_2_holesWith_12 (show Ez md_2_holesWith 0 0 14 [(0, zr 10), (1, zi l1), (2, zi l2), (3, zi l3)] [zi l3, zr 10] zSh μ _ _ _ from ?_)
      refine Az.cV (mc := md_2_wordIn) (k := 10) (n := 1) (As := [zi l3]) (rest := []) kr_2_holesWith_14 zw_304 ok_2_wordIn rfl rfl rfl trivial (xz_wordIn hB l3 (by omega)) rfl rfl (show Ez md_2_holesWith 0 0 17 [(0, zr 10), (1, zi l1), (2, zi l2), (3, zi l3)] [zi (xx_wordIn μ l3)] zSh μ _ _ _ from ?_)
      have r4 : -1 ≤ (xx_wordIn μ l3) ∧ (xx_wordIn μ l3) ≤ 23 := xr_wordIn hB l3 (by omega)
      refine Az.blk kd_2_holesWith_17 (show zR (xx_wordIn μ l3) ∧ zR l1 ∧ ((¬ (xx_wordIn μ l3) = l1 → Ez md_2_holesWith 0 0 24 [(0, zr 10), (1, zi l1), (2, zi l2), (3, zi l3)] [] zSh μ _ _ _) ∧ ((xx_wordIn μ l3) = l1 → Ez md_2_holesWith 0 0 21 [(0, zr 10), (1, zi l1), (2, zi l2), (3, zi l3)] [] zSh μ _ _ _)) from ⟨(by omega), (by omega), fun c5 => ?_, fun c5 => ?_⟩)
      · rw [if_neg c5]
        refine Az.blk kd_2_holesWith_24 (show Ez md_2_holesWith 0 0 4 [(3, zi (l3 + 1)), (0, zr 10), (1, zi l1), (2, zi l2)] [] zSh μ _ _ _ from ?_)
        have b6 : 0 ≤ (μ 10 1) ∧ (μ 10 1) ≤ 20 := hB 10 1
        refine Az.lvs (lv' := [(0, zr 10), (1, zi l1), (2, zi l2), (3, zi (l3 + 1))]) ?_ ?_
        · intro q hq; simp only [List.mem_cons, List.not_mem_nil, or_false] at hq; rcases hq with rfl | rfl | rfl | rfl <;> rfl
        exact ih μ hB l1 l2 (l3 + 1) (by omega) (by omega) (by omega) (by omega)
      · rw [if_pos c5]
        refine Az.blk kd_2_holesWith_21 (show Ez md_2_holesWith 0 0 4 [(3, zi (l3 + 1)), (2, zi (l2 + 1)), (0, zr 10), (1, zi l1)] [] zSh μ _ _ _ from ?_)
        have b7 : 0 ≤ (μ 10 1) ∧ (μ 10 1) ≤ 20 := hB 10 1
        refine Az.lvs (lv' := [(0, zr 10), (1, zi l1), (2, zi (l2 + 1)), (3, zi (l3 + 1))]) ?_ ?_
        · intro q hq; simp only [List.mem_cons, List.not_mem_nil, or_false] at hq; rcases hq with rfl | rfl | rfl | rfl <;> rfl
        exact ih μ hB l1 (l2 + 1) (l3 + 1) (by omega) (by omega) (by omega) (by omega)
set_option maxHeartbeats 4000000 in
set_option maxRecDepth 100000 in
theorem xz_holesWith {μ : zM} (hB : zB μ) (a1 : Int) (h0 : -2147483648 ≤ a1 ∧ a1 ≤ 2147483647) : Dz md_2_holesWith [zr 10, zi a1] zSh μ (some (zi (xx_holesWith μ a1))) zSh μ := by
  refine Dz.of (by decide) rfl rfl (show Ez md_2_holesWith 0 0 0 [(0, zr 10), (1, zi a1)] [] zSh μ (some (zi (xx_holesWith μ a1))) zSh μ from ?_)
  unfold xx_holesWith
  refine Az.blk kd_2_holesWith_0 (show Ez md_2_holesWith 0 0 4 [(3, zi 0), (2, zi 0), (0, zr 10), (1, zi a1)] [] zSh μ _ _ _ from ?_)
  have b1 : 0 ≤ (μ 10 1) ∧ (μ 10 1) ≤ 20 := hB 10 1
  refine Az.lvs (lv' := [(0, zr 10), (1, zi a1), (2, zi 0), (3, zi 0)]) ?_ ?_
  · intro q hq; simp only [List.mem_cons, List.not_mem_nil, or_false] at hq; rcases hq with rfl | rfl | rfl | rfl <;> rfl
  have fb : (3000 : Int) ≤ ((zN : Nat) : Int) := zN_big
  exact xz_holesWith_4 zN μ hB a1 0 0 (by omega) (by omega) (by omega) (by omega)
def kb_2_isEmptyHole_0 : List zI := [(.aload_n 0, 1, 0, 0), (.iload_n 1, 1, 0, 0)]
theorem kd_2_isEmptyHole_0 : zdec md_2_isEmptyHole 0 kb_2_isEmptyHole_0 = true := by decide +kernel
theorem kr_2_isEmptyHole_2 : decode md_2_isEmptyHole.2.1 2 = .ok (.invokevirtual 80, 3) := by decide +kernel
def kb_2_isEmptyHole_5 : List zI := [(.iconst (-1), 1, 0, 0), (.if_icmp .ne 7, 3, 13, 0)]
theorem kd_2_isEmptyHole_5 : zdec md_2_isEmptyHole 5 kb_2_isEmptyHole_5 = true := by decide +kernel
def kb_2_isEmptyHole_13 : List zI := [(.iconst 0, 1, 0, 0)]
theorem kd_2_isEmptyHole_13 : zdec md_2_isEmptyHole 13 kb_2_isEmptyHole_13 = true := by decide +kernel
theorem kr_2_isEmptyHole_14 : decode md_2_isEmptyHole.2.1 14 = .ok (.ireturn, 1) := by decide +kernel
def kb_2_isEmptyHole_9 : List zI := [(.iconst 1, 1, 0, 0), (.goto 4, 3, 14, 0)]
theorem kd_2_isEmptyHole_9 : zdec md_2_isEmptyHole 9 kb_2_isEmptyHole_9 = true := by decide +kernel
noncomputable def xx_isEmptyHole (μ : zM) (a1 : Int) : Int := (if (xx_wordIn μ a1) = (-1) then 1 else 0)
set_option maxHeartbeats 4000000 in
set_option maxRecDepth 100000 in
theorem xr_isEmptyHole {μ : zM} (hB : zB μ) (a1 : Int) (h0 : -2147483648 ≤ a1 ∧ a1 ≤ 2147483647) : 0 ≤ (xx_isEmptyHole μ a1) ∧ (xx_isEmptyHole μ a1) ≤ 1 := by
  unfold xx_isEmptyHole
  have r1 : -1 ≤ (xx_wordIn μ a1) ∧ (xx_wordIn μ a1) ≤ 23 := xr_wordIn hB a1 (by omega)
  by_cases c2 : (xx_wordIn μ a1) = (-1)
  · rw [if_pos c2]
    first | omega | (dsimp only; omega)
  · rw [if_neg c2]
    first | omega | (dsimp only; omega)
set_option maxHeartbeats 4000000 in
set_option maxRecDepth 100000 in
theorem xz_isEmptyHole {μ : zM} (hB : zB μ) (a1 : Int) (h0 : -2147483648 ≤ a1 ∧ a1 ≤ 2147483647) : Dz md_2_isEmptyHole [zr 10, zi a1] zSh μ (some (zi (xx_isEmptyHole μ a1))) zSh μ := by
  refine Dz.of (by decide) rfl rfl (show Ez md_2_isEmptyHole 0 0 0 [(0, zr 10), (1, zi a1)] [] zSh μ (some (zi (xx_isEmptyHole μ a1))) zSh μ from ?_)
  unfold xx_isEmptyHole
  refine Az.blk kd_2_isEmptyHole_0 (show Ez md_2_isEmptyHole 0 0 2 [(0, zr 10), (1, zi a1)] [zi a1, zr 10] zSh μ _ _ _ from ?_)
  refine Az.cV (mc := md_2_wordIn) (k := 10) (n := 1) (As := [zi a1]) (rest := []) kr_2_isEmptyHole_2 zw_304 ok_2_wordIn rfl rfl rfl trivial (xz_wordIn hB a1 (by omega)) rfl rfl (show Ez md_2_isEmptyHole 0 0 5 [(0, zr 10), (1, zi a1)] [zi (xx_wordIn μ a1)] zSh μ _ _ _ from ?_)
  have r1 : -1 ≤ (xx_wordIn μ a1) ∧ (xx_wordIn μ a1) ≤ 23 := xr_wordIn hB a1 (by omega)
  refine Az.blk kd_2_isEmptyHole_5 (show zR (xx_wordIn μ a1) ∧ zR (-1) ∧ ((¬ (xx_wordIn μ a1) = (-1) → Ez md_2_isEmptyHole 0 0 13 [(0, zr 10), (1, zi a1)] [] zSh μ _ _ _) ∧ ((xx_wordIn μ a1) = (-1) → Ez md_2_isEmptyHole 0 0 9 [(0, zr 10), (1, zi a1)] [] zSh μ _ _ _)) from ⟨(by omega), (by omega), fun c2 => ?_, fun c2 => ?_⟩)
  · rw [if_neg c2]
    refine Az.blk kd_2_isEmptyHole_13 (show Ez md_2_isEmptyHole 0 0 14 [(0, zr 10), (1, zi a1)] [zi 0] zSh μ _ _ _ from ?_)
    exact Ez.zret kr_2_isEmptyHole_14 rfl (Nat.zero_le _) (Nat.zero_le _) (Or.inl rfl) rfl rfl
  · rw [if_pos c2]
    refine Az.blk kd_2_isEmptyHole_9 (show Ez md_2_isEmptyHole 0 0 14 [(0, zr 10), (1, zi a1)] [zi 1] zSh μ _ _ _ from ?_)
    exact Ez.zret kr_2_isEmptyHole_14 rfl (Nat.zero_le _) (Nat.zero_le _) (Or.inr rfl) rfl rfl
def kb_2_itemOf_0 : List zI := [(.aload_n 0, 1, 0, 0), (.iload_n 1, 1, 0, 0)]
theorem kd_2_itemOf_0 : zdec md_2_itemOf 0 kb_2_itemOf_0 = true := by decide +kernel
theorem kr_2_itemOf_2 : decode md_2_itemOf.2.1 2 = .ok (.invokevirtual 77, 3) := by decide +kernel
def kb_2_itemOf_5 : List zI := [(.ifCond .eq 12, 3, 17, 0)]
theorem kd_2_itemOf_5 : zdec md_2_itemOf 5 kb_2_itemOf_5 = true := by decide +kernel
def kb_2_itemOf_17 : List zI := [(.iconst (-1), 1, 0, 0)]
theorem kd_2_itemOf_17 : zdec md_2_itemOf 17 kb_2_itemOf_17 = true := by decide +kernel
theorem kr_2_itemOf_18 : decode md_2_itemOf.2.1 18 = .ok (.ireturn, 1) := by decide +kernel
def kb_2_itemOf_8 : List zI := [(.aload_n 0, 1, 0, 0), (.getfield 37, 3, 2, 8), (.iload_n 1, 1, 0, 0), (.iaload, 1, 0, 0), (.goto 4, 3, 18, 0)]
theorem kd_2_itemOf_8 : zdec md_2_itemOf 8 kb_2_itemOf_8 = true := by decide +kernel
noncomputable def xx_itemOf (μ : zM) (a1 : Int) : Int := (if (xx_hasHole μ a1) = 0 then (-1) else (μ 17 a1))
set_option maxHeartbeats 4000000 in
set_option maxRecDepth 100000 in
theorem xr_itemOf {μ : zM} (hB : zB μ) (a1 : Int) (h0 : -2147483648 ≤ a1 ∧ a1 ≤ 2147483647) : -1 ≤ (xx_itemOf μ a1) ∧ (xx_itemOf μ a1) ≤ 19 := by
  unfold xx_itemOf
  have r1 : 0 ≤ (xx_hasHole μ a1) ∧ (xx_hasHole μ a1) ≤ 1 ∧ ((xx_hasHole μ a1) = 1 → 0 ≤ a1 ∧ a1 < μ 10 1 ∧ a1 < 20) := xr_hasHole hB a1 (by omega)
  by_cases c2 : (xx_hasHole μ a1) = 0
  · rw [if_pos c2]
    first | omega | (dsimp only; omega)
  · rw [if_neg c2]
    have b3 : 0 ≤ (μ 17 a1) ∧ (μ 17 a1) ≤ 19 := hB 17 a1
    first | omega | (dsimp only; omega)
set_option maxHeartbeats 4000000 in
set_option maxRecDepth 100000 in
theorem xz_itemOf {μ : zM} (hB : zB μ) (a1 : Int) (h0 : -2147483648 ≤ a1 ∧ a1 ≤ 2147483647) : Dz md_2_itemOf [zr 10, zi a1] zSh μ (some (zi (xx_itemOf μ a1))) zSh μ := by
  refine Dz.of (by decide) rfl rfl (show Ez md_2_itemOf 0 0 0 [(0, zr 10), (1, zi a1)] [] zSh μ (some (zi (xx_itemOf μ a1))) zSh μ from ?_)
  unfold xx_itemOf
  refine Az.blk kd_2_itemOf_0 (show Ez md_2_itemOf 0 0 2 [(0, zr 10), (1, zi a1)] [zi a1, zr 10] zSh μ _ _ _ from ?_)
  refine Az.cV (mc := md_2_hasHole) (k := 10) (n := 1) (As := [zi a1]) (rest := []) kr_2_itemOf_2 zw_308 ok_2_hasHole rfl rfl rfl trivial (xz_hasHole hB a1 (by omega)) rfl rfl (show Ez md_2_itemOf 0 0 5 [(0, zr 10), (1, zi a1)] [zi (xx_hasHole μ a1)] zSh μ _ _ _ from ?_)
  have r1 : 0 ≤ (xx_hasHole μ a1) ∧ (xx_hasHole μ a1) ≤ 1 ∧ ((xx_hasHole μ a1) = 1 → 0 ≤ a1 ∧ a1 < μ 10 1 ∧ a1 < 20) := xr_hasHole hB a1 (by omega)
  refine Az.blk kd_2_itemOf_5 (show zR (xx_hasHole μ a1) ∧ (((xx_hasHole μ a1) = 0 → Ez md_2_itemOf 0 0 17 [(0, zr 10), (1, zi a1)] [] zSh μ _ _ _) ∧ (¬ (xx_hasHole μ a1) = 0 → Ez md_2_itemOf 0 0 8 [(0, zr 10), (1, zi a1)] [] zSh μ _ _ _)) from ⟨(by omega), fun c2 => ?_, fun c2 => ?_⟩)
  · rw [if_pos c2]
    refine Az.blk kd_2_itemOf_17 (show Ez md_2_itemOf 0 0 18 [(0, zr 10), (1, zi a1)] [zi (-1)] zSh μ _ _ _ from ?_)
    exact Ez.iret kr_2_itemOf_18 rfl (Nat.zero_le _) (Nat.zero_le _) rfl rfl
  · rw [if_neg c2]
    have b3 : 0 ≤ (μ 17 a1) ∧ (μ 17 a1) ≤ 19 := hB 17 a1
    refine Az.blk kd_2_itemOf_8 (show (0 ≤ a1 ∧ a1 < 20) ∧ Ez md_2_itemOf 0 0 18 [(0, zr 10), (1, zi a1)] [zi (μ 17 a1)] zSh μ _ _ _ from ⟨(by omega), ?_⟩)
    exact Ez.iret kr_2_itemOf_18 rfl (Nat.zero_le _) (Nat.zero_le _) rfl rfl
def kb_2_holesOfTie_0 : List zI := [(.iconst 0, 1, 0, 0), (.istore_n 3, 1, 0, 0), (.iconst 0, 1, 0, 0), (.istore 4, 2, 0, 0)]
theorem kd_2_holesOfTie_0 : zdec md_2_holesOfTie 0 kb_2_holesOfTie_0 = true := by decide +kernel
def kb_2_holesOfTie_5 : List zI := [(.iload 4, 2, 0, 0), (.aload_n 0, 1, 0, 0), (.getfield 15, 3, 2, 1), (.if_icmp .ge 35, 3, 46, 0)]
theorem kd_2_holesOfTie_5 : zdec md_2_holesOfTie 5 kb_2_holesOfTie_5 = true := by decide +kernel
def kb_2_holesOfTie_46 : List zI := [(.iload_n 3, 1, 0, 0)]
theorem kd_2_holesOfTie_46 : zdec md_2_holesOfTie 46 kb_2_holesOfTie_46 = true := by decide +kernel
theorem kr_2_holesOfTie_47 : decode md_2_holesOfTie.2.1 47 = .ok (.ireturn, 1) := by decide +kernel
def kb_2_holesOfTie_14 : List zI := [(.aload_n 0, 1, 0, 0), (.iload 4, 2, 0, 0)]
theorem kd_2_holesOfTie_14 : zdec md_2_holesOfTie 14 kb_2_holesOfTie_14 = true := by decide +kernel
theorem kr_2_holesOfTie_17 : decode md_2_holesOfTie.2.1 17 = .ok (.invokevirtual 86, 3) := by decide +kernel
def kb_2_holesOfTie_20 : List zI := [(.iload_n 1, 1, 0, 0), (.if_icmp .ne 19, 3, 40, 0)]
theorem kd_2_holesOfTie_20 : zdec md_2_holesOfTie 20 kb_2_holesOfTie_20 = true := by decide +kernel
def kb_2_holesOfTie_40 : List zI := [(.iinc 4 1, 3, 0, 0), (.goto (-38), 3, 5, 0)]
theorem kd_2_holesOfTie_40 : zdec md_2_holesOfTie 40 kb_2_holesOfTie_40 = true := by decide +kernel
def kb_2_holesOfTie_24 : List zI := [(.iload_n 2, 1, 0, 0), (.ifCond .eq 12, 3, 37, 0)]
theorem kd_2_holesOfTie_24 : zdec md_2_holesOfTie 24 kb_2_holesOfTie_24 = true := by decide +kernel
def kb_2_holesOfTie_37 : List zI := [(.iinc 3 1, 3, 0, 0), (.iinc 4 1, 3, 0, 0), (.goto (-38), 3, 5, 0)]
theorem kd_2_holesOfTie_37 : zdec md_2_holesOfTie 37 kb_2_holesOfTie_37 = true := by decide +kernel
def kb_2_holesOfTie_28 : List zI := [(.aload_n 0, 1, 0, 0), (.iload 4, 2, 0, 0)]
theorem kd_2_holesOfTie_28 : zdec md_2_holesOfTie 28 kb_2_holesOfTie_28 = true := by decide +kernel
theorem kr_2_holesOfTie_31 : decode md_2_holesOfTie.2.1 31 = .ok (.invokevirtual 89, 3) := by decide +kernel
def kb_2_holesOfTie_34 : List zI := [(.ifCond .eq 6, 3, 40, 0)]
theorem kd_2_holesOfTie_34 : zdec md_2_holesOfTie 34 kb_2_holesOfTie_34 = true := by decide +kernel
noncomputable def xx_holesOfTie_5 : Nat → zM → Int → Int → Int → Int → Int
  | 0, μ, _, _, _, _ => 0
  | f + 1, μ, l1, l2, l3, l4 => (if l4 < (μ 10 1) then (if (xx_tieOf μ l4) = l1 then (if l2 = 0 then (xx_holesOfTie_5 f μ l1 l2 (l3 + 1) (l4 + 1)) else (if (xx_isEmptyHole μ l4) = 0 then (xx_holesOfTie_5 f μ l1 l2 l3 (l4 + 1)) else (xx_holesOfTie_5 f μ l1 l2 (l3 + 1) (l4 + 1)))) else (xx_holesOfTie_5 f μ l1 l2 l3 (l4 + 1))) else l3)
noncomputable def xx_holesOfTie (μ : zM) (a1 a2 : Int) : Int := (xx_holesOfTie_5 zN μ a1 a2 0 0)
set_option maxHeartbeats 4000000 in
set_option maxRecDepth 100000 in
theorem xr_holesOfTie_5 (f : Nat) (μ : zM) (hB : zB μ) (l1 : Int) (l2 : Int) (l3 : Int) (l4 : Int) (i0 : 0 ≤ l4 ∧ l4 ≤ (μ 10 1)) (i1 : 0 ≤ l3 ∧ l3 ≤ l4) (i2 : -2147483648 ≤ l1 ∧ l1 ≤ 2147483647) (i3 : -2147483648 ≤ l2 ∧ l2 ≤ 2147483647) (hf : (μ 10 1) - l4 < (f : Int)) : 0 ≤ (xx_holesOfTie_5 f μ l1 l2 l3 l4) ∧ (xx_holesOfTie_5 f μ l1 l2 l3 l4) ≤ 20 := by
  induction f generalizing μ l1 l2 l3 l4 with
  | zero => exfalso; omega
  | succ f ih =>
    replace hf : (μ 10 1) - l4 < (f : Int) + 1 := by omega
    rw [xx_holesOfTie_5]
    have b2 : 0 ≤ (μ 10 1) ∧ (μ 10 1) ≤ 20 := hB 10 1
    by_cases c3 : l4 < (μ 10 1)
    · rw [if_pos c3]
      have r4 : -1 ≤ (xx_tieOf μ l4) ∧ (xx_tieOf μ l4) ≤ 9 := xr_tieOf hB l4 (by omega)
      by_cases c5 : (xx_tieOf μ l4) = l1
      · rw [if_pos c5]
        by_cases c7 : l2 = 0
        · rw [if_pos c7]
          have b8 : 0 ≤ (μ 10 1) ∧ (μ 10 1) ≤ 20 := hB 10 1
          exact ih μ hB l1 l2 (l3 + 1) (l4 + 1) (by omega) (by omega) (by omega) (by omega) (by omega)
        · rw [if_neg c7]
          have r9 : 0 ≤ (xx_isEmptyHole μ l4) ∧ (xx_isEmptyHole μ l4) ≤ 1 := xr_isEmptyHole hB l4 (by omega)
          by_cases c10 : (xx_isEmptyHole μ l4) = 0
          · rw [if_pos c10]
            have b11 : 0 ≤ (μ 10 1) ∧ (μ 10 1) ≤ 20 := hB 10 1
            exact ih μ hB l1 l2 l3 (l4 + 1) (by omega) (by omega) (by omega) (by omega) (by omega)
          · rw [if_neg c10]
            have b12 : 0 ≤ (μ 10 1) ∧ (μ 10 1) ≤ 20 := hB 10 1
            exact ih μ hB l1 l2 (l3 + 1) (l4 + 1) (by omega) (by omega) (by omega) (by omega) (by omega)
      · rw [if_neg c5]
        have b6 : 0 ≤ (μ 10 1) ∧ (μ 10 1) ≤ 20 := hB 10 1
        exact ih μ hB l1 l2 l3 (l4 + 1) (by omega) (by omega) (by omega) (by omega) (by omega)
    · rw [if_neg c3]
      first | omega | (dsimp only; omega)
set_option maxHeartbeats 4000000 in
set_option maxRecDepth 100000 in
theorem xr_holesOfTie {μ : zM} (hB : zB μ) (a1 a2 : Int) (h0 : -2147483648 ≤ a1 ∧ a1 ≤ 2147483647) (h1 : -2147483648 ≤ a2 ∧ a2 ≤ 2147483647) : 0 ≤ (xx_holesOfTie μ a1 a2) ∧ (xx_holesOfTie μ a1 a2) ≤ 20 := by
  unfold xx_holesOfTie
  have b1 : 0 ≤ (μ 10 1) ∧ (μ 10 1) ≤ 20 := hB 10 1
  have fb : (3000 : Int) ≤ ((zN : Nat) : Int) := zN_big
  exact xr_holesOfTie_5 zN μ hB a1 a2 0 0 (by omega) (by omega) (by omega) (by omega) (by omega)
set_option maxHeartbeats 4000000 in
set_option maxRecDepth 100000 in
theorem xz_holesOfTie_5 (f : Nat) (μ : zM) (hB : zB μ) (l1 : Int) (l2 : Int) (l3 : Int) (l4 : Int) (i0 : 0 ≤ l4 ∧ l4 ≤ (μ 10 1)) (i1 : 0 ≤ l3 ∧ l3 ≤ l4) (i2 : -2147483648 ≤ l1 ∧ l1 ≤ 2147483647) (i3 : -2147483648 ≤ l2 ∧ l2 ≤ 2147483647) (hf : (μ 10 1) - l4 < (f : Int)) : Ez md_2_holesOfTie 0 0 5 [(0, zr 10), (1, zi l1), (2, zi l2), (3, zi l3), (4, zi l4)] [] zSh μ (some (zi (xx_holesOfTie_5 f μ l1 l2 l3 l4))) zSh μ := by
  induction f generalizing μ l1 l2 l3 l4 with
  | zero => exfalso; omega
  | succ f ih =>
    replace hf : (μ 10 1) - l4 < (f : Int) + 1 := by omega
    rw [xx_holesOfTie_5]
    have b2 : 0 ≤ (μ 10 1) ∧ (μ 10 1) ≤ 20 := hB 10 1
    refine Az.blk kd_2_holesOfTie_5 (show zR l4 ∧ zR (μ 10 1) ∧ ((¬ l4 < (μ 10 1) → Ez md_2_holesOfTie 0 0 46 [(0, zr 10), (1, zi l1), (2, zi l2), (3, zi l3), (4, zi l4)] [] zSh μ _ _ _) ∧ (l4 < (μ 10 1) → Ez md_2_holesOfTie 0 0 14 [(0, zr 10), (1, zi l1), (2, zi l2), (3, zi l3), (4, zi l4)] [] zSh μ _ _ _)) from ⟨(by omega), (by omega), fun c3 => ?_, fun c3 => ?_⟩)
    · rw [if_neg c3]
      refine Az.blk kd_2_holesOfTie_46 (show Ez md_2_holesOfTie 0 0 47 [(0, zr 10), (1, zi l1), (2, zi l2), (3, zi l3), (4, zi l4)] [zi l3] zSh μ _ _ _ from ?_)
      exact Ez.iret kr_2_holesOfTie_47 rfl (Nat.zero_le _) (Nat.zero_le _) rfl rfl
    · rw [if_pos c3]
      refine Az.blk kd_2_holesOfTie_14 (show Ez md_2_holesOfTie 0 0 17 [(0, zr 10), (1, zi l1), (2, zi l2), (3, zi l3), (4, zi l4)] [zi l4, zr 10] zSh μ _ _ _ from ?_)
      refine Az.cV (mc := md_2_tieOf) (k := 10) (n := 1) (As := [zi l4]) (rest := []) kr_2_holesOfTie_17 zw_410 ok_2_tieOf rfl rfl rfl trivial (xz_tieOf hB l4 (by omega)) rfl rfl (show Ez md_2_holesOfTie 0 0 20 [(0, zr 10), (1, zi l1), (2, zi l2), (3, zi l3), (4, zi l4)] [zi (xx_tieOf μ l4)] zSh μ _ _ _ from ?_)
      have r4 : -1 ≤ (xx_tieOf μ l4) ∧ (xx_tieOf μ l4) ≤ 9 := xr_tieOf hB l4 (by omega)
      refine Az.blk kd_2_holesOfTie_20 (show zR (xx_tieOf μ l4) ∧ zR l1 ∧ ((¬ (xx_tieOf μ l4) = l1 → Ez md_2_holesOfTie 0 0 40 [(0, zr 10), (1, zi l1), (2, zi l2), (3, zi l3), (4, zi l4)] [] zSh μ _ _ _) ∧ ((xx_tieOf μ l4) = l1 → Ez md_2_holesOfTie 0 0 24 [(0, zr 10), (1, zi l1), (2, zi l2), (3, zi l3), (4, zi l4)] [] zSh μ _ _ _)) from ⟨(by omega), (by omega), fun c5 => ?_, fun c5 => ?_⟩)
      · rw [if_neg c5]
        refine Az.blk kd_2_holesOfTie_40 (show Ez md_2_holesOfTie 0 0 5 [(4, zi (l4 + 1)), (0, zr 10), (1, zi l1), (2, zi l2), (3, zi l3)] [] zSh μ _ _ _ from ?_)
        have b6 : 0 ≤ (μ 10 1) ∧ (μ 10 1) ≤ 20 := hB 10 1
        refine Az.lvs (lv' := [(0, zr 10), (1, zi l1), (2, zi l2), (3, zi l3), (4, zi (l4 + 1))]) ?_ ?_
        · intro q hq; simp only [List.mem_cons, List.not_mem_nil, or_false] at hq; rcases hq with rfl | rfl | rfl | rfl | rfl <;> rfl
        exact ih μ hB l1 l2 l3 (l4 + 1) (by omega) (by omega) (by omega) (by omega) (by omega)
      · rw [if_pos c5]
        refine Az.blk kd_2_holesOfTie_24 (show zR l2 ∧ ((l2 = 0 → Ez md_2_holesOfTie 0 0 37 [(0, zr 10), (1, zi l1), (2, zi l2), (3, zi l3), (4, zi l4)] [] zSh μ _ _ _) ∧ (¬ l2 = 0 → Ez md_2_holesOfTie 0 0 28 [(0, zr 10), (1, zi l1), (2, zi l2), (3, zi l3), (4, zi l4)] [] zSh μ _ _ _)) from ⟨(by omega), fun c7 => ?_, fun c7 => ?_⟩)
        · rw [if_pos c7]
          refine Az.blk kd_2_holesOfTie_37 (show Ez md_2_holesOfTie 0 0 5 [(4, zi (l4 + 1)), (3, zi (l3 + 1)), (0, zr 10), (1, zi l1), (2, zi l2)] [] zSh μ _ _ _ from ?_)
          have b8 : 0 ≤ (μ 10 1) ∧ (μ 10 1) ≤ 20 := hB 10 1
          refine Az.lvs (lv' := [(0, zr 10), (1, zi l1), (2, zi l2), (3, zi (l3 + 1)), (4, zi (l4 + 1))]) ?_ ?_
          · intro q hq; simp only [List.mem_cons, List.not_mem_nil, or_false] at hq; rcases hq with rfl | rfl | rfl | rfl | rfl <;> rfl
          exact ih μ hB l1 l2 (l3 + 1) (l4 + 1) (by omega) (by omega) (by omega) (by omega) (by omega)
        · rw [if_neg c7]
          refine Az.blk kd_2_holesOfTie_28 (show Ez md_2_holesOfTie 0 0 31 [(0, zr 10), (1, zi l1), (2, zi l2), (3, zi l3), (4, zi l4)] [zi l4, zr 10] zSh μ _ _ _ from ?_)
          refine Az.cV (mc := md_2_isEmptyHole) (k := 10) (n := 1) (As := [zi l4]) (rest := []) kr_2_holesOfTie_31 zw_411 ok_2_isEmptyHole rfl rfl rfl trivial (xz_isEmptyHole hB l4 (by omega)) rfl rfl (show Ez md_2_holesOfTie 0 0 34 [(0, zr 10), (1, zi l1), (2, zi l2), (3, zi l3), (4, zi l4)] [zi (xx_isEmptyHole μ l4)] zSh μ _ _ _ from ?_)
          have r9 : 0 ≤ (xx_isEmptyHole μ l4) ∧ (xx_isEmptyHole μ l4) ≤ 1 := xr_isEmptyHole hB l4 (by omega)
          refine Az.blk kd_2_holesOfTie_34 (show zR (xx_isEmptyHole μ l4) ∧ (((xx_isEmptyHole μ l4) = 0 → Ez md_2_holesOfTie 0 0 40 [(0, zr 10), (1, zi l1), (2, zi l2), (3, zi l3), (4, zi l4)] [] zSh μ _ _ _) ∧ (¬ (xx_isEmptyHole μ l4) = 0 → Ez md_2_holesOfTie 0 0 37 [(0, zr 10), (1, zi l1), (2, zi l2), (3, zi l3), (4, zi l4)] [] zSh μ _ _ _)) from ⟨(by omega), fun c10 => ?_, fun c10 => ?_⟩)
          · rw [if_pos c10]
            refine Az.blk kd_2_holesOfTie_40 (show Ez md_2_holesOfTie 0 0 5 [(4, zi (l4 + 1)), (0, zr 10), (1, zi l1), (2, zi l2), (3, zi l3)] [] zSh μ _ _ _ from ?_)
            have b11 : 0 ≤ (μ 10 1) ∧ (μ 10 1) ≤ 20 := hB 10 1
            refine Az.lvs (lv' := [(0, zr 10), (1, zi l1), (2, zi l2), (3, zi l3), (4, zi (l4 + 1))]) ?_ ?_
            · intro q hq; simp only [List.mem_cons, List.not_mem_nil, or_false] at hq; rcases hq with rfl | rfl | rfl | rfl | rfl <;> rfl
            exact ih μ hB l1 l2 l3 (l4 + 1) (by omega) (by omega) (by omega) (by omega) (by omega)
          · rw [if_neg c10]
            refine Az.blk kd_2_holesOfTie_37 (show Ez md_2_holesOfTie 0 0 5 [(4, zi (l4 + 1)), (3, zi (l3 + 1)), (0, zr 10), (1, zi l1), (2, zi l2)] [] zSh μ _ _ _ from ?_)
            have b12 : 0 ≤ (μ 10 1) ∧ (μ 10 1) ≤ 20 := hB 10 1
            refine Az.lvs (lv' := [(0, zr 10), (1, zi l1), (2, zi l2), (3, zi (l3 + 1)), (4, zi (l4 + 1))]) ?_ ?_
            · intro q hq; simp only [List.mem_cons, List.not_mem_nil, or_false] at hq; rcases hq with rfl | rfl | rfl | rfl | rfl <;> rfl
            exact ih μ hB l1 l2 (l3 + 1) (l4 + 1) (by omega) (by omega) (by omega) (by omega) (by omega)
set_option maxHeartbeats 4000000 in
set_option maxRecDepth 100000 in
theorem xz_holesOfTie {μ : zM} (hB : zB μ) (a1 a2 : Int) (h0 : -2147483648 ≤ a1 ∧ a1 ≤ 2147483647) (h1 : -2147483648 ≤ a2 ∧ a2 ≤ 2147483647) : Dz md_2_holesOfTie [zr 10, zi a1, zi a2] zSh μ (some (zi (xx_holesOfTie μ a1 a2))) zSh μ := by
  refine Dz.of (by decide) rfl rfl (show Ez md_2_holesOfTie 0 0 0 [(0, zr 10), (1, zi a1), (2, zi a2)] [] zSh μ (some (zi (xx_holesOfTie μ a1 a2))) zSh μ from ?_)
  unfold xx_holesOfTie
  refine Az.blk kd_2_holesOfTie_0 (show Ez md_2_holesOfTie 0 0 5 [(4, zi 0), (3, zi 0), (0, zr 10), (1, zi a1), (2, zi a2)] [] zSh μ _ _ _ from ?_)
  have b1 : 0 ≤ (μ 10 1) ∧ (μ 10 1) ≤ 20 := hB 10 1
  refine Az.lvs (lv' := [(0, zr 10), (1, zi a1), (2, zi a2), (3, zi 0), (4, zi 0)]) ?_ ?_
  · intro q hq; simp only [List.mem_cons, List.not_mem_nil, or_false] at hq; rcases hq with rfl | rfl | rfl | rfl | rfl <;> rfl
  have fb : (3000 : Int) ≤ ((zN : Nat) : Int) := zN_big
  exact xz_holesOfTie_5 zN μ hB a1 a2 0 0 (by omega) (by omega) (by omega) (by omega) (by omega)
def kb_2_hasItem_0 : List zI := [(.iload_n 1, 1, 0, 0), (.ifCond .lt 21, 3, 22, 0)]
theorem kd_2_hasItem_0 : zdec md_2_hasItem 0 kb_2_hasItem_0 = true := by decide +kernel
def kb_2_hasItem_22 : List zI := [(.iconst 0, 1, 0, 0)]
theorem kd_2_hasItem_22 : zdec md_2_hasItem 22 kb_2_hasItem_22 = true := by decide +kernel
theorem kr_2_hasItem_23 : decode md_2_hasItem.2.1 23 = .ok (.ireturn, 1) := by decide +kernel
def kb_2_hasItem_4 : List zI := [(.iload_n 1, 1, 0, 0), (.aload_n 0, 1, 0, 0), (.getfield 9, 3, 2, 0), (.if_icmp .ge 13, 3, 22, 0)]
theorem kd_2_hasItem_4 : zdec md_2_hasItem 4 kb_2_hasItem_4 = true := by decide +kernel
def kb_2_hasItem_12 : List zI := [(.iload_n 1, 1, 0, 0), (.bipush 20, 2, 0, 0), (.if_icmp .ge 7, 3, 22, 0)]
theorem kd_2_hasItem_12 : zdec md_2_hasItem 12 kb_2_hasItem_12 = true := by decide +kernel
def kb_2_hasItem_18 : List zI := [(.iconst 1, 1, 0, 0), (.goto 4, 3, 23, 0)]
theorem kd_2_hasItem_18 : zdec md_2_hasItem 18 kb_2_hasItem_18 = true := by decide +kernel
noncomputable def xx_hasItem (μ : zM) (a1 : Int) : Int := (if a1 < 0 then 0 else (if a1 < (μ 10 0) then (if a1 < 20 then 1 else 0) else 0))
set_option maxHeartbeats 4000000 in
set_option maxRecDepth 100000 in
theorem xr_hasItem {μ : zM} (hB : zB μ) (a1 : Int) (h0 : -2147483648 ≤ a1 ∧ a1 ≤ 2147483647) : 0 ≤ (xx_hasItem μ a1) ∧ (xx_hasItem μ a1) ≤ 1 ∧ ((xx_hasItem μ a1) = 1 → 0 ≤ a1 ∧ a1 < μ 10 0 ∧ a1 < 20) := by
  unfold xx_hasItem
  by_cases c1 : a1 < 0
  · rw [if_pos c1]
    first | omega | (dsimp only; omega)
  · rw [if_neg c1]
    have b2 : 0 ≤ (μ 10 0) ∧ (μ 10 0) ≤ 20 := hB 10 0
    by_cases c3 : a1 < (μ 10 0)
    · rw [if_pos c3]
      by_cases c4 : a1 < 20
      · rw [if_pos c4]
        first | omega | (dsimp only; omega)
      · rw [if_neg c4]
        first | omega | (dsimp only; omega)
    · rw [if_neg c3]
      first | omega | (dsimp only; omega)
set_option maxHeartbeats 4000000 in
set_option maxRecDepth 100000 in
theorem xz_hasItem {μ : zM} (hB : zB μ) (a1 : Int) (h0 : -2147483648 ≤ a1 ∧ a1 ≤ 2147483647) : Dz md_2_hasItem [zr 10, zi a1] zSh μ (some (zi (xx_hasItem μ a1))) zSh μ := by
  refine Dz.of (by decide) rfl rfl (show Ez md_2_hasItem 0 0 0 [(0, zr 10), (1, zi a1)] [] zSh μ (some (zi (xx_hasItem μ a1))) zSh μ from ?_)
  unfold xx_hasItem
  refine Az.blk kd_2_hasItem_0 (show zR a1 ∧ ((a1 < 0 → Ez md_2_hasItem 0 0 22 [(0, zr 10), (1, zi a1)] [] zSh μ _ _ _) ∧ (¬ a1 < 0 → Ez md_2_hasItem 0 0 4 [(0, zr 10), (1, zi a1)] [] zSh μ _ _ _)) from ⟨(by omega), fun c1 => ?_, fun c1 => ?_⟩)
  · rw [if_pos c1]
    refine Az.blk kd_2_hasItem_22 (show Ez md_2_hasItem 0 0 23 [(0, zr 10), (1, zi a1)] [zi 0] zSh μ _ _ _ from ?_)
    exact Ez.zret kr_2_hasItem_23 rfl (Nat.zero_le _) (Nat.zero_le _) (Or.inl rfl) rfl rfl
  · rw [if_neg c1]
    have b2 : 0 ≤ (μ 10 0) ∧ (μ 10 0) ≤ 20 := hB 10 0
    refine Az.blk kd_2_hasItem_4 (show zR a1 ∧ zR (μ 10 0) ∧ ((¬ a1 < (μ 10 0) → Ez md_2_hasItem 0 0 22 [(0, zr 10), (1, zi a1)] [] zSh μ _ _ _) ∧ (a1 < (μ 10 0) → Ez md_2_hasItem 0 0 12 [(0, zr 10), (1, zi a1)] [] zSh μ _ _ _)) from ⟨(by omega), (by omega), fun c3 => ?_, fun c3 => ?_⟩)
    · rw [if_neg c3]
      refine Az.blk kd_2_hasItem_22 (show Ez md_2_hasItem 0 0 23 [(0, zr 10), (1, zi a1)] [zi 0] zSh μ _ _ _ from ?_)
      exact Ez.zret kr_2_hasItem_23 rfl (Nat.zero_le _) (Nat.zero_le _) (Or.inl rfl) rfl rfl
    · rw [if_pos c3]
      refine Az.blk kd_2_hasItem_12 (show zR a1 ∧ zR 20 ∧ ((¬ a1 < 20 → Ez md_2_hasItem 0 0 22 [(0, zr 10), (1, zi a1)] [] zSh μ _ _ _) ∧ (a1 < 20 → Ez md_2_hasItem 0 0 18 [(0, zr 10), (1, zi a1)] [] zSh μ _ _ _)) from ⟨(by omega), (by omega), fun c4 => ?_, fun c4 => ?_⟩)
      · rw [if_neg c4]
        refine Az.blk kd_2_hasItem_22 (show Ez md_2_hasItem 0 0 23 [(0, zr 10), (1, zi a1)] [zi 0] zSh μ _ _ _ from ?_)
        exact Ez.zret kr_2_hasItem_23 rfl (Nat.zero_le _) (Nat.zero_le _) (Or.inl rfl) rfl rfl
      · rw [if_pos c4]
        refine Az.blk kd_2_hasItem_18 (show Ez md_2_hasItem 0 0 23 [(0, zr 10), (1, zi a1)] [zi 1] zSh μ _ _ _ from ?_)
        exact Ez.zret kr_2_hasItem_23 rfl (Nat.zero_le _) (Nat.zero_le _) (Or.inr rfl) rfl rfl
def kb_2_holeOfItem_0 : List zI := [(.aload_n 0, 1, 0, 0), (.iload_n 1, 1, 0, 0)]
theorem kd_2_holeOfItem_0 : zdec md_2_holeOfItem 0 kb_2_holeOfItem_0 = true := by decide +kernel
theorem kr_2_holeOfItem_2 : decode md_2_holeOfItem.2.1 2 = .ok (.invokevirtual 83, 3) := by decide +kernel
def kb_2_holeOfItem_5 : List zI := [(.ifCond .eq 12, 3, 17, 0)]
theorem kd_2_holeOfItem_5 : zdec md_2_holeOfItem 5 kb_2_holeOfItem_5 = true := by decide +kernel
def kb_2_holeOfItem_17 : List zI := [(.iconst (-1), 1, 0, 0)]
theorem kd_2_holeOfItem_17 : zdec md_2_holeOfItem 17 kb_2_holeOfItem_17 = true := by decide +kernel
theorem kr_2_holeOfItem_18 : decode md_2_holeOfItem.2.1 18 = .ok (.ireturn, 1) := by decide +kernel
def kb_2_holeOfItem_8 : List zI := [(.aload_n 0, 1, 0, 0), (.getfield 18, 3, 2, 2), (.iload_n 1, 1, 0, 0), (.iaload, 1, 0, 0), (.goto 4, 3, 18, 0)]
theorem kd_2_holeOfItem_8 : zdec md_2_holeOfItem 8 kb_2_holeOfItem_8 = true := by decide +kernel
noncomputable def xx_holeOfItem (μ : zM) (a1 : Int) : Int := (if (xx_hasItem μ a1) = 0 then (-1) else (μ 11 a1))
set_option maxHeartbeats 4000000 in
set_option maxRecDepth 100000 in
theorem xr_holeOfItem {μ : zM} (hB : zB μ) (a1 : Int) (h0 : -2147483648 ≤ a1 ∧ a1 ≤ 2147483647) : -1 ≤ (xx_holeOfItem μ a1) ∧ (xx_holeOfItem μ a1) ≤ 19 := by
  unfold xx_holeOfItem
  have r1 : 0 ≤ (xx_hasItem μ a1) ∧ (xx_hasItem μ a1) ≤ 1 ∧ ((xx_hasItem μ a1) = 1 → 0 ≤ a1 ∧ a1 < μ 10 0 ∧ a1 < 20) := xr_hasItem hB a1 (by omega)
  by_cases c2 : (xx_hasItem μ a1) = 0
  · rw [if_pos c2]
    first | omega | (dsimp only; omega)
  · rw [if_neg c2]
    have b3 : (-1) ≤ (μ 11 a1) ∧ (μ 11 a1) ≤ 19 := hB 11 a1
    first | omega | (dsimp only; omega)
set_option maxHeartbeats 4000000 in
set_option maxRecDepth 100000 in
theorem xz_holeOfItem {μ : zM} (hB : zB μ) (a1 : Int) (h0 : -2147483648 ≤ a1 ∧ a1 ≤ 2147483647) : Dz md_2_holeOfItem [zr 10, zi a1] zSh μ (some (zi (xx_holeOfItem μ a1))) zSh μ := by
  refine Dz.of (by decide) rfl rfl (show Ez md_2_holeOfItem 0 0 0 [(0, zr 10), (1, zi a1)] [] zSh μ (some (zi (xx_holeOfItem μ a1))) zSh μ from ?_)
  unfold xx_holeOfItem
  refine Az.blk kd_2_holeOfItem_0 (show Ez md_2_holeOfItem 0 0 2 [(0, zr 10), (1, zi a1)] [zi a1, zr 10] zSh μ _ _ _ from ?_)
  refine Az.cV (mc := md_2_hasItem) (k := 10) (n := 1) (As := [zi a1]) (rest := []) kr_2_holeOfItem_2 zw_327 ok_2_hasItem rfl rfl rfl trivial (xz_hasItem hB a1 (by omega)) rfl rfl (show Ez md_2_holeOfItem 0 0 5 [(0, zr 10), (1, zi a1)] [zi (xx_hasItem μ a1)] zSh μ _ _ _ from ?_)
  have r1 : 0 ≤ (xx_hasItem μ a1) ∧ (xx_hasItem μ a1) ≤ 1 ∧ ((xx_hasItem μ a1) = 1 → 0 ≤ a1 ∧ a1 < μ 10 0 ∧ a1 < 20) := xr_hasItem hB a1 (by omega)
  refine Az.blk kd_2_holeOfItem_5 (show zR (xx_hasItem μ a1) ∧ (((xx_hasItem μ a1) = 0 → Ez md_2_holeOfItem 0 0 17 [(0, zr 10), (1, zi a1)] [] zSh μ _ _ _) ∧ (¬ (xx_hasItem μ a1) = 0 → Ez md_2_holeOfItem 0 0 8 [(0, zr 10), (1, zi a1)] [] zSh μ _ _ _)) from ⟨(by omega), fun c2 => ?_, fun c2 => ?_⟩)
  · rw [if_pos c2]
    refine Az.blk kd_2_holeOfItem_17 (show Ez md_2_holeOfItem 0 0 18 [(0, zr 10), (1, zi a1)] [zi (-1)] zSh μ _ _ _ from ?_)
    exact Ez.iret kr_2_holeOfItem_18 rfl (Nat.zero_le _) (Nat.zero_le _) rfl rfl
  · rw [if_neg c2]
    have b3 : (-1) ≤ (μ 11 a1) ∧ (μ 11 a1) ≤ 19 := hB 11 a1
    refine Az.blk kd_2_holeOfItem_8 (show (0 ≤ a1 ∧ a1 < 20) ∧ Ez md_2_holeOfItem 0 0 18 [(0, zr 10), (1, zi a1)] [zi (μ 11 a1)] zSh μ _ _ _ from ⟨(by omega), ?_⟩)
    exact Ez.iret kr_2_holeOfItem_18 rfl (Nat.zero_le _) (Nat.zero_le _) rfl rfl
def kb_2_plainLengthOf_0 : List zI := [(.aload_n 0, 1, 0, 0), (.iload_n 1, 1, 0, 0)]
theorem kd_2_plainLengthOf_0 : zdec md_2_plainLengthOf 0 kb_2_plainLengthOf_0 = true := by decide +kernel
theorem kr_2_plainLengthOf_2 : decode md_2_plainLengthOf.2.1 2 = .ok (.invokevirtual 83, 3) := by decide +kernel
def kb_2_plainLengthOf_5 : List zI := [(.ifCond .eq 12, 3, 17, 0)]
theorem kd_2_plainLengthOf_5 : zdec md_2_plainLengthOf 5 kb_2_plainLengthOf_5 = true := by decide +kernel
def kb_2_plainLengthOf_17 : List zI := [(.iconst 0, 1, 0, 0)]
theorem kd_2_plainLengthOf_17 : zdec md_2_plainLengthOf 17 kb_2_plainLengthOf_17 = true := by decide +kernel
theorem kr_2_plainLengthOf_18 : decode md_2_plainLengthOf.2.1 18 = .ok (.ireturn, 1) := by decide +kernel
def kb_2_plainLengthOf_8 : List zI := [(.aload_n 0, 1, 0, 0), (.getfield 25, 3, 2, 4), (.iload_n 1, 1, 0, 0), (.iaload, 1, 0, 0), (.goto 4, 3, 18, 0)]
theorem kd_2_plainLengthOf_8 : zdec md_2_plainLengthOf 8 kb_2_plainLengthOf_8 = true := by decide +kernel
noncomputable def xx_plainLengthOf (μ : zM) (a1 : Int) : Int := (if (xx_hasItem μ a1) = 0 then 0 else (μ 13 a1))
set_option maxHeartbeats 4000000 in
set_option maxRecDepth 100000 in
theorem xr_plainLengthOf {μ : zM} (hB : zB μ) (a1 : Int) (h0 : -2147483648 ≤ a1 ∧ a1 ≤ 2147483647) : 0 ≤ (xx_plainLengthOf μ a1) ∧ (xx_plainLengthOf μ a1) ≤ 60 := by
  unfold xx_plainLengthOf
  have r1 : 0 ≤ (xx_hasItem μ a1) ∧ (xx_hasItem μ a1) ≤ 1 ∧ ((xx_hasItem μ a1) = 1 → 0 ≤ a1 ∧ a1 < μ 10 0 ∧ a1 < 20) := xr_hasItem hB a1 (by omega)
  by_cases c2 : (xx_hasItem μ a1) = 0
  · rw [if_pos c2]
    first | omega | (dsimp only; omega)
  · rw [if_neg c2]
    have b3 : 0 ≤ (μ 13 a1) ∧ (μ 13 a1) ≤ 60 := hB 13 a1
    first | omega | (dsimp only; omega)
set_option maxHeartbeats 4000000 in
set_option maxRecDepth 100000 in
theorem xz_plainLengthOf {μ : zM} (hB : zB μ) (a1 : Int) (h0 : -2147483648 ≤ a1 ∧ a1 ≤ 2147483647) : Dz md_2_plainLengthOf [zr 10, zi a1] zSh μ (some (zi (xx_plainLengthOf μ a1))) zSh μ := by
  refine Dz.of (by decide) rfl rfl (show Ez md_2_plainLengthOf 0 0 0 [(0, zr 10), (1, zi a1)] [] zSh μ (some (zi (xx_plainLengthOf μ a1))) zSh μ from ?_)
  unfold xx_plainLengthOf
  refine Az.blk kd_2_plainLengthOf_0 (show Ez md_2_plainLengthOf 0 0 2 [(0, zr 10), (1, zi a1)] [zi a1, zr 10] zSh μ _ _ _ from ?_)
  refine Az.cV (mc := md_2_hasItem) (k := 10) (n := 1) (As := [zi a1]) (rest := []) kr_2_plainLengthOf_2 zw_327 ok_2_hasItem rfl rfl rfl trivial (xz_hasItem hB a1 (by omega)) rfl rfl (show Ez md_2_plainLengthOf 0 0 5 [(0, zr 10), (1, zi a1)] [zi (xx_hasItem μ a1)] zSh μ _ _ _ from ?_)
  have r1 : 0 ≤ (xx_hasItem μ a1) ∧ (xx_hasItem μ a1) ≤ 1 ∧ ((xx_hasItem μ a1) = 1 → 0 ≤ a1 ∧ a1 < μ 10 0 ∧ a1 < 20) := xr_hasItem hB a1 (by omega)
  refine Az.blk kd_2_plainLengthOf_5 (show zR (xx_hasItem μ a1) ∧ (((xx_hasItem μ a1) = 0 → Ez md_2_plainLengthOf 0 0 17 [(0, zr 10), (1, zi a1)] [] zSh μ _ _ _) ∧ (¬ (xx_hasItem μ a1) = 0 → Ez md_2_plainLengthOf 0 0 8 [(0, zr 10), (1, zi a1)] [] zSh μ _ _ _)) from ⟨(by omega), fun c2 => ?_, fun c2 => ?_⟩)
  · rw [if_pos c2]
    refine Az.blk kd_2_plainLengthOf_17 (show Ez md_2_plainLengthOf 0 0 18 [(0, zr 10), (1, zi a1)] [zi 0] zSh μ _ _ _ from ?_)
    exact Ez.iret kr_2_plainLengthOf_18 rfl (Nat.zero_le _) (Nat.zero_le _) rfl rfl
  · rw [if_neg c2]
    have b3 : 0 ≤ (μ 13 a1) ∧ (μ 13 a1) ≤ 60 := hB 13 a1
    refine Az.blk kd_2_plainLengthOf_8 (show (0 ≤ a1 ∧ a1 < 20) ∧ Ez md_2_plainLengthOf 0 0 18 [(0, zr 10), (1, zi a1)] [zi (μ 13 a1)] zSh μ _ _ _ from ⟨(by omega), ?_⟩)
    exact Ez.iret kr_2_plainLengthOf_18 rfl (Nat.zero_le _) (Nat.zero_le _) rfl rfl
def kb_2_plainSignOf_0 : List zI := [(.aload_n 0, 1, 0, 0), (.iload_n 1, 1, 0, 0)]
theorem kd_2_plainSignOf_0 : zdec md_2_plainSignOf 0 kb_2_plainSignOf_0 = true := by decide +kernel
theorem kr_2_plainSignOf_2 : decode md_2_plainSignOf.2.1 2 = .ok (.invokevirtual 83, 3) := by decide +kernel
def kb_2_plainSignOf_5 : List zI := [(.ifCond .eq 14, 3, 19, 0)]
theorem kd_2_plainSignOf_5 : zdec md_2_plainSignOf 5 kb_2_plainSignOf_5 = true := by decide +kernel
def kb_2_plainSignOf_19 : List zI := [(.iconst (-1), 1, 0, 0), (.istore_n 3, 1, 0, 0), (.iload_n 3, 1, 0, 0), (.bipush 60, 2, 0, 0)]
theorem kd_2_plainSignOf_19 : zdec md_2_plainSignOf 19 kb_2_plainSignOf_19 = true := by decide +kernel
theorem kr_2_plainSignOf_24 : decode md_2_plainSignOf.2.1 24 = .ok (.invokestatic 73, 3) := by decide +kernel
def kb_2_plainSignOf_27 : List zI := [(.ifCond .eq 12, 3, 39, 0)]
theorem kd_2_plainSignOf_27 : zdec md_2_plainSignOf 27 kb_2_plainSignOf_27 = true := by decide +kernel
def kb_2_plainSignOf_39 : List zI := [(.iconst 0, 1, 0, 0)]
theorem kd_2_plainSignOf_39 : zdec md_2_plainSignOf 39 kb_2_plainSignOf_39 = true := by decide +kernel
theorem kr_2_plainSignOf_40 : decode md_2_plainSignOf.2.1 40 = .ok (.ireturn, 1) := by decide +kernel
def kb_2_plainSignOf_30 : List zI := [(.aload_n 0, 1, 0, 0), (.getfield 28, 3, 2, 5), (.iload_n 3, 1, 0, 0), (.iaload, 1, 0, 0), (.goto 4, 3, 40, 0)]
theorem kd_2_plainSignOf_30 : zdec md_2_plainSignOf 30 kb_2_plainSignOf_30 = true := by decide +kernel
def kb_2_plainSignOf_8 : List zI := [(.aload_n 0, 1, 0, 0), (.getfield 22, 3, 2, 3), (.iload_n 1, 1, 0, 0), (.iaload, 1, 0, 0), (.iload_n 2, 1, 0, 0), (.iadd, 1, 0, 0), (.goto 4, 3, 20, 0)]
theorem kd_2_plainSignOf_8 : zdec md_2_plainSignOf 8 kb_2_plainSignOf_8 = true := by decide +kernel
def kb_2_plainSignOf_20 : List zI := [(.istore_n 3, 1, 0, 0), (.iload_n 3, 1, 0, 0), (.bipush 60, 2, 0, 0)]
theorem kd_2_plainSignOf_20 : zdec md_2_plainSignOf 20 kb_2_plainSignOf_20 = true := by decide +kernel
noncomputable def xx_plainSignOf (μ : zM) (a1 a2 : Int) : Int := (if (xx_hasItem μ a1) = 0 then (if (xx_isBelow (-1) 60) = 0 then 0 else (μ 14 (-1))) else (if (xx_isBelow ((μ 12 a1) + a2) 60) = 0 then 0 else (μ 14 ((μ 12 a1) + a2))))
set_option maxHeartbeats 4000000 in
set_option maxRecDepth 100000 in
theorem xr_plainSignOf {μ : zM} (hB : zB μ) (a1 a2 : Int) (h0 : -2147483648 ≤ a1 ∧ a1 ≤ 2147483647) (h1 : 0 ≤ a2 ∧ a2 ≤ 1000) : 0 ≤ (xx_plainSignOf μ a1 a2) ∧ (xx_plainSignOf μ a1 a2) ≤ 65535 := by
  unfold xx_plainSignOf
  have r1 : 0 ≤ (xx_hasItem μ a1) ∧ (xx_hasItem μ a1) ≤ 1 ∧ ((xx_hasItem μ a1) = 1 → 0 ≤ a1 ∧ a1 < μ 10 0 ∧ a1 < 20) := xr_hasItem hB a1 (by omega)
  by_cases c2 : (xx_hasItem μ a1) = 0
  · rw [if_pos c2]
    have r3 : 0 ≤ (xx_isBelow (-1) 60) ∧ (xx_isBelow (-1) 60) ≤ 1 ∧ ((xx_isBelow (-1) 60) = 1 → 0 ≤ ((-1) : Int) ∧ ((-1) : Int) < (60 : Int)) := xr_isBelow (-1) 60 (by omega) (by omega)
    by_cases c4 : (xx_isBelow (-1) 60) = 0
    · rw [if_pos c4]
      first | omega | (dsimp only; omega)
    · rw [if_neg c4]
      have b5 : 0 ≤ (μ 14 (-1)) ∧ (μ 14 (-1)) ≤ 65535 := hB 14 (-1)
      first | omega | (dsimp only; omega)
  · rw [if_neg c2]
    have b6 : 0 ≤ (μ 12 a1) ∧ (μ 12 a1) ≤ 60 := hB 12 a1
    have r7 : 0 ≤ (xx_isBelow ((μ 12 a1) + a2) 60) ∧ (xx_isBelow ((μ 12 a1) + a2) 60) ≤ 1 ∧ ((xx_isBelow ((μ 12 a1) + a2) 60) = 1 → 0 ≤ ((μ 12 a1) + a2) ∧ ((μ 12 a1) + a2) < (60 : Int)) := xr_isBelow ((μ 12 a1) + a2) 60 (by omega) (by omega)
    by_cases c8 : (xx_isBelow ((μ 12 a1) + a2) 60) = 0
    · rw [if_pos c8]
      first | omega | (dsimp only; omega)
    · rw [if_neg c8]
      have b9 : 0 ≤ (μ 14 ((μ 12 a1) + a2)) ∧ (μ 14 ((μ 12 a1) + a2)) ≤ 65535 := hB 14 ((μ 12 a1) + a2)
      first | omega | (dsimp only; omega)
set_option maxHeartbeats 4000000 in
set_option maxRecDepth 100000 in
theorem xz_plainSignOf {μ : zM} (hB : zB μ) (a1 a2 : Int) (h0 : -2147483648 ≤ a1 ∧ a1 ≤ 2147483647) (h1 : 0 ≤ a2 ∧ a2 ≤ 1000) : Dz md_2_plainSignOf [zr 10, zi a1, zi a2] zSh μ (some (zi (xx_plainSignOf μ a1 a2))) zSh μ := by
  refine Dz.of (by decide) rfl rfl (show Ez md_2_plainSignOf 0 0 0 [(0, zr 10), (1, zi a1), (2, zi a2)] [] zSh μ (some (zi (xx_plainSignOf μ a1 a2))) zSh μ from ?_)
  unfold xx_plainSignOf
  refine Az.blk kd_2_plainSignOf_0 (show Ez md_2_plainSignOf 0 0 2 [(0, zr 10), (1, zi a1), (2, zi a2)] [zi a1, zr 10] zSh μ _ _ _ from ?_)
  refine Az.cV (mc := md_2_hasItem) (k := 10) (n := 1) (As := [zi a1]) (rest := []) kr_2_plainSignOf_2 zw_327 ok_2_hasItem rfl rfl rfl trivial (xz_hasItem hB a1 (by omega)) rfl rfl (show Ez md_2_plainSignOf 0 0 5 [(0, zr 10), (1, zi a1), (2, zi a2)] [zi (xx_hasItem μ a1)] zSh μ _ _ _ from ?_)
  have r1 : 0 ≤ (xx_hasItem μ a1) ∧ (xx_hasItem μ a1) ≤ 1 ∧ ((xx_hasItem μ a1) = 1 → 0 ≤ a1 ∧ a1 < μ 10 0 ∧ a1 < 20) := xr_hasItem hB a1 (by omega)
  refine Az.blk kd_2_plainSignOf_5 (show zR (xx_hasItem μ a1) ∧ (((xx_hasItem μ a1) = 0 → Ez md_2_plainSignOf 0 0 19 [(0, zr 10), (1, zi a1), (2, zi a2)] [] zSh μ _ _ _) ∧ (¬ (xx_hasItem μ a1) = 0 → Ez md_2_plainSignOf 0 0 8 [(0, zr 10), (1, zi a1), (2, zi a2)] [] zSh μ _ _ _)) from ⟨(by omega), fun c2 => ?_, fun c2 => ?_⟩)
  · rw [if_pos c2]
    refine Az.blk kd_2_plainSignOf_19 (show Ez md_2_plainSignOf 0 0 24 [(3, zi (-1)), (0, zr 10), (1, zi a1), (2, zi a2)] [zi 60, zi (-1)] zSh μ _ _ _ from ?_)
    refine Az.cSN (mc := md_5_isBelow) (n := 2) (As := [zi (-1), zi 60]) (rest := []) kr_2_plainSignOf_24 zw_295 ok_5_isBelow rfl rfl (xz_isBelow (-1) 60 (by omega) (by omega)) rfl rfl (show Ez md_2_plainSignOf 0 0 27 [(3, zi (-1)), (0, zr 10), (1, zi a1), (2, zi a2)] [zi (xx_isBelow (-1) 60)] zSh μ _ _ _ from ?_)
    have r3 : 0 ≤ (xx_isBelow (-1) 60) ∧ (xx_isBelow (-1) 60) ≤ 1 ∧ ((xx_isBelow (-1) 60) = 1 → 0 ≤ ((-1) : Int) ∧ ((-1) : Int) < (60 : Int)) := xr_isBelow (-1) 60 (by omega) (by omega)
    refine Az.blk kd_2_plainSignOf_27 (show zR (xx_isBelow (-1) 60) ∧ (((xx_isBelow (-1) 60) = 0 → Ez md_2_plainSignOf 0 0 39 [(3, zi (-1)), (0, zr 10), (1, zi a1), (2, zi a2)] [] zSh μ _ _ _) ∧ (¬ (xx_isBelow (-1) 60) = 0 → Ez md_2_plainSignOf 0 0 30 [(3, zi (-1)), (0, zr 10), (1, zi a1), (2, zi a2)] [] zSh μ _ _ _)) from ⟨(by omega), fun c4 => ?_, fun c4 => ?_⟩)
    · rw [if_pos c4]
      refine Az.blk kd_2_plainSignOf_39 (show Ez md_2_plainSignOf 0 0 40 [(3, zi (-1)), (0, zr 10), (1, zi a1), (2, zi a2)] [zi 0] zSh μ _ _ _ from ?_)
      exact Ez.iret kr_2_plainSignOf_40 rfl (Nat.zero_le _) (Nat.zero_le _) rfl rfl
    · rw [if_neg c4]
      have b5 : 0 ≤ (μ 14 (-1)) ∧ (μ 14 (-1)) ≤ 65535 := hB 14 (-1)
      refine Az.blk kd_2_plainSignOf_30 (show (0 ≤ (-1) ∧ (-1) < 60) ∧ Ez md_2_plainSignOf 0 0 40 [(3, zi (-1)), (0, zr 10), (1, zi a1), (2, zi a2)] [zi (μ 14 (-1))] zSh μ _ _ _ from ⟨(by omega), ?_⟩)
      exact Ez.iret kr_2_plainSignOf_40 rfl (Nat.zero_le _) (Nat.zero_le _) rfl rfl
  · rw [if_neg c2]
    have b6 : 0 ≤ (μ 12 a1) ∧ (μ 12 a1) ≤ 60 := hB 12 a1
    refine Az.blk kd_2_plainSignOf_8 (show (0 ≤ a1 ∧ a1 < 20) ∧ Ez md_2_plainSignOf 0 0 20 [(0, zr 10), (1, zi a1), (2, zi a2)] [zi ((μ 12 a1) + a2)] zSh μ _ _ _ from ⟨(by omega), ?_⟩)
    refine Az.blk kd_2_plainSignOf_20 (show Ez md_2_plainSignOf 0 0 24 [(3, zi ((μ 12 a1) + a2)), (0, zr 10), (1, zi a1), (2, zi a2)] [zi 60, zi ((μ 12 a1) + a2)] zSh μ _ _ _ from ?_)
    refine Az.cSN (mc := md_5_isBelow) (n := 2) (As := [zi ((μ 12 a1) + a2), zi 60]) (rest := []) kr_2_plainSignOf_24 zw_295 ok_5_isBelow rfl rfl (xz_isBelow ((μ 12 a1) + a2) 60 (by omega) (by omega)) rfl rfl (show Ez md_2_plainSignOf 0 0 27 [(3, zi ((μ 12 a1) + a2)), (0, zr 10), (1, zi a1), (2, zi a2)] [zi (xx_isBelow ((μ 12 a1) + a2) 60)] zSh μ _ _ _ from ?_)
    have r7 : 0 ≤ (xx_isBelow ((μ 12 a1) + a2) 60) ∧ (xx_isBelow ((μ 12 a1) + a2) 60) ≤ 1 ∧ ((xx_isBelow ((μ 12 a1) + a2) 60) = 1 → 0 ≤ ((μ 12 a1) + a2) ∧ ((μ 12 a1) + a2) < (60 : Int)) := xr_isBelow ((μ 12 a1) + a2) 60 (by omega) (by omega)
    refine Az.blk kd_2_plainSignOf_27 (show zR (xx_isBelow ((μ 12 a1) + a2) 60) ∧ (((xx_isBelow ((μ 12 a1) + a2) 60) = 0 → Ez md_2_plainSignOf 0 0 39 [(3, zi ((μ 12 a1) + a2)), (0, zr 10), (1, zi a1), (2, zi a2)] [] zSh μ _ _ _) ∧ (¬ (xx_isBelow ((μ 12 a1) + a2) 60) = 0 → Ez md_2_plainSignOf 0 0 30 [(3, zi ((μ 12 a1) + a2)), (0, zr 10), (1, zi a1), (2, zi a2)] [] zSh μ _ _ _)) from ⟨(by omega), fun c8 => ?_, fun c8 => ?_⟩)
    · rw [if_pos c8]
      refine Az.blk kd_2_plainSignOf_39 (show Ez md_2_plainSignOf 0 0 40 [(3, zi ((μ 12 a1) + a2)), (0, zr 10), (1, zi a1), (2, zi a2)] [zi 0] zSh μ _ _ _ from ?_)
      exact Ez.iret kr_2_plainSignOf_40 rfl (Nat.zero_le _) (Nat.zero_le _) rfl rfl
    · rw [if_neg c8]
      have b9 : 0 ≤ (μ 14 ((μ 12 a1) + a2)) ∧ (μ 14 ((μ 12 a1) + a2)) ≤ 65535 := hB 14 ((μ 12 a1) + a2)
      refine Az.blk kd_2_plainSignOf_30 (show (0 ≤ ((μ 12 a1) + a2) ∧ ((μ 12 a1) + a2) < 60) ∧ Ez md_2_plainSignOf 0 0 40 [(3, zi ((μ 12 a1) + a2)), (0, zr 10), (1, zi a1), (2, zi a2)] [zi (μ 14 ((μ 12 a1) + a2))] zSh μ _ _ _ from ⟨(by omega), ?_⟩)
      exact Ez.iret kr_2_plainSignOf_40 rfl (Nat.zero_le _) (Nat.zero_le _) rfl rfl
def kb_2_hasNounHole_0 : List zI := [(.iconst 0, 1, 0, 0), (.istore_n 2, 1, 0, 0)]
theorem kd_2_hasNounHole_0 : zdec md_2_hasNounHole 0 kb_2_hasNounHole_0 = true := by decide +kernel
def kb_2_hasNounHole_2 : List zI := [(.iload_n 2, 1, 0, 0), (.aload_n 0, 1, 0, 0), (.getfield 15, 3, 2, 1), (.if_icmp .ge 28, 3, 35, 0)]
theorem kd_2_hasNounHole_2 : zdec md_2_hasNounHole 2 kb_2_hasNounHole_2 = true := by decide +kernel
def kb_2_hasNounHole_35 : List zI := [(.iconst 0, 1, 0, 0)]
theorem kd_2_hasNounHole_35 : zdec md_2_hasNounHole 35 kb_2_hasNounHole_35 = true := by decide +kernel
theorem kr_2_hasNounHole_36 : decode md_2_hasNounHole.2.1 36 = .ok (.ireturn, 1) := by decide +kernel
def kb_2_hasNounHole_10 : List zI := [(.aload_n 0, 1, 0, 0), (.iload_n 2, 1, 0, 0)]
theorem kd_2_hasNounHole_10 : zdec md_2_hasNounHole 10 kb_2_hasNounHole_10 = true := by decide +kernel
theorem kr_2_hasNounHole_12 : decode md_2_hasNounHole.2.1 12 = .ok (.invokevirtual 86, 3) := by decide +kernel
def kb_2_hasNounHole_15 : List zI := [(.iload_n 1, 1, 0, 0), (.if_icmp .ne 13, 3, 29, 0)]
theorem kd_2_hasNounHole_15 : zdec md_2_hasNounHole 15 kb_2_hasNounHole_15 = true := by decide +kernel
def kb_2_hasNounHole_29 : List zI := [(.iinc 2 1, 3, 0, 0), (.goto (-30), 3, 2, 0)]
theorem kd_2_hasNounHole_29 : zdec md_2_hasNounHole 29 kb_2_hasNounHole_29 = true := by decide +kernel
def kb_2_hasNounHole_19 : List zI := [(.aload_n 0, 1, 0, 0), (.iload_n 2, 1, 0, 0)]
theorem kd_2_hasNounHole_19 : zdec md_2_hasNounHole 19 kb_2_hasNounHole_19 = true := by decide +kernel
theorem kr_2_hasNounHole_21 : decode md_2_hasNounHole.2.1 21 = .ok (.invokevirtual 96, 3) := by decide +kernel
def kb_2_hasNounHole_24 : List zI := [(.ifCond .ne 5, 3, 29, 0)]
theorem kd_2_hasNounHole_24 : zdec md_2_hasNounHole 24 kb_2_hasNounHole_24 = true := by decide +kernel
def kb_2_hasNounHole_27 : List zI := [(.iconst 1, 1, 0, 0)]
theorem kd_2_hasNounHole_27 : zdec md_2_hasNounHole 27 kb_2_hasNounHole_27 = true := by decide +kernel
theorem kr_2_hasNounHole_28 : decode md_2_hasNounHole.2.1 28 = .ok (.ireturn, 1) := by decide +kernel
noncomputable def xx_hasNounHole_2 : Nat → zM → Int → Int → Int
  | 0, μ, _, _ => 0
  | f + 1, μ, l1, l2 => (if l2 < (μ 10 1) then (if (xx_tieOf μ l2) = l1 then (if (xx_kindOfHole μ l2) = 0 then 1 else (xx_hasNounHole_2 f μ l1 (l2 + 1))) else (xx_hasNounHole_2 f μ l1 (l2 + 1))) else 0)
noncomputable def xx_hasNounHole (μ : zM) (a1 : Int) : Int := (xx_hasNounHole_2 zN μ a1 0)
set_option maxHeartbeats 4000000 in
set_option maxRecDepth 100000 in
theorem xr_hasNounHole_2 (f : Nat) (μ : zM) (hB : zB μ) (l1 : Int) (l2 : Int) (i0 : 0 ≤ l2 ∧ l2 ≤ (μ 10 1)) (i1 : -2147483648 ≤ l1 ∧ l1 ≤ 2147483647) (hf : (μ 10 1) - l2 < (f : Int)) : 0 ≤ (xx_hasNounHole_2 f μ l1 l2) ∧ (xx_hasNounHole_2 f μ l1 l2) ≤ 1 := by
  induction f generalizing μ l1 l2 with
  | zero => exfalso; omega
  | succ f ih =>
    replace hf : (μ 10 1) - l2 < (f : Int) + 1 := by omega
    rw [xx_hasNounHole_2]
    have b2 : 0 ≤ (μ 10 1) ∧ (μ 10 1) ≤ 20 := hB 10 1
    by_cases c3 : l2 < (μ 10 1)
    · rw [if_pos c3]
      have r4 : -1 ≤ (xx_tieOf μ l2) ∧ (xx_tieOf μ l2) ≤ 9 := xr_tieOf hB l2 (by omega)
      by_cases c5 : (xx_tieOf μ l2) = l1
      · rw [if_pos c5]
        have r7 : -1 ≤ (xx_kindOfHole μ l2) ∧ (xx_kindOfHole μ l2) ≤ 2 := xr_kindOfHole hB l2 (by omega)
        by_cases c8 : (xx_kindOfHole μ l2) = 0
        · rw [if_pos c8]
          first | omega | (dsimp only; omega)
        · rw [if_neg c8]
          have b9 : 0 ≤ (μ 10 1) ∧ (μ 10 1) ≤ 20 := hB 10 1
          exact ih μ hB l1 (l2 + 1) (by omega) (by omega) (by omega)
      · rw [if_neg c5]
        have b6 : 0 ≤ (μ 10 1) ∧ (μ 10 1) ≤ 20 := hB 10 1
        exact ih μ hB l1 (l2 + 1) (by omega) (by omega) (by omega)
    · rw [if_neg c3]
      first | omega | (dsimp only; omega)
set_option maxHeartbeats 4000000 in
set_option maxRecDepth 100000 in
theorem xr_hasNounHole {μ : zM} (hB : zB μ) (a1 : Int) (h0 : -2147483648 ≤ a1 ∧ a1 ≤ 2147483647) : 0 ≤ (xx_hasNounHole μ a1) ∧ (xx_hasNounHole μ a1) ≤ 1 := by
  unfold xx_hasNounHole
  have b1 : 0 ≤ (μ 10 1) ∧ (μ 10 1) ≤ 20 := hB 10 1
  have fb : (3000 : Int) ≤ ((zN : Nat) : Int) := zN_big
  exact xr_hasNounHole_2 zN μ hB a1 0 (by omega) (by omega) (by omega)
set_option maxHeartbeats 4000000 in
set_option maxRecDepth 100000 in
theorem xz_hasNounHole_2 (f : Nat) (μ : zM) (hB : zB μ) (l1 : Int) (l2 : Int) (i0 : 0 ≤ l2 ∧ l2 ≤ (μ 10 1)) (i1 : -2147483648 ≤ l1 ∧ l1 ≤ 2147483647) (hf : (μ 10 1) - l2 < (f : Int)) : Ez md_2_hasNounHole 0 0 2 [(0, zr 10), (1, zi l1), (2, zi l2)] [] zSh μ (some (zi (xx_hasNounHole_2 f μ l1 l2))) zSh μ := by
  induction f generalizing μ l1 l2 with
  | zero => exfalso; omega
  | succ f ih =>
    replace hf : (μ 10 1) - l2 < (f : Int) + 1 := by omega
    rw [xx_hasNounHole_2]
    have b2 : 0 ≤ (μ 10 1) ∧ (μ 10 1) ≤ 20 := hB 10 1
    refine Az.blk kd_2_hasNounHole_2 (show zR l2 ∧ zR (μ 10 1) ∧ ((¬ l2 < (μ 10 1) → Ez md_2_hasNounHole 0 0 35 [(0, zr 10), (1, zi l1), (2, zi l2)] [] zSh μ _ _ _) ∧ (l2 < (μ 10 1) → Ez md_2_hasNounHole 0 0 10 [(0, zr 10), (1, zi l1), (2, zi l2)] [] zSh μ _ _ _)) from ⟨(by omega), (by omega), fun c3 => ?_, fun c3 => ?_⟩)
    · rw [if_neg c3]
      refine Az.blk kd_2_hasNounHole_35 (show Ez md_2_hasNounHole 0 0 36 [(0, zr 10), (1, zi l1), (2, zi l2)] [zi 0] zSh μ _ _ _ from ?_)
      exact Ez.zret kr_2_hasNounHole_36 rfl (Nat.zero_le _) (Nat.zero_le _) (Or.inl rfl) rfl rfl
    · rw [if_pos c3]
      refine Az.blk kd_2_hasNounHole_10 (show Ez md_2_hasNounHole 0 0 12 [(0, zr 10), (1, zi l1), (2, zi l2)] [zi l2, zr 10] zSh μ _ _ _ from ?_)
      refine Az.cV (mc := md_2_tieOf) (k := 10) (n := 1) (As := [zi l2]) (rest := []) kr_2_hasNounHole_12 zw_410 ok_2_tieOf rfl rfl rfl trivial (xz_tieOf hB l2 (by omega)) rfl rfl (show Ez md_2_hasNounHole 0 0 15 [(0, zr 10), (1, zi l1), (2, zi l2)] [zi (xx_tieOf μ l2)] zSh μ _ _ _ from ?_)
      have r4 : -1 ≤ (xx_tieOf μ l2) ∧ (xx_tieOf μ l2) ≤ 9 := xr_tieOf hB l2 (by omega)
      refine Az.blk kd_2_hasNounHole_15 (show zR (xx_tieOf μ l2) ∧ zR l1 ∧ ((¬ (xx_tieOf μ l2) = l1 → Ez md_2_hasNounHole 0 0 29 [(0, zr 10), (1, zi l1), (2, zi l2)] [] zSh μ _ _ _) ∧ ((xx_tieOf μ l2) = l1 → Ez md_2_hasNounHole 0 0 19 [(0, zr 10), (1, zi l1), (2, zi l2)] [] zSh μ _ _ _)) from ⟨(by omega), (by omega), fun c5 => ?_, fun c5 => ?_⟩)
      · rw [if_neg c5]
        refine Az.blk kd_2_hasNounHole_29 (show Ez md_2_hasNounHole 0 0 2 [(2, zi (l2 + 1)), (0, zr 10), (1, zi l1)] [] zSh μ _ _ _ from ?_)
        have b6 : 0 ≤ (μ 10 1) ∧ (μ 10 1) ≤ 20 := hB 10 1
        refine Az.lvs (lv' := [(0, zr 10), (1, zi l1), (2, zi (l2 + 1))]) ?_ ?_
        · intro q hq; simp only [List.mem_cons, List.not_mem_nil, or_false] at hq; rcases hq with rfl | rfl | rfl <;> rfl
        exact ih μ hB l1 (l2 + 1) (by omega) (by omega) (by omega)
      · rw [if_pos c5]
        refine Az.blk kd_2_hasNounHole_19 (show Ez md_2_hasNounHole 0 0 21 [(0, zr 10), (1, zi l1), (2, zi l2)] [zi l2, zr 10] zSh μ _ _ _ from ?_)
        refine Az.cV (mc := md_2_kindOfHole) (k := 10) (n := 1) (As := [zi l2]) (rest := []) kr_2_hasNounHole_21 zw_570 ok_2_kindOfHole rfl rfl rfl trivial (xz_kindOfHole hB l2 (by omega)) rfl rfl (show Ez md_2_hasNounHole 0 0 24 [(0, zr 10), (1, zi l1), (2, zi l2)] [zi (xx_kindOfHole μ l2)] zSh μ _ _ _ from ?_)
        have r7 : -1 ≤ (xx_kindOfHole μ l2) ∧ (xx_kindOfHole μ l2) ≤ 2 := xr_kindOfHole hB l2 (by omega)
        refine Az.blk kd_2_hasNounHole_24 (show zR (xx_kindOfHole μ l2) ∧ ((¬ (xx_kindOfHole μ l2) = 0 → Ez md_2_hasNounHole 0 0 29 [(0, zr 10), (1, zi l1), (2, zi l2)] [] zSh μ _ _ _) ∧ ((xx_kindOfHole μ l2) = 0 → Ez md_2_hasNounHole 0 0 27 [(0, zr 10), (1, zi l1), (2, zi l2)] [] zSh μ _ _ _)) from ⟨(by omega), fun c8 => ?_, fun c8 => ?_⟩)
        · rw [if_neg c8]
          refine Az.blk kd_2_hasNounHole_29 (show Ez md_2_hasNounHole 0 0 2 [(2, zi (l2 + 1)), (0, zr 10), (1, zi l1)] [] zSh μ _ _ _ from ?_)
          have b9 : 0 ≤ (μ 10 1) ∧ (μ 10 1) ≤ 20 := hB 10 1
          refine Az.lvs (lv' := [(0, zr 10), (1, zi l1), (2, zi (l2 + 1))]) ?_ ?_
          · intro q hq; simp only [List.mem_cons, List.not_mem_nil, or_false] at hq; rcases hq with rfl | rfl | rfl <;> rfl
          exact ih μ hB l1 (l2 + 1) (by omega) (by omega) (by omega)
        · rw [if_pos c8]
          refine Az.blk kd_2_hasNounHole_27 (show Ez md_2_hasNounHole 0 0 28 [(0, zr 10), (1, zi l1), (2, zi l2)] [zi 1] zSh μ _ _ _ from ?_)
          exact Ez.zret kr_2_hasNounHole_28 rfl (Nat.zero_le _) (Nat.zero_le _) (Or.inr rfl) rfl rfl
set_option maxHeartbeats 4000000 in
set_option maxRecDepth 100000 in
theorem xz_hasNounHole {μ : zM} (hB : zB μ) (a1 : Int) (h0 : -2147483648 ≤ a1 ∧ a1 ≤ 2147483647) : Dz md_2_hasNounHole [zr 10, zi a1] zSh μ (some (zi (xx_hasNounHole μ a1))) zSh μ := by
  refine Dz.of (by decide) rfl rfl (show Ez md_2_hasNounHole 0 0 0 [(0, zr 10), (1, zi a1)] [] zSh μ (some (zi (xx_hasNounHole μ a1))) zSh μ from ?_)
  unfold xx_hasNounHole
  refine Az.blk kd_2_hasNounHole_0 (show Ez md_2_hasNounHole 0 0 2 [(2, zi 0), (0, zr 10), (1, zi a1)] [] zSh μ _ _ _ from ?_)
  have b1 : 0 ≤ (μ 10 1) ∧ (μ 10 1) ≤ 20 := hB 10 1
  refine Az.lvs (lv' := [(0, zr 10), (1, zi a1), (2, zi 0)]) ?_ ?_
  · intro q hq; simp only [List.mem_cons, List.not_mem_nil, or_false] at hq; rcases hq with rfl | rfl | rfl <;> rfl
  have fb : (3000 : Int) ≤ ((zN : Nat) : Int) := zN_big
  exact xz_hasNounHole_2 zN μ hB a1 0 (by omega) (by omega) (by omega)
def kb_2_tiesWithHoles_0 : List zI := [(.iconst 0, 1, 0, 0), (.istore_n 1, 1, 0, 0), (.iconst 0, 1, 0, 0), (.istore_n 2, 1, 0, 0)]
theorem kd_2_tiesWithHoles_0 : zdec md_2_tiesWithHoles 0 kb_2_tiesWithHoles_0 = true := by decide +kernel
def kb_2_tiesWithHoles_4 : List zI := [(.iload_n 2, 1, 0, 0), (.bipush 10, 2, 0, 0), (.if_icmp .ge 21, 3, 28, 0)]
theorem kd_2_tiesWithHoles_4 : zdec md_2_tiesWithHoles 4 kb_2_tiesWithHoles_4 = true := by decide +kernel
def kb_2_tiesWithHoles_28 : List zI := [(.iload_n 1, 1, 0, 0)]
theorem kd_2_tiesWithHoles_28 : zdec md_2_tiesWithHoles 28 kb_2_tiesWithHoles_28 = true := by decide +kernel
theorem kr_2_tiesWithHoles_29 : decode md_2_tiesWithHoles.2.1 29 = .ok (.ireturn, 1) := by decide +kernel
def kb_2_tiesWithHoles_10 : List zI := [(.aload_n 0, 1, 0, 0), (.iload_n 2, 1, 0, 0), (.iconst 0, 1, 0, 0)]
theorem kd_2_tiesWithHoles_10 : zdec md_2_tiesWithHoles 10 kb_2_tiesWithHoles_10 = true := by decide +kernel
theorem kr_2_tiesWithHoles_13 : decode md_2_tiesWithHoles.2.1 13 = .ok (.invokevirtual 92, 3) := by decide +kernel
def kb_2_tiesWithHoles_16 : List zI := [(.ifCond .le 6, 3, 22, 0)]
theorem kd_2_tiesWithHoles_16 : zdec md_2_tiesWithHoles 16 kb_2_tiesWithHoles_16 = true := by decide +kernel
def kb_2_tiesWithHoles_22 : List zI := [(.iinc 2 1, 3, 0, 0), (.goto (-21), 3, 4, 0)]
theorem kd_2_tiesWithHoles_22 : zdec md_2_tiesWithHoles 22 kb_2_tiesWithHoles_22 = true := by decide +kernel
def kb_2_tiesWithHoles_19 : List zI := [(.iinc 1 1, 3, 0, 0), (.iinc 2 1, 3, 0, 0), (.goto (-21), 3, 4, 0)]
theorem kd_2_tiesWithHoles_19 : zdec md_2_tiesWithHoles 19 kb_2_tiesWithHoles_19 = true := by decide +kernel
noncomputable def xx_tiesWithHoles_4 : Nat → zM → Int → Int → Int
  | 0, μ, _, _ => 0
  | f + 1, μ, l1, l2 => (if l2 < 10 then (if 0 < (xx_holesOfTie μ l2 0) then (xx_tiesWithHoles_4 f μ (l1 + 1) (l2 + 1)) else (xx_tiesWithHoles_4 f μ l1 (l2 + 1))) else l1)
noncomputable def xx_tiesWithHoles (μ : zM) : Int := (xx_tiesWithHoles_4 zN μ 0 0)
set_option maxHeartbeats 4000000 in
set_option maxRecDepth 100000 in
theorem xr_tiesWithHoles_4 (f : Nat) (μ : zM) (hB : zB μ) (l1 : Int) (l2 : Int) (i0 : 0 ≤ l2 ∧ l2 ≤ 10) (i1 : 0 ≤ l1 ∧ l1 ≤ l2) (hf : 10 - l2 < (f : Int)) : 0 ≤ (xx_tiesWithHoles_4 f μ l1 l2) ∧ (xx_tiesWithHoles_4 f μ l1 l2) ≤ 10 := by
  induction f generalizing μ l1 l2 with
  | zero => exfalso; omega
  | succ f ih =>
    replace hf : 10 - l2 < (f : Int) + 1 := by omega
    rw [xx_tiesWithHoles_4]
    by_cases c1 : l2 < 10
    · rw [if_pos c1]
      have r2 : 0 ≤ (xx_holesOfTie μ l2 0) ∧ (xx_holesOfTie μ l2 0) ≤ 20 := xr_holesOfTie hB l2 0 (by omega) (by omega)
      by_cases c3 : 0 < (xx_holesOfTie μ l2 0)
      · rw [if_pos c3]
        exact ih μ hB (l1 + 1) (l2 + 1) (by omega) (by omega) (by omega)
      · rw [if_neg c3]
        exact ih μ hB l1 (l2 + 1) (by omega) (by omega) (by omega)
    · rw [if_neg c1]
      first | omega | (dsimp only; omega)
set_option maxHeartbeats 4000000 in
set_option maxRecDepth 100000 in
theorem xr_tiesWithHoles {μ : zM} (hB : zB μ)  : 0 ≤ (xx_tiesWithHoles μ) ∧ (xx_tiesWithHoles μ) ≤ 10 := by
  unfold xx_tiesWithHoles
  have fb : (3000 : Int) ≤ ((zN : Nat) : Int) := zN_big
  exact xr_tiesWithHoles_4 zN μ hB 0 0 (by omega) (by omega) (by omega)
set_option maxHeartbeats 4000000 in
set_option maxRecDepth 100000 in
theorem xz_tiesWithHoles_4 (f : Nat) (μ : zM) (hB : zB μ) (l1 : Int) (l2 : Int) (i0 : 0 ≤ l2 ∧ l2 ≤ 10) (i1 : 0 ≤ l1 ∧ l1 ≤ l2) (hf : 10 - l2 < (f : Int)) : Ez md_2_tiesWithHoles 0 0 4 [(0, zr 10), (1, zi l1), (2, zi l2)] [] zSh μ (some (zi (xx_tiesWithHoles_4 f μ l1 l2))) zSh μ := by
  induction f generalizing μ l1 l2 with
  | zero => exfalso; omega
  | succ f ih =>
    replace hf : 10 - l2 < (f : Int) + 1 := by omega
    rw [xx_tiesWithHoles_4]
    refine Az.blk kd_2_tiesWithHoles_4 (show zR l2 ∧ zR 10 ∧ ((¬ l2 < 10 → Ez md_2_tiesWithHoles 0 0 28 [(0, zr 10), (1, zi l1), (2, zi l2)] [] zSh μ _ _ _) ∧ (l2 < 10 → Ez md_2_tiesWithHoles 0 0 10 [(0, zr 10), (1, zi l1), (2, zi l2)] [] zSh μ _ _ _)) from ⟨(by omega), (by omega), fun c1 => ?_, fun c1 => ?_⟩)
    · rw [if_neg c1]
      refine Az.blk kd_2_tiesWithHoles_28 (show Ez md_2_tiesWithHoles 0 0 29 [(0, zr 10), (1, zi l1), (2, zi l2)] [zi l1] zSh μ _ _ _ from ?_)
      exact Ez.iret kr_2_tiesWithHoles_29 rfl (Nat.zero_le _) (Nat.zero_le _) rfl rfl
    · rw [if_pos c1]
      refine Az.blk kd_2_tiesWithHoles_10 (show Ez md_2_tiesWithHoles 0 0 13 [(0, zr 10), (1, zi l1), (2, zi l2)] [zi 0, zi l2, zr 10] zSh μ _ _ _ from ?_)
      refine Az.cV (mc := md_2_holesOfTie) (k := 10) (n := 2) (As := [zi l2, zi 0]) (rest := []) kr_2_tiesWithHoles_13 zw_406 ok_2_holesOfTie rfl rfl rfl trivial (xz_holesOfTie hB l2 0 (by omega) (by omega)) rfl rfl (show Ez md_2_tiesWithHoles 0 0 16 [(0, zr 10), (1, zi l1), (2, zi l2)] [zi (xx_holesOfTie μ l2 0)] zSh μ _ _ _ from ?_)
      have r2 : 0 ≤ (xx_holesOfTie μ l2 0) ∧ (xx_holesOfTie μ l2 0) ≤ 20 := xr_holesOfTie hB l2 0 (by omega) (by omega)
      refine Az.blk kd_2_tiesWithHoles_16 (show zR (xx_holesOfTie μ l2 0) ∧ ((¬ 0 < (xx_holesOfTie μ l2 0) → Ez md_2_tiesWithHoles 0 0 22 [(0, zr 10), (1, zi l1), (2, zi l2)] [] zSh μ _ _ _) ∧ (0 < (xx_holesOfTie μ l2 0) → Ez md_2_tiesWithHoles 0 0 19 [(0, zr 10), (1, zi l1), (2, zi l2)] [] zSh μ _ _ _)) from ⟨(by omega), fun c3 => ?_, fun c3 => ?_⟩)
      · rw [if_neg c3]
        refine Az.blk kd_2_tiesWithHoles_22 (show Ez md_2_tiesWithHoles 0 0 4 [(2, zi (l2 + 1)), (0, zr 10), (1, zi l1)] [] zSh μ _ _ _ from ?_)
        refine Az.lvs (lv' := [(0, zr 10), (1, zi l1), (2, zi (l2 + 1))]) ?_ ?_
        · intro q hq; simp only [List.mem_cons, List.not_mem_nil, or_false] at hq; rcases hq with rfl | rfl | rfl <;> rfl
        exact ih μ hB l1 (l2 + 1) (by omega) (by omega) (by omega)
      · rw [if_pos c3]
        refine Az.blk kd_2_tiesWithHoles_19 (show Ez md_2_tiesWithHoles 0 0 4 [(2, zi (l2 + 1)), (1, zi (l1 + 1)), (0, zr 10)] [] zSh μ _ _ _ from ?_)
        refine Az.lvs (lv' := [(0, zr 10), (1, zi (l1 + 1)), (2, zi (l2 + 1))]) ?_ ?_
        · intro q hq; simp only [List.mem_cons, List.not_mem_nil, or_false] at hq; rcases hq with rfl | rfl | rfl <;> rfl
        exact ih μ hB (l1 + 1) (l2 + 1) (by omega) (by omega) (by omega)
set_option maxHeartbeats 4000000 in
set_option maxRecDepth 100000 in
theorem xz_tiesWithHoles {μ : zM} (hB : zB μ)  : Dz md_2_tiesWithHoles [zr 10] zSh μ (some (zi (xx_tiesWithHoles μ))) zSh μ := by
  refine Dz.of (by decide) rfl rfl (show Ez md_2_tiesWithHoles 0 0 0 [(0, zr 10)] [] zSh μ (some (zi (xx_tiesWithHoles μ))) zSh μ from ?_)
  unfold xx_tiesWithHoles
  refine Az.blk kd_2_tiesWithHoles_0 (show Ez md_2_tiesWithHoles 0 0 4 [(2, zi 0), (1, zi 0), (0, zr 10)] [] zSh μ _ _ _ from ?_)
  refine Az.lvs (lv' := [(0, zr 10), (1, zi 0), (2, zi 0)]) ?_ ?_
  · intro q hq; simp only [List.mem_cons, List.not_mem_nil, or_false] at hq; rcases hq with rfl | rfl | rfl <;> rfl
  have fb : (3000 : Int) ≤ ((zN : Nat) : Int) := zN_big
  exact xz_tiesWithHoles_4 zN μ hB 0 0 (by omega) (by omega) (by omega)
