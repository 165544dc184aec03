def kb_6_set_0 : List zI := [(.iload_n 1, 1, 0, 0), (.i2l, 1, 0, 0), (.lconst 0, 1, 0, 0), (.lconst 1, 1, 0, 0)]
theorem kd_6_set_0 : zdec md_6_set 0 kb_6_set_0 = true := by decide +kernel
theorem kr_6_set_4 : decode md_6_set.2.1 4 = .ok (.invokestatic 32, 3) := by decide +kernel
def kb_6_set_7 : List zI := [(.ifCond .ne 6, 3, 13, 0)]
theorem kd_6_set_7 : zdec md_6_set 7 kb_6_set_7 = true := by decide +kernel
def kb_6_set_13 : List zI := [(.aload_n 0, 1, 0, 0), (.getfield 7, 3, 6, 0), (.iconst 0, 1, 0, 0), (.iaload, 1, 0, 0), (.iload_n 1, 1, 0, 0), (.if_icmp .ne 6, 3, 26, 0)]
theorem kd_6_set_13 : zdec md_6_set 13 kb_6_set_13 = true := by decide +kernel
def kb_6_set_26 : List zI := [(.aload_n 0, 1, 0, 0)]
theorem kd_6_set_26 : zdec md_6_set 26 kb_6_set_26 = true := by decide +kernel
theorem kr_6_set_27 : decode md_6_set.2.1 27 = .ok (.invokevirtual 85, 3) := by decide +kernel
def kb_6_set_30 : List zI := [(.aload_n 0, 1, 0, 0), (.getfield 7, 3, 6, 0), (.iconst 0, 1, 0, 0), (.iload_n 1, 1, 0, 0), (.iastore, 1, 0, 0), (.aload_n 0, 1, 0, 0), (.iconst 1, 1, 0, 0), (.iload_n 1, 1, 0, 0), (.isub, 1, 0, 0)]
theorem kd_6_set_30 : zdec md_6_set 30 kb_6_set_30 = true := by decide +kernel
theorem kr_6_set_41 : decode md_6_set.2.1 41 = .ok (.invokevirtual 91, 3) := by decide +kernel
theorem kr_6_set_44 : decode md_6_set.2.1 44 = .ok (.ireturn, 1) := by decide +kernel
def kb_6_set_23 : List zI := [(.bipush (-5), 2, 0, 0)]
theorem kd_6_set_23 : zdec md_6_set 23 kb_6_set_23 = true := by decide +kernel
theorem kr_6_set_25 : decode md_6_set.2.1 25 = .ok (.ireturn, 1) := by decide +kernel
def kb_6_set_10 : List zI := [(.bipush (-2), 2, 0, 0)]
theorem kd_6_set_10 : zdec md_6_set 10 kb_6_set_10 = true := by decide +kernel
theorem kr_6_set_12 : decode md_6_set.2.1 12 = .ok (.ireturn, 1) := by decide +kernel
noncomputable def mm_set (μ : zM) (a1 : Int) : Int × zM := (if (mm_in a1 0 1) = 0 then ((-2), μ) else (if (μ 114 0) = a1 then ((-5), μ) else ((mm_ends (zup (zset μ 115 ((mm_keeps μ) 115)) 114 0 a1) (1 - a1)).1, (mm_ends (zup (zset μ 115 ((mm_keeps μ) 115)) 114 0 a1) (1 - a1)).2)))
set_option maxHeartbeats 4000000 in
set_option maxRecDepth 100000 in
theorem mb_set {μ : zM} (hB : zB μ) (a1 : Int) (h0 : -2147483648 ≤ a1 ∧ a1 ≤ 2147483647) : zB (mm_set μ a1).2 := by
  unfold mm_set
  have r1 : 0 ≤ (mm_in a1 0 1) ∧ (mm_in a1 0 1) ≤ 1 ∧ ((mm_in a1 0 1) = 1 → (0 : Int) ≤ a1 ∧ a1 ≤ (1 : Int)) ∧ ((mm_in a1 0 1) = 0 → a1 < (0 : Int) ∨ (1 : Int) < a1) := mr_in a1 0 1 (by omega) (by omega) (by omega)
  by_cases c2 : (mm_in a1 0 1) = 0
  · rw [if_pos c2]
    exact hB
  · rw [if_neg c2]
    have b3 : 0 ≤ (μ 114 0) ∧ (μ 114 0) ≤ 1 := hB 114 0
    by_cases c4 : (μ 114 0) = a1
    · rw [if_pos c4]
      exact hB
    · rw [if_neg c4]
      exact (mb_ends (zup_ok (k := 114) (z := 0) (v := a1) (mb_keepsF hB) (show 0 ≤ a1 ∧ a1 ≤ 1 from by omega)) (1 - a1))
set_option maxHeartbeats 4000000 in
set_option maxRecDepth 100000 in
theorem mz_set {μ : zM} (hB : zB μ) (a1 : Int) (h0 : -2147483648 ≤ a1 ∧ a1 ≤ 2147483647) : Dz md_6_set [zr 113, zi a1] zSh μ (some (zi (mm_set μ a1).1)) zSh (mm_set μ a1).2 := by
  refine Dz.of (by decide) rfl rfl (show Ez md_6_set 0 0 0 [(0, zr 113), (1, zi a1)] [] zSh μ (some (zi (mm_set μ a1).1)) zSh (mm_set μ a1).2 from ?_)
  unfold mm_set
  refine Az.blk kd_6_set_0 (show zR a1 ∧ Ez md_6_set 0 0 4 [(0, zr 113), (1, zi a1)] [zl 1, zl 0, zl a1] zSh μ _ _ _ from ⟨(by omega), ?_⟩)
  refine Az.cS (mc := md_6_in) (n := 3) (As := [zl a1, zl 0, zl 1]) (rest := []) kr_6_set_4 zw_622 ok_6_in rfl rfl (mz_in a1 0 1 (by omega) (by omega) (by omega)) rfl rfl (show Ez md_6_set 0 0 7 [(0, zr 113), (1, zi a1)] [zi (mm_in a1 0 1)] zSh μ _ _ _ from ?_)
  have r1 : 0 ≤ (mm_in a1 0 1) ∧ (mm_in a1 0 1) ≤ 1 ∧ ((mm_in a1 0 1) = 1 → (0 : Int) ≤ a1 ∧ a1 ≤ (1 : Int)) ∧ ((mm_in a1 0 1) = 0 → a1 < (0 : Int) ∨ (1 : Int) < a1) := mr_in a1 0 1 (by omega) (by omega) (by omega)
  refine Az.blk kd_6_set_7 (show zR (mm_in a1 0 1) ∧ ((¬ (mm_in a1 0 1) = 0 → Ez md_6_set 0 0 13 [(0, zr 113), (1, zi a1)] [] zSh μ _ _ _) ∧ ((mm_in a1 0 1) = 0 → Ez md_6_set 0 0 10 [(0, zr 113), (1, zi a1)] [] zSh μ _ _ _)) from ⟨(by omega), fun c2 => ?_, fun c2 => ?_⟩)
  · rw [if_neg c2]
    have b3 : 0 ≤ (μ 114 0) ∧ (μ 114 0) ≤ 1 := hB 114 0
    refine Az.blk kd_6_set_13 (show (0 ≤ 0 ∧ 0 < 604) ∧ zR (μ 114 0) ∧ zR a1 ∧ ((¬ (μ 114 0) = a1 → Ez md_6_set 0 0 26 [(0, zr 113), (1, zi a1)] [] zSh μ _ _ _) ∧ ((μ 114 0) = a1 → Ez md_6_set 0 0 23 [(0, zr 113), (1, zi a1)] [] zSh μ _ _ _)) from ⟨(by omega), (by omega), (by omega), fun c4 => ?_, fun c4 => ?_⟩)
    · rw [if_neg c4]
      refine Az.blk kd_6_set_26 (show Ez md_6_set 0 0 27 [(0, zr 113), (1, zi a1)] [zr 113] zSh μ _ _ _ from ?_)
      refine Az.cV (mc := md_6_keeps) (k := 113) (n := 0) (As := []) (rest := []) kr_6_set_27 zw_633 ok_6_keeps rfl rfl rfl trivial (mz_keepsF hB) rfl rfl (show Ez md_6_set 0 0 30 [(0, zr 113), (1, zi a1)] [] zSh (zset μ 115 ((mm_keeps μ) 115)) _ _ _ from ?_)
      refine Az.blk kd_6_set_30 (show (0 ≤ 0 ∧ 0 < 604) ∧ Ez md_6_set 0 0 41 [(0, zr 113), (1, zi a1)] [zi (1 - a1), zr 113] zSh (zup (zset μ 115 ((mm_keeps μ) 115)) 114 0 a1) _ _ _ from ⟨(by omega), ?_⟩)
      refine Az.cV (mc := md_6_ends) (k := 113) (n := 1) (As := [zi (1 - a1)]) (rest := []) kr_6_set_41 zw_637 ok_6_ends rfl rfl rfl trivial (mz_ends (zup_ok (k := 114) (z := 0) (v := a1) (mb_keepsF hB) (show 0 ≤ a1 ∧ a1 ≤ 1 from by omega)) (1 - a1)) rfl rfl (show Ez md_6_set 0 0 44 [(0, zr 113), (1, zi a1)] [zi (mm_ends (zup (zset μ 115 ((mm_keeps μ) 115)) 114 0 a1) (1 - a1)).1] zSh (mm_ends (zup (zset μ 115 ((mm_keeps μ) 115)) 114 0 a1) (1 - a1)).2 _ _ _ from ?_)
      exact Ez.iret kr_6_set_44 rfl (Nat.zero_le _) (Nat.zero_le _) rfl rfl
    · rw [if_pos c4]
      refine Az.blk kd_6_set_23 (show Ez md_6_set 0 0 25 [(0, zr 113), (1, zi a1)] [zi (-5)] zSh μ _ _ _ from ?_)
      exact Ez.iret kr_6_set_25 rfl (Nat.zero_le _) (Nat.zero_le _) rfl rfl
  · rw [if_pos c2]
    refine Az.blk kd_6_set_10 (show Ez md_6_set 0 0 12 [(0, zr 113), (1, zi a1)] [zi (-2)] zSh μ _ _ _ from ?_)
    exact Ez.iret kr_6_set_12 rfl (Nat.zero_le _) (Nat.zero_le _) rfl rfl
def kb_6_empty_0 : List zI := [(.aload_n 0, 1, 0, 0), (.iload_n 1, 1, 0, 0)]
theorem kd_6_empty_0 : zdec md_6_empty 0 kb_6_empty_0 = true := by decide +kernel
theorem kr_6_empty_2 : decode md_6_empty.2.1 2 = .ok (.invokevirtual 112, 3) := by decide +kernel
def kb_6_empty_5 : List zI := [(.ifCond .ne 5, 3, 10, 0)]
theorem kd_6_empty_5 : zdec md_6_empty 5 kb_6_empty_5 = true := by decide +kernel
def kb_6_empty_10 : List zI := [(.aload_n 0, 1, 0, 0), (.iload_n 1, 1, 0, 0)]
theorem kd_6_empty_10 : zdec md_6_empty 10 kb_6_empty_10 = true := by decide +kernel
theorem kr_6_empty_12 : decode md_6_empty.2.1 12 = .ok (.invokevirtual 55, 3) := by decide +kernel
def kb_6_empty_15 : List zI := [(.istore_n 2, 1, 0, 0), (.aload_n 0, 1, 0, 0), (.iload_n 2, 1, 0, 0), (.iconst 3, 1, 0, 0)]
theorem kd_6_empty_15 : zdec md_6_empty 15 kb_6_empty_15 = true := by decide +kernel
theorem kr_6_empty_19 : decode md_6_empty.2.1 19 = .ok (.invokevirtual 48, 3) := by decide +kernel
def kb_6_empty_22 : List zI := [(.istore_n 3, 1, 0, 0), (.iload_n 3, 1, 0, 0), (.bipush (-5), 2, 0, 0), (.if_icmp .ne 6, 3, 32, 0)]
theorem kd_6_empty_22 : zdec md_6_empty 22 kb_6_empty_22 = true := by decide +kernel
def kb_6_empty_32 : List zI := [(.aload_n 0, 1, 0, 0)]
theorem kd_6_empty_32 : zdec md_6_empty 32 kb_6_empty_32 = true := by decide +kernel
theorem kr_6_empty_33 : decode md_6_empty.2.1 33 = .ok (.invokevirtual 85, 3) := by decide +kernel
def kb_6_empty_36 : List zI := [(.aload_n 0, 1, 0, 0), (.iload_n 2, 1, 0, 0), (.bipush (-5), 2, 0, 0)]
theorem kd_6_empty_36 : zdec md_6_empty 36 kb_6_empty_36 = true := by decide +kernel
theorem kr_6_empty_40 : decode md_6_empty.2.1 40 = .ok (.invokevirtual 121, 3) := by decide +kernel
def kb_6_empty_43 : List zI := [(.aload_n 0, 1, 0, 0), (.iload_n 3, 1, 0, 0)]
theorem kd_6_empty_43 : zdec md_6_empty 43 kb_6_empty_43 = true := by decide +kernel
theorem kr_6_empty_45 : decode md_6_empty.2.1 45 = .ok (.invokevirtual 91, 3) := by decide +kernel
theorem kr_6_empty_48 : decode md_6_empty.2.1 48 = .ok (.ireturn, 1) := by decide +kernel
def kb_6_empty_29 : List zI := [(.bipush (-5), 2, 0, 0)]
theorem kd_6_empty_29 : zdec md_6_empty 29 kb_6_empty_29 = true := by decide +kernel
theorem kr_6_empty_31 : decode md_6_empty.2.1 31 = .ok (.ireturn, 1) := by decide +kernel
def kb_6_empty_8 : List zI := [(.iconst (-1), 1, 0, 0)]
theorem kd_6_empty_8 : zdec md_6_empty 8 kb_6_empty_8 = true := by decide +kernel
theorem kr_6_empty_9 : decode md_6_empty.2.1 9 = .ok (.ireturn, 1) := by decide +kernel
noncomputable def mm_empty (μ : zM) (a1 : Int) : Int × zM := (if (mm_isHole μ a1) = 0 then ((-1), μ) else (if (mm_ofItem μ (mm_itemOf μ a1) 3) = (-5) then ((-5), μ) else ((mm_ends (zset (zset μ 115 ((mm_keeps μ) 115)) 114 ((mm_lays (zset μ 115 ((mm_keeps μ) 115)) (mm_itemOf μ a1) (-5)) 114)) (mm_ofItem μ (mm_itemOf μ a1) 3)).1, (mm_ends (zset (zset μ 115 ((mm_keeps μ) 115)) 114 ((mm_lays (zset μ 115 ((mm_keeps μ) 115)) (mm_itemOf μ a1) (-5)) 114)) (mm_ofItem μ (mm_itemOf μ a1) 3)).2)))
set_option maxHeartbeats 4000000 in
set_option maxRecDepth 100000 in
theorem mb_empty {μ : zM} (hB : zB μ) (a1 : Int) (h0 : -2147483648 ≤ a1 ∧ a1 ≤ 2147483647) : zB (mm_empty μ a1).2 := by
  unfold mm_empty
  have r1 : 0 ≤ (mm_isHole μ a1) ∧ (mm_isHole μ a1) ≤ 1 ∧ ((mm_isHole μ a1) = 1 → 0 ≤ a1 ∧ 0 ≤ (mm_itemOf μ a1)) := mr_isHole hB a1 (by omega)
  by_cases c2 : (mm_isHole μ a1) = 0
  · rw [if_pos c2]
    exact hB
  · rw [if_neg c2]
    have r3 : ((mm_itemOf μ a1) = -5 ∨ (0 ≤ (mm_itemOf μ a1) ∧ (mm_itemOf μ a1) < μ 114 3)) ∧ (mm_itemOf μ a1) ≤ 19 := mr_itemOf hB a1 (by omega)
    have r4 : -5 ≤ (mm_ofItem μ (mm_itemOf μ a1) 3) ∧ (mm_ofItem μ (mm_itemOf μ a1) 3) ≤ 26 ∧ ((3 : Int) = 0 → 0 ≤ (mm_ofItem μ (mm_itemOf μ a1) 3) ∧ (mm_ofItem μ (mm_itemOf μ a1) 3) ≤ 1) ∧ ((3 : Int) = 1 → 0 ≤ (mm_ofItem μ (mm_itemOf μ a1) 3) ∧ (mm_ofItem μ (mm_itemOf μ a1) 3) ≤ 10) ∧ ((3 : Int) = 2 → 0 ≤ (mm_ofItem μ (mm_itemOf μ a1) 3) ∧ (mm_ofItem μ (mm_itemOf μ a1) 3) ≤ 9) ∧ ((3 : Int) = 3 → (mm_ofItem μ (mm_itemOf μ a1) 3) = -5 ∨ (0 ≤ (mm_ofItem μ (mm_itemOf μ a1) 3) ∧ (mm_ofItem μ (mm_itemOf μ a1) 3) ≤ 23)) ∧ (3 < (3 : Int) → 0 ≤ (mm_ofItem μ (mm_itemOf μ a1) 3)) := mr_ofItem hB (mm_itemOf μ a1) 3 (by omega) (by omega)
    by_cases c5 : (mm_ofItem μ (mm_itemOf μ a1) 3) = (-5)
    · rw [if_pos c5]
      exact hB
    · rw [if_neg c5]
      exact (mb_ends (mb_laysF (mb_keepsF hB) (mm_itemOf μ a1) (-5) (by omega) (by omega)) (mm_ofItem μ (mm_itemOf μ a1) 3))
set_option maxHeartbeats 4000000 in
set_option maxRecDepth 100000 in
theorem mz_empty {μ : zM} (hB : zB μ) (a1 : Int) (h0 : -2147483648 ≤ a1 ∧ a1 ≤ 2147483647) : Dz md_6_empty [zr 113, zi a1] zSh μ (some (zi (mm_empty μ a1).1)) zSh (mm_empty μ a1).2 := by
  refine Dz.of (by decide) rfl rfl (show Ez md_6_empty 0 0 0 [(0, zr 113), (1, zi a1)] [] zSh μ (some (zi (mm_empty μ a1).1)) zSh (mm_empty μ a1).2 from ?_)
  unfold mm_empty
  refine Az.blk kd_6_empty_0 (show Ez md_6_empty 0 0 2 [(0, zr 113), (1, zi a1)] [zi a1, zr 113] zSh μ _ _ _ from ?_)
  refine Az.cV (mc := md_6_isHole) (k := 113) (n := 1) (As := [zi a1]) (rest := []) kr_6_empty_2 zw_702 ok_6_isHole rfl rfl rfl trivial (mz_isHole hB a1 (by omega)) rfl rfl (show Ez md_6_empty 0 0 5 [(0, zr 113), (1, zi a1)] [zi (mm_isHole μ a1)] zSh μ _ _ _ from ?_)
  have r1 : 0 ≤ (mm_isHole μ a1) ∧ (mm_isHole μ a1) ≤ 1 ∧ ((mm_isHole μ a1) = 1 → 0 ≤ a1 ∧ 0 ≤ (mm_itemOf μ a1)) := mr_isHole hB a1 (by omega)
  refine Az.blk kd_6_empty_5 (show zR (mm_isHole μ a1) ∧ ((¬ (mm_isHole μ a1) = 0 → Ez md_6_empty 0 0 10 [(0, zr 113), (1, zi a1)] [] zSh μ _ _ _) ∧ ((mm_isHole μ a1) = 0 → Ez md_6_empty 0 0 8 [(0, zr 113), (1, zi a1)] [] zSh μ _ _ _)) from ⟨(by omega), fun c2 => ?_, fun c2 => ?_⟩)
  · rw [if_neg c2]
    refine Az.blk kd_6_empty_10 (show Ez md_6_empty 0 0 12 [(0, zr 113), (1, zi a1)] [zi a1, zr 113] zSh μ _ _ _ from ?_)
    refine Az.cV (mc := md_6_itemOf) (k := 113) (n := 1) (As := [zi a1]) (rest := []) kr_6_empty_12 zw_706 ok_6_itemOf rfl rfl rfl trivial (mz_itemOf hB a1 (by omega)) rfl rfl (show Ez md_6_empty 0 0 15 [(0, zr 113), (1, zi a1)] [zi (mm_itemOf μ a1)] zSh μ _ _ _ from ?_)
    have r3 : ((mm_itemOf μ a1) = -5 ∨ (0 ≤ (mm_itemOf μ a1) ∧ (mm_itemOf μ a1) < μ 114 3)) ∧ (mm_itemOf μ a1) ≤ 19 := mr_itemOf hB a1 (by omega)
    refine Az.blk kd_6_empty_15 (show Ez md_6_empty 0 0 19 [(2, zi (mm_itemOf μ a1)), (0, zr 113), (1, zi a1)] [zi 3, zi (mm_itemOf μ a1), zr 113] zSh μ _ _ _ from ?_)
    refine Az.cV (mc := md_6_ofItem) (k := 113) (n := 2) (As := [zi (mm_itemOf μ a1), zi 3]) (rest := []) kr_6_empty_19 zw_678 ok_6_ofItem rfl rfl rfl trivial (mz_ofItem hB (mm_itemOf μ a1) 3 (by omega) (by omega)) rfl rfl (show Ez md_6_empty 0 0 22 [(2, zi (mm_itemOf μ a1)), (0, zr 113), (1, zi a1)] [zi (mm_ofItem μ (mm_itemOf μ a1) 3)] zSh μ _ _ _ from ?_)
    have r4 : -5 ≤ (mm_ofItem μ (mm_itemOf μ a1) 3) ∧ (mm_ofItem μ (mm_itemOf μ a1) 3) ≤ 26 ∧ ((3 : Int) = 0 → 0 ≤ (mm_ofItem μ (mm_itemOf μ a1) 3) ∧ (mm_ofItem μ (mm_itemOf μ a1) 3) ≤ 1) ∧ ((3 : Int) = 1 → 0 ≤ (mm_ofItem μ (mm_itemOf μ a1) 3) ∧ (mm_ofItem μ (mm_itemOf μ a1) 3) ≤ 10) ∧ ((3 : Int) = 2 → 0 ≤ (mm_ofItem μ (mm_itemOf μ a1) 3) ∧ (mm_ofItem μ (mm_itemOf μ a1) 3) ≤ 9) ∧ ((3 : Int) = 3 → (mm_ofItem μ (mm_itemOf μ a1) 3) = -5 ∨ (0 ≤ (mm_ofItem μ (mm_itemOf μ a1) 3) ∧ (mm_ofItem μ (mm_itemOf μ a1) 3) ≤ 23)) ∧ (3 < (3 : Int) → 0 ≤ (mm_ofItem μ (mm_itemOf μ a1) 3)) := mr_ofItem hB (mm_itemOf μ a1) 3 (by omega) (by omega)
    refine Az.blk kd_6_empty_22 (show zR (mm_ofItem μ (mm_itemOf μ a1) 3) ∧ zR (-5) ∧ ((¬ (mm_ofItem μ (mm_itemOf μ a1) 3) = (-5) → Ez md_6_empty 0 0 32 [(3, zi (mm_ofItem μ (mm_itemOf μ a1) 3)), (2, zi (mm_itemOf μ a1)), (0, zr 113), (1, zi a1)] [] zSh μ _ _ _) ∧ ((mm_ofItem μ (mm_itemOf μ a1) 3) = (-5) → Ez md_6_empty 0 0 29 [(3, zi (mm_ofItem μ (mm_itemOf μ a1) 3)), (2, zi (mm_itemOf μ a1)), (0, zr 113), (1, zi a1)] [] zSh μ _ _ _)) from ⟨(by omega), (by omega), fun c5 => ?_, fun c5 => ?_⟩)
    · rw [if_neg c5]
      refine Az.blk kd_6_empty_32 (show Ez md_6_empty 0 0 33 [(3, zi (mm_ofItem μ (mm_itemOf μ a1) 3)), (2, zi (mm_itemOf μ a1)), (0, zr 113), (1, zi a1)] [zr 113] zSh μ _ _ _ from ?_)
      refine Az.cV (mc := md_6_keeps) (k := 113) (n := 0) (As := []) (rest := []) kr_6_empty_33 zw_633 ok_6_keeps rfl rfl rfl trivial (mz_keepsF hB) rfl rfl (show Ez md_6_empty 0 0 36 [(3, zi (mm_ofItem μ (mm_itemOf μ a1) 3)), (2, zi (mm_itemOf μ a1)), (0, zr 113), (1, zi a1)] [] zSh (zset μ 115 ((mm_keeps μ) 115)) _ _ _ from ?_)
      refine Az.blk kd_6_empty_36 (show Ez md_6_empty 0 0 40 [(3, zi (mm_ofItem μ (mm_itemOf μ a1) 3)), (2, zi (mm_itemOf μ a1)), (0, zr 113), (1, zi a1)] [zi (-5), zi (mm_itemOf μ a1), zr 113] zSh (zset μ 115 ((mm_keeps μ) 115)) _ _ _ from ?_)
      refine Az.cV (mc := md_6_lays) (k := 113) (n := 2) (As := [zi (mm_itemOf μ a1), zi (-5)]) (rest := []) kr_6_empty_40 zw_730 ok_6_lays rfl rfl rfl trivial (mz_laysF (mb_keepsF hB) (mm_itemOf μ a1) (-5) (by omega) (by omega)) rfl rfl (show Ez md_6_empty 0 0 43 [(3, zi (mm_ofItem μ (mm_itemOf μ a1) 3)), (2, zi (mm_itemOf μ a1)), (0, zr 113), (1, zi a1)] [] zSh (zset (zset μ 115 ((mm_keeps μ) 115)) 114 ((mm_lays (zset μ 115 ((mm_keeps μ) 115)) (mm_itemOf μ a1) (-5)) 114)) _ _ _ from ?_)
      refine Az.blk kd_6_empty_43 (show Ez md_6_empty 0 0 45 [(3, zi (mm_ofItem μ (mm_itemOf μ a1) 3)), (2, zi (mm_itemOf μ a1)), (0, zr 113), (1, zi a1)] [zi (mm_ofItem μ (mm_itemOf μ a1) 3), zr 113] zSh (zset (zset μ 115 ((mm_keeps μ) 115)) 114 ((mm_lays (zset μ 115 ((mm_keeps μ) 115)) (mm_itemOf μ a1) (-5)) 114)) _ _ _ from ?_)
      refine Az.cV (mc := md_6_ends) (k := 113) (n := 1) (As := [zi (mm_ofItem μ (mm_itemOf μ a1) 3)]) (rest := []) kr_6_empty_45 zw_637 ok_6_ends rfl rfl rfl trivial (mz_ends (mb_laysF (mb_keepsF hB) (mm_itemOf μ a1) (-5) (by omega) (by omega)) (mm_ofItem μ (mm_itemOf μ a1) 3)) rfl rfl (show Ez md_6_empty 0 0 48 [(3, zi (mm_ofItem μ (mm_itemOf μ a1) 3)), (2, zi (mm_itemOf μ a1)), (0, zr 113), (1, zi a1)] [zi (mm_ends (zset (zset μ 115 ((mm_keeps μ) 115)) 114 ((mm_lays (zset μ 115 ((mm_keeps μ) 115)) (mm_itemOf μ a1) (-5)) 114)) (mm_ofItem μ (mm_itemOf μ a1) 3)).1] zSh (mm_ends (zset (zset μ 115 ((mm_keeps μ) 115)) 114 ((mm_lays (zset μ 115 ((mm_keeps μ) 115)) (mm_itemOf μ a1) (-5)) 114)) (mm_ofItem μ (mm_itemOf μ a1) 3)).2 _ _ _ from ?_)
      exact Ez.iret kr_6_empty_48 rfl (Nat.zero_le _) (Nat.zero_le _) rfl rfl
    · rw [if_pos c5]
      refine Az.blk kd_6_empty_29 (show Ez md_6_empty 0 0 31 [(3, zi (mm_ofItem μ (mm_itemOf μ a1) 3)), (2, zi (mm_itemOf μ a1)), (0, zr 113), (1, zi a1)] [zi (-5)] zSh μ _ _ _ from ?_)
      exact Ez.iret kr_6_empty_31 rfl (Nat.zero_le _) (Nat.zero_le _) rfl rfl
  · rw [if_pos c2]
    refine Az.blk kd_6_empty_8 (show Ez md_6_empty 0 0 9 [(0, zr 113), (1, zi a1)] [zi (-1)] zSh μ _ _ _ from ?_)
    exact Ez.iret kr_6_empty_9 rfl (Nat.zero_le _) (Nat.zero_le _) rfl rfl
