theorem xr_isEnding2 (a b : Int) (ha : zR a) (hb : zR b) : xx_isEnding a b = 1 → 0 ≤ a ∧ a ≤ 26 ∧ 0 ≤ b ∧ b ≤ 26 ∧ (a = 0 → b = 0) := by
  unfold xx_isEnding xx_isBelow
  repeat' split
  all_goals omega
def kb_5_addWord_0 : List zI := [(.iload_n 1, 1, 0, 0), (.iconst 3, 1, 0, 0)]
theorem kd_5_addWord_0 : zdec md_5_addWord 0 kb_5_addWord_0 = true := by decide +kernel
theorem kr_5_addWord_2 : decode md_5_addWord.2.1 2 = .ok (.invokestatic 37, 3) := by decide +kernel
def kb_5_addWord_5 : List zI := [(.ifCond .ne 5, 3, 10, 0)]
theorem kd_5_addWord_5 : zdec md_5_addWord 5 kb_5_addWord_5 = true := by decide +kernel
def kb_5_addWord_10 : List zI := [(.iload_n 2, 1, 0, 0), (.iload_n 1, 1, 0, 0), (.ifCond .ne 7, 3, 19, 0)]
theorem kd_5_addWord_10 : zdec md_5_addWord 10 kb_5_addWord_10 = true := by decide +kernel
def kb_5_addWord_19 : List zI := [(.iconst 1, 1, 0, 0)]
theorem kd_5_addWord_19 : zdec md_5_addWord 19 kb_5_addWord_19 = true := by decide +kernel
theorem kr_5_addWord_20 : decode md_5_addWord.2.1 20 = .ok (.invokestatic 37, 3) := by decide +kernel
def kb_5_addWord_23 : List zI := [(.ifCond .ne 6, 3, 29, 0)]
theorem kd_5_addWord_23 : zdec md_5_addWord 23 kb_5_addWord_23 = true := by decide +kernel
def kb_5_addWord_29 : List zI := [(.aload_n 0, 1, 0, 0), (.getfield 12, 3, 5, 0)]
theorem kd_5_addWord_29 : zdec md_5_addWord 29 kb_5_addWord_29 = true := by decide +kernel
theorem kr_5_addWord_33 : decode md_5_addWord.2.1 33 = .ok (.invokevirtual 41, 3) := by decide +kernel
def kb_5_addWord_36 : List zI := [(.istore_n 3, 1, 0, 0), (.iload_n 3, 1, 0, 0), (.iconst (-1), 1, 0, 0), (.if_icmp .eq 8, 3, 47, 0)]
theorem kd_5_addWord_36 : zdec md_5_addWord 36 kb_5_addWord_36 = true := by decide +kernel
def kb_5_addWord_47 : List zI := [(.aload_n 0, 1, 0, 0), (.getfield 19, 3, 5, 1), (.getfield 45, 3, 1, 0), (.getfield 49, 3, 4, 0), (.bipush 24, 2, 0, 0), (.if_icmp .lt 6, 3, 65, 0)]
theorem kd_5_addWord_47 : zdec md_5_addWord 47 kb_5_addWord_47 = true := by decide +kernel
def kb_5_addWord_65 : List zI := [(.aload_n 0, 1, 0, 0), (.getfield 29, 3, 5, 3), (.aload_n 0, 1, 0, 0), (.getfield 19, 3, 5, 1)]
theorem kd_5_addWord_65 : zdec md_5_addWord 65 kb_5_addWord_65 = true := by decide +kernel
theorem kr_5_addWord_73 : decode md_5_addWord.2.1 73 = .ok (.invokevirtual 55, 3) := by decide +kernel
def kb_5_addWord_76 : List zI := [(.aload_n 0, 1, 0, 0), (.getfield 19, 3, 5, 1), (.getfield 45, 3, 1, 0), (.iload_n 1, 1, 0, 0), (.iload_n 2, 1, 0, 0), (.aload_n 0, 1, 0, 0), (.getfield 12, 3, 5, 0)]
theorem kd_5_addWord_76 : zdec md_5_addWord 76 kb_5_addWord_76 = true := by decide +kernel
theorem kr_5_addWord_89 : decode md_5_addWord.2.1 89 = .ok (.invokevirtual 59, 3) := by decide +kernel
def kb_5_addWord_92 : List zI := [(.aload_n 0, 1, 0, 0), (.getfield 19, 3, 5, 1), (.getfield 45, 3, 1, 0), (.getfield 49, 3, 4, 0), (.iconst 1, 1, 0, 0), (.isub, 1, 0, 0)]
theorem kd_5_addWord_92 : zdec md_5_addWord 92 kb_5_addWord_92 = true := by decide +kernel
theorem kr_5_addWord_104 : decode md_5_addWord.2.1 104 = .ok (.ireturn, 1) := by decide +kernel
def kb_5_addWord_62 : List zI := [(.bipush (-3), 2, 0, 0)]
theorem kd_5_addWord_62 : zdec md_5_addWord 62 kb_5_addWord_62 = true := by decide +kernel
theorem kr_5_addWord_64 : decode md_5_addWord.2.1 64 = .ok (.ireturn, 1) := by decide +kernel
def kb_5_addWord_42 : List zI := [(.bipush (-100), 2, 0, 0), (.iload_n 3, 1, 0, 0), (.isub, 1, 0, 0)]
theorem kd_5_addWord_42 : zdec md_5_addWord 42 kb_5_addWord_42 = true := by decide +kernel
theorem kr_5_addWord_46 : decode md_5_addWord.2.1 46 = .ok (.ireturn, 1) := by decide +kernel
def kb_5_addWord_26 : List zI := [(.bipush (-2), 2, 0, 0)]
theorem kd_5_addWord_26 : zdec md_5_addWord 26 kb_5_addWord_26 = true := by decide +kernel
theorem kr_5_addWord_28 : decode md_5_addWord.2.1 28 = .ok (.ireturn, 1) := by decide +kernel
def kb_5_addWord_15 : List zI := [(.iconst 3, 1, 0, 0), (.goto 4, 3, 20, 0)]
theorem kd_5_addWord_15 : zdec md_5_addWord 15 kb_5_addWord_15 = true := by decide +kernel
def kb_5_addWord_8 : List zI := [(.iconst (-1), 1, 0, 0)]
theorem kd_5_addWord_8 : zdec md_5_addWord 8 kb_5_addWord_8 = true := by decide +kernel
theorem kr_5_addWord_9 : decode md_5_addWord.2.1 9 = .ok (.ireturn, 1) := by decide +kernel
noncomputable def xx_addWord (μ : zM) (a1 a2 : Int) : Int × zM := (if (xx_isBelow a1 3) = 0 then ((-1), μ) else (if a1 = 0 then (if (xx_isBelow a2 3) = 0 then ((-2), μ) else (if (xx_faultAsStem μ) = (-1) then (if (μ 4 0) < 24 then ((((xx_learn (xx_record μ) a1 a2) 4 0) - 1), (xx_learn (xx_record μ) a1 a2)) else ((-3), μ)) else (((-100) - (xx_faultAsStem μ)), μ))) else (if (xx_isBelow a2 1) = 0 then ((-2), μ) else (if (xx_faultAsStem μ) = (-1) then (if (μ 4 0) < 24 then ((((xx_learn (xx_record μ) a1 a2) 4 0) - 1), (xx_learn (xx_record μ) a1 a2)) else ((-3), μ)) else (((-100) - (xx_faultAsStem μ)), μ)))))
set_option maxHeartbeats 4000000 in
set_option maxRecDepth 100000 in
theorem xb_addWord {μ : zM} (hB : zB μ) (a1 a2 : Int) (h0 : ((μ 40 0) = 41 ∨ (μ 40 0) = 59 ∨ (μ 40 0) = 77 ∨ (μ 40 0) = 95) ∧ ((μ 40 1) = 41 ∨ (μ 40 1) = 59 ∨ (μ 40 1) = 77 ∨ (μ 40 1) = 95) ∧ ((μ 40 2) = 41 ∨ (μ 40 2) = 59 ∨ (μ 40 2) = 77 ∨ (μ 40 2) = 95) ∧ ((μ 40 3) = 41 ∨ (μ 40 3) = 59 ∨ (μ 40 3) = 77 ∨ (μ 40 3) = 95) ∧ ¬ (μ 40 0) = (μ 40 1) ∧ ¬ (μ 40 0) = (μ 40 2) ∧ ¬ (μ 40 0) = (μ 40 3) ∧ ¬ (μ 40 1) = (μ 40 2) ∧ ¬ (μ 40 1) = (μ 40 3) ∧ ¬ (μ 40 2) = (μ 40 3)) (h1 : -2147483648 ≤ a1 ∧ a1 ≤ 2147483647) (h2 : -2147483648 ≤ a2 ∧ a2 ≤ 2147483647) : zB (xx_addWord μ a1 a2).2 := by
  unfold xx_addWord
  have r1 : 0 ≤ (xx_isBelow a1 3) ∧ (xx_isBelow a1 3) ≤ 1 ∧ ((xx_isBelow a1 3) = 1 → 0 ≤ a1 ∧ a1 < (3 : Int)) := xr_isBelow a1 3 (by omega) (by omega)
  by_cases c2 : (xx_isBelow a1 3) = 0
  · rw [if_pos c2]
    exact hB
  · rw [if_neg c2]
    by_cases c3 : a1 = 0
    · rw [if_pos c3]
      have r11 : 0 ≤ (xx_isBelow a2 3) ∧ (xx_isBelow a2 3) ≤ 1 ∧ ((xx_isBelow a2 3) = 1 → 0 ≤ a2 ∧ a2 < (3 : Int)) := xr_isBelow a2 3 (by omega) (by omega)
      by_cases c12 : (xx_isBelow a2 3) = 0
      · rw [if_pos c12]
        exact hB
      · rw [if_neg c12]
        have r13 : -1 ≤ (xx_faultAsStem μ) ∧ (xx_faultAsStem μ) ≤ 8 := xr_faultAsStem hB
        by_cases c14 : (xx_faultAsStem μ) = (-1)
        · rw [if_pos c14]
          have b15 : 0 ≤ (μ 4 0) ∧ (μ 4 0) ≤ 24 := hB 4 0
          by_cases c16 : (μ 4 0) < 24
          · rw [if_pos c16]
            have b17 : 0 ≤ ((xx_learn (xx_record μ) a1 a2) 4 0) ∧ ((xx_learn (xx_record μ) a1 a2) 4 0) ≤ 24 := (xb_learn (xb_record hB h0) a1 a2 (by omega) (by omega)) 4 0
            exact (xb_learn (xb_record hB h0) a1 a2 (by omega) (by omega))
          · rw [if_neg c16]
            exact hB
        · rw [if_neg c14]
          exact hB
    · rw [if_neg c3]
      have r4 : 0 ≤ (xx_isBelow a2 1) ∧ (xx_isBelow a2 1) ≤ 1 ∧ ((xx_isBelow a2 1) = 1 → 0 ≤ a2 ∧ a2 < (1 : Int)) := xr_isBelow a2 1 (by omega) (by omega)
      by_cases c5 : (xx_isBelow a2 1) = 0
      · rw [if_pos c5]
        exact hB
      · rw [if_neg c5]
        have r6 : -1 ≤ (xx_faultAsStem μ) ∧ (xx_faultAsStem μ) ≤ 8 := xr_faultAsStem hB
        by_cases c7 : (xx_faultAsStem μ) = (-1)
        · rw [if_pos c7]
          have b8 : 0 ≤ (μ 4 0) ∧ (μ 4 0) ≤ 24 := hB 4 0
          by_cases c9 : (μ 4 0) < 24
          · rw [if_pos c9]
            have b10 : 0 ≤ ((xx_learn (xx_record μ) a1 a2) 4 0) ∧ ((xx_learn (xx_record μ) a1 a2) 4 0) ≤ 24 := (xb_learn (xb_record hB h0) a1 a2 (by omega) (by omega)) 4 0
            exact (xb_learn (xb_record hB h0) a1 a2 (by omega) (by omega))
          · rw [if_neg c9]
            exact hB
        · rw [if_neg c7]
          exact hB
set_option maxHeartbeats 4000000 in
set_option maxRecDepth 100000 in
theorem xz_addWord {μ : zM} (hB : zB μ) (a1 a2 : Int) (h0 : ((μ 40 0) = 41 ∨ (μ 40 0) = 59 ∨ (μ 40 0) = 77 ∨ (μ 40 0) = 95) ∧ ((μ 40 1) = 41 ∨ (μ 40 1) = 59 ∨ (μ 40 1) = 77 ∨ (μ 40 1) = 95) ∧ ((μ 40 2) = 41 ∨ (μ 40 2) = 59 ∨ (μ 40 2) = 77 ∨ (μ 40 2) = 95) ∧ ((μ 40 3) = 41 ∨ (μ 40 3) = 59 ∨ (μ 40 3) = 77 ∨ (μ 40 3) = 95) ∧ ¬ (μ 40 0) = (μ 40 1) ∧ ¬ (μ 40 0) = (μ 40 2) ∧ ¬ (μ 40 0) = (μ 40 3) ∧ ¬ (μ 40 1) = (μ 40 2) ∧ ¬ (μ 40 1) = (μ 40 3) ∧ ¬ (μ 40 2) = (μ 40 3)) (h1 : -2147483648 ≤ a1 ∧ a1 ≤ 2147483647) (h2 : -2147483648 ≤ a2 ∧ a2 ≤ 2147483647) : Dz md_5_addWord [zr 0, zi a1, zi a2] zSh μ (some (zi (xx_addWord μ a1 a2).1)) zSh (xx_addWord μ a1 a2).2 := by
  refine Dz.of (by decide) rfl rfl (show Ez md_5_addWord 0 0 0 [(0, zr 0), (1, zi a1), (2, zi a2)] [] zSh μ (some (zi (xx_addWord μ a1 a2).1)) zSh (xx_addWord μ a1 a2).2 from ?_)
  unfold xx_addWord
  refine Az.blk kd_5_addWord_0 (show Ez md_5_addWord 0 0 2 [(0, zr 0), (1, zi a1), (2, zi a2)] [zi 3, zi a1] zSh μ _ _ _ from ?_)
  refine Az.cS (mc := md_5_isBelow) (n := 2) (As := [zi a1, zi 3]) (rest := []) kr_5_addWord_2 zw_422 ok_5_isBelow rfl rfl (xz_isBelow a1 3 (by omega) (by omega)) rfl rfl (show Ez md_5_addWord 0 0 5 [(0, zr 0), (1, zi a1), (2, zi a2)] [zi (xx_isBelow a1 3)] zSh μ _ _ _ from ?_)
  have r1 : 0 ≤ (xx_isBelow a1 3) ∧ (xx_isBelow a1 3) ≤ 1 ∧ ((xx_isBelow a1 3) = 1 → 0 ≤ a1 ∧ a1 < (3 : Int)) := xr_isBelow a1 3 (by omega) (by omega)
  refine Az.blk kd_5_addWord_5 (show zR (xx_isBelow a1 3) ∧ ((¬ (xx_isBelow a1 3) = 0 → Ez md_5_addWord 0 0 10 [(0, zr 0), (1, zi a1), (2, zi a2)] [] zSh μ _ _ _) ∧ ((xx_isBelow a1 3) = 0 → Ez md_5_addWord 0 0 8 [(0, zr 0), (1, zi a1), (2, zi a2)] [] zSh μ _ _ _)) from ⟨(by omega), fun c2 => ?_, fun c2 => ?_⟩)
  · rw [if_neg c2]
    refine Az.blk kd_5_addWord_10 (show zR a1 ∧ ((¬ a1 = 0 → Ez md_5_addWord 0 0 19 [(0, zr 0), (1, zi a1), (2, zi a2)] [zi a2] zSh μ _ _ _) ∧ (a1 = 0 → Ez md_5_addWord 0 0 15 [(0, zr 0), (1, zi a1), (2, zi a2)] [zi a2] zSh μ _ _ _)) from ⟨(by omega), fun c3 => ?_, fun c3 => ?_⟩)
    · rw [if_neg c3]
      refine Az.blk kd_5_addWord_19 (show Ez md_5_addWord 0 0 20 [(0, zr 0), (1, zi a1), (2, zi a2)] [zi 1, zi a2] zSh μ _ _ _ from ?_)
      refine Az.cS (mc := md_5_isBelow) (n := 2) (As := [zi a2, zi 1]) (rest := []) kr_5_addWord_20 zw_422 ok_5_isBelow rfl rfl (xz_isBelow a2 1 (by omega) (by omega)) rfl rfl (show Ez md_5_addWord 0 0 23 [(0, zr 0), (1, zi a1), (2, zi a2)] [zi (xx_isBelow a2 1)] zSh μ _ _ _ from ?_)
      have r4 : 0 ≤ (xx_isBelow a2 1) ∧ (xx_isBelow a2 1) ≤ 1 ∧ ((xx_isBelow a2 1) = 1 → 0 ≤ a2 ∧ a2 < (1 : Int)) := xr_isBelow a2 1 (by omega) (by omega)
      refine Az.blk kd_5_addWord_23 (show zR (xx_isBelow a2 1) ∧ ((¬ (xx_isBelow a2 1) = 0 → Ez md_5_addWord 0 0 29 [(0, zr 0), (1, zi a1), (2, zi a2)] [] zSh μ _ _ _) ∧ ((xx_isBelow a2 1) = 0 → Ez md_5_addWord 0 0 26 [(0, zr 0), (1, zi a1), (2, zi a2)] [] zSh μ _ _ _)) from ⟨(by omega), fun c5 => ?_, fun c5 => ?_⟩)
      · rw [if_neg c5]
        refine Az.blk kd_5_addWord_29 (show Ez md_5_addWord 0 0 33 [(0, zr 0), (1, zi a1), (2, zi a2)] [zr 1] zSh μ _ _ _ from ?_)
        refine Az.cVN (mc := md_3_faultAsStem) (k := 1) (n := 0) (As := []) (rest := []) kr_5_addWord_33 zw_238 ok_3_faultAsStem rfl rfl rfl trivial (xz_faultAsStem hB) rfl rfl (show Ez md_5_addWord 0 0 36 [(0, zr 0), (1, zi a1), (2, zi a2)] [zi (xx_faultAsStem μ)] zSh μ _ _ _ from ?_)
        have r6 : -1 ≤ (xx_faultAsStem μ) ∧ (xx_faultAsStem μ) ≤ 8 := xr_faultAsStem hB
        refine Az.blk kd_5_addWord_36 (show zR (xx_faultAsStem μ) ∧ zR (-1) ∧ (((xx_faultAsStem μ) = (-1) → Ez md_5_addWord 0 0 47 [(3, zi (xx_faultAsStem μ)), (0, zr 0), (1, zi a1), (2, zi a2)] [] zSh μ _ _ _) ∧ (¬ (xx_faultAsStem μ) = (-1) → Ez md_5_addWord 0 0 42 [(3, zi (xx_faultAsStem μ)), (0, zr 0), (1, zi a1), (2, zi a2)] [] zSh μ _ _ _)) from ⟨(by omega), (by omega), fun c7 => ?_, fun c7 => ?_⟩)
        · rw [if_pos c7]
          have b8 : 0 ≤ (μ 4 0) ∧ (μ 4 0) ≤ 24 := hB 4 0
          refine Az.blk kd_5_addWord_47 (show zR (μ 4 0) ∧ zR 24 ∧ (((μ 4 0) < 24 → Ez md_5_addWord 0 0 65 [(3, zi (xx_faultAsStem μ)), (0, zr 0), (1, zi a1), (2, zi a2)] [] zSh μ _ _ _) ∧ (¬ (μ 4 0) < 24 → Ez md_5_addWord 0 0 62 [(3, zi (xx_faultAsStem μ)), (0, zr 0), (1, zi a1), (2, zi a2)] [] zSh μ _ _ _)) from ⟨(by omega), (by omega), fun c9 => ?_, fun c9 => ?_⟩)
          · rw [if_pos c9]
            refine Az.blk kd_5_addWord_65 (show Ez md_5_addWord 0 0 73 [(3, zi (xx_faultAsStem μ)), (0, zr 0), (1, zi a1), (2, zi a2)] [zr 3, zr 39] zSh μ _ _ _ from ?_)
            refine Az.cVN (mc := md_0_record) (k := 39) (n := 1) (As := [zr 3]) (rest := []) kr_5_addWord_73 zw_246 ok_0_record rfl rfl rfl trivial (xz_record hB h0) rfl rfl (show Ez md_5_addWord 0 0 76 [(3, zi (xx_faultAsStem μ)), (0, zr 0), (1, zi a1), (2, zi a2)] [] zSh (xx_record μ) _ _ _ from ?_)
            refine Az.blk kd_5_addWord_76 (show Ez md_5_addWord 0 0 89 [(3, zi (xx_faultAsStem μ)), (0, zr 0), (1, zi a1), (2, zi a2)] [zr 1, zi a2, zi a1, zr 4] zSh (xx_record μ) _ _ _ from ?_)
            refine Az.cVN (mc := md_4_learn) (k := 4) (n := 3) (As := [zi a1, zi a2, zr 1]) (rest := []) kr_5_addWord_89 zw_423 ok_4_learn rfl rfl rfl trivial (xz_learn (xb_record hB h0) a1 a2 (by omega) (by omega)) rfl rfl (show Ez md_5_addWord 0 0 92 [(3, zi (xx_faultAsStem μ)), (0, zr 0), (1, zi a1), (2, zi a2)] [] zSh (xx_learn (xx_record μ) a1 a2) _ _ _ from ?_)
            have b10 : 0 ≤ ((xx_learn (xx_record μ) a1 a2) 4 0) ∧ ((xx_learn (xx_record μ) a1 a2) 4 0) ≤ 24 := (xb_learn (xb_record hB h0) a1 a2 (by omega) (by omega)) 4 0
            refine Az.blk kd_5_addWord_92 (show Ez md_5_addWord 0 0 104 [(3, zi (xx_faultAsStem μ)), (0, zr 0), (1, zi a1), (2, zi a2)] [zi (((xx_learn (xx_record μ) a1 a2) 4 0) - 1)] zSh (xx_learn (xx_record μ) a1 a2) _ _ _ from ?_)
            exact Ez.iret kr_5_addWord_104 rfl (Nat.zero_le _) (Nat.zero_le _) rfl rfl
          · rw [if_neg c9]
            refine Az.blk kd_5_addWord_62 (show Ez md_5_addWord 0 0 64 [(3, zi (xx_faultAsStem μ)), (0, zr 0), (1, zi a1), (2, zi a2)] [zi (-3)] zSh μ _ _ _ from ?_)
            exact Ez.iret kr_5_addWord_64 rfl (Nat.zero_le _) (Nat.zero_le _) rfl rfl
        · rw [if_neg c7]
          refine Az.blk kd_5_addWord_42 (show Ez md_5_addWord 0 0 46 [(3, zi (xx_faultAsStem μ)), (0, zr 0), (1, zi a1), (2, zi a2)] [zi ((-100) - (xx_faultAsStem μ))] zSh μ _ _ _ from ?_)
          exact Ez.iret kr_5_addWord_46 rfl (Nat.zero_le _) (Nat.zero_le _) rfl rfl
      · rw [if_pos c5]
        refine Az.blk kd_5_addWord_26 (show Ez md_5_addWord 0 0 28 [(0, zr 0), (1, zi a1), (2, zi a2)] [zi (-2)] zSh μ _ _ _ from ?_)
        exact Ez.iret kr_5_addWord_28 rfl (Nat.zero_le _) (Nat.zero_le _) rfl rfl
    · rw [if_pos c3]
      refine Az.blk kd_5_addWord_15 (show Ez md_5_addWord 0 0 20 [(0, zr 0), (1, zi a1), (2, zi a2)] [zi 3, zi a2] zSh μ _ _ _ from ?_)
      refine Az.cS (mc := md_5_isBelow) (n := 2) (As := [zi a2, zi 3]) (rest := []) kr_5_addWord_20 zw_422 ok_5_isBelow rfl rfl (xz_isBelow a2 3 (by omega) (by omega)) rfl rfl (show Ez md_5_addWord 0 0 23 [(0, zr 0), (1, zi a1), (2, zi a2)] [zi (xx_isBelow a2 3)] zSh μ _ _ _ from ?_)
      have r11 : 0 ≤ (xx_isBelow a2 3) ∧ (xx_isBelow a2 3) ≤ 1 ∧ ((xx_isBelow a2 3) = 1 → 0 ≤ a2 ∧ a2 < (3 : Int)) := xr_isBelow a2 3 (by omega) (by omega)
      refine Az.blk kd_5_addWord_23 (show zR (xx_isBelow a2 3) ∧ ((¬ (xx_isBelow a2 3) = 0 → Ez md_5_addWord 0 0 29 [(0, zr 0), (1, zi a1), (2, zi a2)] [] zSh μ _ _ _) ∧ ((xx_isBelow a2 3) = 0 → Ez md_5_addWord 0 0 26 [(0, zr 0), (1, zi a1), (2, zi a2)] [] zSh μ _ _ _)) from ⟨(by omega), fun c12 => ?_, fun c12 => ?_⟩)
      · rw [if_neg c12]
        refine Az.blk kd_5_addWord_29 (show Ez md_5_addWord 0 0 33 [(0, zr 0), (1, zi a1), (2, zi a2)] [zr 1] zSh μ _ _ _ from ?_)
        refine Az.cVN (mc := md_3_faultAsStem) (k := 1) (n := 0) (As := []) (rest := []) kr_5_addWord_33 zw_238 ok_3_faultAsStem rfl rfl rfl trivial (xz_faultAsStem hB) rfl rfl (show Ez md_5_addWord 0 0 36 [(0, zr 0), (1, zi a1), (2, zi a2)] [zi (xx_faultAsStem μ)] zSh μ _ _ _ from ?_)
        have r13 : -1 ≤ (xx_faultAsStem μ) ∧ (xx_faultAsStem μ) ≤ 8 := xr_faultAsStem hB
        refine Az.blk kd_5_addWord_36 (show zR (xx_faultAsStem μ) ∧ zR (-1) ∧ (((xx_faultAsStem μ) = (-1) → Ez md_5_addWord 0 0 47 [(3, zi (xx_faultAsStem μ)), (0, zr 0), (1, zi a1), (2, zi a2)] [] zSh μ _ _ _) ∧ (¬ (xx_faultAsStem μ) = (-1) → Ez md_5_addWord 0 0 42 [(3, zi (xx_faultAsStem μ)), (0, zr 0), (1, zi a1), (2, zi a2)] [] zSh μ _ _ _)) from ⟨(by omega), (by omega), fun c14 => ?_, fun c14 => ?_⟩)
        · rw [if_pos c14]
          have b15 : 0 ≤ (μ 4 0) ∧ (μ 4 0) ≤ 24 := hB 4 0
          refine Az.blk kd_5_addWord_47 (show zR (μ 4 0) ∧ zR 24 ∧ (((μ 4 0) < 24 → Ez md_5_addWord 0 0 65 [(3, zi (xx_faultAsStem μ)), (0, zr 0), (1, zi a1), (2, zi a2)] [] zSh μ _ _ _) ∧ (¬ (μ 4 0) < 24 → Ez md_5_addWord 0 0 62 [(3, zi (xx_faultAsStem μ)), (0, zr 0), (1, zi a1), (2, zi a2)] [] zSh μ _ _ _)) from ⟨(by omega), (by omega), fun c16 => ?_, fun c16 => ?_⟩)
          · rw [if_pos c16]
            refine Az.blk kd_5_addWord_65 (show Ez md_5_addWord 0 0 73 [(3, zi (xx_faultAsStem μ)), (0, zr 0), (1, zi a1), (2, zi a2)] [zr 3, zr 39] zSh μ _ _ _ from ?_)
            refine Az.cVN (mc := md_0_record) (k := 39) (n := 1) (As := [zr 3]) (rest := []) kr_5_addWord_73 zw_246 ok_0_record rfl rfl rfl trivial (xz_record hB h0) rfl rfl (show Ez md_5_addWord 0 0 76 [(3, zi (xx_faultAsStem μ)), (0, zr 0), (1, zi a1), (2, zi a2)] [] zSh (xx_record μ) _ _ _ from ?_)
            refine Az.blk kd_5_addWord_76 (show Ez md_5_addWord 0 0 89 [(3, zi (xx_faultAsStem μ)), (0, zr 0), (1, zi a1), (2, zi a2)] [zr 1, zi a2, zi a1, zr 4] zSh (xx_record μ) _ _ _ from ?_)
            refine Az.cVN (mc := md_4_learn) (k := 4) (n := 3) (As := [zi a1, zi a2, zr 1]) (rest := []) kr_5_addWord_89 zw_423 ok_4_learn rfl rfl rfl trivial (xz_learn (xb_record hB h0) a1 a2 (by omega) (by omega)) rfl rfl (show Ez md_5_addWord 0 0 92 [(3, zi (xx_faultAsStem μ)), (0, zr 0), (1, zi a1), (2, zi a2)] [] zSh (xx_learn (xx_record μ) a1 a2) _ _ _ from ?_)
            have b17 : 0 ≤ ((xx_learn (xx_record μ) a1 a2) 4 0) ∧ ((xx_learn (xx_record μ) a1 a2) 4 0) ≤ 24 := (xb_learn (xb_record hB h0) a1 a2 (by omega) (by omega)) 4 0
            refine Az.blk kd_5_addWord_92 (show Ez md_5_addWord 0 0 104 [(3, zi (xx_faultAsStem μ)), (0, zr 0), (1, zi a1), (2, zi a2)] [zi (((xx_learn (xx_record μ) a1 a2) 4 0) - 1)] zSh (xx_learn (xx_record μ) a1 a2) _ _ _ from ?_)
            exact Ez.iret kr_5_addWord_104 rfl (Nat.zero_le _) (Nat.zero_le _) rfl rfl
          · rw [if_neg c16]
            refine Az.blk kd_5_addWord_62 (show Ez md_5_addWord 0 0 64 [(3, zi (xx_faultAsStem μ)), (0, zr 0), (1, zi a1), (2, zi a2)] [zi (-3)] zSh μ _ _ _ from ?_)
            exact Ez.iret kr_5_addWord_64 rfl (Nat.zero_le _) (Nat.zero_le _) rfl rfl
        · rw [if_neg c14]
          refine Az.blk kd_5_addWord_42 (show Ez md_5_addWord 0 0 46 [(3, zi (xx_faultAsStem μ)), (0, zr 0), (1, zi a1), (2, zi a2)] [zi ((-100) - (xx_faultAsStem μ))] zSh μ _ _ _ from ?_)
          exact Ez.iret kr_5_addWord_46 rfl (Nat.zero_le _) (Nat.zero_le _) rfl rfl
      · rw [if_pos c12]
        refine Az.blk kd_5_addWord_26 (show Ez md_5_addWord 0 0 28 [(0, zr 0), (1, zi a1), (2, zi a2)] [zi (-2)] zSh μ _ _ _ from ?_)
        exact Ez.iret kr_5_addWord_28 rfl (Nat.zero_le _) (Nat.zero_le _) rfl rfl
  · rw [if_pos c2]
    refine Az.blk kd_5_addWord_8 (show Ez md_5_addWord 0 0 9 [(0, zr 0), (1, zi a1), (2, zi a2)] [zi (-1)] zSh μ _ _ _ from ?_)
    exact Ez.iret kr_5_addWord_9 rfl (Nat.zero_le _) (Nat.zero_le _) rfl rfl
def kb_5_setEnding_0 : List zI := [(.iload_n 1, 1, 0, 0), (.iconst 3, 1, 0, 0)]
theorem kd_5_setEnding_0 : zdec md_5_setEnding 0 kb_5_setEnding_0 = true := by decide +kernel
theorem kr_5_setEnding_2 : decode md_5_setEnding.2.1 2 = .ok (.invokestatic 37, 3) := by decide +kernel
def kb_5_setEnding_5 : List zI := [(.ifCond .ne 5, 3, 10, 0)]
theorem kd_5_setEnding_5 : zdec md_5_setEnding 5 kb_5_setEnding_5 = true := by decide +kernel
def kb_5_setEnding_10 : List zI := [(.iload_n 2, 1, 0, 0), (.bipush 6, 2, 0, 0)]
theorem kd_5_setEnding_10 : zdec md_5_setEnding 10 kb_5_setEnding_10 = true := by decide +kernel
theorem kr_5_setEnding_13 : decode md_5_setEnding.2.1 13 = .ok (.invokestatic 37, 3) := by decide +kernel
def kb_5_setEnding_16 : List zI := [(.ifCond .eq 12, 3, 28, 0)]
theorem kd_5_setEnding_16 : zdec md_5_setEnding 16 kb_5_setEnding_16 = true := by decide +kernel
def kb_5_setEnding_28 : List zI := [(.bipush (-2), 2, 0, 0)]
theorem kd_5_setEnding_28 : zdec md_5_setEnding 28 kb_5_setEnding_28 = true := by decide +kernel
theorem kr_5_setEnding_30 : decode md_5_setEnding.2.1 30 = .ok (.ireturn, 1) := by decide +kernel
def kb_5_setEnding_19 : List zI := [(.iload_n 3, 1, 0, 0), (.iload 4, 2, 0, 0)]
theorem kd_5_setEnding_19 : zdec md_5_setEnding 19 kb_5_setEnding_19 = true := by decide +kernel
theorem kr_5_setEnding_22 : decode md_5_setEnding.2.1 22 = .ok (.invokestatic 63, 3) := by decide +kernel
def kb_5_setEnding_25 : List zI := [(.ifCond .ne 6, 3, 31, 0)]
theorem kd_5_setEnding_25 : zdec md_5_setEnding 25 kb_5_setEnding_25 = true := by decide +kernel
def kb_5_setEnding_31 : List zI := [(.aload_n 0, 1, 0, 0), (.getfield 19, 3, 5, 1), (.getfield 45, 3, 1, 0), (.iload_n 1, 1, 0, 0), (.iload_n 2, 1, 0, 0)]
theorem kd_5_setEnding_31 : zdec md_5_setEnding 31 kb_5_setEnding_31 = true := by decide +kernel
theorem kr_5_setEnding_40 : decode md_5_setEnding.2.1 40 = .ok (.invokevirtual 66, 3) := by decide +kernel
def kb_5_setEnding_43 : List zI := [(.istore 5, 2, 0, 0), (.bipush 27, 2, 0, 0), (.iload_n 3, 1, 0, 0), (.imul, 1, 0, 0), (.iload 4, 2, 0, 0), (.iadd, 1, 0, 0), (.istore 6, 2, 0, 0), (.iload 6, 2, 0, 0), (.iload 5, 2, 0, 0), (.if_icmp .ne 6, 3, 64, 0)]
theorem kd_5_setEnding_43 : zdec md_5_setEnding 43 kb_5_setEnding_43 = true := by decide +kernel
def kb_5_setEnding_64 : List zI := [(.aload_n 0, 1, 0, 0), (.getfield 29, 3, 5, 3), (.aload_n 0, 1, 0, 0), (.getfield 19, 3, 5, 1)]
theorem kd_5_setEnding_64 : zdec md_5_setEnding 64 kb_5_setEnding_64 = true := by decide +kernel
theorem kr_5_setEnding_72 : decode md_5_setEnding.2.1 72 = .ok (.invokevirtual 55, 3) := by decide +kernel
def kb_5_setEnding_75 : List zI := [(.aload_n 0, 1, 0, 0), (.getfield 19, 3, 5, 1), (.getfield 45, 3, 1, 0), (.iload_n 1, 1, 0, 0), (.iload_n 2, 1, 0, 0), (.iload 6, 2, 0, 0)]
theorem kd_5_setEnding_75 : zdec md_5_setEnding 75 kb_5_setEnding_75 = true := by decide +kernel
theorem kr_5_setEnding_86 : decode md_5_setEnding.2.1 86 = .ok (.invokevirtual 70, 3) := by decide +kernel
def kb_5_setEnding_89 : List zI := [(.iload 5, 2, 0, 0)]
theorem kd_5_setEnding_89 : zdec md_5_setEnding 89 kb_5_setEnding_89 = true := by decide +kernel
theorem kr_5_setEnding_91 : decode md_5_setEnding.2.1 91 = .ok (.ireturn, 1) := by decide +kernel
def kb_5_setEnding_61 : List zI := [(.bipush (-5), 2, 0, 0)]
theorem kd_5_setEnding_61 : zdec md_5_setEnding 61 kb_5_setEnding_61 = true := by decide +kernel
theorem kr_5_setEnding_63 : decode md_5_setEnding.2.1 63 = .ok (.ireturn, 1) := by decide +kernel
def kb_5_setEnding_8 : List zI := [(.iconst (-1), 1, 0, 0)]
theorem kd_5_setEnding_8 : zdec md_5_setEnding 8 kb_5_setEnding_8 = true := by decide +kernel
theorem kr_5_setEnding_9 : decode md_5_setEnding.2.1 9 = .ok (.ireturn, 1) := by decide +kernel
noncomputable def xx_setEnding (μ : zM) (a1 a2 a3 a4 : Int) : Int × zM := (if (xx_isBelow a1 3) = 0 then ((-1), μ) else (if (xx_isBelow a2 6) = 0 then ((-2), μ) else (if (xx_isEnding a3 a4) = 0 then ((-2), μ) else (if ((27 * a3) + a4) = (xx_endingOf μ a1 a2) then ((-5), μ) else ((xx_endingOf μ a1 a2), (xx_changeEnding (xx_record μ) a1 a2 ((27 * a3) + a4)))))))
set_option maxHeartbeats 4000000 in
set_option maxRecDepth 100000 in
theorem xb_setEnding {μ : zM} (hB : zB μ) (a1 a2 a3 a4 : Int) (h0 : ((μ 40 0) = 41 ∨ (μ 40 0) = 59 ∨ (μ 40 0) = 77 ∨ (μ 40 0) = 95) ∧ ((μ 40 1) = 41 ∨ (μ 40 1) = 59 ∨ (μ 40 1) = 77 ∨ (μ 40 1) = 95) ∧ ((μ 40 2) = 41 ∨ (μ 40 2) = 59 ∨ (μ 40 2) = 77 ∨ (μ 40 2) = 95) ∧ ((μ 40 3) = 41 ∨ (μ 40 3) = 59 ∨ (μ 40 3) = 77 ∨ (μ 40 3) = 95) ∧ ¬ (μ 40 0) = (μ 40 1) ∧ ¬ (μ 40 0) = (μ 40 2) ∧ ¬ (μ 40 0) = (μ 40 3) ∧ ¬ (μ 40 1) = (μ 40 2) ∧ ¬ (μ 40 1) = (μ 40 3) ∧ ¬ (μ 40 2) = (μ 40 3)) (h1 : -2147483648 ≤ a1 ∧ a1 ≤ 2147483647) (h2 : -2147483648 ≤ a2 ∧ a2 ≤ 2147483647) (h3 : -2147483648 ≤ a3 ∧ a3 ≤ 2147483647) (h4 : -2147483648 ≤ a4 ∧ a4 ≤ 2147483647) : zB (xx_setEnding μ a1 a2 a3 a4).2 := by
  unfold xx_setEnding
  have r1 : 0 ≤ (xx_isBelow a1 3) ∧ (xx_isBelow a1 3) ≤ 1 ∧ ((xx_isBelow a1 3) = 1 → 0 ≤ a1 ∧ a1 < (3 : Int)) := xr_isBelow a1 3 (by omega) (by omega)
  by_cases c2 : (xx_isBelow a1 3) = 0
  · rw [if_pos c2]
    exact hB
  · rw [if_neg c2]
    have r3 : 0 ≤ (xx_isBelow a2 6) ∧ (xx_isBelow a2 6) ≤ 1 ∧ ((xx_isBelow a2 6) = 1 → 0 ≤ a2 ∧ a2 < (6 : Int)) := xr_isBelow a2 6 (by omega) (by omega)
    by_cases c4 : (xx_isBelow a2 6) = 0
    · rw [if_pos c4]
      exact hB
    · rw [if_neg c4]
      have r5 : 0 ≤ (xx_isEnding a3 a4) ∧ (xx_isEnding a3 a4) ≤ 1 := xr_isEnding a3 a4 (by omega) (by omega)
      have e9 := xr_isEnding2 a3 a4 (by omega) (by omega)
      by_cases c6 : (xx_isEnding a3 a4) = 0
      · rw [if_pos c6]
        exact hB
      · rw [if_neg c6]
        have r7 : 0 ≤ (xx_endingOf μ a1 a2) ∧ (xx_endingOf μ a1 a2) ≤ 728 := xr_endingOf hB a1 a2 (by omega) (by omega)
        by_cases c8 : ((27 * a3) + a4) = (xx_endingOf μ a1 a2)
        · rw [if_pos c8]
          exact hB
        · rw [if_neg c8]
          exact (xb_changeEnding (xb_record hB h0) a1 a2 ((27 * a3) + a4) (by omega) (by omega) (by omega))
set_option maxHeartbeats 4000000 in
set_option maxRecDepth 100000 in
theorem xz_setEnding {μ : zM} (hB : zB μ) (a1 a2 a3 a4 : Int) (h0 : ((μ 40 0) = 41 ∨ (μ 40 0) = 59 ∨ (μ 40 0) = 77 ∨ (μ 40 0) = 95) ∧ ((μ 40 1) = 41 ∨ (μ 40 1) = 59 ∨ (μ 40 1) = 77 ∨ (μ 40 1) = 95) ∧ ((μ 40 2) = 41 ∨ (μ 40 2) = 59 ∨ (μ 40 2) = 77 ∨ (μ 40 2) = 95) ∧ ((μ 40 3) = 41 ∨ (μ 40 3) = 59 ∨ (μ 40 3) = 77 ∨ (μ 40 3) = 95) ∧ ¬ (μ 40 0) = (μ 40 1) ∧ ¬ (μ 40 0) = (μ 40 2) ∧ ¬ (μ 40 0) = (μ 40 3) ∧ ¬ (μ 40 1) = (μ 40 2) ∧ ¬ (μ 40 1) = (μ 40 3) ∧ ¬ (μ 40 2) = (μ 40 3)) (h1 : -2147483648 ≤ a1 ∧ a1 ≤ 2147483647) (h2 : -2147483648 ≤ a2 ∧ a2 ≤ 2147483647) (h3 : -2147483648 ≤ a3 ∧ a3 ≤ 2147483647) (h4 : -2147483648 ≤ a4 ∧ a4 ≤ 2147483647) : Dz md_5_setEnding [zr 0, zi a1, zi a2, zi a3, zi a4] zSh μ (some (zi (xx_setEnding μ a1 a2 a3 a4).1)) zSh (xx_setEnding μ a1 a2 a3 a4).2 := by
  refine Dz.of (by decide) rfl rfl (show Ez md_5_setEnding 0 0 0 [(0, zr 0), (1, zi a1), (2, zi a2), (3, zi a3), (4, zi a4)] [] zSh μ (some (zi (xx_setEnding μ a1 a2 a3 a4).1)) zSh (xx_setEnding μ a1 a2 a3 a4).2 from ?_)
  unfold xx_setEnding
  refine Az.blk kd_5_setEnding_0 (show Ez md_5_setEnding 0 0 2 [(0, zr 0), (1, zi a1), (2, zi a2), (3, zi a3), (4, zi a4)] [zi 3, zi a1] zSh μ _ _ _ from ?_)
  refine Az.cS (mc := md_5_isBelow) (n := 2) (As := [zi a1, zi 3]) (rest := []) kr_5_setEnding_2 zw_422 ok_5_isBelow rfl rfl (xz_isBelow a1 3 (by omega) (by omega)) rfl rfl (show Ez md_5_setEnding 0 0 5 [(0, zr 0), (1, zi a1), (2, zi a2), (3, zi a3), (4, zi a4)] [zi (xx_isBelow a1 3)] zSh μ _ _ _ from ?_)
  have r1 : 0 ≤ (xx_isBelow a1 3) ∧ (xx_isBelow a1 3) ≤ 1 ∧ ((xx_isBelow a1 3) = 1 → 0 ≤ a1 ∧ a1 < (3 : Int)) := xr_isBelow a1 3 (by omega) (by omega)
  refine Az.blk kd_5_setEnding_5 (show zR (xx_isBelow a1 3) ∧ ((¬ (xx_isBelow a1 3) = 0 → Ez md_5_setEnding 0 0 10 [(0, zr 0), (1, zi a1), (2, zi a2), (3, zi a3), (4, zi a4)] [] zSh μ _ _ _) ∧ ((xx_isBelow a1 3) = 0 → Ez md_5_setEnding 0 0 8 [(0, zr 0), (1, zi a1), (2, zi a2), (3, zi a3), (4, zi a4)] [] zSh μ _ _ _)) from ⟨(by omega), fun c2 => ?_, fun c2 => ?_⟩)
  · rw [if_neg c2]
    refine Az.blk kd_5_setEnding_10 (show Ez md_5_setEnding 0 0 13 [(0, zr 0), (1, zi a1), (2, zi a2), (3, zi a3), (4, zi a4)] [zi 6, zi a2] zSh μ _ _ _ from ?_)
    refine Az.cS (mc := md_5_isBelow) (n := 2) (As := [zi a2, zi 6]) (rest := []) kr_5_setEnding_13 zw_422 ok_5_isBelow rfl rfl (xz_isBelow a2 6 (by omega) (by omega)) rfl rfl (show Ez md_5_setEnding 0 0 16 [(0, zr 0), (1, zi a1), (2, zi a2), (3, zi a3), (4, zi a4)] [zi (xx_isBelow a2 6)] zSh μ _ _ _ from ?_)
    have r3 : 0 ≤ (xx_isBelow a2 6) ∧ (xx_isBelow a2 6) ≤ 1 ∧ ((xx_isBelow a2 6) = 1 → 0 ≤ a2 ∧ a2 < (6 : Int)) := xr_isBelow a2 6 (by omega) (by omega)
    refine Az.blk kd_5_setEnding_16 (show zR (xx_isBelow a2 6) ∧ (((xx_isBelow a2 6) = 0 → Ez md_5_setEnding 0 0 28 [(0, zr 0), (1, zi a1), (2, zi a2), (3, zi a3), (4, zi a4)] [] zSh μ _ _ _) ∧ (¬ (xx_isBelow a2 6) = 0 → Ez md_5_setEnding 0 0 19 [(0, zr 0), (1, zi a1), (2, zi a2), (3, zi a3), (4, zi a4)] [] zSh μ _ _ _)) from ⟨(by omega), fun c4 => ?_, fun c4 => ?_⟩)
    · rw [if_pos c4]
      refine Az.blk kd_5_setEnding_28 (show Ez md_5_setEnding 0 0 30 [(0, zr 0), (1, zi a1), (2, zi a2), (3, zi a3), (4, zi a4)] [zi (-2)] zSh μ _ _ _ from ?_)
      exact Ez.iret kr_5_setEnding_30 rfl (Nat.zero_le _) (Nat.zero_le _) rfl rfl
    · rw [if_neg c4]
      refine Az.blk kd_5_setEnding_19 (show Ez md_5_setEnding 0 0 22 [(0, zr 0), (1, zi a1), (2, zi a2), (3, zi a3), (4, zi a4)] [zi a4, zi a3] zSh μ _ _ _ from ?_)
      refine Az.cS (mc := md_5_isEnding) (n := 2) (As := [zi a3, zi a4]) (rest := []) kr_5_setEnding_22 zw_444 ok_5_isEnding rfl rfl (xz_isEnding a3 a4 (by omega) (by omega)) rfl rfl (show Ez md_5_setEnding 0 0 25 [(0, zr 0), (1, zi a1), (2, zi a2), (3, zi a3), (4, zi a4)] [zi (xx_isEnding a3 a4)] zSh μ _ _ _ from ?_)
      have r5 : 0 ≤ (xx_isEnding a3 a4) ∧ (xx_isEnding a3 a4) ≤ 1 := xr_isEnding a3 a4 (by omega) (by omega)
      have e9 := xr_isEnding2 a3 a4 (by omega) (by omega)
      refine Az.blk kd_5_setEnding_25 (show zR (xx_isEnding a3 a4) ∧ ((¬ (xx_isEnding a3 a4) = 0 → Ez md_5_setEnding 0 0 31 [(0, zr 0), (1, zi a1), (2, zi a2), (3, zi a3), (4, zi a4)] [] zSh μ _ _ _) ∧ ((xx_isEnding a3 a4) = 0 → Ez md_5_setEnding 0 0 28 [(0, zr 0), (1, zi a1), (2, zi a2), (3, zi a3), (4, zi a4)] [] zSh μ _ _ _)) from ⟨(by omega), fun c6 => ?_, fun c6 => ?_⟩)
      · rw [if_neg c6]
        refine Az.blk kd_5_setEnding_31 (show Ez md_5_setEnding 0 0 40 [(0, zr 0), (1, zi a1), (2, zi a2), (3, zi a3), (4, zi a4)] [zi a2, zi a1, zr 4] zSh μ _ _ _ from ?_)
        refine Az.cVN (mc := md_4_endingOf) (k := 4) (n := 2) (As := [zi a1, zi a2]) (rest := []) kr_5_setEnding_40 zw_447 ok_4_endingOf rfl rfl rfl trivial (xz_endingOf hB a1 a2 (by omega) (by omega)) rfl rfl (show Ez md_5_setEnding 0 0 43 [(0, zr 0), (1, zi a1), (2, zi a2), (3, zi a3), (4, zi a4)] [zi (xx_endingOf μ a1 a2)] zSh μ _ _ _ from ?_)
        have r7 : 0 ≤ (xx_endingOf μ a1 a2) ∧ (xx_endingOf μ a1 a2) ≤ 728 := xr_endingOf hB a1 a2 (by omega) (by omega)
        refine Az.blk kd_5_setEnding_43 (show zR ((27 * a3) + a4) ∧ zR (xx_endingOf μ a1 a2) ∧ ((¬ ((27 * a3) + a4) = (xx_endingOf μ a1 a2) → Ez md_5_setEnding 0 0 64 [(6, zi ((27 * a3) + a4)), (5, zi (xx_endingOf μ a1 a2)), (0, zr 0), (1, zi a1), (2, zi a2), (3, zi a3), (4, zi a4)] [] zSh μ _ _ _) ∧ (((27 * a3) + a4) = (xx_endingOf μ a1 a2) → Ez md_5_setEnding 0 0 61 [(6, zi ((27 * a3) + a4)), (5, zi (xx_endingOf μ a1 a2)), (0, zr 0), (1, zi a1), (2, zi a2), (3, zi a3), (4, zi a4)] [] zSh μ _ _ _)) from ⟨(by omega), (by omega), fun c8 => ?_, fun c8 => ?_⟩)
        · rw [if_neg c8]
          refine Az.blk kd_5_setEnding_64 (show Ez md_5_setEnding 0 0 72 [(6, zi ((27 * a3) + a4)), (5, zi (xx_endingOf μ a1 a2)), (0, zr 0), (1, zi a1), (2, zi a2), (3, zi a3), (4, zi a4)] [zr 3, zr 39] zSh μ _ _ _ from ?_)
          refine Az.cVN (mc := md_0_record) (k := 39) (n := 1) (As := [zr 3]) (rest := []) kr_5_setEnding_72 zw_246 ok_0_record rfl rfl rfl trivial (xz_record hB h0) rfl rfl (show Ez md_5_setEnding 0 0 75 [(6, zi ((27 * a3) + a4)), (5, zi (xx_endingOf μ a1 a2)), (0, zr 0), (1, zi a1), (2, zi a2), (3, zi a3), (4, zi a4)] [] zSh (xx_record μ) _ _ _ from ?_)
          refine Az.blk kd_5_setEnding_75 (show Ez md_5_setEnding 0 0 86 [(6, zi ((27 * a3) + a4)), (5, zi (xx_endingOf μ a1 a2)), (0, zr 0), (1, zi a1), (2, zi a2), (3, zi a3), (4, zi a4)] [zi ((27 * a3) + a4), zi a2, zi a1, zr 4] zSh (xx_record μ) _ _ _ from ?_)
          refine Az.cVN (mc := md_4_changeEnding) (k := 4) (n := 3) (As := [zi a1, zi a2, zi ((27 * a3) + a4)]) (rest := []) kr_5_setEnding_86 zw_448 ok_4_changeEnding rfl rfl rfl trivial (xz_changeEnding (xb_record hB h0) a1 a2 ((27 * a3) + a4) (by omega) (by omega) (by omega)) rfl rfl (show Ez md_5_setEnding 0 0 89 [(6, zi ((27 * a3) + a4)), (5, zi (xx_endingOf μ a1 a2)), (0, zr 0), (1, zi a1), (2, zi a2), (3, zi a3), (4, zi a4)] [] zSh (xx_changeEnding (xx_record μ) a1 a2 ((27 * a3) + a4)) _ _ _ from ?_)
          refine Az.blk kd_5_setEnding_89 (show Ez md_5_setEnding 0 0 91 [(6, zi ((27 * a3) + a4)), (5, zi (xx_endingOf μ a1 a2)), (0, zr 0), (1, zi a1), (2, zi a2), (3, zi a3), (4, zi a4)] [zi (xx_endingOf μ a1 a2)] zSh (xx_changeEnding (xx_record μ) a1 a2 ((27 * a3) + a4)) _ _ _ from ?_)
          exact Ez.iret kr_5_setEnding_91 rfl (Nat.zero_le _) (Nat.zero_le _) rfl rfl
        · rw [if_pos c8]
          refine Az.blk kd_5_setEnding_61 (show Ez md_5_setEnding 0 0 63 [(6, zi ((27 * a3) + a4)), (5, zi (xx_endingOf μ a1 a2)), (0, zr 0), (1, zi a1), (2, zi a2), (3, zi a3), (4, zi a4)] [zi (-5)] zSh μ _ _ _ from ?_)
          exact Ez.iret kr_5_setEnding_63 rfl (Nat.zero_le _) (Nat.zero_le _) rfl rfl
      · rw [if_pos c6]
        refine Az.blk kd_5_setEnding_28 (show Ez md_5_setEnding 0 0 30 [(0, zr 0), (1, zi a1), (2, zi a2), (3, zi a3), (4, zi a4)] [zi (-2)] zSh μ _ _ _ from ?_)
        exact Ez.iret kr_5_setEnding_30 rfl (Nat.zero_le _) (Nat.zero_le _) rfl rfl
  · rw [if_pos c2]
    refine Az.blk kd_5_setEnding_8 (show Ez md_5_setEnding 0 0 9 [(0, zr 0), (1, zi a1), (2, zi a2), (3, zi a3), (4, zi a4)] [zi (-1)] zSh μ _ _ _ from ?_)
    exact Ez.iret kr_5_setEnding_9 rfl (Nat.zero_le _) (Nat.zero_le _) rfl rfl
def kb_5_readTale_0 : List zI := [(.aload_n 0, 1, 0, 0), (.getfield 12, 3, 5, 0)]
theorem kd_5_readTale_0 : zdec md_5_readTale 0 kb_5_readTale_0 = true := by decide +kernel
theorem kr_5_readTale_4 : decode md_5_readTale.2.1 4 = .ok (.invokevirtual 74, 3) := by decide +kernel
def kb_5_readTale_7 : List zI := [(.istore_n 1, 1, 0, 0), (.iload_n 1, 1, 0, 0), (.iconst (-1), 1, 0, 0), (.if_icmp .eq 8, 3, 18, 0)]
theorem kd_5_readTale_7 : zdec md_5_readTale 7 kb_5_readTale_7 = true := by decide +kernel
def kb_5_readTale_18 : List zI := [(.aload_n 0, 1, 0, 0), (.getfield 29, 3, 5, 3), (.aload_n 0, 1, 0, 0), (.getfield 19, 3, 5, 1)]
theorem kd_5_readTale_18 : zdec md_5_readTale 18 kb_5_readTale_18 = true := by decide +kernel
theorem kr_5_readTale_26 : decode md_5_readTale.2.1 26 = .ok (.invokevirtual 55, 3) := by decide +kernel
def kb_5_readTale_29 : List zI := [(.aload_n 0, 1, 0, 0), (.getfield 19, 3, 5, 1), (.getfield 77, 3, 1, 1), (.aload_n 0, 1, 0, 0), (.getfield 12, 3, 5, 0)]
theorem kd_5_readTale_29 : zdec md_5_readTale 29 kb_5_readTale_29 = true := by decide +kernel
theorem kr_5_readTale_40 : decode md_5_readTale.2.1 40 = .ok (.invokevirtual 81, 3) := by decide +kernel
def kb_5_readTale_43 : List zI := [(.aload_n 0, 1, 0, 0), (.getfield 19, 3, 5, 1), (.getfield 77, 3, 1, 1), (.getfield 87, 3, 2, 1)]
theorem kd_5_readTale_43 : zdec md_5_readTale 43 kb_5_readTale_43 = true := by decide +kernel
theorem kr_5_readTale_53 : decode md_5_readTale.2.1 53 = .ok (.ireturn, 1) := by decide +kernel
def kb_5_readTale_13 : List zI := [(.bipush (-100), 2, 0, 0), (.iload_n 1, 1, 0, 0), (.isub, 1, 0, 0)]
theorem kd_5_readTale_13 : zdec md_5_readTale 13 kb_5_readTale_13 = true := by decide +kernel
theorem kr_5_readTale_17 : decode md_5_readTale.2.1 17 = .ok (.ireturn, 1) := by decide +kernel
noncomputable def xx_readTale (μ : zM) : Int × zM := (if (xx_faultAsTale μ) = (-1) then (((xx_takeFrom (xx_record μ)) 10 1), (xx_takeFrom (xx_record μ))) else (((-100) - (xx_faultAsTale μ)), μ))
set_option maxHeartbeats 4000000 in
set_option maxRecDepth 100000 in
theorem xb_readTale {μ : zM} (hB : zB μ) (h0 : ((μ 40 0) = 41 ∨ (μ 40 0) = 59 ∨ (μ 40 0) = 77 ∨ (μ 40 0) = 95) ∧ ((μ 40 1) = 41 ∨ (μ 40 1) = 59 ∨ (μ 40 1) = 77 ∨ (μ 40 1) = 95) ∧ ((μ 40 2) = 41 ∨ (μ 40 2) = 59 ∨ (μ 40 2) = 77 ∨ (μ 40 2) = 95) ∧ ((μ 40 3) = 41 ∨ (μ 40 3) = 59 ∨ (μ 40 3) = 77 ∨ (μ 40 3) = 95) ∧ ¬ (μ 40 0) = (μ 40 1) ∧ ¬ (μ 40 0) = (μ 40 2) ∧ ¬ (μ 40 0) = (μ 40 3) ∧ ¬ (μ 40 1) = (μ 40 2) ∧ ¬ (μ 40 1) = (μ 40 3) ∧ ¬ (μ 40 2) = (μ 40 3)) : zB (xx_readTale μ).2 := by
  unfold xx_readTale
  have r1 : -1 ≤ (xx_faultAsTale μ) ∧ (xx_faultAsTale μ) ≤ 110 := xr_faultAsTale hB
  by_cases c2 : (xx_faultAsTale μ) = (-1)
  · rw [if_pos c2]
    have b3 : 0 ≤ ((xx_takeFrom (xx_record μ)) 10 1) ∧ ((xx_takeFrom (xx_record μ)) 10 1) ≤ 20 := (xb_takeFrom (xb_record hB h0)) 10 1
    exact (xb_takeFrom (xb_record hB h0))
  · rw [if_neg c2]
    exact hB
set_option maxHeartbeats 4000000 in
set_option maxRecDepth 100000 in
theorem xz_readTale {μ : zM} (hB : zB μ) (h0 : ((μ 40 0) = 41 ∨ (μ 40 0) = 59 ∨ (μ 40 0) = 77 ∨ (μ 40 0) = 95) ∧ ((μ 40 1) = 41 ∨ (μ 40 1) = 59 ∨ (μ 40 1) = 77 ∨ (μ 40 1) = 95) ∧ ((μ 40 2) = 41 ∨ (μ 40 2) = 59 ∨ (μ 40 2) = 77 ∨ (μ 40 2) = 95) ∧ ((μ 40 3) = 41 ∨ (μ 40 3) = 59 ∨ (μ 40 3) = 77 ∨ (μ 40 3) = 95) ∧ ¬ (μ 40 0) = (μ 40 1) ∧ ¬ (μ 40 0) = (μ 40 2) ∧ ¬ (μ 40 0) = (μ 40 3) ∧ ¬ (μ 40 1) = (μ 40 2) ∧ ¬ (μ 40 1) = (μ 40 3) ∧ ¬ (μ 40 2) = (μ 40 3)) : Dz md_5_readTale [zr 0] zSh μ (some (zi (xx_readTale μ).1)) zSh (xx_readTale μ).2 := by
  refine Dz.of (by decide) rfl rfl (show Ez md_5_readTale 0 0 0 [(0, zr 0)] [] zSh μ (some (zi (xx_readTale μ).1)) zSh (xx_readTale μ).2 from ?_)
  unfold xx_readTale
  refine Az.blk kd_5_readTale_0 (show Ez md_5_readTale 0 0 4 [(0, zr 0)] [zr 1] zSh μ _ _ _ from ?_)
  refine Az.cVN (mc := md_3_faultAsTale) (k := 1) (n := 0) (As := []) (rest := []) kr_5_readTale_4 zw_199 ok_3_faultAsTale rfl rfl rfl trivial (xz_faultAsTale hB) rfl rfl (show Ez md_5_readTale 0 0 7 [(0, zr 0)] [zi (xx_faultAsTale μ)] zSh μ _ _ _ from ?_)
  have r1 : -1 ≤ (xx_faultAsTale μ) ∧ (xx_faultAsTale μ) ≤ 110 := xr_faultAsTale hB
  refine Az.blk kd_5_readTale_7 (show zR (xx_faultAsTale μ) ∧ zR (-1) ∧ (((xx_faultAsTale μ) = (-1) → Ez md_5_readTale 0 0 18 [(1, zi (xx_faultAsTale μ)), (0, zr 0)] [] zSh μ _ _ _) ∧ (¬ (xx_faultAsTale μ) = (-1) → Ez md_5_readTale 0 0 13 [(1, zi (xx_faultAsTale μ)), (0, zr 0)] [] zSh μ _ _ _)) from ⟨(by omega), (by omega), fun c2 => ?_, fun c2 => ?_⟩)
  · rw [if_pos c2]
    refine Az.blk kd_5_readTale_18 (show Ez md_5_readTale 0 0 26 [(1, zi (xx_faultAsTale μ)), (0, zr 0)] [zr 3, zr 39] zSh μ _ _ _ from ?_)
    refine Az.cVN (mc := md_0_record) (k := 39) (n := 1) (As := [zr 3]) (rest := []) kr_5_readTale_26 zw_246 ok_0_record rfl rfl rfl trivial (xz_record hB h0) rfl rfl (show Ez md_5_readTale 0 0 29 [(1, zi (xx_faultAsTale μ)), (0, zr 0)] [] zSh (xx_record μ) _ _ _ from ?_)
    refine Az.blk kd_5_readTale_29 (show Ez md_5_readTale 0 0 40 [(1, zi (xx_faultAsTale μ)), (0, zr 0)] [zr 1, zr 10] zSh (xx_record μ) _ _ _ from ?_)
    refine Az.cVN (mc := md_2_takeFrom) (k := 10) (n := 1) (As := [zr 1]) (rest := []) kr_5_readTale_40 zw_282 ok_2_takeFrom rfl rfl rfl trivial (xz_takeFrom (xb_record hB h0)) rfl rfl (show Ez md_5_readTale 0 0 43 [(1, zi (xx_faultAsTale μ)), (0, zr 0)] [] zSh (xx_takeFrom (xx_record μ)) _ _ _ from ?_)
    have b3 : 0 ≤ ((xx_takeFrom (xx_record μ)) 10 1) ∧ ((xx_takeFrom (xx_record μ)) 10 1) ≤ 20 := (xb_takeFrom (xb_record hB h0)) 10 1
    refine Az.blk kd_5_readTale_43 (show Ez md_5_readTale 0 0 53 [(1, zi (xx_faultAsTale μ)), (0, zr 0)] [zi ((xx_takeFrom (xx_record μ)) 10 1)] zSh (xx_takeFrom (xx_record μ)) _ _ _ from ?_)
    exact Ez.iret kr_5_readTale_53 rfl (Nat.zero_le _) (Nat.zero_le _) rfl rfl
  · rw [if_neg c2]
    refine Az.blk kd_5_readTale_13 (show Ez md_5_readTale 0 0 17 [(1, zi (xx_faultAsTale μ)), (0, zr 0)] [zi ((-100) - (xx_faultAsTale μ))] zSh μ _ _ _ from ?_)
    exact Ez.iret kr_5_readTale_17 rfl (Nat.zero_le _) (Nat.zero_le _) rfl rfl
def kb_5_setTie_0 : List zI := [(.iload_n 1, 1, 0, 0), (.bipush 10, 2, 0, 0)]
theorem kd_5_setTie_0 : zdec md_5_setTie 0 kb_5_setTie_0 = true := by decide +kernel
theorem kr_5_setTie_3 : decode md_5_setTie.2.1 3 = .ok (.invokestatic 37, 3) := by decide +kernel
def kb_5_setTie_6 : List zI := [(.ifCond .ne 5, 3, 11, 0)]
theorem kd_5_setTie_6 : zdec md_5_setTie 6 kb_5_setTie_6 = true := by decide +kernel
def kb_5_setTie_11 : List zI := [(.iload_n 2, 1, 0, 0), (.iconst 2, 1, 0, 0)]
theorem kd_5_setTie_11 : zdec md_5_setTie 11 kb_5_setTie_11 = true := by decide +kernel
theorem kr_5_setTie_13 : decode md_5_setTie.2.1 13 = .ok (.invokestatic 37, 3) := by decide +kernel
def kb_5_setTie_16 : List zI := [(.ifCond .eq 11, 3, 27, 0)]
theorem kd_5_setTie_16 : zdec md_5_setTie 16 kb_5_setTie_16 = true := by decide +kernel
def kb_5_setTie_27 : List zI := [(.bipush (-2), 2, 0, 0)]
theorem kd_5_setTie_27 : zdec md_5_setTie 27 kb_5_setTie_27 = true := by decide +kernel
theorem kr_5_setTie_29 : decode md_5_setTie.2.1 29 = .ok (.ireturn, 1) := by decide +kernel
def kb_5_setTie_19 : List zI := [(.iload_n 3, 1, 0, 0), (.iconst 3, 1, 0, 0)]
theorem kd_5_setTie_19 : zdec md_5_setTie 19 kb_5_setTie_19 = true := by decide +kernel
theorem kr_5_setTie_21 : decode md_5_setTie.2.1 21 = .ok (.invokestatic 37, 3) := by decide +kernel
def kb_5_setTie_24 : List zI := [(.ifCond .ne 6, 3, 30, 0)]
theorem kd_5_setTie_24 : zdec md_5_setTie 24 kb_5_setTie_24 = true := by decide +kernel
def kb_5_setTie_30 : List zI := [(.aload_n 0, 1, 0, 0), (.getfield 19, 3, 5, 1), (.getfield 90, 3, 1, 2), (.iload_n 1, 1, 0, 0), (.iaload, 1, 0, 0), (.istore 4, 2, 0, 0), (.aload_n 0, 1, 0, 0), (.getfield 19, 3, 5, 1), (.getfield 94, 3, 1, 3), (.iload_n 1, 1, 0, 0), (.iaload, 1, 0, 0), (.istore 5, 2, 0, 0), (.iload_n 2, 1, 0, 0), (.iload 4, 2, 0, 0), (.if_icmp .ne 12, 3, 67, 0)]
theorem kd_5_setTie_30 : zdec md_5_setTie 30 kb_5_setTie_30 = true := by decide +kernel
def kb_5_setTie_67 : List zI := [(.aload_n 0, 1, 0, 0), (.getfield 29, 3, 5, 3), (.aload_n 0, 1, 0, 0), (.getfield 19, 3, 5, 1)]
theorem kd_5_setTie_67 : zdec md_5_setTie 67 kb_5_setTie_67 = true := by decide +kernel
theorem kr_5_setTie_75 : decode md_5_setTie.2.1 75 = .ok (.invokevirtual 55, 3) := by decide +kernel
def kb_5_setTie_78 : List zI := [(.aload_n 0, 1, 0, 0), (.getfield 19, 3, 5, 1), (.getfield 90, 3, 1, 2), (.iload_n 1, 1, 0, 0), (.iload_n 2, 1, 0, 0), (.iastore, 1, 0, 0), (.aload_n 0, 1, 0, 0), (.getfield 19, 3, 5, 1), (.getfield 94, 3, 1, 3), (.iload_n 1, 1, 0, 0), (.iload_n 3, 1, 0, 0), (.iastore, 1, 0, 0), (.iconst 3, 1, 0, 0), (.iload 4, 2, 0, 0), (.imul, 1, 0, 0), (.iload 5, 2, 0, 0), (.iadd, 1, 0, 0)]
theorem kd_5_setTie_78 : zdec md_5_setTie 78 kb_5_setTie_78 = true := by decide +kernel
theorem kr_5_setTie_105 : decode md_5_setTie.2.1 105 = .ok (.ireturn, 1) := by decide +kernel
def kb_5_setTie_58 : List zI := [(.iload_n 3, 1, 0, 0), (.iload 5, 2, 0, 0), (.if_icmp .ne 6, 3, 67, 0)]
theorem kd_5_setTie_58 : zdec md_5_setTie 58 kb_5_setTie_58 = true := by decide +kernel
def kb_5_setTie_64 : List zI := [(.bipush (-5), 2, 0, 0)]
theorem kd_5_setTie_64 : zdec md_5_setTie 64 kb_5_setTie_64 = true := by decide +kernel
theorem kr_5_setTie_66 : decode md_5_setTie.2.1 66 = .ok (.ireturn, 1) := by decide +kernel
def kb_5_setTie_9 : List zI := [(.iconst (-1), 1, 0, 0)]
theorem kd_5_setTie_9 : zdec md_5_setTie 9 kb_5_setTie_9 = true := by decide +kernel
theorem kr_5_setTie_10 : decode md_5_setTie.2.1 10 = .ok (.ireturn, 1) := by decide +kernel
noncomputable def xx_setTie (μ : zM) (a1 a2 a3 : Int) : Int × zM := (if (xx_isBelow a1 10) = 0 then ((-1), μ) else (if (xx_isBelow a2 2) = 0 then ((-2), μ) else (if (xx_isBelow a3 3) = 0 then ((-2), μ) else (if a2 = (μ 19 a1) then (if a3 = (μ 20 a1) then ((-5), μ) else (((3 * (μ 19 a1)) + (μ 20 a1)), (zup (zup (xx_record μ) 19 a1 a2) 20 a1 a3))) else (((3 * (μ 19 a1)) + (μ 20 a1)), (zup (zup (xx_record μ) 19 a1 a2) 20 a1 a3))))))
set_option maxHeartbeats 4000000 in
set_option maxRecDepth 100000 in
theorem xb_setTie {μ : zM} (hB : zB μ) (a1 a2 a3 : Int) (h0 : ((μ 40 0) = 41 ∨ (μ 40 0) = 59 ∨ (μ 40 0) = 77 ∨ (μ 40 0) = 95) ∧ ((μ 40 1) = 41 ∨ (μ 40 1) = 59 ∨ (μ 40 1) = 77 ∨ (μ 40 1) = 95) ∧ ((μ 40 2) = 41 ∨ (μ 40 2) = 59 ∨ (μ 40 2) = 77 ∨ (μ 40 2) = 95) ∧ ((μ 40 3) = 41 ∨ (μ 40 3) = 59 ∨ (μ 40 3) = 77 ∨ (μ 40 3) = 95) ∧ ¬ (μ 40 0) = (μ 40 1) ∧ ¬ (μ 40 0) = (μ 40 2) ∧ ¬ (μ 40 0) = (μ 40 3) ∧ ¬ (μ 40 1) = (μ 40 2) ∧ ¬ (μ 40 1) = (μ 40 3) ∧ ¬ (μ 40 2) = (μ 40 3)) (h1 : -2147483648 ≤ a1 ∧ a1 ≤ 2147483647) (h2 : -2147483648 ≤ a2 ∧ a2 ≤ 2147483647) (h3 : -2147483648 ≤ a3 ∧ a3 ≤ 2147483647) : zB (xx_setTie μ a1 a2 a3).2 := by
  unfold xx_setTie
  have r1 : 0 ≤ (xx_isBelow a1 10) ∧ (xx_isBelow a1 10) ≤ 1 ∧ ((xx_isBelow a1 10) = 1 → 0 ≤ a1 ∧ a1 < (10 : Int)) := xr_isBelow a1 10 (by omega) (by omega)
  by_cases c2 : (xx_isBelow a1 10) = 0
  · rw [if_pos c2]
    exact hB
  · rw [if_neg c2]
    have r3 : 0 ≤ (xx_isBelow a2 2) ∧ (xx_isBelow a2 2) ≤ 1 ∧ ((xx_isBelow a2 2) = 1 → 0 ≤ a2 ∧ a2 < (2 : Int)) := xr_isBelow a2 2 (by omega) (by omega)
    by_cases c4 : (xx_isBelow a2 2) = 0
    · rw [if_pos c4]
      exact hB
    · rw [if_neg c4]
      have r5 : 0 ≤ (xx_isBelow a3 3) ∧ (xx_isBelow a3 3) ≤ 1 ∧ ((xx_isBelow a3 3) = 1 → 0 ≤ a3 ∧ a3 < (3 : Int)) := xr_isBelow a3 3 (by omega) (by omega)
      by_cases c6 : (xx_isBelow a3 3) = 0
      · rw [if_pos c6]
        exact hB
      · rw [if_neg c6]
        have b7 : 0 ≤ (μ 19 a1) ∧ (μ 19 a1) ≤ 1 := hB 19 a1
        have b8 : 0 ≤ (μ 20 a1) ∧ (μ 20 a1) ≤ 2 := hB 20 a1
        by_cases c9 : a2 = (μ 19 a1)
        · rw [if_pos c9]
          by_cases c10 : a3 = (μ 20 a1)
          · rw [if_pos c10]
            exact hB
          · rw [if_neg c10]
            exact (zup_ok (k := 20) (z := a1) (v := a3) (zup_ok (k := 19) (z := a1) (v := a2) (xb_record hB h0) (show 0 ≤ a2 ∧ a2 ≤ 1 from by omega)) (show 0 ≤ a3 ∧ a3 ≤ 2 from by omega))
        · rw [if_neg c9]
          exact (zup_ok (k := 20) (z := a1) (v := a3) (zup_ok (k := 19) (z := a1) (v := a2) (xb_record hB h0) (show 0 ≤ a2 ∧ a2 ≤ 1 from by omega)) (show 0 ≤ a3 ∧ a3 ≤ 2 from by omega))
set_option maxHeartbeats 4000000 in
set_option maxRecDepth 100000 in
theorem xz_setTie {μ : zM} (hB : zB μ) (a1 a2 a3 : Int) (h0 : ((μ 40 0) = 41 ∨ (μ 40 0) = 59 ∨ (μ 40 0) = 77 ∨ (μ 40 0) = 95) ∧ ((μ 40 1) = 41 ∨ (μ 40 1) = 59 ∨ (μ 40 1) = 77 ∨ (μ 40 1) = 95) ∧ ((μ 40 2) = 41 ∨ (μ 40 2) = 59 ∨ (μ 40 2) = 77 ∨ (μ 40 2) = 95) ∧ ((μ 40 3) = 41 ∨ (μ 40 3) = 59 ∨ (μ 40 3) = 77 ∨ (μ 40 3) = 95) ∧ ¬ (μ 40 0) = (μ 40 1) ∧ ¬ (μ 40 0) = (μ 40 2) ∧ ¬ (μ 40 0) = (μ 40 3) ∧ ¬ (μ 40 1) = (μ 40 2) ∧ ¬ (μ 40 1) = (μ 40 3) ∧ ¬ (μ 40 2) = (μ 40 3)) (h1 : -2147483648 ≤ a1 ∧ a1 ≤ 2147483647) (h2 : -2147483648 ≤ a2 ∧ a2 ≤ 2147483647) (h3 : -2147483648 ≤ a3 ∧ a3 ≤ 2147483647) : Dz md_5_setTie [zr 0, zi a1, zi a2, zi a3] zSh μ (some (zi (xx_setTie μ a1 a2 a3).1)) zSh (xx_setTie μ a1 a2 a3).2 := by
  refine Dz.of (by decide) rfl rfl (show Ez md_5_setTie 0 0 0 [(0, zr 0), (1, zi a1), (2, zi a2), (3, zi a3)] [] zSh μ (some (zi (xx_setTie μ a1 a2 a3).1)) zSh (xx_setTie μ a1 a2 a3).2 from ?_)
  unfold xx_setTie
  refine Az.blk kd_5_setTie_0 (show Ez md_5_setTie 0 0 3 [(0, zr 0), (1, zi a1), (2, zi a2), (3, zi a3)] [zi 10, zi a1] zSh μ _ _ _ from ?_)
  refine Az.cS (mc := md_5_isBelow) (n := 2) (As := [zi a1, zi 10]) (rest := []) kr_5_setTie_3 zw_422 ok_5_isBelow rfl rfl (xz_isBelow a1 10 (by omega) (by omega)) rfl rfl (show Ez md_5_setTie 0 0 6 [(0, zr 0), (1, zi a1), (2, zi a2), (3, zi a3)] [zi (xx_isBelow a1 10)] zSh μ _ _ _ from ?_)
  have r1 : 0 ≤ (xx_isBelow a1 10) ∧ (xx_isBelow a1 10) ≤ 1 ∧ ((xx_isBelow a1 10) = 1 → 0 ≤ a1 ∧ a1 < (10 : Int)) := xr_isBelow a1 10 (by omega) (by omega)
  refine Az.blk kd_5_setTie_6 (show zR (xx_isBelow a1 10) ∧ ((¬ (xx_isBelow a1 10) = 0 → Ez md_5_setTie 0 0 11 [(0, zr 0), (1, zi a1), (2, zi a2), (3, zi a3)] [] zSh μ _ _ _) ∧ ((xx_isBelow a1 10) = 0 → Ez md_5_setTie 0 0 9 [(0, zr 0), (1, zi a1), (2, zi a2), (3, zi a3)] [] zSh μ _ _ _)) from ⟨(by omega), fun c2 => ?_, fun c2 => ?_⟩)
  · rw [if_neg c2]
    refine Az.blk kd_5_setTie_11 (show Ez md_5_setTie 0 0 13 [(0, zr 0), (1, zi a1), (2, zi a2), (3, zi a3)] [zi 2, zi a2] zSh μ _ _ _ from ?_)
    refine Az.cS (mc := md_5_isBelow) (n := 2) (As := [zi a2, zi 2]) (rest := []) kr_5_setTie_13 zw_422 ok_5_isBelow rfl rfl (xz_isBelow a2 2 (by omega) (by omega)) rfl rfl (show Ez md_5_setTie 0 0 16 [(0, zr 0), (1, zi a1), (2, zi a2), (3, zi a3)] [zi (xx_isBelow a2 2)] zSh μ _ _ _ from ?_)
    have r3 : 0 ≤ (xx_isBelow a2 2) ∧ (xx_isBelow a2 2) ≤ 1 ∧ ((xx_isBelow a2 2) = 1 → 0 ≤ a2 ∧ a2 < (2 : Int)) := xr_isBelow a2 2 (by omega) (by omega)
    refine Az.blk kd_5_setTie_16 (show zR (xx_isBelow a2 2) ∧ (((xx_isBelow a2 2) = 0 → Ez md_5_setTie 0 0 27 [(0, zr 0), (1, zi a1), (2, zi a2), (3, zi a3)] [] zSh μ _ _ _) ∧ (¬ (xx_isBelow a2 2) = 0 → Ez md_5_setTie 0 0 19 [(0, zr 0), (1, zi a1), (2, zi a2), (3, zi a3)] [] zSh μ _ _ _)) from ⟨(by omega), fun c4 => ?_, fun c4 => ?_⟩)
    · rw [if_pos c4]
      refine Az.blk kd_5_setTie_27 (show Ez md_5_setTie 0 0 29 [(0, zr 0), (1, zi a1), (2, zi a2), (3, zi a3)] [zi (-2)] zSh μ _ _ _ from ?_)
      exact Ez.iret kr_5_setTie_29 rfl (Nat.zero_le _) (Nat.zero_le _) rfl rfl
    · rw [if_neg c4]
      refine Az.blk kd_5_setTie_19 (show Ez md_5_setTie 0 0 21 [(0, zr 0), (1, zi a1), (2, zi a2), (3, zi a3)] [zi 3, zi a3] zSh μ _ _ _ from ?_)
      refine Az.cS (mc := md_5_isBelow) (n := 2) (As := [zi a3, zi 3]) (rest := []) kr_5_setTie_21 zw_422 ok_5_isBelow rfl rfl (xz_isBelow a3 3 (by omega) (by omega)) rfl rfl (show Ez md_5_setTie 0 0 24 [(0, zr 0), (1, zi a1), (2, zi a2), (3, zi a3)] [zi (xx_isBelow a3 3)] zSh μ _ _ _ from ?_)
      have r5 : 0 ≤ (xx_isBelow a3 3) ∧ (xx_isBelow a3 3) ≤ 1 ∧ ((xx_isBelow a3 3) = 1 → 0 ≤ a3 ∧ a3 < (3 : Int)) := xr_isBelow a3 3 (by omega) (by omega)
      refine Az.blk kd_5_setTie_24 (show zR (xx_isBelow a3 3) ∧ ((¬ (xx_isBelow a3 3) = 0 → Ez md_5_setTie 0 0 30 [(0, zr 0), (1, zi a1), (2, zi a2), (3, zi a3)] [] zSh μ _ _ _) ∧ ((xx_isBelow a3 3) = 0 → Ez md_5_setTie 0 0 27 [(0, zr 0), (1, zi a1), (2, zi a2), (3, zi a3)] [] zSh μ _ _ _)) from ⟨(by omega), fun c6 => ?_, fun c6 => ?_⟩)
      · rw [if_neg c6]
        have b7 : 0 ≤ (μ 19 a1) ∧ (μ 19 a1) ≤ 1 := hB 19 a1
        have b8 : 0 ≤ (μ 20 a1) ∧ (μ 20 a1) ≤ 2 := hB 20 a1
        refine Az.blk kd_5_setTie_30 (show (0 ≤ a1 ∧ a1 < 10) ∧ (0 ≤ a1 ∧ a1 < 10) ∧ zR a2 ∧ zR (μ 19 a1) ∧ ((¬ a2 = (μ 19 a1) → Ez md_5_setTie 0 0 67 [(5, zi (μ 20 a1)), (4, zi (μ 19 a1)), (0, zr 0), (1, zi a1), (2, zi a2), (3, zi a3)] [] zSh μ _ _ _) ∧ (a2 = (μ 19 a1) → Ez md_5_setTie 0 0 58 [(5, zi (μ 20 a1)), (4, zi (μ 19 a1)), (0, zr 0), (1, zi a1), (2, zi a2), (3, zi a3)] [] zSh μ _ _ _)) from ⟨(by omega), (by omega), (by omega), (by omega), fun c9 => ?_, fun c9 => ?_⟩)
        · rw [if_neg c9]
          refine Az.blk kd_5_setTie_67 (show Ez md_5_setTie 0 0 75 [(5, zi (μ 20 a1)), (4, zi (μ 19 a1)), (0, zr 0), (1, zi a1), (2, zi a2), (3, zi a3)] [zr 3, zr 39] zSh μ _ _ _ from ?_)
          refine Az.cVN (mc := md_0_record) (k := 39) (n := 1) (As := [zr 3]) (rest := []) kr_5_setTie_75 zw_246 ok_0_record rfl rfl rfl trivial (xz_record hB h0) rfl rfl (show Ez md_5_setTie 0 0 78 [(5, zi (μ 20 a1)), (4, zi (μ 19 a1)), (0, zr 0), (1, zi a1), (2, zi a2), (3, zi a3)] [] zSh (xx_record μ) _ _ _ from ?_)
          refine Az.blk kd_5_setTie_78 (show (0 ≤ a1 ∧ a1 < 10) ∧ (0 ≤ a1 ∧ a1 < 10) ∧ Ez md_5_setTie 0 0 105 [(5, zi (μ 20 a1)), (4, zi (μ 19 a1)), (0, zr 0), (1, zi a1), (2, zi a2), (3, zi a3)] [zi ((3 * (μ 19 a1)) + (μ 20 a1))] zSh (zup (zup (xx_record μ) 19 a1 a2) 20 a1 a3) _ _ _ from ⟨(by omega), (by omega), ?_⟩)
          exact Ez.iret kr_5_setTie_105 rfl (Nat.zero_le _) (Nat.zero_le _) rfl rfl
        · rw [if_pos c9]
          refine Az.blk kd_5_setTie_58 (show zR a3 ∧ zR (μ 20 a1) ∧ ((¬ a3 = (μ 20 a1) → Ez md_5_setTie 0 0 67 [(5, zi (μ 20 a1)), (4, zi (μ 19 a1)), (0, zr 0), (1, zi a1), (2, zi a2), (3, zi a3)] [] zSh μ _ _ _) ∧ (a3 = (μ 20 a1) → Ez md_5_setTie 0 0 64 [(5, zi (μ 20 a1)), (4, zi (μ 19 a1)), (0, zr 0), (1, zi a1), (2, zi a2), (3, zi a3)] [] zSh μ _ _ _)) from ⟨(by omega), (by omega), fun c10 => ?_, fun c10 => ?_⟩)
          · rw [if_neg c10]
            refine Az.blk kd_5_setTie_67 (show Ez md_5_setTie 0 0 75 [(5, zi (μ 20 a1)), (4, zi (μ 19 a1)), (0, zr 0), (1, zi a1), (2, zi a2), (3, zi a3)] [zr 3, zr 39] zSh μ _ _ _ from ?_)
            refine Az.cVN (mc := md_0_record) (k := 39) (n := 1) (As := [zr 3]) (rest := []) kr_5_setTie_75 zw_246 ok_0_record rfl rfl rfl trivial (xz_record hB h0) rfl rfl (show Ez md_5_setTie 0 0 78 [(5, zi (μ 20 a1)), (4, zi (μ 19 a1)), (0, zr 0), (1, zi a1), (2, zi a2), (3, zi a3)] [] zSh (xx_record μ) _ _ _ from ?_)
            refine Az.blk kd_5_setTie_78 (show (0 ≤ a1 ∧ a1 < 10) ∧ (0 ≤ a1 ∧ a1 < 10) ∧ Ez md_5_setTie 0 0 105 [(5, zi (μ 20 a1)), (4, zi (μ 19 a1)), (0, zr 0), (1, zi a1), (2, zi a2), (3, zi a3)] [zi ((3 * (μ 19 a1)) + (μ 20 a1))] zSh (zup (zup (xx_record μ) 19 a1 a2) 20 a1 a3) _ _ _ from ⟨(by omega), (by omega), ?_⟩)
            exact Ez.iret kr_5_setTie_105 rfl (Nat.zero_le _) (Nat.zero_le _) rfl rfl
          · rw [if_pos c10]
            refine Az.blk kd_5_setTie_64 (show Ez md_5_setTie 0 0 66 [(5, zi (μ 20 a1)), (4, zi (μ 19 a1)), (0, zr 0), (1, zi a1), (2, zi a2), (3, zi a3)] [zi (-5)] zSh μ _ _ _ from ?_)
            exact Ez.iret kr_5_setTie_66 rfl (Nat.zero_le _) (Nat.zero_le _) rfl rfl
      · rw [if_pos c6]
        refine Az.blk kd_5_setTie_27 (show Ez md_5_setTie 0 0 29 [(0, zr 0), (1, zi a1), (2, zi a2), (3, zi a3)] [zi (-2)] zSh μ _ _ _ from ?_)
        exact Ez.iret kr_5_setTie_29 rfl (Nat.zero_le _) (Nat.zero_le _) rfl rfl
  · rw [if_pos c2]
    refine Az.blk kd_5_setTie_9 (show Ez md_5_setTie 0 0 10 [(0, zr 0), (1, zi a1), (2, zi a2), (3, zi a3)] [zi (-1)] zSh μ _ _ _ from ?_)
    exact Ez.iret kr_5_setTie_10 rfl (Nat.zero_le _) (Nat.zero_le _) rfl rfl
def kb_5_fill_0 : List zI := [(.aload_n 0, 1, 0, 0), (.getfield 19, 3, 5, 1), (.getfield 77, 3, 1, 1), (.iload_n 1, 1, 0, 0)]
theorem kd_5_fill_0 : zdec md_5_fill 0 kb_5_fill_0 = true := by decide +kernel
theorem kr_5_fill_8 : decode md_5_fill.2.1 8 = .ok (.invokevirtual 97, 3) := by decide +kernel
def kb_5_fill_11 : List zI := [(.ifCond .eq 17, 3, 28, 0)]
theorem kd_5_fill_11 : zdec md_5_fill 11 kb_5_fill_11 = true := by decide +kernel
def kb_5_fill_28 : List zI := [(.iconst (-1), 1, 0, 0)]
theorem kd_5_fill_28 : zdec md_5_fill 28 kb_5_fill_28 = true := by decide +kernel
theorem kr_5_fill_29 : decode md_5_fill.2.1 29 = .ok (.ireturn, 1) := by decide +kernel
def kb_5_fill_14 : List zI := [(.aload_n 0, 1, 0, 0), (.getfield 19, 3, 5, 1), (.getfield 45, 3, 1, 0), (.iload_n 2, 1, 0, 0)]
theorem kd_5_fill_14 : zdec md_5_fill 14 kb_5_fill_14 = true := by decide +kernel
theorem kr_5_fill_22 : decode md_5_fill.2.1 22 = .ok (.invokevirtual 101, 3) := by decide +kernel
def kb_5_fill_25 : List zI := [(.ifCond .ne 5, 3, 30, 0)]
theorem kd_5_fill_25 : zdec md_5_fill 25 kb_5_fill_25 = true := by decide +kernel
def kb_5_fill_30 : List zI := [(.aload_n 0, 1, 0, 0), (.getfield 19, 3, 5, 1), (.iload_n 1, 1, 0, 0), (.iload_n 2, 1, 0, 0)]
theorem kd_5_fill_30 : zdec md_5_fill 30 kb_5_fill_30 = true := by decide +kernel
theorem kr_5_fill_36 : decode md_5_fill.2.1 36 = .ok (.invokevirtual 104, 3) := by decide +kernel
def kb_5_fill_39 : List zI := [(.istore_n 3, 1, 0, 0), (.iload_n 3, 1, 0, 0), (.ifCond .eq 8, 3, 49, 0)]
theorem kd_5_fill_39 : zdec md_5_fill 39 kb_5_fill_39 = true := by decide +kernel
def kb_5_fill_49 : List zI := [(.aload_n 0, 1, 0, 0), (.getfield 19, 3, 5, 1), (.getfield 77, 3, 1, 1), (.iload_n 1, 1, 0, 0)]
theorem kd_5_fill_49 : zdec md_5_fill 49 kb_5_fill_49 = true := by decide +kernel
theorem kr_5_fill_57 : decode md_5_fill.2.1 57 = .ok (.invokevirtual 107, 3) := by decide +kernel
def kb_5_fill_60 : List zI := [(.istore 4, 2, 0, 0), (.aload_n 0, 1, 0, 0), (.getfield 29, 3, 5, 3), (.aload_n 0, 1, 0, 0), (.getfield 19, 3, 5, 1)]
theorem kd_5_fill_60 : zdec md_5_fill 60 kb_5_fill_60 = true := by decide +kernel
theorem kr_5_fill_70 : decode md_5_fill.2.1 70 = .ok (.invokevirtual 55, 3) := by decide +kernel
def kb_5_fill_73 : List zI := [(.aload_n 0, 1, 0, 0), (.getfield 19, 3, 5, 1), (.iload_n 1, 1, 0, 0), (.iload_n 2, 1, 0, 0)]
theorem kd_5_fill_73 : zdec md_5_fill 73 kb_5_fill_73 = true := by decide +kernel
theorem kr_5_fill_79 : decode md_5_fill.2.1 79 = .ok (.invokevirtual 111, 3) := by decide +kernel
def kb_5_fill_82 : List zI := [(.iload 4, 2, 0, 0), (.iconst (-1), 1, 0, 0), (.if_icmp .ne 8, 3, 93, 0)]
theorem kd_5_fill_82 : zdec md_5_fill 82 kb_5_fill_82 = true := by decide +kernel
def kb_5_fill_93 : List zI := [(.iload 4, 2, 0, 0)]
theorem kd_5_fill_93 : zdec md_5_fill 93 kb_5_fill_93 = true := by decide +kernel
theorem kr_5_fill_95 : decode md_5_fill.2.1 95 = .ok (.ireturn, 1) := by decide +kernel
def kb_5_fill_88 : List zI := [(.bipush 100, 2, 0, 0), (.goto 5, 3, 95, 0)]
theorem kd_5_fill_88 : zdec md_5_fill 88 kb_5_fill_88 = true := by decide +kernel
def kb_5_fill_44 : List zI := [(.bipush (-10), 2, 0, 0), (.iload_n 3, 1, 0, 0), (.isub, 1, 0, 0)]
theorem kd_5_fill_44 : zdec md_5_fill 44 kb_5_fill_44 = true := by decide +kernel
theorem kr_5_fill_48 : decode md_5_fill.2.1 48 = .ok (.ireturn, 1) := by decide +kernel
noncomputable def xx_fill (μ : zM) (a1 a2 : Int) : Int × zM := (if (xx_hasHole μ a1) = 0 then ((-1), μ) else (if (xx_knows μ a2) = 0 then ((-1), μ) else (if (xx_reasonAgainst μ a1 a2) = 0 then (if (xx_wordIn μ a1) = (-1) then (100, (xx_putIn (xx_record μ) a1 a2)) else ((xx_wordIn μ a1), (xx_putIn (xx_record μ) a1 a2))) else (((-10) - (xx_reasonAgainst μ a1 a2)), μ))))
set_option maxHeartbeats 4000000 in
set_option maxRecDepth 100000 in
theorem xb_fill {μ : zM} (hB : zB μ) (a1 a2 : Int) (h0 : ((μ 40 0) = 41 ∨ (μ 40 0) = 59 ∨ (μ 40 0) = 77 ∨ (μ 40 0) = 95) ∧ ((μ 40 1) = 41 ∨ (μ 40 1) = 59 ∨ (μ 40 1) = 77 ∨ (μ 40 1) = 95) ∧ ((μ 40 2) = 41 ∨ (μ 40 2) = 59 ∨ (μ 40 2) = 77 ∨ (μ 40 2) = 95) ∧ ((μ 40 3) = 41 ∨ (μ 40 3) = 59 ∨ (μ 40 3) = 77 ∨ (μ 40 3) = 95) ∧ ¬ (μ 40 0) = (μ 40 1) ∧ ¬ (μ 40 0) = (μ 40 2) ∧ ¬ (μ 40 0) = (μ 40 3) ∧ ¬ (μ 40 1) = (μ 40 2) ∧ ¬ (μ 40 1) = (μ 40 3) ∧ ¬ (μ 40 2) = (μ 40 3)) (h1 : -2147483648 ≤ a1 ∧ a1 ≤ 2147483647) (h2 : -2147483648 ≤ a2 ∧ a2 ≤ 2147483647) : zB (xx_fill μ a1 a2).2 := by
  unfold xx_fill
  have r1 : 0 ≤ (xx_hasHole μ a1) ∧ (xx_hasHole μ a1) ≤ 1 ∧ ((xx_hasHole μ a1) = 1 → 0 ≤ a1 ∧ a1 < μ 10 1 ∧ a1 < 20) := xr_hasHole hB a1 (by omega)
  by_cases c2 : (xx_hasHole μ a1) = 0
  · rw [if_pos c2]
    exact hB
  · rw [if_neg c2]
    have r3 : 0 ≤ (xx_knows μ a2) ∧ (xx_knows μ a2) ≤ 1 ∧ ((xx_knows μ a2) = 1 → 0 ≤ a2 ∧ a2 < μ 4 0 ∧ a2 < 24) := xr_knows hB a2 (by omega)
    by_cases c4 : (xx_knows μ a2) = 0
    · rw [if_pos c4]
      exact hB
    · rw [if_neg c4]
      have r5 : 0 ≤ (xx_reasonAgainst μ a1 a2) ∧ (xx_reasonAgainst μ a1 a2) ≤ 3 := xr_reasonAgainst hB a1 a2 (by omega) (by omega)
      by_cases c6 : (xx_reasonAgainst μ a1 a2) = 0
      · rw [if_pos c6]
        have r7 : -1 ≤ (xx_wordIn μ a1) ∧ (xx_wordIn μ a1) ≤ 23 := xr_wordIn hB a1 (by omega)
        by_cases c8 : (xx_wordIn μ a1) = (-1)
        · rw [if_pos c8]
          exact (xb_putIn (xb_record hB h0) a1 a2 (by omega) (by omega))
        · rw [if_neg c8]
          exact (xb_putIn (xb_record hB h0) a1 a2 (by omega) (by omega))
      · rw [if_neg c6]
        exact hB
set_option maxHeartbeats 4000000 in
set_option maxRecDepth 100000 in
theorem xz_fill {μ : zM} (hB : zB μ) (a1 a2 : Int) (h0 : ((μ 40 0) = 41 ∨ (μ 40 0) = 59 ∨ (μ 40 0) = 77 ∨ (μ 40 0) = 95) ∧ ((μ 40 1) = 41 ∨ (μ 40 1) = 59 ∨ (μ 40 1) = 77 ∨ (μ 40 1) = 95) ∧ ((μ 40 2) = 41 ∨ (μ 40 2) = 59 ∨ (μ 40 2) = 77 ∨ (μ 40 2) = 95) ∧ ((μ 40 3) = 41 ∨ (μ 40 3) = 59 ∨ (μ 40 3) = 77 ∨ (μ 40 3) = 95) ∧ ¬ (μ 40 0) = (μ 40 1) ∧ ¬ (μ 40 0) = (μ 40 2) ∧ ¬ (μ 40 0) = (μ 40 3) ∧ ¬ (μ 40 1) = (μ 40 2) ∧ ¬ (μ 40 1) = (μ 40 3) ∧ ¬ (μ 40 2) = (μ 40 3)) (h1 : -2147483648 ≤ a1 ∧ a1 ≤ 2147483647) (h2 : -2147483648 ≤ a2 ∧ a2 ≤ 2147483647) : Dz md_5_fill [zr 0, zi a1, zi a2] zSh μ (some (zi (xx_fill μ a1 a2).1)) zSh (xx_fill μ a1 a2).2 := by
  refine Dz.of (by decide) rfl rfl (show Ez md_5_fill 0 0 0 [(0, zr 0), (1, zi a1), (2, zi a2)] [] zSh μ (some (zi (xx_fill μ a1 a2).1)) zSh (xx_fill μ a1 a2).2 from ?_)
  unfold xx_fill
  refine Az.blk kd_5_fill_0 (show Ez md_5_fill 0 0 8 [(0, zr 0), (1, zi a1), (2, zi a2)] [zi a1, zr 10] zSh μ _ _ _ from ?_)
  refine Az.cVN (mc := md_2_hasHole) (k := 10) (n := 1) (As := [zi a1]) (rest := []) kr_5_fill_8 zw_470 ok_2_hasHole rfl rfl rfl trivial (xz_hasHole hB a1 (by omega)) rfl rfl (show Ez md_5_fill 0 0 11 [(0, zr 0), (1, zi a1), (2, zi a2)] [zi (xx_hasHole μ a1)] zSh μ _ _ _ from ?_)
  have r1 : 0 ≤ (xx_hasHole μ a1) ∧ (xx_hasHole μ a1) ≤ 1 ∧ ((xx_hasHole μ a1) = 1 → 0 ≤ a1 ∧ a1 < μ 10 1 ∧ a1 < 20) := xr_hasHole hB a1 (by omega)
  refine Az.blk kd_5_fill_11 (show zR (xx_hasHole μ a1) ∧ (((xx_hasHole μ a1) = 0 → Ez md_5_fill 0 0 28 [(0, zr 0), (1, zi a1), (2, zi a2)] [] zSh μ _ _ _) ∧ (¬ (xx_hasHole μ a1) = 0 → Ez md_5_fill 0 0 14 [(0, zr 0), (1, zi a1), (2, zi a2)] [] zSh μ _ _ _)) from ⟨(by omega), fun c2 => ?_, fun c2 => ?_⟩)
  · rw [if_pos c2]
    refine Az.blk kd_5_fill_28 (show Ez md_5_fill 0 0 29 [(0, zr 0), (1, zi a1), (2, zi a2)] [zi (-1)] zSh μ _ _ _ from ?_)
    exact Ez.iret kr_5_fill_29 rfl (Nat.zero_le _) (Nat.zero_le _) rfl rfl
  · rw [if_neg c2]
    refine Az.blk kd_5_fill_14 (show Ez md_5_fill 0 0 22 [(0, zr 0), (1, zi a1), (2, zi a2)] [zi a2, zr 4] zSh μ _ _ _ from ?_)
    refine Az.cVN (mc := md_4_knows) (k := 4) (n := 1) (As := [zi a2]) (rest := []) kr_5_fill_22 zw_436 ok_4_knows rfl rfl rfl trivial (xz_knows hB a2 (by omega)) rfl rfl (show Ez md_5_fill 0 0 25 [(0, zr 0), (1, zi a1), (2, zi a2)] [zi (xx_knows μ a2)] zSh μ _ _ _ from ?_)
    have r3 : 0 ≤ (xx_knows μ a2) ∧ (xx_knows μ a2) ≤ 1 ∧ ((xx_knows μ a2) = 1 → 0 ≤ a2 ∧ a2 < μ 4 0 ∧ a2 < 24) := xr_knows hB a2 (by omega)
    refine Az.blk kd_5_fill_25 (show zR (xx_knows μ a2) ∧ ((¬ (xx_knows μ a2) = 0 → Ez md_5_fill 0 0 30 [(0, zr 0), (1, zi a1), (2, zi a2)] [] zSh μ _ _ _) ∧ ((xx_knows μ a2) = 0 → Ez md_5_fill 0 0 28 [(0, zr 0), (1, zi a1), (2, zi a2)] [] zSh μ _ _ _)) from ⟨(by omega), fun c4 => ?_, fun c4 => ?_⟩)
    · rw [if_neg c4]
      refine Az.blk kd_5_fill_30 (show Ez md_5_fill 0 0 36 [(0, zr 0), (1, zi a1), (2, zi a2)] [zi a2, zi a1, zr 3] zSh μ _ _ _ from ?_)
      refine Az.cVN (mc := md_1_reasonAgainst) (k := 3) (n := 2) (As := [zi a1, zi a2]) (rest := []) kr_5_fill_36 zw_471 ok_1_reasonAgainst rfl rfl rfl trivial (xz_reasonAgainst hB a1 a2 (by omega) (by omega)) rfl rfl (show Ez md_5_fill 0 0 39 [(0, zr 0), (1, zi a1), (2, zi a2)] [zi (xx_reasonAgainst μ a1 a2)] zSh μ _ _ _ from ?_)
      have r5 : 0 ≤ (xx_reasonAgainst μ a1 a2) ∧ (xx_reasonAgainst μ a1 a2) ≤ 3 := xr_reasonAgainst hB a1 a2 (by omega) (by omega)
      refine Az.blk kd_5_fill_39 (show zR (xx_reasonAgainst μ a1 a2) ∧ (((xx_reasonAgainst μ a1 a2) = 0 → Ez md_5_fill 0 0 49 [(3, zi (xx_reasonAgainst μ a1 a2)), (0, zr 0), (1, zi a1), (2, zi a2)] [] zSh μ _ _ _) ∧ (¬ (xx_reasonAgainst μ a1 a2) = 0 → Ez md_5_fill 0 0 44 [(3, zi (xx_reasonAgainst μ a1 a2)), (0, zr 0), (1, zi a1), (2, zi a2)] [] zSh μ _ _ _)) from ⟨(by omega), fun c6 => ?_, fun c6 => ?_⟩)
      · rw [if_pos c6]
        refine Az.blk kd_5_fill_49 (show Ez md_5_fill 0 0 57 [(3, zi (xx_reasonAgainst μ a1 a2)), (0, zr 0), (1, zi a1), (2, zi a2)] [zi a1, zr 10] zSh μ _ _ _ from ?_)
        refine Az.cVN (mc := md_2_wordIn) (k := 10) (n := 1) (As := [zi a1]) (rest := []) kr_5_fill_57 zw_488 ok_2_wordIn rfl rfl rfl trivial (xz_wordIn hB a1 (by omega)) rfl rfl (show Ez md_5_fill 0 0 60 [(3, zi (xx_reasonAgainst μ a1 a2)), (0, zr 0), (1, zi a1), (2, zi a2)] [zi (xx_wordIn μ a1)] zSh μ _ _ _ from ?_)
        have r7 : -1 ≤ (xx_wordIn μ a1) ∧ (xx_wordIn μ a1) ≤ 23 := xr_wordIn hB a1 (by omega)
        refine Az.blk kd_5_fill_60 (show Ez md_5_fill 0 0 70 [(4, zi (xx_wordIn μ a1)), (3, zi (xx_reasonAgainst μ a1 a2)), (0, zr 0), (1, zi a1), (2, zi a2)] [zr 3, zr 39] zSh μ _ _ _ from ?_)
        refine Az.cVN (mc := md_0_record) (k := 39) (n := 1) (As := [zr 3]) (rest := []) kr_5_fill_70 zw_246 ok_0_record rfl rfl rfl trivial (xz_record hB h0) rfl rfl (show Ez md_5_fill 0 0 73 [(4, zi (xx_wordIn μ a1)), (3, zi (xx_reasonAgainst μ a1 a2)), (0, zr 0), (1, zi a1), (2, zi a2)] [] zSh (xx_record μ) _ _ _ from ?_)
        refine Az.blk kd_5_fill_73 (show Ez md_5_fill 0 0 79 [(4, zi (xx_wordIn μ a1)), (3, zi (xx_reasonAgainst μ a1 a2)), (0, zr 0), (1, zi a1), (2, zi a2)] [zi a2, zi a1, zr 3] zSh (xx_record μ) _ _ _ from ?_)
        refine Az.cVN (mc := md_1_putIn) (k := 3) (n := 2) (As := [zi a1, zi a2]) (rest := []) kr_5_fill_79 zw_499 ok_1_putIn rfl rfl rfl trivial (xz_putIn (xb_record hB h0) a1 a2 (by omega) (by omega)) rfl rfl (show Ez md_5_fill 0 0 82 [(4, zi (xx_wordIn μ a1)), (3, zi (xx_reasonAgainst μ a1 a2)), (0, zr 0), (1, zi a1), (2, zi a2)] [] zSh (xx_putIn (xx_record μ) a1 a2) _ _ _ from ?_)
        refine Az.blk kd_5_fill_82 (show zR (xx_wordIn μ a1) ∧ zR (-1) ∧ ((¬ (xx_wordIn μ a1) = (-1) → Ez md_5_fill 0 0 93 [(4, zi (xx_wordIn μ a1)), (3, zi (xx_reasonAgainst μ a1 a2)), (0, zr 0), (1, zi a1), (2, zi a2)] [] zSh (xx_putIn (xx_record μ) a1 a2) _ _ _) ∧ ((xx_wordIn μ a1) = (-1) → Ez md_5_fill 0 0 88 [(4, zi (xx_wordIn μ a1)), (3, zi (xx_reasonAgainst μ a1 a2)), (0, zr 0), (1, zi a1), (2, zi a2)] [] zSh (xx_putIn (xx_record μ) a1 a2) _ _ _)) from ⟨(by omega), (by omega), fun c8 => ?_, fun c8 => ?_⟩)
        · rw [if_neg c8]
          refine Az.blk kd_5_fill_93 (show Ez md_5_fill 0 0 95 [(4, zi (xx_wordIn μ a1)), (3, zi (xx_reasonAgainst μ a1 a2)), (0, zr 0), (1, zi a1), (2, zi a2)] [zi (xx_wordIn μ a1)] zSh (xx_putIn (xx_record μ) a1 a2) _ _ _ from ?_)
          exact Ez.iret kr_5_fill_95 rfl (Nat.zero_le _) (Nat.zero_le _) rfl rfl
        · rw [if_pos c8]
          refine Az.blk kd_5_fill_88 (show Ez md_5_fill 0 0 95 [(4, zi (xx_wordIn μ a1)), (3, zi (xx_reasonAgainst μ a1 a2)), (0, zr 0), (1, zi a1), (2, zi a2)] [zi 100] zSh (xx_putIn (xx_record μ) a1 a2) _ _ _ from ?_)
          exact Ez.iret kr_5_fill_95 rfl (Nat.zero_le _) (Nat.zero_le _) rfl rfl
      · rw [if_neg c6]
        refine Az.blk kd_5_fill_44 (show Ez md_5_fill 0 0 48 [(3, zi (xx_reasonAgainst μ a1 a2)), (0, zr 0), (1, zi a1), (2, zi a2)] [zi ((-10) - (xx_reasonAgainst μ a1 a2))] zSh μ _ _ _ from ?_)
        exact Ez.iret kr_5_fill_48 rfl (Nat.zero_le _) (Nat.zero_le _) rfl rfl
    · rw [if_pos c4]
      refine Az.blk kd_5_fill_28 (show Ez md_5_fill 0 0 29 [(0, zr 0), (1, zi a1), (2, zi a2)] [zi (-1)] zSh μ _ _ _ from ?_)
      exact Ez.iret kr_5_fill_29 rfl (Nat.zero_le _) (Nat.zero_le _) rfl rfl
def kb_5_empty_0 : List zI := [(.aload_n 0, 1, 0, 0), (.getfield 19, 3, 5, 1), (.getfield 77, 3, 1, 1), (.iload_n 1, 1, 0, 0)]
theorem kd_5_empty_0 : zdec md_5_empty 0 kb_5_empty_0 = true := by decide +kernel
theorem kr_5_empty_8 : decode md_5_empty.2.1 8 = .ok (.invokevirtual 97, 3) := by decide +kernel
def kb_5_empty_11 : List zI := [(.ifCond .ne 5, 3, 16, 0)]
theorem kd_5_empty_11 : zdec md_5_empty 11 kb_5_empty_11 = true := by decide +kernel
def kb_5_empty_16 : List zI := [(.aload_n 0, 1, 0, 0), (.getfield 19, 3, 5, 1), (.getfield 77, 3, 1, 1), (.iload_n 1, 1, 0, 0)]
theorem kd_5_empty_16 : zdec md_5_empty 16 kb_5_empty_16 = true := by decide +kernel
theorem kr_5_empty_24 : decode md_5_empty.2.1 24 = .ok (.invokevirtual 107, 3) := by decide +kernel
def kb_5_empty_27 : List zI := [(.istore_n 2, 1, 0, 0), (.iload_n 2, 1, 0, 0), (.iconst (-1), 1, 0, 0), (.if_icmp .ne 6, 3, 36, 0)]
theorem kd_5_empty_27 : zdec md_5_empty 27 kb_5_empty_27 = true := by decide +kernel
def kb_5_empty_36 : List zI := [(.aload_n 0, 1, 0, 0), (.getfield 29, 3, 5, 3), (.aload_n 0, 1, 0, 0), (.getfield 19, 3, 5, 1)]
theorem kd_5_empty_36 : zdec md_5_empty 36 kb_5_empty_36 = true := by decide +kernel
theorem kr_5_empty_44 : decode md_5_empty.2.1 44 = .ok (.invokevirtual 55, 3) := by decide +kernel
def kb_5_empty_47 : List zI := [(.aload_n 0, 1, 0, 0), (.getfield 19, 3, 5, 1), (.getfield 77, 3, 1, 1), (.getfield 115, 3, 2, 9), (.iload_n 1, 1, 0, 0), (.iconst (-1), 1, 0, 0), (.iastore, 1, 0, 0), (.iload_n 2, 1, 0, 0)]
theorem kd_5_empty_47 : zdec md_5_empty 47 kb_5_empty_47 = true := by decide +kernel
theorem kr_5_empty_61 : decode md_5_empty.2.1 61 = .ok (.ireturn, 1) := by decide +kernel
def kb_5_empty_33 : List zI := [(.bipush (-5), 2, 0, 0)]
theorem kd_5_empty_33 : zdec md_5_empty 33 kb_5_empty_33 = true := by decide +kernel
theorem kr_5_empty_35 : decode md_5_empty.2.1 35 = .ok (.ireturn, 1) := by decide +kernel
def kb_5_empty_14 : List zI := [(.iconst (-1), 1, 0, 0)]
theorem kd_5_empty_14 : zdec md_5_empty 14 kb_5_empty_14 = true := by decide +kernel
theorem kr_5_empty_15 : decode md_5_empty.2.1 15 = .ok (.ireturn, 1) := by decide +kernel
noncomputable def xx_empty (μ : zM) (a1 : Int) : Int × zM := (if (xx_hasHole μ a1) = 0 then ((-1), μ) else (if (xx_wordIn μ a1) = (-1) then ((-5), μ) else ((xx_wordIn μ a1), (zup (xx_record μ) 18 a1 (-1)))))
set_option maxHeartbeats 4000000 in
set_option maxRecDepth 100000 in
theorem xb_empty {μ : zM} (hB : zB μ) (a1 : Int) (h0 : ((μ 40 0) = 41 ∨ (μ 40 0) = 59 ∨ (μ 40 0) = 77 ∨ (μ 40 0) = 95) ∧ ((μ 40 1) = 41 ∨ (μ 40 1) = 59 ∨ (μ 40 1) = 77 ∨ (μ 40 1) = 95) ∧ ((μ 40 2) = 41 ∨ (μ 40 2) = 59 ∨ (μ 40 2) = 77 ∨ (μ 40 2) = 95) ∧ ((μ 40 3) = 41 ∨ (μ 40 3) = 59 ∨ (μ 40 3) = 77 ∨ (μ 40 3) = 95) ∧ ¬ (μ 40 0) = (μ 40 1) ∧ ¬ (μ 40 0) = (μ 40 2) ∧ ¬ (μ 40 0) = (μ 40 3) ∧ ¬ (μ 40 1) = (μ 40 2) ∧ ¬ (μ 40 1) = (μ 40 3) ∧ ¬ (μ 40 2) = (μ 40 3)) (h1 : -2147483648 ≤ a1 ∧ a1 ≤ 2147483647) : zB (xx_empty μ a1).2 := by
  unfold xx_empty
  have r1 : 0 ≤ (xx_hasHole μ a1) ∧ (xx_hasHole μ a1) ≤ 1 ∧ ((xx_hasHole μ a1) = 1 → 0 ≤ a1 ∧ a1 < μ 10 1 ∧ a1 < 20) := xr_hasHole hB a1 (by omega)
  by_cases c2 : (xx_hasHole μ a1) = 0
  · rw [if_pos c2]
    exact hB
  · rw [if_neg c2]
    have r3 : -1 ≤ (xx_wordIn μ a1) ∧ (xx_wordIn μ a1) ≤ 23 := xr_wordIn hB a1 (by omega)
    by_cases c4 : (xx_wordIn μ a1) = (-1)
    · rw [if_pos c4]
      exact hB
    · rw [if_neg c4]
      exact (zup_ok (k := 18) (z := a1) (v := (-1)) (xb_record hB h0) (show (-1) ≤ (-1) ∧ (-1) ≤ 23 from by omega))
set_option maxHeartbeats 4000000 in
set_option maxRecDepth 100000 in
theorem xz_empty {μ : zM} (hB : zB μ) (a1 : Int) (h0 : ((μ 40 0) = 41 ∨ (μ 40 0) = 59 ∨ (μ 40 0) = 77 ∨ (μ 40 0) = 95) ∧ ((μ 40 1) = 41 ∨ (μ 40 1) = 59 ∨ (μ 40 1) = 77 ∨ (μ 40 1) = 95) ∧ ((μ 40 2) = 41 ∨ (μ 40 2) = 59 ∨ (μ 40 2) = 77 ∨ (μ 40 2) = 95) ∧ ((μ 40 3) = 41 ∨ (μ 40 3) = 59 ∨ (μ 40 3) = 77 ∨ (μ 40 3) = 95) ∧ ¬ (μ 40 0) = (μ 40 1) ∧ ¬ (μ 40 0) = (μ 40 2) ∧ ¬ (μ 40 0) = (μ 40 3) ∧ ¬ (μ 40 1) = (μ 40 2) ∧ ¬ (μ 40 1) = (μ 40 3) ∧ ¬ (μ 40 2) = (μ 40 3)) (h1 : -2147483648 ≤ a1 ∧ a1 ≤ 2147483647) : Dz md_5_empty [zr 0, zi a1] zSh μ (some (zi (xx_empty μ a1).1)) zSh (xx_empty μ a1).2 := by
  refine Dz.of (by decide) rfl rfl (show Ez md_5_empty 0 0 0 [(0, zr 0), (1, zi a1)] [] zSh μ (some (zi (xx_empty μ a1).1)) zSh (xx_empty μ a1).2 from ?_)
  unfold xx_empty
  refine Az.blk kd_5_empty_0 (show Ez md_5_empty 0 0 8 [(0, zr 0), (1, zi a1)] [zi a1, zr 10] zSh μ _ _ _ from ?_)
  refine Az.cVN (mc := md_2_hasHole) (k := 10) (n := 1) (As := [zi a1]) (rest := []) kr_5_empty_8 zw_470 ok_2_hasHole rfl rfl rfl trivial (xz_hasHole hB a1 (by omega)) rfl rfl (show Ez md_5_empty 0 0 11 [(0, zr 0), (1, zi a1)] [zi (xx_hasHole μ a1)] zSh μ _ _ _ from ?_)
  have r1 : 0 ≤ (xx_hasHole μ a1) ∧ (xx_hasHole μ a1) ≤ 1 ∧ ((xx_hasHole μ a1) = 1 → 0 ≤ a1 ∧ a1 < μ 10 1 ∧ a1 < 20) := xr_hasHole hB a1 (by omega)
  refine Az.blk kd_5_empty_11 (show zR (xx_hasHole μ a1) ∧ ((¬ (xx_hasHole μ a1) = 0 → Ez md_5_empty 0 0 16 [(0, zr 0), (1, zi a1)] [] zSh μ _ _ _) ∧ ((xx_hasHole μ a1) = 0 → Ez md_5_empty 0 0 14 [(0, zr 0), (1, zi a1)] [] zSh μ _ _ _)) from ⟨(by omega), fun c2 => ?_, fun c2 => ?_⟩)
  · rw [if_neg c2]
    refine Az.blk kd_5_empty_16 (show Ez md_5_empty 0 0 24 [(0, zr 0), (1, zi a1)] [zi a1, zr 10] zSh μ _ _ _ from ?_)
    refine Az.cVN (mc := md_2_wordIn) (k := 10) (n := 1) (As := [zi a1]) (rest := []) kr_5_empty_24 zw_488 ok_2_wordIn rfl rfl rfl trivial (xz_wordIn hB a1 (by omega)) rfl rfl (show Ez md_5_empty 0 0 27 [(0, zr 0), (1, zi a1)] [zi (xx_wordIn μ a1)] zSh μ _ _ _ from ?_)
    have r3 : -1 ≤ (xx_wordIn μ a1) ∧ (xx_wordIn μ a1) ≤ 23 := xr_wordIn hB a1 (by omega)
    refine Az.blk kd_5_empty_27 (show zR (xx_wordIn μ a1) ∧ zR (-1) ∧ ((¬ (xx_wordIn μ a1) = (-1) → Ez md_5_empty 0 0 36 [(2, zi (xx_wordIn μ a1)), (0, zr 0), (1, zi a1)] [] zSh μ _ _ _) ∧ ((xx_wordIn μ a1) = (-1) → Ez md_5_empty 0 0 33 [(2, zi (xx_wordIn μ a1)), (0, zr 0), (1, zi a1)] [] zSh μ _ _ _)) from ⟨(by omega), (by omega), fun c4 => ?_, fun c4 => ?_⟩)
    · rw [if_neg c4]
      refine Az.blk kd_5_empty_36 (show Ez md_5_empty 0 0 44 [(2, zi (xx_wordIn μ a1)), (0, zr 0), (1, zi a1)] [zr 3, zr 39] zSh μ _ _ _ from ?_)
      refine Az.cVN (mc := md_0_record) (k := 39) (n := 1) (As := [zr 3]) (rest := []) kr_5_empty_44 zw_246 ok_0_record rfl rfl rfl trivial (xz_record hB h0) rfl rfl (show Ez md_5_empty 0 0 47 [(2, zi (xx_wordIn μ a1)), (0, zr 0), (1, zi a1)] [] zSh (xx_record μ) _ _ _ from ?_)
      refine Az.blk kd_5_empty_47 (show (0 ≤ a1 ∧ a1 < 20) ∧ Ez md_5_empty 0 0 61 [(2, zi (xx_wordIn μ a1)), (0, zr 0), (1, zi a1)] [zi (xx_wordIn μ a1)] zSh (zup (xx_record μ) 18 a1 (-1)) _ _ _ from ⟨(by omega), ?_⟩)
      exact Ez.iret kr_5_empty_61 rfl (Nat.zero_le _) (Nat.zero_le _) rfl rfl
    · rw [if_pos c4]
      refine Az.blk kd_5_empty_33 (show Ez md_5_empty 0 0 35 [(2, zi (xx_wordIn μ a1)), (0, zr 0), (1, zi a1)] [zi (-5)] zSh μ _ _ _ from ?_)
      exact Ez.iret kr_5_empty_35 rfl (Nat.zero_le _) (Nat.zero_le _) rfl rfl
  · rw [if_pos c2]
    refine Az.blk kd_5_empty_14 (show Ez md_5_empty 0 0 15 [(0, zr 0), (1, zi a1)] [zi (-1)] zSh μ _ _ _ from ?_)
    exact Ez.iret kr_5_empty_15 rfl (Nat.zero_le _) (Nat.zero_le _) rfl rfl
def kb_5_fillAll_0 : List zI := [(.aload_n 0, 1, 0, 0), (.getfield 19, 3, 5, 1)]
theorem kd_5_fillAll_0 : zdec md_5_fillAll 0 kb_5_fillAll_0 = true := by decide +kernel
theorem kr_5_fillAll_4 : decode md_5_fillAll.2.1 4 = .ok (.invokevirtual 118, 3) := by decide +kernel
def kb_5_fillAll_7 : List zI := [(.ifCond .ne 6, 3, 13, 0)]
theorem kd_5_fillAll_7 : zdec md_5_fillAll 7 kb_5_fillAll_7 = true := by decide +kernel
def kb_5_fillAll_13 : List zI := [(.aload_n 0, 1, 0, 0), (.getfield 29, 3, 5, 3), (.aload_n 0, 1, 0, 0), (.getfield 19, 3, 5, 1)]
theorem kd_5_fillAll_13 : zdec md_5_fillAll 13 kb_5_fillAll_13 = true := by decide +kernel
theorem kr_5_fillAll_21 : decode md_5_fillAll.2.1 21 = .ok (.invokevirtual 55, 3) := by decide +kernel
def kb_5_fillAll_24 : List zI := [(.aload_n 0, 1, 0, 0), (.getfield 19, 3, 5, 1)]
theorem kd_5_fillAll_24 : zdec md_5_fillAll 24 kb_5_fillAll_24 = true := by decide +kernel
theorem kr_5_fillAll_28 : decode md_5_fillAll.2.1 28 = .ok (.invokevirtual 122, 3) := by decide +kernel
theorem kr_5_fillAll_31 : decode md_5_fillAll.2.1 31 = .ok (.ireturn, 1) := by decide +kernel
def kb_5_fillAll_10 : List zI := [(.bipush (-5), 2, 0, 0)]
theorem kd_5_fillAll_10 : zdec md_5_fillAll 10 kb_5_fillAll_10 = true := by decide +kernel
theorem kr_5_fillAll_12 : decode md_5_fillAll.2.1 12 = .ok (.ireturn, 1) := by decide +kernel
noncomputable def xx_fillAll (μ : zM) : Int × zM := (if (xx_someHoleCanBeFilled μ) = 0 then ((-5), μ) else ((xx_fillEmptyHoles (xx_record μ)).1, (xx_fillEmptyHoles (xx_record μ)).2))
set_option maxHeartbeats 4000000 in
set_option maxRecDepth 100000 in
theorem xb_fillAll {μ : zM} (hB : zB μ) (h0 : ((μ 40 0) = 41 ∨ (μ 40 0) = 59 ∨ (μ 40 0) = 77 ∨ (μ 40 0) = 95) ∧ ((μ 40 1) = 41 ∨ (μ 40 1) = 59 ∨ (μ 40 1) = 77 ∨ (μ 40 1) = 95) ∧ ((μ 40 2) = 41 ∨ (μ 40 2) = 59 ∨ (μ 40 2) = 77 ∨ (μ 40 2) = 95) ∧ ((μ 40 3) = 41 ∨ (μ 40 3) = 59 ∨ (μ 40 3) = 77 ∨ (μ 40 3) = 95) ∧ ¬ (μ 40 0) = (μ 40 1) ∧ ¬ (μ 40 0) = (μ 40 2) ∧ ¬ (μ 40 0) = (μ 40 3) ∧ ¬ (μ 40 1) = (μ 40 2) ∧ ¬ (μ 40 1) = (μ 40 3) ∧ ¬ (μ 40 2) = (μ 40 3)) : zB (xx_fillAll μ).2 := by
  unfold xx_fillAll
  have r1 : 0 ≤ (xx_someHoleCanBeFilled μ) ∧ (xx_someHoleCanBeFilled μ) ≤ 1 := xr_someHoleCanBeFilled hB
  by_cases c2 : (xx_someHoleCanBeFilled μ) = 0
  · rw [if_pos c2]
    exact hB
  · rw [if_neg c2]
    exact (xb_fillEmptyHoles (xb_record hB h0))
set_option maxHeartbeats 4000000 in
set_option maxRecDepth 100000 in
theorem xz_fillAll {μ : zM} (hB : zB μ) (h0 : ((μ 40 0) = 41 ∨ (μ 40 0) = 59 ∨ (μ 40 0) = 77 ∨ (μ 40 0) = 95) ∧ ((μ 40 1) = 41 ∨ (μ 40 1) = 59 ∨ (μ 40 1) = 77 ∨ (μ 40 1) = 95) ∧ ((μ 40 2) = 41 ∨ (μ 40 2) = 59 ∨ (μ 40 2) = 77 ∨ (μ 40 2) = 95) ∧ ((μ 40 3) = 41 ∨ (μ 40 3) = 59 ∨ (μ 40 3) = 77 ∨ (μ 40 3) = 95) ∧ ¬ (μ 40 0) = (μ 40 1) ∧ ¬ (μ 40 0) = (μ 40 2) ∧ ¬ (μ 40 0) = (μ 40 3) ∧ ¬ (μ 40 1) = (μ 40 2) ∧ ¬ (μ 40 1) = (μ 40 3) ∧ ¬ (μ 40 2) = (μ 40 3)) : Dz md_5_fillAll [zr 0] zSh μ (some (zi (xx_fillAll μ).1)) zSh (xx_fillAll μ).2 := by
  refine Dz.of (by decide) rfl rfl (show Ez md_5_fillAll 0 0 0 [(0, zr 0)] [] zSh μ (some (zi (xx_fillAll μ).1)) zSh (xx_fillAll μ).2 from ?_)
  unfold xx_fillAll
  refine Az.blk kd_5_fillAll_0 (show Ez md_5_fillAll 0 0 4 [(0, zr 0)] [zr 3] zSh μ _ _ _ from ?_)
  refine Az.cVN (mc := md_1_someHoleCanBeFilled) (k := 3) (n := 0) (As := []) (rest := []) kr_5_fillAll_4 zw_512 ok_1_someHoleCanBeFilled rfl rfl rfl trivial (xz_someHoleCanBeFilled hB) rfl rfl (show Ez md_5_fillAll 0 0 7 [(0, zr 0)] [zi (xx_someHoleCanBeFilled μ)] zSh μ _ _ _ from ?_)
  have r1 : 0 ≤ (xx_someHoleCanBeFilled μ) ∧ (xx_someHoleCanBeFilled μ) ≤ 1 := xr_someHoleCanBeFilled hB
  refine Az.blk kd_5_fillAll_7 (show zR (xx_someHoleCanBeFilled μ) ∧ ((¬ (xx_someHoleCanBeFilled μ) = 0 → Ez md_5_fillAll 0 0 13 [(0, zr 0)] [] zSh μ _ _ _) ∧ ((xx_someHoleCanBeFilled μ) = 0 → Ez md_5_fillAll 0 0 10 [(0, zr 0)] [] zSh μ _ _ _)) from ⟨(by omega), fun c2 => ?_, fun c2 => ?_⟩)
  · rw [if_neg c2]
    refine Az.blk kd_5_fillAll_13 (show Ez md_5_fillAll 0 0 21 [(0, zr 0)] [zr 3, zr 39] zSh μ _ _ _ from ?_)
    refine Az.cVN (mc := md_0_record) (k := 39) (n := 1) (As := [zr 3]) (rest := []) kr_5_fillAll_21 zw_246 ok_0_record rfl rfl rfl trivial (xz_record hB h0) rfl rfl (show Ez md_5_fillAll 0 0 24 [(0, zr 0)] [] zSh (xx_record μ) _ _ _ from ?_)
    refine Az.blk kd_5_fillAll_24 (show Ez md_5_fillAll 0 0 28 [(0, zr 0)] [zr 3] zSh (xx_record μ) _ _ _ from ?_)
    refine Az.cVN (mc := md_1_fillEmptyHoles) (k := 3) (n := 0) (As := []) (rest := []) kr_5_fillAll_28 zw_521 ok_1_fillEmptyHoles rfl rfl rfl trivial (xz_fillEmptyHoles (xb_record hB h0)) rfl rfl (show Ez md_5_fillAll 0 0 31 [(0, zr 0)] [zi (xx_fillEmptyHoles (xx_record μ)).1] zSh (xx_fillEmptyHoles (xx_record μ)).2 _ _ _ from ?_)
    exact Ez.iret kr_5_fillAll_31 rfl (Nat.zero_le _) (Nat.zero_le _) rfl rfl
  · rw [if_pos c2]
    refine Az.blk kd_5_fillAll_10 (show Ez md_5_fillAll 0 0 12 [(0, zr 0)] [zi (-5)] zSh μ _ _ _ from ?_)
    exact Ez.iret kr_5_fillAll_12 rfl (Nat.zero_le _) (Nat.zero_le _) rfl rfl
def kb_5_set_0 : List zI := [(.iload_n 1, 1, 0, 0), (.iconst 2, 1, 0, 0)]
theorem kd_5_set_0 : zdec md_5_set 0 kb_5_set_0 = true := by decide +kernel
theorem kr_5_set_2 : decode md_5_set.2.1 2 = .ok (.invokestatic 37, 3) := by decide +kernel
def kb_5_set_5 : List zI := [(.ifCond .ne 6, 3, 11, 0)]
theorem kd_5_set_5 : zdec md_5_set 5 kb_5_set_5 = true := by decide +kernel
def kb_5_set_11 : List zI := [(.aload_n 0, 1, 0, 0), (.getfield 19, 3, 5, 1), (.getfield 125, 3, 1, 4), (.istore_n 2, 1, 0, 0), (.iload_n 1, 1, 0, 0), (.iload_n 2, 1, 0, 0), (.if_icmp .ne 6, 3, 27, 0)]
theorem kd_5_set_11 : zdec md_5_set 11 kb_5_set_11 = true := by decide +kernel
def kb_5_set_27 : List zI := [(.aload_n 0, 1, 0, 0), (.getfield 29, 3, 5, 3), (.aload_n 0, 1, 0, 0), (.getfield 19, 3, 5, 1)]
theorem kd_5_set_27 : zdec md_5_set 27 kb_5_set_27 = true := by decide +kernel
theorem kr_5_set_35 : decode md_5_set.2.1 35 = .ok (.invokevirtual 55, 3) := by decide +kernel
def kb_5_set_38 : List zI := [(.aload_n 0, 1, 0, 0), (.getfield 19, 3, 5, 1), (.iload_n 1, 1, 0, 0), (.putfield 125, 3, 1, 4), (.iload_n 2, 1, 0, 0)]
theorem kd_5_set_38 : zdec md_5_set 38 kb_5_set_38 = true := by decide +kernel
theorem kr_5_set_47 : decode md_5_set.2.1 47 = .ok (.ireturn, 1) := by decide +kernel
def kb_5_set_24 : List zI := [(.bipush (-5), 2, 0, 0)]
theorem kd_5_set_24 : zdec md_5_set 24 kb_5_set_24 = true := by decide +kernel
theorem kr_5_set_26 : decode md_5_set.2.1 26 = .ok (.ireturn, 1) := by decide +kernel
def kb_5_set_8 : List zI := [(.bipush (-2), 2, 0, 0)]
theorem kd_5_set_8 : zdec md_5_set 8 kb_5_set_8 = true := by decide +kernel
theorem kr_5_set_10 : decode md_5_set.2.1 10 = .ok (.ireturn, 1) := by decide +kernel
noncomputable def xx_set (μ : zM) (a1 : Int) : Int × zM := (if (xx_isBelow a1 2) = 0 then ((-2), μ) else (if a1 = (μ 3 4) then ((-5), μ) else ((μ 3 4), (zup (xx_record μ) 3 4 a1))))
set_option maxHeartbeats 4000000 in
set_option maxRecDepth 100000 in
theorem xb_set {μ : zM} (hB : zB μ) (a1 : Int) (h0 : ((μ 40 0) = 41 ∨ (μ 40 0) = 59 ∨ (μ 40 0) = 77 ∨ (μ 40 0) = 95) ∧ ((μ 40 1) = 41 ∨ (μ 40 1) = 59 ∨ (μ 40 1) = 77 ∨ (μ 40 1) = 95) ∧ ((μ 40 2) = 41 ∨ (μ 40 2) = 59 ∨ (μ 40 2) = 77 ∨ (μ 40 2) = 95) ∧ ((μ 40 3) = 41 ∨ (μ 40 3) = 59 ∨ (μ 40 3) = 77 ∨ (μ 40 3) = 95) ∧ ¬ (μ 40 0) = (μ 40 1) ∧ ¬ (μ 40 0) = (μ 40 2) ∧ ¬ (μ 40 0) = (μ 40 3) ∧ ¬ (μ 40 1) = (μ 40 2) ∧ ¬ (μ 40 1) = (μ 40 3) ∧ ¬ (μ 40 2) = (μ 40 3)) (h1 : -2147483648 ≤ a1 ∧ a1 ≤ 2147483647) : zB (xx_set μ a1).2 := by
  unfold xx_set
  have r1 : 0 ≤ (xx_isBelow a1 2) ∧ (xx_isBelow a1 2) ≤ 1 ∧ ((xx_isBelow a1 2) = 1 → 0 ≤ a1 ∧ a1 < (2 : Int)) := xr_isBelow a1 2 (by omega) (by omega)
  by_cases c2 : (xx_isBelow a1 2) = 0
  · rw [if_pos c2]
    exact hB
  · rw [if_neg c2]
    have b3 : 0 ≤ (μ 3 4) ∧ (μ 3 4) ≤ 1 := hB 3 4
    by_cases c4 : a1 = (μ 3 4)
    · rw [if_pos c4]
      exact hB
    · rw [if_neg c4]
      exact (zup_ok (k := 3) (z := 4) (v := a1) (xb_record hB h0) (show 0 ≤ a1 ∧ a1 ≤ 1 from by omega))
set_option maxHeartbeats 4000000 in
set_option maxRecDepth 100000 in
theorem xz_set {μ : zM} (hB : zB μ) (a1 : Int) (h0 : ((μ 40 0) = 41 ∨ (μ 40 0) = 59 ∨ (μ 40 0) = 77 ∨ (μ 40 0) = 95) ∧ ((μ 40 1) = 41 ∨ (μ 40 1) = 59 ∨ (μ 40 1) = 77 ∨ (μ 40 1) = 95) ∧ ((μ 40 2) = 41 ∨ (μ 40 2) = 59 ∨ (μ 40 2) = 77 ∨ (μ 40 2) = 95) ∧ ((μ 40 3) = 41 ∨ (μ 40 3) = 59 ∨ (μ 40 3) = 77 ∨ (μ 40 3) = 95) ∧ ¬ (μ 40 0) = (μ 40 1) ∧ ¬ (μ 40 0) = (μ 40 2) ∧ ¬ (μ 40 0) = (μ 40 3) ∧ ¬ (μ 40 1) = (μ 40 2) ∧ ¬ (μ 40 1) = (μ 40 3) ∧ ¬ (μ 40 2) = (μ 40 3)) (h1 : -2147483648 ≤ a1 ∧ a1 ≤ 2147483647) : Dz md_5_set [zr 0, zi a1] zSh μ (some (zi (xx_set μ a1).1)) zSh (xx_set μ a1).2 := by
  refine Dz.of (by decide) rfl rfl (show Ez md_5_set 0 0 0 [(0, zr 0), (1, zi a1)] [] zSh μ (some (zi (xx_set μ a1).1)) zSh (xx_set μ a1).2 from ?_)
  unfold xx_set
  refine Az.blk kd_5_set_0 (show Ez md_5_set 0 0 2 [(0, zr 0), (1, zi a1)] [zi 2, zi a1] zSh μ _ _ _ from ?_)
  refine Az.cS (mc := md_5_isBelow) (n := 2) (As := [zi a1, zi 2]) (rest := []) kr_5_set_2 zw_422 ok_5_isBelow rfl rfl (xz_isBelow a1 2 (by omega) (by omega)) rfl rfl (show Ez md_5_set 0 0 5 [(0, zr 0), (1, zi a1)] [zi (xx_isBelow a1 2)] zSh μ _ _ _ from ?_)
  have r1 : 0 ≤ (xx_isBelow a1 2) ∧ (xx_isBelow a1 2) ≤ 1 ∧ ((xx_isBelow a1 2) = 1 → 0 ≤ a1 ∧ a1 < (2 : Int)) := xr_isBelow a1 2 (by omega) (by omega)
  refine Az.blk kd_5_set_5 (show zR (xx_isBelow a1 2) ∧ ((¬ (xx_isBelow a1 2) = 0 → Ez md_5_set 0 0 11 [(0, zr 0), (1, zi a1)] [] zSh μ _ _ _) ∧ ((xx_isBelow a1 2) = 0 → Ez md_5_set 0 0 8 [(0, zr 0), (1, zi a1)] [] zSh μ _ _ _)) from ⟨(by omega), fun c2 => ?_, fun c2 => ?_⟩)
  · rw [if_neg c2]
    have b3 : 0 ≤ (μ 3 4) ∧ (μ 3 4) ≤ 1 := hB 3 4
    refine Az.blk kd_5_set_11 (show zR a1 ∧ zR (μ 3 4) ∧ ((¬ a1 = (μ 3 4) → Ez md_5_set 0 0 27 [(2, zi (μ 3 4)), (0, zr 0), (1, zi a1)] [] zSh μ _ _ _) ∧ (a1 = (μ 3 4) → Ez md_5_set 0 0 24 [(2, zi (μ 3 4)), (0, zr 0), (1, zi a1)] [] zSh μ _ _ _)) from ⟨(by omega), (by omega), fun c4 => ?_, fun c4 => ?_⟩)
    · rw [if_neg c4]
      refine Az.blk kd_5_set_27 (show Ez md_5_set 0 0 35 [(2, zi (μ 3 4)), (0, zr 0), (1, zi a1)] [zr 3, zr 39] zSh μ _ _ _ from ?_)
      refine Az.cVN (mc := md_0_record) (k := 39) (n := 1) (As := [zr 3]) (rest := []) kr_5_set_35 zw_246 ok_0_record rfl rfl rfl trivial (xz_record hB h0) rfl rfl (show Ez md_5_set 0 0 38 [(2, zi (μ 3 4)), (0, zr 0), (1, zi a1)] [] zSh (xx_record μ) _ _ _ from ?_)
      refine Az.blk kd_5_set_38 (show Ez md_5_set 0 0 47 [(2, zi (μ 3 4)), (0, zr 0), (1, zi a1)] [zi (μ 3 4)] zSh (zup (xx_record μ) 3 4 a1) _ _ _ from ?_)
      exact Ez.iret kr_5_set_47 rfl (Nat.zero_le _) (Nat.zero_le _) rfl rfl
    · rw [if_pos c4]
      refine Az.blk kd_5_set_24 (show Ez md_5_set 0 0 26 [(2, zi (μ 3 4)), (0, zr 0), (1, zi a1)] [zi (-5)] zSh μ _ _ _ from ?_)
      exact Ez.iret kr_5_set_26 rfl (Nat.zero_le _) (Nat.zero_le _) rfl rfl
  · rw [if_pos c2]
    refine Az.blk kd_5_set_8 (show Ez md_5_set 0 0 10 [(0, zr 0), (1, zi a1)] [zi (-2)] zSh μ _ _ _ from ?_)
    exact Ez.iret kr_5_set_10 rfl (Nat.zero_le _) (Nat.zero_le _) rfl rfl
def kb_5_type_0 : List zI := [(.aload_n 0, 1, 0, 0), (.getfield 12, 3, 5, 0), (.getfield 128, 3, 3, 1), (.bipush 60, 2, 0, 0), (.if_icmp .lt 6, 3, 15, 0)]
theorem kd_5_type_0 : zdec md_5_type 0 kb_5_type_0 = true := by decide +kernel
def kb_5_type_15 : List zI := [(.aload_n 0, 1, 0, 0), (.getfield 12, 3, 5, 0), (.iload_n 1, 1, 0, 0)]
theorem kd_5_type_15 : zdec md_5_type 15 kb_5_type_15 = true := by decide +kernel
theorem kr_5_type_20 : decode md_5_type.2.1 20 = .ok (.invokevirtual 131, 3) := by decide +kernel
def kb_5_type_23 : List zI := [(.aload_n 0, 1, 0, 0), (.getfield 12, 3, 5, 0), (.getfield 128, 3, 3, 1)]
theorem kd_5_type_23 : zdec md_5_type 23 kb_5_type_23 = true := by decide +kernel
theorem kr_5_type_30 : decode md_5_type.2.1 30 = .ok (.ireturn, 1) := by decide +kernel
def kb_5_type_12 : List zI := [(.bipush (-3), 2, 0, 0)]
theorem kd_5_type_12 : zdec md_5_type 12 kb_5_type_12 = true := by decide +kernel
theorem kr_5_type_14 : decode md_5_type.2.1 14 = .ok (.ireturn, 1) := by decide +kernel
noncomputable def xx_type (μ : zM) (a1 : Int) : Int × zM := (if (μ 1 1) < 60 then (((xx_append μ a1) 1 1), (xx_append μ a1)) else ((-3), μ))
set_option maxHeartbeats 4000000 in
set_option maxRecDepth 100000 in
theorem xb_type {μ : zM} (hB : zB μ) (a1 : Int) (h0 : ((μ 40 0) = 41 ∨ (μ 40 0) = 59 ∨ (μ 40 0) = 77 ∨ (μ 40 0) = 95) ∧ ((μ 40 1) = 41 ∨ (μ 40 1) = 59 ∨ (μ 40 1) = 77 ∨ (μ 40 1) = 95) ∧ ((μ 40 2) = 41 ∨ (μ 40 2) = 59 ∨ (μ 40 2) = 77 ∨ (μ 40 2) = 95) ∧ ((μ 40 3) = 41 ∨ (μ 40 3) = 59 ∨ (μ 40 3) = 77 ∨ (μ 40 3) = 95) ∧ ¬ (μ 40 0) = (μ 40 1) ∧ ¬ (μ 40 0) = (μ 40 2) ∧ ¬ (μ 40 0) = (μ 40 3) ∧ ¬ (μ 40 1) = (μ 40 2) ∧ ¬ (μ 40 1) = (μ 40 3) ∧ ¬ (μ 40 2) = (μ 40 3)) (h1 : 0 ≤ a1 ∧ a1 ≤ 65535) : zB (xx_type μ a1).2 := by
  unfold xx_type
  have b1 : 0 ≤ (μ 1 1) ∧ (μ 1 1) ≤ 60 := hB 1 1
  by_cases c2 : (μ 1 1) < 60
  · rw [if_pos c2]
    have b3 : 0 ≤ ((xx_append μ a1) 1 1) ∧ ((xx_append μ a1) 1 1) ≤ 60 := (xb_append hB a1 (by omega)) 1 1
    exact (xb_append hB a1 (by omega))
  · rw [if_neg c2]
    exact hB
set_option maxHeartbeats 4000000 in
set_option maxRecDepth 100000 in
theorem xz_type {μ : zM} (hB : zB μ) (a1 : Int) (h0 : ((μ 40 0) = 41 ∨ (μ 40 0) = 59 ∨ (μ 40 0) = 77 ∨ (μ 40 0) = 95) ∧ ((μ 40 1) = 41 ∨ (μ 40 1) = 59 ∨ (μ 40 1) = 77 ∨ (μ 40 1) = 95) ∧ ((μ 40 2) = 41 ∨ (μ 40 2) = 59 ∨ (μ 40 2) = 77 ∨ (μ 40 2) = 95) ∧ ((μ 40 3) = 41 ∨ (μ 40 3) = 59 ∨ (μ 40 3) = 77 ∨ (μ 40 3) = 95) ∧ ¬ (μ 40 0) = (μ 40 1) ∧ ¬ (μ 40 0) = (μ 40 2) ∧ ¬ (μ 40 0) = (μ 40 3) ∧ ¬ (μ 40 1) = (μ 40 2) ∧ ¬ (μ 40 1) = (μ 40 3) ∧ ¬ (μ 40 2) = (μ 40 3)) (h1 : 0 ≤ a1 ∧ a1 ≤ 65535) : Dz md_5_type [zr 0, zi a1] zSh μ (some (zi (xx_type μ a1).1)) zSh (xx_type μ a1).2 := by
  refine Dz.of (by decide) rfl rfl (show Ez md_5_type 0 0 0 [(0, zr 0), (1, zi a1)] [] zSh μ (some (zi (xx_type μ a1).1)) zSh (xx_type μ a1).2 from ?_)
  unfold xx_type
  have b1 : 0 ≤ (μ 1 1) ∧ (μ 1 1) ≤ 60 := hB 1 1
  refine Az.blk kd_5_type_0 (show zR (μ 1 1) ∧ zR 60 ∧ (((μ 1 1) < 60 → Ez md_5_type 0 0 15 [(0, zr 0), (1, zi a1)] [] zSh μ _ _ _) ∧ (¬ (μ 1 1) < 60 → Ez md_5_type 0 0 12 [(0, zr 0), (1, zi a1)] [] zSh μ _ _ _)) from ⟨(by omega), (by omega), fun c2 => ?_, fun c2 => ?_⟩)
  · rw [if_pos c2]
    refine Az.blk kd_5_type_15 (show Ez md_5_type 0 0 20 [(0, zr 0), (1, zi a1)] [zi a1, zr 1] zSh μ _ _ _ from ?_)
    refine Az.cVN (mc := md_3_append) (k := 1) (n := 1) (As := [zi a1]) (rest := []) kr_5_type_20 zw_188 ok_3_append rfl rfl rfl trivial (xz_append hB a1 (by omega)) rfl rfl (show Ez md_5_type 0 0 23 [(0, zr 0), (1, zi a1)] [] zSh (xx_append μ a1) _ _ _ from ?_)
    have b3 : 0 ≤ ((xx_append μ a1) 1 1) ∧ ((xx_append μ a1) 1 1) ≤ 60 := (xb_append hB a1 (by omega)) 1 1
    refine Az.blk kd_5_type_23 (show Ez md_5_type 0 0 30 [(0, zr 0), (1, zi a1)] [zi ((xx_append μ a1) 1 1)] zSh (xx_append μ a1) _ _ _ from ?_)
    exact Ez.iret kr_5_type_30 rfl (Nat.zero_le _) (Nat.zero_le _) rfl rfl
  · rw [if_neg c2]
    refine Az.blk kd_5_type_12 (show Ez md_5_type 0 0 14 [(0, zr 0), (1, zi a1)] [zi (-3)] zSh μ _ _ _ from ?_)
    exact Ez.iret kr_5_type_14 rfl (Nat.zero_le _) (Nat.zero_le _) rfl rfl
def kb_5_clearText_0 : List zI := [(.aload_n 0, 1, 0, 0), (.getfield 12, 3, 5, 0), (.getfield 128, 3, 3, 1), (.istore_n 1, 1, 0, 0), (.aload_n 0, 1, 0, 0), (.getfield 12, 3, 5, 0), (.iconst 0, 1, 0, 0), (.putfield 128, 3, 3, 1), (.iload_n 1, 1, 0, 0)]
theorem kd_5_clearText_0 : zdec md_5_clearText 0 kb_5_clearText_0 = true := by decide +kernel
theorem kr_5_clearText_17 : decode md_5_clearText.2.1 17 = .ok (.ireturn, 1) := by decide +kernel
noncomputable def xx_clearText (μ : zM) : Int × zM := ((μ 1 1), (zup μ 1 1 0))
set_option maxHeartbeats 4000000 in
set_option maxRecDepth 100000 in
theorem xb_clearText {μ : zM} (hB : zB μ) (h0 : ((μ 40 0) = 41 ∨ (μ 40 0) = 59 ∨ (μ 40 0) = 77 ∨ (μ 40 0) = 95) ∧ ((μ 40 1) = 41 ∨ (μ 40 1) = 59 ∨ (μ 40 1) = 77 ∨ (μ 40 1) = 95) ∧ ((μ 40 2) = 41 ∨ (μ 40 2) = 59 ∨ (μ 40 2) = 77 ∨ (μ 40 2) = 95) ∧ ((μ 40 3) = 41 ∨ (μ 40 3) = 59 ∨ (μ 40 3) = 77 ∨ (μ 40 3) = 95) ∧ ¬ (μ 40 0) = (μ 40 1) ∧ ¬ (μ 40 0) = (μ 40 2) ∧ ¬ (μ 40 0) = (μ 40 3) ∧ ¬ (μ 40 1) = (μ 40 2) ∧ ¬ (μ 40 1) = (μ 40 3) ∧ ¬ (μ 40 2) = (μ 40 3)) : zB (xx_clearText μ).2 := by
  unfold xx_clearText
  have b1 : 0 ≤ (μ 1 1) ∧ (μ 1 1) ≤ 60 := hB 1 1
  exact (zup_ok (k := 1) (z := 1) (v := 0) hB (show 0 ≤ 0 ∧ 0 ≤ 60 from by omega))
set_option maxHeartbeats 4000000 in
set_option maxRecDepth 100000 in
theorem xz_clearText {μ : zM} (hB : zB μ) (h0 : ((μ 40 0) = 41 ∨ (μ 40 0) = 59 ∨ (μ 40 0) = 77 ∨ (μ 40 0) = 95) ∧ ((μ 40 1) = 41 ∨ (μ 40 1) = 59 ∨ (μ 40 1) = 77 ∨ (μ 40 1) = 95) ∧ ((μ 40 2) = 41 ∨ (μ 40 2) = 59 ∨ (μ 40 2) = 77 ∨ (μ 40 2) = 95) ∧ ((μ 40 3) = 41 ∨ (μ 40 3) = 59 ∨ (μ 40 3) = 77 ∨ (μ 40 3) = 95) ∧ ¬ (μ 40 0) = (μ 40 1) ∧ ¬ (μ 40 0) = (μ 40 2) ∧ ¬ (μ 40 0) = (μ 40 3) ∧ ¬ (μ 40 1) = (μ 40 2) ∧ ¬ (μ 40 1) = (μ 40 3) ∧ ¬ (μ 40 2) = (μ 40 3)) : Dz md_5_clearText [zr 0] zSh μ (some (zi (xx_clearText μ).1)) zSh (xx_clearText μ).2 := by
  refine Dz.of (by decide) rfl rfl (show Ez md_5_clearText 0 0 0 [(0, zr 0)] [] zSh μ (some (zi (xx_clearText μ).1)) zSh (xx_clearText μ).2 from ?_)
  unfold xx_clearText
  have b1 : 0 ≤ (μ 1 1) ∧ (μ 1 1) ≤ 60 := hB 1 1
  refine Az.blk kd_5_clearText_0 (show Ez md_5_clearText 0 0 17 [(1, zi (μ 1 1)), (0, zr 0)] [zi (μ 1 1)] zSh (zup μ 1 1 0) _ _ _ from ?_)
  exact Ez.iret kr_5_clearText_17 rfl (Nat.zero_le _) (Nat.zero_le _) rfl rfl
def kb_5_undo_0 : List zI := [(.aload_n 0, 1, 0, 0), (.getfield 29, 3, 5, 3), (.getfield 135, 3, 0, 1), (.ifCond .ne 6, 3, 13, 0)]
theorem kd_5_undo_0 : zdec md_5_undo 0 kb_5_undo_0 = true := by decide +kernel
def kb_5_undo_13 : List zI := [(.aload_n 0, 1, 0, 0), (.getfield 29, 3, 5, 3), (.aload_n 0, 1, 0, 0), (.getfield 19, 3, 5, 1)]
theorem kd_5_undo_13 : zdec md_5_undo 13 kb_5_undo_13 = true := by decide +kernel
theorem kr_5_undo_21 : decode md_5_undo.2.1 21 = .ok (.invokevirtual 138, 3) := by decide +kernel
def kb_5_undo_24 : List zI := [(.aload_n 0, 1, 0, 0), (.getfield 29, 3, 5, 3), (.getfield 135, 3, 0, 1)]
theorem kd_5_undo_24 : zdec md_5_undo 24 kb_5_undo_24 = true := by decide +kernel
theorem kr_5_undo_31 : decode md_5_undo.2.1 31 = .ok (.ireturn, 1) := by decide +kernel
def kb_5_undo_10 : List zI := [(.bipush (-5), 2, 0, 0)]
theorem kd_5_undo_10 : zdec md_5_undo 10 kb_5_undo_10 = true := by decide +kernel
theorem kr_5_undo_12 : decode md_5_undo.2.1 12 = .ok (.ireturn, 1) := by decide +kernel
noncomputable def xx_undo (μ : zM) : Int × zM := (if (μ 39 1) = 0 then ((-5), μ) else (((xx_bringBack μ) 39 1), (xx_bringBack μ)))
set_option maxHeartbeats 4000000 in
set_option maxRecDepth 100000 in
theorem xb_undo {μ : zM} (hB : zB μ) (h0 : ((μ 40 0) = 41 ∨ (μ 40 0) = 59 ∨ (μ 40 0) = 77 ∨ (μ 40 0) = 95) ∧ ((μ 40 1) = 41 ∨ (μ 40 1) = 59 ∨ (μ 40 1) = 77 ∨ (μ 40 1) = 95) ∧ ((μ 40 2) = 41 ∨ (μ 40 2) = 59 ∨ (μ 40 2) = 77 ∨ (μ 40 2) = 95) ∧ ((μ 40 3) = 41 ∨ (μ 40 3) = 59 ∨ (μ 40 3) = 77 ∨ (μ 40 3) = 95) ∧ ¬ (μ 40 0) = (μ 40 1) ∧ ¬ (μ 40 0) = (μ 40 2) ∧ ¬ (μ 40 0) = (μ 40 3) ∧ ¬ (μ 40 1) = (μ 40 2) ∧ ¬ (μ 40 1) = (μ 40 3) ∧ ¬ (μ 40 2) = (μ 40 3)) : zB (xx_undo μ).2 := by
  unfold xx_undo
  have b1 : 0 ≤ (μ 39 1) ∧ (μ 39 1) ≤ 4 := hB 39 1
  by_cases c2 : (μ 39 1) = 0
  · rw [if_pos c2]
    exact hB
  · rw [if_neg c2]
    have b3 : 0 ≤ ((xx_bringBack μ) 39 1) ∧ ((xx_bringBack μ) 39 1) ≤ 4 := (xb_bringBack hB h0 (by omega)) 39 1
    exact (xb_bringBack hB h0 (by omega))
set_option maxHeartbeats 4000000 in
set_option maxRecDepth 100000 in
theorem xz_undo {μ : zM} (hB : zB μ) (h0 : ((μ 40 0) = 41 ∨ (μ 40 0) = 59 ∨ (μ 40 0) = 77 ∨ (μ 40 0) = 95) ∧ ((μ 40 1) = 41 ∨ (μ 40 1) = 59 ∨ (μ 40 1) = 77 ∨ (μ 40 1) = 95) ∧ ((μ 40 2) = 41 ∨ (μ 40 2) = 59 ∨ (μ 40 2) = 77 ∨ (μ 40 2) = 95) ∧ ((μ 40 3) = 41 ∨ (μ 40 3) = 59 ∨ (μ 40 3) = 77 ∨ (μ 40 3) = 95) ∧ ¬ (μ 40 0) = (μ 40 1) ∧ ¬ (μ 40 0) = (μ 40 2) ∧ ¬ (μ 40 0) = (μ 40 3) ∧ ¬ (μ 40 1) = (μ 40 2) ∧ ¬ (μ 40 1) = (μ 40 3) ∧ ¬ (μ 40 2) = (μ 40 3)) : Dz md_5_undo [zr 0] zSh μ (some (zi (xx_undo μ).1)) zSh (xx_undo μ).2 := by
  refine Dz.of (by decide) rfl rfl (show Ez md_5_undo 0 0 0 [(0, zr 0)] [] zSh μ (some (zi (xx_undo μ).1)) zSh (xx_undo μ).2 from ?_)
  unfold xx_undo
  have b1 : 0 ≤ (μ 39 1) ∧ (μ 39 1) ≤ 4 := hB 39 1
  refine Az.blk kd_5_undo_0 (show zR (μ 39 1) ∧ ((¬ (μ 39 1) = 0 → Ez md_5_undo 0 0 13 [(0, zr 0)] [] zSh μ _ _ _) ∧ ((μ 39 1) = 0 → Ez md_5_undo 0 0 10 [(0, zr 0)] [] zSh μ _ _ _)) from ⟨(by omega), fun c2 => ?_, fun c2 => ?_⟩)
  · rw [if_neg c2]
    refine Az.blk kd_5_undo_13 (show Ez md_5_undo 0 0 21 [(0, zr 0)] [zr 3, zr 39] zSh μ _ _ _ from ?_)
    refine Az.cVN (mc := md_0_bringBack) (k := 39) (n := 1) (As := [zr 3]) (rest := []) kr_5_undo_21 zw_534 ok_0_bringBack rfl rfl rfl trivial (xz_bringBack hB h0 (by omega)) rfl rfl (show Ez md_5_undo 0 0 24 [(0, zr 0)] [] zSh (xx_bringBack μ) _ _ _ from ?_)
    have b3 : 0 ≤ ((xx_bringBack μ) 39 1) ∧ ((xx_bringBack μ) 39 1) ≤ 4 := (xb_bringBack hB h0 (by omega)) 39 1
    refine Az.blk kd_5_undo_24 (show Ez md_5_undo 0 0 31 [(0, zr 0)] [zi ((xx_bringBack μ) 39 1)] zSh (xx_bringBack μ) _ _ _ from ?_)
    exact Ez.iret kr_5_undo_31 rfl (Nat.zero_le _) (Nat.zero_le _) rfl rfl
  · rw [if_pos c2]
    refine Az.blk kd_5_undo_10 (show Ez md_5_undo 0 0 12 [(0, zr 0)] [zi (-5)] zSh μ _ _ _ from ?_)
    exact Ez.iret kr_5_undo_12 rfl (Nat.zero_le _) (Nat.zero_le _) rfl rfl
def kb_5_keep_0 : List zI := [(.aload_n 0, 1, 0, 0), (.getfield 23, 3, 5, 2), (.aload_n 0, 1, 0, 0), (.getfield 19, 3, 5, 1)]
theorem kd_5_keep_0 : zdec md_5_keep 0 kb_5_keep_0 = true := by decide +kernel
theorem kr_5_keep_8 : decode md_5_keep.2.1 8 = .ok (.invokevirtual 141, 3) := by decide +kernel
def kb_5_keep_11 : List zI := [(.aload_n 0, 1, 0, 0), (.iconst 1, 1, 0, 0)]
theorem kd_5_keep_11 : zdec md_5_keep 11 kb_5_keep_11 = true := by decide +kernel
theorem kr_5_keep_13 : decode md_5_keep.2.1 13 = .ok (.putfield 33, 3) := by decide +kernel
def kb_5_keep_16 : List zI := [(.aload_n 0, 1, 0, 0), (.getfield 19, 3, 5, 1), (.getfield 45, 3, 1, 0), (.getfield 49, 3, 4, 0)]
theorem kd_5_keep_16 : zdec md_5_keep 16 kb_5_keep_16 = true := by decide +kernel
theorem kr_5_keep_26 : decode md_5_keep.2.1 26 = .ok (.ireturn, 1) := by decide +kernel
noncomputable def xx_keep (μ : zM) : Int × zM := (((zcs μ 21 3) 4 0), (zup (zcs μ 21 3) 0 4 1))
set_option maxHeartbeats 4000000 in
set_option maxRecDepth 100000 in
theorem xb_keep {μ : zM} (hB : zB μ) (h0 : ((μ 40 0) = 41 ∨ (μ 40 0) = 59 ∨ (μ 40 0) = 77 ∨ (μ 40 0) = 95) ∧ ((μ 40 1) = 41 ∨ (μ 40 1) = 59 ∨ (μ 40 1) = 77 ∨ (μ 40 1) = 95) ∧ ((μ 40 2) = 41 ∨ (μ 40 2) = 59 ∨ (μ 40 2) = 77 ∨ (μ 40 2) = 95) ∧ ((μ 40 3) = 41 ∨ (μ 40 3) = 59 ∨ (μ 40 3) = 77 ∨ (μ 40 3) = 95) ∧ ¬ (μ 40 0) = (μ 40 1) ∧ ¬ (μ 40 0) = (μ 40 2) ∧ ¬ (μ 40 0) = (μ 40 3) ∧ ¬ (μ 40 1) = (μ 40 2) ∧ ¬ (μ 40 1) = (μ 40 3) ∧ ¬ (μ 40 2) = (μ 40 3)) : zB (xx_keep μ).2 := by
  unfold xx_keep
  have b1 : 0 ≤ ((zcs μ 21 3) 4 0) ∧ ((zcs μ 21 3) 4 0) ≤ 24 := (zcs_ok hB (by unfold zst; omega) (by unfold zst; omega)) 4 0
  exact (zup_ok (k := 0) (z := 4) (v := 1) (zcs_ok hB (by unfold zst; omega) (by unfold zst; omega)) (show 0 ≤ 1 ∧ 1 ≤ 1 from by omega))
set_option maxHeartbeats 4000000 in
set_option maxRecDepth 100000 in
theorem xz_keep {μ : zM} (hB : zB μ) (h0 : ((μ 40 0) = 41 ∨ (μ 40 0) = 59 ∨ (μ 40 0) = 77 ∨ (μ 40 0) = 95) ∧ ((μ 40 1) = 41 ∨ (μ 40 1) = 59 ∨ (μ 40 1) = 77 ∨ (μ 40 1) = 95) ∧ ((μ 40 2) = 41 ∨ (μ 40 2) = 59 ∨ (μ 40 2) = 77 ∨ (μ 40 2) = 95) ∧ ((μ 40 3) = 41 ∨ (μ 40 3) = 59 ∨ (μ 40 3) = 77 ∨ (μ 40 3) = 95) ∧ ¬ (μ 40 0) = (μ 40 1) ∧ ¬ (μ 40 0) = (μ 40 2) ∧ ¬ (μ 40 0) = (μ 40 3) ∧ ¬ (μ 40 1) = (μ 40 2) ∧ ¬ (μ 40 1) = (μ 40 3) ∧ ¬ (μ 40 2) = (μ 40 3)) : Dz md_5_keep [zr 0] zSh μ (some (zi (xx_keep μ).1)) zSh (xx_keep μ).2 := by
  refine Dz.of (by decide) rfl rfl (show Ez md_5_keep 0 0 0 [(0, zr 0)] [] zSh μ (some (zi (xx_keep μ).1)) zSh (xx_keep μ).2 from ?_)
  unfold xx_keep
  refine Az.blk kd_5_keep_0 (show Ez md_5_keep 0 0 8 [(0, zr 0)] [zr 3, zr 21] zSh μ _ _ _ from ?_)
  refine Az.cVN (mc := md_1_copyFrom) (k := 21) (n := 1) (As := [zr 3]) (rest := []) kr_5_keep_8 zw_542 ok_1_copyFrom rfl rfl rfl trivial (xz_copyFrom 21 3 (by unfold zpair; omega)) rfl rfl (show Ez md_5_keep 0 0 11 [(0, zr 0)] [] zSh (zcs μ 21 3) _ _ _ from ?_)
  refine Az.blk kd_5_keep_11 (show Ez md_5_keep 0 0 13 [(0, zr 0)] [zi 1, zr 0] zSh (zcs μ 21 3) _ _ _ from ?_)
  refine Az.putz (ci := 5) (b := 4) kr_5_keep_13 rfl rfl rfl (by omega) rfl rfl (show Ez md_5_keep 0 0 16 [(0, zr 0)] [] zSh (zup (zcs μ 21 3) 0 4 1) _ _ _ from ?_)
  have b1 : 0 ≤ ((zcs μ 21 3) 4 0) ∧ ((zcs μ 21 3) 4 0) ≤ 24 := (zcs_ok hB (by unfold zst; omega) (by unfold zst; omega)) 4 0
  refine Az.blk kd_5_keep_16 (show Ez md_5_keep 0 0 26 [(0, zr 0)] [zi ((zcs μ 21 3) 4 0)] zSh (zup (zcs μ 21 3) 0 4 1) _ _ _ from ?_)
  exact Ez.iret kr_5_keep_26 rfl (Nat.zero_le _) (Nat.zero_le _) rfl rfl
def kb_5_restore_0 : List zI := [(.aload_n 0, 1, 0, 0), (.getfield 33, 3, 5, 4), (.ifCond .ne 6, 3, 10, 0)]
theorem kd_5_restore_0 : zdec md_5_restore 0 kb_5_restore_0 = true := by decide +kernel
def kb_5_restore_10 : List zI := [(.aload_n 0, 1, 0, 0), (.getfield 29, 3, 5, 3), (.aload_n 0, 1, 0, 0), (.getfield 19, 3, 5, 1)]
theorem kd_5_restore_10 : zdec md_5_restore 10 kb_5_restore_10 = true := by decide +kernel
theorem kr_5_restore_18 : decode md_5_restore.2.1 18 = .ok (.invokevirtual 55, 3) := by decide +kernel
def kb_5_restore_21 : List zI := [(.aload_n 0, 1, 0, 0), (.getfield 19, 3, 5, 1), (.aload_n 0, 1, 0, 0), (.getfield 23, 3, 5, 2)]
theorem kd_5_restore_21 : zdec md_5_restore 21 kb_5_restore_21 = true := by decide +kernel
theorem kr_5_restore_29 : decode md_5_restore.2.1 29 = .ok (.invokevirtual 141, 3) := by decide +kernel
def kb_5_restore_32 : List zI := [(.aload_n 0, 1, 0, 0), (.getfield 19, 3, 5, 1), (.getfield 45, 3, 1, 0), (.getfield 49, 3, 4, 0)]
theorem kd_5_restore_32 : zdec md_5_restore 32 kb_5_restore_32 = true := by decide +kernel
theorem kr_5_restore_42 : decode md_5_restore.2.1 42 = .ok (.ireturn, 1) := by decide +kernel
def kb_5_restore_7 : List zI := [(.bipush (-5), 2, 0, 0)]
theorem kd_5_restore_7 : zdec md_5_restore 7 kb_5_restore_7 = true := by decide +kernel
theorem kr_5_restore_9 : decode md_5_restore.2.1 9 = .ok (.ireturn, 1) := by decide +kernel
noncomputable def xx_restore (μ : zM) : Int × zM := (if (μ 0 4) = 0 then ((-5), μ) else (((zcs (xx_record μ) 3 21) 4 0), (zcs (xx_record μ) 3 21)))
set_option maxHeartbeats 4000000 in
set_option maxRecDepth 100000 in
theorem xb_restore {μ : zM} (hB : zB μ) (h0 : ((μ 40 0) = 41 ∨ (μ 40 0) = 59 ∨ (μ 40 0) = 77 ∨ (μ 40 0) = 95) ∧ ((μ 40 1) = 41 ∨ (μ 40 1) = 59 ∨ (μ 40 1) = 77 ∨ (μ 40 1) = 95) ∧ ((μ 40 2) = 41 ∨ (μ 40 2) = 59 ∨ (μ 40 2) = 77 ∨ (μ 40 2) = 95) ∧ ((μ 40 3) = 41 ∨ (μ 40 3) = 59 ∨ (μ 40 3) = 77 ∨ (μ 40 3) = 95) ∧ ¬ (μ 40 0) = (μ 40 1) ∧ ¬ (μ 40 0) = (μ 40 2) ∧ ¬ (μ 40 0) = (μ 40 3) ∧ ¬ (μ 40 1) = (μ 40 2) ∧ ¬ (μ 40 1) = (μ 40 3) ∧ ¬ (μ 40 2) = (μ 40 3)) : zB (xx_restore μ).2 := by
  unfold xx_restore
  have b1 : 0 ≤ (μ 0 4) ∧ (μ 0 4) ≤ 1 := hB 0 4
  by_cases c2 : (μ 0 4) = 0
  · rw [if_pos c2]
    exact hB
  · rw [if_neg c2]
    have b3 : 0 ≤ ((zcs (xx_record μ) 3 21) 4 0) ∧ ((zcs (xx_record μ) 3 21) 4 0) ≤ 24 := (zcs_ok (xb_record hB h0) (by unfold zst; omega) (by unfold zst; omega)) 4 0
    exact (zcs_ok (xb_record hB h0) (by unfold zst; omega) (by unfold zst; omega))
set_option maxHeartbeats 4000000 in
set_option maxRecDepth 100000 in
theorem xz_restore {μ : zM} (hB : zB μ) (h0 : ((μ 40 0) = 41 ∨ (μ 40 0) = 59 ∨ (μ 40 0) = 77 ∨ (μ 40 0) = 95) ∧ ((μ 40 1) = 41 ∨ (μ 40 1) = 59 ∨ (μ 40 1) = 77 ∨ (μ 40 1) = 95) ∧ ((μ 40 2) = 41 ∨ (μ 40 2) = 59 ∨ (μ 40 2) = 77 ∨ (μ 40 2) = 95) ∧ ((μ 40 3) = 41 ∨ (μ 40 3) = 59 ∨ (μ 40 3) = 77 ∨ (μ 40 3) = 95) ∧ ¬ (μ 40 0) = (μ 40 1) ∧ ¬ (μ 40 0) = (μ 40 2) ∧ ¬ (μ 40 0) = (μ 40 3) ∧ ¬ (μ 40 1) = (μ 40 2) ∧ ¬ (μ 40 1) = (μ 40 3) ∧ ¬ (μ 40 2) = (μ 40 3)) : Dz md_5_restore [zr 0] zSh μ (some (zi (xx_restore μ).1)) zSh (xx_restore μ).2 := by
  refine Dz.of (by decide) rfl rfl (show Ez md_5_restore 0 0 0 [(0, zr 0)] [] zSh μ (some (zi (xx_restore μ).1)) zSh (xx_restore μ).2 from ?_)
  unfold xx_restore
  have b1 : 0 ≤ (μ 0 4) ∧ (μ 0 4) ≤ 1 := hB 0 4
  refine Az.blk kd_5_restore_0 (show zR (μ 0 4) ∧ ((¬ (μ 0 4) = 0 → Ez md_5_restore 0 0 10 [(0, zr 0)] [] zSh μ _ _ _) ∧ ((μ 0 4) = 0 → Ez md_5_restore 0 0 7 [(0, zr 0)] [] zSh μ _ _ _)) from ⟨(by omega), fun c2 => ?_, fun c2 => ?_⟩)
  · rw [if_neg c2]
    refine Az.blk kd_5_restore_10 (show Ez md_5_restore 0 0 18 [(0, zr 0)] [zr 3, zr 39] zSh μ _ _ _ from ?_)
    refine Az.cVN (mc := md_0_record) (k := 39) (n := 1) (As := [zr 3]) (rest := []) kr_5_restore_18 zw_246 ok_0_record rfl rfl rfl trivial (xz_record hB h0) rfl rfl (show Ez md_5_restore 0 0 21 [(0, zr 0)] [] zSh (xx_record μ) _ _ _ from ?_)
    refine Az.blk kd_5_restore_21 (show Ez md_5_restore 0 0 29 [(0, zr 0)] [zr 21, zr 3] zSh (xx_record μ) _ _ _ from ?_)
    refine Az.cVN (mc := md_1_copyFrom) (k := 3) (n := 1) (As := [zr 21]) (rest := []) kr_5_restore_29 zw_542 ok_1_copyFrom rfl rfl rfl trivial (xz_copyFrom 3 21 (by unfold zpair; omega)) rfl rfl (show Ez md_5_restore 0 0 32 [(0, zr 0)] [] zSh (zcs (xx_record μ) 3 21) _ _ _ from ?_)
    have b3 : 0 ≤ ((zcs (xx_record μ) 3 21) 4 0) ∧ ((zcs (xx_record μ) 3 21) 4 0) ≤ 24 := (zcs_ok (xb_record hB h0) (by unfold zst; omega) (by unfold zst; omega)) 4 0
    refine Az.blk kd_5_restore_32 (show Ez md_5_restore 0 0 42 [(0, zr 0)] [zi ((zcs (xx_record μ) 3 21) 4 0)] zSh (zcs (xx_record μ) 3 21) _ _ _ from ?_)
    exact Ez.iret kr_5_restore_42 rfl (Nat.zero_le _) (Nat.zero_le _) rfl rfl
  · rw [if_pos c2]
    refine Az.blk kd_5_restore_7 (show Ez md_5_restore 0 0 9 [(0, zr 0)] [zi (-5)] zSh μ _ _ _ from ?_)
    exact Ez.iret kr_5_restore_9 rfl (Nat.zero_le _) (Nat.zero_le _) rfl rfl
