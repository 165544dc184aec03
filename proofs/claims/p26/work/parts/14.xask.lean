def kb_5_fault_0 : List zI := [(.iload_n 1, 1, 0, 0), (.ifCond .eq 13, 3, 14, 0)]
theorem kd_5_fault_0 : zdec md_5_fault 0 kb_5_fault_0 = true := by decide +kernel
def kb_5_fault_14 : List zI := [(.aload_n 0, 1, 0, 0), (.getfield 12, 3, 5, 0)]
theorem kd_5_fault_14 : zdec md_5_fault 14 kb_5_fault_14 = true := by decide +kernel
theorem kr_5_fault_18 : decode md_5_fault.2.1 18 = .ok (.invokevirtual 41, 3) := by decide +kernel
def kb_5_fault_21 : List zI := [(.istore_n 2, 1, 0, 0), (.iload_n 2, 1, 0, 0), (.iconst (-1), 1, 0, 0), (.if_icmp .ne 8, 3, 32, 0)]
theorem kd_5_fault_21 : zdec md_5_fault 21 kb_5_fault_21 = true := by decide +kernel
def kb_5_fault_32 : List zI := [(.iload_n 2, 1, 0, 0)]
theorem kd_5_fault_32 : zdec md_5_fault 32 kb_5_fault_32 = true := by decide +kernel
theorem kr_5_fault_33 : decode md_5_fault.2.1 33 = .ok (.ireturn, 1) := by decide +kernel
def kb_5_fault_27 : List zI := [(.bipush (-5), 2, 0, 0), (.goto 4, 3, 33, 0)]
theorem kd_5_fault_27 : zdec md_5_fault 27 kb_5_fault_27 = true := by decide +kernel
def kb_5_fault_4 : List zI := [(.aload_n 0, 1, 0, 0), (.getfield 12, 3, 5, 0)]
theorem kd_5_fault_4 : zdec md_5_fault 4 kb_5_fault_4 = true := by decide +kernel
theorem kr_5_fault_8 : decode md_5_fault.2.1 8 = .ok (.invokevirtual 74, 3) := by decide +kernel
def kb_5_fault_11 : List zI := [(.goto 10, 3, 21, 0)]
theorem kd_5_fault_11 : zdec md_5_fault 11 kb_5_fault_11 = true := by decide +kernel
noncomputable def xx_fault (μ : zM) (a1 : Int) : Int := (if a1 = 0 then (if (xx_faultAsStem μ) = (-1) then (-5) else (xx_faultAsStem μ)) else (if (xx_faultAsTale μ) = (-1) then (-5) else (xx_faultAsTale μ)))
set_option maxHeartbeats 4000000 in
set_option maxRecDepth 100000 in
theorem xz_fault {μ : zM} (hB : zB μ) (a1 : Int) (h0 : -2147483648 ≤ a1 ∧ a1 ≤ 2147483647) : Dz md_5_fault [zr 0, zi a1] zSh μ (some (zi (xx_fault μ a1))) zSh μ := by
  refine Dz.of (by decide) rfl rfl (show Ez md_5_fault 0 0 0 [(0, zr 0), (1, zi a1)] [] zSh μ (some (zi (xx_fault μ a1))) zSh μ from ?_)
  unfold xx_fault
  refine Az.blk kd_5_fault_0 (show zR a1 ∧ ((a1 = 0 → Ez md_5_fault 0 0 14 [(0, zr 0), (1, zi a1)] [] zSh μ _ _ _) ∧ (¬ a1 = 0 → Ez md_5_fault 0 0 4 [(0, zr 0), (1, zi a1)] [] zSh μ _ _ _)) from ⟨(by omega), fun c1 => ?_, fun c1 => ?_⟩)
  · rw [if_pos c1]
    refine Az.blk kd_5_fault_14 (show Ez md_5_fault 0 0 18 [(0, zr 0), (1, zi a1)] [zr 1] zSh μ _ _ _ from ?_)
    refine Az.cVN (mc := md_3_faultAsStem) (k := 1) (n := 0) (As := []) (rest := []) kr_5_fault_18 zw_238 ok_3_faultAsStem rfl rfl rfl trivial (xz_faultAsStem hB) rfl rfl (show Ez md_5_fault 0 0 21 [(0, zr 0), (1, zi a1)] [zi (xx_faultAsStem μ)] zSh μ _ _ _ from ?_)
    have r2 : -1 ≤ (xx_faultAsStem μ) ∧ (xx_faultAsStem μ) ≤ 8 := xr_faultAsStem hB
    refine Az.blk kd_5_fault_21 (show zR (xx_faultAsStem μ) ∧ zR (-1) ∧ ((¬ (xx_faultAsStem μ) = (-1) → Ez md_5_fault 0 0 32 [(2, zi (xx_faultAsStem μ)), (0, zr 0), (1, zi a1)] [] zSh μ _ _ _) ∧ ((xx_faultAsStem μ) = (-1) → Ez md_5_fault 0 0 27 [(2, zi (xx_faultAsStem μ)), (0, zr 0), (1, zi a1)] [] zSh μ _ _ _)) from ⟨(by omega), (by omega), fun c3 => ?_, fun c3 => ?_⟩)
    · rw [if_neg c3]
      refine Az.blk kd_5_fault_32 (show Ez md_5_fault 0 0 33 [(2, zi (xx_faultAsStem μ)), (0, zr 0), (1, zi a1)] [zi (xx_faultAsStem μ)] zSh μ _ _ _ from ?_)
      exact Ez.iret kr_5_fault_33 rfl (Nat.zero_le _) (Nat.zero_le _) rfl rfl
    · rw [if_pos c3]
      refine Az.blk kd_5_fault_27 (show Ez md_5_fault 0 0 33 [(2, zi (xx_faultAsStem μ)), (0, zr 0), (1, zi a1)] [zi (-5)] zSh μ _ _ _ from ?_)
      exact Ez.iret kr_5_fault_33 rfl (Nat.zero_le _) (Nat.zero_le _) rfl rfl
  · rw [if_neg c1]
    refine Az.blk kd_5_fault_4 (show Ez md_5_fault 0 0 8 [(0, zr 0), (1, zi a1)] [zr 1] zSh μ _ _ _ from ?_)
    refine Az.cVN (mc := md_3_faultAsTale) (k := 1) (n := 0) (As := []) (rest := []) kr_5_fault_8 zw_199 ok_3_faultAsTale rfl rfl rfl trivial (xz_faultAsTale hB) rfl rfl (show Ez md_5_fault 0 0 11 [(0, zr 0), (1, zi a1)] [zi (xx_faultAsTale μ)] zSh μ _ _ _ from ?_)
    have r4 : -1 ≤ (xx_faultAsTale μ) ∧ (xx_faultAsTale μ) ≤ 110 := xr_faultAsTale hB
    refine Az.blk kd_5_fault_11 (show Ez md_5_fault 0 0 21 [(0, zr 0), (1, zi a1)] [zi (xx_faultAsTale μ)] zSh μ _ _ _ from ?_)
    refine Az.blk kd_5_fault_21 (show zR (xx_faultAsTale μ) ∧ zR (-1) ∧ ((¬ (xx_faultAsTale μ) = (-1) → Ez md_5_fault 0 0 32 [(2, zi (xx_faultAsTale μ)), (0, zr 0), (1, zi a1)] [] zSh μ _ _ _) ∧ ((xx_faultAsTale μ) = (-1) → Ez md_5_fault 0 0 27 [(2, zi (xx_faultAsTale μ)), (0, zr 0), (1, zi a1)] [] zSh μ _ _ _)) from ⟨(by omega), (by omega), fun c5 => ?_, fun c5 => ?_⟩)
    · rw [if_neg c5]
      refine Az.blk kd_5_fault_32 (show Ez md_5_fault 0 0 33 [(2, zi (xx_faultAsTale μ)), (0, zr 0), (1, zi a1)] [zi (xx_faultAsTale μ)] zSh μ _ _ _ from ?_)
      exact Ez.iret kr_5_fault_33 rfl (Nat.zero_le _) (Nat.zero_le _) rfl rfl
    · rw [if_pos c5]
      refine Az.blk kd_5_fault_27 (show Ez md_5_fault 0 0 33 [(2, zi (xx_faultAsTale μ)), (0, zr 0), (1, zi a1)] [zi (-5)] zSh μ _ _ _ from ?_)
      exact Ez.iret kr_5_fault_33 rfl (Nat.zero_le _) (Nat.zero_le _) rfl rfl
def kb_5_word_0 : List zI := [(.aload_n 0, 1, 0, 0), (.getfield 19, 3, 5, 1), (.getfield 45, 3, 1, 0), (.iload_n 1, 1, 0, 0)]
theorem kd_5_word_0 : zdec md_5_word 0 kb_5_word_0 = true := by decide +kernel
theorem kr_5_word_8 : decode md_5_word.2.1 8 = .ok (.invokevirtual 101, 3) := by decide +kernel
def kb_5_word_11 : List zI := [(.ifCond .ne 5, 3, 16, 0)]
theorem kd_5_word_11 : zdec md_5_word 11 kb_5_word_11 = true := by decide +kernel
def kb_5_word_16 : List zI := [(.iload_n 2, 1, 0, 0), (.tableswitch 79 0 3 #[31, 43, 55, 67], 31, 0, 0)]
theorem kd_5_word_16 : zdec md_5_word 16 kb_5_word_16 = true := by decide +kernel
def kb_5_word_48 : List zI := [(.aload_n 0, 1, 0, 0), (.getfield 19, 3, 5, 1), (.getfield 45, 3, 1, 0), (.iload_n 1, 1, 0, 0)]
theorem kd_5_word_48 : zdec md_5_word 48 kb_5_word_48 = true := by decide +kernel
theorem kr_5_word_56 : decode md_5_word.2.1 56 = .ok (.invokevirtual 144, 3) := by decide +kernel
theorem kr_5_word_59 : decode md_5_word.2.1 59 = .ok (.ireturn, 1) := by decide +kernel
def kb_5_word_60 : List zI := [(.aload_n 0, 1, 0, 0), (.getfield 19, 3, 5, 1), (.getfield 45, 3, 1, 0), (.iload_n 1, 1, 0, 0)]
theorem kd_5_word_60 : zdec md_5_word 60 kb_5_word_60 = true := by decide +kernel
theorem kr_5_word_68 : decode md_5_word.2.1 68 = .ok (.invokevirtual 147, 3) := by decide +kernel
theorem kr_5_word_71 : decode md_5_word.2.1 71 = .ok (.ireturn, 1) := by decide +kernel
def kb_5_word_72 : List zI := [(.aload_n 0, 1, 0, 0), (.getfield 19, 3, 5, 1), (.getfield 45, 3, 1, 0), (.iload_n 1, 1, 0, 0)]
theorem kd_5_word_72 : zdec md_5_word 72 kb_5_word_72 = true := by decide +kernel
theorem kr_5_word_80 : decode md_5_word.2.1 80 = .ok (.invokevirtual 150, 3) := by decide +kernel
theorem kr_5_word_83 : decode md_5_word.2.1 83 = .ok (.ireturn, 1) := by decide +kernel
def kb_5_word_84 : List zI := [(.aload_n 0, 1, 0, 0), (.getfield 19, 3, 5, 1), (.getfield 77, 3, 1, 1), (.iload_n 1, 1, 0, 0)]
theorem kd_5_word_84 : zdec md_5_word 84 kb_5_word_84 = true := by decide +kernel
theorem kr_5_word_92 : decode md_5_word.2.1 92 = .ok (.invokevirtual 153, 3) := by decide +kernel
theorem kr_5_word_95 : decode md_5_word.2.1 95 = .ok (.ireturn, 1) := by decide +kernel
def kb_5_word_96 : List zI := [(.bipush (-2), 2, 0, 0)]
theorem kd_5_word_96 : zdec md_5_word 96 kb_5_word_96 = true := by decide +kernel
theorem kr_5_word_98 : decode md_5_word.2.1 98 = .ok (.ireturn, 1) := by decide +kernel
def kb_5_word_14 : List zI := [(.iconst (-1), 1, 0, 0)]
theorem kd_5_word_14 : zdec md_5_word 14 kb_5_word_14 = true := by decide +kernel
theorem kr_5_word_15 : decode md_5_word.2.1 15 = .ok (.ireturn, 1) := by decide +kernel
noncomputable def xx_word (μ : zM) (a1 a2 : Int) : Int := (if (xx_knows μ a1) = 0 then (-1) else (if a2 = 0 then (xx_kindOf μ a1) else (if a2 = 1 then (xx_genderOf μ a1) else (if a2 = 2 then (xx_stemLengthOf μ a1) else (if a2 = 3 then (xx_holesWith μ a1) else (-2))))))
set_option maxHeartbeats 4000000 in
set_option maxRecDepth 100000 in
theorem xz_word {μ : zM} (hB : zB μ) (a1 a2 : Int) (h0 : -2147483648 ≤ a1 ∧ a1 ≤ 2147483647) (h1 : -2147483648 ≤ a2 ∧ a2 ≤ 2147483647) : Dz md_5_word [zr 0, zi a1, zi a2] zSh μ (some (zi (xx_word μ a1 a2))) zSh μ := by
  refine Dz.of (by decide) rfl rfl (show Ez md_5_word 0 0 0 [(0, zr 0), (1, zi a1), (2, zi a2)] [] zSh μ (some (zi (xx_word μ a1 a2))) zSh μ from ?_)
  unfold xx_word
  refine Az.blk kd_5_word_0 (show Ez md_5_word 0 0 8 [(0, zr 0), (1, zi a1), (2, zi a2)] [zi a1, zr 4] zSh μ _ _ _ from ?_)
  refine Az.cVN (mc := md_4_knows) (k := 4) (n := 1) (As := [zi a1]) (rest := []) kr_5_word_8 zw_436 ok_4_knows rfl rfl rfl trivial (xz_knows hB a1 (by omega)) rfl rfl (show Ez md_5_word 0 0 11 [(0, zr 0), (1, zi a1), (2, zi a2)] [zi (xx_knows μ a1)] zSh μ _ _ _ from ?_)
  have r1 : 0 ≤ (xx_knows μ a1) ∧ (xx_knows μ a1) ≤ 1 ∧ ((xx_knows μ a1) = 1 → 0 ≤ a1 ∧ a1 < μ 4 0 ∧ a1 < 24) := xr_knows hB a1 (by omega)
  refine Az.blk kd_5_word_11 (show zR (xx_knows μ a1) ∧ ((¬ (xx_knows μ a1) = 0 → Ez md_5_word 0 0 16 [(0, zr 0), (1, zi a1), (2, zi a2)] [] zSh μ _ _ _) ∧ ((xx_knows μ a1) = 0 → Ez md_5_word 0 0 14 [(0, zr 0), (1, zi a1), (2, zi a2)] [] zSh μ _ _ _)) from ⟨(by omega), fun c2 => ?_, fun c2 => ?_⟩)
  · rw [if_neg c2]
    refine Az.blk kd_5_word_16 (show zR a2 ∧ ((a2 = 0 → Ez md_5_word 0 0 48 [(0, zr 0), (1, zi a1), (2, zi a2)] [] zSh μ _ _ _) ∧ (¬ a2 = 0 → ((a2 = 1 → Ez md_5_word 0 0 60 [(0, zr 0), (1, zi a1), (2, zi a2)] [] zSh μ _ _ _) ∧ (¬ a2 = 1 → ((a2 = 2 → Ez md_5_word 0 0 72 [(0, zr 0), (1, zi a1), (2, zi a2)] [] zSh μ _ _ _) ∧ (¬ a2 = 2 → ((a2 = 3 → Ez md_5_word 0 0 84 [(0, zr 0), (1, zi a1), (2, zi a2)] [] zSh μ _ _ _) ∧ (¬ a2 = 3 → Ez md_5_word 0 0 96 [(0, zr 0), (1, zi a1), (2, zi a2)] [] zSh μ _ _ _)))))))) from ⟨(by omega), ⟨fun c3 => ?_, fun c3 => ⟨fun c4 => ?_, fun c4 => ⟨fun c5 => ?_, fun c5 => ⟨fun c6 => ?_, fun c6 => ?_⟩⟩⟩⟩⟩)
    · rw [if_pos c3]
      refine Az.blk kd_5_word_48 (show Ez md_5_word 0 0 56 [(0, zr 0), (1, zi a1), (2, zi a2)] [zi a1, zr 4] zSh μ _ _ _ from ?_)
      refine Az.cVN (mc := md_4_kindOf) (k := 4) (n := 1) (As := [zi a1]) (rest := []) kr_5_word_56 zw_437 ok_4_kindOf rfl rfl rfl trivial (xz_kindOf hB a1 (by omega)) rfl rfl (show Ez md_5_word 0 0 59 [(0, zr 0), (1, zi a1), (2, zi a2)] [zi (xx_kindOf μ a1)] zSh μ _ _ _ from ?_)
      have r7 : -1 ≤ (xx_kindOf μ a1) ∧ (xx_kindOf μ a1) ≤ 2 := xr_kindOf hB a1 (by omega)
      exact Ez.iret kr_5_word_59 rfl (Nat.zero_le _) (Nat.zero_le _) rfl rfl
    · rw [if_neg c3, if_pos c4]
      refine Az.blk kd_5_word_60 (show Ez md_5_word 0 0 68 [(0, zr 0), (1, zi a1), (2, zi a2)] [zi a1, zr 4] zSh μ _ _ _ from ?_)
      refine Az.cVN (mc := md_4_genderOf) (k := 4) (n := 1) (As := [zi a1]) (rest := []) kr_5_word_68 zw_438 ok_4_genderOf rfl rfl rfl trivial (xz_genderOf hB a1 (by omega)) rfl rfl (show Ez md_5_word 0 0 71 [(0, zr 0), (1, zi a1), (2, zi a2)] [zi (xx_genderOf μ a1)] zSh μ _ _ _ from ?_)
      have r8 : 0 ≤ (xx_genderOf μ a1) ∧ (xx_genderOf μ a1) ≤ 2 := xr_genderOf hB a1 (by omega)
      exact Ez.iret kr_5_word_71 rfl (Nat.zero_le _) (Nat.zero_le _) rfl rfl
    · rw [if_neg c3, if_neg c4, if_pos c5]
      refine Az.blk kd_5_word_72 (show Ez md_5_word 0 0 80 [(0, zr 0), (1, zi a1), (2, zi a2)] [zi a1, zr 4] zSh μ _ _ _ from ?_)
      refine Az.cVN (mc := md_4_stemLengthOf) (k := 4) (n := 1) (As := [zi a1]) (rest := []) kr_5_word_80 zw_439 ok_4_stemLengthOf rfl rfl rfl trivial (xz_stemLengthOf hB a1 (by omega)) rfl rfl (show Ez md_5_word 0 0 83 [(0, zr 0), (1, zi a1), (2, zi a2)] [zi (xx_stemLengthOf μ a1)] zSh μ _ _ _ from ?_)
      have r9 : 0 ≤ (xx_stemLengthOf μ a1) ∧ (xx_stemLengthOf μ a1) ≤ 8 := xr_stemLengthOf hB a1 (by omega)
      exact Ez.iret kr_5_word_83 rfl (Nat.zero_le _) (Nat.zero_le _) rfl rfl
    · rw [if_neg c3, if_neg c4, if_neg c5, if_pos c6]
      refine Az.blk kd_5_word_84 (show Ez md_5_word 0 0 92 [(0, zr 0), (1, zi a1), (2, zi a2)] [zi a1, zr 10] zSh μ _ _ _ from ?_)
      refine Az.cVN (mc := md_2_holesWith) (k := 10) (n := 1) (As := [zi a1]) (rest := []) kr_5_word_92 zw_300 ok_2_holesWith rfl rfl rfl trivial (xz_holesWith hB a1 (by omega)) rfl rfl (show Ez md_5_word 0 0 95 [(0, zr 0), (1, zi a1), (2, zi a2)] [zi (xx_holesWith μ a1)] zSh μ _ _ _ from ?_)
      have r10 : 0 ≤ (xx_holesWith μ a1) ∧ (xx_holesWith μ a1) ≤ 20 := xr_holesWith hB a1 (by omega)
      exact Ez.iret kr_5_word_95 rfl (Nat.zero_le _) (Nat.zero_le _) rfl rfl
    · rw [if_neg c3, if_neg c4, if_neg c5, if_neg c6]
      refine Az.blk kd_5_word_96 (show Ez md_5_word 0 0 98 [(0, zr 0), (1, zi a1), (2, zi a2)] [zi (-2)] zSh μ _ _ _ from ?_)
      exact Ez.iret kr_5_word_98 rfl (Nat.zero_le _) (Nat.zero_le _) rfl rfl
  · rw [if_pos c2]
    refine Az.blk kd_5_word_14 (show Ez md_5_word 0 0 15 [(0, zr 0), (1, zi a1), (2, zi a2)] [zi (-1)] zSh μ _ _ _ from ?_)
    exact Ez.iret kr_5_word_15 rfl (Nat.zero_le _) (Nat.zero_le _) rfl rfl
def kb_5_letter_0 : List zI := [(.aload_n 0, 1, 0, 0), (.getfield 19, 3, 5, 1), (.getfield 45, 3, 1, 0), (.iload_n 1, 1, 0, 0)]
theorem kd_5_letter_0 : zdec md_5_letter 0 kb_5_letter_0 = true := by decide +kernel
theorem kr_5_letter_8 : decode md_5_letter.2.1 8 = .ok (.invokevirtual 101, 3) := by decide +kernel
def kb_5_letter_11 : List zI := [(.ifCond .ne 5, 3, 16, 0)]
theorem kd_5_letter_11 : zdec md_5_letter 11 kb_5_letter_11 = true := by decide +kernel
def kb_5_letter_16 : List zI := [(.iload_n 2, 1, 0, 0), (.bipush 6, 2, 0, 0)]
theorem kd_5_letter_16 : zdec md_5_letter 16 kb_5_letter_16 = true := by decide +kernel
theorem kr_5_letter_19 : decode md_5_letter.2.1 19 = .ok (.invokestatic 37, 3) := by decide +kernel
def kb_5_letter_22 : List zI := [(.ifCond .eq 7, 3, 29, 0)]
theorem kd_5_letter_22 : zdec md_5_letter 22 kb_5_letter_22 = true := by decide +kernel
def kb_5_letter_29 : List zI := [(.bipush (-2), 2, 0, 0)]
theorem kd_5_letter_29 : zdec md_5_letter 29 kb_5_letter_29 = true := by decide +kernel
theorem kr_5_letter_31 : decode md_5_letter.2.1 31 = .ok (.ireturn, 1) := by decide +kernel
def kb_5_letter_25 : List zI := [(.iload_n 3, 1, 0, 0), (.ifCond .ge 6, 3, 32, 0)]
theorem kd_5_letter_25 : zdec md_5_letter 25 kb_5_letter_25 = true := by decide +kernel
def kb_5_letter_32 : List zI := [(.aload_n 0, 1, 0, 0), (.getfield 19, 3, 5, 1), (.getfield 45, 3, 1, 0), (.iload_n 1, 1, 0, 0), (.iload_n 2, 1, 0, 0), (.iload_n 3, 1, 0, 0)]
theorem kd_5_letter_32 : zdec md_5_letter 32 kb_5_letter_32 = true := by decide +kernel
theorem kr_5_letter_42 : decode md_5_letter.2.1 42 = .ok (.invokevirtual 156, 3) := by decide +kernel
def kb_5_letter_45 : List zI := [(.istore 4, 2, 0, 0), (.iload 4, 2, 0, 0), (.ifCond .ne 8, 3, 57, 0)]
theorem kd_5_letter_45 : zdec md_5_letter 45 kb_5_letter_45 = true := by decide +kernel
def kb_5_letter_57 : List zI := [(.iload 4, 2, 0, 0)]
theorem kd_5_letter_57 : zdec md_5_letter 57 kb_5_letter_57 = true := by decide +kernel
theorem kr_5_letter_59 : decode md_5_letter.2.1 59 = .ok (.ireturn, 1) := by decide +kernel
def kb_5_letter_52 : List zI := [(.bipush (-5), 2, 0, 0), (.goto 5, 3, 59, 0)]
theorem kd_5_letter_52 : zdec md_5_letter 52 kb_5_letter_52 = true := by decide +kernel
def kb_5_letter_14 : List zI := [(.iconst (-1), 1, 0, 0)]
theorem kd_5_letter_14 : zdec md_5_letter 14 kb_5_letter_14 = true := by decide +kernel
theorem kr_5_letter_15 : decode md_5_letter.2.1 15 = .ok (.ireturn, 1) := by decide +kernel
noncomputable def xx_letter (μ : zM) (a1 a2 a3 : Int) : Int := (if (xx_knows μ a1) = 0 then (-1) else (if (xx_isBelow a2 6) = 0 then (-2) else (if a3 < 0 then (-2) else (if (xx_letterAt μ a1 a2 a3) = 0 then (-5) else (xx_letterAt μ a1 a2 a3)))))
set_option maxHeartbeats 4000000 in
set_option maxRecDepth 100000 in
theorem xz_letter {μ : zM} (hB : zB μ) (a1 a2 a3 : Int) (h0 : -2147483648 ≤ a1 ∧ a1 ≤ 2147483647) (h1 : -2147483648 ≤ a2 ∧ a2 ≤ 2147483647) (h2 : -2147483648 ≤ a3 ∧ a3 ≤ 2147483647) : Dz md_5_letter [zr 0, zi a1, zi a2, zi a3] zSh μ (some (zi (xx_letter μ a1 a2 a3))) zSh μ := by
  refine Dz.of (by decide) rfl rfl (show Ez md_5_letter 0 0 0 [(0, zr 0), (1, zi a1), (2, zi a2), (3, zi a3)] [] zSh μ (some (zi (xx_letter μ a1 a2 a3))) zSh μ from ?_)
  unfold xx_letter
  refine Az.blk kd_5_letter_0 (show Ez md_5_letter 0 0 8 [(0, zr 0), (1, zi a1), (2, zi a2), (3, zi a3)] [zi a1, zr 4] zSh μ _ _ _ from ?_)
  refine Az.cVN (mc := md_4_knows) (k := 4) (n := 1) (As := [zi a1]) (rest := []) kr_5_letter_8 zw_436 ok_4_knows rfl rfl rfl trivial (xz_knows hB a1 (by omega)) rfl rfl (show Ez md_5_letter 0 0 11 [(0, zr 0), (1, zi a1), (2, zi a2), (3, zi a3)] [zi (xx_knows μ a1)] zSh μ _ _ _ from ?_)
  have r1 : 0 ≤ (xx_knows μ a1) ∧ (xx_knows μ a1) ≤ 1 ∧ ((xx_knows μ a1) = 1 → 0 ≤ a1 ∧ a1 < μ 4 0 ∧ a1 < 24) := xr_knows hB a1 (by omega)
  refine Az.blk kd_5_letter_11 (show zR (xx_knows μ a1) ∧ ((¬ (xx_knows μ a1) = 0 → Ez md_5_letter 0 0 16 [(0, zr 0), (1, zi a1), (2, zi a2), (3, zi a3)] [] zSh μ _ _ _) ∧ ((xx_knows μ a1) = 0 → Ez md_5_letter 0 0 14 [(0, zr 0), (1, zi a1), (2, zi a2), (3, zi a3)] [] zSh μ _ _ _)) from ⟨(by omega), fun c2 => ?_, fun c2 => ?_⟩)
  · rw [if_neg c2]
    refine Az.blk kd_5_letter_16 (show Ez md_5_letter 0 0 19 [(0, zr 0), (1, zi a1), (2, zi a2), (3, zi a3)] [zi 6, zi a2] zSh μ _ _ _ from ?_)
    refine Az.cS (mc := md_5_isBelow) (n := 2) (As := [zi a2, zi 6]) (rest := []) kr_5_letter_19 zw_422 ok_5_isBelow rfl rfl (xz_isBelow a2 6 (by omega) (by omega)) rfl rfl (show Ez md_5_letter 0 0 22 [(0, zr 0), (1, zi a1), (2, zi a2), (3, zi a3)] [zi (xx_isBelow a2 6)] zSh μ _ _ _ from ?_)
    have r3 : 0 ≤ (xx_isBelow a2 6) ∧ (xx_isBelow a2 6) ≤ 1 ∧ ((xx_isBelow a2 6) = 1 → 0 ≤ a2 ∧ a2 < (6 : Int)) := xr_isBelow a2 6 (by omega) (by omega)
    refine Az.blk kd_5_letter_22 (show zR (xx_isBelow a2 6) ∧ (((xx_isBelow a2 6) = 0 → Ez md_5_letter 0 0 29 [(0, zr 0), (1, zi a1), (2, zi a2), (3, zi a3)] [] zSh μ _ _ _) ∧ (¬ (xx_isBelow a2 6) = 0 → Ez md_5_letter 0 0 25 [(0, zr 0), (1, zi a1), (2, zi a2), (3, zi a3)] [] zSh μ _ _ _)) from ⟨(by omega), fun c4 => ?_, fun c4 => ?_⟩)
    · rw [if_pos c4]
      refine Az.blk kd_5_letter_29 (show Ez md_5_letter 0 0 31 [(0, zr 0), (1, zi a1), (2, zi a2), (3, zi a3)] [zi (-2)] zSh μ _ _ _ from ?_)
      exact Ez.iret kr_5_letter_31 rfl (Nat.zero_le _) (Nat.zero_le _) rfl rfl
    · rw [if_neg c4]
      refine Az.blk kd_5_letter_25 (show zR a3 ∧ ((¬ a3 < 0 → Ez md_5_letter 0 0 32 [(0, zr 0), (1, zi a1), (2, zi a2), (3, zi a3)] [] zSh μ _ _ _) ∧ (a3 < 0 → Ez md_5_letter 0 0 29 [(0, zr 0), (1, zi a1), (2, zi a2), (3, zi a3)] [] zSh μ _ _ _)) from ⟨(by omega), fun c5 => ?_, fun c5 => ?_⟩)
      · rw [if_neg c5]
        refine Az.blk kd_5_letter_32 (show Ez md_5_letter 0 0 42 [(0, zr 0), (1, zi a1), (2, zi a2), (3, zi a3)] [zi a3, zi a2, zi a1, zr 4] zSh μ _ _ _ from ?_)
        refine Az.cVN (mc := md_4_letterAt) (k := 4) (n := 3) (As := [zi a1, zi a2, zi a3]) (rest := []) kr_5_letter_42 zw_558 ok_4_letterAt rfl rfl rfl trivial (xz_letterAt hB a1 a2 a3 (by omega) (by omega) (by omega)) rfl rfl (show Ez md_5_letter 0 0 45 [(0, zr 0), (1, zi a1), (2, zi a2), (3, zi a3)] [zi (xx_letterAt μ a1 a2 a3)] zSh μ _ _ _ from ?_)
        have r6 : 0 ≤ (xx_letterAt μ a1 a2 a3) ∧ (xx_letterAt μ a1 a2 a3) ≤ 26 := xr_letterAt hB a1 a2 a3 (by omega) (by omega) (by omega)
        refine Az.blk kd_5_letter_45 (show zR (xx_letterAt μ a1 a2 a3) ∧ ((¬ (xx_letterAt μ a1 a2 a3) = 0 → Ez md_5_letter 0 0 57 [(4, zi (xx_letterAt μ a1 a2 a3)), (0, zr 0), (1, zi a1), (2, zi a2), (3, zi a3)] [] zSh μ _ _ _) ∧ ((xx_letterAt μ a1 a2 a3) = 0 → Ez md_5_letter 0 0 52 [(4, zi (xx_letterAt μ a1 a2 a3)), (0, zr 0), (1, zi a1), (2, zi a2), (3, zi a3)] [] zSh μ _ _ _)) from ⟨(by omega), fun c7 => ?_, fun c7 => ?_⟩)
        · rw [if_neg c7]
          refine Az.blk kd_5_letter_57 (show Ez md_5_letter 0 0 59 [(4, zi (xx_letterAt μ a1 a2 a3)), (0, zr 0), (1, zi a1), (2, zi a2), (3, zi a3)] [zi (xx_letterAt μ a1 a2 a3)] zSh μ _ _ _ from ?_)
          exact Ez.iret kr_5_letter_59 rfl (Nat.zero_le _) (Nat.zero_le _) rfl rfl
        · rw [if_pos c7]
          refine Az.blk kd_5_letter_52 (show Ez md_5_letter 0 0 59 [(4, zi (xx_letterAt μ a1 a2 a3)), (0, zr 0), (1, zi a1), (2, zi a2), (3, zi a3)] [zi (-5)] zSh μ _ _ _ from ?_)
          exact Ez.iret kr_5_letter_59 rfl (Nat.zero_le _) (Nat.zero_le _) rfl rfl
      · rw [if_pos c5]
        refine Az.blk kd_5_letter_29 (show Ez md_5_letter 0 0 31 [(0, zr 0), (1, zi a1), (2, zi a2), (3, zi a3)] [zi (-2)] zSh μ _ _ _ from ?_)
        exact Ez.iret kr_5_letter_31 rfl (Nat.zero_le _) (Nat.zero_le _) rfl rfl
  · rw [if_pos c2]
    refine Az.blk kd_5_letter_14 (show Ez md_5_letter 0 0 15 [(0, zr 0), (1, zi a1), (2, zi a2), (3, zi a3)] [zi (-1)] zSh μ _ _ _ from ?_)
    exact Ez.iret kr_5_letter_15 rfl (Nat.zero_le _) (Nat.zero_le _) rfl rfl
def kb_5_hole_0 : List zI := [(.aload_n 0, 1, 0, 0), (.getfield 19, 3, 5, 1), (.getfield 77, 3, 1, 1), (.iload_n 1, 1, 0, 0)]
theorem kd_5_hole_0 : zdec md_5_hole 0 kb_5_hole_0 = true := by decide +kernel
theorem kr_5_hole_8 : decode md_5_hole.2.1 8 = .ok (.invokevirtual 97, 3) := by decide +kernel
def kb_5_hole_11 : List zI := [(.ifCond .ne 5, 3, 16, 0)]
theorem kd_5_hole_11 : zdec md_5_hole 11 kb_5_hole_11 = true := by decide +kernel
def kb_5_hole_16 : List zI := [(.iload_n 2, 1, 0, 0), (.tableswitch 124 0 5 #[39, 51, 63, 94, 103, 112], 39, 0, 0)]
theorem kd_5_hole_16 : zdec md_5_hole 16 kb_5_hole_16 = true := by decide +kernel
def kb_5_hole_56 : List zI := [(.aload_n 0, 1, 0, 0), (.getfield 19, 3, 5, 1), (.getfield 77, 3, 1, 1), (.iload_n 1, 1, 0, 0)]
theorem kd_5_hole_56 : zdec md_5_hole 56 kb_5_hole_56 = true := by decide +kernel
theorem kr_5_hole_64 : decode md_5_hole.2.1 64 = .ok (.invokevirtual 160, 3) := by decide +kernel
theorem kr_5_hole_67 : decode md_5_hole.2.1 67 = .ok (.ireturn, 1) := by decide +kernel
def kb_5_hole_68 : List zI := [(.aload_n 0, 1, 0, 0), (.getfield 19, 3, 5, 1), (.getfield 77, 3, 1, 1), (.iload_n 1, 1, 0, 0)]
theorem kd_5_hole_68 : zdec md_5_hole 68 kb_5_hole_68 = true := by decide +kernel
theorem kr_5_hole_76 : decode md_5_hole.2.1 76 = .ok (.invokevirtual 163, 3) := by decide +kernel
theorem kr_5_hole_79 : decode md_5_hole.2.1 79 = .ok (.ireturn, 1) := by decide +kernel
def kb_5_hole_80 : List zI := [(.aload_n 0, 1, 0, 0), (.getfield 19, 3, 5, 1), (.getfield 77, 3, 1, 1), (.iload_n 1, 1, 0, 0)]
theorem kd_5_hole_80 : zdec md_5_hole 80 kb_5_hole_80 = true := by decide +kernel
theorem kr_5_hole_88 : decode md_5_hole.2.1 88 = .ok (.invokevirtual 166, 3) := by decide +kernel
def kb_5_hole_91 : List zI := [(.ifCond .eq 8, 3, 99, 0)]
theorem kd_5_hole_91 : zdec md_5_hole 91 kb_5_hole_91 = true := by decide +kernel
def kb_5_hole_99 : List zI := [(.aload_n 0, 1, 0, 0), (.getfield 19, 3, 5, 1), (.getfield 77, 3, 1, 1), (.iload_n 1, 1, 0, 0)]
theorem kd_5_hole_99 : zdec md_5_hole 99 kb_5_hole_99 = true := by decide +kernel
theorem kr_5_hole_107 : decode md_5_hole.2.1 107 = .ok (.invokevirtual 107, 3) := by decide +kernel
theorem kr_5_hole_110 : decode md_5_hole.2.1 110 = .ok (.ireturn, 1) := by decide +kernel
def kb_5_hole_94 : List zI := [(.bipush (-5), 2, 0, 0), (.goto 14, 3, 110, 0)]
theorem kd_5_hole_94 : zdec md_5_hole 94 kb_5_hole_94 = true := by decide +kernel
def kb_5_hole_111 : List zI := [(.aload_n 0, 1, 0, 0), (.getfield 19, 3, 5, 1), (.iload_n 1, 1, 0, 0)]
theorem kd_5_hole_111 : zdec md_5_hole 111 kb_5_hole_111 = true := by decide +kernel
theorem kr_5_hole_116 : decode md_5_hole.2.1 116 = .ok (.invokevirtual 169, 3) := by decide +kernel
theorem kr_5_hole_119 : decode md_5_hole.2.1 119 = .ok (.ireturn, 1) := by decide +kernel
def kb_5_hole_120 : List zI := [(.aload_n 0, 1, 0, 0), (.getfield 19, 3, 5, 1), (.iload_n 1, 1, 0, 0)]
theorem kd_5_hole_120 : zdec md_5_hole 120 kb_5_hole_120 = true := by decide +kernel
theorem kr_5_hole_125 : decode md_5_hole.2.1 125 = .ok (.invokevirtual 172, 3) := by decide +kernel
theorem kr_5_hole_128 : decode md_5_hole.2.1 128 = .ok (.ireturn, 1) := by decide +kernel
def kb_5_hole_129 : List zI := [(.aload_n 0, 1, 0, 0), (.getfield 19, 3, 5, 1), (.getfield 77, 3, 1, 1), (.iload_n 1, 1, 0, 0)]
theorem kd_5_hole_129 : zdec md_5_hole 129 kb_5_hole_129 = true := by decide +kernel
theorem kr_5_hole_137 : decode md_5_hole.2.1 137 = .ok (.invokevirtual 175, 3) := by decide +kernel
theorem kr_5_hole_140 : decode md_5_hole.2.1 140 = .ok (.ireturn, 1) := by decide +kernel
def kb_5_hole_141 : List zI := [(.bipush (-2), 2, 0, 0)]
theorem kd_5_hole_141 : zdec md_5_hole 141 kb_5_hole_141 = true := by decide +kernel
theorem kr_5_hole_143 : decode md_5_hole.2.1 143 = .ok (.ireturn, 1) := by decide +kernel
def kb_5_hole_14 : List zI := [(.iconst (-1), 1, 0, 0)]
theorem kd_5_hole_14 : zdec md_5_hole 14 kb_5_hole_14 = true := by decide +kernel
theorem kr_5_hole_15 : decode md_5_hole.2.1 15 = .ok (.ireturn, 1) := by decide +kernel
noncomputable def xx_hole (μ : zM) (a1 a2 : Int) : Int := (if (xx_hasHole μ a1) = 0 then (-1) else (if a2 = 0 then (xx_kindOfHole μ a1) else (if a2 = 1 then (xx_tieOf μ a1) else (if a2 = 2 then (if (xx_isEmptyHole μ a1) = 0 then (xx_wordIn μ a1) else (-5)) else (if a2 = 3 then (xx_formIn μ a1) else (if a2 = 4 then (xx_lettersIn μ a1) else (if a2 = 5 then (xx_itemOf μ a1) else (-2))))))))
set_option maxHeartbeats 4000000 in
set_option maxRecDepth 100000 in
theorem xz_hole {μ : zM} (hB : zB μ) (a1 a2 : Int) (h0 : -2147483648 ≤ a1 ∧ a1 ≤ 2147483647) (h1 : -2147483648 ≤ a2 ∧ a2 ≤ 2147483647) : Dz md_5_hole [zr 0, zi a1, zi a2] zSh μ (some (zi (xx_hole μ a1 a2))) zSh μ := by
  refine Dz.of (by decide) rfl rfl (show Ez md_5_hole 0 0 0 [(0, zr 0), (1, zi a1), (2, zi a2)] [] zSh μ (some (zi (xx_hole μ a1 a2))) zSh μ from ?_)
  unfold xx_hole
  refine Az.blk kd_5_hole_0 (show Ez md_5_hole 0 0 8 [(0, zr 0), (1, zi a1), (2, zi a2)] [zi a1, zr 10] zSh μ _ _ _ from ?_)
  refine Az.cVN (mc := md_2_hasHole) (k := 10) (n := 1) (As := [zi a1]) (rest := []) kr_5_hole_8 zw_470 ok_2_hasHole rfl rfl rfl trivial (xz_hasHole hB a1 (by omega)) rfl rfl (show Ez md_5_hole 0 0 11 [(0, zr 0), (1, zi a1), (2, zi a2)] [zi (xx_hasHole μ a1)] zSh μ _ _ _ from ?_)
  have r1 : 0 ≤ (xx_hasHole μ a1) ∧ (xx_hasHole μ a1) ≤ 1 ∧ ((xx_hasHole μ a1) = 1 → 0 ≤ a1 ∧ a1 < μ 10 1 ∧ a1 < 20) := xr_hasHole hB a1 (by omega)
  refine Az.blk kd_5_hole_11 (show zR (xx_hasHole μ a1) ∧ ((¬ (xx_hasHole μ a1) = 0 → Ez md_5_hole 0 0 16 [(0, zr 0), (1, zi a1), (2, zi a2)] [] zSh μ _ _ _) ∧ ((xx_hasHole μ a1) = 0 → Ez md_5_hole 0 0 14 [(0, zr 0), (1, zi a1), (2, zi a2)] [] zSh μ _ _ _)) from ⟨(by omega), fun c2 => ?_, fun c2 => ?_⟩)
  · rw [if_neg c2]
    refine Az.blk kd_5_hole_16 (show zR a2 ∧ ((a2 = 0 → Ez md_5_hole 0 0 56 [(0, zr 0), (1, zi a1), (2, zi a2)] [] zSh μ _ _ _) ∧ (¬ a2 = 0 → ((a2 = 1 → Ez md_5_hole 0 0 68 [(0, zr 0), (1, zi a1), (2, zi a2)] [] zSh μ _ _ _) ∧ (¬ a2 = 1 → ((a2 = 2 → Ez md_5_hole 0 0 80 [(0, zr 0), (1, zi a1), (2, zi a2)] [] zSh μ _ _ _) ∧ (¬ a2 = 2 → ((a2 = 3 → Ez md_5_hole 0 0 111 [(0, zr 0), (1, zi a1), (2, zi a2)] [] zSh μ _ _ _) ∧ (¬ a2 = 3 → ((a2 = 4 → Ez md_5_hole 0 0 120 [(0, zr 0), (1, zi a1), (2, zi a2)] [] zSh μ _ _ _) ∧ (¬ a2 = 4 → ((a2 = 5 → Ez md_5_hole 0 0 129 [(0, zr 0), (1, zi a1), (2, zi a2)] [] zSh μ _ _ _) ∧ (¬ a2 = 5 → Ez md_5_hole 0 0 141 [(0, zr 0), (1, zi a1), (2, zi a2)] [] zSh μ _ _ _)))))))))))) from ⟨(by omega), ⟨fun c3 => ?_, fun c3 => ⟨fun c4 => ?_, fun c4 => ⟨fun c5 => ?_, fun c5 => ⟨fun c6 => ?_, fun c6 => ⟨fun c7 => ?_, fun c7 => ⟨fun c8 => ?_, fun c8 => ?_⟩⟩⟩⟩⟩⟩⟩)
    · rw [if_pos c3]
      refine Az.blk kd_5_hole_56 (show Ez md_5_hole 0 0 64 [(0, zr 0), (1, zi a1), (2, zi a2)] [zi a1, zr 10] zSh μ _ _ _ from ?_)
      refine Az.cVN (mc := md_2_kindOfHole) (k := 10) (n := 1) (As := [zi a1]) (rest := []) kr_5_hole_64 zw_485 ok_2_kindOfHole rfl rfl rfl trivial (xz_kindOfHole hB a1 (by omega)) rfl rfl (show Ez md_5_hole 0 0 67 [(0, zr 0), (1, zi a1), (2, zi a2)] [zi (xx_kindOfHole μ a1)] zSh μ _ _ _ from ?_)
      have r9 : -1 ≤ (xx_kindOfHole μ a1) ∧ (xx_kindOfHole μ a1) ≤ 2 := xr_kindOfHole hB a1 (by omega)
      exact Ez.iret kr_5_hole_67 rfl (Nat.zero_le _) (Nat.zero_le _) rfl rfl
    · rw [if_neg c3, if_pos c4]
      refine Az.blk kd_5_hole_68 (show Ez md_5_hole 0 0 76 [(0, zr 0), (1, zi a1), (2, zi a2)] [zi a1, zr 10] zSh μ _ _ _ from ?_)
      refine Az.cVN (mc := md_2_tieOf) (k := 10) (n := 1) (As := [zi a1]) (rest := []) kr_5_hole_76 zw_486 ok_2_tieOf rfl rfl rfl trivial (xz_tieOf hB a1 (by omega)) rfl rfl (show Ez md_5_hole 0 0 79 [(0, zr 0), (1, zi a1), (2, zi a2)] [zi (xx_tieOf μ a1)] zSh μ _ _ _ from ?_)
      have r10 : -1 ≤ (xx_tieOf μ a1) ∧ (xx_tieOf μ a1) ≤ 9 := xr_tieOf hB a1 (by omega)
      exact Ez.iret kr_5_hole_79 rfl (Nat.zero_le _) (Nat.zero_le _) rfl rfl
    · rw [if_neg c3, if_neg c4, if_pos c5]
      refine Az.blk kd_5_hole_80 (show Ez md_5_hole 0 0 88 [(0, zr 0), (1, zi a1), (2, zi a2)] [zi a1, zr 10] zSh μ _ _ _ from ?_)
      refine Az.cVN (mc := md_2_isEmptyHole) (k := 10) (n := 1) (As := [zi a1]) (rest := []) kr_5_hole_88 zw_487 ok_2_isEmptyHole rfl rfl rfl trivial (xz_isEmptyHole hB a1 (by omega)) rfl rfl (show Ez md_5_hole 0 0 91 [(0, zr 0), (1, zi a1), (2, zi a2)] [zi (xx_isEmptyHole μ a1)] zSh μ _ _ _ from ?_)
      have r11 : 0 ≤ (xx_isEmptyHole μ a1) ∧ (xx_isEmptyHole μ a1) ≤ 1 := xr_isEmptyHole hB a1 (by omega)
      refine Az.blk kd_5_hole_91 (show zR (xx_isEmptyHole μ a1) ∧ (((xx_isEmptyHole μ a1) = 0 → Ez md_5_hole 0 0 99 [(0, zr 0), (1, zi a1), (2, zi a2)] [] zSh μ _ _ _) ∧ (¬ (xx_isEmptyHole μ a1) = 0 → Ez md_5_hole 0 0 94 [(0, zr 0), (1, zi a1), (2, zi a2)] [] zSh μ _ _ _)) from ⟨(by omega), fun c12 => ?_, fun c12 => ?_⟩)
      · rw [if_pos c12]
        refine Az.blk kd_5_hole_99 (show Ez md_5_hole 0 0 107 [(0, zr 0), (1, zi a1), (2, zi a2)] [zi a1, zr 10] zSh μ _ _ _ from ?_)
        refine Az.cVN (mc := md_2_wordIn) (k := 10) (n := 1) (As := [zi a1]) (rest := []) kr_5_hole_107 zw_488 ok_2_wordIn rfl rfl rfl trivial (xz_wordIn hB a1 (by omega)) rfl rfl (show Ez md_5_hole 0 0 110 [(0, zr 0), (1, zi a1), (2, zi a2)] [zi (xx_wordIn μ a1)] zSh μ _ _ _ from ?_)
        have r13 : -1 ≤ (xx_wordIn μ a1) ∧ (xx_wordIn μ a1) ≤ 23 := xr_wordIn hB a1 (by omega)
        exact Ez.iret kr_5_hole_110 rfl (Nat.zero_le _) (Nat.zero_le _) rfl rfl
      · rw [if_neg c12]
        refine Az.blk kd_5_hole_94 (show Ez md_5_hole 0 0 110 [(0, zr 0), (1, zi a1), (2, zi a2)] [zi (-5)] zSh μ _ _ _ from ?_)
        exact Ez.iret kr_5_hole_110 rfl (Nat.zero_le _) (Nat.zero_le _) rfl rfl
    · rw [if_neg c3, if_neg c4, if_neg c5, if_pos c6]
      refine Az.blk kd_5_hole_111 (show Ez md_5_hole 0 0 116 [(0, zr 0), (1, zi a1), (2, zi a2)] [zi a1, zr 3] zSh μ _ _ _ from ?_)
      refine Az.cVN (mc := md_1_formIn) (k := 3) (n := 1) (As := [zi a1]) (rest := []) kr_5_hole_116 zw_489 ok_1_formIn rfl rfl rfl trivial (xz_formIn hB a1 (by omega)) rfl rfl (show Ez md_5_hole 0 0 119 [(0, zr 0), (1, zi a1), (2, zi a2)] [zi (xx_formIn μ a1)] zSh μ _ _ _ from ?_)
      have r14 : 0 ≤ (xx_formIn μ a1) ∧ (xx_formIn μ a1) ≤ 5 := xr_formIn hB a1 (by omega)
      exact Ez.iret kr_5_hole_119 rfl (Nat.zero_le _) (Nat.zero_le _) rfl rfl
    · rw [if_neg c3, if_neg c4, if_neg c5, if_neg c6, if_pos c7]
      refine Az.blk kd_5_hole_120 (show Ez md_5_hole 0 0 125 [(0, zr 0), (1, zi a1), (2, zi a2)] [zi a1, zr 3] zSh μ _ _ _ from ?_)
      refine Az.cVN (mc := md_1_lettersIn) (k := 3) (n := 1) (As := [zi a1]) (rest := []) kr_5_hole_125 zw_490 ok_1_lettersIn rfl rfl rfl trivial (xz_lettersIn hB a1 (by omega)) rfl rfl (show Ez md_5_hole 0 0 128 [(0, zr 0), (1, zi a1), (2, zi a2)] [zi (xx_lettersIn μ a1)] zSh μ _ _ _ from ?_)
      have r15 : 0 ≤ (xx_lettersIn μ a1) ∧ (xx_lettersIn μ a1) ≤ 10 := xr_lettersIn hB a1 (by omega)
      exact Ez.iret kr_5_hole_128 rfl (Nat.zero_le _) (Nat.zero_le _) rfl rfl
    · rw [if_neg c3, if_neg c4, if_neg c5, if_neg c6, if_neg c7, if_pos c8]
      refine Az.blk kd_5_hole_129 (show Ez md_5_hole 0 0 137 [(0, zr 0), (1, zi a1), (2, zi a2)] [zi a1, zr 10] zSh μ _ _ _ from ?_)
      refine Az.cVN (mc := md_2_itemOf) (k := 10) (n := 1) (As := [zi a1]) (rest := []) kr_5_hole_137 zw_491 ok_2_itemOf rfl rfl rfl trivial (xz_itemOf hB a1 (by omega)) rfl rfl (show Ez md_5_hole 0 0 140 [(0, zr 0), (1, zi a1), (2, zi a2)] [zi (xx_itemOf μ a1)] zSh μ _ _ _ from ?_)
      have r16 : -1 ≤ (xx_itemOf μ a1) ∧ (xx_itemOf μ a1) ≤ 19 := xr_itemOf hB a1 (by omega)
      exact Ez.iret kr_5_hole_140 rfl (Nat.zero_le _) (Nat.zero_le _) rfl rfl
    · rw [if_neg c3, if_neg c4, if_neg c5, if_neg c6, if_neg c7, if_neg c8]
      refine Az.blk kd_5_hole_141 (show Ez md_5_hole 0 0 143 [(0, zr 0), (1, zi a1), (2, zi a2)] [zi (-2)] zSh μ _ _ _ from ?_)
      exact Ez.iret kr_5_hole_143 rfl (Nat.zero_le _) (Nat.zero_le _) rfl rfl
  · rw [if_pos c2]
    refine Az.blk kd_5_hole_14 (show Ez md_5_hole 0 0 15 [(0, zr 0), (1, zi a1), (2, zi a2)] [zi (-1)] zSh μ _ _ _ from ?_)
    exact Ez.iret kr_5_hole_15 rfl (Nat.zero_le _) (Nat.zero_le _) rfl rfl
def kb_5_tie_0 : List zI := [(.iload_n 1, 1, 0, 0), (.bipush 10, 2, 0, 0)]
theorem kd_5_tie_0 : zdec md_5_tie 0 kb_5_tie_0 = true := by decide +kernel
theorem kr_5_tie_3 : decode md_5_tie.2.1 3 = .ok (.invokestatic 37, 3) := by decide +kernel
def kb_5_tie_6 : List zI := [(.ifCond .ne 5, 3, 11, 0)]
theorem kd_5_tie_6 : zdec md_5_tie 6 kb_5_tie_6 = true := by decide +kernel
def kb_5_tie_11 : List zI := [(.iload_n 2, 1, 0, 0), (.tableswitch 117 0 5 #[40, 50, 60, 69, 82, 95], 40, 0, 0)]
theorem kd_5_tie_11 : zdec md_5_tie 11 kb_5_tie_11 = true := by decide +kernel
def kb_5_tie_52 : List zI := [(.aload_n 0, 1, 0, 0), (.getfield 19, 3, 5, 1), (.getfield 90, 3, 1, 2), (.iload_n 1, 1, 0, 0), (.iaload, 1, 0, 0)]
theorem kd_5_tie_52 : zdec md_5_tie 52 kb_5_tie_52 = true := by decide +kernel
theorem kr_5_tie_61 : decode md_5_tie.2.1 61 = .ok (.ireturn, 1) := by decide +kernel
def kb_5_tie_62 : List zI := [(.aload_n 0, 1, 0, 0), (.getfield 19, 3, 5, 1), (.getfield 94, 3, 1, 3), (.iload_n 1, 1, 0, 0), (.iaload, 1, 0, 0)]
theorem kd_5_tie_62 : zdec md_5_tie 62 kb_5_tie_62 = true := by decide +kernel
theorem kr_5_tie_71 : decode md_5_tie.2.1 71 = .ok (.ireturn, 1) := by decide +kernel
def kb_5_tie_72 : List zI := [(.aload_n 0, 1, 0, 0), (.getfield 19, 3, 5, 1), (.iload_n 1, 1, 0, 0)]
theorem kd_5_tie_72 : zdec md_5_tie 72 kb_5_tie_72 = true := by decide +kernel
theorem kr_5_tie_77 : decode md_5_tie.2.1 77 = .ok (.invokevirtual 178, 3) := by decide +kernel
theorem kr_5_tie_80 : decode md_5_tie.2.1 80 = .ok (.ireturn, 1) := by decide +kernel
def kb_5_tie_81 : List zI := [(.aload_n 0, 1, 0, 0), (.getfield 19, 3, 5, 1), (.getfield 77, 3, 1, 1), (.iload_n 1, 1, 0, 0), (.iconst 0, 1, 0, 0)]
theorem kd_5_tie_81 : zdec md_5_tie 81 kb_5_tie_81 = true := by decide +kernel
theorem kr_5_tie_90 : decode md_5_tie.2.1 90 = .ok (.invokevirtual 181, 3) := by decide +kernel
theorem kr_5_tie_93 : decode md_5_tie.2.1 93 = .ok (.ireturn, 1) := by decide +kernel
def kb_5_tie_94 : List zI := [(.aload_n 0, 1, 0, 0), (.getfield 19, 3, 5, 1), (.getfield 77, 3, 1, 1), (.iload_n 1, 1, 0, 0), (.iconst 1, 1, 0, 0)]
theorem kd_5_tie_94 : zdec md_5_tie 94 kb_5_tie_94 = true := by decide +kernel
theorem kr_5_tie_103 : decode md_5_tie.2.1 103 = .ok (.invokevirtual 181, 3) := by decide +kernel
theorem kr_5_tie_106 : decode md_5_tie.2.1 106 = .ok (.ireturn, 1) := by decide +kernel
def kb_5_tie_107 : List zI := [(.aload_n 0, 1, 0, 0), (.getfield 19, 3, 5, 1), (.getfield 77, 3, 1, 1), (.iload_n 1, 1, 0, 0), (.iconst (-1), 1, 0, 0)]
theorem kd_5_tie_107 : zdec md_5_tie 107 kb_5_tie_107 = true := by decide +kernel
theorem kr_5_tie_116 : decode md_5_tie.2.1 116 = .ok (.invokevirtual 185, 3) := by decide +kernel
def kb_5_tie_119 : List zI := [(.iconst (-1), 1, 0, 0), (.if_icmp .ne 7, 3, 127, 0)]
theorem kd_5_tie_119 : zdec md_5_tie 119 kb_5_tie_119 = true := by decide +kernel
def kb_5_tie_127 : List zI := [(.iconst 1, 1, 0, 0)]
theorem kd_5_tie_127 : zdec md_5_tie 127 kb_5_tie_127 = true := by decide +kernel
theorem kr_5_tie_128 : decode md_5_tie.2.1 128 = .ok (.ireturn, 1) := by decide +kernel
def kb_5_tie_123 : List zI := [(.iconst 0, 1, 0, 0), (.goto 4, 3, 128, 0)]
theorem kd_5_tie_123 : zdec md_5_tie 123 kb_5_tie_123 = true := by decide +kernel
def kb_5_tie_129 : List zI := [(.bipush (-2), 2, 0, 0)]
theorem kd_5_tie_129 : zdec md_5_tie 129 kb_5_tie_129 = true := by decide +kernel
theorem kr_5_tie_131 : decode md_5_tie.2.1 131 = .ok (.ireturn, 1) := by decide +kernel
def kb_5_tie_9 : List zI := [(.iconst (-1), 1, 0, 0)]
theorem kd_5_tie_9 : zdec md_5_tie 9 kb_5_tie_9 = true := by decide +kernel
theorem kr_5_tie_10 : decode md_5_tie.2.1 10 = .ok (.ireturn, 1) := by decide +kernel
noncomputable def xx_tie (μ : zM) (a1 a2 : Int) : Int := (if (xx_isBelow a1 10) = 0 then (-1) else (if a2 = 0 then (μ 19 a1) else (if a2 = 1 then (μ 20 a1) else (if a2 = 2 then (xx_genderOfTie μ a1) else (if a2 = 3 then (xx_holesOfTie μ a1 0) else (if a2 = 4 then (xx_holesOfTie μ a1 1) else (if a2 = 5 then (if (xx_nounIn μ a1 (-1)) = (-1) then 0 else 1) else (-2))))))))
set_option maxHeartbeats 4000000 in
set_option maxRecDepth 100000 in
theorem xz_tie {μ : zM} (hB : zB μ) (a1 a2 : Int) (h0 : -2147483648 ≤ a1 ∧ a1 ≤ 2147483647) (h1 : -2147483648 ≤ a2 ∧ a2 ≤ 2147483647) : Dz md_5_tie [zr 0, zi a1, zi a2] zSh μ (some (zi (xx_tie μ a1 a2))) zSh μ := by
  refine Dz.of (by decide) rfl rfl (show Ez md_5_tie 0 0 0 [(0, zr 0), (1, zi a1), (2, zi a2)] [] zSh μ (some (zi (xx_tie μ a1 a2))) zSh μ from ?_)
  unfold xx_tie
  refine Az.blk kd_5_tie_0 (show Ez md_5_tie 0 0 3 [(0, zr 0), (1, zi a1), (2, zi a2)] [zi 10, zi a1] zSh μ _ _ _ from ?_)
  refine Az.cS (mc := md_5_isBelow) (n := 2) (As := [zi a1, zi 10]) (rest := []) kr_5_tie_3 zw_422 ok_5_isBelow rfl rfl (xz_isBelow a1 10 (by omega) (by omega)) rfl rfl (show Ez md_5_tie 0 0 6 [(0, zr 0), (1, zi a1), (2, zi a2)] [zi (xx_isBelow a1 10)] zSh μ _ _ _ from ?_)
  have r1 : 0 ≤ (xx_isBelow a1 10) ∧ (xx_isBelow a1 10) ≤ 1 ∧ ((xx_isBelow a1 10) = 1 → 0 ≤ a1 ∧ a1 < (10 : Int)) := xr_isBelow a1 10 (by omega) (by omega)
  refine Az.blk kd_5_tie_6 (show zR (xx_isBelow a1 10) ∧ ((¬ (xx_isBelow a1 10) = 0 → Ez md_5_tie 0 0 11 [(0, zr 0), (1, zi a1), (2, zi a2)] [] zSh μ _ _ _) ∧ ((xx_isBelow a1 10) = 0 → Ez md_5_tie 0 0 9 [(0, zr 0), (1, zi a1), (2, zi a2)] [] zSh μ _ _ _)) from ⟨(by omega), fun c2 => ?_, fun c2 => ?_⟩)
  · rw [if_neg c2]
    refine Az.blk kd_5_tie_11 (show zR a2 ∧ ((a2 = 0 → Ez md_5_tie 0 0 52 [(0, zr 0), (1, zi a1), (2, zi a2)] [] zSh μ _ _ _) ∧ (¬ a2 = 0 → ((a2 = 1 → Ez md_5_tie 0 0 62 [(0, zr 0), (1, zi a1), (2, zi a2)] [] zSh μ _ _ _) ∧ (¬ a2 = 1 → ((a2 = 2 → Ez md_5_tie 0 0 72 [(0, zr 0), (1, zi a1), (2, zi a2)] [] zSh μ _ _ _) ∧ (¬ a2 = 2 → ((a2 = 3 → Ez md_5_tie 0 0 81 [(0, zr 0), (1, zi a1), (2, zi a2)] [] zSh μ _ _ _) ∧ (¬ a2 = 3 → ((a2 = 4 → Ez md_5_tie 0 0 94 [(0, zr 0), (1, zi a1), (2, zi a2)] [] zSh μ _ _ _) ∧ (¬ a2 = 4 → ((a2 = 5 → Ez md_5_tie 0 0 107 [(0, zr 0), (1, zi a1), (2, zi a2)] [] zSh μ _ _ _) ∧ (¬ a2 = 5 → Ez md_5_tie 0 0 129 [(0, zr 0), (1, zi a1), (2, zi a2)] [] zSh μ _ _ _)))))))))))) from ⟨(by omega), ⟨fun c3 => ?_, fun c3 => ⟨fun c4 => ?_, fun c4 => ⟨fun c5 => ?_, fun c5 => ⟨fun c6 => ?_, fun c6 => ⟨fun c7 => ?_, fun c7 => ⟨fun c8 => ?_, fun c8 => ?_⟩⟩⟩⟩⟩⟩⟩)
    · rw [if_pos c3]
      have b9 : 0 ≤ (μ 19 a1) ∧ (μ 19 a1) ≤ 1 := hB 19 a1
      refine Az.blk kd_5_tie_52 (show (0 ≤ a1 ∧ a1 < 10) ∧ Ez md_5_tie 0 0 61 [(0, zr 0), (1, zi a1), (2, zi a2)] [zi (μ 19 a1)] zSh μ _ _ _ from ⟨(by omega), ?_⟩)
      exact Ez.iret kr_5_tie_61 rfl (Nat.zero_le _) (Nat.zero_le _) rfl rfl
    · rw [if_neg c3, if_pos c4]
      have b10 : 0 ≤ (μ 20 a1) ∧ (μ 20 a1) ≤ 2 := hB 20 a1
      refine Az.blk kd_5_tie_62 (show (0 ≤ a1 ∧ a1 < 10) ∧ Ez md_5_tie 0 0 71 [(0, zr 0), (1, zi a1), (2, zi a2)] [zi (μ 20 a1)] zSh μ _ _ _ from ⟨(by omega), ?_⟩)
      exact Ez.iret kr_5_tie_71 rfl (Nat.zero_le _) (Nat.zero_le _) rfl rfl
    · rw [if_neg c3, if_neg c4, if_pos c5]
      refine Az.blk kd_5_tie_72 (show Ez md_5_tie 0 0 77 [(0, zr 0), (1, zi a1), (2, zi a2)] [zi a1, zr 3] zSh μ _ _ _ from ?_)
      refine Az.cVN (mc := md_1_genderOfTie) (k := 3) (n := 1) (As := [zi a1]) (rest := []) kr_5_tie_77 zw_459 ok_1_genderOfTie rfl rfl rfl trivial (xz_genderOfTie hB a1 (by omega)) rfl rfl (show Ez md_5_tie 0 0 80 [(0, zr 0), (1, zi a1), (2, zi a2)] [zi (xx_genderOfTie μ a1)] zSh μ _ _ _ from ?_)
      have r11 : 0 ≤ (xx_genderOfTie μ a1) ∧ (xx_genderOfTie μ a1) ≤ 2 := xr_genderOfTie hB a1 (by omega)
      exact Ez.iret kr_5_tie_80 rfl (Nat.zero_le _) (Nat.zero_le _) rfl rfl
    · rw [if_neg c3, if_neg c4, if_neg c5, if_pos c6]
      refine Az.blk kd_5_tie_81 (show Ez md_5_tie 0 0 90 [(0, zr 0), (1, zi a1), (2, zi a2)] [zi 0, zi a1, zr 10] zSh μ _ _ _ from ?_)
      refine Az.cVN (mc := md_2_holesOfTie) (k := 10) (n := 2) (As := [zi a1, zi 0]) (rest := []) kr_5_tie_90 zw_460 ok_2_holesOfTie rfl rfl rfl trivial (xz_holesOfTie hB a1 0 (by omega) (by omega)) rfl rfl (show Ez md_5_tie 0 0 93 [(0, zr 0), (1, zi a1), (2, zi a2)] [zi (xx_holesOfTie μ a1 0)] zSh μ _ _ _ from ?_)
      have r12 : 0 ≤ (xx_holesOfTie μ a1 0) ∧ (xx_holesOfTie μ a1 0) ≤ 20 := xr_holesOfTie hB a1 0 (by omega) (by omega)
      exact Ez.iret kr_5_tie_93 rfl (Nat.zero_le _) (Nat.zero_le _) rfl rfl
    · rw [if_neg c3, if_neg c4, if_neg c5, if_neg c6, if_pos c7]
      refine Az.blk kd_5_tie_94 (show Ez md_5_tie 0 0 103 [(0, zr 0), (1, zi a1), (2, zi a2)] [zi 1, zi a1, zr 10] zSh μ _ _ _ from ?_)
      refine Az.cVN (mc := md_2_holesOfTie) (k := 10) (n := 2) (As := [zi a1, zi 1]) (rest := []) kr_5_tie_103 zw_460 ok_2_holesOfTie rfl rfl rfl trivial (xz_holesOfTie hB a1 1 (by omega) (by omega)) rfl rfl (show Ez md_5_tie 0 0 106 [(0, zr 0), (1, zi a1), (2, zi a2)] [zi (xx_holesOfTie μ a1 1)] zSh μ _ _ _ from ?_)
      have r13 : 0 ≤ (xx_holesOfTie μ a1 1) ∧ (xx_holesOfTie μ a1 1) ≤ 20 := xr_holesOfTie hB a1 1 (by omega) (by omega)
      exact Ez.iret kr_5_tie_106 rfl (Nat.zero_le _) (Nat.zero_le _) rfl rfl
    · rw [if_neg c3, if_neg c4, if_neg c5, if_neg c6, if_neg c7, if_pos c8]
      refine Az.blk kd_5_tie_107 (show Ez md_5_tie 0 0 116 [(0, zr 0), (1, zi a1), (2, zi a2)] [zi (-1), zi a1, zr 10] zSh μ _ _ _ from ?_)
      refine Az.cVN (mc := md_2_nounIn) (k := 10) (n := 2) (As := [zi a1, zi (-1)]) (rest := []) kr_5_tie_116 zw_461 ok_2_nounIn rfl rfl rfl trivial (xz_nounIn hB a1 (-1) (by omega) (by omega)) rfl rfl (show Ez md_5_tie 0 0 119 [(0, zr 0), (1, zi a1), (2, zi a2)] [zi (xx_nounIn μ a1 (-1))] zSh μ _ _ _ from ?_)
      have r14 : -1 ≤ (xx_nounIn μ a1 (-1)) ∧ (xx_nounIn μ a1 (-1)) ≤ 23 := xr_nounIn hB a1 (-1) (by omega) (by omega)
      refine Az.blk kd_5_tie_119 (show zR (xx_nounIn μ a1 (-1)) ∧ zR (-1) ∧ ((¬ (xx_nounIn μ a1 (-1)) = (-1) → Ez md_5_tie 0 0 127 [(0, zr 0), (1, zi a1), (2, zi a2)] [] zSh μ _ _ _) ∧ ((xx_nounIn μ a1 (-1)) = (-1) → Ez md_5_tie 0 0 123 [(0, zr 0), (1, zi a1), (2, zi a2)] [] zSh μ _ _ _)) from ⟨(by omega), (by omega), fun c15 => ?_, fun c15 => ?_⟩)
      · rw [if_neg c15]
        refine Az.blk kd_5_tie_127 (show Ez md_5_tie 0 0 128 [(0, zr 0), (1, zi a1), (2, zi a2)] [zi 1] zSh μ _ _ _ from ?_)
        exact Ez.iret kr_5_tie_128 rfl (Nat.zero_le _) (Nat.zero_le _) rfl rfl
      · rw [if_pos c15]
        refine Az.blk kd_5_tie_123 (show Ez md_5_tie 0 0 128 [(0, zr 0), (1, zi a1), (2, zi a2)] [zi 0] zSh μ _ _ _ from ?_)
        exact Ez.iret kr_5_tie_128 rfl (Nat.zero_le _) (Nat.zero_le _) rfl rfl
    · rw [if_neg c3, if_neg c4, if_neg c5, if_neg c6, if_neg c7, if_neg c8]
      refine Az.blk kd_5_tie_129 (show Ez md_5_tie 0 0 131 [(0, zr 0), (1, zi a1), (2, zi a2)] [zi (-2)] zSh μ _ _ _ from ?_)
      exact Ez.iret kr_5_tie_131 rfl (Nat.zero_le _) (Nat.zero_le _) rfl rfl
  · rw [if_pos c2]
    refine Az.blk kd_5_tie_9 (show Ez md_5_tie 0 0 10 [(0, zr 0), (1, zi a1), (2, zi a2)] [zi (-1)] zSh μ _ _ _ from ?_)
    exact Ez.iret kr_5_tie_10 rfl (Nat.zero_le _) (Nat.zero_le _) rfl rfl
def kb_5_told_0 : List zI := [(.iload_n 1, 1, 0, 0), (.ifCond .ge 8, 3, 9, 0)]
theorem kd_5_told_0 : zdec md_5_told 0 kb_5_told_0 = true := by decide +kernel
def kb_5_told_9 : List zI := [(.aload_n 0, 1, 0, 0), (.getfield 19, 3, 5, 1), (.iload_n 1, 1, 0, 0)]
theorem kd_5_told_9 : zdec md_5_told 9 kb_5_told_9 = true := by decide +kernel
theorem kr_5_told_14 : decode md_5_told.2.1 14 = .ok (.invokevirtual 188, 3) := by decide +kernel
theorem kr_5_told_17 : decode md_5_told.2.1 17 = .ok (.ireturn, 1) := by decide +kernel
def kb_5_told_4 : List zI := [(.bipush (-2), 2, 0, 0), (.goto 11, 3, 17, 0)]
theorem kd_5_told_4 : zdec md_5_told 4 kb_5_told_4 = true := by decide +kernel
noncomputable def xx_told (μ : zM) (a1 : Int) : Int := (if a1 < 0 then (-2) else (xx_signToldAt μ a1))
set_option maxHeartbeats 4000000 in
set_option maxRecDepth 100000 in
theorem xz_told {μ : zM} (hB : zB μ) (a1 : Int) (h0 : -2147483648 ≤ a1 ∧ a1 ≤ 2147483647) : Dz md_5_told [zr 0, zi a1] zSh μ (some (zi (xx_told μ a1))) zSh μ := by
  refine Dz.of (by decide) rfl rfl (show Ez md_5_told 0 0 0 [(0, zr 0), (1, zi a1)] [] zSh μ (some (zi (xx_told μ a1))) zSh μ from ?_)
  unfold xx_told
  refine Az.blk kd_5_told_0 (show zR a1 ∧ ((¬ a1 < 0 → Ez md_5_told 0 0 9 [(0, zr 0), (1, zi a1)] [] zSh μ _ _ _) ∧ (a1 < 0 → Ez md_5_told 0 0 4 [(0, zr 0), (1, zi a1)] [] zSh μ _ _ _)) from ⟨(by omega), fun c1 => ?_, fun c1 => ?_⟩)
  · rw [if_neg c1]
    refine Az.blk kd_5_told_9 (show Ez md_5_told 0 0 14 [(0, zr 0), (1, zi a1)] [zi a1, zr 3] zSh μ _ _ _ from ?_)
    refine Az.cVN (mc := md_1_signToldAt) (k := 3) (n := 1) (As := [zi a1]) (rest := []) kr_5_told_14 zw_590 ok_1_signToldAt rfl rfl rfl trivial (xz_signToldAt hB a1 (by omega)) rfl rfl (show Ez md_5_told 0 0 17 [(0, zr 0), (1, zi a1)] [zi (xx_signToldAt μ a1)] zSh μ _ _ _ from ?_)
    have r2 : -5 ≤ (xx_signToldAt μ a1) ∧ (xx_signToldAt μ a1) ≤ 65535 := xr_signToldAt hB a1 (by omega)
    exact Ez.iret kr_5_told_17 rfl (Nat.zero_le _) (Nat.zero_le _) rfl rfl
  · rw [if_pos c1]
    refine Az.blk kd_5_told_4 (show Ez md_5_told 0 0 17 [(0, zr 0), (1, zi a1)] [zi (-2)] zSh μ _ _ _ from ?_)
    exact Ez.iret kr_5_told_17 rfl (Nat.zero_le _) (Nat.zero_le _) rfl rfl
def kb_5_reason_0 : List zI := [(.aload_n 0, 1, 0, 0), (.getfield 19, 3, 5, 1), (.getfield 77, 3, 1, 1), (.iload_n 1, 1, 0, 0)]
theorem kd_5_reason_0 : zdec md_5_reason 0 kb_5_reason_0 = true := by decide +kernel
theorem kr_5_reason_8 : decode md_5_reason.2.1 8 = .ok (.invokevirtual 97, 3) := by decide +kernel
def kb_5_reason_11 : List zI := [(.ifCond .eq 17, 3, 28, 0)]
theorem kd_5_reason_11 : zdec md_5_reason 11 kb_5_reason_11 = true := by decide +kernel
def kb_5_reason_28 : List zI := [(.iconst (-1), 1, 0, 0)]
theorem kd_5_reason_28 : zdec md_5_reason 28 kb_5_reason_28 = true := by decide +kernel
theorem kr_5_reason_29 : decode md_5_reason.2.1 29 = .ok (.ireturn, 1) := by decide +kernel
def kb_5_reason_14 : List zI := [(.aload_n 0, 1, 0, 0), (.getfield 19, 3, 5, 1), (.getfield 45, 3, 1, 0), (.iload_n 2, 1, 0, 0)]
theorem kd_5_reason_14 : zdec md_5_reason 14 kb_5_reason_14 = true := by decide +kernel
theorem kr_5_reason_22 : decode md_5_reason.2.1 22 = .ok (.invokevirtual 101, 3) := by decide +kernel
def kb_5_reason_25 : List zI := [(.ifCond .ne 5, 3, 30, 0)]
theorem kd_5_reason_25 : zdec md_5_reason 25 kb_5_reason_25 = true := by decide +kernel
def kb_5_reason_30 : List zI := [(.aload_n 0, 1, 0, 0), (.getfield 19, 3, 5, 1), (.iload_n 1, 1, 0, 0), (.iload_n 2, 1, 0, 0)]
theorem kd_5_reason_30 : zdec md_5_reason 30 kb_5_reason_30 = true := by decide +kernel
theorem kr_5_reason_36 : decode md_5_reason.2.1 36 = .ok (.invokevirtual 104, 3) := by decide +kernel
theorem kr_5_reason_39 : decode md_5_reason.2.1 39 = .ok (.ireturn, 1) := by decide +kernel
noncomputable def xx_reason (μ : zM) (a1 a2 : Int) : Int := (if (xx_hasHole μ a1) = 0 then (-1) else (if (xx_knows μ a2) = 0 then (-1) else (xx_reasonAgainst μ a1 a2)))
set_option maxHeartbeats 4000000 in
set_option maxRecDepth 100000 in
theorem xz_reason {μ : zM} (hB : zB μ) (a1 a2 : Int) (h0 : -2147483648 ≤ a1 ∧ a1 ≤ 2147483647) (h1 : -2147483648 ≤ a2 ∧ a2 ≤ 2147483647) : Dz md_5_reason [zr 0, zi a1, zi a2] zSh μ (some (zi (xx_reason μ a1 a2))) zSh μ := by
  refine Dz.of (by decide) rfl rfl (show Ez md_5_reason 0 0 0 [(0, zr 0), (1, zi a1), (2, zi a2)] [] zSh μ (some (zi (xx_reason μ a1 a2))) zSh μ from ?_)
  unfold xx_reason
  refine Az.blk kd_5_reason_0 (show Ez md_5_reason 0 0 8 [(0, zr 0), (1, zi a1), (2, zi a2)] [zi a1, zr 10] zSh μ _ _ _ from ?_)
  refine Az.cVN (mc := md_2_hasHole) (k := 10) (n := 1) (As := [zi a1]) (rest := []) kr_5_reason_8 zw_470 ok_2_hasHole rfl rfl rfl trivial (xz_hasHole hB a1 (by omega)) rfl rfl (show Ez md_5_reason 0 0 11 [(0, zr 0), (1, zi a1), (2, zi a2)] [zi (xx_hasHole μ a1)] zSh μ _ _ _ from ?_)
  have r1 : 0 ≤ (xx_hasHole μ a1) ∧ (xx_hasHole μ a1) ≤ 1 ∧ ((xx_hasHole μ a1) = 1 → 0 ≤ a1 ∧ a1 < μ 10 1 ∧ a1 < 20) := xr_hasHole hB a1 (by omega)
  refine Az.blk kd_5_reason_11 (show zR (xx_hasHole μ a1) ∧ (((xx_hasHole μ a1) = 0 → Ez md_5_reason 0 0 28 [(0, zr 0), (1, zi a1), (2, zi a2)] [] zSh μ _ _ _) ∧ (¬ (xx_hasHole μ a1) = 0 → Ez md_5_reason 0 0 14 [(0, zr 0), (1, zi a1), (2, zi a2)] [] zSh μ _ _ _)) from ⟨(by omega), fun c2 => ?_, fun c2 => ?_⟩)
  · rw [if_pos c2]
    refine Az.blk kd_5_reason_28 (show Ez md_5_reason 0 0 29 [(0, zr 0), (1, zi a1), (2, zi a2)] [zi (-1)] zSh μ _ _ _ from ?_)
    exact Ez.iret kr_5_reason_29 rfl (Nat.zero_le _) (Nat.zero_le _) rfl rfl
  · rw [if_neg c2]
    refine Az.blk kd_5_reason_14 (show Ez md_5_reason 0 0 22 [(0, zr 0), (1, zi a1), (2, zi a2)] [zi a2, zr 4] zSh μ _ _ _ from ?_)
    refine Az.cVN (mc := md_4_knows) (k := 4) (n := 1) (As := [zi a2]) (rest := []) kr_5_reason_22 zw_436 ok_4_knows rfl rfl rfl trivial (xz_knows hB a2 (by omega)) rfl rfl (show Ez md_5_reason 0 0 25 [(0, zr 0), (1, zi a1), (2, zi a2)] [zi (xx_knows μ a2)] zSh μ _ _ _ from ?_)
    have r3 : 0 ≤ (xx_knows μ a2) ∧ (xx_knows μ a2) ≤ 1 ∧ ((xx_knows μ a2) = 1 → 0 ≤ a2 ∧ a2 < μ 4 0 ∧ a2 < 24) := xr_knows hB a2 (by omega)
    refine Az.blk kd_5_reason_25 (show zR (xx_knows μ a2) ∧ ((¬ (xx_knows μ a2) = 0 → Ez md_5_reason 0 0 30 [(0, zr 0), (1, zi a1), (2, zi a2)] [] zSh μ _ _ _) ∧ ((xx_knows μ a2) = 0 → Ez md_5_reason 0 0 28 [(0, zr 0), (1, zi a1), (2, zi a2)] [] zSh μ _ _ _)) from ⟨(by omega), fun c4 => ?_, fun c4 => ?_⟩)
    · rw [if_neg c4]
      refine Az.blk kd_5_reason_30 (show Ez md_5_reason 0 0 36 [(0, zr 0), (1, zi a1), (2, zi a2)] [zi a2, zi a1, zr 3] zSh μ _ _ _ from ?_)
      refine Az.cVN (mc := md_1_reasonAgainst) (k := 3) (n := 2) (As := [zi a1, zi a2]) (rest := []) kr_5_reason_36 zw_471 ok_1_reasonAgainst rfl rfl rfl trivial (xz_reasonAgainst hB a1 a2 (by omega) (by omega)) rfl rfl (show Ez md_5_reason 0 0 39 [(0, zr 0), (1, zi a1), (2, zi a2)] [zi (xx_reasonAgainst μ a1 a2)] zSh μ _ _ _ from ?_)
      have r5 : 0 ≤ (xx_reasonAgainst μ a1 a2) ∧ (xx_reasonAgainst μ a1 a2) ≤ 3 := xr_reasonAgainst hB a1 a2 (by omega) (by omega)
      exact Ez.iret kr_5_reason_39 rfl (Nat.zero_le _) (Nat.zero_le _) rfl rfl
    · rw [if_pos c4]
      refine Az.blk kd_5_reason_28 (show Ez md_5_reason 0 0 29 [(0, zr 0), (1, zi a1), (2, zi a2)] [zi (-1)] zSh μ _ _ _ from ?_)
      exact Ez.iret kr_5_reason_29 rfl (Nat.zero_le _) (Nat.zero_le _) rfl rfl
def kb_5_fits_0 : List zI := [(.aload_n 0, 1, 0, 0), (.getfield 19, 3, 5, 1), (.getfield 77, 3, 1, 1), (.iload_n 1, 1, 0, 0)]
theorem kd_5_fits_0 : zdec md_5_fits 0 kb_5_fits_0 = true := by decide +kernel
theorem kr_5_fits_8 : decode md_5_fits.2.1 8 = .ok (.invokevirtual 97, 3) := by decide +kernel
def kb_5_fits_11 : List zI := [(.ifCond .ne 5, 3, 16, 0)]
theorem kd_5_fits_11 : zdec md_5_fits 11 kb_5_fits_11 = true := by decide +kernel
def kb_5_fits_16 : List zI := [(.iconst 0, 1, 0, 0), (.istore_n 2, 1, 0, 0), (.iconst 0, 1, 0, 0), (.istore_n 3, 1, 0, 0)]
theorem kd_5_fits_16 : zdec md_5_fits 16 kb_5_fits_16 = true := by decide +kernel
def kb_5_fits_14 : List zI := [(.iconst (-1), 1, 0, 0)]
theorem kd_5_fits_14 : zdec md_5_fits 14 kb_5_fits_14 = true := by decide +kernel
theorem kr_5_fits_15 : decode md_5_fits.2.1 15 = .ok (.ireturn, 1) := by decide +kernel
def kb_5_fits_20 : List zI := [(.iload_n 3, 1, 0, 0), (.aload_n 0, 1, 0, 0), (.getfield 19, 3, 5, 1), (.getfield 45, 3, 1, 0), (.getfield 49, 3, 4, 0), (.if_icmp .ge 27, 3, 58, 0)]
theorem kd_5_fits_20 : zdec md_5_fits 20 kb_5_fits_20 = true := by decide +kernel
def kb_5_fits_58 : List zI := [(.iload_n 2, 1, 0, 0)]
theorem kd_5_fits_58 : zdec md_5_fits 58 kb_5_fits_58 = true := by decide +kernel
theorem kr_5_fits_59 : decode md_5_fits.2.1 59 = .ok (.ireturn, 1) := by decide +kernel
def kb_5_fits_34 : List zI := [(.aload_n 0, 1, 0, 0), (.getfield 19, 3, 5, 1), (.iload_n 1, 1, 0, 0), (.iload_n 3, 1, 0, 0)]
theorem kd_5_fits_34 : zdec md_5_fits 34 kb_5_fits_34 = true := by decide +kernel
theorem kr_5_fits_40 : decode md_5_fits.2.1 40 = .ok (.invokevirtual 104, 3) := by decide +kernel
def kb_5_fits_43 : List zI := [(.ifCond .ne 9, 3, 52, 0)]
theorem kd_5_fits_43 : zdec md_5_fits 43 kb_5_fits_43 = true := by decide +kernel
def kb_5_fits_52 : List zI := [(.iinc 3 1, 3, 0, 0), (.goto (-35), 3, 20, 0)]
theorem kd_5_fits_52 : zdec md_5_fits 52 kb_5_fits_52 = true := by decide +kernel
def kb_5_fits_46 : List zI := [(.iload_n 2, 1, 0, 0), (.iconst 1, 1, 0, 0), (.iload_n 3, 1, 0, 0), (.ishl, 1, 0, 0), (.ior, 1, 0, 0), (.istore_n 2, 1, 0, 0), (.iinc 3 1, 3, 0, 0), (.goto (-35), 3, 20, 0)]
theorem kd_5_fits_46 : zdec md_5_fits 46 kb_5_fits_46 = true := by decide +kernel
noncomputable def xx_fits_20 : Nat → zM → Int → Int → Int → Int
  | 0, μ, _, _, _ => 0
  | f + 1, μ, l1, l2, l3 => (if l3 < (μ 4 0) then (if (xx_reasonAgainst μ l1 l3) = 0 then (xx_fits_20 f μ l1 (zor l2 (zshl 1 l3)) (l3 + 1)) else (xx_fits_20 f μ l1 l2 (l3 + 1))) else l2)
noncomputable def xx_fits (μ : zM) (a1 : Int) : Int := (if (xx_hasHole μ a1) = 0 then (-1) else (xx_fits_20 zN μ a1 0 0))
set_option maxHeartbeats 4000000 in
set_option maxRecDepth 100000 in
theorem xz_fits_20 (f : Nat) (μ : zM) (hB : zB μ) (l1 : Int) (l2 : Int) (l3 : Int) (i0 : 0 ≤ l3 ∧ l3 ≤ (μ 4 0)) (i1 : -2147483648 ≤ l1 ∧ l1 ≤ 2147483647) (hf : (μ 4 0) - l3 < (f : Int)) : Ez md_5_fits 0 0 20 [(0, zr 0), (1, zi l1), (2, zi l2), (3, zi l3)] [] zSh μ (some (zi (xx_fits_20 f μ l1 l2 l3))) zSh μ := by
  induction f generalizing μ l1 l2 l3 with
  | zero => exfalso; omega
  | succ f ih =>
    replace hf : (μ 4 0) - l3 < (f : Int) + 1 := by omega
    rw [xx_fits_20]
    have b4 : 0 ≤ (μ 4 0) ∧ (μ 4 0) ≤ 24 := hB 4 0
    refine Az.blk kd_5_fits_20 (show zR l3 ∧ zR (μ 4 0) ∧ ((¬ l3 < (μ 4 0) → Ez md_5_fits 0 0 58 [(0, zr 0), (1, zi l1), (2, zi l2), (3, zi l3)] [] zSh μ _ _ _) ∧ (l3 < (μ 4 0) → Ez md_5_fits 0 0 34 [(0, zr 0), (1, zi l1), (2, zi l2), (3, zi l3)] [] zSh μ _ _ _)) from ⟨(by omega), (by omega), fun c5 => ?_, fun c5 => ?_⟩)
    · rw [if_neg c5]
      refine Az.blk kd_5_fits_58 (show Ez md_5_fits 0 0 59 [(0, zr 0), (1, zi l1), (2, zi l2), (3, zi l3)] [zi l2] zSh μ _ _ _ from ?_)
      exact Ez.iret kr_5_fits_59 rfl (Nat.zero_le _) (Nat.zero_le _) rfl rfl
    · rw [if_pos c5]
      refine Az.blk kd_5_fits_34 (show Ez md_5_fits 0 0 40 [(0, zr 0), (1, zi l1), (2, zi l2), (3, zi l3)] [zi l3, zi l1, zr 3] zSh μ _ _ _ from ?_)
      refine Az.cVN (mc := md_1_reasonAgainst) (k := 3) (n := 2) (As := [zi l1, zi l3]) (rest := []) kr_5_fits_40 zw_471 ok_1_reasonAgainst rfl rfl rfl trivial (xz_reasonAgainst hB l1 l3 (by omega) (by omega)) rfl rfl (show Ez md_5_fits 0 0 43 [(0, zr 0), (1, zi l1), (2, zi l2), (3, zi l3)] [zi (xx_reasonAgainst μ l1 l3)] zSh μ _ _ _ from ?_)
      have r6 : 0 ≤ (xx_reasonAgainst μ l1 l3) ∧ (xx_reasonAgainst μ l1 l3) ≤ 3 := xr_reasonAgainst hB l1 l3 (by omega) (by omega)
      refine Az.blk kd_5_fits_43 (show zR (xx_reasonAgainst μ l1 l3) ∧ ((¬ (xx_reasonAgainst μ l1 l3) = 0 → Ez md_5_fits 0 0 52 [(0, zr 0), (1, zi l1), (2, zi l2), (3, zi l3)] [] zSh μ _ _ _) ∧ ((xx_reasonAgainst μ l1 l3) = 0 → Ez md_5_fits 0 0 46 [(0, zr 0), (1, zi l1), (2, zi l2), (3, zi l3)] [] zSh μ _ _ _)) from ⟨(by omega), fun c7 => ?_, fun c7 => ?_⟩)
      · rw [if_neg c7]
        refine Az.blk kd_5_fits_52 (show Ez md_5_fits 0 0 20 [(3, zi (l3 + 1)), (0, zr 0), (1, zi l1), (2, zi l2)] [] zSh μ _ _ _ from ?_)
        have b8 : 0 ≤ (μ 4 0) ∧ (μ 4 0) ≤ 24 := hB 4 0
        refine Az.lvs (lv' := [(0, zr 0), (1, zi l1), (2, zi l2), (3, zi (l3 + 1))]) ?_ ?_
        · intro q hq; simp only [List.mem_cons, List.not_mem_nil, or_false] at hq; rcases hq with rfl | rfl | rfl | rfl <;> rfl
        exact ih μ hB l1 l2 (l3 + 1) (by omega) (by omega) (by omega)
      · rw [if_pos c7]
        refine Az.blk kd_5_fits_46 (show Ez md_5_fits 0 0 20 [(3, zi (l3 + 1)), (2, zi (zor l2 (zshl 1 l3))), (0, zr 0), (1, zi l1)] [] zSh μ _ _ _ from ?_)
        have b9 : 0 ≤ (μ 4 0) ∧ (μ 4 0) ≤ 24 := hB 4 0
        refine Az.lvs (lv' := [(0, zr 0), (1, zi l1), (2, zi (zor l2 (zshl 1 l3))), (3, zi (l3 + 1))]) ?_ ?_
        · intro q hq; simp only [List.mem_cons, List.not_mem_nil, or_false] at hq; rcases hq with rfl | rfl | rfl | rfl <;> rfl
        exact ih μ hB l1 (zor l2 (zshl 1 l3)) (l3 + 1) (by omega) (by omega) (by omega)
set_option maxHeartbeats 4000000 in
set_option maxRecDepth 100000 in
theorem xz_fits {μ : zM} (hB : zB μ) (a1 : Int) (h0 : -2147483648 ≤ a1 ∧ a1 ≤ 2147483647) : Dz md_5_fits [zr 0, zi a1] zSh μ (some (zi (xx_fits μ a1))) zSh μ := by
  refine Dz.of (by decide) rfl rfl (show Ez md_5_fits 0 0 0 [(0, zr 0), (1, zi a1)] [] zSh μ (some (zi (xx_fits μ a1))) zSh μ from ?_)
  unfold xx_fits
  refine Az.blk kd_5_fits_0 (show Ez md_5_fits 0 0 8 [(0, zr 0), (1, zi a1)] [zi a1, zr 10] zSh μ _ _ _ from ?_)
  refine Az.cVN (mc := md_2_hasHole) (k := 10) (n := 1) (As := [zi a1]) (rest := []) kr_5_fits_8 zw_470 ok_2_hasHole rfl rfl rfl trivial (xz_hasHole hB a1 (by omega)) rfl rfl (show Ez md_5_fits 0 0 11 [(0, zr 0), (1, zi a1)] [zi (xx_hasHole μ a1)] zSh μ _ _ _ from ?_)
  have r1 : 0 ≤ (xx_hasHole μ a1) ∧ (xx_hasHole μ a1) ≤ 1 ∧ ((xx_hasHole μ a1) = 1 → 0 ≤ a1 ∧ a1 < μ 10 1 ∧ a1 < 20) := xr_hasHole hB a1 (by omega)
  refine Az.blk kd_5_fits_11 (show zR (xx_hasHole μ a1) ∧ ((¬ (xx_hasHole μ a1) = 0 → Ez md_5_fits 0 0 16 [(0, zr 0), (1, zi a1)] [] zSh μ _ _ _) ∧ ((xx_hasHole μ a1) = 0 → Ez md_5_fits 0 0 14 [(0, zr 0), (1, zi a1)] [] zSh μ _ _ _)) from ⟨(by omega), fun c2 => ?_, fun c2 => ?_⟩)
  · rw [if_neg c2]
    refine Az.blk kd_5_fits_16 (show Ez md_5_fits 0 0 20 [(3, zi 0), (2, zi 0), (0, zr 0), (1, zi a1)] [] zSh μ _ _ _ from ?_)
    have b3 : 0 ≤ (μ 4 0) ∧ (μ 4 0) ≤ 24 := hB 4 0
    refine Az.lvs (lv' := [(0, zr 0), (1, zi a1), (2, zi 0), (3, zi 0)]) ?_ ?_
    · intro q hq; simp only [List.mem_cons, List.not_mem_nil, or_false] at hq; rcases hq with rfl | rfl | rfl | rfl <;> rfl
    have fb : (3000 : Int) ≤ ((zN : Nat) : Int) := zN_big
    exact xz_fits_20 zN μ hB a1 0 0 (by omega) (by omega) (by omega)
  · rw [if_pos c2]
    refine Az.blk kd_5_fits_14 (show Ez md_5_fits 0 0 15 [(0, zr 0), (1, zi a1)] [zi (-1)] zSh μ _ _ _ from ?_)
    exact Ez.iret kr_5_fits_15 rfl (Nat.zero_le _) (Nat.zero_le _) rfl rfl
def kb_5_tieCould_0 : List zI := [(.iload_n 1, 1, 0, 0), (.bipush 10, 2, 0, 0)]
theorem kd_5_tieCould_0 : zdec md_5_tieCould 0 kb_5_tieCould_0 = true := by decide +kernel
theorem kr_5_tieCould_3 : decode md_5_tieCould.2.1 3 = .ok (.invokestatic 37, 3) := by decide +kernel
def kb_5_tieCould_6 : List zI := [(.ifCond .ne 5, 3, 11, 0)]
theorem kd_5_tieCould_6 : zdec md_5_tieCould 6 kb_5_tieCould_6 = true := by decide +kernel
def kb_5_tieCould_11 : List zI := [(.aload_n 0, 1, 0, 0), (.getfield 19, 3, 5, 1), (.getfield 77, 3, 1, 1), (.iload_n 1, 1, 0, 0)]
theorem kd_5_tieCould_11 : zdec md_5_tieCould 11 kb_5_tieCould_11 = true := by decide +kernel
theorem kr_5_tieCould_19 : decode md_5_tieCould.2.1 19 = .ok (.invokevirtual 191, 3) := by decide +kernel
def kb_5_tieCould_22 : List zI := [(.ifCond .eq 7, 3, 29, 0)]
theorem kd_5_tieCould_22 : zdec md_5_tieCould 22 kb_5_tieCould_22 = true := by decide +kernel
def kb_5_tieCould_29 : List zI := [(.iconst 1, 1, 0, 0), (.istore_n 3, 1, 0, 0), (.iconst (-1), 1, 0, 0), (.istore 4, 2, 0, 0), (.iconst 0, 1, 0, 0), (.istore 5, 2, 0, 0)]
theorem kd_5_tieCould_29 : zdec md_5_tieCould 29 kb_5_tieCould_29 = true := by decide +kernel
def kb_5_tieCould_25 : List zI := [(.iconst 3, 1, 0, 0), (.goto 4, 3, 30, 0)]
theorem kd_5_tieCould_25 : zdec md_5_tieCould 25 kb_5_tieCould_25 = true := by decide +kernel
def kb_5_tieCould_30 : List zI := [(.istore_n 3, 1, 0, 0), (.iconst (-1), 1, 0, 0), (.istore 4, 2, 0, 0), (.iconst 0, 1, 0, 0), (.istore 5, 2, 0, 0)]
theorem kd_5_tieCould_30 : zdec md_5_tieCould 30 kb_5_tieCould_30 = true := by decide +kernel
def kb_5_tieCould_9 : List zI := [(.iconst (-1), 1, 0, 0)]
theorem kd_5_tieCould_9 : zdec md_5_tieCould 9 kb_5_tieCould_9 = true := by decide +kernel
theorem kr_5_tieCould_10 : decode md_5_tieCould.2.1 10 = .ok (.ireturn, 1) := by decide +kernel
def kb_5_tieCould_37 : List zI := [(.iload 5, 2, 0, 0), (.iload_n 3, 1, 0, 0), (.if_icmp .ge 28, 3, 68, 0)]
theorem kd_5_tieCould_37 : zdec md_5_tieCould 37 kb_5_tieCould_37 = true := by decide +kernel
def kb_5_tieCould_68 : List zI := [(.iload 4, 2, 0, 0), (.iconst (-1), 1, 0, 0), (.if_icmp .ne 8, 3, 79, 0)]
theorem kd_5_tieCould_68 : zdec md_5_tieCould 68 kb_5_tieCould_68 = true := by decide +kernel
def kb_5_tieCould_79 : List zI := [(.iload 4, 2, 0, 0)]
theorem kd_5_tieCould_79 : zdec md_5_tieCould 79 kb_5_tieCould_79 = true := by decide +kernel
theorem kr_5_tieCould_81 : decode md_5_tieCould.2.1 81 = .ok (.ireturn, 1) := by decide +kernel
def kb_5_tieCould_74 : List zI := [(.bipush (-5), 2, 0, 0), (.goto 5, 3, 81, 0)]
theorem kd_5_tieCould_74 : zdec md_5_tieCould 74 kb_5_tieCould_74 = true := by decide +kernel
def kb_5_tieCould_43 : List zI := [(.iload 4, 2, 0, 0), (.aload_n 0, 1, 0, 0), (.getfield 19, 3, 5, 1), (.iload_n 1, 1, 0, 0), (.iload 5, 2, 0, 0), (.iload_n 2, 1, 0, 0)]
theorem kd_5_tieCould_43 : zdec md_5_tieCould 43 kb_5_tieCould_43 = true := by decide +kernel
theorem kr_5_tieCould_53 : decode md_5_tieCould.2.1 53 = .ok (.invokevirtual 194, 3) := by decide +kernel
def kb_5_tieCould_56 : List zI := [(.iload_n 2, 1, 0, 0)]
theorem kd_5_tieCould_56 : zdec md_5_tieCould 56 kb_5_tieCould_56 = true := by decide +kernel
theorem kr_5_tieCould_57 : decode md_5_tieCould.2.1 57 = .ok (.invokestatic 198, 3) := by decide +kernel
def kb_5_tieCould_60 : List zI := [(.istore 4, 2, 0, 0), (.iinc 5 1, 3, 0, 0), (.goto (-28), 3, 37, 0)]
theorem kd_5_tieCould_60 : zdec md_5_tieCould 60 kb_5_tieCould_60 = true := by decide +kernel
noncomputable def xx_tieCould_37 : Nat → zM → Int → Int → Int → Int → Int → Int
  | 0, μ, _, _, _, _, _ => 0
  | f + 1, μ, l1, l2, l3, l4, l5 => (if l5 < l3 then (xx_tieCould_37 f μ l1 l2 l3 (xx_better l4 (xx_lettersTieCould μ l1 l5 l2) l2) (l5 + 1)) else (if l4 = (-1) then (-5) else l4))
noncomputable def xx_tieCould (μ : zM) (a1 a2 : Int) : Int := (if (xx_isBelow a1 10) = 0 then (-1) else (if (xx_hasNounHole μ a1) = 0 then (xx_tieCould_37 zN μ a1 a2 1 (-1) 0) else (xx_tieCould_37 zN μ a1 a2 3 (-1) 0)))
set_option maxHeartbeats 4000000 in
set_option maxRecDepth 100000 in
theorem xz_tieCould_37 (f : Nat) (μ : zM) (hB : zB μ) (l1 : Int) (l2 : Int) (l3 : Int) (l4 : Int) (l5 : Int) (i0 : 0 ≤ l5 ∧ l5 ≤ l3) (i1 : 0 ≤ l3 ∧ l3 ≤ 3) (i2 : -1 ≤ l4 ∧ l4 ≤ 200) (i3 : -2147483648 ≤ l1 ∧ l1 ≤ 2147483647) (i4 : -2147483648 ≤ l2 ∧ l2 ≤ 2147483647) (hf : l3 - l5 < (f : Int)) : Ez md_5_tieCould 0 0 37 [(0, zr 0), (1, zi l1), (2, zi l2), (3, zi l3), (4, zi l4), (5, zi l5)] [] zSh μ (some (zi (xx_tieCould_37 f μ l1 l2 l3 l4 l5))) zSh μ := by
  induction f generalizing μ l1 l2 l3 l4 l5 with
  | zero => exfalso; omega
  | succ f ih =>
    replace hf : l3 - l5 < (f : Int) + 1 := by omega
    rw [xx_tieCould_37]
    refine Az.blk kd_5_tieCould_37 (show zR l5 ∧ zR l3 ∧ ((¬ l5 < l3 → Ez md_5_tieCould 0 0 68 [(0, zr 0), (1, zi l1), (2, zi l2), (3, zi l3), (4, zi l4), (5, zi l5)] [] zSh μ _ _ _) ∧ (l5 < l3 → Ez md_5_tieCould 0 0 43 [(0, zr 0), (1, zi l1), (2, zi l2), (3, zi l3), (4, zi l4), (5, zi l5)] [] zSh μ _ _ _)) from ⟨(by omega), (by omega), fun c5 => ?_, fun c5 => ?_⟩)
    · rw [if_neg c5]
      refine Az.blk kd_5_tieCould_68 (show zR l4 ∧ zR (-1) ∧ ((¬ l4 = (-1) → Ez md_5_tieCould 0 0 79 [(0, zr 0), (1, zi l1), (2, zi l2), (3, zi l3), (4, zi l4), (5, zi l5)] [] zSh μ _ _ _) ∧ (l4 = (-1) → Ez md_5_tieCould 0 0 74 [(0, zr 0), (1, zi l1), (2, zi l2), (3, zi l3), (4, zi l4), (5, zi l5)] [] zSh μ _ _ _)) from ⟨(by omega), (by omega), fun c6 => ?_, fun c6 => ?_⟩)
      · rw [if_neg c6]
        refine Az.blk kd_5_tieCould_79 (show Ez md_5_tieCould 0 0 81 [(0, zr 0), (1, zi l1), (2, zi l2), (3, zi l3), (4, zi l4), (5, zi l5)] [zi l4] zSh μ _ _ _ from ?_)
        exact Ez.iret kr_5_tieCould_81 rfl (Nat.zero_le _) (Nat.zero_le _) rfl rfl
      · rw [if_pos c6]
        refine Az.blk kd_5_tieCould_74 (show Ez md_5_tieCould 0 0 81 [(0, zr 0), (1, zi l1), (2, zi l2), (3, zi l3), (4, zi l4), (5, zi l5)] [zi (-5)] zSh μ _ _ _ from ?_)
        exact Ez.iret kr_5_tieCould_81 rfl (Nat.zero_le _) (Nat.zero_le _) rfl rfl
    · rw [if_pos c5]
      refine Az.blk kd_5_tieCould_43 (show Ez md_5_tieCould 0 0 53 [(0, zr 0), (1, zi l1), (2, zi l2), (3, zi l3), (4, zi l4), (5, zi l5)] [zi l2, zi l5, zi l1, zr 3, zi l4] zSh μ _ _ _ from ?_)
      refine Az.cVN (mc := md_1_lettersTieCould) (k := 3) (n := 3) (As := [zi l1, zi l5, zi l2]) (rest := [zi l4]) kr_5_tieCould_53 zw_571 ok_1_lettersTieCould rfl rfl rfl trivial (xz_lettersTieCould hB l1 l5 l2 (by omega) (by omega) (by omega)) rfl rfl (show Ez md_5_tieCould 0 0 56 [(0, zr 0), (1, zi l1), (2, zi l2), (3, zi l3), (4, zi l4), (5, zi l5)] [zi (xx_lettersTieCould μ l1 l5 l2), zi l4] zSh μ _ _ _ from ?_)
      have r7 : -1 ≤ (xx_lettersTieCould μ l1 l5 l2) ∧ (xx_lettersTieCould μ l1 l5 l2) ≤ 200 := xr_lettersTieCould hB l1 l5 l2 (by omega) (by omega) (by omega)
      refine Az.blk kd_5_tieCould_56 (show Ez md_5_tieCould 0 0 57 [(0, zr 0), (1, zi l1), (2, zi l2), (3, zi l3), (4, zi l4), (5, zi l5)] [zi l2, zi (xx_lettersTieCould μ l1 l5 l2), zi l4] zSh μ _ _ _ from ?_)
      refine Az.cS (mc := md_5_better) (n := 3) (As := [zi l4, zi (xx_lettersTieCould μ l1 l5 l2), zi l2]) (rest := []) kr_5_tieCould_57 zw_585 ok_5_better rfl rfl (xz_better l4 (xx_lettersTieCould μ l1 l5 l2) l2 (by omega) (by omega) (by omega)) rfl rfl (show Ez md_5_tieCould 0 0 60 [(0, zr 0), (1, zi l1), (2, zi l2), (3, zi l3), (4, zi l4), (5, zi l5)] [zi (xx_better l4 (xx_lettersTieCould μ l1 l5 l2) l2)] zSh μ _ _ _ from ?_)
      have r8 : ((xx_better l4 (xx_lettersTieCould μ l1 l5 l2) l2) = l4 ∨ (xx_better l4 (xx_lettersTieCould μ l1 l5 l2) l2) = (xx_lettersTieCould μ l1 l5 l2)) := xr_better l4 (xx_lettersTieCould μ l1 l5 l2) l2 (by omega) (by omega) (by omega)
      refine Az.blk kd_5_tieCould_60 (show Ez md_5_tieCould 0 0 37 [(5, zi (l5 + 1)), (4, zi (xx_better l4 (xx_lettersTieCould μ l1 l5 l2) l2)), (0, zr 0), (1, zi l1), (2, zi l2), (3, zi l3)] [] zSh μ _ _ _ from ?_)
      refine Az.lvs (lv' := [(0, zr 0), (1, zi l1), (2, zi l2), (3, zi l3), (4, zi (xx_better l4 (xx_lettersTieCould μ l1 l5 l2) l2)), (5, zi (l5 + 1))]) ?_ ?_
      · intro q hq; simp only [List.mem_cons, List.not_mem_nil, or_false] at hq; rcases hq with rfl | rfl | rfl | rfl | rfl | rfl <;> rfl
      exact ih μ hB l1 l2 l3 (xx_better l4 (xx_lettersTieCould μ l1 l5 l2) l2) (l5 + 1) (by omega) (by omega) (by omega) (by omega) (by omega) (by omega)
set_option maxHeartbeats 4000000 in
set_option maxRecDepth 100000 in
theorem xz_tieCould {μ : zM} (hB : zB μ) (a1 a2 : Int) (h0 : -2147483648 ≤ a1 ∧ a1 ≤ 2147483647) (h1 : -2147483648 ≤ a2 ∧ a2 ≤ 2147483647) : Dz md_5_tieCould [zr 0, zi a1, zi a2] zSh μ (some (zi (xx_tieCould μ a1 a2))) zSh μ := by
  refine Dz.of (by decide) rfl rfl (show Ez md_5_tieCould 0 0 0 [(0, zr 0), (1, zi a1), (2, zi a2)] [] zSh μ (some (zi (xx_tieCould μ a1 a2))) zSh μ from ?_)
  unfold xx_tieCould
  refine Az.blk kd_5_tieCould_0 (show Ez md_5_tieCould 0 0 3 [(0, zr 0), (1, zi a1), (2, zi a2)] [zi 10, zi a1] zSh μ _ _ _ from ?_)
  refine Az.cS (mc := md_5_isBelow) (n := 2) (As := [zi a1, zi 10]) (rest := []) kr_5_tieCould_3 zw_422 ok_5_isBelow rfl rfl (xz_isBelow a1 10 (by omega) (by omega)) rfl rfl (show Ez md_5_tieCould 0 0 6 [(0, zr 0), (1, zi a1), (2, zi a2)] [zi (xx_isBelow a1 10)] zSh μ _ _ _ from ?_)
  have r1 : 0 ≤ (xx_isBelow a1 10) ∧ (xx_isBelow a1 10) ≤ 1 ∧ ((xx_isBelow a1 10) = 1 → 0 ≤ a1 ∧ a1 < (10 : Int)) := xr_isBelow a1 10 (by omega) (by omega)
  refine Az.blk kd_5_tieCould_6 (show zR (xx_isBelow a1 10) ∧ ((¬ (xx_isBelow a1 10) = 0 → Ez md_5_tieCould 0 0 11 [(0, zr 0), (1, zi a1), (2, zi a2)] [] zSh μ _ _ _) ∧ ((xx_isBelow a1 10) = 0 → Ez md_5_tieCould 0 0 9 [(0, zr 0), (1, zi a1), (2, zi a2)] [] zSh μ _ _ _)) from ⟨(by omega), fun c2 => ?_, fun c2 => ?_⟩)
  · rw [if_neg c2]
    refine Az.blk kd_5_tieCould_11 (show Ez md_5_tieCould 0 0 19 [(0, zr 0), (1, zi a1), (2, zi a2)] [zi a1, zr 10] zSh μ _ _ _ from ?_)
    refine Az.cVN (mc := md_2_hasNounHole) (k := 10) (n := 1) (As := [zi a1]) (rest := []) kr_5_tieCould_19 zw_566 ok_2_hasNounHole rfl rfl rfl trivial (xz_hasNounHole hB a1 (by omega)) rfl rfl (show Ez md_5_tieCould 0 0 22 [(0, zr 0), (1, zi a1), (2, zi a2)] [zi (xx_hasNounHole μ a1)] zSh μ _ _ _ from ?_)
    have r3 : 0 ≤ (xx_hasNounHole μ a1) ∧ (xx_hasNounHole μ a1) ≤ 1 := xr_hasNounHole hB a1 (by omega)
    refine Az.blk kd_5_tieCould_22 (show zR (xx_hasNounHole μ a1) ∧ (((xx_hasNounHole μ a1) = 0 → Ez md_5_tieCould 0 0 29 [(0, zr 0), (1, zi a1), (2, zi a2)] [] zSh μ _ _ _) ∧ (¬ (xx_hasNounHole μ a1) = 0 → Ez md_5_tieCould 0 0 25 [(0, zr 0), (1, zi a1), (2, zi a2)] [] zSh μ _ _ _)) from ⟨(by omega), fun c4 => ?_, fun c4 => ?_⟩)
    · rw [if_pos c4]
      refine Az.blk kd_5_tieCould_29 (show Ez md_5_tieCould 0 0 37 [(5, zi 0), (4, zi (-1)), (3, zi 1), (0, zr 0), (1, zi a1), (2, zi a2)] [] zSh μ _ _ _ from ?_)
      refine Az.lvs (lv' := [(0, zr 0), (1, zi a1), (2, zi a2), (3, zi 1), (4, zi (-1)), (5, zi 0)]) ?_ ?_
      · intro q hq; simp only [List.mem_cons, List.not_mem_nil, or_false] at hq; rcases hq with rfl | rfl | rfl | rfl | rfl | rfl <;> rfl
      have fb : (3000 : Int) ≤ ((zN : Nat) : Int) := zN_big
      exact xz_tieCould_37 zN μ hB a1 a2 1 (-1) 0 (by omega) (by omega) (by omega) (by omega) (by omega) (by omega)
    · rw [if_neg c4]
      refine Az.blk kd_5_tieCould_25 (show Ez md_5_tieCould 0 0 30 [(0, zr 0), (1, zi a1), (2, zi a2)] [zi 3] zSh μ _ _ _ from ?_)
      refine Az.blk kd_5_tieCould_30 (show Ez md_5_tieCould 0 0 37 [(5, zi 0), (4, zi (-1)), (3, zi 3), (0, zr 0), (1, zi a1), (2, zi a2)] [] zSh μ _ _ _ from ?_)
      refine Az.lvs (lv' := [(0, zr 0), (1, zi a1), (2, zi a2), (3, zi 3), (4, zi (-1)), (5, zi 0)]) ?_ ?_
      · intro q hq; simp only [List.mem_cons, List.not_mem_nil, or_false] at hq; rcases hq with rfl | rfl | rfl | rfl | rfl | rfl <;> rfl
      have fb : (3000 : Int) ≤ ((zN : Nat) : Int) := zN_big
      exact xz_tieCould_37 zN μ hB a1 a2 3 (-1) 0 (by omega) (by omega) (by omega) (by omega) (by omega) (by omega)
  · rw [if_pos c2]
    refine Az.blk kd_5_tieCould_9 (show Ez md_5_tieCould 0 0 10 [(0, zr 0), (1, zi a1), (2, zi a2)] [zi (-1)] zSh μ _ _ _ from ?_)
    exact Ez.iret kr_5_tieCould_10 rfl (Nat.zero_le _) (Nat.zero_le _) rfl rfl
def kb_5_count_0 : List zI := [(.iload_n 1, 1, 0, 0), (.tableswitch 163 0 10 #[59, 70, 81, 92, 104, 112, 120, 131, 139, 147, 155], 59, 0, 0)]
theorem kd_5_count_0 : zdec md_5_count 0 kb_5_count_0 = true := by decide +kernel
def kb_5_count_60 : List zI := [(.aload_n 0, 1, 0, 0), (.getfield 19, 3, 5, 1), (.getfield 45, 3, 1, 0), (.getfield 49, 3, 4, 0)]
theorem kd_5_count_60 : zdec md_5_count 60 kb_5_count_60 = true := by decide +kernel
theorem kr_5_count_70 : decode md_5_count.2.1 70 = .ok (.ireturn, 1) := by decide +kernel
def kb_5_count_71 : List zI := [(.aload_n 0, 1, 0, 0), (.getfield 19, 3, 5, 1), (.getfield 77, 3, 1, 1), (.getfield 201, 3, 2, 0)]
theorem kd_5_count_71 : zdec md_5_count 71 kb_5_count_71 = true := by decide +kernel
theorem kr_5_count_81 : decode md_5_count.2.1 81 = .ok (.ireturn, 1) := by decide +kernel
def kb_5_count_82 : List zI := [(.aload_n 0, 1, 0, 0), (.getfield 19, 3, 5, 1), (.getfield 77, 3, 1, 1), (.getfield 87, 3, 2, 1)]
theorem kd_5_count_82 : zdec md_5_count 82 kb_5_count_82 = true := by decide +kernel
theorem kr_5_count_92 : decode md_5_count.2.1 92 = .ok (.ireturn, 1) := by decide +kernel
def kb_5_count_93 : List zI := [(.aload_n 0, 1, 0, 0), (.getfield 19, 3, 5, 1), (.getfield 77, 3, 1, 1), (.iconst (-1), 1, 0, 0)]
theorem kd_5_count_93 : zdec md_5_count 93 kb_5_count_93 = true := by decide +kernel
theorem kr_5_count_101 : decode md_5_count.2.1 101 = .ok (.invokevirtual 153, 3) := by decide +kernel
theorem kr_5_count_104 : decode md_5_count.2.1 104 = .ok (.ireturn, 1) := by decide +kernel
def kb_5_count_105 : List zI := [(.aload_n 0, 1, 0, 0), (.getfield 19, 3, 5, 1)]
theorem kd_5_count_105 : zdec md_5_count 105 kb_5_count_105 = true := by decide +kernel
theorem kr_5_count_109 : decode md_5_count.2.1 109 = .ok (.invokevirtual 204, 3) := by decide +kernel
theorem kr_5_count_112 : decode md_5_count.2.1 112 = .ok (.ireturn, 1) := by decide +kernel
def kb_5_count_113 : List zI := [(.aload_n 0, 1, 0, 0), (.getfield 19, 3, 5, 1)]
theorem kd_5_count_113 : zdec md_5_count 113 kb_5_count_113 = true := by decide +kernel
theorem kr_5_count_117 : decode md_5_count.2.1 117 = .ok (.invokevirtual 207, 3) := by decide +kernel
theorem kr_5_count_120 : decode md_5_count.2.1 120 = .ok (.ireturn, 1) := by decide +kernel
def kb_5_count_121 : List zI := [(.aload_n 0, 1, 0, 0), (.getfield 19, 3, 5, 1), (.getfield 77, 3, 1, 1)]
theorem kd_5_count_121 : zdec md_5_count 121 kb_5_count_121 = true := by decide +kernel
theorem kr_5_count_128 : decode md_5_count.2.1 128 = .ok (.invokevirtual 210, 3) := by decide +kernel
theorem kr_5_count_131 : decode md_5_count.2.1 131 = .ok (.ireturn, 1) := by decide +kernel
def kb_5_count_132 : List zI := [(.aload_n 0, 1, 0, 0), (.getfield 19, 3, 5, 1), (.getfield 125, 3, 1, 4)]
theorem kd_5_count_132 : zdec md_5_count 132 kb_5_count_132 = true := by decide +kernel
theorem kr_5_count_139 : decode md_5_count.2.1 139 = .ok (.ireturn, 1) := by decide +kernel
def kb_5_count_140 : List zI := [(.aload_n 0, 1, 0, 0), (.getfield 19, 3, 5, 1), (.getfield 213, 3, 1, 5)]
theorem kd_5_count_140 : zdec md_5_count 140 kb_5_count_140 = true := by decide +kernel
theorem kr_5_count_147 : decode md_5_count.2.1 147 = .ok (.ireturn, 1) := by decide +kernel
def kb_5_count_148 : List zI := [(.aload_n 0, 1, 0, 0), (.getfield 29, 3, 5, 3), (.getfield 135, 3, 0, 1)]
theorem kd_5_count_148 : zdec md_5_count 148 kb_5_count_148 = true := by decide +kernel
theorem kr_5_count_155 : decode md_5_count.2.1 155 = .ok (.ireturn, 1) := by decide +kernel
def kb_5_count_156 : List zI := [(.aload_n 0, 1, 0, 0), (.getfield 12, 3, 5, 0), (.getfield 128, 3, 3, 1)]
theorem kd_5_count_156 : zdec md_5_count 156 kb_5_count_156 = true := by decide +kernel
theorem kr_5_count_163 : decode md_5_count.2.1 163 = .ok (.ireturn, 1) := by decide +kernel
def kb_5_count_164 : List zI := [(.bipush (-2), 2, 0, 0)]
theorem kd_5_count_164 : zdec md_5_count 164 kb_5_count_164 = true := by decide +kernel
theorem kr_5_count_166 : decode md_5_count.2.1 166 = .ok (.ireturn, 1) := by decide +kernel
noncomputable def xx_count (μ : zM) (a1 : Int) : Int := (if a1 = 0 then (μ 4 0) else (if a1 = 1 then (μ 10 0) else (if a1 = 2 then (μ 10 1) else (if a1 = 3 then (xx_holesWith μ (-1)) else (if a1 = 4 then (xx_lengthTold μ) else (if a1 = 5 then (xx_lettersInHoles μ) else (if a1 = 6 then (xx_tiesWithHoles μ) else (if a1 = 7 then (μ 3 4) else (if a1 = 8 then (μ 3 5) else (if a1 = 9 then (μ 39 1) else (if a1 = 10 then (μ 1 1) else (-2))))))))))))
set_option maxHeartbeats 4000000 in
set_option maxRecDepth 100000 in
theorem xz_count {μ : zM} (hB : zB μ) (a1 : Int) (h0 : -2147483648 ≤ a1 ∧ a1 ≤ 2147483647) : Dz md_5_count [zr 0, zi a1] zSh μ (some (zi (xx_count μ a1))) zSh μ := by
  refine Dz.of (by decide) rfl rfl (show Ez md_5_count 0 0 0 [(0, zr 0), (1, zi a1)] [] zSh μ (some (zi (xx_count μ a1))) zSh μ from ?_)
  unfold xx_count
  refine Az.blk kd_5_count_0 (show zR a1 ∧ ((a1 = 0 → Ez md_5_count 0 0 60 [(0, zr 0), (1, zi a1)] [] zSh μ _ _ _) ∧ (¬ a1 = 0 → ((a1 = 1 → Ez md_5_count 0 0 71 [(0, zr 0), (1, zi a1)] [] zSh μ _ _ _) ∧ (¬ a1 = 1 → ((a1 = 2 → Ez md_5_count 0 0 82 [(0, zr 0), (1, zi a1)] [] zSh μ _ _ _) ∧ (¬ a1 = 2 → ((a1 = 3 → Ez md_5_count 0 0 93 [(0, zr 0), (1, zi a1)] [] zSh μ _ _ _) ∧ (¬ a1 = 3 → ((a1 = 4 → Ez md_5_count 0 0 105 [(0, zr 0), (1, zi a1)] [] zSh μ _ _ _) ∧ (¬ a1 = 4 → ((a1 = 5 → Ez md_5_count 0 0 113 [(0, zr 0), (1, zi a1)] [] zSh μ _ _ _) ∧ (¬ a1 = 5 → ((a1 = 6 → Ez md_5_count 0 0 121 [(0, zr 0), (1, zi a1)] [] zSh μ _ _ _) ∧ (¬ a1 = 6 → ((a1 = 7 → Ez md_5_count 0 0 132 [(0, zr 0), (1, zi a1)] [] zSh μ _ _ _) ∧ (¬ a1 = 7 → ((a1 = 8 → Ez md_5_count 0 0 140 [(0, zr 0), (1, zi a1)] [] zSh μ _ _ _) ∧ (¬ a1 = 8 → ((a1 = 9 → Ez md_5_count 0 0 148 [(0, zr 0), (1, zi a1)] [] zSh μ _ _ _) ∧ (¬ a1 = 9 → ((a1 = 10 → Ez md_5_count 0 0 156 [(0, zr 0), (1, zi a1)] [] zSh μ _ _ _) ∧ (¬ a1 = 10 → Ez md_5_count 0 0 164 [(0, zr 0), (1, zi a1)] [] zSh μ _ _ _)))))))))))))))))))))) from ⟨(by omega), ⟨fun c1 => ?_, fun c1 => ⟨fun c2 => ?_, fun c2 => ⟨fun c3 => ?_, fun c3 => ⟨fun c4 => ?_, fun c4 => ⟨fun c5 => ?_, fun c5 => ⟨fun c6 => ?_, fun c6 => ⟨fun c7 => ?_, fun c7 => ⟨fun c8 => ?_, fun c8 => ⟨fun c9 => ?_, fun c9 => ⟨fun c10 => ?_, fun c10 => ⟨fun c11 => ?_, fun c11 => ?_⟩⟩⟩⟩⟩⟩⟩⟩⟩⟩⟩⟩)
  · rw [if_pos c1]
    have b12 : 0 ≤ (μ 4 0) ∧ (μ 4 0) ≤ 24 := hB 4 0
    refine Az.blk kd_5_count_60 (show Ez md_5_count 0 0 70 [(0, zr 0), (1, zi a1)] [zi (μ 4 0)] zSh μ _ _ _ from ?_)
    exact Ez.iret kr_5_count_70 rfl (Nat.zero_le _) (Nat.zero_le _) rfl rfl
  · rw [if_neg c1, if_pos c2]
    have b13 : 0 ≤ (μ 10 0) ∧ (μ 10 0) ≤ 20 := hB 10 0
    refine Az.blk kd_5_count_71 (show Ez md_5_count 0 0 81 [(0, zr 0), (1, zi a1)] [zi (μ 10 0)] zSh μ _ _ _ from ?_)
    exact Ez.iret kr_5_count_81 rfl (Nat.zero_le _) (Nat.zero_le _) rfl rfl
  · rw [if_neg c1, if_neg c2, if_pos c3]
    have b14 : 0 ≤ (μ 10 1) ∧ (μ 10 1) ≤ 20 := hB 10 1
    refine Az.blk kd_5_count_82 (show Ez md_5_count 0 0 92 [(0, zr 0), (1, zi a1)] [zi (μ 10 1)] zSh μ _ _ _ from ?_)
    exact Ez.iret kr_5_count_92 rfl (Nat.zero_le _) (Nat.zero_le _) rfl rfl
  · rw [if_neg c1, if_neg c2, if_neg c3, if_pos c4]
    refine Az.blk kd_5_count_93 (show Ez md_5_count 0 0 101 [(0, zr 0), (1, zi a1)] [zi (-1), zr 10] zSh μ _ _ _ from ?_)
    refine Az.cVN (mc := md_2_holesWith) (k := 10) (n := 1) (As := [zi (-1)]) (rest := []) kr_5_count_101 zw_300 ok_2_holesWith rfl rfl rfl trivial (xz_holesWith hB (-1) (by omega)) rfl rfl (show Ez md_5_count 0 0 104 [(0, zr 0), (1, zi a1)] [zi (xx_holesWith μ (-1))] zSh μ _ _ _ from ?_)
    have r15 : 0 ≤ (xx_holesWith μ (-1)) ∧ (xx_holesWith μ (-1)) ≤ 20 := xr_holesWith hB (-1) (by omega)
    exact Ez.iret kr_5_count_104 rfl (Nat.zero_le _) (Nat.zero_le _) rfl rfl
  · rw [if_neg c1, if_neg c2, if_neg c3, if_neg c4, if_pos c5]
    refine Az.blk kd_5_count_105 (show Ez md_5_count 0 0 109 [(0, zr 0), (1, zi a1)] [zr 3] zSh μ _ _ _ from ?_)
    refine Az.cVN (mc := md_1_lengthTold) (k := 3) (n := 0) (As := []) (rest := []) kr_5_count_109 zw_312 ok_1_lengthTold rfl rfl rfl trivial (xz_lengthTold hB) rfl rfl (show Ez md_5_count 0 0 112 [(0, zr 0), (1, zi a1)] [zi (xx_lengthTold μ)] zSh μ _ _ _ from ?_)
    have r16 : 0 ≤ (xx_lengthTold μ) ∧ (xx_lengthTold μ) ≤ 1300 := xr_lengthTold hB
    exact Ez.iret kr_5_count_112 rfl (Nat.zero_le _) (Nat.zero_le _) rfl rfl
  · rw [if_neg c1, if_neg c2, if_neg c3, if_neg c4, if_neg c5, if_pos c6]
    refine Az.blk kd_5_count_113 (show Ez md_5_count 0 0 117 [(0, zr 0), (1, zi a1)] [zr 3] zSh μ _ _ _ from ?_)
    refine Az.cVN (mc := md_1_lettersInHoles) (k := 3) (n := 0) (As := []) (rest := []) kr_5_count_117 zw_394 ok_1_lettersInHoles rfl rfl rfl trivial (xz_lettersInHoles hB) rfl rfl (show Ez md_5_count 0 0 120 [(0, zr 0), (1, zi a1)] [zi (xx_lettersInHoles μ)] zSh μ _ _ _ from ?_)
    have r17 : 0 ≤ (xx_lettersInHoles μ) ∧ (xx_lettersInHoles μ) ≤ 200 := xr_lettersInHoles hB
    exact Ez.iret kr_5_count_120 rfl (Nat.zero_le _) (Nat.zero_le _) rfl rfl
  · rw [if_neg c1, if_neg c2, if_neg c3, if_neg c4, if_neg c5, if_neg c6, if_pos c7]
    refine Az.blk kd_5_count_121 (show Ez md_5_count 0 0 128 [(0, zr 0), (1, zi a1)] [zr 10] zSh μ _ _ _ from ?_)
    refine Az.cVN (mc := md_2_tiesWithHoles) (k := 10) (n := 0) (As := []) (rest := []) kr_5_count_128 zw_402 ok_2_tiesWithHoles rfl rfl rfl trivial (xz_tiesWithHoles hB) rfl rfl (show Ez md_5_count 0 0 131 [(0, zr 0), (1, zi a1)] [zi (xx_tiesWithHoles μ)] zSh μ _ _ _ from ?_)
    have r18 : 0 ≤ (xx_tiesWithHoles μ) ∧ (xx_tiesWithHoles μ) ≤ 10 := xr_tiesWithHoles hB
    exact Ez.iret kr_5_count_131 rfl (Nat.zero_le _) (Nat.zero_le _) rfl rfl
  · rw [if_neg c1, if_neg c2, if_neg c3, if_neg c4, if_neg c5, if_neg c6, if_neg c7, if_pos c8]
    have b19 : 0 ≤ (μ 3 4) ∧ (μ 3 4) ≤ 1 := hB 3 4
    refine Az.blk kd_5_count_132 (show Ez md_5_count 0 0 139 [(0, zr 0), (1, zi a1)] [zi (μ 3 4)] zSh μ _ _ _ from ?_)
    exact Ez.iret kr_5_count_139 rfl (Nat.zero_le _) (Nat.zero_le _) rfl rfl
  · rw [if_neg c1, if_neg c2, if_neg c3, if_neg c4, if_neg c5, if_neg c6, if_neg c7, if_neg c8, if_pos c9]
    refine Az.blk kd_5_count_140 (show Ez md_5_count 0 0 147 [(0, zr 0), (1, zi a1)] [zi (μ 3 5)] zSh μ _ _ _ from ?_)
    exact Ez.iret kr_5_count_147 rfl (Nat.zero_le _) (Nat.zero_le _) rfl rfl
  · rw [if_neg c1, if_neg c2, if_neg c3, if_neg c4, if_neg c5, if_neg c6, if_neg c7, if_neg c8, if_neg c9, if_pos c10]
    have b20 : 0 ≤ (μ 39 1) ∧ (μ 39 1) ≤ 4 := hB 39 1
    refine Az.blk kd_5_count_148 (show Ez md_5_count 0 0 155 [(0, zr 0), (1, zi a1)] [zi (μ 39 1)] zSh μ _ _ _ from ?_)
    exact Ez.iret kr_5_count_155 rfl (Nat.zero_le _) (Nat.zero_le _) rfl rfl
  · rw [if_neg c1, if_neg c2, if_neg c3, if_neg c4, if_neg c5, if_neg c6, if_neg c7, if_neg c8, if_neg c9, if_neg c10, if_pos c11]
    have b21 : 0 ≤ (μ 1 1) ∧ (μ 1 1) ≤ 60 := hB 1 1
    refine Az.blk kd_5_count_156 (show Ez md_5_count 0 0 163 [(0, zr 0), (1, zi a1)] [zi (μ 1 1)] zSh μ _ _ _ from ?_)
    exact Ez.iret kr_5_count_163 rfl (Nat.zero_le _) (Nat.zero_le _) rfl rfl
  · rw [if_neg c1, if_neg c2, if_neg c3, if_neg c4, if_neg c5, if_neg c6, if_neg c7, if_neg c8, if_neg c9, if_neg c10, if_neg c11]
    refine Az.blk kd_5_count_164 (show Ez md_5_count 0 0 166 [(0, zr 0), (1, zi a1)] [zi (-2)] zSh μ _ _ _ from ?_)
    exact Ez.iret kr_5_count_166 rfl (Nat.zero_le _) (Nat.zero_le _) rfl rfl
