def kb_6_word_0 : List zI := [(.aload_n 0, 1, 0, 0), (.iload_n 1, 1, 0, 0)]
theorem kd_6_word_0 : zdec md_6_word 0 kb_6_word_0 = true := by decide +kernel
theorem kr_6_word_2 : decode md_6_word.2.1 2 = .ok (.invokevirtual 115, 3) := by decide +kernel
def kb_6_word_5 : List zI := [(.ifCond .ne 5, 3, 10, 0)]
theorem kd_6_word_5 : zdec md_6_word 5 kb_6_word_5 = true := by decide +kernel
def kb_6_word_10 : List zI := [(.iload_n 2, 1, 0, 0), (.i2l, 1, 0, 0), (.lconst 0, 1, 0, 0), (.ldc2_w 36, 3, 2, 0)]
theorem kd_6_word_10 : zdec md_6_word 10 kb_6_word_10 = true := by decide +kernel
theorem kr_6_word_16 : decode md_6_word.2.1 16 = .ok (.invokestatic 32, 3) := by decide +kernel
def kb_6_word_19 : List zI := [(.ifCond .eq 12, 3, 31, 0)]
theorem kd_6_word_19 : zdec md_6_word 19 kb_6_word_19 = true := by decide +kernel
def kb_6_word_31 : List zI := [(.iload_n 2, 1, 0, 0), (.iconst 3, 1, 0, 0), (.if_icmp .ne 11, 3, 44, 0)]
theorem kd_6_word_31 : zdec md_6_word 31 kb_6_word_31 = true := by decide +kernel
def kb_6_word_44 : List zI := [(.bipush (-2), 2, 0, 0)]
theorem kd_6_word_44 : zdec md_6_word 44 kb_6_word_44 = true := by decide +kernel
theorem kr_6_word_46 : decode md_6_word.2.1 46 = .ok (.ireturn, 1) := by decide +kernel
def kb_6_word_36 : List zI := [(.aload_n 0, 1, 0, 0), (.iload_n 1, 1, 0, 0)]
theorem kd_6_word_36 : zdec md_6_word 36 kb_6_word_36 = true := by decide +kernel
theorem kr_6_word_38 : decode md_6_word.2.1 38 = .ok (.invokevirtual 75, 3) := by decide +kernel
def kb_6_word_41 : List zI := [(.goto 5, 3, 46, 0)]
theorem kd_6_word_41 : zdec md_6_word 41 kb_6_word_41 = true := by decide +kernel
def kb_6_word_22 : List zI := [(.aload_n 0, 1, 0, 0), (.iload_n 1, 1, 0, 0), (.iload_n 2, 1, 0, 0)]
theorem kd_6_word_22 : zdec md_6_word 22 kb_6_word_22 = true := by decide +kernel
theorem kr_6_word_25 : decode md_6_word.2.1 25 = .ok (.invokevirtual 42, 3) := by decide +kernel
def kb_6_word_28 : List zI := [(.goto 18, 3, 46, 0)]
theorem kd_6_word_28 : zdec md_6_word 28 kb_6_word_28 = true := by decide +kernel
def kb_6_word_8 : List zI := [(.iconst (-1), 1, 0, 0)]
theorem kd_6_word_8 : zdec md_6_word 8 kb_6_word_8 = true := by decide +kernel
theorem kr_6_word_9 : decode md_6_word.2.1 9 = .ok (.ireturn, 1) := by decide +kernel
noncomputable def mm_word (μ : zM) (a1 a2 : Int) : Int := (if (mm_isWord μ a1) = 0 then (-1) else (if (mm_in a2 0 2) = 0 then (if a2 = 3 then (mm_holesWith μ a1) else (-2)) else (mm_ofWord μ a1 a2)))
set_option maxHeartbeats 4000000 in
set_option maxRecDepth 100000 in
theorem mz_word {μ : zM} (hB : zB μ) (a1 a2 : Int) (h0 : -2147483648 ≤ a1 ∧ a1 ≤ 2147483647) (h1 : -2147483648 ≤ a2 ∧ a2 ≤ 2147483647) : Dz md_6_word [zr 113, zi a1, zi a2] zSh μ (some (zi (mm_word μ a1 a2))) zSh μ := by
  refine Dz.of (by decide) rfl rfl (show Ez md_6_word 0 0 0 [(0, zr 113), (1, zi a1), (2, zi a2)] [] zSh μ (some (zi (mm_word μ a1 a2))) zSh μ from ?_)
  unfold mm_word
  refine Az.blk kd_6_word_0 (show Ez md_6_word 0 0 2 [(0, zr 113), (1, zi a1), (2, zi a2)] [zi a1, zr 113] zSh μ _ _ _ from ?_)
  refine Az.cV (mc := md_6_isWord) (k := 113) (n := 1) (As := [zi a1]) (rest := []) kr_6_word_2 zw_714 ok_6_isWord rfl rfl rfl trivial (mz_isWord hB a1 (by omega)) rfl rfl (show Ez md_6_word 0 0 5 [(0, zr 113), (1, zi a1), (2, zi a2)] [zi (mm_isWord μ a1)] zSh μ _ _ _ from ?_)
  have r1 : 0 ≤ (mm_isWord μ a1) ∧ (mm_isWord μ a1) ≤ 1 ∧ ((mm_isWord μ a1) = 1 → 0 ≤ a1 ∧ a1 < μ 114 2 ∧ a1 ≤ 23) ∧ ((mm_isWord μ a1) = 0 → a1 < 0 ∨ μ 114 2 ≤ a1) := mr_isWord hB a1 (by omega)
  refine Az.blk kd_6_word_5 (show zR (mm_isWord μ a1) ∧ ((¬ (mm_isWord μ a1) = 0 → Ez md_6_word 0 0 10 [(0, zr 113), (1, zi a1), (2, zi a2)] [] zSh μ _ _ _) ∧ ((mm_isWord μ a1) = 0 → Ez md_6_word 0 0 8 [(0, zr 113), (1, zi a1), (2, zi a2)] [] zSh μ _ _ _)) from ⟨(by omega), fun c2 => ?_, fun c2 => ?_⟩)
  · rw [if_neg c2]
    refine Az.blk kd_6_word_10 (show zR a2 ∧ Ez md_6_word 0 0 16 [(0, zr 113), (1, zi a1), (2, zi a2)] [zl 2, zl 0, zl a2] zSh μ _ _ _ from ⟨(by omega), ?_⟩)
    refine Az.cS (mc := md_6_in) (n := 3) (As := [zl a2, zl 0, zl 2]) (rest := []) kr_6_word_16 zw_626 ok_6_in rfl rfl (mz_in a2 0 2 (by omega) (by omega) (by omega)) rfl rfl (show Ez md_6_word 0 0 19 [(0, zr 113), (1, zi a1), (2, zi a2)] [zi (mm_in a2 0 2)] zSh μ _ _ _ from ?_)
    have r3 : 0 ≤ (mm_in a2 0 2) ∧ (mm_in a2 0 2) ≤ 1 ∧ ((mm_in a2 0 2) = 1 → (0 : Int) ≤ a2 ∧ a2 ≤ (2 : Int)) ∧ ((mm_in a2 0 2) = 0 → a2 < (0 : Int) ∨ (2 : Int) < a2) := mr_in a2 0 2 (by omega) (by omega) (by omega)
    refine Az.blk kd_6_word_19 (show zR (mm_in a2 0 2) ∧ (((mm_in a2 0 2) = 0 → Ez md_6_word 0 0 31 [(0, zr 113), (1, zi a1), (2, zi a2)] [] zSh μ _ _ _) ∧ (¬ (mm_in a2 0 2) = 0 → Ez md_6_word 0 0 22 [(0, zr 113), (1, zi a1), (2, zi a2)] [] zSh μ _ _ _)) from ⟨(by omega), fun c4 => ?_, fun c4 => ?_⟩)
    · rw [if_pos c4]
      refine Az.blk kd_6_word_31 (show zR a2 ∧ zR 3 ∧ ((¬ a2 = 3 → Ez md_6_word 0 0 44 [(0, zr 113), (1, zi a1), (2, zi a2)] [] zSh μ _ _ _) ∧ (a2 = 3 → Ez md_6_word 0 0 36 [(0, zr 113), (1, zi a1), (2, zi a2)] [] zSh μ _ _ _)) from ⟨(by omega), (by omega), fun c5 => ?_, fun c5 => ?_⟩)
      · rw [if_neg c5]
        refine Az.blk kd_6_word_44 (show Ez md_6_word 0 0 46 [(0, zr 113), (1, zi a1), (2, zi a2)] [zi (-2)] zSh μ _ _ _ from ?_)
        exact Ez.iret kr_6_word_46 rfl (Nat.zero_le _) (Nat.zero_le _) rfl rfl
      · rw [if_pos c5]
        refine Az.blk kd_6_word_36 (show Ez md_6_word 0 0 38 [(0, zr 113), (1, zi a1), (2, zi a2)] [zi a1, zr 113] zSh μ _ _ _ from ?_)
        refine Az.cV (mc := md_6_holesWith) (k := 113) (n := 1) (As := [zi a1]) (rest := []) kr_6_word_38 zw_730 ok_6_holesWith rfl rfl rfl trivial (mz_holesWith hB a1 (by omega)) rfl rfl (show Ez md_6_word 0 0 41 [(0, zr 113), (1, zi a1), (2, zi a2)] [zi (mm_holesWith μ a1)] zSh μ _ _ _ from ?_)
        have r6 : 0 ≤ (mm_holesWith μ a1) ∧ (mm_holesWith μ a1) ≤ 20 := mr_holesWith hB a1 (by omega)
        refine Az.blk kd_6_word_41 (show Ez md_6_word 0 0 46 [(0, zr 113), (1, zi a1), (2, zi a2)] [zi (mm_holesWith μ a1)] zSh μ _ _ _ from ?_)
        exact Ez.iret kr_6_word_46 rfl (Nat.zero_le _) (Nat.zero_le _) rfl rfl
    · rw [if_neg c4]
      refine Az.blk kd_6_word_22 (show Ez md_6_word 0 0 25 [(0, zr 113), (1, zi a1), (2, zi a2)] [zi a2, zi a1, zr 113] zSh μ _ _ _ from ?_)
      refine Az.cV (mc := md_6_ofWord) (k := 113) (n := 2) (As := [zi a1, zi a2]) (rest := []) kr_6_word_25 zw_722 ok_6_ofWord rfl rfl rfl trivial (mz_ofWord hB a1 a2 (by omega) (by omega)) rfl rfl (show Ez md_6_word 0 0 28 [(0, zr 113), (1, zi a1), (2, zi a2)] [zi (mm_ofWord μ a1 a2)] zSh μ _ _ _ from ?_)
      have r7 : 0 ≤ (mm_ofWord μ a1 a2) ∧ (mm_ofWord μ a1 a2) ≤ 26 ∧ (a2 < 2 → (mm_ofWord μ a1 a2) ≤ 2) ∧ (a2 = 2 → (mm_ofWord μ a1 a2) ≤ 8) := mr_ofWord hB a1 a2 (by omega) (by omega)
      refine Az.blk kd_6_word_28 (show Ez md_6_word 0 0 46 [(0, zr 113), (1, zi a1), (2, zi a2)] [zi (mm_ofWord μ a1 a2)] zSh μ _ _ _ from ?_)
      exact Ez.iret kr_6_word_46 rfl (Nat.zero_le _) (Nat.zero_le _) rfl rfl
  · rw [if_pos c2]
    refine Az.blk kd_6_word_8 (show Ez md_6_word 0 0 9 [(0, zr 113), (1, zi a1), (2, zi a2)] [zi (-1)] zSh μ _ _ _ from ?_)
    exact Ez.iret kr_6_word_9 rfl (Nat.zero_le _) (Nat.zero_le _) rfl rfl
def kb_6_letter_0 : List zI := [(.aload_n 0, 1, 0, 0), (.iload_n 1, 1, 0, 0)]
theorem kd_6_letter_0 : zdec md_6_letter 0 kb_6_letter_0 = true := by decide +kernel
theorem kr_6_letter_2 : decode md_6_letter.2.1 2 = .ok (.invokevirtual 115, 3) := by decide +kernel
def kb_6_letter_5 : List zI := [(.ifCond .ne 5, 3, 10, 0)]
theorem kd_6_letter_5 : zdec md_6_letter 5 kb_6_letter_5 = true := by decide +kernel
def kb_6_letter_10 : List zI := [(.iload_n 2, 1, 0, 0), (.i2l, 1, 0, 0), (.lconst 0, 1, 0, 0), (.ldc2_w 94, 3, 5, 0)]
theorem kd_6_letter_10 : zdec md_6_letter 10 kb_6_letter_10 = true := by decide +kernel
theorem kr_6_letter_16 : decode md_6_letter.2.1 16 = .ok (.invokestatic 32, 3) := by decide +kernel
def kb_6_letter_19 : List zI := [(.ifCond .eq 7, 3, 26, 0)]
theorem kd_6_letter_19 : zdec md_6_letter 19 kb_6_letter_19 = true := by decide +kernel
def kb_6_letter_26 : List zI := [(.bipush (-2), 2, 0, 0)]
theorem kd_6_letter_26 : zdec md_6_letter 26 kb_6_letter_26 = true := by decide +kernel
theorem kr_6_letter_28 : decode md_6_letter.2.1 28 = .ok (.ireturn, 1) := by decide +kernel
def kb_6_letter_22 : List zI := [(.iload_n 3, 1, 0, 0), (.ifCond .ge 6, 3, 29, 0)]
theorem kd_6_letter_22 : zdec md_6_letter 22 kb_6_letter_22 = true := by decide +kernel
def kb_6_letter_29 : List zI := [(.iload_n 3, 1, 0, 0), (.aload_n 0, 1, 0, 0), (.iload_n 1, 1, 0, 0), (.iload_n 2, 1, 0, 0)]
theorem kd_6_letter_29 : zdec md_6_letter 29 kb_6_letter_29 = true := by decide +kernel
theorem kr_6_letter_33 : decode md_6_letter.2.1 33 = .ok (.invokevirtual 148, 3) := by decide +kernel
def kb_6_letter_36 : List zI := [(.if_icmp .ge 13, 3, 49, 0)]
theorem kd_6_letter_36 : zdec md_6_letter 36 kb_6_letter_36 = true := by decide +kernel
def kb_6_letter_49 : List zI := [(.bipush (-5), 2, 0, 0)]
theorem kd_6_letter_49 : zdec md_6_letter 49 kb_6_letter_49 = true := by decide +kernel
theorem kr_6_letter_51 : decode md_6_letter.2.1 51 = .ok (.ireturn, 1) := by decide +kernel
def kb_6_letter_39 : List zI := [(.aload_n 0, 1, 0, 0), (.iload_n 1, 1, 0, 0), (.iload_n 2, 1, 0, 0), (.iload_n 3, 1, 0, 0)]
theorem kd_6_letter_39 : zdec md_6_letter 39 kb_6_letter_39 = true := by decide +kernel
theorem kr_6_letter_43 : decode md_6_letter.2.1 43 = .ok (.invokevirtual 151, 3) := by decide +kernel
def kb_6_letter_46 : List zI := [(.goto 5, 3, 51, 0)]
theorem kd_6_letter_46 : zdec md_6_letter 46 kb_6_letter_46 = true := by decide +kernel
def kb_6_letter_8 : List zI := [(.iconst (-1), 1, 0, 0)]
theorem kd_6_letter_8 : zdec md_6_letter 8 kb_6_letter_8 = true := by decide +kernel
theorem kr_6_letter_9 : decode md_6_letter.2.1 9 = .ok (.ireturn, 1) := by decide +kernel
noncomputable def mm_letter (μ : zM) (a1 a2 a3 : Int) : Int := (if (mm_isWord μ a1) = 0 then (-1) else (if (mm_in a2 0 5) = 0 then (-2) else (if a3 < 0 then (-2) else (if a3 < (mm_lengthOf μ a1 a2) then (mm_letterOf μ a1 a2 a3) else (-5)))))
set_option maxHeartbeats 4000000 in
set_option maxRecDepth 100000 in
theorem mz_letter {μ : zM} (hB : zB μ) (a1 a2 a3 : Int) (h0 : -2147483648 ≤ a1 ∧ a1 ≤ 2147483647) (h1 : -2147483648 ≤ a2 ∧ a2 ≤ 2147483647) (h2 : -2147483648 ≤ a3 ∧ a3 ≤ 2147483647) : Dz md_6_letter [zr 113, zi a1, zi a2, zi a3] zSh μ (some (zi (mm_letter μ a1 a2 a3))) zSh μ := by
  refine Dz.of (by decide) rfl rfl (show Ez md_6_letter 0 0 0 [(0, zr 113), (1, zi a1), (2, zi a2), (3, zi a3)] [] zSh μ (some (zi (mm_letter μ a1 a2 a3))) zSh μ from ?_)
  unfold mm_letter
  refine Az.blk kd_6_letter_0 (show Ez md_6_letter 0 0 2 [(0, zr 113), (1, zi a1), (2, zi a2), (3, zi a3)] [zi a1, zr 113] zSh μ _ _ _ from ?_)
  refine Az.cV (mc := md_6_isWord) (k := 113) (n := 1) (As := [zi a1]) (rest := []) kr_6_letter_2 zw_714 ok_6_isWord rfl rfl rfl trivial (mz_isWord hB a1 (by omega)) rfl rfl (show Ez md_6_letter 0 0 5 [(0, zr 113), (1, zi a1), (2, zi a2), (3, zi a3)] [zi (mm_isWord μ a1)] zSh μ _ _ _ from ?_)
  have r1 : 0 ≤ (mm_isWord μ a1) ∧ (mm_isWord μ a1) ≤ 1 ∧ ((mm_isWord μ a1) = 1 → 0 ≤ a1 ∧ a1 < μ 114 2 ∧ a1 ≤ 23) ∧ ((mm_isWord μ a1) = 0 → a1 < 0 ∨ μ 114 2 ≤ a1) := mr_isWord hB a1 (by omega)
  refine Az.blk kd_6_letter_5 (show zR (mm_isWord μ a1) ∧ ((¬ (mm_isWord μ a1) = 0 → Ez md_6_letter 0 0 10 [(0, zr 113), (1, zi a1), (2, zi a2), (3, zi a3)] [] zSh μ _ _ _) ∧ ((mm_isWord μ a1) = 0 → Ez md_6_letter 0 0 8 [(0, zr 113), (1, zi a1), (2, zi a2), (3, zi a3)] [] zSh μ _ _ _)) from ⟨(by omega), fun c2 => ?_, fun c2 => ?_⟩)
  · rw [if_neg c2]
    refine Az.blk kd_6_letter_10 (show zR a2 ∧ Ez md_6_letter 0 0 16 [(0, zr 113), (1, zi a1), (2, zi a2), (3, zi a3)] [zl 5, zl 0, zl a2] zSh μ _ _ _ from ⟨(by omega), ?_⟩)
    refine Az.cS (mc := md_6_in) (n := 3) (As := [zl a2, zl 0, zl 5]) (rest := []) kr_6_letter_16 zw_626 ok_6_in rfl rfl (mz_in a2 0 5 (by omega) (by omega) (by omega)) rfl rfl (show Ez md_6_letter 0 0 19 [(0, zr 113), (1, zi a1), (2, zi a2), (3, zi a3)] [zi (mm_in a2 0 5)] zSh μ _ _ _ from ?_)
    have r3 : 0 ≤ (mm_in a2 0 5) ∧ (mm_in a2 0 5) ≤ 1 ∧ ((mm_in a2 0 5) = 1 → (0 : Int) ≤ a2 ∧ a2 ≤ (5 : Int)) ∧ ((mm_in a2 0 5) = 0 → a2 < (0 : Int) ∨ (5 : Int) < a2) := mr_in a2 0 5 (by omega) (by omega) (by omega)
    refine Az.blk kd_6_letter_19 (show zR (mm_in a2 0 5) ∧ (((mm_in a2 0 5) = 0 → Ez md_6_letter 0 0 26 [(0, zr 113), (1, zi a1), (2, zi a2), (3, zi a3)] [] zSh μ _ _ _) ∧ (¬ (mm_in a2 0 5) = 0 → Ez md_6_letter 0 0 22 [(0, zr 113), (1, zi a1), (2, zi a2), (3, zi a3)] [] zSh μ _ _ _)) from ⟨(by omega), fun c4 => ?_, fun c4 => ?_⟩)
    · rw [if_pos c4]
      refine Az.blk kd_6_letter_26 (show Ez md_6_letter 0 0 28 [(0, zr 113), (1, zi a1), (2, zi a2), (3, zi a3)] [zi (-2)] zSh μ _ _ _ from ?_)
      exact Ez.iret kr_6_letter_28 rfl (Nat.zero_le _) (Nat.zero_le _) rfl rfl
    · rw [if_neg c4]
      refine Az.blk kd_6_letter_22 (show zR a3 ∧ ((¬ a3 < 0 → Ez md_6_letter 0 0 29 [(0, zr 113), (1, zi a1), (2, zi a2), (3, zi a3)] [] zSh μ _ _ _) ∧ (a3 < 0 → Ez md_6_letter 0 0 26 [(0, zr 113), (1, zi a1), (2, zi a2), (3, zi a3)] [] zSh μ _ _ _)) from ⟨(by omega), fun c5 => ?_, fun c5 => ?_⟩)
      · rw [if_neg c5]
        refine Az.blk kd_6_letter_29 (show Ez md_6_letter 0 0 33 [(0, zr 113), (1, zi a1), (2, zi a2), (3, zi a3)] [zi a2, zi a1, zr 113, zi a3] zSh μ _ _ _ from ?_)
        refine Az.cV (mc := md_6_lengthOf) (k := 113) (n := 2) (As := [zi a1, zi a2]) (rest := [zi a3]) kr_6_letter_33 zw_786 ok_6_lengthOf rfl rfl rfl trivial (mz_lengthOf hB a1 a2 (by omega) (by omega)) rfl rfl (show Ez md_6_letter 0 0 36 [(0, zr 113), (1, zi a1), (2, zi a2), (3, zi a3)] [zi (mm_lengthOf μ a1 a2), zi a3] zSh μ _ _ _ from ?_)
        have r6 : 0 ≤ (mm_lengthOf μ a1 a2) ∧ (mm_lengthOf μ a1 a2) ≤ 10 := mr_lengthOf hB a1 a2 (by omega) (by omega)
        refine Az.blk kd_6_letter_36 (show zR a3 ∧ zR (mm_lengthOf μ a1 a2) ∧ ((¬ a3 < (mm_lengthOf μ a1 a2) → Ez md_6_letter 0 0 49 [(0, zr 113), (1, zi a1), (2, zi a2), (3, zi a3)] [] zSh μ _ _ _) ∧ (a3 < (mm_lengthOf μ a1 a2) → Ez md_6_letter 0 0 39 [(0, zr 113), (1, zi a1), (2, zi a2), (3, zi a3)] [] zSh μ _ _ _)) from ⟨(by omega), (by omega), fun c7 => ?_, fun c7 => ?_⟩)
        · rw [if_neg c7]
          refine Az.blk kd_6_letter_49 (show Ez md_6_letter 0 0 51 [(0, zr 113), (1, zi a1), (2, zi a2), (3, zi a3)] [zi (-5)] zSh μ _ _ _ from ?_)
          exact Ez.iret kr_6_letter_51 rfl (Nat.zero_le _) (Nat.zero_le _) rfl rfl
        · rw [if_pos c7]
          refine Az.blk kd_6_letter_39 (show Ez md_6_letter 0 0 43 [(0, zr 113), (1, zi a1), (2, zi a2), (3, zi a3)] [zi a3, zi a2, zi a1, zr 113] zSh μ _ _ _ from ?_)
          refine Az.cV (mc := md_6_letterOf) (k := 113) (n := 3) (As := [zi a1, zi a2, zi a3]) (rest := []) kr_6_letter_43 zw_794 ok_6_letterOf rfl rfl rfl trivial (mz_letterOf hB a1 a2 a3 (by omega) (by omega) (by omega)) rfl rfl (show Ez md_6_letter 0 0 46 [(0, zr 113), (1, zi a1), (2, zi a2), (3, zi a3)] [zi (mm_letterOf μ a1 a2 a3)] zSh μ _ _ _ from ?_)
          refine Az.blk kd_6_letter_46 (show Ez md_6_letter 0 0 51 [(0, zr 113), (1, zi a1), (2, zi a2), (3, zi a3)] [zi (mm_letterOf μ a1 a2 a3)] zSh μ _ _ _ from ?_)
          exact Ez.iret kr_6_letter_51 rfl (Nat.zero_le _) (Nat.zero_le _) rfl rfl
      · rw [if_pos c5]
        refine Az.blk kd_6_letter_26 (show Ez md_6_letter 0 0 28 [(0, zr 113), (1, zi a1), (2, zi a2), (3, zi a3)] [zi (-2)] zSh μ _ _ _ from ?_)
        exact Ez.iret kr_6_letter_28 rfl (Nat.zero_le _) (Nat.zero_le _) rfl rfl
  · rw [if_pos c2]
    refine Az.blk kd_6_letter_8 (show Ez md_6_letter 0 0 9 [(0, zr 113), (1, zi a1), (2, zi a2), (3, zi a3)] [zi (-1)] zSh μ _ _ _ from ?_)
    exact Ez.iret kr_6_letter_9 rfl (Nat.zero_le _) (Nat.zero_le _) rfl rfl
def kb_6_lettersAt_0 : List zI := [(.aload_n 0, 1, 0, 0), (.iload_n 1, 1, 0, 0), (.iconst 3, 1, 0, 0)]
theorem kd_6_lettersAt_0 : zdec md_6_lettersAt 0 kb_6_lettersAt_0 = true := by decide +kernel
theorem kr_6_lettersAt_3 : decode md_6_lettersAt.2.1 3 = .ok (.invokevirtual 48, 3) := by decide +kernel
def kb_6_lettersAt_6 : List zI := [(.istore_n 2, 1, 0, 0), (.iload_n 2, 1, 0, 0), (.bipush (-5), 2, 0, 0), (.if_icmp .ne 7, 3, 17, 0)]
theorem kd_6_lettersAt_6 : zdec md_6_lettersAt 6 kb_6_lettersAt_6 = true := by decide +kernel
def kb_6_lettersAt_17 : List zI := [(.aload_n 0, 1, 0, 0), (.iload_n 2, 1, 0, 0), (.aload_n 0, 1, 0, 0), (.iload_n 1, 1, 0, 0)]
theorem kd_6_lettersAt_17 : zdec md_6_lettersAt 17 kb_6_lettersAt_17 = true := by decide +kernel
theorem kr_6_lettersAt_21 : decode md_6_lettersAt.2.1 21 = .ok (.invokevirtual 154, 3) := by decide +kernel
theorem kr_6_lettersAt_24 : decode md_6_lettersAt.2.1 24 = .ok (.invokevirtual 148, 3) := by decide +kernel
theorem kr_6_lettersAt_27 : decode md_6_lettersAt.2.1 27 = .ok (.ireturn, 1) := by decide +kernel
def kb_6_lettersAt_13 : List zI := [(.iconst 0, 1, 0, 0), (.goto 13, 3, 27, 0)]
theorem kd_6_lettersAt_13 : zdec md_6_lettersAt 13 kb_6_lettersAt_13 = true := by decide +kernel
noncomputable def mm_lettersAt (μ : zM) (a1 : Int) : Int := (if (mm_ofItem μ a1 3) = (-5) then 0 else (mm_lengthOf μ (mm_ofItem μ a1 3) (mm_formAt μ a1)))
set_option maxHeartbeats 4000000 in
set_option maxRecDepth 100000 in
theorem mr_lettersAt {μ : zM} (hB : zB μ) (a1 : Int) (h0 : 0 ≤ a1 ∧ a1 ≤ 19) : 0 ≤ (mm_lettersAt μ a1) ∧ (mm_lettersAt μ a1) ≤ 10 := by
  unfold mm_lettersAt
  have r1 : -5 ≤ (mm_ofItem μ a1 3) ∧ (mm_ofItem μ a1 3) ≤ 26 ∧ ((3 : Int) = 0 → 0 ≤ (mm_ofItem μ a1 3) ∧ (mm_ofItem μ a1 3) ≤ 1) ∧ ((3 : Int) = 1 → 0 ≤ (mm_ofItem μ a1 3) ∧ (mm_ofItem μ a1 3) ≤ 10) ∧ ((3 : Int) = 2 → 0 ≤ (mm_ofItem μ a1 3) ∧ (mm_ofItem μ a1 3) ≤ 9) ∧ ((3 : Int) = 3 → (mm_ofItem μ a1 3) = -5 ∨ (0 ≤ (mm_ofItem μ a1 3) ∧ (mm_ofItem μ a1 3) ≤ 23)) ∧ (3 < (3 : Int) → 0 ≤ (mm_ofItem μ a1 3)) := mr_ofItem hB a1 3 (by omega) (by omega)
  by_cases c2 : (mm_ofItem μ a1 3) = (-5)
  · rw [if_pos c2]
    first | omega | (dsimp only; omega)
  · rw [if_neg c2]
    have r3 : 0 ≤ (mm_formAt μ a1) ∧ (mm_formAt μ a1) ≤ 5 := mr_formAt hB a1 (by omega)
    have r4 : 0 ≤ (mm_lengthOf μ (mm_ofItem μ a1 3) (mm_formAt μ a1)) ∧ (mm_lengthOf μ (mm_ofItem μ a1 3) (mm_formAt μ a1)) ≤ 10 := mr_lengthOf hB (mm_ofItem μ a1 3) (mm_formAt μ a1) (by omega) (by omega)
    first | omega | (dsimp only; omega)
set_option maxHeartbeats 4000000 in
set_option maxRecDepth 100000 in
theorem mz_lettersAt {μ : zM} (hB : zB μ) (a1 : Int) (h0 : 0 ≤ a1 ∧ a1 ≤ 19) : Dz md_6_lettersAt [zr 113, zi a1] zSh μ (some (zi (mm_lettersAt μ a1))) zSh μ := by
  refine Dz.of (by decide) rfl rfl (show Ez md_6_lettersAt 0 0 0 [(0, zr 113), (1, zi a1)] [] zSh μ (some (zi (mm_lettersAt μ a1))) zSh μ from ?_)
  unfold mm_lettersAt
  refine Az.blk kd_6_lettersAt_0 (show Ez md_6_lettersAt 0 0 3 [(0, zr 113), (1, zi a1)] [zi 3, zi a1, zr 113] zSh μ _ _ _ from ?_)
  refine Az.cV (mc := md_6_ofItem) (k := 113) (n := 2) (As := [zi a1, zi 3]) (rest := []) kr_6_lettersAt_3 zw_682 ok_6_ofItem rfl rfl rfl trivial (mz_ofItem hB a1 3 (by omega) (by omega)) rfl rfl (show Ez md_6_lettersAt 0 0 6 [(0, zr 113), (1, zi a1)] [zi (mm_ofItem μ a1 3)] zSh μ _ _ _ from ?_)
  have r1 : -5 ≤ (mm_ofItem μ a1 3) ∧ (mm_ofItem μ a1 3) ≤ 26 ∧ ((3 : Int) = 0 → 0 ≤ (mm_ofItem μ a1 3) ∧ (mm_ofItem μ a1 3) ≤ 1) ∧ ((3 : Int) = 1 → 0 ≤ (mm_ofItem μ a1 3) ∧ (mm_ofItem μ a1 3) ≤ 10) ∧ ((3 : Int) = 2 → 0 ≤ (mm_ofItem μ a1 3) ∧ (mm_ofItem μ a1 3) ≤ 9) ∧ ((3 : Int) = 3 → (mm_ofItem μ a1 3) = -5 ∨ (0 ≤ (mm_ofItem μ a1 3) ∧ (mm_ofItem μ a1 3) ≤ 23)) ∧ (3 < (3 : Int) → 0 ≤ (mm_ofItem μ a1 3)) := mr_ofItem hB a1 3 (by omega) (by omega)
  refine Az.blk kd_6_lettersAt_6 (show zR (mm_ofItem μ a1 3) ∧ zR (-5) ∧ ((¬ (mm_ofItem μ a1 3) = (-5) → Ez md_6_lettersAt 0 0 17 [(2, zi (mm_ofItem μ a1 3)), (0, zr 113), (1, zi a1)] [] zSh μ _ _ _) ∧ ((mm_ofItem μ a1 3) = (-5) → Ez md_6_lettersAt 0 0 13 [(2, zi (mm_ofItem μ a1 3)), (0, zr 113), (1, zi a1)] [] zSh μ _ _ _)) from ⟨(by omega), (by omega), fun c2 => ?_, fun c2 => ?_⟩)
  · rw [if_neg c2]
    refine Az.blk kd_6_lettersAt_17 (show Ez md_6_lettersAt 0 0 21 [(2, zi (mm_ofItem μ a1 3)), (0, zr 113), (1, zi a1)] [zi a1, zr 113, zi (mm_ofItem μ a1 3), zr 113] zSh μ _ _ _ from ?_)
    refine Az.cV (mc := md_6_formAt) (k := 113) (n := 1) (As := [zi a1]) (rest := [zi (mm_ofItem μ a1 3), zr 113]) kr_6_lettersAt_21 zw_802 ok_6_formAt rfl rfl rfl trivial (mz_formAt hB a1 (by omega)) rfl rfl (show Ez md_6_lettersAt 0 0 24 [(2, zi (mm_ofItem μ a1 3)), (0, zr 113), (1, zi a1)] [zi (mm_formAt μ a1), zi (mm_ofItem μ a1 3), zr 113] zSh μ _ _ _ from ?_)
    have r3 : 0 ≤ (mm_formAt μ a1) ∧ (mm_formAt μ a1) ≤ 5 := mr_formAt hB a1 (by omega)
    refine Az.cV (mc := md_6_lengthOf) (k := 113) (n := 2) (As := [zi (mm_ofItem μ a1 3), zi (mm_formAt μ a1)]) (rest := []) kr_6_lettersAt_24 zw_786 ok_6_lengthOf rfl rfl rfl trivial (mz_lengthOf hB (mm_ofItem μ a1 3) (mm_formAt μ a1) (by omega) (by omega)) rfl rfl (show Ez md_6_lettersAt 0 0 27 [(2, zi (mm_ofItem μ a1 3)), (0, zr 113), (1, zi a1)] [zi (mm_lengthOf μ (mm_ofItem μ a1 3) (mm_formAt μ a1))] zSh μ _ _ _ from ?_)
    have r4 : 0 ≤ (mm_lengthOf μ (mm_ofItem μ a1 3) (mm_formAt μ a1)) ∧ (mm_lengthOf μ (mm_ofItem μ a1 3) (mm_formAt μ a1)) ≤ 10 := mr_lengthOf hB (mm_ofItem μ a1 3) (mm_formAt μ a1) (by omega) (by omega)
    exact Ez.iret kr_6_lettersAt_27 rfl (Nat.zero_le _) (Nat.zero_le _) rfl rfl
  · rw [if_pos c2]
    refine Az.blk kd_6_lettersAt_13 (show Ez md_6_lettersAt 0 0 27 [(2, zi (mm_ofItem μ a1 3)), (0, zr 113), (1, zi a1)] [zi 0] zSh μ _ _ _ from ?_)
    exact Ez.iret kr_6_lettersAt_27 rfl (Nat.zero_le _) (Nat.zero_le _) rfl rfl
def kb_6_hole_0 : List zI := [(.aload_n 0, 1, 0, 0), (.iload_n 1, 1, 0, 0)]
theorem kd_6_hole_0 : zdec md_6_hole 0 kb_6_hole_0 = true := by decide +kernel
theorem kr_6_hole_2 : decode md_6_hole.2.1 2 = .ok (.invokevirtual 112, 3) := by decide +kernel
def kb_6_hole_5 : List zI := [(.ifCond .ne 5, 3, 10, 0)]
theorem kd_6_hole_5 : zdec md_6_hole 5 kb_6_hole_5 = true := by decide +kernel
def kb_6_hole_10 : List zI := [(.aload_n 0, 1, 0, 0), (.iload_n 1, 1, 0, 0)]
theorem kd_6_hole_10 : zdec md_6_hole 10 kb_6_hole_10 = true := by decide +kernel
theorem kr_6_hole_12 : decode md_6_hole.2.1 12 = .ok (.invokevirtual 55, 3) := by decide +kernel
def kb_6_hole_15 : List zI := [(.istore_n 3, 1, 0, 0), (.iload_n 2, 1, 0, 0), (.tableswitch 62 0 5 #[39, 39, 39, 48, 54, 60], 39, 0, 0)]
theorem kd_6_hole_15 : zdec md_6_hole 15 kb_6_hole_15 = true := by decide +kernel
def kb_6_hole_56 : List zI := [(.aload_n 0, 1, 0, 0), (.iload_n 3, 1, 0, 0), (.iconst 1, 1, 0, 0), (.iload_n 2, 1, 0, 0), (.iadd, 1, 0, 0)]
theorem kd_6_hole_56 : zdec md_6_hole 56 kb_6_hole_56 = true := by decide +kernel
theorem kr_6_hole_61 : decode md_6_hole.2.1 61 = .ok (.invokevirtual 48, 3) := by decide +kernel
theorem kr_6_hole_64 : decode md_6_hole.2.1 64 = .ok (.ireturn, 1) := by decide +kernel
def kb_6_hole_65 : List zI := [(.aload_n 0, 1, 0, 0), (.iload_n 3, 1, 0, 0)]
theorem kd_6_hole_65 : zdec md_6_hole 65 kb_6_hole_65 = true := by decide +kernel
theorem kr_6_hole_67 : decode md_6_hole.2.1 67 = .ok (.invokevirtual 154, 3) := by decide +kernel
theorem kr_6_hole_70 : decode md_6_hole.2.1 70 = .ok (.ireturn, 1) := by decide +kernel
def kb_6_hole_71 : List zI := [(.aload_n 0, 1, 0, 0), (.iload_n 3, 1, 0, 0)]
theorem kd_6_hole_71 : zdec md_6_hole 71 kb_6_hole_71 = true := by decide +kernel
theorem kr_6_hole_73 : decode md_6_hole.2.1 73 = .ok (.invokevirtual 157, 3) := by decide +kernel
theorem kr_6_hole_76 : decode md_6_hole.2.1 76 = .ok (.ireturn, 1) := by decide +kernel
def kb_6_hole_77 : List zI := [(.iload_n 3, 1, 0, 0)]
theorem kd_6_hole_77 : zdec md_6_hole 77 kb_6_hole_77 = true := by decide +kernel
theorem kr_6_hole_78 : decode md_6_hole.2.1 78 = .ok (.ireturn, 1) := by decide +kernel
def kb_6_hole_79 : List zI := [(.bipush (-2), 2, 0, 0)]
theorem kd_6_hole_79 : zdec md_6_hole 79 kb_6_hole_79 = true := by decide +kernel
theorem kr_6_hole_81 : decode md_6_hole.2.1 81 = .ok (.ireturn, 1) := by decide +kernel
def kb_6_hole_8 : List zI := [(.iconst (-1), 1, 0, 0)]
theorem kd_6_hole_8 : zdec md_6_hole 8 kb_6_hole_8 = true := by decide +kernel
theorem kr_6_hole_9 : decode md_6_hole.2.1 9 = .ok (.ireturn, 1) := by decide +kernel
noncomputable def mm_hole (μ : zM) (a1 a2 : Int) : Int := (if (mm_isHole μ a1) = 0 then (-1) else (if a2 = 0 then (mm_ofItem μ (mm_itemOf μ a1) (1 + a2)) else (if a2 = 1 then (mm_ofItem μ (mm_itemOf μ a1) (1 + a2)) else (if a2 = 2 then (mm_ofItem μ (mm_itemOf μ a1) (1 + a2)) else (if a2 = 3 then (mm_formAt μ (mm_itemOf μ a1)) else (if a2 = 4 then (mm_lettersAt μ (mm_itemOf μ a1)) else (if a2 = 5 then (mm_itemOf μ a1) else (-2))))))))
set_option maxHeartbeats 4000000 in
set_option maxRecDepth 100000 in
theorem mz_hole {μ : zM} (hB : zB μ) (a1 a2 : Int) (h0 : -2147483648 ≤ a1 ∧ a1 ≤ 2147483647) (h1 : -2147483648 ≤ a2 ∧ a2 ≤ 2147483647) : Dz md_6_hole [zr 113, zi a1, zi a2] zSh μ (some (zi (mm_hole μ a1 a2))) zSh μ := by
  refine Dz.of (by decide) rfl rfl (show Ez md_6_hole 0 0 0 [(0, zr 113), (1, zi a1), (2, zi a2)] [] zSh μ (some (zi (mm_hole μ a1 a2))) zSh μ from ?_)
  unfold mm_hole
  refine Az.blk kd_6_hole_0 (show Ez md_6_hole 0 0 2 [(0, zr 113), (1, zi a1), (2, zi a2)] [zi a1, zr 113] zSh μ _ _ _ from ?_)
  refine Az.cV (mc := md_6_isHole) (k := 113) (n := 1) (As := [zi a1]) (rest := []) kr_6_hole_2 zw_706 ok_6_isHole rfl rfl rfl trivial (mz_isHole hB a1 (by omega)) rfl rfl (show Ez md_6_hole 0 0 5 [(0, zr 113), (1, zi a1), (2, zi a2)] [zi (mm_isHole μ a1)] zSh μ _ _ _ from ?_)
  have r1 : 0 ≤ (mm_isHole μ a1) ∧ (mm_isHole μ a1) ≤ 1 ∧ ((mm_isHole μ a1) = 1 → 0 ≤ a1 ∧ 0 ≤ (mm_itemOf μ a1)) := mr_isHole hB a1 (by omega)
  refine Az.blk kd_6_hole_5 (show zR (mm_isHole μ a1) ∧ ((¬ (mm_isHole μ a1) = 0 → Ez md_6_hole 0 0 10 [(0, zr 113), (1, zi a1), (2, zi a2)] [] zSh μ _ _ _) ∧ ((mm_isHole μ a1) = 0 → Ez md_6_hole 0 0 8 [(0, zr 113), (1, zi a1), (2, zi a2)] [] zSh μ _ _ _)) from ⟨(by omega), fun c2 => ?_, fun c2 => ?_⟩)
  · rw [if_neg c2]
    refine Az.blk kd_6_hole_10 (show Ez md_6_hole 0 0 12 [(0, zr 113), (1, zi a1), (2, zi a2)] [zi a1, zr 113] zSh μ _ _ _ from ?_)
    refine Az.cV (mc := md_6_itemOf) (k := 113) (n := 1) (As := [zi a1]) (rest := []) kr_6_hole_12 zw_710 ok_6_itemOf rfl rfl rfl trivial (mz_itemOf hB a1 (by omega)) rfl rfl (show Ez md_6_hole 0 0 15 [(0, zr 113), (1, zi a1), (2, zi a2)] [zi (mm_itemOf μ a1)] zSh μ _ _ _ from ?_)
    have r3 : ((mm_itemOf μ a1) = -5 ∨ (0 ≤ (mm_itemOf μ a1) ∧ (mm_itemOf μ a1) < μ 114 3)) ∧ (mm_itemOf μ a1) ≤ 19 := mr_itemOf hB a1 (by omega)
    refine Az.blk kd_6_hole_15 (show zR a2 ∧ ((a2 = 0 → Ez md_6_hole 0 0 56 [(3, zi (mm_itemOf μ a1)), (0, zr 113), (1, zi a1), (2, zi a2)] [] zSh μ _ _ _) ∧ (¬ a2 = 0 → ((a2 = 1 → Ez md_6_hole 0 0 56 [(3, zi (mm_itemOf μ a1)), (0, zr 113), (1, zi a1), (2, zi a2)] [] zSh μ _ _ _) ∧ (¬ a2 = 1 → ((a2 = 2 → Ez md_6_hole 0 0 56 [(3, zi (mm_itemOf μ a1)), (0, zr 113), (1, zi a1), (2, zi a2)] [] zSh μ _ _ _) ∧ (¬ a2 = 2 → ((a2 = 3 → Ez md_6_hole 0 0 65 [(3, zi (mm_itemOf μ a1)), (0, zr 113), (1, zi a1), (2, zi a2)] [] zSh μ _ _ _) ∧ (¬ a2 = 3 → ((a2 = 4 → Ez md_6_hole 0 0 71 [(3, zi (mm_itemOf μ a1)), (0, zr 113), (1, zi a1), (2, zi a2)] [] zSh μ _ _ _) ∧ (¬ a2 = 4 → ((a2 = 5 → Ez md_6_hole 0 0 77 [(3, zi (mm_itemOf μ a1)), (0, zr 113), (1, zi a1), (2, zi a2)] [] zSh μ _ _ _) ∧ (¬ a2 = 5 → Ez md_6_hole 0 0 79 [(3, zi (mm_itemOf μ a1)), (0, zr 113), (1, zi a1), (2, zi a2)] [] zSh μ _ _ _)))))))))))) from ⟨(by omega), ⟨fun c4 => ?_, fun c4 => ⟨fun c5 => ?_, fun c5 => ⟨fun c6 => ?_, fun c6 => ⟨fun c7 => ?_, fun c7 => ⟨fun c8 => ?_, fun c8 => ⟨fun c9 => ?_, fun c9 => ?_⟩⟩⟩⟩⟩⟩⟩)
    · rw [if_pos c4]
      refine Az.blk kd_6_hole_56 (show Ez md_6_hole 0 0 61 [(3, zi (mm_itemOf μ a1)), (0, zr 113), (1, zi a1), (2, zi a2)] [zi (1 + a2), zi (mm_itemOf μ a1), zr 113] zSh μ _ _ _ from ?_)
      refine Az.cV (mc := md_6_ofItem) (k := 113) (n := 2) (As := [zi (mm_itemOf μ a1), zi (1 + a2)]) (rest := []) kr_6_hole_61 zw_682 ok_6_ofItem rfl rfl rfl trivial (mz_ofItem hB (mm_itemOf μ a1) (1 + a2) (by omega) (by omega)) rfl rfl (show Ez md_6_hole 0 0 64 [(3, zi (mm_itemOf μ a1)), (0, zr 113), (1, zi a1), (2, zi a2)] [zi (mm_ofItem μ (mm_itemOf μ a1) (1 + a2))] zSh μ _ _ _ from ?_)
      have r10 : -5 ≤ (mm_ofItem μ (mm_itemOf μ a1) (1 + a2)) ∧ (mm_ofItem μ (mm_itemOf μ a1) (1 + a2)) ≤ 26 ∧ ((1 + a2) = 0 → 0 ≤ (mm_ofItem μ (mm_itemOf μ a1) (1 + a2)) ∧ (mm_ofItem μ (mm_itemOf μ a1) (1 + a2)) ≤ 1) ∧ ((1 + a2) = 1 → 0 ≤ (mm_ofItem μ (mm_itemOf μ a1) (1 + a2)) ∧ (mm_ofItem μ (mm_itemOf μ a1) (1 + a2)) ≤ 10) ∧ ((1 + a2) = 2 → 0 ≤ (mm_ofItem μ (mm_itemOf μ a1) (1 + a2)) ∧ (mm_ofItem μ (mm_itemOf μ a1) (1 + a2)) ≤ 9) ∧ ((1 + a2) = 3 → (mm_ofItem μ (mm_itemOf μ a1) (1 + a2)) = -5 ∨ (0 ≤ (mm_ofItem μ (mm_itemOf μ a1) (1 + a2)) ∧ (mm_ofItem μ (mm_itemOf μ a1) (1 + a2)) ≤ 23)) ∧ (3 < (1 + a2) → 0 ≤ (mm_ofItem μ (mm_itemOf μ a1) (1 + a2))) := mr_ofItem hB (mm_itemOf μ a1) (1 + a2) (by omega) (by omega)
      exact Ez.iret kr_6_hole_64 rfl (Nat.zero_le _) (Nat.zero_le _) rfl rfl
    · rw [if_neg c4, if_pos c5]
      refine Az.blk kd_6_hole_56 (show Ez md_6_hole 0 0 61 [(3, zi (mm_itemOf μ a1)), (0, zr 113), (1, zi a1), (2, zi a2)] [zi (1 + a2), zi (mm_itemOf μ a1), zr 113] zSh μ _ _ _ from ?_)
      refine Az.cV (mc := md_6_ofItem) (k := 113) (n := 2) (As := [zi (mm_itemOf μ a1), zi (1 + a2)]) (rest := []) kr_6_hole_61 zw_682 ok_6_ofItem rfl rfl rfl trivial (mz_ofItem hB (mm_itemOf μ a1) (1 + a2) (by omega) (by omega)) rfl rfl (show Ez md_6_hole 0 0 64 [(3, zi (mm_itemOf μ a1)), (0, zr 113), (1, zi a1), (2, zi a2)] [zi (mm_ofItem μ (mm_itemOf μ a1) (1 + a2))] zSh μ _ _ _ from ?_)
      have r11 : -5 ≤ (mm_ofItem μ (mm_itemOf μ a1) (1 + a2)) ∧ (mm_ofItem μ (mm_itemOf μ a1) (1 + a2)) ≤ 26 ∧ ((1 + a2) = 0 → 0 ≤ (mm_ofItem μ (mm_itemOf μ a1) (1 + a2)) ∧ (mm_ofItem μ (mm_itemOf μ a1) (1 + a2)) ≤ 1) ∧ ((1 + a2) = 1 → 0 ≤ (mm_ofItem μ (mm_itemOf μ a1) (1 + a2)) ∧ (mm_ofItem μ (mm_itemOf μ a1) (1 + a2)) ≤ 10) ∧ ((1 + a2) = 2 → 0 ≤ (mm_ofItem μ (mm_itemOf μ a1) (1 + a2)) ∧ (mm_ofItem μ (mm_itemOf μ a1) (1 + a2)) ≤ 9) ∧ ((1 + a2) = 3 → (mm_ofItem μ (mm_itemOf μ a1) (1 + a2)) = -5 ∨ (0 ≤ (mm_ofItem μ (mm_itemOf μ a1) (1 + a2)) ∧ (mm_ofItem μ (mm_itemOf μ a1) (1 + a2)) ≤ 23)) ∧ (3 < (1 + a2) → 0 ≤ (mm_ofItem μ (mm_itemOf μ a1) (1 + a2))) := mr_ofItem hB (mm_itemOf μ a1) (1 + a2) (by omega) (by omega)
      exact Ez.iret kr_6_hole_64 rfl (Nat.zero_le _) (Nat.zero_le _) rfl rfl
    · rw [if_neg c4, if_neg c5, if_pos c6]
      refine Az.blk kd_6_hole_56 (show Ez md_6_hole 0 0 61 [(3, zi (mm_itemOf μ a1)), (0, zr 113), (1, zi a1), (2, zi a2)] [zi (1 + a2), zi (mm_itemOf μ a1), zr 113] zSh μ _ _ _ from ?_)
      refine Az.cV (mc := md_6_ofItem) (k := 113) (n := 2) (As := [zi (mm_itemOf μ a1), zi (1 + a2)]) (rest := []) kr_6_hole_61 zw_682 ok_6_ofItem rfl rfl rfl trivial (mz_ofItem hB (mm_itemOf μ a1) (1 + a2) (by omega) (by omega)) rfl rfl (show Ez md_6_hole 0 0 64 [(3, zi (mm_itemOf μ a1)), (0, zr 113), (1, zi a1), (2, zi a2)] [zi (mm_ofItem μ (mm_itemOf μ a1) (1 + a2))] zSh μ _ _ _ from ?_)
      have r12 : -5 ≤ (mm_ofItem μ (mm_itemOf μ a1) (1 + a2)) ∧ (mm_ofItem μ (mm_itemOf μ a1) (1 + a2)) ≤ 26 ∧ ((1 + a2) = 0 → 0 ≤ (mm_ofItem μ (mm_itemOf μ a1) (1 + a2)) ∧ (mm_ofItem μ (mm_itemOf μ a1) (1 + a2)) ≤ 1) ∧ ((1 + a2) = 1 → 0 ≤ (mm_ofItem μ (mm_itemOf μ a1) (1 + a2)) ∧ (mm_ofItem μ (mm_itemOf μ a1) (1 + a2)) ≤ 10) ∧ ((1 + a2) = 2 → 0 ≤ (mm_ofItem μ (mm_itemOf μ a1) (1 + a2)) ∧ (mm_ofItem μ (mm_itemOf μ a1) (1 + a2)) ≤ 9) ∧ ((1 + a2) = 3 → (mm_ofItem μ (mm_itemOf μ a1) (1 + a2)) = -5 ∨ (0 ≤ (mm_ofItem μ (mm_itemOf μ a1) (1 + a2)) ∧ (mm_ofItem μ (mm_itemOf μ a1) (1 + a2)) ≤ 23)) ∧ (3 < (1 + a2) → 0 ≤ (mm_ofItem μ (mm_itemOf μ a1) (1 + a2))) := mr_ofItem hB (mm_itemOf μ a1) (1 + a2) (by omega) (by omega)
      exact Ez.iret kr_6_hole_64 rfl (Nat.zero_le _) (Nat.zero_le _) rfl rfl
    · rw [if_neg c4, if_neg c5, if_neg c6, if_pos c7]
      refine Az.blk kd_6_hole_65 (show Ez md_6_hole 0 0 67 [(3, zi (mm_itemOf μ a1)), (0, zr 113), (1, zi a1), (2, zi a2)] [zi (mm_itemOf μ a1), zr 113] zSh μ _ _ _ from ?_)
      refine Az.cV (mc := md_6_formAt) (k := 113) (n := 1) (As := [zi (mm_itemOf μ a1)]) (rest := []) kr_6_hole_67 zw_802 ok_6_formAt rfl rfl rfl trivial (mz_formAt hB (mm_itemOf μ a1) (by omega)) rfl rfl (show Ez md_6_hole 0 0 70 [(3, zi (mm_itemOf μ a1)), (0, zr 113), (1, zi a1), (2, zi a2)] [zi (mm_formAt μ (mm_itemOf μ a1))] zSh μ _ _ _ from ?_)
      have r13 : 0 ≤ (mm_formAt μ (mm_itemOf μ a1)) ∧ (mm_formAt μ (mm_itemOf μ a1)) ≤ 5 := mr_formAt hB (mm_itemOf μ a1) (by omega)
      exact Ez.iret kr_6_hole_70 rfl (Nat.zero_le _) (Nat.zero_le _) rfl rfl
    · rw [if_neg c4, if_neg c5, if_neg c6, if_neg c7, if_pos c8]
      refine Az.blk kd_6_hole_71 (show Ez md_6_hole 0 0 73 [(3, zi (mm_itemOf μ a1)), (0, zr 113), (1, zi a1), (2, zi a2)] [zi (mm_itemOf μ a1), zr 113] zSh μ _ _ _ from ?_)
      refine Az.cV (mc := md_6_lettersAt) (k := 113) (n := 1) (As := [zi (mm_itemOf μ a1)]) (rest := []) kr_6_hole_73 zw_814 ok_6_lettersAt rfl rfl rfl trivial (mz_lettersAt hB (mm_itemOf μ a1) (by omega)) rfl rfl (show Ez md_6_hole 0 0 76 [(3, zi (mm_itemOf μ a1)), (0, zr 113), (1, zi a1), (2, zi a2)] [zi (mm_lettersAt μ (mm_itemOf μ a1))] zSh μ _ _ _ from ?_)
      have r14 : 0 ≤ (mm_lettersAt μ (mm_itemOf μ a1)) ∧ (mm_lettersAt μ (mm_itemOf μ a1)) ≤ 10 := mr_lettersAt hB (mm_itemOf μ a1) (by omega)
      exact Ez.iret kr_6_hole_76 rfl (Nat.zero_le _) (Nat.zero_le _) rfl rfl
    · rw [if_neg c4, if_neg c5, if_neg c6, if_neg c7, if_neg c8, if_pos c9]
      refine Az.blk kd_6_hole_77 (show Ez md_6_hole 0 0 78 [(3, zi (mm_itemOf μ a1)), (0, zr 113), (1, zi a1), (2, zi a2)] [zi (mm_itemOf μ a1)] zSh μ _ _ _ from ?_)
      exact Ez.iret kr_6_hole_78 rfl (Nat.zero_le _) (Nat.zero_le _) rfl rfl
    · rw [if_neg c4, if_neg c5, if_neg c6, if_neg c7, if_neg c8, if_neg c9]
      refine Az.blk kd_6_hole_79 (show Ez md_6_hole 0 0 81 [(3, zi (mm_itemOf μ a1)), (0, zr 113), (1, zi a1), (2, zi a2)] [zi (-2)] zSh μ _ _ _ from ?_)
      exact Ez.iret kr_6_hole_81 rfl (Nat.zero_le _) (Nat.zero_le _) rfl rfl
  · rw [if_pos c2]
    refine Az.blk kd_6_hole_8 (show Ez md_6_hole 0 0 9 [(0, zr 113), (1, zi a1), (2, zi a2)] [zi (-1)] zSh μ _ _ _ from ?_)
    exact Ez.iret kr_6_hole_9 rfl (Nat.zero_le _) (Nat.zero_le _) rfl rfl
def kb_6_tie_0 : List zI := [(.iload_n 1, 1, 0, 0)]
theorem kd_6_tie_0 : zdec md_6_tie 0 kb_6_tie_0 = true := by decide +kernel
theorem kr_6_tie_1 : decode md_6_tie.2.1 1 = .ok (.invokestatic 109, 3) := by decide +kernel
def kb_6_tie_4 : List zI := [(.ifCond .ne 5, 3, 9, 0)]
theorem kd_6_tie_4 : zdec md_6_tie 4 kb_6_tie_4 = true := by decide +kernel
def kb_6_tie_9 : List zI := [(.iload_n 2, 1, 0, 0), (.tableswitch 83 0 5 #[38, 44, 50, 56, 56, 65], 38, 0, 0)]
theorem kd_6_tie_9 : zdec md_6_tie 9 kb_6_tie_9 = true := by decide +kernel
def kb_6_tie_48 : List zI := [(.aload_n 0, 1, 0, 0), (.iload_n 1, 1, 0, 0)]
theorem kd_6_tie_48 : zdec md_6_tie 48 kb_6_tie_48 = true := by decide +kernel
theorem kr_6_tie_50 : decode md_6_tie.2.1 50 = .ok (.invokevirtual 62, 3) := by decide +kernel
theorem kr_6_tie_53 : decode md_6_tie.2.1 53 = .ok (.ireturn, 1) := by decide +kernel
def kb_6_tie_54 : List zI := [(.aload_n 0, 1, 0, 0), (.iload_n 1, 1, 0, 0)]
theorem kd_6_tie_54 : zdec md_6_tie 54 kb_6_tie_54 = true := by decide +kernel
theorem kr_6_tie_56 : decode md_6_tie.2.1 56 = .ok (.invokevirtual 65, 3) := by decide +kernel
theorem kr_6_tie_59 : decode md_6_tie.2.1 59 = .ok (.ireturn, 1) := by decide +kernel
def kb_6_tie_60 : List zI := [(.aload_n 0, 1, 0, 0), (.iload_n 1, 1, 0, 0)]
theorem kd_6_tie_60 : zdec md_6_tie 60 kb_6_tie_60 = true := by decide +kernel
theorem kr_6_tie_62 : decode md_6_tie.2.1 62 = .ok (.invokevirtual 68, 3) := by decide +kernel
theorem kr_6_tie_65 : decode md_6_tie.2.1 65 = .ok (.ireturn, 1) := by decide +kernel
def kb_6_tie_66 : List zI := [(.aload_n 0, 1, 0, 0), (.iload_n 1, 1, 0, 0), (.iload_n 2, 1, 0, 0), (.iconst 3, 1, 0, 0), (.isub, 1, 0, 0)]
theorem kd_6_tie_66 : zdec md_6_tie 66 kb_6_tie_66 = true := by decide +kernel
theorem kr_6_tie_71 : decode md_6_tie.2.1 71 = .ok (.invokevirtual 104, 3) := by decide +kernel
theorem kr_6_tie_74 : decode md_6_tie.2.1 74 = .ok (.ireturn, 1) := by decide +kernel
def kb_6_tie_75 : List zI := [(.aload_n 0, 1, 0, 0), (.iload_n 1, 1, 0, 0), (.bipush (-5), 2, 0, 0)]
theorem kd_6_tie_75 : zdec md_6_tie 75 kb_6_tie_75 = true := by decide +kernel
theorem kr_6_tie_79 : decode md_6_tie.2.1 79 = .ok (.invokevirtual 59, 3) := by decide +kernel
def kb_6_tie_82 : List zI := [(.bipush (-5), 2, 0, 0), (.if_icmp .ne 7, 3, 91, 0)]
theorem kd_6_tie_82 : zdec md_6_tie 82 kb_6_tie_82 = true := by decide +kernel
def kb_6_tie_91 : List zI := [(.iconst 1, 1, 0, 0)]
theorem kd_6_tie_91 : zdec md_6_tie 91 kb_6_tie_91 = true := by decide +kernel
theorem kr_6_tie_92 : decode md_6_tie.2.1 92 = .ok (.ireturn, 1) := by decide +kernel
def kb_6_tie_87 : List zI := [(.iconst 0, 1, 0, 0), (.goto 4, 3, 92, 0)]
theorem kd_6_tie_87 : zdec md_6_tie 87 kb_6_tie_87 = true := by decide +kernel
def kb_6_tie_93 : List zI := [(.bipush (-2), 2, 0, 0)]
theorem kd_6_tie_93 : zdec md_6_tie 93 kb_6_tie_93 = true := by decide +kernel
theorem kr_6_tie_95 : decode md_6_tie.2.1 95 = .ok (.ireturn, 1) := by decide +kernel
def kb_6_tie_7 : List zI := [(.iconst (-1), 1, 0, 0)]
theorem kd_6_tie_7 : zdec md_6_tie 7 kb_6_tie_7 = true := by decide +kernel
theorem kr_6_tie_8 : decode md_6_tie.2.1 8 = .ok (.ireturn, 1) := by decide +kernel
noncomputable def mm_tie (μ : zM) (a1 a2 : Int) : Int := (if (mm_isTie a1) = 0 then (-1) else (if a2 = 0 then (mm_numberOf μ a1) else (if a2 = 1 then (mm_tenseOf μ a1) else (if a2 = 2 then (mm_genderOf μ a1) else (if a2 = 3 then (mm_holes μ a1 (a2 - 3)) else (if a2 = 4 then (mm_holes μ a1 (a2 - 3)) else (if a2 = 5 then (if (mm_nounIn μ a1 (-5)) = (-5) then 0 else 1) else (-2))))))))
set_option maxHeartbeats 4000000 in
set_option maxRecDepth 100000 in
theorem mz_tie {μ : zM} (hB : zB μ) (a1 a2 : Int) (h0 : -2147483648 ≤ a1 ∧ a1 ≤ 2147483647) (h1 : -2147483648 ≤ a2 ∧ a2 ≤ 2147483647) : Dz md_6_tie [zr 113, zi a1, zi a2] zSh μ (some (zi (mm_tie μ a1 a2))) zSh μ := by
  refine Dz.of (by decide) rfl rfl (show Ez md_6_tie 0 0 0 [(0, zr 113), (1, zi a1), (2, zi a2)] [] zSh μ (some (zi (mm_tie μ a1 a2))) zSh μ from ?_)
  unfold mm_tie
  refine Az.blk kd_6_tie_0 (show Ez md_6_tie 0 0 1 [(0, zr 113), (1, zi a1), (2, zi a2)] [zi a1] zSh μ _ _ _ from ?_)
  refine Az.cS (mc := md_6_isTie) (n := 1) (As := [zi a1]) (rest := []) kr_6_tie_1 zw_690 ok_6_isTie rfl rfl (mz_isTie a1 (by omega)) rfl rfl (show Ez md_6_tie 0 0 4 [(0, zr 113), (1, zi a1), (2, zi a2)] [zi (mm_isTie a1)] zSh μ _ _ _ from ?_)
  have r1 : 0 ≤ (mm_isTie a1) ∧ (mm_isTie a1) ≤ 1 ∧ ((mm_isTie a1) = 1 → 0 ≤ a1 ∧ a1 ≤ 9) ∧ ((mm_isTie a1) = 0 → a1 < 0 ∨ 9 < a1) := mr_isTie a1 (by omega)
  refine Az.blk kd_6_tie_4 (show zR (mm_isTie a1) ∧ ((¬ (mm_isTie a1) = 0 → Ez md_6_tie 0 0 9 [(0, zr 113), (1, zi a1), (2, zi a2)] [] zSh μ _ _ _) ∧ ((mm_isTie a1) = 0 → Ez md_6_tie 0 0 7 [(0, zr 113), (1, zi a1), (2, zi a2)] [] zSh μ _ _ _)) from ⟨(by omega), fun c2 => ?_, fun c2 => ?_⟩)
  · rw [if_neg c2]
    refine Az.blk kd_6_tie_9 (show zR a2 ∧ ((a2 = 0 → Ez md_6_tie 0 0 48 [(0, zr 113), (1, zi a1), (2, zi a2)] [] zSh μ _ _ _) ∧ (¬ a2 = 0 → ((a2 = 1 → Ez md_6_tie 0 0 54 [(0, zr 113), (1, zi a1), (2, zi a2)] [] zSh μ _ _ _) ∧ (¬ a2 = 1 → ((a2 = 2 → Ez md_6_tie 0 0 60 [(0, zr 113), (1, zi a1), (2, zi a2)] [] zSh μ _ _ _) ∧ (¬ a2 = 2 → ((a2 = 3 → Ez md_6_tie 0 0 66 [(0, zr 113), (1, zi a1), (2, zi a2)] [] zSh μ _ _ _) ∧ (¬ a2 = 3 → ((a2 = 4 → Ez md_6_tie 0 0 66 [(0, zr 113), (1, zi a1), (2, zi a2)] [] zSh μ _ _ _) ∧ (¬ a2 = 4 → ((a2 = 5 → Ez md_6_tie 0 0 75 [(0, zr 113), (1, zi a1), (2, zi a2)] [] zSh μ _ _ _) ∧ (¬ a2 = 5 → Ez md_6_tie 0 0 93 [(0, zr 113), (1, zi a1), (2, zi a2)] [] zSh μ _ _ _)))))))))))) from ⟨(by omega), ⟨fun c3 => ?_, fun c3 => ⟨fun c4 => ?_, fun c4 => ⟨fun c5 => ?_, fun c5 => ⟨fun c6 => ?_, fun c6 => ⟨fun c7 => ?_, fun c7 => ⟨fun c8 => ?_, fun c8 => ?_⟩⟩⟩⟩⟩⟩⟩)
    · rw [if_pos c3]
      refine Az.blk kd_6_tie_48 (show Ez md_6_tie 0 0 50 [(0, zr 113), (1, zi a1), (2, zi a2)] [zi a1, zr 113] zSh μ _ _ _ from ?_)
      refine Az.cV (mc := md_6_numberOf) (k := 113) (n := 1) (As := [zi a1]) (rest := []) kr_6_tie_50 zw_694 ok_6_numberOf rfl rfl rfl trivial (mz_numberOf hB a1 (by omega)) rfl rfl (show Ez md_6_tie 0 0 53 [(0, zr 113), (1, zi a1), (2, zi a2)] [zi (mm_numberOf μ a1)] zSh μ _ _ _ from ?_)
      have r9 : 0 ≤ (mm_numberOf μ a1) ∧ (mm_numberOf μ a1) ≤ 1 := mr_numberOf hB a1 (by omega)
      exact Ez.iret kr_6_tie_53 rfl (Nat.zero_le _) (Nat.zero_le _) rfl rfl
    · rw [if_neg c3, if_pos c4]
      refine Az.blk kd_6_tie_54 (show Ez md_6_tie 0 0 56 [(0, zr 113), (1, zi a1), (2, zi a2)] [zi a1, zr 113] zSh μ _ _ _ from ?_)
      refine Az.cV (mc := md_6_tenseOf) (k := 113) (n := 1) (As := [zi a1]) (rest := []) kr_6_tie_56 zw_698 ok_6_tenseOf rfl rfl rfl trivial (mz_tenseOf hB a1 (by omega)) rfl rfl (show Ez md_6_tie 0 0 59 [(0, zr 113), (1, zi a1), (2, zi a2)] [zi (mm_tenseOf μ a1)] zSh μ _ _ _ from ?_)
      have r10 : 0 ≤ (mm_tenseOf μ a1) ∧ (mm_tenseOf μ a1) ≤ 2 := mr_tenseOf hB a1 (by omega)
      exact Ez.iret kr_6_tie_59 rfl (Nat.zero_le _) (Nat.zero_le _) rfl rfl
    · rw [if_neg c3, if_neg c4, if_pos c5]
      refine Az.blk kd_6_tie_60 (show Ez md_6_tie 0 0 62 [(0, zr 113), (1, zi a1), (2, zi a2)] [zi a1, zr 113] zSh μ _ _ _ from ?_)
      refine Az.cV (mc := md_6_genderOf) (k := 113) (n := 1) (As := [zi a1]) (rest := []) kr_6_tie_62 zw_806 ok_6_genderOf rfl rfl rfl trivial (mz_genderOf hB a1 (by omega)) rfl rfl (show Ez md_6_tie 0 0 65 [(0, zr 113), (1, zi a1), (2, zi a2)] [zi (mm_genderOf μ a1)] zSh μ _ _ _ from ?_)
      have r11 : 0 ≤ (mm_genderOf μ a1) ∧ (mm_genderOf μ a1) ≤ 2 := mr_genderOf hB a1 (by omega)
      exact Ez.iret kr_6_tie_65 rfl (Nat.zero_le _) (Nat.zero_le _) rfl rfl
    · rw [if_neg c3, if_neg c4, if_neg c5, if_pos c6]
      refine Az.blk kd_6_tie_66 (show Ez md_6_tie 0 0 71 [(0, zr 113), (1, zi a1), (2, zi a2)] [zi (a2 - 3), zi a1, zr 113] zSh μ _ _ _ from ?_)
      refine Az.cV (mc := md_6_holes) (k := 113) (n := 2) (As := [zi a1, zi (a2 - 3)]) (rest := []) kr_6_tie_71 zw_674 ok_6_holes rfl rfl rfl trivial (mz_holes hB a1 (a2 - 3) (by omega) (by omega)) rfl rfl (show Ez md_6_tie 0 0 74 [(0, zr 113), (1, zi a1), (2, zi a2)] [zi (mm_holes μ a1 (a2 - 3))] zSh μ _ _ _ from ?_)
      have r12 : 0 ≤ (mm_holes μ a1 (a2 - 3)) ∧ (mm_holes μ a1 (a2 - 3)) ≤ 20 := mr_holes hB a1 (a2 - 3) (by omega) (by omega)
      exact Ez.iret kr_6_tie_74 rfl (Nat.zero_le _) (Nat.zero_le _) rfl rfl
    · rw [if_neg c3, if_neg c4, if_neg c5, if_neg c6, if_pos c7]
      refine Az.blk kd_6_tie_66 (show Ez md_6_tie 0 0 71 [(0, zr 113), (1, zi a1), (2, zi a2)] [zi (a2 - 3), zi a1, zr 113] zSh μ _ _ _ from ?_)
      refine Az.cV (mc := md_6_holes) (k := 113) (n := 2) (As := [zi a1, zi (a2 - 3)]) (rest := []) kr_6_tie_71 zw_674 ok_6_holes rfl rfl rfl trivial (mz_holes hB a1 (a2 - 3) (by omega) (by omega)) rfl rfl (show Ez md_6_tie 0 0 74 [(0, zr 113), (1, zi a1), (2, zi a2)] [zi (mm_holes μ a1 (a2 - 3))] zSh μ _ _ _ from ?_)
      have r13 : 0 ≤ (mm_holes μ a1 (a2 - 3)) ∧ (mm_holes μ a1 (a2 - 3)) ≤ 20 := mr_holes hB a1 (a2 - 3) (by omega) (by omega)
      exact Ez.iret kr_6_tie_74 rfl (Nat.zero_le _) (Nat.zero_le _) rfl rfl
    · rw [if_neg c3, if_neg c4, if_neg c5, if_neg c6, if_neg c7, if_pos c8]
      refine Az.blk kd_6_tie_75 (show Ez md_6_tie 0 0 79 [(0, zr 113), (1, zi a1), (2, zi a2)] [zi (-5), zi a1, zr 113] zSh μ _ _ _ from ?_)
      refine Az.cV (mc := md_6_nounIn) (k := 113) (n := 2) (As := [zi a1, zi (-5)]) (rest := []) kr_6_tie_79 zw_726 ok_6_nounIn rfl rfl rfl trivial (mz_nounIn hB a1 (-5) (by omega) (by omega)) rfl rfl (show Ez md_6_tie 0 0 82 [(0, zr 113), (1, zi a1), (2, zi a2)] [zi (mm_nounIn μ a1 (-5))] zSh μ _ _ _ from ?_)
      have r14 : ((mm_nounIn μ a1 (-5)) = -5 ∨ (0 ≤ (mm_nounIn μ a1 (-5)) ∧ (mm_nounIn μ a1 (-5)) ≤ 2)) := mr_nounIn hB a1 (-5) (by omega) (by omega)
      refine Az.blk kd_6_tie_82 (show zR (mm_nounIn μ a1 (-5)) ∧ zR (-5) ∧ ((¬ (mm_nounIn μ a1 (-5)) = (-5) → Ez md_6_tie 0 0 91 [(0, zr 113), (1, zi a1), (2, zi a2)] [] zSh μ _ _ _) ∧ ((mm_nounIn μ a1 (-5)) = (-5) → Ez md_6_tie 0 0 87 [(0, zr 113), (1, zi a1), (2, zi a2)] [] zSh μ _ _ _)) from ⟨(by omega), (by omega), fun c15 => ?_, fun c15 => ?_⟩)
      · rw [if_neg c15]
        refine Az.blk kd_6_tie_91 (show Ez md_6_tie 0 0 92 [(0, zr 113), (1, zi a1), (2, zi a2)] [zi 1] zSh μ _ _ _ from ?_)
        exact Ez.iret kr_6_tie_92 rfl (Nat.zero_le _) (Nat.zero_le _) rfl rfl
      · rw [if_pos c15]
        refine Az.blk kd_6_tie_87 (show Ez md_6_tie 0 0 92 [(0, zr 113), (1, zi a1), (2, zi a2)] [zi 0] zSh μ _ _ _ from ?_)
        exact Ez.iret kr_6_tie_92 rfl (Nat.zero_le _) (Nat.zero_le _) rfl rfl
    · rw [if_neg c3, if_neg c4, if_neg c5, if_neg c6, if_neg c7, if_neg c8]
      refine Az.blk kd_6_tie_93 (show Ez md_6_tie 0 0 95 [(0, zr 113), (1, zi a1), (2, zi a2)] [zi (-2)] zSh μ _ _ _ from ?_)
      exact Ez.iret kr_6_tie_95 rfl (Nat.zero_le _) (Nat.zero_le _) rfl rfl
  · rw [if_pos c2]
    refine Az.blk kd_6_tie_7 (show Ez md_6_tie 0 0 8 [(0, zr 113), (1, zi a1), (2, zi a2)] [zi (-1)] zSh μ _ _ _ from ?_)
    exact Ez.iret kr_6_tie_8 rfl (Nat.zero_le _) (Nat.zero_le _) rfl rfl
def kb_6_characters_0 : List zI := [(.aload_n 0, 1, 0, 0), (.iload_n 1, 1, 0, 0)]
theorem kd_6_characters_0 : zdec md_6_characters 0 kb_6_characters_0 = true := by decide +kernel
theorem kr_6_characters_2 : decode md_6_characters.2.1 2 = .ok (.invokevirtual 51, 3) := by decide +kernel
def kb_6_characters_5 : List zI := [(.ifCond .ne 12, 3, 17, 0)]
theorem kd_6_characters_5 : zdec md_6_characters 5 kb_6_characters_5 = true := by decide +kernel
def kb_6_characters_17 : List zI := [(.aload_n 0, 1, 0, 0), (.iload_n 1, 1, 0, 0), (.iconst 3, 1, 0, 0)]
theorem kd_6_characters_17 : zdec md_6_characters 17 kb_6_characters_17 = true := by decide +kernel
theorem kr_6_characters_20 : decode md_6_characters.2.1 20 = .ok (.invokevirtual 48, 3) := by decide +kernel
def kb_6_characters_23 : List zI := [(.bipush (-5), 2, 0, 0), (.if_icmp .ne 7, 3, 32, 0)]
theorem kd_6_characters_23 : zdec md_6_characters 23 kb_6_characters_23 = true := by decide +kernel
def kb_6_characters_32 : List zI := [(.aload_n 0, 1, 0, 0), (.iload_n 1, 1, 0, 0)]
theorem kd_6_characters_32 : zdec md_6_characters 32 kb_6_characters_32 = true := by decide +kernel
theorem kr_6_characters_34 : decode md_6_characters.2.1 34 = .ok (.invokevirtual 157, 3) := by decide +kernel
theorem kr_6_characters_37 : decode md_6_characters.2.1 37 = .ok (.ireturn, 1) := by decide +kernel
def kb_6_characters_28 : List zI := [(.iconst 1, 1, 0, 0), (.goto 8, 3, 37, 0)]
theorem kd_6_characters_28 : zdec md_6_characters 28 kb_6_characters_28 = true := by decide +kernel
def kb_6_characters_8 : List zI := [(.aload_n 0, 1, 0, 0), (.iload_n 1, 1, 0, 0), (.iconst 1, 1, 0, 0)]
theorem kd_6_characters_8 : zdec md_6_characters 8 kb_6_characters_8 = true := by decide +kernel
theorem kr_6_characters_11 : decode md_6_characters.2.1 11 = .ok (.invokevirtual 48, 3) := by decide +kernel
def kb_6_characters_14 : List zI := [(.goto 23, 3, 37, 0)]
theorem kd_6_characters_14 : zdec md_6_characters 14 kb_6_characters_14 = true := by decide +kernel
noncomputable def mm_characters (μ : zM) (a1 : Int) : Int := (if (mm_isHoleAt μ a1) = 0 then (mm_ofItem μ a1 1) else (if (mm_ofItem μ a1 3) = (-5) then 1 else (mm_lettersAt μ a1)))
set_option maxHeartbeats 4000000 in
set_option maxRecDepth 100000 in
theorem mr_characters {μ : zM} (hB : zB μ) (a1 : Int) (h0 : 0 ≤ a1 ∧ a1 ≤ 19) : 0 ≤ (mm_characters μ a1) ∧ (mm_characters μ a1) ≤ 10 := by
  unfold mm_characters
  have r1 : 0 ≤ (mm_isHoleAt μ a1) ∧ (mm_isHoleAt μ a1) ≤ 1 := mr_isHoleAt hB a1 (by omega)
  by_cases c2 : (mm_isHoleAt μ a1) = 0
  · rw [if_pos c2]
    have r6 : -5 ≤ (mm_ofItem μ a1 1) ∧ (mm_ofItem μ a1 1) ≤ 26 ∧ ((1 : Int) = 0 → 0 ≤ (mm_ofItem μ a1 1) ∧ (mm_ofItem μ a1 1) ≤ 1) ∧ ((1 : Int) = 1 → 0 ≤ (mm_ofItem μ a1 1) ∧ (mm_ofItem μ a1 1) ≤ 10) ∧ ((1 : Int) = 2 → 0 ≤ (mm_ofItem μ a1 1) ∧ (mm_ofItem μ a1 1) ≤ 9) ∧ ((1 : Int) = 3 → (mm_ofItem μ a1 1) = -5 ∨ (0 ≤ (mm_ofItem μ a1 1) ∧ (mm_ofItem μ a1 1) ≤ 23)) ∧ (3 < (1 : Int) → 0 ≤ (mm_ofItem μ a1 1)) := mr_ofItem hB a1 1 (by omega) (by omega)
    first | omega | (dsimp only; omega)
  · rw [if_neg c2]
    have r3 : -5 ≤ (mm_ofItem μ a1 3) ∧ (mm_ofItem μ a1 3) ≤ 26 ∧ ((3 : Int) = 0 → 0 ≤ (mm_ofItem μ a1 3) ∧ (mm_ofItem μ a1 3) ≤ 1) ∧ ((3 : Int) = 1 → 0 ≤ (mm_ofItem μ a1 3) ∧ (mm_ofItem μ a1 3) ≤ 10) ∧ ((3 : Int) = 2 → 0 ≤ (mm_ofItem μ a1 3) ∧ (mm_ofItem μ a1 3) ≤ 9) ∧ ((3 : Int) = 3 → (mm_ofItem μ a1 3) = -5 ∨ (0 ≤ (mm_ofItem μ a1 3) ∧ (mm_ofItem μ a1 3) ≤ 23)) ∧ (3 < (3 : Int) → 0 ≤ (mm_ofItem μ a1 3)) := mr_ofItem hB a1 3 (by omega) (by omega)
    by_cases c4 : (mm_ofItem μ a1 3) = (-5)
    · rw [if_pos c4]
      first | omega | (dsimp only; omega)
    · rw [if_neg c4]
      have r5 : 0 ≤ (mm_lettersAt μ a1) ∧ (mm_lettersAt μ a1) ≤ 10 := mr_lettersAt hB a1 (by omega)
      first | omega | (dsimp only; omega)
set_option maxHeartbeats 4000000 in
set_option maxRecDepth 100000 in
theorem mz_characters {μ : zM} (hB : zB μ) (a1 : Int) (h0 : 0 ≤ a1 ∧ a1 ≤ 19) : Dz md_6_characters [zr 113, zi a1] zSh μ (some (zi (mm_characters μ a1))) zSh μ := by
  refine Dz.of (by decide) rfl rfl (show Ez md_6_characters 0 0 0 [(0, zr 113), (1, zi a1)] [] zSh μ (some (zi (mm_characters μ a1))) zSh μ from ?_)
  unfold mm_characters
  refine Az.blk kd_6_characters_0 (show Ez md_6_characters 0 0 2 [(0, zr 113), (1, zi a1)] [zi a1, zr 113] zSh μ _ _ _ from ?_)
  refine Az.cV (mc := md_6_isHoleAt) (k := 113) (n := 1) (As := [zi a1]) (rest := []) kr_6_characters_2 zw_678 ok_6_isHoleAt rfl rfl rfl trivial (mz_isHoleAt hB a1 (by omega)) rfl rfl (show Ez md_6_characters 0 0 5 [(0, zr 113), (1, zi a1)] [zi (mm_isHoleAt μ a1)] zSh μ _ _ _ from ?_)
  have r1 : 0 ≤ (mm_isHoleAt μ a1) ∧ (mm_isHoleAt μ a1) ≤ 1 := mr_isHoleAt hB a1 (by omega)
  refine Az.blk kd_6_characters_5 (show zR (mm_isHoleAt μ a1) ∧ ((¬ (mm_isHoleAt μ a1) = 0 → Ez md_6_characters 0 0 17 [(0, zr 113), (1, zi a1)] [] zSh μ _ _ _) ∧ ((mm_isHoleAt μ a1) = 0 → Ez md_6_characters 0 0 8 [(0, zr 113), (1, zi a1)] [] zSh μ _ _ _)) from ⟨(by omega), fun c2 => ?_, fun c2 => ?_⟩)
  · rw [if_neg c2]
    refine Az.blk kd_6_characters_17 (show Ez md_6_characters 0 0 20 [(0, zr 113), (1, zi a1)] [zi 3, zi a1, zr 113] zSh μ _ _ _ from ?_)
    refine Az.cV (mc := md_6_ofItem) (k := 113) (n := 2) (As := [zi a1, zi 3]) (rest := []) kr_6_characters_20 zw_682 ok_6_ofItem rfl rfl rfl trivial (mz_ofItem hB a1 3 (by omega) (by omega)) rfl rfl (show Ez md_6_characters 0 0 23 [(0, zr 113), (1, zi a1)] [zi (mm_ofItem μ a1 3)] zSh μ _ _ _ from ?_)
    have r3 : -5 ≤ (mm_ofItem μ a1 3) ∧ (mm_ofItem μ a1 3) ≤ 26 ∧ ((3 : Int) = 0 → 0 ≤ (mm_ofItem μ a1 3) ∧ (mm_ofItem μ a1 3) ≤ 1) ∧ ((3 : Int) = 1 → 0 ≤ (mm_ofItem μ a1 3) ∧ (mm_ofItem μ a1 3) ≤ 10) ∧ ((3 : Int) = 2 → 0 ≤ (mm_ofItem μ a1 3) ∧ (mm_ofItem μ a1 3) ≤ 9) ∧ ((3 : Int) = 3 → (mm_ofItem μ a1 3) = -5 ∨ (0 ≤ (mm_ofItem μ a1 3) ∧ (mm_ofItem μ a1 3) ≤ 23)) ∧ (3 < (3 : Int) → 0 ≤ (mm_ofItem μ a1 3)) := mr_ofItem hB a1 3 (by omega) (by omega)
    refine Az.blk kd_6_characters_23 (show zR (mm_ofItem μ a1 3) ∧ zR (-5) ∧ ((¬ (mm_ofItem μ a1 3) = (-5) → Ez md_6_characters 0 0 32 [(0, zr 113), (1, zi a1)] [] zSh μ _ _ _) ∧ ((mm_ofItem μ a1 3) = (-5) → Ez md_6_characters 0 0 28 [(0, zr 113), (1, zi a1)] [] zSh μ _ _ _)) from ⟨(by omega), (by omega), fun c4 => ?_, fun c4 => ?_⟩)
    · rw [if_neg c4]
      refine Az.blk kd_6_characters_32 (show Ez md_6_characters 0 0 34 [(0, zr 113), (1, zi a1)] [zi a1, zr 113] zSh μ _ _ _ from ?_)
      refine Az.cV (mc := md_6_lettersAt) (k := 113) (n := 1) (As := [zi a1]) (rest := []) kr_6_characters_34 zw_814 ok_6_lettersAt rfl rfl rfl trivial (mz_lettersAt hB a1 (by omega)) rfl rfl (show Ez md_6_characters 0 0 37 [(0, zr 113), (1, zi a1)] [zi (mm_lettersAt μ a1)] zSh μ _ _ _ from ?_)
      have r5 : 0 ≤ (mm_lettersAt μ a1) ∧ (mm_lettersAt μ a1) ≤ 10 := mr_lettersAt hB a1 (by omega)
      exact Ez.iret kr_6_characters_37 rfl (Nat.zero_le _) (Nat.zero_le _) rfl rfl
    · rw [if_pos c4]
      refine Az.blk kd_6_characters_28 (show Ez md_6_characters 0 0 37 [(0, zr 113), (1, zi a1)] [zi 1] zSh μ _ _ _ from ?_)
      exact Ez.iret kr_6_characters_37 rfl (Nat.zero_le _) (Nat.zero_le _) rfl rfl
  · rw [if_pos c2]
    refine Az.blk kd_6_characters_8 (show Ez md_6_characters 0 0 11 [(0, zr 113), (1, zi a1)] [zi 1, zi a1, zr 113] zSh μ _ _ _ from ?_)
    refine Az.cV (mc := md_6_ofItem) (k := 113) (n := 2) (As := [zi a1, zi 1]) (rest := []) kr_6_characters_11 zw_682 ok_6_ofItem rfl rfl rfl trivial (mz_ofItem hB a1 1 (by omega) (by omega)) rfl rfl (show Ez md_6_characters 0 0 14 [(0, zr 113), (1, zi a1)] [zi (mm_ofItem μ a1 1)] zSh μ _ _ _ from ?_)
    have r6 : -5 ≤ (mm_ofItem μ a1 1) ∧ (mm_ofItem μ a1 1) ≤ 26 ∧ ((1 : Int) = 0 → 0 ≤ (mm_ofItem μ a1 1) ∧ (mm_ofItem μ a1 1) ≤ 1) ∧ ((1 : Int) = 1 → 0 ≤ (mm_ofItem μ a1 1) ∧ (mm_ofItem μ a1 1) ≤ 10) ∧ ((1 : Int) = 2 → 0 ≤ (mm_ofItem μ a1 1) ∧ (mm_ofItem μ a1 1) ≤ 9) ∧ ((1 : Int) = 3 → (mm_ofItem μ a1 1) = -5 ∨ (0 ≤ (mm_ofItem μ a1 1) ∧ (mm_ofItem μ a1 1) ≤ 23)) ∧ (3 < (1 : Int) → 0 ≤ (mm_ofItem μ a1 1)) := mr_ofItem hB a1 1 (by omega) (by omega)
    refine Az.blk kd_6_characters_14 (show Ez md_6_characters 0 0 37 [(0, zr 113), (1, zi a1)] [zi (mm_ofItem μ a1 1)] zSh μ _ _ _ from ?_)
    exact Ez.iret kr_6_characters_37 rfl (Nat.zero_le _) (Nat.zero_le _) rfl rfl
def kb_6_character_0 : List zI := [(.aload_n 0, 1, 0, 0), (.iload_n 1, 1, 0, 0)]
theorem kd_6_character_0 : zdec md_6_character 0 kb_6_character_0 = true := by decide +kernel
theorem kr_6_character_2 : decode md_6_character.2.1 2 = .ok (.invokevirtual 51, 3) := by decide +kernel
def kb_6_character_5 : List zI := [(.ifCond .ne 15, 3, 20, 0)]
theorem kd_6_character_5 : zdec md_6_character 5 kb_6_character_5 = true := by decide +kernel
def kb_6_character_20 : List zI := [(.aload_n 0, 1, 0, 0), (.iload_n 1, 1, 0, 0), (.iconst 3, 1, 0, 0)]
theorem kd_6_character_20 : zdec md_6_character 20 kb_6_character_20 = true := by decide +kernel
theorem kr_6_character_23 : decode md_6_character.2.1 23 = .ok (.invokevirtual 48, 3) := by decide +kernel
def kb_6_character_26 : List zI := [(.istore_n 3, 1, 0, 0), (.iload_n 3, 1, 0, 0), (.bipush (-5), 2, 0, 0), (.if_icmp .ne 8, 3, 38, 0)]
theorem kd_6_character_26 : zdec md_6_character 26 kb_6_character_26 = true := by decide +kernel
def kb_6_character_38 : List zI := [(.bipush 96, 2, 0, 0), (.aload_n 0, 1, 0, 0), (.iload_n 3, 1, 0, 0), (.aload_n 0, 1, 0, 0), (.iload_n 1, 1, 0, 0)]
theorem kd_6_character_38 : zdec md_6_character 38 kb_6_character_38 = true := by decide +kernel
theorem kr_6_character_44 : decode md_6_character.2.1 44 = .ok (.invokevirtual 154, 3) := by decide +kernel
def kb_6_character_47 : List zI := [(.iload_n 2, 1, 0, 0)]
theorem kd_6_character_47 : zdec md_6_character 47 kb_6_character_47 = true := by decide +kernel
theorem kr_6_character_48 : decode md_6_character.2.1 48 = .ok (.invokevirtual 151, 3) := by decide +kernel
def kb_6_character_51 : List zI := [(.iadd, 1, 0, 0)]
theorem kd_6_character_51 : zdec md_6_character 51 kb_6_character_51 = true := by decide +kernel
theorem kr_6_character_52 : decode md_6_character.2.1 52 = .ok (.ireturn, 1) := by decide +kernel
def kb_6_character_33 : List zI := [(.bipush 95, 2, 0, 0), (.goto 17, 3, 52, 0)]
theorem kd_6_character_33 : zdec md_6_character 33 kb_6_character_33 = true := by decide +kernel
def kb_6_character_8 : List zI := [(.bipush 96, 2, 0, 0), (.aload_n 0, 1, 0, 0), (.iload_n 1, 1, 0, 0), (.iconst 4, 1, 0, 0), (.iload_n 2, 1, 0, 0), (.iadd, 1, 0, 0)]
theorem kd_6_character_8 : zdec md_6_character 8 kb_6_character_8 = true := by decide +kernel
theorem kr_6_character_15 : decode md_6_character.2.1 15 = .ok (.invokevirtual 48, 3) := by decide +kernel
def kb_6_character_18 : List zI := [(.iadd, 1, 0, 0)]
theorem kd_6_character_18 : zdec md_6_character 18 kb_6_character_18 = true := by decide +kernel
theorem kr_6_character_19 : decode md_6_character.2.1 19 = .ok (.ireturn, 1) := by decide +kernel
noncomputable def mm_character (μ : zM) (a1 a2 : Int) : Int := (if (mm_isHoleAt μ a1) = 0 then (96 + (mm_ofItem μ a1 (4 + a2))) else (if (mm_ofItem μ a1 3) = (-5) then 95 else (96 + (mm_letterOf μ (mm_ofItem μ a1 3) (mm_formAt μ a1) a2))))
set_option maxHeartbeats 4000000 in
set_option maxRecDepth 100000 in
theorem mz_character {μ : zM} (hB : zB μ) (a1 a2 : Int) (h0 : 0 ≤ a1 ∧ a1 ≤ 19) (h1 : 0 ≤ a2 ∧ a2 ≤ 9) : Dz md_6_character [zr 113, zi a1, zi a2] zSh μ (some (zi (mm_character μ a1 a2))) zSh μ := by
  refine Dz.of (by decide) rfl rfl (show Ez md_6_character 0 0 0 [(0, zr 113), (1, zi a1), (2, zi a2)] [] zSh μ (some (zi (mm_character μ a1 a2))) zSh μ from ?_)
  unfold mm_character
  refine Az.blk kd_6_character_0 (show Ez md_6_character 0 0 2 [(0, zr 113), (1, zi a1), (2, zi a2)] [zi a1, zr 113] zSh μ _ _ _ from ?_)
  refine Az.cV (mc := md_6_isHoleAt) (k := 113) (n := 1) (As := [zi a1]) (rest := []) kr_6_character_2 zw_678 ok_6_isHoleAt rfl rfl rfl trivial (mz_isHoleAt hB a1 (by omega)) rfl rfl (show Ez md_6_character 0 0 5 [(0, zr 113), (1, zi a1), (2, zi a2)] [zi (mm_isHoleAt μ a1)] zSh μ _ _ _ from ?_)
  have r1 : 0 ≤ (mm_isHoleAt μ a1) ∧ (mm_isHoleAt μ a1) ≤ 1 := mr_isHoleAt hB a1 (by omega)
  refine Az.blk kd_6_character_5 (show zR (mm_isHoleAt μ a1) ∧ ((¬ (mm_isHoleAt μ a1) = 0 → Ez md_6_character 0 0 20 [(0, zr 113), (1, zi a1), (2, zi a2)] [] zSh μ _ _ _) ∧ ((mm_isHoleAt μ a1) = 0 → Ez md_6_character 0 0 8 [(0, zr 113), (1, zi a1), (2, zi a2)] [] zSh μ _ _ _)) from ⟨(by omega), fun c2 => ?_, fun c2 => ?_⟩)
  · rw [if_neg c2]
    refine Az.blk kd_6_character_20 (show Ez md_6_character 0 0 23 [(0, zr 113), (1, zi a1), (2, zi a2)] [zi 3, zi a1, zr 113] zSh μ _ _ _ from ?_)
    refine Az.cV (mc := md_6_ofItem) (k := 113) (n := 2) (As := [zi a1, zi 3]) (rest := []) kr_6_character_23 zw_682 ok_6_ofItem rfl rfl rfl trivial (mz_ofItem hB a1 3 (by omega) (by omega)) rfl rfl (show Ez md_6_character 0 0 26 [(0, zr 113), (1, zi a1), (2, zi a2)] [zi (mm_ofItem μ a1 3)] zSh μ _ _ _ from ?_)
    have r3 : -5 ≤ (mm_ofItem μ a1 3) ∧ (mm_ofItem μ a1 3) ≤ 26 ∧ ((3 : Int) = 0 → 0 ≤ (mm_ofItem μ a1 3) ∧ (mm_ofItem μ a1 3) ≤ 1) ∧ ((3 : Int) = 1 → 0 ≤ (mm_ofItem μ a1 3) ∧ (mm_ofItem μ a1 3) ≤ 10) ∧ ((3 : Int) = 2 → 0 ≤ (mm_ofItem μ a1 3) ∧ (mm_ofItem μ a1 3) ≤ 9) ∧ ((3 : Int) = 3 → (mm_ofItem μ a1 3) = -5 ∨ (0 ≤ (mm_ofItem μ a1 3) ∧ (mm_ofItem μ a1 3) ≤ 23)) ∧ (3 < (3 : Int) → 0 ≤ (mm_ofItem μ a1 3)) := mr_ofItem hB a1 3 (by omega) (by omega)
    refine Az.blk kd_6_character_26 (show zR (mm_ofItem μ a1 3) ∧ zR (-5) ∧ ((¬ (mm_ofItem μ a1 3) = (-5) → Ez md_6_character 0 0 38 [(3, zi (mm_ofItem μ a1 3)), (0, zr 113), (1, zi a1), (2, zi a2)] [] zSh μ _ _ _) ∧ ((mm_ofItem μ a1 3) = (-5) → Ez md_6_character 0 0 33 [(3, zi (mm_ofItem μ a1 3)), (0, zr 113), (1, zi a1), (2, zi a2)] [] zSh μ _ _ _)) from ⟨(by omega), (by omega), fun c4 => ?_, fun c4 => ?_⟩)
    · rw [if_neg c4]
      refine Az.blk kd_6_character_38 (show Ez md_6_character 0 0 44 [(3, zi (mm_ofItem μ a1 3)), (0, zr 113), (1, zi a1), (2, zi a2)] [zi a1, zr 113, zi (mm_ofItem μ a1 3), zr 113, zi 96] zSh μ _ _ _ from ?_)
      refine Az.cV (mc := md_6_formAt) (k := 113) (n := 1) (As := [zi a1]) (rest := [zi (mm_ofItem μ a1 3), zr 113, zi 96]) kr_6_character_44 zw_802 ok_6_formAt rfl rfl rfl trivial (mz_formAt hB a1 (by omega)) rfl rfl (show Ez md_6_character 0 0 47 [(3, zi (mm_ofItem μ a1 3)), (0, zr 113), (1, zi a1), (2, zi a2)] [zi (mm_formAt μ a1), zi (mm_ofItem μ a1 3), zr 113, zi 96] zSh μ _ _ _ from ?_)
      have r5 : 0 ≤ (mm_formAt μ a1) ∧ (mm_formAt μ a1) ≤ 5 := mr_formAt hB a1 (by omega)
      refine Az.blk kd_6_character_47 (show Ez md_6_character 0 0 48 [(3, zi (mm_ofItem μ a1 3)), (0, zr 113), (1, zi a1), (2, zi a2)] [zi a2, zi (mm_formAt μ a1), zi (mm_ofItem μ a1 3), zr 113, zi 96] zSh μ _ _ _ from ?_)
      refine Az.cV (mc := md_6_letterOf) (k := 113) (n := 3) (As := [zi (mm_ofItem μ a1 3), zi (mm_formAt μ a1), zi a2]) (rest := [zi 96]) kr_6_character_48 zw_794 ok_6_letterOf rfl rfl rfl trivial (mz_letterOf hB (mm_ofItem μ a1 3) (mm_formAt μ a1) a2 (by omega) (by omega) (by omega)) rfl rfl (show Ez md_6_character 0 0 51 [(3, zi (mm_ofItem μ a1 3)), (0, zr 113), (1, zi a1), (2, zi a2)] [zi (mm_letterOf μ (mm_ofItem μ a1 3) (mm_formAt μ a1) a2), zi 96] zSh μ _ _ _ from ?_)
      refine Az.blk kd_6_character_51 (show Ez md_6_character 0 0 52 [(3, zi (mm_ofItem μ a1 3)), (0, zr 113), (1, zi a1), (2, zi a2)] [zi (96 + (mm_letterOf μ (mm_ofItem μ a1 3) (mm_formAt μ a1) a2))] zSh μ _ _ _ from ?_)
      exact Ez.iret kr_6_character_52 rfl (Nat.zero_le _) (Nat.zero_le _) rfl rfl
    · rw [if_pos c4]
      refine Az.blk kd_6_character_33 (show Ez md_6_character 0 0 52 [(3, zi (mm_ofItem μ a1 3)), (0, zr 113), (1, zi a1), (2, zi a2)] [zi 95] zSh μ _ _ _ from ?_)
      exact Ez.iret kr_6_character_52 rfl (Nat.zero_le _) (Nat.zero_le _) rfl rfl
  · rw [if_pos c2]
    refine Az.blk kd_6_character_8 (show Ez md_6_character 0 0 15 [(0, zr 113), (1, zi a1), (2, zi a2)] [zi (4 + a2), zi a1, zr 113, zi 96] zSh μ _ _ _ from ?_)
    refine Az.cV (mc := md_6_ofItem) (k := 113) (n := 2) (As := [zi a1, zi (4 + a2)]) (rest := [zi 96]) kr_6_character_15 zw_682 ok_6_ofItem rfl rfl rfl trivial (mz_ofItem hB a1 (4 + a2) (by omega) (by omega)) rfl rfl (show Ez md_6_character 0 0 18 [(0, zr 113), (1, zi a1), (2, zi a2)] [zi (mm_ofItem μ a1 (4 + a2)), zi 96] zSh μ _ _ _ from ?_)
    have r6 : -5 ≤ (mm_ofItem μ a1 (4 + a2)) ∧ (mm_ofItem μ a1 (4 + a2)) ≤ 26 ∧ ((4 + a2) = 0 → 0 ≤ (mm_ofItem μ a1 (4 + a2)) ∧ (mm_ofItem μ a1 (4 + a2)) ≤ 1) ∧ ((4 + a2) = 1 → 0 ≤ (mm_ofItem μ a1 (4 + a2)) ∧ (mm_ofItem μ a1 (4 + a2)) ≤ 10) ∧ ((4 + a2) = 2 → 0 ≤ (mm_ofItem μ a1 (4 + a2)) ∧ (mm_ofItem μ a1 (4 + a2)) ≤ 9) ∧ ((4 + a2) = 3 → (mm_ofItem μ a1 (4 + a2)) = -5 ∨ (0 ≤ (mm_ofItem μ a1 (4 + a2)) ∧ (mm_ofItem μ a1 (4 + a2)) ≤ 23)) ∧ (3 < (4 + a2) → 0 ≤ (mm_ofItem μ a1 (4 + a2))) := mr_ofItem hB a1 (4 + a2) (by omega) (by omega)
    refine Az.blk kd_6_character_18 (show Ez md_6_character 0 0 19 [(0, zr 113), (1, zi a1), (2, zi a2)] [zi (96 + (mm_ofItem μ a1 (4 + a2)))] zSh μ _ _ _ from ?_)
    exact Ez.iret kr_6_character_19 rfl (Nat.zero_le _) (Nat.zero_le _) rfl rfl
def kb_6_told_0 : List zI := [(.iload_n 1, 1, 0, 0), (.ifCond .ge 6, 3, 7, 0)]
theorem kd_6_told_0 : zdec md_6_told 0 kb_6_told_0 = true := by decide +kernel
def kb_6_told_7 : List zI := [(.iload_n 1, 1, 0, 0), (.istore_n 2, 1, 0, 0), (.iconst 0, 1, 0, 0), (.istore_n 3, 1, 0, 0)]
theorem kd_6_told_7 : zdec md_6_told 7 kb_6_told_7 = true := by decide +kernel
def kb_6_told_4 : List zI := [(.bipush (-2), 2, 0, 0)]
theorem kd_6_told_4 : zdec md_6_told 4 kb_6_told_4 = true := by decide +kernel
theorem kr_6_told_6 : decode md_6_told.2.1 6 = .ok (.ireturn, 1) := by decide +kernel
def kb_6_told_11 : List zI := [(.iload_n 3, 1, 0, 0), (.aload_n 0, 1, 0, 0), (.getfield 7, 3, 6, 0), (.iconst 3, 1, 0, 0), (.iaload, 1, 0, 0), (.if_icmp .ge 56, 3, 74, 0)]
theorem kd_6_told_11 : zdec md_6_told 11 kb_6_told_11 = true := by decide +kernel
def kb_6_told_74 : List zI := [(.bipush (-5), 2, 0, 0)]
theorem kd_6_told_74 : zdec md_6_told 74 kb_6_told_74 = true := by decide +kernel
theorem kr_6_told_76 : decode md_6_told.2.1 76 = .ok (.ireturn, 1) := by decide +kernel
def kb_6_told_21 : List zI := [(.aload_n 0, 1, 0, 0), (.iload_n 3, 1, 0, 0)]
theorem kd_6_told_21 : zdec md_6_told 21 kb_6_told_21 = true := by decide +kernel
theorem kr_6_told_23 : decode md_6_told.2.1 23 = .ok (.invokevirtual 160, 3) := by decide +kernel
def kb_6_told_26 : List zI := [(.istore 4, 2, 0, 0), (.iload_n 2, 1, 0, 0), (.iload 4, 2, 0, 0), (.if_icmp .ge 10, 3, 41, 0)]
theorem kd_6_told_26 : zdec md_6_told 26 kb_6_told_26 = true := by decide +kernel
def kb_6_told_41 : List zI := [(.iload_n 2, 1, 0, 0), (.iload 4, 2, 0, 0), (.isub, 1, 0, 0), (.istore_n 2, 1, 0, 0), (.iload_n 2, 1, 0, 0), (.ifCond .ne 18, 3, 65, 0)]
theorem kd_6_told_41 : zdec md_6_told 41 kb_6_told_41 = true := by decide +kernel
def kb_6_told_65 : List zI := [(.iinc 2 (-1), 3, 0, 0), (.iinc 3 1, 3, 0, 0), (.goto (-60), 3, 11, 0)]
theorem kd_6_told_65 : zdec md_6_told 65 kb_6_told_65 = true := by decide +kernel
def kb_6_told_50 : List zI := [(.iload_n 3, 1, 0, 0), (.aload_n 0, 1, 0, 0), (.getfield 7, 3, 6, 0), (.iconst 3, 1, 0, 0), (.iaload, 1, 0, 0), (.iconst 1, 1, 0, 0), (.isub, 1, 0, 0), (.if_icmp .ge 6, 3, 65, 0)]
theorem kd_6_told_50 : zdec md_6_told 50 kb_6_told_50 = true := by decide +kernel
def kb_6_told_62 : List zI := [(.bipush 32, 2, 0, 0)]
theorem kd_6_told_62 : zdec md_6_told 62 kb_6_told_62 = true := by decide +kernel
theorem kr_6_told_64 : decode md_6_told.2.1 64 = .ok (.ireturn, 1) := by decide +kernel
def kb_6_told_34 : List zI := [(.aload_n 0, 1, 0, 0), (.iload_n 3, 1, 0, 0), (.iload_n 2, 1, 0, 0)]
theorem kd_6_told_34 : zdec md_6_told 34 kb_6_told_34 = true := by decide +kernel
theorem kr_6_told_37 : decode md_6_told.2.1 37 = .ok (.invokevirtual 163, 3) := by decide +kernel
theorem kr_6_told_40 : decode md_6_told.2.1 40 = .ok (.ireturn, 1) := by decide +kernel
noncomputable def mm_told_11 : Nat → zM → Int → Int → Int
  | 0, μ, _, _ => 0
  | f + 1, μ, l2, l3 => (if l3 < (μ 114 3) then (if l2 < (mm_characters μ l3) then (mm_character μ l3 l2) else (if (l2 - (mm_characters μ l3)) = 0 then (if l3 < ((μ 114 3) - 1) then 32 else (mm_told_11 f μ ((l2 - (mm_characters μ l3)) + (-1)) (l3 + 1))) else (mm_told_11 f μ ((l2 - (mm_characters μ l3)) + (-1)) (l3 + 1)))) else (-5))
noncomputable def mm_told (μ : zM) (a1 : Int) : Int := (if a1 < 0 then (-2) else (mm_told_11 zN μ a1 0))
set_option maxHeartbeats 4000000 in
set_option maxRecDepth 100000 in
theorem mz_told_11 (f : Nat) (μ : zM) (hB : zB μ) (l2 : Int) (l3 : Int) (i0 : 0 ≤ l3 ∧ l3 ≤ (μ 114 3)) (i1 : (l2 = -1 ∧ l3 = (μ 114 3)) ∨ 0 ≤ l2) (i2 : l2 ≤ 2147483647) (hf : (μ 114 3) - l3 < (f : Int)) : Ez md_6_told 0 0 11 [(0, zr 113), (2, zi l2), (3, zi l3)] [] zSh μ (some (zi (mm_told_11 f μ l2 l3))) zSh μ := by
  induction f generalizing μ l2 l3 with
  | zero => exfalso; omega
  | succ f ih =>
    replace hf : (μ 114 3) - l3 < (f : Int) + 1 := by omega
    rw [mm_told_11]
    have b3 : 0 ≤ (μ 114 3) ∧ (μ 114 3) ≤ 20 := hB 114 3
    refine Az.blk kd_6_told_11 (show (0 ≤ 3 ∧ 3 < 604) ∧ zR l3 ∧ zR (μ 114 3) ∧ ((¬ l3 < (μ 114 3) → Ez md_6_told 0 0 74 [(0, zr 113), (2, zi l2), (3, zi l3)] [] zSh μ _ _ _) ∧ (l3 < (μ 114 3) → Ez md_6_told 0 0 21 [(0, zr 113), (2, zi l2), (3, zi l3)] [] zSh μ _ _ _)) from ⟨(by omega), (by omega), (by omega), fun c4 => ?_, fun c4 => ?_⟩)
    · rw [if_neg c4]
      refine Az.blk kd_6_told_74 (show Ez md_6_told 0 0 76 [(0, zr 113), (2, zi l2), (3, zi l3)] [zi (-5)] zSh μ _ _ _ from ?_)
      exact Ez.iret kr_6_told_76 rfl (Nat.zero_le _) (Nat.zero_le _) rfl rfl
    · rw [if_pos c4]
      refine Az.blk kd_6_told_21 (show Ez md_6_told 0 0 23 [(0, zr 113), (2, zi l2), (3, zi l3)] [zi l3, zr 113] zSh μ _ _ _ from ?_)
      refine Az.cV (mc := md_6_characters) (k := 113) (n := 1) (As := [zi l3]) (rest := []) kr_6_told_23 zw_826 ok_6_characters rfl rfl rfl trivial (mz_characters hB l3 (by omega)) rfl rfl (show Ez md_6_told 0 0 26 [(0, zr 113), (2, zi l2), (3, zi l3)] [zi (mm_characters μ l3)] zSh μ _ _ _ from ?_)
      have r5 : 0 ≤ (mm_characters μ l3) ∧ (mm_characters μ l3) ≤ 10 := mr_characters hB l3 (by omega)
      refine Az.blk kd_6_told_26 (show zR l2 ∧ zR (mm_characters μ l3) ∧ ((¬ l2 < (mm_characters μ l3) → Ez md_6_told 0 0 41 [(4, zi (mm_characters μ l3)), (0, zr 113), (2, zi l2), (3, zi l3)] [] zSh μ _ _ _) ∧ (l2 < (mm_characters μ l3) → Ez md_6_told 0 0 34 [(4, zi (mm_characters μ l3)), (0, zr 113), (2, zi l2), (3, zi l3)] [] zSh μ _ _ _)) from ⟨(by omega), (by omega), fun c6 => ?_, fun c6 => ?_⟩)
      · rw [if_neg c6]
        refine Az.blk kd_6_told_41 (show zR (l2 - (mm_characters μ l3)) ∧ ((¬ (l2 - (mm_characters μ l3)) = 0 → Ez md_6_told 0 0 65 [(2, zi (l2 - (mm_characters μ l3))), (4, zi (mm_characters μ l3)), (0, zr 113), (3, zi l3)] [] zSh μ _ _ _) ∧ ((l2 - (mm_characters μ l3)) = 0 → Ez md_6_told 0 0 50 [(2, zi (l2 - (mm_characters μ l3))), (4, zi (mm_characters μ l3)), (0, zr 113), (3, zi l3)] [] zSh μ _ _ _)) from ⟨(by omega), fun c7 => ?_, fun c7 => ?_⟩)
        · rw [if_neg c7]
          refine Az.blk kd_6_told_65 (show Ez md_6_told 0 0 11 [(3, zi (l3 + 1)), (2, zi ((l2 - (mm_characters μ l3)) + (-1))), (4, zi (mm_characters μ l3)), (0, zr 113)] [] zSh μ _ _ _ from ?_)
          have b8 : 0 ≤ (μ 114 3) ∧ (μ 114 3) ≤ 20 := hB 114 3
          refine Az.lvs (lv' := [(0, zr 113), (2, zi ((l2 - (mm_characters μ l3)) + (-1))), (3, zi (l3 + 1))]) ?_ ?_
          · intro q hq; simp only [List.mem_cons, List.not_mem_nil, or_false] at hq; rcases hq with rfl | rfl | rfl <;> rfl
          exact ih μ hB ((l2 - (mm_characters μ l3)) + (-1)) (l3 + 1) (by omega) (by omega) (by omega) (by omega)
        · rw [if_pos c7]
          have b9 : 0 ≤ (μ 114 3) ∧ (μ 114 3) ≤ 20 := hB 114 3
          refine Az.blk kd_6_told_50 (show (0 ≤ 3 ∧ 3 < 604) ∧ zR l3 ∧ zR ((μ 114 3) - 1) ∧ ((¬ l3 < ((μ 114 3) - 1) → Ez md_6_told 0 0 65 [(2, zi (l2 - (mm_characters μ l3))), (4, zi (mm_characters μ l3)), (0, zr 113), (3, zi l3)] [] zSh μ _ _ _) ∧ (l3 < ((μ 114 3) - 1) → Ez md_6_told 0 0 62 [(2, zi (l2 - (mm_characters μ l3))), (4, zi (mm_characters μ l3)), (0, zr 113), (3, zi l3)] [] zSh μ _ _ _)) from ⟨(by omega), (by omega), (by omega), fun c10 => ?_, fun c10 => ?_⟩)
          · rw [if_neg c10]
            refine Az.blk kd_6_told_65 (show Ez md_6_told 0 0 11 [(3, zi (l3 + 1)), (2, zi ((l2 - (mm_characters μ l3)) + (-1))), (4, zi (mm_characters μ l3)), (0, zr 113)] [] zSh μ _ _ _ from ?_)
            have b11 : 0 ≤ (μ 114 3) ∧ (μ 114 3) ≤ 20 := hB 114 3
            refine Az.lvs (lv' := [(0, zr 113), (2, zi ((l2 - (mm_characters μ l3)) + (-1))), (3, zi (l3 + 1))]) ?_ ?_
            · intro q hq; simp only [List.mem_cons, List.not_mem_nil, or_false] at hq; rcases hq with rfl | rfl | rfl <;> rfl
            exact ih μ hB ((l2 - (mm_characters μ l3)) + (-1)) (l3 + 1) (by omega) (by omega) (by omega) (by omega)
          · rw [if_pos c10]
            refine Az.blk kd_6_told_62 (show Ez md_6_told 0 0 64 [(2, zi (l2 - (mm_characters μ l3))), (4, zi (mm_characters μ l3)), (0, zr 113), (3, zi l3)] [zi 32] zSh μ _ _ _ from ?_)
            exact Ez.iret kr_6_told_64 rfl (Nat.zero_le _) (Nat.zero_le _) rfl rfl
      · rw [if_pos c6]
        refine Az.blk kd_6_told_34 (show Ez md_6_told 0 0 37 [(4, zi (mm_characters μ l3)), (0, zr 113), (2, zi l2), (3, zi l3)] [zi l2, zi l3, zr 113] zSh μ _ _ _ from ?_)
        refine Az.cV (mc := md_6_character) (k := 113) (n := 2) (As := [zi l3, zi l2]) (rest := []) kr_6_told_37 zw_830 ok_6_character rfl rfl rfl trivial (mz_character hB l3 l2 (by omega) (by omega)) rfl rfl (show Ez md_6_told 0 0 40 [(4, zi (mm_characters μ l3)), (0, zr 113), (2, zi l2), (3, zi l3)] [zi (mm_character μ l3 l2)] zSh μ _ _ _ from ?_)
        exact Ez.iret kr_6_told_40 rfl (Nat.zero_le _) (Nat.zero_le _) rfl rfl
set_option maxHeartbeats 4000000 in
set_option maxRecDepth 100000 in
theorem mz_told {μ : zM} (hB : zB μ) (a1 : Int) (h0 : -2147483648 ≤ a1 ∧ a1 ≤ 2147483647) : Dz md_6_told [zr 113, zi a1] zSh μ (some (zi (mm_told μ a1))) zSh μ := by
  refine Dz.of (by decide) rfl rfl (show Ez md_6_told 0 0 0 [(0, zr 113), (1, zi a1)] [] zSh μ (some (zi (mm_told μ a1))) zSh μ from ?_)
  unfold mm_told
  refine Az.blk kd_6_told_0 (show zR a1 ∧ ((¬ a1 < 0 → Ez md_6_told 0 0 7 [(0, zr 113), (1, zi a1)] [] zSh μ _ _ _) ∧ (a1 < 0 → Ez md_6_told 0 0 4 [(0, zr 113), (1, zi a1)] [] zSh μ _ _ _)) from ⟨(by omega), fun c1 => ?_, fun c1 => ?_⟩)
  · rw [if_neg c1]
    refine Az.blk kd_6_told_7 (show Ez md_6_told 0 0 11 [(3, zi 0), (2, zi a1), (0, zr 113), (1, zi a1)] [] zSh μ _ _ _ from ?_)
    have b2 : 0 ≤ (μ 114 3) ∧ (μ 114 3) ≤ 20 := hB 114 3
    refine Az.lvs (lv' := [(0, zr 113), (2, zi a1), (3, zi 0)]) ?_ ?_
    · intro q hq; simp only [List.mem_cons, List.not_mem_nil, or_false] at hq; rcases hq with rfl | rfl | rfl <;> rfl
    have fb : (3000 : Int) ≤ ((zN : Nat) : Int) := zN_big
    exact mz_told_11 zN μ hB a1 0 (by omega) (by omega) (by omega) (by omega)
  · rw [if_pos c1]
    refine Az.blk kd_6_told_4 (show Ez md_6_told 0 0 6 [(0, zr 113), (1, zi a1)] [zi (-2)] zSh μ _ _ _ from ?_)
    exact Ez.iret kr_6_told_6 rfl (Nat.zero_le _) (Nat.zero_le _) rfl rfl
def kb_6_reason_0 : List zI := [(.aload_n 0, 1, 0, 0), (.iload_n 1, 1, 0, 0)]
theorem kd_6_reason_0 : zdec md_6_reason 0 kb_6_reason_0 = true := by decide +kernel
theorem kr_6_reason_2 : decode md_6_reason.2.1 2 = .ok (.invokevirtual 112, 3) := by decide +kernel
def kb_6_reason_5 : List zI := [(.ifCond .eq 24, 3, 29, 0)]
theorem kd_6_reason_5 : zdec md_6_reason 5 kb_6_reason_5 = true := by decide +kernel
def kb_6_reason_29 : List zI := [(.iconst (-1), 1, 0, 0)]
theorem kd_6_reason_29 : zdec md_6_reason 29 kb_6_reason_29 = true := by decide +kernel
theorem kr_6_reason_30 : decode md_6_reason.2.1 30 = .ok (.ireturn, 1) := by decide +kernel
def kb_6_reason_8 : List zI := [(.aload_n 0, 1, 0, 0), (.iload_n 2, 1, 0, 0)]
theorem kd_6_reason_8 : zdec md_6_reason 8 kb_6_reason_8 = true := by decide +kernel
theorem kr_6_reason_10 : decode md_6_reason.2.1 10 = .ok (.invokevirtual 115, 3) := by decide +kernel
def kb_6_reason_13 : List zI := [(.ifCond .eq 16, 3, 29, 0)]
theorem kd_6_reason_13 : zdec md_6_reason 13 kb_6_reason_13 = true := by decide +kernel
def kb_6_reason_16 : List zI := [(.aload_n 0, 1, 0, 0), (.aload_n 0, 1, 0, 0), (.iload_n 1, 1, 0, 0)]
theorem kd_6_reason_16 : zdec md_6_reason 16 kb_6_reason_16 = true := by decide +kernel
theorem kr_6_reason_19 : decode md_6_reason.2.1 19 = .ok (.invokevirtual 55, 3) := by decide +kernel
def kb_6_reason_22 : List zI := [(.iload_n 2, 1, 0, 0)]
theorem kd_6_reason_22 : zdec md_6_reason 22 kb_6_reason_22 = true := by decide +kernel
theorem kr_6_reason_23 : decode md_6_reason.2.1 23 = .ok (.invokevirtual 118, 3) := by decide +kernel
def kb_6_reason_26 : List zI := [(.goto 4, 3, 30, 0)]
theorem kd_6_reason_26 : zdec md_6_reason 26 kb_6_reason_26 = true := by decide +kernel
noncomputable def mm_reason (μ : zM) (a1 a2 : Int) : Int := (if (mm_isHole μ a1) = 0 then (-1) else (if (mm_isWord μ a2) = 0 then (-1) else (mm_why μ (mm_itemOf μ a1) a2)))
set_option maxHeartbeats 4000000 in
set_option maxRecDepth 100000 in
theorem mz_reason {μ : zM} (hB : zB μ) (a1 a2 : Int) (h0 : -2147483648 ≤ a1 ∧ a1 ≤ 2147483647) (h1 : -2147483648 ≤ a2 ∧ a2 ≤ 2147483647) : Dz md_6_reason [zr 113, zi a1, zi a2] zSh μ (some (zi (mm_reason μ a1 a2))) zSh μ := by
  refine Dz.of (by decide) rfl rfl (show Ez md_6_reason 0 0 0 [(0, zr 113), (1, zi a1), (2, zi a2)] [] zSh μ (some (zi (mm_reason μ a1 a2))) zSh μ from ?_)
  unfold mm_reason
  refine Az.blk kd_6_reason_0 (show Ez md_6_reason 0 0 2 [(0, zr 113), (1, zi a1), (2, zi a2)] [zi a1, zr 113] zSh μ _ _ _ from ?_)
  refine Az.cV (mc := md_6_isHole) (k := 113) (n := 1) (As := [zi a1]) (rest := []) kr_6_reason_2 zw_706 ok_6_isHole rfl rfl rfl trivial (mz_isHole hB a1 (by omega)) rfl rfl (show Ez md_6_reason 0 0 5 [(0, zr 113), (1, zi a1), (2, zi a2)] [zi (mm_isHole μ a1)] zSh μ _ _ _ from ?_)
  have r1 : 0 ≤ (mm_isHole μ a1) ∧ (mm_isHole μ a1) ≤ 1 ∧ ((mm_isHole μ a1) = 1 → 0 ≤ a1 ∧ 0 ≤ (mm_itemOf μ a1)) := mr_isHole hB a1 (by omega)
  refine Az.blk kd_6_reason_5 (show zR (mm_isHole μ a1) ∧ (((mm_isHole μ a1) = 0 → Ez md_6_reason 0 0 29 [(0, zr 113), (1, zi a1), (2, zi a2)] [] zSh μ _ _ _) ∧ (¬ (mm_isHole μ a1) = 0 → Ez md_6_reason 0 0 8 [(0, zr 113), (1, zi a1), (2, zi a2)] [] zSh μ _ _ _)) from ⟨(by omega), fun c2 => ?_, fun c2 => ?_⟩)
  · rw [if_pos c2]
    refine Az.blk kd_6_reason_29 (show Ez md_6_reason 0 0 30 [(0, zr 113), (1, zi a1), (2, zi a2)] [zi (-1)] zSh μ _ _ _ from ?_)
    exact Ez.iret kr_6_reason_30 rfl (Nat.zero_le _) (Nat.zero_le _) rfl rfl
  · rw [if_neg c2]
    refine Az.blk kd_6_reason_8 (show Ez md_6_reason 0 0 10 [(0, zr 113), (1, zi a1), (2, zi a2)] [zi a2, zr 113] zSh μ _ _ _ from ?_)
    refine Az.cV (mc := md_6_isWord) (k := 113) (n := 1) (As := [zi a2]) (rest := []) kr_6_reason_10 zw_714 ok_6_isWord rfl rfl rfl trivial (mz_isWord hB a2 (by omega)) rfl rfl (show Ez md_6_reason 0 0 13 [(0, zr 113), (1, zi a1), (2, zi a2)] [zi (mm_isWord μ a2)] zSh μ _ _ _ from ?_)
    have r3 : 0 ≤ (mm_isWord μ a2) ∧ (mm_isWord μ a2) ≤ 1 ∧ ((mm_isWord μ a2) = 1 → 0 ≤ a2 ∧ a2 < μ 114 2 ∧ a2 ≤ 23) ∧ ((mm_isWord μ a2) = 0 → a2 < 0 ∨ μ 114 2 ≤ a2) := mr_isWord hB a2 (by omega)
    refine Az.blk kd_6_reason_13 (show zR (mm_isWord μ a2) ∧ (((mm_isWord μ a2) = 0 → Ez md_6_reason 0 0 29 [(0, zr 113), (1, zi a1), (2, zi a2)] [] zSh μ _ _ _) ∧ (¬ (mm_isWord μ a2) = 0 → Ez md_6_reason 0 0 16 [(0, zr 113), (1, zi a1), (2, zi a2)] [] zSh μ _ _ _)) from ⟨(by omega), fun c4 => ?_, fun c4 => ?_⟩)
    · rw [if_pos c4]
      refine Az.blk kd_6_reason_29 (show Ez md_6_reason 0 0 30 [(0, zr 113), (1, zi a1), (2, zi a2)] [zi (-1)] zSh μ _ _ _ from ?_)
      exact Ez.iret kr_6_reason_30 rfl (Nat.zero_le _) (Nat.zero_le _) rfl rfl
    · rw [if_neg c4]
      refine Az.blk kd_6_reason_16 (show Ez md_6_reason 0 0 19 [(0, zr 113), (1, zi a1), (2, zi a2)] [zi a1, zr 113, zr 113] zSh μ _ _ _ from ?_)
      refine Az.cV (mc := md_6_itemOf) (k := 113) (n := 1) (As := [zi a1]) (rest := [zr 113]) kr_6_reason_19 zw_710 ok_6_itemOf rfl rfl rfl trivial (mz_itemOf hB a1 (by omega)) rfl rfl (show Ez md_6_reason 0 0 22 [(0, zr 113), (1, zi a1), (2, zi a2)] [zi (mm_itemOf μ a1), zr 113] zSh μ _ _ _ from ?_)
      have r5 : ((mm_itemOf μ a1) = -5 ∨ (0 ≤ (mm_itemOf μ a1) ∧ (mm_itemOf μ a1) < μ 114 3)) ∧ (mm_itemOf μ a1) ≤ 19 := mr_itemOf hB a1 (by omega)
      refine Az.blk kd_6_reason_22 (show Ez md_6_reason 0 0 23 [(0, zr 113), (1, zi a1), (2, zi a2)] [zi a2, zi (mm_itemOf μ a1), zr 113] zSh μ _ _ _ from ?_)
      refine Az.cV (mc := md_6_why) (k := 113) (n := 2) (As := [zi (mm_itemOf μ a1), zi a2]) (rest := []) kr_6_reason_23 zw_718 ok_6_why rfl rfl rfl trivial (mz_why hB (mm_itemOf μ a1) a2 (by omega) (by omega)) rfl rfl (show Ez md_6_reason 0 0 26 [(0, zr 113), (1, zi a1), (2, zi a2)] [zi (mm_why μ (mm_itemOf μ a1) a2)] zSh μ _ _ _ from ?_)
      have r6 : 0 ≤ (mm_why μ (mm_itemOf μ a1) a2) ∧ (mm_why μ (mm_itemOf μ a1) a2) ≤ 3 := mr_why hB (mm_itemOf μ a1) a2 (by omega) (by omega)
      refine Az.blk kd_6_reason_26 (show Ez md_6_reason 0 0 30 [(0, zr 113), (1, zi a1), (2, zi a2)] [zi (mm_why μ (mm_itemOf μ a1) a2)] zSh μ _ _ _ from ?_)
      exact Ez.iret kr_6_reason_30 rfl (Nat.zero_le _) (Nat.zero_le _) rfl rfl
def kb_6_fits_0 : List zI := [(.aload_n 0, 1, 0, 0), (.iload_n 1, 1, 0, 0)]
theorem kd_6_fits_0 : zdec md_6_fits 0 kb_6_fits_0 = true := by decide +kernel
theorem kr_6_fits_2 : decode md_6_fits.2.1 2 = .ok (.invokevirtual 112, 3) := by decide +kernel
def kb_6_fits_5 : List zI := [(.ifCond .ne 5, 3, 10, 0)]
theorem kd_6_fits_5 : zdec md_6_fits 5 kb_6_fits_5 = true := by decide +kernel
def kb_6_fits_10 : List zI := [(.iconst 0, 1, 0, 0), (.istore_n 2, 1, 0, 0), (.iconst 0, 1, 0, 0), (.istore_n 3, 1, 0, 0)]
theorem kd_6_fits_10 : zdec md_6_fits 10 kb_6_fits_10 = true := by decide +kernel
def kb_6_fits_8 : List zI := [(.iconst (-1), 1, 0, 0)]
theorem kd_6_fits_8 : zdec md_6_fits 8 kb_6_fits_8 = true := by decide +kernel
theorem kr_6_fits_9 : decode md_6_fits.2.1 9 = .ok (.ireturn, 1) := by decide +kernel
def kb_6_fits_14 : List zI := [(.iload_n 3, 1, 0, 0), (.aload_n 0, 1, 0, 0), (.getfield 7, 3, 6, 0), (.iconst 2, 1, 0, 0), (.iaload, 1, 0, 0), (.if_icmp .ge 32, 3, 53, 0)]
theorem kd_6_fits_14 : zdec md_6_fits 14 kb_6_fits_14 = true := by decide +kernel
def kb_6_fits_53 : List zI := [(.iload_n 2, 1, 0, 0)]
theorem kd_6_fits_53 : zdec md_6_fits 53 kb_6_fits_53 = true := by decide +kernel
theorem kr_6_fits_54 : decode md_6_fits.2.1 54 = .ok (.ireturn, 1) := by decide +kernel
def kb_6_fits_24 : List zI := [(.iload_n 2, 1, 0, 0), (.aload_n 0, 1, 0, 0), (.aload_n 0, 1, 0, 0), (.iload_n 1, 1, 0, 0)]
theorem kd_6_fits_24 : zdec md_6_fits 24 kb_6_fits_24 = true := by decide +kernel
theorem kr_6_fits_28 : decode md_6_fits.2.1 28 = .ok (.invokevirtual 55, 3) := by decide +kernel
def kb_6_fits_31 : List zI := [(.iload_n 3, 1, 0, 0)]
theorem kd_6_fits_31 : zdec md_6_fits 31 kb_6_fits_31 = true := by decide +kernel
theorem kr_6_fits_32 : decode md_6_fits.2.1 32 = .ok (.invokevirtual 118, 3) := by decide +kernel
def kb_6_fits_35 : List zI := [(.ifCond .ne 9, 3, 44, 0)]
theorem kd_6_fits_35 : zdec md_6_fits 35 kb_6_fits_35 = true := by decide +kernel
def kb_6_fits_44 : List zI := [(.iconst 0, 1, 0, 0), (.ior, 1, 0, 0), (.istore_n 2, 1, 0, 0), (.iinc 3 1, 3, 0, 0), (.goto (-36), 3, 14, 0)]
theorem kd_6_fits_44 : zdec md_6_fits 44 kb_6_fits_44 = true := by decide +kernel
def kb_6_fits_38 : List zI := [(.iconst 1, 1, 0, 0), (.iload_n 3, 1, 0, 0), (.ishl, 1, 0, 0), (.goto 4, 3, 45, 0)]
theorem kd_6_fits_38 : zdec md_6_fits 38 kb_6_fits_38 = true := by decide +kernel
def kb_6_fits_45 : List zI := [(.ior, 1, 0, 0), (.istore_n 2, 1, 0, 0), (.iinc 3 1, 3, 0, 0), (.goto (-36), 3, 14, 0)]
theorem kd_6_fits_45 : zdec md_6_fits 45 kb_6_fits_45 = true := by decide +kernel
noncomputable def mm_fits_14 : Nat → zM → Int → Int → Int → Int
  | 0, μ, _, _, _ => 0
  | f + 1, μ, l1, l2, l3 => (if l3 < (μ 114 2) then (if (mm_why μ (mm_itemOf μ l1) l3) = 0 then (mm_fits_14 f μ l1 (zor l2 (zshl 1 l3)) (l3 + 1)) else (mm_fits_14 f μ l1 (zor l2 0) (l3 + 1))) else l2)
noncomputable def mm_fits (μ : zM) (a1 : Int) : Int := (if (mm_isHole μ a1) = 0 then (-1) else (mm_fits_14 zN μ a1 0 0))
set_option maxHeartbeats 4000000 in
set_option maxRecDepth 100000 in
theorem mz_fits_14 (f : Nat) (μ : zM) (hB : zB μ) (l1 : Int) (l2 : Int) (l3 : Int) (i0 : 0 ≤ l3 ∧ l3 ≤ (μ 114 2)) (i1 : 0 ≤ (mm_itemOf μ l1)) (i2 : -2147483648 ≤ l1 ∧ l1 ≤ 2147483647) (hf : (μ 114 2) - l3 < (f : Int)) : Ez md_6_fits 0 0 14 [(0, zr 113), (1, zi l1), (2, zi l2), (3, zi l3)] [] zSh μ (some (zi (mm_fits_14 f μ l1 l2 l3))) zSh μ := by
  induction f generalizing μ l1 l2 l3 with
  | zero => exfalso; omega
  | succ f ih =>
    replace hf : (μ 114 2) - l3 < (f : Int) + 1 := by omega
    rw [mm_fits_14]
    have b4 : 0 ≤ (μ 114 2) ∧ (μ 114 2) ≤ 24 := hB 114 2
    refine Az.blk kd_6_fits_14 (show (0 ≤ 2 ∧ 2 < 604) ∧ zR l3 ∧ zR (μ 114 2) ∧ ((¬ l3 < (μ 114 2) → Ez md_6_fits 0 0 53 [(0, zr 113), (1, zi l1), (2, zi l2), (3, zi l3)] [] zSh μ _ _ _) ∧ (l3 < (μ 114 2) → Ez md_6_fits 0 0 24 [(0, zr 113), (1, zi l1), (2, zi l2), (3, zi l3)] [] zSh μ _ _ _)) from ⟨(by omega), (by omega), (by omega), fun c5 => ?_, fun c5 => ?_⟩)
    · rw [if_neg c5]
      refine Az.blk kd_6_fits_53 (show Ez md_6_fits 0 0 54 [(0, zr 113), (1, zi l1), (2, zi l2), (3, zi l3)] [zi l2] zSh μ _ _ _ from ?_)
      exact Ez.iret kr_6_fits_54 rfl (Nat.zero_le _) (Nat.zero_le _) rfl rfl
    · rw [if_pos c5]
      refine Az.blk kd_6_fits_24 (show Ez md_6_fits 0 0 28 [(0, zr 113), (1, zi l1), (2, zi l2), (3, zi l3)] [zi l1, zr 113, zr 113, zi l2] zSh μ _ _ _ from ?_)
      refine Az.cV (mc := md_6_itemOf) (k := 113) (n := 1) (As := [zi l1]) (rest := [zr 113, zi l2]) kr_6_fits_28 zw_710 ok_6_itemOf rfl rfl rfl trivial (mz_itemOf hB l1 (by omega)) rfl rfl (show Ez md_6_fits 0 0 31 [(0, zr 113), (1, zi l1), (2, zi l2), (3, zi l3)] [zi (mm_itemOf μ l1), zr 113, zi l2] zSh μ _ _ _ from ?_)
      have r6 : ((mm_itemOf μ l1) = -5 ∨ (0 ≤ (mm_itemOf μ l1) ∧ (mm_itemOf μ l1) < μ 114 3)) ∧ (mm_itemOf μ l1) ≤ 19 := mr_itemOf hB l1 (by omega)
      refine Az.blk kd_6_fits_31 (show Ez md_6_fits 0 0 32 [(0, zr 113), (1, zi l1), (2, zi l2), (3, zi l3)] [zi l3, zi (mm_itemOf μ l1), zr 113, zi l2] zSh μ _ _ _ from ?_)
      refine Az.cV (mc := md_6_why) (k := 113) (n := 2) (As := [zi (mm_itemOf μ l1), zi l3]) (rest := [zi l2]) kr_6_fits_32 zw_718 ok_6_why rfl rfl rfl trivial (mz_why hB (mm_itemOf μ l1) l3 (by omega) (by omega)) rfl rfl (show Ez md_6_fits 0 0 35 [(0, zr 113), (1, zi l1), (2, zi l2), (3, zi l3)] [zi (mm_why μ (mm_itemOf μ l1) l3), zi l2] zSh μ _ _ _ from ?_)
      have r7 : 0 ≤ (mm_why μ (mm_itemOf μ l1) l3) ∧ (mm_why μ (mm_itemOf μ l1) l3) ≤ 3 := mr_why hB (mm_itemOf μ l1) l3 (by omega) (by omega)
      refine Az.blk kd_6_fits_35 (show zR (mm_why μ (mm_itemOf μ l1) l3) ∧ ((¬ (mm_why μ (mm_itemOf μ l1) l3) = 0 → Ez md_6_fits 0 0 44 [(0, zr 113), (1, zi l1), (2, zi l2), (3, zi l3)] [zi l2] zSh μ _ _ _) ∧ ((mm_why μ (mm_itemOf μ l1) l3) = 0 → Ez md_6_fits 0 0 38 [(0, zr 113), (1, zi l1), (2, zi l2), (3, zi l3)] [zi l2] zSh μ _ _ _)) from ⟨(by omega), fun c8 => ?_, fun c8 => ?_⟩)
      · rw [if_neg c8]
        refine Az.blk kd_6_fits_44 (show Ez md_6_fits 0 0 14 [(3, zi (l3 + 1)), (2, zi (zor l2 0)), (0, zr 113), (1, zi l1)] [] zSh μ _ _ _ from ?_)
        have b9 : 0 ≤ (μ 114 2) ∧ (μ 114 2) ≤ 24 := hB 114 2
        refine Az.lvs (lv' := [(0, zr 113), (1, zi l1), (2, zi (zor l2 0)), (3, zi (l3 + 1))]) ?_ ?_
        · intro q hq; simp only [List.mem_cons, List.not_mem_nil, or_false] at hq; rcases hq with rfl | rfl | rfl | rfl <;> rfl
        exact ih μ hB l1 (zor l2 0) (l3 + 1) (by omega) (by omega) (by omega) (by omega)
      · rw [if_pos c8]
        refine Az.blk kd_6_fits_38 (show Ez md_6_fits 0 0 45 [(0, zr 113), (1, zi l1), (2, zi l2), (3, zi l3)] [zi (zshl 1 l3), zi l2] zSh μ _ _ _ from ?_)
        refine Az.blk kd_6_fits_45 (show Ez md_6_fits 0 0 14 [(3, zi (l3 + 1)), (2, zi (zor l2 (zshl 1 l3))), (0, zr 113), (1, zi l1)] [] zSh μ _ _ _ from ?_)
        have b10 : 0 ≤ (μ 114 2) ∧ (μ 114 2) ≤ 24 := hB 114 2
        refine Az.lvs (lv' := [(0, zr 113), (1, zi l1), (2, zi (zor l2 (zshl 1 l3))), (3, zi (l3 + 1))]) ?_ ?_
        · intro q hq; simp only [List.mem_cons, List.not_mem_nil, or_false] at hq; rcases hq with rfl | rfl | rfl | rfl <;> rfl
        exact ih μ hB l1 (zor l2 (zshl 1 l3)) (l3 + 1) (by omega) (by omega) (by omega) (by omega)
set_option maxHeartbeats 4000000 in
set_option maxRecDepth 100000 in
theorem mz_fits {μ : zM} (hB : zB μ) (a1 : Int) (h0 : -2147483648 ≤ a1 ∧ a1 ≤ 2147483647) : Dz md_6_fits [zr 113, zi a1] zSh μ (some (zi (mm_fits μ a1))) zSh μ := by
  refine Dz.of (by decide) rfl rfl (show Ez md_6_fits 0 0 0 [(0, zr 113), (1, zi a1)] [] zSh μ (some (zi (mm_fits μ a1))) zSh μ from ?_)
  unfold mm_fits
  refine Az.blk kd_6_fits_0 (show Ez md_6_fits 0 0 2 [(0, zr 113), (1, zi a1)] [zi a1, zr 113] zSh μ _ _ _ from ?_)
  refine Az.cV (mc := md_6_isHole) (k := 113) (n := 1) (As := [zi a1]) (rest := []) kr_6_fits_2 zw_706 ok_6_isHole rfl rfl rfl trivial (mz_isHole hB a1 (by omega)) rfl rfl (show Ez md_6_fits 0 0 5 [(0, zr 113), (1, zi a1)] [zi (mm_isHole μ a1)] zSh μ _ _ _ from ?_)
  have r1 : 0 ≤ (mm_isHole μ a1) ∧ (mm_isHole μ a1) ≤ 1 ∧ ((mm_isHole μ a1) = 1 → 0 ≤ a1 ∧ 0 ≤ (mm_itemOf μ a1)) := mr_isHole hB a1 (by omega)
  refine Az.blk kd_6_fits_5 (show zR (mm_isHole μ a1) ∧ ((¬ (mm_isHole μ a1) = 0 → Ez md_6_fits 0 0 10 [(0, zr 113), (1, zi a1)] [] zSh μ _ _ _) ∧ ((mm_isHole μ a1) = 0 → Ez md_6_fits 0 0 8 [(0, zr 113), (1, zi a1)] [] zSh μ _ _ _)) from ⟨(by omega), fun c2 => ?_, fun c2 => ?_⟩)
  · rw [if_neg c2]
    refine Az.blk kd_6_fits_10 (show Ez md_6_fits 0 0 14 [(3, zi 0), (2, zi 0), (0, zr 113), (1, zi a1)] [] zSh μ _ _ _ from ?_)
    have b3 : 0 ≤ (μ 114 2) ∧ (μ 114 2) ≤ 24 := hB 114 2
    refine Az.lvs (lv' := [(0, zr 113), (1, zi a1), (2, zi 0), (3, zi 0)]) ?_ ?_
    · intro q hq; simp only [List.mem_cons, List.not_mem_nil, or_false] at hq; rcases hq with rfl | rfl | rfl | rfl <;> rfl
    have fb : (3000 : Int) ≤ ((zN : Nat) : Int) := zN_big
    exact mz_fits_14 zN μ hB a1 0 0 (by omega) (by omega) (by omega) (by omega)
  · rw [if_pos c2]
    refine Az.blk kd_6_fits_8 (show Ez md_6_fits 0 0 9 [(0, zr 113), (1, zi a1)] [zi (-1)] zSh μ _ _ _ from ?_)
    exact Ez.iret kr_6_fits_9 rfl (Nat.zero_le _) (Nat.zero_le _) rfl rfl
def kb_6_best_0 : List zI := [(.bipush (-5), 2, 0, 0), (.istore 5, 2, 0, 0), (.iconst 0, 1, 0, 0), (.istore 6, 2, 0, 0)]
theorem kd_6_best_0 : zdec md_6_best 0 kb_6_best_0 = true := by decide +kernel
def kb_6_best_7 : List zI := [(.iload 6, 2, 0, 0), (.aload_n 0, 1, 0, 0), (.getfield 7, 3, 6, 0), (.iconst 2, 1, 0, 0), (.iaload, 1, 0, 0), (.if_icmp .ge 84, 3, 99, 0)]
theorem kd_6_best_7 : zdec md_6_best 7 kb_6_best_7 = true := by decide +kernel
def kb_6_best_99 : List zI := [(.iload 5, 2, 0, 0)]
theorem kd_6_best_99 : zdec md_6_best 99 kb_6_best_99 = true := by decide +kernel
theorem kr_6_best_101 : decode md_6_best.2.1 101 = .ok (.ireturn, 1) := by decide +kernel
def kb_6_best_18 : List zI := [(.aload_n 0, 1, 0, 0), (.iload 6, 2, 0, 0), (.iconst 0, 1, 0, 0)]
theorem kd_6_best_18 : zdec md_6_best 18 kb_6_best_18 = true := by decide +kernel
theorem kr_6_best_22 : decode md_6_best.2.1 22 = .ok (.invokevirtual 42, 3) := by decide +kernel
def kb_6_best_25 : List zI := [(.iload_n 1, 1, 0, 0), (.if_icmp .ne 67, 3, 93, 0)]
theorem kd_6_best_25 : zdec md_6_best 25 kb_6_best_25 = true := by decide +kernel
def kb_6_best_93 : List zI := [(.iinc 6 1, 3, 0, 0), (.goto (-89), 3, 7, 0)]
theorem kd_6_best_93 : zdec md_6_best 93 kb_6_best_93 = true := by decide +kernel
def kb_6_best_29 : List zI := [(.iload_n 1, 1, 0, 0), (.ifCond .ne 14, 3, 44, 0)]
theorem kd_6_best_29 : zdec md_6_best 29 kb_6_best_29 = true := by decide +kernel
def kb_6_best_44 : List zI := [(.aload_n 0, 1, 0, 0), (.iload 6, 2, 0, 0), (.iload_n 2, 1, 0, 0)]
theorem kd_6_best_44 : zdec md_6_best 44 kb_6_best_44 = true := by decide +kernel
theorem kr_6_best_48 : decode md_6_best.2.1 48 = .ok (.invokevirtual 148, 3) := by decide +kernel
def kb_6_best_51 : List zI := [(.istore 7, 2, 0, 0), (.iload 5, 2, 0, 0), (.bipush (-5), 2, 0, 0), (.if_icmp .eq 27, 3, 84, 0)]
theorem kd_6_best_51 : zdec md_6_best 51 kb_6_best_51 = true := by decide +kernel
def kb_6_best_84 : List zI := [(.iload 7, 2, 0, 0), (.goto 5, 3, 91, 0)]
theorem kd_6_best_84 : zdec md_6_best 84 kb_6_best_84 = true := by decide +kernel
def kb_6_best_91 : List zI := [(.istore 5, 2, 0, 0), (.iinc 6 1, 3, 0, 0), (.goto (-89), 3, 7, 0)]
theorem kd_6_best_91 : zdec md_6_best 91 kb_6_best_91 = true := by decide +kernel
def kb_6_best_60 : List zI := [(.iload 4, 2, 0, 0), (.ifCond .eq 10, 3, 72, 0)]
theorem kd_6_best_60 : zdec md_6_best 60 kb_6_best_60 = true := by decide +kernel
def kb_6_best_72 : List zI := [(.iload 4, 2, 0, 0), (.ifCond .ne 15, 3, 89, 0)]
theorem kd_6_best_72 : zdec md_6_best 72 kb_6_best_72 = true := by decide +kernel
def kb_6_best_89 : List zI := [(.iload 5, 2, 0, 0), (.istore 5, 2, 0, 0), (.iinc 6 1, 3, 0, 0), (.goto (-89), 3, 7, 0)]
theorem kd_6_best_89 : zdec md_6_best 89 kb_6_best_89 = true := by decide +kernel
def kb_6_best_77 : List zI := [(.iload 7, 2, 0, 0), (.iload 5, 2, 0, 0), (.if_icmp .ge 8, 3, 89, 0)]
theorem kd_6_best_77 : zdec md_6_best 77 kb_6_best_77 = true := by decide +kernel
def kb_6_best_65 : List zI := [(.iload 7, 2, 0, 0), (.iload 5, 2, 0, 0), (.if_icmp .gt 15, 3, 84, 0)]
theorem kd_6_best_65 : zdec md_6_best 65 kb_6_best_65 = true := by decide +kernel
def kb_6_best_33 : List zI := [(.aload_n 0, 1, 0, 0), (.iload 6, 2, 0, 0), (.iconst 1, 1, 0, 0)]
theorem kd_6_best_33 : zdec md_6_best 33 kb_6_best_33 = true := by decide +kernel
theorem kr_6_best_37 : decode md_6_best.2.1 37 = .ok (.invokevirtual 42, 3) := by decide +kernel
def kb_6_best_40 : List zI := [(.iload_n 3, 1, 0, 0), (.if_icmp .ne 52, 3, 93, 0)]
theorem kd_6_best_40 : zdec md_6_best 40 kb_6_best_40 = true := by decide +kernel
noncomputable def mm_best_7 : Nat → zM → Int → Int → Int → Int → Int → Int → Int
  | 0, μ, _, _, _, _, _, _ => 0
  | f + 1, μ, l1, l2, l3, l4, l5, l6 => (if l6 < (μ 114 2) then (if (mm_ofWord μ l6 0) = l1 then (if l1 = 0 then (if (mm_ofWord μ l6 1) = l3 then (if l5 = (-5) then (mm_best_7 f μ l1 l2 l3 l4 (mm_lengthOf μ l6 l2) (l6 + 1)) else (if l4 = 0 then (if l4 = 0 then (if (mm_lengthOf μ l6 l2) < l5 then (mm_best_7 f μ l1 l2 l3 l4 (mm_lengthOf μ l6 l2) (l6 + 1)) else (mm_best_7 f μ l1 l2 l3 l4 l5 (l6 + 1))) else (mm_best_7 f μ l1 l2 l3 l4 l5 (l6 + 1))) else (if l5 < (mm_lengthOf μ l6 l2) then (mm_best_7 f μ l1 l2 l3 l4 (mm_lengthOf μ l6 l2) (l6 + 1)) else (if l4 = 0 then (if (mm_lengthOf μ l6 l2) < l5 then (mm_best_7 f μ l1 l2 l3 l4 (mm_lengthOf μ l6 l2) (l6 + 1)) else (mm_best_7 f μ l1 l2 l3 l4 l5 (l6 + 1))) else (mm_best_7 f μ l1 l2 l3 l4 l5 (l6 + 1)))))) else (mm_best_7 f μ l1 l2 l3 l4 l5 (l6 + 1))) else (if l5 = (-5) then (mm_best_7 f μ l1 l2 l3 l4 (mm_lengthOf μ l6 l2) (l6 + 1)) else (if l4 = 0 then (if l4 = 0 then (if (mm_lengthOf μ l6 l2) < l5 then (mm_best_7 f μ l1 l2 l3 l4 (mm_lengthOf μ l6 l2) (l6 + 1)) else (mm_best_7 f μ l1 l2 l3 l4 l5 (l6 + 1))) else (mm_best_7 f μ l1 l2 l3 l4 l5 (l6 + 1))) else (if l5 < (mm_lengthOf μ l6 l2) then (mm_best_7 f μ l1 l2 l3 l4 (mm_lengthOf μ l6 l2) (l6 + 1)) else (if l4 = 0 then (if (mm_lengthOf μ l6 l2) < l5 then (mm_best_7 f μ l1 l2 l3 l4 (mm_lengthOf μ l6 l2) (l6 + 1)) else (mm_best_7 f μ l1 l2 l3 l4 l5 (l6 + 1))) else (mm_best_7 f μ l1 l2 l3 l4 l5 (l6 + 1))))))) else (mm_best_7 f μ l1 l2 l3 l4 l5 (l6 + 1))) else l5)
noncomputable def mm_best (μ : zM) (a1 a2 a3 a4 : Int) : Int := (mm_best_7 zN μ a1 a2 a3 a4 (-5) 0)
set_option maxHeartbeats 4000000 in
set_option maxRecDepth 100000 in
theorem mr_best_7 (f : Nat) (μ : zM) (hB : zB μ) (l1 : Int) (l2 : Int) (l3 : Int) (l4 : Int) (l5 : Int) (l6 : Int) (i0 : 0 ≤ l6 ∧ l6 ≤ (μ 114 2)) (i1 : l5 = -5 ∨ (0 ≤ l5 ∧ l5 ≤ 10)) (i2 : 0 ≤ l2 ∧ l2 ≤ 5) (i3 : -2147483648 ≤ l1 ∧ l1 ≤ 2147483647) (i4 : -2147483648 ≤ l3 ∧ l3 ≤ 2147483647) (i5 : -2147483648 ≤ l4 ∧ l4 ≤ 2147483647) (hf : (μ 114 2) - l6 < (f : Int)) : ((mm_best_7 f μ l1 l2 l3 l4 l5 l6) = -5 ∨ (0 ≤ (mm_best_7 f μ l1 l2 l3 l4 l5 l6) ∧ (mm_best_7 f μ l1 l2 l3 l4 l5 l6) ≤ 10)) := by
  induction f generalizing μ l1 l2 l3 l4 l5 l6 with
  | zero => exfalso; omega
  | succ f ih =>
    replace hf : (μ 114 2) - l6 < (f : Int) + 1 := by omega
    rw [mm_best_7]
    have b2 : 0 ≤ (μ 114 2) ∧ (μ 114 2) ≤ 24 := hB 114 2
    by_cases c3 : l6 < (μ 114 2)
    · rw [if_pos c3]
      have r4 : 0 ≤ (mm_ofWord μ l6 0) ∧ (mm_ofWord μ l6 0) ≤ 26 ∧ ((0 : Int) < 2 → (mm_ofWord μ l6 0) ≤ 2) ∧ ((0 : Int) = 2 → (mm_ofWord μ l6 0) ≤ 8) := mr_ofWord hB l6 0 (by omega) (by omega)
      by_cases c5 : (mm_ofWord μ l6 0) = l1
      · rw [if_pos c5]
        by_cases c7 : l1 = 0
        · rw [if_pos c7]
          have r24 : 0 ≤ (mm_ofWord μ l6 1) ∧ (mm_ofWord μ l6 1) ≤ 26 ∧ ((1 : Int) < 2 → (mm_ofWord μ l6 1) ≤ 2) ∧ ((1 : Int) = 2 → (mm_ofWord μ l6 1) ≤ 8) := mr_ofWord hB l6 1 (by omega) (by omega)
          by_cases c25 : (mm_ofWord μ l6 1) = l3
          · rw [if_pos c25]
            have r27 : 0 ≤ (mm_lengthOf μ l6 l2) ∧ (mm_lengthOf μ l6 l2) ≤ 10 := mr_lengthOf hB l6 l2 (by omega) (by omega)
            by_cases c28 : l5 = (-5)
            · rw [if_pos c28]
              have b29 : 0 ≤ (μ 114 2) ∧ (μ 114 2) ≤ 24 := hB 114 2
              exact ih μ hB l1 l2 l3 l4 (mm_lengthOf μ l6 l2) (l6 + 1) (by omega) (by omega) (by omega) (by omega) (by omega) (by omega) (by omega)
            · rw [if_neg c28]
              by_cases c30 : l4 = 0
              · rw [if_pos c30]
                by_cases c31 : l4 = 0
                · rw [if_pos c31]
                  by_cases c33 : (mm_lengthOf μ l6 l2) < l5
                  · rw [if_pos c33]
                    have b35 : 0 ≤ (μ 114 2) ∧ (μ 114 2) ≤ 24 := hB 114 2
                    exact ih μ hB l1 l2 l3 l4 (mm_lengthOf μ l6 l2) (l6 + 1) (by omega) (by omega) (by omega) (by omega) (by omega) (by omega) (by omega)
                  · rw [if_neg c33]
                    have b34 : 0 ≤ (μ 114 2) ∧ (μ 114 2) ≤ 24 := hB 114 2
                    exact ih μ hB l1 l2 l3 l4 l5 (l6 + 1) (by omega) (by omega) (by omega) (by omega) (by omega) (by omega) (by omega)
                · rw [if_neg c31]
                  have b32 : 0 ≤ (μ 114 2) ∧ (μ 114 2) ≤ 24 := hB 114 2
                  exact ih μ hB l1 l2 l3 l4 l5 (l6 + 1) (by omega) (by omega) (by omega) (by omega) (by omega) (by omega) (by omega)
              · rw [if_neg c30]
                by_cases c36 : l5 < (mm_lengthOf μ l6 l2)
                · rw [if_pos c36]
                  have b37 : 0 ≤ (μ 114 2) ∧ (μ 114 2) ≤ 24 := hB 114 2
                  exact ih μ hB l1 l2 l3 l4 (mm_lengthOf μ l6 l2) (l6 + 1) (by omega) (by omega) (by omega) (by omega) (by omega) (by omega) (by omega)
                · rw [if_neg c36]
                  by_cases c38 : l4 = 0
                  · rw [if_pos c38]
                    by_cases c40 : (mm_lengthOf μ l6 l2) < l5
                    · rw [if_pos c40]
                      have b42 : 0 ≤ (μ 114 2) ∧ (μ 114 2) ≤ 24 := hB 114 2
                      exact ih μ hB l1 l2 l3 l4 (mm_lengthOf μ l6 l2) (l6 + 1) (by omega) (by omega) (by omega) (by omega) (by omega) (by omega) (by omega)
                    · rw [if_neg c40]
                      have b41 : 0 ≤ (μ 114 2) ∧ (μ 114 2) ≤ 24 := hB 114 2
                      exact ih μ hB l1 l2 l3 l4 l5 (l6 + 1) (by omega) (by omega) (by omega) (by omega) (by omega) (by omega) (by omega)
                  · rw [if_neg c38]
                    have b39 : 0 ≤ (μ 114 2) ∧ (μ 114 2) ≤ 24 := hB 114 2
                    exact ih μ hB l1 l2 l3 l4 l5 (l6 + 1) (by omega) (by omega) (by omega) (by omega) (by omega) (by omega) (by omega)
          · rw [if_neg c25]
            have b26 : 0 ≤ (μ 114 2) ∧ (μ 114 2) ≤ 24 := hB 114 2
            exact ih μ hB l1 l2 l3 l4 l5 (l6 + 1) (by omega) (by omega) (by omega) (by omega) (by omega) (by omega) (by omega)
        · rw [if_neg c7]
          have r8 : 0 ≤ (mm_lengthOf μ l6 l2) ∧ (mm_lengthOf μ l6 l2) ≤ 10 := mr_lengthOf hB l6 l2 (by omega) (by omega)
          by_cases c9 : l5 = (-5)
          · rw [if_pos c9]
            have b10 : 0 ≤ (μ 114 2) ∧ (μ 114 2) ≤ 24 := hB 114 2
            exact ih μ hB l1 l2 l3 l4 (mm_lengthOf μ l6 l2) (l6 + 1) (by omega) (by omega) (by omega) (by omega) (by omega) (by omega) (by omega)
          · rw [if_neg c9]
            by_cases c11 : l4 = 0
            · rw [if_pos c11]
              by_cases c12 : l4 = 0
              · rw [if_pos c12]
                by_cases c14 : (mm_lengthOf μ l6 l2) < l5
                · rw [if_pos c14]
                  have b16 : 0 ≤ (μ 114 2) ∧ (μ 114 2) ≤ 24 := hB 114 2
                  exact ih μ hB l1 l2 l3 l4 (mm_lengthOf μ l6 l2) (l6 + 1) (by omega) (by omega) (by omega) (by omega) (by omega) (by omega) (by omega)
                · rw [if_neg c14]
                  have b15 : 0 ≤ (μ 114 2) ∧ (μ 114 2) ≤ 24 := hB 114 2
                  exact ih μ hB l1 l2 l3 l4 l5 (l6 + 1) (by omega) (by omega) (by omega) (by omega) (by omega) (by omega) (by omega)
              · rw [if_neg c12]
                have b13 : 0 ≤ (μ 114 2) ∧ (μ 114 2) ≤ 24 := hB 114 2
                exact ih μ hB l1 l2 l3 l4 l5 (l6 + 1) (by omega) (by omega) (by omega) (by omega) (by omega) (by omega) (by omega)
            · rw [if_neg c11]
              by_cases c17 : l5 < (mm_lengthOf μ l6 l2)
              · rw [if_pos c17]
                have b18 : 0 ≤ (μ 114 2) ∧ (μ 114 2) ≤ 24 := hB 114 2
                exact ih μ hB l1 l2 l3 l4 (mm_lengthOf μ l6 l2) (l6 + 1) (by omega) (by omega) (by omega) (by omega) (by omega) (by omega) (by omega)
              · rw [if_neg c17]
                by_cases c19 : l4 = 0
                · rw [if_pos c19]
                  by_cases c21 : (mm_lengthOf μ l6 l2) < l5
                  · rw [if_pos c21]
                    have b23 : 0 ≤ (μ 114 2) ∧ (μ 114 2) ≤ 24 := hB 114 2
                    exact ih μ hB l1 l2 l3 l4 (mm_lengthOf μ l6 l2) (l6 + 1) (by omega) (by omega) (by omega) (by omega) (by omega) (by omega) (by omega)
                  · rw [if_neg c21]
                    have b22 : 0 ≤ (μ 114 2) ∧ (μ 114 2) ≤ 24 := hB 114 2
                    exact ih μ hB l1 l2 l3 l4 l5 (l6 + 1) (by omega) (by omega) (by omega) (by omega) (by omega) (by omega) (by omega)
                · rw [if_neg c19]
                  have b20 : 0 ≤ (μ 114 2) ∧ (μ 114 2) ≤ 24 := hB 114 2
                  exact ih μ hB l1 l2 l3 l4 l5 (l6 + 1) (by omega) (by omega) (by omega) (by omega) (by omega) (by omega) (by omega)
      · rw [if_neg c5]
        have b6 : 0 ≤ (μ 114 2) ∧ (μ 114 2) ≤ 24 := hB 114 2
        exact ih μ hB l1 l2 l3 l4 l5 (l6 + 1) (by omega) (by omega) (by omega) (by omega) (by omega) (by omega) (by omega)
    · rw [if_neg c3]
      first | omega | (dsimp only; omega)
set_option maxHeartbeats 4000000 in
set_option maxRecDepth 100000 in
theorem mr_best {μ : zM} (hB : zB μ) (a1 a2 a3 a4 : Int) (h0 : -2147483648 ≤ a1 ∧ a1 ≤ 2147483647) (h1 : -2147483648 ≤ a3 ∧ a3 ≤ 2147483647) (h2 : -2147483648 ≤ a4 ∧ a4 ≤ 2147483647) (h3 : 0 ≤ a2 ∧ a2 ≤ 5) : ((mm_best μ a1 a2 a3 a4) = -5 ∨ (0 ≤ (mm_best μ a1 a2 a3 a4) ∧ (mm_best μ a1 a2 a3 a4) ≤ 10)) := by
  unfold mm_best
  have b1 : 0 ≤ (μ 114 2) ∧ (μ 114 2) ≤ 24 := hB 114 2
  have fb : (3000 : Int) ≤ ((zN : Nat) : Int) := zN_big
  exact mr_best_7 zN μ hB a1 a2 a3 a4 (-5) 0 (by omega) (by omega) (by omega) (by omega) (by omega) (by omega) (by omega)
set_option maxHeartbeats 4000000 in
set_option maxRecDepth 100000 in
theorem mz_best_7 (f : Nat) (μ : zM) (hB : zB μ) (l1 : Int) (l2 : Int) (l3 : Int) (l4 : Int) (l5 : Int) (l6 : Int) (i0 : 0 ≤ l6 ∧ l6 ≤ (μ 114 2)) (i1 : l5 = -5 ∨ (0 ≤ l5 ∧ l5 ≤ 10)) (i2 : 0 ≤ l2 ∧ l2 ≤ 5) (i3 : -2147483648 ≤ l1 ∧ l1 ≤ 2147483647) (i4 : -2147483648 ≤ l3 ∧ l3 ≤ 2147483647) (i5 : -2147483648 ≤ l4 ∧ l4 ≤ 2147483647) (hf : (μ 114 2) - l6 < (f : Int)) : Ez md_6_best 0 0 7 [(0, zr 113), (1, zi l1), (2, zi l2), (3, zi l3), (4, zi l4), (5, zi l5), (6, zi l6)] [] zSh μ (some (zi (mm_best_7 f μ l1 l2 l3 l4 l5 l6))) zSh μ := by
  induction f generalizing μ l1 l2 l3 l4 l5 l6 with
  | zero => exfalso; omega
  | succ f ih =>
    replace hf : (μ 114 2) - l6 < (f : Int) + 1 := by omega
    rw [mm_best_7]
    have b2 : 0 ≤ (μ 114 2) ∧ (μ 114 2) ≤ 24 := hB 114 2
    refine Az.blk kd_6_best_7 (show (0 ≤ 2 ∧ 2 < 604) ∧ zR l6 ∧ zR (μ 114 2) ∧ ((¬ l6 < (μ 114 2) → Ez md_6_best 0 0 99 [(0, zr 113), (1, zi l1), (2, zi l2), (3, zi l3), (4, zi l4), (5, zi l5), (6, zi l6)] [] zSh μ _ _ _) ∧ (l6 < (μ 114 2) → Ez md_6_best 0 0 18 [(0, zr 113), (1, zi l1), (2, zi l2), (3, zi l3), (4, zi l4), (5, zi l5), (6, zi l6)] [] zSh μ _ _ _)) from ⟨(by omega), (by omega), (by omega), fun c3 => ?_, fun c3 => ?_⟩)
    · rw [if_neg c3]
      refine Az.blk kd_6_best_99 (show Ez md_6_best 0 0 101 [(0, zr 113), (1, zi l1), (2, zi l2), (3, zi l3), (4, zi l4), (5, zi l5), (6, zi l6)] [zi l5] zSh μ _ _ _ from ?_)
      exact Ez.iret kr_6_best_101 rfl (Nat.zero_le _) (Nat.zero_le _) rfl rfl
    · rw [if_pos c3]
      refine Az.blk kd_6_best_18 (show Ez md_6_best 0 0 22 [(0, zr 113), (1, zi l1), (2, zi l2), (3, zi l3), (4, zi l4), (5, zi l5), (6, zi l6)] [zi 0, zi l6, zr 113] zSh μ _ _ _ from ?_)
      refine Az.cV (mc := md_6_ofWord) (k := 113) (n := 2) (As := [zi l6, zi 0]) (rest := []) kr_6_best_22 zw_722 ok_6_ofWord rfl rfl rfl trivial (mz_ofWord hB l6 0 (by omega) (by omega)) rfl rfl (show Ez md_6_best 0 0 25 [(0, zr 113), (1, zi l1), (2, zi l2), (3, zi l3), (4, zi l4), (5, zi l5), (6, zi l6)] [zi (mm_ofWord μ l6 0)] zSh μ _ _ _ from ?_)
      have r4 : 0 ≤ (mm_ofWord μ l6 0) ∧ (mm_ofWord μ l6 0) ≤ 26 ∧ ((0 : Int) < 2 → (mm_ofWord μ l6 0) ≤ 2) ∧ ((0 : Int) = 2 → (mm_ofWord μ l6 0) ≤ 8) := mr_ofWord hB l6 0 (by omega) (by omega)
      refine Az.blk kd_6_best_25 (show zR (mm_ofWord μ l6 0) ∧ zR l1 ∧ ((¬ (mm_ofWord μ l6 0) = l1 → Ez md_6_best 0 0 93 [(0, zr 113), (1, zi l1), (2, zi l2), (3, zi l3), (4, zi l4), (5, zi l5), (6, zi l6)] [] zSh μ _ _ _) ∧ ((mm_ofWord μ l6 0) = l1 → Ez md_6_best 0 0 29 [(0, zr 113), (1, zi l1), (2, zi l2), (3, zi l3), (4, zi l4), (5, zi l5), (6, zi l6)] [] zSh μ _ _ _)) from ⟨(by omega), (by omega), fun c5 => ?_, fun c5 => ?_⟩)
      · rw [if_neg c5]
        refine Az.blk kd_6_best_93 (show Ez md_6_best 0 0 7 [(6, zi (l6 + 1)), (0, zr 113), (1, zi l1), (2, zi l2), (3, zi l3), (4, zi l4), (5, zi l5)] [] zSh μ _ _ _ from ?_)
        have b6 : 0 ≤ (μ 114 2) ∧ (μ 114 2) ≤ 24 := hB 114 2
        refine Az.lvs (lv' := [(0, zr 113), (1, zi l1), (2, zi l2), (3, zi l3), (4, zi l4), (5, zi l5), (6, zi (l6 + 1))]) ?_ ?_
        · intro q hq; simp only [List.mem_cons, List.not_mem_nil, or_false] at hq; rcases hq with rfl | rfl | rfl | rfl | rfl | rfl | rfl <;> rfl
        exact ih μ hB l1 l2 l3 l4 l5 (l6 + 1) (by omega) (by omega) (by omega) (by omega) (by omega) (by omega) (by omega)
      · rw [if_pos c5]
        refine Az.blk kd_6_best_29 (show zR l1 ∧ ((¬ l1 = 0 → Ez md_6_best 0 0 44 [(0, zr 113), (1, zi l1), (2, zi l2), (3, zi l3), (4, zi l4), (5, zi l5), (6, zi l6)] [] zSh μ _ _ _) ∧ (l1 = 0 → Ez md_6_best 0 0 33 [(0, zr 113), (1, zi l1), (2, zi l2), (3, zi l3), (4, zi l4), (5, zi l5), (6, zi l6)] [] zSh μ _ _ _)) from ⟨(by omega), fun c7 => ?_, fun c7 => ?_⟩)
        · rw [if_neg c7]
          refine Az.blk kd_6_best_44 (show Ez md_6_best 0 0 48 [(0, zr 113), (1, zi l1), (2, zi l2), (3, zi l3), (4, zi l4), (5, zi l5), (6, zi l6)] [zi l2, zi l6, zr 113] zSh μ _ _ _ from ?_)
          refine Az.cV (mc := md_6_lengthOf) (k := 113) (n := 2) (As := [zi l6, zi l2]) (rest := []) kr_6_best_48 zw_786 ok_6_lengthOf rfl rfl rfl trivial (mz_lengthOf hB l6 l2 (by omega) (by omega)) rfl rfl (show Ez md_6_best 0 0 51 [(0, zr 113), (1, zi l1), (2, zi l2), (3, zi l3), (4, zi l4), (5, zi l5), (6, zi l6)] [zi (mm_lengthOf μ l6 l2)] zSh μ _ _ _ from ?_)
          have r8 : 0 ≤ (mm_lengthOf μ l6 l2) ∧ (mm_lengthOf μ l6 l2) ≤ 10 := mr_lengthOf hB l6 l2 (by omega) (by omega)
          refine Az.blk kd_6_best_51 (show zR l5 ∧ zR (-5) ∧ ((l5 = (-5) → Ez md_6_best 0 0 84 [(7, zi (mm_lengthOf μ l6 l2)), (0, zr 113), (1, zi l1), (2, zi l2), (3, zi l3), (4, zi l4), (5, zi l5), (6, zi l6)] [] zSh μ _ _ _) ∧ (¬ l5 = (-5) → Ez md_6_best 0 0 60 [(7, zi (mm_lengthOf μ l6 l2)), (0, zr 113), (1, zi l1), (2, zi l2), (3, zi l3), (4, zi l4), (5, zi l5), (6, zi l6)] [] zSh μ _ _ _)) from ⟨(by omega), (by omega), fun c9 => ?_, fun c9 => ?_⟩)
          · rw [if_pos c9]
            refine Az.blk kd_6_best_84 (show Ez md_6_best 0 0 91 [(7, zi (mm_lengthOf μ l6 l2)), (0, zr 113), (1, zi l1), (2, zi l2), (3, zi l3), (4, zi l4), (5, zi l5), (6, zi l6)] [zi (mm_lengthOf μ l6 l2)] zSh μ _ _ _ from ?_)
            refine Az.blk kd_6_best_91 (show Ez md_6_best 0 0 7 [(6, zi (l6 + 1)), (5, zi (mm_lengthOf μ l6 l2)), (7, zi (mm_lengthOf μ l6 l2)), (0, zr 113), (1, zi l1), (2, zi l2), (3, zi l3), (4, zi l4)] [] zSh μ _ _ _ from ?_)
            have b10 : 0 ≤ (μ 114 2) ∧ (μ 114 2) ≤ 24 := hB 114 2
            refine Az.lvs (lv' := [(0, zr 113), (1, zi l1), (2, zi l2), (3, zi l3), (4, zi l4), (5, zi (mm_lengthOf μ l6 l2)), (6, zi (l6 + 1))]) ?_ ?_
            · intro q hq; simp only [List.mem_cons, List.not_mem_nil, or_false] at hq; rcases hq with rfl | rfl | rfl | rfl | rfl | rfl | rfl <;> rfl
            exact ih μ hB l1 l2 l3 l4 (mm_lengthOf μ l6 l2) (l6 + 1) (by omega) (by omega) (by omega) (by omega) (by omega) (by omega) (by omega)
          · rw [if_neg c9]
            refine Az.blk kd_6_best_60 (show zR l4 ∧ ((l4 = 0 → Ez md_6_best 0 0 72 [(7, zi (mm_lengthOf μ l6 l2)), (0, zr 113), (1, zi l1), (2, zi l2), (3, zi l3), (4, zi l4), (5, zi l5), (6, zi l6)] [] zSh μ _ _ _) ∧ (¬ l4 = 0 → Ez md_6_best 0 0 65 [(7, zi (mm_lengthOf μ l6 l2)), (0, zr 113), (1, zi l1), (2, zi l2), (3, zi l3), (4, zi l4), (5, zi l5), (6, zi l6)] [] zSh μ _ _ _)) from ⟨(by omega), fun c11 => ?_, fun c11 => ?_⟩)
            · rw [if_pos c11]
              refine Az.blk kd_6_best_72 (show zR l4 ∧ ((¬ l4 = 0 → Ez md_6_best 0 0 89 [(7, zi (mm_lengthOf μ l6 l2)), (0, zr 113), (1, zi l1), (2, zi l2), (3, zi l3), (4, zi l4), (5, zi l5), (6, zi l6)] [] zSh μ _ _ _) ∧ (l4 = 0 → Ez md_6_best 0 0 77 [(7, zi (mm_lengthOf μ l6 l2)), (0, zr 113), (1, zi l1), (2, zi l2), (3, zi l3), (4, zi l4), (5, zi l5), (6, zi l6)] [] zSh μ _ _ _)) from ⟨(by omega), fun c12 => ?_, fun c12 => ?_⟩)
              · rw [if_neg c12]
                refine Az.blk kd_6_best_89 (show Ez md_6_best 0 0 7 [(6, zi (l6 + 1)), (5, zi l5), (7, zi (mm_lengthOf μ l6 l2)), (0, zr 113), (1, zi l1), (2, zi l2), (3, zi l3), (4, zi l4)] [] zSh μ _ _ _ from ?_)
                have b13 : 0 ≤ (μ 114 2) ∧ (μ 114 2) ≤ 24 := hB 114 2
                refine Az.lvs (lv' := [(0, zr 113), (1, zi l1), (2, zi l2), (3, zi l3), (4, zi l4), (5, zi l5), (6, zi (l6 + 1))]) ?_ ?_
                · intro q hq; simp only [List.mem_cons, List.not_mem_nil, or_false] at hq; rcases hq with rfl | rfl | rfl | rfl | rfl | rfl | rfl <;> rfl
                exact ih μ hB l1 l2 l3 l4 l5 (l6 + 1) (by omega) (by omega) (by omega) (by omega) (by omega) (by omega) (by omega)
              · rw [if_pos c12]
                refine Az.blk kd_6_best_77 (show zR (mm_lengthOf μ l6 l2) ∧ zR l5 ∧ ((¬ (mm_lengthOf μ l6 l2) < l5 → Ez md_6_best 0 0 89 [(7, zi (mm_lengthOf μ l6 l2)), (0, zr 113), (1, zi l1), (2, zi l2), (3, zi l3), (4, zi l4), (5, zi l5), (6, zi l6)] [] zSh μ _ _ _) ∧ ((mm_lengthOf μ l6 l2) < l5 → Ez md_6_best 0 0 84 [(7, zi (mm_lengthOf μ l6 l2)), (0, zr 113), (1, zi l1), (2, zi l2), (3, zi l3), (4, zi l4), (5, zi l5), (6, zi l6)] [] zSh μ _ _ _)) from ⟨(by omega), (by omega), fun c14 => ?_, fun c14 => ?_⟩)
                · rw [if_neg c14]
                  refine Az.blk kd_6_best_89 (show Ez md_6_best 0 0 7 [(6, zi (l6 + 1)), (5, zi l5), (7, zi (mm_lengthOf μ l6 l2)), (0, zr 113), (1, zi l1), (2, zi l2), (3, zi l3), (4, zi l4)] [] zSh μ _ _ _ from ?_)
                  have b15 : 0 ≤ (μ 114 2) ∧ (μ 114 2) ≤ 24 := hB 114 2
                  refine Az.lvs (lv' := [(0, zr 113), (1, zi l1), (2, zi l2), (3, zi l3), (4, zi l4), (5, zi l5), (6, zi (l6 + 1))]) ?_ ?_
                  · intro q hq; simp only [List.mem_cons, List.not_mem_nil, or_false] at hq; rcases hq with rfl | rfl | rfl | rfl | rfl | rfl | rfl <;> rfl
                  exact ih μ hB l1 l2 l3 l4 l5 (l6 + 1) (by omega) (by omega) (by omega) (by omega) (by omega) (by omega) (by omega)
                · rw [if_pos c14]
                  refine Az.blk kd_6_best_84 (show Ez md_6_best 0 0 91 [(7, zi (mm_lengthOf μ l6 l2)), (0, zr 113), (1, zi l1), (2, zi l2), (3, zi l3), (4, zi l4), (5, zi l5), (6, zi l6)] [zi (mm_lengthOf μ l6 l2)] zSh μ _ _ _ from ?_)
                  refine Az.blk kd_6_best_91 (show Ez md_6_best 0 0 7 [(6, zi (l6 + 1)), (5, zi (mm_lengthOf μ l6 l2)), (7, zi (mm_lengthOf μ l6 l2)), (0, zr 113), (1, zi l1), (2, zi l2), (3, zi l3), (4, zi l4)] [] zSh μ _ _ _ from ?_)
                  have b16 : 0 ≤ (μ 114 2) ∧ (μ 114 2) ≤ 24 := hB 114 2
                  refine Az.lvs (lv' := [(0, zr 113), (1, zi l1), (2, zi l2), (3, zi l3), (4, zi l4), (5, zi (mm_lengthOf μ l6 l2)), (6, zi (l6 + 1))]) ?_ ?_
                  · intro q hq; simp only [List.mem_cons, List.not_mem_nil, or_false] at hq; rcases hq with rfl | rfl | rfl | rfl | rfl | rfl | rfl <;> rfl
                  exact ih μ hB l1 l2 l3 l4 (mm_lengthOf μ l6 l2) (l6 + 1) (by omega) (by omega) (by omega) (by omega) (by omega) (by omega) (by omega)
            · rw [if_neg c11]
              refine Az.blk kd_6_best_65 (show zR (mm_lengthOf μ l6 l2) ∧ zR l5 ∧ ((l5 < (mm_lengthOf μ l6 l2) → Ez md_6_best 0 0 84 [(7, zi (mm_lengthOf μ l6 l2)), (0, zr 113), (1, zi l1), (2, zi l2), (3, zi l3), (4, zi l4), (5, zi l5), (6, zi l6)] [] zSh μ _ _ _) ∧ (¬ l5 < (mm_lengthOf μ l6 l2) → Ez md_6_best 0 0 72 [(7, zi (mm_lengthOf μ l6 l2)), (0, zr 113), (1, zi l1), (2, zi l2), (3, zi l3), (4, zi l4), (5, zi l5), (6, zi l6)] [] zSh μ _ _ _)) from ⟨(by omega), (by omega), fun c17 => ?_, fun c17 => ?_⟩)
              · rw [if_pos c17]
                refine Az.blk kd_6_best_84 (show Ez md_6_best 0 0 91 [(7, zi (mm_lengthOf μ l6 l2)), (0, zr 113), (1, zi l1), (2, zi l2), (3, zi l3), (4, zi l4), (5, zi l5), (6, zi l6)] [zi (mm_lengthOf μ l6 l2)] zSh μ _ _ _ from ?_)
                refine Az.blk kd_6_best_91 (show Ez md_6_best 0 0 7 [(6, zi (l6 + 1)), (5, zi (mm_lengthOf μ l6 l2)), (7, zi (mm_lengthOf μ l6 l2)), (0, zr 113), (1, zi l1), (2, zi l2), (3, zi l3), (4, zi l4)] [] zSh μ _ _ _ from ?_)
                have b18 : 0 ≤ (μ 114 2) ∧ (μ 114 2) ≤ 24 := hB 114 2
                refine Az.lvs (lv' := [(0, zr 113), (1, zi l1), (2, zi l2), (3, zi l3), (4, zi l4), (5, zi (mm_lengthOf μ l6 l2)), (6, zi (l6 + 1))]) ?_ ?_
                · intro q hq; simp only [List.mem_cons, List.not_mem_nil, or_false] at hq; rcases hq with rfl | rfl | rfl | rfl | rfl | rfl | rfl <;> rfl
                exact ih μ hB l1 l2 l3 l4 (mm_lengthOf μ l6 l2) (l6 + 1) (by omega) (by omega) (by omega) (by omega) (by omega) (by omega) (by omega)
              · rw [if_neg c17]
                refine Az.blk kd_6_best_72 (show zR l4 ∧ ((¬ l4 = 0 → Ez md_6_best 0 0 89 [(7, zi (mm_lengthOf μ l6 l2)), (0, zr 113), (1, zi l1), (2, zi l2), (3, zi l3), (4, zi l4), (5, zi l5), (6, zi l6)] [] zSh μ _ _ _) ∧ (l4 = 0 → Ez md_6_best 0 0 77 [(7, zi (mm_lengthOf μ l6 l2)), (0, zr 113), (1, zi l1), (2, zi l2), (3, zi l3), (4, zi l4), (5, zi l5), (6, zi l6)] [] zSh μ _ _ _)) from ⟨(by omega), fun c19 => ?_, fun c19 => ?_⟩)
                · rw [if_neg c19]
                  refine Az.blk kd_6_best_89 (show Ez md_6_best 0 0 7 [(6, zi (l6 + 1)), (5, zi l5), (7, zi (mm_lengthOf μ l6 l2)), (0, zr 113), (1, zi l1), (2, zi l2), (3, zi l3), (4, zi l4)] [] zSh μ _ _ _ from ?_)
                  have b20 : 0 ≤ (μ 114 2) ∧ (μ 114 2) ≤ 24 := hB 114 2
                  refine Az.lvs (lv' := [(0, zr 113), (1, zi l1), (2, zi l2), (3, zi l3), (4, zi l4), (5, zi l5), (6, zi (l6 + 1))]) ?_ ?_
                  · intro q hq; simp only [List.mem_cons, List.not_mem_nil, or_false] at hq; rcases hq with rfl | rfl | rfl | rfl | rfl | rfl | rfl <;> rfl
                  exact ih μ hB l1 l2 l3 l4 l5 (l6 + 1) (by omega) (by omega) (by omega) (by omega) (by omega) (by omega) (by omega)
                · rw [if_pos c19]
                  refine Az.blk kd_6_best_77 (show zR (mm_lengthOf μ l6 l2) ∧ zR l5 ∧ ((¬ (mm_lengthOf μ l6 l2) < l5 → Ez md_6_best 0 0 89 [(7, zi (mm_lengthOf μ l6 l2)), (0, zr 113), (1, zi l1), (2, zi l2), (3, zi l3), (4, zi l4), (5, zi l5), (6, zi l6)] [] zSh μ _ _ _) ∧ ((mm_lengthOf μ l6 l2) < l5 → Ez md_6_best 0 0 84 [(7, zi (mm_lengthOf μ l6 l2)), (0, zr 113), (1, zi l1), (2, zi l2), (3, zi l3), (4, zi l4), (5, zi l5), (6, zi l6)] [] zSh μ _ _ _)) from ⟨(by omega), (by omega), fun c21 => ?_, fun c21 => ?_⟩)
                  · rw [if_neg c21]
                    refine Az.blk kd_6_best_89 (show Ez md_6_best 0 0 7 [(6, zi (l6 + 1)), (5, zi l5), (7, zi (mm_lengthOf μ l6 l2)), (0, zr 113), (1, zi l1), (2, zi l2), (3, zi l3), (4, zi l4)] [] zSh μ _ _ _ from ?_)
                    have b22 : 0 ≤ (μ 114 2) ∧ (μ 114 2) ≤ 24 := hB 114 2
                    refine Az.lvs (lv' := [(0, zr 113), (1, zi l1), (2, zi l2), (3, zi l3), (4, zi l4), (5, zi l5), (6, zi (l6 + 1))]) ?_ ?_
                    · intro q hq; simp only [List.mem_cons, List.not_mem_nil, or_false] at hq; rcases hq with rfl | rfl | rfl | rfl | rfl | rfl | rfl <;> rfl
                    exact ih μ hB l1 l2 l3 l4 l5 (l6 + 1) (by omega) (by omega) (by omega) (by omega) (by omega) (by omega) (by omega)
                  · rw [if_pos c21]
                    refine Az.blk kd_6_best_84 (show Ez md_6_best 0 0 91 [(7, zi (mm_lengthOf μ l6 l2)), (0, zr 113), (1, zi l1), (2, zi l2), (3, zi l3), (4, zi l4), (5, zi l5), (6, zi l6)] [zi (mm_lengthOf μ l6 l2)] zSh μ _ _ _ from ?_)
                    refine Az.blk kd_6_best_91 (show Ez md_6_best 0 0 7 [(6, zi (l6 + 1)), (5, zi (mm_lengthOf μ l6 l2)), (7, zi (mm_lengthOf μ l6 l2)), (0, zr 113), (1, zi l1), (2, zi l2), (3, zi l3), (4, zi l4)] [] zSh μ _ _ _ from ?_)
                    have b23 : 0 ≤ (μ 114 2) ∧ (μ 114 2) ≤ 24 := hB 114 2
                    refine Az.lvs (lv' := [(0, zr 113), (1, zi l1), (2, zi l2), (3, zi l3), (4, zi l4), (5, zi (mm_lengthOf μ l6 l2)), (6, zi (l6 + 1))]) ?_ ?_
                    · intro q hq; simp only [List.mem_cons, List.not_mem_nil, or_false] at hq; rcases hq with rfl | rfl | rfl | rfl | rfl | rfl | rfl <;> rfl
                    exact ih μ hB l1 l2 l3 l4 (mm_lengthOf μ l6 l2) (l6 + 1) (by omega) (by omega) (by omega) (by omega) (by omega) (by omega) (by omega)
        · rw [if_pos c7]
          refine Az.blk kd_6_best_33 (show Ez md_6_best 0 0 37 [(0, zr 113), (1, zi l1), (2, zi l2), (3, zi l3), (4, zi l4), (5, zi l5), (6, zi l6)] [zi 1, zi l6, zr 113] zSh μ _ _ _ from ?_)
          refine Az.cV (mc := md_6_ofWord) (k := 113) (n := 2) (As := [zi l6, zi 1]) (rest := []) kr_6_best_37 zw_722 ok_6_ofWord rfl rfl rfl trivial (mz_ofWord hB l6 1 (by omega) (by omega)) rfl rfl (show Ez md_6_best 0 0 40 [(0, zr 113), (1, zi l1), (2, zi l2), (3, zi l3), (4, zi l4), (5, zi l5), (6, zi l6)] [zi (mm_ofWord μ l6 1)] zSh μ _ _ _ from ?_)
          have r24 : 0 ≤ (mm_ofWord μ l6 1) ∧ (mm_ofWord μ l6 1) ≤ 26 ∧ ((1 : Int) < 2 → (mm_ofWord μ l6 1) ≤ 2) ∧ ((1 : Int) = 2 → (mm_ofWord μ l6 1) ≤ 8) := mr_ofWord hB l6 1 (by omega) (by omega)
          refine Az.blk kd_6_best_40 (show zR (mm_ofWord μ l6 1) ∧ zR l3 ∧ ((¬ (mm_ofWord μ l6 1) = l3 → Ez md_6_best 0 0 93 [(0, zr 113), (1, zi l1), (2, zi l2), (3, zi l3), (4, zi l4), (5, zi l5), (6, zi l6)] [] zSh μ _ _ _) ∧ ((mm_ofWord μ l6 1) = l3 → Ez md_6_best 0 0 44 [(0, zr 113), (1, zi l1), (2, zi l2), (3, zi l3), (4, zi l4), (5, zi l5), (6, zi l6)] [] zSh μ _ _ _)) from ⟨(by omega), (by omega), fun c25 => ?_, fun c25 => ?_⟩)
          · rw [if_neg c25]
            refine Az.blk kd_6_best_93 (show Ez md_6_best 0 0 7 [(6, zi (l6 + 1)), (0, zr 113), (1, zi l1), (2, zi l2), (3, zi l3), (4, zi l4), (5, zi l5)] [] zSh μ _ _ _ from ?_)
            have b26 : 0 ≤ (μ 114 2) ∧ (μ 114 2) ≤ 24 := hB 114 2
            refine Az.lvs (lv' := [(0, zr 113), (1, zi l1), (2, zi l2), (3, zi l3), (4, zi l4), (5, zi l5), (6, zi (l6 + 1))]) ?_ ?_
            · intro q hq; simp only [List.mem_cons, List.not_mem_nil, or_false] at hq; rcases hq with rfl | rfl | rfl | rfl | rfl | rfl | rfl <;> rfl
            exact ih μ hB l1 l2 l3 l4 l5 (l6 + 1) (by omega) (by omega) (by omega) (by omega) (by omega) (by omega) (by omega)
          · rw [if_pos c25]
            refine Az.blk kd_6_best_44 (show Ez md_6_best 0 0 48 [(0, zr 113), (1, zi l1), (2, zi l2), (3, zi l3), (4, zi l4), (5, zi l5), (6, zi l6)] [zi l2, zi l6, zr 113] zSh μ _ _ _ from ?_)
            refine Az.cV (mc := md_6_lengthOf) (k := 113) (n := 2) (As := [zi l6, zi l2]) (rest := []) kr_6_best_48 zw_786 ok_6_lengthOf rfl rfl rfl trivial (mz_lengthOf hB l6 l2 (by omega) (by omega)) rfl rfl (show Ez md_6_best 0 0 51 [(0, zr 113), (1, zi l1), (2, zi l2), (3, zi l3), (4, zi l4), (5, zi l5), (6, zi l6)] [zi (mm_lengthOf μ l6 l2)] zSh μ _ _ _ from ?_)
            have r27 : 0 ≤ (mm_lengthOf μ l6 l2) ∧ (mm_lengthOf μ l6 l2) ≤ 10 := mr_lengthOf hB l6 l2 (by omega) (by omega)
            refine Az.blk kd_6_best_51 (show zR l5 ∧ zR (-5) ∧ ((l5 = (-5) → Ez md_6_best 0 0 84 [(7, zi (mm_lengthOf μ l6 l2)), (0, zr 113), (1, zi l1), (2, zi l2), (3, zi l3), (4, zi l4), (5, zi l5), (6, zi l6)] [] zSh μ _ _ _) ∧ (¬ l5 = (-5) → Ez md_6_best 0 0 60 [(7, zi (mm_lengthOf μ l6 l2)), (0, zr 113), (1, zi l1), (2, zi l2), (3, zi l3), (4, zi l4), (5, zi l5), (6, zi l6)] [] zSh μ _ _ _)) from ⟨(by omega), (by omega), fun c28 => ?_, fun c28 => ?_⟩)
            · rw [if_pos c28]
              refine Az.blk kd_6_best_84 (show Ez md_6_best 0 0 91 [(7, zi (mm_lengthOf μ l6 l2)), (0, zr 113), (1, zi l1), (2, zi l2), (3, zi l3), (4, zi l4), (5, zi l5), (6, zi l6)] [zi (mm_lengthOf μ l6 l2)] zSh μ _ _ _ from ?_)
              refine Az.blk kd_6_best_91 (show Ez md_6_best 0 0 7 [(6, zi (l6 + 1)), (5, zi (mm_lengthOf μ l6 l2)), (7, zi (mm_lengthOf μ l6 l2)), (0, zr 113), (1, zi l1), (2, zi l2), (3, zi l3), (4, zi l4)] [] zSh μ _ _ _ from ?_)
              have b29 : 0 ≤ (μ 114 2) ∧ (μ 114 2) ≤ 24 := hB 114 2
              refine Az.lvs (lv' := [(0, zr 113), (1, zi l1), (2, zi l2), (3, zi l3), (4, zi l4), (5, zi (mm_lengthOf μ l6 l2)), (6, zi (l6 + 1))]) ?_ ?_
              · intro q hq; simp only [List.mem_cons, List.not_mem_nil, or_false] at hq; rcases hq with rfl | rfl | rfl | rfl | rfl | rfl | rfl <;> rfl
              exact ih μ hB l1 l2 l3 l4 (mm_lengthOf μ l6 l2) (l6 + 1) (by omega) (by omega) (by omega) (by omega) (by omega) (by omega) (by omega)
            · rw [if_neg c28]
              refine Az.blk kd_6_best_60 (show zR l4 ∧ ((l4 = 0 → Ez md_6_best 0 0 72 [(7, zi (mm_lengthOf μ l6 l2)), (0, zr 113), (1, zi l1), (2, zi l2), (3, zi l3), (4, zi l4), (5, zi l5), (6, zi l6)] [] zSh μ _ _ _) ∧ (¬ l4 = 0 → Ez md_6_best 0 0 65 [(7, zi (mm_lengthOf μ l6 l2)), (0, zr 113), (1, zi l1), (2, zi l2), (3, zi l3), (4, zi l4), (5, zi l5), (6, zi l6)] [] zSh μ _ _ _)) from ⟨(by omega), fun c30 => ?_, fun c30 => ?_⟩)
              · rw [if_pos c30]
                refine Az.blk kd_6_best_72 (show zR l4 ∧ ((¬ l4 = 0 → Ez md_6_best 0 0 89 [(7, zi (mm_lengthOf μ l6 l2)), (0, zr 113), (1, zi l1), (2, zi l2), (3, zi l3), (4, zi l4), (5, zi l5), (6, zi l6)] [] zSh μ _ _ _) ∧ (l4 = 0 → Ez md_6_best 0 0 77 [(7, zi (mm_lengthOf μ l6 l2)), (0, zr 113), (1, zi l1), (2, zi l2), (3, zi l3), (4, zi l4), (5, zi l5), (6, zi l6)] [] zSh μ _ _ _)) from ⟨(by omega), fun c31 => ?_, fun c31 => ?_⟩)
                · rw [if_neg c31]
                  refine Az.blk kd_6_best_89 (show Ez md_6_best 0 0 7 [(6, zi (l6 + 1)), (5, zi l5), (7, zi (mm_lengthOf μ l6 l2)), (0, zr 113), (1, zi l1), (2, zi l2), (3, zi l3), (4, zi l4)] [] zSh μ _ _ _ from ?_)
                  have b32 : 0 ≤ (μ 114 2) ∧ (μ 114 2) ≤ 24 := hB 114 2
                  refine Az.lvs (lv' := [(0, zr 113), (1, zi l1), (2, zi l2), (3, zi l3), (4, zi l4), (5, zi l5), (6, zi (l6 + 1))]) ?_ ?_
                  · intro q hq; simp only [List.mem_cons, List.not_mem_nil, or_false] at hq; rcases hq with rfl | rfl | rfl | rfl | rfl | rfl | rfl <;> rfl
                  exact ih μ hB l1 l2 l3 l4 l5 (l6 + 1) (by omega) (by omega) (by omega) (by omega) (by omega) (by omega) (by omega)
                · rw [if_pos c31]
                  refine Az.blk kd_6_best_77 (show zR (mm_lengthOf μ l6 l2) ∧ zR l5 ∧ ((¬ (mm_lengthOf μ l6 l2) < l5 → Ez md_6_best 0 0 89 [(7, zi (mm_lengthOf μ l6 l2)), (0, zr 113), (1, zi l1), (2, zi l2), (3, zi l3), (4, zi l4), (5, zi l5), (6, zi l6)] [] zSh μ _ _ _) ∧ ((mm_lengthOf μ l6 l2) < l5 → Ez md_6_best 0 0 84 [(7, zi (mm_lengthOf μ l6 l2)), (0, zr 113), (1, zi l1), (2, zi l2), (3, zi l3), (4, zi l4), (5, zi l5), (6, zi l6)] [] zSh μ _ _ _)) from ⟨(by omega), (by omega), fun c33 => ?_, fun c33 => ?_⟩)
                  · rw [if_neg c33]
                    refine Az.blk kd_6_best_89 (show Ez md_6_best 0 0 7 [(6, zi (l6 + 1)), (5, zi l5), (7, zi (mm_lengthOf μ l6 l2)), (0, zr 113), (1, zi l1), (2, zi l2), (3, zi l3), (4, zi l4)] [] zSh μ _ _ _ from ?_)
                    have b34 : 0 ≤ (μ 114 2) ∧ (μ 114 2) ≤ 24 := hB 114 2
                    refine Az.lvs (lv' := [(0, zr 113), (1, zi l1), (2, zi l2), (3, zi l3), (4, zi l4), (5, zi l5), (6, zi (l6 + 1))]) ?_ ?_
                    · intro q hq; simp only [List.mem_cons, List.not_mem_nil, or_false] at hq; rcases hq with rfl | rfl | rfl | rfl | rfl | rfl | rfl <;> rfl
                    exact ih μ hB l1 l2 l3 l4 l5 (l6 + 1) (by omega) (by omega) (by omega) (by omega) (by omega) (by omega) (by omega)
                  · rw [if_pos c33]
                    refine Az.blk kd_6_best_84 (show Ez md_6_best 0 0 91 [(7, zi (mm_lengthOf μ l6 l2)), (0, zr 113), (1, zi l1), (2, zi l2), (3, zi l3), (4, zi l4), (5, zi l5), (6, zi l6)] [zi (mm_lengthOf μ l6 l2)] zSh μ _ _ _ from ?_)
                    refine Az.blk kd_6_best_91 (show Ez md_6_best 0 0 7 [(6, zi (l6 + 1)), (5, zi (mm_lengthOf μ l6 l2)), (7, zi (mm_lengthOf μ l6 l2)), (0, zr 113), (1, zi l1), (2, zi l2), (3, zi l3), (4, zi l4)] [] zSh μ _ _ _ from ?_)
                    have b35 : 0 ≤ (μ 114 2) ∧ (μ 114 2) ≤ 24 := hB 114 2
                    refine Az.lvs (lv' := [(0, zr 113), (1, zi l1), (2, zi l2), (3, zi l3), (4, zi l4), (5, zi (mm_lengthOf μ l6 l2)), (6, zi (l6 + 1))]) ?_ ?_
                    · intro q hq; simp only [List.mem_cons, List.not_mem_nil, or_false] at hq; rcases hq with rfl | rfl | rfl | rfl | rfl | rfl | rfl <;> rfl
                    exact ih μ hB l1 l2 l3 l4 (mm_lengthOf μ l6 l2) (l6 + 1) (by omega) (by omega) (by omega) (by omega) (by omega) (by omega) (by omega)
              · rw [if_neg c30]
                refine Az.blk kd_6_best_65 (show zR (mm_lengthOf μ l6 l2) ∧ zR l5 ∧ ((l5 < (mm_lengthOf μ l6 l2) → Ez md_6_best 0 0 84 [(7, zi (mm_lengthOf μ l6 l2)), (0, zr 113), (1, zi l1), (2, zi l2), (3, zi l3), (4, zi l4), (5, zi l5), (6, zi l6)] [] zSh μ _ _ _) ∧ (¬ l5 < (mm_lengthOf μ l6 l2) → Ez md_6_best 0 0 72 [(7, zi (mm_lengthOf μ l6 l2)), (0, zr 113), (1, zi l1), (2, zi l2), (3, zi l3), (4, zi l4), (5, zi l5), (6, zi l6)] [] zSh μ _ _ _)) from ⟨(by omega), (by omega), fun c36 => ?_, fun c36 => ?_⟩)
                · rw [if_pos c36]
                  refine Az.blk kd_6_best_84 (show Ez md_6_best 0 0 91 [(7, zi (mm_lengthOf μ l6 l2)), (0, zr 113), (1, zi l1), (2, zi l2), (3, zi l3), (4, zi l4), (5, zi l5), (6, zi l6)] [zi (mm_lengthOf μ l6 l2)] zSh μ _ _ _ from ?_)
                  refine Az.blk kd_6_best_91 (show Ez md_6_best 0 0 7 [(6, zi (l6 + 1)), (5, zi (mm_lengthOf μ l6 l2)), (7, zi (mm_lengthOf μ l6 l2)), (0, zr 113), (1, zi l1), (2, zi l2), (3, zi l3), (4, zi l4)] [] zSh μ _ _ _ from ?_)
                  have b37 : 0 ≤ (μ 114 2) ∧ (μ 114 2) ≤ 24 := hB 114 2
                  refine Az.lvs (lv' := [(0, zr 113), (1, zi l1), (2, zi l2), (3, zi l3), (4, zi l4), (5, zi (mm_lengthOf μ l6 l2)), (6, zi (l6 + 1))]) ?_ ?_
                  · intro q hq; simp only [List.mem_cons, List.not_mem_nil, or_false] at hq; rcases hq with rfl | rfl | rfl | rfl | rfl | rfl | rfl <;> rfl
                  exact ih μ hB l1 l2 l3 l4 (mm_lengthOf μ l6 l2) (l6 + 1) (by omega) (by omega) (by omega) (by omega) (by omega) (by omega) (by omega)
                · rw [if_neg c36]
                  refine Az.blk kd_6_best_72 (show zR l4 ∧ ((¬ l4 = 0 → Ez md_6_best 0 0 89 [(7, zi (mm_lengthOf μ l6 l2)), (0, zr 113), (1, zi l1), (2, zi l2), (3, zi l3), (4, zi l4), (5, zi l5), (6, zi l6)] [] zSh μ _ _ _) ∧ (l4 = 0 → Ez md_6_best 0 0 77 [(7, zi (mm_lengthOf μ l6 l2)), (0, zr 113), (1, zi l1), (2, zi l2), (3, zi l3), (4, zi l4), (5, zi l5), (6, zi l6)] [] zSh μ _ _ _)) from ⟨(by omega), fun c38 => ?_, fun c38 => ?_⟩)
                  · rw [if_neg c38]
                    refine Az.blk kd_6_best_89 (show Ez md_6_best 0 0 7 [(6, zi (l6 + 1)), (5, zi l5), (7, zi (mm_lengthOf μ l6 l2)), (0, zr 113), (1, zi l1), (2, zi l2), (3, zi l3), (4, zi l4)] [] zSh μ _ _ _ from ?_)
                    have b39 : 0 ≤ (μ 114 2) ∧ (μ 114 2) ≤ 24 := hB 114 2
                    refine Az.lvs (lv' := [(0, zr 113), (1, zi l1), (2, zi l2), (3, zi l3), (4, zi l4), (5, zi l5), (6, zi (l6 + 1))]) ?_ ?_
                    · intro q hq; simp only [List.mem_cons, List.not_mem_nil, or_false] at hq; rcases hq with rfl | rfl | rfl | rfl | rfl | rfl | rfl <;> rfl
                    exact ih μ hB l1 l2 l3 l4 l5 (l6 + 1) (by omega) (by omega) (by omega) (by omega) (by omega) (by omega) (by omega)
                  · rw [if_pos c38]
                    refine Az.blk kd_6_best_77 (show zR (mm_lengthOf μ l6 l2) ∧ zR l5 ∧ ((¬ (mm_lengthOf μ l6 l2) < l5 → Ez md_6_best 0 0 89 [(7, zi (mm_lengthOf μ l6 l2)), (0, zr 113), (1, zi l1), (2, zi l2), (3, zi l3), (4, zi l4), (5, zi l5), (6, zi l6)] [] zSh μ _ _ _) ∧ ((mm_lengthOf μ l6 l2) < l5 → Ez md_6_best 0 0 84 [(7, zi (mm_lengthOf μ l6 l2)), (0, zr 113), (1, zi l1), (2, zi l2), (3, zi l3), (4, zi l4), (5, zi l5), (6, zi l6)] [] zSh μ _ _ _)) from ⟨(by omega), (by omega), fun c40 => ?_, fun c40 => ?_⟩)
                    · rw [if_neg c40]
                      refine Az.blk kd_6_best_89 (show Ez md_6_best 0 0 7 [(6, zi (l6 + 1)), (5, zi l5), (7, zi (mm_lengthOf μ l6 l2)), (0, zr 113), (1, zi l1), (2, zi l2), (3, zi l3), (4, zi l4)] [] zSh μ _ _ _ from ?_)
                      have b41 : 0 ≤ (μ 114 2) ∧ (μ 114 2) ≤ 24 := hB 114 2
                      refine Az.lvs (lv' := [(0, zr 113), (1, zi l1), (2, zi l2), (3, zi l3), (4, zi l4), (5, zi l5), (6, zi (l6 + 1))]) ?_ ?_
                      · intro q hq; simp only [List.mem_cons, List.not_mem_nil, or_false] at hq; rcases hq with rfl | rfl | rfl | rfl | rfl | rfl | rfl <;> rfl
                      exact ih μ hB l1 l2 l3 l4 l5 (l6 + 1) (by omega) (by omega) (by omega) (by omega) (by omega) (by omega) (by omega)
                    · rw [if_pos c40]
                      refine Az.blk kd_6_best_84 (show Ez md_6_best 0 0 91 [(7, zi (mm_lengthOf μ l6 l2)), (0, zr 113), (1, zi l1), (2, zi l2), (3, zi l3), (4, zi l4), (5, zi l5), (6, zi l6)] [zi (mm_lengthOf μ l6 l2)] zSh μ _ _ _ from ?_)
                      refine Az.blk kd_6_best_91 (show Ez md_6_best 0 0 7 [(6, zi (l6 + 1)), (5, zi (mm_lengthOf μ l6 l2)), (7, zi (mm_lengthOf μ l6 l2)), (0, zr 113), (1, zi l1), (2, zi l2), (3, zi l3), (4, zi l4)] [] zSh μ _ _ _ from ?_)
                      have b42 : 0 ≤ (μ 114 2) ∧ (μ 114 2) ≤ 24 := hB 114 2
                      refine Az.lvs (lv' := [(0, zr 113), (1, zi l1), (2, zi l2), (3, zi l3), (4, zi l4), (5, zi (mm_lengthOf μ l6 l2)), (6, zi (l6 + 1))]) ?_ ?_
                      · intro q hq; simp only [List.mem_cons, List.not_mem_nil, or_false] at hq; rcases hq with rfl | rfl | rfl | rfl | rfl | rfl | rfl <;> rfl
                      exact ih μ hB l1 l2 l3 l4 (mm_lengthOf μ l6 l2) (l6 + 1) (by omega) (by omega) (by omega) (by omega) (by omega) (by omega) (by omega)
set_option maxHeartbeats 4000000 in
set_option maxRecDepth 100000 in
theorem mz_best {μ : zM} (hB : zB μ) (a1 a2 a3 a4 : Int) (h0 : -2147483648 ≤ a1 ∧ a1 ≤ 2147483647) (h1 : -2147483648 ≤ a3 ∧ a3 ≤ 2147483647) (h2 : -2147483648 ≤ a4 ∧ a4 ≤ 2147483647) (h3 : 0 ≤ a2 ∧ a2 ≤ 5) : Dz md_6_best [zr 113, zi a1, zi a2, zi a3, zi a4] zSh μ (some (zi (mm_best μ a1 a2 a3 a4))) zSh μ := by
  refine Dz.of (by decide) rfl rfl (show Ez md_6_best 0 0 0 [(0, zr 113), (1, zi a1), (2, zi a2), (3, zi a3), (4, zi a4)] [] zSh μ (some (zi (mm_best μ a1 a2 a3 a4))) zSh μ from ?_)
  unfold mm_best
  refine Az.blk kd_6_best_0 (show Ez md_6_best 0 0 7 [(6, zi 0), (5, zi (-5)), (0, zr 113), (1, zi a1), (2, zi a2), (3, zi a3), (4, zi a4)] [] zSh μ _ _ _ from ?_)
  have b1 : 0 ≤ (μ 114 2) ∧ (μ 114 2) ≤ 24 := hB 114 2
  refine Az.lvs (lv' := [(0, zr 113), (1, zi a1), (2, zi a2), (3, zi a3), (4, zi a4), (5, zi (-5)), (6, zi 0)]) ?_ ?_
  · intro q hq; simp only [List.mem_cons, List.not_mem_nil, or_false] at hq; rcases hq with rfl | rfl | rfl | rfl | rfl | rfl | rfl <;> rfl
  have fb : (3000 : Int) ≤ ((zN : Nat) : Int) := zN_big
  exact mz_best_7 zN μ hB a1 a2 a3 a4 (-5) 0 (by omega) (by omega) (by omega) (by omega) (by omega) (by omega) (by omega)
def kb_6_couldWith_0 : List zI := [(.iconst 0, 1, 0, 0), (.istore 4, 2, 0, 0), (.iconst 0, 1, 0, 0), (.istore 5, 2, 0, 0)]
theorem kd_6_couldWith_0 : zdec md_6_couldWith 0 kb_6_couldWith_0 = true := by decide +kernel
def kb_6_couldWith_6 : List zI := [(.iload 5, 2, 0, 0), (.aload_n 0, 1, 0, 0), (.getfield 7, 3, 6, 0), (.iconst 3, 1, 0, 0), (.iaload, 1, 0, 0), (.if_icmp .ge 73, 3, 87, 0)]
theorem kd_6_couldWith_6 : zdec md_6_couldWith 6 kb_6_couldWith_6 = true := by decide +kernel
def kb_6_couldWith_87 : List zI := [(.iload 4, 2, 0, 0)]
theorem kd_6_couldWith_87 : zdec md_6_couldWith 87 kb_6_couldWith_87 = true := by decide +kernel
theorem kr_6_couldWith_89 : decode md_6_couldWith.2.1 89 = .ok (.ireturn, 1) := by decide +kernel
def kb_6_couldWith_17 : List zI := [(.aload_n 0, 1, 0, 0), (.iload 5, 2, 0, 0)]
theorem kd_6_couldWith_17 : zdec md_6_couldWith 17 kb_6_couldWith_17 = true := by decide +kernel
theorem kr_6_couldWith_20 : decode md_6_couldWith.2.1 20 = .ok (.invokevirtual 51, 3) := by decide +kernel
def kb_6_couldWith_23 : List zI := [(.ifCond .eq 58, 3, 81, 0)]
theorem kd_6_couldWith_23 : zdec md_6_couldWith 23 kb_6_couldWith_23 = true := by decide +kernel
def kb_6_couldWith_81 : List zI := [(.iinc 5 1, 3, 0, 0), (.goto (-78), 3, 6, 0)]
theorem kd_6_couldWith_81 : zdec md_6_couldWith 81 kb_6_couldWith_81 = true := by decide +kernel
def kb_6_couldWith_26 : List zI := [(.aload_n 0, 1, 0, 0), (.iload 5, 2, 0, 0), (.iconst 2, 1, 0, 0)]
theorem kd_6_couldWith_26 : zdec md_6_couldWith 26 kb_6_couldWith_26 = true := by decide +kernel
theorem kr_6_couldWith_30 : decode md_6_couldWith.2.1 30 = .ok (.invokevirtual 48, 3) := by decide +kernel
def kb_6_couldWith_33 : List zI := [(.iload_n 1, 1, 0, 0), (.if_icmp .ne 47, 3, 81, 0)]
theorem kd_6_couldWith_33 : zdec md_6_couldWith 33 kb_6_couldWith_33 = true := by decide +kernel
def kb_6_couldWith_37 : List zI := [(.aload_n 0, 1, 0, 0), (.iload 5, 2, 0, 0), (.iconst 1, 1, 0, 0)]
theorem kd_6_couldWith_37 : zdec md_6_couldWith 37 kb_6_couldWith_37 = true := by decide +kernel
theorem kr_6_couldWith_41 : decode md_6_couldWith.2.1 41 = .ok (.invokevirtual 48, 3) := by decide +kernel
def kb_6_couldWith_44 : List zI := [(.istore 6, 2, 0, 0), (.aload_n 0, 1, 0, 0), (.iload 6, 2, 0, 0), (.aload_n 0, 1, 0, 0), (.iload 6, 2, 0, 0), (.iload_n 1, 1, 0, 0), (.iload_n 2, 1, 0, 0)]
theorem kd_6_couldWith_44 : zdec md_6_couldWith 44 kb_6_couldWith_44 = true := by decide +kernel
theorem kr_6_couldWith_54 : decode md_6_couldWith.2.1 54 = .ok (.invokevirtual 71, 3) := by decide +kernel
def kb_6_couldWith_57 : List zI := [(.iload_n 2, 1, 0, 0), (.iload_n 3, 1, 0, 0)]
theorem kd_6_couldWith_57 : zdec md_6_couldWith 57 kb_6_couldWith_57 = true := by decide +kernel
theorem kr_6_couldWith_59 : decode md_6_couldWith.2.1 59 = .ok (.invokevirtual 166, 3) := by decide +kernel
def kb_6_couldWith_62 : List zI := [(.istore 7, 2, 0, 0), (.iload 7, 2, 0, 0), (.bipush (-5), 2, 0, 0), (.if_icmp .ne 6, 3, 74, 0)]
theorem kd_6_couldWith_62 : zdec md_6_couldWith 62 kb_6_couldWith_62 = true := by decide +kernel
def kb_6_couldWith_74 : List zI := [(.iload 4, 2, 0, 0), (.iload 7, 2, 0, 0), (.iadd, 1, 0, 0), (.istore 4, 2, 0, 0), (.iinc 5 1, 3, 0, 0), (.goto (-78), 3, 6, 0)]
theorem kd_6_couldWith_74 : zdec md_6_couldWith 74 kb_6_couldWith_74 = true := by decide +kernel
def kb_6_couldWith_71 : List zI := [(.bipush (-5), 2, 0, 0)]
theorem kd_6_couldWith_71 : zdec md_6_couldWith 71 kb_6_couldWith_71 = true := by decide +kernel
theorem kr_6_couldWith_73 : decode md_6_couldWith.2.1 73 = .ok (.ireturn, 1) := by decide +kernel
noncomputable def mm_couldWith_6 : Nat → zM → Int → Int → Int → Int → Int → Int
  | 0, μ, _, _, _, _, _ => 0
  | f + 1, μ, l1, l2, l3, l4, l5 => (if l5 < (μ 114 3) then (if (mm_isHoleAt μ l5) = 0 then (mm_couldWith_6 f μ l1 l2 l3 l4 (l5 + 1)) else (if (mm_ofItem μ l5 2) = l1 then (if (mm_best μ (mm_ofItem μ l5 1) (mm_form μ (mm_ofItem μ l5 1) l1 l2) l2 l3) = (-5) then (-5) else (mm_couldWith_6 f μ l1 l2 l3 (l4 + (mm_best μ (mm_ofItem μ l5 1) (mm_form μ (mm_ofItem μ l5 1) l1 l2) l2 l3)) (l5 + 1))) else (mm_couldWith_6 f μ l1 l2 l3 l4 (l5 + 1)))) else l4)
noncomputable def mm_couldWith (μ : zM) (a1 a2 a3 : Int) : Int := (mm_couldWith_6 zN μ a1 a2 a3 0 0)
set_option maxHeartbeats 4000000 in
set_option maxRecDepth 100000 in
theorem mr_couldWith_6 (f : Nat) (μ : zM) (hB : zB μ) (l1 : Int) (l2 : Int) (l3 : Int) (l4 : Int) (l5 : Int) (i0 : 0 ≤ l5 ∧ l5 ≤ (μ 114 3)) (i1 : 0 ≤ l4 ∧ l4 ≤ 10 * l5) (i2 : 0 ≤ l2 ∧ l2 ≤ 2) (i3 : -2147483648 ≤ l1 ∧ l1 ≤ 2147483647) (i4 : -2147483648 ≤ l3 ∧ l3 ≤ 2147483647) (hf : (μ 114 3) - l5 < (f : Int)) : ((mm_couldWith_6 f μ l1 l2 l3 l4 l5) = -5 ∨ (0 ≤ (mm_couldWith_6 f μ l1 l2 l3 l4 l5) ∧ (mm_couldWith_6 f μ l1 l2 l3 l4 l5) ≤ 200)) := by
  induction f generalizing μ l1 l2 l3 l4 l5 with
  | zero => exfalso; omega
  | succ f ih =>
    replace hf : (μ 114 3) - l5 < (f : Int) + 1 := by omega
    rw [mm_couldWith_6]
    have b2 : 0 ≤ (μ 114 3) ∧ (μ 114 3) ≤ 20 := hB 114 3
    by_cases c3 : l5 < (μ 114 3)
    · rw [if_pos c3]
      have r4 : 0 ≤ (mm_isHoleAt μ l5) ∧ (mm_isHoleAt μ l5) ≤ 1 := mr_isHoleAt hB l5 (by omega)
      by_cases c5 : (mm_isHoleAt μ l5) = 0
      · rw [if_pos c5]
        have b6 : 0 ≤ (μ 114 3) ∧ (μ 114 3) ≤ 20 := hB 114 3
        exact ih μ hB l1 l2 l3 l4 (l5 + 1) (by omega) (by omega) (by omega) (by omega) (by omega) (by omega)
      · rw [if_neg c5]
        have r7 : -5 ≤ (mm_ofItem μ l5 2) ∧ (mm_ofItem μ l5 2) ≤ 26 ∧ ((2 : Int) = 0 → 0 ≤ (mm_ofItem μ l5 2) ∧ (mm_ofItem μ l5 2) ≤ 1) ∧ ((2 : Int) = 1 → 0 ≤ (mm_ofItem μ l5 2) ∧ (mm_ofItem μ l5 2) ≤ 10) ∧ ((2 : Int) = 2 → 0 ≤ (mm_ofItem μ l5 2) ∧ (mm_ofItem μ l5 2) ≤ 9) ∧ ((2 : Int) = 3 → (mm_ofItem μ l5 2) = -5 ∨ (0 ≤ (mm_ofItem μ l5 2) ∧ (mm_ofItem μ l5 2) ≤ 23)) ∧ (3 < (2 : Int) → 0 ≤ (mm_ofItem μ l5 2)) := mr_ofItem hB l5 2 (by omega) (by omega)
        by_cases c8 : (mm_ofItem μ l5 2) = l1
        · rw [if_pos c8]
          have r10 : -5 ≤ (mm_ofItem μ l5 1) ∧ (mm_ofItem μ l5 1) ≤ 26 ∧ ((1 : Int) = 0 → 0 ≤ (mm_ofItem μ l5 1) ∧ (mm_ofItem μ l5 1) ≤ 1) ∧ ((1 : Int) = 1 → 0 ≤ (mm_ofItem μ l5 1) ∧ (mm_ofItem μ l5 1) ≤ 10) ∧ ((1 : Int) = 2 → 0 ≤ (mm_ofItem μ l5 1) ∧ (mm_ofItem μ l5 1) ≤ 9) ∧ ((1 : Int) = 3 → (mm_ofItem μ l5 1) = -5 ∨ (0 ≤ (mm_ofItem μ l5 1) ∧ (mm_ofItem μ l5 1) ≤ 23)) ∧ (3 < (1 : Int) → 0 ≤ (mm_ofItem μ l5 1)) := mr_ofItem hB l5 1 (by omega) (by omega)
          have r11 : 0 ≤ (mm_form μ (mm_ofItem μ l5 1) l1 l2) ∧ (mm_form μ (mm_ofItem μ l5 1) l1 l2) ≤ 5 := mr_form hB (mm_ofItem μ l5 1) l1 l2 (by omega) (by omega) (by omega)
          have r12 : ((mm_best μ (mm_ofItem μ l5 1) (mm_form μ (mm_ofItem μ l5 1) l1 l2) l2 l3) = -5 ∨ (0 ≤ (mm_best μ (mm_ofItem μ l5 1) (mm_form μ (mm_ofItem μ l5 1) l1 l2) l2 l3) ∧ (mm_best μ (mm_ofItem μ l5 1) (mm_form μ (mm_ofItem μ l5 1) l1 l2) l2 l3) ≤ 10)) := mr_best hB (mm_ofItem μ l5 1) (mm_form μ (mm_ofItem μ l5 1) l1 l2) l2 l3 (by omega) (by omega) (by omega) (by omega)
          by_cases c13 : (mm_best μ (mm_ofItem μ l5 1) (mm_form μ (mm_ofItem μ l5 1) l1 l2) l2 l3) = (-5)
          · rw [if_pos c13]
            first | omega | (dsimp only; omega)
          · rw [if_neg c13]
            have b14 : 0 ≤ (μ 114 3) ∧ (μ 114 3) ≤ 20 := hB 114 3
            exact ih μ hB l1 l2 l3 (l4 + (mm_best μ (mm_ofItem μ l5 1) (mm_form μ (mm_ofItem μ l5 1) l1 l2) l2 l3)) (l5 + 1) (by omega) (by omega) (by omega) (by omega) (by omega) (by omega)
        · rw [if_neg c8]
          have b9 : 0 ≤ (μ 114 3) ∧ (μ 114 3) ≤ 20 := hB 114 3
          exact ih μ hB l1 l2 l3 l4 (l5 + 1) (by omega) (by omega) (by omega) (by omega) (by omega) (by omega)
    · rw [if_neg c3]
      first | omega | (dsimp only; omega)
set_option maxHeartbeats 4000000 in
set_option maxRecDepth 100000 in
theorem mr_couldWith {μ : zM} (hB : zB μ) (a1 a2 a3 : Int) (h0 : -2147483648 ≤ a1 ∧ a1 ≤ 2147483647) (h1 : -2147483648 ≤ a3 ∧ a3 ≤ 2147483647) (h2 : 0 ≤ a2 ∧ a2 ≤ 2) : ((mm_couldWith μ a1 a2 a3) = -5 ∨ (0 ≤ (mm_couldWith μ a1 a2 a3) ∧ (mm_couldWith μ a1 a2 a3) ≤ 200)) := by
  unfold mm_couldWith
  have b1 : 0 ≤ (μ 114 3) ∧ (μ 114 3) ≤ 20 := hB 114 3
  have fb : (3000 : Int) ≤ ((zN : Nat) : Int) := zN_big
  exact mr_couldWith_6 zN μ hB a1 a2 a3 0 0 (by omega) (by omega) (by omega) (by omega) (by omega) (by omega)
set_option maxHeartbeats 4000000 in
set_option maxRecDepth 100000 in
theorem mz_couldWith_6 (f : Nat) (μ : zM) (hB : zB μ) (l1 : Int) (l2 : Int) (l3 : Int) (l4 : Int) (l5 : Int) (i0 : 0 ≤ l5 ∧ l5 ≤ (μ 114 3)) (i1 : 0 ≤ l4 ∧ l4 ≤ 10 * l5) (i2 : 0 ≤ l2 ∧ l2 ≤ 2) (i3 : -2147483648 ≤ l1 ∧ l1 ≤ 2147483647) (i4 : -2147483648 ≤ l3 ∧ l3 ≤ 2147483647) (hf : (μ 114 3) - l5 < (f : Int)) : Ez md_6_couldWith 0 0 6 [(0, zr 113), (1, zi l1), (2, zi l2), (3, zi l3), (4, zi l4), (5, zi l5)] [] zSh μ (some (zi (mm_couldWith_6 f μ l1 l2 l3 l4 l5))) zSh μ := by
  induction f generalizing μ l1 l2 l3 l4 l5 with
  | zero => exfalso; omega
  | succ f ih =>
    replace hf : (μ 114 3) - l5 < (f : Int) + 1 := by omega
    rw [mm_couldWith_6]
    have b2 : 0 ≤ (μ 114 3) ∧ (μ 114 3) ≤ 20 := hB 114 3
    refine Az.blk kd_6_couldWith_6 (show (0 ≤ 3 ∧ 3 < 604) ∧ zR l5 ∧ zR (μ 114 3) ∧ ((¬ l5 < (μ 114 3) → Ez md_6_couldWith 0 0 87 [(0, zr 113), (1, zi l1), (2, zi l2), (3, zi l3), (4, zi l4), (5, zi l5)] [] zSh μ _ _ _) ∧ (l5 < (μ 114 3) → Ez md_6_couldWith 0 0 17 [(0, zr 113), (1, zi l1), (2, zi l2), (3, zi l3), (4, zi l4), (5, zi l5)] [] zSh μ _ _ _)) from ⟨(by omega), (by omega), (by omega), fun c3 => ?_, fun c3 => ?_⟩)
    · rw [if_neg c3]
      refine Az.blk kd_6_couldWith_87 (show Ez md_6_couldWith 0 0 89 [(0, zr 113), (1, zi l1), (2, zi l2), (3, zi l3), (4, zi l4), (5, zi l5)] [zi l4] zSh μ _ _ _ from ?_)
      exact Ez.iret kr_6_couldWith_89 rfl (Nat.zero_le _) (Nat.zero_le _) rfl rfl
    · rw [if_pos c3]
      refine Az.blk kd_6_couldWith_17 (show Ez md_6_couldWith 0 0 20 [(0, zr 113), (1, zi l1), (2, zi l2), (3, zi l3), (4, zi l4), (5, zi l5)] [zi l5, zr 113] zSh μ _ _ _ from ?_)
      refine Az.cV (mc := md_6_isHoleAt) (k := 113) (n := 1) (As := [zi l5]) (rest := []) kr_6_couldWith_20 zw_678 ok_6_isHoleAt rfl rfl rfl trivial (mz_isHoleAt hB l5 (by omega)) rfl rfl (show Ez md_6_couldWith 0 0 23 [(0, zr 113), (1, zi l1), (2, zi l2), (3, zi l3), (4, zi l4), (5, zi l5)] [zi (mm_isHoleAt μ l5)] zSh μ _ _ _ from ?_)
      have r4 : 0 ≤ (mm_isHoleAt μ l5) ∧ (mm_isHoleAt μ l5) ≤ 1 := mr_isHoleAt hB l5 (by omega)
      refine Az.blk kd_6_couldWith_23 (show zR (mm_isHoleAt μ l5) ∧ (((mm_isHoleAt μ l5) = 0 → Ez md_6_couldWith 0 0 81 [(0, zr 113), (1, zi l1), (2, zi l2), (3, zi l3), (4, zi l4), (5, zi l5)] [] zSh μ _ _ _) ∧ (¬ (mm_isHoleAt μ l5) = 0 → Ez md_6_couldWith 0 0 26 [(0, zr 113), (1, zi l1), (2, zi l2), (3, zi l3), (4, zi l4), (5, zi l5)] [] zSh μ _ _ _)) from ⟨(by omega), fun c5 => ?_, fun c5 => ?_⟩)
      · rw [if_pos c5]
        refine Az.blk kd_6_couldWith_81 (show Ez md_6_couldWith 0 0 6 [(5, zi (l5 + 1)), (0, zr 113), (1, zi l1), (2, zi l2), (3, zi l3), (4, zi l4)] [] zSh μ _ _ _ from ?_)
        have b6 : 0 ≤ (μ 114 3) ∧ (μ 114 3) ≤ 20 := hB 114 3
        refine Az.lvs (lv' := [(0, zr 113), (1, zi l1), (2, zi l2), (3, zi l3), (4, zi l4), (5, zi (l5 + 1))]) ?_ ?_
        · intro q hq; simp only [List.mem_cons, List.not_mem_nil, or_false] at hq; rcases hq with rfl | rfl | rfl | rfl | rfl | rfl <;> rfl
        exact ih μ hB l1 l2 l3 l4 (l5 + 1) (by omega) (by omega) (by omega) (by omega) (by omega) (by omega)
      · rw [if_neg c5]
        refine Az.blk kd_6_couldWith_26 (show Ez md_6_couldWith 0 0 30 [(0, zr 113), (1, zi l1), (2, zi l2), (3, zi l3), (4, zi l4), (5, zi l5)] [zi 2, zi l5, zr 113] zSh μ _ _ _ from ?_)
        refine Az.cV (mc := md_6_ofItem) (k := 113) (n := 2) (As := [zi l5, zi 2]) (rest := []) kr_6_couldWith_30 zw_682 ok_6_ofItem rfl rfl rfl trivial (mz_ofItem hB l5 2 (by omega) (by omega)) rfl rfl (show Ez md_6_couldWith 0 0 33 [(0, zr 113), (1, zi l1), (2, zi l2), (3, zi l3), (4, zi l4), (5, zi l5)] [zi (mm_ofItem μ l5 2)] zSh μ _ _ _ from ?_)
        have r7 : -5 ≤ (mm_ofItem μ l5 2) ∧ (mm_ofItem μ l5 2) ≤ 26 ∧ ((2 : Int) = 0 → 0 ≤ (mm_ofItem μ l5 2) ∧ (mm_ofItem μ l5 2) ≤ 1) ∧ ((2 : Int) = 1 → 0 ≤ (mm_ofItem μ l5 2) ∧ (mm_ofItem μ l5 2) ≤ 10) ∧ ((2 : Int) = 2 → 0 ≤ (mm_ofItem μ l5 2) ∧ (mm_ofItem μ l5 2) ≤ 9) ∧ ((2 : Int) = 3 → (mm_ofItem μ l5 2) = -5 ∨ (0 ≤ (mm_ofItem μ l5 2) ∧ (mm_ofItem μ l5 2) ≤ 23)) ∧ (3 < (2 : Int) → 0 ≤ (mm_ofItem μ l5 2)) := mr_ofItem hB l5 2 (by omega) (by omega)
        refine Az.blk kd_6_couldWith_33 (show zR (mm_ofItem μ l5 2) ∧ zR l1 ∧ ((¬ (mm_ofItem μ l5 2) = l1 → Ez md_6_couldWith 0 0 81 [(0, zr 113), (1, zi l1), (2, zi l2), (3, zi l3), (4, zi l4), (5, zi l5)] [] zSh μ _ _ _) ∧ ((mm_ofItem μ l5 2) = l1 → Ez md_6_couldWith 0 0 37 [(0, zr 113), (1, zi l1), (2, zi l2), (3, zi l3), (4, zi l4), (5, zi l5)] [] zSh μ _ _ _)) from ⟨(by omega), (by omega), fun c8 => ?_, fun c8 => ?_⟩)
        · rw [if_neg c8]
          refine Az.blk kd_6_couldWith_81 (show Ez md_6_couldWith 0 0 6 [(5, zi (l5 + 1)), (0, zr 113), (1, zi l1), (2, zi l2), (3, zi l3), (4, zi l4)] [] zSh μ _ _ _ from ?_)
          have b9 : 0 ≤ (μ 114 3) ∧ (μ 114 3) ≤ 20 := hB 114 3
          refine Az.lvs (lv' := [(0, zr 113), (1, zi l1), (2, zi l2), (3, zi l3), (4, zi l4), (5, zi (l5 + 1))]) ?_ ?_
          · intro q hq; simp only [List.mem_cons, List.not_mem_nil, or_false] at hq; rcases hq with rfl | rfl | rfl | rfl | rfl | rfl <;> rfl
          exact ih μ hB l1 l2 l3 l4 (l5 + 1) (by omega) (by omega) (by omega) (by omega) (by omega) (by omega)
        · rw [if_pos c8]
          refine Az.blk kd_6_couldWith_37 (show Ez md_6_couldWith 0 0 41 [(0, zr 113), (1, zi l1), (2, zi l2), (3, zi l3), (4, zi l4), (5, zi l5)] [zi 1, zi l5, zr 113] zSh μ _ _ _ from ?_)
          refine Az.cV (mc := md_6_ofItem) (k := 113) (n := 2) (As := [zi l5, zi 1]) (rest := []) kr_6_couldWith_41 zw_682 ok_6_ofItem rfl rfl rfl trivial (mz_ofItem hB l5 1 (by omega) (by omega)) rfl rfl (show Ez md_6_couldWith 0 0 44 [(0, zr 113), (1, zi l1), (2, zi l2), (3, zi l3), (4, zi l4), (5, zi l5)] [zi (mm_ofItem μ l5 1)] zSh μ _ _ _ from ?_)
          have r10 : -5 ≤ (mm_ofItem μ l5 1) ∧ (mm_ofItem μ l5 1) ≤ 26 ∧ ((1 : Int) = 0 → 0 ≤ (mm_ofItem μ l5 1) ∧ (mm_ofItem μ l5 1) ≤ 1) ∧ ((1 : Int) = 1 → 0 ≤ (mm_ofItem μ l5 1) ∧ (mm_ofItem μ l5 1) ≤ 10) ∧ ((1 : Int) = 2 → 0 ≤ (mm_ofItem μ l5 1) ∧ (mm_ofItem μ l5 1) ≤ 9) ∧ ((1 : Int) = 3 → (mm_ofItem μ l5 1) = -5 ∨ (0 ≤ (mm_ofItem μ l5 1) ∧ (mm_ofItem μ l5 1) ≤ 23)) ∧ (3 < (1 : Int) → 0 ≤ (mm_ofItem μ l5 1)) := mr_ofItem hB l5 1 (by omega) (by omega)
          refine Az.blk kd_6_couldWith_44 (show Ez md_6_couldWith 0 0 54 [(6, zi (mm_ofItem μ l5 1)), (0, zr 113), (1, zi l1), (2, zi l2), (3, zi l3), (4, zi l4), (5, zi l5)] [zi l2, zi l1, zi (mm_ofItem μ l5 1), zr 113, zi (mm_ofItem μ l5 1), zr 113] zSh μ _ _ _ from ?_)
          refine Az.cV (mc := md_6_form) (k := 113) (n := 3) (As := [zi (mm_ofItem μ l5 1), zi l1, zi l2]) (rest := [zi (mm_ofItem μ l5 1), zr 113]) kr_6_couldWith_54 zw_810 ok_6_form rfl rfl rfl trivial (mz_form hB (mm_ofItem μ l5 1) l1 l2 (by omega) (by omega) (by omega)) rfl rfl (show Ez md_6_couldWith 0 0 57 [(6, zi (mm_ofItem μ l5 1)), (0, zr 113), (1, zi l1), (2, zi l2), (3, zi l3), (4, zi l4), (5, zi l5)] [zi (mm_form μ (mm_ofItem μ l5 1) l1 l2), zi (mm_ofItem μ l5 1), zr 113] zSh μ _ _ _ from ?_)
          have r11 : 0 ≤ (mm_form μ (mm_ofItem μ l5 1) l1 l2) ∧ (mm_form μ (mm_ofItem μ l5 1) l1 l2) ≤ 5 := mr_form hB (mm_ofItem μ l5 1) l1 l2 (by omega) (by omega) (by omega)
          refine Az.blk kd_6_couldWith_57 (show Ez md_6_couldWith 0 0 59 [(6, zi (mm_ofItem μ l5 1)), (0, zr 113), (1, zi l1), (2, zi l2), (3, zi l3), (4, zi l4), (5, zi l5)] [zi l3, zi l2, zi (mm_form μ (mm_ofItem μ l5 1) l1 l2), zi (mm_ofItem μ l5 1), zr 113] zSh μ _ _ _ from ?_)
          refine Az.cV (mc := md_6_best) (k := 113) (n := 4) (As := [zi (mm_ofItem μ l5 1), zi (mm_form μ (mm_ofItem μ l5 1) l1 l2), zi l2, zi l3]) (rest := []) kr_6_couldWith_59 zw_854 ok_6_best rfl rfl rfl trivial (mz_best hB (mm_ofItem μ l5 1) (mm_form μ (mm_ofItem μ l5 1) l1 l2) l2 l3 (by omega) (by omega) (by omega) (by omega)) rfl rfl (show Ez md_6_couldWith 0 0 62 [(6, zi (mm_ofItem μ l5 1)), (0, zr 113), (1, zi l1), (2, zi l2), (3, zi l3), (4, zi l4), (5, zi l5)] [zi (mm_best μ (mm_ofItem μ l5 1) (mm_form μ (mm_ofItem μ l5 1) l1 l2) l2 l3)] zSh μ _ _ _ from ?_)
          have r12 : ((mm_best μ (mm_ofItem μ l5 1) (mm_form μ (mm_ofItem μ l5 1) l1 l2) l2 l3) = -5 ∨ (0 ≤ (mm_best μ (mm_ofItem μ l5 1) (mm_form μ (mm_ofItem μ l5 1) l1 l2) l2 l3) ∧ (mm_best μ (mm_ofItem μ l5 1) (mm_form μ (mm_ofItem μ l5 1) l1 l2) l2 l3) ≤ 10)) := mr_best hB (mm_ofItem μ l5 1) (mm_form μ (mm_ofItem μ l5 1) l1 l2) l2 l3 (by omega) (by omega) (by omega) (by omega)
          refine Az.blk kd_6_couldWith_62 (show zR (mm_best μ (mm_ofItem μ l5 1) (mm_form μ (mm_ofItem μ l5 1) l1 l2) l2 l3) ∧ zR (-5) ∧ ((¬ (mm_best μ (mm_ofItem μ l5 1) (mm_form μ (mm_ofItem μ l5 1) l1 l2) l2 l3) = (-5) → Ez md_6_couldWith 0 0 74 [(7, zi (mm_best μ (mm_ofItem μ l5 1) (mm_form μ (mm_ofItem μ l5 1) l1 l2) l2 l3)), (6, zi (mm_ofItem μ l5 1)), (0, zr 113), (1, zi l1), (2, zi l2), (3, zi l3), (4, zi l4), (5, zi l5)] [] zSh μ _ _ _) ∧ ((mm_best μ (mm_ofItem μ l5 1) (mm_form μ (mm_ofItem μ l5 1) l1 l2) l2 l3) = (-5) → Ez md_6_couldWith 0 0 71 [(7, zi (mm_best μ (mm_ofItem μ l5 1) (mm_form μ (mm_ofItem μ l5 1) l1 l2) l2 l3)), (6, zi (mm_ofItem μ l5 1)), (0, zr 113), (1, zi l1), (2, zi l2), (3, zi l3), (4, zi l4), (5, zi l5)] [] zSh μ _ _ _)) from ⟨(by omega), (by omega), fun c13 => ?_, fun c13 => ?_⟩)
          · rw [if_neg c13]
            refine Az.blk kd_6_couldWith_74 (show Ez md_6_couldWith 0 0 6 [(5, zi (l5 + 1)), (4, zi (l4 + (mm_best μ (mm_ofItem μ l5 1) (mm_form μ (mm_ofItem μ l5 1) l1 l2) l2 l3))), (7, zi (mm_best μ (mm_ofItem μ l5 1) (mm_form μ (mm_ofItem μ l5 1) l1 l2) l2 l3)), (6, zi (mm_ofItem μ l5 1)), (0, zr 113), (1, zi l1), (2, zi l2), (3, zi l3)] [] zSh μ _ _ _ from ?_)
            have b14 : 0 ≤ (μ 114 3) ∧ (μ 114 3) ≤ 20 := hB 114 3
            refine Az.lvs (lv' := [(0, zr 113), (1, zi l1), (2, zi l2), (3, zi l3), (4, zi (l4 + (mm_best μ (mm_ofItem μ l5 1) (mm_form μ (mm_ofItem μ l5 1) l1 l2) l2 l3))), (5, zi (l5 + 1))]) ?_ ?_
            · intro q hq; simp only [List.mem_cons, List.not_mem_nil, or_false] at hq; rcases hq with rfl | rfl | rfl | rfl | rfl | rfl <;> rfl
            exact ih μ hB l1 l2 l3 (l4 + (mm_best μ (mm_ofItem μ l5 1) (mm_form μ (mm_ofItem μ l5 1) l1 l2) l2 l3)) (l5 + 1) (by omega) (by omega) (by omega) (by omega) (by omega) (by omega)
          · rw [if_pos c13]
            refine Az.blk kd_6_couldWith_71 (show Ez md_6_couldWith 0 0 73 [(7, zi (mm_best μ (mm_ofItem μ l5 1) (mm_form μ (mm_ofItem μ l5 1) l1 l2) l2 l3)), (6, zi (mm_ofItem μ l5 1)), (0, zr 113), (1, zi l1), (2, zi l2), (3, zi l3), (4, zi l4), (5, zi l5)] [zi (-5)] zSh μ _ _ _ from ?_)
            exact Ez.iret kr_6_couldWith_73 rfl (Nat.zero_le _) (Nat.zero_le _) rfl rfl
set_option maxHeartbeats 4000000 in
set_option maxRecDepth 100000 in
theorem mz_couldWith {μ : zM} (hB : zB μ) (a1 a2 a3 : Int) (h0 : -2147483648 ≤ a1 ∧ a1 ≤ 2147483647) (h1 : -2147483648 ≤ a3 ∧ a3 ≤ 2147483647) (h2 : 0 ≤ a2 ∧ a2 ≤ 2) : Dz md_6_couldWith [zr 113, zi a1, zi a2, zi a3] zSh μ (some (zi (mm_couldWith μ a1 a2 a3))) zSh μ := by
  refine Dz.of (by decide) rfl rfl (show Ez md_6_couldWith 0 0 0 [(0, zr 113), (1, zi a1), (2, zi a2), (3, zi a3)] [] zSh μ (some (zi (mm_couldWith μ a1 a2 a3))) zSh μ from ?_)
  unfold mm_couldWith
  refine Az.blk kd_6_couldWith_0 (show Ez md_6_couldWith 0 0 6 [(5, zi 0), (4, zi 0), (0, zr 113), (1, zi a1), (2, zi a2), (3, zi a3)] [] zSh μ _ _ _ from ?_)
  have b1 : 0 ≤ (μ 114 3) ∧ (μ 114 3) ≤ 20 := hB 114 3
  refine Az.lvs (lv' := [(0, zr 113), (1, zi a1), (2, zi a2), (3, zi a3), (4, zi 0), (5, zi 0)]) ?_ ?_
  · intro q hq; simp only [List.mem_cons, List.not_mem_nil, or_false] at hq; rcases hq with rfl | rfl | rfl | rfl | rfl | rfl <;> rfl
  have fb : (3000 : Int) ≤ ((zN : Nat) : Int) := zN_big
  exact mz_couldWith_6 zN μ hB a1 a2 a3 0 0 (by omega) (by omega) (by omega) (by omega) (by omega) (by omega)
def kb_6_hasNounHole_0 : List zI := [(.iconst 0, 1, 0, 0), (.istore_n 2, 1, 0, 0), (.iconst 0, 1, 0, 0), (.istore_n 3, 1, 0, 0)]
theorem kd_6_hasNounHole_0 : zdec md_6_hasNounHole 0 kb_6_hasNounHole_0 = true := by decide +kernel
def kb_6_hasNounHole_4 : List zI := [(.iload_n 3, 1, 0, 0), (.aload_n 0, 1, 0, 0), (.getfield 7, 3, 6, 0), (.iconst 3, 1, 0, 0), (.iaload, 1, 0, 0), (.if_icmp .ge 46, 3, 57, 0)]
theorem kd_6_hasNounHole_4 : zdec md_6_hasNounHole 4 kb_6_hasNounHole_4 = true := by decide +kernel
def kb_6_hasNounHole_57 : List zI := [(.iload_n 2, 1, 0, 0)]
theorem kd_6_hasNounHole_57 : zdec md_6_hasNounHole 57 kb_6_hasNounHole_57 = true := by decide +kernel
theorem kr_6_hasNounHole_58 : decode md_6_hasNounHole.2.1 58 = .ok (.ireturn, 1) := by decide +kernel
def kb_6_hasNounHole_14 : List zI := [(.iload_n 2, 1, 0, 0), (.ifCond .ne 30, 3, 45, 0)]
theorem kd_6_hasNounHole_14 : zdec md_6_hasNounHole 14 kb_6_hasNounHole_14 = true := by decide +kernel
def kb_6_hasNounHole_45 : List zI := [(.iconst 1, 1, 0, 0), (.goto 4, 3, 50, 0)]
theorem kd_6_hasNounHole_45 : zdec md_6_hasNounHole 45 kb_6_hasNounHole_45 = true := by decide +kernel
def kb_6_hasNounHole_50 : List zI := [(.istore_n 2, 1, 0, 0), (.iinc 3 1, 3, 0, 0), (.goto (-50), 3, 4, 0)]
theorem kd_6_hasNounHole_50 : zdec md_6_hasNounHole 50 kb_6_hasNounHole_50 = true := by decide +kernel
def kb_6_hasNounHole_18 : List zI := [(.aload_n 0, 1, 0, 0), (.iload_n 3, 1, 0, 0)]
theorem kd_6_hasNounHole_18 : zdec md_6_hasNounHole 18 kb_6_hasNounHole_18 = true := by decide +kernel
theorem kr_6_hasNounHole_20 : decode md_6_hasNounHole.2.1 20 = .ok (.invokevirtual 51, 3) := by decide +kernel
def kb_6_hasNounHole_23 : List zI := [(.ifCond .eq 26, 3, 49, 0)]
theorem kd_6_hasNounHole_23 : zdec md_6_hasNounHole 23 kb_6_hasNounHole_23 = true := by decide +kernel
def kb_6_hasNounHole_49 : List zI := [(.iconst 0, 1, 0, 0), (.istore_n 2, 1, 0, 0), (.iinc 3 1, 3, 0, 0), (.goto (-50), 3, 4, 0)]
theorem kd_6_hasNounHole_49 : zdec md_6_hasNounHole 49 kb_6_hasNounHole_49 = true := by decide +kernel
def kb_6_hasNounHole_26 : List zI := [(.aload_n 0, 1, 0, 0), (.iload_n 3, 1, 0, 0), (.iconst 2, 1, 0, 0)]
theorem kd_6_hasNounHole_26 : zdec md_6_hasNounHole 26 kb_6_hasNounHole_26 = true := by decide +kernel
theorem kr_6_hasNounHole_29 : decode md_6_hasNounHole.2.1 29 = .ok (.invokevirtual 48, 3) := by decide +kernel
def kb_6_hasNounHole_32 : List zI := [(.iload_n 1, 1, 0, 0), (.if_icmp .ne 16, 3, 49, 0)]
theorem kd_6_hasNounHole_32 : zdec md_6_hasNounHole 32 kb_6_hasNounHole_32 = true := by decide +kernel
def kb_6_hasNounHole_36 : List zI := [(.aload_n 0, 1, 0, 0), (.iload_n 3, 1, 0, 0), (.iconst 1, 1, 0, 0)]
theorem kd_6_hasNounHole_36 : zdec md_6_hasNounHole 36 kb_6_hasNounHole_36 = true := by decide +kernel
theorem kr_6_hasNounHole_39 : decode md_6_hasNounHole.2.1 39 = .ok (.invokevirtual 48, 3) := by decide +kernel
def kb_6_hasNounHole_42 : List zI := [(.ifCond .ne 7, 3, 49, 0)]
theorem kd_6_hasNounHole_42 : zdec md_6_hasNounHole 42 kb_6_hasNounHole_42 = true := by decide +kernel
noncomputable def mm_hasNounHole_4 : Nat → zM → Int → Int → Int → Int
  | 0, μ, _, _, _ => 0
  | f + 1, μ, l1, l2, l3 => (if l3 < (μ 114 3) then (if l2 = 0 then (if (mm_isHoleAt μ l3) = 0 then (mm_hasNounHole_4 f μ l1 0 (l3 + 1)) else (if (mm_ofItem μ l3 2) = l1 then (if (mm_ofItem μ l3 1) = 0 then (mm_hasNounHole_4 f μ l1 1 (l3 + 1)) else (mm_hasNounHole_4 f μ l1 0 (l3 + 1))) else (mm_hasNounHole_4 f μ l1 0 (l3 + 1)))) else (mm_hasNounHole_4 f μ l1 1 (l3 + 1))) else l2)
noncomputable def mm_hasNounHole (μ : zM) (a1 : Int) : Int := (mm_hasNounHole_4 zN μ a1 0 0)
set_option maxHeartbeats 4000000 in
set_option maxRecDepth 100000 in
theorem mr_hasNounHole_4 (f : Nat) (μ : zM) (hB : zB μ) (l1 : Int) (l2 : Int) (l3 : Int) (i0 : 0 ≤ l3 ∧ l3 ≤ (μ 114 3)) (i1 : 0 ≤ l2 ∧ l2 ≤ 1) (i2 : -2147483648 ≤ l1 ∧ l1 ≤ 2147483647) (hf : (μ 114 3) - l3 < (f : Int)) : 0 ≤ (mm_hasNounHole_4 f μ l1 l2 l3) ∧ (mm_hasNounHole_4 f μ l1 l2 l3) ≤ 1 := by
  induction f generalizing μ l1 l2 l3 with
  | zero => exfalso; omega
  | succ f ih =>
    replace hf : (μ 114 3) - l3 < (f : Int) + 1 := by omega
    rw [mm_hasNounHole_4]
    have b2 : 0 ≤ (μ 114 3) ∧ (μ 114 3) ≤ 20 := hB 114 3
    by_cases c3 : l3 < (μ 114 3)
    · rw [if_pos c3]
      by_cases c4 : l2 = 0
      · rw [if_pos c4]
        have r6 : 0 ≤ (mm_isHoleAt μ l3) ∧ (mm_isHoleAt μ l3) ≤ 1 := mr_isHoleAt hB l3 (by omega)
        by_cases c7 : (mm_isHoleAt μ l3) = 0
        · rw [if_pos c7]
          have b8 : 0 ≤ (μ 114 3) ∧ (μ 114 3) ≤ 20 := hB 114 3
          exact ih μ hB l1 0 (l3 + 1) (by omega) (by omega) (by omega) (by omega)
        · rw [if_neg c7]
          have r9 : -5 ≤ (mm_ofItem μ l3 2) ∧ (mm_ofItem μ l3 2) ≤ 26 ∧ ((2 : Int) = 0 → 0 ≤ (mm_ofItem μ l3 2) ∧ (mm_ofItem μ l3 2) ≤ 1) ∧ ((2 : Int) = 1 → 0 ≤ (mm_ofItem μ l3 2) ∧ (mm_ofItem μ l3 2) ≤ 10) ∧ ((2 : Int) = 2 → 0 ≤ (mm_ofItem μ l3 2) ∧ (mm_ofItem μ l3 2) ≤ 9) ∧ ((2 : Int) = 3 → (mm_ofItem μ l3 2) = -5 ∨ (0 ≤ (mm_ofItem μ l3 2) ∧ (mm_ofItem μ l3 2) ≤ 23)) ∧ (3 < (2 : Int) → 0 ≤ (mm_ofItem μ l3 2)) := mr_ofItem hB l3 2 (by omega) (by omega)
          by_cases c10 : (mm_ofItem μ l3 2) = l1
          · rw [if_pos c10]
            have r12 : -5 ≤ (mm_ofItem μ l3 1) ∧ (mm_ofItem μ l3 1) ≤ 26 ∧ ((1 : Int) = 0 → 0 ≤ (mm_ofItem μ l3 1) ∧ (mm_ofItem μ l3 1) ≤ 1) ∧ ((1 : Int) = 1 → 0 ≤ (mm_ofItem μ l3 1) ∧ (mm_ofItem μ l3 1) ≤ 10) ∧ ((1 : Int) = 2 → 0 ≤ (mm_ofItem μ l3 1) ∧ (mm_ofItem μ l3 1) ≤ 9) ∧ ((1 : Int) = 3 → (mm_ofItem μ l3 1) = -5 ∨ (0 ≤ (mm_ofItem μ l3 1) ∧ (mm_ofItem μ l3 1) ≤ 23)) ∧ (3 < (1 : Int) → 0 ≤ (mm_ofItem μ l3 1)) := mr_ofItem hB l3 1 (by omega) (by omega)
            by_cases c13 : (mm_ofItem μ l3 1) = 0
            · rw [if_pos c13]
              have b15 : 0 ≤ (μ 114 3) ∧ (μ 114 3) ≤ 20 := hB 114 3
              exact ih μ hB l1 1 (l3 + 1) (by omega) (by omega) (by omega) (by omega)
            · rw [if_neg c13]
              have b14 : 0 ≤ (μ 114 3) ∧ (μ 114 3) ≤ 20 := hB 114 3
              exact ih μ hB l1 0 (l3 + 1) (by omega) (by omega) (by omega) (by omega)
          · rw [if_neg c10]
            have b11 : 0 ≤ (μ 114 3) ∧ (μ 114 3) ≤ 20 := hB 114 3
            exact ih μ hB l1 0 (l3 + 1) (by omega) (by omega) (by omega) (by omega)
      · rw [if_neg c4]
        have b5 : 0 ≤ (μ 114 3) ∧ (μ 114 3) ≤ 20 := hB 114 3
        exact ih μ hB l1 1 (l3 + 1) (by omega) (by omega) (by omega) (by omega)
    · rw [if_neg c3]
      first | omega | (dsimp only; omega)
set_option maxHeartbeats 4000000 in
set_option maxRecDepth 100000 in
theorem mr_hasNounHole {μ : zM} (hB : zB μ) (a1 : Int) (h0 : -2147483648 ≤ a1 ∧ a1 ≤ 2147483647) : 0 ≤ (mm_hasNounHole μ a1) ∧ (mm_hasNounHole μ a1) ≤ 1 := by
  unfold mm_hasNounHole
  have b1 : 0 ≤ (μ 114 3) ∧ (μ 114 3) ≤ 20 := hB 114 3
  have fb : (3000 : Int) ≤ ((zN : Nat) : Int) := zN_big
  exact mr_hasNounHole_4 zN μ hB a1 0 0 (by omega) (by omega) (by omega) (by omega)
set_option maxHeartbeats 4000000 in
set_option maxRecDepth 100000 in
theorem mz_hasNounHole_4 (f : Nat) (μ : zM) (hB : zB μ) (l1 : Int) (l2 : Int) (l3 : Int) (i0 : 0 ≤ l3 ∧ l3 ≤ (μ 114 3)) (i1 : 0 ≤ l2 ∧ l2 ≤ 1) (i2 : -2147483648 ≤ l1 ∧ l1 ≤ 2147483647) (hf : (μ 114 3) - l3 < (f : Int)) : Ez md_6_hasNounHole 0 0 4 [(0, zr 113), (1, zi l1), (2, zi l2), (3, zi l3)] [] zSh μ (some (zi (mm_hasNounHole_4 f μ l1 l2 l3))) zSh μ := by
  induction f generalizing μ l1 l2 l3 with
  | zero => exfalso; omega
  | succ f ih =>
    replace hf : (μ 114 3) - l3 < (f : Int) + 1 := by omega
    rw [mm_hasNounHole_4]
    have b2 : 0 ≤ (μ 114 3) ∧ (μ 114 3) ≤ 20 := hB 114 3
    refine Az.blk kd_6_hasNounHole_4 (show (0 ≤ 3 ∧ 3 < 604) ∧ zR l3 ∧ zR (μ 114 3) ∧ ((¬ l3 < (μ 114 3) → Ez md_6_hasNounHole 0 0 57 [(0, zr 113), (1, zi l1), (2, zi l2), (3, zi l3)] [] zSh μ _ _ _) ∧ (l3 < (μ 114 3) → Ez md_6_hasNounHole 0 0 14 [(0, zr 113), (1, zi l1), (2, zi l2), (3, zi l3)] [] zSh μ _ _ _)) from ⟨(by omega), (by omega), (by omega), fun c3 => ?_, fun c3 => ?_⟩)
    · rw [if_neg c3]
      refine Az.blk kd_6_hasNounHole_57 (show Ez md_6_hasNounHole 0 0 58 [(0, zr 113), (1, zi l1), (2, zi l2), (3, zi l3)] [zi l2] zSh μ _ _ _ from ?_)
      exact Ez.zret kr_6_hasNounHole_58 rfl (Nat.zero_le _) (Nat.zero_le _) (by omega) rfl rfl
    · rw [if_pos c3]
      refine Az.blk kd_6_hasNounHole_14 (show zR l2 ∧ ((¬ l2 = 0 → Ez md_6_hasNounHole 0 0 45 [(0, zr 113), (1, zi l1), (2, zi l2), (3, zi l3)] [] zSh μ _ _ _) ∧ (l2 = 0 → Ez md_6_hasNounHole 0 0 18 [(0, zr 113), (1, zi l1), (2, zi l2), (3, zi l3)] [] zSh μ _ _ _)) from ⟨(by omega), fun c4 => ?_, fun c4 => ?_⟩)
      · rw [if_neg c4]
        refine Az.blk kd_6_hasNounHole_45 (show Ez md_6_hasNounHole 0 0 50 [(0, zr 113), (1, zi l1), (2, zi l2), (3, zi l3)] [zi 1] zSh μ _ _ _ from ?_)
        refine Az.blk kd_6_hasNounHole_50 (show Ez md_6_hasNounHole 0 0 4 [(3, zi (l3 + 1)), (2, zi 1), (0, zr 113), (1, zi l1)] [] zSh μ _ _ _ from ?_)
        have b5 : 0 ≤ (μ 114 3) ∧ (μ 114 3) ≤ 20 := hB 114 3
        refine Az.lvs (lv' := [(0, zr 113), (1, zi l1), (2, zi 1), (3, zi (l3 + 1))]) ?_ ?_
        · intro q hq; simp only [List.mem_cons, List.not_mem_nil, or_false] at hq; rcases hq with rfl | rfl | rfl | rfl <;> rfl
        exact ih μ hB l1 1 (l3 + 1) (by omega) (by omega) (by omega) (by omega)
      · rw [if_pos c4]
        refine Az.blk kd_6_hasNounHole_18 (show Ez md_6_hasNounHole 0 0 20 [(0, zr 113), (1, zi l1), (2, zi l2), (3, zi l3)] [zi l3, zr 113] zSh μ _ _ _ from ?_)
        refine Az.cV (mc := md_6_isHoleAt) (k := 113) (n := 1) (As := [zi l3]) (rest := []) kr_6_hasNounHole_20 zw_678 ok_6_isHoleAt rfl rfl rfl trivial (mz_isHoleAt hB l3 (by omega)) rfl rfl (show Ez md_6_hasNounHole 0 0 23 [(0, zr 113), (1, zi l1), (2, zi l2), (3, zi l3)] [zi (mm_isHoleAt μ l3)] zSh μ _ _ _ from ?_)
        have r6 : 0 ≤ (mm_isHoleAt μ l3) ∧ (mm_isHoleAt μ l3) ≤ 1 := mr_isHoleAt hB l3 (by omega)
        refine Az.blk kd_6_hasNounHole_23 (show zR (mm_isHoleAt μ l3) ∧ (((mm_isHoleAt μ l3) = 0 → Ez md_6_hasNounHole 0 0 49 [(0, zr 113), (1, zi l1), (2, zi l2), (3, zi l3)] [] zSh μ _ _ _) ∧ (¬ (mm_isHoleAt μ l3) = 0 → Ez md_6_hasNounHole 0 0 26 [(0, zr 113), (1, zi l1), (2, zi l2), (3, zi l3)] [] zSh μ _ _ _)) from ⟨(by omega), fun c7 => ?_, fun c7 => ?_⟩)
        · rw [if_pos c7]
          refine Az.blk kd_6_hasNounHole_49 (show Ez md_6_hasNounHole 0 0 4 [(3, zi (l3 + 1)), (2, zi 0), (0, zr 113), (1, zi l1)] [] zSh μ _ _ _ from ?_)
          have b8 : 0 ≤ (μ 114 3) ∧ (μ 114 3) ≤ 20 := hB 114 3
          refine Az.lvs (lv' := [(0, zr 113), (1, zi l1), (2, zi 0), (3, zi (l3 + 1))]) ?_ ?_
          · intro q hq; simp only [List.mem_cons, List.not_mem_nil, or_false] at hq; rcases hq with rfl | rfl | rfl | rfl <;> rfl
          exact ih μ hB l1 0 (l3 + 1) (by omega) (by omega) (by omega) (by omega)
        · rw [if_neg c7]
          refine Az.blk kd_6_hasNounHole_26 (show Ez md_6_hasNounHole 0 0 29 [(0, zr 113), (1, zi l1), (2, zi l2), (3, zi l3)] [zi 2, zi l3, zr 113] zSh μ _ _ _ from ?_)
          refine Az.cV (mc := md_6_ofItem) (k := 113) (n := 2) (As := [zi l3, zi 2]) (rest := []) kr_6_hasNounHole_29 zw_682 ok_6_ofItem rfl rfl rfl trivial (mz_ofItem hB l3 2 (by omega) (by omega)) rfl rfl (show Ez md_6_hasNounHole 0 0 32 [(0, zr 113), (1, zi l1), (2, zi l2), (3, zi l3)] [zi (mm_ofItem μ l3 2)] zSh μ _ _ _ from ?_)
          have r9 : -5 ≤ (mm_ofItem μ l3 2) ∧ (mm_ofItem μ l3 2) ≤ 26 ∧ ((2 : Int) = 0 → 0 ≤ (mm_ofItem μ l3 2) ∧ (mm_ofItem μ l3 2) ≤ 1) ∧ ((2 : Int) = 1 → 0 ≤ (mm_ofItem μ l3 2) ∧ (mm_ofItem μ l3 2) ≤ 10) ∧ ((2 : Int) = 2 → 0 ≤ (mm_ofItem μ l3 2) ∧ (mm_ofItem μ l3 2) ≤ 9) ∧ ((2 : Int) = 3 → (mm_ofItem μ l3 2) = -5 ∨ (0 ≤ (mm_ofItem μ l3 2) ∧ (mm_ofItem μ l3 2) ≤ 23)) ∧ (3 < (2 : Int) → 0 ≤ (mm_ofItem μ l3 2)) := mr_ofItem hB l3 2 (by omega) (by omega)
          refine Az.blk kd_6_hasNounHole_32 (show zR (mm_ofItem μ l3 2) ∧ zR l1 ∧ ((¬ (mm_ofItem μ l3 2) = l1 → Ez md_6_hasNounHole 0 0 49 [(0, zr 113), (1, zi l1), (2, zi l2), (3, zi l3)] [] zSh μ _ _ _) ∧ ((mm_ofItem μ l3 2) = l1 → Ez md_6_hasNounHole 0 0 36 [(0, zr 113), (1, zi l1), (2, zi l2), (3, zi l3)] [] zSh μ _ _ _)) from ⟨(by omega), (by omega), fun c10 => ?_, fun c10 => ?_⟩)
          · rw [if_neg c10]
            refine Az.blk kd_6_hasNounHole_49 (show Ez md_6_hasNounHole 0 0 4 [(3, zi (l3 + 1)), (2, zi 0), (0, zr 113), (1, zi l1)] [] zSh μ _ _ _ from ?_)
            have b11 : 0 ≤ (μ 114 3) ∧ (μ 114 3) ≤ 20 := hB 114 3
            refine Az.lvs (lv' := [(0, zr 113), (1, zi l1), (2, zi 0), (3, zi (l3 + 1))]) ?_ ?_
            · intro q hq; simp only [List.mem_cons, List.not_mem_nil, or_false] at hq; rcases hq with rfl | rfl | rfl | rfl <;> rfl
            exact ih μ hB l1 0 (l3 + 1) (by omega) (by omega) (by omega) (by omega)
          · rw [if_pos c10]
            refine Az.blk kd_6_hasNounHole_36 (show Ez md_6_hasNounHole 0 0 39 [(0, zr 113), (1, zi l1), (2, zi l2), (3, zi l3)] [zi 1, zi l3, zr 113] zSh μ _ _ _ from ?_)
            refine Az.cV (mc := md_6_ofItem) (k := 113) (n := 2) (As := [zi l3, zi 1]) (rest := []) kr_6_hasNounHole_39 zw_682 ok_6_ofItem rfl rfl rfl trivial (mz_ofItem hB l3 1 (by omega) (by omega)) rfl rfl (show Ez md_6_hasNounHole 0 0 42 [(0, zr 113), (1, zi l1), (2, zi l2), (3, zi l3)] [zi (mm_ofItem μ l3 1)] zSh μ _ _ _ from ?_)
            have r12 : -5 ≤ (mm_ofItem μ l3 1) ∧ (mm_ofItem μ l3 1) ≤ 26 ∧ ((1 : Int) = 0 → 0 ≤ (mm_ofItem μ l3 1) ∧ (mm_ofItem μ l3 1) ≤ 1) ∧ ((1 : Int) = 1 → 0 ≤ (mm_ofItem μ l3 1) ∧ (mm_ofItem μ l3 1) ≤ 10) ∧ ((1 : Int) = 2 → 0 ≤ (mm_ofItem μ l3 1) ∧ (mm_ofItem μ l3 1) ≤ 9) ∧ ((1 : Int) = 3 → (mm_ofItem μ l3 1) = -5 ∨ (0 ≤ (mm_ofItem μ l3 1) ∧ (mm_ofItem μ l3 1) ≤ 23)) ∧ (3 < (1 : Int) → 0 ≤ (mm_ofItem μ l3 1)) := mr_ofItem hB l3 1 (by omega) (by omega)
            refine Az.blk kd_6_hasNounHole_42 (show zR (mm_ofItem μ l3 1) ∧ ((¬ (mm_ofItem μ l3 1) = 0 → Ez md_6_hasNounHole 0 0 49 [(0, zr 113), (1, zi l1), (2, zi l2), (3, zi l3)] [] zSh μ _ _ _) ∧ ((mm_ofItem μ l3 1) = 0 → Ez md_6_hasNounHole 0 0 45 [(0, zr 113), (1, zi l1), (2, zi l2), (3, zi l3)] [] zSh μ _ _ _)) from ⟨(by omega), fun c13 => ?_, fun c13 => ?_⟩)
            · rw [if_neg c13]
              refine Az.blk kd_6_hasNounHole_49 (show Ez md_6_hasNounHole 0 0 4 [(3, zi (l3 + 1)), (2, zi 0), (0, zr 113), (1, zi l1)] [] zSh μ _ _ _ from ?_)
              have b14 : 0 ≤ (μ 114 3) ∧ (μ 114 3) ≤ 20 := hB 114 3
              refine Az.lvs (lv' := [(0, zr 113), (1, zi l1), (2, zi 0), (3, zi (l3 + 1))]) ?_ ?_
              · intro q hq; simp only [List.mem_cons, List.not_mem_nil, or_false] at hq; rcases hq with rfl | rfl | rfl | rfl <;> rfl
              exact ih μ hB l1 0 (l3 + 1) (by omega) (by omega) (by omega) (by omega)
            · rw [if_pos c13]
              refine Az.blk kd_6_hasNounHole_45 (show Ez md_6_hasNounHole 0 0 50 [(0, zr 113), (1, zi l1), (2, zi l2), (3, zi l3)] [zi 1] zSh μ _ _ _ from ?_)
              refine Az.blk kd_6_hasNounHole_50 (show Ez md_6_hasNounHole 0 0 4 [(3, zi (l3 + 1)), (2, zi 1), (0, zr 113), (1, zi l1)] [] zSh μ _ _ _ from ?_)
              have b15 : 0 ≤ (μ 114 3) ∧ (μ 114 3) ≤ 20 := hB 114 3
              refine Az.lvs (lv' := [(0, zr 113), (1, zi l1), (2, zi 1), (3, zi (l3 + 1))]) ?_ ?_
              · intro q hq; simp only [List.mem_cons, List.not_mem_nil, or_false] at hq; rcases hq with rfl | rfl | rfl | rfl <;> rfl
              exact ih μ hB l1 1 (l3 + 1) (by omega) (by omega) (by omega) (by omega)
set_option maxHeartbeats 4000000 in
set_option maxRecDepth 100000 in
theorem mz_hasNounHole {μ : zM} (hB : zB μ) (a1 : Int) (h0 : -2147483648 ≤ a1 ∧ a1 ≤ 2147483647) : Dz md_6_hasNounHole [zr 113, zi a1] zSh μ (some (zi (mm_hasNounHole μ a1))) zSh μ := by
  refine Dz.of (by decide) rfl rfl (show Ez md_6_hasNounHole 0 0 0 [(0, zr 113), (1, zi a1)] [] zSh μ (some (zi (mm_hasNounHole μ a1))) zSh μ from ?_)
  unfold mm_hasNounHole
  refine Az.blk kd_6_hasNounHole_0 (show Ez md_6_hasNounHole 0 0 4 [(3, zi 0), (2, zi 0), (0, zr 113), (1, zi a1)] [] zSh μ _ _ _ from ?_)
  have b1 : 0 ≤ (μ 114 3) ∧ (μ 114 3) ≤ 20 := hB 114 3
  refine Az.lvs (lv' := [(0, zr 113), (1, zi a1), (2, zi 0), (3, zi 0)]) ?_ ?_
  · intro q hq; simp only [List.mem_cons, List.not_mem_nil, or_false] at hq; rcases hq with rfl | rfl | rfl | rfl <;> rfl
  have fb : (3000 : Int) ≤ ((zN : Nat) : Int) := zN_big
  exact mz_hasNounHole_4 zN μ hB a1 0 0 (by omega) (by omega) (by omega) (by omega)
def kb_6_tieCould_0 : List zI := [(.iload_n 1, 1, 0, 0)]
theorem kd_6_tieCould_0 : zdec md_6_tieCould 0 kb_6_tieCould_0 = true := by decide +kernel
theorem kr_6_tieCould_1 : decode md_6_tieCould.2.1 1 = .ok (.invokestatic 109, 3) := by decide +kernel
def kb_6_tieCould_4 : List zI := [(.ifCond .ne 5, 3, 9, 0)]
theorem kd_6_tieCould_4 : zdec md_6_tieCould 4 kb_6_tieCould_4 = true := by decide +kernel
def kb_6_tieCould_9 : List zI := [(.aload_n 0, 1, 0, 0), (.iload_n 1, 1, 0, 0)]
theorem kd_6_tieCould_9 : zdec md_6_tieCould 9 kb_6_tieCould_9 = true := by decide +kernel
theorem kr_6_tieCould_11 : decode md_6_tieCould.2.1 11 = .ok (.invokevirtual 170, 3) := by decide +kernel
def kb_6_tieCould_14 : List zI := [(.ifCond .eq 7, 3, 21, 0)]
theorem kd_6_tieCould_14 : zdec md_6_tieCould 14 kb_6_tieCould_14 = true := by decide +kernel
def kb_6_tieCould_21 : List zI := [(.iconst 0, 1, 0, 0), (.istore_n 3, 1, 0, 0), (.bipush (-5), 2, 0, 0), (.istore 4, 2, 0, 0), (.iconst 0, 1, 0, 0), (.istore 5, 2, 0, 0)]
theorem kd_6_tieCould_21 : zdec md_6_tieCould 21 kb_6_tieCould_21 = true := by decide +kernel
def kb_6_tieCould_17 : List zI := [(.iconst 2, 1, 0, 0), (.goto 4, 3, 22, 0)]
theorem kd_6_tieCould_17 : zdec md_6_tieCould 17 kb_6_tieCould_17 = true := by decide +kernel
def kb_6_tieCould_22 : List zI := [(.istore_n 3, 1, 0, 0), (.bipush (-5), 2, 0, 0), (.istore 4, 2, 0, 0), (.iconst 0, 1, 0, 0), (.istore 5, 2, 0, 0)]
theorem kd_6_tieCould_22 : zdec md_6_tieCould 22 kb_6_tieCould_22 = true := by decide +kernel
def kb_6_tieCould_7 : List zI := [(.iconst (-1), 1, 0, 0)]
theorem kd_6_tieCould_7 : zdec md_6_tieCould 7 kb_6_tieCould_7 = true := by decide +kernel
theorem kr_6_tieCould_8 : decode md_6_tieCould.2.1 8 = .ok (.ireturn, 1) := by decide +kernel
def kb_6_tieCould_30 : List zI := [(.iload 5, 2, 0, 0), (.iload_n 3, 1, 0, 0), (.if_icmp .gt 64, 3, 97, 0)]
theorem kd_6_tieCould_30 : zdec md_6_tieCould 30 kb_6_tieCould_30 = true := by decide +kernel
def kb_6_tieCould_97 : List zI := [(.iload 4, 2, 0, 0)]
theorem kd_6_tieCould_97 : zdec md_6_tieCould 97 kb_6_tieCould_97 = true := by decide +kernel
theorem kr_6_tieCould_99 : decode md_6_tieCould.2.1 99 = .ok (.ireturn, 1) := by decide +kernel
def kb_6_tieCould_36 : List zI := [(.aload_n 0, 1, 0, 0), (.iload_n 1, 1, 0, 0), (.iload 5, 2, 0, 0), (.iload_n 2, 1, 0, 0)]
theorem kd_6_tieCould_36 : zdec md_6_tieCould 36 kb_6_tieCould_36 = true := by decide +kernel
theorem kr_6_tieCould_41 : decode md_6_tieCould.2.1 41 = .ok (.invokevirtual 173, 3) := by decide +kernel
def kb_6_tieCould_44 : List zI := [(.istore 6, 2, 0, 0), (.iload 6, 2, 0, 0), (.bipush (-5), 2, 0, 0), (.if_icmp .eq 41, 3, 91, 0)]
theorem kd_6_tieCould_44 : zdec md_6_tieCould 44 kb_6_tieCould_44 = true := by decide +kernel
def kb_6_tieCould_91 : List zI := [(.iinc 5 1, 3, 0, 0), (.goto (-64), 3, 30, 0)]
theorem kd_6_tieCould_91 : zdec md_6_tieCould 91 kb_6_tieCould_91 = true := by decide +kernel
def kb_6_tieCould_53 : List zI := [(.iload 4, 2, 0, 0), (.bipush (-5), 2, 0, 0), (.if_icmp .eq 25, 3, 82, 0)]
theorem kd_6_tieCould_53 : zdec md_6_tieCould 53 kb_6_tieCould_53 = true := by decide +kernel
def kb_6_tieCould_82 : List zI := [(.iload 6, 2, 0, 0), (.goto 5, 3, 89, 0)]
theorem kd_6_tieCould_82 : zdec md_6_tieCould 82 kb_6_tieCould_82 = true := by decide +kernel
def kb_6_tieCould_89 : List zI := [(.istore 4, 2, 0, 0), (.iinc 5 1, 3, 0, 0), (.goto (-64), 3, 30, 0)]
theorem kd_6_tieCould_89 : zdec md_6_tieCould 89 kb_6_tieCould_89 = true := by decide +kernel
def kb_6_tieCould_60 : List zI := [(.iload_n 2, 1, 0, 0), (.ifCond .eq 10, 3, 71, 0)]
theorem kd_6_tieCould_60 : zdec md_6_tieCould 60 kb_6_tieCould_60 = true := by decide +kernel
def kb_6_tieCould_71 : List zI := [(.iload_n 2, 1, 0, 0), (.ifCond .ne 15, 3, 87, 0)]
theorem kd_6_tieCould_71 : zdec md_6_tieCould 71 kb_6_tieCould_71 = true := by decide +kernel
def kb_6_tieCould_87 : List zI := [(.iload 4, 2, 0, 0), (.istore 4, 2, 0, 0), (.iinc 5 1, 3, 0, 0), (.goto (-64), 3, 30, 0)]
theorem kd_6_tieCould_87 : zdec md_6_tieCould 87 kb_6_tieCould_87 = true := by decide +kernel
def kb_6_tieCould_75 : List zI := [(.iload 6, 2, 0, 0), (.iload 4, 2, 0, 0), (.if_icmp .ge 8, 3, 87, 0)]
theorem kd_6_tieCould_75 : zdec md_6_tieCould 75 kb_6_tieCould_75 = true := by decide +kernel
def kb_6_tieCould_64 : List zI := [(.iload 6, 2, 0, 0), (.iload 4, 2, 0, 0), (.if_icmp .gt 14, 3, 82, 0)]
theorem kd_6_tieCould_64 : zdec md_6_tieCould 64 kb_6_tieCould_64 = true := by decide +kernel
noncomputable def mm_tieCould_30 : Nat → zM → Int → Int → Int → Int → Int → Int
  | 0, μ, _, _, _, _, _ => 0
  | f + 1, μ, l1, l2, l3, l4, l5 => (if l3 < l5 then l4 else (if (mm_couldWith μ l1 l5 l2) = (-5) then (mm_tieCould_30 f μ l1 l2 l3 l4 (l5 + 1)) else (if l4 = (-5) then (mm_tieCould_30 f μ l1 l2 l3 (mm_couldWith μ l1 l5 l2) (l5 + 1)) else (if l2 = 0 then (if l2 = 0 then (if (mm_couldWith μ l1 l5 l2) < l4 then (mm_tieCould_30 f μ l1 l2 l3 (mm_couldWith μ l1 l5 l2) (l5 + 1)) else (mm_tieCould_30 f μ l1 l2 l3 l4 (l5 + 1))) else (mm_tieCould_30 f μ l1 l2 l3 l4 (l5 + 1))) else (if l4 < (mm_couldWith μ l1 l5 l2) then (mm_tieCould_30 f μ l1 l2 l3 (mm_couldWith μ l1 l5 l2) (l5 + 1)) else (if l2 = 0 then (if (mm_couldWith μ l1 l5 l2) < l4 then (mm_tieCould_30 f μ l1 l2 l3 (mm_couldWith μ l1 l5 l2) (l5 + 1)) else (mm_tieCould_30 f μ l1 l2 l3 l4 (l5 + 1))) else (mm_tieCould_30 f μ l1 l2 l3 l4 (l5 + 1))))))))
noncomputable def mm_tieCould (μ : zM) (a1 a2 : Int) : Int := (if (mm_isTie a1) = 0 then (-1) else (if (mm_hasNounHole μ a1) = 0 then (mm_tieCould_30 zN μ a1 a2 0 (-5) 0) else (mm_tieCould_30 zN μ a1 a2 2 (-5) 0)))
set_option maxHeartbeats 4000000 in
set_option maxRecDepth 100000 in
theorem mz_tieCould_30 (f : Nat) (μ : zM) (hB : zB μ) (l1 : Int) (l2 : Int) (l3 : Int) (l4 : Int) (l5 : Int) (i0 : 0 ≤ l5 ∧ l5 ≤ l3 + 1) (i1 : 0 ≤ l3 ∧ l3 ≤ 2) (i2 : l4 = -5 ∨ (0 ≤ l4 ∧ l4 ≤ 200)) (i3 : -2147483648 ≤ l1 ∧ l1 ≤ 2147483647) (i4 : -2147483648 ≤ l2 ∧ l2 ≤ 2147483647) (hf : l3 + 1 - l5 < (f : Int)) : Ez md_6_tieCould 0 0 30 [(0, zr 113), (1, zi l1), (2, zi l2), (3, zi l3), (4, zi l4), (5, zi l5)] [] zSh μ (some (zi (mm_tieCould_30 f μ l1 l2 l3 l4 l5))) zSh μ := by
  induction f generalizing μ l1 l2 l3 l4 l5 with
  | zero => exfalso; omega
  | succ f ih =>
    replace hf : l3 + 1 - l5 < (f : Int) + 1 := by omega
    rw [mm_tieCould_30]
    refine Az.blk kd_6_tieCould_30 (show zR l5 ∧ zR l3 ∧ ((l3 < l5 → Ez md_6_tieCould 0 0 97 [(0, zr 113), (1, zi l1), (2, zi l2), (3, zi l3), (4, zi l4), (5, zi l5)] [] zSh μ _ _ _) ∧ (¬ l3 < l5 → Ez md_6_tieCould 0 0 36 [(0, zr 113), (1, zi l1), (2, zi l2), (3, zi l3), (4, zi l4), (5, zi l5)] [] zSh μ _ _ _)) from ⟨(by omega), (by omega), fun c5 => ?_, fun c5 => ?_⟩)
    · rw [if_pos c5]
      refine Az.blk kd_6_tieCould_97 (show Ez md_6_tieCould 0 0 99 [(0, zr 113), (1, zi l1), (2, zi l2), (3, zi l3), (4, zi l4), (5, zi l5)] [zi l4] zSh μ _ _ _ from ?_)
      exact Ez.iret kr_6_tieCould_99 rfl (Nat.zero_le _) (Nat.zero_le _) rfl rfl
    · rw [if_neg c5]
      refine Az.blk kd_6_tieCould_36 (show Ez md_6_tieCould 0 0 41 [(0, zr 113), (1, zi l1), (2, zi l2), (3, zi l3), (4, zi l4), (5, zi l5)] [zi l2, zi l5, zi l1, zr 113] zSh μ _ _ _ from ?_)
      refine Az.cV (mc := md_6_couldWith) (k := 113) (n := 3) (As := [zi l1, zi l5, zi l2]) (rest := []) kr_6_tieCould_41 zw_850 ok_6_couldWith rfl rfl rfl trivial (mz_couldWith hB l1 l5 l2 (by omega) (by omega) (by omega)) rfl rfl (show Ez md_6_tieCould 0 0 44 [(0, zr 113), (1, zi l1), (2, zi l2), (3, zi l3), (4, zi l4), (5, zi l5)] [zi (mm_couldWith μ l1 l5 l2)] zSh μ _ _ _ from ?_)
      have r6 : ((mm_couldWith μ l1 l5 l2) = -5 ∨ (0 ≤ (mm_couldWith μ l1 l5 l2) ∧ (mm_couldWith μ l1 l5 l2) ≤ 200)) := mr_couldWith hB l1 l5 l2 (by omega) (by omega) (by omega)
      refine Az.blk kd_6_tieCould_44 (show zR (mm_couldWith μ l1 l5 l2) ∧ zR (-5) ∧ (((mm_couldWith μ l1 l5 l2) = (-5) → Ez md_6_tieCould 0 0 91 [(6, zi (mm_couldWith μ l1 l5 l2)), (0, zr 113), (1, zi l1), (2, zi l2), (3, zi l3), (4, zi l4), (5, zi l5)] [] zSh μ _ _ _) ∧ (¬ (mm_couldWith μ l1 l5 l2) = (-5) → Ez md_6_tieCould 0 0 53 [(6, zi (mm_couldWith μ l1 l5 l2)), (0, zr 113), (1, zi l1), (2, zi l2), (3, zi l3), (4, zi l4), (5, zi l5)] [] zSh μ _ _ _)) from ⟨(by omega), (by omega), fun c7 => ?_, fun c7 => ?_⟩)
      · rw [if_pos c7]
        refine Az.blk kd_6_tieCould_91 (show Ez md_6_tieCould 0 0 30 [(5, zi (l5 + 1)), (6, zi (mm_couldWith μ l1 l5 l2)), (0, zr 113), (1, zi l1), (2, zi l2), (3, zi l3), (4, zi l4)] [] zSh μ _ _ _ from ?_)
        refine Az.lvs (lv' := [(0, zr 113), (1, zi l1), (2, zi l2), (3, zi l3), (4, zi l4), (5, zi (l5 + 1))]) ?_ ?_
        · intro q hq; simp only [List.mem_cons, List.not_mem_nil, or_false] at hq; rcases hq with rfl | rfl | rfl | rfl | rfl | rfl <;> rfl
        exact ih μ hB l1 l2 l3 l4 (l5 + 1) (by omega) (by omega) (by omega) (by omega) (by omega) (by omega)
      · rw [if_neg c7]
        refine Az.blk kd_6_tieCould_53 (show zR l4 ∧ zR (-5) ∧ ((l4 = (-5) → Ez md_6_tieCould 0 0 82 [(6, zi (mm_couldWith μ l1 l5 l2)), (0, zr 113), (1, zi l1), (2, zi l2), (3, zi l3), (4, zi l4), (5, zi l5)] [] zSh μ _ _ _) ∧ (¬ l4 = (-5) → Ez md_6_tieCould 0 0 60 [(6, zi (mm_couldWith μ l1 l5 l2)), (0, zr 113), (1, zi l1), (2, zi l2), (3, zi l3), (4, zi l4), (5, zi l5)] [] zSh μ _ _ _)) from ⟨(by omega), (by omega), fun c8 => ?_, fun c8 => ?_⟩)
        · rw [if_pos c8]
          refine Az.blk kd_6_tieCould_82 (show Ez md_6_tieCould 0 0 89 [(6, zi (mm_couldWith μ l1 l5 l2)), (0, zr 113), (1, zi l1), (2, zi l2), (3, zi l3), (4, zi l4), (5, zi l5)] [zi (mm_couldWith μ l1 l5 l2)] zSh μ _ _ _ from ?_)
          refine Az.blk kd_6_tieCould_89 (show Ez md_6_tieCould 0 0 30 [(5, zi (l5 + 1)), (4, zi (mm_couldWith μ l1 l5 l2)), (6, zi (mm_couldWith μ l1 l5 l2)), (0, zr 113), (1, zi l1), (2, zi l2), (3, zi l3)] [] zSh μ _ _ _ from ?_)
          refine Az.lvs (lv' := [(0, zr 113), (1, zi l1), (2, zi l2), (3, zi l3), (4, zi (mm_couldWith μ l1 l5 l2)), (5, zi (l5 + 1))]) ?_ ?_
          · intro q hq; simp only [List.mem_cons, List.not_mem_nil, or_false] at hq; rcases hq with rfl | rfl | rfl | rfl | rfl | rfl <;> rfl
          exact ih μ hB l1 l2 l3 (mm_couldWith μ l1 l5 l2) (l5 + 1) (by omega) (by omega) (by omega) (by omega) (by omega) (by omega)
        · rw [if_neg c8]
          refine Az.blk kd_6_tieCould_60 (show zR l2 ∧ ((l2 = 0 → Ez md_6_tieCould 0 0 71 [(6, zi (mm_couldWith μ l1 l5 l2)), (0, zr 113), (1, zi l1), (2, zi l2), (3, zi l3), (4, zi l4), (5, zi l5)] [] zSh μ _ _ _) ∧ (¬ l2 = 0 → Ez md_6_tieCould 0 0 64 [(6, zi (mm_couldWith μ l1 l5 l2)), (0, zr 113), (1, zi l1), (2, zi l2), (3, zi l3), (4, zi l4), (5, zi l5)] [] zSh μ _ _ _)) from ⟨(by omega), fun c9 => ?_, fun c9 => ?_⟩)
          · rw [if_pos c9]
            refine Az.blk kd_6_tieCould_71 (show zR l2 ∧ ((¬ l2 = 0 → Ez md_6_tieCould 0 0 87 [(6, zi (mm_couldWith μ l1 l5 l2)), (0, zr 113), (1, zi l1), (2, zi l2), (3, zi l3), (4, zi l4), (5, zi l5)] [] zSh μ _ _ _) ∧ (l2 = 0 → Ez md_6_tieCould 0 0 75 [(6, zi (mm_couldWith μ l1 l5 l2)), (0, zr 113), (1, zi l1), (2, zi l2), (3, zi l3), (4, zi l4), (5, zi l5)] [] zSh μ _ _ _)) from ⟨(by omega), fun c10 => ?_, fun c10 => ?_⟩)
            · rw [if_neg c10]
              refine Az.blk kd_6_tieCould_87 (show Ez md_6_tieCould 0 0 30 [(5, zi (l5 + 1)), (4, zi l4), (6, zi (mm_couldWith μ l1 l5 l2)), (0, zr 113), (1, zi l1), (2, zi l2), (3, zi l3)] [] zSh μ _ _ _ from ?_)
              refine Az.lvs (lv' := [(0, zr 113), (1, zi l1), (2, zi l2), (3, zi l3), (4, zi l4), (5, zi (l5 + 1))]) ?_ ?_
              · intro q hq; simp only [List.mem_cons, List.not_mem_nil, or_false] at hq; rcases hq with rfl | rfl | rfl | rfl | rfl | rfl <;> rfl
              exact ih μ hB l1 l2 l3 l4 (l5 + 1) (by omega) (by omega) (by omega) (by omega) (by omega) (by omega)
            · rw [if_pos c10]
              refine Az.blk kd_6_tieCould_75 (show zR (mm_couldWith μ l1 l5 l2) ∧ zR l4 ∧ ((¬ (mm_couldWith μ l1 l5 l2) < l4 → Ez md_6_tieCould 0 0 87 [(6, zi (mm_couldWith μ l1 l5 l2)), (0, zr 113), (1, zi l1), (2, zi l2), (3, zi l3), (4, zi l4), (5, zi l5)] [] zSh μ _ _ _) ∧ ((mm_couldWith μ l1 l5 l2) < l4 → Ez md_6_tieCould 0 0 82 [(6, zi (mm_couldWith μ l1 l5 l2)), (0, zr 113), (1, zi l1), (2, zi l2), (3, zi l3), (4, zi l4), (5, zi l5)] [] zSh μ _ _ _)) from ⟨(by omega), (by omega), fun c11 => ?_, fun c11 => ?_⟩)
              · rw [if_neg c11]
                refine Az.blk kd_6_tieCould_87 (show Ez md_6_tieCould 0 0 30 [(5, zi (l5 + 1)), (4, zi l4), (6, zi (mm_couldWith μ l1 l5 l2)), (0, zr 113), (1, zi l1), (2, zi l2), (3, zi l3)] [] zSh μ _ _ _ from ?_)
                refine Az.lvs (lv' := [(0, zr 113), (1, zi l1), (2, zi l2), (3, zi l3), (4, zi l4), (5, zi (l5 + 1))]) ?_ ?_
                · intro q hq; simp only [List.mem_cons, List.not_mem_nil, or_false] at hq; rcases hq with rfl | rfl | rfl | rfl | rfl | rfl <;> rfl
                exact ih μ hB l1 l2 l3 l4 (l5 + 1) (by omega) (by omega) (by omega) (by omega) (by omega) (by omega)
              · rw [if_pos c11]
                refine Az.blk kd_6_tieCould_82 (show Ez md_6_tieCould 0 0 89 [(6, zi (mm_couldWith μ l1 l5 l2)), (0, zr 113), (1, zi l1), (2, zi l2), (3, zi l3), (4, zi l4), (5, zi l5)] [zi (mm_couldWith μ l1 l5 l2)] zSh μ _ _ _ from ?_)
                refine Az.blk kd_6_tieCould_89 (show Ez md_6_tieCould 0 0 30 [(5, zi (l5 + 1)), (4, zi (mm_couldWith μ l1 l5 l2)), (6, zi (mm_couldWith μ l1 l5 l2)), (0, zr 113), (1, zi l1), (2, zi l2), (3, zi l3)] [] zSh μ _ _ _ from ?_)
                refine Az.lvs (lv' := [(0, zr 113), (1, zi l1), (2, zi l2), (3, zi l3), (4, zi (mm_couldWith μ l1 l5 l2)), (5, zi (l5 + 1))]) ?_ ?_
                · intro q hq; simp only [List.mem_cons, List.not_mem_nil, or_false] at hq; rcases hq with rfl | rfl | rfl | rfl | rfl | rfl <;> rfl
                exact ih μ hB l1 l2 l3 (mm_couldWith μ l1 l5 l2) (l5 + 1) (by omega) (by omega) (by omega) (by omega) (by omega) (by omega)
          · rw [if_neg c9]
            refine Az.blk kd_6_tieCould_64 (show zR (mm_couldWith μ l1 l5 l2) ∧ zR l4 ∧ ((l4 < (mm_couldWith μ l1 l5 l2) → Ez md_6_tieCould 0 0 82 [(6, zi (mm_couldWith μ l1 l5 l2)), (0, zr 113), (1, zi l1), (2, zi l2), (3, zi l3), (4, zi l4), (5, zi l5)] [] zSh μ _ _ _) ∧ (¬ l4 < (mm_couldWith μ l1 l5 l2) → Ez md_6_tieCould 0 0 71 [(6, zi (mm_couldWith μ l1 l5 l2)), (0, zr 113), (1, zi l1), (2, zi l2), (3, zi l3), (4, zi l4), (5, zi l5)] [] zSh μ _ _ _)) from ⟨(by omega), (by omega), fun c12 => ?_, fun c12 => ?_⟩)
            · rw [if_pos c12]
              refine Az.blk kd_6_tieCould_82 (show Ez md_6_tieCould 0 0 89 [(6, zi (mm_couldWith μ l1 l5 l2)), (0, zr 113), (1, zi l1), (2, zi l2), (3, zi l3), (4, zi l4), (5, zi l5)] [zi (mm_couldWith μ l1 l5 l2)] zSh μ _ _ _ from ?_)
              refine Az.blk kd_6_tieCould_89 (show Ez md_6_tieCould 0 0 30 [(5, zi (l5 + 1)), (4, zi (mm_couldWith μ l1 l5 l2)), (6, zi (mm_couldWith μ l1 l5 l2)), (0, zr 113), (1, zi l1), (2, zi l2), (3, zi l3)] [] zSh μ _ _ _ from ?_)
              refine Az.lvs (lv' := [(0, zr 113), (1, zi l1), (2, zi l2), (3, zi l3), (4, zi (mm_couldWith μ l1 l5 l2)), (5, zi (l5 + 1))]) ?_ ?_
              · intro q hq; simp only [List.mem_cons, List.not_mem_nil, or_false] at hq; rcases hq with rfl | rfl | rfl | rfl | rfl | rfl <;> rfl
              exact ih μ hB l1 l2 l3 (mm_couldWith μ l1 l5 l2) (l5 + 1) (by omega) (by omega) (by omega) (by omega) (by omega) (by omega)
            · rw [if_neg c12]
              refine Az.blk kd_6_tieCould_71 (show zR l2 ∧ ((¬ l2 = 0 → Ez md_6_tieCould 0 0 87 [(6, zi (mm_couldWith μ l1 l5 l2)), (0, zr 113), (1, zi l1), (2, zi l2), (3, zi l3), (4, zi l4), (5, zi l5)] [] zSh μ _ _ _) ∧ (l2 = 0 → Ez md_6_tieCould 0 0 75 [(6, zi (mm_couldWith μ l1 l5 l2)), (0, zr 113), (1, zi l1), (2, zi l2), (3, zi l3), (4, zi l4), (5, zi l5)] [] zSh μ _ _ _)) from ⟨(by omega), fun c13 => ?_, fun c13 => ?_⟩)
              · rw [if_neg c13]
                refine Az.blk kd_6_tieCould_87 (show Ez md_6_tieCould 0 0 30 [(5, zi (l5 + 1)), (4, zi l4), (6, zi (mm_couldWith μ l1 l5 l2)), (0, zr 113), (1, zi l1), (2, zi l2), (3, zi l3)] [] zSh μ _ _ _ from ?_)
                refine Az.lvs (lv' := [(0, zr 113), (1, zi l1), (2, zi l2), (3, zi l3), (4, zi l4), (5, zi (l5 + 1))]) ?_ ?_
                · intro q hq; simp only [List.mem_cons, List.not_mem_nil, or_false] at hq; rcases hq with rfl | rfl | rfl | rfl | rfl | rfl <;> rfl
                exact ih μ hB l1 l2 l3 l4 (l5 + 1) (by omega) (by omega) (by omega) (by omega) (by omega) (by omega)
              · rw [if_pos c13]
                refine Az.blk kd_6_tieCould_75 (show zR (mm_couldWith μ l1 l5 l2) ∧ zR l4 ∧ ((¬ (mm_couldWith μ l1 l5 l2) < l4 → Ez md_6_tieCould 0 0 87 [(6, zi (mm_couldWith μ l1 l5 l2)), (0, zr 113), (1, zi l1), (2, zi l2), (3, zi l3), (4, zi l4), (5, zi l5)] [] zSh μ _ _ _) ∧ ((mm_couldWith μ l1 l5 l2) < l4 → Ez md_6_tieCould 0 0 82 [(6, zi (mm_couldWith μ l1 l5 l2)), (0, zr 113), (1, zi l1), (2, zi l2), (3, zi l3), (4, zi l4), (5, zi l5)] [] zSh μ _ _ _)) from ⟨(by omega), (by omega), fun c14 => ?_, fun c14 => ?_⟩)
                · rw [if_neg c14]
                  refine Az.blk kd_6_tieCould_87 (show Ez md_6_tieCould 0 0 30 [(5, zi (l5 + 1)), (4, zi l4), (6, zi (mm_couldWith μ l1 l5 l2)), (0, zr 113), (1, zi l1), (2, zi l2), (3, zi l3)] [] zSh μ _ _ _ from ?_)
                  refine Az.lvs (lv' := [(0, zr 113), (1, zi l1), (2, zi l2), (3, zi l3), (4, zi l4), (5, zi (l5 + 1))]) ?_ ?_
                  · intro q hq; simp only [List.mem_cons, List.not_mem_nil, or_false] at hq; rcases hq with rfl | rfl | rfl | rfl | rfl | rfl <;> rfl
                  exact ih μ hB l1 l2 l3 l4 (l5 + 1) (by omega) (by omega) (by omega) (by omega) (by omega) (by omega)
                · rw [if_pos c14]
                  refine Az.blk kd_6_tieCould_82 (show Ez md_6_tieCould 0 0 89 [(6, zi (mm_couldWith μ l1 l5 l2)), (0, zr 113), (1, zi l1), (2, zi l2), (3, zi l3), (4, zi l4), (5, zi l5)] [zi (mm_couldWith μ l1 l5 l2)] zSh μ _ _ _ from ?_)
                  refine Az.blk kd_6_tieCould_89 (show Ez md_6_tieCould 0 0 30 [(5, zi (l5 + 1)), (4, zi (mm_couldWith μ l1 l5 l2)), (6, zi (mm_couldWith μ l1 l5 l2)), (0, zr 113), (1, zi l1), (2, zi l2), (3, zi l3)] [] zSh μ _ _ _ from ?_)
                  refine Az.lvs (lv' := [(0, zr 113), (1, zi l1), (2, zi l2), (3, zi l3), (4, zi (mm_couldWith μ l1 l5 l2)), (5, zi (l5 + 1))]) ?_ ?_
                  · intro q hq; simp only [List.mem_cons, List.not_mem_nil, or_false] at hq; rcases hq with rfl | rfl | rfl | rfl | rfl | rfl <;> rfl
                  exact ih μ hB l1 l2 l3 (mm_couldWith μ l1 l5 l2) (l5 + 1) (by omega) (by omega) (by omega) (by omega) (by omega) (by omega)
set_option maxHeartbeats 4000000 in
set_option maxRecDepth 100000 in
theorem mz_tieCould {μ : zM} (hB : zB μ) (a1 a2 : Int) (h0 : -2147483648 ≤ a1 ∧ a1 ≤ 2147483647) (h1 : -2147483648 ≤ a2 ∧ a2 ≤ 2147483647) : Dz md_6_tieCould [zr 113, zi a1, zi a2] zSh μ (some (zi (mm_tieCould μ a1 a2))) zSh μ := by
  refine Dz.of (by decide) rfl rfl (show Ez md_6_tieCould 0 0 0 [(0, zr 113), (1, zi a1), (2, zi a2)] [] zSh μ (some (zi (mm_tieCould μ a1 a2))) zSh μ from ?_)
  unfold mm_tieCould
  refine Az.blk kd_6_tieCould_0 (show Ez md_6_tieCould 0 0 1 [(0, zr 113), (1, zi a1), (2, zi a2)] [zi a1] zSh μ _ _ _ from ?_)
  refine Az.cS (mc := md_6_isTie) (n := 1) (As := [zi a1]) (rest := []) kr_6_tieCould_1 zw_690 ok_6_isTie rfl rfl (mz_isTie a1 (by omega)) rfl rfl (show Ez md_6_tieCould 0 0 4 [(0, zr 113), (1, zi a1), (2, zi a2)] [zi (mm_isTie a1)] zSh μ _ _ _ from ?_)
  have r1 : 0 ≤ (mm_isTie a1) ∧ (mm_isTie a1) ≤ 1 ∧ ((mm_isTie a1) = 1 → 0 ≤ a1 ∧ a1 ≤ 9) ∧ ((mm_isTie a1) = 0 → a1 < 0 ∨ 9 < a1) := mr_isTie a1 (by omega)
  refine Az.blk kd_6_tieCould_4 (show zR (mm_isTie a1) ∧ ((¬ (mm_isTie a1) = 0 → Ez md_6_tieCould 0 0 9 [(0, zr 113), (1, zi a1), (2, zi a2)] [] zSh μ _ _ _) ∧ ((mm_isTie a1) = 0 → Ez md_6_tieCould 0 0 7 [(0, zr 113), (1, zi a1), (2, zi a2)] [] zSh μ _ _ _)) from ⟨(by omega), fun c2 => ?_, fun c2 => ?_⟩)
  · rw [if_neg c2]
    refine Az.blk kd_6_tieCould_9 (show Ez md_6_tieCould 0 0 11 [(0, zr 113), (1, zi a1), (2, zi a2)] [zi a1, zr 113] zSh μ _ _ _ from ?_)
    refine Az.cV (mc := md_6_hasNounHole) (k := 113) (n := 1) (As := [zi a1]) (rest := []) kr_6_tieCould_11 zw_846 ok_6_hasNounHole rfl rfl rfl trivial (mz_hasNounHole hB a1 (by omega)) rfl rfl (show Ez md_6_tieCould 0 0 14 [(0, zr 113), (1, zi a1), (2, zi a2)] [zi (mm_hasNounHole μ a1)] zSh μ _ _ _ from ?_)
    have r3 : 0 ≤ (mm_hasNounHole μ a1) ∧ (mm_hasNounHole μ a1) ≤ 1 := mr_hasNounHole hB a1 (by omega)
    refine Az.blk kd_6_tieCould_14 (show zR (mm_hasNounHole μ a1) ∧ (((mm_hasNounHole μ a1) = 0 → Ez md_6_tieCould 0 0 21 [(0, zr 113), (1, zi a1), (2, zi a2)] [] zSh μ _ _ _) ∧ (¬ (mm_hasNounHole μ a1) = 0 → Ez md_6_tieCould 0 0 17 [(0, zr 113), (1, zi a1), (2, zi a2)] [] zSh μ _ _ _)) from ⟨(by omega), fun c4 => ?_, fun c4 => ?_⟩)
    · rw [if_pos c4]
      refine Az.blk kd_6_tieCould_21 (show Ez md_6_tieCould 0 0 30 [(5, zi 0), (4, zi (-5)), (3, zi 0), (0, zr 113), (1, zi a1), (2, zi a2)] [] zSh μ _ _ _ from ?_)
      refine Az.lvs (lv' := [(0, zr 113), (1, zi a1), (2, zi a2), (3, zi 0), (4, zi (-5)), (5, zi 0)]) ?_ ?_
      · intro q hq; simp only [List.mem_cons, List.not_mem_nil, or_false] at hq; rcases hq with rfl | rfl | rfl | rfl | rfl | rfl <;> rfl
      have fb : (3000 : Int) ≤ ((zN : Nat) : Int) := zN_big
      exact mz_tieCould_30 zN μ hB a1 a2 0 (-5) 0 (by omega) (by omega) (by omega) (by omega) (by omega) (by omega)
    · rw [if_neg c4]
      refine Az.blk kd_6_tieCould_17 (show Ez md_6_tieCould 0 0 22 [(0, zr 113), (1, zi a1), (2, zi a2)] [zi 2] zSh μ _ _ _ from ?_)
      refine Az.blk kd_6_tieCould_22 (show Ez md_6_tieCould 0 0 30 [(5, zi 0), (4, zi (-5)), (3, zi 2), (0, zr 113), (1, zi a1), (2, zi a2)] [] zSh μ _ _ _ from ?_)
      refine Az.lvs (lv' := [(0, zr 113), (1, zi a1), (2, zi a2), (3, zi 2), (4, zi (-5)), (5, zi 0)]) ?_ ?_
      · intro q hq; simp only [List.mem_cons, List.not_mem_nil, or_false] at hq; rcases hq with rfl | rfl | rfl | rfl | rfl | rfl <;> rfl
      have fb : (3000 : Int) ≤ ((zN : Nat) : Int) := zN_big
      exact mz_tieCould_30 zN μ hB a1 a2 2 (-5) 0 (by omega) (by omega) (by omega) (by omega) (by omega) (by omega)
  · rw [if_pos c2]
    refine Az.blk kd_6_tieCould_7 (show Ez md_6_tieCould 0 0 8 [(0, zr 113), (1, zi a1), (2, zi a2)] [zi (-1)] zSh μ _ _ _ from ?_)
    exact Ez.iret kr_6_tieCould_8 rfl (Nat.zero_le _) (Nat.zero_le _) rfl rfl
def kb_6_taleLong_0 : List zI := [(.iconst 0, 1, 0, 0), (.istore_n 1, 1, 0, 0), (.iconst 0, 1, 0, 0), (.istore_n 2, 1, 0, 0)]
theorem kd_6_taleLong_0 : zdec md_6_taleLong 0 kb_6_taleLong_0 = true := by decide +kernel
def kb_6_taleLong_4 : List zI := [(.iload_n 2, 1, 0, 0), (.aload_n 0, 1, 0, 0), (.getfield 7, 3, 6, 0), (.iconst 3, 1, 0, 0), (.iaload, 1, 0, 0), (.if_icmp .ge 27, 3, 38, 0)]
theorem kd_6_taleLong_4 : zdec md_6_taleLong 4 kb_6_taleLong_4 = true := by decide +kernel
def kb_6_taleLong_38 : List zI := [(.iload_n 1, 1, 0, 0)]
theorem kd_6_taleLong_38 : zdec md_6_taleLong 38 kb_6_taleLong_38 = true := by decide +kernel
theorem kr_6_taleLong_39 : decode md_6_taleLong.2.1 39 = .ok (.ireturn, 1) := by decide +kernel
def kb_6_taleLong_14 : List zI := [(.iload_n 1, 1, 0, 0), (.aload_n 0, 1, 0, 0), (.iload_n 2, 1, 0, 0)]
theorem kd_6_taleLong_14 : zdec md_6_taleLong 14 kb_6_taleLong_14 = true := by decide +kernel
theorem kr_6_taleLong_17 : decode md_6_taleLong.2.1 17 = .ok (.invokevirtual 160, 3) := by decide +kernel
def kb_6_taleLong_20 : List zI := [(.iload_n 2, 1, 0, 0), (.ifCond .le 7, 3, 28, 0)]
theorem kd_6_taleLong_20 : zdec md_6_taleLong 20 kb_6_taleLong_20 = true := by decide +kernel
def kb_6_taleLong_28 : List zI := [(.iconst 0, 1, 0, 0), (.iadd, 1, 0, 0), (.iadd, 1, 0, 0), (.istore_n 1, 1, 0, 0), (.iinc 2 1, 3, 0, 0), (.goto (-31), 3, 4, 0)]
theorem kd_6_taleLong_28 : zdec md_6_taleLong 28 kb_6_taleLong_28 = true := by decide +kernel
def kb_6_taleLong_24 : List zI := [(.iconst 1, 1, 0, 0), (.goto 4, 3, 29, 0)]
theorem kd_6_taleLong_24 : zdec md_6_taleLong 24 kb_6_taleLong_24 = true := by decide +kernel
def kb_6_taleLong_29 : List zI := [(.iadd, 1, 0, 0), (.iadd, 1, 0, 0), (.istore_n 1, 1, 0, 0), (.iinc 2 1, 3, 0, 0), (.goto (-31), 3, 4, 0)]
theorem kd_6_taleLong_29 : zdec md_6_taleLong 29 kb_6_taleLong_29 = true := by decide +kernel
noncomputable def mm_taleLong_4 : Nat → zM → Int → Int → Int
  | 0, μ, _, _ => 0
  | f + 1, μ, l1, l2 => (if l2 < (μ 114 3) then (if 0 < l2 then (mm_taleLong_4 f μ (l1 + ((mm_characters μ l2) + 1)) (l2 + 1)) else (mm_taleLong_4 f μ (l1 + ((mm_characters μ l2) + 0)) (l2 + 1))) else l1)
noncomputable def mm_taleLong (μ : zM) : Int := (mm_taleLong_4 zN μ 0 0)
set_option maxHeartbeats 4000000 in
set_option maxRecDepth 100000 in
theorem mz_taleLong_4 (f : Nat) (μ : zM) (hB : zB μ) (l1 : Int) (l2 : Int) (i0 : 0 ≤ l2 ∧ l2 ≤ (μ 114 3)) (hf : (μ 114 3) - l2 < (f : Int)) : Ez md_6_taleLong 0 0 4 [(0, zr 113), (1, zi l1), (2, zi l2)] [] zSh μ (some (zi (mm_taleLong_4 f μ l1 l2))) zSh μ := by
  induction f generalizing μ l1 l2 with
  | zero => exfalso; omega
  | succ f ih =>
    replace hf : (μ 114 3) - l2 < (f : Int) + 1 := by omega
    rw [mm_taleLong_4]
    have b2 : 0 ≤ (μ 114 3) ∧ (μ 114 3) ≤ 20 := hB 114 3
    refine Az.blk kd_6_taleLong_4 (show (0 ≤ 3 ∧ 3 < 604) ∧ zR l2 ∧ zR (μ 114 3) ∧ ((¬ l2 < (μ 114 3) → Ez md_6_taleLong 0 0 38 [(0, zr 113), (1, zi l1), (2, zi l2)] [] zSh μ _ _ _) ∧ (l2 < (μ 114 3) → Ez md_6_taleLong 0 0 14 [(0, zr 113), (1, zi l1), (2, zi l2)] [] zSh μ _ _ _)) from ⟨(by omega), (by omega), (by omega), fun c3 => ?_, fun c3 => ?_⟩)
    · rw [if_neg c3]
      refine Az.blk kd_6_taleLong_38 (show Ez md_6_taleLong 0 0 39 [(0, zr 113), (1, zi l1), (2, zi l2)] [zi l1] zSh μ _ _ _ from ?_)
      exact Ez.iret kr_6_taleLong_39 rfl (Nat.zero_le _) (Nat.zero_le _) rfl rfl
    · rw [if_pos c3]
      refine Az.blk kd_6_taleLong_14 (show Ez md_6_taleLong 0 0 17 [(0, zr 113), (1, zi l1), (2, zi l2)] [zi l2, zr 113, zi l1] zSh μ _ _ _ from ?_)
      refine Az.cV (mc := md_6_characters) (k := 113) (n := 1) (As := [zi l2]) (rest := [zi l1]) kr_6_taleLong_17 zw_826 ok_6_characters rfl rfl rfl trivial (mz_characters hB l2 (by omega)) rfl rfl (show Ez md_6_taleLong 0 0 20 [(0, zr 113), (1, zi l1), (2, zi l2)] [zi (mm_characters μ l2), zi l1] zSh μ _ _ _ from ?_)
      have r4 : 0 ≤ (mm_characters μ l2) ∧ (mm_characters μ l2) ≤ 10 := mr_characters hB l2 (by omega)
      refine Az.blk kd_6_taleLong_20 (show zR l2 ∧ ((¬ 0 < l2 → Ez md_6_taleLong 0 0 28 [(0, zr 113), (1, zi l1), (2, zi l2)] [zi (mm_characters μ l2), zi l1] zSh μ _ _ _) ∧ (0 < l2 → Ez md_6_taleLong 0 0 24 [(0, zr 113), (1, zi l1), (2, zi l2)] [zi (mm_characters μ l2), zi l1] zSh μ _ _ _)) from ⟨(by omega), fun c5 => ?_, fun c5 => ?_⟩)
      · rw [if_neg c5]
        refine Az.blk kd_6_taleLong_28 (show Ez md_6_taleLong 0 0 4 [(2, zi (l2 + 1)), (1, zi (l1 + ((mm_characters μ l2) + 0))), (0, zr 113)] [] zSh μ _ _ _ from ?_)
        have b6 : 0 ≤ (μ 114 3) ∧ (μ 114 3) ≤ 20 := hB 114 3
        refine Az.lvs (lv' := [(0, zr 113), (1, zi (l1 + ((mm_characters μ l2) + 0))), (2, zi (l2 + 1))]) ?_ ?_
        · intro q hq; simp only [List.mem_cons, List.not_mem_nil, or_false] at hq; rcases hq with rfl | rfl | rfl <;> rfl
        exact ih μ hB (l1 + ((mm_characters μ l2) + 0)) (l2 + 1) (by omega) (by omega)
      · rw [if_pos c5]
        refine Az.blk kd_6_taleLong_24 (show Ez md_6_taleLong 0 0 29 [(0, zr 113), (1, zi l1), (2, zi l2)] [zi 1, zi (mm_characters μ l2), zi l1] zSh μ _ _ _ from ?_)
        refine Az.blk kd_6_taleLong_29 (show Ez md_6_taleLong 0 0 4 [(2, zi (l2 + 1)), (1, zi (l1 + ((mm_characters μ l2) + 1))), (0, zr 113)] [] zSh μ _ _ _ from ?_)
        have b7 : 0 ≤ (μ 114 3) ∧ (μ 114 3) ≤ 20 := hB 114 3
        refine Az.lvs (lv' := [(0, zr 113), (1, zi (l1 + ((mm_characters μ l2) + 1))), (2, zi (l2 + 1))]) ?_ ?_
        · intro q hq; simp only [List.mem_cons, List.not_mem_nil, or_false] at hq; rcases hq with rfl | rfl | rfl <;> rfl
        exact ih μ hB (l1 + ((mm_characters μ l2) + 1)) (l2 + 1) (by omega) (by omega)
set_option maxHeartbeats 4000000 in
set_option maxRecDepth 100000 in
theorem mz_taleLong {μ : zM} (hB : zB μ)  : Dz md_6_taleLong [zr 113] zSh μ (some (zi (mm_taleLong μ))) zSh μ := by
  refine Dz.of (by decide) rfl rfl (show Ez md_6_taleLong 0 0 0 [(0, zr 113)] [] zSh μ (some (zi (mm_taleLong μ))) zSh μ from ?_)
  unfold mm_taleLong
  refine Az.blk kd_6_taleLong_0 (show Ez md_6_taleLong 0 0 4 [(2, zi 0), (1, zi 0), (0, zr 113)] [] zSh μ _ _ _ from ?_)
  have b1 : 0 ≤ (μ 114 3) ∧ (μ 114 3) ≤ 20 := hB 114 3
  refine Az.lvs (lv' := [(0, zr 113), (1, zi 0), (2, zi 0)]) ?_ ?_
  · intro q hq; simp only [List.mem_cons, List.not_mem_nil, or_false] at hq; rcases hq with rfl | rfl | rfl <;> rfl
  have fb : (3000 : Int) ≤ ((zN : Nat) : Int) := zN_big
  exact mz_taleLong_4 zN μ hB 0 0 (by omega) (by omega)
def kb_6_lettersInHoles_0 : List zI := [(.iconst 0, 1, 0, 0), (.istore_n 1, 1, 0, 0), (.iconst 0, 1, 0, 0), (.istore_n 2, 1, 0, 0)]
theorem kd_6_lettersInHoles_0 : zdec md_6_lettersInHoles 0 kb_6_lettersInHoles_0 = true := by decide +kernel
def kb_6_lettersInHoles_4 : List zI := [(.iload_n 2, 1, 0, 0), (.aload_n 0, 1, 0, 0), (.getfield 7, 3, 6, 0), (.iconst 3, 1, 0, 0), (.iaload, 1, 0, 0), (.if_icmp .ge 29, 3, 40, 0)]
theorem kd_6_lettersInHoles_4 : zdec md_6_lettersInHoles 4 kb_6_lettersInHoles_4 = true := by decide +kernel
def kb_6_lettersInHoles_40 : List zI := [(.iload_n 1, 1, 0, 0)]
theorem kd_6_lettersInHoles_40 : zdec md_6_lettersInHoles 40 kb_6_lettersInHoles_40 = true := by decide +kernel
theorem kr_6_lettersInHoles_41 : decode md_6_lettersInHoles.2.1 41 = .ok (.ireturn, 1) := by decide +kernel
def kb_6_lettersInHoles_14 : List zI := [(.iload_n 1, 1, 0, 0), (.aload_n 0, 1, 0, 0), (.iload_n 2, 1, 0, 0)]
theorem kd_6_lettersInHoles_14 : zdec md_6_lettersInHoles 14 kb_6_lettersInHoles_14 = true := by decide +kernel
theorem kr_6_lettersInHoles_17 : decode md_6_lettersInHoles.2.1 17 = .ok (.invokevirtual 51, 3) := by decide +kernel
def kb_6_lettersInHoles_20 : List zI := [(.ifCond .eq 11, 3, 31, 0)]
theorem kd_6_lettersInHoles_20 : zdec md_6_lettersInHoles 20 kb_6_lettersInHoles_20 = true := by decide +kernel
def kb_6_lettersInHoles_31 : List zI := [(.iconst 0, 1, 0, 0), (.iadd, 1, 0, 0), (.istore_n 1, 1, 0, 0), (.iinc 2 1, 3, 0, 0), (.goto (-33), 3, 4, 0)]
theorem kd_6_lettersInHoles_31 : zdec md_6_lettersInHoles 31 kb_6_lettersInHoles_31 = true := by decide +kernel
def kb_6_lettersInHoles_23 : List zI := [(.aload_n 0, 1, 0, 0), (.iload_n 2, 1, 0, 0)]
theorem kd_6_lettersInHoles_23 : zdec md_6_lettersInHoles 23 kb_6_lettersInHoles_23 = true := by decide +kernel
theorem kr_6_lettersInHoles_25 : decode md_6_lettersInHoles.2.1 25 = .ok (.invokevirtual 157, 3) := by decide +kernel
def kb_6_lettersInHoles_28 : List zI := [(.goto 4, 3, 32, 0)]
theorem kd_6_lettersInHoles_28 : zdec md_6_lettersInHoles 28 kb_6_lettersInHoles_28 = true := by decide +kernel
def kb_6_lettersInHoles_32 : List zI := [(.iadd, 1, 0, 0), (.istore_n 1, 1, 0, 0), (.iinc 2 1, 3, 0, 0), (.goto (-33), 3, 4, 0)]
theorem kd_6_lettersInHoles_32 : zdec md_6_lettersInHoles 32 kb_6_lettersInHoles_32 = true := by decide +kernel
noncomputable def mm_lettersInHoles_4 : Nat → zM → Int → Int → Int
  | 0, μ, _, _ => 0
  | f + 1, μ, l1, l2 => (if l2 < (μ 114 3) then (if (mm_isHoleAt μ l2) = 0 then (mm_lettersInHoles_4 f μ (l1 + 0) (l2 + 1)) else (mm_lettersInHoles_4 f μ (l1 + (mm_lettersAt μ l2)) (l2 + 1))) else l1)
noncomputable def mm_lettersInHoles (μ : zM) : Int := (mm_lettersInHoles_4 zN μ 0 0)
set_option maxHeartbeats 4000000 in
set_option maxRecDepth 100000 in
theorem mz_lettersInHoles_4 (f : Nat) (μ : zM) (hB : zB μ) (l1 : Int) (l2 : Int) (i0 : 0 ≤ l2 ∧ l2 ≤ (μ 114 3)) (hf : (μ 114 3) - l2 < (f : Int)) : Ez md_6_lettersInHoles 0 0 4 [(0, zr 113), (1, zi l1), (2, zi l2)] [] zSh μ (some (zi (mm_lettersInHoles_4 f μ l1 l2))) zSh μ := by
  induction f generalizing μ l1 l2 with
  | zero => exfalso; omega
  | succ f ih =>
    replace hf : (μ 114 3) - l2 < (f : Int) + 1 := by omega
    rw [mm_lettersInHoles_4]
    have b2 : 0 ≤ (μ 114 3) ∧ (μ 114 3) ≤ 20 := hB 114 3
    refine Az.blk kd_6_lettersInHoles_4 (show (0 ≤ 3 ∧ 3 < 604) ∧ zR l2 ∧ zR (μ 114 3) ∧ ((¬ l2 < (μ 114 3) → Ez md_6_lettersInHoles 0 0 40 [(0, zr 113), (1, zi l1), (2, zi l2)] [] zSh μ _ _ _) ∧ (l2 < (μ 114 3) → Ez md_6_lettersInHoles 0 0 14 [(0, zr 113), (1, zi l1), (2, zi l2)] [] zSh μ _ _ _)) from ⟨(by omega), (by omega), (by omega), fun c3 => ?_, fun c3 => ?_⟩)
    · rw [if_neg c3]
      refine Az.blk kd_6_lettersInHoles_40 (show Ez md_6_lettersInHoles 0 0 41 [(0, zr 113), (1, zi l1), (2, zi l2)] [zi l1] zSh μ _ _ _ from ?_)
      exact Ez.iret kr_6_lettersInHoles_41 rfl (Nat.zero_le _) (Nat.zero_le _) rfl rfl
    · rw [if_pos c3]
      refine Az.blk kd_6_lettersInHoles_14 (show Ez md_6_lettersInHoles 0 0 17 [(0, zr 113), (1, zi l1), (2, zi l2)] [zi l2, zr 113, zi l1] zSh μ _ _ _ from ?_)
      refine Az.cV (mc := md_6_isHoleAt) (k := 113) (n := 1) (As := [zi l2]) (rest := [zi l1]) kr_6_lettersInHoles_17 zw_678 ok_6_isHoleAt rfl rfl rfl trivial (mz_isHoleAt hB l2 (by omega)) rfl rfl (show Ez md_6_lettersInHoles 0 0 20 [(0, zr 113), (1, zi l1), (2, zi l2)] [zi (mm_isHoleAt μ l2), zi l1] zSh μ _ _ _ from ?_)
      have r4 : 0 ≤ (mm_isHoleAt μ l2) ∧ (mm_isHoleAt μ l2) ≤ 1 := mr_isHoleAt hB l2 (by omega)
      refine Az.blk kd_6_lettersInHoles_20 (show zR (mm_isHoleAt μ l2) ∧ (((mm_isHoleAt μ l2) = 0 → Ez md_6_lettersInHoles 0 0 31 [(0, zr 113), (1, zi l1), (2, zi l2)] [zi l1] zSh μ _ _ _) ∧ (¬ (mm_isHoleAt μ l2) = 0 → Ez md_6_lettersInHoles 0 0 23 [(0, zr 113), (1, zi l1), (2, zi l2)] [zi l1] zSh μ _ _ _)) from ⟨(by omega), fun c5 => ?_, fun c5 => ?_⟩)
      · rw [if_pos c5]
        refine Az.blk kd_6_lettersInHoles_31 (show Ez md_6_lettersInHoles 0 0 4 [(2, zi (l2 + 1)), (1, zi (l1 + 0)), (0, zr 113)] [] zSh μ _ _ _ from ?_)
        have b6 : 0 ≤ (μ 114 3) ∧ (μ 114 3) ≤ 20 := hB 114 3
        refine Az.lvs (lv' := [(0, zr 113), (1, zi (l1 + 0)), (2, zi (l2 + 1))]) ?_ ?_
        · intro q hq; simp only [List.mem_cons, List.not_mem_nil, or_false] at hq; rcases hq with rfl | rfl | rfl <;> rfl
        exact ih μ hB (l1 + 0) (l2 + 1) (by omega) (by omega)
      · rw [if_neg c5]
        refine Az.blk kd_6_lettersInHoles_23 (show Ez md_6_lettersInHoles 0 0 25 [(0, zr 113), (1, zi l1), (2, zi l2)] [zi l2, zr 113, zi l1] zSh μ _ _ _ from ?_)
        refine Az.cV (mc := md_6_lettersAt) (k := 113) (n := 1) (As := [zi l2]) (rest := [zi l1]) kr_6_lettersInHoles_25 zw_814 ok_6_lettersAt rfl rfl rfl trivial (mz_lettersAt hB l2 (by omega)) rfl rfl (show Ez md_6_lettersInHoles 0 0 28 [(0, zr 113), (1, zi l1), (2, zi l2)] [zi (mm_lettersAt μ l2), zi l1] zSh μ _ _ _ from ?_)
        have r7 : 0 ≤ (mm_lettersAt μ l2) ∧ (mm_lettersAt μ l2) ≤ 10 := mr_lettersAt hB l2 (by omega)
        refine Az.blk kd_6_lettersInHoles_28 (show Ez md_6_lettersInHoles 0 0 32 [(0, zr 113), (1, zi l1), (2, zi l2)] [zi (mm_lettersAt μ l2), zi l1] zSh μ _ _ _ from ?_)
        refine Az.blk kd_6_lettersInHoles_32 (show Ez md_6_lettersInHoles 0 0 4 [(2, zi (l2 + 1)), (1, zi (l1 + (mm_lettersAt μ l2))), (0, zr 113)] [] zSh μ _ _ _ from ?_)
        have b8 : 0 ≤ (μ 114 3) ∧ (μ 114 3) ≤ 20 := hB 114 3
        refine Az.lvs (lv' := [(0, zr 113), (1, zi (l1 + (mm_lettersAt μ l2))), (2, zi (l2 + 1))]) ?_ ?_
        · intro q hq; simp only [List.mem_cons, List.not_mem_nil, or_false] at hq; rcases hq with rfl | rfl | rfl <;> rfl
        exact ih μ hB (l1 + (mm_lettersAt μ l2)) (l2 + 1) (by omega) (by omega)
set_option maxHeartbeats 4000000 in
set_option maxRecDepth 100000 in
theorem mz_lettersInHoles {μ : zM} (hB : zB μ)  : Dz md_6_lettersInHoles [zr 113] zSh μ (some (zi (mm_lettersInHoles μ))) zSh μ := by
  refine Dz.of (by decide) rfl rfl (show Ez md_6_lettersInHoles 0 0 0 [(0, zr 113)] [] zSh μ (some (zi (mm_lettersInHoles μ))) zSh μ from ?_)
  unfold mm_lettersInHoles
  refine Az.blk kd_6_lettersInHoles_0 (show Ez md_6_lettersInHoles 0 0 4 [(2, zi 0), (1, zi 0), (0, zr 113)] [] zSh μ _ _ _ from ?_)
  have b1 : 0 ≤ (μ 114 3) ∧ (μ 114 3) ≤ 20 := hB 114 3
  refine Az.lvs (lv' := [(0, zr 113), (1, zi 0), (2, zi 0)]) ?_ ?_
  · intro q hq; simp only [List.mem_cons, List.not_mem_nil, or_false] at hq; rcases hq with rfl | rfl | rfl <;> rfl
  have fb : (3000 : Int) ≤ ((zN : Nat) : Int) := zN_big
  exact mz_lettersInHoles_4 zN μ hB 0 0 (by omega) (by omega)
def kb_6_tiesWithHoles_0 : List zI := [(.iconst 0, 1, 0, 0), (.istore_n 1, 1, 0, 0), (.iconst 0, 1, 0, 0), (.istore_n 2, 1, 0, 0)]
theorem kd_6_tiesWithHoles_0 : zdec md_6_tiesWithHoles 0 kb_6_tiesWithHoles_0 = true := by decide +kernel
def kb_6_tiesWithHoles_4 : List zI := [(.iload_n 2, 1, 0, 0), (.bipush 10, 2, 0, 0), (.if_icmp .ge 26, 3, 33, 0)]
theorem kd_6_tiesWithHoles_4 : zdec md_6_tiesWithHoles 4 kb_6_tiesWithHoles_4 = true := by decide +kernel
def kb_6_tiesWithHoles_33 : List zI := [(.iload_n 1, 1, 0, 0)]
theorem kd_6_tiesWithHoles_33 : zdec md_6_tiesWithHoles 33 kb_6_tiesWithHoles_33 = true := by decide +kernel
theorem kr_6_tiesWithHoles_34 : decode md_6_tiesWithHoles.2.1 34 = .ok (.ireturn, 1) := by decide +kernel
def kb_6_tiesWithHoles_10 : List zI := [(.iload_n 1, 1, 0, 0), (.aload_n 0, 1, 0, 0), (.iload_n 2, 1, 0, 0), (.iconst 0, 1, 0, 0)]
theorem kd_6_tiesWithHoles_10 : zdec md_6_tiesWithHoles 10 kb_6_tiesWithHoles_10 = true := by decide +kernel
theorem kr_6_tiesWithHoles_14 : decode md_6_tiesWithHoles.2.1 14 = .ok (.invokevirtual 104, 3) := by decide +kernel
def kb_6_tiesWithHoles_17 : List zI := [(.ifCond .le 7, 3, 24, 0)]
theorem kd_6_tiesWithHoles_17 : zdec md_6_tiesWithHoles 17 kb_6_tiesWithHoles_17 = true := by decide +kernel
def kb_6_tiesWithHoles_24 : List zI := [(.iconst 0, 1, 0, 0), (.iadd, 1, 0, 0), (.istore_n 1, 1, 0, 0), (.iinc 2 1, 3, 0, 0), (.goto (-26), 3, 4, 0)]
theorem kd_6_tiesWithHoles_24 : zdec md_6_tiesWithHoles 24 kb_6_tiesWithHoles_24 = true := by decide +kernel
def kb_6_tiesWithHoles_20 : List zI := [(.iconst 1, 1, 0, 0), (.goto 4, 3, 25, 0)]
theorem kd_6_tiesWithHoles_20 : zdec md_6_tiesWithHoles 20 kb_6_tiesWithHoles_20 = true := by decide +kernel
def kb_6_tiesWithHoles_25 : List zI := [(.iadd, 1, 0, 0), (.istore_n 1, 1, 0, 0), (.iinc 2 1, 3, 0, 0), (.goto (-26), 3, 4, 0)]
theorem kd_6_tiesWithHoles_25 : zdec md_6_tiesWithHoles 25 kb_6_tiesWithHoles_25 = true := by decide +kernel
noncomputable def mm_tiesWithHoles_4 : Nat → zM → Int → Int → Int
  | 0, μ, _, _ => 0
  | f + 1, μ, l1, l2 => (if l2 < 10 then (if 0 < (mm_holes μ l2 0) then (mm_tiesWithHoles_4 f μ (l1 + 1) (l2 + 1)) else (mm_tiesWithHoles_4 f μ (l1 + 0) (l2 + 1))) else l1)
noncomputable def mm_tiesWithHoles (μ : zM) : Int := (mm_tiesWithHoles_4 zN μ 0 0)
set_option maxHeartbeats 4000000 in
set_option maxRecDepth 100000 in
theorem mz_tiesWithHoles_4 (f : Nat) (μ : zM) (hB : zB μ) (l1 : Int) (l2 : Int) (i0 : 0 ≤ l2 ∧ l2 ≤ 10) (hf : 10 - l2 < (f : Int)) : Ez md_6_tiesWithHoles 0 0 4 [(0, zr 113), (1, zi l1), (2, zi l2)] [] zSh μ (some (zi (mm_tiesWithHoles_4 f μ l1 l2))) zSh μ := by
  induction f generalizing μ l1 l2 with
  | zero => exfalso; omega
  | succ f ih =>
    replace hf : 10 - l2 < (f : Int) + 1 := by omega
    rw [mm_tiesWithHoles_4]
    refine Az.blk kd_6_tiesWithHoles_4 (show zR l2 ∧ zR 10 ∧ ((¬ l2 < 10 → Ez md_6_tiesWithHoles 0 0 33 [(0, zr 113), (1, zi l1), (2, zi l2)] [] zSh μ _ _ _) ∧ (l2 < 10 → Ez md_6_tiesWithHoles 0 0 10 [(0, zr 113), (1, zi l1), (2, zi l2)] [] zSh μ _ _ _)) from ⟨(by omega), (by omega), fun c1 => ?_, fun c1 => ?_⟩)
    · rw [if_neg c1]
      refine Az.blk kd_6_tiesWithHoles_33 (show Ez md_6_tiesWithHoles 0 0 34 [(0, zr 113), (1, zi l1), (2, zi l2)] [zi l1] zSh μ _ _ _ from ?_)
      exact Ez.iret kr_6_tiesWithHoles_34 rfl (Nat.zero_le _) (Nat.zero_le _) rfl rfl
    · rw [if_pos c1]
      refine Az.blk kd_6_tiesWithHoles_10 (show Ez md_6_tiesWithHoles 0 0 14 [(0, zr 113), (1, zi l1), (2, zi l2)] [zi 0, zi l2, zr 113, zi l1] zSh μ _ _ _ from ?_)
      refine Az.cV (mc := md_6_holes) (k := 113) (n := 2) (As := [zi l2, zi 0]) (rest := [zi l1]) kr_6_tiesWithHoles_14 zw_674 ok_6_holes rfl rfl rfl trivial (mz_holes hB l2 0 (by omega) (by omega)) rfl rfl (show Ez md_6_tiesWithHoles 0 0 17 [(0, zr 113), (1, zi l1), (2, zi l2)] [zi (mm_holes μ l2 0), zi l1] zSh μ _ _ _ from ?_)
      have r2 : 0 ≤ (mm_holes μ l2 0) ∧ (mm_holes μ l2 0) ≤ 20 := mr_holes hB l2 0 (by omega) (by omega)
      refine Az.blk kd_6_tiesWithHoles_17 (show zR (mm_holes μ l2 0) ∧ ((¬ 0 < (mm_holes μ l2 0) → Ez md_6_tiesWithHoles 0 0 24 [(0, zr 113), (1, zi l1), (2, zi l2)] [zi l1] zSh μ _ _ _) ∧ (0 < (mm_holes μ l2 0) → Ez md_6_tiesWithHoles 0 0 20 [(0, zr 113), (1, zi l1), (2, zi l2)] [zi l1] zSh μ _ _ _)) from ⟨(by omega), fun c3 => ?_, fun c3 => ?_⟩)
      · rw [if_neg c3]
        refine Az.blk kd_6_tiesWithHoles_24 (show Ez md_6_tiesWithHoles 0 0 4 [(2, zi (l2 + 1)), (1, zi (l1 + 0)), (0, zr 113)] [] zSh μ _ _ _ from ?_)
        refine Az.lvs (lv' := [(0, zr 113), (1, zi (l1 + 0)), (2, zi (l2 + 1))]) ?_ ?_
        · intro q hq; simp only [List.mem_cons, List.not_mem_nil, or_false] at hq; rcases hq with rfl | rfl | rfl <;> rfl
        exact ih μ hB (l1 + 0) (l2 + 1) (by omega) (by omega)
      · rw [if_pos c3]
        refine Az.blk kd_6_tiesWithHoles_20 (show Ez md_6_tiesWithHoles 0 0 25 [(0, zr 113), (1, zi l1), (2, zi l2)] [zi 1, zi l1] zSh μ _ _ _ from ?_)
        refine Az.blk kd_6_tiesWithHoles_25 (show Ez md_6_tiesWithHoles 0 0 4 [(2, zi (l2 + 1)), (1, zi (l1 + 1)), (0, zr 113)] [] zSh μ _ _ _ from ?_)
        refine Az.lvs (lv' := [(0, zr 113), (1, zi (l1 + 1)), (2, zi (l2 + 1))]) ?_ ?_
        · intro q hq; simp only [List.mem_cons, List.not_mem_nil, or_false] at hq; rcases hq with rfl | rfl | rfl <;> rfl
        exact ih μ hB (l1 + 1) (l2 + 1) (by omega) (by omega)
set_option maxHeartbeats 4000000 in
set_option maxRecDepth 100000 in
theorem mz_tiesWithHoles {μ : zM} (hB : zB μ)  : Dz md_6_tiesWithHoles [zr 113] zSh μ (some (zi (mm_tiesWithHoles μ))) zSh μ := by
  refine Dz.of (by decide) rfl rfl (show Ez md_6_tiesWithHoles 0 0 0 [(0, zr 113)] [] zSh μ (some (zi (mm_tiesWithHoles μ))) zSh μ from ?_)
  unfold mm_tiesWithHoles
  refine Az.blk kd_6_tiesWithHoles_0 (show Ez md_6_tiesWithHoles 0 0 4 [(2, zi 0), (1, zi 0), (0, zr 113)] [] zSh μ _ _ _ from ?_)
  refine Az.lvs (lv' := [(0, zr 113), (1, zi 0), (2, zi 0)]) ?_ ?_
  · intro q hq; simp only [List.mem_cons, List.not_mem_nil, or_false] at hq; rcases hq with rfl | rfl | rfl <;> rfl
  have fb : (3000 : Int) ≤ ((zN : Nat) : Int) := zN_big
  exact mz_tiesWithHoles_4 zN μ hB 0 0 (by omega) (by omega)
def kb_6_count_0 : List zI := [(.iload_n 1, 1, 0, 0), (.tableswitch 122 0 10 #[59, 66, 73, 73, 83, 88, 93, 98, 105, 112, 117], 59, 0, 0)]
theorem kd_6_count_0 : zdec md_6_count 0 kb_6_count_0 = true := by decide +kernel
def kb_6_count_60 : List zI := [(.aload_n 0, 1, 0, 0), (.getfield 7, 3, 6, 0), (.iconst 2, 1, 0, 0), (.iaload, 1, 0, 0)]
theorem kd_6_count_60 : zdec md_6_count 60 kb_6_count_60 = true := by decide +kernel
theorem kr_6_count_66 : decode md_6_count.2.1 66 = .ok (.ireturn, 1) := by decide +kernel
def kb_6_count_67 : List zI := [(.aload_n 0, 1, 0, 0), (.getfield 7, 3, 6, 0), (.iconst 3, 1, 0, 0), (.iaload, 1, 0, 0)]
theorem kd_6_count_67 : zdec md_6_count 67 kb_6_count_67 = true := by decide +kernel
theorem kr_6_count_73 : decode md_6_count.2.1 73 = .ok (.ireturn, 1) := by decide +kernel
def kb_6_count_74 : List zI := [(.aload_n 0, 1, 0, 0), (.bipush (-5), 2, 0, 0), (.iload_n 1, 1, 0, 0), (.iconst 2, 1, 0, 0), (.isub, 1, 0, 0)]
theorem kd_6_count_74 : zdec md_6_count 74 kb_6_count_74 = true := by decide +kernel
theorem kr_6_count_80 : decode md_6_count.2.1 80 = .ok (.invokevirtual 104, 3) := by decide +kernel
theorem kr_6_count_83 : decode md_6_count.2.1 83 = .ok (.ireturn, 1) := by decide +kernel
def kb_6_count_84 : List zI := [(.aload_n 0, 1, 0, 0)]
theorem kd_6_count_84 : zdec md_6_count 84 kb_6_count_84 = true := by decide +kernel
theorem kr_6_count_85 : decode md_6_count.2.1 85 = .ok (.invokevirtual 177, 3) := by decide +kernel
theorem kr_6_count_88 : decode md_6_count.2.1 88 = .ok (.ireturn, 1) := by decide +kernel
def kb_6_count_89 : List zI := [(.aload_n 0, 1, 0, 0)]
theorem kd_6_count_89 : zdec md_6_count 89 kb_6_count_89 = true := by decide +kernel
theorem kr_6_count_90 : decode md_6_count.2.1 90 = .ok (.invokevirtual 180, 3) := by decide +kernel
theorem kr_6_count_93 : decode md_6_count.2.1 93 = .ok (.ireturn, 1) := by decide +kernel
def kb_6_count_94 : List zI := [(.aload_n 0, 1, 0, 0)]
theorem kd_6_count_94 : zdec md_6_count 94 kb_6_count_94 = true := by decide +kernel
theorem kr_6_count_95 : decode md_6_count.2.1 95 = .ok (.invokevirtual 183, 3) := by decide +kernel
theorem kr_6_count_98 : decode md_6_count.2.1 98 = .ok (.ireturn, 1) := by decide +kernel
def kb_6_count_99 : List zI := [(.aload_n 0, 1, 0, 0), (.getfield 7, 3, 6, 0), (.iconst 0, 1, 0, 0), (.iaload, 1, 0, 0)]
theorem kd_6_count_99 : zdec md_6_count 99 kb_6_count_99 = true := by decide +kernel
theorem kr_6_count_105 : decode md_6_count.2.1 105 = .ok (.ireturn, 1) := by decide +kernel
def kb_6_count_106 : List zI := [(.aload_n 0, 1, 0, 0), (.getfield 7, 3, 6, 0), (.iconst 1, 1, 0, 0), (.iaload, 1, 0, 0)]
theorem kd_6_count_106 : zdec md_6_count 106 kb_6_count_106 = true := by decide +kernel
theorem kr_6_count_112 : decode md_6_count.2.1 112 = .ok (.ireturn, 1) := by decide +kernel
def kb_6_count_113 : List zI := [(.aload_n 0, 1, 0, 0), (.getfield 28, 3, 6, 3)]
theorem kd_6_count_113 : zdec md_6_count 113 kb_6_count_113 = true := by decide +kernel
theorem kr_6_count_117 : decode md_6_count.2.1 117 = .ok (.ireturn, 1) := by decide +kernel
def kb_6_count_118 : List zI := [(.aload_n 0, 1, 0, 0), (.getfield 88, 3, 6, 8)]
theorem kd_6_count_118 : zdec md_6_count 118 kb_6_count_118 = true := by decide +kernel
theorem kr_6_count_122 : decode md_6_count.2.1 122 = .ok (.ireturn, 1) := by decide +kernel
def kb_6_count_123 : List zI := [(.bipush (-2), 2, 0, 0)]
theorem kd_6_count_123 : zdec md_6_count 123 kb_6_count_123 = true := by decide +kernel
theorem kr_6_count_125 : decode md_6_count.2.1 125 = .ok (.ireturn, 1) := by decide +kernel
noncomputable def mm_count (μ : zM) (a1 : Int) : Int := (if a1 = 0 then (μ 114 2) else (if a1 = 1 then (μ 114 3) else (if a1 = 2 then (mm_holes μ (-5) (a1 - 2)) else (if a1 = 3 then (mm_holes μ (-5) (a1 - 2)) else (if a1 = 4 then (mm_taleLong μ) else (if a1 = 5 then (mm_lettersInHoles μ) else (if a1 = 6 then (mm_tiesWithHoles μ) else (if a1 = 7 then (μ 114 0) else (if a1 = 8 then (μ 114 1) else (if a1 = 9 then (μ 113 3) else (if a1 = 10 then (μ 113 8) else (-2))))))))))))
set_option maxHeartbeats 4000000 in
set_option maxRecDepth 100000 in
theorem mz_count {μ : zM} (hB : zB μ) (a1 : Int) (h0 : -2147483648 ≤ a1 ∧ a1 ≤ 2147483647) : Dz md_6_count [zr 113, zi a1] zSh μ (some (zi (mm_count μ a1))) zSh μ := by
  refine Dz.of (by decide) rfl rfl (show Ez md_6_count 0 0 0 [(0, zr 113), (1, zi a1)] [] zSh μ (some (zi (mm_count μ a1))) zSh μ from ?_)
  unfold mm_count
  refine Az.blk kd_6_count_0 (show zR a1 ∧ ((a1 = 0 → Ez md_6_count 0 0 60 [(0, zr 113), (1, zi a1)] [] zSh μ _ _ _) ∧ (¬ a1 = 0 → ((a1 = 1 → Ez md_6_count 0 0 67 [(0, zr 113), (1, zi a1)] [] zSh μ _ _ _) ∧ (¬ a1 = 1 → ((a1 = 2 → Ez md_6_count 0 0 74 [(0, zr 113), (1, zi a1)] [] zSh μ _ _ _) ∧ (¬ a1 = 2 → ((a1 = 3 → Ez md_6_count 0 0 74 [(0, zr 113), (1, zi a1)] [] zSh μ _ _ _) ∧ (¬ a1 = 3 → ((a1 = 4 → Ez md_6_count 0 0 84 [(0, zr 113), (1, zi a1)] [] zSh μ _ _ _) ∧ (¬ a1 = 4 → ((a1 = 5 → Ez md_6_count 0 0 89 [(0, zr 113), (1, zi a1)] [] zSh μ _ _ _) ∧ (¬ a1 = 5 → ((a1 = 6 → Ez md_6_count 0 0 94 [(0, zr 113), (1, zi a1)] [] zSh μ _ _ _) ∧ (¬ a1 = 6 → ((a1 = 7 → Ez md_6_count 0 0 99 [(0, zr 113), (1, zi a1)] [] zSh μ _ _ _) ∧ (¬ a1 = 7 → ((a1 = 8 → Ez md_6_count 0 0 106 [(0, zr 113), (1, zi a1)] [] zSh μ _ _ _) ∧ (¬ a1 = 8 → ((a1 = 9 → Ez md_6_count 0 0 113 [(0, zr 113), (1, zi a1)] [] zSh μ _ _ _) ∧ (¬ a1 = 9 → ((a1 = 10 → Ez md_6_count 0 0 118 [(0, zr 113), (1, zi a1)] [] zSh μ _ _ _) ∧ (¬ a1 = 10 → Ez md_6_count 0 0 123 [(0, zr 113), (1, zi a1)] [] zSh μ _ _ _)))))))))))))))))))))) from ⟨(by omega), ⟨fun c1 => ?_, fun c1 => ⟨fun c2 => ?_, fun c2 => ⟨fun c3 => ?_, fun c3 => ⟨fun c4 => ?_, fun c4 => ⟨fun c5 => ?_, fun c5 => ⟨fun c6 => ?_, fun c6 => ⟨fun c7 => ?_, fun c7 => ⟨fun c8 => ?_, fun c8 => ⟨fun c9 => ?_, fun c9 => ⟨fun c10 => ?_, fun c10 => ⟨fun c11 => ?_, fun c11 => ?_⟩⟩⟩⟩⟩⟩⟩⟩⟩⟩⟩⟩)
  · rw [if_pos c1]
    have b12 : 0 ≤ (μ 114 2) ∧ (μ 114 2) ≤ 24 := hB 114 2
    refine Az.blk kd_6_count_60 (show (0 ≤ 2 ∧ 2 < 604) ∧ Ez md_6_count 0 0 66 [(0, zr 113), (1, zi a1)] [zi (μ 114 2)] zSh μ _ _ _ from ⟨(by omega), ?_⟩)
    exact Ez.iret kr_6_count_66 rfl (Nat.zero_le _) (Nat.zero_le _) rfl rfl
  · rw [if_neg c1, if_pos c2]
    have b13 : 0 ≤ (μ 114 3) ∧ (μ 114 3) ≤ 20 := hB 114 3
    refine Az.blk kd_6_count_67 (show (0 ≤ 3 ∧ 3 < 604) ∧ Ez md_6_count 0 0 73 [(0, zr 113), (1, zi a1)] [zi (μ 114 3)] zSh μ _ _ _ from ⟨(by omega), ?_⟩)
    exact Ez.iret kr_6_count_73 rfl (Nat.zero_le _) (Nat.zero_le _) rfl rfl
  · rw [if_neg c1, if_neg c2, if_pos c3]
    refine Az.blk kd_6_count_74 (show Ez md_6_count 0 0 80 [(0, zr 113), (1, zi a1)] [zi (a1 - 2), zi (-5), zr 113] zSh μ _ _ _ from ?_)
    refine Az.cV (mc := md_6_holes) (k := 113) (n := 2) (As := [zi (-5), zi (a1 - 2)]) (rest := []) kr_6_count_80 zw_674 ok_6_holes rfl rfl rfl trivial (mz_holes hB (-5) (a1 - 2) (by omega) (by omega)) rfl rfl (show Ez md_6_count 0 0 83 [(0, zr 113), (1, zi a1)] [zi (mm_holes μ (-5) (a1 - 2))] zSh μ _ _ _ from ?_)
    have r14 : 0 ≤ (mm_holes μ (-5) (a1 - 2)) ∧ (mm_holes μ (-5) (a1 - 2)) ≤ 20 := mr_holes hB (-5) (a1 - 2) (by omega) (by omega)
    exact Ez.iret kr_6_count_83 rfl (Nat.zero_le _) (Nat.zero_le _) rfl rfl
  · rw [if_neg c1, if_neg c2, if_neg c3, if_pos c4]
    refine Az.blk kd_6_count_74 (show Ez md_6_count 0 0 80 [(0, zr 113), (1, zi a1)] [zi (a1 - 2), zi (-5), zr 113] zSh μ _ _ _ from ?_)
    refine Az.cV (mc := md_6_holes) (k := 113) (n := 2) (As := [zi (-5), zi (a1 - 2)]) (rest := []) kr_6_count_80 zw_674 ok_6_holes rfl rfl rfl trivial (mz_holes hB (-5) (a1 - 2) (by omega) (by omega)) rfl rfl (show Ez md_6_count 0 0 83 [(0, zr 113), (1, zi a1)] [zi (mm_holes μ (-5) (a1 - 2))] zSh μ _ _ _ from ?_)
    have r15 : 0 ≤ (mm_holes μ (-5) (a1 - 2)) ∧ (mm_holes μ (-5) (a1 - 2)) ≤ 20 := mr_holes hB (-5) (a1 - 2) (by omega) (by omega)
    exact Ez.iret kr_6_count_83 rfl (Nat.zero_le _) (Nat.zero_le _) rfl rfl
  · rw [if_neg c1, if_neg c2, if_neg c3, if_neg c4, if_pos c5]
    refine Az.blk kd_6_count_84 (show Ez md_6_count 0 0 85 [(0, zr 113), (1, zi a1)] [zr 113] zSh μ _ _ _ from ?_)
    refine Az.cV (mc := md_6_taleLong) (k := 113) (n := 0) (As := []) (rest := []) kr_6_count_85 zw_862 ok_6_taleLong rfl rfl rfl trivial (mz_taleLong hB) rfl rfl (show Ez md_6_count 0 0 88 [(0, zr 113), (1, zi a1)] [zi (mm_taleLong μ)] zSh μ _ _ _ from ?_)
    exact Ez.iret kr_6_count_88 rfl (Nat.zero_le _) (Nat.zero_le _) rfl rfl
  · rw [if_neg c1, if_neg c2, if_neg c3, if_neg c4, if_neg c5, if_pos c6]
    refine Az.blk kd_6_count_89 (show Ez md_6_count 0 0 90 [(0, zr 113), (1, zi a1)] [zr 113] zSh μ _ _ _ from ?_)
    refine Az.cV (mc := md_6_lettersInHoles) (k := 113) (n := 0) (As := []) (rest := []) kr_6_count_90 zw_866 ok_6_lettersInHoles rfl rfl rfl trivial (mz_lettersInHoles hB) rfl rfl (show Ez md_6_count 0 0 93 [(0, zr 113), (1, zi a1)] [zi (mm_lettersInHoles μ)] zSh μ _ _ _ from ?_)
    exact Ez.iret kr_6_count_93 rfl (Nat.zero_le _) (Nat.zero_le _) rfl rfl
  · rw [if_neg c1, if_neg c2, if_neg c3, if_neg c4, if_neg c5, if_neg c6, if_pos c7]
    refine Az.blk kd_6_count_94 (show Ez md_6_count 0 0 95 [(0, zr 113), (1, zi a1)] [zr 113] zSh μ _ _ _ from ?_)
    refine Az.cV (mc := md_6_tiesWithHoles) (k := 113) (n := 0) (As := []) (rest := []) kr_6_count_95 zw_870 ok_6_tiesWithHoles rfl rfl rfl trivial (mz_tiesWithHoles hB) rfl rfl (show Ez md_6_count 0 0 98 [(0, zr 113), (1, zi a1)] [zi (mm_tiesWithHoles μ)] zSh μ _ _ _ from ?_)
    exact Ez.iret kr_6_count_98 rfl (Nat.zero_le _) (Nat.zero_le _) rfl rfl
  · rw [if_neg c1, if_neg c2, if_neg c3, if_neg c4, if_neg c5, if_neg c6, if_neg c7, if_pos c8]
    have b16 : 0 ≤ (μ 114 0) ∧ (μ 114 0) ≤ 1 := hB 114 0
    refine Az.blk kd_6_count_99 (show (0 ≤ 0 ∧ 0 < 604) ∧ Ez md_6_count 0 0 105 [(0, zr 113), (1, zi a1)] [zi (μ 114 0)] zSh μ _ _ _ from ⟨(by omega), ?_⟩)
    exact Ez.iret kr_6_count_105 rfl (Nat.zero_le _) (Nat.zero_le _) rfl rfl
  · rw [if_neg c1, if_neg c2, if_neg c3, if_neg c4, if_neg c5, if_neg c6, if_neg c7, if_neg c8, if_pos c9]
    refine Az.blk kd_6_count_106 (show (0 ≤ 1 ∧ 1 < 604) ∧ Ez md_6_count 0 0 112 [(0, zr 113), (1, zi a1)] [zi (μ 114 1)] zSh μ _ _ _ from ⟨(by omega), ?_⟩)
    exact Ez.iret kr_6_count_112 rfl (Nat.zero_le _) (Nat.zero_le _) rfl rfl
  · rw [if_neg c1, if_neg c2, if_neg c3, if_neg c4, if_neg c5, if_neg c6, if_neg c7, if_neg c8, if_neg c9, if_pos c10]
    have b17 : 0 ≤ (μ 113 3) ∧ (μ 113 3) ≤ 4 := hB 113 3
    refine Az.blk kd_6_count_113 (show Ez md_6_count 0 0 117 [(0, zr 113), (1, zi a1)] [zi (μ 113 3)] zSh μ _ _ _ from ?_)
    exact Ez.iret kr_6_count_117 rfl (Nat.zero_le _) (Nat.zero_le _) rfl rfl
  · rw [if_neg c1, if_neg c2, if_neg c3, if_neg c4, if_neg c5, if_neg c6, if_neg c7, if_neg c8, if_neg c9, if_neg c10, if_pos c11]
    have b18 : 0 ≤ (μ 113 8) ∧ (μ 113 8) ≤ 60 := hB 113 8
    refine Az.blk kd_6_count_118 (show Ez md_6_count 0 0 122 [(0, zr 113), (1, zi a1)] [zi (μ 113 8)] zSh μ _ _ _ from ?_)
    exact Ez.iret kr_6_count_122 rfl (Nat.zero_le _) (Nat.zero_le _) rfl rfl
  · rw [if_neg c1, if_neg c2, if_neg c3, if_neg c4, if_neg c5, if_neg c6, if_neg c7, if_neg c8, if_neg c9, if_neg c10, if_neg c11]
    refine Az.blk kd_6_count_123 (show Ez md_6_count 0 0 125 [(0, zr 113), (1, zi a1)] [zi (-2)] zSh μ _ _ _ from ?_)
    exact Ez.iret kr_6_count_125 rfl (Nat.zero_le _) (Nat.zero_le _) rfl rfl
