/-! what a row's numbers lie between -/
theorem zR_row {μ : zM} (hB : zB μ) {z : Int} (hz : 4 ≤ z) : (-5 ≤ μ 114 z ∧ μ 114 z ≤ 26) ∧ (z < 268 → 0 ≤ μ 114 z ∧ ((z - 4) % 11 < 2 → μ 114 z ≤ 2) ∧ ((z - 4) % 11 = 2 → μ 114 z ≤ 8)) ∧ (268 ≤ z ∧ z < 304 → 0 ≤ μ 114 z)
    ∧ (304 ≤ z ∧ z < 584 → ((z - 304) % 14 = 0 → 0 ≤ μ 114 z ∧ μ 114 z ≤ 1) ∧ ((z - 304) % 14 = 1 → 0 ≤ μ 114 z ∧ μ 114 z ≤ 10) ∧ ((z - 304) % 14 = 2 → 0 ≤ μ 114 z ∧ μ 114 z ≤ 9) ∧ ((z - 304) % 14 = 3 → μ 114 z = -5 ∨ (0 ≤ μ 114 z ∧ μ 114 z ≤ 23)) ∧ (3 < (z - 304) % 14 → 0 ≤ μ 114 z))
    ∧ (584 ≤ z → 0 ≤ μ 114 z ∧ μ 114 z ≤ 2 ∧ ((z - 584) % 2 = 0 → μ 114 z ≤ 1)) := by
  have h : zOkR z (μ 114 z) := hB 114 z
  unfold zOkR at h
  rw [if_neg (by omega), if_neg (by omega), if_neg (by omega), if_neg (by omega)] at h
  repeat' split at h
  all_goals omega
def kb_6_in_0 : List zI := [(.lload_n 0, 1, 0, 0), (.lload_n 2, 1, 0, 0), (.lcmp, 1, 0, 0), (.ifCond .lt 14, 3, 17, 0)]
theorem kd_6_in_0 : zdec md_6_in 0 kb_6_in_0 = true := by decide +kernel
def kb_6_in_17 : List zI := [(.iconst 0, 1, 0, 0)]
theorem kd_6_in_17 : zdec md_6_in 17 kb_6_in_17 = true := by decide +kernel
theorem kr_6_in_18 : decode md_6_in.2.1 18 = .ok (.ireturn, 1) := by decide +kernel
def kb_6_in_6 : List zI := [(.lload_n 0, 1, 0, 0), (.lload 4, 2, 0, 0), (.lcmp, 1, 0, 0), (.ifCond .gt 7, 3, 17, 0)]
theorem kd_6_in_6 : zdec md_6_in 6 kb_6_in_6 = true := by decide +kernel
def kb_6_in_13 : List zI := [(.iconst 1, 1, 0, 0), (.goto 4, 3, 18, 0)]
theorem kd_6_in_13 : zdec md_6_in 13 kb_6_in_13 = true := by decide +kernel
noncomputable def mm_in (a0 a2 a4 : Int) : Int := (if (zlcm a0 a2) < 0 then 0 else (if 0 < (zlcm a0 a4) then 0 else 1))
set_option maxHeartbeats 4000000 in
set_option maxRecDepth 100000 in
theorem mr_in (a0 a2 a4 : Int) (h0 : -1099511627776 ≤ a0 ∧ a0 ≤ 1099511627776) (h1 : -1099511627776 ≤ a2 ∧ a2 ≤ 1099511627776) (h2 : -1099511627776 ≤ a4 ∧ a4 ≤ 1099511627776) : 0 ≤ (mm_in a0 a2 a4) ∧ (mm_in a0 a2 a4) ≤ 1 ∧ ((mm_in a0 a2 a4) = 1 → a2 ≤ a0 ∧ a0 ≤ a4) ∧ ((mm_in a0 a2 a4) = 0 → a0 < a2 ∨ a4 < a0) := by
  unfold mm_in
  have f1 := zlcm_r a0 a2
  by_cases c2 : (zlcm a0 a2) < 0
  · rw [if_pos c2]
    first | omega | (dsimp only; omega)
  · rw [if_neg c2]
    have f3 := zlcm_r a0 a4
    by_cases c4 : 0 < (zlcm a0 a4)
    · rw [if_pos c4]
      first | omega | (dsimp only; omega)
    · rw [if_neg c4]
      first | omega | (dsimp only; omega)
set_option maxHeartbeats 4000000 in
set_option maxRecDepth 100000 in
theorem mz_in {μ : zM} (a0 a2 a4 : Int) (h0 : -1099511627776 ≤ a0 ∧ a0 ≤ 1099511627776) (h1 : -1099511627776 ≤ a2 ∧ a2 ≤ 1099511627776) (h2 : -1099511627776 ≤ a4 ∧ a4 ≤ 1099511627776) : Dz md_6_in [zl a0, zl a2, zl a4] zSh μ (some (zi (mm_in a0 a2 a4))) zSh μ := by
  refine Dz.of (by decide) rfl rfl (show Ez md_6_in 0 0 0 [(0, zl a0), (2, zl a2), (4, zl a4)] [] zSh μ (some (zi (mm_in a0 a2 a4))) zSh μ from ?_)
  unfold mm_in
  have f1 := zlcm_r a0 a2
  refine Az.blk kd_6_in_0 (show (-1099511627776 ≤ (a0 : Int) ∧ (a0 : Int) ≤ 1099511627776) ∧ (-1099511627776 ≤ (a2 : Int) ∧ (a2 : Int) ≤ 1099511627776) ∧ zR (zlcm a0 a2) ∧ (((zlcm a0 a2) < 0 → Ez md_6_in 0 0 17 [(0, zl a0), (2, zl a2), (4, zl a4)] [] zSh μ _ _ _) ∧ (¬ (zlcm a0 a2) < 0 → Ez md_6_in 0 0 6 [(0, zl a0), (2, zl a2), (4, zl a4)] [] zSh μ _ _ _)) from ⟨(by omega), (by omega), (by omega), fun c2 => ?_, fun c2 => ?_⟩)
  · rw [if_pos c2]
    refine Az.blk kd_6_in_17 (show Ez md_6_in 0 0 18 [(0, zl a0), (2, zl a2), (4, zl a4)] [zi 0] zSh μ _ _ _ from ?_)
    exact Ez.zret kr_6_in_18 rfl (Nat.zero_le _) (Nat.zero_le _) (Or.inl rfl) rfl rfl
  · rw [if_neg c2]
    have f3 := zlcm_r a0 a4
    refine Az.blk kd_6_in_6 (show (-1099511627776 ≤ (a0 : Int) ∧ (a0 : Int) ≤ 1099511627776) ∧ (-1099511627776 ≤ (a4 : Int) ∧ (a4 : Int) ≤ 1099511627776) ∧ zR (zlcm a0 a4) ∧ ((0 < (zlcm a0 a4) → Ez md_6_in 0 0 17 [(0, zl a0), (2, zl a2), (4, zl a4)] [] zSh μ _ _ _) ∧ (¬ 0 < (zlcm a0 a4) → Ez md_6_in 0 0 13 [(0, zl a0), (2, zl a2), (4, zl a4)] [] zSh μ _ _ _)) from ⟨(by omega), (by omega), (by omega), fun c4 => ?_, fun c4 => ?_⟩)
    · rw [if_pos c4]
      refine Az.blk kd_6_in_17 (show Ez md_6_in 0 0 18 [(0, zl a0), (2, zl a2), (4, zl a4)] [zi 0] zSh μ _ _ _ from ?_)
      exact Ez.zret kr_6_in_18 rfl (Nat.zero_le _) (Nat.zero_le _) (Or.inl rfl) rfl rfl
    · rw [if_neg c4]
      refine Az.blk kd_6_in_13 (show Ez md_6_in 0 0 18 [(0, zl a0), (2, zl a2), (4, zl a4)] [zi 1] zSh μ _ _ _ from ?_)
      exact Ez.zret kr_6_in_18 rfl (Nat.zero_le _) (Nat.zero_le _) (Or.inr rfl) rfl rfl
def kb_6_isWord_0 : List zI := [(.iload_n 1, 1, 0, 0), (.i2l, 1, 0, 0), (.lconst 0, 1, 0, 0), (.aload_n 0, 1, 0, 0), (.getfield 7, 3, 6, 0), (.iconst 2, 1, 0, 0), (.iaload, 1, 0, 0), (.i2l, 1, 0, 0), (.lconst 1, 1, 0, 0), (.lsub, 1, 0, 0)]
theorem kd_6_isWord_0 : zdec md_6_isWord 0 kb_6_isWord_0 = true := by decide +kernel
theorem kr_6_isWord_12 : decode md_6_isWord.2.1 12 = .ok (.invokestatic 32, 3) := by decide +kernel
theorem kr_6_isWord_15 : decode md_6_isWord.2.1 15 = .ok (.ireturn, 1) := by decide +kernel
noncomputable def mm_isWord (μ : zM) (a1 : Int) : Int := (mm_in a1 0 ((μ 114 2) - 1))
set_option maxHeartbeats 4000000 in
set_option maxRecDepth 100000 in
theorem mr_isWord {μ : zM} (hB : zB μ) (a1 : Int) (h0 : -2147483648 ≤ a1 ∧ a1 ≤ 2147483647) : 0 ≤ (mm_isWord μ a1) ∧ (mm_isWord μ a1) ≤ 1 ∧ ((mm_isWord μ a1) = 1 → 0 ≤ a1 ∧ a1 < μ 114 2 ∧ a1 ≤ 23) ∧ ((mm_isWord μ a1) = 0 → a1 < 0 ∨ μ 114 2 ≤ a1) := by
  unfold mm_isWord
  have b1 : 0 ≤ (μ 114 2) ∧ (μ 114 2) ≤ 24 := hB 114 2
  have r2 : 0 ≤ (mm_in a1 0 ((μ 114 2) - 1)) ∧ (mm_in a1 0 ((μ 114 2) - 1)) ≤ 1 ∧ ((mm_in a1 0 ((μ 114 2) - 1)) = 1 → (0 : Int) ≤ a1 ∧ a1 ≤ ((μ 114 2) - 1)) ∧ ((mm_in a1 0 ((μ 114 2) - 1)) = 0 → a1 < (0 : Int) ∨ ((μ 114 2) - 1) < a1) := mr_in a1 0 ((μ 114 2) - 1) (by omega) (by omega) (by omega)
  first | omega | (dsimp only; omega)
set_option maxHeartbeats 4000000 in
set_option maxRecDepth 100000 in
theorem mz_isWord {μ : zM} (hB : zB μ) (a1 : Int) (h0 : -2147483648 ≤ a1 ∧ a1 ≤ 2147483647) : Dz md_6_isWord [zr 113, zi a1] zSh μ (some (zi (mm_isWord μ a1))) zSh μ := by
  refine Dz.of (by decide) rfl rfl (show Ez md_6_isWord 0 0 0 [(0, zr 113), (1, zi a1)] [] zSh μ (some (zi (mm_isWord μ a1))) zSh μ from ?_)
  unfold mm_isWord
  have b1 : 0 ≤ (μ 114 2) ∧ (μ 114 2) ≤ 24 := hB 114 2
  refine Az.blk kd_6_isWord_0 (show zR a1 ∧ (0 ≤ 2 ∧ 2 < 604) ∧ zR (μ 114 2) ∧ Ez md_6_isWord 0 0 12 [(0, zr 113), (1, zi a1)] [zl ((μ 114 2) - 1), zl 0, zl a1] zSh μ _ _ _ from ⟨(by omega), (by omega), (by omega), ?_⟩)
  refine Az.cS (mc := md_6_in) (n := 3) (As := [zl a1, zl 0, zl ((μ 114 2) - 1)]) (rest := []) kr_6_isWord_12 zw_626 ok_6_in rfl rfl (mz_in a1 0 ((μ 114 2) - 1) (by omega) (by omega) (by omega)) rfl rfl (show Ez md_6_isWord 0 0 15 [(0, zr 113), (1, zi a1)] [zi (mm_in a1 0 ((μ 114 2) - 1))] zSh μ _ _ _ from ?_)
  have r2 : 0 ≤ (mm_in a1 0 ((μ 114 2) - 1)) ∧ (mm_in a1 0 ((μ 114 2) - 1)) ≤ 1 ∧ ((mm_in a1 0 ((μ 114 2) - 1)) = 1 → (0 : Int) ≤ a1 ∧ a1 ≤ ((μ 114 2) - 1)) ∧ ((mm_in a1 0 ((μ 114 2) - 1)) = 0 → a1 < (0 : Int) ∨ ((μ 114 2) - 1) < a1) := mr_in a1 0 ((μ 114 2) - 1) (by omega) (by omega) (by omega)
  exact Ez.zret kr_6_isWord_15 rfl (Nat.zero_le _) (Nat.zero_le _) (by omega) rfl rfl
def kb_6_isKind_0 : List zI := [(.iload_n 0, 1, 0, 0), (.i2l, 1, 0, 0), (.lconst 0, 1, 0, 0), (.ldc2_w 36, 3, 2, 0)]
theorem kd_6_isKind_0 : zdec md_6_isKind 0 kb_6_isKind_0 = true := by decide +kernel
theorem kr_6_isKind_6 : decode md_6_isKind.2.1 6 = .ok (.invokestatic 32, 3) := by decide +kernel
theorem kr_6_isKind_9 : decode md_6_isKind.2.1 9 = .ok (.ireturn, 1) := by decide +kernel
noncomputable def mm_isKind (a0 : Int) : Int := (mm_in a0 0 2)
set_option maxHeartbeats 4000000 in
set_option maxRecDepth 100000 in
theorem mr_isKind (a0 : Int) (h0 : -2147483648 ≤ a0 ∧ a0 ≤ 2147483647) : 0 ≤ (mm_isKind a0) ∧ (mm_isKind a0) ≤ 1 ∧ ((mm_isKind a0) = 1 → 0 ≤ a0 ∧ a0 ≤ 2) ∧ ((mm_isKind a0) = 0 → a0 < 0 ∨ 2 < a0) := by
  unfold mm_isKind
  have r1 : 0 ≤ (mm_in a0 0 2) ∧ (mm_in a0 0 2) ≤ 1 ∧ ((mm_in a0 0 2) = 1 → (0 : Int) ≤ a0 ∧ a0 ≤ (2 : Int)) ∧ ((mm_in a0 0 2) = 0 → a0 < (0 : Int) ∨ (2 : Int) < a0) := mr_in a0 0 2 (by omega) (by omega) (by omega)
  first | omega | (dsimp only; omega)
set_option maxHeartbeats 4000000 in
set_option maxRecDepth 100000 in
theorem mz_isKind {μ : zM} (a0 : Int) (h0 : -2147483648 ≤ a0 ∧ a0 ≤ 2147483647) : Dz md_6_isKind [zi a0] zSh μ (some (zi (mm_isKind a0))) zSh μ := by
  refine Dz.of (by decide) rfl rfl (show Ez md_6_isKind 0 0 0 [(0, zi a0)] [] zSh μ (some (zi (mm_isKind a0))) zSh μ from ?_)
  unfold mm_isKind
  refine Az.blk kd_6_isKind_0 (show zR a0 ∧ Ez md_6_isKind 0 0 6 [(0, zi a0)] [zl 2, zl 0, zl a0] zSh μ _ _ _ from ⟨(by omega), ?_⟩)
  refine Az.cS (mc := md_6_in) (n := 3) (As := [zl a0, zl 0, zl 2]) (rest := []) kr_6_isKind_6 zw_626 ok_6_in rfl rfl (mz_in a0 0 2 (by omega) (by omega) (by omega)) rfl rfl (show Ez md_6_isKind 0 0 9 [(0, zi a0)] [zi (mm_in a0 0 2)] zSh μ _ _ _ from ?_)
  have r1 : 0 ≤ (mm_in a0 0 2) ∧ (mm_in a0 0 2) ≤ 1 ∧ ((mm_in a0 0 2) = 1 → (0 : Int) ≤ a0 ∧ a0 ≤ (2 : Int)) ∧ ((mm_in a0 0 2) = 0 → a0 < (0 : Int) ∨ (2 : Int) < a0) := mr_in a0 0 2 (by omega) (by omega) (by omega)
  exact Ez.zret kr_6_isKind_9 rfl (Nat.zero_le _) (Nat.zero_le _) (by omega) rfl rfl
def kb_6_ofWord_0 : List zI := [(.aload_n 0, 1, 0, 0), (.getfield 7, 3, 6, 0), (.iconst 4, 1, 0, 0), (.bipush 11, 2, 0, 0), (.iload_n 1, 1, 0, 0), (.imul, 1, 0, 0), (.iadd, 1, 0, 0), (.iload_n 2, 1, 0, 0), (.iadd, 1, 0, 0), (.iaload, 1, 0, 0)]
theorem kd_6_ofWord_0 : zdec md_6_ofWord 0 kb_6_ofWord_0 = true := by decide +kernel
theorem kr_6_ofWord_13 : decode md_6_ofWord.2.1 13 = .ok (.ireturn, 1) := by decide +kernel
noncomputable def mm_ofWord (μ : zM) (a1 a2 : Int) : Int := (μ 114 ((4 + (11 * a1)) + a2))
set_option maxHeartbeats 4000000 in
set_option maxRecDepth 100000 in
theorem mr_ofWord {μ : zM} (hB : zB μ) (a1 a2 : Int) (h0 : 0 ≤ a1 ∧ a1 ≤ 23) (h1 : 0 ≤ a2 ∧ a2 ≤ 10) : 0 ≤ (mm_ofWord μ a1 a2) ∧ (mm_ofWord μ a1 a2) ≤ 26 ∧ (a2 < 2 → (mm_ofWord μ a1 a2) ≤ 2) ∧ (a2 = 2 → (mm_ofWord μ a1 a2) ≤ 8) := by
  unfold mm_ofWord
  have q1 := zR_row hB (z := ((4 + (11 * a1)) + a2)) (by omega)
  have e9 : (((4 + (11 * a1)) + a2) - 4) % 11 = a2 := by omega
  first | omega | (dsimp only; omega)
set_option maxHeartbeats 4000000 in
set_option maxRecDepth 100000 in
theorem mz_ofWord {μ : zM} (hB : zB μ) (a1 a2 : Int) (h0 : 0 ≤ a1 ∧ a1 ≤ 23) (h1 : 0 ≤ a2 ∧ a2 ≤ 10) : Dz md_6_ofWord [zr 113, zi a1, zi a2] zSh μ (some (zi (mm_ofWord μ a1 a2))) zSh μ := by
  refine Dz.of (by decide) rfl rfl (show Ez md_6_ofWord 0 0 0 [(0, zr 113), (1, zi a1), (2, zi a2)] [] zSh μ (some (zi (mm_ofWord μ a1 a2))) zSh μ from ?_)
  unfold mm_ofWord
  have q1 := zR_row hB (z := ((4 + (11 * a1)) + a2)) (by omega)
  refine Az.blk kd_6_ofWord_0 (show (0 ≤ ((4 + (11 * a1)) + a2) ∧ ((4 + (11 * a1)) + a2) < 604) ∧ Ez md_6_ofWord 0 0 13 [(0, zr 113), (1, zi a1), (2, zi a2)] [zi (μ 114 ((4 + (11 * a1)) + a2))] zSh μ _ _ _ from ⟨(by omega), ?_⟩)
  have e9 : (((4 + (11 * a1)) + a2) - 4) % 11 = a2 := by omega
  exact Ez.iret kr_6_ofWord_13 rfl (Nat.zero_le _) (Nat.zero_le _) rfl rfl
def kb_6_endingAt_0 : List zI := [(.sipush 268, 3, 0, 0), (.iconst 2, 1, 0, 0), (.bipush 6, 2, 0, 0), (.iload_n 0, 1, 0, 0), (.imul, 1, 0, 0), (.iload_n 1, 1, 0, 0), (.iadd, 1, 0, 0), (.imul, 1, 0, 0), (.iadd, 1, 0, 0)]
theorem kd_6_endingAt_0 : zdec md_6_endingAt 0 kb_6_endingAt_0 = true := by decide +kernel
theorem kr_6_endingAt_12 : decode md_6_endingAt.2.1 12 = .ok (.ireturn, 1) := by decide +kernel
noncomputable def mm_endingAt (a0 a1 : Int) : Int := (268 + (2 * ((6 * a0) + a1)))
set_option maxHeartbeats 4000000 in
set_option maxRecDepth 100000 in
theorem mr_endingAt (a0 a1 : Int) (h0 : 0 ≤ a0 ∧ a0 ≤ 2) (h1 : 0 ≤ a1 ∧ a1 ≤ 5) : (mm_endingAt a0 a1) = 268 + 2 * (6 * a0 + a1) := by
  unfold mm_endingAt
  first | omega | (dsimp only; omega)
set_option maxHeartbeats 4000000 in
set_option maxRecDepth 100000 in
theorem mz_endingAt {μ : zM} (a0 a1 : Int) (h0 : 0 ≤ a0 ∧ a0 ≤ 2) (h1 : 0 ≤ a1 ∧ a1 ≤ 5) : Dz md_6_endingAt [zi a0, zi a1] zSh μ (some (zi (mm_endingAt a0 a1))) zSh μ := by
  refine Dz.of (by decide) rfl rfl (show Ez md_6_endingAt 0 0 0 [(0, zi a0), (1, zi a1)] [] zSh μ (some (zi (mm_endingAt a0 a1))) zSh μ from ?_)
  unfold mm_endingAt
  refine Az.blk kd_6_endingAt_0 (show Ez md_6_endingAt 0 0 12 [(0, zi a0), (1, zi a1)] [zi (268 + (2 * ((6 * a0) + a1)))] zSh μ _ _ _ from ?_)
  exact Ez.iret kr_6_endingAt_12 rfl (Nat.zero_le _) (Nat.zero_le _) rfl rfl
def kb_6_endingLong_0 : List zI := [(.iload_n 1, 1, 0, 0), (.iload_n 2, 1, 0, 0)]
theorem kd_6_endingLong_0 : zdec md_6_endingLong 0 kb_6_endingLong_0 = true := by decide +kernel
theorem kr_6_endingLong_2 : decode md_6_endingLong.2.1 2 = .ok (.invokestatic 38, 3) := by decide +kernel
def kb_6_endingLong_5 : List zI := [(.istore_n 3, 1, 0, 0), (.aload_n 0, 1, 0, 0), (.getfield 7, 3, 6, 0), (.iload_n 3, 1, 0, 0), (.iaload, 1, 0, 0), (.ifCond .le 7, 3, 19, 0)]
theorem kd_6_endingLong_5 : zdec md_6_endingLong 5 kb_6_endingLong_5 = true := by decide +kernel
def kb_6_endingLong_19 : List zI := [(.iconst 0, 1, 0, 0), (.aload_n 0, 1, 0, 0), (.getfield 7, 3, 6, 0), (.iload_n 3, 1, 0, 0), (.iconst 1, 1, 0, 0), (.iadd, 1, 0, 0), (.iaload, 1, 0, 0), (.ifCond .le 7, 3, 35, 0)]
theorem kd_6_endingLong_19 : zdec md_6_endingLong 19 kb_6_endingLong_19 = true := by decide +kernel
def kb_6_endingLong_35 : List zI := [(.iconst 0, 1, 0, 0), (.iadd, 1, 0, 0)]
theorem kd_6_endingLong_35 : zdec md_6_endingLong 35 kb_6_endingLong_35 = true := by decide +kernel
theorem kr_6_endingLong_37 : decode md_6_endingLong.2.1 37 = .ok (.ireturn, 1) := by decide +kernel
def kb_6_endingLong_31 : List zI := [(.iconst 1, 1, 0, 0), (.goto 4, 3, 36, 0)]
theorem kd_6_endingLong_31 : zdec md_6_endingLong 31 kb_6_endingLong_31 = true := by decide +kernel
def kb_6_endingLong_36 : List zI := [(.iadd, 1, 0, 0)]
theorem kd_6_endingLong_36 : zdec md_6_endingLong 36 kb_6_endingLong_36 = true := by decide +kernel
def kb_6_endingLong_15 : List zI := [(.iconst 1, 1, 0, 0), (.goto 4, 3, 20, 0)]
theorem kd_6_endingLong_15 : zdec md_6_endingLong 15 kb_6_endingLong_15 = true := by decide +kernel
def kb_6_endingLong_20 : List zI := [(.aload_n 0, 1, 0, 0), (.getfield 7, 3, 6, 0), (.iload_n 3, 1, 0, 0), (.iconst 1, 1, 0, 0), (.iadd, 1, 0, 0), (.iaload, 1, 0, 0), (.ifCond .le 7, 3, 35, 0)]
theorem kd_6_endingLong_20 : zdec md_6_endingLong 20 kb_6_endingLong_20 = true := by decide +kernel
noncomputable def mm_endingLong (μ : zM) (a1 a2 : Int) : Int := (if 0 < (μ 114 (mm_endingAt a1 a2)) then (if 0 < (μ 114 ((mm_endingAt a1 a2) + 1)) then (1 + 1) else (1 + 0)) else (if 0 < (μ 114 ((mm_endingAt a1 a2) + 1)) then (0 + 1) else (0 + 0)))
set_option maxHeartbeats 4000000 in
set_option maxRecDepth 100000 in
theorem mr_endingLong {μ : zM} (hB : zB μ) (a1 a2 : Int) (h0 : 0 ≤ a1 ∧ a1 ≤ 2) (h1 : 0 ≤ a2 ∧ a2 ≤ 5) : 0 ≤ (mm_endingLong μ a1 a2) ∧ (mm_endingLong μ a1 a2) ≤ 2 := by
  unfold mm_endingLong
  have r1 : (mm_endingAt a1 a2) = 268 + 2 * (6 * a1 + a2) := mr_endingAt a1 a2 (by omega) (by omega)
  have q2 := zR_row hB (z := (mm_endingAt a1 a2)) (by omega)
  by_cases c3 : 0 < (μ 114 (mm_endingAt a1 a2))
  · rw [if_pos c3]
    have q6 := zR_row hB (z := ((mm_endingAt a1 a2) + 1)) (by omega)
    by_cases c7 : 0 < (μ 114 ((mm_endingAt a1 a2) + 1))
    · rw [if_pos c7]
      first | omega | (dsimp only; omega)
    · rw [if_neg c7]
      first | omega | (dsimp only; omega)
  · rw [if_neg c3]
    have q4 := zR_row hB (z := ((mm_endingAt a1 a2) + 1)) (by omega)
    by_cases c5 : 0 < (μ 114 ((mm_endingAt a1 a2) + 1))
    · rw [if_pos c5]
      first | omega | (dsimp only; omega)
    · rw [if_neg c5]
      first | omega | (dsimp only; omega)
set_option maxHeartbeats 4000000 in
set_option maxRecDepth 100000 in
theorem mz_endingLong {μ : zM} (hB : zB μ) (a1 a2 : Int) (h0 : 0 ≤ a1 ∧ a1 ≤ 2) (h1 : 0 ≤ a2 ∧ a2 ≤ 5) : Dz md_6_endingLong [zr 113, zi a1, zi a2] zSh μ (some (zi (mm_endingLong μ a1 a2))) zSh μ := by
  refine Dz.of (by decide) rfl rfl (show Ez md_6_endingLong 0 0 0 [(0, zr 113), (1, zi a1), (2, zi a2)] [] zSh μ (some (zi (mm_endingLong μ a1 a2))) zSh μ from ?_)
  unfold mm_endingLong
  refine Az.blk kd_6_endingLong_0 (show Ez md_6_endingLong 0 0 2 [(0, zr 113), (1, zi a1), (2, zi a2)] [zi a2, zi a1] zSh μ _ _ _ from ?_)
  refine Az.cS (mc := md_6_endingAt) (n := 2) (As := [zi a1, zi a2]) (rest := []) kr_6_endingLong_2 zw_651 ok_6_endingAt rfl rfl (mz_endingAt a1 a2 (by omega) (by omega)) rfl rfl (show Ez md_6_endingLong 0 0 5 [(0, zr 113), (1, zi a1), (2, zi a2)] [zi (mm_endingAt a1 a2)] zSh μ _ _ _ from ?_)
  have r1 : (mm_endingAt a1 a2) = 268 + 2 * (6 * a1 + a2) := mr_endingAt a1 a2 (by omega) (by omega)
  have q2 := zR_row hB (z := (mm_endingAt a1 a2)) (by omega)
  refine Az.blk kd_6_endingLong_5 (show (0 ≤ (mm_endingAt a1 a2) ∧ (mm_endingAt a1 a2) < 604) ∧ zR (μ 114 (mm_endingAt a1 a2)) ∧ ((¬ 0 < (μ 114 (mm_endingAt a1 a2)) → Ez md_6_endingLong 0 0 19 [(3, zi (mm_endingAt a1 a2)), (0, zr 113), (1, zi a1), (2, zi a2)] [] zSh μ _ _ _) ∧ (0 < (μ 114 (mm_endingAt a1 a2)) → Ez md_6_endingLong 0 0 15 [(3, zi (mm_endingAt a1 a2)), (0, zr 113), (1, zi a1), (2, zi a2)] [] zSh μ _ _ _)) from ⟨(by omega), (by omega), fun c3 => ?_, fun c3 => ?_⟩)
  · rw [if_neg c3]
    have q4 := zR_row hB (z := ((mm_endingAt a1 a2) + 1)) (by omega)
    refine Az.blk kd_6_endingLong_19 (show (0 ≤ ((mm_endingAt a1 a2) + 1) ∧ ((mm_endingAt a1 a2) + 1) < 604) ∧ zR (μ 114 ((mm_endingAt a1 a2) + 1)) ∧ ((¬ 0 < (μ 114 ((mm_endingAt a1 a2) + 1)) → Ez md_6_endingLong 0 0 35 [(3, zi (mm_endingAt a1 a2)), (0, zr 113), (1, zi a1), (2, zi a2)] [zi 0] zSh μ _ _ _) ∧ (0 < (μ 114 ((mm_endingAt a1 a2) + 1)) → Ez md_6_endingLong 0 0 31 [(3, zi (mm_endingAt a1 a2)), (0, zr 113), (1, zi a1), (2, zi a2)] [zi 0] zSh μ _ _ _)) from ⟨(by omega), (by omega), fun c5 => ?_, fun c5 => ?_⟩)
    · rw [if_neg c5]
      refine Az.blk kd_6_endingLong_35 (show Ez md_6_endingLong 0 0 37 [(3, zi (mm_endingAt a1 a2)), (0, zr 113), (1, zi a1), (2, zi a2)] [zi (0 + 0)] zSh μ _ _ _ from ?_)
      exact Ez.iret kr_6_endingLong_37 rfl (Nat.zero_le _) (Nat.zero_le _) rfl rfl
    · rw [if_pos c5]
      refine Az.blk kd_6_endingLong_31 (show Ez md_6_endingLong 0 0 36 [(3, zi (mm_endingAt a1 a2)), (0, zr 113), (1, zi a1), (2, zi a2)] [zi 1, zi 0] zSh μ _ _ _ from ?_)
      refine Az.blk kd_6_endingLong_36 (show Ez md_6_endingLong 0 0 37 [(3, zi (mm_endingAt a1 a2)), (0, zr 113), (1, zi a1), (2, zi a2)] [zi (0 + 1)] zSh μ _ _ _ from ?_)
      exact Ez.iret kr_6_endingLong_37 rfl (Nat.zero_le _) (Nat.zero_le _) rfl rfl
  · rw [if_pos c3]
    refine Az.blk kd_6_endingLong_15 (show Ez md_6_endingLong 0 0 20 [(3, zi (mm_endingAt a1 a2)), (0, zr 113), (1, zi a1), (2, zi a2)] [zi 1] zSh μ _ _ _ from ?_)
    have q6 := zR_row hB (z := ((mm_endingAt a1 a2) + 1)) (by omega)
    refine Az.blk kd_6_endingLong_20 (show (0 ≤ ((mm_endingAt a1 a2) + 1) ∧ ((mm_endingAt a1 a2) + 1) < 604) ∧ zR (μ 114 ((mm_endingAt a1 a2) + 1)) ∧ ((¬ 0 < (μ 114 ((mm_endingAt a1 a2) + 1)) → Ez md_6_endingLong 0 0 35 [(3, zi (mm_endingAt a1 a2)), (0, zr 113), (1, zi a1), (2, zi a2)] [zi 1] zSh μ _ _ _) ∧ (0 < (μ 114 ((mm_endingAt a1 a2) + 1)) → Ez md_6_endingLong 0 0 31 [(3, zi (mm_endingAt a1 a2)), (0, zr 113), (1, zi a1), (2, zi a2)] [zi 1] zSh μ _ _ _)) from ⟨(by omega), (by omega), fun c7 => ?_, fun c7 => ?_⟩)
    · rw [if_neg c7]
      refine Az.blk kd_6_endingLong_35 (show Ez md_6_endingLong 0 0 37 [(3, zi (mm_endingAt a1 a2)), (0, zr 113), (1, zi a1), (2, zi a2)] [zi (1 + 0)] zSh μ _ _ _ from ?_)
      exact Ez.iret kr_6_endingLong_37 rfl (Nat.zero_le _) (Nat.zero_le _) rfl rfl
    · rw [if_pos c7]
      refine Az.blk kd_6_endingLong_31 (show Ez md_6_endingLong 0 0 36 [(3, zi (mm_endingAt a1 a2)), (0, zr 113), (1, zi a1), (2, zi a2)] [zi 1, zi 1] zSh μ _ _ _ from ?_)
      refine Az.blk kd_6_endingLong_36 (show Ez md_6_endingLong 0 0 37 [(3, zi (mm_endingAt a1 a2)), (0, zr 113), (1, zi a1), (2, zi a2)] [zi (1 + 1)] zSh μ _ _ _ from ?_)
      exact Ez.iret kr_6_endingLong_37 rfl (Nat.zero_le _) (Nat.zero_le _) rfl rfl
def kb_6_lengthOf_0 : List zI := [(.aload_n 0, 1, 0, 0), (.iload_n 1, 1, 0, 0), (.iconst 2, 1, 0, 0)]
theorem kd_6_lengthOf_0 : zdec md_6_lengthOf 0 kb_6_lengthOf_0 = true := by decide +kernel
theorem kr_6_lengthOf_3 : decode md_6_lengthOf.2.1 3 = .ok (.invokevirtual 42, 3) := by decide +kernel
def kb_6_lengthOf_6 : List zI := [(.aload_n 0, 1, 0, 0), (.aload_n 0, 1, 0, 0), (.iload_n 1, 1, 0, 0), (.iconst 0, 1, 0, 0)]
theorem kd_6_lengthOf_6 : zdec md_6_lengthOf 6 kb_6_lengthOf_6 = true := by decide +kernel
theorem kr_6_lengthOf_10 : decode md_6_lengthOf.2.1 10 = .ok (.invokevirtual 42, 3) := by decide +kernel
def kb_6_lengthOf_13 : List zI := [(.iload_n 2, 1, 0, 0)]
theorem kd_6_lengthOf_13 : zdec md_6_lengthOf 13 kb_6_lengthOf_13 = true := by decide +kernel
theorem kr_6_lengthOf_14 : decode md_6_lengthOf.2.1 14 = .ok (.invokevirtual 45, 3) := by decide +kernel
def kb_6_lengthOf_17 : List zI := [(.iadd, 1, 0, 0)]
theorem kd_6_lengthOf_17 : zdec md_6_lengthOf 17 kb_6_lengthOf_17 = true := by decide +kernel
theorem kr_6_lengthOf_18 : decode md_6_lengthOf.2.1 18 = .ok (.ireturn, 1) := by decide +kernel
noncomputable def mm_lengthOf (μ : zM) (a1 a2 : Int) : Int := ((mm_ofWord μ a1 2) + (mm_endingLong μ (mm_ofWord μ a1 0) a2))
set_option maxHeartbeats 4000000 in
set_option maxRecDepth 100000 in
theorem mr_lengthOf {μ : zM} (hB : zB μ) (a1 a2 : Int) (h0 : 0 ≤ a1 ∧ a1 ≤ 23) (h1 : 0 ≤ a2 ∧ a2 ≤ 5) : 0 ≤ (mm_lengthOf μ a1 a2) ∧ (mm_lengthOf μ a1 a2) ≤ 10 := by
  unfold mm_lengthOf
  have r1 : 0 ≤ (mm_ofWord μ a1 2) ∧ (mm_ofWord μ a1 2) ≤ 26 ∧ ((2 : Int) < 2 → (mm_ofWord μ a1 2) ≤ 2) ∧ ((2 : Int) = 2 → (mm_ofWord μ a1 2) ≤ 8) := mr_ofWord hB a1 2 (by omega) (by omega)
  have r2 : 0 ≤ (mm_ofWord μ a1 0) ∧ (mm_ofWord μ a1 0) ≤ 26 ∧ ((0 : Int) < 2 → (mm_ofWord μ a1 0) ≤ 2) ∧ ((0 : Int) = 2 → (mm_ofWord μ a1 0) ≤ 8) := mr_ofWord hB a1 0 (by omega) (by omega)
  have r3 : 0 ≤ (mm_endingLong μ (mm_ofWord μ a1 0) a2) ∧ (mm_endingLong μ (mm_ofWord μ a1 0) a2) ≤ 2 := mr_endingLong hB (mm_ofWord μ a1 0) a2 (by omega) (by omega)
  first | omega | (dsimp only; omega)
set_option maxHeartbeats 4000000 in
set_option maxRecDepth 100000 in
theorem mz_lengthOf {μ : zM} (hB : zB μ) (a1 a2 : Int) (h0 : 0 ≤ a1 ∧ a1 ≤ 23) (h1 : 0 ≤ a2 ∧ a2 ≤ 5) : Dz md_6_lengthOf [zr 113, zi a1, zi a2] zSh μ (some (zi (mm_lengthOf μ a1 a2))) zSh μ := by
  refine Dz.of (by decide) rfl rfl (show Ez md_6_lengthOf 0 0 0 [(0, zr 113), (1, zi a1), (2, zi a2)] [] zSh μ (some (zi (mm_lengthOf μ a1 a2))) zSh μ from ?_)
  unfold mm_lengthOf
  refine Az.blk kd_6_lengthOf_0 (show Ez md_6_lengthOf 0 0 3 [(0, zr 113), (1, zi a1), (2, zi a2)] [zi 2, zi a1, zr 113] zSh μ _ _ _ from ?_)
  refine Az.cV (mc := md_6_ofWord) (k := 113) (n := 2) (As := [zi a1, zi 2]) (rest := []) kr_6_lengthOf_3 zw_722 ok_6_ofWord rfl rfl rfl trivial (mz_ofWord hB a1 2 (by omega) (by omega)) rfl rfl (show Ez md_6_lengthOf 0 0 6 [(0, zr 113), (1, zi a1), (2, zi a2)] [zi (mm_ofWord μ a1 2)] zSh μ _ _ _ from ?_)
  have r1 : 0 ≤ (mm_ofWord μ a1 2) ∧ (mm_ofWord μ a1 2) ≤ 26 ∧ ((2 : Int) < 2 → (mm_ofWord μ a1 2) ≤ 2) ∧ ((2 : Int) = 2 → (mm_ofWord μ a1 2) ≤ 8) := mr_ofWord hB a1 2 (by omega) (by omega)
  refine Az.blk kd_6_lengthOf_6 (show Ez md_6_lengthOf 0 0 10 [(0, zr 113), (1, zi a1), (2, zi a2)] [zi 0, zi a1, zr 113, zr 113, zi (mm_ofWord μ a1 2)] zSh μ _ _ _ from ?_)
  refine Az.cV (mc := md_6_ofWord) (k := 113) (n := 2) (As := [zi a1, zi 0]) (rest := [zr 113, zi (mm_ofWord μ a1 2)]) kr_6_lengthOf_10 zw_722 ok_6_ofWord rfl rfl rfl trivial (mz_ofWord hB a1 0 (by omega) (by omega)) rfl rfl (show Ez md_6_lengthOf 0 0 13 [(0, zr 113), (1, zi a1), (2, zi a2)] [zi (mm_ofWord μ a1 0), zr 113, zi (mm_ofWord μ a1 2)] zSh μ _ _ _ from ?_)
  have r2 : 0 ≤ (mm_ofWord μ a1 0) ∧ (mm_ofWord μ a1 0) ≤ 26 ∧ ((0 : Int) < 2 → (mm_ofWord μ a1 0) ≤ 2) ∧ ((0 : Int) = 2 → (mm_ofWord μ a1 0) ≤ 8) := mr_ofWord hB a1 0 (by omega) (by omega)
  refine Az.blk kd_6_lengthOf_13 (show Ez md_6_lengthOf 0 0 14 [(0, zr 113), (1, zi a1), (2, zi a2)] [zi a2, zi (mm_ofWord μ a1 0), zr 113, zi (mm_ofWord μ a1 2)] zSh μ _ _ _ from ?_)
  refine Az.cV (mc := md_6_endingLong) (k := 113) (n := 2) (As := [zi (mm_ofWord μ a1 0), zi a2]) (rest := [zi (mm_ofWord μ a1 2)]) kr_6_lengthOf_14 zw_790 ok_6_endingLong rfl rfl rfl trivial (mz_endingLong hB (mm_ofWord μ a1 0) a2 (by omega) (by omega)) rfl rfl (show Ez md_6_lengthOf 0 0 17 [(0, zr 113), (1, zi a1), (2, zi a2)] [zi (mm_endingLong μ (mm_ofWord μ a1 0) a2), zi (mm_ofWord μ a1 2)] zSh μ _ _ _ from ?_)
  have r3 : 0 ≤ (mm_endingLong μ (mm_ofWord μ a1 0) a2) ∧ (mm_endingLong μ (mm_ofWord μ a1 0) a2) ≤ 2 := mr_endingLong hB (mm_ofWord μ a1 0) a2 (by omega) (by omega)
  refine Az.blk kd_6_lengthOf_17 (show Ez md_6_lengthOf 0 0 18 [(0, zr 113), (1, zi a1), (2, zi a2)] [zi ((mm_ofWord μ a1 2) + (mm_endingLong μ (mm_ofWord μ a1 0) a2))] zSh μ _ _ _ from ?_)
  exact Ez.iret kr_6_lengthOf_18 rfl (Nat.zero_le _) (Nat.zero_le _) rfl rfl
def kb_6_letterOf_0 : List zI := [(.aload_n 0, 1, 0, 0), (.iload_n 1, 1, 0, 0), (.iconst 2, 1, 0, 0)]
theorem kd_6_letterOf_0 : zdec md_6_letterOf 0 kb_6_letterOf_0 = true := by decide +kernel
theorem kr_6_letterOf_3 : decode md_6_letterOf.2.1 3 = .ok (.invokevirtual 42, 3) := by decide +kernel
def kb_6_letterOf_6 : List zI := [(.istore 4, 2, 0, 0), (.iload_n 3, 1, 0, 0), (.iload 4, 2, 0, 0), (.if_icmp .ge 14, 3, 25, 0)]
theorem kd_6_letterOf_6 : zdec md_6_letterOf 6 kb_6_letterOf_6 = true := by decide +kernel
def kb_6_letterOf_25 : List zI := [(.aload_n 0, 1, 0, 0), (.getfield 7, 3, 6, 0), (.aload_n 0, 1, 0, 0), (.iload_n 1, 1, 0, 0), (.iconst 0, 1, 0, 0)]
theorem kd_6_letterOf_25 : zdec md_6_letterOf 25 kb_6_letterOf_25 = true := by decide +kernel
theorem kr_6_letterOf_32 : decode md_6_letterOf.2.1 32 = .ok (.invokevirtual 42, 3) := by decide +kernel
def kb_6_letterOf_35 : List zI := [(.iload_n 2, 1, 0, 0)]
theorem kd_6_letterOf_35 : zdec md_6_letterOf 35 kb_6_letterOf_35 = true := by decide +kernel
theorem kr_6_letterOf_36 : decode md_6_letterOf.2.1 36 = .ok (.invokestatic 38, 3) := by decide +kernel
def kb_6_letterOf_39 : List zI := [(.iload_n 3, 1, 0, 0), (.iadd, 1, 0, 0), (.iload 4, 2, 0, 0), (.isub, 1, 0, 0), (.iaload, 1, 0, 0)]
theorem kd_6_letterOf_39 : zdec md_6_letterOf 39 kb_6_letterOf_39 = true := by decide +kernel
theorem kr_6_letterOf_45 : decode md_6_letterOf.2.1 45 = .ok (.ireturn, 1) := by decide +kernel
def kb_6_letterOf_14 : List zI := [(.aload_n 0, 1, 0, 0), (.iload_n 1, 1, 0, 0), (.iconst 3, 1, 0, 0), (.iload_n 3, 1, 0, 0), (.iadd, 1, 0, 0)]
theorem kd_6_letterOf_14 : zdec md_6_letterOf 14 kb_6_letterOf_14 = true := by decide +kernel
theorem kr_6_letterOf_19 : decode md_6_letterOf.2.1 19 = .ok (.invokevirtual 42, 3) := by decide +kernel
def kb_6_letterOf_22 : List zI := [(.goto 23, 3, 45, 0)]
theorem kd_6_letterOf_22 : zdec md_6_letterOf 22 kb_6_letterOf_22 = true := by decide +kernel
noncomputable def mm_letterOf (μ : zM) (a1 a2 a3 : Int) : Int := (if a3 < (mm_ofWord μ a1 2) then (mm_ofWord μ a1 (3 + a3)) else (μ 114 (((mm_endingAt (mm_ofWord μ a1 0) a2) + a3) - (mm_ofWord μ a1 2))))
set_option maxHeartbeats 4000000 in
set_option maxRecDepth 100000 in
theorem mz_letterOf {μ : zM} (hB : zB μ) (a1 a2 a3 : Int) (h0 : 0 ≤ a1 ∧ a1 ≤ 23) (h1 : 0 ≤ a2 ∧ a2 ≤ 5) (h2 : 0 ≤ a3 ∧ a3 ≤ 20) : Dz md_6_letterOf [zr 113, zi a1, zi a2, zi a3] zSh μ (some (zi (mm_letterOf μ a1 a2 a3))) zSh μ := by
  refine Dz.of (by decide) rfl rfl (show Ez md_6_letterOf 0 0 0 [(0, zr 113), (1, zi a1), (2, zi a2), (3, zi a3)] [] zSh μ (some (zi (mm_letterOf μ a1 a2 a3))) zSh μ from ?_)
  unfold mm_letterOf
  refine Az.blk kd_6_letterOf_0 (show Ez md_6_letterOf 0 0 3 [(0, zr 113), (1, zi a1), (2, zi a2), (3, zi a3)] [zi 2, zi a1, zr 113] zSh μ _ _ _ from ?_)
  refine Az.cV (mc := md_6_ofWord) (k := 113) (n := 2) (As := [zi a1, zi 2]) (rest := []) kr_6_letterOf_3 zw_722 ok_6_ofWord rfl rfl rfl trivial (mz_ofWord hB a1 2 (by omega) (by omega)) rfl rfl (show Ez md_6_letterOf 0 0 6 [(0, zr 113), (1, zi a1), (2, zi a2), (3, zi a3)] [zi (mm_ofWord μ a1 2)] zSh μ _ _ _ from ?_)
  have r1 : 0 ≤ (mm_ofWord μ a1 2) ∧ (mm_ofWord μ a1 2) ≤ 26 ∧ ((2 : Int) < 2 → (mm_ofWord μ a1 2) ≤ 2) ∧ ((2 : Int) = 2 → (mm_ofWord μ a1 2) ≤ 8) := mr_ofWord hB a1 2 (by omega) (by omega)
  refine Az.blk kd_6_letterOf_6 (show zR a3 ∧ zR (mm_ofWord μ a1 2) ∧ ((¬ a3 < (mm_ofWord μ a1 2) → Ez md_6_letterOf 0 0 25 [(4, zi (mm_ofWord μ a1 2)), (0, zr 113), (1, zi a1), (2, zi a2), (3, zi a3)] [] zSh μ _ _ _) ∧ (a3 < (mm_ofWord μ a1 2) → Ez md_6_letterOf 0 0 14 [(4, zi (mm_ofWord μ a1 2)), (0, zr 113), (1, zi a1), (2, zi a2), (3, zi a3)] [] zSh μ _ _ _)) from ⟨(by omega), (by omega), fun c2 => ?_, fun c2 => ?_⟩)
  · rw [if_neg c2]
    refine Az.blk kd_6_letterOf_25 (show Ez md_6_letterOf 0 0 32 [(4, zi (mm_ofWord μ a1 2)), (0, zr 113), (1, zi a1), (2, zi a2), (3, zi a3)] [zi 0, zi a1, zr 113, zr 114] zSh μ _ _ _ from ?_)
    refine Az.cV (mc := md_6_ofWord) (k := 113) (n := 2) (As := [zi a1, zi 0]) (rest := [zr 114]) kr_6_letterOf_32 zw_722 ok_6_ofWord rfl rfl rfl trivial (mz_ofWord hB a1 0 (by omega) (by omega)) rfl rfl (show Ez md_6_letterOf 0 0 35 [(4, zi (mm_ofWord μ a1 2)), (0, zr 113), (1, zi a1), (2, zi a2), (3, zi a3)] [zi (mm_ofWord μ a1 0), zr 114] zSh μ _ _ _ from ?_)
    have r3 : 0 ≤ (mm_ofWord μ a1 0) ∧ (mm_ofWord μ a1 0) ≤ 26 ∧ ((0 : Int) < 2 → (mm_ofWord μ a1 0) ≤ 2) ∧ ((0 : Int) = 2 → (mm_ofWord μ a1 0) ≤ 8) := mr_ofWord hB a1 0 (by omega) (by omega)
    refine Az.blk kd_6_letterOf_35 (show Ez md_6_letterOf 0 0 36 [(4, zi (mm_ofWord μ a1 2)), (0, zr 113), (1, zi a1), (2, zi a2), (3, zi a3)] [zi a2, zi (mm_ofWord μ a1 0), zr 114] zSh μ _ _ _ from ?_)
    refine Az.cS (mc := md_6_endingAt) (n := 2) (As := [zi (mm_ofWord μ a1 0), zi a2]) (rest := [zr 114]) kr_6_letterOf_36 zw_651 ok_6_endingAt rfl rfl (mz_endingAt (mm_ofWord μ a1 0) a2 (by omega) (by omega)) rfl rfl (show Ez md_6_letterOf 0 0 39 [(4, zi (mm_ofWord μ a1 2)), (0, zr 113), (1, zi a1), (2, zi a2), (3, zi a3)] [zi (mm_endingAt (mm_ofWord μ a1 0) a2), zr 114] zSh μ _ _ _ from ?_)
    have r4 : (mm_endingAt (mm_ofWord μ a1 0) a2) = 268 + 2 * (6 * (mm_ofWord μ a1 0) + a2) := mr_endingAt (mm_ofWord μ a1 0) a2 (by omega) (by omega)
    have q5 := zR_row hB (z := (((mm_endingAt (mm_ofWord μ a1 0) a2) + a3) - (mm_ofWord μ a1 2))) (by omega)
    refine Az.blk kd_6_letterOf_39 (show (0 ≤ (((mm_endingAt (mm_ofWord μ a1 0) a2) + a3) - (mm_ofWord μ a1 2)) ∧ (((mm_endingAt (mm_ofWord μ a1 0) a2) + a3) - (mm_ofWord μ a1 2)) < 604) ∧ Ez md_6_letterOf 0 0 45 [(4, zi (mm_ofWord μ a1 2)), (0, zr 113), (1, zi a1), (2, zi a2), (3, zi a3)] [zi (μ 114 (((mm_endingAt (mm_ofWord μ a1 0) a2) + a3) - (mm_ofWord μ a1 2)))] zSh μ _ _ _ from ⟨(by omega), ?_⟩)
    exact Ez.iret kr_6_letterOf_45 rfl (Nat.zero_le _) (Nat.zero_le _) rfl rfl
  · rw [if_pos c2]
    refine Az.blk kd_6_letterOf_14 (show Ez md_6_letterOf 0 0 19 [(4, zi (mm_ofWord μ a1 2)), (0, zr 113), (1, zi a1), (2, zi a2), (3, zi a3)] [zi (3 + a3), zi a1, zr 113] zSh μ _ _ _ from ?_)
    refine Az.cV (mc := md_6_ofWord) (k := 113) (n := 2) (As := [zi a1, zi (3 + a3)]) (rest := []) kr_6_letterOf_19 zw_722 ok_6_ofWord rfl rfl rfl trivial (mz_ofWord hB a1 (3 + a3) (by omega) (by omega)) rfl rfl (show Ez md_6_letterOf 0 0 22 [(4, zi (mm_ofWord μ a1 2)), (0, zr 113), (1, zi a1), (2, zi a2), (3, zi a3)] [zi (mm_ofWord μ a1 (3 + a3))] zSh μ _ _ _ from ?_)
    have r6 : 0 ≤ (mm_ofWord μ a1 (3 + a3)) ∧ (mm_ofWord μ a1 (3 + a3)) ≤ 26 ∧ ((3 + a3) < 2 → (mm_ofWord μ a1 (3 + a3)) ≤ 2) ∧ ((3 + a3) = 2 → (mm_ofWord μ a1 (3 + a3)) ≤ 8) := mr_ofWord hB a1 (3 + a3) (by omega) (by omega)
    refine Az.blk kd_6_letterOf_22 (show Ez md_6_letterOf 0 0 45 [(4, zi (mm_ofWord μ a1 2)), (0, zr 113), (1, zi a1), (2, zi a2), (3, zi a3)] [zi (mm_ofWord μ a1 (3 + a3))] zSh μ _ _ _ from ?_)
    exact Ez.iret kr_6_letterOf_45 rfl (Nat.zero_le _) (Nat.zero_le _) rfl rfl
def kb_6_ofItem_0 : List zI := [(.aload_n 0, 1, 0, 0), (.getfield 7, 3, 6, 0), (.sipush 304, 3, 0, 0), (.bipush 14, 2, 0, 0), (.iload_n 1, 1, 0, 0), (.imul, 1, 0, 0), (.iadd, 1, 0, 0), (.iload_n 2, 1, 0, 0), (.iadd, 1, 0, 0), (.iaload, 1, 0, 0)]
theorem kd_6_ofItem_0 : zdec md_6_ofItem 0 kb_6_ofItem_0 = true := by decide +kernel
theorem kr_6_ofItem_15 : decode md_6_ofItem.2.1 15 = .ok (.ireturn, 1) := by decide +kernel
noncomputable def mm_ofItem (μ : zM) (a1 a2 : Int) : Int := (μ 114 ((304 + (14 * a1)) + a2))
set_option maxHeartbeats 4000000 in
set_option maxRecDepth 100000 in
theorem mr_ofItem {μ : zM} (hB : zB μ) (a1 a2 : Int) (h0 : 0 ≤ a1 ∧ a1 ≤ 19) (h1 : 0 ≤ a2 ∧ a2 ≤ 13) : -5 ≤ (mm_ofItem μ a1 a2) ∧ (mm_ofItem μ a1 a2) ≤ 26 ∧ (a2 = 0 → 0 ≤ (mm_ofItem μ a1 a2) ∧ (mm_ofItem μ a1 a2) ≤ 1) ∧ (a2 = 1 → 0 ≤ (mm_ofItem μ a1 a2) ∧ (mm_ofItem μ a1 a2) ≤ 10) ∧ (a2 = 2 → 0 ≤ (mm_ofItem μ a1 a2) ∧ (mm_ofItem μ a1 a2) ≤ 9) ∧ (a2 = 3 → (mm_ofItem μ a1 a2) = -5 ∨ (0 ≤ (mm_ofItem μ a1 a2) ∧ (mm_ofItem μ a1 a2) ≤ 23)) ∧ (3 < a2 → 0 ≤ (mm_ofItem μ a1 a2)) := by
  unfold mm_ofItem
  have q1 := zR_row hB (z := ((304 + (14 * a1)) + a2)) (by omega)
  first | omega | (dsimp only; omega)
set_option maxHeartbeats 4000000 in
set_option maxRecDepth 100000 in
theorem mz_ofItem {μ : zM} (hB : zB μ) (a1 a2 : Int) (h0 : 0 ≤ a1 ∧ a1 ≤ 19) (h1 : 0 ≤ a2 ∧ a2 ≤ 13) : Dz md_6_ofItem [zr 113, zi a1, zi a2] zSh μ (some (zi (mm_ofItem μ a1 a2))) zSh μ := by
  refine Dz.of (by decide) rfl rfl (show Ez md_6_ofItem 0 0 0 [(0, zr 113), (1, zi a1), (2, zi a2)] [] zSh μ (some (zi (mm_ofItem μ a1 a2))) zSh μ from ?_)
  unfold mm_ofItem
  have q1 := zR_row hB (z := ((304 + (14 * a1)) + a2)) (by omega)
  refine Az.blk kd_6_ofItem_0 (show (0 ≤ ((304 + (14 * a1)) + a2) ∧ ((304 + (14 * a1)) + a2) < 604) ∧ Ez md_6_ofItem 0 0 15 [(0, zr 113), (1, zi a1), (2, zi a2)] [zi (μ 114 ((304 + (14 * a1)) + a2))] zSh μ _ _ _ from ⟨(by omega), ?_⟩)
  exact Ez.iret kr_6_ofItem_15 rfl (Nat.zero_le _) (Nat.zero_le _) rfl rfl
def kb_6_isHoleAt_0 : List zI := [(.aload_n 0, 1, 0, 0), (.iload_n 1, 1, 0, 0), (.iconst 0, 1, 0, 0)]
theorem kd_6_isHoleAt_0 : zdec md_6_isHoleAt 0 kb_6_isHoleAt_0 = true := by decide +kernel
theorem kr_6_isHoleAt_3 : decode md_6_isHoleAt.2.1 3 = .ok (.invokevirtual 48, 3) := by decide +kernel
def kb_6_isHoleAt_6 : List zI := [(.iconst 1, 1, 0, 0), (.if_icmp .ne 7, 3, 14, 0)]
theorem kd_6_isHoleAt_6 : zdec md_6_isHoleAt 6 kb_6_isHoleAt_6 = true := by decide +kernel
def kb_6_isHoleAt_14 : List zI := [(.iconst 0, 1, 0, 0)]
theorem kd_6_isHoleAt_14 : zdec md_6_isHoleAt 14 kb_6_isHoleAt_14 = true := by decide +kernel
theorem kr_6_isHoleAt_15 : decode md_6_isHoleAt.2.1 15 = .ok (.ireturn, 1) := by decide +kernel
def kb_6_isHoleAt_10 : List zI := [(.iconst 1, 1, 0, 0), (.goto 4, 3, 15, 0)]
theorem kd_6_isHoleAt_10 : zdec md_6_isHoleAt 10 kb_6_isHoleAt_10 = true := by decide +kernel
noncomputable def mm_isHoleAt (μ : zM) (a1 : Int) : Int := (if (mm_ofItem μ a1 0) = 1 then 1 else 0)
set_option maxHeartbeats 4000000 in
set_option maxRecDepth 100000 in
theorem mr_isHoleAt {μ : zM} (hB : zB μ) (a1 : Int) (h0 : 0 ≤ a1 ∧ a1 ≤ 19) : 0 ≤ (mm_isHoleAt μ a1) ∧ (mm_isHoleAt μ a1) ≤ 1 := by
  unfold mm_isHoleAt
  have r1 : -5 ≤ (mm_ofItem μ a1 0) ∧ (mm_ofItem μ a1 0) ≤ 26 ∧ ((0 : Int) = 0 → 0 ≤ (mm_ofItem μ a1 0) ∧ (mm_ofItem μ a1 0) ≤ 1) ∧ ((0 : Int) = 1 → 0 ≤ (mm_ofItem μ a1 0) ∧ (mm_ofItem μ a1 0) ≤ 10) ∧ ((0 : Int) = 2 → 0 ≤ (mm_ofItem μ a1 0) ∧ (mm_ofItem μ a1 0) ≤ 9) ∧ ((0 : Int) = 3 → (mm_ofItem μ a1 0) = -5 ∨ (0 ≤ (mm_ofItem μ a1 0) ∧ (mm_ofItem μ a1 0) ≤ 23)) ∧ (3 < (0 : Int) → 0 ≤ (mm_ofItem μ a1 0)) := mr_ofItem hB a1 0 (by omega) (by omega)
  by_cases c2 : (mm_ofItem μ a1 0) = 1
  · rw [if_pos c2]
    first | omega | (dsimp only; omega)
  · rw [if_neg c2]
    first | omega | (dsimp only; omega)
set_option maxHeartbeats 4000000 in
set_option maxRecDepth 100000 in
theorem mz_isHoleAt {μ : zM} (hB : zB μ) (a1 : Int) (h0 : 0 ≤ a1 ∧ a1 ≤ 19) : Dz md_6_isHoleAt [zr 113, zi a1] zSh μ (some (zi (mm_isHoleAt μ a1))) zSh μ := by
  refine Dz.of (by decide) rfl rfl (show Ez md_6_isHoleAt 0 0 0 [(0, zr 113), (1, zi a1)] [] zSh μ (some (zi (mm_isHoleAt μ a1))) zSh μ from ?_)
  unfold mm_isHoleAt
  refine Az.blk kd_6_isHoleAt_0 (show Ez md_6_isHoleAt 0 0 3 [(0, zr 113), (1, zi a1)] [zi 0, zi a1, zr 113] zSh μ _ _ _ from ?_)
  refine Az.cV (mc := md_6_ofItem) (k := 113) (n := 2) (As := [zi a1, zi 0]) (rest := []) kr_6_isHoleAt_3 zw_682 ok_6_ofItem rfl rfl rfl trivial (mz_ofItem hB a1 0 (by omega) (by omega)) rfl rfl (show Ez md_6_isHoleAt 0 0 6 [(0, zr 113), (1, zi a1)] [zi (mm_ofItem μ a1 0)] zSh μ _ _ _ from ?_)
  have r1 : -5 ≤ (mm_ofItem μ a1 0) ∧ (mm_ofItem μ a1 0) ≤ 26 ∧ ((0 : Int) = 0 → 0 ≤ (mm_ofItem μ a1 0) ∧ (mm_ofItem μ a1 0) ≤ 1) ∧ ((0 : Int) = 1 → 0 ≤ (mm_ofItem μ a1 0) ∧ (mm_ofItem μ a1 0) ≤ 10) ∧ ((0 : Int) = 2 → 0 ≤ (mm_ofItem μ a1 0) ∧ (mm_ofItem μ a1 0) ≤ 9) ∧ ((0 : Int) = 3 → (mm_ofItem μ a1 0) = -5 ∨ (0 ≤ (mm_ofItem μ a1 0) ∧ (mm_ofItem μ a1 0) ≤ 23)) ∧ (3 < (0 : Int) → 0 ≤ (mm_ofItem μ a1 0)) := mr_ofItem hB a1 0 (by omega) (by omega)
  refine Az.blk kd_6_isHoleAt_6 (show zR (mm_ofItem μ a1 0) ∧ zR 1 ∧ ((¬ (mm_ofItem μ a1 0) = 1 → Ez md_6_isHoleAt 0 0 14 [(0, zr 113), (1, zi a1)] [] zSh μ _ _ _) ∧ ((mm_ofItem μ a1 0) = 1 → Ez md_6_isHoleAt 0 0 10 [(0, zr 113), (1, zi a1)] [] zSh μ _ _ _)) from ⟨(by omega), (by omega), fun c2 => ?_, fun c2 => ?_⟩)
  · rw [if_neg c2]
    refine Az.blk kd_6_isHoleAt_14 (show Ez md_6_isHoleAt 0 0 15 [(0, zr 113), (1, zi a1)] [zi 0] zSh μ _ _ _ from ?_)
    exact Ez.zret kr_6_isHoleAt_15 rfl (Nat.zero_le _) (Nat.zero_le _) (Or.inl rfl) rfl rfl
  · rw [if_pos c2]
    refine Az.blk kd_6_isHoleAt_10 (show Ez md_6_isHoleAt 0 0 15 [(0, zr 113), (1, zi a1)] [zi 1] zSh μ _ _ _ from ?_)
    exact Ez.zret kr_6_isHoleAt_15 rfl (Nat.zero_le _) (Nat.zero_le _) (Or.inr rfl) rfl rfl
def kb_6_itemOf_0 : List zI := [(.iload_n 1, 1, 0, 0), (.istore_n 2, 1, 0, 0), (.iconst 0, 1, 0, 0), (.istore_n 3, 1, 0, 0)]
theorem kd_6_itemOf_0 : zdec md_6_itemOf 0 kb_6_itemOf_0 = true := by decide +kernel
def kb_6_itemOf_4 : List zI := [(.iload_n 3, 1, 0, 0), (.aload_n 0, 1, 0, 0), (.getfield 7, 3, 6, 0), (.iconst 3, 1, 0, 0), (.iaload, 1, 0, 0), (.if_icmp .ge 35, 3, 46, 0)]
theorem kd_6_itemOf_4 : zdec md_6_itemOf 4 kb_6_itemOf_4 = true := by decide +kernel
def kb_6_itemOf_46 : List zI := [(.bipush (-5), 2, 0, 0)]
theorem kd_6_itemOf_46 : zdec md_6_itemOf 46 kb_6_itemOf_46 = true := by decide +kernel
theorem kr_6_itemOf_48 : decode md_6_itemOf.2.1 48 = .ok (.ireturn, 1) := by decide +kernel
def kb_6_itemOf_14 : List zI := [(.iload_n 2, 1, 0, 0), (.ifCond .lt 31, 3, 46, 0)]
theorem kd_6_itemOf_14 : zdec md_6_itemOf 14 kb_6_itemOf_14 = true := by decide +kernel
def kb_6_itemOf_18 : List zI := [(.iload_n 2, 1, 0, 0), (.aload_n 0, 1, 0, 0), (.iload_n 3, 1, 0, 0)]
theorem kd_6_itemOf_18 : zdec md_6_itemOf 18 kb_6_itemOf_18 = true := by decide +kernel
theorem kr_6_itemOf_21 : decode md_6_itemOf.2.1 21 = .ok (.invokevirtual 51, 3) := by decide +kernel
def kb_6_itemOf_24 : List zI := [(.ifCond .eq 7, 3, 31, 0)]
theorem kd_6_itemOf_24 : zdec md_6_itemOf 24 kb_6_itemOf_24 = true := by decide +kernel
def kb_6_itemOf_31 : List zI := [(.iconst 0, 1, 0, 0), (.isub, 1, 0, 0), (.istore_n 2, 1, 0, 0), (.iload_n 2, 1, 0, 0), (.ifCond .ge 5, 3, 40, 0)]
theorem kd_6_itemOf_31 : zdec md_6_itemOf 31 kb_6_itemOf_31 = true := by decide +kernel
def kb_6_itemOf_40 : List zI := [(.iinc 3 1, 3, 0, 0), (.goto (-39), 3, 4, 0)]
theorem kd_6_itemOf_40 : zdec md_6_itemOf 40 kb_6_itemOf_40 = true := by decide +kernel
def kb_6_itemOf_38 : List zI := [(.iload_n 3, 1, 0, 0)]
theorem kd_6_itemOf_38 : zdec md_6_itemOf 38 kb_6_itemOf_38 = true := by decide +kernel
theorem kr_6_itemOf_39 : decode md_6_itemOf.2.1 39 = .ok (.ireturn, 1) := by decide +kernel
def kb_6_itemOf_27 : List zI := [(.iconst 1, 1, 0, 0), (.goto 4, 3, 32, 0)]
theorem kd_6_itemOf_27 : zdec md_6_itemOf 27 kb_6_itemOf_27 = true := by decide +kernel
def kb_6_itemOf_32 : List zI := [(.isub, 1, 0, 0), (.istore_n 2, 1, 0, 0), (.iload_n 2, 1, 0, 0), (.ifCond .ge 5, 3, 40, 0)]
theorem kd_6_itemOf_32 : zdec md_6_itemOf 32 kb_6_itemOf_32 = true := by decide +kernel
noncomputable def mm_itemOf_4 : Nat → zM → Int → Int → Int
  | 0, μ, _, _ => 0
  | f + 1, μ, l2, l3 => (if l3 < (μ 114 3) then (if l2 < 0 then (-5) else (if (mm_isHoleAt μ l3) = 0 then (if (l2 - 0) < 0 then l3 else (mm_itemOf_4 f μ (l2 - 0) (l3 + 1))) else (if (l2 - 1) < 0 then l3 else (mm_itemOf_4 f μ (l2 - 1) (l3 + 1))))) else (-5))
noncomputable def mm_itemOf (μ : zM) (a1 : Int) : Int := (mm_itemOf_4 zN μ a1 0)
set_option maxHeartbeats 4000000 in
set_option maxRecDepth 100000 in
theorem mr_itemOf_4 (f : Nat) (μ : zM) (hB : zB μ) (l2 : Int) (l3 : Int) (i0 : 0 ≤ l3 ∧ l3 ≤ (μ 114 3)) (i1 : -2147483648 ≤ l2 ∧ l2 ≤ 2147483647) (hf : (μ 114 3) - l3 < (f : Int)) : ((mm_itemOf_4 f μ l2 l3) = -5 ∨ (0 ≤ (mm_itemOf_4 f μ l2 l3) ∧ (mm_itemOf_4 f μ l2 l3) < μ 114 3)) ∧ (mm_itemOf_4 f μ l2 l3) ≤ 19 := by
  induction f generalizing μ l2 l3 with
  | zero => exfalso; omega
  | succ f ih =>
    replace hf : (μ 114 3) - l3 < (f : Int) + 1 := by omega
    rw [mm_itemOf_4]
    have b2 : 0 ≤ (μ 114 3) ∧ (μ 114 3) ≤ 20 := hB 114 3
    by_cases c3 : l3 < (μ 114 3)
    · rw [if_pos c3]
      by_cases c4 : l2 < 0
      · rw [if_pos c4]
        first | omega | (dsimp only; omega)
      · rw [if_neg c4]
        have r5 : 0 ≤ (mm_isHoleAt μ l3) ∧ (mm_isHoleAt μ l3) ≤ 1 := mr_isHoleAt hB l3 (by omega)
        by_cases c6 : (mm_isHoleAt μ l3) = 0
        · rw [if_pos c6]
          by_cases c7 : (l2 - 0) < 0
          · rw [if_pos c7]
            first | omega | (dsimp only; omega)
          · rw [if_neg c7]
            have b8 : 0 ≤ (μ 114 3) ∧ (μ 114 3) ≤ 20 := hB 114 3
            exact ih μ hB (l2 - 0) (l3 + 1) (by omega) (by omega) (by omega)
        · rw [if_neg c6]
          by_cases c9 : (l2 - 1) < 0
          · rw [if_pos c9]
            first | omega | (dsimp only; omega)
          · rw [if_neg c9]
            have b10 : 0 ≤ (μ 114 3) ∧ (μ 114 3) ≤ 20 := hB 114 3
            exact ih μ hB (l2 - 1) (l3 + 1) (by omega) (by omega) (by omega)
    · rw [if_neg c3]
      first | omega | (dsimp only; omega)
set_option maxHeartbeats 4000000 in
set_option maxRecDepth 100000 in
theorem mr_itemOf {μ : zM} (hB : zB μ) (a1 : Int) (h0 : -2147483648 ≤ a1 ∧ a1 ≤ 2147483647) : ((mm_itemOf μ a1) = -5 ∨ (0 ≤ (mm_itemOf μ a1) ∧ (mm_itemOf μ a1) < μ 114 3)) ∧ (mm_itemOf μ a1) ≤ 19 := by
  unfold mm_itemOf
  have b1 : 0 ≤ (μ 114 3) ∧ (μ 114 3) ≤ 20 := hB 114 3
  have fb : (3000 : Int) ≤ ((zN : Nat) : Int) := zN_big
  exact mr_itemOf_4 zN μ hB a1 0 (by omega) (by omega) (by omega)
set_option maxHeartbeats 4000000 in
set_option maxRecDepth 100000 in
theorem mz_itemOf_4 (f : Nat) (μ : zM) (hB : zB μ) (l2 : Int) (l3 : Int) (i0 : 0 ≤ l3 ∧ l3 ≤ (μ 114 3)) (i1 : -2147483648 ≤ l2 ∧ l2 ≤ 2147483647) (hf : (μ 114 3) - l3 < (f : Int)) : Ez md_6_itemOf 0 0 4 [(0, zr 113), (2, zi l2), (3, zi l3)] [] zSh μ (some (zi (mm_itemOf_4 f μ l2 l3))) zSh μ := by
  induction f generalizing μ l2 l3 with
  | zero => exfalso; omega
  | succ f ih =>
    replace hf : (μ 114 3) - l3 < (f : Int) + 1 := by omega
    rw [mm_itemOf_4]
    have b2 : 0 ≤ (μ 114 3) ∧ (μ 114 3) ≤ 20 := hB 114 3
    refine Az.blk kd_6_itemOf_4 (show (0 ≤ 3 ∧ 3 < 604) ∧ zR l3 ∧ zR (μ 114 3) ∧ ((¬ l3 < (μ 114 3) → Ez md_6_itemOf 0 0 46 [(0, zr 113), (2, zi l2), (3, zi l3)] [] zSh μ _ _ _) ∧ (l3 < (μ 114 3) → Ez md_6_itemOf 0 0 14 [(0, zr 113), (2, zi l2), (3, zi l3)] [] zSh μ _ _ _)) from ⟨(by omega), (by omega), (by omega), fun c3 => ?_, fun c3 => ?_⟩)
    · rw [if_neg c3]
      refine Az.blk kd_6_itemOf_46 (show Ez md_6_itemOf 0 0 48 [(0, zr 113), (2, zi l2), (3, zi l3)] [zi (-5)] zSh μ _ _ _ from ?_)
      exact Ez.iret kr_6_itemOf_48 rfl (Nat.zero_le _) (Nat.zero_le _) rfl rfl
    · rw [if_pos c3]
      refine Az.blk kd_6_itemOf_14 (show zR l2 ∧ ((l2 < 0 → Ez md_6_itemOf 0 0 46 [(0, zr 113), (2, zi l2), (3, zi l3)] [] zSh μ _ _ _) ∧ (¬ l2 < 0 → Ez md_6_itemOf 0 0 18 [(0, zr 113), (2, zi l2), (3, zi l3)] [] zSh μ _ _ _)) from ⟨(by omega), fun c4 => ?_, fun c4 => ?_⟩)
      · rw [if_pos c4]
        refine Az.blk kd_6_itemOf_46 (show Ez md_6_itemOf 0 0 48 [(0, zr 113), (2, zi l2), (3, zi l3)] [zi (-5)] zSh μ _ _ _ from ?_)
        exact Ez.iret kr_6_itemOf_48 rfl (Nat.zero_le _) (Nat.zero_le _) rfl rfl
      · rw [if_neg c4]
        refine Az.blk kd_6_itemOf_18 (show Ez md_6_itemOf 0 0 21 [(0, zr 113), (2, zi l2), (3, zi l3)] [zi l3, zr 113, zi l2] zSh μ _ _ _ from ?_)
        refine Az.cV (mc := md_6_isHoleAt) (k := 113) (n := 1) (As := [zi l3]) (rest := [zi l2]) kr_6_itemOf_21 zw_678 ok_6_isHoleAt rfl rfl rfl trivial (mz_isHoleAt hB l3 (by omega)) rfl rfl (show Ez md_6_itemOf 0 0 24 [(0, zr 113), (2, zi l2), (3, zi l3)] [zi (mm_isHoleAt μ l3), zi l2] zSh μ _ _ _ from ?_)
        have r5 : 0 ≤ (mm_isHoleAt μ l3) ∧ (mm_isHoleAt μ l3) ≤ 1 := mr_isHoleAt hB l3 (by omega)
        refine Az.blk kd_6_itemOf_24 (show zR (mm_isHoleAt μ l3) ∧ (((mm_isHoleAt μ l3) = 0 → Ez md_6_itemOf 0 0 31 [(0, zr 113), (2, zi l2), (3, zi l3)] [zi l2] zSh μ _ _ _) ∧ (¬ (mm_isHoleAt μ l3) = 0 → Ez md_6_itemOf 0 0 27 [(0, zr 113), (2, zi l2), (3, zi l3)] [zi l2] zSh μ _ _ _)) from ⟨(by omega), fun c6 => ?_, fun c6 => ?_⟩)
        · rw [if_pos c6]
          refine Az.blk kd_6_itemOf_31 (show zR (l2 - 0) ∧ ((¬ (l2 - 0) < 0 → Ez md_6_itemOf 0 0 40 [(2, zi (l2 - 0)), (0, zr 113), (3, zi l3)] [] zSh μ _ _ _) ∧ ((l2 - 0) < 0 → Ez md_6_itemOf 0 0 38 [(2, zi (l2 - 0)), (0, zr 113), (3, zi l3)] [] zSh μ _ _ _)) from ⟨(by omega), fun c7 => ?_, fun c7 => ?_⟩)
          · rw [if_neg c7]
            refine Az.blk kd_6_itemOf_40 (show Ez md_6_itemOf 0 0 4 [(3, zi (l3 + 1)), (2, zi (l2 - 0)), (0, zr 113)] [] zSh μ _ _ _ from ?_)
            have b8 : 0 ≤ (μ 114 3) ∧ (μ 114 3) ≤ 20 := hB 114 3
            refine Az.lvs (lv' := [(0, zr 113), (2, zi (l2 - 0)), (3, zi (l3 + 1))]) ?_ ?_
            · intro q hq; simp only [List.mem_cons, List.not_mem_nil, or_false] at hq; rcases hq with rfl | rfl | rfl <;> rfl
            exact ih μ hB (l2 - 0) (l3 + 1) (by omega) (by omega) (by omega)
          · rw [if_pos c7]
            refine Az.blk kd_6_itemOf_38 (show Ez md_6_itemOf 0 0 39 [(2, zi (l2 - 0)), (0, zr 113), (3, zi l3)] [zi l3] zSh μ _ _ _ from ?_)
            exact Ez.iret kr_6_itemOf_39 rfl (Nat.zero_le _) (Nat.zero_le _) rfl rfl
        · rw [if_neg c6]
          refine Az.blk kd_6_itemOf_27 (show Ez md_6_itemOf 0 0 32 [(0, zr 113), (2, zi l2), (3, zi l3)] [zi 1, zi l2] zSh μ _ _ _ from ?_)
          refine Az.blk kd_6_itemOf_32 (show zR (l2 - 1) ∧ ((¬ (l2 - 1) < 0 → Ez md_6_itemOf 0 0 40 [(2, zi (l2 - 1)), (0, zr 113), (3, zi l3)] [] zSh μ _ _ _) ∧ ((l2 - 1) < 0 → Ez md_6_itemOf 0 0 38 [(2, zi (l2 - 1)), (0, zr 113), (3, zi l3)] [] zSh μ _ _ _)) from ⟨(by omega), fun c9 => ?_, fun c9 => ?_⟩)
          · rw [if_neg c9]
            refine Az.blk kd_6_itemOf_40 (show Ez md_6_itemOf 0 0 4 [(3, zi (l3 + 1)), (2, zi (l2 - 1)), (0, zr 113)] [] zSh μ _ _ _ from ?_)
            have b10 : 0 ≤ (μ 114 3) ∧ (μ 114 3) ≤ 20 := hB 114 3
            refine Az.lvs (lv' := [(0, zr 113), (2, zi (l2 - 1)), (3, zi (l3 + 1))]) ?_ ?_
            · intro q hq; simp only [List.mem_cons, List.not_mem_nil, or_false] at hq; rcases hq with rfl | rfl | rfl <;> rfl
            exact ih μ hB (l2 - 1) (l3 + 1) (by omega) (by omega) (by omega)
          · rw [if_pos c9]
            refine Az.blk kd_6_itemOf_38 (show Ez md_6_itemOf 0 0 39 [(2, zi (l2 - 1)), (0, zr 113), (3, zi l3)] [zi l3] zSh μ _ _ _ from ?_)
            exact Ez.iret kr_6_itemOf_39 rfl (Nat.zero_le _) (Nat.zero_le _) rfl rfl
set_option maxHeartbeats 4000000 in
set_option maxRecDepth 100000 in
theorem mz_itemOf {μ : zM} (hB : zB μ) (a1 : Int) (h0 : -2147483648 ≤ a1 ∧ a1 ≤ 2147483647) : Dz md_6_itemOf [zr 113, zi a1] zSh μ (some (zi (mm_itemOf μ a1))) zSh μ := by
  refine Dz.of (by decide) rfl rfl (show Ez md_6_itemOf 0 0 0 [(0, zr 113), (1, zi a1)] [] zSh μ (some (zi (mm_itemOf μ a1))) zSh μ from ?_)
  unfold mm_itemOf
  refine Az.blk kd_6_itemOf_0 (show Ez md_6_itemOf 0 0 4 [(3, zi 0), (2, zi a1), (0, zr 113), (1, zi a1)] [] zSh μ _ _ _ from ?_)
  have b1 : 0 ≤ (μ 114 3) ∧ (μ 114 3) ≤ 20 := hB 114 3
  refine Az.lvs (lv' := [(0, zr 113), (2, zi a1), (3, zi 0)]) ?_ ?_
  · intro q hq; simp only [List.mem_cons, List.not_mem_nil, or_false] at hq; rcases hq with rfl | rfl | rfl <;> rfl
  have fb : (3000 : Int) ≤ ((zN : Nat) : Int) := zN_big
  exact mz_itemOf_4 zN μ hB a1 0 (by omega) (by omega) (by omega)
def kb_6_isHole_0 : List zI := [(.iload_n 1, 1, 0, 0), (.ifCond .lt 17, 3, 18, 0)]
theorem kd_6_isHole_0 : zdec md_6_isHole 0 kb_6_isHole_0 = true := by decide +kernel
def kb_6_isHole_18 : List zI := [(.iconst 0, 1, 0, 0)]
theorem kd_6_isHole_18 : zdec md_6_isHole 18 kb_6_isHole_18 = true := by decide +kernel
theorem kr_6_isHole_19 : decode md_6_isHole.2.1 19 = .ok (.ireturn, 1) := by decide +kernel
def kb_6_isHole_4 : List zI := [(.aload_n 0, 1, 0, 0), (.iload_n 1, 1, 0, 0)]
theorem kd_6_isHole_4 : zdec md_6_isHole 4 kb_6_isHole_4 = true := by decide +kernel
theorem kr_6_isHole_6 : decode md_6_isHole.2.1 6 = .ok (.invokevirtual 55, 3) := by decide +kernel
def kb_6_isHole_9 : List zI := [(.bipush (-5), 2, 0, 0), (.if_icmp .eq 7, 3, 18, 0)]
theorem kd_6_isHole_9 : zdec md_6_isHole 9 kb_6_isHole_9 = true := by decide +kernel
def kb_6_isHole_14 : List zI := [(.iconst 1, 1, 0, 0), (.goto 4, 3, 19, 0)]
theorem kd_6_isHole_14 : zdec md_6_isHole 14 kb_6_isHole_14 = true := by decide +kernel
noncomputable def mm_isHole (μ : zM) (a1 : Int) : Int := (if a1 < 0 then 0 else (if (mm_itemOf μ a1) = (-5) then 0 else 1))
set_option maxHeartbeats 4000000 in
set_option maxRecDepth 100000 in
theorem mr_isHole {μ : zM} (hB : zB μ) (a1 : Int) (h0 : -2147483648 ≤ a1 ∧ a1 ≤ 2147483647) : 0 ≤ (mm_isHole μ a1) ∧ (mm_isHole μ a1) ≤ 1 ∧ ((mm_isHole μ a1) = 1 → 0 ≤ a1 ∧ 0 ≤ (mm_itemOf μ a1)) := by
  unfold mm_isHole
  by_cases c1 : a1 < 0
  · rw [if_pos c1]
    first | omega | (dsimp only; omega)
  · rw [if_neg c1]
    have r2 : ((mm_itemOf μ a1) = -5 ∨ (0 ≤ (mm_itemOf μ a1) ∧ (mm_itemOf μ a1) < μ 114 3)) ∧ (mm_itemOf μ a1) ≤ 19 := mr_itemOf hB a1 (by omega)
    by_cases c3 : (mm_itemOf μ a1) = (-5)
    · rw [if_pos c3]
      first | omega | (dsimp only; omega)
    · rw [if_neg c3]
      first | omega | (dsimp only; omega)
set_option maxHeartbeats 4000000 in
set_option maxRecDepth 100000 in
theorem mz_isHole {μ : zM} (hB : zB μ) (a1 : Int) (h0 : -2147483648 ≤ a1 ∧ a1 ≤ 2147483647) : Dz md_6_isHole [zr 113, zi a1] zSh μ (some (zi (mm_isHole μ a1))) zSh μ := by
  refine Dz.of (by decide) rfl rfl (show Ez md_6_isHole 0 0 0 [(0, zr 113), (1, zi a1)] [] zSh μ (some (zi (mm_isHole μ a1))) zSh μ from ?_)
  unfold mm_isHole
  refine Az.blk kd_6_isHole_0 (show zR a1 ∧ ((a1 < 0 → Ez md_6_isHole 0 0 18 [(0, zr 113), (1, zi a1)] [] zSh μ _ _ _) ∧ (¬ a1 < 0 → Ez md_6_isHole 0 0 4 [(0, zr 113), (1, zi a1)] [] zSh μ _ _ _)) from ⟨(by omega), fun c1 => ?_, fun c1 => ?_⟩)
  · rw [if_pos c1]
    refine Az.blk kd_6_isHole_18 (show Ez md_6_isHole 0 0 19 [(0, zr 113), (1, zi a1)] [zi 0] zSh μ _ _ _ from ?_)
    exact Ez.zret kr_6_isHole_19 rfl (Nat.zero_le _) (Nat.zero_le _) (Or.inl rfl) rfl rfl
  · rw [if_neg c1]
    refine Az.blk kd_6_isHole_4 (show Ez md_6_isHole 0 0 6 [(0, zr 113), (1, zi a1)] [zi a1, zr 113] zSh μ _ _ _ from ?_)
    refine Az.cV (mc := md_6_itemOf) (k := 113) (n := 1) (As := [zi a1]) (rest := []) kr_6_isHole_6 zw_710 ok_6_itemOf rfl rfl rfl trivial (mz_itemOf hB a1 (by omega)) rfl rfl (show Ez md_6_isHole 0 0 9 [(0, zr 113), (1, zi a1)] [zi (mm_itemOf μ a1)] zSh μ _ _ _ from ?_)
    have r2 : ((mm_itemOf μ a1) = -5 ∨ (0 ≤ (mm_itemOf μ a1) ∧ (mm_itemOf μ a1) < μ 114 3)) ∧ (mm_itemOf μ a1) ≤ 19 := mr_itemOf hB a1 (by omega)
    refine Az.blk kd_6_isHole_9 (show zR (mm_itemOf μ a1) ∧ zR (-5) ∧ (((mm_itemOf μ a1) = (-5) → Ez md_6_isHole 0 0 18 [(0, zr 113), (1, zi a1)] [] zSh μ _ _ _) ∧ (¬ (mm_itemOf μ a1) = (-5) → Ez md_6_isHole 0 0 14 [(0, zr 113), (1, zi a1)] [] zSh μ _ _ _)) from ⟨(by omega), (by omega), fun c3 => ?_, fun c3 => ?_⟩)
    · rw [if_pos c3]
      refine Az.blk kd_6_isHole_18 (show Ez md_6_isHole 0 0 19 [(0, zr 113), (1, zi a1)] [zi 0] zSh μ _ _ _ from ?_)
      exact Ez.zret kr_6_isHole_19 rfl (Nat.zero_le _) (Nat.zero_le _) (Or.inl rfl) rfl rfl
    · rw [if_neg c3]
      refine Az.blk kd_6_isHole_14 (show Ez md_6_isHole 0 0 19 [(0, zr 113), (1, zi a1)] [zi 1] zSh μ _ _ _ from ?_)
      exact Ez.zret kr_6_isHole_19 rfl (Nat.zero_le _) (Nat.zero_le _) (Or.inr rfl) rfl rfl
def kb_6_holes_0 : List zI := [(.iconst 0, 1, 0, 0), (.istore_n 3, 1, 0, 0), (.iconst 0, 1, 0, 0), (.istore 4, 2, 0, 0)]
theorem kd_6_holes_0 : zdec md_6_holes 0 kb_6_holes_0 = true := by decide +kernel
def kb_6_holes_5 : List zI := [(.iload 4, 2, 0, 0), (.aload_n 0, 1, 0, 0), (.getfield 7, 3, 6, 0), (.iconst 3, 1, 0, 0), (.iaload, 1, 0, 0), (.if_icmp .ge 71, 3, 84, 0)]
theorem kd_6_holes_5 : zdec md_6_holes 5 kb_6_holes_5 = true := by decide +kernel
def kb_6_holes_84 : List zI := [(.iload_n 3, 1, 0, 0)]
theorem kd_6_holes_84 : zdec md_6_holes 84 kb_6_holes_84 = true := by decide +kernel
theorem kr_6_holes_85 : decode md_6_holes.2.1 85 = .ok (.ireturn, 1) := by decide +kernel
def kb_6_holes_16 : List zI := [(.aload_n 0, 1, 0, 0), (.iload 4, 2, 0, 0)]
theorem kd_6_holes_16 : zdec md_6_holes 16 kb_6_holes_16 = true := by decide +kernel
theorem kr_6_holes_19 : decode md_6_holes.2.1 19 = .ok (.invokevirtual 51, 3) := by decide +kernel
def kb_6_holes_22 : List zI := [(.ifCond .eq 40, 3, 62, 0)]
theorem kd_6_holes_22 : zdec md_6_holes 22 kb_6_holes_22 = true := by decide +kernel
def kb_6_holes_62 : List zI := [(.iconst 0, 1, 0, 0), (.istore 5, 2, 0, 0), (.iload_n 3, 1, 0, 0), (.iload 5, 2, 0, 0), (.ifCond .eq 7, 3, 75, 0)]
theorem kd_6_holes_62 : zdec md_6_holes 62 kb_6_holes_62 = true := by decide +kernel
def kb_6_holes_75 : List zI := [(.iconst 0, 1, 0, 0), (.iadd, 1, 0, 0), (.istore_n 3, 1, 0, 0), (.iinc 4 1, 3, 0, 0), (.goto (-76), 3, 5, 0)]
theorem kd_6_holes_75 : zdec md_6_holes 75 kb_6_holes_75 = true := by decide +kernel
def kb_6_holes_71 : List zI := [(.iconst 1, 1, 0, 0), (.goto 4, 3, 76, 0)]
theorem kd_6_holes_71 : zdec md_6_holes 71 kb_6_holes_71 = true := by decide +kernel
def kb_6_holes_76 : List zI := [(.iadd, 1, 0, 0), (.istore_n 3, 1, 0, 0), (.iinc 4 1, 3, 0, 0), (.goto (-76), 3, 5, 0)]
theorem kd_6_holes_76 : zdec md_6_holes 76 kb_6_holes_76 = true := by decide +kernel
def kb_6_holes_25 : List zI := [(.iload_n 1, 1, 0, 0), (.bipush (-5), 2, 0, 0), (.if_icmp .eq 14, 3, 42, 0)]
theorem kd_6_holes_25 : zdec md_6_holes 25 kb_6_holes_25 = true := by decide +kernel
def kb_6_holes_42 : List zI := [(.iload_n 2, 1, 0, 0), (.ifCond .eq 15, 3, 58, 0)]
theorem kd_6_holes_42 : zdec md_6_holes 42 kb_6_holes_42 = true := by decide +kernel
def kb_6_holes_58 : List zI := [(.iconst 1, 1, 0, 0), (.goto 4, 3, 63, 0)]
theorem kd_6_holes_58 : zdec md_6_holes 58 kb_6_holes_58 = true := by decide +kernel
def kb_6_holes_63 : List zI := [(.istore 5, 2, 0, 0), (.iload_n 3, 1, 0, 0), (.iload 5, 2, 0, 0), (.ifCond .eq 7, 3, 75, 0)]
theorem kd_6_holes_63 : zdec md_6_holes 63 kb_6_holes_63 = true := by decide +kernel
def kb_6_holes_46 : List zI := [(.aload_n 0, 1, 0, 0), (.iload 4, 2, 0, 0), (.iconst 3, 1, 0, 0)]
theorem kd_6_holes_46 : zdec md_6_holes 46 kb_6_holes_46 = true := by decide +kernel
theorem kr_6_holes_50 : decode md_6_holes.2.1 50 = .ok (.invokevirtual 48, 3) := by decide +kernel
def kb_6_holes_53 : List zI := [(.bipush (-5), 2, 0, 0), (.if_icmp .ne 7, 3, 62, 0)]
theorem kd_6_holes_53 : zdec md_6_holes 53 kb_6_holes_53 = true := by decide +kernel
def kb_6_holes_31 : List zI := [(.aload_n 0, 1, 0, 0), (.iload 4, 2, 0, 0), (.iconst 2, 1, 0, 0)]
theorem kd_6_holes_31 : zdec md_6_holes 31 kb_6_holes_31 = true := by decide +kernel
theorem kr_6_holes_35 : decode md_6_holes.2.1 35 = .ok (.invokevirtual 48, 3) := by decide +kernel
def kb_6_holes_38 : List zI := [(.iload_n 1, 1, 0, 0), (.if_icmp .ne 23, 3, 62, 0)]
theorem kd_6_holes_38 : zdec md_6_holes 38 kb_6_holes_38 = true := by decide +kernel
noncomputable def mm_holes_5 : Nat → zM → Int → Int → Int → Int → Int
  | 0, μ, _, _, _, _ => 0
  | f + 1, μ, l1, l2, l3, l4 => (if l4 < (μ 114 3) then (if (mm_isHoleAt μ l4) = 0 then (if (0 : Int) = 0 then (mm_holes_5 f μ l1 l2 (l3 + 0) (l4 + 1)) else (mm_holes_5 f μ l1 l2 (l3 + 1) (l4 + 1))) else (if l1 = (-5) then (if l2 = 0 then (if (1 : Int) = 0 then (mm_holes_5 f μ l1 l2 (l3 + 0) (l4 + 1)) else (mm_holes_5 f μ l1 l2 (l3 + 1) (l4 + 1))) else (if (mm_ofItem μ l4 3) = (-5) then (if (1 : Int) = 0 then (mm_holes_5 f μ l1 l2 (l3 + 0) (l4 + 1)) else (mm_holes_5 f μ l1 l2 (l3 + 1) (l4 + 1))) else (if (0 : Int) = 0 then (mm_holes_5 f μ l1 l2 (l3 + 0) (l4 + 1)) else (mm_holes_5 f μ l1 l2 (l3 + 1) (l4 + 1))))) else (if (mm_ofItem μ l4 2) = l1 then (if l2 = 0 then (if (1 : Int) = 0 then (mm_holes_5 f μ l1 l2 (l3 + 0) (l4 + 1)) else (mm_holes_5 f μ l1 l2 (l3 + 1) (l4 + 1))) else (if (mm_ofItem μ l4 3) = (-5) then (if (1 : Int) = 0 then (mm_holes_5 f μ l1 l2 (l3 + 0) (l4 + 1)) else (mm_holes_5 f μ l1 l2 (l3 + 1) (l4 + 1))) else (if (0 : Int) = 0 then (mm_holes_5 f μ l1 l2 (l3 + 0) (l4 + 1)) else (mm_holes_5 f μ l1 l2 (l3 + 1) (l4 + 1))))) else (if (0 : Int) = 0 then (mm_holes_5 f μ l1 l2 (l3 + 0) (l4 + 1)) else (mm_holes_5 f μ l1 l2 (l3 + 1) (l4 + 1)))))) else l3)
noncomputable def mm_holes (μ : zM) (a1 a2 : Int) : Int := (mm_holes_5 zN μ a1 a2 0 0)
set_option maxHeartbeats 4000000 in
set_option maxRecDepth 100000 in
theorem mr_holes_5 (f : Nat) (μ : zM) (hB : zB μ) (l1 : Int) (l2 : Int) (l3 : Int) (l4 : Int) (i0 : 0 ≤ l4 ∧ l4 ≤ (μ 114 3)) (i1 : 0 ≤ l3 ∧ l3 ≤ l4) (i2 : -2147483648 ≤ l1 ∧ l1 ≤ 2147483647) (i3 : -2147483648 ≤ l2 ∧ l2 ≤ 2147483647) (hf : (μ 114 3) - l4 < (f : Int)) : 0 ≤ (mm_holes_5 f μ l1 l2 l3 l4) ∧ (mm_holes_5 f μ l1 l2 l3 l4) ≤ 20 := by
  induction f generalizing μ l1 l2 l3 l4 with
  | zero => exfalso; omega
  | succ f ih =>
    replace hf : (μ 114 3) - l4 < (f : Int) + 1 := by omega
    rw [mm_holes_5]
    have b2 : 0 ≤ (μ 114 3) ∧ (μ 114 3) ≤ 20 := hB 114 3
    by_cases c3 : l4 < (μ 114 3)
    · rw [if_pos c3]
      have r4 : 0 ≤ (mm_isHoleAt μ l4) ∧ (mm_isHoleAt μ l4) ≤ 1 := mr_isHoleAt hB l4 (by omega)
      by_cases c5 : (mm_isHoleAt μ l4) = 0
      · rw [if_pos c5]
        by_cases c6 : (0 : Int) = 0
        · rw [if_pos c6]
          have b7 : 0 ≤ (μ 114 3) ∧ (μ 114 3) ≤ 20 := hB 114 3
          exact ih μ hB l1 l2 (l3 + 0) (l4 + 1) (by omega) (by omega) (by omega) (by omega) (by omega)
        · rw [if_neg c6]
          have b8 : 0 ≤ (μ 114 3) ∧ (μ 114 3) ≤ 20 := hB 114 3
          exact ih μ hB l1 l2 (l3 + 1) (l4 + 1) (by omega) (by omega) (by omega) (by omega) (by omega)
      · rw [if_neg c5]
        by_cases c9 : l1 = (-5)
        · rw [if_pos c9]
          by_cases c10 : l2 = 0
          · rw [if_pos c10]
            by_cases c11 : (1 : Int) = 0
            · rw [if_pos c11]
              have b12 : 0 ≤ (μ 114 3) ∧ (μ 114 3) ≤ 20 := hB 114 3
              exact ih μ hB l1 l2 (l3 + 0) (l4 + 1) (by omega) (by omega) (by omega) (by omega) (by omega)
            · rw [if_neg c11]
              have b13 : 0 ≤ (μ 114 3) ∧ (μ 114 3) ≤ 20 := hB 114 3
              exact ih μ hB l1 l2 (l3 + 1) (l4 + 1) (by omega) (by omega) (by omega) (by omega) (by omega)
          · rw [if_neg c10]
            have r14 : -5 ≤ (mm_ofItem μ l4 3) ∧ (mm_ofItem μ l4 3) ≤ 26 ∧ ((3 : Int) = 0 → 0 ≤ (mm_ofItem μ l4 3) ∧ (mm_ofItem μ l4 3) ≤ 1) ∧ ((3 : Int) = 1 → 0 ≤ (mm_ofItem μ l4 3) ∧ (mm_ofItem μ l4 3) ≤ 10) ∧ ((3 : Int) = 2 → 0 ≤ (mm_ofItem μ l4 3) ∧ (mm_ofItem μ l4 3) ≤ 9) ∧ ((3 : Int) = 3 → (mm_ofItem μ l4 3) = -5 ∨ (0 ≤ (mm_ofItem μ l4 3) ∧ (mm_ofItem μ l4 3) ≤ 23)) ∧ (3 < (3 : Int) → 0 ≤ (mm_ofItem μ l4 3)) := mr_ofItem hB l4 3 (by omega) (by omega)
            by_cases c15 : (mm_ofItem μ l4 3) = (-5)
            · rw [if_pos c15]
              by_cases c19 : (1 : Int) = 0
              · rw [if_pos c19]
                have b20 : 0 ≤ (μ 114 3) ∧ (μ 114 3) ≤ 20 := hB 114 3
                exact ih μ hB l1 l2 (l3 + 0) (l4 + 1) (by omega) (by omega) (by omega) (by omega) (by omega)
              · rw [if_neg c19]
                have b21 : 0 ≤ (μ 114 3) ∧ (μ 114 3) ≤ 20 := hB 114 3
                exact ih μ hB l1 l2 (l3 + 1) (l4 + 1) (by omega) (by omega) (by omega) (by omega) (by omega)
            · rw [if_neg c15]
              by_cases c16 : (0 : Int) = 0
              · rw [if_pos c16]
                have b17 : 0 ≤ (μ 114 3) ∧ (μ 114 3) ≤ 20 := hB 114 3
                exact ih μ hB l1 l2 (l3 + 0) (l4 + 1) (by omega) (by omega) (by omega) (by omega) (by omega)
              · rw [if_neg c16]
                have b18 : 0 ≤ (μ 114 3) ∧ (μ 114 3) ≤ 20 := hB 114 3
                exact ih μ hB l1 l2 (l3 + 1) (l4 + 1) (by omega) (by omega) (by omega) (by omega) (by omega)
        · rw [if_neg c9]
          have r22 : -5 ≤ (mm_ofItem μ l4 2) ∧ (mm_ofItem μ l4 2) ≤ 26 ∧ ((2 : Int) = 0 → 0 ≤ (mm_ofItem μ l4 2) ∧ (mm_ofItem μ l4 2) ≤ 1) ∧ ((2 : Int) = 1 → 0 ≤ (mm_ofItem μ l4 2) ∧ (mm_ofItem μ l4 2) ≤ 10) ∧ ((2 : Int) = 2 → 0 ≤ (mm_ofItem μ l4 2) ∧ (mm_ofItem μ l4 2) ≤ 9) ∧ ((2 : Int) = 3 → (mm_ofItem μ l4 2) = -5 ∨ (0 ≤ (mm_ofItem μ l4 2) ∧ (mm_ofItem μ l4 2) ≤ 23)) ∧ (3 < (2 : Int) → 0 ≤ (mm_ofItem μ l4 2)) := mr_ofItem hB l4 2 (by omega) (by omega)
          by_cases c23 : (mm_ofItem μ l4 2) = l1
          · rw [if_pos c23]
            by_cases c27 : l2 = 0
            · rw [if_pos c27]
              by_cases c28 : (1 : Int) = 0
              · rw [if_pos c28]
                have b29 : 0 ≤ (μ 114 3) ∧ (μ 114 3) ≤ 20 := hB 114 3
                exact ih μ hB l1 l2 (l3 + 0) (l4 + 1) (by omega) (by omega) (by omega) (by omega) (by omega)
              · rw [if_neg c28]
                have b30 : 0 ≤ (μ 114 3) ∧ (μ 114 3) ≤ 20 := hB 114 3
                exact ih μ hB l1 l2 (l3 + 1) (l4 + 1) (by omega) (by omega) (by omega) (by omega) (by omega)
            · rw [if_neg c27]
              have r31 : -5 ≤ (mm_ofItem μ l4 3) ∧ (mm_ofItem μ l4 3) ≤ 26 ∧ ((3 : Int) = 0 → 0 ≤ (mm_ofItem μ l4 3) ∧ (mm_ofItem μ l4 3) ≤ 1) ∧ ((3 : Int) = 1 → 0 ≤ (mm_ofItem μ l4 3) ∧ (mm_ofItem μ l4 3) ≤ 10) ∧ ((3 : Int) = 2 → 0 ≤ (mm_ofItem μ l4 3) ∧ (mm_ofItem μ l4 3) ≤ 9) ∧ ((3 : Int) = 3 → (mm_ofItem μ l4 3) = -5 ∨ (0 ≤ (mm_ofItem μ l4 3) ∧ (mm_ofItem μ l4 3) ≤ 23)) ∧ (3 < (3 : Int) → 0 ≤ (mm_ofItem μ l4 3)) := mr_ofItem hB l4 3 (by omega) (by omega)
              by_cases c32 : (mm_ofItem μ l4 3) = (-5)
              · rw [if_pos c32]
                by_cases c36 : (1 : Int) = 0
                · rw [if_pos c36]
                  have b37 : 0 ≤ (μ 114 3) ∧ (μ 114 3) ≤ 20 := hB 114 3
                  exact ih μ hB l1 l2 (l3 + 0) (l4 + 1) (by omega) (by omega) (by omega) (by omega) (by omega)
                · rw [if_neg c36]
                  have b38 : 0 ≤ (μ 114 3) ∧ (μ 114 3) ≤ 20 := hB 114 3
                  exact ih μ hB l1 l2 (l3 + 1) (l4 + 1) (by omega) (by omega) (by omega) (by omega) (by omega)
              · rw [if_neg c32]
                by_cases c33 : (0 : Int) = 0
                · rw [if_pos c33]
                  have b34 : 0 ≤ (μ 114 3) ∧ (μ 114 3) ≤ 20 := hB 114 3
                  exact ih μ hB l1 l2 (l3 + 0) (l4 + 1) (by omega) (by omega) (by omega) (by omega) (by omega)
                · rw [if_neg c33]
                  have b35 : 0 ≤ (μ 114 3) ∧ (μ 114 3) ≤ 20 := hB 114 3
                  exact ih μ hB l1 l2 (l3 + 1) (l4 + 1) (by omega) (by omega) (by omega) (by omega) (by omega)
          · rw [if_neg c23]
            by_cases c24 : (0 : Int) = 0
            · rw [if_pos c24]
              have b25 : 0 ≤ (μ 114 3) ∧ (μ 114 3) ≤ 20 := hB 114 3
              exact ih μ hB l1 l2 (l3 + 0) (l4 + 1) (by omega) (by omega) (by omega) (by omega) (by omega)
            · rw [if_neg c24]
              have b26 : 0 ≤ (μ 114 3) ∧ (μ 114 3) ≤ 20 := hB 114 3
              exact ih μ hB l1 l2 (l3 + 1) (l4 + 1) (by omega) (by omega) (by omega) (by omega) (by omega)
    · rw [if_neg c3]
      first | omega | (dsimp only; omega)
set_option maxHeartbeats 4000000 in
set_option maxRecDepth 100000 in
theorem mr_holes {μ : zM} (hB : zB μ) (a1 a2 : Int) (h0 : -2147483648 ≤ a1 ∧ a1 ≤ 2147483647) (h1 : -2147483648 ≤ a2 ∧ a2 ≤ 2147483647) : 0 ≤ (mm_holes μ a1 a2) ∧ (mm_holes μ a1 a2) ≤ 20 := by
  unfold mm_holes
  have b1 : 0 ≤ (μ 114 3) ∧ (μ 114 3) ≤ 20 := hB 114 3
  have fb : (3000 : Int) ≤ ((zN : Nat) : Int) := zN_big
  exact mr_holes_5 zN μ hB a1 a2 0 0 (by omega) (by omega) (by omega) (by omega) (by omega)
set_option maxHeartbeats 4000000 in
set_option maxRecDepth 100000 in
theorem mz_holes_5 (f : Nat) (μ : zM) (hB : zB μ) (l1 : Int) (l2 : Int) (l3 : Int) (l4 : Int) (i0 : 0 ≤ l4 ∧ l4 ≤ (μ 114 3)) (i1 : 0 ≤ l3 ∧ l3 ≤ l4) (i2 : -2147483648 ≤ l1 ∧ l1 ≤ 2147483647) (i3 : -2147483648 ≤ l2 ∧ l2 ≤ 2147483647) (hf : (μ 114 3) - l4 < (f : Int)) : Ez md_6_holes 0 0 5 [(0, zr 113), (1, zi l1), (2, zi l2), (3, zi l3), (4, zi l4)] [] zSh μ (some (zi (mm_holes_5 f μ l1 l2 l3 l4))) zSh μ := by
  induction f generalizing μ l1 l2 l3 l4 with
  | zero => exfalso; omega
  | succ f ih =>
    replace hf : (μ 114 3) - l4 < (f : Int) + 1 := by omega
    rw [mm_holes_5]
    have b2 : 0 ≤ (μ 114 3) ∧ (μ 114 3) ≤ 20 := hB 114 3
    refine Az.blk kd_6_holes_5 (show (0 ≤ 3 ∧ 3 < 604) ∧ zR l4 ∧ zR (μ 114 3) ∧ ((¬ l4 < (μ 114 3) → Ez md_6_holes 0 0 84 [(0, zr 113), (1, zi l1), (2, zi l2), (3, zi l3), (4, zi l4)] [] zSh μ _ _ _) ∧ (l4 < (μ 114 3) → Ez md_6_holes 0 0 16 [(0, zr 113), (1, zi l1), (2, zi l2), (3, zi l3), (4, zi l4)] [] zSh μ _ _ _)) from ⟨(by omega), (by omega), (by omega), fun c3 => ?_, fun c3 => ?_⟩)
    · rw [if_neg c3]
      refine Az.blk kd_6_holes_84 (show Ez md_6_holes 0 0 85 [(0, zr 113), (1, zi l1), (2, zi l2), (3, zi l3), (4, zi l4)] [zi l3] zSh μ _ _ _ from ?_)
      exact Ez.iret kr_6_holes_85 rfl (Nat.zero_le _) (Nat.zero_le _) rfl rfl
    · rw [if_pos c3]
      refine Az.blk kd_6_holes_16 (show Ez md_6_holes 0 0 19 [(0, zr 113), (1, zi l1), (2, zi l2), (3, zi l3), (4, zi l4)] [zi l4, zr 113] zSh μ _ _ _ from ?_)
      refine Az.cV (mc := md_6_isHoleAt) (k := 113) (n := 1) (As := [zi l4]) (rest := []) kr_6_holes_19 zw_678 ok_6_isHoleAt rfl rfl rfl trivial (mz_isHoleAt hB l4 (by omega)) rfl rfl (show Ez md_6_holes 0 0 22 [(0, zr 113), (1, zi l1), (2, zi l2), (3, zi l3), (4, zi l4)] [zi (mm_isHoleAt μ l4)] zSh μ _ _ _ from ?_)
      have r4 : 0 ≤ (mm_isHoleAt μ l4) ∧ (mm_isHoleAt μ l4) ≤ 1 := mr_isHoleAt hB l4 (by omega)
      refine Az.blk kd_6_holes_22 (show zR (mm_isHoleAt μ l4) ∧ (((mm_isHoleAt μ l4) = 0 → Ez md_6_holes 0 0 62 [(0, zr 113), (1, zi l1), (2, zi l2), (3, zi l3), (4, zi l4)] [] zSh μ _ _ _) ∧ (¬ (mm_isHoleAt μ l4) = 0 → Ez md_6_holes 0 0 25 [(0, zr 113), (1, zi l1), (2, zi l2), (3, zi l3), (4, zi l4)] [] zSh μ _ _ _)) from ⟨(by omega), fun c5 => ?_, fun c5 => ?_⟩)
      · rw [if_pos c5]
        refine Az.blk kd_6_holes_62 (show zR 0 ∧ (((0 : Int) = 0 → Ez md_6_holes 0 0 75 [(5, zi 0), (0, zr 113), (1, zi l1), (2, zi l2), (3, zi l3), (4, zi l4)] [zi l3] zSh μ _ _ _) ∧ (¬ (0 : Int) = 0 → Ez md_6_holes 0 0 71 [(5, zi 0), (0, zr 113), (1, zi l1), (2, zi l2), (3, zi l3), (4, zi l4)] [zi l3] zSh μ _ _ _)) from ⟨(by omega), fun c6 => ?_, fun c6 => ?_⟩)
        · rw [if_pos c6]
          refine Az.blk kd_6_holes_75 (show Ez md_6_holes 0 0 5 [(4, zi (l4 + 1)), (3, zi (l3 + 0)), (5, zi 0), (0, zr 113), (1, zi l1), (2, zi l2)] [] zSh μ _ _ _ from ?_)
          have b7 : 0 ≤ (μ 114 3) ∧ (μ 114 3) ≤ 20 := hB 114 3
          refine Az.lvs (lv' := [(0, zr 113), (1, zi l1), (2, zi l2), (3, zi (l3 + 0)), (4, zi (l4 + 1))]) ?_ ?_
          · intro q hq; simp only [List.mem_cons, List.not_mem_nil, or_false] at hq; rcases hq with rfl | rfl | rfl | rfl | rfl <;> rfl
          exact ih μ hB l1 l2 (l3 + 0) (l4 + 1) (by omega) (by omega) (by omega) (by omega) (by omega)
        · rw [if_neg c6]
          refine Az.blk kd_6_holes_71 (show Ez md_6_holes 0 0 76 [(5, zi 0), (0, zr 113), (1, zi l1), (2, zi l2), (3, zi l3), (4, zi l4)] [zi 1, zi l3] zSh μ _ _ _ from ?_)
          refine Az.blk kd_6_holes_76 (show Ez md_6_holes 0 0 5 [(4, zi (l4 + 1)), (3, zi (l3 + 1)), (5, zi 0), (0, zr 113), (1, zi l1), (2, zi l2)] [] zSh μ _ _ _ from ?_)
          have b8 : 0 ≤ (μ 114 3) ∧ (μ 114 3) ≤ 20 := hB 114 3
          refine Az.lvs (lv' := [(0, zr 113), (1, zi l1), (2, zi l2), (3, zi (l3 + 1)), (4, zi (l4 + 1))]) ?_ ?_
          · intro q hq; simp only [List.mem_cons, List.not_mem_nil, or_false] at hq; rcases hq with rfl | rfl | rfl | rfl | rfl <;> rfl
          exact ih μ hB l1 l2 (l3 + 1) (l4 + 1) (by omega) (by omega) (by omega) (by omega) (by omega)
      · rw [if_neg c5]
        refine Az.blk kd_6_holes_25 (show zR l1 ∧ zR (-5) ∧ ((l1 = (-5) → Ez md_6_holes 0 0 42 [(0, zr 113), (1, zi l1), (2, zi l2), (3, zi l3), (4, zi l4)] [] zSh μ _ _ _) ∧ (¬ l1 = (-5) → Ez md_6_holes 0 0 31 [(0, zr 113), (1, zi l1), (2, zi l2), (3, zi l3), (4, zi l4)] [] zSh μ _ _ _)) from ⟨(by omega), (by omega), fun c9 => ?_, fun c9 => ?_⟩)
        · rw [if_pos c9]
          refine Az.blk kd_6_holes_42 (show zR l2 ∧ ((l2 = 0 → Ez md_6_holes 0 0 58 [(0, zr 113), (1, zi l1), (2, zi l2), (3, zi l3), (4, zi l4)] [] zSh μ _ _ _) ∧ (¬ l2 = 0 → Ez md_6_holes 0 0 46 [(0, zr 113), (1, zi l1), (2, zi l2), (3, zi l3), (4, zi l4)] [] zSh μ _ _ _)) from ⟨(by omega), fun c10 => ?_, fun c10 => ?_⟩)
          · rw [if_pos c10]
            refine Az.blk kd_6_holes_58 (show Ez md_6_holes 0 0 63 [(0, zr 113), (1, zi l1), (2, zi l2), (3, zi l3), (4, zi l4)] [zi 1] zSh μ _ _ _ from ?_)
            refine Az.blk kd_6_holes_63 (show zR 1 ∧ (((1 : Int) = 0 → Ez md_6_holes 0 0 75 [(5, zi 1), (0, zr 113), (1, zi l1), (2, zi l2), (3, zi l3), (4, zi l4)] [zi l3] zSh μ _ _ _) ∧ (¬ (1 : Int) = 0 → Ez md_6_holes 0 0 71 [(5, zi 1), (0, zr 113), (1, zi l1), (2, zi l2), (3, zi l3), (4, zi l4)] [zi l3] zSh μ _ _ _)) from ⟨(by omega), fun c11 => ?_, fun c11 => ?_⟩)
            · rw [if_pos c11]
              refine Az.blk kd_6_holes_75 (show Ez md_6_holes 0 0 5 [(4, zi (l4 + 1)), (3, zi (l3 + 0)), (5, zi 1), (0, zr 113), (1, zi l1), (2, zi l2)] [] zSh μ _ _ _ from ?_)
              have b12 : 0 ≤ (μ 114 3) ∧ (μ 114 3) ≤ 20 := hB 114 3
              refine Az.lvs (lv' := [(0, zr 113), (1, zi l1), (2, zi l2), (3, zi (l3 + 0)), (4, zi (l4 + 1))]) ?_ ?_
              · intro q hq; simp only [List.mem_cons, List.not_mem_nil, or_false] at hq; rcases hq with rfl | rfl | rfl | rfl | rfl <;> rfl
              exact ih μ hB l1 l2 (l3 + 0) (l4 + 1) (by omega) (by omega) (by omega) (by omega) (by omega)
            · rw [if_neg c11]
              refine Az.blk kd_6_holes_71 (show Ez md_6_holes 0 0 76 [(5, zi 1), (0, zr 113), (1, zi l1), (2, zi l2), (3, zi l3), (4, zi l4)] [zi 1, zi l3] zSh μ _ _ _ from ?_)
              refine Az.blk kd_6_holes_76 (show Ez md_6_holes 0 0 5 [(4, zi (l4 + 1)), (3, zi (l3 + 1)), (5, zi 1), (0, zr 113), (1, zi l1), (2, zi l2)] [] zSh μ _ _ _ from ?_)
              have b13 : 0 ≤ (μ 114 3) ∧ (μ 114 3) ≤ 20 := hB 114 3
              refine Az.lvs (lv' := [(0, zr 113), (1, zi l1), (2, zi l2), (3, zi (l3 + 1)), (4, zi (l4 + 1))]) ?_ ?_
              · intro q hq; simp only [List.mem_cons, List.not_mem_nil, or_false] at hq; rcases hq with rfl | rfl | rfl | rfl | rfl <;> rfl
              exact ih μ hB l1 l2 (l3 + 1) (l4 + 1) (by omega) (by omega) (by omega) (by omega) (by omega)
          · rw [if_neg c10]
            refine Az.blk kd_6_holes_46 (show Ez md_6_holes 0 0 50 [(0, zr 113), (1, zi l1), (2, zi l2), (3, zi l3), (4, zi l4)] [zi 3, zi l4, zr 113] zSh μ _ _ _ from ?_)
            refine Az.cV (mc := md_6_ofItem) (k := 113) (n := 2) (As := [zi l4, zi 3]) (rest := []) kr_6_holes_50 zw_682 ok_6_ofItem rfl rfl rfl trivial (mz_ofItem hB l4 3 (by omega) (by omega)) rfl rfl (show Ez md_6_holes 0 0 53 [(0, zr 113), (1, zi l1), (2, zi l2), (3, zi l3), (4, zi l4)] [zi (mm_ofItem μ l4 3)] zSh μ _ _ _ from ?_)
            have r14 : -5 ≤ (mm_ofItem μ l4 3) ∧ (mm_ofItem μ l4 3) ≤ 26 ∧ ((3 : Int) = 0 → 0 ≤ (mm_ofItem μ l4 3) ∧ (mm_ofItem μ l4 3) ≤ 1) ∧ ((3 : Int) = 1 → 0 ≤ (mm_ofItem μ l4 3) ∧ (mm_ofItem μ l4 3) ≤ 10) ∧ ((3 : Int) = 2 → 0 ≤ (mm_ofItem μ l4 3) ∧ (mm_ofItem μ l4 3) ≤ 9) ∧ ((3 : Int) = 3 → (mm_ofItem μ l4 3) = -5 ∨ (0 ≤ (mm_ofItem μ l4 3) ∧ (mm_ofItem μ l4 3) ≤ 23)) ∧ (3 < (3 : Int) → 0 ≤ (mm_ofItem μ l4 3)) := mr_ofItem hB l4 3 (by omega) (by omega)
            refine Az.blk kd_6_holes_53 (show zR (mm_ofItem μ l4 3) ∧ zR (-5) ∧ ((¬ (mm_ofItem μ l4 3) = (-5) → Ez md_6_holes 0 0 62 [(0, zr 113), (1, zi l1), (2, zi l2), (3, zi l3), (4, zi l4)] [] zSh μ _ _ _) ∧ ((mm_ofItem μ l4 3) = (-5) → Ez md_6_holes 0 0 58 [(0, zr 113), (1, zi l1), (2, zi l2), (3, zi l3), (4, zi l4)] [] zSh μ _ _ _)) from ⟨(by omega), (by omega), fun c15 => ?_, fun c15 => ?_⟩)
            · rw [if_neg c15]
              refine Az.blk kd_6_holes_62 (show zR 0 ∧ (((0 : Int) = 0 → Ez md_6_holes 0 0 75 [(5, zi 0), (0, zr 113), (1, zi l1), (2, zi l2), (3, zi l3), (4, zi l4)] [zi l3] zSh μ _ _ _) ∧ (¬ (0 : Int) = 0 → Ez md_6_holes 0 0 71 [(5, zi 0), (0, zr 113), (1, zi l1), (2, zi l2), (3, zi l3), (4, zi l4)] [zi l3] zSh μ _ _ _)) from ⟨(by omega), fun c16 => ?_, fun c16 => ?_⟩)
              · rw [if_pos c16]
                refine Az.blk kd_6_holes_75 (show Ez md_6_holes 0 0 5 [(4, zi (l4 + 1)), (3, zi (l3 + 0)), (5, zi 0), (0, zr 113), (1, zi l1), (2, zi l2)] [] zSh μ _ _ _ from ?_)
                have b17 : 0 ≤ (μ 114 3) ∧ (μ 114 3) ≤ 20 := hB 114 3
                refine Az.lvs (lv' := [(0, zr 113), (1, zi l1), (2, zi l2), (3, zi (l3 + 0)), (4, zi (l4 + 1))]) ?_ ?_
                · intro q hq; simp only [List.mem_cons, List.not_mem_nil, or_false] at hq; rcases hq with rfl | rfl | rfl | rfl | rfl <;> rfl
                exact ih μ hB l1 l2 (l3 + 0) (l4 + 1) (by omega) (by omega) (by omega) (by omega) (by omega)
              · rw [if_neg c16]
                refine Az.blk kd_6_holes_71 (show Ez md_6_holes 0 0 76 [(5, zi 0), (0, zr 113), (1, zi l1), (2, zi l2), (3, zi l3), (4, zi l4)] [zi 1, zi l3] zSh μ _ _ _ from ?_)
                refine Az.blk kd_6_holes_76 (show Ez md_6_holes 0 0 5 [(4, zi (l4 + 1)), (3, zi (l3 + 1)), (5, zi 0), (0, zr 113), (1, zi l1), (2, zi l2)] [] zSh μ _ _ _ from ?_)
                have b18 : 0 ≤ (μ 114 3) ∧ (μ 114 3) ≤ 20 := hB 114 3
                refine Az.lvs (lv' := [(0, zr 113), (1, zi l1), (2, zi l2), (3, zi (l3 + 1)), (4, zi (l4 + 1))]) ?_ ?_
                · intro q hq; simp only [List.mem_cons, List.not_mem_nil, or_false] at hq; rcases hq with rfl | rfl | rfl | rfl | rfl <;> rfl
                exact ih μ hB l1 l2 (l3 + 1) (l4 + 1) (by omega) (by omega) (by omega) (by omega) (by omega)
            · rw [if_pos c15]
              refine Az.blk kd_6_holes_58 (show Ez md_6_holes 0 0 63 [(0, zr 113), (1, zi l1), (2, zi l2), (3, zi l3), (4, zi l4)] [zi 1] zSh μ _ _ _ from ?_)
              refine Az.blk kd_6_holes_63 (show zR 1 ∧ (((1 : Int) = 0 → Ez md_6_holes 0 0 75 [(5, zi 1), (0, zr 113), (1, zi l1), (2, zi l2), (3, zi l3), (4, zi l4)] [zi l3] zSh μ _ _ _) ∧ (¬ (1 : Int) = 0 → Ez md_6_holes 0 0 71 [(5, zi 1), (0, zr 113), (1, zi l1), (2, zi l2), (3, zi l3), (4, zi l4)] [zi l3] zSh μ _ _ _)) from ⟨(by omega), fun c19 => ?_, fun c19 => ?_⟩)
              · rw [if_pos c19]
                refine Az.blk kd_6_holes_75 (show Ez md_6_holes 0 0 5 [(4, zi (l4 + 1)), (3, zi (l3 + 0)), (5, zi 1), (0, zr 113), (1, zi l1), (2, zi l2)] [] zSh μ _ _ _ from ?_)
                have b20 : 0 ≤ (μ 114 3) ∧ (μ 114 3) ≤ 20 := hB 114 3
                refine Az.lvs (lv' := [(0, zr 113), (1, zi l1), (2, zi l2), (3, zi (l3 + 0)), (4, zi (l4 + 1))]) ?_ ?_
                · intro q hq; simp only [List.mem_cons, List.not_mem_nil, or_false] at hq; rcases hq with rfl | rfl | rfl | rfl | rfl <;> rfl
                exact ih μ hB l1 l2 (l3 + 0) (l4 + 1) (by omega) (by omega) (by omega) (by omega) (by omega)
              · rw [if_neg c19]
                refine Az.blk kd_6_holes_71 (show Ez md_6_holes 0 0 76 [(5, zi 1), (0, zr 113), (1, zi l1), (2, zi l2), (3, zi l3), (4, zi l4)] [zi 1, zi l3] zSh μ _ _ _ from ?_)
                refine Az.blk kd_6_holes_76 (show Ez md_6_holes 0 0 5 [(4, zi (l4 + 1)), (3, zi (l3 + 1)), (5, zi 1), (0, zr 113), (1, zi l1), (2, zi l2)] [] zSh μ _ _ _ from ?_)
                have b21 : 0 ≤ (μ 114 3) ∧ (μ 114 3) ≤ 20 := hB 114 3
                refine Az.lvs (lv' := [(0, zr 113), (1, zi l1), (2, zi l2), (3, zi (l3 + 1)), (4, zi (l4 + 1))]) ?_ ?_
                · intro q hq; simp only [List.mem_cons, List.not_mem_nil, or_false] at hq; rcases hq with rfl | rfl | rfl | rfl | rfl <;> rfl
                exact ih μ hB l1 l2 (l3 + 1) (l4 + 1) (by omega) (by omega) (by omega) (by omega) (by omega)
        · rw [if_neg c9]
          refine Az.blk kd_6_holes_31 (show Ez md_6_holes 0 0 35 [(0, zr 113), (1, zi l1), (2, zi l2), (3, zi l3), (4, zi l4)] [zi 2, zi l4, zr 113] zSh μ _ _ _ from ?_)
          refine Az.cV (mc := md_6_ofItem) (k := 113) (n := 2) (As := [zi l4, zi 2]) (rest := []) kr_6_holes_35 zw_682 ok_6_ofItem rfl rfl rfl trivial (mz_ofItem hB l4 2 (by omega) (by omega)) rfl rfl (show Ez md_6_holes 0 0 38 [(0, zr 113), (1, zi l1), (2, zi l2), (3, zi l3), (4, zi l4)] [zi (mm_ofItem μ l4 2)] zSh μ _ _ _ from ?_)
          have r22 : -5 ≤ (mm_ofItem μ l4 2) ∧ (mm_ofItem μ l4 2) ≤ 26 ∧ ((2 : Int) = 0 → 0 ≤ (mm_ofItem μ l4 2) ∧ (mm_ofItem μ l4 2) ≤ 1) ∧ ((2 : Int) = 1 → 0 ≤ (mm_ofItem μ l4 2) ∧ (mm_ofItem μ l4 2) ≤ 10) ∧ ((2 : Int) = 2 → 0 ≤ (mm_ofItem μ l4 2) ∧ (mm_ofItem μ l4 2) ≤ 9) ∧ ((2 : Int) = 3 → (mm_ofItem μ l4 2) = -5 ∨ (0 ≤ (mm_ofItem μ l4 2) ∧ (mm_ofItem μ l4 2) ≤ 23)) ∧ (3 < (2 : Int) → 0 ≤ (mm_ofItem μ l4 2)) := mr_ofItem hB l4 2 (by omega) (by omega)
          refine Az.blk kd_6_holes_38 (show zR (mm_ofItem μ l4 2) ∧ zR l1 ∧ ((¬ (mm_ofItem μ l4 2) = l1 → Ez md_6_holes 0 0 62 [(0, zr 113), (1, zi l1), (2, zi l2), (3, zi l3), (4, zi l4)] [] zSh μ _ _ _) ∧ ((mm_ofItem μ l4 2) = l1 → Ez md_6_holes 0 0 42 [(0, zr 113), (1, zi l1), (2, zi l2), (3, zi l3), (4, zi l4)] [] zSh μ _ _ _)) from ⟨(by omega), (by omega), fun c23 => ?_, fun c23 => ?_⟩)
          · rw [if_neg c23]
            refine Az.blk kd_6_holes_62 (show zR 0 ∧ (((0 : Int) = 0 → Ez md_6_holes 0 0 75 [(5, zi 0), (0, zr 113), (1, zi l1), (2, zi l2), (3, zi l3), (4, zi l4)] [zi l3] zSh μ _ _ _) ∧ (¬ (0 : Int) = 0 → Ez md_6_holes 0 0 71 [(5, zi 0), (0, zr 113), (1, zi l1), (2, zi l2), (3, zi l3), (4, zi l4)] [zi l3] zSh μ _ _ _)) from ⟨(by omega), fun c24 => ?_, fun c24 => ?_⟩)
            · rw [if_pos c24]
              refine Az.blk kd_6_holes_75 (show Ez md_6_holes 0 0 5 [(4, zi (l4 + 1)), (3, zi (l3 + 0)), (5, zi 0), (0, zr 113), (1, zi l1), (2, zi l2)] [] zSh μ _ _ _ from ?_)
              have b25 : 0 ≤ (μ 114 3) ∧ (μ 114 3) ≤ 20 := hB 114 3
              refine Az.lvs (lv' := [(0, zr 113), (1, zi l1), (2, zi l2), (3, zi (l3 + 0)), (4, zi (l4 + 1))]) ?_ ?_
              · intro q hq; simp only [List.mem_cons, List.not_mem_nil, or_false] at hq; rcases hq with rfl | rfl | rfl | rfl | rfl <;> rfl
              exact ih μ hB l1 l2 (l3 + 0) (l4 + 1) (by omega) (by omega) (by omega) (by omega) (by omega)
            · rw [if_neg c24]
              refine Az.blk kd_6_holes_71 (show Ez md_6_holes 0 0 76 [(5, zi 0), (0, zr 113), (1, zi l1), (2, zi l2), (3, zi l3), (4, zi l4)] [zi 1, zi l3] zSh μ _ _ _ from ?_)
              refine Az.blk kd_6_holes_76 (show Ez md_6_holes 0 0 5 [(4, zi (l4 + 1)), (3, zi (l3 + 1)), (5, zi 0), (0, zr 113), (1, zi l1), (2, zi l2)] [] zSh μ _ _ _ from ?_)
              have b26 : 0 ≤ (μ 114 3) ∧ (μ 114 3) ≤ 20 := hB 114 3
              refine Az.lvs (lv' := [(0, zr 113), (1, zi l1), (2, zi l2), (3, zi (l3 + 1)), (4, zi (l4 + 1))]) ?_ ?_
              · intro q hq; simp only [List.mem_cons, List.not_mem_nil, or_false] at hq; rcases hq with rfl | rfl | rfl | rfl | rfl <;> rfl
              exact ih μ hB l1 l2 (l3 + 1) (l4 + 1) (by omega) (by omega) (by omega) (by omega) (by omega)
          · rw [if_pos c23]
            refine Az.blk kd_6_holes_42 (show zR l2 ∧ ((l2 = 0 → Ez md_6_holes 0 0 58 [(0, zr 113), (1, zi l1), (2, zi l2), (3, zi l3), (4, zi l4)] [] zSh μ _ _ _) ∧ (¬ l2 = 0 → Ez md_6_holes 0 0 46 [(0, zr 113), (1, zi l1), (2, zi l2), (3, zi l3), (4, zi l4)] [] zSh μ _ _ _)) from ⟨(by omega), fun c27 => ?_, fun c27 => ?_⟩)
            · rw [if_pos c27]
              refine Az.blk kd_6_holes_58 (show Ez md_6_holes 0 0 63 [(0, zr 113), (1, zi l1), (2, zi l2), (3, zi l3), (4, zi l4)] [zi 1] zSh μ _ _ _ from ?_)
              refine Az.blk kd_6_holes_63 (show zR 1 ∧ (((1 : Int) = 0 → Ez md_6_holes 0 0 75 [(5, zi 1), (0, zr 113), (1, zi l1), (2, zi l2), (3, zi l3), (4, zi l4)] [zi l3] zSh μ _ _ _) ∧ (¬ (1 : Int) = 0 → Ez md_6_holes 0 0 71 [(5, zi 1), (0, zr 113), (1, zi l1), (2, zi l2), (3, zi l3), (4, zi l4)] [zi l3] zSh μ _ _ _)) from ⟨(by omega), fun c28 => ?_, fun c28 => ?_⟩)
              · rw [if_pos c28]
                refine Az.blk kd_6_holes_75 (show Ez md_6_holes 0 0 5 [(4, zi (l4 + 1)), (3, zi (l3 + 0)), (5, zi 1), (0, zr 113), (1, zi l1), (2, zi l2)] [] zSh μ _ _ _ from ?_)
                have b29 : 0 ≤ (μ 114 3) ∧ (μ 114 3) ≤ 20 := hB 114 3
                refine Az.lvs (lv' := [(0, zr 113), (1, zi l1), (2, zi l2), (3, zi (l3 + 0)), (4, zi (l4 + 1))]) ?_ ?_
                · intro q hq; simp only [List.mem_cons, List.not_mem_nil, or_false] at hq; rcases hq with rfl | rfl | rfl | rfl | rfl <;> rfl
                exact ih μ hB l1 l2 (l3 + 0) (l4 + 1) (by omega) (by omega) (by omega) (by omega) (by omega)
              · rw [if_neg c28]
                refine Az.blk kd_6_holes_71 (show Ez md_6_holes 0 0 76 [(5, zi 1), (0, zr 113), (1, zi l1), (2, zi l2), (3, zi l3), (4, zi l4)] [zi 1, zi l3] zSh μ _ _ _ from ?_)
                refine Az.blk kd_6_holes_76 (show Ez md_6_holes 0 0 5 [(4, zi (l4 + 1)), (3, zi (l3 + 1)), (5, zi 1), (0, zr 113), (1, zi l1), (2, zi l2)] [] zSh μ _ _ _ from ?_)
                have b30 : 0 ≤ (μ 114 3) ∧ (μ 114 3) ≤ 20 := hB 114 3
                refine Az.lvs (lv' := [(0, zr 113), (1, zi l1), (2, zi l2), (3, zi (l3 + 1)), (4, zi (l4 + 1))]) ?_ ?_
                · intro q hq; simp only [List.mem_cons, List.not_mem_nil, or_false] at hq; rcases hq with rfl | rfl | rfl | rfl | rfl <;> rfl
                exact ih μ hB l1 l2 (l3 + 1) (l4 + 1) (by omega) (by omega) (by omega) (by omega) (by omega)
            · rw [if_neg c27]
              refine Az.blk kd_6_holes_46 (show Ez md_6_holes 0 0 50 [(0, zr 113), (1, zi l1), (2, zi l2), (3, zi l3), (4, zi l4)] [zi 3, zi l4, zr 113] zSh μ _ _ _ from ?_)
              refine Az.cV (mc := md_6_ofItem) (k := 113) (n := 2) (As := [zi l4, zi 3]) (rest := []) kr_6_holes_50 zw_682 ok_6_ofItem rfl rfl rfl trivial (mz_ofItem hB l4 3 (by omega) (by omega)) rfl rfl (show Ez md_6_holes 0 0 53 [(0, zr 113), (1, zi l1), (2, zi l2), (3, zi l3), (4, zi l4)] [zi (mm_ofItem μ l4 3)] zSh μ _ _ _ from ?_)
              have r31 : -5 ≤ (mm_ofItem μ l4 3) ∧ (mm_ofItem μ l4 3) ≤ 26 ∧ ((3 : Int) = 0 → 0 ≤ (mm_ofItem μ l4 3) ∧ (mm_ofItem μ l4 3) ≤ 1) ∧ ((3 : Int) = 1 → 0 ≤ (mm_ofItem μ l4 3) ∧ (mm_ofItem μ l4 3) ≤ 10) ∧ ((3 : Int) = 2 → 0 ≤ (mm_ofItem μ l4 3) ∧ (mm_ofItem μ l4 3) ≤ 9) ∧ ((3 : Int) = 3 → (mm_ofItem μ l4 3) = -5 ∨ (0 ≤ (mm_ofItem μ l4 3) ∧ (mm_ofItem μ l4 3) ≤ 23)) ∧ (3 < (3 : Int) → 0 ≤ (mm_ofItem μ l4 3)) := mr_ofItem hB l4 3 (by omega) (by omega)
              refine Az.blk kd_6_holes_53 (show zR (mm_ofItem μ l4 3) ∧ zR (-5) ∧ ((¬ (mm_ofItem μ l4 3) = (-5) → Ez md_6_holes 0 0 62 [(0, zr 113), (1, zi l1), (2, zi l2), (3, zi l3), (4, zi l4)] [] zSh μ _ _ _) ∧ ((mm_ofItem μ l4 3) = (-5) → Ez md_6_holes 0 0 58 [(0, zr 113), (1, zi l1), (2, zi l2), (3, zi l3), (4, zi l4)] [] zSh μ _ _ _)) from ⟨(by omega), (by omega), fun c32 => ?_, fun c32 => ?_⟩)
              · rw [if_neg c32]
                refine Az.blk kd_6_holes_62 (show zR 0 ∧ (((0 : Int) = 0 → Ez md_6_holes 0 0 75 [(5, zi 0), (0, zr 113), (1, zi l1), (2, zi l2), (3, zi l3), (4, zi l4)] [zi l3] zSh μ _ _ _) ∧ (¬ (0 : Int) = 0 → Ez md_6_holes 0 0 71 [(5, zi 0), (0, zr 113), (1, zi l1), (2, zi l2), (3, zi l3), (4, zi l4)] [zi l3] zSh μ _ _ _)) from ⟨(by omega), fun c33 => ?_, fun c33 => ?_⟩)
                · rw [if_pos c33]
                  refine Az.blk kd_6_holes_75 (show Ez md_6_holes 0 0 5 [(4, zi (l4 + 1)), (3, zi (l3 + 0)), (5, zi 0), (0, zr 113), (1, zi l1), (2, zi l2)] [] zSh μ _ _ _ from ?_)
                  have b34 : 0 ≤ (μ 114 3) ∧ (μ 114 3) ≤ 20 := hB 114 3
                  refine Az.lvs (lv' := [(0, zr 113), (1, zi l1), (2, zi l2), (3, zi (l3 + 0)), (4, zi (l4 + 1))]) ?_ ?_
                  · intro q hq; simp only [List.mem_cons, List.not_mem_nil, or_false] at hq; rcases hq with rfl | rfl | rfl | rfl | rfl <;> rfl
                  exact ih μ hB l1 l2 (l3 + 0) (l4 + 1) (by omega) (by omega) (by omega) (by omega) (by omega)
                · rw [if_neg c33]
                  refine Az.blk kd_6_holes_71 (show Ez md_6_holes 0 0 76 [(5, zi 0), (0, zr 113), (1, zi l1), (2, zi l2), (3, zi l3), (4, zi l4)] [zi 1, zi l3] zSh μ _ _ _ from ?_)
                  refine Az.blk kd_6_holes_76 (show Ez md_6_holes 0 0 5 [(4, zi (l4 + 1)), (3, zi (l3 + 1)), (5, zi 0), (0, zr 113), (1, zi l1), (2, zi l2)] [] zSh μ _ _ _ from ?_)
                  have b35 : 0 ≤ (μ 114 3) ∧ (μ 114 3) ≤ 20 := hB 114 3
                  refine Az.lvs (lv' := [(0, zr 113), (1, zi l1), (2, zi l2), (3, zi (l3 + 1)), (4, zi (l4 + 1))]) ?_ ?_
                  · intro q hq; simp only [List.mem_cons, List.not_mem_nil, or_false] at hq; rcases hq with rfl | rfl | rfl | rfl | rfl <;> rfl
                  exact ih μ hB l1 l2 (l3 + 1) (l4 + 1) (by omega) (by omega) (by omega) (by omega) (by omega)
              · rw [if_pos c32]
                refine Az.blk kd_6_holes_58 (show Ez md_6_holes 0 0 63 [(0, zr 113), (1, zi l1), (2, zi l2), (3, zi l3), (4, zi l4)] [zi 1] zSh μ _ _ _ from ?_)
                refine Az.blk kd_6_holes_63 (show zR 1 ∧ (((1 : Int) = 0 → Ez md_6_holes 0 0 75 [(5, zi 1), (0, zr 113), (1, zi l1), (2, zi l2), (3, zi l3), (4, zi l4)] [zi l3] zSh μ _ _ _) ∧ (¬ (1 : Int) = 0 → Ez md_6_holes 0 0 71 [(5, zi 1), (0, zr 113), (1, zi l1), (2, zi l2), (3, zi l3), (4, zi l4)] [zi l3] zSh μ _ _ _)) from ⟨(by omega), fun c36 => ?_, fun c36 => ?_⟩)
                · rw [if_pos c36]
                  refine Az.blk kd_6_holes_75 (show Ez md_6_holes 0 0 5 [(4, zi (l4 + 1)), (3, zi (l3 + 0)), (5, zi 1), (0, zr 113), (1, zi l1), (2, zi l2)] [] zSh μ _ _ _ from ?_)
                  have b37 : 0 ≤ (μ 114 3) ∧ (μ 114 3) ≤ 20 := hB 114 3
                  refine Az.lvs (lv' := [(0, zr 113), (1, zi l1), (2, zi l2), (3, zi (l3 + 0)), (4, zi (l4 + 1))]) ?_ ?_
                  · intro q hq; simp only [List.mem_cons, List.not_mem_nil, or_false] at hq; rcases hq with rfl | rfl | rfl | rfl | rfl <;> rfl
                  exact ih μ hB l1 l2 (l3 + 0) (l4 + 1) (by omega) (by omega) (by omega) (by omega) (by omega)
                · rw [if_neg c36]
                  refine Az.blk kd_6_holes_71 (show Ez md_6_holes 0 0 76 [(5, zi 1), (0, zr 113), (1, zi l1), (2, zi l2), (3, zi l3), (4, zi l4)] [zi 1, zi l3] zSh μ _ _ _ from ?_)
                  refine Az.blk kd_6_holes_76 (show Ez md_6_holes 0 0 5 [(4, zi (l4 + 1)), (3, zi (l3 + 1)), (5, zi 1), (0, zr 113), (1, zi l1), (2, zi l2)] [] zSh μ _ _ _ from ?_)
                  have b38 : 0 ≤ (μ 114 3) ∧ (μ 114 3) ≤ 20 := hB 114 3
                  refine Az.lvs (lv' := [(0, zr 113), (1, zi l1), (2, zi l2), (3, zi (l3 + 1)), (4, zi (l4 + 1))]) ?_ ?_
                  · intro q hq; simp only [List.mem_cons, List.not_mem_nil, or_false] at hq; rcases hq with rfl | rfl | rfl | rfl | rfl <;> rfl
                  exact ih μ hB l1 l2 (l3 + 1) (l4 + 1) (by omega) (by omega) (by omega) (by omega) (by omega)
set_option maxHeartbeats 4000000 in
set_option maxRecDepth 100000 in
theorem mz_holes {μ : zM} (hB : zB μ) (a1 a2 : Int) (h0 : -2147483648 ≤ a1 ∧ a1 ≤ 2147483647) (h1 : -2147483648 ≤ a2 ∧ a2 ≤ 2147483647) : Dz md_6_holes [zr 113, zi a1, zi a2] zSh μ (some (zi (mm_holes μ a1 a2))) zSh μ := by
  refine Dz.of (by decide) rfl rfl (show Ez md_6_holes 0 0 0 [(0, zr 113), (1, zi a1), (2, zi a2)] [] zSh μ (some (zi (mm_holes μ a1 a2))) zSh μ from ?_)
  unfold mm_holes
  refine Az.blk kd_6_holes_0 (show Ez md_6_holes 0 0 5 [(4, zi 0), (3, zi 0), (0, zr 113), (1, zi a1), (2, zi a2)] [] zSh μ _ _ _ from ?_)
  have b1 : 0 ≤ (μ 114 3) ∧ (μ 114 3) ≤ 20 := hB 114 3
  refine Az.lvs (lv' := [(0, zr 113), (1, zi a1), (2, zi a2), (3, zi 0), (4, zi 0)]) ?_ ?_
  · intro q hq; simp only [List.mem_cons, List.not_mem_nil, or_false] at hq; rcases hq with rfl | rfl | rfl | rfl | rfl <;> rfl
  have fb : (3000 : Int) ≤ ((zN : Nat) : Int) := zN_big
  exact mz_holes_5 zN μ hB a1 a2 0 0 (by omega) (by omega) (by omega) (by omega) (by omega)
def kb_6_numberOf_0 : List zI := [(.aload_n 0, 1, 0, 0), (.getfield 7, 3, 6, 0), (.sipush 584, 3, 0, 0), (.iconst 2, 1, 0, 0), (.iload_n 1, 1, 0, 0), (.imul, 1, 0, 0), (.iadd, 1, 0, 0), (.iaload, 1, 0, 0)]
theorem kd_6_numberOf_0 : zdec md_6_numberOf 0 kb_6_numberOf_0 = true := by decide +kernel
theorem kr_6_numberOf_12 : decode md_6_numberOf.2.1 12 = .ok (.ireturn, 1) := by decide +kernel
noncomputable def mm_numberOf (μ : zM) (a1 : Int) : Int := (μ 114 (584 + (2 * a1)))
set_option maxHeartbeats 4000000 in
set_option maxRecDepth 100000 in
theorem mr_numberOf {μ : zM} (hB : zB μ) (a1 : Int) (h0 : 0 ≤ a1 ∧ a1 ≤ 9) : 0 ≤ (mm_numberOf μ a1) ∧ (mm_numberOf μ a1) ≤ 1 := by
  unfold mm_numberOf
  have q1 := zR_row hB (z := (584 + (2 * a1))) (by omega)
  first | omega | (dsimp only; omega)
set_option maxHeartbeats 4000000 in
set_option maxRecDepth 100000 in
theorem mz_numberOf {μ : zM} (hB : zB μ) (a1 : Int) (h0 : 0 ≤ a1 ∧ a1 ≤ 9) : Dz md_6_numberOf [zr 113, zi a1] zSh μ (some (zi (mm_numberOf μ a1))) zSh μ := by
  refine Dz.of (by decide) rfl rfl (show Ez md_6_numberOf 0 0 0 [(0, zr 113), (1, zi a1)] [] zSh μ (some (zi (mm_numberOf μ a1))) zSh μ from ?_)
  unfold mm_numberOf
  have q1 := zR_row hB (z := (584 + (2 * a1))) (by omega)
  refine Az.blk kd_6_numberOf_0 (show (0 ≤ (584 + (2 * a1)) ∧ (584 + (2 * a1)) < 604) ∧ Ez md_6_numberOf 0 0 12 [(0, zr 113), (1, zi a1)] [zi (μ 114 (584 + (2 * a1)))] zSh μ _ _ _ from ⟨(by omega), ?_⟩)
  exact Ez.iret kr_6_numberOf_12 rfl (Nat.zero_le _) (Nat.zero_le _) rfl rfl
def kb_6_tenseOf_0 : List zI := [(.aload_n 0, 1, 0, 0), (.getfield 7, 3, 6, 0), (.sipush 584, 3, 0, 0), (.iconst 2, 1, 0, 0), (.iload_n 1, 1, 0, 0), (.imul, 1, 0, 0), (.iadd, 1, 0, 0), (.iconst 1, 1, 0, 0), (.iadd, 1, 0, 0), (.iaload, 1, 0, 0)]
theorem kd_6_tenseOf_0 : zdec md_6_tenseOf 0 kb_6_tenseOf_0 = true := by decide +kernel
theorem kr_6_tenseOf_14 : decode md_6_tenseOf.2.1 14 = .ok (.ireturn, 1) := by decide +kernel
noncomputable def mm_tenseOf (μ : zM) (a1 : Int) : Int := (μ 114 ((584 + (2 * a1)) + 1))
set_option maxHeartbeats 4000000 in
set_option maxRecDepth 100000 in
theorem mr_tenseOf {μ : zM} (hB : zB μ) (a1 : Int) (h0 : 0 ≤ a1 ∧ a1 ≤ 9) : 0 ≤ (mm_tenseOf μ a1) ∧ (mm_tenseOf μ a1) ≤ 2 := by
  unfold mm_tenseOf
  have q1 := zR_row hB (z := ((584 + (2 * a1)) + 1)) (by omega)
  first | omega | (dsimp only; omega)
set_option maxHeartbeats 4000000 in
set_option maxRecDepth 100000 in
theorem mz_tenseOf {μ : zM} (hB : zB μ) (a1 : Int) (h0 : 0 ≤ a1 ∧ a1 ≤ 9) : Dz md_6_tenseOf [zr 113, zi a1] zSh μ (some (zi (mm_tenseOf μ a1))) zSh μ := by
  refine Dz.of (by decide) rfl rfl (show Ez md_6_tenseOf 0 0 0 [(0, zr 113), (1, zi a1)] [] zSh μ (some (zi (mm_tenseOf μ a1))) zSh μ from ?_)
  unfold mm_tenseOf
  have q1 := zR_row hB (z := ((584 + (2 * a1)) + 1)) (by omega)
  refine Az.blk kd_6_tenseOf_0 (show (0 ≤ ((584 + (2 * a1)) + 1) ∧ ((584 + (2 * a1)) + 1) < 604) ∧ Ez md_6_tenseOf 0 0 14 [(0, zr 113), (1, zi a1)] [zi (μ 114 ((584 + (2 * a1)) + 1))] zSh μ _ _ _ from ⟨(by omega), ?_⟩)
  exact Ez.iret kr_6_tenseOf_14 rfl (Nat.zero_le _) (Nat.zero_le _) rfl rfl
def kb_6_nounIn_0 : List zI := [(.iconst 0, 1, 0, 0), (.istore_n 3, 1, 0, 0)]
theorem kd_6_nounIn_0 : zdec md_6_nounIn 0 kb_6_nounIn_0 = true := by decide +kernel
def kb_6_nounIn_2 : List zI := [(.iload_n 3, 1, 0, 0), (.aload_n 0, 1, 0, 0), (.getfield 7, 3, 6, 0), (.iconst 3, 1, 0, 0), (.iaload, 1, 0, 0), (.if_icmp .ge 64, 3, 73, 0)]
theorem kd_6_nounIn_2 : zdec md_6_nounIn 2 kb_6_nounIn_2 = true := by decide +kernel
def kb_6_nounIn_73 : List zI := [(.bipush (-5), 2, 0, 0)]
theorem kd_6_nounIn_73 : zdec md_6_nounIn 73 kb_6_nounIn_73 = true := by decide +kernel
theorem kr_6_nounIn_75 : decode md_6_nounIn.2.1 75 = .ok (.ireturn, 1) := by decide +kernel
def kb_6_nounIn_12 : List zI := [(.iload_n 3, 1, 0, 0), (.iload_n 2, 1, 0, 0), (.if_icmp .eq 53, 3, 67, 0)]
theorem kd_6_nounIn_12 : zdec md_6_nounIn 12 kb_6_nounIn_12 = true := by decide +kernel
def kb_6_nounIn_67 : List zI := [(.iinc 3 1, 3, 0, 0), (.goto (-68), 3, 2, 0)]
theorem kd_6_nounIn_67 : zdec md_6_nounIn 67 kb_6_nounIn_67 = true := by decide +kernel
def kb_6_nounIn_17 : List zI := [(.aload_n 0, 1, 0, 0), (.iload_n 3, 1, 0, 0)]
theorem kd_6_nounIn_17 : zdec md_6_nounIn 17 kb_6_nounIn_17 = true := by decide +kernel
theorem kr_6_nounIn_19 : decode md_6_nounIn.2.1 19 = .ok (.invokevirtual 51, 3) := by decide +kernel
def kb_6_nounIn_22 : List zI := [(.ifCond .eq 45, 3, 67, 0)]
theorem kd_6_nounIn_22 : zdec md_6_nounIn 22 kb_6_nounIn_22 = true := by decide +kernel
def kb_6_nounIn_25 : List zI := [(.aload_n 0, 1, 0, 0), (.iload_n 3, 1, 0, 0), (.iconst 2, 1, 0, 0)]
theorem kd_6_nounIn_25 : zdec md_6_nounIn 25 kb_6_nounIn_25 = true := by decide +kernel
theorem kr_6_nounIn_28 : decode md_6_nounIn.2.1 28 = .ok (.invokevirtual 48, 3) := by decide +kernel
def kb_6_nounIn_31 : List zI := [(.iload_n 1, 1, 0, 0), (.if_icmp .ne 35, 3, 67, 0)]
theorem kd_6_nounIn_31 : zdec md_6_nounIn 31 kb_6_nounIn_31 = true := by decide +kernel
def kb_6_nounIn_35 : List zI := [(.aload_n 0, 1, 0, 0), (.iload_n 3, 1, 0, 0), (.iconst 1, 1, 0, 0)]
theorem kd_6_nounIn_35 : zdec md_6_nounIn 35 kb_6_nounIn_35 = true := by decide +kernel
theorem kr_6_nounIn_38 : decode md_6_nounIn.2.1 38 = .ok (.invokevirtual 48, 3) := by decide +kernel
def kb_6_nounIn_41 : List zI := [(.ifCond .ne 26, 3, 67, 0)]
theorem kd_6_nounIn_41 : zdec md_6_nounIn 41 kb_6_nounIn_41 = true := by decide +kernel
def kb_6_nounIn_44 : List zI := [(.aload_n 0, 1, 0, 0), (.iload_n 3, 1, 0, 0), (.iconst 3, 1, 0, 0)]
theorem kd_6_nounIn_44 : zdec md_6_nounIn 44 kb_6_nounIn_44 = true := by decide +kernel
theorem kr_6_nounIn_47 : decode md_6_nounIn.2.1 47 = .ok (.invokevirtual 48, 3) := by decide +kernel
def kb_6_nounIn_50 : List zI := [(.bipush (-5), 2, 0, 0), (.if_icmp .eq 15, 3, 67, 0)]
theorem kd_6_nounIn_50 : zdec md_6_nounIn 50 kb_6_nounIn_50 = true := by decide +kernel
def kb_6_nounIn_55 : List zI := [(.aload_n 0, 1, 0, 0), (.aload_n 0, 1, 0, 0), (.iload_n 3, 1, 0, 0), (.iconst 3, 1, 0, 0)]
theorem kd_6_nounIn_55 : zdec md_6_nounIn 55 kb_6_nounIn_55 = true := by decide +kernel
theorem kr_6_nounIn_59 : decode md_6_nounIn.2.1 59 = .ok (.invokevirtual 48, 3) := by decide +kernel
def kb_6_nounIn_62 : List zI := [(.iconst 1, 1, 0, 0)]
theorem kd_6_nounIn_62 : zdec md_6_nounIn 62 kb_6_nounIn_62 = true := by decide +kernel
theorem kr_6_nounIn_63 : decode md_6_nounIn.2.1 63 = .ok (.invokevirtual 42, 3) := by decide +kernel
theorem kr_6_nounIn_66 : decode md_6_nounIn.2.1 66 = .ok (.ireturn, 1) := by decide +kernel
noncomputable def mm_nounIn_2 : Nat → zM → Int → Int → Int → Int
  | 0, μ, _, _, _ => 0
  | f + 1, μ, l1, l2, l3 => (if l3 < (μ 114 3) then (if l3 = l2 then (mm_nounIn_2 f μ l1 l2 (l3 + 1)) else (if (mm_isHoleAt μ l3) = 0 then (mm_nounIn_2 f μ l1 l2 (l3 + 1)) else (if (mm_ofItem μ l3 2) = l1 then (if (mm_ofItem μ l3 1) = 0 then (if (mm_ofItem μ l3 3) = (-5) then (mm_nounIn_2 f μ l1 l2 (l3 + 1)) else (mm_ofWord μ (mm_ofItem μ l3 3) 1)) else (mm_nounIn_2 f μ l1 l2 (l3 + 1))) else (mm_nounIn_2 f μ l1 l2 (l3 + 1))))) else (-5))
noncomputable def mm_nounIn (μ : zM) (a1 a2 : Int) : Int := (mm_nounIn_2 zN μ a1 a2 0)
set_option maxHeartbeats 4000000 in
set_option maxRecDepth 100000 in
theorem mr_nounIn_2 (f : Nat) (μ : zM) (hB : zB μ) (l1 : Int) (l2 : Int) (l3 : Int) (i0 : 0 ≤ l3 ∧ l3 ≤ (μ 114 3)) (i1 : -2147483648 ≤ l1 ∧ l1 ≤ 2147483647) (i2 : -2147483648 ≤ l2 ∧ l2 ≤ 2147483647) (hf : (μ 114 3) - l3 < (f : Int)) : ((mm_nounIn_2 f μ l1 l2 l3) = -5 ∨ (0 ≤ (mm_nounIn_2 f μ l1 l2 l3) ∧ (mm_nounIn_2 f μ l1 l2 l3) ≤ 2)) := by
  induction f generalizing μ l1 l2 l3 with
  | zero => exfalso; omega
  | succ f ih =>
    replace hf : (μ 114 3) - l3 < (f : Int) + 1 := by omega
    rw [mm_nounIn_2]
    have b2 : 0 ≤ (μ 114 3) ∧ (μ 114 3) ≤ 20 := hB 114 3
    by_cases c3 : l3 < (μ 114 3)
    · rw [if_pos c3]
      by_cases c4 : l3 = l2
      · rw [if_pos c4]
        have b5 : 0 ≤ (μ 114 3) ∧ (μ 114 3) ≤ 20 := hB 114 3
        exact ih μ hB l1 l2 (l3 + 1) (by omega) (by omega) (by omega) (by omega)
      · rw [if_neg c4]
        have r6 : 0 ≤ (mm_isHoleAt μ l3) ∧ (mm_isHoleAt μ l3) ≤ 1 := mr_isHoleAt hB l3 (by omega)
        by_cases c7 : (mm_isHoleAt μ l3) = 0
        · rw [if_pos c7]
          have b8 : 0 ≤ (μ 114 3) ∧ (μ 114 3) ≤ 20 := hB 114 3
          exact ih μ hB l1 l2 (l3 + 1) (by omega) (by omega) (by omega) (by omega)
        · rw [if_neg c7]
          have r9 : -5 ≤ (mm_ofItem μ l3 2) ∧ (mm_ofItem μ l3 2) ≤ 26 ∧ ((2 : Int) = 0 → 0 ≤ (mm_ofItem μ l3 2) ∧ (mm_ofItem μ l3 2) ≤ 1) ∧ ((2 : Int) = 1 → 0 ≤ (mm_ofItem μ l3 2) ∧ (mm_ofItem μ l3 2) ≤ 10) ∧ ((2 : Int) = 2 → 0 ≤ (mm_ofItem μ l3 2) ∧ (mm_ofItem μ l3 2) ≤ 9) ∧ ((2 : Int) = 3 → (mm_ofItem μ l3 2) = -5 ∨ (0 ≤ (mm_ofItem μ l3 2) ∧ (mm_ofItem μ l3 2) ≤ 23)) ∧ (3 < (2 : Int) → 0 ≤ (mm_ofItem μ l3 2)) := mr_ofItem hB l3 2 (by omega) (by omega)
          by_cases c10 : (mm_ofItem μ l3 2) = l1
          · rw [if_pos c10]
            have r12 : -5 ≤ (mm_ofItem μ l3 1) ∧ (mm_ofItem μ l3 1) ≤ 26 ∧ ((1 : Int) = 0 → 0 ≤ (mm_ofItem μ l3 1) ∧ (mm_ofItem μ l3 1) ≤ 1) ∧ ((1 : Int) = 1 → 0 ≤ (mm_ofItem μ l3 1) ∧ (mm_ofItem μ l3 1) ≤ 10) ∧ ((1 : Int) = 2 → 0 ≤ (mm_ofItem μ l3 1) ∧ (mm_ofItem μ l3 1) ≤ 9) ∧ ((1 : Int) = 3 → (mm_ofItem μ l3 1) = -5 ∨ (0 ≤ (mm_ofItem μ l3 1) ∧ (mm_ofItem μ l3 1) ≤ 23)) ∧ (3 < (1 : Int) → 0 ≤ (mm_ofItem μ l3 1)) := mr_ofItem hB l3 1 (by omega) (by omega)
            by_cases c13 : (mm_ofItem μ l3 1) = 0
            · rw [if_pos c13]
              have r15 : -5 ≤ (mm_ofItem μ l3 3) ∧ (mm_ofItem μ l3 3) ≤ 26 ∧ ((3 : Int) = 0 → 0 ≤ (mm_ofItem μ l3 3) ∧ (mm_ofItem μ l3 3) ≤ 1) ∧ ((3 : Int) = 1 → 0 ≤ (mm_ofItem μ l3 3) ∧ (mm_ofItem μ l3 3) ≤ 10) ∧ ((3 : Int) = 2 → 0 ≤ (mm_ofItem μ l3 3) ∧ (mm_ofItem μ l3 3) ≤ 9) ∧ ((3 : Int) = 3 → (mm_ofItem μ l3 3) = -5 ∨ (0 ≤ (mm_ofItem μ l3 3) ∧ (mm_ofItem μ l3 3) ≤ 23)) ∧ (3 < (3 : Int) → 0 ≤ (mm_ofItem μ l3 3)) := mr_ofItem hB l3 3 (by omega) (by omega)
              by_cases c16 : (mm_ofItem μ l3 3) = (-5)
              · rw [if_pos c16]
                have b17 : 0 ≤ (μ 114 3) ∧ (μ 114 3) ≤ 20 := hB 114 3
                exact ih μ hB l1 l2 (l3 + 1) (by omega) (by omega) (by omega) (by omega)
              · rw [if_neg c16]
                have r18 : -5 ≤ (mm_ofItem μ l3 3) ∧ (mm_ofItem μ l3 3) ≤ 26 ∧ ((3 : Int) = 0 → 0 ≤ (mm_ofItem μ l3 3) ∧ (mm_ofItem μ l3 3) ≤ 1) ∧ ((3 : Int) = 1 → 0 ≤ (mm_ofItem μ l3 3) ∧ (mm_ofItem μ l3 3) ≤ 10) ∧ ((3 : Int) = 2 → 0 ≤ (mm_ofItem μ l3 3) ∧ (mm_ofItem μ l3 3) ≤ 9) ∧ ((3 : Int) = 3 → (mm_ofItem μ l3 3) = -5 ∨ (0 ≤ (mm_ofItem μ l3 3) ∧ (mm_ofItem μ l3 3) ≤ 23)) ∧ (3 < (3 : Int) → 0 ≤ (mm_ofItem μ l3 3)) := mr_ofItem hB l3 3 (by omega) (by omega)
                have r19 : 0 ≤ (mm_ofWord μ (mm_ofItem μ l3 3) 1) ∧ (mm_ofWord μ (mm_ofItem μ l3 3) 1) ≤ 26 ∧ ((1 : Int) < 2 → (mm_ofWord μ (mm_ofItem μ l3 3) 1) ≤ 2) ∧ ((1 : Int) = 2 → (mm_ofWord μ (mm_ofItem μ l3 3) 1) ≤ 8) := mr_ofWord hB (mm_ofItem μ l3 3) 1 (by omega) (by omega)
                first | omega | (dsimp only; omega)
            · rw [if_neg c13]
              have b14 : 0 ≤ (μ 114 3) ∧ (μ 114 3) ≤ 20 := hB 114 3
              exact ih μ hB l1 l2 (l3 + 1) (by omega) (by omega) (by omega) (by omega)
          · rw [if_neg c10]
            have b11 : 0 ≤ (μ 114 3) ∧ (μ 114 3) ≤ 20 := hB 114 3
            exact ih μ hB l1 l2 (l3 + 1) (by omega) (by omega) (by omega) (by omega)
    · rw [if_neg c3]
      first | omega | (dsimp only; omega)
set_option maxHeartbeats 4000000 in
set_option maxRecDepth 100000 in
theorem mr_nounIn {μ : zM} (hB : zB μ) (a1 a2 : Int) (h0 : -2147483648 ≤ a1 ∧ a1 ≤ 2147483647) (h1 : -2147483648 ≤ a2 ∧ a2 ≤ 2147483647) : ((mm_nounIn μ a1 a2) = -5 ∨ (0 ≤ (mm_nounIn μ a1 a2) ∧ (mm_nounIn μ a1 a2) ≤ 2)) := by
  unfold mm_nounIn
  have b1 : 0 ≤ (μ 114 3) ∧ (μ 114 3) ≤ 20 := hB 114 3
  have fb : (3000 : Int) ≤ ((zN : Nat) : Int) := zN_big
  exact mr_nounIn_2 zN μ hB a1 a2 0 (by omega) (by omega) (by omega) (by omega)
set_option maxHeartbeats 4000000 in
set_option maxRecDepth 100000 in
theorem mz_nounIn_2 (f : Nat) (μ : zM) (hB : zB μ) (l1 : Int) (l2 : Int) (l3 : Int) (i0 : 0 ≤ l3 ∧ l3 ≤ (μ 114 3)) (i1 : -2147483648 ≤ l1 ∧ l1 ≤ 2147483647) (i2 : -2147483648 ≤ l2 ∧ l2 ≤ 2147483647) (hf : (μ 114 3) - l3 < (f : Int)) : Ez md_6_nounIn 0 0 2 [(0, zr 113), (1, zi l1), (2, zi l2), (3, zi l3)] [] zSh μ (some (zi (mm_nounIn_2 f μ l1 l2 l3))) zSh μ := by
  induction f generalizing μ l1 l2 l3 with
  | zero => exfalso; omega
  | succ f ih =>
    replace hf : (μ 114 3) - l3 < (f : Int) + 1 := by omega
    rw [mm_nounIn_2]
    have b2 : 0 ≤ (μ 114 3) ∧ (μ 114 3) ≤ 20 := hB 114 3
    refine Az.blk kd_6_nounIn_2 (show (0 ≤ 3 ∧ 3 < 604) ∧ zR l3 ∧ zR (μ 114 3) ∧ ((¬ l3 < (μ 114 3) → Ez md_6_nounIn 0 0 73 [(0, zr 113), (1, zi l1), (2, zi l2), (3, zi l3)] [] zSh μ _ _ _) ∧ (l3 < (μ 114 3) → Ez md_6_nounIn 0 0 12 [(0, zr 113), (1, zi l1), (2, zi l2), (3, zi l3)] [] zSh μ _ _ _)) from ⟨(by omega), (by omega), (by omega), fun c3 => ?_, fun c3 => ?_⟩)
    · rw [if_neg c3]
      refine Az.blk kd_6_nounIn_73 (show Ez md_6_nounIn 0 0 75 [(0, zr 113), (1, zi l1), (2, zi l2), (3, zi l3)] [zi (-5)] zSh μ _ _ _ from ?_)
      exact Ez.iret kr_6_nounIn_75 rfl (Nat.zero_le _) (Nat.zero_le _) rfl rfl
    · rw [if_pos c3]
      refine Az.blk kd_6_nounIn_12 (show zR l3 ∧ zR l2 ∧ ((l3 = l2 → Ez md_6_nounIn 0 0 67 [(0, zr 113), (1, zi l1), (2, zi l2), (3, zi l3)] [] zSh μ _ _ _) ∧ (¬ l3 = l2 → Ez md_6_nounIn 0 0 17 [(0, zr 113), (1, zi l1), (2, zi l2), (3, zi l3)] [] zSh μ _ _ _)) from ⟨(by omega), (by omega), fun c4 => ?_, fun c4 => ?_⟩)
      · rw [if_pos c4]
        refine Az.blk kd_6_nounIn_67 (show Ez md_6_nounIn 0 0 2 [(3, zi (l3 + 1)), (0, zr 113), (1, zi l1), (2, zi l2)] [] zSh μ _ _ _ from ?_)
        have b5 : 0 ≤ (μ 114 3) ∧ (μ 114 3) ≤ 20 := hB 114 3
        refine Az.lvs (lv' := [(0, zr 113), (1, zi l1), (2, zi l2), (3, zi (l3 + 1))]) ?_ ?_
        · intro q hq; simp only [List.mem_cons, List.not_mem_nil, or_false] at hq; rcases hq with rfl | rfl | rfl | rfl <;> rfl
        exact ih μ hB l1 l2 (l3 + 1) (by omega) (by omega) (by omega) (by omega)
      · rw [if_neg c4]
        refine Az.blk kd_6_nounIn_17 (show Ez md_6_nounIn 0 0 19 [(0, zr 113), (1, zi l1), (2, zi l2), (3, zi l3)] [zi l3, zr 113] zSh μ _ _ _ from ?_)
        refine Az.cV (mc := md_6_isHoleAt) (k := 113) (n := 1) (As := [zi l3]) (rest := []) kr_6_nounIn_19 zw_678 ok_6_isHoleAt rfl rfl rfl trivial (mz_isHoleAt hB l3 (by omega)) rfl rfl (show Ez md_6_nounIn 0 0 22 [(0, zr 113), (1, zi l1), (2, zi l2), (3, zi l3)] [zi (mm_isHoleAt μ l3)] zSh μ _ _ _ from ?_)
        have r6 : 0 ≤ (mm_isHoleAt μ l3) ∧ (mm_isHoleAt μ l3) ≤ 1 := mr_isHoleAt hB l3 (by omega)
        refine Az.blk kd_6_nounIn_22 (show zR (mm_isHoleAt μ l3) ∧ (((mm_isHoleAt μ l3) = 0 → Ez md_6_nounIn 0 0 67 [(0, zr 113), (1, zi l1), (2, zi l2), (3, zi l3)] [] zSh μ _ _ _) ∧ (¬ (mm_isHoleAt μ l3) = 0 → Ez md_6_nounIn 0 0 25 [(0, zr 113), (1, zi l1), (2, zi l2), (3, zi l3)] [] zSh μ _ _ _)) from ⟨(by omega), fun c7 => ?_, fun c7 => ?_⟩)
        · rw [if_pos c7]
          refine Az.blk kd_6_nounIn_67 (show Ez md_6_nounIn 0 0 2 [(3, zi (l3 + 1)), (0, zr 113), (1, zi l1), (2, zi l2)] [] zSh μ _ _ _ from ?_)
          have b8 : 0 ≤ (μ 114 3) ∧ (μ 114 3) ≤ 20 := hB 114 3
          refine Az.lvs (lv' := [(0, zr 113), (1, zi l1), (2, zi l2), (3, zi (l3 + 1))]) ?_ ?_
          · intro q hq; simp only [List.mem_cons, List.not_mem_nil, or_false] at hq; rcases hq with rfl | rfl | rfl | rfl <;> rfl
          exact ih μ hB l1 l2 (l3 + 1) (by omega) (by omega) (by omega) (by omega)
        · rw [if_neg c7]
          refine Az.blk kd_6_nounIn_25 (show Ez md_6_nounIn 0 0 28 [(0, zr 113), (1, zi l1), (2, zi l2), (3, zi l3)] [zi 2, zi l3, zr 113] zSh μ _ _ _ from ?_)
          refine Az.cV (mc := md_6_ofItem) (k := 113) (n := 2) (As := [zi l3, zi 2]) (rest := []) kr_6_nounIn_28 zw_682 ok_6_ofItem rfl rfl rfl trivial (mz_ofItem hB l3 2 (by omega) (by omega)) rfl rfl (show Ez md_6_nounIn 0 0 31 [(0, zr 113), (1, zi l1), (2, zi l2), (3, zi l3)] [zi (mm_ofItem μ l3 2)] zSh μ _ _ _ from ?_)
          have r9 : -5 ≤ (mm_ofItem μ l3 2) ∧ (mm_ofItem μ l3 2) ≤ 26 ∧ ((2 : Int) = 0 → 0 ≤ (mm_ofItem μ l3 2) ∧ (mm_ofItem μ l3 2) ≤ 1) ∧ ((2 : Int) = 1 → 0 ≤ (mm_ofItem μ l3 2) ∧ (mm_ofItem μ l3 2) ≤ 10) ∧ ((2 : Int) = 2 → 0 ≤ (mm_ofItem μ l3 2) ∧ (mm_ofItem μ l3 2) ≤ 9) ∧ ((2 : Int) = 3 → (mm_ofItem μ l3 2) = -5 ∨ (0 ≤ (mm_ofItem μ l3 2) ∧ (mm_ofItem μ l3 2) ≤ 23)) ∧ (3 < (2 : Int) → 0 ≤ (mm_ofItem μ l3 2)) := mr_ofItem hB l3 2 (by omega) (by omega)
          refine Az.blk kd_6_nounIn_31 (show zR (mm_ofItem μ l3 2) ∧ zR l1 ∧ ((¬ (mm_ofItem μ l3 2) = l1 → Ez md_6_nounIn 0 0 67 [(0, zr 113), (1, zi l1), (2, zi l2), (3, zi l3)] [] zSh μ _ _ _) ∧ ((mm_ofItem μ l3 2) = l1 → Ez md_6_nounIn 0 0 35 [(0, zr 113), (1, zi l1), (2, zi l2), (3, zi l3)] [] zSh μ _ _ _)) from ⟨(by omega), (by omega), fun c10 => ?_, fun c10 => ?_⟩)
          · rw [if_neg c10]
            refine Az.blk kd_6_nounIn_67 (show Ez md_6_nounIn 0 0 2 [(3, zi (l3 + 1)), (0, zr 113), (1, zi l1), (2, zi l2)] [] zSh μ _ _ _ from ?_)
            have b11 : 0 ≤ (μ 114 3) ∧ (μ 114 3) ≤ 20 := hB 114 3
            refine Az.lvs (lv' := [(0, zr 113), (1, zi l1), (2, zi l2), (3, zi (l3 + 1))]) ?_ ?_
            · intro q hq; simp only [List.mem_cons, List.not_mem_nil, or_false] at hq; rcases hq with rfl | rfl | rfl | rfl <;> rfl
            exact ih μ hB l1 l2 (l3 + 1) (by omega) (by omega) (by omega) (by omega)
          · rw [if_pos c10]
            refine Az.blk kd_6_nounIn_35 (show Ez md_6_nounIn 0 0 38 [(0, zr 113), (1, zi l1), (2, zi l2), (3, zi l3)] [zi 1, zi l3, zr 113] zSh μ _ _ _ from ?_)
            refine Az.cV (mc := md_6_ofItem) (k := 113) (n := 2) (As := [zi l3, zi 1]) (rest := []) kr_6_nounIn_38 zw_682 ok_6_ofItem rfl rfl rfl trivial (mz_ofItem hB l3 1 (by omega) (by omega)) rfl rfl (show Ez md_6_nounIn 0 0 41 [(0, zr 113), (1, zi l1), (2, zi l2), (3, zi l3)] [zi (mm_ofItem μ l3 1)] zSh μ _ _ _ from ?_)
            have r12 : -5 ≤ (mm_ofItem μ l3 1) ∧ (mm_ofItem μ l3 1) ≤ 26 ∧ ((1 : Int) = 0 → 0 ≤ (mm_ofItem μ l3 1) ∧ (mm_ofItem μ l3 1) ≤ 1) ∧ ((1 : Int) = 1 → 0 ≤ (mm_ofItem μ l3 1) ∧ (mm_ofItem μ l3 1) ≤ 10) ∧ ((1 : Int) = 2 → 0 ≤ (mm_ofItem μ l3 1) ∧ (mm_ofItem μ l3 1) ≤ 9) ∧ ((1 : Int) = 3 → (mm_ofItem μ l3 1) = -5 ∨ (0 ≤ (mm_ofItem μ l3 1) ∧ (mm_ofItem μ l3 1) ≤ 23)) ∧ (3 < (1 : Int) → 0 ≤ (mm_ofItem μ l3 1)) := mr_ofItem hB l3 1 (by omega) (by omega)
            refine Az.blk kd_6_nounIn_41 (show zR (mm_ofItem μ l3 1) ∧ ((¬ (mm_ofItem μ l3 1) = 0 → Ez md_6_nounIn 0 0 67 [(0, zr 113), (1, zi l1), (2, zi l2), (3, zi l3)] [] zSh μ _ _ _) ∧ ((mm_ofItem μ l3 1) = 0 → Ez md_6_nounIn 0 0 44 [(0, zr 113), (1, zi l1), (2, zi l2), (3, zi l3)] [] zSh μ _ _ _)) from ⟨(by omega), fun c13 => ?_, fun c13 => ?_⟩)
            · rw [if_neg c13]
              refine Az.blk kd_6_nounIn_67 (show Ez md_6_nounIn 0 0 2 [(3, zi (l3 + 1)), (0, zr 113), (1, zi l1), (2, zi l2)] [] zSh μ _ _ _ from ?_)
              have b14 : 0 ≤ (μ 114 3) ∧ (μ 114 3) ≤ 20 := hB 114 3
              refine Az.lvs (lv' := [(0, zr 113), (1, zi l1), (2, zi l2), (3, zi (l3 + 1))]) ?_ ?_
              · intro q hq; simp only [List.mem_cons, List.not_mem_nil, or_false] at hq; rcases hq with rfl | rfl | rfl | rfl <;> rfl
              exact ih μ hB l1 l2 (l3 + 1) (by omega) (by omega) (by omega) (by omega)
            · rw [if_pos c13]
              refine Az.blk kd_6_nounIn_44 (show Ez md_6_nounIn 0 0 47 [(0, zr 113), (1, zi l1), (2, zi l2), (3, zi l3)] [zi 3, zi l3, zr 113] zSh μ _ _ _ from ?_)
              refine Az.cV (mc := md_6_ofItem) (k := 113) (n := 2) (As := [zi l3, zi 3]) (rest := []) kr_6_nounIn_47 zw_682 ok_6_ofItem rfl rfl rfl trivial (mz_ofItem hB l3 3 (by omega) (by omega)) rfl rfl (show Ez md_6_nounIn 0 0 50 [(0, zr 113), (1, zi l1), (2, zi l2), (3, zi l3)] [zi (mm_ofItem μ l3 3)] zSh μ _ _ _ from ?_)
              have r15 : -5 ≤ (mm_ofItem μ l3 3) ∧ (mm_ofItem μ l3 3) ≤ 26 ∧ ((3 : Int) = 0 → 0 ≤ (mm_ofItem μ l3 3) ∧ (mm_ofItem μ l3 3) ≤ 1) ∧ ((3 : Int) = 1 → 0 ≤ (mm_ofItem μ l3 3) ∧ (mm_ofItem μ l3 3) ≤ 10) ∧ ((3 : Int) = 2 → 0 ≤ (mm_ofItem μ l3 3) ∧ (mm_ofItem μ l3 3) ≤ 9) ∧ ((3 : Int) = 3 → (mm_ofItem μ l3 3) = -5 ∨ (0 ≤ (mm_ofItem μ l3 3) ∧ (mm_ofItem μ l3 3) ≤ 23)) ∧ (3 < (3 : Int) → 0 ≤ (mm_ofItem μ l3 3)) := mr_ofItem hB l3 3 (by omega) (by omega)
              refine Az.blk kd_6_nounIn_50 (show zR (mm_ofItem μ l3 3) ∧ zR (-5) ∧ (((mm_ofItem μ l3 3) = (-5) → Ez md_6_nounIn 0 0 67 [(0, zr 113), (1, zi l1), (2, zi l2), (3, zi l3)] [] zSh μ _ _ _) ∧ (¬ (mm_ofItem μ l3 3) = (-5) → Ez md_6_nounIn 0 0 55 [(0, zr 113), (1, zi l1), (2, zi l2), (3, zi l3)] [] zSh μ _ _ _)) from ⟨(by omega), (by omega), fun c16 => ?_, fun c16 => ?_⟩)
              · rw [if_pos c16]
                refine Az.blk kd_6_nounIn_67 (show Ez md_6_nounIn 0 0 2 [(3, zi (l3 + 1)), (0, zr 113), (1, zi l1), (2, zi l2)] [] zSh μ _ _ _ from ?_)
                have b17 : 0 ≤ (μ 114 3) ∧ (μ 114 3) ≤ 20 := hB 114 3
                refine Az.lvs (lv' := [(0, zr 113), (1, zi l1), (2, zi l2), (3, zi (l3 + 1))]) ?_ ?_
                · intro q hq; simp only [List.mem_cons, List.not_mem_nil, or_false] at hq; rcases hq with rfl | rfl | rfl | rfl <;> rfl
                exact ih μ hB l1 l2 (l3 + 1) (by omega) (by omega) (by omega) (by omega)
              · rw [if_neg c16]
                refine Az.blk kd_6_nounIn_55 (show Ez md_6_nounIn 0 0 59 [(0, zr 113), (1, zi l1), (2, zi l2), (3, zi l3)] [zi 3, zi l3, zr 113, zr 113] zSh μ _ _ _ from ?_)
                refine Az.cV (mc := md_6_ofItem) (k := 113) (n := 2) (As := [zi l3, zi 3]) (rest := [zr 113]) kr_6_nounIn_59 zw_682 ok_6_ofItem rfl rfl rfl trivial (mz_ofItem hB l3 3 (by omega) (by omega)) rfl rfl (show Ez md_6_nounIn 0 0 62 [(0, zr 113), (1, zi l1), (2, zi l2), (3, zi l3)] [zi (mm_ofItem μ l3 3), zr 113] zSh μ _ _ _ from ?_)
                have r18 : -5 ≤ (mm_ofItem μ l3 3) ∧ (mm_ofItem μ l3 3) ≤ 26 ∧ ((3 : Int) = 0 → 0 ≤ (mm_ofItem μ l3 3) ∧ (mm_ofItem μ l3 3) ≤ 1) ∧ ((3 : Int) = 1 → 0 ≤ (mm_ofItem μ l3 3) ∧ (mm_ofItem μ l3 3) ≤ 10) ∧ ((3 : Int) = 2 → 0 ≤ (mm_ofItem μ l3 3) ∧ (mm_ofItem μ l3 3) ≤ 9) ∧ ((3 : Int) = 3 → (mm_ofItem μ l3 3) = -5 ∨ (0 ≤ (mm_ofItem μ l3 3) ∧ (mm_ofItem μ l3 3) ≤ 23)) ∧ (3 < (3 : Int) → 0 ≤ (mm_ofItem μ l3 3)) := mr_ofItem hB l3 3 (by omega) (by omega)
                refine Az.blk kd_6_nounIn_62 (show Ez md_6_nounIn 0 0 63 [(0, zr 113), (1, zi l1), (2, zi l2), (3, zi l3)] [zi 1, zi (mm_ofItem μ l3 3), zr 113] zSh μ _ _ _ from ?_)
                refine Az.cV (mc := md_6_ofWord) (k := 113) (n := 2) (As := [zi (mm_ofItem μ l3 3), zi 1]) (rest := []) kr_6_nounIn_63 zw_722 ok_6_ofWord rfl rfl rfl trivial (mz_ofWord hB (mm_ofItem μ l3 3) 1 (by omega) (by omega)) rfl rfl (show Ez md_6_nounIn 0 0 66 [(0, zr 113), (1, zi l1), (2, zi l2), (3, zi l3)] [zi (mm_ofWord μ (mm_ofItem μ l3 3) 1)] zSh μ _ _ _ from ?_)
                have r19 : 0 ≤ (mm_ofWord μ (mm_ofItem μ l3 3) 1) ∧ (mm_ofWord μ (mm_ofItem μ l3 3) 1) ≤ 26 ∧ ((1 : Int) < 2 → (mm_ofWord μ (mm_ofItem μ l3 3) 1) ≤ 2) ∧ ((1 : Int) = 2 → (mm_ofWord μ (mm_ofItem μ l3 3) 1) ≤ 8) := mr_ofWord hB (mm_ofItem μ l3 3) 1 (by omega) (by omega)
                exact Ez.iret kr_6_nounIn_66 rfl (Nat.zero_le _) (Nat.zero_le _) rfl rfl
set_option maxHeartbeats 4000000 in
set_option maxRecDepth 100000 in
theorem mz_nounIn {μ : zM} (hB : zB μ) (a1 a2 : Int) (h0 : -2147483648 ≤ a1 ∧ a1 ≤ 2147483647) (h1 : -2147483648 ≤ a2 ∧ a2 ≤ 2147483647) : Dz md_6_nounIn [zr 113, zi a1, zi a2] zSh μ (some (zi (mm_nounIn μ a1 a2))) zSh μ := by
  refine Dz.of (by decide) rfl rfl (show Ez md_6_nounIn 0 0 0 [(0, zr 113), (1, zi a1), (2, zi a2)] [] zSh μ (some (zi (mm_nounIn μ a1 a2))) zSh μ from ?_)
  unfold mm_nounIn
  refine Az.blk kd_6_nounIn_0 (show Ez md_6_nounIn 0 0 2 [(3, zi 0), (0, zr 113), (1, zi a1), (2, zi a2)] [] zSh μ _ _ _ from ?_)
  have b1 : 0 ≤ (μ 114 3) ∧ (μ 114 3) ≤ 20 := hB 114 3
  refine Az.lvs (lv' := [(0, zr 113), (1, zi a1), (2, zi a2), (3, zi 0)]) ?_ ?_
  · intro q hq; simp only [List.mem_cons, List.not_mem_nil, or_false] at hq; rcases hq with rfl | rfl | rfl | rfl <;> rfl
  have fb : (3000 : Int) ≤ ((zN : Nat) : Int) := zN_big
  exact mz_nounIn_2 zN μ hB a1 a2 0 (by omega) (by omega) (by omega) (by omega)
def kb_6_genderOf_0 : List zI := [(.aload_n 0, 1, 0, 0), (.iload_n 1, 1, 0, 0), (.bipush (-5), 2, 0, 0)]
theorem kd_6_genderOf_0 : zdec md_6_genderOf 0 kb_6_genderOf_0 = true := by decide +kernel
theorem kr_6_genderOf_4 : decode md_6_genderOf.2.1 4 = .ok (.invokevirtual 59, 3) := by decide +kernel
def kb_6_genderOf_7 : List zI := [(.istore_n 2, 1, 0, 0), (.iload_n 2, 1, 0, 0), (.bipush (-5), 2, 0, 0), (.if_icmp .ne 7, 3, 18, 0)]
theorem kd_6_genderOf_7 : zdec md_6_genderOf 7 kb_6_genderOf_7 = true := by decide +kernel
def kb_6_genderOf_18 : List zI := [(.iload_n 2, 1, 0, 0)]
theorem kd_6_genderOf_18 : zdec md_6_genderOf 18 kb_6_genderOf_18 = true := by decide +kernel
theorem kr_6_genderOf_19 : decode md_6_genderOf.2.1 19 = .ok (.ireturn, 1) := by decide +kernel
def kb_6_genderOf_14 : List zI := [(.iconst 0, 1, 0, 0), (.goto 4, 3, 19, 0)]
theorem kd_6_genderOf_14 : zdec md_6_genderOf 14 kb_6_genderOf_14 = true := by decide +kernel
noncomputable def mm_genderOf (μ : zM) (a1 : Int) : Int := (if (mm_nounIn μ a1 (-5)) = (-5) then 0 else (mm_nounIn μ a1 (-5)))
set_option maxHeartbeats 4000000 in
set_option maxRecDepth 100000 in
theorem mr_genderOf {μ : zM} (hB : zB μ) (a1 : Int) (h0 : -2147483648 ≤ a1 ∧ a1 ≤ 2147483647) : 0 ≤ (mm_genderOf μ a1) ∧ (mm_genderOf μ a1) ≤ 2 := by
  unfold mm_genderOf
  have r1 : ((mm_nounIn μ a1 (-5)) = -5 ∨ (0 ≤ (mm_nounIn μ a1 (-5)) ∧ (mm_nounIn μ a1 (-5)) ≤ 2)) := mr_nounIn hB a1 (-5) (by omega) (by omega)
  by_cases c2 : (mm_nounIn μ a1 (-5)) = (-5)
  · rw [if_pos c2]
    first | omega | (dsimp only; omega)
  · rw [if_neg c2]
    first | omega | (dsimp only; omega)
set_option maxHeartbeats 4000000 in
set_option maxRecDepth 100000 in
theorem mz_genderOf {μ : zM} (hB : zB μ) (a1 : Int) (h0 : -2147483648 ≤ a1 ∧ a1 ≤ 2147483647) : Dz md_6_genderOf [zr 113, zi a1] zSh μ (some (zi (mm_genderOf μ a1))) zSh μ := by
  refine Dz.of (by decide) rfl rfl (show Ez md_6_genderOf 0 0 0 [(0, zr 113), (1, zi a1)] [] zSh μ (some (zi (mm_genderOf μ a1))) zSh μ from ?_)
  unfold mm_genderOf
  refine Az.blk kd_6_genderOf_0 (show Ez md_6_genderOf 0 0 4 [(0, zr 113), (1, zi a1)] [zi (-5), zi a1, zr 113] zSh μ _ _ _ from ?_)
  refine Az.cV (mc := md_6_nounIn) (k := 113) (n := 2) (As := [zi a1, zi (-5)]) (rest := []) kr_6_genderOf_4 zw_726 ok_6_nounIn rfl rfl rfl trivial (mz_nounIn hB a1 (-5) (by omega) (by omega)) rfl rfl (show Ez md_6_genderOf 0 0 7 [(0, zr 113), (1, zi a1)] [zi (mm_nounIn μ a1 (-5))] zSh μ _ _ _ from ?_)
  have r1 : ((mm_nounIn μ a1 (-5)) = -5 ∨ (0 ≤ (mm_nounIn μ a1 (-5)) ∧ (mm_nounIn μ a1 (-5)) ≤ 2)) := mr_nounIn hB a1 (-5) (by omega) (by omega)
  refine Az.blk kd_6_genderOf_7 (show zR (mm_nounIn μ a1 (-5)) ∧ zR (-5) ∧ ((¬ (mm_nounIn μ a1 (-5)) = (-5) → Ez md_6_genderOf 0 0 18 [(2, zi (mm_nounIn μ a1 (-5))), (0, zr 113), (1, zi a1)] [] zSh μ _ _ _) ∧ ((mm_nounIn μ a1 (-5)) = (-5) → Ez md_6_genderOf 0 0 14 [(2, zi (mm_nounIn μ a1 (-5))), (0, zr 113), (1, zi a1)] [] zSh μ _ _ _)) from ⟨(by omega), (by omega), fun c2 => ?_, fun c2 => ?_⟩)
  · rw [if_neg c2]
    refine Az.blk kd_6_genderOf_18 (show Ez md_6_genderOf 0 0 19 [(2, zi (mm_nounIn μ a1 (-5))), (0, zr 113), (1, zi a1)] [zi (mm_nounIn μ a1 (-5))] zSh μ _ _ _ from ?_)
    exact Ez.iret kr_6_genderOf_19 rfl (Nat.zero_le _) (Nat.zero_le _) rfl rfl
  · rw [if_pos c2]
    refine Az.blk kd_6_genderOf_14 (show Ez md_6_genderOf 0 0 19 [(2, zi (mm_nounIn μ a1 (-5))), (0, zr 113), (1, zi a1)] [zi 0] zSh μ _ _ _ from ?_)
    exact Ez.iret kr_6_genderOf_19 rfl (Nat.zero_le _) (Nat.zero_le _) rfl rfl
def kb_6_form_0 : List zI := [(.iload_n 1, 1, 0, 0), (.ifCond .ne 11, 3, 12, 0)]
theorem kd_6_form_0 : zdec md_6_form 0 kb_6_form_0 = true := by decide +kernel
def kb_6_form_12 : List zI := [(.iconst 3, 1, 0, 0), (.aload_n 0, 1, 0, 0), (.iload_n 2, 1, 0, 0)]
theorem kd_6_form_12 : zdec md_6_form 12 kb_6_form_12 = true := by decide +kernel
theorem kr_6_form_15 : decode md_6_form.2.1 15 = .ok (.invokevirtual 62, 3) := by decide +kernel
def kb_6_form_18 : List zI := [(.imul, 1, 0, 0), (.iload_n 1, 1, 0, 0), (.iconst 1, 1, 0, 0), (.if_icmp .ne 11, 3, 32, 0)]
theorem kd_6_form_18 : zdec md_6_form 18 kb_6_form_18 = true := by decide +kernel
def kb_6_form_32 : List zI := [(.iload_n 3, 1, 0, 0), (.iadd, 1, 0, 0)]
theorem kd_6_form_32 : zdec md_6_form 32 kb_6_form_32 = true := by decide +kernel
theorem kr_6_form_34 : decode md_6_form.2.1 34 = .ok (.ireturn, 1) := by decide +kernel
def kb_6_form_24 : List zI := [(.aload_n 0, 1, 0, 0), (.iload_n 2, 1, 0, 0)]
theorem kd_6_form_24 : zdec md_6_form 24 kb_6_form_24 = true := by decide +kernel
theorem kr_6_form_26 : decode md_6_form.2.1 26 = .ok (.invokevirtual 65, 3) := by decide +kernel
def kb_6_form_29 : List zI := [(.goto 4, 3, 33, 0)]
theorem kd_6_form_29 : zdec md_6_form 29 kb_6_form_29 = true := by decide +kernel
def kb_6_form_33 : List zI := [(.iadd, 1, 0, 0)]
theorem kd_6_form_33 : zdec md_6_form 33 kb_6_form_33 = true := by decide +kernel
def kb_6_form_4 : List zI := [(.aload_n 0, 1, 0, 0), (.iload_n 2, 1, 0, 0)]
theorem kd_6_form_4 : zdec md_6_form 4 kb_6_form_4 = true := by decide +kernel
theorem kr_6_form_6 : decode md_6_form.2.1 6 = .ok (.invokevirtual 62, 3) := by decide +kernel
def kb_6_form_9 : List zI := [(.goto 25, 3, 34, 0)]
theorem kd_6_form_9 : zdec md_6_form 9 kb_6_form_9 = true := by decide +kernel
noncomputable def mm_form (μ : zM) (a1 a2 a3 : Int) : Int := (if a1 = 0 then (mm_numberOf μ a2) else (if a1 = 1 then ((3 * (mm_numberOf μ a2)) + (mm_tenseOf μ a2)) else ((3 * (mm_numberOf μ a2)) + a3)))
set_option maxHeartbeats 4000000 in
set_option maxRecDepth 100000 in
theorem mr_form {μ : zM} (hB : zB μ) (a1 a2 a3 : Int) (h0 : -2147483648 ≤ a1 ∧ a1 ≤ 2147483647) (h1 : 0 ≤ a2 ∧ a2 ≤ 9) (h2 : 0 ≤ a3 ∧ a3 ≤ 2) : 0 ≤ (mm_form μ a1 a2 a3) ∧ (mm_form μ a1 a2 a3) ≤ 5 := by
  unfold mm_form
  by_cases c1 : a1 = 0
  · rw [if_pos c1]
    have r5 : 0 ≤ (mm_numberOf μ a2) ∧ (mm_numberOf μ a2) ≤ 1 := mr_numberOf hB a2 (by omega)
    first | omega | (dsimp only; omega)
  · rw [if_neg c1]
    have r2 : 0 ≤ (mm_numberOf μ a2) ∧ (mm_numberOf μ a2) ≤ 1 := mr_numberOf hB a2 (by omega)
    by_cases c3 : a1 = 1
    · rw [if_pos c3]
      have r4 : 0 ≤ (mm_tenseOf μ a2) ∧ (mm_tenseOf μ a2) ≤ 2 := mr_tenseOf hB a2 (by omega)
      first | omega | (dsimp only; omega)
    · rw [if_neg c3]
      first | omega | (dsimp only; omega)
set_option maxHeartbeats 4000000 in
set_option maxRecDepth 100000 in
theorem mz_form {μ : zM} (hB : zB μ) (a1 a2 a3 : Int) (h0 : -2147483648 ≤ a1 ∧ a1 ≤ 2147483647) (h1 : 0 ≤ a2 ∧ a2 ≤ 9) (h2 : 0 ≤ a3 ∧ a3 ≤ 2) : Dz md_6_form [zr 113, zi a1, zi a2, zi a3] zSh μ (some (zi (mm_form μ a1 a2 a3))) zSh μ := by
  refine Dz.of (by decide) rfl rfl (show Ez md_6_form 0 0 0 [(0, zr 113), (1, zi a1), (2, zi a2), (3, zi a3)] [] zSh μ (some (zi (mm_form μ a1 a2 a3))) zSh μ from ?_)
  unfold mm_form
  refine Az.blk kd_6_form_0 (show zR a1 ∧ ((¬ a1 = 0 → Ez md_6_form 0 0 12 [(0, zr 113), (1, zi a1), (2, zi a2), (3, zi a3)] [] zSh μ _ _ _) ∧ (a1 = 0 → Ez md_6_form 0 0 4 [(0, zr 113), (1, zi a1), (2, zi a2), (3, zi a3)] [] zSh μ _ _ _)) from ⟨(by omega), fun c1 => ?_, fun c1 => ?_⟩)
  · rw [if_neg c1]
    refine Az.blk kd_6_form_12 (show Ez md_6_form 0 0 15 [(0, zr 113), (1, zi a1), (2, zi a2), (3, zi a3)] [zi a2, zr 113, zi 3] zSh μ _ _ _ from ?_)
    refine Az.cV (mc := md_6_numberOf) (k := 113) (n := 1) (As := [zi a2]) (rest := [zi 3]) kr_6_form_15 zw_694 ok_6_numberOf rfl rfl rfl trivial (mz_numberOf hB a2 (by omega)) rfl rfl (show Ez md_6_form 0 0 18 [(0, zr 113), (1, zi a1), (2, zi a2), (3, zi a3)] [zi (mm_numberOf μ a2), zi 3] zSh μ _ _ _ from ?_)
    have r2 : 0 ≤ (mm_numberOf μ a2) ∧ (mm_numberOf μ a2) ≤ 1 := mr_numberOf hB a2 (by omega)
    refine Az.blk kd_6_form_18 (show zR a1 ∧ zR 1 ∧ ((¬ a1 = 1 → Ez md_6_form 0 0 32 [(0, zr 113), (1, zi a1), (2, zi a2), (3, zi a3)] [zi (3 * (mm_numberOf μ a2))] zSh μ _ _ _) ∧ (a1 = 1 → Ez md_6_form 0 0 24 [(0, zr 113), (1, zi a1), (2, zi a2), (3, zi a3)] [zi (3 * (mm_numberOf μ a2))] zSh μ _ _ _)) from ⟨(by omega), (by omega), fun c3 => ?_, fun c3 => ?_⟩)
    · rw [if_neg c3]
      refine Az.blk kd_6_form_32 (show Ez md_6_form 0 0 34 [(0, zr 113), (1, zi a1), (2, zi a2), (3, zi a3)] [zi ((3 * (mm_numberOf μ a2)) + a3)] zSh μ _ _ _ from ?_)
      exact Ez.iret kr_6_form_34 rfl (Nat.zero_le _) (Nat.zero_le _) rfl rfl
    · rw [if_pos c3]
      refine Az.blk kd_6_form_24 (show Ez md_6_form 0 0 26 [(0, zr 113), (1, zi a1), (2, zi a2), (3, zi a3)] [zi a2, zr 113, zi (3 * (mm_numberOf μ a2))] zSh μ _ _ _ from ?_)
      refine Az.cV (mc := md_6_tenseOf) (k := 113) (n := 1) (As := [zi a2]) (rest := [zi (3 * (mm_numberOf μ a2))]) kr_6_form_26 zw_698 ok_6_tenseOf rfl rfl rfl trivial (mz_tenseOf hB a2 (by omega)) rfl rfl (show Ez md_6_form 0 0 29 [(0, zr 113), (1, zi a1), (2, zi a2), (3, zi a3)] [zi (mm_tenseOf μ a2), zi (3 * (mm_numberOf μ a2))] zSh μ _ _ _ from ?_)
      have r4 : 0 ≤ (mm_tenseOf μ a2) ∧ (mm_tenseOf μ a2) ≤ 2 := mr_tenseOf hB a2 (by omega)
      refine Az.blk kd_6_form_29 (show Ez md_6_form 0 0 33 [(0, zr 113), (1, zi a1), (2, zi a2), (3, zi a3)] [zi (mm_tenseOf μ a2), zi (3 * (mm_numberOf μ a2))] zSh μ _ _ _ from ?_)
      refine Az.blk kd_6_form_33 (show Ez md_6_form 0 0 34 [(0, zr 113), (1, zi a1), (2, zi a2), (3, zi a3)] [zi ((3 * (mm_numberOf μ a2)) + (mm_tenseOf μ a2))] zSh μ _ _ _ from ?_)
      exact Ez.iret kr_6_form_34 rfl (Nat.zero_le _) (Nat.zero_le _) rfl rfl
  · rw [if_pos c1]
    refine Az.blk kd_6_form_4 (show Ez md_6_form 0 0 6 [(0, zr 113), (1, zi a1), (2, zi a2), (3, zi a3)] [zi a2, zr 113] zSh μ _ _ _ from ?_)
    refine Az.cV (mc := md_6_numberOf) (k := 113) (n := 1) (As := [zi a2]) (rest := []) kr_6_form_6 zw_694 ok_6_numberOf rfl rfl rfl trivial (mz_numberOf hB a2 (by omega)) rfl rfl (show Ez md_6_form 0 0 9 [(0, zr 113), (1, zi a1), (2, zi a2), (3, zi a3)] [zi (mm_numberOf μ a2)] zSh μ _ _ _ from ?_)
    have r5 : 0 ≤ (mm_numberOf μ a2) ∧ (mm_numberOf μ a2) ≤ 1 := mr_numberOf hB a2 (by omega)
    refine Az.blk kd_6_form_9 (show Ez md_6_form 0 0 34 [(0, zr 113), (1, zi a1), (2, zi a2), (3, zi a3)] [zi (mm_numberOf μ a2)] zSh μ _ _ _ from ?_)
    exact Ez.iret kr_6_form_34 rfl (Nat.zero_le _) (Nat.zero_le _) rfl rfl
def kb_6_formAt_0 : List zI := [(.aload_n 0, 1, 0, 0), (.iload_n 1, 1, 0, 0), (.iconst 2, 1, 0, 0)]
theorem kd_6_formAt_0 : zdec md_6_formAt 0 kb_6_formAt_0 = true := by decide +kernel
theorem kr_6_formAt_3 : decode md_6_formAt.2.1 3 = .ok (.invokevirtual 48, 3) := by decide +kernel
def kb_6_formAt_6 : List zI := [(.istore_n 2, 1, 0, 0), (.aload_n 0, 1, 0, 0), (.aload_n 0, 1, 0, 0), (.iload_n 1, 1, 0, 0), (.iconst 1, 1, 0, 0)]
theorem kd_6_formAt_6 : zdec md_6_formAt 6 kb_6_formAt_6 = true := by decide +kernel
theorem kr_6_formAt_11 : decode md_6_formAt.2.1 11 = .ok (.invokevirtual 48, 3) := by decide +kernel
def kb_6_formAt_14 : List zI := [(.iload_n 2, 1, 0, 0), (.aload_n 0, 1, 0, 0), (.iload_n 2, 1, 0, 0)]
theorem kd_6_formAt_14 : zdec md_6_formAt 14 kb_6_formAt_14 = true := by decide +kernel
theorem kr_6_formAt_17 : decode md_6_formAt.2.1 17 = .ok (.invokevirtual 68, 3) := by decide +kernel
theorem kr_6_formAt_20 : decode md_6_formAt.2.1 20 = .ok (.invokevirtual 71, 3) := by decide +kernel
theorem kr_6_formAt_23 : decode md_6_formAt.2.1 23 = .ok (.ireturn, 1) := by decide +kernel
noncomputable def mm_formAt (μ : zM) (a1 : Int) : Int := (mm_form μ (mm_ofItem μ a1 1) (mm_ofItem μ a1 2) (mm_genderOf μ (mm_ofItem μ a1 2)))
set_option maxHeartbeats 4000000 in
set_option maxRecDepth 100000 in
theorem mr_formAt {μ : zM} (hB : zB μ) (a1 : Int) (h0 : 0 ≤ a1 ∧ a1 ≤ 19) : 0 ≤ (mm_formAt μ a1) ∧ (mm_formAt μ a1) ≤ 5 := by
  unfold mm_formAt
  have r1 : -5 ≤ (mm_ofItem μ a1 2) ∧ (mm_ofItem μ a1 2) ≤ 26 ∧ ((2 : Int) = 0 → 0 ≤ (mm_ofItem μ a1 2) ∧ (mm_ofItem μ a1 2) ≤ 1) ∧ ((2 : Int) = 1 → 0 ≤ (mm_ofItem μ a1 2) ∧ (mm_ofItem μ a1 2) ≤ 10) ∧ ((2 : Int) = 2 → 0 ≤ (mm_ofItem μ a1 2) ∧ (mm_ofItem μ a1 2) ≤ 9) ∧ ((2 : Int) = 3 → (mm_ofItem μ a1 2) = -5 ∨ (0 ≤ (mm_ofItem μ a1 2) ∧ (mm_ofItem μ a1 2) ≤ 23)) ∧ (3 < (2 : Int) → 0 ≤ (mm_ofItem μ a1 2)) := mr_ofItem hB a1 2 (by omega) (by omega)
  have r2 : -5 ≤ (mm_ofItem μ a1 1) ∧ (mm_ofItem μ a1 1) ≤ 26 ∧ ((1 : Int) = 0 → 0 ≤ (mm_ofItem μ a1 1) ∧ (mm_ofItem μ a1 1) ≤ 1) ∧ ((1 : Int) = 1 → 0 ≤ (mm_ofItem μ a1 1) ∧ (mm_ofItem μ a1 1) ≤ 10) ∧ ((1 : Int) = 2 → 0 ≤ (mm_ofItem μ a1 1) ∧ (mm_ofItem μ a1 1) ≤ 9) ∧ ((1 : Int) = 3 → (mm_ofItem μ a1 1) = -5 ∨ (0 ≤ (mm_ofItem μ a1 1) ∧ (mm_ofItem μ a1 1) ≤ 23)) ∧ (3 < (1 : Int) → 0 ≤ (mm_ofItem μ a1 1)) := mr_ofItem hB a1 1 (by omega) (by omega)
  have r3 : 0 ≤ (mm_genderOf μ (mm_ofItem μ a1 2)) ∧ (mm_genderOf μ (mm_ofItem μ a1 2)) ≤ 2 := mr_genderOf hB (mm_ofItem μ a1 2) (by omega)
  have r4 : 0 ≤ (mm_form μ (mm_ofItem μ a1 1) (mm_ofItem μ a1 2) (mm_genderOf μ (mm_ofItem μ a1 2))) ∧ (mm_form μ (mm_ofItem μ a1 1) (mm_ofItem μ a1 2) (mm_genderOf μ (mm_ofItem μ a1 2))) ≤ 5 := mr_form hB (mm_ofItem μ a1 1) (mm_ofItem μ a1 2) (mm_genderOf μ (mm_ofItem μ a1 2)) (by omega) (by omega) (by omega)
  first | omega | (dsimp only; omega)
set_option maxHeartbeats 4000000 in
set_option maxRecDepth 100000 in
theorem mz_formAt {μ : zM} (hB : zB μ) (a1 : Int) (h0 : 0 ≤ a1 ∧ a1 ≤ 19) : Dz md_6_formAt [zr 113, zi a1] zSh μ (some (zi (mm_formAt μ a1))) zSh μ := by
  refine Dz.of (by decide) rfl rfl (show Ez md_6_formAt 0 0 0 [(0, zr 113), (1, zi a1)] [] zSh μ (some (zi (mm_formAt μ a1))) zSh μ from ?_)
  unfold mm_formAt
  refine Az.blk kd_6_formAt_0 (show Ez md_6_formAt 0 0 3 [(0, zr 113), (1, zi a1)] [zi 2, zi a1, zr 113] zSh μ _ _ _ from ?_)
  refine Az.cV (mc := md_6_ofItem) (k := 113) (n := 2) (As := [zi a1, zi 2]) (rest := []) kr_6_formAt_3 zw_682 ok_6_ofItem rfl rfl rfl trivial (mz_ofItem hB a1 2 (by omega) (by omega)) rfl rfl (show Ez md_6_formAt 0 0 6 [(0, zr 113), (1, zi a1)] [zi (mm_ofItem μ a1 2)] zSh μ _ _ _ from ?_)
  have r1 : -5 ≤ (mm_ofItem μ a1 2) ∧ (mm_ofItem μ a1 2) ≤ 26 ∧ ((2 : Int) = 0 → 0 ≤ (mm_ofItem μ a1 2) ∧ (mm_ofItem μ a1 2) ≤ 1) ∧ ((2 : Int) = 1 → 0 ≤ (mm_ofItem μ a1 2) ∧ (mm_ofItem μ a1 2) ≤ 10) ∧ ((2 : Int) = 2 → 0 ≤ (mm_ofItem μ a1 2) ∧ (mm_ofItem μ a1 2) ≤ 9) ∧ ((2 : Int) = 3 → (mm_ofItem μ a1 2) = -5 ∨ (0 ≤ (mm_ofItem μ a1 2) ∧ (mm_ofItem μ a1 2) ≤ 23)) ∧ (3 < (2 : Int) → 0 ≤ (mm_ofItem μ a1 2)) := mr_ofItem hB a1 2 (by omega) (by omega)
  refine Az.blk kd_6_formAt_6 (show Ez md_6_formAt 0 0 11 [(2, zi (mm_ofItem μ a1 2)), (0, zr 113), (1, zi a1)] [zi 1, zi a1, zr 113, zr 113] zSh μ _ _ _ from ?_)
  refine Az.cV (mc := md_6_ofItem) (k := 113) (n := 2) (As := [zi a1, zi 1]) (rest := [zr 113]) kr_6_formAt_11 zw_682 ok_6_ofItem rfl rfl rfl trivial (mz_ofItem hB a1 1 (by omega) (by omega)) rfl rfl (show Ez md_6_formAt 0 0 14 [(2, zi (mm_ofItem μ a1 2)), (0, zr 113), (1, zi a1)] [zi (mm_ofItem μ a1 1), zr 113] zSh μ _ _ _ from ?_)
  have r2 : -5 ≤ (mm_ofItem μ a1 1) ∧ (mm_ofItem μ a1 1) ≤ 26 ∧ ((1 : Int) = 0 → 0 ≤ (mm_ofItem μ a1 1) ∧ (mm_ofItem μ a1 1) ≤ 1) ∧ ((1 : Int) = 1 → 0 ≤ (mm_ofItem μ a1 1) ∧ (mm_ofItem μ a1 1) ≤ 10) ∧ ((1 : Int) = 2 → 0 ≤ (mm_ofItem μ a1 1) ∧ (mm_ofItem μ a1 1) ≤ 9) ∧ ((1 : Int) = 3 → (mm_ofItem μ a1 1) = -5 ∨ (0 ≤ (mm_ofItem μ a1 1) ∧ (mm_ofItem μ a1 1) ≤ 23)) ∧ (3 < (1 : Int) → 0 ≤ (mm_ofItem μ a1 1)) := mr_ofItem hB a1 1 (by omega) (by omega)
  refine Az.blk kd_6_formAt_14 (show Ez md_6_formAt 0 0 17 [(2, zi (mm_ofItem μ a1 2)), (0, zr 113), (1, zi a1)] [zi (mm_ofItem μ a1 2), zr 113, zi (mm_ofItem μ a1 2), zi (mm_ofItem μ a1 1), zr 113] zSh μ _ _ _ from ?_)
  refine Az.cV (mc := md_6_genderOf) (k := 113) (n := 1) (As := [zi (mm_ofItem μ a1 2)]) (rest := [zi (mm_ofItem μ a1 2), zi (mm_ofItem μ a1 1), zr 113]) kr_6_formAt_17 zw_806 ok_6_genderOf rfl rfl rfl trivial (mz_genderOf hB (mm_ofItem μ a1 2) (by omega)) rfl rfl (show Ez md_6_formAt 0 0 20 [(2, zi (mm_ofItem μ a1 2)), (0, zr 113), (1, zi a1)] [zi (mm_genderOf μ (mm_ofItem μ a1 2)), zi (mm_ofItem μ a1 2), zi (mm_ofItem μ a1 1), zr 113] zSh μ _ _ _ from ?_)
  have r3 : 0 ≤ (mm_genderOf μ (mm_ofItem μ a1 2)) ∧ (mm_genderOf μ (mm_ofItem μ a1 2)) ≤ 2 := mr_genderOf hB (mm_ofItem μ a1 2) (by omega)
  refine Az.cV (mc := md_6_form) (k := 113) (n := 3) (As := [zi (mm_ofItem μ a1 1), zi (mm_ofItem μ a1 2), zi (mm_genderOf μ (mm_ofItem μ a1 2))]) (rest := []) kr_6_formAt_20 zw_810 ok_6_form rfl rfl rfl trivial (mz_form hB (mm_ofItem μ a1 1) (mm_ofItem μ a1 2) (mm_genderOf μ (mm_ofItem μ a1 2)) (by omega) (by omega) (by omega)) rfl rfl (show Ez md_6_formAt 0 0 23 [(2, zi (mm_ofItem μ a1 2)), (0, zr 113), (1, zi a1)] [zi (mm_form μ (mm_ofItem μ a1 1) (mm_ofItem μ a1 2) (mm_genderOf μ (mm_ofItem μ a1 2)))] zSh μ _ _ _ from ?_)
  have r4 : 0 ≤ (mm_form μ (mm_ofItem μ a1 1) (mm_ofItem μ a1 2) (mm_genderOf μ (mm_ofItem μ a1 2))) ∧ (mm_form μ (mm_ofItem μ a1 1) (mm_ofItem μ a1 2) (mm_genderOf μ (mm_ofItem μ a1 2))) ≤ 5 := mr_form hB (mm_ofItem μ a1 1) (mm_ofItem μ a1 2) (mm_genderOf μ (mm_ofItem μ a1 2)) (by omega) (by omega) (by omega)
  exact Ez.iret kr_6_formAt_23 rfl (Nat.zero_le _) (Nat.zero_le _) rfl rfl
def kb_6_holesWith_0 : List zI := [(.iconst 0, 1, 0, 0), (.istore_n 2, 1, 0, 0), (.iconst 0, 1, 0, 0), (.istore_n 3, 1, 0, 0)]
theorem kd_6_holesWith_0 : zdec md_6_holesWith 0 kb_6_holesWith_0 = true := by decide +kernel
def kb_6_holesWith_4 : List zI := [(.iload_n 3, 1, 0, 0), (.aload_n 0, 1, 0, 0), (.getfield 7, 3, 6, 0), (.iconst 3, 1, 0, 0), (.iaload, 1, 0, 0), (.if_icmp .ge 35, 3, 46, 0)]
theorem kd_6_holesWith_4 : zdec md_6_holesWith 4 kb_6_holesWith_4 = true := by decide +kernel
def kb_6_holesWith_46 : List zI := [(.iload_n 2, 1, 0, 0)]
theorem kd_6_holesWith_46 : zdec md_6_holesWith 46 kb_6_holesWith_46 = true := by decide +kernel
theorem kr_6_holesWith_47 : decode md_6_holesWith.2.1 47 = .ok (.ireturn, 1) := by decide +kernel
def kb_6_holesWith_14 : List zI := [(.iload_n 2, 1, 0, 0), (.aload_n 0, 1, 0, 0), (.iload_n 3, 1, 0, 0)]
theorem kd_6_holesWith_14 : zdec md_6_holesWith 14 kb_6_holesWith_14 = true := by decide +kernel
theorem kr_6_holesWith_17 : decode md_6_holesWith.2.1 17 = .ok (.invokevirtual 51, 3) := by decide +kernel
def kb_6_holesWith_20 : List zI := [(.ifCond .eq 17, 3, 37, 0)]
theorem kd_6_holesWith_20 : zdec md_6_holesWith 20 kb_6_holesWith_20 = true := by decide +kernel
def kb_6_holesWith_37 : List zI := [(.iconst 0, 1, 0, 0), (.iadd, 1, 0, 0), (.istore_n 2, 1, 0, 0), (.iinc 3 1, 3, 0, 0), (.goto (-39), 3, 4, 0)]
theorem kd_6_holesWith_37 : zdec md_6_holesWith 37 kb_6_holesWith_37 = true := by decide +kernel
def kb_6_holesWith_23 : List zI := [(.aload_n 0, 1, 0, 0), (.iload_n 3, 1, 0, 0), (.iconst 3, 1, 0, 0)]
theorem kd_6_holesWith_23 : zdec md_6_holesWith 23 kb_6_holesWith_23 = true := by decide +kernel
theorem kr_6_holesWith_26 : decode md_6_holesWith.2.1 26 = .ok (.invokevirtual 48, 3) := by decide +kernel
def kb_6_holesWith_29 : List zI := [(.iload_n 1, 1, 0, 0), (.if_icmp .ne 7, 3, 37, 0)]
theorem kd_6_holesWith_29 : zdec md_6_holesWith 29 kb_6_holesWith_29 = true := by decide +kernel
def kb_6_holesWith_33 : List zI := [(.iconst 1, 1, 0, 0), (.goto 4, 3, 38, 0)]
theorem kd_6_holesWith_33 : zdec md_6_holesWith 33 kb_6_holesWith_33 = true := by decide +kernel
def kb_6_holesWith_38 : List zI := [(.iadd, 1, 0, 0), (.istore_n 2, 1, 0, 0), (.iinc 3 1, 3, 0, 0), (.goto (-39), 3, 4, 0)]
theorem kd_6_holesWith_38 : zdec md_6_holesWith 38 kb_6_holesWith_38 = true := by decide +kernel
noncomputable def mm_holesWith_4 : Nat → zM → Int → Int → Int → Int
  | 0, μ, _, _, _ => 0
  | f + 1, μ, l1, l2, l3 => (if l3 < (μ 114 3) then (if (mm_isHoleAt μ l3) = 0 then (mm_holesWith_4 f μ l1 (l2 + 0) (l3 + 1)) else (if (mm_ofItem μ l3 3) = l1 then (mm_holesWith_4 f μ l1 (l2 + 1) (l3 + 1)) else (mm_holesWith_4 f μ l1 (l2 + 0) (l3 + 1)))) else l2)
noncomputable def mm_holesWith (μ : zM) (a1 : Int) : Int := (mm_holesWith_4 zN μ a1 0 0)
set_option maxHeartbeats 4000000 in
set_option maxRecDepth 100000 in
theorem mr_holesWith_4 (f : Nat) (μ : zM) (hB : zB μ) (l1 : Int) (l2 : Int) (l3 : Int) (i0 : 0 ≤ l3 ∧ l3 ≤ (μ 114 3)) (i1 : 0 ≤ l2 ∧ l2 ≤ l3) (i2 : -2147483648 ≤ l1 ∧ l1 ≤ 2147483647) (hf : (μ 114 3) - l3 < (f : Int)) : 0 ≤ (mm_holesWith_4 f μ l1 l2 l3) ∧ (mm_holesWith_4 f μ l1 l2 l3) ≤ 20 := by
  induction f generalizing μ l1 l2 l3 with
  | zero => exfalso; omega
  | succ f ih =>
    replace hf : (μ 114 3) - l3 < (f : Int) + 1 := by omega
    rw [mm_holesWith_4]
    have b2 : 0 ≤ (μ 114 3) ∧ (μ 114 3) ≤ 20 := hB 114 3
    by_cases c3 : l3 < (μ 114 3)
    · rw [if_pos c3]
      have r4 : 0 ≤ (mm_isHoleAt μ l3) ∧ (mm_isHoleAt μ l3) ≤ 1 := mr_isHoleAt hB l3 (by omega)
      by_cases c5 : (mm_isHoleAt μ l3) = 0
      · rw [if_pos c5]
        have b6 : 0 ≤ (μ 114 3) ∧ (μ 114 3) ≤ 20 := hB 114 3
        exact ih μ hB l1 (l2 + 0) (l3 + 1) (by omega) (by omega) (by omega) (by omega)
      · rw [if_neg c5]
        have r7 : -5 ≤ (mm_ofItem μ l3 3) ∧ (mm_ofItem μ l3 3) ≤ 26 ∧ ((3 : Int) = 0 → 0 ≤ (mm_ofItem μ l3 3) ∧ (mm_ofItem μ l3 3) ≤ 1) ∧ ((3 : Int) = 1 → 0 ≤ (mm_ofItem μ l3 3) ∧ (mm_ofItem μ l3 3) ≤ 10) ∧ ((3 : Int) = 2 → 0 ≤ (mm_ofItem μ l3 3) ∧ (mm_ofItem μ l3 3) ≤ 9) ∧ ((3 : Int) = 3 → (mm_ofItem μ l3 3) = -5 ∨ (0 ≤ (mm_ofItem μ l3 3) ∧ (mm_ofItem μ l3 3) ≤ 23)) ∧ (3 < (3 : Int) → 0 ≤ (mm_ofItem μ l3 3)) := mr_ofItem hB l3 3 (by omega) (by omega)
        by_cases c8 : (mm_ofItem μ l3 3) = l1
        · rw [if_pos c8]
          have b10 : 0 ≤ (μ 114 3) ∧ (μ 114 3) ≤ 20 := hB 114 3
          exact ih μ hB l1 (l2 + 1) (l3 + 1) (by omega) (by omega) (by omega) (by omega)
        · rw [if_neg c8]
          have b9 : 0 ≤ (μ 114 3) ∧ (μ 114 3) ≤ 20 := hB 114 3
          exact ih μ hB l1 (l2 + 0) (l3 + 1) (by omega) (by omega) (by omega) (by omega)
    · rw [if_neg c3]
      first | omega | (dsimp only; omega)
set_option maxHeartbeats 4000000 in
set_option maxRecDepth 100000 in
theorem mr_holesWith {μ : zM} (hB : zB μ) (a1 : Int) (h0 : -2147483648 ≤ a1 ∧ a1 ≤ 2147483647) : 0 ≤ (mm_holesWith μ a1) ∧ (mm_holesWith μ a1) ≤ 20 := by
  unfold mm_holesWith
  have b1 : 0 ≤ (μ 114 3) ∧ (μ 114 3) ≤ 20 := hB 114 3
  have fb : (3000 : Int) ≤ ((zN : Nat) : Int) := zN_big
  exact mr_holesWith_4 zN μ hB a1 0 0 (by omega) (by omega) (by omega) (by omega)
set_option maxHeartbeats 4000000 in
set_option maxRecDepth 100000 in
theorem mz_holesWith_4 (f : Nat) (μ : zM) (hB : zB μ) (l1 : Int) (l2 : Int) (l3 : Int) (i0 : 0 ≤ l3 ∧ l3 ≤ (μ 114 3)) (i1 : 0 ≤ l2 ∧ l2 ≤ l3) (i2 : -2147483648 ≤ l1 ∧ l1 ≤ 2147483647) (hf : (μ 114 3) - l3 < (f : Int)) : Ez md_6_holesWith 0 0 4 [(0, zr 113), (1, zi l1), (2, zi l2), (3, zi l3)] [] zSh μ (some (zi (mm_holesWith_4 f μ l1 l2 l3))) zSh μ := by
  induction f generalizing μ l1 l2 l3 with
  | zero => exfalso; omega
  | succ f ih =>
    replace hf : (μ 114 3) - l3 < (f : Int) + 1 := by omega
    rw [mm_holesWith_4]
    have b2 : 0 ≤ (μ 114 3) ∧ (μ 114 3) ≤ 20 := hB 114 3
    refine Az.blk kd_6_holesWith_4 (show (0 ≤ 3 ∧ 3 < 604) ∧ zR l3 ∧ zR (μ 114 3) ∧ ((¬ l3 < (μ 114 3) → Ez md_6_holesWith 0 0 46 [(0, zr 113), (1, zi l1), (2, zi l2), (3, zi l3)] [] zSh μ _ _ _) ∧ (l3 < (μ 114 3) → Ez md_6_holesWith 0 0 14 [(0, zr 113), (1, zi l1), (2, zi l2), (3, zi l3)] [] zSh μ _ _ _)) from ⟨(by omega), (by omega), (by omega), fun c3 => ?_, fun c3 => ?_⟩)
    · rw [if_neg c3]
      refine Az.blk kd_6_holesWith_46 (show Ez md_6_holesWith 0 0 47 [(0, zr 113), (1, zi l1), (2, zi l2), (3, zi l3)] [zi l2] zSh μ _ _ _ from ?_)
      exact Ez.iret kr_6_holesWith_47 rfl (Nat.zero_le _) (Nat.zero_le _) rfl rfl
    · rw [if_pos c3]
      refine Az.blk kd_6_holesWith_14 (show Ez md_6_holesWith 0 0 17 [(0, zr 113), (1, zi l1), (2, zi l2), (3, zi l3)] [zi l3, zr 113, zi l2] zSh μ _ _ _ from ?_)
      refine Az.cV (mc := md_6_isHoleAt) (k := 113) (n := 1) (As := [zi l3]) (rest := [zi l2]) kr_6_holesWith_17 zw_678 ok_6_isHoleAt rfl rfl rfl trivial (mz_isHoleAt hB l3 (by omega)) rfl rfl (show Ez md_6_holesWith 0 0 20 [(0, zr 113), (1, zi l1), (2, zi l2), (3, zi l3)] [zi (mm_isHoleAt μ l3), zi l2] zSh μ _ _ _ from ?_)
      have r4 : 0 ≤ (mm_isHoleAt μ l3) ∧ (mm_isHoleAt μ l3) ≤ 1 := mr_isHoleAt hB l3 (by omega)
      refine Az.blk kd_6_holesWith_20 (show zR (mm_isHoleAt μ l3) ∧ (((mm_isHoleAt μ l3) = 0 → Ez md_6_holesWith 0 0 37 [(0, zr 113), (1, zi l1), (2, zi l2), (3, zi l3)] [zi l2] zSh μ _ _ _) ∧ (¬ (mm_isHoleAt μ l3) = 0 → Ez md_6_holesWith 0 0 23 [(0, zr 113), (1, zi l1), (2, zi l2), (3, zi l3)] [zi l2] zSh μ _ _ _)) from ⟨(by omega), fun c5 => ?_, fun c5 => ?_⟩)
      · rw [if_pos c5]
        refine Az.blk kd_6_holesWith_37 (show Ez md_6_holesWith 0 0 4 [(3, zi (l3 + 1)), (2, zi (l2 + 0)), (0, zr 113), (1, zi l1)] [] zSh μ _ _ _ from ?_)
        have b6 : 0 ≤ (μ 114 3) ∧ (μ 114 3) ≤ 20 := hB 114 3
        refine Az.lvs (lv' := [(0, zr 113), (1, zi l1), (2, zi (l2 + 0)), (3, zi (l3 + 1))]) ?_ ?_
        · intro q hq; simp only [List.mem_cons, List.not_mem_nil, or_false] at hq; rcases hq with rfl | rfl | rfl | rfl <;> rfl
        exact ih μ hB l1 (l2 + 0) (l3 + 1) (by omega) (by omega) (by omega) (by omega)
      · rw [if_neg c5]
        refine Az.blk kd_6_holesWith_23 (show Ez md_6_holesWith 0 0 26 [(0, zr 113), (1, zi l1), (2, zi l2), (3, zi l3)] [zi 3, zi l3, zr 113, zi l2] zSh μ _ _ _ from ?_)
        refine Az.cV (mc := md_6_ofItem) (k := 113) (n := 2) (As := [zi l3, zi 3]) (rest := [zi l2]) kr_6_holesWith_26 zw_682 ok_6_ofItem rfl rfl rfl trivial (mz_ofItem hB l3 3 (by omega) (by omega)) rfl rfl (show Ez md_6_holesWith 0 0 29 [(0, zr 113), (1, zi l1), (2, zi l2), (3, zi l3)] [zi (mm_ofItem μ l3 3), zi l2] zSh μ _ _ _ from ?_)
        have r7 : -5 ≤ (mm_ofItem μ l3 3) ∧ (mm_ofItem μ l3 3) ≤ 26 ∧ ((3 : Int) = 0 → 0 ≤ (mm_ofItem μ l3 3) ∧ (mm_ofItem μ l3 3) ≤ 1) ∧ ((3 : Int) = 1 → 0 ≤ (mm_ofItem μ l3 3) ∧ (mm_ofItem μ l3 3) ≤ 10) ∧ ((3 : Int) = 2 → 0 ≤ (mm_ofItem μ l3 3) ∧ (mm_ofItem μ l3 3) ≤ 9) ∧ ((3 : Int) = 3 → (mm_ofItem μ l3 3) = -5 ∨ (0 ≤ (mm_ofItem μ l3 3) ∧ (mm_ofItem μ l3 3) ≤ 23)) ∧ (3 < (3 : Int) → 0 ≤ (mm_ofItem μ l3 3)) := mr_ofItem hB l3 3 (by omega) (by omega)
        refine Az.blk kd_6_holesWith_29 (show zR (mm_ofItem μ l3 3) ∧ zR l1 ∧ ((¬ (mm_ofItem μ l3 3) = l1 → Ez md_6_holesWith 0 0 37 [(0, zr 113), (1, zi l1), (2, zi l2), (3, zi l3)] [zi l2] zSh μ _ _ _) ∧ ((mm_ofItem μ l3 3) = l1 → Ez md_6_holesWith 0 0 33 [(0, zr 113), (1, zi l1), (2, zi l2), (3, zi l3)] [zi l2] zSh μ _ _ _)) from ⟨(by omega), (by omega), fun c8 => ?_, fun c8 => ?_⟩)
        · rw [if_neg c8]
          refine Az.blk kd_6_holesWith_37 (show Ez md_6_holesWith 0 0 4 [(3, zi (l3 + 1)), (2, zi (l2 + 0)), (0, zr 113), (1, zi l1)] [] zSh μ _ _ _ from ?_)
          have b9 : 0 ≤ (μ 114 3) ∧ (μ 114 3) ≤ 20 := hB 114 3
          refine Az.lvs (lv' := [(0, zr 113), (1, zi l1), (2, zi (l2 + 0)), (3, zi (l3 + 1))]) ?_ ?_
          · intro q hq; simp only [List.mem_cons, List.not_mem_nil, or_false] at hq; rcases hq with rfl | rfl | rfl | rfl <;> rfl
          exact ih μ hB l1 (l2 + 0) (l3 + 1) (by omega) (by omega) (by omega) (by omega)
        · rw [if_pos c8]
          refine Az.blk kd_6_holesWith_33 (show Ez md_6_holesWith 0 0 38 [(0, zr 113), (1, zi l1), (2, zi l2), (3, zi l3)] [zi 1, zi l2] zSh μ _ _ _ from ?_)
          refine Az.blk kd_6_holesWith_38 (show Ez md_6_holesWith 0 0 4 [(3, zi (l3 + 1)), (2, zi (l2 + 1)), (0, zr 113), (1, zi l1)] [] zSh μ _ _ _ from ?_)
          have b10 : 0 ≤ (μ 114 3) ∧ (μ 114 3) ≤ 20 := hB 114 3
          refine Az.lvs (lv' := [(0, zr 113), (1, zi l1), (2, zi (l2 + 1)), (3, zi (l3 + 1))]) ?_ ?_
          · intro q hq; simp only [List.mem_cons, List.not_mem_nil, or_false] at hq; rcases hq with rfl | rfl | rfl | rfl <;> rfl
          exact ih μ hB l1 (l2 + 1) (l3 + 1) (by omega) (by omega) (by omega) (by omega)
set_option maxHeartbeats 4000000 in
set_option maxRecDepth 100000 in
theorem mz_holesWith {μ : zM} (hB : zB μ) (a1 : Int) (h0 : -2147483648 ≤ a1 ∧ a1 ≤ 2147483647) : Dz md_6_holesWith [zr 113, zi a1] zSh μ (some (zi (mm_holesWith μ a1))) zSh μ := by
  refine Dz.of (by decide) rfl rfl (show Ez md_6_holesWith 0 0 0 [(0, zr 113), (1, zi a1)] [] zSh μ (some (zi (mm_holesWith μ a1))) zSh μ from ?_)
  unfold mm_holesWith
  refine Az.blk kd_6_holesWith_0 (show Ez md_6_holesWith 0 0 4 [(3, zi 0), (2, zi 0), (0, zr 113), (1, zi a1)] [] zSh μ _ _ _ from ?_)
  have b1 : 0 ≤ (μ 114 3) ∧ (μ 114 3) ≤ 20 := hB 114 3
  refine Az.lvs (lv' := [(0, zr 113), (1, zi a1), (2, zi 0), (3, zi 0)]) ?_ ?_
  · intro q hq; simp only [List.mem_cons, List.not_mem_nil, or_false] at hq; rcases hq with rfl | rfl | rfl | rfl <;> rfl
  have fb : (3000 : Int) ≤ ((zN : Nat) : Int) := zN_big
  exact mz_holesWith_4 zN μ hB a1 0 0 (by omega) (by omega) (by omega) (by omega)
def kb_6_why_0 : List zI := [(.aload_n 0, 1, 0, 0), (.iload_n 2, 1, 0, 0), (.iconst 0, 1, 0, 0)]
theorem kd_6_why_0 : zdec md_6_why 0 kb_6_why_0 = true := by decide +kernel
theorem kr_6_why_3 : decode md_6_why.2.1 3 = .ok (.invokevirtual 42, 3) := by decide +kernel
def kb_6_why_6 : List zI := [(.aload_n 0, 1, 0, 0), (.iload_n 1, 1, 0, 0), (.iconst 1, 1, 0, 0)]
theorem kd_6_why_6 : zdec md_6_why 6 kb_6_why_6 = true := by decide +kernel
theorem kr_6_why_9 : decode md_6_why.2.1 9 = .ok (.invokevirtual 48, 3) := by decide +kernel
def kb_6_why_12 : List zI := [(.if_icmp .eq 5, 3, 17, 0)]
theorem kd_6_why_12 : zdec md_6_why 12 kb_6_why_12 = true := by decide +kernel
def kb_6_why_17 : List zI := [(.aload_n 0, 1, 0, 0), (.aload_n 0, 1, 0, 0), (.iload_n 1, 1, 0, 0), (.iconst 2, 1, 0, 0)]
theorem kd_6_why_17 : zdec md_6_why 17 kb_6_why_17 = true := by decide +kernel
theorem kr_6_why_21 : decode md_6_why.2.1 21 = .ok (.invokevirtual 48, 3) := by decide +kernel
def kb_6_why_24 : List zI := [(.iload_n 1, 1, 0, 0)]
theorem kd_6_why_24 : zdec md_6_why 24 kb_6_why_24 = true := by decide +kernel
theorem kr_6_why_25 : decode md_6_why.2.1 25 = .ok (.invokevirtual 59, 3) := by decide +kernel
def kb_6_why_28 : List zI := [(.istore_n 3, 1, 0, 0), (.aload_n 0, 1, 0, 0), (.iload_n 2, 1, 0, 0), (.iconst 0, 1, 0, 0)]
theorem kd_6_why_28 : zdec md_6_why 28 kb_6_why_28 = true := by decide +kernel
theorem kr_6_why_32 : decode md_6_why.2.1 32 = .ok (.invokevirtual 42, 3) := by decide +kernel
def kb_6_why_35 : List zI := [(.ifCond .ne 21, 3, 56, 0)]
theorem kd_6_why_35 : zdec md_6_why 35 kb_6_why_35 = true := by decide +kernel
def kb_6_why_56 : List zI := [(.aload_n 0, 1, 0, 0), (.getfield 7, 3, 6, 0), (.iconst 0, 1, 0, 0), (.iaload, 1, 0, 0), (.iconst 1, 1, 0, 0), (.if_icmp .ne 15, 3, 78, 0)]
theorem kd_6_why_56 : zdec md_6_why 56 kb_6_why_56 = true := by decide +kernel
def kb_6_why_78 : List zI := [(.iconst 0, 1, 0, 0)]
theorem kd_6_why_78 : zdec md_6_why 78 kb_6_why_78 = true := by decide +kernel
theorem kr_6_why_79 : decode md_6_why.2.1 79 = .ok (.ireturn, 1) := by decide +kernel
def kb_6_why_66 : List zI := [(.aload_n 0, 1, 0, 0), (.iload_n 2, 1, 0, 0)]
theorem kd_6_why_66 : zdec md_6_why 66 kb_6_why_66 = true := by decide +kernel
theorem kr_6_why_68 : decode md_6_why.2.1 68 = .ok (.invokevirtual 75, 3) := by decide +kernel
def kb_6_why_71 : List zI := [(.ifCond .le 7, 3, 78, 0)]
theorem kd_6_why_71 : zdec md_6_why 71 kb_6_why_71 = true := by decide +kernel
def kb_6_why_74 : List zI := [(.iconst 3, 1, 0, 0), (.goto 4, 3, 79, 0)]
theorem kd_6_why_74 : zdec md_6_why 74 kb_6_why_74 = true := by decide +kernel
def kb_6_why_38 : List zI := [(.iload_n 3, 1, 0, 0), (.bipush (-5), 2, 0, 0), (.if_icmp .eq 15, 3, 56, 0)]
theorem kd_6_why_38 : zdec md_6_why 38 kb_6_why_38 = true := by decide +kernel
def kb_6_why_44 : List zI := [(.iload_n 3, 1, 0, 0), (.aload_n 0, 1, 0, 0), (.iload_n 2, 1, 0, 0), (.iconst 1, 1, 0, 0)]
theorem kd_6_why_44 : zdec md_6_why 44 kb_6_why_44 = true := by decide +kernel
theorem kr_6_why_48 : decode md_6_why.2.1 48 = .ok (.invokevirtual 42, 3) := by decide +kernel
def kb_6_why_51 : List zI := [(.if_icmp .eq 5, 3, 56, 0)]
theorem kd_6_why_51 : zdec md_6_why 51 kb_6_why_51 = true := by decide +kernel
def kb_6_why_54 : List zI := [(.iconst 2, 1, 0, 0)]
theorem kd_6_why_54 : zdec md_6_why 54 kb_6_why_54 = true := by decide +kernel
theorem kr_6_why_55 : decode md_6_why.2.1 55 = .ok (.ireturn, 1) := by decide +kernel
def kb_6_why_15 : List zI := [(.iconst 1, 1, 0, 0)]
theorem kd_6_why_15 : zdec md_6_why 15 kb_6_why_15 = true := by decide +kernel
theorem kr_6_why_16 : decode md_6_why.2.1 16 = .ok (.ireturn, 1) := by decide +kernel
noncomputable def mm_why (μ : zM) (a1 a2 : Int) : Int := (if (mm_ofWord μ a2 0) = (mm_ofItem μ a1 1) then (if (mm_ofWord μ a2 0) = 0 then (if (mm_nounIn μ (mm_ofItem μ a1 2) a1) = (-5) then (if (μ 114 0) = 1 then (if 0 < (mm_holesWith μ a2) then 3 else 0) else 0) else (if (mm_nounIn μ (mm_ofItem μ a1 2) a1) = (mm_ofWord μ a2 1) then (if (μ 114 0) = 1 then (if 0 < (mm_holesWith μ a2) then 3 else 0) else 0) else 2)) else (if (μ 114 0) = 1 then (if 0 < (mm_holesWith μ a2) then 3 else 0) else 0)) else 1)
set_option maxHeartbeats 4000000 in
set_option maxRecDepth 100000 in
theorem mr_why {μ : zM} (hB : zB μ) (a1 a2 : Int) (h0 : 0 ≤ a1 ∧ a1 ≤ 19) (h1 : 0 ≤ a2 ∧ a2 ≤ 23) : 0 ≤ (mm_why μ a1 a2) ∧ (mm_why μ a1 a2) ≤ 3 := by
  unfold mm_why
  have r1 : 0 ≤ (mm_ofWord μ a2 0) ∧ (mm_ofWord μ a2 0) ≤ 26 ∧ ((0 : Int) < 2 → (mm_ofWord μ a2 0) ≤ 2) ∧ ((0 : Int) = 2 → (mm_ofWord μ a2 0) ≤ 8) := mr_ofWord hB a2 0 (by omega) (by omega)
  have r2 : -5 ≤ (mm_ofItem μ a1 1) ∧ (mm_ofItem μ a1 1) ≤ 26 ∧ ((1 : Int) = 0 → 0 ≤ (mm_ofItem μ a1 1) ∧ (mm_ofItem μ a1 1) ≤ 1) ∧ ((1 : Int) = 1 → 0 ≤ (mm_ofItem μ a1 1) ∧ (mm_ofItem μ a1 1) ≤ 10) ∧ ((1 : Int) = 2 → 0 ≤ (mm_ofItem μ a1 1) ∧ (mm_ofItem μ a1 1) ≤ 9) ∧ ((1 : Int) = 3 → (mm_ofItem μ a1 1) = -5 ∨ (0 ≤ (mm_ofItem μ a1 1) ∧ (mm_ofItem μ a1 1) ≤ 23)) ∧ (3 < (1 : Int) → 0 ≤ (mm_ofItem μ a1 1)) := mr_ofItem hB a1 1 (by omega) (by omega)
  by_cases c3 : (mm_ofWord μ a2 0) = (mm_ofItem μ a1 1)
  · rw [if_pos c3]
    have r4 : -5 ≤ (mm_ofItem μ a1 2) ∧ (mm_ofItem μ a1 2) ≤ 26 ∧ ((2 : Int) = 0 → 0 ≤ (mm_ofItem μ a1 2) ∧ (mm_ofItem μ a1 2) ≤ 1) ∧ ((2 : Int) = 1 → 0 ≤ (mm_ofItem μ a1 2) ∧ (mm_ofItem μ a1 2) ≤ 10) ∧ ((2 : Int) = 2 → 0 ≤ (mm_ofItem μ a1 2) ∧ (mm_ofItem μ a1 2) ≤ 9) ∧ ((2 : Int) = 3 → (mm_ofItem μ a1 2) = -5 ∨ (0 ≤ (mm_ofItem μ a1 2) ∧ (mm_ofItem μ a1 2) ≤ 23)) ∧ (3 < (2 : Int) → 0 ≤ (mm_ofItem μ a1 2)) := mr_ofItem hB a1 2 (by omega) (by omega)
    have r5 : ((mm_nounIn μ (mm_ofItem μ a1 2) a1) = -5 ∨ (0 ≤ (mm_nounIn μ (mm_ofItem μ a1 2) a1) ∧ (mm_nounIn μ (mm_ofItem μ a1 2) a1) ≤ 2)) := mr_nounIn hB (mm_ofItem μ a1 2) a1 (by omega) (by omega)
    have r6 : 0 ≤ (mm_ofWord μ a2 0) ∧ (mm_ofWord μ a2 0) ≤ 26 ∧ ((0 : Int) < 2 → (mm_ofWord μ a2 0) ≤ 2) ∧ ((0 : Int) = 2 → (mm_ofWord μ a2 0) ≤ 8) := mr_ofWord hB a2 0 (by omega) (by omega)
    by_cases c7 : (mm_ofWord μ a2 0) = 0
    · rw [if_pos c7]
      by_cases c12 : (mm_nounIn μ (mm_ofItem μ a1 2) a1) = (-5)
      · rw [if_pos c12]
        have b13 : 0 ≤ (μ 114 0) ∧ (μ 114 0) ≤ 1 := hB 114 0
        by_cases c14 : (μ 114 0) = 1
        · rw [if_pos c14]
          have r15 : 0 ≤ (mm_holesWith μ a2) ∧ (mm_holesWith μ a2) ≤ 20 := mr_holesWith hB a2 (by omega)
          by_cases c16 : 0 < (mm_holesWith μ a2)
          · rw [if_pos c16]
            first | omega | (dsimp only; omega)
          · rw [if_neg c16]
            first | omega | (dsimp only; omega)
        · rw [if_neg c14]
          first | omega | (dsimp only; omega)
      · rw [if_neg c12]
        have r17 : 0 ≤ (mm_ofWord μ a2 1) ∧ (mm_ofWord μ a2 1) ≤ 26 ∧ ((1 : Int) < 2 → (mm_ofWord μ a2 1) ≤ 2) ∧ ((1 : Int) = 2 → (mm_ofWord μ a2 1) ≤ 8) := mr_ofWord hB a2 1 (by omega) (by omega)
        by_cases c18 : (mm_nounIn μ (mm_ofItem μ a1 2) a1) = (mm_ofWord μ a2 1)
        · rw [if_pos c18]
          have b19 : 0 ≤ (μ 114 0) ∧ (μ 114 0) ≤ 1 := hB 114 0
          by_cases c20 : (μ 114 0) = 1
          · rw [if_pos c20]
            have r21 : 0 ≤ (mm_holesWith μ a2) ∧ (mm_holesWith μ a2) ≤ 20 := mr_holesWith hB a2 (by omega)
            by_cases c22 : 0 < (mm_holesWith μ a2)
            · rw [if_pos c22]
              first | omega | (dsimp only; omega)
            · rw [if_neg c22]
              first | omega | (dsimp only; omega)
          · rw [if_neg c20]
            first | omega | (dsimp only; omega)
        · rw [if_neg c18]
          first | omega | (dsimp only; omega)
    · rw [if_neg c7]
      have b8 : 0 ≤ (μ 114 0) ∧ (μ 114 0) ≤ 1 := hB 114 0
      by_cases c9 : (μ 114 0) = 1
      · rw [if_pos c9]
        have r10 : 0 ≤ (mm_holesWith μ a2) ∧ (mm_holesWith μ a2) ≤ 20 := mr_holesWith hB a2 (by omega)
        by_cases c11 : 0 < (mm_holesWith μ a2)
        · rw [if_pos c11]
          first | omega | (dsimp only; omega)
        · rw [if_neg c11]
          first | omega | (dsimp only; omega)
      · rw [if_neg c9]
        first | omega | (dsimp only; omega)
  · rw [if_neg c3]
    first | omega | (dsimp only; omega)
set_option maxHeartbeats 4000000 in
set_option maxRecDepth 100000 in
theorem mz_why {μ : zM} (hB : zB μ) (a1 a2 : Int) (h0 : 0 ≤ a1 ∧ a1 ≤ 19) (h1 : 0 ≤ a2 ∧ a2 ≤ 23) : Dz md_6_why [zr 113, zi a1, zi a2] zSh μ (some (zi (mm_why μ a1 a2))) zSh μ := by
  refine Dz.of (by decide) rfl rfl (show Ez md_6_why 0 0 0 [(0, zr 113), (1, zi a1), (2, zi a2)] [] zSh μ (some (zi (mm_why μ a1 a2))) zSh μ from ?_)
  unfold mm_why
  refine Az.blk kd_6_why_0 (show Ez md_6_why 0 0 3 [(0, zr 113), (1, zi a1), (2, zi a2)] [zi 0, zi a2, zr 113] zSh μ _ _ _ from ?_)
  refine Az.cV (mc := md_6_ofWord) (k := 113) (n := 2) (As := [zi a2, zi 0]) (rest := []) kr_6_why_3 zw_722 ok_6_ofWord rfl rfl rfl trivial (mz_ofWord hB a2 0 (by omega) (by omega)) rfl rfl (show Ez md_6_why 0 0 6 [(0, zr 113), (1, zi a1), (2, zi a2)] [zi (mm_ofWord μ a2 0)] zSh μ _ _ _ from ?_)
  have r1 : 0 ≤ (mm_ofWord μ a2 0) ∧ (mm_ofWord μ a2 0) ≤ 26 ∧ ((0 : Int) < 2 → (mm_ofWord μ a2 0) ≤ 2) ∧ ((0 : Int) = 2 → (mm_ofWord μ a2 0) ≤ 8) := mr_ofWord hB a2 0 (by omega) (by omega)
  refine Az.blk kd_6_why_6 (show Ez md_6_why 0 0 9 [(0, zr 113), (1, zi a1), (2, zi a2)] [zi 1, zi a1, zr 113, zi (mm_ofWord μ a2 0)] zSh μ _ _ _ from ?_)
  refine Az.cV (mc := md_6_ofItem) (k := 113) (n := 2) (As := [zi a1, zi 1]) (rest := [zi (mm_ofWord μ a2 0)]) kr_6_why_9 zw_682 ok_6_ofItem rfl rfl rfl trivial (mz_ofItem hB a1 1 (by omega) (by omega)) rfl rfl (show Ez md_6_why 0 0 12 [(0, zr 113), (1, zi a1), (2, zi a2)] [zi (mm_ofItem μ a1 1), zi (mm_ofWord μ a2 0)] zSh μ _ _ _ from ?_)
  have r2 : -5 ≤ (mm_ofItem μ a1 1) ∧ (mm_ofItem μ a1 1) ≤ 26 ∧ ((1 : Int) = 0 → 0 ≤ (mm_ofItem μ a1 1) ∧ (mm_ofItem μ a1 1) ≤ 1) ∧ ((1 : Int) = 1 → 0 ≤ (mm_ofItem μ a1 1) ∧ (mm_ofItem μ a1 1) ≤ 10) ∧ ((1 : Int) = 2 → 0 ≤ (mm_ofItem μ a1 1) ∧ (mm_ofItem μ a1 1) ≤ 9) ∧ ((1 : Int) = 3 → (mm_ofItem μ a1 1) = -5 ∨ (0 ≤ (mm_ofItem μ a1 1) ∧ (mm_ofItem μ a1 1) ≤ 23)) ∧ (3 < (1 : Int) → 0 ≤ (mm_ofItem μ a1 1)) := mr_ofItem hB a1 1 (by omega) (by omega)
  refine Az.blk kd_6_why_12 (show zR (mm_ofWord μ a2 0) ∧ zR (mm_ofItem μ a1 1) ∧ (((mm_ofWord μ a2 0) = (mm_ofItem μ a1 1) → Ez md_6_why 0 0 17 [(0, zr 113), (1, zi a1), (2, zi a2)] [] zSh μ _ _ _) ∧ (¬ (mm_ofWord μ a2 0) = (mm_ofItem μ a1 1) → Ez md_6_why 0 0 15 [(0, zr 113), (1, zi a1), (2, zi a2)] [] zSh μ _ _ _)) from ⟨(by omega), (by omega), fun c3 => ?_, fun c3 => ?_⟩)
  · rw [if_pos c3]
    refine Az.blk kd_6_why_17 (show Ez md_6_why 0 0 21 [(0, zr 113), (1, zi a1), (2, zi a2)] [zi 2, zi a1, zr 113, zr 113] zSh μ _ _ _ from ?_)
    refine Az.cV (mc := md_6_ofItem) (k := 113) (n := 2) (As := [zi a1, zi 2]) (rest := [zr 113]) kr_6_why_21 zw_682 ok_6_ofItem rfl rfl rfl trivial (mz_ofItem hB a1 2 (by omega) (by omega)) rfl rfl (show Ez md_6_why 0 0 24 [(0, zr 113), (1, zi a1), (2, zi a2)] [zi (mm_ofItem μ a1 2), zr 113] zSh μ _ _ _ from ?_)
    have r4 : -5 ≤ (mm_ofItem μ a1 2) ∧ (mm_ofItem μ a1 2) ≤ 26 ∧ ((2 : Int) = 0 → 0 ≤ (mm_ofItem μ a1 2) ∧ (mm_ofItem μ a1 2) ≤ 1) ∧ ((2 : Int) = 1 → 0 ≤ (mm_ofItem μ a1 2) ∧ (mm_ofItem μ a1 2) ≤ 10) ∧ ((2 : Int) = 2 → 0 ≤ (mm_ofItem μ a1 2) ∧ (mm_ofItem μ a1 2) ≤ 9) ∧ ((2 : Int) = 3 → (mm_ofItem μ a1 2) = -5 ∨ (0 ≤ (mm_ofItem μ a1 2) ∧ (mm_ofItem μ a1 2) ≤ 23)) ∧ (3 < (2 : Int) → 0 ≤ (mm_ofItem μ a1 2)) := mr_ofItem hB a1 2 (by omega) (by omega)
    refine Az.blk kd_6_why_24 (show Ez md_6_why 0 0 25 [(0, zr 113), (1, zi a1), (2, zi a2)] [zi a1, zi (mm_ofItem μ a1 2), zr 113] zSh μ _ _ _ from ?_)
    refine Az.cV (mc := md_6_nounIn) (k := 113) (n := 2) (As := [zi (mm_ofItem μ a1 2), zi a1]) (rest := []) kr_6_why_25 zw_726 ok_6_nounIn rfl rfl rfl trivial (mz_nounIn hB (mm_ofItem μ a1 2) a1 (by omega) (by omega)) rfl rfl (show Ez md_6_why 0 0 28 [(0, zr 113), (1, zi a1), (2, zi a2)] [zi (mm_nounIn μ (mm_ofItem μ a1 2) a1)] zSh μ _ _ _ from ?_)
    have r5 : ((mm_nounIn μ (mm_ofItem μ a1 2) a1) = -5 ∨ (0 ≤ (mm_nounIn μ (mm_ofItem μ a1 2) a1) ∧ (mm_nounIn μ (mm_ofItem μ a1 2) a1) ≤ 2)) := mr_nounIn hB (mm_ofItem μ a1 2) a1 (by omega) (by omega)
    refine Az.blk kd_6_why_28 (show Ez md_6_why 0 0 32 [(3, zi (mm_nounIn μ (mm_ofItem μ a1 2) a1)), (0, zr 113), (1, zi a1), (2, zi a2)] [zi 0, zi a2, zr 113] zSh μ _ _ _ from ?_)
    refine Az.cV (mc := md_6_ofWord) (k := 113) (n := 2) (As := [zi a2, zi 0]) (rest := []) kr_6_why_32 zw_722 ok_6_ofWord rfl rfl rfl trivial (mz_ofWord hB a2 0 (by omega) (by omega)) rfl rfl (show Ez md_6_why 0 0 35 [(3, zi (mm_nounIn μ (mm_ofItem μ a1 2) a1)), (0, zr 113), (1, zi a1), (2, zi a2)] [zi (mm_ofWord μ a2 0)] zSh μ _ _ _ from ?_)
    have r6 : 0 ≤ (mm_ofWord μ a2 0) ∧ (mm_ofWord μ a2 0) ≤ 26 ∧ ((0 : Int) < 2 → (mm_ofWord μ a2 0) ≤ 2) ∧ ((0 : Int) = 2 → (mm_ofWord μ a2 0) ≤ 8) := mr_ofWord hB a2 0 (by omega) (by omega)
    refine Az.blk kd_6_why_35 (show zR (mm_ofWord μ a2 0) ∧ ((¬ (mm_ofWord μ a2 0) = 0 → Ez md_6_why 0 0 56 [(3, zi (mm_nounIn μ (mm_ofItem μ a1 2) a1)), (0, zr 113), (1, zi a1), (2, zi a2)] [] zSh μ _ _ _) ∧ ((mm_ofWord μ a2 0) = 0 → Ez md_6_why 0 0 38 [(3, zi (mm_nounIn μ (mm_ofItem μ a1 2) a1)), (0, zr 113), (1, zi a1), (2, zi a2)] [] zSh μ _ _ _)) from ⟨(by omega), fun c7 => ?_, fun c7 => ?_⟩)
    · rw [if_neg c7]
      have b8 : 0 ≤ (μ 114 0) ∧ (μ 114 0) ≤ 1 := hB 114 0
      refine Az.blk kd_6_why_56 (show (0 ≤ 0 ∧ 0 < 604) ∧ zR (μ 114 0) ∧ zR 1 ∧ ((¬ (μ 114 0) = 1 → Ez md_6_why 0 0 78 [(3, zi (mm_nounIn μ (mm_ofItem μ a1 2) a1)), (0, zr 113), (1, zi a1), (2, zi a2)] [] zSh μ _ _ _) ∧ ((μ 114 0) = 1 → Ez md_6_why 0 0 66 [(3, zi (mm_nounIn μ (mm_ofItem μ a1 2) a1)), (0, zr 113), (1, zi a1), (2, zi a2)] [] zSh μ _ _ _)) from ⟨(by omega), (by omega), (by omega), fun c9 => ?_, fun c9 => ?_⟩)
      · rw [if_neg c9]
        refine Az.blk kd_6_why_78 (show Ez md_6_why 0 0 79 [(3, zi (mm_nounIn μ (mm_ofItem μ a1 2) a1)), (0, zr 113), (1, zi a1), (2, zi a2)] [zi 0] zSh μ _ _ _ from ?_)
        exact Ez.iret kr_6_why_79 rfl (Nat.zero_le _) (Nat.zero_le _) rfl rfl
      · rw [if_pos c9]
        refine Az.blk kd_6_why_66 (show Ez md_6_why 0 0 68 [(3, zi (mm_nounIn μ (mm_ofItem μ a1 2) a1)), (0, zr 113), (1, zi a1), (2, zi a2)] [zi a2, zr 113] zSh μ _ _ _ from ?_)
        refine Az.cV (mc := md_6_holesWith) (k := 113) (n := 1) (As := [zi a2]) (rest := []) kr_6_why_68 zw_730 ok_6_holesWith rfl rfl rfl trivial (mz_holesWith hB a2 (by omega)) rfl rfl (show Ez md_6_why 0 0 71 [(3, zi (mm_nounIn μ (mm_ofItem μ a1 2) a1)), (0, zr 113), (1, zi a1), (2, zi a2)] [zi (mm_holesWith μ a2)] zSh μ _ _ _ from ?_)
        have r10 : 0 ≤ (mm_holesWith μ a2) ∧ (mm_holesWith μ a2) ≤ 20 := mr_holesWith hB a2 (by omega)
        refine Az.blk kd_6_why_71 (show zR (mm_holesWith μ a2) ∧ ((¬ 0 < (mm_holesWith μ a2) → Ez md_6_why 0 0 78 [(3, zi (mm_nounIn μ (mm_ofItem μ a1 2) a1)), (0, zr 113), (1, zi a1), (2, zi a2)] [] zSh μ _ _ _) ∧ (0 < (mm_holesWith μ a2) → Ez md_6_why 0 0 74 [(3, zi (mm_nounIn μ (mm_ofItem μ a1 2) a1)), (0, zr 113), (1, zi a1), (2, zi a2)] [] zSh μ _ _ _)) from ⟨(by omega), fun c11 => ?_, fun c11 => ?_⟩)
        · rw [if_neg c11]
          refine Az.blk kd_6_why_78 (show Ez md_6_why 0 0 79 [(3, zi (mm_nounIn μ (mm_ofItem μ a1 2) a1)), (0, zr 113), (1, zi a1), (2, zi a2)] [zi 0] zSh μ _ _ _ from ?_)
          exact Ez.iret kr_6_why_79 rfl (Nat.zero_le _) (Nat.zero_le _) rfl rfl
        · rw [if_pos c11]
          refine Az.blk kd_6_why_74 (show Ez md_6_why 0 0 79 [(3, zi (mm_nounIn μ (mm_ofItem μ a1 2) a1)), (0, zr 113), (1, zi a1), (2, zi a2)] [zi 3] zSh μ _ _ _ from ?_)
          exact Ez.iret kr_6_why_79 rfl (Nat.zero_le _) (Nat.zero_le _) rfl rfl
    · rw [if_pos c7]
      refine Az.blk kd_6_why_38 (show zR (mm_nounIn μ (mm_ofItem μ a1 2) a1) ∧ zR (-5) ∧ (((mm_nounIn μ (mm_ofItem μ a1 2) a1) = (-5) → Ez md_6_why 0 0 56 [(3, zi (mm_nounIn μ (mm_ofItem μ a1 2) a1)), (0, zr 113), (1, zi a1), (2, zi a2)] [] zSh μ _ _ _) ∧ (¬ (mm_nounIn μ (mm_ofItem μ a1 2) a1) = (-5) → Ez md_6_why 0 0 44 [(3, zi (mm_nounIn μ (mm_ofItem μ a1 2) a1)), (0, zr 113), (1, zi a1), (2, zi a2)] [] zSh μ _ _ _)) from ⟨(by omega), (by omega), fun c12 => ?_, fun c12 => ?_⟩)
      · rw [if_pos c12]
        have b13 : 0 ≤ (μ 114 0) ∧ (μ 114 0) ≤ 1 := hB 114 0
        refine Az.blk kd_6_why_56 (show (0 ≤ 0 ∧ 0 < 604) ∧ zR (μ 114 0) ∧ zR 1 ∧ ((¬ (μ 114 0) = 1 → Ez md_6_why 0 0 78 [(3, zi (mm_nounIn μ (mm_ofItem μ a1 2) a1)), (0, zr 113), (1, zi a1), (2, zi a2)] [] zSh μ _ _ _) ∧ ((μ 114 0) = 1 → Ez md_6_why 0 0 66 [(3, zi (mm_nounIn μ (mm_ofItem μ a1 2) a1)), (0, zr 113), (1, zi a1), (2, zi a2)] [] zSh μ _ _ _)) from ⟨(by omega), (by omega), (by omega), fun c14 => ?_, fun c14 => ?_⟩)
        · rw [if_neg c14]
          refine Az.blk kd_6_why_78 (show Ez md_6_why 0 0 79 [(3, zi (mm_nounIn μ (mm_ofItem μ a1 2) a1)), (0, zr 113), (1, zi a1), (2, zi a2)] [zi 0] zSh μ _ _ _ from ?_)
          exact Ez.iret kr_6_why_79 rfl (Nat.zero_le _) (Nat.zero_le _) rfl rfl
        · rw [if_pos c14]
          refine Az.blk kd_6_why_66 (show Ez md_6_why 0 0 68 [(3, zi (mm_nounIn μ (mm_ofItem μ a1 2) a1)), (0, zr 113), (1, zi a1), (2, zi a2)] [zi a2, zr 113] zSh μ _ _ _ from ?_)
          refine Az.cV (mc := md_6_holesWith) (k := 113) (n := 1) (As := [zi a2]) (rest := []) kr_6_why_68 zw_730 ok_6_holesWith rfl rfl rfl trivial (mz_holesWith hB a2 (by omega)) rfl rfl (show Ez md_6_why 0 0 71 [(3, zi (mm_nounIn μ (mm_ofItem μ a1 2) a1)), (0, zr 113), (1, zi a1), (2, zi a2)] [zi (mm_holesWith μ a2)] zSh μ _ _ _ from ?_)
          have r15 : 0 ≤ (mm_holesWith μ a2) ∧ (mm_holesWith μ a2) ≤ 20 := mr_holesWith hB a2 (by omega)
          refine Az.blk kd_6_why_71 (show zR (mm_holesWith μ a2) ∧ ((¬ 0 < (mm_holesWith μ a2) → Ez md_6_why 0 0 78 [(3, zi (mm_nounIn μ (mm_ofItem μ a1 2) a1)), (0, zr 113), (1, zi a1), (2, zi a2)] [] zSh μ _ _ _) ∧ (0 < (mm_holesWith μ a2) → Ez md_6_why 0 0 74 [(3, zi (mm_nounIn μ (mm_ofItem μ a1 2) a1)), (0, zr 113), (1, zi a1), (2, zi a2)] [] zSh μ _ _ _)) from ⟨(by omega), fun c16 => ?_, fun c16 => ?_⟩)
          · rw [if_neg c16]
            refine Az.blk kd_6_why_78 (show Ez md_6_why 0 0 79 [(3, zi (mm_nounIn μ (mm_ofItem μ a1 2) a1)), (0, zr 113), (1, zi a1), (2, zi a2)] [zi 0] zSh μ _ _ _ from ?_)
            exact Ez.iret kr_6_why_79 rfl (Nat.zero_le _) (Nat.zero_le _) rfl rfl
          · rw [if_pos c16]
            refine Az.blk kd_6_why_74 (show Ez md_6_why 0 0 79 [(3, zi (mm_nounIn μ (mm_ofItem μ a1 2) a1)), (0, zr 113), (1, zi a1), (2, zi a2)] [zi 3] zSh μ _ _ _ from ?_)
            exact Ez.iret kr_6_why_79 rfl (Nat.zero_le _) (Nat.zero_le _) rfl rfl
      · rw [if_neg c12]
        refine Az.blk kd_6_why_44 (show Ez md_6_why 0 0 48 [(3, zi (mm_nounIn μ (mm_ofItem μ a1 2) a1)), (0, zr 113), (1, zi a1), (2, zi a2)] [zi 1, zi a2, zr 113, zi (mm_nounIn μ (mm_ofItem μ a1 2) a1)] zSh μ _ _ _ from ?_)
        refine Az.cV (mc := md_6_ofWord) (k := 113) (n := 2) (As := [zi a2, zi 1]) (rest := [zi (mm_nounIn μ (mm_ofItem μ a1 2) a1)]) kr_6_why_48 zw_722 ok_6_ofWord rfl rfl rfl trivial (mz_ofWord hB a2 1 (by omega) (by omega)) rfl rfl (show Ez md_6_why 0 0 51 [(3, zi (mm_nounIn μ (mm_ofItem μ a1 2) a1)), (0, zr 113), (1, zi a1), (2, zi a2)] [zi (mm_ofWord μ a2 1), zi (mm_nounIn μ (mm_ofItem μ a1 2) a1)] zSh μ _ _ _ from ?_)
        have r17 : 0 ≤ (mm_ofWord μ a2 1) ∧ (mm_ofWord μ a2 1) ≤ 26 ∧ ((1 : Int) < 2 → (mm_ofWord μ a2 1) ≤ 2) ∧ ((1 : Int) = 2 → (mm_ofWord μ a2 1) ≤ 8) := mr_ofWord hB a2 1 (by omega) (by omega)
        refine Az.blk kd_6_why_51 (show zR (mm_nounIn μ (mm_ofItem μ a1 2) a1) ∧ zR (mm_ofWord μ a2 1) ∧ (((mm_nounIn μ (mm_ofItem μ a1 2) a1) = (mm_ofWord μ a2 1) → Ez md_6_why 0 0 56 [(3, zi (mm_nounIn μ (mm_ofItem μ a1 2) a1)), (0, zr 113), (1, zi a1), (2, zi a2)] [] zSh μ _ _ _) ∧ (¬ (mm_nounIn μ (mm_ofItem μ a1 2) a1) = (mm_ofWord μ a2 1) → Ez md_6_why 0 0 54 [(3, zi (mm_nounIn μ (mm_ofItem μ a1 2) a1)), (0, zr 113), (1, zi a1), (2, zi a2)] [] zSh μ _ _ _)) from ⟨(by omega), (by omega), fun c18 => ?_, fun c18 => ?_⟩)
        · rw [if_pos c18]
          have b19 : 0 ≤ (μ 114 0) ∧ (μ 114 0) ≤ 1 := hB 114 0
          refine Az.blk kd_6_why_56 (show (0 ≤ 0 ∧ 0 < 604) ∧ zR (μ 114 0) ∧ zR 1 ∧ ((¬ (μ 114 0) = 1 → Ez md_6_why 0 0 78 [(3, zi (mm_nounIn μ (mm_ofItem μ a1 2) a1)), (0, zr 113), (1, zi a1), (2, zi a2)] [] zSh μ _ _ _) ∧ ((μ 114 0) = 1 → Ez md_6_why 0 0 66 [(3, zi (mm_nounIn μ (mm_ofItem μ a1 2) a1)), (0, zr 113), (1, zi a1), (2, zi a2)] [] zSh μ _ _ _)) from ⟨(by omega), (by omega), (by omega), fun c20 => ?_, fun c20 => ?_⟩)
          · rw [if_neg c20]
            refine Az.blk kd_6_why_78 (show Ez md_6_why 0 0 79 [(3, zi (mm_nounIn μ (mm_ofItem μ a1 2) a1)), (0, zr 113), (1, zi a1), (2, zi a2)] [zi 0] zSh μ _ _ _ from ?_)
            exact Ez.iret kr_6_why_79 rfl (Nat.zero_le _) (Nat.zero_le _) rfl rfl
          · rw [if_pos c20]
            refine Az.blk kd_6_why_66 (show Ez md_6_why 0 0 68 [(3, zi (mm_nounIn μ (mm_ofItem μ a1 2) a1)), (0, zr 113), (1, zi a1), (2, zi a2)] [zi a2, zr 113] zSh μ _ _ _ from ?_)
            refine Az.cV (mc := md_6_holesWith) (k := 113) (n := 1) (As := [zi a2]) (rest := []) kr_6_why_68 zw_730 ok_6_holesWith rfl rfl rfl trivial (mz_holesWith hB a2 (by omega)) rfl rfl (show Ez md_6_why 0 0 71 [(3, zi (mm_nounIn μ (mm_ofItem μ a1 2) a1)), (0, zr 113), (1, zi a1), (2, zi a2)] [zi (mm_holesWith μ a2)] zSh μ _ _ _ from ?_)
            have r21 : 0 ≤ (mm_holesWith μ a2) ∧ (mm_holesWith μ a2) ≤ 20 := mr_holesWith hB a2 (by omega)
            refine Az.blk kd_6_why_71 (show zR (mm_holesWith μ a2) ∧ ((¬ 0 < (mm_holesWith μ a2) → Ez md_6_why 0 0 78 [(3, zi (mm_nounIn μ (mm_ofItem μ a1 2) a1)), (0, zr 113), (1, zi a1), (2, zi a2)] [] zSh μ _ _ _) ∧ (0 < (mm_holesWith μ a2) → Ez md_6_why 0 0 74 [(3, zi (mm_nounIn μ (mm_ofItem μ a1 2) a1)), (0, zr 113), (1, zi a1), (2, zi a2)] [] zSh μ _ _ _)) from ⟨(by omega), fun c22 => ?_, fun c22 => ?_⟩)
            · rw [if_neg c22]
              refine Az.blk kd_6_why_78 (show Ez md_6_why 0 0 79 [(3, zi (mm_nounIn μ (mm_ofItem μ a1 2) a1)), (0, zr 113), (1, zi a1), (2, zi a2)] [zi 0] zSh μ _ _ _ from ?_)
              exact Ez.iret kr_6_why_79 rfl (Nat.zero_le _) (Nat.zero_le _) rfl rfl
            · rw [if_pos c22]
              refine Az.blk kd_6_why_74 (show Ez md_6_why 0 0 79 [(3, zi (mm_nounIn μ (mm_ofItem μ a1 2) a1)), (0, zr 113), (1, zi a1), (2, zi a2)] [zi 3] zSh μ _ _ _ from ?_)
              exact Ez.iret kr_6_why_79 rfl (Nat.zero_le _) (Nat.zero_le _) rfl rfl
        · rw [if_neg c18]
          refine Az.blk kd_6_why_54 (show Ez md_6_why 0 0 55 [(3, zi (mm_nounIn μ (mm_ofItem μ a1 2) a1)), (0, zr 113), (1, zi a1), (2, zi a2)] [zi 2] zSh μ _ _ _ from ?_)
          exact Ez.iret kr_6_why_55 rfl (Nat.zero_le _) (Nat.zero_le _) rfl rfl
  · rw [if_neg c3]
    refine Az.blk kd_6_why_15 (show Ez md_6_why 0 0 16 [(0, zr 113), (1, zi a1), (2, zi a2)] [zi 1] zSh μ _ _ _ from ?_)
    exact Ez.iret kr_6_why_16 rfl (Nat.zero_le _) (Nat.zero_le _) rfl rfl
def kb_6_isHere_0 : List zI := [(.aload_n 0, 1, 0, 0), (.getfield 128, 3, 6, 9), (.aload_n 0, 1, 0, 0), (.getfield 88, 3, 6, 8), (.if_icmp .ge 27, 3, 35, 0)]
theorem kd_6_isHere_0 : zdec md_6_isHere 0 kb_6_isHere_0 = true := by decide +kernel
def kb_6_isHere_35 : List zI := [(.iconst 0, 1, 0, 0)]
theorem kd_6_isHere_35 : zdec md_6_isHere 35 kb_6_isHere_35 = true := by decide +kernel
theorem kr_6_isHere_36 : decode md_6_isHere.2.1 36 = .ok (.ireturn, 1) := by decide +kernel
def kb_6_isHere_11 : List zI := [(.aload_n 0, 1, 0, 0), (.getfield 25, 3, 6, 7), (.aload_n 0, 1, 0, 0), (.getfield 128, 3, 6, 9), (.iaload, 1, 0, 0), (.i2l, 1, 0, 0), (.iload_n 1, 1, 0, 0), (.i2l, 1, 0, 0), (.iload_n 2, 1, 0, 0), (.i2l, 1, 0, 0)]
theorem kd_6_isHere_11 : zdec md_6_isHere 11 kb_6_isHere_11 = true := by decide +kernel
theorem kr_6_isHere_25 : decode md_6_isHere.2.1 25 = .ok (.invokestatic 32, 3) := by decide +kernel
def kb_6_isHere_28 : List zI := [(.ifCond .eq 7, 3, 35, 0)]
theorem kd_6_isHere_28 : zdec md_6_isHere 28 kb_6_isHere_28 = true := by decide +kernel
def kb_6_isHere_31 : List zI := [(.iconst 1, 1, 0, 0), (.goto 4, 3, 36, 0)]
theorem kd_6_isHere_31 : zdec md_6_isHere 31 kb_6_isHere_31 = true := by decide +kernel
noncomputable def mm_isHere (μ : zM) (a1 a2 : Int) : Int := (if (μ 113 9) < (μ 113 8) then (if (mm_in (μ 119 (μ 113 9)) a1 a2) = 0 then 0 else 1) else 0)
set_option maxHeartbeats 4000000 in
set_option maxRecDepth 100000 in
theorem mr_isHere {μ : zM} (hB : zB μ) (a1 a2 : Int) (h0 : -2147483648 ≤ a1 ∧ a1 ≤ 2147483647) (h1 : -2147483648 ≤ a2 ∧ a2 ≤ 2147483647) : 0 ≤ (mm_isHere μ a1 a2) ∧ (mm_isHere μ a1 a2) ≤ 1 ∧ ((mm_isHere μ a1 a2) = 1 → μ 113 9 < μ 113 8 ∧ a1 ≤ μ 119 (μ 113 9) ∧ μ 119 (μ 113 9) ≤ a2) := by
  unfold mm_isHere
  have b1 : 0 ≤ (μ 113 9) ∧ (μ 113 9) ≤ 60 := hB 113 9
  have b2 : 0 ≤ (μ 113 8) ∧ (μ 113 8) ≤ 60 := hB 113 8
  by_cases c3 : (μ 113 9) < (μ 113 8)
  · rw [if_pos c3]
    have b4 : 0 ≤ (μ 113 9) ∧ (μ 113 9) ≤ 60 := hB 113 9
    have b5 : 0 ≤ (μ 119 (μ 113 9)) ∧ (μ 119 (μ 113 9)) ≤ 65535 := hB 119 (μ 113 9)
    have r6 : 0 ≤ (mm_in (μ 119 (μ 113 9)) a1 a2) ∧ (mm_in (μ 119 (μ 113 9)) a1 a2) ≤ 1 ∧ ((mm_in (μ 119 (μ 113 9)) a1 a2) = 1 → a1 ≤ (μ 119 (μ 113 9)) ∧ (μ 119 (μ 113 9)) ≤ a2) ∧ ((mm_in (μ 119 (μ 113 9)) a1 a2) = 0 → (μ 119 (μ 113 9)) < a1 ∨ a2 < (μ 119 (μ 113 9))) := mr_in (μ 119 (μ 113 9)) a1 a2 (by omega) (by omega) (by omega)
    by_cases c7 : (mm_in (μ 119 (μ 113 9)) a1 a2) = 0
    · rw [if_pos c7]
      first | omega | (dsimp only; omega)
    · rw [if_neg c7]
      first | omega | (dsimp only; omega)
  · rw [if_neg c3]
    first | omega | (dsimp only; omega)
set_option maxHeartbeats 4000000 in
set_option maxRecDepth 100000 in
theorem mz_isHere {μ : zM} (hB : zB μ) (a1 a2 : Int) (h0 : -2147483648 ≤ a1 ∧ a1 ≤ 2147483647) (h1 : -2147483648 ≤ a2 ∧ a2 ≤ 2147483647) : Dz md_6_isHere [zr 113, zi a1, zi a2] zSh μ (some (zi (mm_isHere μ a1 a2))) zSh μ := by
  refine Dz.of (by decide) rfl rfl (show Ez md_6_isHere 0 0 0 [(0, zr 113), (1, zi a1), (2, zi a2)] [] zSh μ (some (zi (mm_isHere μ a1 a2))) zSh μ from ?_)
  unfold mm_isHere
  have b1 : 0 ≤ (μ 113 9) ∧ (μ 113 9) ≤ 60 := hB 113 9
  have b2 : 0 ≤ (μ 113 8) ∧ (μ 113 8) ≤ 60 := hB 113 8
  refine Az.blk kd_6_isHere_0 (show zR (μ 113 9) ∧ zR (μ 113 8) ∧ ((¬ (μ 113 9) < (μ 113 8) → Ez md_6_isHere 0 0 35 [(0, zr 113), (1, zi a1), (2, zi a2)] [] zSh μ _ _ _) ∧ ((μ 113 9) < (μ 113 8) → Ez md_6_isHere 0 0 11 [(0, zr 113), (1, zi a1), (2, zi a2)] [] zSh μ _ _ _)) from ⟨(by omega), (by omega), fun c3 => ?_, fun c3 => ?_⟩)
  · rw [if_neg c3]
    refine Az.blk kd_6_isHere_35 (show Ez md_6_isHere 0 0 36 [(0, zr 113), (1, zi a1), (2, zi a2)] [zi 0] zSh μ _ _ _ from ?_)
    exact Ez.zret kr_6_isHere_36 rfl (Nat.zero_le _) (Nat.zero_le _) (Or.inl rfl) rfl rfl
  · rw [if_pos c3]
    have b4 : 0 ≤ (μ 113 9) ∧ (μ 113 9) ≤ 60 := hB 113 9
    have b5 : 0 ≤ (μ 119 (μ 113 9)) ∧ (μ 119 (μ 113 9)) ≤ 65535 := hB 119 (μ 113 9)
    refine Az.blk kd_6_isHere_11 (show (0 ≤ (μ 113 9) ∧ (μ 113 9) < 60) ∧ zR (μ 119 (μ 113 9)) ∧ zR a1 ∧ zR a2 ∧ Ez md_6_isHere 0 0 25 [(0, zr 113), (1, zi a1), (2, zi a2)] [zl a2, zl a1, zl (μ 119 (μ 113 9))] zSh μ _ _ _ from ⟨(by omega), (by omega), (by omega), (by omega), ?_⟩)
    refine Az.cS (mc := md_6_in) (n := 3) (As := [zl (μ 119 (μ 113 9)), zl a1, zl a2]) (rest := []) kr_6_isHere_25 zw_626 ok_6_in rfl rfl (mz_in (μ 119 (μ 113 9)) a1 a2 (by omega) (by omega) (by omega)) rfl rfl (show Ez md_6_isHere 0 0 28 [(0, zr 113), (1, zi a1), (2, zi a2)] [zi (mm_in (μ 119 (μ 113 9)) a1 a2)] zSh μ _ _ _ from ?_)
    have r6 : 0 ≤ (mm_in (μ 119 (μ 113 9)) a1 a2) ∧ (mm_in (μ 119 (μ 113 9)) a1 a2) ≤ 1 ∧ ((mm_in (μ 119 (μ 113 9)) a1 a2) = 1 → a1 ≤ (μ 119 (μ 113 9)) ∧ (μ 119 (μ 113 9)) ≤ a2) ∧ ((mm_in (μ 119 (μ 113 9)) a1 a2) = 0 → (μ 119 (μ 113 9)) < a1 ∨ a2 < (μ 119 (μ 113 9))) := mr_in (μ 119 (μ 113 9)) a1 a2 (by omega) (by omega) (by omega)
    refine Az.blk kd_6_isHere_28 (show zR (mm_in (μ 119 (μ 113 9)) a1 a2) ∧ (((mm_in (μ 119 (μ 113 9)) a1 a2) = 0 → Ez md_6_isHere 0 0 35 [(0, zr 113), (1, zi a1), (2, zi a2)] [] zSh μ _ _ _) ∧ (¬ (mm_in (μ 119 (μ 113 9)) a1 a2) = 0 → Ez md_6_isHere 0 0 31 [(0, zr 113), (1, zi a1), (2, zi a2)] [] zSh μ _ _ _)) from ⟨(by omega), fun c7 => ?_, fun c7 => ?_⟩)
    · rw [if_pos c7]
      refine Az.blk kd_6_isHere_35 (show Ez md_6_isHere 0 0 36 [(0, zr 113), (1, zi a1), (2, zi a2)] [zi 0] zSh μ _ _ _ from ?_)
      exact Ez.zret kr_6_isHere_36 rfl (Nat.zero_le _) (Nat.zero_le _) (Or.inl rfl) rfl rfl
    · rw [if_neg c7]
      refine Az.blk kd_6_isHere_31 (show Ez md_6_isHere 0 0 36 [(0, zr 113), (1, zi a1), (2, zi a2)] [zi 1] zSh μ _ _ _ from ?_)
      exact Ez.zret kr_6_isHere_36 rfl (Nat.zero_le _) (Nat.zero_le _) (Or.inr rfl) rfl rfl
def kb_6_isTie_0 : List zI := [(.iload_n 0, 1, 0, 0), (.i2l, 1, 0, 0), (.lconst 0, 1, 0, 0), (.ldc2_w 107, 3, 9, 0)]
theorem kd_6_isTie_0 : zdec md_6_isTie 0 kb_6_isTie_0 = true := by decide +kernel
theorem kr_6_isTie_6 : decode md_6_isTie.2.1 6 = .ok (.invokestatic 32, 3) := by decide +kernel
theorem kr_6_isTie_9 : decode md_6_isTie.2.1 9 = .ok (.ireturn, 1) := by decide +kernel
noncomputable def mm_isTie (a0 : Int) : Int := (mm_in a0 0 9)
set_option maxHeartbeats 4000000 in
set_option maxRecDepth 100000 in
theorem mr_isTie (a0 : Int) (h0 : -2147483648 ≤ a0 ∧ a0 ≤ 2147483647) : 0 ≤ (mm_isTie a0) ∧ (mm_isTie a0) ≤ 1 ∧ ((mm_isTie a0) = 1 → 0 ≤ a0 ∧ a0 ≤ 9) ∧ ((mm_isTie a0) = 0 → a0 < 0 ∨ 9 < a0) := by
  unfold mm_isTie
  have r1 : 0 ≤ (mm_in a0 0 9) ∧ (mm_in a0 0 9) ≤ 1 ∧ ((mm_in a0 0 9) = 1 → (0 : Int) ≤ a0 ∧ a0 ≤ (9 : Int)) ∧ ((mm_in a0 0 9) = 0 → a0 < (0 : Int) ∨ (9 : Int) < a0) := mr_in a0 0 9 (by omega) (by omega) (by omega)
  first | omega | (dsimp only; omega)
set_option maxHeartbeats 4000000 in
set_option maxRecDepth 100000 in
theorem mz_isTie {μ : zM} (a0 : Int) (h0 : -2147483648 ≤ a0 ∧ a0 ≤ 2147483647) : Dz md_6_isTie [zi a0] zSh μ (some (zi (mm_isTie a0))) zSh μ := by
  refine Dz.of (by decide) rfl rfl (show Ez md_6_isTie 0 0 0 [(0, zi a0)] [] zSh μ (some (zi (mm_isTie a0))) zSh μ from ?_)
  unfold mm_isTie
  refine Az.blk kd_6_isTie_0 (show zR a0 ∧ Ez md_6_isTie 0 0 6 [(0, zi a0)] [zl 9, zl 0, zl a0] zSh μ _ _ _ from ⟨(by omega), ?_⟩)
  refine Az.cS (mc := md_6_in) (n := 3) (As := [zl a0, zl 0, zl 9]) (rest := []) kr_6_isTie_6 zw_626 ok_6_in rfl rfl (mz_in a0 0 9 (by omega) (by omega) (by omega)) rfl rfl (show Ez md_6_isTie 0 0 9 [(0, zi a0)] [zi (mm_in a0 0 9)] zSh μ _ _ _ from ?_)
  have r1 : 0 ≤ (mm_in a0 0 9) ∧ (mm_in a0 0 9) ≤ 1 ∧ ((mm_in a0 0 9) = 1 → (0 : Int) ≤ a0 ∧ a0 ≤ (9 : Int)) ∧ ((mm_in a0 0 9) = 0 → a0 < (0 : Int) ∨ (9 : Int) < a0) := mr_in a0 0 9 (by omega) (by omega) (by omega)
  exact Ez.zret kr_6_isTie_9 rfl (Nat.zero_le _) (Nat.zero_le _) (by omega) rfl rfl
def kb_6_lowest_0 : List zI := [(.iconst 0, 1, 0, 0), (.istore_n 2, 1, 0, 0)]
theorem kd_6_lowest_0 : zdec md_6_lowest 0 kb_6_lowest_0 = true := by decide +kernel
def kb_6_lowest_2 : List zI := [(.iload_n 2, 1, 0, 0), (.aload_n 0, 1, 0, 0), (.getfield 7, 3, 6, 0), (.iconst 2, 1, 0, 0), (.iaload, 1, 0, 0), (.if_icmp .ge 20, 3, 29, 0)]
theorem kd_6_lowest_2 : zdec md_6_lowest 2 kb_6_lowest_2 = true := by decide +kernel
def kb_6_lowest_29 : List zI := [(.bipush (-5), 2, 0, 0)]
theorem kd_6_lowest_29 : zdec md_6_lowest 29 kb_6_lowest_29 = true := by decide +kernel
theorem kr_6_lowest_31 : decode md_6_lowest.2.1 31 = .ok (.ireturn, 1) := by decide +kernel
def kb_6_lowest_12 : List zI := [(.aload_n 0, 1, 0, 0), (.iload_n 1, 1, 0, 0), (.iload_n 2, 1, 0, 0)]
theorem kd_6_lowest_12 : zdec md_6_lowest 12 kb_6_lowest_12 = true := by decide +kernel
theorem kr_6_lowest_15 : decode md_6_lowest.2.1 15 = .ok (.invokevirtual 118, 3) := by decide +kernel
def kb_6_lowest_18 : List zI := [(.ifCond .ne 5, 3, 23, 0)]
theorem kd_6_lowest_18 : zdec md_6_lowest 18 kb_6_lowest_18 = true := by decide +kernel
def kb_6_lowest_23 : List zI := [(.iinc 2 1, 3, 0, 0), (.goto (-24), 3, 2, 0)]
theorem kd_6_lowest_23 : zdec md_6_lowest 23 kb_6_lowest_23 = true := by decide +kernel
def kb_6_lowest_21 : List zI := [(.iload_n 2, 1, 0, 0)]
theorem kd_6_lowest_21 : zdec md_6_lowest 21 kb_6_lowest_21 = true := by decide +kernel
theorem kr_6_lowest_22 : decode md_6_lowest.2.1 22 = .ok (.ireturn, 1) := by decide +kernel
noncomputable def mm_lowest_2 : Nat → zM → Int → Int → Int
  | 0, μ, _, _ => 0
  | f + 1, μ, l1, l2 => (if l2 < (μ 114 2) then (if (mm_why μ l1 l2) = 0 then l2 else (mm_lowest_2 f μ l1 (l2 + 1))) else (-5))
noncomputable def mm_lowest (μ : zM) (a1 : Int) : Int := (mm_lowest_2 zN μ a1 0)
set_option maxHeartbeats 4000000 in
set_option maxRecDepth 100000 in
theorem mr_lowest_2 (f : Nat) (μ : zM) (hB : zB μ) (l1 : Int) (l2 : Int) (i0 : 0 ≤ l2 ∧ l2 ≤ (μ 114 2)) (i1 : 0 ≤ l1 ∧ l1 ≤ 19) (hf : (μ 114 2) - l2 < (f : Int)) : ((mm_lowest_2 f μ l1 l2) = -5 ∨ (0 ≤ (mm_lowest_2 f μ l1 l2) ∧ (mm_lowest_2 f μ l1 l2) ≤ 23)) := by
  induction f generalizing μ l1 l2 with
  | zero => exfalso; omega
  | succ f ih =>
    replace hf : (μ 114 2) - l2 < (f : Int) + 1 := by omega
    rw [mm_lowest_2]
    have b2 : 0 ≤ (μ 114 2) ∧ (μ 114 2) ≤ 24 := hB 114 2
    by_cases c3 : l2 < (μ 114 2)
    · rw [if_pos c3]
      have r4 : 0 ≤ (mm_why μ l1 l2) ∧ (mm_why μ l1 l2) ≤ 3 := mr_why hB l1 l2 (by omega) (by omega)
      by_cases c5 : (mm_why μ l1 l2) = 0
      · rw [if_pos c5]
        first | omega | (dsimp only; omega)
      · rw [if_neg c5]
        have b6 : 0 ≤ (μ 114 2) ∧ (μ 114 2) ≤ 24 := hB 114 2
        exact ih μ hB l1 (l2 + 1) (by omega) (by omega) (by omega)
    · rw [if_neg c3]
      first | omega | (dsimp only; omega)
set_option maxHeartbeats 4000000 in
set_option maxRecDepth 100000 in
theorem mr_lowest {μ : zM} (hB : zB μ) (a1 : Int) (h0 : 0 ≤ a1 ∧ a1 ≤ 19) : ((mm_lowest μ a1) = -5 ∨ (0 ≤ (mm_lowest μ a1) ∧ (mm_lowest μ a1) ≤ 23)) := by
  unfold mm_lowest
  have b1 : 0 ≤ (μ 114 2) ∧ (μ 114 2) ≤ 24 := hB 114 2
  have fb : (3000 : Int) ≤ ((zN : Nat) : Int) := zN_big
  exact mr_lowest_2 zN μ hB a1 0 (by omega) (by omega) (by omega)
set_option maxHeartbeats 4000000 in
set_option maxRecDepth 100000 in
theorem mz_lowest_2 (f : Nat) (μ : zM) (hB : zB μ) (l1 : Int) (l2 : Int) (i0 : 0 ≤ l2 ∧ l2 ≤ (μ 114 2)) (i1 : 0 ≤ l1 ∧ l1 ≤ 19) (hf : (μ 114 2) - l2 < (f : Int)) : Ez md_6_lowest 0 0 2 [(0, zr 113), (1, zi l1), (2, zi l2)] [] zSh μ (some (zi (mm_lowest_2 f μ l1 l2))) zSh μ := by
  induction f generalizing μ l1 l2 with
  | zero => exfalso; omega
  | succ f ih =>
    replace hf : (μ 114 2) - l2 < (f : Int) + 1 := by omega
    rw [mm_lowest_2]
    have b2 : 0 ≤ (μ 114 2) ∧ (μ 114 2) ≤ 24 := hB 114 2
    refine Az.blk kd_6_lowest_2 (show (0 ≤ 2 ∧ 2 < 604) ∧ zR l2 ∧ zR (μ 114 2) ∧ ((¬ l2 < (μ 114 2) → Ez md_6_lowest 0 0 29 [(0, zr 113), (1, zi l1), (2, zi l2)] [] zSh μ _ _ _) ∧ (l2 < (μ 114 2) → Ez md_6_lowest 0 0 12 [(0, zr 113), (1, zi l1), (2, zi l2)] [] zSh μ _ _ _)) from ⟨(by omega), (by omega), (by omega), fun c3 => ?_, fun c3 => ?_⟩)
    · rw [if_neg c3]
      refine Az.blk kd_6_lowest_29 (show Ez md_6_lowest 0 0 31 [(0, zr 113), (1, zi l1), (2, zi l2)] [zi (-5)] zSh μ _ _ _ from ?_)
      exact Ez.iret kr_6_lowest_31 rfl (Nat.zero_le _) (Nat.zero_le _) rfl rfl
    · rw [if_pos c3]
      refine Az.blk kd_6_lowest_12 (show Ez md_6_lowest 0 0 15 [(0, zr 113), (1, zi l1), (2, zi l2)] [zi l2, zi l1, zr 113] zSh μ _ _ _ from ?_)
      refine Az.cV (mc := md_6_why) (k := 113) (n := 2) (As := [zi l1, zi l2]) (rest := []) kr_6_lowest_15 zw_718 ok_6_why rfl rfl rfl trivial (mz_why hB l1 l2 (by omega) (by omega)) rfl rfl (show Ez md_6_lowest 0 0 18 [(0, zr 113), (1, zi l1), (2, zi l2)] [zi (mm_why μ l1 l2)] zSh μ _ _ _ from ?_)
      have r4 : 0 ≤ (mm_why μ l1 l2) ∧ (mm_why μ l1 l2) ≤ 3 := mr_why hB l1 l2 (by omega) (by omega)
      refine Az.blk kd_6_lowest_18 (show zR (mm_why μ l1 l2) ∧ ((¬ (mm_why μ l1 l2) = 0 → Ez md_6_lowest 0 0 23 [(0, zr 113), (1, zi l1), (2, zi l2)] [] zSh μ _ _ _) ∧ ((mm_why μ l1 l2) = 0 → Ez md_6_lowest 0 0 21 [(0, zr 113), (1, zi l1), (2, zi l2)] [] zSh μ _ _ _)) from ⟨(by omega), fun c5 => ?_, fun c5 => ?_⟩)
      · rw [if_neg c5]
        refine Az.blk kd_6_lowest_23 (show Ez md_6_lowest 0 0 2 [(2, zi (l2 + 1)), (0, zr 113), (1, zi l1)] [] zSh μ _ _ _ from ?_)
        have b6 : 0 ≤ (μ 114 2) ∧ (μ 114 2) ≤ 24 := hB 114 2
        refine Az.lvs (lv' := [(0, zr 113), (1, zi l1), (2, zi (l2 + 1))]) ?_ ?_
        · intro q hq; simp only [List.mem_cons, List.not_mem_nil, or_false] at hq; rcases hq with rfl | rfl | rfl <;> rfl
        exact ih μ hB l1 (l2 + 1) (by omega) (by omega) (by omega)
      · rw [if_pos c5]
        refine Az.blk kd_6_lowest_21 (show Ez md_6_lowest 0 0 22 [(0, zr 113), (1, zi l1), (2, zi l2)] [zi l2] zSh μ _ _ _ from ?_)
        exact Ez.iret kr_6_lowest_22 rfl (Nat.zero_le _) (Nat.zero_le _) rfl rfl
set_option maxHeartbeats 4000000 in
set_option maxRecDepth 100000 in
theorem mz_lowest {μ : zM} (hB : zB μ) (a1 : Int) (h0 : 0 ≤ a1 ∧ a1 ≤ 19) : Dz md_6_lowest [zr 113, zi a1] zSh μ (some (zi (mm_lowest μ a1))) zSh μ := by
  refine Dz.of (by decide) rfl rfl (show Ez md_6_lowest 0 0 0 [(0, zr 113), (1, zi a1)] [] zSh μ (some (zi (mm_lowest μ a1))) zSh μ from ?_)
  unfold mm_lowest
  refine Az.blk kd_6_lowest_0 (show Ez md_6_lowest 0 0 2 [(2, zi 0), (0, zr 113), (1, zi a1)] [] zSh μ _ _ _ from ?_)
  have b1 : 0 ≤ (μ 114 2) ∧ (μ 114 2) ≤ 24 := hB 114 2
  refine Az.lvs (lv' := [(0, zr 113), (1, zi a1), (2, zi 0)]) ?_ ?_
  · intro q hq; simp only [List.mem_cons, List.not_mem_nil, or_false] at hq; rcases hq with rfl | rfl | rfl <;> rfl
  have fb : (3000 : Int) ≤ ((zN : Nat) : Int) := zN_big
  exact mz_lowest_2 zN μ hB a1 0 (by omega) (by omega) (by omega)
