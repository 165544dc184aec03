theorem zOkD_of {z v : Int} (h : (z % 14 = 0 → 0 ≤ v ∧ v ≤ 1) ∧ (z % 14 = 1 → 0 ≤ v ∧ v ≤ 10) ∧ (z % 14 = 2 → 0 ≤ v ∧ v ≤ 9) ∧ (z % 14 = 3 → v = -5 ∨ (0 ≤ v ∧ v ≤ 23)) ∧ (3 < z % 14 → 0 ≤ v ∧ v ≤ 26)) : zOk 118 z v := by
  show (if z % 14 = 0 then 0 ≤ v ∧ v ≤ 1 else if z % 14 = 1 then 0 ≤ v ∧ v ≤ 10 else if z % 14 = 2 then 0 ≤ v ∧ v ≤ 9 else if z % 14 = 3 then v = -5 ∨ (0 ≤ v ∧ v ≤ 23) else 0 ≤ v ∧ v ≤ 26)
  obtain ⟨h1, h2, h3, h4, h5⟩ := h
  repeat' split
  · exact h1 ‹_›
  · exact h2 ‹_›
  · exact h3 ‹_›
  · exact h4 ‹_›
  · exact h5 (by omega)
def kb_6_stemFault_0 : List zI := [(.aload_n 0, 1, 0, 0), (.iconst 0, 1, 0, 0), (.putfield 128, 3, 6, 9)]
theorem kd_6_stemFault_0 : zdec md_6_stemFault 0 kb_6_stemFault_0 = true := by decide +kernel
def kb_6_stemFault_5 : List zI := [(.aload_n 0, 1, 0, 0), (.getfield 128, 3, 6, 9), (.bipush 8, 2, 0, 0), (.if_icmp .ge 27, 3, 38, 0)]
theorem kd_6_stemFault_5 : zdec md_6_stemFault 5 kb_6_stemFault_5 = true := by decide +kernel
def kb_6_stemFault_38 : List zI := [(.aload_n 0, 1, 0, 0), (.getfield 128, 3, 6, 9), (.aload_n 0, 1, 0, 0), (.getfield 88, 3, 6, 8), (.if_icmp .ne 15, 3, 61, 0)]
theorem kd_6_stemFault_38 : zdec md_6_stemFault 38 kb_6_stemFault_38 = true := by decide +kernel
def kb_6_stemFault_61 : List zI := [(.aload_n 0, 1, 0, 0), (.getfield 128, 3, 6, 9)]
theorem kd_6_stemFault_61 : zdec md_6_stemFault 61 kb_6_stemFault_61 = true := by decide +kernel
theorem kr_6_stemFault_65 : decode md_6_stemFault.2.1 65 = .ok (.ireturn, 1) := by decide +kernel
def kb_6_stemFault_49 : List zI := [(.aload_n 0, 1, 0, 0), (.getfield 128, 3, 6, 9), (.ifCond .le 8, 3, 61, 0)]
theorem kd_6_stemFault_49 : zdec md_6_stemFault 49 kb_6_stemFault_49 = true := by decide +kernel
def kb_6_stemFault_56 : List zI := [(.bipush (-5), 2, 0, 0), (.goto 7, 3, 65, 0)]
theorem kd_6_stemFault_56 : zdec md_6_stemFault 56 kb_6_stemFault_56 = true := by decide +kernel
def kb_6_stemFault_14 : List zI := [(.aload_n 0, 1, 0, 0), (.bipush 97, 2, 0, 0), (.bipush 122, 2, 0, 0)]
theorem kd_6_stemFault_14 : zdec md_6_stemFault 14 kb_6_stemFault_14 = true := by decide +kernel
theorem kr_6_stemFault_19 : decode md_6_stemFault.2.1 19 = .ok (.invokevirtual 131, 3) := by decide +kernel
def kb_6_stemFault_22 : List zI := [(.ifCond .eq 16, 3, 38, 0)]
theorem kd_6_stemFault_22 : zdec md_6_stemFault 22 kb_6_stemFault_22 = true := by decide +kernel
def kb_6_stemFault_25 : List zI := [(.aload_n 0, 1, 0, 0), (.dup, 1, 0, 0), (.getfield 128, 3, 6, 9), (.iconst 1, 1, 0, 0), (.iadd, 1, 0, 0), (.putfield 128, 3, 6, 9), (.goto (-30), 3, 5, 0)]
theorem kd_6_stemFault_25 : zdec md_6_stemFault 25 kb_6_stemFault_25 = true := by decide +kernel
noncomputable def mm_stemFault_5 : Nat → zM → Int × zM
  | 0, μ => (0, μ)
  | f + 1, μ => (if (μ 113 9) < 8 then (if (mm_isHere μ 97 122) = 0 then (if (μ 113 9) = (μ 113 8) then (if 0 < (μ 113 9) then ((-5), μ) else ((μ 113 9), μ)) else ((μ 113 9), μ)) else (mm_stemFault_5 f (zup μ 113 9 ((μ 113 9) + 1)))) else (if (μ 113 9) = (μ 113 8) then (if 0 < (μ 113 9) then ((-5), μ) else ((μ 113 9), μ)) else ((μ 113 9), μ)))
noncomputable def mm_stemFault (μ : zM) : Int × zM := (mm_stemFault_5 zN (zup μ 113 9 0))
set_option maxHeartbeats 4000000 in
set_option maxRecDepth 100000 in
theorem mr_stemFault_5 (f : Nat) (μ : zM) (hB : zB μ) (i0 : 0 ≤ (μ 113 9) ∧ (μ 113 9) ≤ 8) (hf : 8 - (μ 113 9) < (f : Int)) : ((mm_stemFault_5 f μ ).1 = -5 ∨ (0 ≤ (mm_stemFault_5 f μ ).1 ∧ (mm_stemFault_5 f μ ).1 ≤ 8)) := by
  induction f generalizing μ  with
  | zero => exfalso; omega
  | succ f ih =>
    replace hf : 8 - (μ 113 9) < (f : Int) + 1 := by omega
    rw [mm_stemFault_5]
    have b1 : 0 ≤ (μ 113 9) ∧ (μ 113 9) ≤ 60 := hB 113 9
    by_cases c2 : (μ 113 9) < 8
    · rw [if_pos c2]
      have r10 : 0 ≤ (mm_isHere μ 97 122) ∧ (mm_isHere μ 97 122) ≤ 1 ∧ ((mm_isHere μ 97 122) = 1 → μ 113 9 < μ 113 8 ∧ (97 : Int) ≤ μ 119 (μ 113 9) ∧ μ 119 (μ 113 9) ≤ (122 : Int)) := mr_isHere hB 97 122 (by omega) (by omega)
      by_cases c11 : (mm_isHere μ 97 122) = 0
      · rw [if_pos c11]
        have b12 : 0 ≤ (μ 113 9) ∧ (μ 113 9) ≤ 60 := hB 113 9
        have b13 : 0 ≤ (μ 113 8) ∧ (μ 113 8) ≤ 60 := hB 113 8
        by_cases c14 : (μ 113 9) = (μ 113 8)
        · rw [if_pos c14]
          have b16 : 0 ≤ (μ 113 9) ∧ (μ 113 9) ≤ 60 := hB 113 9
          by_cases c17 : 0 < (μ 113 9)
          · rw [if_pos c17]
            first | omega | (dsimp only; omega)
          · rw [if_neg c17]
            have b18 : 0 ≤ (μ 113 9) ∧ (μ 113 9) ≤ 60 := hB 113 9
            first | omega | (dsimp only; omega)
        · rw [if_neg c14]
          have b15 : 0 ≤ (μ 113 9) ∧ (μ 113 9) ≤ 60 := hB 113 9
          first | omega | (dsimp only; omega)
      · rw [if_neg c11]
        have b19 : 0 ≤ (μ 113 9) ∧ (μ 113 9) ≤ 60 := hB 113 9
        exact ih ((zup μ 113 9 ((μ 113 9) + 1))) (zup_ok (k := 113) (z := 9) (v := ((μ 113 9) + 1)) hB (show 0 ≤ ((μ 113 9) + 1) ∧ ((μ 113 9) + 1) ≤ 60 from by omega)) (show 0 ≤ ((μ 113 9) + 1) ∧ ((μ 113 9) + 1) ≤ 8 from by omega) (show 8 - ((μ 113 9) + 1) < ((f : Nat) : Int) from by omega)
    · rw [if_neg c2]
      have b3 : 0 ≤ (μ 113 9) ∧ (μ 113 9) ≤ 60 := hB 113 9
      have b4 : 0 ≤ (μ 113 8) ∧ (μ 113 8) ≤ 60 := hB 113 8
      by_cases c5 : (μ 113 9) = (μ 113 8)
      · rw [if_pos c5]
        have b7 : 0 ≤ (μ 113 9) ∧ (μ 113 9) ≤ 60 := hB 113 9
        by_cases c8 : 0 < (μ 113 9)
        · rw [if_pos c8]
          first | omega | (dsimp only; omega)
        · rw [if_neg c8]
          have b9 : 0 ≤ (μ 113 9) ∧ (μ 113 9) ≤ 60 := hB 113 9
          first | omega | (dsimp only; omega)
      · rw [if_neg c5]
        have b6 : 0 ≤ (μ 113 9) ∧ (μ 113 9) ≤ 60 := hB 113 9
        first | omega | (dsimp only; omega)
set_option maxHeartbeats 4000000 in
set_option maxRecDepth 100000 in
theorem mr_stemFault {μ : zM} (hB : zB μ)  : ((mm_stemFault μ).1 = -5 ∨ (0 ≤ (mm_stemFault μ).1 ∧ (mm_stemFault μ).1 ≤ 8)) := by
  unfold mm_stemFault
  have fb : (3000 : Int) ≤ ((zN : Nat) : Int) := zN_big
  exact mr_stemFault_5 zN ((zup μ 113 9 0)) (zup_ok (k := 113) (z := 9) (v := 0) hB (show 0 ≤ 0 ∧ 0 ≤ 60 from by omega)) (show 0 ≤ 0 ∧ 0 ≤ 8 from by omega) (show 8 - 0 < ((zN : Nat) : Int) from by omega)
set_option maxHeartbeats 4000000 in
set_option maxRecDepth 100000 in
theorem mb_stemFault_5 (f : Nat) (μ : zM) (hB : zB μ) (i0 : 0 ≤ (μ 113 9) ∧ (μ 113 9) ≤ 8) (hf : 8 - (μ 113 9) < (f : Int)) : zB (mm_stemFault_5 f μ ).2 := by
  induction f generalizing μ  with
  | zero => exfalso; omega
  | succ f ih =>
    replace hf : 8 - (μ 113 9) < (f : Int) + 1 := by omega
    rw [mm_stemFault_5]
    have b1 : 0 ≤ (μ 113 9) ∧ (μ 113 9) ≤ 60 := hB 113 9
    by_cases c2 : (μ 113 9) < 8
    · rw [if_pos c2]
      have r10 : 0 ≤ (mm_isHere μ 97 122) ∧ (mm_isHere μ 97 122) ≤ 1 ∧ ((mm_isHere μ 97 122) = 1 → μ 113 9 < μ 113 8 ∧ (97 : Int) ≤ μ 119 (μ 113 9) ∧ μ 119 (μ 113 9) ≤ (122 : Int)) := mr_isHere hB 97 122 (by omega) (by omega)
      by_cases c11 : (mm_isHere μ 97 122) = 0
      · rw [if_pos c11]
        have b12 : 0 ≤ (μ 113 9) ∧ (μ 113 9) ≤ 60 := hB 113 9
        have b13 : 0 ≤ (μ 113 8) ∧ (μ 113 8) ≤ 60 := hB 113 8
        by_cases c14 : (μ 113 9) = (μ 113 8)
        · rw [if_pos c14]
          have b16 : 0 ≤ (μ 113 9) ∧ (μ 113 9) ≤ 60 := hB 113 9
          by_cases c17 : 0 < (μ 113 9)
          · rw [if_pos c17]
            exact hB
          · rw [if_neg c17]
            have b18 : 0 ≤ (μ 113 9) ∧ (μ 113 9) ≤ 60 := hB 113 9
            exact hB
        · rw [if_neg c14]
          have b15 : 0 ≤ (μ 113 9) ∧ (μ 113 9) ≤ 60 := hB 113 9
          exact hB
      · rw [if_neg c11]
        have b19 : 0 ≤ (μ 113 9) ∧ (μ 113 9) ≤ 60 := hB 113 9
        exact ih ((zup μ 113 9 ((μ 113 9) + 1))) (zup_ok (k := 113) (z := 9) (v := ((μ 113 9) + 1)) hB (show 0 ≤ ((μ 113 9) + 1) ∧ ((μ 113 9) + 1) ≤ 60 from by omega)) (show 0 ≤ ((μ 113 9) + 1) ∧ ((μ 113 9) + 1) ≤ 8 from by omega) (show 8 - ((μ 113 9) + 1) < ((f : Nat) : Int) from by omega)
    · rw [if_neg c2]
      have b3 : 0 ≤ (μ 113 9) ∧ (μ 113 9) ≤ 60 := hB 113 9
      have b4 : 0 ≤ (μ 113 8) ∧ (μ 113 8) ≤ 60 := hB 113 8
      by_cases c5 : (μ 113 9) = (μ 113 8)
      · rw [if_pos c5]
        have b7 : 0 ≤ (μ 113 9) ∧ (μ 113 9) ≤ 60 := hB 113 9
        by_cases c8 : 0 < (μ 113 9)
        · rw [if_pos c8]
          exact hB
        · rw [if_neg c8]
          have b9 : 0 ≤ (μ 113 9) ∧ (μ 113 9) ≤ 60 := hB 113 9
          exact hB
      · rw [if_neg c5]
        have b6 : 0 ≤ (μ 113 9) ∧ (μ 113 9) ≤ 60 := hB 113 9
        exact hB
set_option maxHeartbeats 4000000 in
set_option maxRecDepth 100000 in
theorem mb_stemFault {μ : zM} (hB : zB μ)  : zB (mm_stemFault μ).2 := by
  unfold mm_stemFault
  have fb : (3000 : Int) ≤ ((zN : Nat) : Int) := zN_big
  exact mb_stemFault_5 zN ((zup μ 113 9 0)) (zup_ok (k := 113) (z := 9) (v := 0) hB (show 0 ≤ 0 ∧ 0 ≤ 60 from by omega)) (show 0 ≤ 0 ∧ 0 ≤ 8 from by omega) (show 8 - 0 < ((zN : Nat) : Int) from by omega)
set_option maxHeartbeats 4000000 in
set_option maxRecDepth 100000 in
theorem mz_stemFault_5 (f : Nat) (μ : zM) (hB : zB μ) (i0 : 0 ≤ (μ 113 9) ∧ (μ 113 9) ≤ 8) (hf : 8 - (μ 113 9) < (f : Int)) : Ez md_6_stemFault 0 0 5 [(0, zr 113)] [] zSh μ (some (zi (mm_stemFault_5 f μ ).1)) zSh (mm_stemFault_5 f μ ).2 := by
  induction f generalizing μ  with
  | zero => exfalso; omega
  | succ f ih =>
    replace hf : 8 - (μ 113 9) < (f : Int) + 1 := by omega
    rw [mm_stemFault_5]
    have b1 : 0 ≤ (μ 113 9) ∧ (μ 113 9) ≤ 60 := hB 113 9
    refine Az.blk kd_6_stemFault_5 (show zR (μ 113 9) ∧ zR 8 ∧ ((¬ (μ 113 9) < 8 → Ez md_6_stemFault 0 0 38 [(0, zr 113)] [] zSh μ _ _ _) ∧ ((μ 113 9) < 8 → Ez md_6_stemFault 0 0 14 [(0, zr 113)] [] zSh μ _ _ _)) from ⟨(by omega), (by omega), fun c2 => ?_, fun c2 => ?_⟩)
    · rw [if_neg c2]
      have b3 : 0 ≤ (μ 113 9) ∧ (μ 113 9) ≤ 60 := hB 113 9
      have b4 : 0 ≤ (μ 113 8) ∧ (μ 113 8) ≤ 60 := hB 113 8
      refine Az.blk kd_6_stemFault_38 (show zR (μ 113 9) ∧ zR (μ 113 8) ∧ ((¬ (μ 113 9) = (μ 113 8) → Ez md_6_stemFault 0 0 61 [(0, zr 113)] [] zSh μ _ _ _) ∧ ((μ 113 9) = (μ 113 8) → Ez md_6_stemFault 0 0 49 [(0, zr 113)] [] zSh μ _ _ _)) from ⟨(by omega), (by omega), fun c5 => ?_, fun c5 => ?_⟩)
      · rw [if_neg c5]
        have b6 : 0 ≤ (μ 113 9) ∧ (μ 113 9) ≤ 60 := hB 113 9
        refine Az.blk kd_6_stemFault_61 (show Ez md_6_stemFault 0 0 65 [(0, zr 113)] [zi (μ 113 9)] zSh μ _ _ _ from ?_)
        exact Ez.iret kr_6_stemFault_65 rfl (Nat.zero_le _) (Nat.zero_le _) rfl rfl
      · rw [if_pos c5]
        have b7 : 0 ≤ (μ 113 9) ∧ (μ 113 9) ≤ 60 := hB 113 9
        refine Az.blk kd_6_stemFault_49 (show zR (μ 113 9) ∧ ((¬ 0 < (μ 113 9) → Ez md_6_stemFault 0 0 61 [(0, zr 113)] [] zSh μ _ _ _) ∧ (0 < (μ 113 9) → Ez md_6_stemFault 0 0 56 [(0, zr 113)] [] zSh μ _ _ _)) from ⟨(by omega), fun c8 => ?_, fun c8 => ?_⟩)
        · rw [if_neg c8]
          have b9 : 0 ≤ (μ 113 9) ∧ (μ 113 9) ≤ 60 := hB 113 9
          refine Az.blk kd_6_stemFault_61 (show Ez md_6_stemFault 0 0 65 [(0, zr 113)] [zi (μ 113 9)] zSh μ _ _ _ from ?_)
          exact Ez.iret kr_6_stemFault_65 rfl (Nat.zero_le _) (Nat.zero_le _) rfl rfl
        · rw [if_pos c8]
          refine Az.blk kd_6_stemFault_56 (show Ez md_6_stemFault 0 0 65 [(0, zr 113)] [zi (-5)] zSh μ _ _ _ from ?_)
          exact Ez.iret kr_6_stemFault_65 rfl (Nat.zero_le _) (Nat.zero_le _) rfl rfl
    · rw [if_pos c2]
      refine Az.blk kd_6_stemFault_14 (show Ez md_6_stemFault 0 0 19 [(0, zr 113)] [zi 122, zi 97, zr 113] zSh μ _ _ _ from ?_)
      refine Az.cV (mc := md_6_isHere) (k := 113) (n := 2) (As := [zi 97, zi 122]) (rest := []) kr_6_stemFault_19 zw_633 ok_6_isHere rfl rfl rfl trivial (mz_isHere hB 97 122 (by omega) (by omega)) rfl rfl (show Ez md_6_stemFault 0 0 22 [(0, zr 113)] [zi (mm_isHere μ 97 122)] zSh μ _ _ _ from ?_)
      have r10 : 0 ≤ (mm_isHere μ 97 122) ∧ (mm_isHere μ 97 122) ≤ 1 ∧ ((mm_isHere μ 97 122) = 1 → μ 113 9 < μ 113 8 ∧ (97 : Int) ≤ μ 119 (μ 113 9) ∧ μ 119 (μ 113 9) ≤ (122 : Int)) := mr_isHere hB 97 122 (by omega) (by omega)
      refine Az.blk kd_6_stemFault_22 (show zR (mm_isHere μ 97 122) ∧ (((mm_isHere μ 97 122) = 0 → Ez md_6_stemFault 0 0 38 [(0, zr 113)] [] zSh μ _ _ _) ∧ (¬ (mm_isHere μ 97 122) = 0 → Ez md_6_stemFault 0 0 25 [(0, zr 113)] [] zSh μ _ _ _)) from ⟨(by omega), fun c11 => ?_, fun c11 => ?_⟩)
      · rw [if_pos c11]
        have b12 : 0 ≤ (μ 113 9) ∧ (μ 113 9) ≤ 60 := hB 113 9
        have b13 : 0 ≤ (μ 113 8) ∧ (μ 113 8) ≤ 60 := hB 113 8
        refine Az.blk kd_6_stemFault_38 (show zR (μ 113 9) ∧ zR (μ 113 8) ∧ ((¬ (μ 113 9) = (μ 113 8) → Ez md_6_stemFault 0 0 61 [(0, zr 113)] [] zSh μ _ _ _) ∧ ((μ 113 9) = (μ 113 8) → Ez md_6_stemFault 0 0 49 [(0, zr 113)] [] zSh μ _ _ _)) from ⟨(by omega), (by omega), fun c14 => ?_, fun c14 => ?_⟩)
        · rw [if_neg c14]
          have b15 : 0 ≤ (μ 113 9) ∧ (μ 113 9) ≤ 60 := hB 113 9
          refine Az.blk kd_6_stemFault_61 (show Ez md_6_stemFault 0 0 65 [(0, zr 113)] [zi (μ 113 9)] zSh μ _ _ _ from ?_)
          exact Ez.iret kr_6_stemFault_65 rfl (Nat.zero_le _) (Nat.zero_le _) rfl rfl
        · rw [if_pos c14]
          have b16 : 0 ≤ (μ 113 9) ∧ (μ 113 9) ≤ 60 := hB 113 9
          refine Az.blk kd_6_stemFault_49 (show zR (μ 113 9) ∧ ((¬ 0 < (μ 113 9) → Ez md_6_stemFault 0 0 61 [(0, zr 113)] [] zSh μ _ _ _) ∧ (0 < (μ 113 9) → Ez md_6_stemFault 0 0 56 [(0, zr 113)] [] zSh μ _ _ _)) from ⟨(by omega), fun c17 => ?_, fun c17 => ?_⟩)
          · rw [if_neg c17]
            have b18 : 0 ≤ (μ 113 9) ∧ (μ 113 9) ≤ 60 := hB 113 9
            refine Az.blk kd_6_stemFault_61 (show Ez md_6_stemFault 0 0 65 [(0, zr 113)] [zi (μ 113 9)] zSh μ _ _ _ from ?_)
            exact Ez.iret kr_6_stemFault_65 rfl (Nat.zero_le _) (Nat.zero_le _) rfl rfl
          · rw [if_pos c17]
            refine Az.blk kd_6_stemFault_56 (show Ez md_6_stemFault 0 0 65 [(0, zr 113)] [zi (-5)] zSh μ _ _ _ from ?_)
            exact Ez.iret kr_6_stemFault_65 rfl (Nat.zero_le _) (Nat.zero_le _) rfl rfl
      · rw [if_neg c11]
        have b19 : 0 ≤ (μ 113 9) ∧ (μ 113 9) ≤ 60 := hB 113 9
        refine Az.blk kd_6_stemFault_25 (show Ez md_6_stemFault 0 0 5 [(0, zr 113)] [] zSh (zup μ 113 9 ((μ 113 9) + 1)) _ _ _ from ?_)
        refine Az.lvs (lv' := [(0, zr 113)]) ?_ ?_
        · intro q hq; simp only [List.mem_cons, List.not_mem_nil, or_false] at hq; rcases hq with rfl <;> rfl
        exact ih ((zup μ 113 9 ((μ 113 9) + 1))) (zup_ok (k := 113) (z := 9) (v := ((μ 113 9) + 1)) hB (show 0 ≤ ((μ 113 9) + 1) ∧ ((μ 113 9) + 1) ≤ 60 from by omega)) (show 0 ≤ ((μ 113 9) + 1) ∧ ((μ 113 9) + 1) ≤ 8 from by omega) (show 8 - ((μ 113 9) + 1) < ((f : Nat) : Int) from by omega)
set_option maxHeartbeats 4000000 in
set_option maxRecDepth 100000 in
theorem mz_stemFault {μ : zM} (hB : zB μ)  : Dz md_6_stemFault [zr 113] zSh μ (some (zi (mm_stemFault μ).1)) zSh (mm_stemFault μ).2 := by
  refine Dz.of (by decide) rfl rfl (show Ez md_6_stemFault 0 0 0 [(0, zr 113)] [] zSh μ (some (zi (mm_stemFault μ).1)) zSh (mm_stemFault μ).2 from ?_)
  unfold mm_stemFault
  refine Az.blk kd_6_stemFault_0 (show Ez md_6_stemFault 0 0 5 [(0, zr 113)] [] zSh (zup μ 113 9 0) _ _ _ from ?_)
  refine Az.lvs (lv' := [(0, zr 113)]) ?_ ?_
  · intro q hq; simp only [List.mem_cons, List.not_mem_nil, or_false] at hq; rcases hq with rfl <;> rfl
  have fb : (3000 : Int) ≤ ((zN : Nat) : Int) := zN_big
  exact mz_stemFault_5 zN ((zup μ 113 9 0)) (zup_ok (k := 113) (z := 9) (v := 0) hB (show 0 ≤ 0 ∧ 0 ≤ 60 from by omega)) (show 0 ≤ 0 ∧ 0 ≤ 8 from by omega) (show 8 - 0 < ((zN : Nat) : Int) from by omega)
theorem mf_stemFault_5 : ∀ (f : Nat) (μ : zM), (∀ k', k' ≠ 113 → (mm_stemFault_5 f μ).2 k' = μ k') ∧ ∀ z', z' ≠ 9 → (mm_stemFault_5 f μ).2 113 z' = μ 113 z'
  | 0, _ => ⟨fun _ _ => rfl, fun _ _ => rfl⟩
  | f + 1, μ => by
    rw [mm_stemFault_5]
    obtain ⟨h1, h2⟩ := mf_stemFault_5 f (zup μ 113 9 ((μ 113 9) + 1))
    repeat' split
    all_goals first
      | exact ⟨fun _ _ => rfl, fun _ _ => rfl⟩
      | exact ⟨fun k' h => by rw [h1 k' h, zup_ne h], fun z' h => by rw [h2 z' h, zup_eq]; simp [h]⟩
theorem mf_stemFault {μ : zM} : (mm_stemFault μ).2 = (zup μ 113 9 ((mm_stemFault μ).2 113 9)) :=
  zup_of (fun k' h => ((mf_stemFault_5 zN (zup μ 113 9 0)).1 k' h).trans (by rw [zup_ne h])) (fun z' h => ((mf_stemFault_5 zN (zup μ 113 9 0)).2 z' h).trans (by rw [zup_eq]; simp [h]))
theorem mb_stemFaultF {μ : zM} (hB : zB μ)  : zB (zup μ 113 9 ((mm_stemFault μ).2 113 9)) := by
  rw [← mf_stemFault]
  exact mb_stemFault hB  
theorem mz_stemFaultF {μ : zM} (hB : zB μ)  : Dz md_6_stemFault [zr 113] zSh μ (some (zi (mm_stemFault μ).1)) zSh (zup μ 113 9 ((mm_stemFault μ).2 113 9)) := by
  have h := mz_stemFault hB  
  rw [← mf_stemFault]
  exact h
