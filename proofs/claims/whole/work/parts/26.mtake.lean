theorem mi_lays {μ : zM} {a1 a2 : Int} (h : 0 ≤ a1) : zset μ 114 ((mm_lays μ a1 a2) 114) 114 3 = μ 114 3 := by
  rw [zset_eq]
  unfold mm_lays
  rw [zup_ap, if_neg (by omega)]
theorem zOkDR {z v : Int} (hz : 0 ≤ z ∧ z < 280) (h : zOk 118 z v) : zOkR (304 + z) v := by
  have h' : (if z % 14 = 0 then 0 ≤ v ∧ v ≤ 1 else if z % 14 = 1 then 0 ≤ v ∧ v ≤ 10 else if z % 14 = 2 then 0 ≤ v ∧ v ≤ 9 else if z % 14 = 3 then v = -5 ∨ (0 ≤ v ∧ v ≤ 23) else 0 ≤ v ∧ v ≤ 26) := h
  refine zOkR_of (by omega) ⟨fun q => absurd q (by omega), fun q => absurd q (by omega), fun _ => ?_, fun q => absurd q (by omega)⟩
  rw [show (304 + z - 304) = z by omega]
  repeat' split at h'
  all_goals omega
theorem ms_stemFault_5 : ∀ (f : Nat) (μ : zM), zB μ → 0 ≤ (μ 113 9) → (μ 113 9) ≤ 8 → (∀ z : Int, 0 ≤ z → z < (μ 113 9) → 97 ≤ μ 119 z ∧ μ 119 z ≤ 122) → (mm_stemFault_5 f μ).1 = -5 → 1 ≤ (μ 113 8) ∧ (μ 113 8) ≤ 8 ∧ ∀ z : Int, 0 ≤ z → z < (μ 113 8) → 97 ≤ μ 119 z ∧ μ 119 z ≤ 122
  | 0, _, _, _, _, _, h => absurd (show (0 : Int) = -5 from h) (by omega)
  | f + 1, μ, hB, h0, h8, hl, h => by
    rw [mm_stemFault_5] at h
    have hs := mr_isHere hB 97 122 (by omega) (by omega)
    repeat' split at h
    all_goals first
      | exact absurd (show (μ 113 9) = -5 from h) (by omega)
      | (next e1 e2 _ => exact ⟨by omega, by omega, fun z a b => hl z a (by omega)⟩)
      | (next e1 e2 => exact ⟨by omega, by omega, fun z a b => hl z a (by omega)⟩)
      | (next e1 e2 =>
          have hh := hs.2.2 (by omega)
          refine ms_stemFault_5 f (zup μ 113 9 ((μ 113 9) + 1)) (zup_ok (k := 113) (z := 9) (v := (μ 113 9) + 1) hB (show 0 ≤ (μ 113 9) + 1 ∧ (μ 113 9) + 1 ≤ 60 by omega)) (show 0 ≤ (μ 113 9) + 1 by omega) (show (μ 113 9) + 1 ≤ 8 by omega) (fun z a b => ?_) h
          have b' : z < (μ 113 9) + 1 := b
          by_cases e : z = μ 113 9
          · subst e; exact hh.2
          · exact hl z a (by omega))
theorem ms_stemFault {μ : zM} (hB : zB μ) (h : (mm_stemFault μ).1 = -5) : 1 ≤ (μ 113 8) ∧ (μ 113 8) ≤ 8 ∧ ∀ z : Int, 0 ≤ z → z < (μ 113 8) → 97 ≤ μ 119 z ∧ μ 119 z ≤ 122 :=
  ms_stemFault_5 zN (zup μ 113 9 0) (zup_ok (k := 113) (z := 9) (v := 0) hB (show (0 : Int) ≤ 0 ∧ (0 : Int) ≤ 60 by omega)) (show (0 : Int) ≤ 0 by omega) (show (0 : Int) ≤ 8 by omega) (fun z a b => absurd (show z < 0 from b) (by omega)) h
def kb_6_fault_0 : List zI := [(.iload_n 1, 1, 0, 0), (.ifCond .eq 10, 3, 11, 0)]
theorem kd_6_fault_0 : zdec md_6_fault 0 kb_6_fault_0 = true := by decide +kernel
def kb_6_fault_11 : List zI := [(.aload_n 0, 1, 0, 0)]
theorem kd_6_fault_11 : zdec md_6_fault 11 kb_6_fault_11 = true := by decide +kernel
theorem kr_6_fault_12 : decode md_6_fault.2.1 12 = .ok (.invokevirtual 81, 3) := by decide +kernel
theorem kr_6_fault_15 : decode md_6_fault.2.1 15 = .ok (.ireturn, 1) := by decide +kernel
def kb_6_fault_4 : List zI := [(.aload_n 0, 1, 0, 0)]
theorem kd_6_fault_4 : zdec md_6_fault 4 kb_6_fault_4 = true := by decide +kernel
theorem kr_6_fault_5 : decode md_6_fault.2.1 5 = .ok (.invokevirtual 98, 3) := by decide +kernel
def kb_6_fault_8 : List zI := [(.goto 7, 3, 15, 0)]
theorem kd_6_fault_8 : zdec md_6_fault 8 kb_6_fault_8 = true := by decide +kernel
noncomputable def mm_fault (μ : zM) (a1 : Int) : Int × zM := (if a1 = 0 then ((mm_stemFault μ).1, (zup μ 113 9 ((mm_stemFault μ).2 113 9))) else ((mm_taleFault μ).1, (zup (zup (zset μ 118 ((mm_taleFault μ).2 118)) 113 9 ((mm_taleFault μ).2 113 9)) 113 10 ((mm_taleFault μ).2 113 10))))
set_option maxHeartbeats 4000000 in
set_option maxRecDepth 100000 in
theorem mb_fault {μ : zM} (hB : zB μ) (a1 : Int) (h0 : -2147483648 ≤ a1 ∧ a1 ≤ 2147483647) : zB (mm_fault μ a1).2 := by
  unfold mm_fault
  by_cases c1 : a1 = 0
  · rw [if_pos c1]
    have r2 : ((mm_stemFault μ).1 = -5 ∨ (0 ≤ (mm_stemFault μ).1 ∧ (mm_stemFault μ).1 ≤ 8)) := mr_stemFault hB
    exact (mb_stemFaultF hB)
  · rw [if_neg c1]
    have r3 : ((mm_taleFault μ).1 = -5 ∨ (0 ≤ (mm_taleFault μ).1 ∧ (mm_taleFault μ).1 ≤ 60)) := mr_taleFault hB
    exact (mb_taleFaultF hB)
set_option maxHeartbeats 4000000 in
set_option maxRecDepth 100000 in
theorem mz_fault {μ : zM} (hB : zB μ) (a1 : Int) (h0 : -2147483648 ≤ a1 ∧ a1 ≤ 2147483647) : Dz md_6_fault [zr 113, zi a1] zSh μ (some (zi (mm_fault μ a1).1)) zSh (mm_fault μ a1).2 := by
  refine Dz.of (by decide) rfl rfl (show Ez md_6_fault 0 0 0 [(0, zr 113), (1, zi a1)] [] zSh μ (some (zi (mm_fault μ a1).1)) zSh (mm_fault μ a1).2 from ?_)
  unfold mm_fault
  refine Az.blk kd_6_fault_0 (show zR a1 ∧ ((a1 = 0 → Ez md_6_fault 0 0 11 [(0, zr 113), (1, zi a1)] [] zSh μ _ _ _) ∧ (¬ a1 = 0 → Ez md_6_fault 0 0 4 [(0, zr 113), (1, zi a1)] [] zSh μ _ _ _)) from ⟨(by omega), fun c1 => ?_, fun c1 => ?_⟩)
  · rw [if_pos c1]
    refine Az.blk kd_6_fault_11 (show Ez md_6_fault 0 0 12 [(0, zr 113), (1, zi a1)] [zr 113] zSh μ _ _ _ from ?_)
    refine Az.cV (mc := md_6_stemFault) (k := 113) (n := 0) (As := []) (rest := []) kr_6_fault_12 zw_629 ok_6_stemFault rfl rfl rfl trivial (mz_stemFaultF hB) rfl rfl (show Ez md_6_fault 0 0 15 [(0, zr 113), (1, zi a1)] [zi (mm_stemFault μ).1] zSh (zup μ 113 9 ((mm_stemFault μ).2 113 9)) _ _ _ from ?_)
    have r2 : ((mm_stemFault μ).1 = -5 ∨ (0 ≤ (mm_stemFault μ).1 ∧ (mm_stemFault μ).1 ≤ 8)) := mr_stemFault hB
    exact Ez.iret kr_6_fault_15 rfl (Nat.zero_le _) (Nat.zero_le _) rfl rfl
  · rw [if_neg c1]
    refine Az.blk kd_6_fault_4 (show Ez md_6_fault 0 0 5 [(0, zr 113), (1, zi a1)] [zr 113] zSh μ _ _ _ from ?_)
    refine Az.cV (mc := md_6_taleFault) (k := 113) (n := 0) (As := []) (rest := []) kr_6_fault_5 zw_658 ok_6_taleFault rfl rfl rfl trivial (mz_taleFaultF hB) rfl rfl (show Ez md_6_fault 0 0 8 [(0, zr 113), (1, zi a1)] [zi (mm_taleFault μ).1] zSh (zup (zup (zset μ 118 ((mm_taleFault μ).2 118)) 113 9 ((mm_taleFault μ).2 113 9)) 113 10 ((mm_taleFault μ).2 113 10)) _ _ _ from ?_)
    have r3 : ((mm_taleFault μ).1 = -5 ∨ (0 ≤ (mm_taleFault μ).1 ∧ (mm_taleFault μ).1 ≤ 60)) := mr_taleFault hB
    refine Az.blk kd_6_fault_8 (show Ez md_6_fault 0 0 15 [(0, zr 113), (1, zi a1)] [zi (mm_taleFault μ).1] zSh (zup (zup (zset μ 118 ((mm_taleFault μ).2 118)) 113 9 ((mm_taleFault μ).2 113 9)) 113 10 ((mm_taleFault μ).2 113 10)) _ _ _ from ?_)
    exact Ez.iret kr_6_fault_15 rfl (Nat.zero_le _) (Nat.zero_le _) rfl rfl
def kb_6_fillAll_0 : List zI := [(.aload_n 0, 1, 0, 0)]
theorem kd_6_fillAll_0 : zdec md_6_fillAll 0 kb_6_fillAll_0 = true := by decide +kernel
theorem kr_6_fillAll_1 : decode md_6_fillAll.2.1 1 = .ok (.invokevirtual 85, 3) := by decide +kernel
def kb_6_fillAll_4 : List zI := [(.iconst 0, 1, 0, 0), (.istore_n 1, 1, 0, 0), (.iconst 0, 1, 0, 0), (.istore_n 2, 1, 0, 0)]
theorem kd_6_fillAll_4 : zdec md_6_fillAll 4 kb_6_fillAll_4 = true := by decide +kernel
def kb_6_fillAll_8 : List zI := [(.iload_n 2, 1, 0, 0), (.aload_n 0, 1, 0, 0), (.getfield 7, 3, 6, 0), (.iconst 3, 1, 0, 0), (.iaload, 1, 0, 0), (.if_icmp .ge 54, 3, 69, 0)]
theorem kd_6_fillAll_8 : zdec md_6_fillAll 8 kb_6_fillAll_8 = true := by decide +kernel
def kb_6_fillAll_69 : List zI := [(.aload_n 0, 1, 0, 0), (.getfield 7, 3, 6, 0), (.iconst 1, 1, 0, 0), (.dup2, 1, 0, 0), (.iaload, 1, 0, 0), (.iload_n 1, 1, 0, 0), (.iadd, 1, 0, 0), (.iastore, 1, 0, 0), (.iload_n 1, 1, 0, 0), (.ifCond .ne 8, 3, 88, 0)]
theorem kd_6_fillAll_69 : zdec md_6_fillAll 69 kb_6_fillAll_69 = true := by decide +kernel
def kb_6_fillAll_88 : List zI := [(.aload_n 0, 1, 0, 0), (.iload_n 1, 1, 0, 0)]
theorem kd_6_fillAll_88 : zdec md_6_fillAll 88 kb_6_fillAll_88 = true := by decide +kernel
theorem kr_6_fillAll_90 : decode md_6_fillAll.2.1 90 = .ok (.invokevirtual 91, 3) := by decide +kernel
theorem kr_6_fillAll_93 : decode md_6_fillAll.2.1 93 = .ok (.ireturn, 1) := by decide +kernel
def kb_6_fillAll_83 : List zI := [(.bipush (-5), 2, 0, 0), (.goto 8, 3, 93, 0)]
theorem kd_6_fillAll_83 : zdec md_6_fillAll 83 kb_6_fillAll_83 = true := by decide +kernel
def kb_6_fillAll_18 : List zI := [(.aload_n 0, 1, 0, 0), (.iload_n 2, 1, 0, 0)]
theorem kd_6_fillAll_18 : zdec md_6_fillAll 18 kb_6_fillAll_18 = true := by decide +kernel
theorem kr_6_fillAll_20 : decode md_6_fillAll.2.1 20 = .ok (.invokevirtual 51, 3) := by decide +kernel
def kb_6_fillAll_23 : List zI := [(.ifCond .eq 22, 3, 45, 0)]
theorem kd_6_fillAll_23 : zdec md_6_fillAll 23 kb_6_fillAll_23 = true := by decide +kernel
def kb_6_fillAll_45 : List zI := [(.bipush (-5), 2, 0, 0), (.istore_n 3, 1, 0, 0), (.iload_n 3, 1, 0, 0), (.bipush (-5), 2, 0, 0), (.if_icmp .eq 12, 3, 63, 0)]
theorem kd_6_fillAll_45 : zdec md_6_fillAll 45 kb_6_fillAll_45 = true := by decide +kernel
def kb_6_fillAll_63 : List zI := [(.iinc 2 1, 3, 0, 0), (.goto (-58), 3, 8, 0)]
theorem kd_6_fillAll_63 : zdec md_6_fillAll 63 kb_6_fillAll_63 = true := by decide +kernel
def kb_6_fillAll_54 : List zI := [(.aload_n 0, 1, 0, 0), (.iload_n 2, 1, 0, 0), (.iload_n 3, 1, 0, 0)]
theorem kd_6_fillAll_54 : zdec md_6_fillAll 54 kb_6_fillAll_54 = true := by decide +kernel
theorem kr_6_fillAll_57 : decode md_6_fillAll.2.1 57 = .ok (.invokevirtual 121, 3) := by decide +kernel
def kb_6_fillAll_60 : List zI := [(.iinc 1 1, 3, 0, 0), (.iinc 2 1, 3, 0, 0), (.goto (-58), 3, 8, 0)]
theorem kd_6_fillAll_60 : zdec md_6_fillAll 60 kb_6_fillAll_60 = true := by decide +kernel
def kb_6_fillAll_26 : List zI := [(.aload_n 0, 1, 0, 0), (.iload_n 2, 1, 0, 0), (.iconst 3, 1, 0, 0)]
theorem kd_6_fillAll_26 : zdec md_6_fillAll 26 kb_6_fillAll_26 = true := by decide +kernel
theorem kr_6_fillAll_29 : decode md_6_fillAll.2.1 29 = .ok (.invokevirtual 48, 3) := by decide +kernel
def kb_6_fillAll_32 : List zI := [(.bipush (-5), 2, 0, 0), (.if_icmp .ne 11, 3, 45, 0)]
theorem kd_6_fillAll_32 : zdec md_6_fillAll 32 kb_6_fillAll_32 = true := by decide +kernel
def kb_6_fillAll_37 : List zI := [(.aload_n 0, 1, 0, 0), (.iload_n 2, 1, 0, 0)]
theorem kd_6_fillAll_37 : zdec md_6_fillAll 37 kb_6_fillAll_37 = true := by decide +kernel
theorem kr_6_fillAll_39 : decode md_6_fillAll.2.1 39 = .ok (.invokevirtual 125, 3) := by decide +kernel
def kb_6_fillAll_42 : List zI := [(.goto 5, 3, 47, 0)]
theorem kd_6_fillAll_42 : zdec md_6_fillAll 42 kb_6_fillAll_42 = true := by decide +kernel
def kb_6_fillAll_47 : List zI := [(.istore_n 3, 1, 0, 0), (.iload_n 3, 1, 0, 0), (.bipush (-5), 2, 0, 0), (.if_icmp .eq 12, 3, 63, 0)]
theorem kd_6_fillAll_47 : zdec md_6_fillAll 47 kb_6_fillAll_47 = true := by decide +kernel
noncomputable def mm_fillAll_8 : Nat → zM → Int → Int → Int × zM
  | 0, μ, _, _ => (0, μ)
  | f + 1, μ, l1, l2 => (if l2 < (μ 114 3) then (if (mm_isHoleAt μ l2) = 0 then (if ((-5) : Int) = (-5) then (mm_fillAll_8 f μ l1 (l2 + 1)) else (mm_fillAll_8 f (zset μ 114 ((mm_lays μ l2 (-5)) 114)) (l1 + 1) (l2 + 1))) else (if (mm_ofItem μ l2 3) = (-5) then (if (mm_lowest μ l2) = (-5) then (mm_fillAll_8 f μ l1 (l2 + 1)) else (mm_fillAll_8 f (zset μ 114 ((mm_lays μ l2 (mm_lowest μ l2)) 114)) (l1 + 1) (l2 + 1))) else (if ((-5) : Int) = (-5) then (mm_fillAll_8 f μ l1 (l2 + 1)) else (mm_fillAll_8 f (zset μ 114 ((mm_lays μ l2 (-5)) 114)) (l1 + 1) (l2 + 1))))) else (if l1 = 0 then ((-5), (zup μ 114 1 ((μ 114 1) + l1))) else ((mm_ends (zup μ 114 1 ((μ 114 1) + l1)) l1).1, (mm_ends (zup μ 114 1 ((μ 114 1) + l1)) l1).2)))
noncomputable def mm_fillAll (μ : zM) : Int × zM := (mm_fillAll_8 zN (zset μ 115 ((mm_keeps μ) 115)) 0 0)
set_option maxHeartbeats 4000000 in
set_option maxRecDepth 100000 in
theorem mb_fillAll_8 (f : Nat) (μ : zM) (hB : zB μ) (l1 : Int) (l2 : Int) (i0 : 0 ≤ l2 ∧ l2 ≤ (μ 114 3)) (i1 : 0 ≤ l1 ∧ l1 ≤ l2) (hf : (μ 114 3) - l2 < (f : Int)) : zB (mm_fillAll_8 f μ l1 l2).2 := by
  induction f generalizing μ l1 l2 with
  | zero => exfalso; omega
  | succ f ih =>
    replace hf : (μ 114 3) - l2 < (f : Int) + 1 := by omega
    rw [mm_fillAll_8]
    have b2 : 0 ≤ (μ 114 3) ∧ (μ 114 3) ≤ 20 := hB 114 3
    by_cases c3 : l2 < (μ 114 3)
    · rw [if_pos c3]
      have r5 : 0 ≤ (mm_isHoleAt μ l2) ∧ (mm_isHoleAt μ l2) ≤ 1 := mr_isHoleAt hB l2 (by omega)
      by_cases c6 : (mm_isHoleAt μ l2) = 0
      · rw [if_pos c6]
        by_cases c7 : ((-5) : Int) = (-5)
        · rw [if_pos c7]
          have b8 : 0 ≤ (μ 114 3) ∧ (μ 114 3) ≤ 20 := hB 114 3
          exact ih μ hB l1 (l2 + 1) (by omega) (by omega) (by omega)
        · rw [if_neg c7]
          have e9 : ((zset μ 114 ((mm_lays μ l2 (mm_lowest μ l2)) 114)) 114 3) = (μ 114 3) := mi_lays (by omega)
          have b9 : 0 ≤ ((zset μ 114 ((mm_lays μ l2 (-5)) 114)) 114 3) ∧ ((zset μ 114 ((mm_lays μ l2 (-5)) 114)) 114 3) ≤ 20 := (mb_laysF hB l2 (-5) (by omega) (by omega)) 114 3
          exact ih ((zset μ 114 ((mm_lays μ l2 (-5)) 114))) (mb_laysF hB l2 (-5) (by omega) (by omega)) (l1 + 1) (l2 + 1) (show 0 ≤ (l2 + 1) ∧ (l2 + 1) ≤ ((zset μ 114 ((mm_lays μ l2 (-5)) 114)) 114 3) from by omega) (by omega) (show ((zset μ 114 ((mm_lays μ l2 (-5)) 114)) 114 3) - (l2 + 1) < ((f : Nat) : Int) from by omega)
      · rw [if_neg c6]
        have r10 : -5 ≤ (mm_ofItem μ l2 3) ∧ (mm_ofItem μ l2 3) ≤ 26 ∧ ((3 : Int) = 0 → 0 ≤ (mm_ofItem μ l2 3) ∧ (mm_ofItem μ l2 3) ≤ 1) ∧ ((3 : Int) = 1 → 0 ≤ (mm_ofItem μ l2 3) ∧ (mm_ofItem μ l2 3) ≤ 10) ∧ ((3 : Int) = 2 → 0 ≤ (mm_ofItem μ l2 3) ∧ (mm_ofItem μ l2 3) ≤ 9) ∧ ((3 : Int) = 3 → (mm_ofItem μ l2 3) = -5 ∨ (0 ≤ (mm_ofItem μ l2 3) ∧ (mm_ofItem μ l2 3) ≤ 23)) ∧ (3 < (3 : Int) → 0 ≤ (mm_ofItem μ l2 3)) := mr_ofItem hB l2 3 (by omega) (by omega)
        by_cases c11 : (mm_ofItem μ l2 3) = (-5)
        · rw [if_pos c11]
          have r15 : ((mm_lowest μ l2) = -5 ∨ (0 ≤ (mm_lowest μ l2) ∧ (mm_lowest μ l2) ≤ 23)) := mr_lowest hB l2 (by omega)
          by_cases c16 : (mm_lowest μ l2) = (-5)
          · rw [if_pos c16]
            have b17 : 0 ≤ (μ 114 3) ∧ (μ 114 3) ≤ 20 := hB 114 3
            exact ih μ hB l1 (l2 + 1) (by omega) (by omega) (by omega)
          · rw [if_neg c16]
            have e9 : ((zset μ 114 ((mm_lays μ l2 (mm_lowest μ l2)) 114)) 114 3) = (μ 114 3) := mi_lays (by omega)
            have b18 : 0 ≤ ((zset μ 114 ((mm_lays μ l2 (mm_lowest μ l2)) 114)) 114 3) ∧ ((zset μ 114 ((mm_lays μ l2 (mm_lowest μ l2)) 114)) 114 3) ≤ 20 := (mb_laysF hB l2 (mm_lowest μ l2) (by omega) (by omega)) 114 3
            exact ih ((zset μ 114 ((mm_lays μ l2 (mm_lowest μ l2)) 114))) (mb_laysF hB l2 (mm_lowest μ l2) (by omega) (by omega)) (l1 + 1) (l2 + 1) (show 0 ≤ (l2 + 1) ∧ (l2 + 1) ≤ ((zset μ 114 ((mm_lays μ l2 (mm_lowest μ l2)) 114)) 114 3) from by omega) (by omega) (show ((zset μ 114 ((mm_lays μ l2 (mm_lowest μ l2)) 114)) 114 3) - (l2 + 1) < ((f : Nat) : Int) from by omega)
        · rw [if_neg c11]
          by_cases c12 : ((-5) : Int) = (-5)
          · rw [if_pos c12]
            have b13 : 0 ≤ (μ 114 3) ∧ (μ 114 3) ≤ 20 := hB 114 3
            exact ih μ hB l1 (l2 + 1) (by omega) (by omega) (by omega)
          · rw [if_neg c12]
            have e9 : ((zset μ 114 ((mm_lays μ l2 (mm_lowest μ l2)) 114)) 114 3) = (μ 114 3) := mi_lays (by omega)
            have b14 : 0 ≤ ((zset μ 114 ((mm_lays μ l2 (-5)) 114)) 114 3) ∧ ((zset μ 114 ((mm_lays μ l2 (-5)) 114)) 114 3) ≤ 20 := (mb_laysF hB l2 (-5) (by omega) (by omega)) 114 3
            exact ih ((zset μ 114 ((mm_lays μ l2 (-5)) 114))) (mb_laysF hB l2 (-5) (by omega) (by omega)) (l1 + 1) (l2 + 1) (show 0 ≤ (l2 + 1) ∧ (l2 + 1) ≤ ((zset μ 114 ((mm_lays μ l2 (-5)) 114)) 114 3) from by omega) (by omega) (show ((zset μ 114 ((mm_lays μ l2 (-5)) 114)) 114 3) - (l2 + 1) < ((f : Nat) : Int) from by omega)
    · rw [if_neg c3]
      by_cases c4 : l1 = 0
      · rw [if_pos c4]
        exact (zup_ok (k := 114) (z := 1) (v := ((μ 114 1) + l1)) hB trivial)
      · rw [if_neg c4]
        exact (mb_ends (zup_ok (k := 114) (z := 1) (v := ((μ 114 1) + l1)) hB trivial) l1)
set_option maxHeartbeats 4000000 in
set_option maxRecDepth 100000 in
theorem mb_fillAll {μ : zM} (hB : zB μ)  : zB (mm_fillAll μ).2 := by
  unfold mm_fillAll
  have b1 : 0 ≤ (μ 114 3) ∧ (μ 114 3) ≤ 20 := hB 114 3
  have fb : (3000 : Int) ≤ ((zN : Nat) : Int) := zN_big
  exact mb_fillAll_8 zN ((zset μ 115 ((mm_keeps μ) 115))) (mb_keepsF hB) 0 0 (show 0 ≤ 0 ∧ 0 ≤ (μ 114 3) from by omega) (by omega) (show (μ 114 3) - 0 < ((zN : Nat) : Int) from by omega)
set_option maxHeartbeats 4000000 in
set_option maxRecDepth 100000 in
theorem mz_fillAll_8 (f : Nat) (μ : zM) (hB : zB μ) (l1 : Int) (l2 : Int) (i0 : 0 ≤ l2 ∧ l2 ≤ (μ 114 3)) (i1 : 0 ≤ l1 ∧ l1 ≤ l2) (hf : (μ 114 3) - l2 < (f : Int)) : Ez md_6_fillAll 0 0 8 [(0, zr 113), (1, zi l1), (2, zi l2)] [] zSh μ (some (zi (mm_fillAll_8 f μ l1 l2).1)) zSh (mm_fillAll_8 f μ l1 l2).2 := by
  induction f generalizing μ l1 l2 with
  | zero => exfalso; omega
  | succ f ih =>
    replace hf : (μ 114 3) - l2 < (f : Int) + 1 := by omega
    rw [mm_fillAll_8]
    have b2 : 0 ≤ (μ 114 3) ∧ (μ 114 3) ≤ 20 := hB 114 3
    refine Az.blk kd_6_fillAll_8 (show (0 ≤ 3 ∧ 3 < 604) ∧ zR l2 ∧ zR (μ 114 3) ∧ ((¬ l2 < (μ 114 3) → Ez md_6_fillAll 0 0 69 [(0, zr 113), (1, zi l1), (2, zi l2)] [] zSh μ _ _ _) ∧ (l2 < (μ 114 3) → Ez md_6_fillAll 0 0 18 [(0, zr 113), (1, zi l1), (2, zi l2)] [] zSh μ _ _ _)) from ⟨(by omega), (by omega), (by omega), fun c3 => ?_, fun c3 => ?_⟩)
    · rw [if_neg c3]
      refine Az.blk kd_6_fillAll_69 (show (0 ≤ 1 ∧ 1 < 604) ∧ (0 ≤ 1 ∧ 1 < 604) ∧ zR l1 ∧ ((¬ l1 = 0 → Ez md_6_fillAll 0 0 88 [(0, zr 113), (1, zi l1), (2, zi l2)] [] zSh (zup μ 114 1 ((μ 114 1) + l1)) _ _ _) ∧ (l1 = 0 → Ez md_6_fillAll 0 0 83 [(0, zr 113), (1, zi l1), (2, zi l2)] [] zSh (zup μ 114 1 ((μ 114 1) + l1)) _ _ _)) from ⟨(by omega), (by omega), (by omega), fun c4 => ?_, fun c4 => ?_⟩)
      · rw [if_neg c4]
        refine Az.blk kd_6_fillAll_88 (show Ez md_6_fillAll 0 0 90 [(0, zr 113), (1, zi l1), (2, zi l2)] [zi l1, zr 113] zSh (zup μ 114 1 ((μ 114 1) + l1)) _ _ _ from ?_)
        refine Az.cV (mc := md_6_ends) (k := 113) (n := 1) (As := [zi l1]) (rest := []) kr_6_fillAll_90 zw_641 ok_6_ends rfl rfl rfl trivial (mz_ends (zup_ok (k := 114) (z := 1) (v := ((μ 114 1) + l1)) hB trivial) l1) rfl rfl (show Ez md_6_fillAll 0 0 93 [(0, zr 113), (1, zi l1), (2, zi l2)] [zi (mm_ends (zup μ 114 1 ((μ 114 1) + l1)) l1).1] zSh (mm_ends (zup μ 114 1 ((μ 114 1) + l1)) l1).2 _ _ _ from ?_)
        exact Ez.iret kr_6_fillAll_93 rfl (Nat.zero_le _) (Nat.zero_le _) rfl rfl
      · rw [if_pos c4]
        refine Az.blk kd_6_fillAll_83 (show Ez md_6_fillAll 0 0 93 [(0, zr 113), (1, zi l1), (2, zi l2)] [zi (-5)] zSh (zup μ 114 1 ((μ 114 1) + l1)) _ _ _ from ?_)
        exact Ez.iret kr_6_fillAll_93 rfl (Nat.zero_le _) (Nat.zero_le _) rfl rfl
    · rw [if_pos c3]
      refine Az.blk kd_6_fillAll_18 (show Ez md_6_fillAll 0 0 20 [(0, zr 113), (1, zi l1), (2, zi l2)] [zi l2, zr 113] zSh μ _ _ _ from ?_)
      refine Az.cV (mc := md_6_isHoleAt) (k := 113) (n := 1) (As := [zi l2]) (rest := []) kr_6_fillAll_20 zw_678 ok_6_isHoleAt rfl rfl rfl trivial (mz_isHoleAt hB l2 (by omega)) rfl rfl (show Ez md_6_fillAll 0 0 23 [(0, zr 113), (1, zi l1), (2, zi l2)] [zi (mm_isHoleAt μ l2)] zSh μ _ _ _ from ?_)
      have r5 : 0 ≤ (mm_isHoleAt μ l2) ∧ (mm_isHoleAt μ l2) ≤ 1 := mr_isHoleAt hB l2 (by omega)
      refine Az.blk kd_6_fillAll_23 (show zR (mm_isHoleAt μ l2) ∧ (((mm_isHoleAt μ l2) = 0 → Ez md_6_fillAll 0 0 45 [(0, zr 113), (1, zi l1), (2, zi l2)] [] zSh μ _ _ _) ∧ (¬ (mm_isHoleAt μ l2) = 0 → Ez md_6_fillAll 0 0 26 [(0, zr 113), (1, zi l1), (2, zi l2)] [] zSh μ _ _ _)) from ⟨(by omega), fun c6 => ?_, fun c6 => ?_⟩)
      · rw [if_pos c6]
        refine Az.blk kd_6_fillAll_45 (show zR (-5) ∧ zR (-5) ∧ ((((-5) : Int) = (-5) → Ez md_6_fillAll 0 0 63 [(3, zi (-5)), (0, zr 113), (1, zi l1), (2, zi l2)] [] zSh μ _ _ _) ∧ (¬ ((-5) : Int) = (-5) → Ez md_6_fillAll 0 0 54 [(3, zi (-5)), (0, zr 113), (1, zi l1), (2, zi l2)] [] zSh μ _ _ _)) from ⟨(by omega), (by omega), fun c7 => ?_, fun c7 => ?_⟩)
        · rw [if_pos c7]
          refine Az.blk kd_6_fillAll_63 (show Ez md_6_fillAll 0 0 8 [(2, zi (l2 + 1)), (3, zi (-5)), (0, zr 113), (1, zi l1)] [] zSh μ _ _ _ from ?_)
          have b8 : 0 ≤ (μ 114 3) ∧ (μ 114 3) ≤ 20 := hB 114 3
          refine Az.lvs (lv' := [(0, zr 113), (1, zi l1), (2, zi (l2 + 1))]) ?_ ?_
          · intro q hq; simp only [List.mem_cons, List.not_mem_nil, or_false] at hq; rcases hq with rfl | rfl | rfl <;> rfl
          exact ih μ hB l1 (l2 + 1) (by omega) (by omega) (by omega)
        · rw [if_neg c7]
          refine Az.blk kd_6_fillAll_54 (show Ez md_6_fillAll 0 0 57 [(3, zi (-5)), (0, zr 113), (1, zi l1), (2, zi l2)] [zi (-5), zi l2, zr 113] zSh μ _ _ _ from ?_)
          refine Az.cV (mc := md_6_lays) (k := 113) (n := 2) (As := [zi l2, zi (-5)]) (rest := []) kr_6_fillAll_57 zw_734 ok_6_lays rfl rfl rfl trivial (mz_laysF hB l2 (-5) (by omega) (by omega)) rfl rfl (show Ez md_6_fillAll 0 0 60 [(3, zi (-5)), (0, zr 113), (1, zi l1), (2, zi l2)] [] zSh (zset μ 114 ((mm_lays μ l2 (-5)) 114)) _ _ _ from ?_)
          have e9 : ((zset μ 114 ((mm_lays μ l2 (mm_lowest μ l2)) 114)) 114 3) = (μ 114 3) := mi_lays (by omega)
          refine Az.blk kd_6_fillAll_60 (show Ez md_6_fillAll 0 0 8 [(2, zi (l2 + 1)), (1, zi (l1 + 1)), (3, zi (-5)), (0, zr 113)] [] zSh (zset μ 114 ((mm_lays μ l2 (-5)) 114)) _ _ _ from ?_)
          have b9 : 0 ≤ ((zset μ 114 ((mm_lays μ l2 (-5)) 114)) 114 3) ∧ ((zset μ 114 ((mm_lays μ l2 (-5)) 114)) 114 3) ≤ 20 := (mb_laysF hB l2 (-5) (by omega) (by omega)) 114 3
          refine Az.lvs (lv' := [(0, zr 113), (1, zi (l1 + 1)), (2, zi (l2 + 1))]) ?_ ?_
          · intro q hq; simp only [List.mem_cons, List.not_mem_nil, or_false] at hq; rcases hq with rfl | rfl | rfl <;> rfl
          exact ih ((zset μ 114 ((mm_lays μ l2 (-5)) 114))) (mb_laysF hB l2 (-5) (by omega) (by omega)) (l1 + 1) (l2 + 1) (show 0 ≤ (l2 + 1) ∧ (l2 + 1) ≤ ((zset μ 114 ((mm_lays μ l2 (-5)) 114)) 114 3) from by omega) (by omega) (show ((zset μ 114 ((mm_lays μ l2 (-5)) 114)) 114 3) - (l2 + 1) < ((f : Nat) : Int) from by omega)
      · rw [if_neg c6]
        refine Az.blk kd_6_fillAll_26 (show Ez md_6_fillAll 0 0 29 [(0, zr 113), (1, zi l1), (2, zi l2)] [zi 3, zi l2, zr 113] zSh μ _ _ _ from ?_)
        refine Az.cV (mc := md_6_ofItem) (k := 113) (n := 2) (As := [zi l2, zi 3]) (rest := []) kr_6_fillAll_29 zw_682 ok_6_ofItem rfl rfl rfl trivial (mz_ofItem hB l2 3 (by omega) (by omega)) rfl rfl (show Ez md_6_fillAll 0 0 32 [(0, zr 113), (1, zi l1), (2, zi l2)] [zi (mm_ofItem μ l2 3)] zSh μ _ _ _ from ?_)
        have r10 : -5 ≤ (mm_ofItem μ l2 3) ∧ (mm_ofItem μ l2 3) ≤ 26 ∧ ((3 : Int) = 0 → 0 ≤ (mm_ofItem μ l2 3) ∧ (mm_ofItem μ l2 3) ≤ 1) ∧ ((3 : Int) = 1 → 0 ≤ (mm_ofItem μ l2 3) ∧ (mm_ofItem μ l2 3) ≤ 10) ∧ ((3 : Int) = 2 → 0 ≤ (mm_ofItem μ l2 3) ∧ (mm_ofItem μ l2 3) ≤ 9) ∧ ((3 : Int) = 3 → (mm_ofItem μ l2 3) = -5 ∨ (0 ≤ (mm_ofItem μ l2 3) ∧ (mm_ofItem μ l2 3) ≤ 23)) ∧ (3 < (3 : Int) → 0 ≤ (mm_ofItem μ l2 3)) := mr_ofItem hB l2 3 (by omega) (by omega)
        refine Az.blk kd_6_fillAll_32 (show zR (mm_ofItem μ l2 3) ∧ zR (-5) ∧ ((¬ (mm_ofItem μ l2 3) = (-5) → Ez md_6_fillAll 0 0 45 [(0, zr 113), (1, zi l1), (2, zi l2)] [] zSh μ _ _ _) ∧ ((mm_ofItem μ l2 3) = (-5) → Ez md_6_fillAll 0 0 37 [(0, zr 113), (1, zi l1), (2, zi l2)] [] zSh μ _ _ _)) from ⟨(by omega), (by omega), fun c11 => ?_, fun c11 => ?_⟩)
        · rw [if_neg c11]
          refine Az.blk kd_6_fillAll_45 (show zR (-5) ∧ zR (-5) ∧ ((((-5) : Int) = (-5) → Ez md_6_fillAll 0 0 63 [(3, zi (-5)), (0, zr 113), (1, zi l1), (2, zi l2)] [] zSh μ _ _ _) ∧ (¬ ((-5) : Int) = (-5) → Ez md_6_fillAll 0 0 54 [(3, zi (-5)), (0, zr 113), (1, zi l1), (2, zi l2)] [] zSh μ _ _ _)) from ⟨(by omega), (by omega), fun c12 => ?_, fun c12 => ?_⟩)
          · rw [if_pos c12]
            refine Az.blk kd_6_fillAll_63 (show Ez md_6_fillAll 0 0 8 [(2, zi (l2 + 1)), (3, zi (-5)), (0, zr 113), (1, zi l1)] [] zSh μ _ _ _ from ?_)
            have b13 : 0 ≤ (μ 114 3) ∧ (μ 114 3) ≤ 20 := hB 114 3
            refine Az.lvs (lv' := [(0, zr 113), (1, zi l1), (2, zi (l2 + 1))]) ?_ ?_
            · intro q hq; simp only [List.mem_cons, List.not_mem_nil, or_false] at hq; rcases hq with rfl | rfl | rfl <;> rfl
            exact ih μ hB l1 (l2 + 1) (by omega) (by omega) (by omega)
          · rw [if_neg c12]
            refine Az.blk kd_6_fillAll_54 (show Ez md_6_fillAll 0 0 57 [(3, zi (-5)), (0, zr 113), (1, zi l1), (2, zi l2)] [zi (-5), zi l2, zr 113] zSh μ _ _ _ from ?_)
            refine Az.cV (mc := md_6_lays) (k := 113) (n := 2) (As := [zi l2, zi (-5)]) (rest := []) kr_6_fillAll_57 zw_734 ok_6_lays rfl rfl rfl trivial (mz_laysF hB l2 (-5) (by omega) (by omega)) rfl rfl (show Ez md_6_fillAll 0 0 60 [(3, zi (-5)), (0, zr 113), (1, zi l1), (2, zi l2)] [] zSh (zset μ 114 ((mm_lays μ l2 (-5)) 114)) _ _ _ from ?_)
            have e9 : ((zset μ 114 ((mm_lays μ l2 (mm_lowest μ l2)) 114)) 114 3) = (μ 114 3) := mi_lays (by omega)
            refine Az.blk kd_6_fillAll_60 (show Ez md_6_fillAll 0 0 8 [(2, zi (l2 + 1)), (1, zi (l1 + 1)), (3, zi (-5)), (0, zr 113)] [] zSh (zset μ 114 ((mm_lays μ l2 (-5)) 114)) _ _ _ from ?_)
            have b14 : 0 ≤ ((zset μ 114 ((mm_lays μ l2 (-5)) 114)) 114 3) ∧ ((zset μ 114 ((mm_lays μ l2 (-5)) 114)) 114 3) ≤ 20 := (mb_laysF hB l2 (-5) (by omega) (by omega)) 114 3
            refine Az.lvs (lv' := [(0, zr 113), (1, zi (l1 + 1)), (2, zi (l2 + 1))]) ?_ ?_
            · intro q hq; simp only [List.mem_cons, List.not_mem_nil, or_false] at hq; rcases hq with rfl | rfl | rfl <;> rfl
            exact ih ((zset μ 114 ((mm_lays μ l2 (-5)) 114))) (mb_laysF hB l2 (-5) (by omega) (by omega)) (l1 + 1) (l2 + 1) (show 0 ≤ (l2 + 1) ∧ (l2 + 1) ≤ ((zset μ 114 ((mm_lays μ l2 (-5)) 114)) 114 3) from by omega) (by omega) (show ((zset μ 114 ((mm_lays μ l2 (-5)) 114)) 114 3) - (l2 + 1) < ((f : Nat) : Int) from by omega)
        · rw [if_pos c11]
          refine Az.blk kd_6_fillAll_37 (show Ez md_6_fillAll 0 0 39 [(0, zr 113), (1, zi l1), (2, zi l2)] [zi l2, zr 113] zSh μ _ _ _ from ?_)
          refine Az.cV (mc := md_6_lowest) (k := 113) (n := 1) (As := [zi l2]) (rest := []) kr_6_fillAll_39 zw_746 ok_6_lowest rfl rfl rfl trivial (mz_lowest hB l2 (by omega)) rfl rfl (show Ez md_6_fillAll 0 0 42 [(0, zr 113), (1, zi l1), (2, zi l2)] [zi (mm_lowest μ l2)] zSh μ _ _ _ from ?_)
          have r15 : ((mm_lowest μ l2) = -5 ∨ (0 ≤ (mm_lowest μ l2) ∧ (mm_lowest μ l2) ≤ 23)) := mr_lowest hB l2 (by omega)
          refine Az.blk kd_6_fillAll_42 (show Ez md_6_fillAll 0 0 47 [(0, zr 113), (1, zi l1), (2, zi l2)] [zi (mm_lowest μ l2)] zSh μ _ _ _ from ?_)
          refine Az.blk kd_6_fillAll_47 (show zR (mm_lowest μ l2) ∧ zR (-5) ∧ (((mm_lowest μ l2) = (-5) → Ez md_6_fillAll 0 0 63 [(3, zi (mm_lowest μ l2)), (0, zr 113), (1, zi l1), (2, zi l2)] [] zSh μ _ _ _) ∧ (¬ (mm_lowest μ l2) = (-5) → Ez md_6_fillAll 0 0 54 [(3, zi (mm_lowest μ l2)), (0, zr 113), (1, zi l1), (2, zi l2)] [] zSh μ _ _ _)) from ⟨(by omega), (by omega), fun c16 => ?_, fun c16 => ?_⟩)
          · rw [if_pos c16]
            refine Az.blk kd_6_fillAll_63 (show Ez md_6_fillAll 0 0 8 [(2, zi (l2 + 1)), (3, zi (mm_lowest μ l2)), (0, zr 113), (1, zi l1)] [] zSh μ _ _ _ from ?_)
            have b17 : 0 ≤ (μ 114 3) ∧ (μ 114 3) ≤ 20 := hB 114 3
            refine Az.lvs (lv' := [(0, zr 113), (1, zi l1), (2, zi (l2 + 1))]) ?_ ?_
            · intro q hq; simp only [List.mem_cons, List.not_mem_nil, or_false] at hq; rcases hq with rfl | rfl | rfl <;> rfl
            exact ih μ hB l1 (l2 + 1) (by omega) (by omega) (by omega)
          · rw [if_neg c16]
            refine Az.blk kd_6_fillAll_54 (show Ez md_6_fillAll 0 0 57 [(3, zi (mm_lowest μ l2)), (0, zr 113), (1, zi l1), (2, zi l2)] [zi (mm_lowest μ l2), zi l2, zr 113] zSh μ _ _ _ from ?_)
            refine Az.cV (mc := md_6_lays) (k := 113) (n := 2) (As := [zi l2, zi (mm_lowest μ l2)]) (rest := []) kr_6_fillAll_57 zw_734 ok_6_lays rfl rfl rfl trivial (mz_laysF hB l2 (mm_lowest μ l2) (by omega) (by omega)) rfl rfl (show Ez md_6_fillAll 0 0 60 [(3, zi (mm_lowest μ l2)), (0, zr 113), (1, zi l1), (2, zi l2)] [] zSh (zset μ 114 ((mm_lays μ l2 (mm_lowest μ l2)) 114)) _ _ _ from ?_)
            have e9 : ((zset μ 114 ((mm_lays μ l2 (mm_lowest μ l2)) 114)) 114 3) = (μ 114 3) := mi_lays (by omega)
            refine Az.blk kd_6_fillAll_60 (show Ez md_6_fillAll 0 0 8 [(2, zi (l2 + 1)), (1, zi (l1 + 1)), (3, zi (mm_lowest μ l2)), (0, zr 113)] [] zSh (zset μ 114 ((mm_lays μ l2 (mm_lowest μ l2)) 114)) _ _ _ from ?_)
            have b18 : 0 ≤ ((zset μ 114 ((mm_lays μ l2 (mm_lowest μ l2)) 114)) 114 3) ∧ ((zset μ 114 ((mm_lays μ l2 (mm_lowest μ l2)) 114)) 114 3) ≤ 20 := (mb_laysF hB l2 (mm_lowest μ l2) (by omega) (by omega)) 114 3
            refine Az.lvs (lv' := [(0, zr 113), (1, zi (l1 + 1)), (2, zi (l2 + 1))]) ?_ ?_
            · intro q hq; simp only [List.mem_cons, List.not_mem_nil, or_false] at hq; rcases hq with rfl | rfl | rfl <;> rfl
            exact ih ((zset μ 114 ((mm_lays μ l2 (mm_lowest μ l2)) 114))) (mb_laysF hB l2 (mm_lowest μ l2) (by omega) (by omega)) (l1 + 1) (l2 + 1) (show 0 ≤ (l2 + 1) ∧ (l2 + 1) ≤ ((zset μ 114 ((mm_lays μ l2 (mm_lowest μ l2)) 114)) 114 3) from by omega) (by omega) (show ((zset μ 114 ((mm_lays μ l2 (mm_lowest μ l2)) 114)) 114 3) - (l2 + 1) < ((f : Nat) : Int) from by omega)
set_option maxHeartbeats 4000000 in
set_option maxRecDepth 100000 in
theorem mz_fillAll {μ : zM} (hB : zB μ)  : Dz md_6_fillAll [zr 113] zSh μ (some (zi (mm_fillAll μ).1)) zSh (mm_fillAll μ).2 := by
  refine Dz.of (by decide) rfl rfl (show Ez md_6_fillAll 0 0 0 [(0, zr 113)] [] zSh μ (some (zi (mm_fillAll μ).1)) zSh (mm_fillAll μ).2 from ?_)
  unfold mm_fillAll
  refine Az.blk kd_6_fillAll_0 (show Ez md_6_fillAll 0 0 1 [(0, zr 113)] [zr 113] zSh μ _ _ _ from ?_)
  refine Az.cV (mc := md_6_keeps) (k := 113) (n := 0) (As := []) (rest := []) kr_6_fillAll_1 zw_637 ok_6_keeps rfl rfl rfl trivial (mz_keepsF hB) rfl rfl (show Ez md_6_fillAll 0 0 4 [(0, zr 113)] [] zSh (zset μ 115 ((mm_keeps μ) 115)) _ _ _ from ?_)
  refine Az.blk kd_6_fillAll_4 (show Ez md_6_fillAll 0 0 8 [(2, zi 0), (1, zi 0), (0, zr 113)] [] zSh (zset μ 115 ((mm_keeps μ) 115)) _ _ _ from ?_)
  have b1 : 0 ≤ (μ 114 3) ∧ (μ 114 3) ≤ 20 := hB 114 3
  refine Az.lvs (lv' := [(0, zr 113), (1, zi 0), (2, zi 0)]) ?_ ?_
  · intro q hq; simp only [List.mem_cons, List.not_mem_nil, or_false] at hq; rcases hq with rfl | rfl | rfl <;> rfl
  have fb : (3000 : Int) ≤ ((zN : Nat) : Int) := zN_big
  exact mz_fillAll_8 zN ((zset μ 115 ((mm_keeps μ) 115))) (mb_keepsF hB) 0 0 (show 0 ≤ 0 ∧ 0 ≤ (μ 114 3) from by omega) (by omega) (show (μ 114 3) - 0 < ((zN : Nat) : Int) from by omega)
def kb_6_addWord_0 : List zI := [(.iload_n 1, 1, 0, 0)]
theorem kd_6_addWord_0 : zdec md_6_addWord 0 kb_6_addWord_0 = true := by decide +kernel
theorem kr_6_addWord_1 : decode md_6_addWord.2.1 1 = .ok (.invokestatic 78, 3) := by decide +kernel
def kb_6_addWord_4 : List zI := [(.ifCond .ne 5, 3, 9, 0)]
theorem kd_6_addWord_4 : zdec md_6_addWord 4 kb_6_addWord_4 = true := by decide +kernel
def kb_6_addWord_9 : List zI := [(.iload_n 2, 1, 0, 0), (.i2l, 1, 0, 0), (.lconst 0, 1, 0, 0), (.iload_n 1, 1, 0, 0), (.ifCond .ne 9, 3, 22, 0)]
theorem kd_6_addWord_9 : zdec md_6_addWord 9 kb_6_addWord_9 = true := by decide +kernel
def kb_6_addWord_22 : List zI := [(.lconst 0, 1, 0, 0)]
theorem kd_6_addWord_22 : zdec md_6_addWord 22 kb_6_addWord_22 = true := by decide +kernel
theorem kr_6_addWord_23 : decode md_6_addWord.2.1 23 = .ok (.invokestatic 32, 3) := by decide +kernel
def kb_6_addWord_26 : List zI := [(.ifCond .ne 6, 3, 32, 0)]
theorem kd_6_addWord_26 : zdec md_6_addWord 26 kb_6_addWord_26 = true := by decide +kernel
def kb_6_addWord_32 : List zI := [(.aload_n 0, 1, 0, 0)]
theorem kd_6_addWord_32 : zdec md_6_addWord 32 kb_6_addWord_32 = true := by decide +kernel
theorem kr_6_addWord_33 : decode md_6_addWord.2.1 33 = .ok (.invokevirtual 81, 3) := by decide +kernel
def kb_6_addWord_36 : List zI := [(.istore_n 3, 1, 0, 0), (.iload_n 3, 1, 0, 0), (.bipush (-5), 2, 0, 0), (.if_icmp .eq 8, 3, 48, 0)]
theorem kd_6_addWord_36 : zdec md_6_addWord 36 kb_6_addWord_36 = true := by decide +kernel
def kb_6_addWord_48 : List zI := [(.aload_n 0, 1, 0, 0), (.getfield 7, 3, 6, 0), (.iconst 2, 1, 0, 0), (.iaload, 1, 0, 0), (.bipush 24, 2, 0, 0), (.if_icmp .ne 6, 3, 62, 0)]
theorem kd_6_addWord_48 : zdec md_6_addWord 48 kb_6_addWord_48 = true := by decide +kernel
def kb_6_addWord_62 : List zI := [(.aload_n 0, 1, 0, 0)]
theorem kd_6_addWord_62 : zdec md_6_addWord 62 kb_6_addWord_62 = true := by decide +kernel
theorem kr_6_addWord_63 : decode md_6_addWord.2.1 63 = .ok (.invokevirtual 85, 3) := by decide +kernel
def kb_6_addWord_66 : List zI := [(.iconst 4, 1, 0, 0), (.bipush 11, 2, 0, 0), (.aload_n 0, 1, 0, 0), (.getfield 7, 3, 6, 0), (.iconst 2, 1, 0, 0), (.iaload, 1, 0, 0), (.imul, 1, 0, 0), (.iadd, 1, 0, 0), (.istore 4, 2, 0, 0), (.aload_n 0, 1, 0, 0), (.getfield 7, 3, 6, 0), (.iload 4, 2, 0, 0), (.iconst 0, 1, 0, 0), (.iadd, 1, 0, 0), (.iload_n 1, 1, 0, 0), (.iastore, 1, 0, 0), (.aload_n 0, 1, 0, 0), (.getfield 7, 3, 6, 0), (.iload 4, 2, 0, 0), (.iconst 1, 1, 0, 0), (.iadd, 1, 0, 0), (.iload_n 2, 1, 0, 0), (.iastore, 1, 0, 0), (.aload_n 0, 1, 0, 0), (.getfield 7, 3, 6, 0), (.iload 4, 2, 0, 0), (.iconst 2, 1, 0, 0), (.iadd, 1, 0, 0), (.aload_n 0, 1, 0, 0), (.getfield 88, 3, 6, 8), (.iastore, 1, 0, 0), (.iconst 0, 1, 0, 0), (.istore 5, 2, 0, 0)]
theorem kd_6_addWord_66 : zdec md_6_addWord 66 kb_6_addWord_66 = true := by decide +kernel
def kb_6_addWord_59 : List zI := [(.bipush (-3), 2, 0, 0)]
theorem kd_6_addWord_59 : zdec md_6_addWord 59 kb_6_addWord_59 = true := by decide +kernel
theorem kr_6_addWord_61 : decode md_6_addWord.2.1 61 = .ok (.ireturn, 1) := by decide +kernel
def kb_6_addWord_43 : List zI := [(.bipush (-100), 2, 0, 0), (.iload_n 3, 1, 0, 0), (.isub, 1, 0, 0)]
theorem kd_6_addWord_43 : zdec md_6_addWord 43 kb_6_addWord_43 = true := by decide +kernel
theorem kr_6_addWord_47 : decode md_6_addWord.2.1 47 = .ok (.ireturn, 1) := by decide +kernel
def kb_6_addWord_29 : List zI := [(.bipush (-2), 2, 0, 0)]
theorem kd_6_addWord_29 : zdec md_6_addWord 29 kb_6_addWord_29 = true := by decide +kernel
theorem kr_6_addWord_31 : decode md_6_addWord.2.1 31 = .ok (.ireturn, 1) := by decide +kernel
def kb_6_addWord_16 : List zI := [(.ldc2_w 36, 3, 2, 0), (.goto 4, 3, 23, 0)]
theorem kd_6_addWord_16 : zdec md_6_addWord 16 kb_6_addWord_16 = true := by decide +kernel
def kb_6_addWord_7 : List zI := [(.iconst (-1), 1, 0, 0)]
theorem kd_6_addWord_7 : zdec md_6_addWord 7 kb_6_addWord_7 = true := by decide +kernel
theorem kr_6_addWord_8 : decode md_6_addWord.2.1 8 = .ok (.ireturn, 1) := by decide +kernel
def kb_6_addWord_115 : List zI := [(.iload 5, 2, 0, 0), (.aload_n 0, 1, 0, 0), (.getfield 88, 3, 6, 8), (.if_icmp .ge 33, 3, 154, 0)]
theorem kd_6_addWord_115 : zdec md_6_addWord 115 kb_6_addWord_115 = true := by decide +kernel
def kb_6_addWord_154 : List zI := [(.aload_n 0, 1, 0, 0), (.getfield 7, 3, 6, 0), (.iconst 2, 1, 0, 0), (.dup2, 1, 0, 0), (.iaload, 1, 0, 0), (.iconst 1, 1, 0, 0), (.iadd, 1, 0, 0), (.iastore, 1, 0, 0), (.aload_n 0, 1, 0, 0), (.aload_n 0, 1, 0, 0), (.getfield 7, 3, 6, 0), (.iconst 2, 1, 0, 0), (.iaload, 1, 0, 0), (.iconst 1, 1, 0, 0), (.isub, 1, 0, 0)]
theorem kd_6_addWord_154 : zdec md_6_addWord 154 kb_6_addWord_154 = true := by decide +kernel
theorem kr_6_addWord_173 : decode md_6_addWord.2.1 173 = .ok (.invokevirtual 91, 3) := by decide +kernel
theorem kr_6_addWord_176 : decode md_6_addWord.2.1 176 = .ok (.ireturn, 1) := by decide +kernel
def kb_6_addWord_124 : List zI := [(.aload_n 0, 1, 0, 0), (.getfield 7, 3, 6, 0), (.iload 4, 2, 0, 0), (.iconst 3, 1, 0, 0), (.iadd, 1, 0, 0), (.iload 5, 2, 0, 0), (.iadd, 1, 0, 0), (.aload_n 0, 1, 0, 0), (.getfield 25, 3, 6, 7), (.iload 5, 2, 0, 0), (.iaload, 1, 0, 0), (.bipush 97, 2, 0, 0), (.isub, 1, 0, 0), (.iconst 1, 1, 0, 0), (.iadd, 1, 0, 0), (.iastore, 1, 0, 0), (.iinc 5 1, 3, 0, 0), (.goto (-36), 3, 115, 0)]
theorem kd_6_addWord_124 : zdec md_6_addWord 124 kb_6_addWord_124 = true := by decide +kernel
noncomputable def mm_addWord_115 : Nat → zM → Int → Int → Int × zM
  | 0, μ, _, _ => (0, μ)
  | f + 1, μ, l4, l5 => (if l5 < (μ 113 8) then (mm_addWord_115 f (zup μ 114 ((l4 + 3) + l5) (((μ 119 l5) - 97) + 1)) l4 (l5 + 1)) else ((mm_ends (zup μ 114 2 ((μ 114 2) + 1)) (((μ 114 2) + 1) - 1)).1, (mm_ends (zup μ 114 2 ((μ 114 2) + 1)) (((μ 114 2) + 1) - 1)).2))
noncomputable def mm_addWord (μ : zM) (a1 a2 : Int) : Int × zM := (if (mm_isKind a1) = 0 then ((-1), μ) else (if a1 = 0 then (if (mm_in a2 0 2) = 0 then ((-2), μ) else (if (mm_stemFault μ).1 = (-5) then (if (μ 114 2) = 24 then ((-3), (zup μ 113 9 ((mm_stemFault μ).2 113 9))) else (mm_addWord_115 zN (zup (zup (zup (zset (zup μ 113 9 ((mm_stemFault μ).2 113 9)) 115 ((mm_keeps (zup μ 113 9 ((mm_stemFault μ).2 113 9))) 115)) 114 ((4 + (11 * (μ 114 2))) + 0) a1) 114 ((4 + (11 * (μ 114 2))) + 1) a2) 114 ((4 + (11 * (μ 114 2))) + 2) (μ 113 8)) (4 + (11 * (μ 114 2))) 0)) else (((-100) - (mm_stemFault μ).1), (zup μ 113 9 ((mm_stemFault μ).2 113 9))))) else (if (mm_in a2 0 0) = 0 then ((-2), μ) else (if (mm_stemFault μ).1 = (-5) then (if (μ 114 2) = 24 then ((-3), (zup μ 113 9 ((mm_stemFault μ).2 113 9))) else (mm_addWord_115 zN (zup (zup (zup (zset (zup μ 113 9 ((mm_stemFault μ).2 113 9)) 115 ((mm_keeps (zup μ 113 9 ((mm_stemFault μ).2 113 9))) 115)) 114 ((4 + (11 * (μ 114 2))) + 0) a1) 114 ((4 + (11 * (μ 114 2))) + 1) a2) 114 ((4 + (11 * (μ 114 2))) + 2) (μ 113 8)) (4 + (11 * (μ 114 2))) 0)) else (((-100) - (mm_stemFault μ).1), (zup μ 113 9 ((mm_stemFault μ).2 113 9)))))))
set_option maxHeartbeats 4000000 in
set_option maxRecDepth 100000 in
theorem mb_addWord_115 (f : Nat) (μ : zM) (hB : zB μ) (l4 : Int) (l5 : Int) (i0 : 0 ≤ l5 ∧ l5 ≤ (μ 113 8)) (i1 : (l4 - 4) % 11 = 0 ∧ 4 ≤ l4 ∧ l4 ≤ 257) (i2 : (μ 113 8) ≤ 8) (i3 : (μ 114 2) ≤ 23) (i4 : (∀ z : Int, 0 ≤ z → z < (μ 113 8) → 97 ≤ (μ 119 z) ∧ (μ 119 z) ≤ 122)) (hf : (μ 113 8) - l5 < (f : Int)) : zB (mm_addWord_115 f μ l4 l5).2 := by
  induction f generalizing μ l4 l5 with
  | zero => exfalso; omega
  | succ f ih =>
    replace hf : (μ 113 8) - l5 < (f : Int) + 1 := by omega
    rw [mm_addWord_115]
    have b22 : 0 ≤ (μ 113 8) ∧ (μ 113 8) ≤ 60 := hB 113 8
    have e10 : 0 ≤ l5 → l5 < (μ 113 8) → 97 ≤ (μ 119 l5) ∧ (μ 119 l5) ≤ 122 := i4 l5
    by_cases c23 : l5 < (μ 113 8)
    · rw [if_pos c23]
      have b25 : 0 ≤ (μ 119 l5) ∧ (μ 119 l5) ≤ 65535 := hB 119 l5
      have b26 : 0 ≤ (μ 113 8) ∧ (μ 113 8) ≤ 60 := hB 113 8
      exact ih ((zup μ 114 ((l4 + 3) + l5) (((μ 119 l5) - 97) + 1))) (zup_ok (k := 114) (z := ((l4 + 3) + l5)) (v := (((μ 119 l5) - 97) + 1)) hB (show zOkR ((l4 + 3) + l5) (((μ 119 l5) - 97) + 1) from zOkR_of (by omega) ⟨by omega, by omega, by omega, by omega⟩)) l4 (l5 + 1) (show 0 ≤ (l5 + 1) ∧ (l5 + 1) ≤ (μ 113 8) from by omega) (by omega) (show (μ 113 8) ≤ 8 from by omega) (by (repeat rw [zup_ap, if_neg (by omega)]); show (μ 114 2) ≤ 23; omega) (by first | exact i4 | exact (ms_stemFault hB (by omega)).2.2) (show (μ 113 8) - (l5 + 1) < ((f : Nat) : Int) from by omega)
    · rw [if_neg c23]
      have b24 : 0 ≤ (μ 114 2) ∧ (μ 114 2) ≤ 24 := hB 114 2
      exact (mb_ends (zup_ok (k := 114) (z := 2) (v := ((μ 114 2) + 1)) hB (show 0 ≤ ((μ 114 2) + 1) ∧ ((μ 114 2) + 1) ≤ 24 from by omega)) (((μ 114 2) + 1) - 1))
set_option maxHeartbeats 4000000 in
set_option maxRecDepth 100000 in
theorem mb_addWord {μ : zM} (hB : zB μ) (a1 a2 : Int) (h0 : -2147483648 ≤ a1 ∧ a1 ≤ 2147483647) (h1 : -2147483648 ≤ a2 ∧ a2 ≤ 2147483647) : zB (mm_addWord μ a1 a2).2 := by
  unfold mm_addWord
  have r1 : 0 ≤ (mm_isKind a1) ∧ (mm_isKind a1) ≤ 1 ∧ ((mm_isKind a1) = 1 → 0 ≤ a1 ∧ a1 ≤ 2) ∧ ((mm_isKind a1) = 0 → a1 < 0 ∨ 2 < a1) := mr_isKind a1 (by omega)
  by_cases c2 : (mm_isKind a1) = 0
  · rw [if_pos c2]
    exact hB
  · rw [if_neg c2]
    by_cases c3 : a1 = 0
    · rw [if_pos c3]
      have r13 : 0 ≤ (mm_in a2 0 2) ∧ (mm_in a2 0 2) ≤ 1 ∧ ((mm_in a2 0 2) = 1 → (0 : Int) ≤ a2 ∧ a2 ≤ (2 : Int)) ∧ ((mm_in a2 0 2) = 0 → a2 < (0 : Int) ∨ (2 : Int) < a2) := mr_in a2 0 2 (by omega) (by omega) (by omega)
      by_cases c14 : (mm_in a2 0 2) = 0
      · rw [if_pos c14]
        exact hB
      · rw [if_neg c14]
        have r15 : ((mm_stemFault μ).1 = -5 ∨ (0 ≤ (mm_stemFault μ).1 ∧ (mm_stemFault μ).1 ≤ 8)) := mr_stemFault hB
        have e9 : (mm_stemFault μ).1 = -5 → 1 ≤ (μ 113 8) ∧ (μ 113 8) ≤ 8 := fun q => ⟨(ms_stemFault hB q).1, (ms_stemFault hB q).2.1⟩
        by_cases c16 : (mm_stemFault μ).1 = (-5)
        · rw [if_pos c16]
          have b17 : 0 ≤ (μ 114 2) ∧ (μ 114 2) ≤ 24 := hB 114 2
          by_cases c18 : (μ 114 2) = 24
          · rw [if_pos c18]
            exact (mb_stemFaultF hB)
          · rw [if_neg c18]
            have b19 : 0 ≤ (μ 114 2) ∧ (μ 114 2) ≤ 24 := hB 114 2
            have b20 : 0 ≤ (μ 113 8) ∧ (μ 113 8) ≤ 60 := hB 113 8
            have b21 : 0 ≤ (μ 113 8) ∧ (μ 113 8) ≤ 60 := hB 113 8
            have fb : (3000 : Int) ≤ ((zN : Nat) : Int) := zN_big
            exact mb_addWord_115 zN ((zup (zup (zup (zset (zup μ 113 9 ((mm_stemFault μ).2 113 9)) 115 ((mm_keeps (zup μ 113 9 ((mm_stemFault μ).2 113 9))) 115)) 114 ((4 + (11 * (μ 114 2))) + 0) a1) 114 ((4 + (11 * (μ 114 2))) + 1) a2) 114 ((4 + (11 * (μ 114 2))) + 2) (μ 113 8))) (zup_ok (k := 114) (z := ((4 + (11 * (μ 114 2))) + 2)) (v := (μ 113 8)) (zup_ok (k := 114) (z := ((4 + (11 * (μ 114 2))) + 1)) (v := a2) (zup_ok (k := 114) (z := ((4 + (11 * (μ 114 2))) + 0)) (v := a1) (mb_keepsF (mb_stemFaultF hB)) (show zOkR ((4 + (11 * (μ 114 2))) + 0) a1 from zOkR_of (by omega) ⟨by omega, by omega, by omega, by omega⟩)) (show zOkR ((4 + (11 * (μ 114 2))) + 1) a2 from zOkR_of (by omega) ⟨by omega, by omega, by omega, by omega⟩)) (show zOkR ((4 + (11 * (μ 114 2))) + 2) (μ 113 8) from zOkR_of (by omega) ⟨by omega, by omega, by omega, by omega⟩)) (4 + (11 * (μ 114 2))) 0 (show 0 ≤ 0 ∧ 0 ≤ (μ 113 8) from by omega) (by omega) (show (μ 113 8) ≤ 8 from by omega) (by (repeat rw [zup_ap, if_neg (by omega)]); show (μ 114 2) ≤ 23; omega) (by first | exact i4 | exact (ms_stemFault hB (by omega)).2.2) (show (μ 113 8) - 0 < ((zN : Nat) : Int) from by omega)
        · rw [if_neg c16]
          exact (mb_stemFaultF hB)
    · rw [if_neg c3]
      have r4 : 0 ≤ (mm_in a2 0 0) ∧ (mm_in a2 0 0) ≤ 1 ∧ ((mm_in a2 0 0) = 1 → (0 : Int) ≤ a2 ∧ a2 ≤ (0 : Int)) ∧ ((mm_in a2 0 0) = 0 → a2 < (0 : Int) ∨ (0 : Int) < a2) := mr_in a2 0 0 (by omega) (by omega) (by omega)
      by_cases c5 : (mm_in a2 0 0) = 0
      · rw [if_pos c5]
        exact hB
      · rw [if_neg c5]
        have r6 : ((mm_stemFault μ).1 = -5 ∨ (0 ≤ (mm_stemFault μ).1 ∧ (mm_stemFault μ).1 ≤ 8)) := mr_stemFault hB
        have e9 : (mm_stemFault μ).1 = -5 → 1 ≤ (μ 113 8) ∧ (μ 113 8) ≤ 8 := fun q => ⟨(ms_stemFault hB q).1, (ms_stemFault hB q).2.1⟩
        by_cases c7 : (mm_stemFault μ).1 = (-5)
        · rw [if_pos c7]
          have b8 : 0 ≤ (μ 114 2) ∧ (μ 114 2) ≤ 24 := hB 114 2
          by_cases c9 : (μ 114 2) = 24
          · rw [if_pos c9]
            exact (mb_stemFaultF hB)
          · rw [if_neg c9]
            have b10 : 0 ≤ (μ 114 2) ∧ (μ 114 2) ≤ 24 := hB 114 2
            have b11 : 0 ≤ (μ 113 8) ∧ (μ 113 8) ≤ 60 := hB 113 8
            have b12 : 0 ≤ (μ 113 8) ∧ (μ 113 8) ≤ 60 := hB 113 8
            have fb : (3000 : Int) ≤ ((zN : Nat) : Int) := zN_big
            exact mb_addWord_115 zN ((zup (zup (zup (zset (zup μ 113 9 ((mm_stemFault μ).2 113 9)) 115 ((mm_keeps (zup μ 113 9 ((mm_stemFault μ).2 113 9))) 115)) 114 ((4 + (11 * (μ 114 2))) + 0) a1) 114 ((4 + (11 * (μ 114 2))) + 1) a2) 114 ((4 + (11 * (μ 114 2))) + 2) (μ 113 8))) (zup_ok (k := 114) (z := ((4 + (11 * (μ 114 2))) + 2)) (v := (μ 113 8)) (zup_ok (k := 114) (z := ((4 + (11 * (μ 114 2))) + 1)) (v := a2) (zup_ok (k := 114) (z := ((4 + (11 * (μ 114 2))) + 0)) (v := a1) (mb_keepsF (mb_stemFaultF hB)) (show zOkR ((4 + (11 * (μ 114 2))) + 0) a1 from zOkR_of (by omega) ⟨by omega, by omega, by omega, by omega⟩)) (show zOkR ((4 + (11 * (μ 114 2))) + 1) a2 from zOkR_of (by omega) ⟨by omega, by omega, by omega, by omega⟩)) (show zOkR ((4 + (11 * (μ 114 2))) + 2) (μ 113 8) from zOkR_of (by omega) ⟨by omega, by omega, by omega, by omega⟩)) (4 + (11 * (μ 114 2))) 0 (show 0 ≤ 0 ∧ 0 ≤ (μ 113 8) from by omega) (by omega) (show (μ 113 8) ≤ 8 from by omega) (by (repeat rw [zup_ap, if_neg (by omega)]); show (μ 114 2) ≤ 23; omega) (by first | exact i4 | exact (ms_stemFault hB (by omega)).2.2) (show (μ 113 8) - 0 < ((zN : Nat) : Int) from by omega)
        · rw [if_neg c7]
          exact (mb_stemFaultF hB)
set_option maxHeartbeats 4000000 in
set_option maxRecDepth 100000 in
theorem mz_addWord_115 (f : Nat) (μ : zM) (hB : zB μ) (l4 : Int) (l5 : Int) (i0 : 0 ≤ l5 ∧ l5 ≤ (μ 113 8)) (i1 : (l4 - 4) % 11 = 0 ∧ 4 ≤ l4 ∧ l4 ≤ 257) (i2 : (μ 113 8) ≤ 8) (i3 : (μ 114 2) ≤ 23) (i4 : (∀ z : Int, 0 ≤ z → z < (μ 113 8) → 97 ≤ (μ 119 z) ∧ (μ 119 z) ≤ 122)) (hf : (μ 113 8) - l5 < (f : Int)) : Ez md_6_addWord 0 0 115 [(0, zr 113), (4, zi l4), (5, zi l5)] [] zSh μ (some (zi (mm_addWord_115 f μ l4 l5).1)) zSh (mm_addWord_115 f μ l4 l5).2 := by
  induction f generalizing μ l4 l5 with
  | zero => exfalso; omega
  | succ f ih =>
    replace hf : (μ 113 8) - l5 < (f : Int) + 1 := by omega
    rw [mm_addWord_115]
    have b22 : 0 ≤ (μ 113 8) ∧ (μ 113 8) ≤ 60 := hB 113 8
    have e10 : 0 ≤ l5 → l5 < (μ 113 8) → 97 ≤ (μ 119 l5) ∧ (μ 119 l5) ≤ 122 := i4 l5
    refine Az.blk kd_6_addWord_115 (show zR l5 ∧ zR (μ 113 8) ∧ ((¬ l5 < (μ 113 8) → Ez md_6_addWord 0 0 154 [(0, zr 113), (4, zi l4), (5, zi l5)] [] zSh μ _ _ _) ∧ (l5 < (μ 113 8) → Ez md_6_addWord 0 0 124 [(0, zr 113), (4, zi l4), (5, zi l5)] [] zSh μ _ _ _)) from ⟨(by omega), (by omega), fun c23 => ?_, fun c23 => ?_⟩)
    · rw [if_neg c23]
      have b24 : 0 ≤ (μ 114 2) ∧ (μ 114 2) ≤ 24 := hB 114 2
      refine Az.blk kd_6_addWord_154 (show (0 ≤ 2 ∧ 2 < 604) ∧ (0 ≤ 2 ∧ 2 < 604) ∧ (0 ≤ 2 ∧ 2 < 604) ∧ Ez md_6_addWord 0 0 173 [(0, zr 113), (4, zi l4), (5, zi l5)] [zi (((μ 114 2) + 1) - 1), zr 113] zSh (zup μ 114 2 ((μ 114 2) + 1)) _ _ _ from ⟨(by omega), (by omega), (by omega), ?_⟩)
      refine Az.cV (mc := md_6_ends) (k := 113) (n := 1) (As := [zi (((μ 114 2) + 1) - 1)]) (rest := []) kr_6_addWord_173 zw_641 ok_6_ends rfl rfl rfl trivial (mz_ends (zup_ok (k := 114) (z := 2) (v := ((μ 114 2) + 1)) hB (show 0 ≤ ((μ 114 2) + 1) ∧ ((μ 114 2) + 1) ≤ 24 from by omega)) (((μ 114 2) + 1) - 1)) rfl rfl (show Ez md_6_addWord 0 0 176 [(0, zr 113), (4, zi l4), (5, zi l5)] [zi (mm_ends (zup μ 114 2 ((μ 114 2) + 1)) (((μ 114 2) + 1) - 1)).1] zSh (mm_ends (zup μ 114 2 ((μ 114 2) + 1)) (((μ 114 2) + 1) - 1)).2 _ _ _ from ?_)
      exact Ez.iret kr_6_addWord_176 rfl (Nat.zero_le _) (Nat.zero_le _) rfl rfl
    · rw [if_pos c23]
      have b25 : 0 ≤ (μ 119 l5) ∧ (μ 119 l5) ≤ 65535 := hB 119 l5
      refine Az.blk kd_6_addWord_124 (show (0 ≤ l5 ∧ l5 < 60) ∧ (0 ≤ ((l4 + 3) + l5) ∧ ((l4 + 3) + l5) < 604) ∧ Ez md_6_addWord 0 0 115 [(5, zi (l5 + 1)), (0, zr 113), (4, zi l4)] [] zSh (zup μ 114 ((l4 + 3) + l5) (((μ 119 l5) - 97) + 1)) _ _ _ from ⟨(by omega), (by omega), ?_⟩)
      have b26 : 0 ≤ (μ 113 8) ∧ (μ 113 8) ≤ 60 := hB 113 8
      refine Az.lvs (lv' := [(0, zr 113), (4, zi l4), (5, zi (l5 + 1))]) ?_ ?_
      · intro q hq; simp only [List.mem_cons, List.not_mem_nil, or_false] at hq; rcases hq with rfl | rfl | rfl <;> rfl
      exact ih ((zup μ 114 ((l4 + 3) + l5) (((μ 119 l5) - 97) + 1))) (zup_ok (k := 114) (z := ((l4 + 3) + l5)) (v := (((μ 119 l5) - 97) + 1)) hB (show zOkR ((l4 + 3) + l5) (((μ 119 l5) - 97) + 1) from zOkR_of (by omega) ⟨by omega, by omega, by omega, by omega⟩)) l4 (l5 + 1) (show 0 ≤ (l5 + 1) ∧ (l5 + 1) ≤ (μ 113 8) from by omega) (by omega) (show (μ 113 8) ≤ 8 from by omega) (by (repeat rw [zup_ap, if_neg (by omega)]); show (μ 114 2) ≤ 23; omega) (by first | exact i4 | exact (ms_stemFault hB (by omega)).2.2) (show (μ 113 8) - (l5 + 1) < ((f : Nat) : Int) from by omega)
set_option maxHeartbeats 4000000 in
set_option maxRecDepth 100000 in
theorem mz_addWord {μ : zM} (hB : zB μ) (a1 a2 : Int) (h0 : -2147483648 ≤ a1 ∧ a1 ≤ 2147483647) (h1 : -2147483648 ≤ a2 ∧ a2 ≤ 2147483647) : Dz md_6_addWord [zr 113, zi a1, zi a2] zSh μ (some (zi (mm_addWord μ a1 a2).1)) zSh (mm_addWord μ a1 a2).2 := by
  refine Dz.of (by decide) rfl rfl (show Ez md_6_addWord 0 0 0 [(0, zr 113), (1, zi a1), (2, zi a2)] [] zSh μ (some (zi (mm_addWord μ a1 a2).1)) zSh (mm_addWord μ a1 a2).2 from ?_)
  unfold mm_addWord
  refine Az.blk kd_6_addWord_0 (show Ez md_6_addWord 0 0 1 [(0, zr 113), (1, zi a1), (2, zi a2)] [zi a1] zSh μ _ _ _ from ?_)
  refine Az.cS (mc := md_6_isKind) (n := 1) (As := [zi a1]) (rest := []) kr_6_addWord_1 zw_622 ok_6_isKind rfl rfl (mz_isKind a1 (by omega)) rfl rfl (show Ez md_6_addWord 0 0 4 [(0, zr 113), (1, zi a1), (2, zi a2)] [zi (mm_isKind a1)] zSh μ _ _ _ from ?_)
  have r1 : 0 ≤ (mm_isKind a1) ∧ (mm_isKind a1) ≤ 1 ∧ ((mm_isKind a1) = 1 → 0 ≤ a1 ∧ a1 ≤ 2) ∧ ((mm_isKind a1) = 0 → a1 < 0 ∨ 2 < a1) := mr_isKind a1 (by omega)
  refine Az.blk kd_6_addWord_4 (show zR (mm_isKind a1) ∧ ((¬ (mm_isKind a1) = 0 → Ez md_6_addWord 0 0 9 [(0, zr 113), (1, zi a1), (2, zi a2)] [] zSh μ _ _ _) ∧ ((mm_isKind a1) = 0 → Ez md_6_addWord 0 0 7 [(0, zr 113), (1, zi a1), (2, zi a2)] [] zSh μ _ _ _)) from ⟨(by omega), fun c2 => ?_, fun c2 => ?_⟩)
  · rw [if_neg c2]
    refine Az.blk kd_6_addWord_9 (show zR a2 ∧ zR a1 ∧ ((¬ a1 = 0 → Ez md_6_addWord 0 0 22 [(0, zr 113), (1, zi a1), (2, zi a2)] [zl 0, zl a2] zSh μ _ _ _) ∧ (a1 = 0 → Ez md_6_addWord 0 0 16 [(0, zr 113), (1, zi a1), (2, zi a2)] [zl 0, zl a2] zSh μ _ _ _)) from ⟨(by omega), (by omega), fun c3 => ?_, fun c3 => ?_⟩)
    · rw [if_neg c3]
      refine Az.blk kd_6_addWord_22 (show Ez md_6_addWord 0 0 23 [(0, zr 113), (1, zi a1), (2, zi a2)] [zl 0, zl 0, zl a2] zSh μ _ _ _ from ?_)
      refine Az.cS (mc := md_6_in) (n := 3) (As := [zl a2, zl 0, zl 0]) (rest := []) kr_6_addWord_23 zw_626 ok_6_in rfl rfl (mz_in a2 0 0 (by omega) (by omega) (by omega)) rfl rfl (show Ez md_6_addWord 0 0 26 [(0, zr 113), (1, zi a1), (2, zi a2)] [zi (mm_in a2 0 0)] zSh μ _ _ _ from ?_)
      have r4 : 0 ≤ (mm_in a2 0 0) ∧ (mm_in a2 0 0) ≤ 1 ∧ ((mm_in a2 0 0) = 1 → (0 : Int) ≤ a2 ∧ a2 ≤ (0 : Int)) ∧ ((mm_in a2 0 0) = 0 → a2 < (0 : Int) ∨ (0 : Int) < a2) := mr_in a2 0 0 (by omega) (by omega) (by omega)
      refine Az.blk kd_6_addWord_26 (show zR (mm_in a2 0 0) ∧ ((¬ (mm_in a2 0 0) = 0 → Ez md_6_addWord 0 0 32 [(0, zr 113), (1, zi a1), (2, zi a2)] [] zSh μ _ _ _) ∧ ((mm_in a2 0 0) = 0 → Ez md_6_addWord 0 0 29 [(0, zr 113), (1, zi a1), (2, zi a2)] [] zSh μ _ _ _)) from ⟨(by omega), fun c5 => ?_, fun c5 => ?_⟩)
      · rw [if_neg c5]
        refine Az.blk kd_6_addWord_32 (show Ez md_6_addWord 0 0 33 [(0, zr 113), (1, zi a1), (2, zi a2)] [zr 113] zSh μ _ _ _ from ?_)
        refine Az.cV (mc := md_6_stemFault) (k := 113) (n := 0) (As := []) (rest := []) kr_6_addWord_33 zw_629 ok_6_stemFault rfl rfl rfl trivial (mz_stemFaultF hB) rfl rfl (show Ez md_6_addWord 0 0 36 [(0, zr 113), (1, zi a1), (2, zi a2)] [zi (mm_stemFault μ).1] zSh (zup μ 113 9 ((mm_stemFault μ).2 113 9)) _ _ _ from ?_)
        have r6 : ((mm_stemFault μ).1 = -5 ∨ (0 ≤ (mm_stemFault μ).1 ∧ (mm_stemFault μ).1 ≤ 8)) := mr_stemFault hB
        have e9 : (mm_stemFault μ).1 = -5 → 1 ≤ (μ 113 8) ∧ (μ 113 8) ≤ 8 := fun q => ⟨(ms_stemFault hB q).1, (ms_stemFault hB q).2.1⟩
        refine Az.blk kd_6_addWord_36 (show zR (mm_stemFault μ).1 ∧ zR (-5) ∧ (((mm_stemFault μ).1 = (-5) → Ez md_6_addWord 0 0 48 [(3, zi (mm_stemFault μ).1), (0, zr 113), (1, zi a1), (2, zi a2)] [] zSh (zup μ 113 9 ((mm_stemFault μ).2 113 9)) _ _ _) ∧ (¬ (mm_stemFault μ).1 = (-5) → Ez md_6_addWord 0 0 43 [(3, zi (mm_stemFault μ).1), (0, zr 113), (1, zi a1), (2, zi a2)] [] zSh (zup μ 113 9 ((mm_stemFault μ).2 113 9)) _ _ _)) from ⟨(by omega), (by omega), fun c7 => ?_, fun c7 => ?_⟩)
        · rw [if_pos c7]
          have b8 : 0 ≤ (μ 114 2) ∧ (μ 114 2) ≤ 24 := hB 114 2
          refine Az.blk kd_6_addWord_48 (show (0 ≤ 2 ∧ 2 < 604) ∧ zR (μ 114 2) ∧ zR 24 ∧ ((¬ (μ 114 2) = 24 → Ez md_6_addWord 0 0 62 [(3, zi (mm_stemFault μ).1), (0, zr 113), (1, zi a1), (2, zi a2)] [] zSh (zup μ 113 9 ((mm_stemFault μ).2 113 9)) _ _ _) ∧ ((μ 114 2) = 24 → Ez md_6_addWord 0 0 59 [(3, zi (mm_stemFault μ).1), (0, zr 113), (1, zi a1), (2, zi a2)] [] zSh (zup μ 113 9 ((mm_stemFault μ).2 113 9)) _ _ _)) from ⟨(by omega), (by omega), (by omega), fun c9 => ?_, fun c9 => ?_⟩)
          · rw [if_neg c9]
            refine Az.blk kd_6_addWord_62 (show Ez md_6_addWord 0 0 63 [(3, zi (mm_stemFault μ).1), (0, zr 113), (1, zi a1), (2, zi a2)] [zr 113] zSh (zup μ 113 9 ((mm_stemFault μ).2 113 9)) _ _ _ from ?_)
            refine Az.cV (mc := md_6_keeps) (k := 113) (n := 0) (As := []) (rest := []) kr_6_addWord_63 zw_637 ok_6_keeps rfl rfl rfl trivial (mz_keepsF (mb_stemFaultF hB)) rfl rfl (show Ez md_6_addWord 0 0 66 [(3, zi (mm_stemFault μ).1), (0, zr 113), (1, zi a1), (2, zi a2)] [] zSh (zset (zup μ 113 9 ((mm_stemFault μ).2 113 9)) 115 ((mm_keeps (zup μ 113 9 ((mm_stemFault μ).2 113 9))) 115)) _ _ _ from ?_)
            have b10 : 0 ≤ (μ 114 2) ∧ (μ 114 2) ≤ 24 := hB 114 2
            have b11 : 0 ≤ (μ 113 8) ∧ (μ 113 8) ≤ 60 := hB 113 8
            refine Az.blk kd_6_addWord_66 (show (0 ≤ 2 ∧ 2 < 604) ∧ (0 ≤ ((4 + (11 * (μ 114 2))) + 0) ∧ ((4 + (11 * (μ 114 2))) + 0) < 604) ∧ (0 ≤ ((4 + (11 * (μ 114 2))) + 1) ∧ ((4 + (11 * (μ 114 2))) + 1) < 604) ∧ (0 ≤ ((4 + (11 * (μ 114 2))) + 2) ∧ ((4 + (11 * (μ 114 2))) + 2) < 604) ∧ Ez md_6_addWord 0 0 115 [(5, zi 0), (4, zi (4 + (11 * (μ 114 2)))), (3, zi (mm_stemFault μ).1), (0, zr 113), (1, zi a1), (2, zi a2)] [] zSh (zup (zup (zup (zset (zup μ 113 9 ((mm_stemFault μ).2 113 9)) 115 ((mm_keeps (zup μ 113 9 ((mm_stemFault μ).2 113 9))) 115)) 114 ((4 + (11 * (μ 114 2))) + 0) a1) 114 ((4 + (11 * (μ 114 2))) + 1) a2) 114 ((4 + (11 * (μ 114 2))) + 2) (μ 113 8)) _ _ _ from ⟨(by omega), (by omega), (by omega), (by omega), ?_⟩)
            have b12 : 0 ≤ (μ 113 8) ∧ (μ 113 8) ≤ 60 := hB 113 8
            refine Az.lvs (lv' := [(0, zr 113), (4, zi (4 + (11 * (μ 114 2)))), (5, zi 0)]) ?_ ?_
            · intro q hq; simp only [List.mem_cons, List.not_mem_nil, or_false] at hq; rcases hq with rfl | rfl | rfl <;> rfl
            have fb : (3000 : Int) ≤ ((zN : Nat) : Int) := zN_big
            exact mz_addWord_115 zN ((zup (zup (zup (zset (zup μ 113 9 ((mm_stemFault μ).2 113 9)) 115 ((mm_keeps (zup μ 113 9 ((mm_stemFault μ).2 113 9))) 115)) 114 ((4 + (11 * (μ 114 2))) + 0) a1) 114 ((4 + (11 * (μ 114 2))) + 1) a2) 114 ((4 + (11 * (μ 114 2))) + 2) (μ 113 8))) (zup_ok (k := 114) (z := ((4 + (11 * (μ 114 2))) + 2)) (v := (μ 113 8)) (zup_ok (k := 114) (z := ((4 + (11 * (μ 114 2))) + 1)) (v := a2) (zup_ok (k := 114) (z := ((4 + (11 * (μ 114 2))) + 0)) (v := a1) (mb_keepsF (mb_stemFaultF hB)) (show zOkR ((4 + (11 * (μ 114 2))) + 0) a1 from zOkR_of (by omega) ⟨by omega, by omega, by omega, by omega⟩)) (show zOkR ((4 + (11 * (μ 114 2))) + 1) a2 from zOkR_of (by omega) ⟨by omega, by omega, by omega, by omega⟩)) (show zOkR ((4 + (11 * (μ 114 2))) + 2) (μ 113 8) from zOkR_of (by omega) ⟨by omega, by omega, by omega, by omega⟩)) (4 + (11 * (μ 114 2))) 0 (show 0 ≤ 0 ∧ 0 ≤ (μ 113 8) from by omega) (by omega) (show (μ 113 8) ≤ 8 from by omega) (by (repeat rw [zup_ap, if_neg (by omega)]); show (μ 114 2) ≤ 23; omega) (by first | exact i4 | exact (ms_stemFault hB (by omega)).2.2) (show (μ 113 8) - 0 < ((zN : Nat) : Int) from by omega)
          · rw [if_pos c9]
            refine Az.blk kd_6_addWord_59 (show Ez md_6_addWord 0 0 61 [(3, zi (mm_stemFault μ).1), (0, zr 113), (1, zi a1), (2, zi a2)] [zi (-3)] zSh (zup μ 113 9 ((mm_stemFault μ).2 113 9)) _ _ _ from ?_)
            exact Ez.iret kr_6_addWord_61 rfl (Nat.zero_le _) (Nat.zero_le _) rfl rfl
        · rw [if_neg c7]
          refine Az.blk kd_6_addWord_43 (show Ez md_6_addWord 0 0 47 [(3, zi (mm_stemFault μ).1), (0, zr 113), (1, zi a1), (2, zi a2)] [zi ((-100) - (mm_stemFault μ).1)] zSh (zup μ 113 9 ((mm_stemFault μ).2 113 9)) _ _ _ from ?_)
          exact Ez.iret kr_6_addWord_47 rfl (Nat.zero_le _) (Nat.zero_le _) rfl rfl
      · rw [if_pos c5]
        refine Az.blk kd_6_addWord_29 (show Ez md_6_addWord 0 0 31 [(0, zr 113), (1, zi a1), (2, zi a2)] [zi (-2)] zSh μ _ _ _ from ?_)
        exact Ez.iret kr_6_addWord_31 rfl (Nat.zero_le _) (Nat.zero_le _) rfl rfl
    · rw [if_pos c3]
      refine Az.blk kd_6_addWord_16 (show Ez md_6_addWord 0 0 23 [(0, zr 113), (1, zi a1), (2, zi a2)] [zl 2, zl 0, zl a2] zSh μ _ _ _ from ?_)
      refine Az.cS (mc := md_6_in) (n := 3) (As := [zl a2, zl 0, zl 2]) (rest := []) kr_6_addWord_23 zw_626 ok_6_in rfl rfl (mz_in a2 0 2 (by omega) (by omega) (by omega)) rfl rfl (show Ez md_6_addWord 0 0 26 [(0, zr 113), (1, zi a1), (2, zi a2)] [zi (mm_in a2 0 2)] zSh μ _ _ _ from ?_)
      have r13 : 0 ≤ (mm_in a2 0 2) ∧ (mm_in a2 0 2) ≤ 1 ∧ ((mm_in a2 0 2) = 1 → (0 : Int) ≤ a2 ∧ a2 ≤ (2 : Int)) ∧ ((mm_in a2 0 2) = 0 → a2 < (0 : Int) ∨ (2 : Int) < a2) := mr_in a2 0 2 (by omega) (by omega) (by omega)
      refine Az.blk kd_6_addWord_26 (show zR (mm_in a2 0 2) ∧ ((¬ (mm_in a2 0 2) = 0 → Ez md_6_addWord 0 0 32 [(0, zr 113), (1, zi a1), (2, zi a2)] [] zSh μ _ _ _) ∧ ((mm_in a2 0 2) = 0 → Ez md_6_addWord 0 0 29 [(0, zr 113), (1, zi a1), (2, zi a2)] [] zSh μ _ _ _)) from ⟨(by omega), fun c14 => ?_, fun c14 => ?_⟩)
      · rw [if_neg c14]
        refine Az.blk kd_6_addWord_32 (show Ez md_6_addWord 0 0 33 [(0, zr 113), (1, zi a1), (2, zi a2)] [zr 113] zSh μ _ _ _ from ?_)
        refine Az.cV (mc := md_6_stemFault) (k := 113) (n := 0) (As := []) (rest := []) kr_6_addWord_33 zw_629 ok_6_stemFault rfl rfl rfl trivial (mz_stemFaultF hB) rfl rfl (show Ez md_6_addWord 0 0 36 [(0, zr 113), (1, zi a1), (2, zi a2)] [zi (mm_stemFault μ).1] zSh (zup μ 113 9 ((mm_stemFault μ).2 113 9)) _ _ _ from ?_)
        have r15 : ((mm_stemFault μ).1 = -5 ∨ (0 ≤ (mm_stemFault μ).1 ∧ (mm_stemFault μ).1 ≤ 8)) := mr_stemFault hB
        have e9 : (mm_stemFault μ).1 = -5 → 1 ≤ (μ 113 8) ∧ (μ 113 8) ≤ 8 := fun q => ⟨(ms_stemFault hB q).1, (ms_stemFault hB q).2.1⟩
        refine Az.blk kd_6_addWord_36 (show zR (mm_stemFault μ).1 ∧ zR (-5) ∧ (((mm_stemFault μ).1 = (-5) → Ez md_6_addWord 0 0 48 [(3, zi (mm_stemFault μ).1), (0, zr 113), (1, zi a1), (2, zi a2)] [] zSh (zup μ 113 9 ((mm_stemFault μ).2 113 9)) _ _ _) ∧ (¬ (mm_stemFault μ).1 = (-5) → Ez md_6_addWord 0 0 43 [(3, zi (mm_stemFault μ).1), (0, zr 113), (1, zi a1), (2, zi a2)] [] zSh (zup μ 113 9 ((mm_stemFault μ).2 113 9)) _ _ _)) from ⟨(by omega), (by omega), fun c16 => ?_, fun c16 => ?_⟩)
        · rw [if_pos c16]
          have b17 : 0 ≤ (μ 114 2) ∧ (μ 114 2) ≤ 24 := hB 114 2
          refine Az.blk kd_6_addWord_48 (show (0 ≤ 2 ∧ 2 < 604) ∧ zR (μ 114 2) ∧ zR 24 ∧ ((¬ (μ 114 2) = 24 → Ez md_6_addWord 0 0 62 [(3, zi (mm_stemFault μ).1), (0, zr 113), (1, zi a1), (2, zi a2)] [] zSh (zup μ 113 9 ((mm_stemFault μ).2 113 9)) _ _ _) ∧ ((μ 114 2) = 24 → Ez md_6_addWord 0 0 59 [(3, zi (mm_stemFault μ).1), (0, zr 113), (1, zi a1), (2, zi a2)] [] zSh (zup μ 113 9 ((mm_stemFault μ).2 113 9)) _ _ _)) from ⟨(by omega), (by omega), (by omega), fun c18 => ?_, fun c18 => ?_⟩)
          · rw [if_neg c18]
            refine Az.blk kd_6_addWord_62 (show Ez md_6_addWord 0 0 63 [(3, zi (mm_stemFault μ).1), (0, zr 113), (1, zi a1), (2, zi a2)] [zr 113] zSh (zup μ 113 9 ((mm_stemFault μ).2 113 9)) _ _ _ from ?_)
            refine Az.cV (mc := md_6_keeps) (k := 113) (n := 0) (As := []) (rest := []) kr_6_addWord_63 zw_637 ok_6_keeps rfl rfl rfl trivial (mz_keepsF (mb_stemFaultF hB)) rfl rfl (show Ez md_6_addWord 0 0 66 [(3, zi (mm_stemFault μ).1), (0, zr 113), (1, zi a1), (2, zi a2)] [] zSh (zset (zup μ 113 9 ((mm_stemFault μ).2 113 9)) 115 ((mm_keeps (zup μ 113 9 ((mm_stemFault μ).2 113 9))) 115)) _ _ _ from ?_)
            have b19 : 0 ≤ (μ 114 2) ∧ (μ 114 2) ≤ 24 := hB 114 2
            have b20 : 0 ≤ (μ 113 8) ∧ (μ 113 8) ≤ 60 := hB 113 8
            refine Az.blk kd_6_addWord_66 (show (0 ≤ 2 ∧ 2 < 604) ∧ (0 ≤ ((4 + (11 * (μ 114 2))) + 0) ∧ ((4 + (11 * (μ 114 2))) + 0) < 604) ∧ (0 ≤ ((4 + (11 * (μ 114 2))) + 1) ∧ ((4 + (11 * (μ 114 2))) + 1) < 604) ∧ (0 ≤ ((4 + (11 * (μ 114 2))) + 2) ∧ ((4 + (11 * (μ 114 2))) + 2) < 604) ∧ Ez md_6_addWord 0 0 115 [(5, zi 0), (4, zi (4 + (11 * (μ 114 2)))), (3, zi (mm_stemFault μ).1), (0, zr 113), (1, zi a1), (2, zi a2)] [] zSh (zup (zup (zup (zset (zup μ 113 9 ((mm_stemFault μ).2 113 9)) 115 ((mm_keeps (zup μ 113 9 ((mm_stemFault μ).2 113 9))) 115)) 114 ((4 + (11 * (μ 114 2))) + 0) a1) 114 ((4 + (11 * (μ 114 2))) + 1) a2) 114 ((4 + (11 * (μ 114 2))) + 2) (μ 113 8)) _ _ _ from ⟨(by omega), (by omega), (by omega), (by omega), ?_⟩)
            have b21 : 0 ≤ (μ 113 8) ∧ (μ 113 8) ≤ 60 := hB 113 8
            refine Az.lvs (lv' := [(0, zr 113), (4, zi (4 + (11 * (μ 114 2)))), (5, zi 0)]) ?_ ?_
            · intro q hq; simp only [List.mem_cons, List.not_mem_nil, or_false] at hq; rcases hq with rfl | rfl | rfl <;> rfl
            have fb : (3000 : Int) ≤ ((zN : Nat) : Int) := zN_big
            exact mz_addWord_115 zN ((zup (zup (zup (zset (zup μ 113 9 ((mm_stemFault μ).2 113 9)) 115 ((mm_keeps (zup μ 113 9 ((mm_stemFault μ).2 113 9))) 115)) 114 ((4 + (11 * (μ 114 2))) + 0) a1) 114 ((4 + (11 * (μ 114 2))) + 1) a2) 114 ((4 + (11 * (μ 114 2))) + 2) (μ 113 8))) (zup_ok (k := 114) (z := ((4 + (11 * (μ 114 2))) + 2)) (v := (μ 113 8)) (zup_ok (k := 114) (z := ((4 + (11 * (μ 114 2))) + 1)) (v := a2) (zup_ok (k := 114) (z := ((4 + (11 * (μ 114 2))) + 0)) (v := a1) (mb_keepsF (mb_stemFaultF hB)) (show zOkR ((4 + (11 * (μ 114 2))) + 0) a1 from zOkR_of (by omega) ⟨by omega, by omega, by omega, by omega⟩)) (show zOkR ((4 + (11 * (μ 114 2))) + 1) a2 from zOkR_of (by omega) ⟨by omega, by omega, by omega, by omega⟩)) (show zOkR ((4 + (11 * (μ 114 2))) + 2) (μ 113 8) from zOkR_of (by omega) ⟨by omega, by omega, by omega, by omega⟩)) (4 + (11 * (μ 114 2))) 0 (show 0 ≤ 0 ∧ 0 ≤ (μ 113 8) from by omega) (by omega) (show (μ 113 8) ≤ 8 from by omega) (by (repeat rw [zup_ap, if_neg (by omega)]); show (μ 114 2) ≤ 23; omega) (by first | exact i4 | exact (ms_stemFault hB (by omega)).2.2) (show (μ 113 8) - 0 < ((zN : Nat) : Int) from by omega)
          · rw [if_pos c18]
            refine Az.blk kd_6_addWord_59 (show Ez md_6_addWord 0 0 61 [(3, zi (mm_stemFault μ).1), (0, zr 113), (1, zi a1), (2, zi a2)] [zi (-3)] zSh (zup μ 113 9 ((mm_stemFault μ).2 113 9)) _ _ _ from ?_)
            exact Ez.iret kr_6_addWord_61 rfl (Nat.zero_le _) (Nat.zero_le _) rfl rfl
        · rw [if_neg c16]
          refine Az.blk kd_6_addWord_43 (show Ez md_6_addWord 0 0 47 [(3, zi (mm_stemFault μ).1), (0, zr 113), (1, zi a1), (2, zi a2)] [zi ((-100) - (mm_stemFault μ).1)] zSh (zup μ 113 9 ((mm_stemFault μ).2 113 9)) _ _ _ from ?_)
          exact Ez.iret kr_6_addWord_47 rfl (Nat.zero_le _) (Nat.zero_le _) rfl rfl
      · rw [if_pos c14]
        refine Az.blk kd_6_addWord_29 (show Ez md_6_addWord 0 0 31 [(0, zr 113), (1, zi a1), (2, zi a2)] [zi (-2)] zSh μ _ _ _ from ?_)
        exact Ez.iret kr_6_addWord_31 rfl (Nat.zero_le _) (Nat.zero_le _) rfl rfl
  · rw [if_pos c2]
    refine Az.blk kd_6_addWord_7 (show Ez md_6_addWord 0 0 8 [(0, zr 113), (1, zi a1), (2, zi a2)] [zi (-1)] zSh μ _ _ _ from ?_)
    exact Ez.iret kr_6_addWord_8 rfl (Nat.zero_le _) (Nat.zero_le _) rfl rfl
def kb_6_readTale_0 : List zI := [(.aload_n 0, 1, 0, 0)]
theorem kd_6_readTale_0 : zdec md_6_readTale 0 kb_6_readTale_0 = true := by decide +kernel
theorem kr_6_readTale_1 : decode md_6_readTale.2.1 1 = .ok (.invokevirtual 98, 3) := by decide +kernel
def kb_6_readTale_4 : List zI := [(.istore_n 1, 1, 0, 0), (.iload_n 1, 1, 0, 0), (.bipush (-5), 2, 0, 0), (.if_icmp .eq 8, 3, 16, 0)]
theorem kd_6_readTale_4 : zdec md_6_readTale 4 kb_6_readTale_4 = true := by decide +kernel
def kb_6_readTale_16 : List zI := [(.aload_n 0, 1, 0, 0)]
theorem kd_6_readTale_16 : zdec md_6_readTale 16 kb_6_readTale_16 = true := by decide +kernel
theorem kr_6_readTale_17 : decode md_6_readTale.2.1 17 = .ok (.invokevirtual 85, 3) := by decide +kernel
def kb_6_readTale_20 : List zI := [(.iconst 0, 1, 0, 0), (.istore_n 2, 1, 0, 0)]
theorem kd_6_readTale_20 : zdec md_6_readTale 20 kb_6_readTale_20 = true := by decide +kernel
def kb_6_readTale_11 : List zI := [(.bipush (-100), 2, 0, 0), (.iload_n 1, 1, 0, 0), (.isub, 1, 0, 0)]
theorem kd_6_readTale_11 : zdec md_6_readTale 11 kb_6_readTale_11 = true := by decide +kernel
theorem kr_6_readTale_15 : decode md_6_readTale.2.1 15 = .ok (.ireturn, 1) := by decide +kernel
def kb_6_readTale_22 : List zI := [(.iload_n 2, 1, 0, 0), (.sipush 280, 3, 0, 0), (.if_icmp .ge 40, 3, 66, 0)]
theorem kd_6_readTale_22 : zdec md_6_readTale 22 kb_6_readTale_22 = true := by decide +kernel
def kb_6_readTale_66 : List zI := [(.aload_n 0, 1, 0, 0), (.getfield 7, 3, 6, 0), (.iconst 3, 1, 0, 0), (.aload_n 0, 1, 0, 0), (.getfield 101, 3, 6, 10), (.iastore, 1, 0, 0), (.aload_n 0, 1, 0, 0), (.aload_n 0, 1, 0, 0), (.bipush (-5), 2, 0, 0), (.iconst 0, 1, 0, 0)]
theorem kd_6_readTale_66 : zdec md_6_readTale 66 kb_6_readTale_66 = true := by decide +kernel
theorem kr_6_readTale_81 : decode md_6_readTale.2.1 81 = .ok (.invokevirtual 104, 3) := by decide +kernel
theorem kr_6_readTale_84 : decode md_6_readTale.2.1 84 = .ok (.invokevirtual 91, 3) := by decide +kernel
theorem kr_6_readTale_87 : decode md_6_readTale.2.1 87 = .ok (.ireturn, 1) := by decide +kernel
def kb_6_readTale_29 : List zI := [(.aload_n 0, 1, 0, 0), (.getfield 7, 3, 6, 0), (.sipush 304, 3, 0, 0), (.iload_n 2, 1, 0, 0), (.iadd, 1, 0, 0), (.iload_n 2, 1, 0, 0), (.bipush 14, 2, 0, 0), (.aload_n 0, 1, 0, 0), (.getfield 101, 3, 6, 10), (.imul, 1, 0, 0), (.if_icmp .ge 12, 3, 58, 0)]
theorem kd_6_readTale_29 : zdec md_6_readTale 29 kb_6_readTale_29 = true := by decide +kernel
def kb_6_readTale_58 : List zI := [(.iconst 0, 1, 0, 0), (.iastore, 1, 0, 0), (.iinc 2 1, 3, 0, 0), (.goto (-41), 3, 22, 0)]
theorem kd_6_readTale_58 : zdec md_6_readTale 58 kb_6_readTale_58 = true := by decide +kernel
def kb_6_readTale_49 : List zI := [(.aload_n 0, 1, 0, 0), (.getfield 22, 3, 6, 6), (.iload_n 2, 1, 0, 0), (.iaload, 1, 0, 0), (.goto 4, 3, 59, 0)]
theorem kd_6_readTale_49 : zdec md_6_readTale 49 kb_6_readTale_49 = true := by decide +kernel
def kb_6_readTale_59 : List zI := [(.iastore, 1, 0, 0), (.iinc 2 1, 3, 0, 0), (.goto (-41), 3, 22, 0)]
theorem kd_6_readTale_59 : zdec md_6_readTale 59 kb_6_readTale_59 = true := by decide +kernel
noncomputable def mm_readTale_22 : Nat → zM → Int → Int × zM
  | 0, μ, _ => (0, μ)
  | f + 1, μ, l2 => (if l2 < 280 then (if l2 < (14 * (μ 113 10)) then (mm_readTale_22 f (zup μ 114 (304 + l2) (μ 118 l2)) (l2 + 1)) else (mm_readTale_22 f (zup μ 114 (304 + l2) 0) (l2 + 1))) else ((mm_ends (zup μ 114 3 (μ 113 10)) (mm_holes (zup μ 114 3 (μ 113 10)) (-5) 0)).1, (mm_ends (zup μ 114 3 (μ 113 10)) (mm_holes (zup μ 114 3 (μ 113 10)) (-5) 0)).2))
noncomputable def mm_readTale (μ : zM) : Int × zM := (if (mm_taleFault μ).1 = (-5) then (mm_readTale_22 zN (zset (zup (zup (zset μ 118 ((mm_taleFault μ).2 118)) 113 9 ((mm_taleFault μ).2 113 9)) 113 10 ((mm_taleFault μ).2 113 10)) 115 ((mm_keeps (zup (zup (zset μ 118 ((mm_taleFault μ).2 118)) 113 9 ((mm_taleFault μ).2 113 9)) 113 10 ((mm_taleFault μ).2 113 10))) 115)) 0) else (((-100) - (mm_taleFault μ).1), (zup (zup (zset μ 118 ((mm_taleFault μ).2 118)) 113 9 ((mm_taleFault μ).2 113 9)) 113 10 ((mm_taleFault μ).2 113 10))))
set_option maxHeartbeats 4000000 in
set_option maxRecDepth 100000 in
theorem mb_readTale_22 (f : Nat) (μ : zM) (hB : zB μ) (l2 : Int) (i0 : 0 ≤ l2 ∧ l2 ≤ 280) (hf : 280 - l2 < (f : Int)) : zB (mm_readTale_22 f μ l2).2 := by
  induction f generalizing μ l2 with
  | zero => exfalso; omega
  | succ f ih =>
    replace hf : 280 - l2 < (f : Int) + 1 := by omega
    rw [mm_readTale_22]
    have e10 : 0 ≤ (μ 113 10) ∧ (μ 113 10) ≤ 20 := hB 113 10
    by_cases c3 : l2 < 280
    · rw [if_pos c3]
      have b6 : 0 ≤ (μ 113 10) ∧ (μ 113 10) ≤ 20 := hB 113 10
      by_cases c7 : l2 < (14 * (μ 113 10))
      · rw [if_pos c7]
        exact ih ((zup μ 114 (304 + l2) (μ 118 l2))) (zup_ok (k := 114) (z := (304 + l2)) (v := (μ 118 l2)) hB (zOkDR (by omega) (hB 118 l2))) (l2 + 1) (by omega) (by omega)
      · rw [if_neg c7]
        exact ih ((zup μ 114 (304 + l2) 0)) (zup_ok (k := 114) (z := (304 + l2)) (v := 0) hB (zOkDR (by omega) (zOkD_of ⟨by omega, by omega, by omega, by omega, by omega⟩))) (l2 + 1) (by omega) (by omega)
    · rw [if_neg c3]
      have b4 : 0 ≤ (μ 113 10) ∧ (μ 113 10) ≤ 20 := hB 113 10
      have r5 : 0 ≤ (mm_holes (zup μ 114 3 (μ 113 10)) (-5) 0) ∧ (mm_holes (zup μ 114 3 (μ 113 10)) (-5) 0) ≤ 20 := mr_holes (zup_ok (k := 114) (z := 3) (v := (μ 113 10)) hB (show 0 ≤ (μ 113 10) ∧ (μ 113 10) ≤ 20 from by omega)) (-5) 0 (by omega) (by omega)
      exact (mb_ends (zup_ok (k := 114) (z := 3) (v := (μ 113 10)) hB (show 0 ≤ (μ 113 10) ∧ (μ 113 10) ≤ 20 from by omega)) (mm_holes (zup μ 114 3 (μ 113 10)) (-5) 0))
set_option maxHeartbeats 4000000 in
set_option maxRecDepth 100000 in
theorem mb_readTale {μ : zM} (hB : zB μ)  : zB (mm_readTale μ).2 := by
  unfold mm_readTale
  have r1 : ((mm_taleFault μ).1 = -5 ∨ (0 ≤ (mm_taleFault μ).1 ∧ (mm_taleFault μ).1 ≤ 60)) := mr_taleFault hB
  by_cases c2 : (mm_taleFault μ).1 = (-5)
  · rw [if_pos c2]
    have fb : (3000 : Int) ≤ ((zN : Nat) : Int) := zN_big
    exact mb_readTale_22 zN ((zset (zup (zup (zset μ 118 ((mm_taleFault μ).2 118)) 113 9 ((mm_taleFault μ).2 113 9)) 113 10 ((mm_taleFault μ).2 113 10)) 115 ((mm_keeps (zup (zup (zset μ 118 ((mm_taleFault μ).2 118)) 113 9 ((mm_taleFault μ).2 113 9)) 113 10 ((mm_taleFault μ).2 113 10))) 115))) (mb_keepsF (mb_taleFaultF hB)) 0 (by omega) (by omega)
  · rw [if_neg c2]
    exact (mb_taleFaultF hB)
set_option maxHeartbeats 4000000 in
set_option maxRecDepth 100000 in
theorem mz_readTale_22 (f : Nat) (μ : zM) (hB : zB μ) (l2 : Int) (i0 : 0 ≤ l2 ∧ l2 ≤ 280) (hf : 280 - l2 < (f : Int)) : Ez md_6_readTale 0 0 22 [(0, zr 113), (2, zi l2)] [] zSh μ (some (zi (mm_readTale_22 f μ l2).1)) zSh (mm_readTale_22 f μ l2).2 := by
  induction f generalizing μ l2 with
  | zero => exfalso; omega
  | succ f ih =>
    replace hf : 280 - l2 < (f : Int) + 1 := by omega
    rw [mm_readTale_22]
    have e10 : 0 ≤ (μ 113 10) ∧ (μ 113 10) ≤ 20 := hB 113 10
    refine Az.blk kd_6_readTale_22 (show zR l2 ∧ zR 280 ∧ ((¬ l2 < 280 → Ez md_6_readTale 0 0 66 [(0, zr 113), (2, zi l2)] [] zSh μ _ _ _) ∧ (l2 < 280 → Ez md_6_readTale 0 0 29 [(0, zr 113), (2, zi l2)] [] zSh μ _ _ _)) from ⟨(by omega), (by omega), fun c3 => ?_, fun c3 => ?_⟩)
    · rw [if_neg c3]
      have b4 : 0 ≤ (μ 113 10) ∧ (μ 113 10) ≤ 20 := hB 113 10
      refine Az.blk kd_6_readTale_66 (show (0 ≤ 3 ∧ 3 < 604) ∧ Ez md_6_readTale 0 0 81 [(0, zr 113), (2, zi l2)] [zi 0, zi (-5), zr 113, zr 113] zSh (zup μ 114 3 (μ 113 10)) _ _ _ from ⟨(by omega), ?_⟩)
      refine Az.cV (mc := md_6_holes) (k := 113) (n := 2) (As := [zi (-5), zi 0]) (rest := [zr 113]) kr_6_readTale_81 zw_674 ok_6_holes rfl rfl rfl trivial (mz_holes (zup_ok (k := 114) (z := 3) (v := (μ 113 10)) hB (show 0 ≤ (μ 113 10) ∧ (μ 113 10) ≤ 20 from by omega)) (-5) 0 (by omega) (by omega)) rfl rfl (show Ez md_6_readTale 0 0 84 [(0, zr 113), (2, zi l2)] [zi (mm_holes (zup μ 114 3 (μ 113 10)) (-5) 0), zr 113] zSh (zup μ 114 3 (μ 113 10)) _ _ _ from ?_)
      have r5 : 0 ≤ (mm_holes (zup μ 114 3 (μ 113 10)) (-5) 0) ∧ (mm_holes (zup μ 114 3 (μ 113 10)) (-5) 0) ≤ 20 := mr_holes (zup_ok (k := 114) (z := 3) (v := (μ 113 10)) hB (show 0 ≤ (μ 113 10) ∧ (μ 113 10) ≤ 20 from by omega)) (-5) 0 (by omega) (by omega)
      refine Az.cV (mc := md_6_ends) (k := 113) (n := 1) (As := [zi (mm_holes (zup μ 114 3 (μ 113 10)) (-5) 0)]) (rest := []) kr_6_readTale_84 zw_641 ok_6_ends rfl rfl rfl trivial (mz_ends (zup_ok (k := 114) (z := 3) (v := (μ 113 10)) hB (show 0 ≤ (μ 113 10) ∧ (μ 113 10) ≤ 20 from by omega)) (mm_holes (zup μ 114 3 (μ 113 10)) (-5) 0)) rfl rfl (show Ez md_6_readTale 0 0 87 [(0, zr 113), (2, zi l2)] [zi (mm_ends (zup μ 114 3 (μ 113 10)) (mm_holes (zup μ 114 3 (μ 113 10)) (-5) 0)).1] zSh (mm_ends (zup μ 114 3 (μ 113 10)) (mm_holes (zup μ 114 3 (μ 113 10)) (-5) 0)).2 _ _ _ from ?_)
      exact Ez.iret kr_6_readTale_87 rfl (Nat.zero_le _) (Nat.zero_le _) rfl rfl
    · rw [if_pos c3]
      have b6 : 0 ≤ (μ 113 10) ∧ (μ 113 10) ≤ 20 := hB 113 10
      refine Az.blk kd_6_readTale_29 (show zR l2 ∧ zR (14 * (μ 113 10)) ∧ ((¬ l2 < (14 * (μ 113 10)) → Ez md_6_readTale 0 0 58 [(0, zr 113), (2, zi l2)] [zi (304 + l2), zr 114] zSh μ _ _ _) ∧ (l2 < (14 * (μ 113 10)) → Ez md_6_readTale 0 0 49 [(0, zr 113), (2, zi l2)] [zi (304 + l2), zr 114] zSh μ _ _ _)) from ⟨(by omega), (by omega), fun c7 => ?_, fun c7 => ?_⟩)
      · rw [if_neg c7]
        refine Az.blk kd_6_readTale_58 (show (0 ≤ (304 + l2) ∧ (304 + l2) < 604) ∧ Ez md_6_readTale 0 0 22 [(2, zi (l2 + 1)), (0, zr 113)] [] zSh (zup μ 114 (304 + l2) 0) _ _ _ from ⟨(by omega), ?_⟩)
        refine Az.lvs (lv' := [(0, zr 113), (2, zi (l2 + 1))]) ?_ ?_
        · intro q hq; simp only [List.mem_cons, List.not_mem_nil, or_false] at hq; rcases hq with rfl | rfl <;> rfl
        exact ih ((zup μ 114 (304 + l2) 0)) (zup_ok (k := 114) (z := (304 + l2)) (v := 0) hB (zOkDR (by omega) (zOkD_of ⟨by omega, by omega, by omega, by omega, by omega⟩))) (l2 + 1) (by omega) (by omega)
      · rw [if_pos c7]
        refine Az.blk kd_6_readTale_49 (show (0 ≤ l2 ∧ l2 < 280) ∧ Ez md_6_readTale 0 0 59 [(0, zr 113), (2, zi l2)] [zi (μ 118 l2), zi (304 + l2), zr 114] zSh μ _ _ _ from ⟨(by omega), ?_⟩)
        refine Az.blk kd_6_readTale_59 (show (0 ≤ (304 + l2) ∧ (304 + l2) < 604) ∧ Ez md_6_readTale 0 0 22 [(2, zi (l2 + 1)), (0, zr 113)] [] zSh (zup μ 114 (304 + l2) (μ 118 l2)) _ _ _ from ⟨(by omega), ?_⟩)
        refine Az.lvs (lv' := [(0, zr 113), (2, zi (l2 + 1))]) ?_ ?_
        · intro q hq; simp only [List.mem_cons, List.not_mem_nil, or_false] at hq; rcases hq with rfl | rfl <;> rfl
        exact ih ((zup μ 114 (304 + l2) (μ 118 l2))) (zup_ok (k := 114) (z := (304 + l2)) (v := (μ 118 l2)) hB (zOkDR (by omega) (hB 118 l2))) (l2 + 1) (by omega) (by omega)
set_option maxHeartbeats 4000000 in
set_option maxRecDepth 100000 in
theorem mz_readTale {μ : zM} (hB : zB μ)  : Dz md_6_readTale [zr 113] zSh μ (some (zi (mm_readTale μ).1)) zSh (mm_readTale μ).2 := by
  refine Dz.of (by decide) rfl rfl (show Ez md_6_readTale 0 0 0 [(0, zr 113)] [] zSh μ (some (zi (mm_readTale μ).1)) zSh (mm_readTale μ).2 from ?_)
  unfold mm_readTale
  refine Az.blk kd_6_readTale_0 (show Ez md_6_readTale 0 0 1 [(0, zr 113)] [zr 113] zSh μ _ _ _ from ?_)
  refine Az.cV (mc := md_6_taleFault) (k := 113) (n := 0) (As := []) (rest := []) kr_6_readTale_1 zw_658 ok_6_taleFault rfl rfl rfl trivial (mz_taleFaultF hB) rfl rfl (show Ez md_6_readTale 0 0 4 [(0, zr 113)] [zi (mm_taleFault μ).1] zSh (zup (zup (zset μ 118 ((mm_taleFault μ).2 118)) 113 9 ((mm_taleFault μ).2 113 9)) 113 10 ((mm_taleFault μ).2 113 10)) _ _ _ from ?_)
  have r1 : ((mm_taleFault μ).1 = -5 ∨ (0 ≤ (mm_taleFault μ).1 ∧ (mm_taleFault μ).1 ≤ 60)) := mr_taleFault hB
  refine Az.blk kd_6_readTale_4 (show zR (mm_taleFault μ).1 ∧ zR (-5) ∧ (((mm_taleFault μ).1 = (-5) → Ez md_6_readTale 0 0 16 [(1, zi (mm_taleFault μ).1), (0, zr 113)] [] zSh (zup (zup (zset μ 118 ((mm_taleFault μ).2 118)) 113 9 ((mm_taleFault μ).2 113 9)) 113 10 ((mm_taleFault μ).2 113 10)) _ _ _) ∧ (¬ (mm_taleFault μ).1 = (-5) → Ez md_6_readTale 0 0 11 [(1, zi (mm_taleFault μ).1), (0, zr 113)] [] zSh (zup (zup (zset μ 118 ((mm_taleFault μ).2 118)) 113 9 ((mm_taleFault μ).2 113 9)) 113 10 ((mm_taleFault μ).2 113 10)) _ _ _)) from ⟨(by omega), (by omega), fun c2 => ?_, fun c2 => ?_⟩)
  · rw [if_pos c2]
    refine Az.blk kd_6_readTale_16 (show Ez md_6_readTale 0 0 17 [(1, zi (mm_taleFault μ).1), (0, zr 113)] [zr 113] zSh (zup (zup (zset μ 118 ((mm_taleFault μ).2 118)) 113 9 ((mm_taleFault μ).2 113 9)) 113 10 ((mm_taleFault μ).2 113 10)) _ _ _ from ?_)
    refine Az.cV (mc := md_6_keeps) (k := 113) (n := 0) (As := []) (rest := []) kr_6_readTale_17 zw_637 ok_6_keeps rfl rfl rfl trivial (mz_keepsF (mb_taleFaultF hB)) rfl rfl (show Ez md_6_readTale 0 0 20 [(1, zi (mm_taleFault μ).1), (0, zr 113)] [] zSh (zset (zup (zup (zset μ 118 ((mm_taleFault μ).2 118)) 113 9 ((mm_taleFault μ).2 113 9)) 113 10 ((mm_taleFault μ).2 113 10)) 115 ((mm_keeps (zup (zup (zset μ 118 ((mm_taleFault μ).2 118)) 113 9 ((mm_taleFault μ).2 113 9)) 113 10 ((mm_taleFault μ).2 113 10))) 115)) _ _ _ from ?_)
    refine Az.blk kd_6_readTale_20 (show Ez md_6_readTale 0 0 22 [(2, zi 0), (1, zi (mm_taleFault μ).1), (0, zr 113)] [] zSh (zset (zup (zup (zset μ 118 ((mm_taleFault μ).2 118)) 113 9 ((mm_taleFault μ).2 113 9)) 113 10 ((mm_taleFault μ).2 113 10)) 115 ((mm_keeps (zup (zup (zset μ 118 ((mm_taleFault μ).2 118)) 113 9 ((mm_taleFault μ).2 113 9)) 113 10 ((mm_taleFault μ).2 113 10))) 115)) _ _ _ from ?_)
    refine Az.lvs (lv' := [(0, zr 113), (2, zi 0)]) ?_ ?_
    · intro q hq; simp only [List.mem_cons, List.not_mem_nil, or_false] at hq; rcases hq with rfl | rfl <;> rfl
    have fb : (3000 : Int) ≤ ((zN : Nat) : Int) := zN_big
    exact mz_readTale_22 zN ((zset (zup (zup (zset μ 118 ((mm_taleFault μ).2 118)) 113 9 ((mm_taleFault μ).2 113 9)) 113 10 ((mm_taleFault μ).2 113 10)) 115 ((mm_keeps (zup (zup (zset μ 118 ((mm_taleFault μ).2 118)) 113 9 ((mm_taleFault μ).2 113 9)) 113 10 ((mm_taleFault μ).2 113 10))) 115))) (mb_keepsF (mb_taleFaultF hB)) 0 (by omega) (by omega)
  · rw [if_neg c2]
    refine Az.blk kd_6_readTale_11 (show Ez md_6_readTale 0 0 15 [(1, zi (mm_taleFault μ).1), (0, zr 113)] [zi ((-100) - (mm_taleFault μ).1)] zSh (zup (zup (zset μ 118 ((mm_taleFault μ).2 118)) 113 9 ((mm_taleFault μ).2 113 9)) 113 10 ((mm_taleFault μ).2 113 10)) _ _ _ from ?_)
    exact Ez.iret kr_6_readTale_15 rfl (Nat.zero_le _) (Nat.zero_le _) rfl rfl
