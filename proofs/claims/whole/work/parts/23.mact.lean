theorem zOkR_end {z v : Int} (hz : 268 ≤ z ∧ z < 304) (h : 0 ≤ v ∧ v ≤ 26) : zOkR z v :=
  zOkR_of (by omega) ⟨fun q => absurd q (by omega), fun _ => h, fun q => absurd q.1 (by omega), fun q => absurd q (by omega)⟩
theorem zR_end {μ : zM} (hB : zB μ) {z : Int} (hz : 268 ≤ z ∧ z < 304) : 0 ≤ μ 114 z ∧ μ 114 z ≤ 26 :=
  ⟨(zR_row hB (z := z) (by omega)).2.2.1 hz, (zR_row hB (z := z) (by omega)).1.2⟩
def kb_6_setEnding_0 : List zI := [(.iload_n 1, 1, 0, 0)]
theorem kd_6_setEnding_0 : zdec md_6_setEnding 0 kb_6_setEnding_0 = true := by decide +kernel
theorem kr_6_setEnding_1 : decode md_6_setEnding.2.1 1 = .ok (.invokestatic 78, 3) := by decide +kernel
def kb_6_setEnding_4 : List zI := [(.ifCond .ne 5, 3, 9, 0)]
theorem kd_6_setEnding_4 : zdec md_6_setEnding 4 kb_6_setEnding_4 = true := by decide +kernel
def kb_6_setEnding_9 : List zI := [(.iload_n 2, 1, 0, 0), (.i2l, 1, 0, 0), (.lconst 0, 1, 0, 0), (.ldc2_w 94, 3, 5, 0)]
theorem kd_6_setEnding_9 : zdec md_6_setEnding 9 kb_6_setEnding_9 = true := by decide +kernel
theorem kr_6_setEnding_15 : decode md_6_setEnding.2.1 15 = .ok (.invokestatic 32, 3) := by decide +kernel
def kb_6_setEnding_18 : List zI := [(.ifCond .eq 36, 3, 54, 0)]
theorem kd_6_setEnding_18 : zdec md_6_setEnding 18 kb_6_setEnding_18 = true := by decide +kernel
def kb_6_setEnding_54 : List zI := [(.bipush (-2), 2, 0, 0)]
theorem kd_6_setEnding_54 : zdec md_6_setEnding 54 kb_6_setEnding_54 = true := by decide +kernel
theorem kr_6_setEnding_56 : decode md_6_setEnding.2.1 56 = .ok (.ireturn, 1) := by decide +kernel
def kb_6_setEnding_21 : List zI := [(.iload_n 3, 1, 0, 0), (.i2l, 1, 0, 0), (.lconst 0, 1, 0, 0), (.ldc2_w 96, 3, 26, 0)]
theorem kd_6_setEnding_21 : zdec md_6_setEnding 21 kb_6_setEnding_21 = true := by decide +kernel
theorem kr_6_setEnding_27 : decode md_6_setEnding.2.1 27 = .ok (.invokestatic 32, 3) := by decide +kernel
def kb_6_setEnding_30 : List zI := [(.ifCond .eq 24, 3, 54, 0)]
theorem kd_6_setEnding_30 : zdec md_6_setEnding 30 kb_6_setEnding_30 = true := by decide +kernel
def kb_6_setEnding_33 : List zI := [(.iload 4, 2, 0, 0), (.i2l, 1, 0, 0), (.lconst 0, 1, 0, 0), (.iload_n 3, 1, 0, 0), (.ifCond .ne 7, 3, 45, 0)]
theorem kd_6_setEnding_33 : zdec md_6_setEnding 33 kb_6_setEnding_33 = true := by decide +kernel
def kb_6_setEnding_45 : List zI := [(.ldc2_w 96, 3, 26, 0)]
theorem kd_6_setEnding_45 : zdec md_6_setEnding 45 kb_6_setEnding_45 = true := by decide +kernel
theorem kr_6_setEnding_48 : decode md_6_setEnding.2.1 48 = .ok (.invokestatic 32, 3) := by decide +kernel
def kb_6_setEnding_51 : List zI := [(.ifCond .ne 6, 3, 57, 0)]
theorem kd_6_setEnding_51 : zdec md_6_setEnding 51 kb_6_setEnding_51 = true := by decide +kernel
def kb_6_setEnding_57 : List zI := [(.iload_n 1, 1, 0, 0), (.iload_n 2, 1, 0, 0)]
theorem kd_6_setEnding_57 : zdec md_6_setEnding 57 kb_6_setEnding_57 = true := by decide +kernel
theorem kr_6_setEnding_59 : decode md_6_setEnding.2.1 59 = .ok (.invokestatic 38, 3) := by decide +kernel
def kb_6_setEnding_62 : List zI := [(.istore 5, 2, 0, 0), (.aload_n 0, 1, 0, 0), (.getfield 7, 3, 6, 0), (.iload 5, 2, 0, 0), (.iaload, 1, 0, 0), (.iload_n 3, 1, 0, 0), (.if_icmp .ne 20, 3, 92, 0)]
theorem kd_6_setEnding_62 : zdec md_6_setEnding 62 kb_6_setEnding_62 = true := by decide +kernel
def kb_6_setEnding_92 : List zI := [(.aload_n 0, 1, 0, 0)]
theorem kd_6_setEnding_92 : zdec md_6_setEnding 92 kb_6_setEnding_92 = true := by decide +kernel
theorem kr_6_setEnding_93 : decode md_6_setEnding.2.1 93 = .ok (.invokevirtual 85, 3) := by decide +kernel
def kb_6_setEnding_96 : List zI := [(.bipush 27, 2, 0, 0), (.aload_n 0, 1, 0, 0), (.getfield 7, 3, 6, 0), (.iload 5, 2, 0, 0), (.iaload, 1, 0, 0), (.imul, 1, 0, 0), (.aload_n 0, 1, 0, 0), (.getfield 7, 3, 6, 0), (.iload 5, 2, 0, 0), (.iconst 1, 1, 0, 0), (.iadd, 1, 0, 0), (.iaload, 1, 0, 0), (.iadd, 1, 0, 0), (.istore 6, 2, 0, 0), (.aload_n 0, 1, 0, 0), (.getfield 7, 3, 6, 0), (.iload 5, 2, 0, 0), (.iload_n 3, 1, 0, 0), (.iastore, 1, 0, 0), (.aload_n 0, 1, 0, 0), (.getfield 7, 3, 6, 0), (.iload 5, 2, 0, 0), (.iconst 1, 1, 0, 0), (.iadd, 1, 0, 0), (.iload 4, 2, 0, 0), (.iastore, 1, 0, 0), (.aload_n 0, 1, 0, 0), (.iload 6, 2, 0, 0)]
theorem kd_6_setEnding_96 : zdec md_6_setEnding 96 kb_6_setEnding_96 = true := by decide +kernel
theorem kr_6_setEnding_140 : decode md_6_setEnding.2.1 140 = .ok (.invokevirtual 91, 3) := by decide +kernel
theorem kr_6_setEnding_143 : decode md_6_setEnding.2.1 143 = .ok (.ireturn, 1) := by decide +kernel
def kb_6_setEnding_75 : List zI := [(.aload_n 0, 1, 0, 0), (.getfield 7, 3, 6, 0), (.iload 5, 2, 0, 0), (.iconst 1, 1, 0, 0), (.iadd, 1, 0, 0), (.iaload, 1, 0, 0), (.iload 4, 2, 0, 0), (.if_icmp .ne 6, 3, 92, 0)]
theorem kd_6_setEnding_75 : zdec md_6_setEnding 75 kb_6_setEnding_75 = true := by decide +kernel
def kb_6_setEnding_89 : List zI := [(.bipush (-5), 2, 0, 0)]
theorem kd_6_setEnding_89 : zdec md_6_setEnding 89 kb_6_setEnding_89 = true := by decide +kernel
theorem kr_6_setEnding_91 : decode md_6_setEnding.2.1 91 = .ok (.ireturn, 1) := by decide +kernel
def kb_6_setEnding_41 : List zI := [(.lconst 0, 1, 0, 0), (.goto 6, 3, 48, 0)]
theorem kd_6_setEnding_41 : zdec md_6_setEnding 41 kb_6_setEnding_41 = true := by decide +kernel
def kb_6_setEnding_7 : List zI := [(.iconst (-1), 1, 0, 0)]
theorem kd_6_setEnding_7 : zdec md_6_setEnding 7 kb_6_setEnding_7 = true := by decide +kernel
theorem kr_6_setEnding_8 : decode md_6_setEnding.2.1 8 = .ok (.ireturn, 1) := by decide +kernel
noncomputable def mm_setEnding (μ : zM) (a1 a2 a3 a4 : Int) : Int × zM := (if (mm_isKind a1) = 0 then ((-1), μ) else (if (mm_in a2 0 5) = 0 then ((-2), μ) else (if (mm_in a3 0 26) = 0 then ((-2), μ) else (if a3 = 0 then (if (mm_in a4 0 0) = 0 then ((-2), μ) else (if (μ 114 (mm_endingAt a1 a2)) = a3 then (if (μ 114 ((mm_endingAt a1 a2) + 1)) = a4 then ((-5), μ) else ((mm_ends (zup (zup (zset μ 115 ((mm_keeps μ) 115)) 114 (mm_endingAt a1 a2) a3) 114 ((mm_endingAt a1 a2) + 1) a4) ((27 * (μ 114 (mm_endingAt a1 a2))) + (μ 114 ((mm_endingAt a1 a2) + 1)))).1, (mm_ends (zup (zup (zset μ 115 ((mm_keeps μ) 115)) 114 (mm_endingAt a1 a2) a3) 114 ((mm_endingAt a1 a2) + 1) a4) ((27 * (μ 114 (mm_endingAt a1 a2))) + (μ 114 ((mm_endingAt a1 a2) + 1)))).2)) else ((mm_ends (zup (zup (zset μ 115 ((mm_keeps μ) 115)) 114 (mm_endingAt a1 a2) a3) 114 ((mm_endingAt a1 a2) + 1) a4) ((27 * (μ 114 (mm_endingAt a1 a2))) + (μ 114 ((mm_endingAt a1 a2) + 1)))).1, (mm_ends (zup (zup (zset μ 115 ((mm_keeps μ) 115)) 114 (mm_endingAt a1 a2) a3) 114 ((mm_endingAt a1 a2) + 1) a4) ((27 * (μ 114 (mm_endingAt a1 a2))) + (μ 114 ((mm_endingAt a1 a2) + 1)))).2))) else (if (mm_in a4 0 26) = 0 then ((-2), μ) else (if (μ 114 (mm_endingAt a1 a2)) = a3 then (if (μ 114 ((mm_endingAt a1 a2) + 1)) = a4 then ((-5), μ) else ((mm_ends (zup (zup (zset μ 115 ((mm_keeps μ) 115)) 114 (mm_endingAt a1 a2) a3) 114 ((mm_endingAt a1 a2) + 1) a4) ((27 * (μ 114 (mm_endingAt a1 a2))) + (μ 114 ((mm_endingAt a1 a2) + 1)))).1, (mm_ends (zup (zup (zset μ 115 ((mm_keeps μ) 115)) 114 (mm_endingAt a1 a2) a3) 114 ((mm_endingAt a1 a2) + 1) a4) ((27 * (μ 114 (mm_endingAt a1 a2))) + (μ 114 ((mm_endingAt a1 a2) + 1)))).2)) else ((mm_ends (zup (zup (zset μ 115 ((mm_keeps μ) 115)) 114 (mm_endingAt a1 a2) a3) 114 ((mm_endingAt a1 a2) + 1) a4) ((27 * (μ 114 (mm_endingAt a1 a2))) + (μ 114 ((mm_endingAt a1 a2) + 1)))).1, (mm_ends (zup (zup (zset μ 115 ((mm_keeps μ) 115)) 114 (mm_endingAt a1 a2) a3) 114 ((mm_endingAt a1 a2) + 1) a4) ((27 * (μ 114 (mm_endingAt a1 a2))) + (μ 114 ((mm_endingAt a1 a2) + 1)))).2)))))))
set_option maxHeartbeats 4000000 in
set_option maxRecDepth 100000 in
theorem mb_setEnding {μ : zM} (hB : zB μ) (a1 a2 a3 a4 : Int) (h0 : -2147483648 ≤ a1 ∧ a1 ≤ 2147483647) (h1 : -2147483648 ≤ a2 ∧ a2 ≤ 2147483647) (h2 : -2147483648 ≤ a3 ∧ a3 ≤ 2147483647) (h3 : -2147483648 ≤ a4 ∧ a4 ≤ 2147483647) : zB (mm_setEnding μ a1 a2 a3 a4).2 := by
  unfold mm_setEnding
  have r1 : 0 ≤ (mm_isKind a1) ∧ (mm_isKind a1) ≤ 1 ∧ ((mm_isKind a1) = 1 → 0 ≤ a1 ∧ a1 ≤ 2) ∧ ((mm_isKind a1) = 0 → a1 < 0 ∨ 2 < a1) := mr_isKind a1 (by omega)
  by_cases c2 : (mm_isKind a1) = 0
  · rw [if_pos c2]
    exact hB
  · rw [if_neg c2]
    have r3 : 0 ≤ (mm_in a2 0 5) ∧ (mm_in a2 0 5) ≤ 1 ∧ ((mm_in a2 0 5) = 1 → (0 : Int) ≤ a2 ∧ a2 ≤ (5 : Int)) ∧ ((mm_in a2 0 5) = 0 → a2 < (0 : Int) ∨ (5 : Int) < a2) := mr_in a2 0 5 (by omega) (by omega) (by omega)
    by_cases c4 : (mm_in a2 0 5) = 0
    · rw [if_pos c4]
      exact hB
    · rw [if_neg c4]
      have r5 : 0 ≤ (mm_in a3 0 26) ∧ (mm_in a3 0 26) ≤ 1 ∧ ((mm_in a3 0 26) = 1 → (0 : Int) ≤ a3 ∧ a3 ≤ (26 : Int)) ∧ ((mm_in a3 0 26) = 0 → a3 < (0 : Int) ∨ (26 : Int) < a3) := mr_in a3 0 26 (by omega) (by omega) (by omega)
      by_cases c6 : (mm_in a3 0 26) = 0
      · rw [if_pos c6]
        exact hB
      · rw [if_neg c6]
        by_cases c7 : a3 = 0
        · rw [if_pos c7]
          have r19 : 0 ≤ (mm_in a4 0 0) ∧ (mm_in a4 0 0) ≤ 1 ∧ ((mm_in a4 0 0) = 1 → (0 : Int) ≤ a4 ∧ a4 ≤ (0 : Int)) ∧ ((mm_in a4 0 0) = 0 → a4 < (0 : Int) ∨ (0 : Int) < a4) := mr_in a4 0 0 (by omega) (by omega) (by omega)
          by_cases c20 : (mm_in a4 0 0) = 0
          · rw [if_pos c20]
            exact hB
          · rw [if_neg c20]
            have r21 : (mm_endingAt a1 a2) = 268 + 2 * (6 * a1 + a2) := mr_endingAt a1 a2 (by omega) (by omega)
            have q22 : 0 ≤ (μ 114 (mm_endingAt a1 a2)) ∧ (μ 114 (mm_endingAt a1 a2)) ≤ 26 := zR_end hB (by omega)
            by_cases c23 : (μ 114 (mm_endingAt a1 a2)) = a3
            · rw [if_pos c23]
              have q26 : 0 ≤ (μ 114 ((mm_endingAt a1 a2) + 1)) ∧ (μ 114 ((mm_endingAt a1 a2) + 1)) ≤ 26 := zR_end hB (by omega)
              by_cases c27 : (μ 114 ((mm_endingAt a1 a2) + 1)) = a4
              · rw [if_pos c27]
                exact hB
              · rw [if_neg c27]
                have q28 : 0 ≤ (μ 114 (mm_endingAt a1 a2)) ∧ (μ 114 (mm_endingAt a1 a2)) ≤ 26 := zR_end hB (by omega)
                have q29 : 0 ≤ (μ 114 ((mm_endingAt a1 a2) + 1)) ∧ (μ 114 ((mm_endingAt a1 a2) + 1)) ≤ 26 := zR_end hB (by omega)
                exact (mb_ends (zup_ok (k := 114) (z := ((mm_endingAt a1 a2) + 1)) (v := a4) (zup_ok (k := 114) (z := (mm_endingAt a1 a2)) (v := a3) (mb_keepsF hB) (show zOkR (mm_endingAt a1 a2) a3 from zOkR_end (by omega) (by omega))) (show zOkR ((mm_endingAt a1 a2) + 1) a4 from zOkR_end (by omega) (by omega))) ((27 * (μ 114 (mm_endingAt a1 a2))) + (μ 114 ((mm_endingAt a1 a2) + 1))))
            · rw [if_neg c23]
              have q24 : 0 ≤ (μ 114 (mm_endingAt a1 a2)) ∧ (μ 114 (mm_endingAt a1 a2)) ≤ 26 := zR_end hB (by omega)
              have q25 : 0 ≤ (μ 114 ((mm_endingAt a1 a2) + 1)) ∧ (μ 114 ((mm_endingAt a1 a2) + 1)) ≤ 26 := zR_end hB (by omega)
              exact (mb_ends (zup_ok (k := 114) (z := ((mm_endingAt a1 a2) + 1)) (v := a4) (zup_ok (k := 114) (z := (mm_endingAt a1 a2)) (v := a3) (mb_keepsF hB) (show zOkR (mm_endingAt a1 a2) a3 from zOkR_end (by omega) (by omega))) (show zOkR ((mm_endingAt a1 a2) + 1) a4 from zOkR_end (by omega) (by omega))) ((27 * (μ 114 (mm_endingAt a1 a2))) + (μ 114 ((mm_endingAt a1 a2) + 1))))
        · rw [if_neg c7]
          have r8 : 0 ≤ (mm_in a4 0 26) ∧ (mm_in a4 0 26) ≤ 1 ∧ ((mm_in a4 0 26) = 1 → (0 : Int) ≤ a4 ∧ a4 ≤ (26 : Int)) ∧ ((mm_in a4 0 26) = 0 → a4 < (0 : Int) ∨ (26 : Int) < a4) := mr_in a4 0 26 (by omega) (by omega) (by omega)
          by_cases c9 : (mm_in a4 0 26) = 0
          · rw [if_pos c9]
            exact hB
          · rw [if_neg c9]
            have r10 : (mm_endingAt a1 a2) = 268 + 2 * (6 * a1 + a2) := mr_endingAt a1 a2 (by omega) (by omega)
            have q11 : 0 ≤ (μ 114 (mm_endingAt a1 a2)) ∧ (μ 114 (mm_endingAt a1 a2)) ≤ 26 := zR_end hB (by omega)
            by_cases c12 : (μ 114 (mm_endingAt a1 a2)) = a3
            · rw [if_pos c12]
              have q15 : 0 ≤ (μ 114 ((mm_endingAt a1 a2) + 1)) ∧ (μ 114 ((mm_endingAt a1 a2) + 1)) ≤ 26 := zR_end hB (by omega)
              by_cases c16 : (μ 114 ((mm_endingAt a1 a2) + 1)) = a4
              · rw [if_pos c16]
                exact hB
              · rw [if_neg c16]
                have q17 : 0 ≤ (μ 114 (mm_endingAt a1 a2)) ∧ (μ 114 (mm_endingAt a1 a2)) ≤ 26 := zR_end hB (by omega)
                have q18 : 0 ≤ (μ 114 ((mm_endingAt a1 a2) + 1)) ∧ (μ 114 ((mm_endingAt a1 a2) + 1)) ≤ 26 := zR_end hB (by omega)
                exact (mb_ends (zup_ok (k := 114) (z := ((mm_endingAt a1 a2) + 1)) (v := a4) (zup_ok (k := 114) (z := (mm_endingAt a1 a2)) (v := a3) (mb_keepsF hB) (show zOkR (mm_endingAt a1 a2) a3 from zOkR_end (by omega) (by omega))) (show zOkR ((mm_endingAt a1 a2) + 1) a4 from zOkR_end (by omega) (by omega))) ((27 * (μ 114 (mm_endingAt a1 a2))) + (μ 114 ((mm_endingAt a1 a2) + 1))))
            · rw [if_neg c12]
              have q13 : 0 ≤ (μ 114 (mm_endingAt a1 a2)) ∧ (μ 114 (mm_endingAt a1 a2)) ≤ 26 := zR_end hB (by omega)
              have q14 : 0 ≤ (μ 114 ((mm_endingAt a1 a2) + 1)) ∧ (μ 114 ((mm_endingAt a1 a2) + 1)) ≤ 26 := zR_end hB (by omega)
              exact (mb_ends (zup_ok (k := 114) (z := ((mm_endingAt a1 a2) + 1)) (v := a4) (zup_ok (k := 114) (z := (mm_endingAt a1 a2)) (v := a3) (mb_keepsF hB) (show zOkR (mm_endingAt a1 a2) a3 from zOkR_end (by omega) (by omega))) (show zOkR ((mm_endingAt a1 a2) + 1) a4 from zOkR_end (by omega) (by omega))) ((27 * (μ 114 (mm_endingAt a1 a2))) + (μ 114 ((mm_endingAt a1 a2) + 1))))
set_option maxHeartbeats 4000000 in
set_option maxRecDepth 100000 in
theorem mz_setEnding {μ : zM} (hB : zB μ) (a1 a2 a3 a4 : Int) (h0 : -2147483648 ≤ a1 ∧ a1 ≤ 2147483647) (h1 : -2147483648 ≤ a2 ∧ a2 ≤ 2147483647) (h2 : -2147483648 ≤ a3 ∧ a3 ≤ 2147483647) (h3 : -2147483648 ≤ a4 ∧ a4 ≤ 2147483647) : Dz md_6_setEnding [zr 113, zi a1, zi a2, zi a3, zi a4] zSh μ (some (zi (mm_setEnding μ a1 a2 a3 a4).1)) zSh (mm_setEnding μ a1 a2 a3 a4).2 := by
  refine Dz.of (by decide) rfl rfl (show Ez md_6_setEnding 0 0 0 [(0, zr 113), (1, zi a1), (2, zi a2), (3, zi a3), (4, zi a4)] [] zSh μ (some (zi (mm_setEnding μ a1 a2 a3 a4).1)) zSh (mm_setEnding μ a1 a2 a3 a4).2 from ?_)
  unfold mm_setEnding
  refine Az.blk kd_6_setEnding_0 (show Ez md_6_setEnding 0 0 1 [(0, zr 113), (1, zi a1), (2, zi a2), (3, zi a3), (4, zi a4)] [zi a1] zSh μ _ _ _ from ?_)
  refine Az.cS (mc := md_6_isKind) (n := 1) (As := [zi a1]) (rest := []) kr_6_setEnding_1 zw_622 ok_6_isKind rfl rfl (mz_isKind a1 (by omega)) rfl rfl (show Ez md_6_setEnding 0 0 4 [(0, zr 113), (1, zi a1), (2, zi a2), (3, zi a3), (4, zi a4)] [zi (mm_isKind a1)] zSh μ _ _ _ from ?_)
  have r1 : 0 ≤ (mm_isKind a1) ∧ (mm_isKind a1) ≤ 1 ∧ ((mm_isKind a1) = 1 → 0 ≤ a1 ∧ a1 ≤ 2) ∧ ((mm_isKind a1) = 0 → a1 < 0 ∨ 2 < a1) := mr_isKind a1 (by omega)
  refine Az.blk kd_6_setEnding_4 (show zR (mm_isKind a1) ∧ ((¬ (mm_isKind a1) = 0 → Ez md_6_setEnding 0 0 9 [(0, zr 113), (1, zi a1), (2, zi a2), (3, zi a3), (4, zi a4)] [] zSh μ _ _ _) ∧ ((mm_isKind a1) = 0 → Ez md_6_setEnding 0 0 7 [(0, zr 113), (1, zi a1), (2, zi a2), (3, zi a3), (4, zi a4)] [] zSh μ _ _ _)) from ⟨(by omega), fun c2 => ?_, fun c2 => ?_⟩)
  · rw [if_neg c2]
    refine Az.blk kd_6_setEnding_9 (show zR a2 ∧ Ez md_6_setEnding 0 0 15 [(0, zr 113), (1, zi a1), (2, zi a2), (3, zi a3), (4, zi a4)] [zl 5, zl 0, zl a2] zSh μ _ _ _ from ⟨(by omega), ?_⟩)
    refine Az.cS (mc := md_6_in) (n := 3) (As := [zl a2, zl 0, zl 5]) (rest := []) kr_6_setEnding_15 zw_626 ok_6_in rfl rfl (mz_in a2 0 5 (by omega) (by omega) (by omega)) rfl rfl (show Ez md_6_setEnding 0 0 18 [(0, zr 113), (1, zi a1), (2, zi a2), (3, zi a3), (4, zi a4)] [zi (mm_in a2 0 5)] zSh μ _ _ _ from ?_)
    have r3 : 0 ≤ (mm_in a2 0 5) ∧ (mm_in a2 0 5) ≤ 1 ∧ ((mm_in a2 0 5) = 1 → (0 : Int) ≤ a2 ∧ a2 ≤ (5 : Int)) ∧ ((mm_in a2 0 5) = 0 → a2 < (0 : Int) ∨ (5 : Int) < a2) := mr_in a2 0 5 (by omega) (by omega) (by omega)
    refine Az.blk kd_6_setEnding_18 (show zR (mm_in a2 0 5) ∧ (((mm_in a2 0 5) = 0 → Ez md_6_setEnding 0 0 54 [(0, zr 113), (1, zi a1), (2, zi a2), (3, zi a3), (4, zi a4)] [] zSh μ _ _ _) ∧ (¬ (mm_in a2 0 5) = 0 → Ez md_6_setEnding 0 0 21 [(0, zr 113), (1, zi a1), (2, zi a2), (3, zi a3), (4, zi a4)] [] zSh μ _ _ _)) from ⟨(by omega), fun c4 => ?_, fun c4 => ?_⟩)
    · rw [if_pos c4]
      refine Az.blk kd_6_setEnding_54 (show Ez md_6_setEnding 0 0 56 [(0, zr 113), (1, zi a1), (2, zi a2), (3, zi a3), (4, zi a4)] [zi (-2)] zSh μ _ _ _ from ?_)
      exact Ez.iret kr_6_setEnding_56 rfl (Nat.zero_le _) (Nat.zero_le _) rfl rfl
    · rw [if_neg c4]
      refine Az.blk kd_6_setEnding_21 (show zR a3 ∧ Ez md_6_setEnding 0 0 27 [(0, zr 113), (1, zi a1), (2, zi a2), (3, zi a3), (4, zi a4)] [zl 26, zl 0, zl a3] zSh μ _ _ _ from ⟨(by omega), ?_⟩)
      refine Az.cS (mc := md_6_in) (n := 3) (As := [zl a3, zl 0, zl 26]) (rest := []) kr_6_setEnding_27 zw_626 ok_6_in rfl rfl (mz_in a3 0 26 (by omega) (by omega) (by omega)) rfl rfl (show Ez md_6_setEnding 0 0 30 [(0, zr 113), (1, zi a1), (2, zi a2), (3, zi a3), (4, zi a4)] [zi (mm_in a3 0 26)] zSh μ _ _ _ from ?_)
      have r5 : 0 ≤ (mm_in a3 0 26) ∧ (mm_in a3 0 26) ≤ 1 ∧ ((mm_in a3 0 26) = 1 → (0 : Int) ≤ a3 ∧ a3 ≤ (26 : Int)) ∧ ((mm_in a3 0 26) = 0 → a3 < (0 : Int) ∨ (26 : Int) < a3) := mr_in a3 0 26 (by omega) (by omega) (by omega)
      refine Az.blk kd_6_setEnding_30 (show zR (mm_in a3 0 26) ∧ (((mm_in a3 0 26) = 0 → Ez md_6_setEnding 0 0 54 [(0, zr 113), (1, zi a1), (2, zi a2), (3, zi a3), (4, zi a4)] [] zSh μ _ _ _) ∧ (¬ (mm_in a3 0 26) = 0 → Ez md_6_setEnding 0 0 33 [(0, zr 113), (1, zi a1), (2, zi a2), (3, zi a3), (4, zi a4)] [] zSh μ _ _ _)) from ⟨(by omega), fun c6 => ?_, fun c6 => ?_⟩)
      · rw [if_pos c6]
        refine Az.blk kd_6_setEnding_54 (show Ez md_6_setEnding 0 0 56 [(0, zr 113), (1, zi a1), (2, zi a2), (3, zi a3), (4, zi a4)] [zi (-2)] zSh μ _ _ _ from ?_)
        exact Ez.iret kr_6_setEnding_56 rfl (Nat.zero_le _) (Nat.zero_le _) rfl rfl
      · rw [if_neg c6]
        refine Az.blk kd_6_setEnding_33 (show zR a4 ∧ zR a3 ∧ ((¬ a3 = 0 → Ez md_6_setEnding 0 0 45 [(0, zr 113), (1, zi a1), (2, zi a2), (3, zi a3), (4, zi a4)] [zl 0, zl a4] zSh μ _ _ _) ∧ (a3 = 0 → Ez md_6_setEnding 0 0 41 [(0, zr 113), (1, zi a1), (2, zi a2), (3, zi a3), (4, zi a4)] [zl 0, zl a4] zSh μ _ _ _)) from ⟨(by omega), (by omega), fun c7 => ?_, fun c7 => ?_⟩)
        · rw [if_neg c7]
          refine Az.blk kd_6_setEnding_45 (show Ez md_6_setEnding 0 0 48 [(0, zr 113), (1, zi a1), (2, zi a2), (3, zi a3), (4, zi a4)] [zl 26, zl 0, zl a4] zSh μ _ _ _ from ?_)
          refine Az.cS (mc := md_6_in) (n := 3) (As := [zl a4, zl 0, zl 26]) (rest := []) kr_6_setEnding_48 zw_626 ok_6_in rfl rfl (mz_in a4 0 26 (by omega) (by omega) (by omega)) rfl rfl (show Ez md_6_setEnding 0 0 51 [(0, zr 113), (1, zi a1), (2, zi a2), (3, zi a3), (4, zi a4)] [zi (mm_in a4 0 26)] zSh μ _ _ _ from ?_)
          have r8 : 0 ≤ (mm_in a4 0 26) ∧ (mm_in a4 0 26) ≤ 1 ∧ ((mm_in a4 0 26) = 1 → (0 : Int) ≤ a4 ∧ a4 ≤ (26 : Int)) ∧ ((mm_in a4 0 26) = 0 → a4 < (0 : Int) ∨ (26 : Int) < a4) := mr_in a4 0 26 (by omega) (by omega) (by omega)
          refine Az.blk kd_6_setEnding_51 (show zR (mm_in a4 0 26) ∧ ((¬ (mm_in a4 0 26) = 0 → Ez md_6_setEnding 0 0 57 [(0, zr 113), (1, zi a1), (2, zi a2), (3, zi a3), (4, zi a4)] [] zSh μ _ _ _) ∧ ((mm_in a4 0 26) = 0 → Ez md_6_setEnding 0 0 54 [(0, zr 113), (1, zi a1), (2, zi a2), (3, zi a3), (4, zi a4)] [] zSh μ _ _ _)) from ⟨(by omega), fun c9 => ?_, fun c9 => ?_⟩)
          · rw [if_neg c9]
            refine Az.blk kd_6_setEnding_57 (show Ez md_6_setEnding 0 0 59 [(0, zr 113), (1, zi a1), (2, zi a2), (3, zi a3), (4, zi a4)] [zi a2, zi a1] zSh μ _ _ _ from ?_)
            refine Az.cS (mc := md_6_endingAt) (n := 2) (As := [zi a1, zi a2]) (rest := []) kr_6_setEnding_59 zw_651 ok_6_endingAt rfl rfl (mz_endingAt a1 a2 (by omega) (by omega)) rfl rfl (show Ez md_6_setEnding 0 0 62 [(0, zr 113), (1, zi a1), (2, zi a2), (3, zi a3), (4, zi a4)] [zi (mm_endingAt a1 a2)] zSh μ _ _ _ from ?_)
            have r10 : (mm_endingAt a1 a2) = 268 + 2 * (6 * a1 + a2) := mr_endingAt a1 a2 (by omega) (by omega)
            have q11 : 0 ≤ (μ 114 (mm_endingAt a1 a2)) ∧ (μ 114 (mm_endingAt a1 a2)) ≤ 26 := zR_end hB (by omega)
            refine Az.blk kd_6_setEnding_62 (show (0 ≤ (mm_endingAt a1 a2) ∧ (mm_endingAt a1 a2) < 604) ∧ zR (μ 114 (mm_endingAt a1 a2)) ∧ zR a3 ∧ ((¬ (μ 114 (mm_endingAt a1 a2)) = a3 → Ez md_6_setEnding 0 0 92 [(5, zi (mm_endingAt a1 a2)), (0, zr 113), (1, zi a1), (2, zi a2), (3, zi a3), (4, zi a4)] [] zSh μ _ _ _) ∧ ((μ 114 (mm_endingAt a1 a2)) = a3 → Ez md_6_setEnding 0 0 75 [(5, zi (mm_endingAt a1 a2)), (0, zr 113), (1, zi a1), (2, zi a2), (3, zi a3), (4, zi a4)] [] zSh μ _ _ _)) from ⟨(by omega), (by omega), (by omega), fun c12 => ?_, fun c12 => ?_⟩)
            · rw [if_neg c12]
              refine Az.blk kd_6_setEnding_92 (show Ez md_6_setEnding 0 0 93 [(5, zi (mm_endingAt a1 a2)), (0, zr 113), (1, zi a1), (2, zi a2), (3, zi a3), (4, zi a4)] [zr 113] zSh μ _ _ _ from ?_)
              refine Az.cV (mc := md_6_keeps) (k := 113) (n := 0) (As := []) (rest := []) kr_6_setEnding_93 zw_637 ok_6_keeps rfl rfl rfl trivial (mz_keepsF hB) rfl rfl (show Ez md_6_setEnding 0 0 96 [(5, zi (mm_endingAt a1 a2)), (0, zr 113), (1, zi a1), (2, zi a2), (3, zi a3), (4, zi a4)] [] zSh (zset μ 115 ((mm_keeps μ) 115)) _ _ _ from ?_)
              have q13 : 0 ≤ (μ 114 (mm_endingAt a1 a2)) ∧ (μ 114 (mm_endingAt a1 a2)) ≤ 26 := zR_end hB (by omega)
              have q14 : 0 ≤ (μ 114 ((mm_endingAt a1 a2) + 1)) ∧ (μ 114 ((mm_endingAt a1 a2) + 1)) ≤ 26 := zR_end hB (by omega)
              refine Az.blk kd_6_setEnding_96 (show (0 ≤ (mm_endingAt a1 a2) ∧ (mm_endingAt a1 a2) < 604) ∧ (0 ≤ ((mm_endingAt a1 a2) + 1) ∧ ((mm_endingAt a1 a2) + 1) < 604) ∧ (0 ≤ (mm_endingAt a1 a2) ∧ (mm_endingAt a1 a2) < 604) ∧ (0 ≤ ((mm_endingAt a1 a2) + 1) ∧ ((mm_endingAt a1 a2) + 1) < 604) ∧ Ez md_6_setEnding 0 0 140 [(6, zi ((27 * (μ 114 (mm_endingAt a1 a2))) + (μ 114 ((mm_endingAt a1 a2) + 1)))), (5, zi (mm_endingAt a1 a2)), (0, zr 113), (1, zi a1), (2, zi a2), (3, zi a3), (4, zi a4)] [zi ((27 * (μ 114 (mm_endingAt a1 a2))) + (μ 114 ((mm_endingAt a1 a2) + 1))), zr 113] zSh (zup (zup (zset μ 115 ((mm_keeps μ) 115)) 114 (mm_endingAt a1 a2) a3) 114 ((mm_endingAt a1 a2) + 1) a4) _ _ _ from ⟨(by omega), (by omega), (by omega), (by omega), ?_⟩)
              refine Az.cV (mc := md_6_ends) (k := 113) (n := 1) (As := [zi ((27 * (μ 114 (mm_endingAt a1 a2))) + (μ 114 ((mm_endingAt a1 a2) + 1)))]) (rest := []) kr_6_setEnding_140 zw_641 ok_6_ends rfl rfl rfl trivial (mz_ends (zup_ok (k := 114) (z := ((mm_endingAt a1 a2) + 1)) (v := a4) (zup_ok (k := 114) (z := (mm_endingAt a1 a2)) (v := a3) (mb_keepsF hB) (show zOkR (mm_endingAt a1 a2) a3 from zOkR_end (by omega) (by omega))) (show zOkR ((mm_endingAt a1 a2) + 1) a4 from zOkR_end (by omega) (by omega))) ((27 * (μ 114 (mm_endingAt a1 a2))) + (μ 114 ((mm_endingAt a1 a2) + 1)))) rfl rfl (show Ez md_6_setEnding 0 0 143 [(6, zi ((27 * (μ 114 (mm_endingAt a1 a2))) + (μ 114 ((mm_endingAt a1 a2) + 1)))), (5, zi (mm_endingAt a1 a2)), (0, zr 113), (1, zi a1), (2, zi a2), (3, zi a3), (4, zi a4)] [zi (mm_ends (zup (zup (zset μ 115 ((mm_keeps μ) 115)) 114 (mm_endingAt a1 a2) a3) 114 ((mm_endingAt a1 a2) + 1) a4) ((27 * (μ 114 (mm_endingAt a1 a2))) + (μ 114 ((mm_endingAt a1 a2) + 1)))).1] zSh (mm_ends (zup (zup (zset μ 115 ((mm_keeps μ) 115)) 114 (mm_endingAt a1 a2) a3) 114 ((mm_endingAt a1 a2) + 1) a4) ((27 * (μ 114 (mm_endingAt a1 a2))) + (μ 114 ((mm_endingAt a1 a2) + 1)))).2 _ _ _ from ?_)
              exact Ez.iret kr_6_setEnding_143 rfl (Nat.zero_le _) (Nat.zero_le _) rfl rfl
            · rw [if_pos c12]
              have q15 : 0 ≤ (μ 114 ((mm_endingAt a1 a2) + 1)) ∧ (μ 114 ((mm_endingAt a1 a2) + 1)) ≤ 26 := zR_end hB (by omega)
              refine Az.blk kd_6_setEnding_75 (show (0 ≤ ((mm_endingAt a1 a2) + 1) ∧ ((mm_endingAt a1 a2) + 1) < 604) ∧ zR (μ 114 ((mm_endingAt a1 a2) + 1)) ∧ zR a4 ∧ ((¬ (μ 114 ((mm_endingAt a1 a2) + 1)) = a4 → Ez md_6_setEnding 0 0 92 [(5, zi (mm_endingAt a1 a2)), (0, zr 113), (1, zi a1), (2, zi a2), (3, zi a3), (4, zi a4)] [] zSh μ _ _ _) ∧ ((μ 114 ((mm_endingAt a1 a2) + 1)) = a4 → Ez md_6_setEnding 0 0 89 [(5, zi (mm_endingAt a1 a2)), (0, zr 113), (1, zi a1), (2, zi a2), (3, zi a3), (4, zi a4)] [] zSh μ _ _ _)) from ⟨(by omega), (by omega), (by omega), fun c16 => ?_, fun c16 => ?_⟩)
              · rw [if_neg c16]
                refine Az.blk kd_6_setEnding_92 (show Ez md_6_setEnding 0 0 93 [(5, zi (mm_endingAt a1 a2)), (0, zr 113), (1, zi a1), (2, zi a2), (3, zi a3), (4, zi a4)] [zr 113] zSh μ _ _ _ from ?_)
                refine Az.cV (mc := md_6_keeps) (k := 113) (n := 0) (As := []) (rest := []) kr_6_setEnding_93 zw_637 ok_6_keeps rfl rfl rfl trivial (mz_keepsF hB) rfl rfl (show Ez md_6_setEnding 0 0 96 [(5, zi (mm_endingAt a1 a2)), (0, zr 113), (1, zi a1), (2, zi a2), (3, zi a3), (4, zi a4)] [] zSh (zset μ 115 ((mm_keeps μ) 115)) _ _ _ from ?_)
                have q17 : 0 ≤ (μ 114 (mm_endingAt a1 a2)) ∧ (μ 114 (mm_endingAt a1 a2)) ≤ 26 := zR_end hB (by omega)
                have q18 : 0 ≤ (μ 114 ((mm_endingAt a1 a2) + 1)) ∧ (μ 114 ((mm_endingAt a1 a2) + 1)) ≤ 26 := zR_end hB (by omega)
                refine Az.blk kd_6_setEnding_96 (show (0 ≤ (mm_endingAt a1 a2) ∧ (mm_endingAt a1 a2) < 604) ∧ (0 ≤ ((mm_endingAt a1 a2) + 1) ∧ ((mm_endingAt a1 a2) + 1) < 604) ∧ (0 ≤ (mm_endingAt a1 a2) ∧ (mm_endingAt a1 a2) < 604) ∧ (0 ≤ ((mm_endingAt a1 a2) + 1) ∧ ((mm_endingAt a1 a2) + 1) < 604) ∧ Ez md_6_setEnding 0 0 140 [(6, zi ((27 * (μ 114 (mm_endingAt a1 a2))) + (μ 114 ((mm_endingAt a1 a2) + 1)))), (5, zi (mm_endingAt a1 a2)), (0, zr 113), (1, zi a1), (2, zi a2), (3, zi a3), (4, zi a4)] [zi ((27 * (μ 114 (mm_endingAt a1 a2))) + (μ 114 ((mm_endingAt a1 a2) + 1))), zr 113] zSh (zup (zup (zset μ 115 ((mm_keeps μ) 115)) 114 (mm_endingAt a1 a2) a3) 114 ((mm_endingAt a1 a2) + 1) a4) _ _ _ from ⟨(by omega), (by omega), (by omega), (by omega), ?_⟩)
                refine Az.cV (mc := md_6_ends) (k := 113) (n := 1) (As := [zi ((27 * (μ 114 (mm_endingAt a1 a2))) + (μ 114 ((mm_endingAt a1 a2) + 1)))]) (rest := []) kr_6_setEnding_140 zw_641 ok_6_ends rfl rfl rfl trivial (mz_ends (zup_ok (k := 114) (z := ((mm_endingAt a1 a2) + 1)) (v := a4) (zup_ok (k := 114) (z := (mm_endingAt a1 a2)) (v := a3) (mb_keepsF hB) (show zOkR (mm_endingAt a1 a2) a3 from zOkR_end (by omega) (by omega))) (show zOkR ((mm_endingAt a1 a2) + 1) a4 from zOkR_end (by omega) (by omega))) ((27 * (μ 114 (mm_endingAt a1 a2))) + (μ 114 ((mm_endingAt a1 a2) + 1)))) rfl rfl (show Ez md_6_setEnding 0 0 143 [(6, zi ((27 * (μ 114 (mm_endingAt a1 a2))) + (μ 114 ((mm_endingAt a1 a2) + 1)))), (5, zi (mm_endingAt a1 a2)), (0, zr 113), (1, zi a1), (2, zi a2), (3, zi a3), (4, zi a4)] [zi (mm_ends (zup (zup (zset μ 115 ((mm_keeps μ) 115)) 114 (mm_endingAt a1 a2) a3) 114 ((mm_endingAt a1 a2) + 1) a4) ((27 * (μ 114 (mm_endingAt a1 a2))) + (μ 114 ((mm_endingAt a1 a2) + 1)))).1] zSh (mm_ends (zup (zup (zset μ 115 ((mm_keeps μ) 115)) 114 (mm_endingAt a1 a2) a3) 114 ((mm_endingAt a1 a2) + 1) a4) ((27 * (μ 114 (mm_endingAt a1 a2))) + (μ 114 ((mm_endingAt a1 a2) + 1)))).2 _ _ _ from ?_)
                exact Ez.iret kr_6_setEnding_143 rfl (Nat.zero_le _) (Nat.zero_le _) rfl rfl
              · rw [if_pos c16]
                refine Az.blk kd_6_setEnding_89 (show Ez md_6_setEnding 0 0 91 [(5, zi (mm_endingAt a1 a2)), (0, zr 113), (1, zi a1), (2, zi a2), (3, zi a3), (4, zi a4)] [zi (-5)] zSh μ _ _ _ from ?_)
                exact Ez.iret kr_6_setEnding_91 rfl (Nat.zero_le _) (Nat.zero_le _) rfl rfl
          · rw [if_pos c9]
            refine Az.blk kd_6_setEnding_54 (show Ez md_6_setEnding 0 0 56 [(0, zr 113), (1, zi a1), (2, zi a2), (3, zi a3), (4, zi a4)] [zi (-2)] zSh μ _ _ _ from ?_)
            exact Ez.iret kr_6_setEnding_56 rfl (Nat.zero_le _) (Nat.zero_le _) rfl rfl
        · rw [if_pos c7]
          refine Az.blk kd_6_setEnding_41 (show Ez md_6_setEnding 0 0 48 [(0, zr 113), (1, zi a1), (2, zi a2), (3, zi a3), (4, zi a4)] [zl 0, zl 0, zl a4] zSh μ _ _ _ from ?_)
          refine Az.cS (mc := md_6_in) (n := 3) (As := [zl a4, zl 0, zl 0]) (rest := []) kr_6_setEnding_48 zw_626 ok_6_in rfl rfl (mz_in a4 0 0 (by omega) (by omega) (by omega)) rfl rfl (show Ez md_6_setEnding 0 0 51 [(0, zr 113), (1, zi a1), (2, zi a2), (3, zi a3), (4, zi a4)] [zi (mm_in a4 0 0)] zSh μ _ _ _ from ?_)
          have r19 : 0 ≤ (mm_in a4 0 0) ∧ (mm_in a4 0 0) ≤ 1 ∧ ((mm_in a4 0 0) = 1 → (0 : Int) ≤ a4 ∧ a4 ≤ (0 : Int)) ∧ ((mm_in a4 0 0) = 0 → a4 < (0 : Int) ∨ (0 : Int) < a4) := mr_in a4 0 0 (by omega) (by omega) (by omega)
          refine Az.blk kd_6_setEnding_51 (show zR (mm_in a4 0 0) ∧ ((¬ (mm_in a4 0 0) = 0 → Ez md_6_setEnding 0 0 57 [(0, zr 113), (1, zi a1), (2, zi a2), (3, zi a3), (4, zi a4)] [] zSh μ _ _ _) ∧ ((mm_in a4 0 0) = 0 → Ez md_6_setEnding 0 0 54 [(0, zr 113), (1, zi a1), (2, zi a2), (3, zi a3), (4, zi a4)] [] zSh μ _ _ _)) from ⟨(by omega), fun c20 => ?_, fun c20 => ?_⟩)
          · rw [if_neg c20]
            refine Az.blk kd_6_setEnding_57 (show Ez md_6_setEnding 0 0 59 [(0, zr 113), (1, zi a1), (2, zi a2), (3, zi a3), (4, zi a4)] [zi a2, zi a1] zSh μ _ _ _ from ?_)
            refine Az.cS (mc := md_6_endingAt) (n := 2) (As := [zi a1, zi a2]) (rest := []) kr_6_setEnding_59 zw_651 ok_6_endingAt rfl rfl (mz_endingAt a1 a2 (by omega) (by omega)) rfl rfl (show Ez md_6_setEnding 0 0 62 [(0, zr 113), (1, zi a1), (2, zi a2), (3, zi a3), (4, zi a4)] [zi (mm_endingAt a1 a2)] zSh μ _ _ _ from ?_)
            have r21 : (mm_endingAt a1 a2) = 268 + 2 * (6 * a1 + a2) := mr_endingAt a1 a2 (by omega) (by omega)
            have q22 : 0 ≤ (μ 114 (mm_endingAt a1 a2)) ∧ (μ 114 (mm_endingAt a1 a2)) ≤ 26 := zR_end hB (by omega)
            refine Az.blk kd_6_setEnding_62 (show (0 ≤ (mm_endingAt a1 a2) ∧ (mm_endingAt a1 a2) < 604) ∧ zR (μ 114 (mm_endingAt a1 a2)) ∧ zR a3 ∧ ((¬ (μ 114 (mm_endingAt a1 a2)) = a3 → Ez md_6_setEnding 0 0 92 [(5, zi (mm_endingAt a1 a2)), (0, zr 113), (1, zi a1), (2, zi a2), (3, zi a3), (4, zi a4)] [] zSh μ _ _ _) ∧ ((μ 114 (mm_endingAt a1 a2)) = a3 → Ez md_6_setEnding 0 0 75 [(5, zi (mm_endingAt a1 a2)), (0, zr 113), (1, zi a1), (2, zi a2), (3, zi a3), (4, zi a4)] [] zSh μ _ _ _)) from ⟨(by omega), (by omega), (by omega), fun c23 => ?_, fun c23 => ?_⟩)
            · rw [if_neg c23]
              refine Az.blk kd_6_setEnding_92 (show Ez md_6_setEnding 0 0 93 [(5, zi (mm_endingAt a1 a2)), (0, zr 113), (1, zi a1), (2, zi a2), (3, zi a3), (4, zi a4)] [zr 113] zSh μ _ _ _ from ?_)
              refine Az.cV (mc := md_6_keeps) (k := 113) (n := 0) (As := []) (rest := []) kr_6_setEnding_93 zw_637 ok_6_keeps rfl rfl rfl trivial (mz_keepsF hB) rfl rfl (show Ez md_6_setEnding 0 0 96 [(5, zi (mm_endingAt a1 a2)), (0, zr 113), (1, zi a1), (2, zi a2), (3, zi a3), (4, zi a4)] [] zSh (zset μ 115 ((mm_keeps μ) 115)) _ _ _ from ?_)
              have q24 : 0 ≤ (μ 114 (mm_endingAt a1 a2)) ∧ (μ 114 (mm_endingAt a1 a2)) ≤ 26 := zR_end hB (by omega)
              have q25 : 0 ≤ (μ 114 ((mm_endingAt a1 a2) + 1)) ∧ (μ 114 ((mm_endingAt a1 a2) + 1)) ≤ 26 := zR_end hB (by omega)
              refine Az.blk kd_6_setEnding_96 (show (0 ≤ (mm_endingAt a1 a2) ∧ (mm_endingAt a1 a2) < 604) ∧ (0 ≤ ((mm_endingAt a1 a2) + 1) ∧ ((mm_endingAt a1 a2) + 1) < 604) ∧ (0 ≤ (mm_endingAt a1 a2) ∧ (mm_endingAt a1 a2) < 604) ∧ (0 ≤ ((mm_endingAt a1 a2) + 1) ∧ ((mm_endingAt a1 a2) + 1) < 604) ∧ Ez md_6_setEnding 0 0 140 [(6, zi ((27 * (μ 114 (mm_endingAt a1 a2))) + (μ 114 ((mm_endingAt a1 a2) + 1)))), (5, zi (mm_endingAt a1 a2)), (0, zr 113), (1, zi a1), (2, zi a2), (3, zi a3), (4, zi a4)] [zi ((27 * (μ 114 (mm_endingAt a1 a2))) + (μ 114 ((mm_endingAt a1 a2) + 1))), zr 113] zSh (zup (zup (zset μ 115 ((mm_keeps μ) 115)) 114 (mm_endingAt a1 a2) a3) 114 ((mm_endingAt a1 a2) + 1) a4) _ _ _ from ⟨(by omega), (by omega), (by omega), (by omega), ?_⟩)
              refine Az.cV (mc := md_6_ends) (k := 113) (n := 1) (As := [zi ((27 * (μ 114 (mm_endingAt a1 a2))) + (μ 114 ((mm_endingAt a1 a2) + 1)))]) (rest := []) kr_6_setEnding_140 zw_641 ok_6_ends rfl rfl rfl trivial (mz_ends (zup_ok (k := 114) (z := ((mm_endingAt a1 a2) + 1)) (v := a4) (zup_ok (k := 114) (z := (mm_endingAt a1 a2)) (v := a3) (mb_keepsF hB) (show zOkR (mm_endingAt a1 a2) a3 from zOkR_end (by omega) (by omega))) (show zOkR ((mm_endingAt a1 a2) + 1) a4 from zOkR_end (by omega) (by omega))) ((27 * (μ 114 (mm_endingAt a1 a2))) + (μ 114 ((mm_endingAt a1 a2) + 1)))) rfl rfl (show Ez md_6_setEnding 0 0 143 [(6, zi ((27 * (μ 114 (mm_endingAt a1 a2))) + (μ 114 ((mm_endingAt a1 a2) + 1)))), (5, zi (mm_endingAt a1 a2)), (0, zr 113), (1, zi a1), (2, zi a2), (3, zi a3), (4, zi a4)] [zi (mm_ends (zup (zup (zset μ 115 ((mm_keeps μ) 115)) 114 (mm_endingAt a1 a2) a3) 114 ((mm_endingAt a1 a2) + 1) a4) ((27 * (μ 114 (mm_endingAt a1 a2))) + (μ 114 ((mm_endingAt a1 a2) + 1)))).1] zSh (mm_ends (zup (zup (zset μ 115 ((mm_keeps μ) 115)) 114 (mm_endingAt a1 a2) a3) 114 ((mm_endingAt a1 a2) + 1) a4) ((27 * (μ 114 (mm_endingAt a1 a2))) + (μ 114 ((mm_endingAt a1 a2) + 1)))).2 _ _ _ from ?_)
              exact Ez.iret kr_6_setEnding_143 rfl (Nat.zero_le _) (Nat.zero_le _) rfl rfl
            · rw [if_pos c23]
              have q26 : 0 ≤ (μ 114 ((mm_endingAt a1 a2) + 1)) ∧ (μ 114 ((mm_endingAt a1 a2) + 1)) ≤ 26 := zR_end hB (by omega)
              refine Az.blk kd_6_setEnding_75 (show (0 ≤ ((mm_endingAt a1 a2) + 1) ∧ ((mm_endingAt a1 a2) + 1) < 604) ∧ zR (μ 114 ((mm_endingAt a1 a2) + 1)) ∧ zR a4 ∧ ((¬ (μ 114 ((mm_endingAt a1 a2) + 1)) = a4 → Ez md_6_setEnding 0 0 92 [(5, zi (mm_endingAt a1 a2)), (0, zr 113), (1, zi a1), (2, zi a2), (3, zi a3), (4, zi a4)] [] zSh μ _ _ _) ∧ ((μ 114 ((mm_endingAt a1 a2) + 1)) = a4 → Ez md_6_setEnding 0 0 89 [(5, zi (mm_endingAt a1 a2)), (0, zr 113), (1, zi a1), (2, zi a2), (3, zi a3), (4, zi a4)] [] zSh μ _ _ _)) from ⟨(by omega), (by omega), (by omega), fun c27 => ?_, fun c27 => ?_⟩)
              · rw [if_neg c27]
                refine Az.blk kd_6_setEnding_92 (show Ez md_6_setEnding 0 0 93 [(5, zi (mm_endingAt a1 a2)), (0, zr 113), (1, zi a1), (2, zi a2), (3, zi a3), (4, zi a4)] [zr 113] zSh μ _ _ _ from ?_)
                refine Az.cV (mc := md_6_keeps) (k := 113) (n := 0) (As := []) (rest := []) kr_6_setEnding_93 zw_637 ok_6_keeps rfl rfl rfl trivial (mz_keepsF hB) rfl rfl (show Ez md_6_setEnding 0 0 96 [(5, zi (mm_endingAt a1 a2)), (0, zr 113), (1, zi a1), (2, zi a2), (3, zi a3), (4, zi a4)] [] zSh (zset μ 115 ((mm_keeps μ) 115)) _ _ _ from ?_)
                have q28 : 0 ≤ (μ 114 (mm_endingAt a1 a2)) ∧ (μ 114 (mm_endingAt a1 a2)) ≤ 26 := zR_end hB (by omega)
                have q29 : 0 ≤ (μ 114 ((mm_endingAt a1 a2) + 1)) ∧ (μ 114 ((mm_endingAt a1 a2) + 1)) ≤ 26 := zR_end hB (by omega)
                refine Az.blk kd_6_setEnding_96 (show (0 ≤ (mm_endingAt a1 a2) ∧ (mm_endingAt a1 a2) < 604) ∧ (0 ≤ ((mm_endingAt a1 a2) + 1) ∧ ((mm_endingAt a1 a2) + 1) < 604) ∧ (0 ≤ (mm_endingAt a1 a2) ∧ (mm_endingAt a1 a2) < 604) ∧ (0 ≤ ((mm_endingAt a1 a2) + 1) ∧ ((mm_endingAt a1 a2) + 1) < 604) ∧ Ez md_6_setEnding 0 0 140 [(6, zi ((27 * (μ 114 (mm_endingAt a1 a2))) + (μ 114 ((mm_endingAt a1 a2) + 1)))), (5, zi (mm_endingAt a1 a2)), (0, zr 113), (1, zi a1), (2, zi a2), (3, zi a3), (4, zi a4)] [zi ((27 * (μ 114 (mm_endingAt a1 a2))) + (μ 114 ((mm_endingAt a1 a2) + 1))), zr 113] zSh (zup (zup (zset μ 115 ((mm_keeps μ) 115)) 114 (mm_endingAt a1 a2) a3) 114 ((mm_endingAt a1 a2) + 1) a4) _ _ _ from ⟨(by omega), (by omega), (by omega), (by omega), ?_⟩)
                refine Az.cV (mc := md_6_ends) (k := 113) (n := 1) (As := [zi ((27 * (μ 114 (mm_endingAt a1 a2))) + (μ 114 ((mm_endingAt a1 a2) + 1)))]) (rest := []) kr_6_setEnding_140 zw_641 ok_6_ends rfl rfl rfl trivial (mz_ends (zup_ok (k := 114) (z := ((mm_endingAt a1 a2) + 1)) (v := a4) (zup_ok (k := 114) (z := (mm_endingAt a1 a2)) (v := a3) (mb_keepsF hB) (show zOkR (mm_endingAt a1 a2) a3 from zOkR_end (by omega) (by omega))) (show zOkR ((mm_endingAt a1 a2) + 1) a4 from zOkR_end (by omega) (by omega))) ((27 * (μ 114 (mm_endingAt a1 a2))) + (μ 114 ((mm_endingAt a1 a2) + 1)))) rfl rfl (show Ez md_6_setEnding 0 0 143 [(6, zi ((27 * (μ 114 (mm_endingAt a1 a2))) + (μ 114 ((mm_endingAt a1 a2) + 1)))), (5, zi (mm_endingAt a1 a2)), (0, zr 113), (1, zi a1), (2, zi a2), (3, zi a3), (4, zi a4)] [zi (mm_ends (zup (zup (zset μ 115 ((mm_keeps μ) 115)) 114 (mm_endingAt a1 a2) a3) 114 ((mm_endingAt a1 a2) + 1) a4) ((27 * (μ 114 (mm_endingAt a1 a2))) + (μ 114 ((mm_endingAt a1 a2) + 1)))).1] zSh (mm_ends (zup (zup (zset μ 115 ((mm_keeps μ) 115)) 114 (mm_endingAt a1 a2) a3) 114 ((mm_endingAt a1 a2) + 1) a4) ((27 * (μ 114 (mm_endingAt a1 a2))) + (μ 114 ((mm_endingAt a1 a2) + 1)))).2 _ _ _ from ?_)
                exact Ez.iret kr_6_setEnding_143 rfl (Nat.zero_le _) (Nat.zero_le _) rfl rfl
              · rw [if_pos c27]
                refine Az.blk kd_6_setEnding_89 (show Ez md_6_setEnding 0 0 91 [(5, zi (mm_endingAt a1 a2)), (0, zr 113), (1, zi a1), (2, zi a2), (3, zi a3), (4, zi a4)] [zi (-5)] zSh μ _ _ _ from ?_)
                exact Ez.iret kr_6_setEnding_91 rfl (Nat.zero_le _) (Nat.zero_le _) rfl rfl
          · rw [if_pos c20]
            refine Az.blk kd_6_setEnding_54 (show Ez md_6_setEnding 0 0 56 [(0, zr 113), (1, zi a1), (2, zi a2), (3, zi a3), (4, zi a4)] [zi (-2)] zSh μ _ _ _ from ?_)
            exact Ez.iret kr_6_setEnding_56 rfl (Nat.zero_le _) (Nat.zero_le _) rfl rfl
  · rw [if_pos c2]
    refine Az.blk kd_6_setEnding_7 (show Ez md_6_setEnding 0 0 8 [(0, zr 113), (1, zi a1), (2, zi a2), (3, zi a3), (4, zi a4)] [zi (-1)] zSh μ _ _ _ from ?_)
    exact Ez.iret kr_6_setEnding_8 rfl (Nat.zero_le _) (Nat.zero_le _) rfl rfl
def kb_6_setTie_0 : List zI := [(.iload_n 1, 1, 0, 0)]
theorem kd_6_setTie_0 : zdec md_6_setTie 0 kb_6_setTie_0 = true := by decide +kernel
theorem kr_6_setTie_1 : decode md_6_setTie.2.1 1 = .ok (.invokestatic 109, 3) := by decide +kernel
def kb_6_setTie_4 : List zI := [(.ifCond .ne 5, 3, 9, 0)]
theorem kd_6_setTie_4 : zdec md_6_setTie 4 kb_6_setTie_4 = true := by decide +kernel
def kb_6_setTie_9 : List zI := [(.iload_n 2, 1, 0, 0), (.i2l, 1, 0, 0), (.lconst 0, 1, 0, 0), (.lconst 1, 1, 0, 0)]
theorem kd_6_setTie_9 : zdec md_6_setTie 9 kb_6_setTie_9 = true := by decide +kernel
theorem kr_6_setTie_13 : decode md_6_setTie.2.1 13 = .ok (.invokestatic 32, 3) := by decide +kernel
def kb_6_setTie_16 : List zI := [(.ifCond .eq 15, 3, 31, 0)]
theorem kd_6_setTie_16 : zdec md_6_setTie 16 kb_6_setTie_16 = true := by decide +kernel
def kb_6_setTie_31 : List zI := [(.bipush (-2), 2, 0, 0)]
theorem kd_6_setTie_31 : zdec md_6_setTie 31 kb_6_setTie_31 = true := by decide +kernel
theorem kr_6_setTie_33 : decode md_6_setTie.2.1 33 = .ok (.ireturn, 1) := by decide +kernel
def kb_6_setTie_19 : List zI := [(.iload_n 3, 1, 0, 0), (.i2l, 1, 0, 0), (.lconst 0, 1, 0, 0), (.ldc2_w 36, 3, 2, 0)]
theorem kd_6_setTie_19 : zdec md_6_setTie 19 kb_6_setTie_19 = true := by decide +kernel
theorem kr_6_setTie_25 : decode md_6_setTie.2.1 25 = .ok (.invokestatic 32, 3) := by decide +kernel
def kb_6_setTie_28 : List zI := [(.ifCond .ne 6, 3, 34, 0)]
theorem kd_6_setTie_28 : zdec md_6_setTie 28 kb_6_setTie_28 = true := by decide +kernel
def kb_6_setTie_34 : List zI := [(.aload_n 0, 1, 0, 0), (.iload_n 1, 1, 0, 0)]
theorem kd_6_setTie_34 : zdec md_6_setTie 34 kb_6_setTie_34 = true := by decide +kernel
theorem kr_6_setTie_36 : decode md_6_setTie.2.1 36 = .ok (.invokevirtual 62, 3) := by decide +kernel
def kb_6_setTie_39 : List zI := [(.iload_n 2, 1, 0, 0), (.if_icmp .ne 15, 3, 55, 0)]
theorem kd_6_setTie_39 : zdec md_6_setTie 39 kb_6_setTie_39 = true := by decide +kernel
def kb_6_setTie_55 : List zI := [(.aload_n 0, 1, 0, 0)]
theorem kd_6_setTie_55 : zdec md_6_setTie 55 kb_6_setTie_55 = true := by decide +kernel
theorem kr_6_setTie_56 : decode md_6_setTie.2.1 56 = .ok (.invokevirtual 85, 3) := by decide +kernel
def kb_6_setTie_59 : List zI := [(.iconst 3, 1, 0, 0), (.aload_n 0, 1, 0, 0), (.iload_n 1, 1, 0, 0)]
theorem kd_6_setTie_59 : zdec md_6_setTie 59 kb_6_setTie_59 = true := by decide +kernel
theorem kr_6_setTie_62 : decode md_6_setTie.2.1 62 = .ok (.invokevirtual 62, 3) := by decide +kernel
def kb_6_setTie_65 : List zI := [(.imul, 1, 0, 0), (.aload_n 0, 1, 0, 0), (.iload_n 1, 1, 0, 0)]
theorem kd_6_setTie_65 : zdec md_6_setTie 65 kb_6_setTie_65 = true := by decide +kernel
theorem kr_6_setTie_68 : decode md_6_setTie.2.1 68 = .ok (.invokevirtual 65, 3) := by decide +kernel
def kb_6_setTie_71 : List zI := [(.iadd, 1, 0, 0), (.istore 4, 2, 0, 0), (.aload_n 0, 1, 0, 0), (.getfield 7, 3, 6, 0), (.sipush 584, 3, 0, 0), (.iconst 2, 1, 0, 0), (.iload_n 1, 1, 0, 0), (.imul, 1, 0, 0), (.iadd, 1, 0, 0), (.iload_n 2, 1, 0, 0), (.iastore, 1, 0, 0), (.aload_n 0, 1, 0, 0), (.getfield 7, 3, 6, 0), (.sipush 584, 3, 0, 0), (.iconst 2, 1, 0, 0), (.iload_n 1, 1, 0, 0), (.imul, 1, 0, 0), (.iadd, 1, 0, 0), (.iconst 1, 1, 0, 0), (.iadd, 1, 0, 0), (.iload_n 3, 1, 0, 0), (.iastore, 1, 0, 0), (.aload_n 0, 1, 0, 0), (.iload 4, 2, 0, 0)]
theorem kd_6_setTie_71 : zdec md_6_setTie 71 kb_6_setTie_71 = true := by decide +kernel
theorem kr_6_setTie_105 : decode md_6_setTie.2.1 105 = .ok (.invokevirtual 91, 3) := by decide +kernel
theorem kr_6_setTie_108 : decode md_6_setTie.2.1 108 = .ok (.ireturn, 1) := by decide +kernel
def kb_6_setTie_43 : List zI := [(.aload_n 0, 1, 0, 0), (.iload_n 1, 1, 0, 0)]
theorem kd_6_setTie_43 : zdec md_6_setTie 43 kb_6_setTie_43 = true := by decide +kernel
theorem kr_6_setTie_45 : decode md_6_setTie.2.1 45 = .ok (.invokevirtual 65, 3) := by decide +kernel
def kb_6_setTie_48 : List zI := [(.iload_n 3, 1, 0, 0), (.if_icmp .ne 6, 3, 55, 0)]
theorem kd_6_setTie_48 : zdec md_6_setTie 48 kb_6_setTie_48 = true := by decide +kernel
def kb_6_setTie_52 : List zI := [(.bipush (-5), 2, 0, 0)]
theorem kd_6_setTie_52 : zdec md_6_setTie 52 kb_6_setTie_52 = true := by decide +kernel
theorem kr_6_setTie_54 : decode md_6_setTie.2.1 54 = .ok (.ireturn, 1) := by decide +kernel
def kb_6_setTie_7 : List zI := [(.iconst (-1), 1, 0, 0)]
theorem kd_6_setTie_7 : zdec md_6_setTie 7 kb_6_setTie_7 = true := by decide +kernel
theorem kr_6_setTie_8 : decode md_6_setTie.2.1 8 = .ok (.ireturn, 1) := by decide +kernel
noncomputable def mm_setTie (μ : zM) (a1 a2 a3 : Int) : Int × zM := (if (mm_isTie a1) = 0 then ((-1), μ) else (if (mm_in a2 0 1) = 0 then ((-2), μ) else (if (mm_in a3 0 2) = 0 then ((-2), μ) else (if (mm_numberOf μ a1) = a2 then (if (mm_tenseOf μ a1) = a3 then ((-5), μ) else ((mm_ends (zup (zup (zset μ 115 ((mm_keeps μ) 115)) 114 (584 + (2 * a1)) a2) 114 ((584 + (2 * a1)) + 1) a3) ((3 * (mm_numberOf (zset μ 115 ((mm_keeps μ) 115)) a1)) + (mm_tenseOf (zset μ 115 ((mm_keeps μ) 115)) a1))).1, (mm_ends (zup (zup (zset μ 115 ((mm_keeps μ) 115)) 114 (584 + (2 * a1)) a2) 114 ((584 + (2 * a1)) + 1) a3) ((3 * (mm_numberOf (zset μ 115 ((mm_keeps μ) 115)) a1)) + (mm_tenseOf (zset μ 115 ((mm_keeps μ) 115)) a1))).2)) else ((mm_ends (zup (zup (zset μ 115 ((mm_keeps μ) 115)) 114 (584 + (2 * a1)) a2) 114 ((584 + (2 * a1)) + 1) a3) ((3 * (mm_numberOf (zset μ 115 ((mm_keeps μ) 115)) a1)) + (mm_tenseOf (zset μ 115 ((mm_keeps μ) 115)) a1))).1, (mm_ends (zup (zup (zset μ 115 ((mm_keeps μ) 115)) 114 (584 + (2 * a1)) a2) 114 ((584 + (2 * a1)) + 1) a3) ((3 * (mm_numberOf (zset μ 115 ((mm_keeps μ) 115)) a1)) + (mm_tenseOf (zset μ 115 ((mm_keeps μ) 115)) a1))).2)))))
set_option maxHeartbeats 4000000 in
set_option maxRecDepth 100000 in
theorem mb_setTie {μ : zM} (hB : zB μ) (a1 a2 a3 : Int) (h0 : -2147483648 ≤ a1 ∧ a1 ≤ 2147483647) (h1 : -2147483648 ≤ a2 ∧ a2 ≤ 2147483647) (h2 : -2147483648 ≤ a3 ∧ a3 ≤ 2147483647) : zB (mm_setTie μ a1 a2 a3).2 := by
  unfold mm_setTie
  have r1 : 0 ≤ (mm_isTie a1) ∧ (mm_isTie a1) ≤ 1 ∧ ((mm_isTie a1) = 1 → 0 ≤ a1 ∧ a1 ≤ 9) ∧ ((mm_isTie a1) = 0 → a1 < 0 ∨ 9 < a1) := mr_isTie a1 (by omega)
  by_cases c2 : (mm_isTie a1) = 0
  · rw [if_pos c2]
    exact hB
  · rw [if_neg c2]
    have r3 : 0 ≤ (mm_in a2 0 1) ∧ (mm_in a2 0 1) ≤ 1 ∧ ((mm_in a2 0 1) = 1 → (0 : Int) ≤ a2 ∧ a2 ≤ (1 : Int)) ∧ ((mm_in a2 0 1) = 0 → a2 < (0 : Int) ∨ (1 : Int) < a2) := mr_in a2 0 1 (by omega) (by omega) (by omega)
    by_cases c4 : (mm_in a2 0 1) = 0
    · rw [if_pos c4]
      exact hB
    · rw [if_neg c4]
      have r5 : 0 ≤ (mm_in a3 0 2) ∧ (mm_in a3 0 2) ≤ 1 ∧ ((mm_in a3 0 2) = 1 → (0 : Int) ≤ a3 ∧ a3 ≤ (2 : Int)) ∧ ((mm_in a3 0 2) = 0 → a3 < (0 : Int) ∨ (2 : Int) < a3) := mr_in a3 0 2 (by omega) (by omega) (by omega)
      by_cases c6 : (mm_in a3 0 2) = 0
      · rw [if_pos c6]
        exact hB
      · rw [if_neg c6]
        have r7 : 0 ≤ (mm_numberOf μ a1) ∧ (mm_numberOf μ a1) ≤ 1 := mr_numberOf hB a1 (by omega)
        by_cases c8 : (mm_numberOf μ a1) = a2
        · rw [if_pos c8]
          have r11 : 0 ≤ (mm_tenseOf μ a1) ∧ (mm_tenseOf μ a1) ≤ 2 := mr_tenseOf hB a1 (by omega)
          by_cases c12 : (mm_tenseOf μ a1) = a3
          · rw [if_pos c12]
            exact hB
          · rw [if_neg c12]
            have r13 : 0 ≤ (mm_numberOf (zset μ 115 ((mm_keeps μ) 115)) a1) ∧ (mm_numberOf (zset μ 115 ((mm_keeps μ) 115)) a1) ≤ 1 := mr_numberOf (mb_keepsF hB) a1 (by omega)
            have r14 : 0 ≤ (mm_tenseOf (zset μ 115 ((mm_keeps μ) 115)) a1) ∧ (mm_tenseOf (zset μ 115 ((mm_keeps μ) 115)) a1) ≤ 2 := mr_tenseOf (mb_keepsF hB) a1 (by omega)
            exact (mb_ends (zup_ok (k := 114) (z := ((584 + (2 * a1)) + 1)) (v := a3) (zup_ok (k := 114) (z := (584 + (2 * a1))) (v := a2) (mb_keepsF hB) (show zOkR (584 + (2 * a1)) a2 from zOkR_of (by omega) ⟨by omega, by omega, by omega, by omega⟩)) (show zOkR ((584 + (2 * a1)) + 1) a3 from zOkR_of (by omega) ⟨by omega, by omega, by omega, by omega⟩)) ((3 * (mm_numberOf (zset μ 115 ((mm_keeps μ) 115)) a1)) + (mm_tenseOf (zset μ 115 ((mm_keeps μ) 115)) a1)))
        · rw [if_neg c8]
          have r9 : 0 ≤ (mm_numberOf (zset μ 115 ((mm_keeps μ) 115)) a1) ∧ (mm_numberOf (zset μ 115 ((mm_keeps μ) 115)) a1) ≤ 1 := mr_numberOf (mb_keepsF hB) a1 (by omega)
          have r10 : 0 ≤ (mm_tenseOf (zset μ 115 ((mm_keeps μ) 115)) a1) ∧ (mm_tenseOf (zset μ 115 ((mm_keeps μ) 115)) a1) ≤ 2 := mr_tenseOf (mb_keepsF hB) a1 (by omega)
          exact (mb_ends (zup_ok (k := 114) (z := ((584 + (2 * a1)) + 1)) (v := a3) (zup_ok (k := 114) (z := (584 + (2 * a1))) (v := a2) (mb_keepsF hB) (show zOkR (584 + (2 * a1)) a2 from zOkR_of (by omega) ⟨by omega, by omega, by omega, by omega⟩)) (show zOkR ((584 + (2 * a1)) + 1) a3 from zOkR_of (by omega) ⟨by omega, by omega, by omega, by omega⟩)) ((3 * (mm_numberOf (zset μ 115 ((mm_keeps μ) 115)) a1)) + (mm_tenseOf (zset μ 115 ((mm_keeps μ) 115)) a1)))
set_option maxHeartbeats 4000000 in
set_option maxRecDepth 100000 in
theorem mz_setTie {μ : zM} (hB : zB μ) (a1 a2 a3 : Int) (h0 : -2147483648 ≤ a1 ∧ a1 ≤ 2147483647) (h1 : -2147483648 ≤ a2 ∧ a2 ≤ 2147483647) (h2 : -2147483648 ≤ a3 ∧ a3 ≤ 2147483647) : Dz md_6_setTie [zr 113, zi a1, zi a2, zi a3] zSh μ (some (zi (mm_setTie μ a1 a2 a3).1)) zSh (mm_setTie μ a1 a2 a3).2 := by
  refine Dz.of (by decide) rfl rfl (show Ez md_6_setTie 0 0 0 [(0, zr 113), (1, zi a1), (2, zi a2), (3, zi a3)] [] zSh μ (some (zi (mm_setTie μ a1 a2 a3).1)) zSh (mm_setTie μ a1 a2 a3).2 from ?_)
  unfold mm_setTie
  refine Az.blk kd_6_setTie_0 (show Ez md_6_setTie 0 0 1 [(0, zr 113), (1, zi a1), (2, zi a2), (3, zi a3)] [zi a1] zSh μ _ _ _ from ?_)
  refine Az.cS (mc := md_6_isTie) (n := 1) (As := [zi a1]) (rest := []) kr_6_setTie_1 zw_690 ok_6_isTie rfl rfl (mz_isTie a1 (by omega)) rfl rfl (show Ez md_6_setTie 0 0 4 [(0, zr 113), (1, zi a1), (2, zi a2), (3, zi a3)] [zi (mm_isTie a1)] zSh μ _ _ _ from ?_)
  have r1 : 0 ≤ (mm_isTie a1) ∧ (mm_isTie a1) ≤ 1 ∧ ((mm_isTie a1) = 1 → 0 ≤ a1 ∧ a1 ≤ 9) ∧ ((mm_isTie a1) = 0 → a1 < 0 ∨ 9 < a1) := mr_isTie a1 (by omega)
  refine Az.blk kd_6_setTie_4 (show zR (mm_isTie a1) ∧ ((¬ (mm_isTie a1) = 0 → Ez md_6_setTie 0 0 9 [(0, zr 113), (1, zi a1), (2, zi a2), (3, zi a3)] [] zSh μ _ _ _) ∧ ((mm_isTie a1) = 0 → Ez md_6_setTie 0 0 7 [(0, zr 113), (1, zi a1), (2, zi a2), (3, zi a3)] [] zSh μ _ _ _)) from ⟨(by omega), fun c2 => ?_, fun c2 => ?_⟩)
  · rw [if_neg c2]
    refine Az.blk kd_6_setTie_9 (show zR a2 ∧ Ez md_6_setTie 0 0 13 [(0, zr 113), (1, zi a1), (2, zi a2), (3, zi a3)] [zl 1, zl 0, zl a2] zSh μ _ _ _ from ⟨(by omega), ?_⟩)
    refine Az.cS (mc := md_6_in) (n := 3) (As := [zl a2, zl 0, zl 1]) (rest := []) kr_6_setTie_13 zw_626 ok_6_in rfl rfl (mz_in a2 0 1 (by omega) (by omega) (by omega)) rfl rfl (show Ez md_6_setTie 0 0 16 [(0, zr 113), (1, zi a1), (2, zi a2), (3, zi a3)] [zi (mm_in a2 0 1)] zSh μ _ _ _ from ?_)
    have r3 : 0 ≤ (mm_in a2 0 1) ∧ (mm_in a2 0 1) ≤ 1 ∧ ((mm_in a2 0 1) = 1 → (0 : Int) ≤ a2 ∧ a2 ≤ (1 : Int)) ∧ ((mm_in a2 0 1) = 0 → a2 < (0 : Int) ∨ (1 : Int) < a2) := mr_in a2 0 1 (by omega) (by omega) (by omega)
    refine Az.blk kd_6_setTie_16 (show zR (mm_in a2 0 1) ∧ (((mm_in a2 0 1) = 0 → Ez md_6_setTie 0 0 31 [(0, zr 113), (1, zi a1), (2, zi a2), (3, zi a3)] [] zSh μ _ _ _) ∧ (¬ (mm_in a2 0 1) = 0 → Ez md_6_setTie 0 0 19 [(0, zr 113), (1, zi a1), (2, zi a2), (3, zi a3)] [] zSh μ _ _ _)) from ⟨(by omega), fun c4 => ?_, fun c4 => ?_⟩)
    · rw [if_pos c4]
      refine Az.blk kd_6_setTie_31 (show Ez md_6_setTie 0 0 33 [(0, zr 113), (1, zi a1), (2, zi a2), (3, zi a3)] [zi (-2)] zSh μ _ _ _ from ?_)
      exact Ez.iret kr_6_setTie_33 rfl (Nat.zero_le _) (Nat.zero_le _) rfl rfl
    · rw [if_neg c4]
      refine Az.blk kd_6_setTie_19 (show zR a3 ∧ Ez md_6_setTie 0 0 25 [(0, zr 113), (1, zi a1), (2, zi a2), (3, zi a3)] [zl 2, zl 0, zl a3] zSh μ _ _ _ from ⟨(by omega), ?_⟩)
      refine Az.cS (mc := md_6_in) (n := 3) (As := [zl a3, zl 0, zl 2]) (rest := []) kr_6_setTie_25 zw_626 ok_6_in rfl rfl (mz_in a3 0 2 (by omega) (by omega) (by omega)) rfl rfl (show Ez md_6_setTie 0 0 28 [(0, zr 113), (1, zi a1), (2, zi a2), (3, zi a3)] [zi (mm_in a3 0 2)] zSh μ _ _ _ from ?_)
      have r5 : 0 ≤ (mm_in a3 0 2) ∧ (mm_in a3 0 2) ≤ 1 ∧ ((mm_in a3 0 2) = 1 → (0 : Int) ≤ a3 ∧ a3 ≤ (2 : Int)) ∧ ((mm_in a3 0 2) = 0 → a3 < (0 : Int) ∨ (2 : Int) < a3) := mr_in a3 0 2 (by omega) (by omega) (by omega)
      refine Az.blk kd_6_setTie_28 (show zR (mm_in a3 0 2) ∧ ((¬ (mm_in a3 0 2) = 0 → Ez md_6_setTie 0 0 34 [(0, zr 113), (1, zi a1), (2, zi a2), (3, zi a3)] [] zSh μ _ _ _) ∧ ((mm_in a3 0 2) = 0 → Ez md_6_setTie 0 0 31 [(0, zr 113), (1, zi a1), (2, zi a2), (3, zi a3)] [] zSh μ _ _ _)) from ⟨(by omega), fun c6 => ?_, fun c6 => ?_⟩)
      · rw [if_neg c6]
        refine Az.blk kd_6_setTie_34 (show Ez md_6_setTie 0 0 36 [(0, zr 113), (1, zi a1), (2, zi a2), (3, zi a3)] [zi a1, zr 113] zSh μ _ _ _ from ?_)
        refine Az.cV (mc := md_6_numberOf) (k := 113) (n := 1) (As := [zi a1]) (rest := []) kr_6_setTie_36 zw_694 ok_6_numberOf rfl rfl rfl trivial (mz_numberOf hB a1 (by omega)) rfl rfl (show Ez md_6_setTie 0 0 39 [(0, zr 113), (1, zi a1), (2, zi a2), (3, zi a3)] [zi (mm_numberOf μ a1)] zSh μ _ _ _ from ?_)
        have r7 : 0 ≤ (mm_numberOf μ a1) ∧ (mm_numberOf μ a1) ≤ 1 := mr_numberOf hB a1 (by omega)
        refine Az.blk kd_6_setTie_39 (show zR (mm_numberOf μ a1) ∧ zR a2 ∧ ((¬ (mm_numberOf μ a1) = a2 → Ez md_6_setTie 0 0 55 [(0, zr 113), (1, zi a1), (2, zi a2), (3, zi a3)] [] zSh μ _ _ _) ∧ ((mm_numberOf μ a1) = a2 → Ez md_6_setTie 0 0 43 [(0, zr 113), (1, zi a1), (2, zi a2), (3, zi a3)] [] zSh μ _ _ _)) from ⟨(by omega), (by omega), fun c8 => ?_, fun c8 => ?_⟩)
        · rw [if_neg c8]
          refine Az.blk kd_6_setTie_55 (show Ez md_6_setTie 0 0 56 [(0, zr 113), (1, zi a1), (2, zi a2), (3, zi a3)] [zr 113] zSh μ _ _ _ from ?_)
          refine Az.cV (mc := md_6_keeps) (k := 113) (n := 0) (As := []) (rest := []) kr_6_setTie_56 zw_637 ok_6_keeps rfl rfl rfl trivial (mz_keepsF hB) rfl rfl (show Ez md_6_setTie 0 0 59 [(0, zr 113), (1, zi a1), (2, zi a2), (3, zi a3)] [] zSh (zset μ 115 ((mm_keeps μ) 115)) _ _ _ from ?_)
          refine Az.blk kd_6_setTie_59 (show Ez md_6_setTie 0 0 62 [(0, zr 113), (1, zi a1), (2, zi a2), (3, zi a3)] [zi a1, zr 113, zi 3] zSh (zset μ 115 ((mm_keeps μ) 115)) _ _ _ from ?_)
          refine Az.cV (mc := md_6_numberOf) (k := 113) (n := 1) (As := [zi a1]) (rest := [zi 3]) kr_6_setTie_62 zw_694 ok_6_numberOf rfl rfl rfl trivial (mz_numberOf (mb_keepsF hB) a1 (by omega)) rfl rfl (show Ez md_6_setTie 0 0 65 [(0, zr 113), (1, zi a1), (2, zi a2), (3, zi a3)] [zi (mm_numberOf (zset μ 115 ((mm_keeps μ) 115)) a1), zi 3] zSh (zset μ 115 ((mm_keeps μ) 115)) _ _ _ from ?_)
          have r9 : 0 ≤ (mm_numberOf (zset μ 115 ((mm_keeps μ) 115)) a1) ∧ (mm_numberOf (zset μ 115 ((mm_keeps μ) 115)) a1) ≤ 1 := mr_numberOf (mb_keepsF hB) a1 (by omega)
          refine Az.blk kd_6_setTie_65 (show Ez md_6_setTie 0 0 68 [(0, zr 113), (1, zi a1), (2, zi a2), (3, zi a3)] [zi a1, zr 113, zi (3 * (mm_numberOf (zset μ 115 ((mm_keeps μ) 115)) a1))] zSh (zset μ 115 ((mm_keeps μ) 115)) _ _ _ from ?_)
          refine Az.cV (mc := md_6_tenseOf) (k := 113) (n := 1) (As := [zi a1]) (rest := [zi (3 * (mm_numberOf (zset μ 115 ((mm_keeps μ) 115)) a1))]) kr_6_setTie_68 zw_698 ok_6_tenseOf rfl rfl rfl trivial (mz_tenseOf (mb_keepsF hB) a1 (by omega)) rfl rfl (show Ez md_6_setTie 0 0 71 [(0, zr 113), (1, zi a1), (2, zi a2), (3, zi a3)] [zi (mm_tenseOf (zset μ 115 ((mm_keeps μ) 115)) a1), zi (3 * (mm_numberOf (zset μ 115 ((mm_keeps μ) 115)) a1))] zSh (zset μ 115 ((mm_keeps μ) 115)) _ _ _ from ?_)
          have r10 : 0 ≤ (mm_tenseOf (zset μ 115 ((mm_keeps μ) 115)) a1) ∧ (mm_tenseOf (zset μ 115 ((mm_keeps μ) 115)) a1) ≤ 2 := mr_tenseOf (mb_keepsF hB) a1 (by omega)
          refine Az.blk kd_6_setTie_71 (show (0 ≤ (584 + (2 * a1)) ∧ (584 + (2 * a1)) < 604) ∧ (0 ≤ ((584 + (2 * a1)) + 1) ∧ ((584 + (2 * a1)) + 1) < 604) ∧ Ez md_6_setTie 0 0 105 [(4, zi ((3 * (mm_numberOf (zset μ 115 ((mm_keeps μ) 115)) a1)) + (mm_tenseOf (zset μ 115 ((mm_keeps μ) 115)) a1))), (0, zr 113), (1, zi a1), (2, zi a2), (3, zi a3)] [zi ((3 * (mm_numberOf (zset μ 115 ((mm_keeps μ) 115)) a1)) + (mm_tenseOf (zset μ 115 ((mm_keeps μ) 115)) a1)), zr 113] zSh (zup (zup (zset μ 115 ((mm_keeps μ) 115)) 114 (584 + (2 * a1)) a2) 114 ((584 + (2 * a1)) + 1) a3) _ _ _ from ⟨(by omega), (by omega), ?_⟩)
          refine Az.cV (mc := md_6_ends) (k := 113) (n := 1) (As := [zi ((3 * (mm_numberOf (zset μ 115 ((mm_keeps μ) 115)) a1)) + (mm_tenseOf (zset μ 115 ((mm_keeps μ) 115)) a1))]) (rest := []) kr_6_setTie_105 zw_641 ok_6_ends rfl rfl rfl trivial (mz_ends (zup_ok (k := 114) (z := ((584 + (2 * a1)) + 1)) (v := a3) (zup_ok (k := 114) (z := (584 + (2 * a1))) (v := a2) (mb_keepsF hB) (show zOkR (584 + (2 * a1)) a2 from zOkR_of (by omega) ⟨by omega, by omega, by omega, by omega⟩)) (show zOkR ((584 + (2 * a1)) + 1) a3 from zOkR_of (by omega) ⟨by omega, by omega, by omega, by omega⟩)) ((3 * (mm_numberOf (zset μ 115 ((mm_keeps μ) 115)) a1)) + (mm_tenseOf (zset μ 115 ((mm_keeps μ) 115)) a1))) rfl rfl (show Ez md_6_setTie 0 0 108 [(4, zi ((3 * (mm_numberOf (zset μ 115 ((mm_keeps μ) 115)) a1)) + (mm_tenseOf (zset μ 115 ((mm_keeps μ) 115)) a1))), (0, zr 113), (1, zi a1), (2, zi a2), (3, zi a3)] [zi (mm_ends (zup (zup (zset μ 115 ((mm_keeps μ) 115)) 114 (584 + (2 * a1)) a2) 114 ((584 + (2 * a1)) + 1) a3) ((3 * (mm_numberOf (zset μ 115 ((mm_keeps μ) 115)) a1)) + (mm_tenseOf (zset μ 115 ((mm_keeps μ) 115)) a1))).1] zSh (mm_ends (zup (zup (zset μ 115 ((mm_keeps μ) 115)) 114 (584 + (2 * a1)) a2) 114 ((584 + (2 * a1)) + 1) a3) ((3 * (mm_numberOf (zset μ 115 ((mm_keeps μ) 115)) a1)) + (mm_tenseOf (zset μ 115 ((mm_keeps μ) 115)) a1))).2 _ _ _ from ?_)
          exact Ez.iret kr_6_setTie_108 rfl (Nat.zero_le _) (Nat.zero_le _) rfl rfl
        · rw [if_pos c8]
          refine Az.blk kd_6_setTie_43 (show Ez md_6_setTie 0 0 45 [(0, zr 113), (1, zi a1), (2, zi a2), (3, zi a3)] [zi a1, zr 113] zSh μ _ _ _ from ?_)
          refine Az.cV (mc := md_6_tenseOf) (k := 113) (n := 1) (As := [zi a1]) (rest := []) kr_6_setTie_45 zw_698 ok_6_tenseOf rfl rfl rfl trivial (mz_tenseOf hB a1 (by omega)) rfl rfl (show Ez md_6_setTie 0 0 48 [(0, zr 113), (1, zi a1), (2, zi a2), (3, zi a3)] [zi (mm_tenseOf μ a1)] zSh μ _ _ _ from ?_)
          have r11 : 0 ≤ (mm_tenseOf μ a1) ∧ (mm_tenseOf μ a1) ≤ 2 := mr_tenseOf hB a1 (by omega)
          refine Az.blk kd_6_setTie_48 (show zR (mm_tenseOf μ a1) ∧ zR a3 ∧ ((¬ (mm_tenseOf μ a1) = a3 → Ez md_6_setTie 0 0 55 [(0, zr 113), (1, zi a1), (2, zi a2), (3, zi a3)] [] zSh μ _ _ _) ∧ ((mm_tenseOf μ a1) = a3 → Ez md_6_setTie 0 0 52 [(0, zr 113), (1, zi a1), (2, zi a2), (3, zi a3)] [] zSh μ _ _ _)) from ⟨(by omega), (by omega), fun c12 => ?_, fun c12 => ?_⟩)
          · rw [if_neg c12]
            refine Az.blk kd_6_setTie_55 (show Ez md_6_setTie 0 0 56 [(0, zr 113), (1, zi a1), (2, zi a2), (3, zi a3)] [zr 113] zSh μ _ _ _ from ?_)
            refine Az.cV (mc := md_6_keeps) (k := 113) (n := 0) (As := []) (rest := []) kr_6_setTie_56 zw_637 ok_6_keeps rfl rfl rfl trivial (mz_keepsF hB) rfl rfl (show Ez md_6_setTie 0 0 59 [(0, zr 113), (1, zi a1), (2, zi a2), (3, zi a3)] [] zSh (zset μ 115 ((mm_keeps μ) 115)) _ _ _ from ?_)
            refine Az.blk kd_6_setTie_59 (show Ez md_6_setTie 0 0 62 [(0, zr 113), (1, zi a1), (2, zi a2), (3, zi a3)] [zi a1, zr 113, zi 3] zSh (zset μ 115 ((mm_keeps μ) 115)) _ _ _ from ?_)
            refine Az.cV (mc := md_6_numberOf) (k := 113) (n := 1) (As := [zi a1]) (rest := [zi 3]) kr_6_setTie_62 zw_694 ok_6_numberOf rfl rfl rfl trivial (mz_numberOf (mb_keepsF hB) a1 (by omega)) rfl rfl (show Ez md_6_setTie 0 0 65 [(0, zr 113), (1, zi a1), (2, zi a2), (3, zi a3)] [zi (mm_numberOf (zset μ 115 ((mm_keeps μ) 115)) a1), zi 3] zSh (zset μ 115 ((mm_keeps μ) 115)) _ _ _ from ?_)
            have r13 : 0 ≤ (mm_numberOf (zset μ 115 ((mm_keeps μ) 115)) a1) ∧ (mm_numberOf (zset μ 115 ((mm_keeps μ) 115)) a1) ≤ 1 := mr_numberOf (mb_keepsF hB) a1 (by omega)
            refine Az.blk kd_6_setTie_65 (show Ez md_6_setTie 0 0 68 [(0, zr 113), (1, zi a1), (2, zi a2), (3, zi a3)] [zi a1, zr 113, zi (3 * (mm_numberOf (zset μ 115 ((mm_keeps μ) 115)) a1))] zSh (zset μ 115 ((mm_keeps μ) 115)) _ _ _ from ?_)
            refine Az.cV (mc := md_6_tenseOf) (k := 113) (n := 1) (As := [zi a1]) (rest := [zi (3 * (mm_numberOf (zset μ 115 ((mm_keeps μ) 115)) a1))]) kr_6_setTie_68 zw_698 ok_6_tenseOf rfl rfl rfl trivial (mz_tenseOf (mb_keepsF hB) a1 (by omega)) rfl rfl (show Ez md_6_setTie 0 0 71 [(0, zr 113), (1, zi a1), (2, zi a2), (3, zi a3)] [zi (mm_tenseOf (zset μ 115 ((mm_keeps μ) 115)) a1), zi (3 * (mm_numberOf (zset μ 115 ((mm_keeps μ) 115)) a1))] zSh (zset μ 115 ((mm_keeps μ) 115)) _ _ _ from ?_)
            have r14 : 0 ≤ (mm_tenseOf (zset μ 115 ((mm_keeps μ) 115)) a1) ∧ (mm_tenseOf (zset μ 115 ((mm_keeps μ) 115)) a1) ≤ 2 := mr_tenseOf (mb_keepsF hB) a1 (by omega)
            refine Az.blk kd_6_setTie_71 (show (0 ≤ (584 + (2 * a1)) ∧ (584 + (2 * a1)) < 604) ∧ (0 ≤ ((584 + (2 * a1)) + 1) ∧ ((584 + (2 * a1)) + 1) < 604) ∧ Ez md_6_setTie 0 0 105 [(4, zi ((3 * (mm_numberOf (zset μ 115 ((mm_keeps μ) 115)) a1)) + (mm_tenseOf (zset μ 115 ((mm_keeps μ) 115)) a1))), (0, zr 113), (1, zi a1), (2, zi a2), (3, zi a3)] [zi ((3 * (mm_numberOf (zset μ 115 ((mm_keeps μ) 115)) a1)) + (mm_tenseOf (zset μ 115 ((mm_keeps μ) 115)) a1)), zr 113] zSh (zup (zup (zset μ 115 ((mm_keeps μ) 115)) 114 (584 + (2 * a1)) a2) 114 ((584 + (2 * a1)) + 1) a3) _ _ _ from ⟨(by omega), (by omega), ?_⟩)
            refine Az.cV (mc := md_6_ends) (k := 113) (n := 1) (As := [zi ((3 * (mm_numberOf (zset μ 115 ((mm_keeps μ) 115)) a1)) + (mm_tenseOf (zset μ 115 ((mm_keeps μ) 115)) a1))]) (rest := []) kr_6_setTie_105 zw_641 ok_6_ends rfl rfl rfl trivial (mz_ends (zup_ok (k := 114) (z := ((584 + (2 * a1)) + 1)) (v := a3) (zup_ok (k := 114) (z := (584 + (2 * a1))) (v := a2) (mb_keepsF hB) (show zOkR (584 + (2 * a1)) a2 from zOkR_of (by omega) ⟨by omega, by omega, by omega, by omega⟩)) (show zOkR ((584 + (2 * a1)) + 1) a3 from zOkR_of (by omega) ⟨by omega, by omega, by omega, by omega⟩)) ((3 * (mm_numberOf (zset μ 115 ((mm_keeps μ) 115)) a1)) + (mm_tenseOf (zset μ 115 ((mm_keeps μ) 115)) a1))) rfl rfl (show Ez md_6_setTie 0 0 108 [(4, zi ((3 * (mm_numberOf (zset μ 115 ((mm_keeps μ) 115)) a1)) + (mm_tenseOf (zset μ 115 ((mm_keeps μ) 115)) a1))), (0, zr 113), (1, zi a1), (2, zi a2), (3, zi a3)] [zi (mm_ends (zup (zup (zset μ 115 ((mm_keeps μ) 115)) 114 (584 + (2 * a1)) a2) 114 ((584 + (2 * a1)) + 1) a3) ((3 * (mm_numberOf (zset μ 115 ((mm_keeps μ) 115)) a1)) + (mm_tenseOf (zset μ 115 ((mm_keeps μ) 115)) a1))).1] zSh (mm_ends (zup (zup (zset μ 115 ((mm_keeps μ) 115)) 114 (584 + (2 * a1)) a2) 114 ((584 + (2 * a1)) + 1) a3) ((3 * (mm_numberOf (zset μ 115 ((mm_keeps μ) 115)) a1)) + (mm_tenseOf (zset μ 115 ((mm_keeps μ) 115)) a1))).2 _ _ _ from ?_)
            exact Ez.iret kr_6_setTie_108 rfl (Nat.zero_le _) (Nat.zero_le _) rfl rfl
          · rw [if_pos c12]
            refine Az.blk kd_6_setTie_52 (show Ez md_6_setTie 0 0 54 [(0, zr 113), (1, zi a1), (2, zi a2), (3, zi a3)] [zi (-5)] zSh μ _ _ _ from ?_)
            exact Ez.iret kr_6_setTie_54 rfl (Nat.zero_le _) (Nat.zero_le _) rfl rfl
      · rw [if_pos c6]
        refine Az.blk kd_6_setTie_31 (show Ez md_6_setTie 0 0 33 [(0, zr 113), (1, zi a1), (2, zi a2), (3, zi a3)] [zi (-2)] zSh μ _ _ _ from ?_)
        exact Ez.iret kr_6_setTie_33 rfl (Nat.zero_le _) (Nat.zero_le _) rfl rfl
  · rw [if_pos c2]
    refine Az.blk kd_6_setTie_7 (show Ez md_6_setTie 0 0 8 [(0, zr 113), (1, zi a1), (2, zi a2), (3, zi a3)] [zi (-1)] zSh μ _ _ _ from ?_)
    exact Ez.iret kr_6_setTie_8 rfl (Nat.zero_le _) (Nat.zero_le _) rfl rfl
def kb_6_set_0 : List zI := [(.iload_n 1, 1, 0, 0), (.i2l, 1, 0, 0), (.lconst 0, 1, 0, 0), (.lconst 1, 1, 0, 0)]
theorem kd_6_set_0 : zdec md_6_set 0 kb_6_set_0 = true := by decide +kernel
theorem kr_6_set_4 : decode md_6_set.2.1 4 = .ok (.invokestatic 32, 3) := by decide +kernel
def kb_6_set_7 : List zI := [(.ifCond .ne 6, 3, 13, 0)]
theorem kd_6_set_7 : zdec md_6_set 7 kb_6_set_7 = true := by decide +kernel
def kb_6_set_13 : List zI := [(.aload_n 0, 1, 0, 0), (.getfield 7, 3, 6, 0), (.iconst 0, 1, 0, 0), (.iaload, 1, 0, 0), (.iload_n 1, 1, 0, 0), (.if_icmp .ne 6, 3, 26, 0)]
theorem kd_6_set_13 : zdec md_6_set 13 kb_6_set_13 = true := by decide +kernel
def kb_6_set_26 : List zI := [(.aload_n 0, 1, 0, 0)]
theorem kd_6_set_26 : zdec md_6_set 26 kb_6_set_26 = true := by decide +kernel
theorem kr_6_set_27 : decode md_6_set.2.1 27 = .ok (.invokevirtual 85, 3) := by decide +kernel
def kb_6_set_30 : List zI := [(.aload_n 0, 1, 0, 0), (.getfield 7, 3, 6, 0), (.iconst 0, 1, 0, 0), (.iload_n 1, 1, 0, 0), (.iastore, 1, 0, 0), (.aload_n 0, 1, 0, 0), (.iconst 1, 1, 0, 0), (.iload_n 1, 1, 0, 0), (.isub, 1, 0, 0)]
theorem kd_6_set_30 : zdec md_6_set 30 kb_6_set_30 = true := by decide +kernel
theorem kr_6_set_41 : decode md_6_set.2.1 41 = .ok (.invokevirtual 91, 3) := by decide +kernel
theorem kr_6_set_44 : decode md_6_set.2.1 44 = .ok (.ireturn, 1) := by decide +kernel
def kb_6_set_23 : List zI := [(.bipush (-5), 2, 0, 0)]
theorem kd_6_set_23 : zdec md_6_set 23 kb_6_set_23 = true := by decide +kernel
theorem kr_6_set_25 : decode md_6_set.2.1 25 = .ok (.ireturn, 1) := by decide +kernel
def kb_6_set_10 : List zI := [(.bipush (-2), 2, 0, 0)]
theorem kd_6_set_10 : zdec md_6_set 10 kb_6_set_10 = true := by decide +kernel
theorem kr_6_set_12 : decode md_6_set.2.1 12 = .ok (.ireturn, 1) := by decide +kernel
noncomputable def mm_set (μ : zM) (a1 : Int) : Int × zM := (if (mm_in a1 0 1) = 0 then ((-2), μ) else (if (μ 114 0) = a1 then ((-5), μ) else ((mm_ends (zup (zset μ 115 ((mm_keeps μ) 115)) 114 0 a1) (1 - a1)).1, (mm_ends (zup (zset μ 115 ((mm_keeps μ) 115)) 114 0 a1) (1 - a1)).2)))
set_option maxHeartbeats 4000000 in
set_option maxRecDepth 100000 in
theorem mb_set {μ : zM} (hB : zB μ) (a1 : Int) (h0 : -2147483648 ≤ a1 ∧ a1 ≤ 2147483647) : zB (mm_set μ a1).2 := by
  unfold mm_set
  have r1 : 0 ≤ (mm_in a1 0 1) ∧ (mm_in a1 0 1) ≤ 1 ∧ ((mm_in a1 0 1) = 1 → (0 : Int) ≤ a1 ∧ a1 ≤ (1 : Int)) ∧ ((mm_in a1 0 1) = 0 → a1 < (0 : Int) ∨ (1 : Int) < a1) := mr_in a1 0 1 (by omega) (by omega) (by omega)
  by_cases c2 : (mm_in a1 0 1) = 0
  · rw [if_pos c2]
    exact hB
  · rw [if_neg c2]
    have b3 : 0 ≤ (μ 114 0) ∧ (μ 114 0) ≤ 1 := hB 114 0
    by_cases c4 : (μ 114 0) = a1
    · rw [if_pos c4]
      exact hB
    · rw [if_neg c4]
      exact (mb_ends (zup_ok (k := 114) (z := 0) (v := a1) (mb_keepsF hB) (show 0 ≤ a1 ∧ a1 ≤ 1 from by omega)) (1 - a1))
set_option maxHeartbeats 4000000 in
set_option maxRecDepth 100000 in
theorem mz_set {μ : zM} (hB : zB μ) (a1 : Int) (h0 : -2147483648 ≤ a1 ∧ a1 ≤ 2147483647) : Dz md_6_set [zr 113, zi a1] zSh μ (some (zi (mm_set μ a1).1)) zSh (mm_set μ a1).2 := by
  refine Dz.of (by decide) rfl rfl (show Ez md_6_set 0 0 0 [(0, zr 113), (1, zi a1)] [] zSh μ (some (zi (mm_set μ a1).1)) zSh (mm_set μ a1).2 from ?_)
  unfold mm_set
  refine Az.blk kd_6_set_0 (show zR a1 ∧ Ez md_6_set 0 0 4 [(0, zr 113), (1, zi a1)] [zl 1, zl 0, zl a1] zSh μ _ _ _ from ⟨(by omega), ?_⟩)
  refine Az.cS (mc := md_6_in) (n := 3) (As := [zl a1, zl 0, zl 1]) (rest := []) kr_6_set_4 zw_626 ok_6_in rfl rfl (mz_in a1 0 1 (by omega) (by omega) (by omega)) rfl rfl (show Ez md_6_set 0 0 7 [(0, zr 113), (1, zi a1)] [zi (mm_in a1 0 1)] zSh μ _ _ _ from ?_)
  have r1 : 0 ≤ (mm_in a1 0 1) ∧ (mm_in a1 0 1) ≤ 1 ∧ ((mm_in a1 0 1) = 1 → (0 : Int) ≤ a1 ∧ a1 ≤ (1 : Int)) ∧ ((mm_in a1 0 1) = 0 → a1 < (0 : Int) ∨ (1 : Int) < a1) := mr_in a1 0 1 (by omega) (by omega) (by omega)
  refine Az.blk kd_6_set_7 (show zR (mm_in a1 0 1) ∧ ((¬ (mm_in a1 0 1) = 0 → Ez md_6_set 0 0 13 [(0, zr 113), (1, zi a1)] [] zSh μ _ _ _) ∧ ((mm_in a1 0 1) = 0 → Ez md_6_set 0 0 10 [(0, zr 113), (1, zi a1)] [] zSh μ _ _ _)) from ⟨(by omega), fun c2 => ?_, fun c2 => ?_⟩)
  · rw [if_neg c2]
    have b3 : 0 ≤ (μ 114 0) ∧ (μ 114 0) ≤ 1 := hB 114 0
    refine Az.blk kd_6_set_13 (show (0 ≤ 0 ∧ 0 < 604) ∧ zR (μ 114 0) ∧ zR a1 ∧ ((¬ (μ 114 0) = a1 → Ez md_6_set 0 0 26 [(0, zr 113), (1, zi a1)] [] zSh μ _ _ _) ∧ ((μ 114 0) = a1 → Ez md_6_set 0 0 23 [(0, zr 113), (1, zi a1)] [] zSh μ _ _ _)) from ⟨(by omega), (by omega), (by omega), fun c4 => ?_, fun c4 => ?_⟩)
    · rw [if_neg c4]
      refine Az.blk kd_6_set_26 (show Ez md_6_set 0 0 27 [(0, zr 113), (1, zi a1)] [zr 113] zSh μ _ _ _ from ?_)
      refine Az.cV (mc := md_6_keeps) (k := 113) (n := 0) (As := []) (rest := []) kr_6_set_27 zw_637 ok_6_keeps rfl rfl rfl trivial (mz_keepsF hB) rfl rfl (show Ez md_6_set 0 0 30 [(0, zr 113), (1, zi a1)] [] zSh (zset μ 115 ((mm_keeps μ) 115)) _ _ _ from ?_)
      refine Az.blk kd_6_set_30 (show (0 ≤ 0 ∧ 0 < 604) ∧ Ez md_6_set 0 0 41 [(0, zr 113), (1, zi a1)] [zi (1 - a1), zr 113] zSh (zup (zset μ 115 ((mm_keeps μ) 115)) 114 0 a1) _ _ _ from ⟨(by omega), ?_⟩)
      refine Az.cV (mc := md_6_ends) (k := 113) (n := 1) (As := [zi (1 - a1)]) (rest := []) kr_6_set_41 zw_641 ok_6_ends rfl rfl rfl trivial (mz_ends (zup_ok (k := 114) (z := 0) (v := a1) (mb_keepsF hB) (show 0 ≤ a1 ∧ a1 ≤ 1 from by omega)) (1 - a1)) rfl rfl (show Ez md_6_set 0 0 44 [(0, zr 113), (1, zi a1)] [zi (mm_ends (zup (zset μ 115 ((mm_keeps μ) 115)) 114 0 a1) (1 - a1)).1] zSh (mm_ends (zup (zset μ 115 ((mm_keeps μ) 115)) 114 0 a1) (1 - a1)).2 _ _ _ from ?_)
      exact Ez.iret kr_6_set_44 rfl (Nat.zero_le _) (Nat.zero_le _) rfl rfl
    · rw [if_pos c4]
      refine Az.blk kd_6_set_23 (show Ez md_6_set 0 0 25 [(0, zr 113), (1, zi a1)] [zi (-5)] zSh μ _ _ _ from ?_)
      exact Ez.iret kr_6_set_25 rfl (Nat.zero_le _) (Nat.zero_le _) rfl rfl
  · rw [if_pos c2]
    refine Az.blk kd_6_set_10 (show Ez md_6_set 0 0 12 [(0, zr 113), (1, zi a1)] [zi (-2)] zSh μ _ _ _ from ?_)
    exact Ez.iret kr_6_set_12 rfl (Nat.zero_le _) (Nat.zero_le _) rfl rfl
def kb_6_empty_0 : List zI := [(.aload_n 0, 1, 0, 0), (.iload_n 1, 1, 0, 0)]
theorem kd_6_empty_0 : zdec md_6_empty 0 kb_6_empty_0 = true := by decide +kernel
theorem kr_6_empty_2 : decode md_6_empty.2.1 2 = .ok (.invokevirtual 112, 3) := by decide +kernel
def kb_6_empty_5 : List zI := [(.ifCond .ne 5, 3, 10, 0)]
theorem kd_6_empty_5 : zdec md_6_empty 5 kb_6_empty_5 = true := by decide +kernel
def kb_6_empty_10 : List zI := [(.aload_n 0, 1, 0, 0), (.iload_n 1, 1, 0, 0)]
theorem kd_6_empty_10 : zdec md_6_empty 10 kb_6_empty_10 = true := by decide +kernel
theorem kr_6_empty_12 : decode md_6_empty.2.1 12 = .ok (.invokevirtual 55, 3) := by decide +kernel
def kb_6_empty_15 : List zI := [(.istore_n 2, 1, 0, 0), (.aload_n 0, 1, 0, 0), (.iload_n 2, 1, 0, 0), (.iconst 3, 1, 0, 0)]
theorem kd_6_empty_15 : zdec md_6_empty 15 kb_6_empty_15 = true := by decide +kernel
theorem kr_6_empty_19 : decode md_6_empty.2.1 19 = .ok (.invokevirtual 48, 3) := by decide +kernel
def kb_6_empty_22 : List zI := [(.istore_n 3, 1, 0, 0), (.iload_n 3, 1, 0, 0), (.bipush (-5), 2, 0, 0), (.if_icmp .ne 6, 3, 32, 0)]
theorem kd_6_empty_22 : zdec md_6_empty 22 kb_6_empty_22 = true := by decide +kernel
def kb_6_empty_32 : List zI := [(.aload_n 0, 1, 0, 0)]
theorem kd_6_empty_32 : zdec md_6_empty 32 kb_6_empty_32 = true := by decide +kernel
theorem kr_6_empty_33 : decode md_6_empty.2.1 33 = .ok (.invokevirtual 85, 3) := by decide +kernel
def kb_6_empty_36 : List zI := [(.aload_n 0, 1, 0, 0), (.iload_n 2, 1, 0, 0), (.bipush (-5), 2, 0, 0)]
theorem kd_6_empty_36 : zdec md_6_empty 36 kb_6_empty_36 = true := by decide +kernel
theorem kr_6_empty_40 : decode md_6_empty.2.1 40 = .ok (.invokevirtual 121, 3) := by decide +kernel
def kb_6_empty_43 : List zI := [(.aload_n 0, 1, 0, 0), (.iload_n 3, 1, 0, 0)]
theorem kd_6_empty_43 : zdec md_6_empty 43 kb_6_empty_43 = true := by decide +kernel
theorem kr_6_empty_45 : decode md_6_empty.2.1 45 = .ok (.invokevirtual 91, 3) := by decide +kernel
theorem kr_6_empty_48 : decode md_6_empty.2.1 48 = .ok (.ireturn, 1) := by decide +kernel
def kb_6_empty_29 : List zI := [(.bipush (-5), 2, 0, 0)]
theorem kd_6_empty_29 : zdec md_6_empty 29 kb_6_empty_29 = true := by decide +kernel
theorem kr_6_empty_31 : decode md_6_empty.2.1 31 = .ok (.ireturn, 1) := by decide +kernel
def kb_6_empty_8 : List zI := [(.iconst (-1), 1, 0, 0)]
theorem kd_6_empty_8 : zdec md_6_empty 8 kb_6_empty_8 = true := by decide +kernel
theorem kr_6_empty_9 : decode md_6_empty.2.1 9 = .ok (.ireturn, 1) := by decide +kernel
noncomputable def mm_empty (μ : zM) (a1 : Int) : Int × zM := (if (mm_isHole μ a1) = 0 then ((-1), μ) else (if (mm_ofItem μ (mm_itemOf μ a1) 3) = (-5) then ((-5), μ) else ((mm_ends (zset (zset μ 115 ((mm_keeps μ) 115)) 114 ((mm_lays (zset μ 115 ((mm_keeps μ) 115)) (mm_itemOf μ a1) (-5)) 114)) (mm_ofItem μ (mm_itemOf μ a1) 3)).1, (mm_ends (zset (zset μ 115 ((mm_keeps μ) 115)) 114 ((mm_lays (zset μ 115 ((mm_keeps μ) 115)) (mm_itemOf μ a1) (-5)) 114)) (mm_ofItem μ (mm_itemOf μ a1) 3)).2)))
set_option maxHeartbeats 4000000 in
set_option maxRecDepth 100000 in
theorem mb_empty {μ : zM} (hB : zB μ) (a1 : Int) (h0 : -2147483648 ≤ a1 ∧ a1 ≤ 2147483647) : zB (mm_empty μ a1).2 := by
  unfold mm_empty
  have r1 : 0 ≤ (mm_isHole μ a1) ∧ (mm_isHole μ a1) ≤ 1 ∧ ((mm_isHole μ a1) = 1 → 0 ≤ a1 ∧ 0 ≤ (mm_itemOf μ a1)) := mr_isHole hB a1 (by omega)
  by_cases c2 : (mm_isHole μ a1) = 0
  · rw [if_pos c2]
    exact hB
  · rw [if_neg c2]
    have r3 : ((mm_itemOf μ a1) = -5 ∨ (0 ≤ (mm_itemOf μ a1) ∧ (mm_itemOf μ a1) < μ 114 3)) ∧ (mm_itemOf μ a1) ≤ 19 := mr_itemOf hB a1 (by omega)
    have r4 : -5 ≤ (mm_ofItem μ (mm_itemOf μ a1) 3) ∧ (mm_ofItem μ (mm_itemOf μ a1) 3) ≤ 26 ∧ ((3 : Int) = 0 → 0 ≤ (mm_ofItem μ (mm_itemOf μ a1) 3) ∧ (mm_ofItem μ (mm_itemOf μ a1) 3) ≤ 1) ∧ ((3 : Int) = 1 → 0 ≤ (mm_ofItem μ (mm_itemOf μ a1) 3) ∧ (mm_ofItem μ (mm_itemOf μ a1) 3) ≤ 10) ∧ ((3 : Int) = 2 → 0 ≤ (mm_ofItem μ (mm_itemOf μ a1) 3) ∧ (mm_ofItem μ (mm_itemOf μ a1) 3) ≤ 9) ∧ ((3 : Int) = 3 → (mm_ofItem μ (mm_itemOf μ a1) 3) = -5 ∨ (0 ≤ (mm_ofItem μ (mm_itemOf μ a1) 3) ∧ (mm_ofItem μ (mm_itemOf μ a1) 3) ≤ 23)) ∧ (3 < (3 : Int) → 0 ≤ (mm_ofItem μ (mm_itemOf μ a1) 3)) := mr_ofItem hB (mm_itemOf μ a1) 3 (by omega) (by omega)
    by_cases c5 : (mm_ofItem μ (mm_itemOf μ a1) 3) = (-5)
    · rw [if_pos c5]
      exact hB
    · rw [if_neg c5]
      exact (mb_ends (mb_laysF (mb_keepsF hB) (mm_itemOf μ a1) (-5) (by omega) (by omega)) (mm_ofItem μ (mm_itemOf μ a1) 3))
set_option maxHeartbeats 4000000 in
set_option maxRecDepth 100000 in
theorem mz_empty {μ : zM} (hB : zB μ) (a1 : Int) (h0 : -2147483648 ≤ a1 ∧ a1 ≤ 2147483647) : Dz md_6_empty [zr 113, zi a1] zSh μ (some (zi (mm_empty μ a1).1)) zSh (mm_empty μ a1).2 := by
  refine Dz.of (by decide) rfl rfl (show Ez md_6_empty 0 0 0 [(0, zr 113), (1, zi a1)] [] zSh μ (some (zi (mm_empty μ a1).1)) zSh (mm_empty μ a1).2 from ?_)
  unfold mm_empty
  refine Az.blk kd_6_empty_0 (show Ez md_6_empty 0 0 2 [(0, zr 113), (1, zi a1)] [zi a1, zr 113] zSh μ _ _ _ from ?_)
  refine Az.cV (mc := md_6_isHole) (k := 113) (n := 1) (As := [zi a1]) (rest := []) kr_6_empty_2 zw_706 ok_6_isHole rfl rfl rfl trivial (mz_isHole hB a1 (by omega)) rfl rfl (show Ez md_6_empty 0 0 5 [(0, zr 113), (1, zi a1)] [zi (mm_isHole μ a1)] zSh μ _ _ _ from ?_)
  have r1 : 0 ≤ (mm_isHole μ a1) ∧ (mm_isHole μ a1) ≤ 1 ∧ ((mm_isHole μ a1) = 1 → 0 ≤ a1 ∧ 0 ≤ (mm_itemOf μ a1)) := mr_isHole hB a1 (by omega)
  refine Az.blk kd_6_empty_5 (show zR (mm_isHole μ a1) ∧ ((¬ (mm_isHole μ a1) = 0 → Ez md_6_empty 0 0 10 [(0, zr 113), (1, zi a1)] [] zSh μ _ _ _) ∧ ((mm_isHole μ a1) = 0 → Ez md_6_empty 0 0 8 [(0, zr 113), (1, zi a1)] [] zSh μ _ _ _)) from ⟨(by omega), fun c2 => ?_, fun c2 => ?_⟩)
  · rw [if_neg c2]
    refine Az.blk kd_6_empty_10 (show Ez md_6_empty 0 0 12 [(0, zr 113), (1, zi a1)] [zi a1, zr 113] zSh μ _ _ _ from ?_)
    refine Az.cV (mc := md_6_itemOf) (k := 113) (n := 1) (As := [zi a1]) (rest := []) kr_6_empty_12 zw_710 ok_6_itemOf rfl rfl rfl trivial (mz_itemOf hB a1 (by omega)) rfl rfl (show Ez md_6_empty 0 0 15 [(0, zr 113), (1, zi a1)] [zi (mm_itemOf μ a1)] zSh μ _ _ _ from ?_)
    have r3 : ((mm_itemOf μ a1) = -5 ∨ (0 ≤ (mm_itemOf μ a1) ∧ (mm_itemOf μ a1) < μ 114 3)) ∧ (mm_itemOf μ a1) ≤ 19 := mr_itemOf hB a1 (by omega)
    refine Az.blk kd_6_empty_15 (show Ez md_6_empty 0 0 19 [(2, zi (mm_itemOf μ a1)), (0, zr 113), (1, zi a1)] [zi 3, zi (mm_itemOf μ a1), zr 113] zSh μ _ _ _ from ?_)
    refine Az.cV (mc := md_6_ofItem) (k := 113) (n := 2) (As := [zi (mm_itemOf μ a1), zi 3]) (rest := []) kr_6_empty_19 zw_682 ok_6_ofItem rfl rfl rfl trivial (mz_ofItem hB (mm_itemOf μ a1) 3 (by omega) (by omega)) rfl rfl (show Ez md_6_empty 0 0 22 [(2, zi (mm_itemOf μ a1)), (0, zr 113), (1, zi a1)] [zi (mm_ofItem μ (mm_itemOf μ a1) 3)] zSh μ _ _ _ from ?_)
    have r4 : -5 ≤ (mm_ofItem μ (mm_itemOf μ a1) 3) ∧ (mm_ofItem μ (mm_itemOf μ a1) 3) ≤ 26 ∧ ((3 : Int) = 0 → 0 ≤ (mm_ofItem μ (mm_itemOf μ a1) 3) ∧ (mm_ofItem μ (mm_itemOf μ a1) 3) ≤ 1) ∧ ((3 : Int) = 1 → 0 ≤ (mm_ofItem μ (mm_itemOf μ a1) 3) ∧ (mm_ofItem μ (mm_itemOf μ a1) 3) ≤ 10) ∧ ((3 : Int) = 2 → 0 ≤ (mm_ofItem μ (mm_itemOf μ a1) 3) ∧ (mm_ofItem μ (mm_itemOf μ a1) 3) ≤ 9) ∧ ((3 : Int) = 3 → (mm_ofItem μ (mm_itemOf μ a1) 3) = -5 ∨ (0 ≤ (mm_ofItem μ (mm_itemOf μ a1) 3) ∧ (mm_ofItem μ (mm_itemOf μ a1) 3) ≤ 23)) ∧ (3 < (3 : Int) → 0 ≤ (mm_ofItem μ (mm_itemOf μ a1) 3)) := mr_ofItem hB (mm_itemOf μ a1) 3 (by omega) (by omega)
    refine Az.blk kd_6_empty_22 (show zR (mm_ofItem μ (mm_itemOf μ a1) 3) ∧ zR (-5) ∧ ((¬ (mm_ofItem μ (mm_itemOf μ a1) 3) = (-5) → Ez md_6_empty 0 0 32 [(3, zi (mm_ofItem μ (mm_itemOf μ a1) 3)), (2, zi (mm_itemOf μ a1)), (0, zr 113), (1, zi a1)] [] zSh μ _ _ _) ∧ ((mm_ofItem μ (mm_itemOf μ a1) 3) = (-5) → Ez md_6_empty 0 0 29 [(3, zi (mm_ofItem μ (mm_itemOf μ a1) 3)), (2, zi (mm_itemOf μ a1)), (0, zr 113), (1, zi a1)] [] zSh μ _ _ _)) from ⟨(by omega), (by omega), fun c5 => ?_, fun c5 => ?_⟩)
    · rw [if_neg c5]
      refine Az.blk kd_6_empty_32 (show Ez md_6_empty 0 0 33 [(3, zi (mm_ofItem μ (mm_itemOf μ a1) 3)), (2, zi (mm_itemOf μ a1)), (0, zr 113), (1, zi a1)] [zr 113] zSh μ _ _ _ from ?_)
      refine Az.cV (mc := md_6_keeps) (k := 113) (n := 0) (As := []) (rest := []) kr_6_empty_33 zw_637 ok_6_keeps rfl rfl rfl trivial (mz_keepsF hB) rfl rfl (show Ez md_6_empty 0 0 36 [(3, zi (mm_ofItem μ (mm_itemOf μ a1) 3)), (2, zi (mm_itemOf μ a1)), (0, zr 113), (1, zi a1)] [] zSh (zset μ 115 ((mm_keeps μ) 115)) _ _ _ from ?_)
      refine Az.blk kd_6_empty_36 (show Ez md_6_empty 0 0 40 [(3, zi (mm_ofItem μ (mm_itemOf μ a1) 3)), (2, zi (mm_itemOf μ a1)), (0, zr 113), (1, zi a1)] [zi (-5), zi (mm_itemOf μ a1), zr 113] zSh (zset μ 115 ((mm_keeps μ) 115)) _ _ _ from ?_)
      refine Az.cV (mc := md_6_lays) (k := 113) (n := 2) (As := [zi (mm_itemOf μ a1), zi (-5)]) (rest := []) kr_6_empty_40 zw_734 ok_6_lays rfl rfl rfl trivial (mz_laysF (mb_keepsF hB) (mm_itemOf μ a1) (-5) (by omega) (by omega)) rfl rfl (show Ez md_6_empty 0 0 43 [(3, zi (mm_ofItem μ (mm_itemOf μ a1) 3)), (2, zi (mm_itemOf μ a1)), (0, zr 113), (1, zi a1)] [] zSh (zset (zset μ 115 ((mm_keeps μ) 115)) 114 ((mm_lays (zset μ 115 ((mm_keeps μ) 115)) (mm_itemOf μ a1) (-5)) 114)) _ _ _ from ?_)
      refine Az.blk kd_6_empty_43 (show Ez md_6_empty 0 0 45 [(3, zi (mm_ofItem μ (mm_itemOf μ a1) 3)), (2, zi (mm_itemOf μ a1)), (0, zr 113), (1, zi a1)] [zi (mm_ofItem μ (mm_itemOf μ a1) 3), zr 113] zSh (zset (zset μ 115 ((mm_keeps μ) 115)) 114 ((mm_lays (zset μ 115 ((mm_keeps μ) 115)) (mm_itemOf μ a1) (-5)) 114)) _ _ _ from ?_)
      refine Az.cV (mc := md_6_ends) (k := 113) (n := 1) (As := [zi (mm_ofItem μ (mm_itemOf μ a1) 3)]) (rest := []) kr_6_empty_45 zw_641 ok_6_ends rfl rfl rfl trivial (mz_ends (mb_laysF (mb_keepsF hB) (mm_itemOf μ a1) (-5) (by omega) (by omega)) (mm_ofItem μ (mm_itemOf μ a1) 3)) rfl rfl (show Ez md_6_empty 0 0 48 [(3, zi (mm_ofItem μ (mm_itemOf μ a1) 3)), (2, zi (mm_itemOf μ a1)), (0, zr 113), (1, zi a1)] [zi (mm_ends (zset (zset μ 115 ((mm_keeps μ) 115)) 114 ((mm_lays (zset μ 115 ((mm_keeps μ) 115)) (mm_itemOf μ a1) (-5)) 114)) (mm_ofItem μ (mm_itemOf μ a1) 3)).1] zSh (mm_ends (zset (zset μ 115 ((mm_keeps μ) 115)) 114 ((mm_lays (zset μ 115 ((mm_keeps μ) 115)) (mm_itemOf μ a1) (-5)) 114)) (mm_ofItem μ (mm_itemOf μ a1) 3)).2 _ _ _ from ?_)
      exact Ez.iret kr_6_empty_48 rfl (Nat.zero_le _) (Nat.zero_le _) rfl rfl
    · rw [if_pos c5]
      refine Az.blk kd_6_empty_29 (show Ez md_6_empty 0 0 31 [(3, zi (mm_ofItem μ (mm_itemOf μ a1) 3)), (2, zi (mm_itemOf μ a1)), (0, zr 113), (1, zi a1)] [zi (-5)] zSh μ _ _ _ from ?_)
      exact Ez.iret kr_6_empty_31 rfl (Nat.zero_le _) (Nat.zero_le _) rfl rfl
  · rw [if_pos c2]
    refine Az.blk kd_6_empty_8 (show Ez md_6_empty 0 0 9 [(0, zr 113), (1, zi a1)] [zi (-1)] zSh μ _ _ _ from ?_)
    exact Ez.iret kr_6_empty_9 rfl (Nat.zero_le _) (Nat.zero_le _) rfl rfl
def kb_6_fill_0 : List zI := [(.aload_n 0, 1, 0, 0), (.iload_n 1, 1, 0, 0)]
theorem kd_6_fill_0 : zdec md_6_fill 0 kb_6_fill_0 = true := by decide +kernel
theorem kr_6_fill_2 : decode md_6_fill.2.1 2 = .ok (.invokevirtual 112, 3) := by decide +kernel
def kb_6_fill_5 : List zI := [(.ifCond .eq 11, 3, 16, 0)]
theorem kd_6_fill_5 : zdec md_6_fill 5 kb_6_fill_5 = true := by decide +kernel
def kb_6_fill_16 : List zI := [(.iconst (-1), 1, 0, 0)]
theorem kd_6_fill_16 : zdec md_6_fill 16 kb_6_fill_16 = true := by decide +kernel
theorem kr_6_fill_17 : decode md_6_fill.2.1 17 = .ok (.ireturn, 1) := by decide +kernel
def kb_6_fill_8 : List zI := [(.aload_n 0, 1, 0, 0), (.iload_n 2, 1, 0, 0)]
theorem kd_6_fill_8 : zdec md_6_fill 8 kb_6_fill_8 = true := by decide +kernel
theorem kr_6_fill_10 : decode md_6_fill.2.1 10 = .ok (.invokevirtual 115, 3) := by decide +kernel
def kb_6_fill_13 : List zI := [(.ifCond .ne 5, 3, 18, 0)]
theorem kd_6_fill_13 : zdec md_6_fill 13 kb_6_fill_13 = true := by decide +kernel
def kb_6_fill_18 : List zI := [(.aload_n 0, 1, 0, 0), (.iload_n 1, 1, 0, 0)]
theorem kd_6_fill_18 : zdec md_6_fill 18 kb_6_fill_18 = true := by decide +kernel
theorem kr_6_fill_20 : decode md_6_fill.2.1 20 = .ok (.invokevirtual 55, 3) := by decide +kernel
def kb_6_fill_23 : List zI := [(.istore_n 3, 1, 0, 0), (.aload_n 0, 1, 0, 0), (.iload_n 3, 1, 0, 0), (.iload_n 2, 1, 0, 0)]
theorem kd_6_fill_23 : zdec md_6_fill 23 kb_6_fill_23 = true := by decide +kernel
theorem kr_6_fill_27 : decode md_6_fill.2.1 27 = .ok (.invokevirtual 118, 3) := by decide +kernel
def kb_6_fill_30 : List zI := [(.istore 4, 2, 0, 0), (.iload 4, 2, 0, 0), (.ifCond .eq 9, 3, 43, 0)]
theorem kd_6_fill_30 : zdec md_6_fill 30 kb_6_fill_30 = true := by decide +kernel
def kb_6_fill_43 : List zI := [(.aload_n 0, 1, 0, 0)]
theorem kd_6_fill_43 : zdec md_6_fill 43 kb_6_fill_43 = true := by decide +kernel
theorem kr_6_fill_44 : decode md_6_fill.2.1 44 = .ok (.invokevirtual 85, 3) := by decide +kernel
def kb_6_fill_47 : List zI := [(.aload_n 0, 1, 0, 0), (.iload_n 3, 1, 0, 0), (.iconst 3, 1, 0, 0)]
theorem kd_6_fill_47 : zdec md_6_fill 47 kb_6_fill_47 = true := by decide +kernel
theorem kr_6_fill_50 : decode md_6_fill.2.1 50 = .ok (.invokevirtual 48, 3) := by decide +kernel
def kb_6_fill_53 : List zI := [(.istore 5, 2, 0, 0), (.aload_n 0, 1, 0, 0), (.iload_n 3, 1, 0, 0), (.iload_n 2, 1, 0, 0)]
theorem kd_6_fill_53 : zdec md_6_fill 53 kb_6_fill_53 = true := by decide +kernel
theorem kr_6_fill_58 : decode md_6_fill.2.1 58 = .ok (.invokevirtual 121, 3) := by decide +kernel
def kb_6_fill_61 : List zI := [(.aload_n 0, 1, 0, 0), (.getfield 7, 3, 6, 0), (.iconst 1, 1, 0, 0), (.dup2, 1, 0, 0), (.iaload, 1, 0, 0), (.iconst 1, 1, 0, 0), (.iadd, 1, 0, 0), (.iastore, 1, 0, 0), (.aload_n 0, 1, 0, 0), (.iload 5, 2, 0, 0), (.bipush (-5), 2, 0, 0), (.if_icmp .ne 8, 3, 84, 0)]
theorem kd_6_fill_61 : zdec md_6_fill 61 kb_6_fill_61 = true := by decide +kernel
def kb_6_fill_84 : List zI := [(.iload 5, 2, 0, 0)]
theorem kd_6_fill_84 : zdec md_6_fill 84 kb_6_fill_84 = true := by decide +kernel
theorem kr_6_fill_86 : decode md_6_fill.2.1 86 = .ok (.invokevirtual 91, 3) := by decide +kernel
theorem kr_6_fill_89 : decode md_6_fill.2.1 89 = .ok (.ireturn, 1) := by decide +kernel
def kb_6_fill_79 : List zI := [(.bipush 100, 2, 0, 0), (.goto 5, 3, 86, 0)]
theorem kd_6_fill_79 : zdec md_6_fill 79 kb_6_fill_79 = true := by decide +kernel
def kb_6_fill_37 : List zI := [(.bipush (-10), 2, 0, 0), (.iload 4, 2, 0, 0), (.isub, 1, 0, 0)]
theorem kd_6_fill_37 : zdec md_6_fill 37 kb_6_fill_37 = true := by decide +kernel
theorem kr_6_fill_42 : decode md_6_fill.2.1 42 = .ok (.ireturn, 1) := by decide +kernel
noncomputable def mm_fill (μ : zM) (a1 a2 : Int) : Int × zM := (if (mm_isHole μ a1) = 0 then ((-1), μ) else (if (mm_isWord μ a2) = 0 then ((-1), μ) else (if (mm_why μ (mm_itemOf μ a1) a2) = 0 then (if (mm_ofItem (zset μ 115 ((mm_keeps μ) 115)) (mm_itemOf μ a1) 3) = (-5) then ((mm_ends (zup (zset (zset μ 115 ((mm_keeps μ) 115)) 114 ((mm_lays (zset μ 115 ((mm_keeps μ) 115)) (mm_itemOf μ a1) a2) 114)) 114 1 (((zset (zset μ 115 ((mm_keeps μ) 115)) 114 ((mm_lays (zset μ 115 ((mm_keeps μ) 115)) (mm_itemOf μ a1) a2) 114)) 114 1) + 1)) 100).1, (mm_ends (zup (zset (zset μ 115 ((mm_keeps μ) 115)) 114 ((mm_lays (zset μ 115 ((mm_keeps μ) 115)) (mm_itemOf μ a1) a2) 114)) 114 1 (((zset (zset μ 115 ((mm_keeps μ) 115)) 114 ((mm_lays (zset μ 115 ((mm_keeps μ) 115)) (mm_itemOf μ a1) a2) 114)) 114 1) + 1)) 100).2) else ((mm_ends (zup (zset (zset μ 115 ((mm_keeps μ) 115)) 114 ((mm_lays (zset μ 115 ((mm_keeps μ) 115)) (mm_itemOf μ a1) a2) 114)) 114 1 (((zset (zset μ 115 ((mm_keeps μ) 115)) 114 ((mm_lays (zset μ 115 ((mm_keeps μ) 115)) (mm_itemOf μ a1) a2) 114)) 114 1) + 1)) (mm_ofItem (zset μ 115 ((mm_keeps μ) 115)) (mm_itemOf μ a1) 3)).1, (mm_ends (zup (zset (zset μ 115 ((mm_keeps μ) 115)) 114 ((mm_lays (zset μ 115 ((mm_keeps μ) 115)) (mm_itemOf μ a1) a2) 114)) 114 1 (((zset (zset μ 115 ((mm_keeps μ) 115)) 114 ((mm_lays (zset μ 115 ((mm_keeps μ) 115)) (mm_itemOf μ a1) a2) 114)) 114 1) + 1)) (mm_ofItem (zset μ 115 ((mm_keeps μ) 115)) (mm_itemOf μ a1) 3)).2)) else (((-10) - (mm_why μ (mm_itemOf μ a1) a2)), μ))))
set_option maxHeartbeats 4000000 in
set_option maxRecDepth 100000 in
theorem mb_fill {μ : zM} (hB : zB μ) (a1 a2 : Int) (h0 : -2147483648 ≤ a1 ∧ a1 ≤ 2147483647) (h1 : -2147483648 ≤ a2 ∧ a2 ≤ 2147483647) : zB (mm_fill μ a1 a2).2 := by
  unfold mm_fill
  have r1 : 0 ≤ (mm_isHole μ a1) ∧ (mm_isHole μ a1) ≤ 1 ∧ ((mm_isHole μ a1) = 1 → 0 ≤ a1 ∧ 0 ≤ (mm_itemOf μ a1)) := mr_isHole hB a1 (by omega)
  by_cases c2 : (mm_isHole μ a1) = 0
  · rw [if_pos c2]
    exact hB
  · rw [if_neg c2]
    have r3 : 0 ≤ (mm_isWord μ a2) ∧ (mm_isWord μ a2) ≤ 1 ∧ ((mm_isWord μ a2) = 1 → 0 ≤ a2 ∧ a2 < μ 114 2 ∧ a2 ≤ 23) ∧ ((mm_isWord μ a2) = 0 → a2 < 0 ∨ μ 114 2 ≤ a2) := mr_isWord hB a2 (by omega)
    by_cases c4 : (mm_isWord μ a2) = 0
    · rw [if_pos c4]
      exact hB
    · rw [if_neg c4]
      have r5 : ((mm_itemOf μ a1) = -5 ∨ (0 ≤ (mm_itemOf μ a1) ∧ (mm_itemOf μ a1) < μ 114 3)) ∧ (mm_itemOf μ a1) ≤ 19 := mr_itemOf hB a1 (by omega)
      have r6 : 0 ≤ (mm_why μ (mm_itemOf μ a1) a2) ∧ (mm_why μ (mm_itemOf μ a1) a2) ≤ 3 := mr_why hB (mm_itemOf μ a1) a2 (by omega) (by omega)
      by_cases c7 : (mm_why μ (mm_itemOf μ a1) a2) = 0
      · rw [if_pos c7]
        have r8 : -5 ≤ (mm_ofItem (zset μ 115 ((mm_keeps μ) 115)) (mm_itemOf μ a1) 3) ∧ (mm_ofItem (zset μ 115 ((mm_keeps μ) 115)) (mm_itemOf μ a1) 3) ≤ 26 ∧ ((3 : Int) = 0 → 0 ≤ (mm_ofItem (zset μ 115 ((mm_keeps μ) 115)) (mm_itemOf μ a1) 3) ∧ (mm_ofItem (zset μ 115 ((mm_keeps μ) 115)) (mm_itemOf μ a1) 3) ≤ 1) ∧ ((3 : Int) = 1 → 0 ≤ (mm_ofItem (zset μ 115 ((mm_keeps μ) 115)) (mm_itemOf μ a1) 3) ∧ (mm_ofItem (zset μ 115 ((mm_keeps μ) 115)) (mm_itemOf μ a1) 3) ≤ 10) ∧ ((3 : Int) = 2 → 0 ≤ (mm_ofItem (zset μ 115 ((mm_keeps μ) 115)) (mm_itemOf μ a1) 3) ∧ (mm_ofItem (zset μ 115 ((mm_keeps μ) 115)) (mm_itemOf μ a1) 3) ≤ 9) ∧ ((3 : Int) = 3 → (mm_ofItem (zset μ 115 ((mm_keeps μ) 115)) (mm_itemOf μ a1) 3) = -5 ∨ (0 ≤ (mm_ofItem (zset μ 115 ((mm_keeps μ) 115)) (mm_itemOf μ a1) 3) ∧ (mm_ofItem (zset μ 115 ((mm_keeps μ) 115)) (mm_itemOf μ a1) 3) ≤ 23)) ∧ (3 < (3 : Int) → 0 ≤ (mm_ofItem (zset μ 115 ((mm_keeps μ) 115)) (mm_itemOf μ a1) 3)) := mr_ofItem (mb_keepsF hB) (mm_itemOf μ a1) 3 (by omega) (by omega)
        by_cases c9 : (mm_ofItem (zset μ 115 ((mm_keeps μ) 115)) (mm_itemOf μ a1) 3) = (-5)
        · rw [if_pos c9]
          exact (mb_ends (zup_ok (k := 114) (z := 1) (v := (((zset (zset μ 115 ((mm_keeps μ) 115)) 114 ((mm_lays (zset μ 115 ((mm_keeps μ) 115)) (mm_itemOf μ a1) a2) 114)) 114 1) + 1)) (mb_laysF (mb_keepsF hB) (mm_itemOf μ a1) a2 (by omega) (by omega)) trivial) 100)
        · rw [if_neg c9]
          exact (mb_ends (zup_ok (k := 114) (z := 1) (v := (((zset (zset μ 115 ((mm_keeps μ) 115)) 114 ((mm_lays (zset μ 115 ((mm_keeps μ) 115)) (mm_itemOf μ a1) a2) 114)) 114 1) + 1)) (mb_laysF (mb_keepsF hB) (mm_itemOf μ a1) a2 (by omega) (by omega)) trivial) (mm_ofItem (zset μ 115 ((mm_keeps μ) 115)) (mm_itemOf μ a1) 3))
      · rw [if_neg c7]
        exact hB
set_option maxHeartbeats 4000000 in
set_option maxRecDepth 100000 in
theorem mz_fill {μ : zM} (hB : zB μ) (a1 a2 : Int) (h0 : -2147483648 ≤ a1 ∧ a1 ≤ 2147483647) (h1 : -2147483648 ≤ a2 ∧ a2 ≤ 2147483647) : Dz md_6_fill [zr 113, zi a1, zi a2] zSh μ (some (zi (mm_fill μ a1 a2).1)) zSh (mm_fill μ a1 a2).2 := by
  refine Dz.of (by decide) rfl rfl (show Ez md_6_fill 0 0 0 [(0, zr 113), (1, zi a1), (2, zi a2)] [] zSh μ (some (zi (mm_fill μ a1 a2).1)) zSh (mm_fill μ a1 a2).2 from ?_)
  unfold mm_fill
  refine Az.blk kd_6_fill_0 (show Ez md_6_fill 0 0 2 [(0, zr 113), (1, zi a1), (2, zi a2)] [zi a1, zr 113] zSh μ _ _ _ from ?_)
  refine Az.cV (mc := md_6_isHole) (k := 113) (n := 1) (As := [zi a1]) (rest := []) kr_6_fill_2 zw_706 ok_6_isHole rfl rfl rfl trivial (mz_isHole hB a1 (by omega)) rfl rfl (show Ez md_6_fill 0 0 5 [(0, zr 113), (1, zi a1), (2, zi a2)] [zi (mm_isHole μ a1)] zSh μ _ _ _ from ?_)
  have r1 : 0 ≤ (mm_isHole μ a1) ∧ (mm_isHole μ a1) ≤ 1 ∧ ((mm_isHole μ a1) = 1 → 0 ≤ a1 ∧ 0 ≤ (mm_itemOf μ a1)) := mr_isHole hB a1 (by omega)
  refine Az.blk kd_6_fill_5 (show zR (mm_isHole μ a1) ∧ (((mm_isHole μ a1) = 0 → Ez md_6_fill 0 0 16 [(0, zr 113), (1, zi a1), (2, zi a2)] [] zSh μ _ _ _) ∧ (¬ (mm_isHole μ a1) = 0 → Ez md_6_fill 0 0 8 [(0, zr 113), (1, zi a1), (2, zi a2)] [] zSh μ _ _ _)) from ⟨(by omega), fun c2 => ?_, fun c2 => ?_⟩)
  · rw [if_pos c2]
    refine Az.blk kd_6_fill_16 (show Ez md_6_fill 0 0 17 [(0, zr 113), (1, zi a1), (2, zi a2)] [zi (-1)] zSh μ _ _ _ from ?_)
    exact Ez.iret kr_6_fill_17 rfl (Nat.zero_le _) (Nat.zero_le _) rfl rfl
  · rw [if_neg c2]
    refine Az.blk kd_6_fill_8 (show Ez md_6_fill 0 0 10 [(0, zr 113), (1, zi a1), (2, zi a2)] [zi a2, zr 113] zSh μ _ _ _ from ?_)
    refine Az.cV (mc := md_6_isWord) (k := 113) (n := 1) (As := [zi a2]) (rest := []) kr_6_fill_10 zw_714 ok_6_isWord rfl rfl rfl trivial (mz_isWord hB a2 (by omega)) rfl rfl (show Ez md_6_fill 0 0 13 [(0, zr 113), (1, zi a1), (2, zi a2)] [zi (mm_isWord μ a2)] zSh μ _ _ _ from ?_)
    have r3 : 0 ≤ (mm_isWord μ a2) ∧ (mm_isWord μ a2) ≤ 1 ∧ ((mm_isWord μ a2) = 1 → 0 ≤ a2 ∧ a2 < μ 114 2 ∧ a2 ≤ 23) ∧ ((mm_isWord μ a2) = 0 → a2 < 0 ∨ μ 114 2 ≤ a2) := mr_isWord hB a2 (by omega)
    refine Az.blk kd_6_fill_13 (show zR (mm_isWord μ a2) ∧ ((¬ (mm_isWord μ a2) = 0 → Ez md_6_fill 0 0 18 [(0, zr 113), (1, zi a1), (2, zi a2)] [] zSh μ _ _ _) ∧ ((mm_isWord μ a2) = 0 → Ez md_6_fill 0 0 16 [(0, zr 113), (1, zi a1), (2, zi a2)] [] zSh μ _ _ _)) from ⟨(by omega), fun c4 => ?_, fun c4 => ?_⟩)
    · rw [if_neg c4]
      refine Az.blk kd_6_fill_18 (show Ez md_6_fill 0 0 20 [(0, zr 113), (1, zi a1), (2, zi a2)] [zi a1, zr 113] zSh μ _ _ _ from ?_)
      refine Az.cV (mc := md_6_itemOf) (k := 113) (n := 1) (As := [zi a1]) (rest := []) kr_6_fill_20 zw_710 ok_6_itemOf rfl rfl rfl trivial (mz_itemOf hB a1 (by omega)) rfl rfl (show Ez md_6_fill 0 0 23 [(0, zr 113), (1, zi a1), (2, zi a2)] [zi (mm_itemOf μ a1)] zSh μ _ _ _ from ?_)
      have r5 : ((mm_itemOf μ a1) = -5 ∨ (0 ≤ (mm_itemOf μ a1) ∧ (mm_itemOf μ a1) < μ 114 3)) ∧ (mm_itemOf μ a1) ≤ 19 := mr_itemOf hB a1 (by omega)
      refine Az.blk kd_6_fill_23 (show Ez md_6_fill 0 0 27 [(3, zi (mm_itemOf μ a1)), (0, zr 113), (1, zi a1), (2, zi a2)] [zi a2, zi (mm_itemOf μ a1), zr 113] zSh μ _ _ _ from ?_)
      refine Az.cV (mc := md_6_why) (k := 113) (n := 2) (As := [zi (mm_itemOf μ a1), zi a2]) (rest := []) kr_6_fill_27 zw_718 ok_6_why rfl rfl rfl trivial (mz_why hB (mm_itemOf μ a1) a2 (by omega) (by omega)) rfl rfl (show Ez md_6_fill 0 0 30 [(3, zi (mm_itemOf μ a1)), (0, zr 113), (1, zi a1), (2, zi a2)] [zi (mm_why μ (mm_itemOf μ a1) a2)] zSh μ _ _ _ from ?_)
      have r6 : 0 ≤ (mm_why μ (mm_itemOf μ a1) a2) ∧ (mm_why μ (mm_itemOf μ a1) a2) ≤ 3 := mr_why hB (mm_itemOf μ a1) a2 (by omega) (by omega)
      refine Az.blk kd_6_fill_30 (show zR (mm_why μ (mm_itemOf μ a1) a2) ∧ (((mm_why μ (mm_itemOf μ a1) a2) = 0 → Ez md_6_fill 0 0 43 [(4, zi (mm_why μ (mm_itemOf μ a1) a2)), (3, zi (mm_itemOf μ a1)), (0, zr 113), (1, zi a1), (2, zi a2)] [] zSh μ _ _ _) ∧ (¬ (mm_why μ (mm_itemOf μ a1) a2) = 0 → Ez md_6_fill 0 0 37 [(4, zi (mm_why μ (mm_itemOf μ a1) a2)), (3, zi (mm_itemOf μ a1)), (0, zr 113), (1, zi a1), (2, zi a2)] [] zSh μ _ _ _)) from ⟨(by omega), fun c7 => ?_, fun c7 => ?_⟩)
      · rw [if_pos c7]
        refine Az.blk kd_6_fill_43 (show Ez md_6_fill 0 0 44 [(4, zi (mm_why μ (mm_itemOf μ a1) a2)), (3, zi (mm_itemOf μ a1)), (0, zr 113), (1, zi a1), (2, zi a2)] [zr 113] zSh μ _ _ _ from ?_)
        refine Az.cV (mc := md_6_keeps) (k := 113) (n := 0) (As := []) (rest := []) kr_6_fill_44 zw_637 ok_6_keeps rfl rfl rfl trivial (mz_keepsF hB) rfl rfl (show Ez md_6_fill 0 0 47 [(4, zi (mm_why μ (mm_itemOf μ a1) a2)), (3, zi (mm_itemOf μ a1)), (0, zr 113), (1, zi a1), (2, zi a2)] [] zSh (zset μ 115 ((mm_keeps μ) 115)) _ _ _ from ?_)
        refine Az.blk kd_6_fill_47 (show Ez md_6_fill 0 0 50 [(4, zi (mm_why μ (mm_itemOf μ a1) a2)), (3, zi (mm_itemOf μ a1)), (0, zr 113), (1, zi a1), (2, zi a2)] [zi 3, zi (mm_itemOf μ a1), zr 113] zSh (zset μ 115 ((mm_keeps μ) 115)) _ _ _ from ?_)
        refine Az.cV (mc := md_6_ofItem) (k := 113) (n := 2) (As := [zi (mm_itemOf μ a1), zi 3]) (rest := []) kr_6_fill_50 zw_682 ok_6_ofItem rfl rfl rfl trivial (mz_ofItem (mb_keepsF hB) (mm_itemOf μ a1) 3 (by omega) (by omega)) rfl rfl (show Ez md_6_fill 0 0 53 [(4, zi (mm_why μ (mm_itemOf μ a1) a2)), (3, zi (mm_itemOf μ a1)), (0, zr 113), (1, zi a1), (2, zi a2)] [zi (mm_ofItem (zset μ 115 ((mm_keeps μ) 115)) (mm_itemOf μ a1) 3)] zSh (zset μ 115 ((mm_keeps μ) 115)) _ _ _ from ?_)
        have r8 : -5 ≤ (mm_ofItem (zset μ 115 ((mm_keeps μ) 115)) (mm_itemOf μ a1) 3) ∧ (mm_ofItem (zset μ 115 ((mm_keeps μ) 115)) (mm_itemOf μ a1) 3) ≤ 26 ∧ ((3 : Int) = 0 → 0 ≤ (mm_ofItem (zset μ 115 ((mm_keeps μ) 115)) (mm_itemOf μ a1) 3) ∧ (mm_ofItem (zset μ 115 ((mm_keeps μ) 115)) (mm_itemOf μ a1) 3) ≤ 1) ∧ ((3 : Int) = 1 → 0 ≤ (mm_ofItem (zset μ 115 ((mm_keeps μ) 115)) (mm_itemOf μ a1) 3) ∧ (mm_ofItem (zset μ 115 ((mm_keeps μ) 115)) (mm_itemOf μ a1) 3) ≤ 10) ∧ ((3 : Int) = 2 → 0 ≤ (mm_ofItem (zset μ 115 ((mm_keeps μ) 115)) (mm_itemOf μ a1) 3) ∧ (mm_ofItem (zset μ 115 ((mm_keeps μ) 115)) (mm_itemOf μ a1) 3) ≤ 9) ∧ ((3 : Int) = 3 → (mm_ofItem (zset μ 115 ((mm_keeps μ) 115)) (mm_itemOf μ a1) 3) = -5 ∨ (0 ≤ (mm_ofItem (zset μ 115 ((mm_keeps μ) 115)) (mm_itemOf μ a1) 3) ∧ (mm_ofItem (zset μ 115 ((mm_keeps μ) 115)) (mm_itemOf μ a1) 3) ≤ 23)) ∧ (3 < (3 : Int) → 0 ≤ (mm_ofItem (zset μ 115 ((mm_keeps μ) 115)) (mm_itemOf μ a1) 3)) := mr_ofItem (mb_keepsF hB) (mm_itemOf μ a1) 3 (by omega) (by omega)
        refine Az.blk kd_6_fill_53 (show Ez md_6_fill 0 0 58 [(5, zi (mm_ofItem (zset μ 115 ((mm_keeps μ) 115)) (mm_itemOf μ a1) 3)), (4, zi (mm_why μ (mm_itemOf μ a1) a2)), (3, zi (mm_itemOf μ a1)), (0, zr 113), (1, zi a1), (2, zi a2)] [zi a2, zi (mm_itemOf μ a1), zr 113] zSh (zset μ 115 ((mm_keeps μ) 115)) _ _ _ from ?_)
        refine Az.cV (mc := md_6_lays) (k := 113) (n := 2) (As := [zi (mm_itemOf μ a1), zi a2]) (rest := []) kr_6_fill_58 zw_734 ok_6_lays rfl rfl rfl trivial (mz_laysF (mb_keepsF hB) (mm_itemOf μ a1) a2 (by omega) (by omega)) rfl rfl (show Ez md_6_fill 0 0 61 [(5, zi (mm_ofItem (zset μ 115 ((mm_keeps μ) 115)) (mm_itemOf μ a1) 3)), (4, zi (mm_why μ (mm_itemOf μ a1) a2)), (3, zi (mm_itemOf μ a1)), (0, zr 113), (1, zi a1), (2, zi a2)] [] zSh (zset (zset μ 115 ((mm_keeps μ) 115)) 114 ((mm_lays (zset μ 115 ((mm_keeps μ) 115)) (mm_itemOf μ a1) a2) 114)) _ _ _ from ?_)
        refine Az.blk kd_6_fill_61 (show (0 ≤ 1 ∧ 1 < 604) ∧ (0 ≤ 1 ∧ 1 < 604) ∧ zR (mm_ofItem (zset μ 115 ((mm_keeps μ) 115)) (mm_itemOf μ a1) 3) ∧ zR (-5) ∧ ((¬ (mm_ofItem (zset μ 115 ((mm_keeps μ) 115)) (mm_itemOf μ a1) 3) = (-5) → Ez md_6_fill 0 0 84 [(5, zi (mm_ofItem (zset μ 115 ((mm_keeps μ) 115)) (mm_itemOf μ a1) 3)), (4, zi (mm_why μ (mm_itemOf μ a1) a2)), (3, zi (mm_itemOf μ a1)), (0, zr 113), (1, zi a1), (2, zi a2)] [zr 113] zSh (zup (zset (zset μ 115 ((mm_keeps μ) 115)) 114 ((mm_lays (zset μ 115 ((mm_keeps μ) 115)) (mm_itemOf μ a1) a2) 114)) 114 1 (((zset (zset μ 115 ((mm_keeps μ) 115)) 114 ((mm_lays (zset μ 115 ((mm_keeps μ) 115)) (mm_itemOf μ a1) a2) 114)) 114 1) + 1)) _ _ _) ∧ ((mm_ofItem (zset μ 115 ((mm_keeps μ) 115)) (mm_itemOf μ a1) 3) = (-5) → Ez md_6_fill 0 0 79 [(5, zi (mm_ofItem (zset μ 115 ((mm_keeps μ) 115)) (mm_itemOf μ a1) 3)), (4, zi (mm_why μ (mm_itemOf μ a1) a2)), (3, zi (mm_itemOf μ a1)), (0, zr 113), (1, zi a1), (2, zi a2)] [zr 113] zSh (zup (zset (zset μ 115 ((mm_keeps μ) 115)) 114 ((mm_lays (zset μ 115 ((mm_keeps μ) 115)) (mm_itemOf μ a1) a2) 114)) 114 1 (((zset (zset μ 115 ((mm_keeps μ) 115)) 114 ((mm_lays (zset μ 115 ((mm_keeps μ) 115)) (mm_itemOf μ a1) a2) 114)) 114 1) + 1)) _ _ _)) from ⟨(by omega), (by omega), (by omega), (by omega), fun c9 => ?_, fun c9 => ?_⟩)
        · rw [if_neg c9]
          refine Az.blk kd_6_fill_84 (show Ez md_6_fill 0 0 86 [(5, zi (mm_ofItem (zset μ 115 ((mm_keeps μ) 115)) (mm_itemOf μ a1) 3)), (4, zi (mm_why μ (mm_itemOf μ a1) a2)), (3, zi (mm_itemOf μ a1)), (0, zr 113), (1, zi a1), (2, zi a2)] [zi (mm_ofItem (zset μ 115 ((mm_keeps μ) 115)) (mm_itemOf μ a1) 3), zr 113] zSh (zup (zset (zset μ 115 ((mm_keeps μ) 115)) 114 ((mm_lays (zset μ 115 ((mm_keeps μ) 115)) (mm_itemOf μ a1) a2) 114)) 114 1 (((zset (zset μ 115 ((mm_keeps μ) 115)) 114 ((mm_lays (zset μ 115 ((mm_keeps μ) 115)) (mm_itemOf μ a1) a2) 114)) 114 1) + 1)) _ _ _ from ?_)
          refine Az.cV (mc := md_6_ends) (k := 113) (n := 1) (As := [zi (mm_ofItem (zset μ 115 ((mm_keeps μ) 115)) (mm_itemOf μ a1) 3)]) (rest := []) kr_6_fill_86 zw_641 ok_6_ends rfl rfl rfl trivial (mz_ends (zup_ok (k := 114) (z := 1) (v := (((zset (zset μ 115 ((mm_keeps μ) 115)) 114 ((mm_lays (zset μ 115 ((mm_keeps μ) 115)) (mm_itemOf μ a1) a2) 114)) 114 1) + 1)) (mb_laysF (mb_keepsF hB) (mm_itemOf μ a1) a2 (by omega) (by omega)) trivial) (mm_ofItem (zset μ 115 ((mm_keeps μ) 115)) (mm_itemOf μ a1) 3)) rfl rfl (show Ez md_6_fill 0 0 89 [(5, zi (mm_ofItem (zset μ 115 ((mm_keeps μ) 115)) (mm_itemOf μ a1) 3)), (4, zi (mm_why μ (mm_itemOf μ a1) a2)), (3, zi (mm_itemOf μ a1)), (0, zr 113), (1, zi a1), (2, zi a2)] [zi (mm_ends (zup (zset (zset μ 115 ((mm_keeps μ) 115)) 114 ((mm_lays (zset μ 115 ((mm_keeps μ) 115)) (mm_itemOf μ a1) a2) 114)) 114 1 (((zset (zset μ 115 ((mm_keeps μ) 115)) 114 ((mm_lays (zset μ 115 ((mm_keeps μ) 115)) (mm_itemOf μ a1) a2) 114)) 114 1) + 1)) (mm_ofItem (zset μ 115 ((mm_keeps μ) 115)) (mm_itemOf μ a1) 3)).1] zSh (mm_ends (zup (zset (zset μ 115 ((mm_keeps μ) 115)) 114 ((mm_lays (zset μ 115 ((mm_keeps μ) 115)) (mm_itemOf μ a1) a2) 114)) 114 1 (((zset (zset μ 115 ((mm_keeps μ) 115)) 114 ((mm_lays (zset μ 115 ((mm_keeps μ) 115)) (mm_itemOf μ a1) a2) 114)) 114 1) + 1)) (mm_ofItem (zset μ 115 ((mm_keeps μ) 115)) (mm_itemOf μ a1) 3)).2 _ _ _ from ?_)
          exact Ez.iret kr_6_fill_89 rfl (Nat.zero_le _) (Nat.zero_le _) rfl rfl
        · rw [if_pos c9]
          refine Az.blk kd_6_fill_79 (show Ez md_6_fill 0 0 86 [(5, zi (mm_ofItem (zset μ 115 ((mm_keeps μ) 115)) (mm_itemOf μ a1) 3)), (4, zi (mm_why μ (mm_itemOf μ a1) a2)), (3, zi (mm_itemOf μ a1)), (0, zr 113), (1, zi a1), (2, zi a2)] [zi 100, zr 113] zSh (zup (zset (zset μ 115 ((mm_keeps μ) 115)) 114 ((mm_lays (zset μ 115 ((mm_keeps μ) 115)) (mm_itemOf μ a1) a2) 114)) 114 1 (((zset (zset μ 115 ((mm_keeps μ) 115)) 114 ((mm_lays (zset μ 115 ((mm_keeps μ) 115)) (mm_itemOf μ a1) a2) 114)) 114 1) + 1)) _ _ _ from ?_)
          refine Az.cV (mc := md_6_ends) (k := 113) (n := 1) (As := [zi 100]) (rest := []) kr_6_fill_86 zw_641 ok_6_ends rfl rfl rfl trivial (mz_ends (zup_ok (k := 114) (z := 1) (v := (((zset (zset μ 115 ((mm_keeps μ) 115)) 114 ((mm_lays (zset μ 115 ((mm_keeps μ) 115)) (mm_itemOf μ a1) a2) 114)) 114 1) + 1)) (mb_laysF (mb_keepsF hB) (mm_itemOf μ a1) a2 (by omega) (by omega)) trivial) 100) rfl rfl (show Ez md_6_fill 0 0 89 [(5, zi (mm_ofItem (zset μ 115 ((mm_keeps μ) 115)) (mm_itemOf μ a1) 3)), (4, zi (mm_why μ (mm_itemOf μ a1) a2)), (3, zi (mm_itemOf μ a1)), (0, zr 113), (1, zi a1), (2, zi a2)] [zi (mm_ends (zup (zset (zset μ 115 ((mm_keeps μ) 115)) 114 ((mm_lays (zset μ 115 ((mm_keeps μ) 115)) (mm_itemOf μ a1) a2) 114)) 114 1 (((zset (zset μ 115 ((mm_keeps μ) 115)) 114 ((mm_lays (zset μ 115 ((mm_keeps μ) 115)) (mm_itemOf μ a1) a2) 114)) 114 1) + 1)) 100).1] zSh (mm_ends (zup (zset (zset μ 115 ((mm_keeps μ) 115)) 114 ((mm_lays (zset μ 115 ((mm_keeps μ) 115)) (mm_itemOf μ a1) a2) 114)) 114 1 (((zset (zset μ 115 ((mm_keeps μ) 115)) 114 ((mm_lays (zset μ 115 ((mm_keeps μ) 115)) (mm_itemOf μ a1) a2) 114)) 114 1) + 1)) 100).2 _ _ _ from ?_)
          exact Ez.iret kr_6_fill_89 rfl (Nat.zero_le _) (Nat.zero_le _) rfl rfl
      · rw [if_neg c7]
        refine Az.blk kd_6_fill_37 (show Ez md_6_fill 0 0 42 [(4, zi (mm_why μ (mm_itemOf μ a1) a2)), (3, zi (mm_itemOf μ a1)), (0, zr 113), (1, zi a1), (2, zi a2)] [zi ((-10) - (mm_why μ (mm_itemOf μ a1) a2))] zSh μ _ _ _ from ?_)
        exact Ez.iret kr_6_fill_42 rfl (Nat.zero_le _) (Nat.zero_le _) rfl rfl
    · rw [if_pos c4]
      refine Az.blk kd_6_fill_16 (show Ez md_6_fill 0 0 17 [(0, zr 113), (1, zi a1), (2, zi a2)] [zi (-1)] zSh μ _ _ _ from ?_)
      exact Ez.iret kr_6_fill_17 rfl (Nat.zero_le _) (Nat.zero_le _) rfl rfl
def kb_6_undo_0 : List zI := [(.aload_n 0, 1, 0, 0), (.getfield 28, 3, 6, 3), (.ifCond .ne 6, 3, 10, 0)]
theorem kd_6_undo_0 : zdec md_6_undo 0 kb_6_undo_0 = true := by decide +kernel
def kb_6_undo_10 : List zI := [(.aload_n 0, 1, 0, 0), (.dup, 1, 0, 0), (.getfield 28, 3, 6, 3), (.iconst 1, 1, 0, 0), (.isub, 1, 0, 0), (.putfield 28, 3, 6, 3), (.iconst 0, 1, 0, 0), (.istore_n 1, 1, 0, 0)]
theorem kd_6_undo_10 : zdec md_6_undo 10 kb_6_undo_10 = true := by decide +kernel
def kb_6_undo_7 : List zI := [(.bipush (-5), 2, 0, 0)]
theorem kd_6_undo_7 : zdec md_6_undo 7 kb_6_undo_7 = true := by decide +kernel
theorem kr_6_undo_9 : decode md_6_undo.2.1 9 = .ok (.ireturn, 1) := by decide +kernel
def kb_6_undo_22 : List zI := [(.iload_n 1, 1, 0, 0), (.sipush 604, 3, 0, 0), (.if_icmp .ge 30, 3, 56, 0)]
theorem kd_6_undo_22 : zdec md_6_undo 22 kb_6_undo_22 = true := by decide +kernel
def kb_6_undo_56 : List zI := [(.aload_n 0, 1, 0, 0), (.getfield 28, 3, 6, 3)]
theorem kd_6_undo_56 : zdec md_6_undo 56 kb_6_undo_56 = true := by decide +kernel
theorem kr_6_undo_60 : decode md_6_undo.2.1 60 = .ok (.ireturn, 1) := by decide +kernel
def kb_6_undo_29 : List zI := [(.aload_n 0, 1, 0, 0), (.getfield 7, 3, 6, 0), (.iload_n 1, 1, 0, 0), (.aload_n 0, 1, 0, 0), (.getfield 16, 3, 6, 2), (.sipush 604, 3, 0, 0), (.aload_n 0, 1, 0, 0), (.getfield 28, 3, 6, 3), (.imul, 1, 0, 0), (.iload_n 1, 1, 0, 0), (.iadd, 1, 0, 0), (.iaload, 1, 0, 0), (.iastore, 1, 0, 0), (.iinc 1 1, 3, 0, 0), (.goto (-31), 3, 22, 0)]
theorem kd_6_undo_29 : zdec md_6_undo 29 kb_6_undo_29 = true := by decide +kernel
noncomputable def mm_undo_22 : Nat → zM → Int → Int × zM
  | 0, μ, _ => (0, μ)
  | f + 1, μ, l1 => (if l1 < 604 then (mm_undo_22 f (zup μ 114 l1 (μ 116 ((604 * (μ 113 3)) + l1))) (l1 + 1)) else ((μ 113 3), μ))
noncomputable def mm_undo (μ : zM) : Int × zM := (if (μ 113 3) = 0 then ((-5), μ) else (mm_undo_22 zN (zup μ 113 3 ((μ 113 3) - 1)) 0))
set_option maxHeartbeats 4000000 in
set_option maxRecDepth 100000 in
theorem mb_undo_22 (f : Nat) (μ : zM) (hB : zB μ) (l1 : Int) (i0 : 0 ≤ l1 ∧ l1 ≤ 604) (i1 : (μ 113 3) ≤ 3) (hf : 604 - l1 < (f : Int)) : zB (mm_undo_22 f μ l1).2 := by
  induction f generalizing μ l1 with
  | zero => exfalso; omega
  | succ f ih =>
    replace hf : 604 - l1 < (f : Int) + 1 := by omega
    rw [mm_undo_22]
    by_cases c4 : l1 < 604
    · rw [if_pos c4]
      have b6 : 0 ≤ (μ 113 3) ∧ (μ 113 3) ≤ 4 := hB 113 3
      have b7 : 0 ≤ (μ 113 3) ∧ (μ 113 3) ≤ 4 := hB 113 3
      exact ih ((zup μ 114 l1 (μ 116 ((604 * (μ 113 3)) + l1)))) (zup_ok (k := 114) (z := l1) (v := (μ 116 ((604 * (μ 113 3)) + l1))) hB (zrow_h hB _ l1 (by omega))) (l1 + 1) (by omega) (show (μ 113 3) ≤ 3 from by omega) (by omega)
    · rw [if_neg c4]
      have b5 : 0 ≤ (μ 113 3) ∧ (μ 113 3) ≤ 4 := hB 113 3
      exact hB
set_option maxHeartbeats 4000000 in
set_option maxRecDepth 100000 in
theorem mb_undo {μ : zM} (hB : zB μ)  : zB (mm_undo μ).2 := by
  unfold mm_undo
  have b1 : 0 ≤ (μ 113 3) ∧ (μ 113 3) ≤ 4 := hB 113 3
  by_cases c2 : (μ 113 3) = 0
  · rw [if_pos c2]
    exact hB
  · rw [if_neg c2]
    have b3 : 0 ≤ (μ 113 3) ∧ (μ 113 3) ≤ 4 := hB 113 3
    have fb : (3000 : Int) ≤ ((zN : Nat) : Int) := zN_big
    exact mb_undo_22 zN ((zup μ 113 3 ((μ 113 3) - 1))) (zup_ok (k := 113) (z := 3) (v := ((μ 113 3) - 1)) hB (show 0 ≤ ((μ 113 3) - 1) ∧ ((μ 113 3) - 1) ≤ 4 from by omega)) 0 (by omega) (show ((μ 113 3) - 1) ≤ 3 from by omega) (by omega)
set_option maxHeartbeats 4000000 in
set_option maxRecDepth 100000 in
theorem mz_undo_22 (f : Nat) (μ : zM) (hB : zB μ) (l1 : Int) (i0 : 0 ≤ l1 ∧ l1 ≤ 604) (i1 : (μ 113 3) ≤ 3) (hf : 604 - l1 < (f : Int)) : Ez md_6_undo 0 0 22 [(0, zr 113), (1, zi l1)] [] zSh μ (some (zi (mm_undo_22 f μ l1).1)) zSh (mm_undo_22 f μ l1).2 := by
  induction f generalizing μ l1 with
  | zero => exfalso; omega
  | succ f ih =>
    replace hf : 604 - l1 < (f : Int) + 1 := by omega
    rw [mm_undo_22]
    refine Az.blk kd_6_undo_22 (show zR l1 ∧ zR 604 ∧ ((¬ l1 < 604 → Ez md_6_undo 0 0 56 [(0, zr 113), (1, zi l1)] [] zSh μ _ _ _) ∧ (l1 < 604 → Ez md_6_undo 0 0 29 [(0, zr 113), (1, zi l1)] [] zSh μ _ _ _)) from ⟨(by omega), (by omega), fun c4 => ?_, fun c4 => ?_⟩)
    · rw [if_neg c4]
      have b5 : 0 ≤ (μ 113 3) ∧ (μ 113 3) ≤ 4 := hB 113 3
      refine Az.blk kd_6_undo_56 (show Ez md_6_undo 0 0 60 [(0, zr 113), (1, zi l1)] [zi (μ 113 3)] zSh μ _ _ _ from ?_)
      exact Ez.iret kr_6_undo_60 rfl (Nat.zero_le _) (Nat.zero_le _) rfl rfl
    · rw [if_pos c4]
      have b6 : 0 ≤ (μ 113 3) ∧ (μ 113 3) ≤ 4 := hB 113 3
      refine Az.blk kd_6_undo_29 (show (0 ≤ ((604 * (μ 113 3)) + l1) ∧ ((604 * (μ 113 3)) + l1) < 2416) ∧ (0 ≤ l1 ∧ l1 < 604) ∧ Ez md_6_undo 0 0 22 [(1, zi (l1 + 1)), (0, zr 113)] [] zSh (zup μ 114 l1 (μ 116 ((604 * (μ 113 3)) + l1))) _ _ _ from ⟨(by omega), (by omega), ?_⟩)
      have b7 : 0 ≤ (μ 113 3) ∧ (μ 113 3) ≤ 4 := hB 113 3
      refine Az.lvs (lv' := [(0, zr 113), (1, zi (l1 + 1))]) ?_ ?_
      · intro q hq; simp only [List.mem_cons, List.not_mem_nil, or_false] at hq; rcases hq with rfl | rfl <;> rfl
      exact ih ((zup μ 114 l1 (μ 116 ((604 * (μ 113 3)) + l1)))) (zup_ok (k := 114) (z := l1) (v := (μ 116 ((604 * (μ 113 3)) + l1))) hB (zrow_h hB _ l1 (by omega))) (l1 + 1) (by omega) (show (μ 113 3) ≤ 3 from by omega) (by omega)
set_option maxHeartbeats 4000000 in
set_option maxRecDepth 100000 in
theorem mz_undo {μ : zM} (hB : zB μ)  : Dz md_6_undo [zr 113] zSh μ (some (zi (mm_undo μ).1)) zSh (mm_undo μ).2 := by
  refine Dz.of (by decide) rfl rfl (show Ez md_6_undo 0 0 0 [(0, zr 113)] [] zSh μ (some (zi (mm_undo μ).1)) zSh (mm_undo μ).2 from ?_)
  unfold mm_undo
  have b1 : 0 ≤ (μ 113 3) ∧ (μ 113 3) ≤ 4 := hB 113 3
  refine Az.blk kd_6_undo_0 (show zR (μ 113 3) ∧ ((¬ (μ 113 3) = 0 → Ez md_6_undo 0 0 10 [(0, zr 113)] [] zSh μ _ _ _) ∧ ((μ 113 3) = 0 → Ez md_6_undo 0 0 7 [(0, zr 113)] [] zSh μ _ _ _)) from ⟨(by omega), fun c2 => ?_, fun c2 => ?_⟩)
  · rw [if_neg c2]
    have b3 : 0 ≤ (μ 113 3) ∧ (μ 113 3) ≤ 4 := hB 113 3
    refine Az.blk kd_6_undo_10 (show Ez md_6_undo 0 0 22 [(1, zi 0), (0, zr 113)] [] zSh (zup μ 113 3 ((μ 113 3) - 1)) _ _ _ from ?_)
    refine Az.lvs (lv' := [(0, zr 113), (1, zi 0)]) ?_ ?_
    · intro q hq; simp only [List.mem_cons, List.not_mem_nil, or_false] at hq; rcases hq with rfl | rfl <;> rfl
    have fb : (3000 : Int) ≤ ((zN : Nat) : Int) := zN_big
    exact mz_undo_22 zN ((zup μ 113 3 ((μ 113 3) - 1))) (zup_ok (k := 113) (z := 3) (v := ((μ 113 3) - 1)) hB (show 0 ≤ ((μ 113 3) - 1) ∧ ((μ 113 3) - 1) ≤ 4 from by omega)) 0 (by omega) (show ((μ 113 3) - 1) ≤ 3 from by omega) (by omega)
  · rw [if_pos c2]
    refine Az.blk kd_6_undo_7 (show Ez md_6_undo 0 0 9 [(0, zr 113)] [zi (-5)] zSh μ _ _ _ from ?_)
    exact Ez.iret kr_6_undo_9 rfl (Nat.zero_le _) (Nat.zero_le _) rfl rfl
def kb_6_keep_0 : List zI := [(.iconst 0, 1, 0, 0), (.istore_n 1, 1, 0, 0)]
theorem kd_6_keep_0 : zdec md_6_keep 0 kb_6_keep_0 = true := by decide +kernel
def kb_6_keep_2 : List zI := [(.iload_n 1, 1, 0, 0), (.sipush 604, 3, 0, 0), (.if_icmp .ge 21, 3, 27, 0)]
theorem kd_6_keep_2 : zdec md_6_keep 2 kb_6_keep_2 = true := by decide +kernel
def kb_6_keep_27 : List zI := [(.aload_n 0, 1, 0, 0), (.iconst 1, 1, 0, 0), (.putfield 145, 3, 6, 5), (.aload_n 0, 1, 0, 0), (.getfield 7, 3, 6, 0), (.iconst 2, 1, 0, 0), (.iaload, 1, 0, 0)]
theorem kd_6_keep_27 : zdec md_6_keep 27 kb_6_keep_27 = true := by decide +kernel
theorem kr_6_keep_38 : decode md_6_keep.2.1 38 = .ok (.ireturn, 1) := by decide +kernel
def kb_6_keep_9 : List zI := [(.aload_n 0, 1, 0, 0), (.getfield 19, 3, 6, 4), (.iload_n 1, 1, 0, 0), (.aload_n 0, 1, 0, 0), (.getfield 7, 3, 6, 0), (.iload_n 1, 1, 0, 0), (.iaload, 1, 0, 0), (.iastore, 1, 0, 0), (.iinc 1 1, 3, 0, 0), (.goto (-22), 3, 2, 0)]
theorem kd_6_keep_9 : zdec md_6_keep 9 kb_6_keep_9 = true := by decide +kernel
noncomputable def mm_keep_2 : Nat → zM → Int → Int × zM
  | 0, μ, _ => (0, μ)
  | f + 1, μ, l1 => (if l1 < 604 then (mm_keep_2 f (zup μ 117 l1 (μ 114 l1)) (l1 + 1)) else ((μ 114 2), (zup μ 113 5 1)))
noncomputable def mm_keep (μ : zM) : Int × zM := (mm_keep_2 zN μ 0)
set_option maxHeartbeats 4000000 in
set_option maxRecDepth 100000 in
theorem mb_keep_2 (f : Nat) (μ : zM) (hB : zB μ) (l1 : Int) (i0 : 0 ≤ l1 ∧ l1 ≤ 604) (hf : 604 - l1 < (f : Int)) : zB (mm_keep_2 f μ l1).2 := by
  induction f generalizing μ l1 with
  | zero => exfalso; omega
  | succ f ih =>
    replace hf : 604 - l1 < (f : Int) + 1 := by omega
    rw [mm_keep_2]
    by_cases c1 : l1 < 604
    · rw [if_pos c1]
      exact ih ((zup μ 117 l1 (μ 114 l1))) (zup_ok (k := 117) (z := l1) (v := (μ 114 l1)) hB (hB 114 l1)) (l1 + 1) (by omega) (by omega)
    · rw [if_neg c1]
      have b2 : 0 ≤ (μ 114 2) ∧ (μ 114 2) ≤ 24 := hB 114 2
      exact (zup_ok (k := 113) (z := 5) (v := 1) hB (show 0 ≤ 1 ∧ 1 ≤ 1 from by omega))
set_option maxHeartbeats 4000000 in
set_option maxRecDepth 100000 in
theorem mb_keep {μ : zM} (hB : zB μ)  : zB (mm_keep μ).2 := by
  unfold mm_keep
  have fb : (3000 : Int) ≤ ((zN : Nat) : Int) := zN_big
  exact mb_keep_2 zN μ hB 0 (by omega) (by omega)
set_option maxHeartbeats 4000000 in
set_option maxRecDepth 100000 in
theorem mz_keep_2 (f : Nat) (μ : zM) (hB : zB μ) (l1 : Int) (i0 : 0 ≤ l1 ∧ l1 ≤ 604) (hf : 604 - l1 < (f : Int)) : Ez md_6_keep 0 0 2 [(0, zr 113), (1, zi l1)] [] zSh μ (some (zi (mm_keep_2 f μ l1).1)) zSh (mm_keep_2 f μ l1).2 := by
  induction f generalizing μ l1 with
  | zero => exfalso; omega
  | succ f ih =>
    replace hf : 604 - l1 < (f : Int) + 1 := by omega
    rw [mm_keep_2]
    refine Az.blk kd_6_keep_2 (show zR l1 ∧ zR 604 ∧ ((¬ l1 < 604 → Ez md_6_keep 0 0 27 [(0, zr 113), (1, zi l1)] [] zSh μ _ _ _) ∧ (l1 < 604 → Ez md_6_keep 0 0 9 [(0, zr 113), (1, zi l1)] [] zSh μ _ _ _)) from ⟨(by omega), (by omega), fun c1 => ?_, fun c1 => ?_⟩)
    · rw [if_neg c1]
      have b2 : 0 ≤ (μ 114 2) ∧ (μ 114 2) ≤ 24 := hB 114 2
      refine Az.blk kd_6_keep_27 (show (0 ≤ 2 ∧ 2 < 604) ∧ Ez md_6_keep 0 0 38 [(0, zr 113), (1, zi l1)] [zi (μ 114 2)] zSh (zup μ 113 5 1) _ _ _ from ⟨(by omega), ?_⟩)
      exact Ez.iret kr_6_keep_38 rfl (Nat.zero_le _) (Nat.zero_le _) rfl rfl
    · rw [if_pos c1]
      refine Az.blk kd_6_keep_9 (show (0 ≤ l1 ∧ l1 < 604) ∧ (0 ≤ l1 ∧ l1 < 604) ∧ Ez md_6_keep 0 0 2 [(1, zi (l1 + 1)), (0, zr 113)] [] zSh (zup μ 117 l1 (μ 114 l1)) _ _ _ from ⟨(by omega), (by omega), ?_⟩)
      refine Az.lvs (lv' := [(0, zr 113), (1, zi (l1 + 1))]) ?_ ?_
      · intro q hq; simp only [List.mem_cons, List.not_mem_nil, or_false] at hq; rcases hq with rfl | rfl <;> rfl
      exact ih ((zup μ 117 l1 (μ 114 l1))) (zup_ok (k := 117) (z := l1) (v := (μ 114 l1)) hB (hB 114 l1)) (l1 + 1) (by omega) (by omega)
set_option maxHeartbeats 4000000 in
set_option maxRecDepth 100000 in
theorem mz_keep {μ : zM} (hB : zB μ)  : Dz md_6_keep [zr 113] zSh μ (some (zi (mm_keep μ).1)) zSh (mm_keep μ).2 := by
  refine Dz.of (by decide) rfl rfl (show Ez md_6_keep 0 0 0 [(0, zr 113)] [] zSh μ (some (zi (mm_keep μ).1)) zSh (mm_keep μ).2 from ?_)
  unfold mm_keep
  refine Az.blk kd_6_keep_0 (show Ez md_6_keep 0 0 2 [(1, zi 0), (0, zr 113)] [] zSh μ _ _ _ from ?_)
  refine Az.lvs (lv' := [(0, zr 113), (1, zi 0)]) ?_ ?_
  · intro q hq; simp only [List.mem_cons, List.not_mem_nil, or_false] at hq; rcases hq with rfl | rfl <;> rfl
  have fb : (3000 : Int) ≤ ((zN : Nat) : Int) := zN_big
  exact mz_keep_2 zN μ hB 0 (by omega) (by omega)
def kb_6_restore_0 : List zI := [(.aload_n 0, 1, 0, 0), (.getfield 145, 3, 6, 5), (.ifCond .ne 6, 3, 10, 0)]
theorem kd_6_restore_0 : zdec md_6_restore 0 kb_6_restore_0 = true := by decide +kernel
def kb_6_restore_10 : List zI := [(.aload_n 0, 1, 0, 0)]
theorem kd_6_restore_10 : zdec md_6_restore 10 kb_6_restore_10 = true := by decide +kernel
theorem kr_6_restore_11 : decode md_6_restore.2.1 11 = .ok (.invokevirtual 85, 3) := by decide +kernel
def kb_6_restore_14 : List zI := [(.iconst 0, 1, 0, 0), (.istore_n 1, 1, 0, 0)]
theorem kd_6_restore_14 : zdec md_6_restore 14 kb_6_restore_14 = true := by decide +kernel
def kb_6_restore_7 : List zI := [(.bipush (-5), 2, 0, 0)]
theorem kd_6_restore_7 : zdec md_6_restore 7 kb_6_restore_7 = true := by decide +kernel
theorem kr_6_restore_9 : decode md_6_restore.2.1 9 = .ok (.ireturn, 1) := by decide +kernel
def kb_6_restore_16 : List zI := [(.iload_n 1, 1, 0, 0), (.sipush 604, 3, 0, 0), (.if_icmp .ge 21, 3, 41, 0)]
theorem kd_6_restore_16 : zdec md_6_restore 16 kb_6_restore_16 = true := by decide +kernel
def kb_6_restore_41 : List zI := [(.aload_n 0, 1, 0, 0), (.aload_n 0, 1, 0, 0), (.getfield 7, 3, 6, 0), (.iconst 2, 1, 0, 0), (.iaload, 1, 0, 0)]
theorem kd_6_restore_41 : zdec md_6_restore 41 kb_6_restore_41 = true := by decide +kernel
theorem kr_6_restore_48 : decode md_6_restore.2.1 48 = .ok (.invokevirtual 91, 3) := by decide +kernel
theorem kr_6_restore_51 : decode md_6_restore.2.1 51 = .ok (.ireturn, 1) := by decide +kernel
def kb_6_restore_23 : List zI := [(.aload_n 0, 1, 0, 0), (.getfield 7, 3, 6, 0), (.iload_n 1, 1, 0, 0), (.aload_n 0, 1, 0, 0), (.getfield 19, 3, 6, 4), (.iload_n 1, 1, 0, 0), (.iaload, 1, 0, 0), (.iastore, 1, 0, 0), (.iinc 1 1, 3, 0, 0), (.goto (-22), 3, 16, 0)]
theorem kd_6_restore_23 : zdec md_6_restore 23 kb_6_restore_23 = true := by decide +kernel
noncomputable def mm_restore_16 : Nat → zM → Int → Int × zM
  | 0, μ, _ => (0, μ)
  | f + 1, μ, l1 => (if l1 < 604 then (mm_restore_16 f (zup μ 114 l1 (μ 117 l1)) (l1 + 1)) else ((mm_ends μ (μ 114 2)).1, (mm_ends μ (μ 114 2)).2))
noncomputable def mm_restore (μ : zM) : Int × zM := (if (μ 113 5) = 0 then ((-5), μ) else (mm_restore_16 zN (zset μ 115 ((mm_keeps μ) 115)) 0))
set_option maxHeartbeats 4000000 in
set_option maxRecDepth 100000 in
theorem mb_restore_16 (f : Nat) (μ : zM) (hB : zB μ) (l1 : Int) (i0 : 0 ≤ l1 ∧ l1 ≤ 604) (hf : 604 - l1 < (f : Int)) : zB (mm_restore_16 f μ l1).2 := by
  induction f generalizing μ l1 with
  | zero => exfalso; omega
  | succ f ih =>
    replace hf : 604 - l1 < (f : Int) + 1 := by omega
    rw [mm_restore_16]
    by_cases c3 : l1 < 604
    · rw [if_pos c3]
      exact ih ((zup μ 114 l1 (μ 117 l1))) (zup_ok (k := 114) (z := l1) (v := (μ 117 l1)) hB (hB 117 l1)) (l1 + 1) (by omega) (by omega)
    · rw [if_neg c3]
      have b4 : 0 ≤ (μ 114 2) ∧ (μ 114 2) ≤ 24 := hB 114 2
      exact (mb_ends hB (μ 114 2))
set_option maxHeartbeats 4000000 in
set_option maxRecDepth 100000 in
theorem mb_restore {μ : zM} (hB : zB μ)  : zB (mm_restore μ).2 := by
  unfold mm_restore
  have b1 : 0 ≤ (μ 113 5) ∧ (μ 113 5) ≤ 1 := hB 113 5
  by_cases c2 : (μ 113 5) = 0
  · rw [if_pos c2]
    exact hB
  · rw [if_neg c2]
    have fb : (3000 : Int) ≤ ((zN : Nat) : Int) := zN_big
    exact mb_restore_16 zN ((zset μ 115 ((mm_keeps μ) 115))) (mb_keepsF hB) 0 (by omega) (by omega)
set_option maxHeartbeats 4000000 in
set_option maxRecDepth 100000 in
theorem mz_restore_16 (f : Nat) (μ : zM) (hB : zB μ) (l1 : Int) (i0 : 0 ≤ l1 ∧ l1 ≤ 604) (hf : 604 - l1 < (f : Int)) : Ez md_6_restore 0 0 16 [(0, zr 113), (1, zi l1)] [] zSh μ (some (zi (mm_restore_16 f μ l1).1)) zSh (mm_restore_16 f μ l1).2 := by
  induction f generalizing μ l1 with
  | zero => exfalso; omega
  | succ f ih =>
    replace hf : 604 - l1 < (f : Int) + 1 := by omega
    rw [mm_restore_16]
    refine Az.blk kd_6_restore_16 (show zR l1 ∧ zR 604 ∧ ((¬ l1 < 604 → Ez md_6_restore 0 0 41 [(0, zr 113), (1, zi l1)] [] zSh μ _ _ _) ∧ (l1 < 604 → Ez md_6_restore 0 0 23 [(0, zr 113), (1, zi l1)] [] zSh μ _ _ _)) from ⟨(by omega), (by omega), fun c3 => ?_, fun c3 => ?_⟩)
    · rw [if_neg c3]
      have b4 : 0 ≤ (μ 114 2) ∧ (μ 114 2) ≤ 24 := hB 114 2
      refine Az.blk kd_6_restore_41 (show (0 ≤ 2 ∧ 2 < 604) ∧ Ez md_6_restore 0 0 48 [(0, zr 113), (1, zi l1)] [zi (μ 114 2), zr 113] zSh μ _ _ _ from ⟨(by omega), ?_⟩)
      refine Az.cV (mc := md_6_ends) (k := 113) (n := 1) (As := [zi (μ 114 2)]) (rest := []) kr_6_restore_48 zw_641 ok_6_ends rfl rfl rfl trivial (mz_ends hB (μ 114 2)) rfl rfl (show Ez md_6_restore 0 0 51 [(0, zr 113), (1, zi l1)] [zi (mm_ends μ (μ 114 2)).1] zSh (mm_ends μ (μ 114 2)).2 _ _ _ from ?_)
      exact Ez.iret kr_6_restore_51 rfl (Nat.zero_le _) (Nat.zero_le _) rfl rfl
    · rw [if_pos c3]
      refine Az.blk kd_6_restore_23 (show (0 ≤ l1 ∧ l1 < 604) ∧ (0 ≤ l1 ∧ l1 < 604) ∧ Ez md_6_restore 0 0 16 [(1, zi (l1 + 1)), (0, zr 113)] [] zSh (zup μ 114 l1 (μ 117 l1)) _ _ _ from ⟨(by omega), (by omega), ?_⟩)
      refine Az.lvs (lv' := [(0, zr 113), (1, zi (l1 + 1))]) ?_ ?_
      · intro q hq; simp only [List.mem_cons, List.not_mem_nil, or_false] at hq; rcases hq with rfl | rfl <;> rfl
      exact ih ((zup μ 114 l1 (μ 117 l1))) (zup_ok (k := 114) (z := l1) (v := (μ 117 l1)) hB (hB 117 l1)) (l1 + 1) (by omega) (by omega)
set_option maxHeartbeats 4000000 in
set_option maxRecDepth 100000 in
theorem mz_restore {μ : zM} (hB : zB μ)  : Dz md_6_restore [zr 113] zSh μ (some (zi (mm_restore μ).1)) zSh (mm_restore μ).2 := by
  refine Dz.of (by decide) rfl rfl (show Ez md_6_restore 0 0 0 [(0, zr 113)] [] zSh μ (some (zi (mm_restore μ).1)) zSh (mm_restore μ).2 from ?_)
  unfold mm_restore
  have b1 : 0 ≤ (μ 113 5) ∧ (μ 113 5) ≤ 1 := hB 113 5
  refine Az.blk kd_6_restore_0 (show zR (μ 113 5) ∧ ((¬ (μ 113 5) = 0 → Ez md_6_restore 0 0 10 [(0, zr 113)] [] zSh μ _ _ _) ∧ ((μ 113 5) = 0 → Ez md_6_restore 0 0 7 [(0, zr 113)] [] zSh μ _ _ _)) from ⟨(by omega), fun c2 => ?_, fun c2 => ?_⟩)
  · rw [if_neg c2]
    refine Az.blk kd_6_restore_10 (show Ez md_6_restore 0 0 11 [(0, zr 113)] [zr 113] zSh μ _ _ _ from ?_)
    refine Az.cV (mc := md_6_keeps) (k := 113) (n := 0) (As := []) (rest := []) kr_6_restore_11 zw_637 ok_6_keeps rfl rfl rfl trivial (mz_keepsF hB) rfl rfl (show Ez md_6_restore 0 0 14 [(0, zr 113)] [] zSh (zset μ 115 ((mm_keeps μ) 115)) _ _ _ from ?_)
    refine Az.blk kd_6_restore_14 (show Ez md_6_restore 0 0 16 [(1, zi 0), (0, zr 113)] [] zSh (zset μ 115 ((mm_keeps μ) 115)) _ _ _ from ?_)
    refine Az.lvs (lv' := [(0, zr 113), (1, zi 0)]) ?_ ?_
    · intro q hq; simp only [List.mem_cons, List.not_mem_nil, or_false] at hq; rcases hq with rfl | rfl <;> rfl
    have fb : (3000 : Int) ≤ ((zN : Nat) : Int) := zN_big
    exact mz_restore_16 zN ((zset μ 115 ((mm_keeps μ) 115))) (mb_keepsF hB) 0 (by omega) (by omega)
  · rw [if_pos c2]
    refine Az.blk kd_6_restore_7 (show Ez md_6_restore 0 0 9 [(0, zr 113)] [zi (-5)] zSh μ _ _ _ from ?_)
    exact Ez.iret kr_6_restore_9 rfl (Nat.zero_le _) (Nat.zero_le _) rfl rfl
