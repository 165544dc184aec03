def kb_4_learn_0 : List zI := [(.aload_n 0, 1, 0, 0), (.getfield 9, 3, 4, 0), (.bipush 24, 2, 0, 0), (.if_icmp .lt 4, 3, 10, 0)]
theorem kd_4_learn_0 : zdec md_4_learn 0 kb_4_learn_0 = true := by decide +kernel
def kb_4_learn_10 : List zI := [(.aload_n 0, 1, 0, 0), (.getfield 15, 3, 4, 1), (.aload_n 0, 1, 0, 0), (.getfield 9, 3, 4, 0), (.iload_n 1, 1, 0, 0), (.iastore, 1, 0, 0), (.aload_n 0, 1, 0, 0), (.getfield 19, 3, 4, 2), (.aload_n 0, 1, 0, 0), (.getfield 9, 3, 4, 0), (.iload_n 2, 1, 0, 0), (.iastore, 1, 0, 0), (.aload_n 0, 1, 0, 0), (.getfield 22, 3, 4, 3), (.aload_n 0, 1, 0, 0), (.getfield 9, 3, 4, 0), (.aload_n 3, 1, 0, 0), (.getfield 35, 3, 3, 1), (.bipush 8, 2, 0, 0)]
theorem kd_4_learn_10 : zdec md_4_learn 10 kb_4_learn_10 = true := by decide +kernel
theorem kr_4_learn_44 : decode md_4_learn.2.1 44 = .ok (.invokestatic 40, 3) := by decide +kernel
def kb_4_learn_47 : List zI := [(.iastore, 1, 0, 0), (.iconst 0, 1, 0, 0), (.istore 4, 2, 0, 0)]
theorem kd_4_learn_47 : zdec md_4_learn 47 kb_4_learn_47 = true := by decide +kernel
theorem kr_4_learn_9 : decode md_4_learn.2.1 9 = .ok (.return_, 1) := by decide +kernel
def kb_4_learn_51 : List zI := [(.iload 4, 2, 0, 0), (.bipush 8, 2, 0, 0), (.if_icmp .ge 30, 3, 85, 0)]
theorem kd_4_learn_51 : zdec md_4_learn 51 kb_4_learn_51 = true := by decide +kernel
def kb_4_learn_85 : List zI := [(.aload_n 0, 1, 0, 0), (.dup, 1, 0, 0), (.getfield 9, 3, 4, 0), (.iconst 1, 1, 0, 0), (.iadd, 1, 0, 0), (.putfield 9, 3, 4, 0)]
theorem kd_4_learn_85 : zdec md_4_learn 85 kb_4_learn_85 = true := by decide +kernel
theorem kr_4_learn_95 : decode md_4_learn.2.1 95 = .ok (.return_, 1) := by decide +kernel
def kb_4_learn_58 : List zI := [(.aload_n 0, 1, 0, 0), (.getfield 25, 3, 4, 4), (.aload_n 0, 1, 0, 0), (.getfield 9, 3, 4, 0), (.bipush 8, 2, 0, 0), (.imul, 1, 0, 0), (.iload 4, 2, 0, 0), (.iadd, 1, 0, 0), (.aload_n 3, 1, 0, 0), (.iload 4, 2, 0, 0)]
theorem kd_4_learn_58 : zdec md_4_learn 58 kb_4_learn_58 = true := by decide +kernel
theorem kr_4_learn_75 : decode md_4_learn.2.1 75 = .ok (.invokevirtual 46, 3) := by decide +kernel
def kb_4_learn_78 : List zI := [(.iastore, 1, 0, 0), (.iinc 4 1, 3, 0, 0), (.goto (-31), 3, 51, 0)]
theorem kd_4_learn_78 : zdec md_4_learn 78 kb_4_learn_78 = true := by decide +kernel
noncomputable def xx_learn_51 : Nat → zM → Int → zM
  | 0, μ, _ => μ
  | f + 1, μ, l4 => (if l4 < 8 then (xx_learn_51 f (zup μ 8 (((μ 4 0) * 8) + l4) (xx_letterNumberAt μ l4)) (l4 + 1)) else (zup μ 4 0 ((μ 4 0) + 1)))
noncomputable def xx_learn (μ : zM) (a1 a2 : Int) : zM := (if (μ 4 0) < 24 then (xx_learn_51 zN (zup (zup (zup μ 5 (μ 4 0) a1) 6 (μ 4 0) a2) 7 (μ 4 0) (zmin (μ 1 1) 8)) 0) else μ)
set_option maxHeartbeats 4000000 in
set_option maxRecDepth 100000 in
theorem xb_learn_51 (f : Nat) (μ : zM) (hB : zB μ) (l4 : Int) (i0 : 0 ≤ l4 ∧ l4 ≤ 8) (i1 : (μ 4 0) ≤ 23) (hf : 8 - l4 < (f : Int)) : zB (xx_learn_51 f μ l4) := by
  induction f generalizing μ l4 with
  | zero => exfalso; omega
  | succ f ih =>
    replace hf : 8 - l4 < (f : Int) + 1 := by omega
    rw [xx_learn_51]
    by_cases c9 : l4 < 8
    · rw [if_pos c9]
      have b11 : 0 ≤ (μ 4 0) ∧ (μ 4 0) ≤ 24 := hB 4 0
      have r12 : 0 ≤ (xx_letterNumberAt μ l4) ∧ (xx_letterNumberAt μ l4) ≤ 26 := xr_letterNumberAt hB l4 (by omega)
      have b13 : 0 ≤ (μ 4 0) ∧ (μ 4 0) ≤ 24 := hB 4 0
      exact ih ((zup μ 8 (((μ 4 0) * 8) + l4) (xx_letterNumberAt μ l4))) (zup_ok (k := 8) (z := (((μ 4 0) * 8) + l4)) (v := (xx_letterNumberAt μ l4)) hB (show 0 ≤ (xx_letterNumberAt μ l4) ∧ (xx_letterNumberAt μ l4) ≤ 26 from by omega)) (l4 + 1) (by omega) (show (μ 4 0) ≤ 23 from by omega) (by omega)
    · rw [if_neg c9]
      have b10 : 0 ≤ (μ 4 0) ∧ (μ 4 0) ≤ 24 := hB 4 0
      exact (zup_ok (k := 4) (z := 0) (v := ((μ 4 0) + 1)) hB (show 0 ≤ ((μ 4 0) + 1) ∧ ((μ 4 0) + 1) ≤ 24 from by omega))
set_option maxHeartbeats 4000000 in
set_option maxRecDepth 100000 in
theorem xb_learn {μ : zM} (hB : zB μ) (a1 a2 : Int) (h0 : 0 ≤ a1 ∧ a1 ≤ 2) (h1 : 0 ≤ a2 ∧ a2 ≤ 2) : zB (xx_learn μ a1 a2) := by
  unfold xx_learn
  have b1 : 0 ≤ (μ 4 0) ∧ (μ 4 0) ≤ 24 := hB 4 0
  by_cases c2 : (μ 4 0) < 24
  · rw [if_pos c2]
    have b3 : 0 ≤ (μ 4 0) ∧ (μ 4 0) ≤ 24 := hB 4 0
    have b4 : 0 ≤ (μ 4 0) ∧ (μ 4 0) ≤ 24 := hB 4 0
    have b5 : 0 ≤ (μ 4 0) ∧ (μ 4 0) ≤ 24 := hB 4 0
    have b6 : 0 ≤ (μ 1 1) ∧ (μ 1 1) ≤ 60 := hB 1 1
    have f7 := zmin_r (μ 1 1) 8
    have b8 : 0 ≤ (μ 4 0) ∧ (μ 4 0) ≤ 24 := hB 4 0
    have fb : (3000 : Int) ≤ ((zN : Nat) : Int) := zN_big
    exact xb_learn_51 zN ((zup (zup (zup μ 5 (μ 4 0) a1) 6 (μ 4 0) a2) 7 (μ 4 0) (zmin (μ 1 1) 8))) (zup_ok (k := 7) (z := (μ 4 0)) (v := (zmin (μ 1 1) 8)) (zup_ok (k := 6) (z := (μ 4 0)) (v := a2) (zup_ok (k := 5) (z := (μ 4 0)) (v := a1) hB (show 0 ≤ a1 ∧ a1 ≤ 2 from by omega)) (show 0 ≤ a2 ∧ a2 ≤ 2 from by omega)) (show 0 ≤ (zmin (μ 1 1) 8) ∧ (zmin (μ 1 1) 8) ≤ 8 from by omega)) 0 (by omega) (show (μ 4 0) ≤ 23 from by omega) (by omega)
  · rw [if_neg c2]
    exact hB
set_option maxHeartbeats 4000000 in
set_option maxRecDepth 100000 in
theorem xz_learn_51 (f : Nat) (μ : zM) (hB : zB μ) (l4 : Int) (i0 : 0 ≤ l4 ∧ l4 ≤ 8) (i1 : (μ 4 0) ≤ 23) (hf : 8 - l4 < (f : Int)) : Ez md_4_learn 0 0 51 [(0, zr 4), (3, zr 1), (4, zi l4)] [] zSh μ none zSh (xx_learn_51 f μ l4) := by
  induction f generalizing μ l4 with
  | zero => exfalso; omega
  | succ f ih =>
    replace hf : 8 - l4 < (f : Int) + 1 := by omega
    rw [xx_learn_51]
    refine Az.blk kd_4_learn_51 (show zR l4 ∧ zR 8 ∧ ((¬ l4 < 8 → Ez md_4_learn 0 0 85 [(0, zr 4), (3, zr 1), (4, zi l4)] [] zSh μ _ _ _) ∧ (l4 < 8 → Ez md_4_learn 0 0 58 [(0, zr 4), (3, zr 1), (4, zi l4)] [] zSh μ _ _ _)) from ⟨(by omega), (by omega), fun c9 => ?_, fun c9 => ?_⟩)
    · rw [if_neg c9]
      have b10 : 0 ≤ (μ 4 0) ∧ (μ 4 0) ≤ 24 := hB 4 0
      refine Az.blk kd_4_learn_85 (show Ez md_4_learn 0 0 95 [(0, zr 4), (3, zr 1), (4, zi l4)] [] zSh (zup μ 4 0 ((μ 4 0) + 1)) _ _ _ from ?_)
      exact Ez.vret kr_4_learn_95 rfl (Nat.zero_le _) (Nat.zero_le _) rfl rfl
    · rw [if_pos c9]
      have b11 : 0 ≤ (μ 4 0) ∧ (μ 4 0) ≤ 24 := hB 4 0
      refine Az.blk kd_4_learn_58 (show Ez md_4_learn 0 0 75 [(0, zr 4), (3, zr 1), (4, zi l4)] [zi l4, zr 1, zi (((μ 4 0) * 8) + l4), zr 8] zSh μ _ _ _ from ?_)
      refine Az.cVN (mc := md_3_letterNumberAt) (k := 1) (n := 1) (As := [zi l4]) (rest := [zi (((μ 4 0) * 8) + l4), zr 8]) kr_4_learn_75 zw_428 ok_3_letterNumberAt rfl rfl rfl trivial (xz_letterNumberAt hB l4 (by omega)) rfl rfl (show Ez md_4_learn 0 0 78 [(0, zr 4), (3, zr 1), (4, zi l4)] [zi (xx_letterNumberAt μ l4), zi (((μ 4 0) * 8) + l4), zr 8] zSh μ _ _ _ from ?_)
      have r12 : 0 ≤ (xx_letterNumberAt μ l4) ∧ (xx_letterNumberAt μ l4) ≤ 26 := xr_letterNumberAt hB l4 (by omega)
      refine Az.blk kd_4_learn_78 (show (0 ≤ (((μ 4 0) * 8) + l4) ∧ (((μ 4 0) * 8) + l4) < 192) ∧ Ez md_4_learn 0 0 51 [(4, zi (l4 + 1)), (0, zr 4), (3, zr 1)] [] zSh (zup μ 8 (((μ 4 0) * 8) + l4) (xx_letterNumberAt μ l4)) _ _ _ from ⟨(by omega), ?_⟩)
      have b13 : 0 ≤ (μ 4 0) ∧ (μ 4 0) ≤ 24 := hB 4 0
      refine Az.lvs (lv' := [(0, zr 4), (3, zr 1), (4, zi (l4 + 1))]) ?_ ?_
      · intro q hq; simp only [List.mem_cons, List.not_mem_nil, or_false] at hq; rcases hq with rfl | rfl | rfl <;> rfl
      exact ih ((zup μ 8 (((μ 4 0) * 8) + l4) (xx_letterNumberAt μ l4))) (zup_ok (k := 8) (z := (((μ 4 0) * 8) + l4)) (v := (xx_letterNumberAt μ l4)) hB (show 0 ≤ (xx_letterNumberAt μ l4) ∧ (xx_letterNumberAt μ l4) ≤ 26 from by omega)) (l4 + 1) (by omega) (show (μ 4 0) ≤ 23 from by omega) (by omega)
set_option maxHeartbeats 4000000 in
set_option maxRecDepth 100000 in
theorem xz_learn {μ : zM} (hB : zB μ) (a1 a2 : Int) (h0 : 0 ≤ a1 ∧ a1 ≤ 2) (h1 : 0 ≤ a2 ∧ a2 ≤ 2) : Dz md_4_learn [zr 4, zi a1, zi a2, zr 1] zSh μ none zSh (xx_learn μ a1 a2) := by
  refine Dz.of (by decide) rfl rfl (show Ez md_4_learn 0 0 0 [(0, zr 4), (1, zi a1), (2, zi a2), (3, zr 1)] [] zSh μ none zSh (xx_learn μ a1 a2) from ?_)
  unfold xx_learn
  have b1 : 0 ≤ (μ 4 0) ∧ (μ 4 0) ≤ 24 := hB 4 0
  refine Az.blk kd_4_learn_0 (show zR (μ 4 0) ∧ zR 24 ∧ (((μ 4 0) < 24 → Ez md_4_learn 0 0 10 [(0, zr 4), (1, zi a1), (2, zi a2), (3, zr 1)] [] zSh μ _ _ _) ∧ (¬ (μ 4 0) < 24 → Ez md_4_learn 0 0 9 [(0, zr 4), (1, zi a1), (2, zi a2), (3, zr 1)] [] zSh μ _ _ _)) from ⟨(by omega), (by omega), fun c2 => ?_, fun c2 => ?_⟩)
  · rw [if_pos c2]
    have b3 : 0 ≤ (μ 4 0) ∧ (μ 4 0) ≤ 24 := hB 4 0
    have b4 : 0 ≤ (μ 4 0) ∧ (μ 4 0) ≤ 24 := hB 4 0
    have b5 : 0 ≤ (μ 4 0) ∧ (μ 4 0) ≤ 24 := hB 4 0
    have b6 : 0 ≤ (μ 1 1) ∧ (μ 1 1) ≤ 60 := hB 1 1
    refine Az.blk kd_4_learn_10 (show (0 ≤ (μ 4 0) ∧ (μ 4 0) < 24) ∧ (0 ≤ (μ 4 0) ∧ (μ 4 0) < 24) ∧ Ez md_4_learn 0 0 44 [(0, zr 4), (1, zi a1), (2, zi a2), (3, zr 1)] [zi 8, zi (μ 1 1), zi (μ 4 0), zr 7] zSh (zup (zup μ 5 (μ 4 0) a1) 6 (μ 4 0) a2) _ _ _ from ⟨(by omega), (by omega), ?_⟩)
    have f7 := zmin_r (μ 1 1) 8
    refine Az.mmin (a := (μ 1 1)) (b := 8) kr_4_learn_44 zw_427 rfl (by omega) (by omega) rfl (show Ez md_4_learn 0 0 47 [(0, zr 4), (1, zi a1), (2, zi a2), (3, zr 1)] [zi (zmin (μ 1 1) 8), zi (μ 4 0), zr 7] zSh (zup (zup μ 5 (μ 4 0) a1) 6 (μ 4 0) a2) _ _ _ from ?_)
    refine Az.blk kd_4_learn_47 (show (0 ≤ (μ 4 0) ∧ (μ 4 0) < 24) ∧ Ez md_4_learn 0 0 51 [(4, zi 0), (0, zr 4), (1, zi a1), (2, zi a2), (3, zr 1)] [] zSh (zup (zup (zup μ 5 (μ 4 0) a1) 6 (μ 4 0) a2) 7 (μ 4 0) (zmin (μ 1 1) 8)) _ _ _ from ⟨(by omega), ?_⟩)
    have b8 : 0 ≤ (μ 4 0) ∧ (μ 4 0) ≤ 24 := hB 4 0
    refine Az.lvs (lv' := [(0, zr 4), (3, zr 1), (4, zi 0)]) ?_ ?_
    · intro q hq; simp only [List.mem_cons, List.not_mem_nil, or_false] at hq; rcases hq with rfl | rfl | rfl <;> rfl
    have fb : (3000 : Int) ≤ ((zN : Nat) : Int) := zN_big
    exact xz_learn_51 zN ((zup (zup (zup μ 5 (μ 4 0) a1) 6 (μ 4 0) a2) 7 (μ 4 0) (zmin (μ 1 1) 8))) (zup_ok (k := 7) (z := (μ 4 0)) (v := (zmin (μ 1 1) 8)) (zup_ok (k := 6) (z := (μ 4 0)) (v := a2) (zup_ok (k := 5) (z := (μ 4 0)) (v := a1) hB (show 0 ≤ a1 ∧ a1 ≤ 2 from by omega)) (show 0 ≤ a2 ∧ a2 ≤ 2 from by omega)) (show 0 ≤ (zmin (μ 1 1) 8) ∧ (zmin (μ 1 1) 8) ≤ 8 from by omega)) 0 (by omega) (show (μ 4 0) ≤ 23 from by omega) (by omega)
  · rw [if_neg c2]
    exact Ez.vret kr_4_learn_9 rfl (Nat.zero_le _) (Nat.zero_le _) rfl rfl
def kb_4_changeEnding_0 : List zI := [(.iload_n 1, 1, 0, 0), (.iconst 3, 1, 0, 0)]
theorem kd_4_changeEnding_0 : zdec md_4_changeEnding 0 kb_4_changeEnding_0 = true := by decide +kernel
theorem kr_4_changeEnding_2 : decode md_4_changeEnding.2.1 2 = .ok (.invokestatic 54, 3) := by decide +kernel
def kb_4_changeEnding_5 : List zI := [(.ifCond .eq 24, 3, 29, 0)]
theorem kd_4_changeEnding_5 : zdec md_4_changeEnding 5 kb_4_changeEnding_5 = true := by decide +kernel
theorem kr_4_changeEnding_29 : decode md_4_changeEnding.2.1 29 = .ok (.return_, 1) := by decide +kernel
def kb_4_changeEnding_8 : List zI := [(.iload_n 2, 1, 0, 0), (.bipush 6, 2, 0, 0)]
theorem kd_4_changeEnding_8 : zdec md_4_changeEnding 8 kb_4_changeEnding_8 = true := by decide +kernel
theorem kr_4_changeEnding_11 : decode md_4_changeEnding.2.1 11 = .ok (.invokestatic 54, 3) := by decide +kernel
def kb_4_changeEnding_14 : List zI := [(.ifCond .eq 15, 3, 29, 0)]
theorem kd_4_changeEnding_14 : zdec md_4_changeEnding 14 kb_4_changeEnding_14 = true := by decide +kernel
def kb_4_changeEnding_17 : List zI := [(.aload_n 0, 1, 0, 0), (.getfield 28, 3, 4, 5), (.iload_n 1, 1, 0, 0), (.bipush 6, 2, 0, 0), (.imul, 1, 0, 0), (.iload_n 2, 1, 0, 0), (.iadd, 1, 0, 0), (.iload_n 3, 1, 0, 0), (.iastore, 1, 0, 0)]
theorem kd_4_changeEnding_17 : zdec md_4_changeEnding 17 kb_4_changeEnding_17 = true := by decide +kernel
noncomputable def xx_changeEnding (μ : zM) (a1 a2 a3 : Int) : zM := (if (xx_isBelow a1 3) = 0 then μ else (if (xx_isBelow a2 6) = 0 then μ else (zup μ 9 ((a1 * 6) + a2) a3)))
set_option maxHeartbeats 4000000 in
set_option maxRecDepth 100000 in
theorem xb_changeEnding {μ : zM} (hB : zB μ) (a1 a2 a3 : Int) (h0 : -2147483648 ≤ a1 ∧ a1 ≤ 2147483647) (h1 : -2147483648 ≤ a2 ∧ a2 ≤ 2147483647) (h2 : 0 ≤ a3 ∧ a3 ≤ 728) : zB (xx_changeEnding μ a1 a2 a3) := by
  unfold xx_changeEnding
  have r1 : 0 ≤ (xx_isBelow a1 3) ∧ (xx_isBelow a1 3) ≤ 1 ∧ ((xx_isBelow a1 3) = 1 → 0 ≤ a1 ∧ a1 < (3 : Int)) := xr_isBelow a1 3 (by omega) (by omega)
  by_cases c2 : (xx_isBelow a1 3) = 0
  · rw [if_pos c2]
    exact hB
  · rw [if_neg c2]
    have r3 : 0 ≤ (xx_isBelow a2 6) ∧ (xx_isBelow a2 6) ≤ 1 ∧ ((xx_isBelow a2 6) = 1 → 0 ≤ a2 ∧ a2 < (6 : Int)) := xr_isBelow a2 6 (by omega) (by omega)
    by_cases c4 : (xx_isBelow a2 6) = 0
    · rw [if_pos c4]
      exact hB
    · rw [if_neg c4]
      exact (zup_ok (k := 9) (z := ((a1 * 6) + a2)) (v := a3) hB (show 0 ≤ a3 ∧ a3 ≤ 728 from by omega))
set_option maxHeartbeats 4000000 in
set_option maxRecDepth 100000 in
theorem xz_changeEnding {μ : zM} (hB : zB μ) (a1 a2 a3 : Int) (h0 : -2147483648 ≤ a1 ∧ a1 ≤ 2147483647) (h1 : -2147483648 ≤ a2 ∧ a2 ≤ 2147483647) (h2 : 0 ≤ a3 ∧ a3 ≤ 728) : Dz md_4_changeEnding [zr 4, zi a1, zi a2, zi a3] zSh μ none zSh (xx_changeEnding μ a1 a2 a3) := by
  refine Dz.of (by decide) rfl rfl (show Ez md_4_changeEnding 0 0 0 [(0, zr 4), (1, zi a1), (2, zi a2), (3, zi a3)] [] zSh μ none zSh (xx_changeEnding μ a1 a2 a3) from ?_)
  unfold xx_changeEnding
  refine Az.blk kd_4_changeEnding_0 (show Ez md_4_changeEnding 0 0 2 [(0, zr 4), (1, zi a1), (2, zi a2), (3, zi a3)] [zi 3, zi a1] zSh μ _ _ _ from ?_)
  refine Az.cSN (mc := md_5_isBelow) (n := 2) (As := [zi a1, zi 3]) (rest := []) kr_4_changeEnding_2 zw_393 ok_5_isBelow rfl rfl (xz_isBelow a1 3 (by omega) (by omega)) rfl rfl (show Ez md_4_changeEnding 0 0 5 [(0, zr 4), (1, zi a1), (2, zi a2), (3, zi a3)] [zi (xx_isBelow a1 3)] zSh μ _ _ _ from ?_)
  have r1 : 0 ≤ (xx_isBelow a1 3) ∧ (xx_isBelow a1 3) ≤ 1 ∧ ((xx_isBelow a1 3) = 1 → 0 ≤ a1 ∧ a1 < (3 : Int)) := xr_isBelow a1 3 (by omega) (by omega)
  refine Az.blk kd_4_changeEnding_5 (show zR (xx_isBelow a1 3) ∧ (((xx_isBelow a1 3) = 0 → Ez md_4_changeEnding 0 0 29 [(0, zr 4), (1, zi a1), (2, zi a2), (3, zi a3)] [] zSh μ _ _ _) ∧ (¬ (xx_isBelow a1 3) = 0 → Ez md_4_changeEnding 0 0 8 [(0, zr 4), (1, zi a1), (2, zi a2), (3, zi a3)] [] zSh μ _ _ _)) from ⟨(by omega), fun c2 => ?_, fun c2 => ?_⟩)
  · rw [if_pos c2]
    exact Ez.vret kr_4_changeEnding_29 rfl (Nat.zero_le _) (Nat.zero_le _) rfl rfl
  · rw [if_neg c2]
    refine Az.blk kd_4_changeEnding_8 (show Ez md_4_changeEnding 0 0 11 [(0, zr 4), (1, zi a1), (2, zi a2), (3, zi a3)] [zi 6, zi a2] zSh μ _ _ _ from ?_)
    refine Az.cSN (mc := md_5_isBelow) (n := 2) (As := [zi a2, zi 6]) (rest := []) kr_4_changeEnding_11 zw_393 ok_5_isBelow rfl rfl (xz_isBelow a2 6 (by omega) (by omega)) rfl rfl (show Ez md_4_changeEnding 0 0 14 [(0, zr 4), (1, zi a1), (2, zi a2), (3, zi a3)] [zi (xx_isBelow a2 6)] zSh μ _ _ _ from ?_)
    have r3 : 0 ≤ (xx_isBelow a2 6) ∧ (xx_isBelow a2 6) ≤ 1 ∧ ((xx_isBelow a2 6) = 1 → 0 ≤ a2 ∧ a2 < (6 : Int)) := xr_isBelow a2 6 (by omega) (by omega)
    refine Az.blk kd_4_changeEnding_14 (show zR (xx_isBelow a2 6) ∧ (((xx_isBelow a2 6) = 0 → Ez md_4_changeEnding 0 0 29 [(0, zr 4), (1, zi a1), (2, zi a2), (3, zi a3)] [] zSh μ _ _ _) ∧ (¬ (xx_isBelow a2 6) = 0 → Ez md_4_changeEnding 0 0 17 [(0, zr 4), (1, zi a1), (2, zi a2), (3, zi a3)] [] zSh μ _ _ _)) from ⟨(by omega), fun c4 => ?_, fun c4 => ?_⟩)
    · rw [if_pos c4]
      exact Ez.vret kr_4_changeEnding_29 rfl (Nat.zero_le _) (Nat.zero_le _) rfl rfl
    · rw [if_neg c4]
      refine Az.blk kd_4_changeEnding_17 (show (0 ≤ ((a1 * 6) + a2) ∧ ((a1 * 6) + a2) < 18) ∧ Ez md_4_changeEnding 0 0 29 [(0, zr 4), (1, zi a1), (2, zi a2), (3, zi a3)] [] zSh (zup μ 9 ((a1 * 6) + a2) a3) _ _ _ from ⟨(by omega), ?_⟩)
      exact Ez.vret kr_4_changeEnding_29 rfl (Nat.zero_le _) (Nat.zero_le _) rfl rfl
def kb_2_addHole_0 : List zI := [(.iload_n 1, 1, 0, 0), (.bipush 20, 2, 0, 0)]
theorem kd_2_addHole_0 : zdec md_2_addHole 0 kb_2_addHole_0 = true := by decide +kernel
theorem kr_2_addHole_3 : decode md_2_addHole.2.1 3 = .ok (.invokestatic 73, 3) := by decide +kernel
def kb_2_addHole_6 : List zI := [(.ifCond .eq 12, 3, 18, 0)]
theorem kd_2_addHole_6 : zdec md_2_addHole 6 kb_2_addHole_6 = true := by decide +kernel
theorem kr_2_addHole_18 : decode md_2_addHole.2.1 18 = .ok (.return_, 1) := by decide +kernel
def kb_2_addHole_9 : List zI := [(.aload_n 0, 1, 0, 0), (.getfield 15, 3, 2, 1), (.bipush 20, 2, 0, 0), (.if_icmp .lt 4, 3, 19, 0)]
theorem kd_2_addHole_9 : zdec md_2_addHole 9 kb_2_addHole_9 = true := by decide +kernel
def kb_2_addHole_19 : List zI := [(.aload_n 0, 1, 0, 0), (.getfield 18, 3, 2, 2), (.iload_n 1, 1, 0, 0), (.aload_n 0, 1, 0, 0), (.getfield 15, 3, 2, 1), (.iastore, 1, 0, 0), (.aload_n 0, 1, 0, 0), (.getfield 31, 3, 2, 6), (.aload_n 0, 1, 0, 0), (.getfield 15, 3, 2, 1), (.iload_n 2, 1, 0, 0), (.iastore, 1, 0, 0), (.aload_n 0, 1, 0, 0), (.getfield 34, 3, 2, 7), (.aload_n 0, 1, 0, 0), (.getfield 15, 3, 2, 1), (.iload_n 3, 1, 0, 0), (.iastore, 1, 0, 0), (.aload_n 0, 1, 0, 0), (.getfield 37, 3, 2, 8), (.aload_n 0, 1, 0, 0), (.getfield 15, 3, 2, 1), (.iload_n 1, 1, 0, 0), (.iastore, 1, 0, 0), (.aload_n 0, 1, 0, 0), (.getfield 40, 3, 2, 9), (.aload_n 0, 1, 0, 0), (.getfield 15, 3, 2, 1), (.iconst (-1), 1, 0, 0), (.iastore, 1, 0, 0), (.aload_n 0, 1, 0, 0), (.dup, 1, 0, 0), (.getfield 15, 3, 2, 1), (.iconst 1, 1, 0, 0), (.iadd, 1, 0, 0), (.putfield 15, 3, 2, 1)]
theorem kd_2_addHole_19 : zdec md_2_addHole 19 kb_2_addHole_19 = true := by decide +kernel
theorem kr_2_addHole_79 : decode md_2_addHole.2.1 79 = .ok (.return_, 1) := by decide +kernel
noncomputable def xx_addHole (μ : zM) (a1 a2 a3 : Int) : zM := (if (xx_isBelow a1 20) = 0 then μ else (if (μ 10 1) < 20 then (zup (zup (zup (zup (zup (zup μ 11 a1 (μ 10 1)) 15 (μ 10 1) a2) 16 (μ 10 1) a3) 17 (μ 10 1) a1) 18 (μ 10 1) (-1)) 10 1 ((μ 10 1) + 1)) else μ))
set_option maxHeartbeats 4000000 in
set_option maxRecDepth 100000 in
theorem xb_addHole {μ : zM} (hB : zB μ) (a1 a2 a3 : Int) (h0 : -2147483648 ≤ a1 ∧ a1 ≤ 2147483647) (h1 : -1 ≤ a2 ∧ a2 ≤ 2) (h2 : -1 ≤ a3 ∧ a3 ≤ 9) : zB (xx_addHole μ a1 a2 a3) := by
  unfold xx_addHole
  have r1 : 0 ≤ (xx_isBelow a1 20) ∧ (xx_isBelow a1 20) ≤ 1 ∧ ((xx_isBelow a1 20) = 1 → 0 ≤ a1 ∧ a1 < (20 : Int)) := xr_isBelow a1 20 (by omega) (by omega)
  by_cases c2 : (xx_isBelow a1 20) = 0
  · rw [if_pos c2]
    exact hB
  · rw [if_neg c2]
    have b3 : 0 ≤ (μ 10 1) ∧ (μ 10 1) ≤ 20 := hB 10 1
    by_cases c4 : (μ 10 1) < 20
    · rw [if_pos c4]
      have b5 : 0 ≤ (μ 10 1) ∧ (μ 10 1) ≤ 20 := hB 10 1
      have b6 : 0 ≤ (μ 10 1) ∧ (μ 10 1) ≤ 20 := hB 10 1
      have b7 : 0 ≤ (μ 10 1) ∧ (μ 10 1) ≤ 20 := hB 10 1
      have b8 : 0 ≤ (μ 10 1) ∧ (μ 10 1) ≤ 20 := hB 10 1
      have b9 : 0 ≤ (μ 10 1) ∧ (μ 10 1) ≤ 20 := hB 10 1
      have b10 : 0 ≤ (μ 10 1) ∧ (μ 10 1) ≤ 20 := hB 10 1
      exact (zup_ok (k := 10) (z := 1) (v := ((μ 10 1) + 1)) (zup_ok (k := 18) (z := (μ 10 1)) (v := (-1)) (zup_ok (k := 17) (z := (μ 10 1)) (v := a1) (zup_ok (k := 16) (z := (μ 10 1)) (v := a3) (zup_ok (k := 15) (z := (μ 10 1)) (v := a2) (zup_ok (k := 11) (z := a1) (v := (μ 10 1)) hB (show (-1) ≤ (μ 10 1) ∧ (μ 10 1) ≤ 19 from by omega)) (show (-1) ≤ a2 ∧ a2 ≤ 2 from by omega)) (show (-1) ≤ a3 ∧ a3 ≤ 9 from by omega)) (show 0 ≤ a1 ∧ a1 ≤ 19 from by omega)) (show (-1) ≤ (-1) ∧ (-1) ≤ 23 from by omega)) (show 0 ≤ ((μ 10 1) + 1) ∧ ((μ 10 1) + 1) ≤ 20 from by omega))
    · rw [if_neg c4]
      exact hB
set_option maxHeartbeats 4000000 in
set_option maxRecDepth 100000 in
theorem xz_addHole {μ : zM} (hB : zB μ) (a1 a2 a3 : Int) (h0 : -2147483648 ≤ a1 ∧ a1 ≤ 2147483647) (h1 : -1 ≤ a2 ∧ a2 ≤ 2) (h2 : -1 ≤ a3 ∧ a3 ≤ 9) : Dz md_2_addHole [zr 10, zi a1, zi a2, zi a3] zSh μ none zSh (xx_addHole μ a1 a2 a3) := by
  refine Dz.of (by decide) rfl rfl (show Ez md_2_addHole 0 0 0 [(0, zr 10), (1, zi a1), (2, zi a2), (3, zi a3)] [] zSh μ none zSh (xx_addHole μ a1 a2 a3) from ?_)
  unfold xx_addHole
  refine Az.blk kd_2_addHole_0 (show Ez md_2_addHole 0 0 3 [(0, zr 10), (1, zi a1), (2, zi a2), (3, zi a3)] [zi 20, zi a1] zSh μ _ _ _ from ?_)
  refine Az.cSN (mc := md_5_isBelow) (n := 2) (As := [zi a1, zi 20]) (rest := []) kr_2_addHole_3 zw_295 ok_5_isBelow rfl rfl (xz_isBelow a1 20 (by omega) (by omega)) rfl rfl (show Ez md_2_addHole 0 0 6 [(0, zr 10), (1, zi a1), (2, zi a2), (3, zi a3)] [zi (xx_isBelow a1 20)] zSh μ _ _ _ from ?_)
  have r1 : 0 ≤ (xx_isBelow a1 20) ∧ (xx_isBelow a1 20) ≤ 1 ∧ ((xx_isBelow a1 20) = 1 → 0 ≤ a1 ∧ a1 < (20 : Int)) := xr_isBelow a1 20 (by omega) (by omega)
  refine Az.blk kd_2_addHole_6 (show zR (xx_isBelow a1 20) ∧ (((xx_isBelow a1 20) = 0 → Ez md_2_addHole 0 0 18 [(0, zr 10), (1, zi a1), (2, zi a2), (3, zi a3)] [] zSh μ _ _ _) ∧ (¬ (xx_isBelow a1 20) = 0 → Ez md_2_addHole 0 0 9 [(0, zr 10), (1, zi a1), (2, zi a2), (3, zi a3)] [] zSh μ _ _ _)) from ⟨(by omega), fun c2 => ?_, fun c2 => ?_⟩)
  · rw [if_pos c2]
    exact Ez.vret kr_2_addHole_18 rfl (Nat.zero_le _) (Nat.zero_le _) rfl rfl
  · rw [if_neg c2]
    have b3 : 0 ≤ (μ 10 1) ∧ (μ 10 1) ≤ 20 := hB 10 1
    refine Az.blk kd_2_addHole_9 (show zR (μ 10 1) ∧ zR 20 ∧ (((μ 10 1) < 20 → Ez md_2_addHole 0 0 19 [(0, zr 10), (1, zi a1), (2, zi a2), (3, zi a3)] [] zSh μ _ _ _) ∧ (¬ (μ 10 1) < 20 → Ez md_2_addHole 0 0 18 [(0, zr 10), (1, zi a1), (2, zi a2), (3, zi a3)] [] zSh μ _ _ _)) from ⟨(by omega), (by omega), fun c4 => ?_, fun c4 => ?_⟩)
    · rw [if_pos c4]
      have b5 : 0 ≤ (μ 10 1) ∧ (μ 10 1) ≤ 20 := hB 10 1
      have b6 : 0 ≤ (μ 10 1) ∧ (μ 10 1) ≤ 20 := hB 10 1
      have b7 : 0 ≤ (μ 10 1) ∧ (μ 10 1) ≤ 20 := hB 10 1
      have b8 : 0 ≤ (μ 10 1) ∧ (μ 10 1) ≤ 20 := hB 10 1
      have b9 : 0 ≤ (μ 10 1) ∧ (μ 10 1) ≤ 20 := hB 10 1
      have b10 : 0 ≤ (μ 10 1) ∧ (μ 10 1) ≤ 20 := hB 10 1
      refine Az.blk kd_2_addHole_19 (show (0 ≤ a1 ∧ a1 < 20) ∧ (0 ≤ (μ 10 1) ∧ (μ 10 1) < 20) ∧ (0 ≤ (μ 10 1) ∧ (μ 10 1) < 20) ∧ (0 ≤ (μ 10 1) ∧ (μ 10 1) < 20) ∧ (0 ≤ (μ 10 1) ∧ (μ 10 1) < 20) ∧ Ez md_2_addHole 0 0 79 [(0, zr 10), (1, zi a1), (2, zi a2), (3, zi a3)] [] zSh (zup (zup (zup (zup (zup (zup μ 11 a1 (μ 10 1)) 15 (μ 10 1) a2) 16 (μ 10 1) a3) 17 (μ 10 1) a1) 18 (μ 10 1) (-1)) 10 1 ((μ 10 1) + 1)) _ _ _ from ⟨(by omega), (by omega), (by omega), (by omega), (by omega), ?_⟩)
      exact Ez.vret kr_2_addHole_79 rfl (Nat.zero_le _) (Nat.zero_le _) rfl rfl
    · rw [if_neg c4]
      exact Ez.vret kr_2_addHole_18 rfl (Nat.zero_le _) (Nat.zero_le _) rfl rfl
def kb_1_putIn_0 : List zI := [(.aload_n 0, 1, 0, 0), (.getfield 21, 3, 1, 1), (.iload_n 1, 1, 0, 0)]
theorem kd_1_putIn_0 : zdec md_1_putIn 0 kb_1_putIn_0 = true := by decide +kernel
theorem kr_1_putIn_5 : decode md_1_putIn.2.1 5 = .ok (.invokevirtual 104, 3) := by decide +kernel
def kb_1_putIn_8 : List zI := [(.ifCond .eq 23, 3, 31, 0)]
theorem kd_1_putIn_8 : zdec md_1_putIn 8 kb_1_putIn_8 = true := by decide +kernel
theorem kr_1_putIn_31 : decode md_1_putIn.2.1 31 = .ok (.return_, 1) := by decide +kernel
def kb_1_putIn_11 : List zI := [(.aload_n 0, 1, 0, 0), (.getfield 21, 3, 1, 1), (.getfield 107, 3, 2, 9), (.iload_n 1, 1, 0, 0), (.iload_n 2, 1, 0, 0), (.iastore, 1, 0, 0), (.aload_n 0, 1, 0, 0), (.dup, 1, 0, 0), (.getfield 36, 3, 1, 5), (.iconst 1, 1, 0, 0), (.iadd, 1, 0, 0), (.putfield 36, 3, 1, 5)]
theorem kd_1_putIn_11 : zdec md_1_putIn 11 kb_1_putIn_11 = true := by decide +kernel
noncomputable def xx_putIn (μ : zM) (a1 a2 : Int) : zM := (if (xx_hasHole μ a1) = 0 then μ else (zup (zup μ 18 a1 a2) 3 5 ((μ 3 5) + 1)))
set_option maxHeartbeats 4000000 in
set_option maxRecDepth 100000 in
theorem xb_putIn {μ : zM} (hB : zB μ) (a1 a2 : Int) (h0 : -2147483648 ≤ a1 ∧ a1 ≤ 2147483647) (h1 : -1 ≤ a2 ∧ a2 ≤ 23) : zB (xx_putIn μ a1 a2) := by
  unfold xx_putIn
  have r1 : 0 ≤ (xx_hasHole μ a1) ∧ (xx_hasHole μ a1) ≤ 1 ∧ ((xx_hasHole μ a1) = 1 → 0 ≤ a1 ∧ a1 < μ 10 1 ∧ a1 < 20) := xr_hasHole hB a1 (by omega)
  by_cases c2 : (xx_hasHole μ a1) = 0
  · rw [if_pos c2]
    exact hB
  · rw [if_neg c2]
    exact (zup_ok (k := 3) (z := 5) (v := ((μ 3 5) + 1)) (zup_ok (k := 18) (z := a1) (v := a2) hB (show (-1) ≤ a2 ∧ a2 ≤ 23 from by omega)) trivial)
set_option maxHeartbeats 4000000 in
set_option maxRecDepth 100000 in
theorem xz_putIn {μ : zM} (hB : zB μ) (a1 a2 : Int) (h0 : -2147483648 ≤ a1 ∧ a1 ≤ 2147483647) (h1 : -1 ≤ a2 ∧ a2 ≤ 23) : Dz md_1_putIn [zr 3, zi a1, zi a2] zSh μ none zSh (xx_putIn μ a1 a2) := by
  refine Dz.of (by decide) rfl rfl (show Ez md_1_putIn 0 0 0 [(0, zr 3), (1, zi a1), (2, zi a2)] [] zSh μ none zSh (xx_putIn μ a1 a2) from ?_)
  unfold xx_putIn
  refine Az.blk kd_1_putIn_0 (show Ez md_1_putIn 0 0 5 [(0, zr 3), (1, zi a1), (2, zi a2)] [zi a1, zr 10] zSh μ _ _ _ from ?_)
  refine Az.cVN (mc := md_2_hasHole) (k := 10) (n := 1) (As := [zi a1]) (rest := []) kr_1_putIn_5 zw_503 ok_2_hasHole rfl rfl rfl trivial (xz_hasHole hB a1 (by omega)) rfl rfl (show Ez md_1_putIn 0 0 8 [(0, zr 3), (1, zi a1), (2, zi a2)] [zi (xx_hasHole μ a1)] zSh μ _ _ _ from ?_)
  have r1 : 0 ≤ (xx_hasHole μ a1) ∧ (xx_hasHole μ a1) ≤ 1 ∧ ((xx_hasHole μ a1) = 1 → 0 ≤ a1 ∧ a1 < μ 10 1 ∧ a1 < 20) := xr_hasHole hB a1 (by omega)
  refine Az.blk kd_1_putIn_8 (show zR (xx_hasHole μ a1) ∧ (((xx_hasHole μ a1) = 0 → Ez md_1_putIn 0 0 31 [(0, zr 3), (1, zi a1), (2, zi a2)] [] zSh μ _ _ _) ∧ (¬ (xx_hasHole μ a1) = 0 → Ez md_1_putIn 0 0 11 [(0, zr 3), (1, zi a1), (2, zi a2)] [] zSh μ _ _ _)) from ⟨(by omega), fun c2 => ?_, fun c2 => ?_⟩)
  · rw [if_pos c2]
    exact Ez.vret kr_1_putIn_31 rfl (Nat.zero_le _) (Nat.zero_le _) rfl rfl
  · rw [if_neg c2]
    refine Az.blk kd_1_putIn_11 (show (0 ≤ a1 ∧ a1 < 20) ∧ Ez md_1_putIn 0 0 31 [(0, zr 3), (1, zi a1), (2, zi a2)] [] zSh (zup (zup μ 18 a1 a2) 3 5 ((μ 3 5) + 1)) _ _ _ from ⟨(by omega), ?_⟩)
    exact Ez.vret kr_1_putIn_31 rfl (Nat.zero_le _) (Nat.zero_le _) rfl rfl
def kb_1_fillEmptyHoles_0 : List zI := [(.iconst 0, 1, 0, 0), (.istore_n 1, 1, 0, 0), (.iconst 0, 1, 0, 0), (.istore_n 2, 1, 0, 0)]
theorem kd_1_fillEmptyHoles_0 : zdec md_1_fillEmptyHoles 0 kb_1_fillEmptyHoles_0 = true := by decide +kernel
def kb_1_fillEmptyHoles_4 : List zI := [(.iload_n 2, 1, 0, 0), (.aload_n 0, 1, 0, 0), (.getfield 21, 3, 1, 1), (.getfield 89, 3, 2, 1), (.if_icmp .ge 44, 3, 56, 0)]
theorem kd_1_fillEmptyHoles_4 : zdec md_1_fillEmptyHoles 4 kb_1_fillEmptyHoles_4 = true := by decide +kernel
def kb_1_fillEmptyHoles_56 : List zI := [(.iload_n 1, 1, 0, 0)]
theorem kd_1_fillEmptyHoles_56 : zdec md_1_fillEmptyHoles 56 kb_1_fillEmptyHoles_56 = true := by decide +kernel
theorem kr_1_fillEmptyHoles_57 : decode md_1_fillEmptyHoles.2.1 57 = .ok (.ireturn, 1) := by decide +kernel
def kb_1_fillEmptyHoles_15 : List zI := [(.aload_n 0, 1, 0, 0), (.getfield 21, 3, 1, 1), (.iload_n 2, 1, 0, 0)]
theorem kd_1_fillEmptyHoles_15 : zdec md_1_fillEmptyHoles 15 kb_1_fillEmptyHoles_15 = true := by decide +kernel
theorem kr_1_fillEmptyHoles_20 : decode md_1_fillEmptyHoles.2.1 20 = .ok (.invokevirtual 76, 3) := by decide +kernel
def kb_1_fillEmptyHoles_23 : List zI := [(.ifCond .eq 11, 3, 34, 0)]
theorem kd_1_fillEmptyHoles_23 : zdec md_1_fillEmptyHoles 23 kb_1_fillEmptyHoles_23 = true := by decide +kernel
def kb_1_fillEmptyHoles_34 : List zI := [(.iconst (-1), 1, 0, 0), (.istore_n 3, 1, 0, 0), (.iload_n 3, 1, 0, 0), (.iconst (-1), 1, 0, 0), (.if_icmp .eq 12, 3, 50, 0)]
theorem kd_1_fillEmptyHoles_34 : zdec md_1_fillEmptyHoles 34 kb_1_fillEmptyHoles_34 = true := by decide +kernel
def kb_1_fillEmptyHoles_50 : List zI := [(.iinc 2 1, 3, 0, 0), (.goto (-49), 3, 4, 0)]
theorem kd_1_fillEmptyHoles_50 : zdec md_1_fillEmptyHoles 50 kb_1_fillEmptyHoles_50 = true := by decide +kernel
def kb_1_fillEmptyHoles_41 : List zI := [(.aload_n 0, 1, 0, 0), (.iload_n 2, 1, 0, 0), (.iload_n 3, 1, 0, 0)]
theorem kd_1_fillEmptyHoles_41 : zdec md_1_fillEmptyHoles 41 kb_1_fillEmptyHoles_41 = true := by decide +kernel
theorem kr_1_fillEmptyHoles_44 : decode md_1_fillEmptyHoles.2.1 44 = .ok (.invokevirtual 119, 3) := by decide +kernel
def kb_1_fillEmptyHoles_47 : List zI := [(.iinc 1 1, 3, 0, 0), (.iinc 2 1, 3, 0, 0), (.goto (-49), 3, 4, 0)]
theorem kd_1_fillEmptyHoles_47 : zdec md_1_fillEmptyHoles 47 kb_1_fillEmptyHoles_47 = true := by decide +kernel
def kb_1_fillEmptyHoles_26 : List zI := [(.aload_n 0, 1, 0, 0), (.iload_n 2, 1, 0, 0)]
theorem kd_1_fillEmptyHoles_26 : zdec md_1_fillEmptyHoles 26 kb_1_fillEmptyHoles_26 = true := by decide +kernel
theorem kr_1_fillEmptyHoles_28 : decode md_1_fillEmptyHoles.2.1 28 = .ok (.invokevirtual 116, 3) := by decide +kernel
def kb_1_fillEmptyHoles_31 : List zI := [(.goto 4, 3, 35, 0)]
theorem kd_1_fillEmptyHoles_31 : zdec md_1_fillEmptyHoles 31 kb_1_fillEmptyHoles_31 = true := by decide +kernel
def kb_1_fillEmptyHoles_35 : List zI := [(.istore_n 3, 1, 0, 0), (.iload_n 3, 1, 0, 0), (.iconst (-1), 1, 0, 0), (.if_icmp .eq 12, 3, 50, 0)]
theorem kd_1_fillEmptyHoles_35 : zdec md_1_fillEmptyHoles 35 kb_1_fillEmptyHoles_35 = true := by decide +kernel
noncomputable def xx_fillEmptyHoles_4 : Nat → zM → Int → Int → Int × zM
  | 0, μ, _, _ => (0, μ)
  | f + 1, μ, l1, l2 => (if l2 < (μ 10 1) then (if (xx_isEmptyHole μ l2) = 0 then (if ((-1) : Int) = (-1) then (xx_fillEmptyHoles_4 f μ l1 (l2 + 1)) else (xx_fillEmptyHoles_4 f (xx_putIn μ l2 (-1)) (l1 + 1) (l2 + 1))) else (if (xx_lowestFitting μ l2) = (-1) then (xx_fillEmptyHoles_4 f μ l1 (l2 + 1)) else (xx_fillEmptyHoles_4 f (xx_putIn μ l2 (xx_lowestFitting μ l2)) (l1 + 1) (l2 + 1)))) else (l1, μ))
noncomputable def xx_fillEmptyHoles (μ : zM) : Int × zM := (xx_fillEmptyHoles_4 zN μ 0 0)
set_option maxHeartbeats 4000000 in
set_option maxRecDepth 100000 in
theorem xb_fillEmptyHoles_4 (f : Nat) (μ : zM) (hB : zB μ) (l1 : Int) (l2 : Int) (i0 : 0 ≤ l2 ∧ l2 ≤ 20) (hf : 20 - l2 < (f : Int)) : zB (xx_fillEmptyHoles_4 f μ l1 l2).2 := by
  induction f generalizing μ l1 l2 with
  | zero => exfalso; omega
  | succ f ih =>
    replace hf : 20 - l2 < (f : Int) + 1 := by omega
    rw [xx_fillEmptyHoles_4]
    have b1 : 0 ≤ (μ 10 1) ∧ (μ 10 1) ≤ 20 := hB 10 1
    by_cases c2 : l2 < (μ 10 1)
    · rw [if_pos c2]
      have r3 : 0 ≤ (xx_isEmptyHole μ l2) ∧ (xx_isEmptyHole μ l2) ≤ 1 := xr_isEmptyHole hB l2 (by omega)
      by_cases c4 : (xx_isEmptyHole μ l2) = 0
      · rw [if_pos c4]
        by_cases c5 : ((-1) : Int) = (-1)
        · rw [if_pos c5]
          exact ih μ hB l1 (l2 + 1) (by omega) (by omega)
        · rw [if_neg c5]
          exact ih ((xx_putIn μ l2 (-1))) (xb_putIn hB l2 (-1) (by omega) (by omega)) (l1 + 1) (l2 + 1) (by omega) (by omega)
      · rw [if_neg c4]
        have r6 : -1 ≤ (xx_lowestFitting μ l2) ∧ (xx_lowestFitting μ l2) ≤ 23 := xr_lowestFitting hB l2 (by omega)
        by_cases c7 : (xx_lowestFitting μ l2) = (-1)
        · rw [if_pos c7]
          exact ih μ hB l1 (l2 + 1) (by omega) (by omega)
        · rw [if_neg c7]
          exact ih ((xx_putIn μ l2 (xx_lowestFitting μ l2))) (xb_putIn hB l2 (xx_lowestFitting μ l2) (by omega) (by omega)) (l1 + 1) (l2 + 1) (by omega) (by omega)
    · rw [if_neg c2]
      exact hB
set_option maxHeartbeats 4000000 in
set_option maxRecDepth 100000 in
theorem xb_fillEmptyHoles {μ : zM} (hB : zB μ)  : zB (xx_fillEmptyHoles μ).2 := by
  unfold xx_fillEmptyHoles
  have fb : (3000 : Int) ≤ ((zN : Nat) : Int) := zN_big
  exact xb_fillEmptyHoles_4 zN μ hB 0 0 (by omega) (by omega)
set_option maxHeartbeats 4000000 in
set_option maxRecDepth 100000 in
theorem xz_fillEmptyHoles_4 (f : Nat) (μ : zM) (hB : zB μ) (l1 : Int) (l2 : Int) (i0 : 0 ≤ l2 ∧ l2 ≤ 20) (hf : 20 - l2 < (f : Int)) : Ez md_1_fillEmptyHoles 0 0 4 [(0, zr 3), (1, zi l1), (2, zi l2)] [] zSh μ (some (zi (xx_fillEmptyHoles_4 f μ l1 l2).1)) zSh (xx_fillEmptyHoles_4 f μ l1 l2).2 := by
  induction f generalizing μ l1 l2 with
  | zero => exfalso; omega
  | succ f ih =>
    replace hf : 20 - l2 < (f : Int) + 1 := by omega
    rw [xx_fillEmptyHoles_4]
    have b1 : 0 ≤ (μ 10 1) ∧ (μ 10 1) ≤ 20 := hB 10 1
    refine Az.blk kd_1_fillEmptyHoles_4 (show zR l2 ∧ zR (μ 10 1) ∧ ((¬ l2 < (μ 10 1) → Ez md_1_fillEmptyHoles 0 0 56 [(0, zr 3), (1, zi l1), (2, zi l2)] [] zSh μ _ _ _) ∧ (l2 < (μ 10 1) → Ez md_1_fillEmptyHoles 0 0 15 [(0, zr 3), (1, zi l1), (2, zi l2)] [] zSh μ _ _ _)) from ⟨(by omega), (by omega), fun c2 => ?_, fun c2 => ?_⟩)
    · rw [if_neg c2]
      refine Az.blk kd_1_fillEmptyHoles_56 (show Ez md_1_fillEmptyHoles 0 0 57 [(0, zr 3), (1, zi l1), (2, zi l2)] [zi l1] zSh μ _ _ _ from ?_)
      exact Ez.iret kr_1_fillEmptyHoles_57 rfl (Nat.zero_le _) (Nat.zero_le _) rfl rfl
    · rw [if_pos c2]
      refine Az.blk kd_1_fillEmptyHoles_15 (show Ez md_1_fillEmptyHoles 0 0 20 [(0, zr 3), (1, zi l1), (2, zi l2)] [zi l2, zr 10] zSh μ _ _ _ from ?_)
      refine Az.cVN (mc := md_2_isEmptyHole) (k := 10) (n := 1) (As := [zi l2]) (rest := []) kr_1_fillEmptyHoles_20 zw_335 ok_2_isEmptyHole rfl rfl rfl trivial (xz_isEmptyHole hB l2 (by omega)) rfl rfl (show Ez md_1_fillEmptyHoles 0 0 23 [(0, zr 3), (1, zi l1), (2, zi l2)] [zi (xx_isEmptyHole μ l2)] zSh μ _ _ _ from ?_)
      have r3 : 0 ≤ (xx_isEmptyHole μ l2) ∧ (xx_isEmptyHole μ l2) ≤ 1 := xr_isEmptyHole hB l2 (by omega)
      refine Az.blk kd_1_fillEmptyHoles_23 (show zR (xx_isEmptyHole μ l2) ∧ (((xx_isEmptyHole μ l2) = 0 → Ez md_1_fillEmptyHoles 0 0 34 [(0, zr 3), (1, zi l1), (2, zi l2)] [] zSh μ _ _ _) ∧ (¬ (xx_isEmptyHole μ l2) = 0 → Ez md_1_fillEmptyHoles 0 0 26 [(0, zr 3), (1, zi l1), (2, zi l2)] [] zSh μ _ _ _)) from ⟨(by omega), fun c4 => ?_, fun c4 => ?_⟩)
      · rw [if_pos c4]
        refine Az.blk kd_1_fillEmptyHoles_34 (show zR (-1) ∧ zR (-1) ∧ ((((-1) : Int) = (-1) → Ez md_1_fillEmptyHoles 0 0 50 [(3, zi (-1)), (0, zr 3), (1, zi l1), (2, zi l2)] [] zSh μ _ _ _) ∧ (¬ ((-1) : Int) = (-1) → Ez md_1_fillEmptyHoles 0 0 41 [(3, zi (-1)), (0, zr 3), (1, zi l1), (2, zi l2)] [] zSh μ _ _ _)) from ⟨(by omega), (by omega), fun c5 => ?_, fun c5 => ?_⟩)
        · rw [if_pos c5]
          refine Az.blk kd_1_fillEmptyHoles_50 (show Ez md_1_fillEmptyHoles 0 0 4 [(2, zi (l2 + 1)), (3, zi (-1)), (0, zr 3), (1, zi l1)] [] zSh μ _ _ _ from ?_)
          refine Az.lvs (lv' := [(0, zr 3), (1, zi l1), (2, zi (l2 + 1))]) ?_ ?_
          · intro q hq; simp only [List.mem_cons, List.not_mem_nil, or_false] at hq; rcases hq with rfl | rfl | rfl <;> rfl
          exact ih μ hB l1 (l2 + 1) (by omega) (by omega)
        · rw [if_neg c5]
          refine Az.blk kd_1_fillEmptyHoles_41 (show Ez md_1_fillEmptyHoles 0 0 44 [(3, zi (-1)), (0, zr 3), (1, zi l1), (2, zi l2)] [zi (-1), zi l2, zr 3] zSh μ _ _ _ from ?_)
          refine Az.cV (mc := md_1_putIn) (k := 3) (n := 2) (As := [zi l2, zi (-1)]) (rest := []) kr_1_fillEmptyHoles_44 zw_525 ok_1_putIn rfl rfl rfl trivial (xz_putIn hB l2 (-1) (by omega) (by omega)) rfl rfl (show Ez md_1_fillEmptyHoles 0 0 47 [(3, zi (-1)), (0, zr 3), (1, zi l1), (2, zi l2)] [] zSh (xx_putIn μ l2 (-1)) _ _ _ from ?_)
          refine Az.blk kd_1_fillEmptyHoles_47 (show Ez md_1_fillEmptyHoles 0 0 4 [(2, zi (l2 + 1)), (1, zi (l1 + 1)), (3, zi (-1)), (0, zr 3)] [] zSh (xx_putIn μ l2 (-1)) _ _ _ from ?_)
          refine Az.lvs (lv' := [(0, zr 3), (1, zi (l1 + 1)), (2, zi (l2 + 1))]) ?_ ?_
          · intro q hq; simp only [List.mem_cons, List.not_mem_nil, or_false] at hq; rcases hq with rfl | rfl | rfl <;> rfl
          exact ih ((xx_putIn μ l2 (-1))) (xb_putIn hB l2 (-1) (by omega) (by omega)) (l1 + 1) (l2 + 1) (by omega) (by omega)
      · rw [if_neg c4]
        refine Az.blk kd_1_fillEmptyHoles_26 (show Ez md_1_fillEmptyHoles 0 0 28 [(0, zr 3), (1, zi l1), (2, zi l2)] [zi l2, zr 3] zSh μ _ _ _ from ?_)
        refine Az.cV (mc := md_1_lowestFitting) (k := 3) (n := 1) (As := [zi l2]) (rest := []) kr_1_fillEmptyHoles_28 zw_516 ok_1_lowestFitting rfl rfl rfl trivial (xz_lowestFitting hB l2 (by omega)) rfl rfl (show Ez md_1_fillEmptyHoles 0 0 31 [(0, zr 3), (1, zi l1), (2, zi l2)] [zi (xx_lowestFitting μ l2)] zSh μ _ _ _ from ?_)
        have r6 : -1 ≤ (xx_lowestFitting μ l2) ∧ (xx_lowestFitting μ l2) ≤ 23 := xr_lowestFitting hB l2 (by omega)
        refine Az.blk kd_1_fillEmptyHoles_31 (show Ez md_1_fillEmptyHoles 0 0 35 [(0, zr 3), (1, zi l1), (2, zi l2)] [zi (xx_lowestFitting μ l2)] zSh μ _ _ _ from ?_)
        refine Az.blk kd_1_fillEmptyHoles_35 (show zR (xx_lowestFitting μ l2) ∧ zR (-1) ∧ (((xx_lowestFitting μ l2) = (-1) → Ez md_1_fillEmptyHoles 0 0 50 [(3, zi (xx_lowestFitting μ l2)), (0, zr 3), (1, zi l1), (2, zi l2)] [] zSh μ _ _ _) ∧ (¬ (xx_lowestFitting μ l2) = (-1) → Ez md_1_fillEmptyHoles 0 0 41 [(3, zi (xx_lowestFitting μ l2)), (0, zr 3), (1, zi l1), (2, zi l2)] [] zSh μ _ _ _)) from ⟨(by omega), (by omega), fun c7 => ?_, fun c7 => ?_⟩)
        · rw [if_pos c7]
          refine Az.blk kd_1_fillEmptyHoles_50 (show Ez md_1_fillEmptyHoles 0 0 4 [(2, zi (l2 + 1)), (3, zi (xx_lowestFitting μ l2)), (0, zr 3), (1, zi l1)] [] zSh μ _ _ _ from ?_)
          refine Az.lvs (lv' := [(0, zr 3), (1, zi l1), (2, zi (l2 + 1))]) ?_ ?_
          · intro q hq; simp only [List.mem_cons, List.not_mem_nil, or_false] at hq; rcases hq with rfl | rfl | rfl <;> rfl
          exact ih μ hB l1 (l2 + 1) (by omega) (by omega)
        · rw [if_neg c7]
          refine Az.blk kd_1_fillEmptyHoles_41 (show Ez md_1_fillEmptyHoles 0 0 44 [(3, zi (xx_lowestFitting μ l2)), (0, zr 3), (1, zi l1), (2, zi l2)] [zi (xx_lowestFitting μ l2), zi l2, zr 3] zSh μ _ _ _ from ?_)
          refine Az.cV (mc := md_1_putIn) (k := 3) (n := 2) (As := [zi l2, zi (xx_lowestFitting μ l2)]) (rest := []) kr_1_fillEmptyHoles_44 zw_525 ok_1_putIn rfl rfl rfl trivial (xz_putIn hB l2 (xx_lowestFitting μ l2) (by omega) (by omega)) rfl rfl (show Ez md_1_fillEmptyHoles 0 0 47 [(3, zi (xx_lowestFitting μ l2)), (0, zr 3), (1, zi l1), (2, zi l2)] [] zSh (xx_putIn μ l2 (xx_lowestFitting μ l2)) _ _ _ from ?_)
          refine Az.blk kd_1_fillEmptyHoles_47 (show Ez md_1_fillEmptyHoles 0 0 4 [(2, zi (l2 + 1)), (1, zi (l1 + 1)), (3, zi (xx_lowestFitting μ l2)), (0, zr 3)] [] zSh (xx_putIn μ l2 (xx_lowestFitting μ l2)) _ _ _ from ?_)
          refine Az.lvs (lv' := [(0, zr 3), (1, zi (l1 + 1)), (2, zi (l2 + 1))]) ?_ ?_
          · intro q hq; simp only [List.mem_cons, List.not_mem_nil, or_false] at hq; rcases hq with rfl | rfl | rfl <;> rfl
          exact ih ((xx_putIn μ l2 (xx_lowestFitting μ l2))) (xb_putIn hB l2 (xx_lowestFitting μ l2) (by omega) (by omega)) (l1 + 1) (l2 + 1) (by omega) (by omega)
set_option maxHeartbeats 4000000 in
set_option maxRecDepth 100000 in
theorem xz_fillEmptyHoles {μ : zM} (hB : zB μ)  : Dz md_1_fillEmptyHoles [zr 3] zSh μ (some (zi (xx_fillEmptyHoles μ).1)) zSh (xx_fillEmptyHoles μ).2 := by
  refine Dz.of (by decide) rfl rfl (show Ez md_1_fillEmptyHoles 0 0 0 [(0, zr 3)] [] zSh μ (some (zi (xx_fillEmptyHoles μ).1)) zSh (xx_fillEmptyHoles μ).2 from ?_)
  unfold xx_fillEmptyHoles
  refine Az.blk kd_1_fillEmptyHoles_0 (show Ez md_1_fillEmptyHoles 0 0 4 [(2, zi 0), (1, zi 0), (0, zr 3)] [] zSh μ _ _ _ from ?_)
  refine Az.lvs (lv' := [(0, zr 3), (1, zi 0), (2, zi 0)]) ?_ ?_
  · intro q hq; simp only [List.mem_cons, List.not_mem_nil, or_false] at hq; rcases hq with rfl | rfl | rfl <;> rfl
  have fb : (3000 : Int) ≤ ((zN : Nat) : Int) := zN_big
  exact xz_fillEmptyHoles_4 zN μ hB 0 0 (by omega) (by omega)
def kb_3_append_0 : List zI := [(.aload_n 0, 1, 0, 0), (.getfield 15, 3, 3, 1), (.bipush 60, 2, 0, 0), (.if_icmp .ge 23, 3, 29, 0)]
theorem kd_3_append_0 : zdec md_3_append 0 kb_3_append_0 = true := by decide +kernel
theorem kr_3_append_29 : decode md_3_append.2.1 29 = .ok (.return_, 1) := by decide +kernel
def kb_3_append_9 : List zI := [(.aload_n 0, 1, 0, 0), (.getfield 9, 3, 3, 0), (.aload_n 0, 1, 0, 0), (.getfield 15, 3, 3, 1), (.iload_n 1, 1, 0, 0), (.castore, 1, 0, 0), (.aload_n 0, 1, 0, 0), (.dup, 1, 0, 0), (.getfield 15, 3, 3, 1), (.iconst 1, 1, 0, 0), (.iadd, 1, 0, 0), (.putfield 15, 3, 3, 1)]
theorem kd_3_append_9 : zdec md_3_append 9 kb_3_append_9 = true := by decide +kernel
noncomputable def xx_append (μ : zM) (a1 : Int) : zM := (if (μ 1 1) < 60 then (zup (zup μ 2 (μ 1 1) a1) 1 1 ((μ 1 1) + 1)) else μ)
set_option maxHeartbeats 4000000 in
set_option maxRecDepth 100000 in
theorem xb_append {μ : zM} (hB : zB μ) (a1 : Int) (h0 : 0 ≤ a1 ∧ a1 ≤ 65535) : zB (xx_append μ a1) := by
  unfold xx_append
  have b1 : 0 ≤ (μ 1 1) ∧ (μ 1 1) ≤ 60 := hB 1 1
  by_cases c2 : (μ 1 1) < 60
  · rw [if_pos c2]
    have b3 : 0 ≤ (μ 1 1) ∧ (μ 1 1) ≤ 60 := hB 1 1
    have b4 : 0 ≤ (μ 1 1) ∧ (μ 1 1) ≤ 60 := hB 1 1
    exact (zup_ok (k := 1) (z := 1) (v := ((μ 1 1) + 1)) (zup_ok (k := 2) (z := (μ 1 1)) (v := a1) hB (show 0 ≤ a1 ∧ a1 ≤ 65535 from by omega)) (show 0 ≤ ((μ 1 1) + 1) ∧ ((μ 1 1) + 1) ≤ 60 from by omega))
  · rw [if_neg c2]
    exact hB
set_option maxHeartbeats 4000000 in
set_option maxRecDepth 100000 in
theorem xz_append {μ : zM} (hB : zB μ) (a1 : Int) (h0 : 0 ≤ a1 ∧ a1 ≤ 65535) : Dz md_3_append [zr 1, zi a1] zSh μ none zSh (xx_append μ a1) := by
  refine Dz.of (by decide) rfl rfl (show Ez md_3_append 0 0 0 [(0, zr 1), (1, zi a1)] [] zSh μ none zSh (xx_append μ a1) from ?_)
  unfold xx_append
  have b1 : 0 ≤ (μ 1 1) ∧ (μ 1 1) ≤ 60 := hB 1 1
  refine Az.blk kd_3_append_0 (show zR (μ 1 1) ∧ zR 60 ∧ ((¬ (μ 1 1) < 60 → Ez md_3_append 0 0 29 [(0, zr 1), (1, zi a1)] [] zSh μ _ _ _) ∧ ((μ 1 1) < 60 → Ez md_3_append 0 0 9 [(0, zr 1), (1, zi a1)] [] zSh μ _ _ _)) from ⟨(by omega), (by omega), fun c2 => ?_, fun c2 => ?_⟩)
  · rw [if_neg c2]
    exact Ez.vret kr_3_append_29 rfl (Nat.zero_le _) (Nat.zero_le _) rfl rfl
  · rw [if_pos c2]
    have b3 : 0 ≤ (μ 1 1) ∧ (μ 1 1) ≤ 60 := hB 1 1
    have b4 : 0 ≤ (μ 1 1) ∧ (μ 1 1) ≤ 60 := hB 1 1
    refine Az.blk kd_3_append_9 (show (0 ≤ (μ 1 1) ∧ (μ 1 1) < 60) ∧ (0 ≤ a1 ∧ a1 < 65536) ∧ Ez md_3_append 0 0 29 [(0, zr 1), (1, zi a1)] [] zSh (zup (zup μ 2 (μ 1 1) a1) 1 1 ((μ 1 1) + 1)) _ _ _ from ⟨(by omega), (by omega), ?_⟩)
    exact Ez.vret kr_3_append_29 rfl (Nat.zero_le _) (Nat.zero_le _) rfl rfl
