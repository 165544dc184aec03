def kb_2_takeFrom_0 : List zI := [(.aload_n 0, 1, 0, 0), (.iconst 0, 1, 0, 0), (.putfield 9, 3, 2, 0), (.aload_n 0, 1, 0, 0), (.iconst 0, 1, 0, 0), (.putfield 15, 3, 2, 1), (.iconst 0, 1, 0, 0), (.istore_n 2, 1, 0, 0)]
theorem kd_2_takeFrom_0 : zdec md_2_takeFrom 0 kb_2_takeFrom_0 = true := by decide +kernel
def kb_2_takeFrom_12 : List zI := [(.iload_n 2, 1, 0, 0), (.bipush 60, 2, 0, 0), (.if_icmp .ge 20, 3, 35, 0)]
theorem kd_2_takeFrom_12 : zdec md_2_takeFrom 12 kb_2_takeFrom_12 = true := by decide +kernel
def kb_2_takeFrom_35 : List zI := [(.iconst 0, 1, 0, 0), (.istore_n 2, 1, 0, 0), (.iconst 0, 1, 0, 0), (.istore_n 3, 1, 0, 0)]
theorem kd_2_takeFrom_35 : zdec md_2_takeFrom 35 kb_2_takeFrom_35 = true := by decide +kernel
def kb_2_takeFrom_18 : List zI := [(.aload_n 0, 1, 0, 0), (.getfield 28, 3, 2, 5), (.iload_n 2, 1, 0, 0), (.aload_n 1, 1, 0, 0), (.iload_n 2, 1, 0, 0)]
theorem kd_2_takeFrom_18 : zdec md_2_takeFrom 18 kb_2_takeFrom_18 = true := by decide +kernel
theorem kr_2_takeFrom_25 : decode md_2_takeFrom.2.1 25 = .ok (.invokevirtual 47, 3) := by decide +kernel
def kb_2_takeFrom_28 : List zI := [(.iastore, 1, 0, 0), (.iinc 2 1, 3, 0, 0), (.goto (-20), 3, 12, 0)]
theorem kd_2_takeFrom_28 : zdec md_2_takeFrom 28 kb_2_takeFrom_28 = true := by decide +kernel
def kb_2_takeFrom_39 : List zI := [(.iload_n 3, 1, 0, 0), (.bipush 20, 2, 0, 0), (.if_icmp .ge 87, 3, 129, 0)]
theorem kd_2_takeFrom_39 : zdec md_2_takeFrom 39 kb_2_takeFrom_39 = true := by decide +kernel
theorem kr_2_takeFrom_129 : decode md_2_takeFrom.2.1 129 = .ok (.return_, 1) := by decide +kernel
def kb_2_takeFrom_45 : List zI := [(.iload_n 2, 1, 0, 0), (.aload_n 1, 1, 0, 0), (.getfield 53, 3, 3, 1), (.if_icmp .ge 79, 3, 129, 0)]
theorem kd_2_takeFrom_45 : zdec md_2_takeFrom 45 kb_2_takeFrom_45 = true := by decide +kernel
def kb_2_takeFrom_53 : List zI := [(.aload_n 1, 1, 0, 0), (.iload_n 2, 1, 0, 0)]
theorem kd_2_takeFrom_53 : zdec md_2_takeFrom 53 kb_2_takeFrom_53 = true := by decide +kernel
theorem kr_2_takeFrom_55 : decode md_2_takeFrom.2.1 55 = .ok (.invokevirtual 56, 3) := by decide +kernel
def kb_2_takeFrom_58 : List zI := [(.istore 4, 2, 0, 0), (.aload_n 0, 1, 0, 0), (.getfield 22, 3, 2, 3), (.iload_n 3, 1, 0, 0), (.iload_n 2, 1, 0, 0), (.iastore, 1, 0, 0), (.aload_n 0, 1, 0, 0), (.getfield 25, 3, 2, 4), (.iload_n 3, 1, 0, 0), (.iload 4, 2, 0, 0), (.iload_n 2, 1, 0, 0), (.isub, 1, 0, 0), (.iastore, 1, 0, 0), (.aload_n 0, 1, 0, 0), (.getfield 18, 3, 2, 2), (.iload_n 3, 1, 0, 0), (.iconst (-1), 1, 0, 0), (.iastore, 1, 0, 0), (.aload_n 1, 1, 0, 0), (.iload_n 2, 1, 0, 0)]
theorem kd_2_takeFrom_58 : zdec md_2_takeFrom 58 kb_2_takeFrom_58 = true := by decide +kernel
theorem kr_2_takeFrom_86 : decode md_2_takeFrom.2.1 86 = .ok (.invokevirtual 59, 3) := by decide +kernel
def kb_2_takeFrom_89 : List zI := [(.ifCond .eq 22, 3, 111, 0)]
theorem kd_2_takeFrom_89 : zdec md_2_takeFrom 89 kb_2_takeFrom_89 = true := by decide +kernel
def kb_2_takeFrom_111 : List zI := [(.aload_n 0, 1, 0, 0), (.iload_n 3, 1, 0, 0), (.iconst 1, 1, 0, 0), (.iadd, 1, 0, 0), (.putfield 9, 3, 2, 0), (.iload 4, 2, 0, 0), (.iconst 1, 1, 0, 0), (.iadd, 1, 0, 0), (.istore_n 2, 1, 0, 0), (.iinc 3 1, 3, 0, 0), (.goto (-87), 3, 39, 0)]
theorem kd_2_takeFrom_111 : zdec md_2_takeFrom 111 kb_2_takeFrom_111 = true := by decide +kernel
def kb_2_takeFrom_92 : List zI := [(.aload_n 0, 1, 0, 0), (.iload_n 3, 1, 0, 0), (.aload_n 1, 1, 0, 0), (.iload_n 2, 1, 0, 0), (.iconst 1, 1, 0, 0), (.iadd, 1, 0, 0)]
theorem kd_2_takeFrom_92 : zdec md_2_takeFrom 92 kb_2_takeFrom_92 = true := by decide +kernel
theorem kr_2_takeFrom_98 : decode md_2_takeFrom.2.1 98 = .ok (.invokevirtual 63, 3) := by decide +kernel
def kb_2_takeFrom_101 : List zI := [(.aload_n 1, 1, 0, 0), (.iload_n 2, 1, 0, 0), (.iconst 2, 1, 0, 0), (.iadd, 1, 0, 0)]
theorem kd_2_takeFrom_101 : zdec md_2_takeFrom 101 kb_2_takeFrom_101 = true := by decide +kernel
theorem kr_2_takeFrom_105 : decode md_2_takeFrom.2.1 105 = .ok (.invokevirtual 66, 3) := by decide +kernel
theorem kr_2_takeFrom_108 : decode md_2_takeFrom.2.1 108 = .ok (.invokevirtual 69, 3) := by decide +kernel
noncomputable def xx_takeFrom_39 : Nat → zM → Int → Int → zM
  | 0, μ, _, _ => μ
  | f + 1, μ, l2, l3 => (if l3 < 20 then (if l2 < (μ 1 1) then (if (xx_hasHoleAt (zup (zup (zup μ 12 l3 l2) 13 l3 ((xx_endOfItem μ l2) - l2)) 11 l3 (-1)) l2) = 0 then (xx_takeFrom_39 f (zup (zup (zup (zup μ 12 l3 l2) 13 l3 ((xx_endOfItem μ l2) - l2)) 11 l3 (-1)) 10 0 (l3 + 1)) ((xx_endOfItem μ l2) + 1) (l3 + 1)) else (xx_takeFrom_39 f (zup (xx_addHole (zup (zup (zup μ 12 l3 l2) 13 l3 ((xx_endOfItem μ l2) - l2)) 11 l3 (-1)) l3 (xx_kindAt (zup (zup (zup μ 12 l3 l2) 13 l3 ((xx_endOfItem μ l2) - l2)) 11 l3 (-1)) (l2 + 1)) (xx_digitAt (zup (zup (zup μ 12 l3 l2) 13 l3 ((xx_endOfItem μ l2) - l2)) 11 l3 (-1)) (l2 + 2))) 10 0 (l3 + 1)) ((xx_endOfItem μ l2) + 1) (l3 + 1))) else μ) else μ)
noncomputable def xx_takeFrom_12 : Nat → zM → Int → zM
  | 0, μ, _ => μ
  | f + 1, μ, l2 => (if l2 < 60 then (xx_takeFrom_12 f (zup μ 14 l2 (xx_signAt μ l2)) (l2 + 1)) else (xx_takeFrom_39 zN μ 0 0))
noncomputable def xx_takeFrom (μ : zM) : zM := (xx_takeFrom_12 zN (zup (zup μ 10 0 0) 10 1 0) 0)
set_option maxHeartbeats 4000000 in
set_option maxRecDepth 100000 in
theorem xb_takeFrom_39 (f : Nat) (μ : zM) (hB : zB μ) (l2 : Int) (l3 : Int) (i0 : 0 ≤ l3 ∧ l3 ≤ 20) (i1 : 0 ≤ l2 ∧ l2 ≤ 71) (hf : 20 - l3 < (f : Int)) : zB (xx_takeFrom_39 f μ l2 l3) := by
  induction f generalizing μ l2 l3 with
  | zero => exfalso; omega
  | succ f ih =>
    replace hf : 20 - l3 < (f : Int) + 1 := by omega
    rw [xx_takeFrom_39]
    by_cases c3 : l3 < 20
    · rw [if_pos c3]
      have b4 : 0 ≤ (μ 1 1) ∧ (μ 1 1) ≤ 60 := hB 1 1
      by_cases c5 : l2 < (μ 1 1)
      · rw [if_pos c5]
        have r6 : l2 ≤ (xx_endOfItem μ l2) ∧ (xx_endOfItem μ l2) ≤ l2 + 10 := xr_endOfItem hB l2 (by omega)
        have r7 : 0 ≤ (xx_hasHoleAt (zup (zup (zup μ 12 l3 l2) 13 l3 ((xx_endOfItem μ l2) - l2)) 11 l3 (-1)) l2) ∧ (xx_hasHoleAt (zup (zup (zup μ 12 l3 l2) 13 l3 ((xx_endOfItem μ l2) - l2)) 11 l3 (-1)) l2) ≤ 1 ∧ ((xx_hasHoleAt (zup (zup (zup μ 12 l3 l2) 13 l3 ((xx_endOfItem μ l2) - l2)) 11 l3 (-1)) l2) = 1 → l2 < (μ 1 1)) := xr_hasHoleAt (zup_ok (k := 11) (z := l3) (v := (-1)) (zup_ok (k := 13) (z := l3) (v := ((xx_endOfItem μ l2) - l2)) (zup_ok (k := 12) (z := l3) (v := l2) hB (show 0 ≤ l2 ∧ l2 ≤ 60 from by omega)) (show 0 ≤ ((xx_endOfItem μ l2) - l2) ∧ ((xx_endOfItem μ l2) - l2) ≤ 60 from by omega)) (show (-1) ≤ (-1) ∧ (-1) ≤ 19 from by omega)) l2 (by omega)
        by_cases c8 : (xx_hasHoleAt (zup (zup (zup μ 12 l3 l2) 13 l3 ((xx_endOfItem μ l2) - l2)) 11 l3 (-1)) l2) = 0
        · rw [if_pos c8]
          exact ih ((zup (zup (zup (zup μ 12 l3 l2) 13 l3 ((xx_endOfItem μ l2) - l2)) 11 l3 (-1)) 10 0 (l3 + 1))) (zup_ok (k := 10) (z := 0) (v := (l3 + 1)) (zup_ok (k := 11) (z := l3) (v := (-1)) (zup_ok (k := 13) (z := l3) (v := ((xx_endOfItem μ l2) - l2)) (zup_ok (k := 12) (z := l3) (v := l2) hB (show 0 ≤ l2 ∧ l2 ≤ 60 from by omega)) (show 0 ≤ ((xx_endOfItem μ l2) - l2) ∧ ((xx_endOfItem μ l2) - l2) ≤ 60 from by omega)) (show (-1) ≤ (-1) ∧ (-1) ≤ 19 from by omega)) (show 0 ≤ (l3 + 1) ∧ (l3 + 1) ≤ 20 from by omega)) ((xx_endOfItem μ l2) + 1) (l3 + 1) (by omega) (by omega) (by omega)
        · rw [if_neg c8]
          have r9 : -1 ≤ (xx_kindAt (zup (zup (zup μ 12 l3 l2) 13 l3 ((xx_endOfItem μ l2) - l2)) 11 l3 (-1)) (l2 + 1)) ∧ (xx_kindAt (zup (zup (zup μ 12 l3 l2) 13 l3 ((xx_endOfItem μ l2) - l2)) 11 l3 (-1)) (l2 + 1)) ≤ 2 := xr_kindAt (zup_ok (k := 11) (z := l3) (v := (-1)) (zup_ok (k := 13) (z := l3) (v := ((xx_endOfItem μ l2) - l2)) (zup_ok (k := 12) (z := l3) (v := l2) hB (show 0 ≤ l2 ∧ l2 ≤ 60 from by omega)) (show 0 ≤ ((xx_endOfItem μ l2) - l2) ∧ ((xx_endOfItem μ l2) - l2) ≤ 60 from by omega)) (show (-1) ≤ (-1) ∧ (-1) ≤ 19 from by omega)) (l2 + 1) (by omega)
          have r10 : -1 ≤ (xx_digitAt (zup (zup (zup μ 12 l3 l2) 13 l3 ((xx_endOfItem μ l2) - l2)) 11 l3 (-1)) (l2 + 2)) ∧ (xx_digitAt (zup (zup (zup μ 12 l3 l2) 13 l3 ((xx_endOfItem μ l2) - l2)) 11 l3 (-1)) (l2 + 2)) ≤ 9 := xr_digitAt (zup_ok (k := 11) (z := l3) (v := (-1)) (zup_ok (k := 13) (z := l3) (v := ((xx_endOfItem μ l2) - l2)) (zup_ok (k := 12) (z := l3) (v := l2) hB (show 0 ≤ l2 ∧ l2 ≤ 60 from by omega)) (show 0 ≤ ((xx_endOfItem μ l2) - l2) ∧ ((xx_endOfItem μ l2) - l2) ≤ 60 from by omega)) (show (-1) ≤ (-1) ∧ (-1) ≤ 19 from by omega)) (l2 + 2) (by omega)
          exact ih ((zup (xx_addHole (zup (zup (zup μ 12 l3 l2) 13 l3 ((xx_endOfItem μ l2) - l2)) 11 l3 (-1)) l3 (xx_kindAt (zup (zup (zup μ 12 l3 l2) 13 l3 ((xx_endOfItem μ l2) - l2)) 11 l3 (-1)) (l2 + 1)) (xx_digitAt (zup (zup (zup μ 12 l3 l2) 13 l3 ((xx_endOfItem μ l2) - l2)) 11 l3 (-1)) (l2 + 2))) 10 0 (l3 + 1))) (zup_ok (k := 10) (z := 0) (v := (l3 + 1)) (xb_addHole (zup_ok (k := 11) (z := l3) (v := (-1)) (zup_ok (k := 13) (z := l3) (v := ((xx_endOfItem μ l2) - l2)) (zup_ok (k := 12) (z := l3) (v := l2) hB (show 0 ≤ l2 ∧ l2 ≤ 60 from by omega)) (show 0 ≤ ((xx_endOfItem μ l2) - l2) ∧ ((xx_endOfItem μ l2) - l2) ≤ 60 from by omega)) (show (-1) ≤ (-1) ∧ (-1) ≤ 19 from by omega)) l3 (xx_kindAt (zup (zup (zup μ 12 l3 l2) 13 l3 ((xx_endOfItem μ l2) - l2)) 11 l3 (-1)) (l2 + 1)) (xx_digitAt (zup (zup (zup μ 12 l3 l2) 13 l3 ((xx_endOfItem μ l2) - l2)) 11 l3 (-1)) (l2 + 2)) (by omega) (by omega) (by omega)) (show 0 ≤ (l3 + 1) ∧ (l3 + 1) ≤ 20 from by omega)) ((xx_endOfItem μ l2) + 1) (l3 + 1) (by omega) (by omega) (by omega)
      · rw [if_neg c5]
        exact hB
    · rw [if_neg c3]
      exact hB
set_option maxHeartbeats 4000000 in
set_option maxRecDepth 100000 in
theorem xb_takeFrom_12 (f : Nat) (μ : zM) (hB : zB μ) (l2 : Int) (i0 : 0 ≤ l2 ∧ l2 ≤ 60) (hf : 60 - l2 < (f : Int)) : zB (xx_takeFrom_12 f μ l2) := by
  induction f generalizing μ l2 with
  | zero => exfalso; omega
  | succ f ih =>
    replace hf : 60 - l2 < (f : Int) + 1 := by omega
    rw [xx_takeFrom_12]
    by_cases c1 : l2 < 60
    · rw [if_pos c1]
      have r2 : 0 ≤ (xx_signAt μ l2) ∧ (xx_signAt μ l2) ≤ 65535 ∧ (0 < (xx_signAt μ l2) → 0 ≤ l2 ∧ l2 < μ 1 1) := xr_signAt hB l2 (by omega)
      exact ih ((zup μ 14 l2 (xx_signAt μ l2))) (zup_ok (k := 14) (z := l2) (v := (xx_signAt μ l2)) hB (show 0 ≤ (xx_signAt μ l2) ∧ (xx_signAt μ l2) ≤ 65535 from by omega)) (l2 + 1) (by omega) (by omega)
    · rw [if_neg c1]
      have fb : (3000 : Int) ≤ ((zN : Nat) : Int) := zN_big
      exact xb_takeFrom_39 zN μ hB 0 0 (by omega) (by omega) (by omega)
set_option maxHeartbeats 4000000 in
set_option maxRecDepth 100000 in
theorem xb_takeFrom {μ : zM} (hB : zB μ)  : zB (xx_takeFrom μ) := by
  unfold xx_takeFrom
  have fb : (3000 : Int) ≤ ((zN : Nat) : Int) := zN_big
  exact xb_takeFrom_12 zN ((zup (zup μ 10 0 0) 10 1 0)) (zup_ok (k := 10) (z := 1) (v := 0) (zup_ok (k := 10) (z := 0) (v := 0) hB (show 0 ≤ 0 ∧ 0 ≤ 20 from by omega)) (show 0 ≤ 0 ∧ 0 ≤ 20 from by omega)) 0 (by omega) (by omega)
set_option maxHeartbeats 4000000 in
set_option maxRecDepth 100000 in
theorem xz_takeFrom_39 (f : Nat) (μ : zM) (hB : zB μ) (l2 : Int) (l3 : Int) (i0 : 0 ≤ l3 ∧ l3 ≤ 20) (i1 : 0 ≤ l2 ∧ l2 ≤ 71) (hf : 20 - l3 < (f : Int)) : Ez md_2_takeFrom 0 0 39 [(0, zr 10), (1, zr 1), (2, zi l2), (3, zi l3)] [] zSh μ none zSh (xx_takeFrom_39 f μ l2 l3) := by
  induction f generalizing μ l2 l3 with
  | zero => exfalso; omega
  | succ f ih =>
    replace hf : 20 - l3 < (f : Int) + 1 := by omega
    rw [xx_takeFrom_39]
    refine Az.blk kd_2_takeFrom_39 (show zR l3 ∧ zR 20 ∧ ((¬ l3 < 20 → Ez md_2_takeFrom 0 0 129 [(0, zr 10), (1, zr 1), (2, zi l2), (3, zi l3)] [] zSh μ _ _ _) ∧ (l3 < 20 → Ez md_2_takeFrom 0 0 45 [(0, zr 10), (1, zr 1), (2, zi l2), (3, zi l3)] [] zSh μ _ _ _)) from ⟨(by omega), (by omega), fun c3 => ?_, fun c3 => ?_⟩)
    · rw [if_neg c3]
      exact Ez.vret kr_2_takeFrom_129 rfl (Nat.zero_le _) (Nat.zero_le _) rfl rfl
    · rw [if_pos c3]
      have b4 : 0 ≤ (μ 1 1) ∧ (μ 1 1) ≤ 60 := hB 1 1
      refine Az.blk kd_2_takeFrom_45 (show zR l2 ∧ zR (μ 1 1) ∧ ((¬ l2 < (μ 1 1) → Ez md_2_takeFrom 0 0 129 [(0, zr 10), (1, zr 1), (2, zi l2), (3, zi l3)] [] zSh μ _ _ _) ∧ (l2 < (μ 1 1) → Ez md_2_takeFrom 0 0 53 [(0, zr 10), (1, zr 1), (2, zi l2), (3, zi l3)] [] zSh μ _ _ _)) from ⟨(by omega), (by omega), fun c5 => ?_, fun c5 => ?_⟩)
      · rw [if_neg c5]
        exact Ez.vret kr_2_takeFrom_129 rfl (Nat.zero_le _) (Nat.zero_le _) rfl rfl
      · rw [if_pos c5]
        refine Az.blk kd_2_takeFrom_53 (show Ez md_2_takeFrom 0 0 55 [(0, zr 10), (1, zr 1), (2, zi l2), (3, zi l3)] [zi l2, zr 1] zSh μ _ _ _ from ?_)
        refine Az.cVN (mc := md_3_endOfItem) (k := 1) (n := 1) (As := [zi l2]) (rest := []) kr_2_takeFrom_55 zw_287 ok_3_endOfItem rfl rfl rfl trivial (xz_endOfItem hB l2 (by omega)) rfl rfl (show Ez md_2_takeFrom 0 0 58 [(0, zr 10), (1, zr 1), (2, zi l2), (3, zi l3)] [zi (xx_endOfItem μ l2)] zSh μ _ _ _ from ?_)
        have r6 : l2 ≤ (xx_endOfItem μ l2) ∧ (xx_endOfItem μ l2) ≤ l2 + 10 := xr_endOfItem hB l2 (by omega)
        refine Az.blk kd_2_takeFrom_58 (show (0 ≤ l3 ∧ l3 < 20) ∧ (0 ≤ l3 ∧ l3 < 20) ∧ (0 ≤ l3 ∧ l3 < 20) ∧ Ez md_2_takeFrom 0 0 86 [(4, zi (xx_endOfItem μ l2)), (0, zr 10), (1, zr 1), (2, zi l2), (3, zi l3)] [zi l2, zr 1] zSh (zup (zup (zup μ 12 l3 l2) 13 l3 ((xx_endOfItem μ l2) - l2)) 11 l3 (-1)) _ _ _ from ⟨(by omega), (by omega), (by omega), ?_⟩)
        refine Az.cVN (mc := md_3_hasHoleAt) (k := 1) (n := 1) (As := [zi l2]) (rest := []) kr_2_takeFrom_86 zw_288 ok_3_hasHoleAt rfl rfl rfl trivial (xz_hasHoleAt (zup_ok (k := 11) (z := l3) (v := (-1)) (zup_ok (k := 13) (z := l3) (v := ((xx_endOfItem μ l2) - l2)) (zup_ok (k := 12) (z := l3) (v := l2) hB (show 0 ≤ l2 ∧ l2 ≤ 60 from by omega)) (show 0 ≤ ((xx_endOfItem μ l2) - l2) ∧ ((xx_endOfItem μ l2) - l2) ≤ 60 from by omega)) (show (-1) ≤ (-1) ∧ (-1) ≤ 19 from by omega)) l2 (by omega)) rfl rfl (show Ez md_2_takeFrom 0 0 89 [(4, zi (xx_endOfItem μ l2)), (0, zr 10), (1, zr 1), (2, zi l2), (3, zi l3)] [zi (xx_hasHoleAt (zup (zup (zup μ 12 l3 l2) 13 l3 ((xx_endOfItem μ l2) - l2)) 11 l3 (-1)) l2)] zSh (zup (zup (zup μ 12 l3 l2) 13 l3 ((xx_endOfItem μ l2) - l2)) 11 l3 (-1)) _ _ _ from ?_)
        have r7 : 0 ≤ (xx_hasHoleAt (zup (zup (zup μ 12 l3 l2) 13 l3 ((xx_endOfItem μ l2) - l2)) 11 l3 (-1)) l2) ∧ (xx_hasHoleAt (zup (zup (zup μ 12 l3 l2) 13 l3 ((xx_endOfItem μ l2) - l2)) 11 l3 (-1)) l2) ≤ 1 ∧ ((xx_hasHoleAt (zup (zup (zup μ 12 l3 l2) 13 l3 ((xx_endOfItem μ l2) - l2)) 11 l3 (-1)) l2) = 1 → l2 < (μ 1 1)) := xr_hasHoleAt (zup_ok (k := 11) (z := l3) (v := (-1)) (zup_ok (k := 13) (z := l3) (v := ((xx_endOfItem μ l2) - l2)) (zup_ok (k := 12) (z := l3) (v := l2) hB (show 0 ≤ l2 ∧ l2 ≤ 60 from by omega)) (show 0 ≤ ((xx_endOfItem μ l2) - l2) ∧ ((xx_endOfItem μ l2) - l2) ≤ 60 from by omega)) (show (-1) ≤ (-1) ∧ (-1) ≤ 19 from by omega)) l2 (by omega)
        refine Az.blk kd_2_takeFrom_89 (show zR (xx_hasHoleAt (zup (zup (zup μ 12 l3 l2) 13 l3 ((xx_endOfItem μ l2) - l2)) 11 l3 (-1)) l2) ∧ (((xx_hasHoleAt (zup (zup (zup μ 12 l3 l2) 13 l3 ((xx_endOfItem μ l2) - l2)) 11 l3 (-1)) l2) = 0 → Ez md_2_takeFrom 0 0 111 [(4, zi (xx_endOfItem μ l2)), (0, zr 10), (1, zr 1), (2, zi l2), (3, zi l3)] [] zSh (zup (zup (zup μ 12 l3 l2) 13 l3 ((xx_endOfItem μ l2) - l2)) 11 l3 (-1)) _ _ _) ∧ (¬ (xx_hasHoleAt (zup (zup (zup μ 12 l3 l2) 13 l3 ((xx_endOfItem μ l2) - l2)) 11 l3 (-1)) l2) = 0 → Ez md_2_takeFrom 0 0 92 [(4, zi (xx_endOfItem μ l2)), (0, zr 10), (1, zr 1), (2, zi l2), (3, zi l3)] [] zSh (zup (zup (zup μ 12 l3 l2) 13 l3 ((xx_endOfItem μ l2) - l2)) 11 l3 (-1)) _ _ _)) from ⟨(by omega), fun c8 => ?_, fun c8 => ?_⟩)
        · rw [if_pos c8]
          refine Az.blk kd_2_takeFrom_111 (show Ez md_2_takeFrom 0 0 39 [(3, zi (l3 + 1)), (2, zi ((xx_endOfItem μ l2) + 1)), (4, zi (xx_endOfItem μ l2)), (0, zr 10), (1, zr 1)] [] zSh (zup (zup (zup (zup μ 12 l3 l2) 13 l3 ((xx_endOfItem μ l2) - l2)) 11 l3 (-1)) 10 0 (l3 + 1)) _ _ _ from ?_)
          refine Az.lvs (lv' := [(0, zr 10), (1, zr 1), (2, zi ((xx_endOfItem μ l2) + 1)), (3, zi (l3 + 1))]) ?_ ?_
          · intro q hq; simp only [List.mem_cons, List.not_mem_nil, or_false] at hq; rcases hq with rfl | rfl | rfl | rfl <;> rfl
          exact ih ((zup (zup (zup (zup μ 12 l3 l2) 13 l3 ((xx_endOfItem μ l2) - l2)) 11 l3 (-1)) 10 0 (l3 + 1))) (zup_ok (k := 10) (z := 0) (v := (l3 + 1)) (zup_ok (k := 11) (z := l3) (v := (-1)) (zup_ok (k := 13) (z := l3) (v := ((xx_endOfItem μ l2) - l2)) (zup_ok (k := 12) (z := l3) (v := l2) hB (show 0 ≤ l2 ∧ l2 ≤ 60 from by omega)) (show 0 ≤ ((xx_endOfItem μ l2) - l2) ∧ ((xx_endOfItem μ l2) - l2) ≤ 60 from by omega)) (show (-1) ≤ (-1) ∧ (-1) ≤ 19 from by omega)) (show 0 ≤ (l3 + 1) ∧ (l3 + 1) ≤ 20 from by omega)) ((xx_endOfItem μ l2) + 1) (l3 + 1) (by omega) (by omega) (by omega)
        · rw [if_neg c8]
          refine Az.blk kd_2_takeFrom_92 (show Ez md_2_takeFrom 0 0 98 [(4, zi (xx_endOfItem μ l2)), (0, zr 10), (1, zr 1), (2, zi l2), (3, zi l3)] [zi (l2 + 1), zr 1, zi l3, zr 10] zSh (zup (zup (zup μ 12 l3 l2) 13 l3 ((xx_endOfItem μ l2) - l2)) 11 l3 (-1)) _ _ _ from ?_)
          refine Az.cVN (mc := md_3_kindAt) (k := 1) (n := 1) (As := [zi (l2 + 1)]) (rest := [zi l3, zr 10]) kr_2_takeFrom_98 zw_289 ok_3_kindAt rfl rfl rfl trivial (xz_kindAt (zup_ok (k := 11) (z := l3) (v := (-1)) (zup_ok (k := 13) (z := l3) (v := ((xx_endOfItem μ l2) - l2)) (zup_ok (k := 12) (z := l3) (v := l2) hB (show 0 ≤ l2 ∧ l2 ≤ 60 from by omega)) (show 0 ≤ ((xx_endOfItem μ l2) - l2) ∧ ((xx_endOfItem μ l2) - l2) ≤ 60 from by omega)) (show (-1) ≤ (-1) ∧ (-1) ≤ 19 from by omega)) (l2 + 1) (by omega)) rfl rfl (show Ez md_2_takeFrom 0 0 101 [(4, zi (xx_endOfItem μ l2)), (0, zr 10), (1, zr 1), (2, zi l2), (3, zi l3)] [zi (xx_kindAt (zup (zup (zup μ 12 l3 l2) 13 l3 ((xx_endOfItem μ l2) - l2)) 11 l3 (-1)) (l2 + 1)), zi l3, zr 10] zSh (zup (zup (zup μ 12 l3 l2) 13 l3 ((xx_endOfItem μ l2) - l2)) 11 l3 (-1)) _ _ _ from ?_)
          have r9 : -1 ≤ (xx_kindAt (zup (zup (zup μ 12 l3 l2) 13 l3 ((xx_endOfItem μ l2) - l2)) 11 l3 (-1)) (l2 + 1)) ∧ (xx_kindAt (zup (zup (zup μ 12 l3 l2) 13 l3 ((xx_endOfItem μ l2) - l2)) 11 l3 (-1)) (l2 + 1)) ≤ 2 := xr_kindAt (zup_ok (k := 11) (z := l3) (v := (-1)) (zup_ok (k := 13) (z := l3) (v := ((xx_endOfItem μ l2) - l2)) (zup_ok (k := 12) (z := l3) (v := l2) hB (show 0 ≤ l2 ∧ l2 ≤ 60 from by omega)) (show 0 ≤ ((xx_endOfItem μ l2) - l2) ∧ ((xx_endOfItem μ l2) - l2) ≤ 60 from by omega)) (show (-1) ≤ (-1) ∧ (-1) ≤ 19 from by omega)) (l2 + 1) (by omega)
          refine Az.blk kd_2_takeFrom_101 (show Ez md_2_takeFrom 0 0 105 [(4, zi (xx_endOfItem μ l2)), (0, zr 10), (1, zr 1), (2, zi l2), (3, zi l3)] [zi (l2 + 2), zr 1, zi (xx_kindAt (zup (zup (zup μ 12 l3 l2) 13 l3 ((xx_endOfItem μ l2) - l2)) 11 l3 (-1)) (l2 + 1)), zi l3, zr 10] zSh (zup (zup (zup μ 12 l3 l2) 13 l3 ((xx_endOfItem μ l2) - l2)) 11 l3 (-1)) _ _ _ from ?_)
          refine Az.cVN (mc := md_3_digitAt) (k := 1) (n := 1) (As := [zi (l2 + 2)]) (rest := [zi (xx_kindAt (zup (zup (zup μ 12 l3 l2) 13 l3 ((xx_endOfItem μ l2) - l2)) 11 l3 (-1)) (l2 + 1)), zi l3, zr 10]) kr_2_takeFrom_105 zw_290 ok_3_digitAt rfl rfl rfl trivial (xz_digitAt (zup_ok (k := 11) (z := l3) (v := (-1)) (zup_ok (k := 13) (z := l3) (v := ((xx_endOfItem μ l2) - l2)) (zup_ok (k := 12) (z := l3) (v := l2) hB (show 0 ≤ l2 ∧ l2 ≤ 60 from by omega)) (show 0 ≤ ((xx_endOfItem μ l2) - l2) ∧ ((xx_endOfItem μ l2) - l2) ≤ 60 from by omega)) (show (-1) ≤ (-1) ∧ (-1) ≤ 19 from by omega)) (l2 + 2) (by omega)) rfl rfl (show Ez md_2_takeFrom 0 0 108 [(4, zi (xx_endOfItem μ l2)), (0, zr 10), (1, zr 1), (2, zi l2), (3, zi l3)] [zi (xx_digitAt (zup (zup (zup μ 12 l3 l2) 13 l3 ((xx_endOfItem μ l2) - l2)) 11 l3 (-1)) (l2 + 2)), zi (xx_kindAt (zup (zup (zup μ 12 l3 l2) 13 l3 ((xx_endOfItem μ l2) - l2)) 11 l3 (-1)) (l2 + 1)), zi l3, zr 10] zSh (zup (zup (zup μ 12 l3 l2) 13 l3 ((xx_endOfItem μ l2) - l2)) 11 l3 (-1)) _ _ _ from ?_)
          have r10 : -1 ≤ (xx_digitAt (zup (zup (zup μ 12 l3 l2) 13 l3 ((xx_endOfItem μ l2) - l2)) 11 l3 (-1)) (l2 + 2)) ∧ (xx_digitAt (zup (zup (zup μ 12 l3 l2) 13 l3 ((xx_endOfItem μ l2) - l2)) 11 l3 (-1)) (l2 + 2)) ≤ 9 := xr_digitAt (zup_ok (k := 11) (z := l3) (v := (-1)) (zup_ok (k := 13) (z := l3) (v := ((xx_endOfItem μ l2) - l2)) (zup_ok (k := 12) (z := l3) (v := l2) hB (show 0 ≤ l2 ∧ l2 ≤ 60 from by omega)) (show 0 ≤ ((xx_endOfItem μ l2) - l2) ∧ ((xx_endOfItem μ l2) - l2) ≤ 60 from by omega)) (show (-1) ≤ (-1) ∧ (-1) ≤ 19 from by omega)) (l2 + 2) (by omega)
          refine Az.cV (mc := md_2_addHole) (k := 10) (n := 3) (As := [zi l3, zi (xx_kindAt (zup (zup (zup μ 12 l3 l2) 13 l3 ((xx_endOfItem μ l2) - l2)) 11 l3 (-1)) (l2 + 1)), zi (xx_digitAt (zup (zup (zup μ 12 l3 l2) 13 l3 ((xx_endOfItem μ l2) - l2)) 11 l3 (-1)) (l2 + 2))]) (rest := []) kr_2_takeFrom_108 zw_291 ok_2_addHole rfl rfl rfl trivial (xz_addHole (zup_ok (k := 11) (z := l3) (v := (-1)) (zup_ok (k := 13) (z := l3) (v := ((xx_endOfItem μ l2) - l2)) (zup_ok (k := 12) (z := l3) (v := l2) hB (show 0 ≤ l2 ∧ l2 ≤ 60 from by omega)) (show 0 ≤ ((xx_endOfItem μ l2) - l2) ∧ ((xx_endOfItem μ l2) - l2) ≤ 60 from by omega)) (show (-1) ≤ (-1) ∧ (-1) ≤ 19 from by omega)) l3 (xx_kindAt (zup (zup (zup μ 12 l3 l2) 13 l3 ((xx_endOfItem μ l2) - l2)) 11 l3 (-1)) (l2 + 1)) (xx_digitAt (zup (zup (zup μ 12 l3 l2) 13 l3 ((xx_endOfItem μ l2) - l2)) 11 l3 (-1)) (l2 + 2)) (by omega) (by omega) (by omega)) rfl rfl (show Ez md_2_takeFrom 0 0 111 [(4, zi (xx_endOfItem μ l2)), (0, zr 10), (1, zr 1), (2, zi l2), (3, zi l3)] [] zSh (xx_addHole (zup (zup (zup μ 12 l3 l2) 13 l3 ((xx_endOfItem μ l2) - l2)) 11 l3 (-1)) l3 (xx_kindAt (zup (zup (zup μ 12 l3 l2) 13 l3 ((xx_endOfItem μ l2) - l2)) 11 l3 (-1)) (l2 + 1)) (xx_digitAt (zup (zup (zup μ 12 l3 l2) 13 l3 ((xx_endOfItem μ l2) - l2)) 11 l3 (-1)) (l2 + 2))) _ _ _ from ?_)
          refine Az.blk kd_2_takeFrom_111 (show Ez md_2_takeFrom 0 0 39 [(3, zi (l3 + 1)), (2, zi ((xx_endOfItem μ l2) + 1)), (4, zi (xx_endOfItem μ l2)), (0, zr 10), (1, zr 1)] [] zSh (zup (xx_addHole (zup (zup (zup μ 12 l3 l2) 13 l3 ((xx_endOfItem μ l2) - l2)) 11 l3 (-1)) l3 (xx_kindAt (zup (zup (zup μ 12 l3 l2) 13 l3 ((xx_endOfItem μ l2) - l2)) 11 l3 (-1)) (l2 + 1)) (xx_digitAt (zup (zup (zup μ 12 l3 l2) 13 l3 ((xx_endOfItem μ l2) - l2)) 11 l3 (-1)) (l2 + 2))) 10 0 (l3 + 1)) _ _ _ from ?_)
          refine Az.lvs (lv' := [(0, zr 10), (1, zr 1), (2, zi ((xx_endOfItem μ l2) + 1)), (3, zi (l3 + 1))]) ?_ ?_
          · intro q hq; simp only [List.mem_cons, List.not_mem_nil, or_false] at hq; rcases hq with rfl | rfl | rfl | rfl <;> rfl
          exact ih ((zup (xx_addHole (zup (zup (zup μ 12 l3 l2) 13 l3 ((xx_endOfItem μ l2) - l2)) 11 l3 (-1)) l3 (xx_kindAt (zup (zup (zup μ 12 l3 l2) 13 l3 ((xx_endOfItem μ l2) - l2)) 11 l3 (-1)) (l2 + 1)) (xx_digitAt (zup (zup (zup μ 12 l3 l2) 13 l3 ((xx_endOfItem μ l2) - l2)) 11 l3 (-1)) (l2 + 2))) 10 0 (l3 + 1))) (zup_ok (k := 10) (z := 0) (v := (l3 + 1)) (xb_addHole (zup_ok (k := 11) (z := l3) (v := (-1)) (zup_ok (k := 13) (z := l3) (v := ((xx_endOfItem μ l2) - l2)) (zup_ok (k := 12) (z := l3) (v := l2) hB (show 0 ≤ l2 ∧ l2 ≤ 60 from by omega)) (show 0 ≤ ((xx_endOfItem μ l2) - l2) ∧ ((xx_endOfItem μ l2) - l2) ≤ 60 from by omega)) (show (-1) ≤ (-1) ∧ (-1) ≤ 19 from by omega)) l3 (xx_kindAt (zup (zup (zup μ 12 l3 l2) 13 l3 ((xx_endOfItem μ l2) - l2)) 11 l3 (-1)) (l2 + 1)) (xx_digitAt (zup (zup (zup μ 12 l3 l2) 13 l3 ((xx_endOfItem μ l2) - l2)) 11 l3 (-1)) (l2 + 2)) (by omega) (by omega) (by omega)) (show 0 ≤ (l3 + 1) ∧ (l3 + 1) ≤ 20 from by omega)) ((xx_endOfItem μ l2) + 1) (l3 + 1) (by omega) (by omega) (by omega)
set_option maxHeartbeats 4000000 in
set_option maxRecDepth 100000 in
theorem xz_takeFrom_12 (f : Nat) (μ : zM) (hB : zB μ) (l2 : Int) (i0 : 0 ≤ l2 ∧ l2 ≤ 60) (hf : 60 - l2 < (f : Int)) : Ez md_2_takeFrom 0 0 12 [(0, zr 10), (1, zr 1), (2, zi l2)] [] zSh μ none zSh (xx_takeFrom_12 f μ l2) := by
  induction f generalizing μ l2 with
  | zero => exfalso; omega
  | succ f ih =>
    replace hf : 60 - l2 < (f : Int) + 1 := by omega
    rw [xx_takeFrom_12]
    refine Az.blk kd_2_takeFrom_12 (show zR l2 ∧ zR 60 ∧ ((¬ l2 < 60 → Ez md_2_takeFrom 0 0 35 [(0, zr 10), (1, zr 1), (2, zi l2)] [] zSh μ _ _ _) ∧ (l2 < 60 → Ez md_2_takeFrom 0 0 18 [(0, zr 10), (1, zr 1), (2, zi l2)] [] zSh μ _ _ _)) from ⟨(by omega), (by omega), fun c1 => ?_, fun c1 => ?_⟩)
    · rw [if_neg c1]
      refine Az.blk kd_2_takeFrom_35 (show Ez md_2_takeFrom 0 0 39 [(3, zi 0), (2, zi 0), (0, zr 10), (1, zr 1)] [] zSh μ _ _ _ from ?_)
      refine Az.lvs (lv' := [(0, zr 10), (1, zr 1), (2, zi 0), (3, zi 0)]) ?_ ?_
      · intro q hq; simp only [List.mem_cons, List.not_mem_nil, or_false] at hq; rcases hq with rfl | rfl | rfl | rfl <;> rfl
      have fb : (3000 : Int) ≤ ((zN : Nat) : Int) := zN_big
      exact xz_takeFrom_39 zN μ hB 0 0 (by omega) (by omega) (by omega)
    · rw [if_pos c1]
      refine Az.blk kd_2_takeFrom_18 (show Ez md_2_takeFrom 0 0 25 [(0, zr 10), (1, zr 1), (2, zi l2)] [zi l2, zr 1, zi l2, zr 14] zSh μ _ _ _ from ?_)
      refine Az.cVN (mc := md_3_signAt) (k := 1) (n := 1) (As := [zi l2]) (rest := [zi l2, zr 14]) kr_2_takeFrom_25 zw_286 ok_3_signAt rfl rfl rfl trivial (xz_signAt hB l2 (by omega)) rfl rfl (show Ez md_2_takeFrom 0 0 28 [(0, zr 10), (1, zr 1), (2, zi l2)] [zi (xx_signAt μ l2), zi l2, zr 14] zSh μ _ _ _ from ?_)
      have r2 : 0 ≤ (xx_signAt μ l2) ∧ (xx_signAt μ l2) ≤ 65535 ∧ (0 < (xx_signAt μ l2) → 0 ≤ l2 ∧ l2 < μ 1 1) := xr_signAt hB l2 (by omega)
      refine Az.blk kd_2_takeFrom_28 (show (0 ≤ l2 ∧ l2 < 60) ∧ Ez md_2_takeFrom 0 0 12 [(2, zi (l2 + 1)), (0, zr 10), (1, zr 1)] [] zSh (zup μ 14 l2 (xx_signAt μ l2)) _ _ _ from ⟨(by omega), ?_⟩)
      refine Az.lvs (lv' := [(0, zr 10), (1, zr 1), (2, zi (l2 + 1))]) ?_ ?_
      · intro q hq; simp only [List.mem_cons, List.not_mem_nil, or_false] at hq; rcases hq with rfl | rfl | rfl <;> rfl
      exact ih ((zup μ 14 l2 (xx_signAt μ l2))) (zup_ok (k := 14) (z := l2) (v := (xx_signAt μ l2)) hB (show 0 ≤ (xx_signAt μ l2) ∧ (xx_signAt μ l2) ≤ 65535 from by omega)) (l2 + 1) (by omega) (by omega)
set_option maxHeartbeats 4000000 in
set_option maxRecDepth 100000 in
theorem xz_takeFrom {μ : zM} (hB : zB μ)  : Dz md_2_takeFrom [zr 10, zr 1] zSh μ none zSh (xx_takeFrom μ) := by
  refine Dz.of (by decide) rfl rfl (show Ez md_2_takeFrom 0 0 0 [(0, zr 10), (1, zr 1)] [] zSh μ none zSh (xx_takeFrom μ) from ?_)
  unfold xx_takeFrom
  refine Az.blk kd_2_takeFrom_0 (show Ez md_2_takeFrom 0 0 12 [(2, zi 0), (0, zr 10), (1, zr 1)] [] zSh (zup (zup μ 10 0 0) 10 1 0) _ _ _ from ?_)
  refine Az.lvs (lv' := [(0, zr 10), (1, zr 1), (2, zi 0)]) ?_ ?_
  · intro q hq; simp only [List.mem_cons, List.not_mem_nil, or_false] at hq; rcases hq with rfl | rfl | rfl <;> rfl
  have fb : (3000 : Int) ≤ ((zN : Nat) : Int) := zN_big
  exact xz_takeFrom_12 zN ((zup (zup μ 10 0 0) 10 1 0)) (zup_ok (k := 10) (z := 1) (v := 0) (zup_ok (k := 10) (z := 0) (v := 0) hB (show 0 ≤ 0 ∧ 0 ≤ 20 from by omega)) (show 0 ≤ 0 ∧ 0 ≤ 20 from by omega)) 0 (by omega) (by omega)
