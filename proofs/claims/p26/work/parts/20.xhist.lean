/-! the history: four states, in an order that turns -/
abbrev zst4 (z : Int) : Prop := z = 41 ∨ z = 59 ∨ z = 77 ∨ z = 95
abbrev zperm (μ : zM) : Prop := ((μ 40 0) = 41 ∨ (μ 40 0) = 59 ∨ (μ 40 0) = 77 ∨ (μ 40 0) = 95) ∧ ((μ 40 1) = 41 ∨ (μ 40 1) = 59 ∨ (μ 40 1) = 77 ∨ (μ 40 1) = 95) ∧ ((μ 40 2) = 41 ∨ (μ 40 2) = 59 ∨ (μ 40 2) = 77 ∨ (μ 40 2) = 95) ∧ ((μ 40 3) = 41 ∨ (μ 40 3) = 59 ∨ (μ 40 3) = 77 ∨ (μ 40 3) = 95) ∧ ¬ (μ 40 0) = (μ 40 1) ∧ ¬ (μ 40 0) = (μ 40 2) ∧ ¬ (μ 40 0) = (μ 40 3) ∧ ¬ (μ 40 1) = (μ 40 2) ∧ ¬ (μ 40 1) = (μ 40 3) ∧ ¬ (μ 40 2) = (μ 40 3)
theorem zperm_at {μ : zM} (h : zperm μ) {z : Int} (h0 : 0 ≤ z) (h4 : z < 4) : zst4 (μ 40 z) := by
  obtain ⟨h1, h2, h3, h5, -⟩ := h
  rcases (show z = 0 ∨ z = 1 ∨ z = 2 ∨ z = 3 by omega) with rfl | rfl | rfl | rfl
  · exact h1
  · exact h2
  · exact h3
  · exact h5
theorem zst_ob {z : Int} (h : zst4 z) : zob zSh z.toNat 1 fun _ => True := by
  rcases h with rfl | rfl | rfl | rfl <;> trivial
def kb_0_dropOldest_0 : List zI := [(.aload_n 0, 1, 0, 0), (.getfield 11, 3, 0, 0), (.iconst 0, 1, 0, 0), (.aaload, 1, 0, 0), (.astore_n 1, 1, 0, 0), (.iconst 1, 1, 0, 0), (.istore_n 2, 1, 0, 0), (.iload_n 2, 1, 0, 0), (.iconst 4, 1, 0, 0), (.if_icmp .ge 23, 3, 34, 0)]
theorem kd_0_dropOldest_0 : zdec md_0_dropOldest 0 kb_0_dropOldest_0 = true := by decide +kernel
def kb_0_dropOldest_14 : List zI := [(.aload_n 0, 1, 0, 0), (.getfield 11, 3, 0, 0), (.iload_n 2, 1, 0, 0), (.iconst 1, 1, 0, 0), (.isub, 1, 0, 0), (.aload_n 0, 1, 0, 0), (.getfield 11, 3, 0, 0), (.iload_n 2, 1, 0, 0), (.aaload, 1, 0, 0), (.aastore, 1, 0, 0), (.iinc 2 1, 3, 0, 0), (.goto (-22), 3, 9, 0)]
theorem kd_0_dropOldest_14 : zdec md_0_dropOldest 14 kb_0_dropOldest_14 = true := by decide +kernel
def kb_0_dropOldest_9 : List zI := [(.iload_n 2, 1, 0, 0), (.iconst 4, 1, 0, 0), (.if_icmp .ge 23, 3, 34, 0)]
theorem kd_0_dropOldest_9 : zdec md_0_dropOldest 9 kb_0_dropOldest_9 = true := by decide +kernel
def kb_0_dropOldest_34 : List zI := [(.aload_n 0, 1, 0, 0), (.getfield 11, 3, 0, 0), (.iconst 3, 1, 0, 0), (.aload_n 1, 1, 0, 0), (.aastore, 1, 0, 0), (.aload_n 0, 1, 0, 0), (.iconst 3, 1, 0, 0), (.putfield 17, 3, 0, 1)]
theorem kd_0_dropOldest_34 : zdec md_0_dropOldest 34 kb_0_dropOldest_34 = true := by decide +kernel
theorem kr_0_dropOldest_46 : decode md_0_dropOldest.2.1 46 = .ok (.return_, 1) := by decide +kernel
noncomputable def xx_dropOldest (μ : zM) : zM := (zup (zup (zup (zup (zup μ 40 0 ((((μ 40 1)).toNat : Nat) : Int)) 40 1 ((((μ 40 2)).toNat : Nat) : Int)) 40 2 ((((μ 40 3)).toNat : Nat) : Int)) 40 3 ((((μ 40 0)).toNat : Nat) : Int)) 39 1 3)
set_option maxHeartbeats 4000000 in
set_option maxRecDepth 100000 in
theorem xb_dropOldest {μ : zM} (hB : zB μ) (h0 : ((μ 40 0) = 41 ∨ (μ 40 0) = 59 ∨ (μ 40 0) = 77 ∨ (μ 40 0) = 95) ∧ ((μ 40 1) = 41 ∨ (μ 40 1) = 59 ∨ (μ 40 1) = 77 ∨ (μ 40 1) = 95) ∧ ((μ 40 2) = 41 ∨ (μ 40 2) = 59 ∨ (μ 40 2) = 77 ∨ (μ 40 2) = 95) ∧ ((μ 40 3) = 41 ∨ (μ 40 3) = 59 ∨ (μ 40 3) = 77 ∨ (μ 40 3) = 95) ∧ ¬ (μ 40 0) = (μ 40 1) ∧ ¬ (μ 40 0) = (μ 40 2) ∧ ¬ (μ 40 0) = (μ 40 3) ∧ ¬ (μ 40 1) = (μ 40 2) ∧ ¬ (μ 40 1) = (μ 40 3) ∧ ¬ (μ 40 2) = (μ 40 3)) : zB (xx_dropOldest μ) := by
  unfold xx_dropOldest
  have b1 : 0 ≤ (μ 40 0) ∧ (μ 40 0) ≤ 95 := hB 40 0
  have b2 : 0 ≤ (μ 40 1) ∧ (μ 40 1) ≤ 95 := hB 40 1
  have b3 : 0 ≤ (μ 40 2) ∧ (μ 40 2) ≤ 95 := hB 40 2
  have b4 : 0 ≤ (μ 40 3) ∧ (μ 40 3) ≤ 95 := hB 40 3
  exact (zup_ok (k := 39) (z := 1) (v := 3) (zup_ok (k := 40) (z := 3) (v := ((((μ 40 0)).toNat : Nat) : Int)) (zup_ok (k := 40) (z := 2) (v := ((((μ 40 3)).toNat : Nat) : Int)) (zup_ok (k := 40) (z := 1) (v := ((((μ 40 2)).toNat : Nat) : Int)) (zup_ok (k := 40) (z := 0) (v := ((((μ 40 1)).toNat : Nat) : Int)) hB (show 0 ≤ ((((μ 40 1)).toNat : Nat) : Int) ∧ ((((μ 40 1)).toNat : Nat) : Int) ≤ 95 from by omega)) (show 0 ≤ ((((μ 40 2)).toNat : Nat) : Int) ∧ ((((μ 40 2)).toNat : Nat) : Int) ≤ 95 from by omega)) (show 0 ≤ ((((μ 40 3)).toNat : Nat) : Int) ∧ ((((μ 40 3)).toNat : Nat) : Int) ≤ 95 from by omega)) (show 0 ≤ ((((μ 40 0)).toNat : Nat) : Int) ∧ ((((μ 40 0)).toNat : Nat) : Int) ≤ 95 from by omega)) (show 0 ≤ 3 ∧ 3 ≤ 4 from by omega))
set_option maxHeartbeats 4000000 in
set_option maxRecDepth 100000 in
theorem xz_dropOldest {μ : zM} (hB : zB μ) (h0 : ((μ 40 0) = 41 ∨ (μ 40 0) = 59 ∨ (μ 40 0) = 77 ∨ (μ 40 0) = 95) ∧ ((μ 40 1) = 41 ∨ (μ 40 1) = 59 ∨ (μ 40 1) = 77 ∨ (μ 40 1) = 95) ∧ ((μ 40 2) = 41 ∨ (μ 40 2) = 59 ∨ (μ 40 2) = 77 ∨ (μ 40 2) = 95) ∧ ((μ 40 3) = 41 ∨ (μ 40 3) = 59 ∨ (μ 40 3) = 77 ∨ (μ 40 3) = 95) ∧ ¬ (μ 40 0) = (μ 40 1) ∧ ¬ (μ 40 0) = (μ 40 2) ∧ ¬ (μ 40 0) = (μ 40 3) ∧ ¬ (μ 40 1) = (μ 40 2) ∧ ¬ (μ 40 1) = (μ 40 3) ∧ ¬ (μ 40 2) = (μ 40 3)) : Dz md_0_dropOldest [zr 39] zSh μ none zSh (xx_dropOldest μ) := by
  refine Dz.of (by decide) rfl rfl (show Ez md_0_dropOldest 0 0 0 [(0, zr 39)] [] zSh μ none zSh (xx_dropOldest μ) from ?_)
  unfold xx_dropOldest
  have b1 : 0 ≤ (μ 40 0) ∧ (μ 40 0) ≤ 95 := hB 40 0
  refine Az.blk kd_0_dropOldest_0 (show (0 ≤ 0 ∧ 0 < 4) ∧ ¬ (μ 40 0) = 0 ∧ zR 1 ∧ zR 4 ∧ ((¬ (1 : Int) < 4 → Ez md_0_dropOldest 0 0 34 [(2, zi 1), (1, zr ((μ 40 0)).toNat), (0, zr 39)] [] zSh μ _ _ _) ∧ ((1 : Int) < 4 → Ez md_0_dropOldest 0 0 14 [(2, zi 1), (1, zr ((μ 40 0)).toNat), (0, zr 39)] [] zSh μ _ _ _)) from ⟨(by omega), (by omega), (by omega), (by omega), fun h => absurd (by decide) h, fun _ => ?_⟩)
  have b2 : 0 ≤ (μ 40 1) ∧ (μ 40 1) ≤ 95 := hB 40 1
  refine Az.blk kd_0_dropOldest_14 (show (0 ≤ 1 ∧ 1 < 4) ∧ ¬ (μ 40 1) = 0 ∧ (0 ≤ 0 ∧ 0 < 4) ∧ ¬ ((μ 40 1)).toNat = 0 ∧ (zob zSh ((μ 40 1)).toNat 1 fun _ => True) ∧ Ez md_0_dropOldest 0 0 9 [(2, zi 2), (1, zr ((μ 40 0)).toNat), (0, zr 39)] [] zSh (zup μ 40 0 ((((μ 40 1)).toNat : Nat) : Int)) _ _ _ from ⟨(by omega), (by omega), (by omega), (by omega), (zst_ob (zperm_at h0 (by omega) (by omega))), ?_⟩)
  refine Az.blk kd_0_dropOldest_9 (show zR 2 ∧ zR 4 ∧ ((¬ (2 : Int) < 4 → Ez md_0_dropOldest 0 0 34 [(2, zi 2), (1, zr ((μ 40 0)).toNat), (0, zr 39)] [] zSh (zup μ 40 0 ((((μ 40 1)).toNat : Nat) : Int)) _ _ _) ∧ ((2 : Int) < 4 → Ez md_0_dropOldest 0 0 14 [(2, zi 2), (1, zr ((μ 40 0)).toNat), (0, zr 39)] [] zSh (zup μ 40 0 ((((μ 40 1)).toNat : Nat) : Int)) _ _ _)) from ⟨(by omega), (by omega), fun h => absurd (by decide) h, fun _ => ?_⟩)
  have b3 : 0 ≤ (μ 40 2) ∧ (μ 40 2) ≤ 95 := hB 40 2
  refine Az.blk kd_0_dropOldest_14 (show (0 ≤ 2 ∧ 2 < 4) ∧ ¬ (μ 40 2) = 0 ∧ (0 ≤ 1 ∧ 1 < 4) ∧ ¬ ((μ 40 2)).toNat = 0 ∧ (zob zSh ((μ 40 2)).toNat 1 fun _ => True) ∧ Ez md_0_dropOldest 0 0 9 [(2, zi 3), (1, zr ((μ 40 0)).toNat), (0, zr 39)] [] zSh (zup (zup μ 40 0 ((((μ 40 1)).toNat : Nat) : Int)) 40 1 ((((μ 40 2)).toNat : Nat) : Int)) _ _ _ from ⟨(by omega), (by omega), (by omega), (by omega), (zst_ob (zperm_at h0 (by omega) (by omega))), ?_⟩)
  refine Az.blk kd_0_dropOldest_9 (show zR 3 ∧ zR 4 ∧ ((¬ (3 : Int) < 4 → Ez md_0_dropOldest 0 0 34 [(2, zi 3), (1, zr ((μ 40 0)).toNat), (0, zr 39)] [] zSh (zup (zup μ 40 0 ((((μ 40 1)).toNat : Nat) : Int)) 40 1 ((((μ 40 2)).toNat : Nat) : Int)) _ _ _) ∧ ((3 : Int) < 4 → Ez md_0_dropOldest 0 0 14 [(2, zi 3), (1, zr ((μ 40 0)).toNat), (0, zr 39)] [] zSh (zup (zup μ 40 0 ((((μ 40 1)).toNat : Nat) : Int)) 40 1 ((((μ 40 2)).toNat : Nat) : Int)) _ _ _)) from ⟨(by omega), (by omega), fun h => absurd (by decide) h, fun _ => ?_⟩)
  have b4 : 0 ≤ (μ 40 3) ∧ (μ 40 3) ≤ 95 := hB 40 3
  refine Az.blk kd_0_dropOldest_14 (show (0 ≤ 3 ∧ 3 < 4) ∧ ¬ (μ 40 3) = 0 ∧ (0 ≤ 2 ∧ 2 < 4) ∧ ¬ ((μ 40 3)).toNat = 0 ∧ (zob zSh ((μ 40 3)).toNat 1 fun _ => True) ∧ Ez md_0_dropOldest 0 0 9 [(2, zi 4), (1, zr ((μ 40 0)).toNat), (0, zr 39)] [] zSh (zup (zup (zup μ 40 0 ((((μ 40 1)).toNat : Nat) : Int)) 40 1 ((((μ 40 2)).toNat : Nat) : Int)) 40 2 ((((μ 40 3)).toNat : Nat) : Int)) _ _ _ from ⟨(by omega), (by omega), (by omega), (by omega), (zst_ob (zperm_at h0 (by omega) (by omega))), ?_⟩)
  refine Az.blk kd_0_dropOldest_9 (show zR 4 ∧ zR 4 ∧ ((¬ (4 : Int) < 4 → Ez md_0_dropOldest 0 0 34 [(2, zi 4), (1, zr ((μ 40 0)).toNat), (0, zr 39)] [] zSh (zup (zup (zup μ 40 0 ((((μ 40 1)).toNat : Nat) : Int)) 40 1 ((((μ 40 2)).toNat : Nat) : Int)) 40 2 ((((μ 40 3)).toNat : Nat) : Int)) _ _ _) ∧ ((4 : Int) < 4 → Ez md_0_dropOldest 0 0 14 [(2, zi 4), (1, zr ((μ 40 0)).toNat), (0, zr 39)] [] zSh (zup (zup (zup μ 40 0 ((((μ 40 1)).toNat : Nat) : Int)) 40 1 ((((μ 40 2)).toNat : Nat) : Int)) 40 2 ((((μ 40 3)).toNat : Nat) : Int)) _ _ _)) from ⟨(by omega), (by omega), fun _ => ?_, fun h => absurd h (by decide)⟩)
  refine Az.blk kd_0_dropOldest_34 (show (0 ≤ 3 ∧ 3 < 4) ∧ ¬ ((μ 40 0)).toNat = 0 ∧ (zob zSh ((μ 40 0)).toNat 1 fun _ => True) ∧ Ez md_0_dropOldest 0 0 46 [(2, zi 4), (1, zr ((μ 40 0)).toNat), (0, zr 39)] [] zSh (zup (zup (zup (zup (zup μ 40 0 ((((μ 40 1)).toNat : Nat) : Int)) 40 1 ((((μ 40 2)).toNat : Nat) : Int)) 40 2 ((((μ 40 3)).toNat : Nat) : Int)) 40 3 ((((μ 40 0)).toNat : Nat) : Int)) 39 1 3) _ _ _ from ⟨(by omega), (by omega), (zst_ob (zperm_at h0 (by omega) (by omega))), ?_⟩)
  exact Ez.vret kr_0_dropOldest_46 rfl (Nat.zero_le _) (Nat.zero_le _) rfl rfl
theorem xe_dropOldest (μ : zM) (h : zperm μ) : (xx_dropOldest μ) 40 0 = μ 40 1 ∧ (xx_dropOldest μ) 40 1 = μ 40 2 ∧ (xx_dropOldest μ) 40 2 = μ 40 3 ∧ (xx_dropOldest μ) 40 3 = μ 40 0 ∧ (xx_dropOldest μ) 39 1 = 3 ∧ ∀ k, k ≠ 39 → k ≠ 40 → (xx_dropOldest μ) k = μ k := by
  unfold xx_dropOldest
  refine ⟨?_, ?_, ?_, ?_, ?_, fun k h1 h2 => ?_⟩
  · simp only [zup_ap]; simp; omega
  · simp only [zup_ap]; simp; omega
  · simp only [zup_ap]; simp; omega
  · simp only [zup_ap]; simp; omega
  · simp only [zup_ap]; simp
  · rw [zup_ne h1, zup_ne h2, zup_ne h2, zup_ne h2, zup_ne h2]
theorem zperm_drop {μ : zM} (h : zperm μ) : zperm (xx_dropOldest μ) := by
  obtain ⟨e0, e1, e2, e3, -⟩ := xe_dropOldest μ h
  unfold zperm
  rw [e0, e1, e2, e3]
  obtain ⟨a0, a1, a2, a3, b1, b2, b3, b4, b5, b6⟩ := h
  exact ⟨a1, a2, a3, a0, b4, b5, fun q => b1 q.symm, b6, fun q => b2 q.symm, fun q => b3 q.symm⟩
def kb_0_rowAt_0 : List zI := [(.iload_n 1, 1, 0, 0), (.iconst 4, 1, 0, 0)]
theorem kd_0_rowAt_0 : zdec md_0_rowAt 0 kb_0_rowAt_0 = true := by decide +kernel
theorem kr_0_rowAt_2 : decode md_0_rowAt.2.1 2 = .ok (.invokestatic 33, 3) := by decide +kernel
def kb_0_rowAt_5 : List zI := [(.ifCond .eq 12, 3, 17, 0)]
theorem kd_0_rowAt_5 : zdec md_0_rowAt 5 kb_0_rowAt_5 = true := by decide +kernel
def kb_0_rowAt_8 : List zI := [(.aload_n 0, 1, 0, 0), (.getfield 11, 3, 0, 0), (.iload_n 1, 1, 0, 0), (.aaload, 1, 0, 0), (.goto 4, 3, 18, 0)]
theorem kd_0_rowAt_8 : zdec md_0_rowAt 8 kb_0_rowAt_8 = true := by decide +kernel
theorem kr_0_rowAt_18 : decode md_0_rowAt.2.1 18 = .ok (.areturn, 1) := by decide +kernel
set_option maxHeartbeats 4000000 in
set_option maxRecDepth 100000 in
theorem xz_rowAt {μ : zM} (hB : zB μ) (a1 : Int) (h0 : 0 ≤ a1 ∧ a1 < 4) (h1 : (μ 40 a1) = 41 ∨ (μ 40 a1) = 59 ∨ (μ 40 a1) = 77 ∨ (μ 40 a1) = 95) : Dz md_0_rowAt [zr 39, zi a1] zSh μ (some (zr ((μ 40 a1)).toNat)) zSh μ := by
  refine Dz.of (by decide) rfl rfl (show Ez md_0_rowAt 0 0 0 [(0, zr 39), (1, zi a1)] [] zSh μ (some (zr ((μ 40 a1)).toNat)) zSh μ from ?_)
  refine Az.blk kd_0_rowAt_0 (show Ez md_0_rowAt 0 0 2 [(0, zr 39), (1, zi a1)] [zi 4, zi a1] zSh μ _ _ _ from ?_)
  refine Az.cSN (mc := md_5_isBelow) (n := 2) (As := [zi a1, zi 4]) (rest := []) kr_0_rowAt_2 zw_258 ok_5_isBelow rfl rfl (xz_isBelow a1 4 (by omega) (by omega)) rfl rfl (show Ez md_0_rowAt 0 0 5 [(0, zr 39), (1, zi a1)] [zi (xx_isBelow a1 4)] zSh μ _ _ _ from ?_)
  have e : xx_isBelow a1 4 = 1 := by
    unfold xx_isBelow
    repeat' split
    all_goals omega
  rw [e]
  refine Az.blk kd_0_rowAt_5 (show zR 1 ∧ (((1 : Int) = 0 → Ez md_0_rowAt 0 0 17 [(0, zr 39), (1, zi a1)] [] zSh μ _ _ _) ∧ (¬ (1 : Int) = 0 → Ez md_0_rowAt 0 0 8 [(0, zr 39), (1, zi a1)] [] zSh μ _ _ _)) from ⟨(by omega), fun h => absurd h (by decide), fun _ => ?_⟩)
  refine Az.blk kd_0_rowAt_8 (show (0 ≤ a1 ∧ a1 < 4) ∧ ¬ (μ 40 a1) = 0 ∧ Ez md_0_rowAt 0 0 18 [(0, zr 39), (1, zi a1)] [zr ((μ 40 a1)).toNat] zSh μ _ _ _ from ⟨h0, (by omega), ?_⟩)
  exact Ez.aret kr_0_rowAt_18 rfl (Nat.zero_le _) (Nat.zero_le _) rfl rfl
def kb_0_record_0 : List zI := [(.aload_n 0, 1, 0, 0), (.getfield 17, 3, 0, 1), (.iconst 4, 1, 0, 0), (.if_icmp .lt 7, 3, 12, 0)]
theorem kd_0_record_0 : zdec md_0_record 0 kb_0_record_0 = true := by decide +kernel
def kb_0_record_12 : List zI := [(.aload_n 0, 1, 0, 0), (.aload_n 0, 1, 0, 0), (.getfield 17, 3, 0, 1)]
theorem kd_0_record_12 : zdec md_0_record 12 kb_0_record_12 = true := by decide +kernel
theorem kr_0_record_17 : decode md_0_record.2.1 17 = .ok (.invokevirtual 25, 3) := by decide +kernel
def kb_0_record_20 : List zI := [(.astore_n 2, 1, 0, 0), (.aload_n 2, 1, 0, 0)]
theorem kd_0_record_20 : zdec md_0_record 20 kb_0_record_20 = true := by decide +kernel
theorem kr_0_record_22 : decode md_0_record.2.1 22 = .ok (.ifnull 18, 3) := by decide +kernel
def kb_0_record_25 : List zI := [(.aload_n 2, 1, 0, 0), (.aload_n 1, 1, 0, 0)]
theorem kd_0_record_25 : zdec md_0_record 25 kb_0_record_25 = true := by decide +kernel
theorem kr_0_record_27 : decode md_0_record.2.1 27 = .ok (.invokevirtual 29, 3) := by decide +kernel
def kb_0_record_30 : List zI := [(.aload_n 0, 1, 0, 0), (.dup, 1, 0, 0), (.getfield 17, 3, 0, 1), (.iconst 1, 1, 0, 0), (.iadd, 1, 0, 0), (.putfield 17, 3, 0, 1)]
theorem kd_0_record_30 : zdec md_0_record 30 kb_0_record_30 = true := by decide +kernel
theorem kr_0_record_40 : decode md_0_record.2.1 40 = .ok (.return_, 1) := by decide +kernel
def kb_0_record_8 : List zI := [(.aload_n 0, 1, 0, 0)]
theorem kd_0_record_8 : zdec md_0_record 8 kb_0_record_8 = true := by decide +kernel
theorem kr_0_record_9 : decode md_0_record.2.1 9 = .ok (.invokevirtual 22, 3) := by decide +kernel
noncomputable def xx_record (μ : zM) : zM := (if (μ 39 1) < 4 then (zup (zcs μ ((μ 40 (μ 39 1))).toNat 3) 39 1 (((zcs μ ((μ 40 (μ 39 1))).toNat 3) 39 1) + 1)) else (zup (zcs (xx_dropOldest μ) (((xx_dropOldest μ) 40 ((xx_dropOldest μ) 39 1))).toNat 3) 39 1 (((zcs (xx_dropOldest μ) (((xx_dropOldest μ) 40 ((xx_dropOldest μ) 39 1))).toNat 3) 39 1) + 1)))
set_option maxHeartbeats 4000000 in
set_option maxRecDepth 100000 in
theorem xb_record {μ : zM} (hB : zB μ) (h0 : ((μ 40 0) = 41 ∨ (μ 40 0) = 59 ∨ (μ 40 0) = 77 ∨ (μ 40 0) = 95) ∧ ((μ 40 1) = 41 ∨ (μ 40 1) = 59 ∨ (μ 40 1) = 77 ∨ (μ 40 1) = 95) ∧ ((μ 40 2) = 41 ∨ (μ 40 2) = 59 ∨ (μ 40 2) = 77 ∨ (μ 40 2) = 95) ∧ ((μ 40 3) = 41 ∨ (μ 40 3) = 59 ∨ (μ 40 3) = 77 ∨ (μ 40 3) = 95) ∧ ¬ (μ 40 0) = (μ 40 1) ∧ ¬ (μ 40 0) = (μ 40 2) ∧ ¬ (μ 40 0) = (μ 40 3) ∧ ¬ (μ 40 1) = (μ 40 2) ∧ ¬ (μ 40 1) = (μ 40 3) ∧ ¬ (μ 40 2) = (μ 40 3)) : zB (xx_record μ) := by
  unfold xx_record
  have b1 : 0 ≤ (μ 39 1) ∧ (μ 39 1) ≤ 4 := hB 39 1
  by_cases c2 : (μ 39 1) < 4
  · rw [if_pos c2]
    have b3 : 0 ≤ (μ 39 1) ∧ (μ 39 1) ≤ 4 := hB 39 1
    have p9 : ((μ 40 (μ 39 1)) = 41 ∨ (μ 40 (μ 39 1)) = 59 ∨ (μ 40 (μ 39 1)) = 77 ∨ (μ 40 (μ 39 1)) = 95) := zperm_at h0 (by omega) (by omega)
    have e9 : (zcs μ ((μ 40 (μ 39 1))).toNat 3) 39 1 = μ 39 1 := by rw [zcs_ne (by omega)]
    have b4 : 0 ≤ ((zcs μ ((μ 40 (μ 39 1))).toNat 3) 39 1) ∧ ((zcs μ ((μ 40 (μ 39 1))).toNat 3) 39 1) ≤ 4 := (zcs_ok hB (by unfold zst; omega) (by unfold zst; omega)) 39 1
    exact (zup_ok (k := 39) (z := 1) (v := (((zcs μ ((μ 40 (μ 39 1))).toNat 3) 39 1) + 1)) (zcs_ok hB (by unfold zst; omega) (by unfold zst; omega)) (show 0 ≤ (((zcs μ ((μ 40 (μ 39 1))).toNat 3) 39 1) + 1) ∧ (((zcs μ ((μ 40 (μ 39 1))).toNat 3) 39 1) + 1) ≤ 4 from by omega))
  · rw [if_neg c2]
    have b5 : 0 ≤ ((xx_dropOldest μ) 39 1) ∧ ((xx_dropOldest μ) 39 1) ≤ 4 := (xb_dropOldest hB h0) 39 1
    have e8 : (xx_dropOldest μ) 39 1 = 3 := (xe_dropOldest μ h0).2.2.2.2.1
    have p9 : (((xx_dropOldest μ) 40 ((xx_dropOldest μ) 39 1)) = 41 ∨ ((xx_dropOldest μ) 40 ((xx_dropOldest μ) 39 1)) = 59 ∨ ((xx_dropOldest μ) 40 ((xx_dropOldest μ) 39 1)) = 77 ∨ ((xx_dropOldest μ) 40 ((xx_dropOldest μ) 39 1)) = 95) := zperm_at (zperm_drop h0) (by omega) (by omega)
    have e9 : (zcs (xx_dropOldest μ) (((xx_dropOldest μ) 40 ((xx_dropOldest μ) 39 1))).toNat 3) 39 1 = (xx_dropOldest μ) 39 1 := by rw [zcs_ne (by omega)]
    have b6 : 0 ≤ ((zcs (xx_dropOldest μ) (((xx_dropOldest μ) 40 ((xx_dropOldest μ) 39 1))).toNat 3) 39 1) ∧ ((zcs (xx_dropOldest μ) (((xx_dropOldest μ) 40 ((xx_dropOldest μ) 39 1))).toNat 3) 39 1) ≤ 4 := (zcs_ok (xb_dropOldest hB h0) (by unfold zst; omega) (by unfold zst; omega)) 39 1
    exact (zup_ok (k := 39) (z := 1) (v := (((zcs (xx_dropOldest μ) (((xx_dropOldest μ) 40 ((xx_dropOldest μ) 39 1))).toNat 3) 39 1) + 1)) (zcs_ok (xb_dropOldest hB h0) (by unfold zst; omega) (by unfold zst; omega)) (show 0 ≤ (((zcs (xx_dropOldest μ) (((xx_dropOldest μ) 40 ((xx_dropOldest μ) 39 1))).toNat 3) 39 1) + 1) ∧ (((zcs (xx_dropOldest μ) (((xx_dropOldest μ) 40 ((xx_dropOldest μ) 39 1))).toNat 3) 39 1) + 1) ≤ 4 from by omega))
set_option maxHeartbeats 4000000 in
set_option maxRecDepth 100000 in
theorem xz_record {μ : zM} (hB : zB μ) (h0 : ((μ 40 0) = 41 ∨ (μ 40 0) = 59 ∨ (μ 40 0) = 77 ∨ (μ 40 0) = 95) ∧ ((μ 40 1) = 41 ∨ (μ 40 1) = 59 ∨ (μ 40 1) = 77 ∨ (μ 40 1) = 95) ∧ ((μ 40 2) = 41 ∨ (μ 40 2) = 59 ∨ (μ 40 2) = 77 ∨ (μ 40 2) = 95) ∧ ((μ 40 3) = 41 ∨ (μ 40 3) = 59 ∨ (μ 40 3) = 77 ∨ (μ 40 3) = 95) ∧ ¬ (μ 40 0) = (μ 40 1) ∧ ¬ (μ 40 0) = (μ 40 2) ∧ ¬ (μ 40 0) = (μ 40 3) ∧ ¬ (μ 40 1) = (μ 40 2) ∧ ¬ (μ 40 1) = (μ 40 3) ∧ ¬ (μ 40 2) = (μ 40 3)) : Dz md_0_record [zr 39, zr 3] zSh μ none zSh (xx_record μ) := by
  refine Dz.of (by decide) rfl rfl (show Ez md_0_record 0 0 0 [(0, zr 39), (1, zr 3)] [] zSh μ none zSh (xx_record μ) from ?_)
  unfold xx_record
  have b1 : 0 ≤ (μ 39 1) ∧ (μ 39 1) ≤ 4 := hB 39 1
  refine Az.blk kd_0_record_0 (show zR (μ 39 1) ∧ zR 4 ∧ (((μ 39 1) < 4 → Ez md_0_record 0 0 12 [(0, zr 39), (1, zr 3)] [] zSh μ _ _ _) ∧ (¬ (μ 39 1) < 4 → Ez md_0_record 0 0 8 [(0, zr 39), (1, zr 3)] [] zSh μ _ _ _)) from ⟨(by omega), (by omega), fun c2 => ?_, fun c2 => ?_⟩)
  · rw [if_pos c2]
    have b3 : 0 ≤ (μ 39 1) ∧ (μ 39 1) ≤ 4 := hB 39 1
    refine Az.blk kd_0_record_12 (show Ez md_0_record 0 0 17 [(0, zr 39), (1, zr 3)] [zi (μ 39 1), zr 39] zSh μ _ _ _ from ?_)
    have p9 : ((μ 40 (μ 39 1)) = 41 ∨ (μ 40 (μ 39 1)) = 59 ∨ (μ 40 (μ 39 1)) = 77 ∨ (μ 40 (μ 39 1)) = 95) := zperm_at h0 (by omega) (by omega)
    refine Az.cV (mc := md_0_rowAt) (k := 39) (n := 1) (As := [zi (μ 39 1)]) (rest := []) kr_0_record_17 zw_254 ok_0_rowAt rfl rfl rfl trivial (xz_rowAt hB (μ 39 1) (by omega) p9) rfl rfl (show Ez md_0_record 0 0 20 [(0, zr 39), (1, zr 3)] [zr ((μ 40 (μ 39 1))).toNat] zSh μ _ _ _ from ?_)
    refine Az.blk kd_0_record_20 (show Ez md_0_record 0 0 22 [(2, zr ((μ 40 (μ 39 1))).toNat), (0, zr 39), (1, zr 3)] [zr ((μ 40 (μ 39 1))).toNat] zSh μ _ _ _ from ?_)
    refine Az.nnul (k := ((μ 40 (μ 39 1))).toNat) kr_0_record_22 rfl (show Ez md_0_record 0 0 25 [(2, zr ((μ 40 (μ 39 1))).toNat), (0, zr 39), (1, zr 3)] [] zSh μ _ _ _ from ?_)
    refine Az.blk kd_0_record_25 (show Ez md_0_record 0 0 27 [(2, zr ((μ 40 (μ 39 1))).toNat), (0, zr 39), (1, zr 3)] [zr 3, zr ((μ 40 (μ 39 1))).toNat] zSh μ _ _ _ from ?_)
    refine Az.cVN (mc := md_1_copyFrom) (k := ((μ 40 (μ 39 1))).toNat) (n := 1) (As := [zr 3]) (rest := []) kr_0_record_27 zw_259 ok_1_copyFrom rfl rfl rfl (zst_ob p9) (xz_copyFrom ((μ 40 (μ 39 1))).toNat 3 (by unfold zpair; omega)) rfl rfl (show Ez md_0_record 0 0 30 [(2, zr ((μ 40 (μ 39 1))).toNat), (0, zr 39), (1, zr 3)] [] zSh (zcs μ ((μ 40 (μ 39 1))).toNat 3) _ _ _ from ?_)
    have e9 : (zcs μ ((μ 40 (μ 39 1))).toNat 3) 39 1 = μ 39 1 := by rw [zcs_ne (by omega)]
    have b4 : 0 ≤ ((zcs μ ((μ 40 (μ 39 1))).toNat 3) 39 1) ∧ ((zcs μ ((μ 40 (μ 39 1))).toNat 3) 39 1) ≤ 4 := (zcs_ok hB (by unfold zst; omega) (by unfold zst; omega)) 39 1
    refine Az.blk kd_0_record_30 (show Ez md_0_record 0 0 40 [(2, zr ((μ 40 (μ 39 1))).toNat), (0, zr 39), (1, zr 3)] [] zSh (zup (zcs μ ((μ 40 (μ 39 1))).toNat 3) 39 1 (((zcs μ ((μ 40 (μ 39 1))).toNat 3) 39 1) + 1)) _ _ _ from ?_)
    exact Ez.vret kr_0_record_40 rfl (Nat.zero_le _) (Nat.zero_le _) rfl rfl
  · rw [if_neg c2]
    refine Az.blk kd_0_record_8 (show Ez md_0_record 0 0 9 [(0, zr 39), (1, zr 3)] [zr 39] zSh μ _ _ _ from ?_)
    refine Az.cV (mc := md_0_dropOldest) (k := 39) (n := 0) (As := []) (rest := []) kr_0_record_9 zw_250 ok_0_dropOldest rfl rfl rfl trivial (xz_dropOldest hB h0) rfl rfl (show Ez md_0_record 0 0 12 [(0, zr 39), (1, zr 3)] [] zSh (xx_dropOldest μ) _ _ _ from ?_)
    have b5 : 0 ≤ ((xx_dropOldest μ) 39 1) ∧ ((xx_dropOldest μ) 39 1) ≤ 4 := (xb_dropOldest hB h0) 39 1
    refine Az.blk kd_0_record_12 (show Ez md_0_record 0 0 17 [(0, zr 39), (1, zr 3)] [zi ((xx_dropOldest μ) 39 1), zr 39] zSh (xx_dropOldest μ) _ _ _ from ?_)
    have e8 : (xx_dropOldest μ) 39 1 = 3 := (xe_dropOldest μ h0).2.2.2.2.1
    have p9 : (((xx_dropOldest μ) 40 ((xx_dropOldest μ) 39 1)) = 41 ∨ ((xx_dropOldest μ) 40 ((xx_dropOldest μ) 39 1)) = 59 ∨ ((xx_dropOldest μ) 40 ((xx_dropOldest μ) 39 1)) = 77 ∨ ((xx_dropOldest μ) 40 ((xx_dropOldest μ) 39 1)) = 95) := zperm_at (zperm_drop h0) (by omega) (by omega)
    refine Az.cV (mc := md_0_rowAt) (k := 39) (n := 1) (As := [zi ((xx_dropOldest μ) 39 1)]) (rest := []) kr_0_record_17 zw_254 ok_0_rowAt rfl rfl rfl trivial (xz_rowAt (xb_dropOldest hB h0) ((xx_dropOldest μ) 39 1) (by omega) p9) rfl rfl (show Ez md_0_record 0 0 20 [(0, zr 39), (1, zr 3)] [zr (((xx_dropOldest μ) 40 ((xx_dropOldest μ) 39 1))).toNat] zSh (xx_dropOldest μ) _ _ _ from ?_)
    refine Az.blk kd_0_record_20 (show Ez md_0_record 0 0 22 [(2, zr (((xx_dropOldest μ) 40 ((xx_dropOldest μ) 39 1))).toNat), (0, zr 39), (1, zr 3)] [zr (((xx_dropOldest μ) 40 ((xx_dropOldest μ) 39 1))).toNat] zSh (xx_dropOldest μ) _ _ _ from ?_)
    refine Az.nnul (k := (((xx_dropOldest μ) 40 ((xx_dropOldest μ) 39 1))).toNat) kr_0_record_22 rfl (show Ez md_0_record 0 0 25 [(2, zr (((xx_dropOldest μ) 40 ((xx_dropOldest μ) 39 1))).toNat), (0, zr 39), (1, zr 3)] [] zSh (xx_dropOldest μ) _ _ _ from ?_)
    refine Az.blk kd_0_record_25 (show Ez md_0_record 0 0 27 [(2, zr (((xx_dropOldest μ) 40 ((xx_dropOldest μ) 39 1))).toNat), (0, zr 39), (1, zr 3)] [zr 3, zr (((xx_dropOldest μ) 40 ((xx_dropOldest μ) 39 1))).toNat] zSh (xx_dropOldest μ) _ _ _ from ?_)
    refine Az.cVN (mc := md_1_copyFrom) (k := (((xx_dropOldest μ) 40 ((xx_dropOldest μ) 39 1))).toNat) (n := 1) (As := [zr 3]) (rest := []) kr_0_record_27 zw_259 ok_1_copyFrom rfl rfl rfl (zst_ob p9) (xz_copyFrom (((xx_dropOldest μ) 40 ((xx_dropOldest μ) 39 1))).toNat 3 (by unfold zpair; omega)) rfl rfl (show Ez md_0_record 0 0 30 [(2, zr (((xx_dropOldest μ) 40 ((xx_dropOldest μ) 39 1))).toNat), (0, zr 39), (1, zr 3)] [] zSh (zcs (xx_dropOldest μ) (((xx_dropOldest μ) 40 ((xx_dropOldest μ) 39 1))).toNat 3) _ _ _ from ?_)
    have e9 : (zcs (xx_dropOldest μ) (((xx_dropOldest μ) 40 ((xx_dropOldest μ) 39 1))).toNat 3) 39 1 = (xx_dropOldest μ) 39 1 := by rw [zcs_ne (by omega)]
    have b6 : 0 ≤ ((zcs (xx_dropOldest μ) (((xx_dropOldest μ) 40 ((xx_dropOldest μ) 39 1))).toNat 3) 39 1) ∧ ((zcs (xx_dropOldest μ) (((xx_dropOldest μ) 40 ((xx_dropOldest μ) 39 1))).toNat 3) 39 1) ≤ 4 := (zcs_ok (xb_dropOldest hB h0) (by unfold zst; omega) (by unfold zst; omega)) 39 1
    refine Az.blk kd_0_record_30 (show Ez md_0_record 0 0 40 [(2, zr (((xx_dropOldest μ) 40 ((xx_dropOldest μ) 39 1))).toNat), (0, zr 39), (1, zr 3)] [] zSh (zup (zcs (xx_dropOldest μ) (((xx_dropOldest μ) 40 ((xx_dropOldest μ) 39 1))).toNat 3) 39 1 (((zcs (xx_dropOldest μ) (((xx_dropOldest μ) 40 ((xx_dropOldest μ) 39 1))).toNat 3) 39 1) + 1)) _ _ _ from ?_)
    exact Ez.vret kr_0_record_40 rfl (Nat.zero_le _) (Nat.zero_le _) rfl rfl
def kb_0_bringBack_0 : List zI := [(.aload_n 0, 1, 0, 0), (.aload_n 0, 1, 0, 0), (.getfield 17, 3, 0, 1), (.iconst 1, 1, 0, 0), (.isub, 1, 0, 0)]
theorem kd_0_bringBack_0 : zdec md_0_bringBack 0 kb_0_bringBack_0 = true := by decide +kernel
theorem kr_0_bringBack_7 : decode md_0_bringBack.2.1 7 = .ok (.invokevirtual 25, 3) := by decide +kernel
def kb_0_bringBack_10 : List zI := [(.astore_n 2, 1, 0, 0), (.aload_n 2, 1, 0, 0)]
theorem kd_0_bringBack_10 : zdec md_0_bringBack 10 kb_0_bringBack_10 = true := by decide +kernel
theorem kr_0_bringBack_12 : decode md_0_bringBack.2.1 12 = .ok (.ifnull 18, 3) := by decide +kernel
def kb_0_bringBack_15 : List zI := [(.aload_n 1, 1, 0, 0), (.aload_n 2, 1, 0, 0)]
theorem kd_0_bringBack_15 : zdec md_0_bringBack 15 kb_0_bringBack_15 = true := by decide +kernel
theorem kr_0_bringBack_17 : decode md_0_bringBack.2.1 17 = .ok (.invokevirtual 29, 3) := by decide +kernel
def kb_0_bringBack_20 : List zI := [(.aload_n 0, 1, 0, 0), (.dup, 1, 0, 0), (.getfield 17, 3, 0, 1), (.iconst 1, 1, 0, 0), (.isub, 1, 0, 0), (.putfield 17, 3, 0, 1)]
theorem kd_0_bringBack_20 : zdec md_0_bringBack 20 kb_0_bringBack_20 = true := by decide +kernel
theorem kr_0_bringBack_30 : decode md_0_bringBack.2.1 30 = .ok (.return_, 1) := by decide +kernel
noncomputable def xx_bringBack (μ : zM) : zM := (zup (zcs μ 3 ((μ 40 ((μ 39 1) - 1))).toNat) 39 1 (((zcs μ 3 ((μ 40 ((μ 39 1) - 1))).toNat) 39 1) - 1))
set_option maxHeartbeats 4000000 in
set_option maxRecDepth 100000 in
theorem xb_bringBack {μ : zM} (hB : zB μ) (h0 : ((μ 40 0) = 41 ∨ (μ 40 0) = 59 ∨ (μ 40 0) = 77 ∨ (μ 40 0) = 95) ∧ ((μ 40 1) = 41 ∨ (μ 40 1) = 59 ∨ (μ 40 1) = 77 ∨ (μ 40 1) = 95) ∧ ((μ 40 2) = 41 ∨ (μ 40 2) = 59 ∨ (μ 40 2) = 77 ∨ (μ 40 2) = 95) ∧ ((μ 40 3) = 41 ∨ (μ 40 3) = 59 ∨ (μ 40 3) = 77 ∨ (μ 40 3) = 95) ∧ ¬ (μ 40 0) = (μ 40 1) ∧ ¬ (μ 40 0) = (μ 40 2) ∧ ¬ (μ 40 0) = (μ 40 3) ∧ ¬ (μ 40 1) = (μ 40 2) ∧ ¬ (μ 40 1) = (μ 40 3) ∧ ¬ (μ 40 2) = (μ 40 3)) (h1 : 1 ≤ (μ 39 1)) : zB (xx_bringBack μ) := by
  unfold xx_bringBack
  have b1 : 0 ≤ (μ 39 1) ∧ (μ 39 1) ≤ 4 := hB 39 1
  have p9 : ((μ 40 ((μ 39 1) - 1)) = 41 ∨ (μ 40 ((μ 39 1) - 1)) = 59 ∨ (μ 40 ((μ 39 1) - 1)) = 77 ∨ (μ 40 ((μ 39 1) - 1)) = 95) := zperm_at h0 (by omega) (by omega)
  have e9 : (zcs μ 3 ((μ 40 ((μ 39 1) - 1))).toNat) 39 1 = μ 39 1 := by rw [zcs_ne (by omega)]
  have b2 : 0 ≤ ((zcs μ 3 ((μ 40 ((μ 39 1) - 1))).toNat) 39 1) ∧ ((zcs μ 3 ((μ 40 ((μ 39 1) - 1))).toNat) 39 1) ≤ 4 := (zcs_ok hB (by unfold zst; omega) (by unfold zst; omega)) 39 1
  exact (zup_ok (k := 39) (z := 1) (v := (((zcs μ 3 ((μ 40 ((μ 39 1) - 1))).toNat) 39 1) - 1)) (zcs_ok hB (by unfold zst; omega) (by unfold zst; omega)) (show 0 ≤ (((zcs μ 3 ((μ 40 ((μ 39 1) - 1))).toNat) 39 1) - 1) ∧ (((zcs μ 3 ((μ 40 ((μ 39 1) - 1))).toNat) 39 1) - 1) ≤ 4 from by omega))
set_option maxHeartbeats 4000000 in
set_option maxRecDepth 100000 in
theorem xz_bringBack {μ : zM} (hB : zB μ) (h0 : ((μ 40 0) = 41 ∨ (μ 40 0) = 59 ∨ (μ 40 0) = 77 ∨ (μ 40 0) = 95) ∧ ((μ 40 1) = 41 ∨ (μ 40 1) = 59 ∨ (μ 40 1) = 77 ∨ (μ 40 1) = 95) ∧ ((μ 40 2) = 41 ∨ (μ 40 2) = 59 ∨ (μ 40 2) = 77 ∨ (μ 40 2) = 95) ∧ ((μ 40 3) = 41 ∨ (μ 40 3) = 59 ∨ (μ 40 3) = 77 ∨ (μ 40 3) = 95) ∧ ¬ (μ 40 0) = (μ 40 1) ∧ ¬ (μ 40 0) = (μ 40 2) ∧ ¬ (μ 40 0) = (μ 40 3) ∧ ¬ (μ 40 1) = (μ 40 2) ∧ ¬ (μ 40 1) = (μ 40 3) ∧ ¬ (μ 40 2) = (μ 40 3)) (h1 : 1 ≤ (μ 39 1)) : Dz md_0_bringBack [zr 39, zr 3] zSh μ none zSh (xx_bringBack μ) := by
  refine Dz.of (by decide) rfl rfl (show Ez md_0_bringBack 0 0 0 [(0, zr 39), (1, zr 3)] [] zSh μ none zSh (xx_bringBack μ) from ?_)
  unfold xx_bringBack
  have b1 : 0 ≤ (μ 39 1) ∧ (μ 39 1) ≤ 4 := hB 39 1
  refine Az.blk kd_0_bringBack_0 (show Ez md_0_bringBack 0 0 7 [(0, zr 39), (1, zr 3)] [zi ((μ 39 1) - 1), zr 39] zSh μ _ _ _ from ?_)
  have p9 : ((μ 40 ((μ 39 1) - 1)) = 41 ∨ (μ 40 ((μ 39 1) - 1)) = 59 ∨ (μ 40 ((μ 39 1) - 1)) = 77 ∨ (μ 40 ((μ 39 1) - 1)) = 95) := zperm_at h0 (by omega) (by omega)
  refine Az.cV (mc := md_0_rowAt) (k := 39) (n := 1) (As := [zi ((μ 39 1) - 1)]) (rest := []) kr_0_bringBack_7 zw_254 ok_0_rowAt rfl rfl rfl trivial (xz_rowAt hB ((μ 39 1) - 1) (by omega) p9) rfl rfl (show Ez md_0_bringBack 0 0 10 [(0, zr 39), (1, zr 3)] [zr ((μ 40 ((μ 39 1) - 1))).toNat] zSh μ _ _ _ from ?_)
  refine Az.blk kd_0_bringBack_10 (show Ez md_0_bringBack 0 0 12 [(2, zr ((μ 40 ((μ 39 1) - 1))).toNat), (0, zr 39), (1, zr 3)] [zr ((μ 40 ((μ 39 1) - 1))).toNat] zSh μ _ _ _ from ?_)
  refine Az.nnul (k := ((μ 40 ((μ 39 1) - 1))).toNat) kr_0_bringBack_12 rfl (show Ez md_0_bringBack 0 0 15 [(2, zr ((μ 40 ((μ 39 1) - 1))).toNat), (0, zr 39), (1, zr 3)] [] zSh μ _ _ _ from ?_)
  refine Az.blk kd_0_bringBack_15 (show Ez md_0_bringBack 0 0 17 [(2, zr ((μ 40 ((μ 39 1) - 1))).toNat), (0, zr 39), (1, zr 3)] [zr ((μ 40 ((μ 39 1) - 1))).toNat, zr 3] zSh μ _ _ _ from ?_)
  refine Az.cVN (mc := md_1_copyFrom) (k := 3) (n := 1) (As := [zr ((μ 40 ((μ 39 1) - 1))).toNat]) (rest := []) kr_0_bringBack_17 zw_259 ok_1_copyFrom rfl rfl rfl trivial (xz_copyFrom 3 ((μ 40 ((μ 39 1) - 1))).toNat (by unfold zpair; omega)) rfl rfl (show Ez md_0_bringBack 0 0 20 [(2, zr ((μ 40 ((μ 39 1) - 1))).toNat), (0, zr 39), (1, zr 3)] [] zSh (zcs μ 3 ((μ 40 ((μ 39 1) - 1))).toNat) _ _ _ from ?_)
  have e9 : (zcs μ 3 ((μ 40 ((μ 39 1) - 1))).toNat) 39 1 = μ 39 1 := by rw [zcs_ne (by omega)]
  have b2 : 0 ≤ ((zcs μ 3 ((μ 40 ((μ 39 1) - 1))).toNat) 39 1) ∧ ((zcs μ 3 ((μ 40 ((μ 39 1) - 1))).toNat) 39 1) ≤ 4 := (zcs_ok hB (by unfold zst; omega) (by unfold zst; omega)) 39 1
  refine Az.blk kd_0_bringBack_20 (show Ez md_0_bringBack 0 0 30 [(2, zr ((μ 40 ((μ 39 1) - 1))).toNat), (0, zr 39), (1, zr 3)] [] zSh (zup (zcs μ 3 ((μ 40 ((μ 39 1) - 1))).toNat) 39 1 (((zcs μ 3 ((μ 40 ((μ 39 1) - 1))).toNat) 39 1) - 1)) _ _ _ from ?_)
  exact Ez.vret kr_0_bringBack_30 rfl (Nat.zero_le _) (Nat.zero_le _) rfl rfl
