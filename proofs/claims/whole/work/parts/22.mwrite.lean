/-! memories told apart by places; rows' bounds -/
def zset (μ : zM) (k : Nat) (g : Int → Int) : zM := fun k' => match Nat.beq k' k with
  | true => g
  | false => μ k'
theorem zset_eq {μ : zM} {k : Nat} {g : Int → Int} : zset μ k g k = g := by simp [zset, Nat.beq_refl]
theorem zset_ne {μ : zM} {k k' : Nat} {g : Int → Int} (h : k' ≠ k) : zset μ k g k' = μ k' := by
  have e : Nat.beq k' k = false := by
    cases h2 : Nat.beq k' k with
    | false => rfl
    | true => exact absurd (Nat.eq_of_beq_eq_true h2) h
  simp [zset, e]
theorem zset_of {μ μ' : zM} {k : Nat} (h : ∀ k', k' ≠ k → μ' k' = μ k') : μ' = zset μ k (μ' k) := by
  funext k'
  by_cases e : k' = k
  · subst e; rw [zset_eq]
  · rw [zset_ne e]; exact h k' e
theorem zup_of {μ μ' : zM} {k : Nat} {z : Int} (h : ∀ k', k' ≠ k → μ' k' = μ k') (h2 : ∀ z', z' ≠ z → μ' k z' = μ k z') : μ' = zup μ k z (μ' k z) := by
  funext k' z'
  rw [zup_ap]
  split
  · next e => obtain ⟨rfl, rfl⟩ := e; rfl
  · next e =>
    by_cases e1 : k' = k
    · subst e1
      exact h2 z' (fun q => e ⟨rfl, q⟩)
    · rw [h k' e1]
theorem zOkR_of {z v : Int} (hz : 4 ≤ z) (h : (z < 268 → 0 ≤ v ∧ v ≤ 26 ∧ ((z - 4) % 11 < 2 → v ≤ 2) ∧ ((z - 4) % 11 = 2 → v ≤ 8)) ∧ (268 ≤ z ∧ z < 304 → 0 ≤ v ∧ v ≤ 26)
    ∧ (304 ≤ z ∧ z < 584 → ((z - 304) % 14 = 0 → 0 ≤ v ∧ v ≤ 1) ∧ ((z - 304) % 14 = 1 → 0 ≤ v ∧ v ≤ 10) ∧ ((z - 304) % 14 = 2 → 0 ≤ v ∧ v ≤ 9) ∧ ((z - 304) % 14 = 3 → v = -5 ∨ (0 ≤ v ∧ v ≤ 23)) ∧ (3 < (z - 304) % 14 → 0 ≤ v ∧ v ≤ 26))
    ∧ (584 ≤ z → 0 ≤ v ∧ v ≤ 2 ∧ ((z - 584) % 2 = 0 → v ≤ 1))) : zOkR z v := by
  obtain ⟨h1, h2, h3, h4⟩ := h
  unfold zOkR
  rw [if_neg (by omega), if_neg (by omega), if_neg (by omega), if_neg (by omega)]
  repeat' split
  all_goals omega
theorem zrow_s {μ : zM} (hB : zB μ) (i : Int) : zOk 116 i (μ 116 (i + 604)) := by
  have h : zOkR ((i + 604) % 604) (μ 116 (i + 604)) := hB 116 (i + 604)
  rw [show (i + 604) % 604 = i % 604 by omega] at h
  exact h
theorem zrow_k {μ : zM} (hB : zB μ) (h i : Int) (hi : 0 ≤ i ∧ i < 604) : zOk 116 ((604 * h) + i) (μ 115 i) := by
  have h1 : zOkR i (μ 115 i) := hB 115 i
  show zOkR (((604 * h) + i) % 604) _
  rw [show ((604 * h) + i) % 604 = i by omega]
  exact h1
theorem zrow_h {μ : zM} (hB : zB μ) (h i : Int) (hi : 0 ≤ i ∧ i < 604) : zOk 114 i (μ 116 ((604 * h) + i)) := by
  have h1 : zOkR (((604 * h) + i) % 604) (μ 116 ((604 * h) + i)) := hB 116 _
  rw [show ((604 * h) + i) % 604 = i by omega] at h1
  exact h1
def kb_6_keeps_0 : List zI := [(.iconst 0, 1, 0, 0), (.istore_n 1, 1, 0, 0)]
theorem kd_6_keeps_0 : zdec md_6_keeps 0 kb_6_keeps_0 = true := by decide +kernel
def kb_6_keeps_2 : List zI := [(.iload_n 1, 1, 0, 0), (.sipush 604, 3, 0, 0), (.if_icmp .ge 21, 3, 27, 0)]
theorem kd_6_keeps_2 : zdec md_6_keeps 2 kb_6_keeps_2 = true := by decide +kernel
theorem kr_6_keeps_27 : decode md_6_keeps.2.1 27 = .ok (.return_, 1) := by decide +kernel
def kb_6_keeps_9 : List zI := [(.aload_n 0, 1, 0, 0), (.getfield 13, 3, 6, 1), (.iload_n 1, 1, 0, 0), (.aload_n 0, 1, 0, 0), (.getfield 7, 3, 6, 0), (.iload_n 1, 1, 0, 0), (.iaload, 1, 0, 0), (.iastore, 1, 0, 0), (.iinc 1 1, 3, 0, 0), (.goto (-22), 3, 2, 0)]
theorem kd_6_keeps_9 : zdec md_6_keeps 9 kb_6_keeps_9 = true := by decide +kernel
noncomputable def mm_keeps_2 : Nat → zM → Int → zM
  | 0, μ, _ => μ
  | f + 1, μ, l1 => (if l1 < 604 then (mm_keeps_2 f (zup μ 115 l1 (μ 114 l1)) (l1 + 1)) else μ)
noncomputable def mm_keeps (μ : zM) : zM := (mm_keeps_2 zN μ 0)
set_option maxHeartbeats 4000000 in
set_option maxRecDepth 100000 in
theorem mb_keeps_2 (f : Nat) (μ : zM) (hB : zB μ) (l1 : Int) (i0 : 0 ≤ l1 ∧ l1 ≤ 604) (hf : 604 - l1 < (f : Int)) : zB (mm_keeps_2 f μ l1) := by
  induction f generalizing μ l1 with
  | zero => exfalso; omega
  | succ f ih =>
    replace hf : 604 - l1 < (f : Int) + 1 := by omega
    rw [mm_keeps_2]
    by_cases c1 : l1 < 604
    · rw [if_pos c1]
      exact ih ((zup μ 115 l1 (μ 114 l1))) (zup_ok (k := 115) (z := l1) (v := (μ 114 l1)) hB (hB 114 l1)) (l1 + 1) (by omega) (by omega)
    · rw [if_neg c1]
      exact hB
set_option maxHeartbeats 4000000 in
set_option maxRecDepth 100000 in
theorem mb_keeps {μ : zM} (hB : zB μ)  : zB (mm_keeps μ) := by
  unfold mm_keeps
  have fb : (3000 : Int) ≤ ((zN : Nat) : Int) := zN_big
  exact mb_keeps_2 zN μ hB 0 (by omega) (by omega)
set_option maxHeartbeats 4000000 in
set_option maxRecDepth 100000 in
theorem mz_keeps_2 (f : Nat) (μ : zM) (hB : zB μ) (l1 : Int) (i0 : 0 ≤ l1 ∧ l1 ≤ 604) (hf : 604 - l1 < (f : Int)) : Ez md_6_keeps 0 0 2 [(0, zr 113), (1, zi l1)] [] zSh μ none zSh (mm_keeps_2 f μ l1) := by
  induction f generalizing μ l1 with
  | zero => exfalso; omega
  | succ f ih =>
    replace hf : 604 - l1 < (f : Int) + 1 := by omega
    rw [mm_keeps_2]
    refine Az.blk kd_6_keeps_2 (show zR l1 ∧ zR 604 ∧ ((¬ l1 < 604 → Ez md_6_keeps 0 0 27 [(0, zr 113), (1, zi l1)] [] zSh μ _ _ _) ∧ (l1 < 604 → Ez md_6_keeps 0 0 9 [(0, zr 113), (1, zi l1)] [] zSh μ _ _ _)) from ⟨(by omega), (by omega), fun c1 => ?_, fun c1 => ?_⟩)
    · rw [if_neg c1]
      exact Ez.vret kr_6_keeps_27 rfl (Nat.zero_le _) (Nat.zero_le _) rfl rfl
    · rw [if_pos c1]
      refine Az.blk kd_6_keeps_9 (show (0 ≤ l1 ∧ l1 < 604) ∧ (0 ≤ l1 ∧ l1 < 604) ∧ Ez md_6_keeps 0 0 2 [(1, zi (l1 + 1)), (0, zr 113)] [] zSh (zup μ 115 l1 (μ 114 l1)) _ _ _ from ⟨(by omega), (by omega), ?_⟩)
      refine Az.lvs (lv' := [(0, zr 113), (1, zi (l1 + 1))]) ?_ ?_
      · intro q hq; simp only [List.mem_cons, List.not_mem_nil, or_false] at hq; rcases hq with rfl | rfl <;> rfl
      exact ih ((zup μ 115 l1 (μ 114 l1))) (zup_ok (k := 115) (z := l1) (v := (μ 114 l1)) hB (hB 114 l1)) (l1 + 1) (by omega) (by omega)
set_option maxHeartbeats 4000000 in
set_option maxRecDepth 100000 in
theorem mz_keeps {μ : zM} (hB : zB μ)  : Dz md_6_keeps [zr 113] zSh μ none zSh (mm_keeps μ) := by
  refine Dz.of (by decide) rfl rfl (show Ez md_6_keeps 0 0 0 [(0, zr 113)] [] zSh μ none zSh (mm_keeps μ) from ?_)
  unfold mm_keeps
  refine Az.blk kd_6_keeps_0 (show Ez md_6_keeps 0 0 2 [(1, zi 0), (0, zr 113)] [] zSh μ _ _ _ from ?_)
  refine Az.lvs (lv' := [(0, zr 113), (1, zi 0)]) ?_ ?_
  · intro q hq; simp only [List.mem_cons, List.not_mem_nil, or_false] at hq; rcases hq with rfl | rfl <;> rfl
  have fb : (3000 : Int) ≤ ((zN : Nat) : Int) := zN_big
  exact mz_keeps_2 zN μ hB 0 (by omega) (by omega)
theorem mf_keeps_2 : ∀ (f : Nat) (μ : zM) (l1 : Int) (k' : Nat), k' ≠ 115 → mm_keeps_2 f μ l1 k' = μ k'
  | 0, _, _, _, _ => rfl
  | f + 1, μ, l1, k', h => by
    rw [mm_keeps_2]
    split
    · rw [mf_keeps_2 f _ _ k' h, zup_ne h]
    · rfl
theorem mf_keeps {μ : zM} : (mm_keeps μ) = (zset μ 115 ((mm_keeps μ) 115)) := zset_of fun k' h => mf_keeps_2 _ _ _ k' h
theorem mb_keepsF {μ : zM} (hB : zB μ)  : zB (zset μ 115 ((mm_keeps μ) 115)) := by
  rw [← mf_keeps]
  exact mb_keeps hB  
theorem mz_keepsF {μ : zM} (hB : zB μ)  : Dz md_6_keeps [zr 113] zSh μ none zSh (zset μ 115 ((mm_keeps μ) 115)) := by
  have h := mz_keeps hB  
  rw [← mf_keeps]
  exact h
def kb_6_takesOne_0 : List zI := [(.aload_n 0, 1, 0, 0), (.iload_n 1, 1, 0, 0), (.iload_n 1, 1, 0, 0)]
theorem kd_6_takesOne_0 : zdec md_6_takesOne 0 kb_6_takesOne_0 = true := by decide +kernel
theorem kr_6_takesOne_3 : decode md_6_takesOne.2.1 3 = .ok (.invokevirtual 131, 3) := by decide +kernel
def kb_6_takesOne_6 : List zI := [(.istore_n 2, 1, 0, 0), (.aload_n 0, 1, 0, 0), (.dup, 1, 0, 0), (.getfield 128, 3, 6, 9), (.iload_n 2, 1, 0, 0), (.ifCond .eq 7, 3, 20, 0)]
theorem kd_6_takesOne_6 : zdec md_6_takesOne 6 kb_6_takesOne_6 = true := by decide +kernel
def kb_6_takesOne_20 : List zI := [(.iconst 0, 1, 0, 0), (.iadd, 1, 0, 0), (.putfield 128, 3, 6, 9), (.iload_n 2, 1, 0, 0)]
theorem kd_6_takesOne_20 : zdec md_6_takesOne 20 kb_6_takesOne_20 = true := by decide +kernel
theorem kr_6_takesOne_26 : decode md_6_takesOne.2.1 26 = .ok (.ireturn, 1) := by decide +kernel
def kb_6_takesOne_16 : List zI := [(.iconst 1, 1, 0, 0), (.goto 4, 3, 21, 0)]
theorem kd_6_takesOne_16 : zdec md_6_takesOne 16 kb_6_takesOne_16 = true := by decide +kernel
def kb_6_takesOne_21 : List zI := [(.iadd, 1, 0, 0), (.putfield 128, 3, 6, 9), (.iload_n 2, 1, 0, 0)]
theorem kd_6_takesOne_21 : zdec md_6_takesOne 21 kb_6_takesOne_21 = true := by decide +kernel
noncomputable def mm_takesOne (μ : zM) (a1 : Int) : Int × zM := (if (mm_isHere μ a1 a1) = 0 then ((mm_isHere μ a1 a1), (zup μ 113 9 ((μ 113 9) + 0))) else ((mm_isHere μ a1 a1), (zup μ 113 9 ((μ 113 9) + 1))))
set_option maxHeartbeats 4000000 in
set_option maxRecDepth 100000 in
theorem mr_takesOne {μ : zM} (hB : zB μ) (a1 : Int) (h0 : -2147483648 ≤ a1 ∧ a1 ≤ 2147483647) : 0 ≤ (mm_takesOne μ a1).1 ∧ (mm_takesOne μ a1).1 ≤ 1 := by
  unfold mm_takesOne
  have r1 : 0 ≤ (mm_isHere μ a1 a1) ∧ (mm_isHere μ a1 a1) ≤ 1 ∧ ((mm_isHere μ a1 a1) = 1 → μ 113 9 < μ 113 8 ∧ a1 ≤ μ 119 (μ 113 9) ∧ μ 119 (μ 113 9) ≤ a1) := mr_isHere hB a1 a1 (by omega) (by omega)
  have e8 : 0 ≤ (μ 113 8) ∧ (μ 113 8) ≤ 60 := hB 113 8
  have b2 : 0 ≤ (μ 113 9) ∧ (μ 113 9) ≤ 60 := hB 113 9
  by_cases c3 : (mm_isHere μ a1 a1) = 0
  · rw [if_pos c3]
    first | omega | (dsimp only; omega)
  · rw [if_neg c3]
    first | omega | (dsimp only; omega)
set_option maxHeartbeats 4000000 in
set_option maxRecDepth 100000 in
theorem mb_takesOne {μ : zM} (hB : zB μ) (a1 : Int) (h0 : -2147483648 ≤ a1 ∧ a1 ≤ 2147483647) : zB (mm_takesOne μ a1).2 := by
  unfold mm_takesOne
  have r1 : 0 ≤ (mm_isHere μ a1 a1) ∧ (mm_isHere μ a1 a1) ≤ 1 ∧ ((mm_isHere μ a1 a1) = 1 → μ 113 9 < μ 113 8 ∧ a1 ≤ μ 119 (μ 113 9) ∧ μ 119 (μ 113 9) ≤ a1) := mr_isHere hB a1 a1 (by omega) (by omega)
  have e8 : 0 ≤ (μ 113 8) ∧ (μ 113 8) ≤ 60 := hB 113 8
  have b2 : 0 ≤ (μ 113 9) ∧ (μ 113 9) ≤ 60 := hB 113 9
  by_cases c3 : (mm_isHere μ a1 a1) = 0
  · rw [if_pos c3]
    exact (zup_ok (k := 113) (z := 9) (v := ((μ 113 9) + 0)) hB (show 0 ≤ ((μ 113 9) + 0) ∧ ((μ 113 9) + 0) ≤ 60 from by omega))
  · rw [if_neg c3]
    exact (zup_ok (k := 113) (z := 9) (v := ((μ 113 9) + 1)) hB (show 0 ≤ ((μ 113 9) + 1) ∧ ((μ 113 9) + 1) ≤ 60 from by omega))
set_option maxHeartbeats 4000000 in
set_option maxRecDepth 100000 in
theorem mz_takesOne {μ : zM} (hB : zB μ) (a1 : Int) (h0 : -2147483648 ≤ a1 ∧ a1 ≤ 2147483647) : Dz md_6_takesOne [zr 113, zi a1] zSh μ (some (zi (mm_takesOne μ a1).1)) zSh (mm_takesOne μ a1).2 := by
  refine Dz.of (by decide) rfl rfl (show Ez md_6_takesOne 0 0 0 [(0, zr 113), (1, zi a1)] [] zSh μ (some (zi (mm_takesOne μ a1).1)) zSh (mm_takesOne μ a1).2 from ?_)
  unfold mm_takesOne
  refine Az.blk kd_6_takesOne_0 (show Ez md_6_takesOne 0 0 3 [(0, zr 113), (1, zi a1)] [zi a1, zi a1, zr 113] zSh μ _ _ _ from ?_)
  refine Az.cV (mc := md_6_isHere) (k := 113) (n := 2) (As := [zi a1, zi a1]) (rest := []) kr_6_takesOne_3 zw_633 ok_6_isHere rfl rfl rfl trivial (mz_isHere hB a1 a1 (by omega) (by omega)) rfl rfl (show Ez md_6_takesOne 0 0 6 [(0, zr 113), (1, zi a1)] [zi (mm_isHere μ a1 a1)] zSh μ _ _ _ from ?_)
  have r1 : 0 ≤ (mm_isHere μ a1 a1) ∧ (mm_isHere μ a1 a1) ≤ 1 ∧ ((mm_isHere μ a1 a1) = 1 → μ 113 9 < μ 113 8 ∧ a1 ≤ μ 119 (μ 113 9) ∧ μ 119 (μ 113 9) ≤ a1) := mr_isHere hB a1 a1 (by omega) (by omega)
  have e8 : 0 ≤ (μ 113 8) ∧ (μ 113 8) ≤ 60 := hB 113 8
  have b2 : 0 ≤ (μ 113 9) ∧ (μ 113 9) ≤ 60 := hB 113 9
  refine Az.blk kd_6_takesOne_6 (show zR (mm_isHere μ a1 a1) ∧ (((mm_isHere μ a1 a1) = 0 → Ez md_6_takesOne 0 0 20 [(2, zi (mm_isHere μ a1 a1)), (0, zr 113), (1, zi a1)] [zi (μ 113 9), zr 113] zSh μ _ _ _) ∧ (¬ (mm_isHere μ a1 a1) = 0 → Ez md_6_takesOne 0 0 16 [(2, zi (mm_isHere μ a1 a1)), (0, zr 113), (1, zi a1)] [zi (μ 113 9), zr 113] zSh μ _ _ _)) from ⟨(by omega), fun c3 => ?_, fun c3 => ?_⟩)
  · rw [if_pos c3]
    refine Az.blk kd_6_takesOne_20 (show Ez md_6_takesOne 0 0 26 [(2, zi (mm_isHere μ a1 a1)), (0, zr 113), (1, zi a1)] [zi (mm_isHere μ a1 a1)] zSh (zup μ 113 9 ((μ 113 9) + 0)) _ _ _ from ?_)
    exact Ez.zret kr_6_takesOne_26 rfl (Nat.zero_le _) (Nat.zero_le _) (by omega) rfl rfl
  · rw [if_neg c3]
    refine Az.blk kd_6_takesOne_16 (show Ez md_6_takesOne 0 0 21 [(2, zi (mm_isHere μ a1 a1)), (0, zr 113), (1, zi a1)] [zi 1, zi (μ 113 9), zr 113] zSh μ _ _ _ from ?_)
    refine Az.blk kd_6_takesOne_21 (show Ez md_6_takesOne 0 0 26 [(2, zi (mm_isHere μ a1 a1)), (0, zr 113), (1, zi a1)] [zi (mm_isHere μ a1 a1)] zSh (zup μ 113 9 ((μ 113 9) + 1)) _ _ _ from ?_)
    exact Ez.zret kr_6_takesOne_26 rfl (Nat.zero_le _) (Nat.zero_le _) (by omega) rfl rfl
theorem mf_takesOne {μ : zM} {a1 : Int} : (mm_takesOne μ a1).2 = (zup μ 113 9 ((mm_takesOne μ a1).2 113 9)) := by
  unfold mm_takesOne
  split
  · exact zup_of (fun k' h => by show zup μ 113 9 _ k' = _; rw [zup_ne h]) (fun z' h => by show zup μ 113 9 _ 113 z' = _; rw [zup_eq]; simp [h])
  · exact zup_of (fun k' h => by show zup μ 113 9 _ k' = _; rw [zup_ne h]) (fun z' h => by show zup μ 113 9 _ 113 z' = _; rw [zup_eq]; simp [h])
theorem mb_takesOneF {μ : zM} (hB : zB μ) (a1 : Int) (h0 : -2147483648 ≤ a1 ∧ a1 ≤ 2147483647) : zB (zup μ 113 9 ((mm_takesOne μ a1).2 113 9)) := by
  rw [← mf_takesOne]
  exact mb_takesOne hB a1 h0
theorem mz_takesOneF {μ : zM} (hB : zB μ) (a1 : Int) (h0 : -2147483648 ≤ a1 ∧ a1 ≤ 2147483647) : Dz md_6_takesOne [zr 113, zi a1] zSh μ (some (zi (mm_takesOne μ a1).1)) zSh (zup μ 113 9 ((mm_takesOne μ a1).2 113 9)) := by
  have h := mz_takesOne hB a1 h0
  rw [← mf_takesOne]
  exact h
def kb_6_lays_0 : List zI := [(.aload_n 0, 1, 0, 0), (.getfield 7, 3, 6, 0), (.sipush 304, 3, 0, 0), (.bipush 14, 2, 0, 0), (.iload_n 1, 1, 0, 0), (.imul, 1, 0, 0), (.iadd, 1, 0, 0), (.iconst 3, 1, 0, 0), (.iadd, 1, 0, 0), (.iload_n 2, 1, 0, 0), (.iastore, 1, 0, 0)]
theorem kd_6_lays_0 : zdec md_6_lays 0 kb_6_lays_0 = true := by decide +kernel
theorem kr_6_lays_16 : decode md_6_lays.2.1 16 = .ok (.return_, 1) := by decide +kernel
noncomputable def mm_lays (μ : zM) (a1 a2 : Int) : zM := (zup μ 114 ((304 + (14 * a1)) + 3) a2)
set_option maxHeartbeats 4000000 in
set_option maxRecDepth 100000 in
theorem mb_lays {μ : zM} (hB : zB μ) (a1 a2 : Int) (h0 : 0 ≤ a1 ∧ a1 ≤ 19) (h1 : (a2 = -5 ∨ (0 ≤ a2 ∧ a2 ≤ 23))) : zB (mm_lays μ a1 a2) := by
  unfold mm_lays
  exact (zup_ok (k := 114) (z := ((304 + (14 * a1)) + 3)) (v := a2) hB (show zOkR ((304 + (14 * a1)) + 3) a2 from zOkR_of (by omega) ⟨by omega, by omega, by omega, by omega⟩))
set_option maxHeartbeats 4000000 in
set_option maxRecDepth 100000 in
theorem mz_lays {μ : zM} (hB : zB μ) (a1 a2 : Int) (h0 : 0 ≤ a1 ∧ a1 ≤ 19) (h1 : (a2 = -5 ∨ (0 ≤ a2 ∧ a2 ≤ 23))) : Dz md_6_lays [zr 113, zi a1, zi a2] zSh μ none zSh (mm_lays μ a1 a2) := by
  refine Dz.of (by decide) rfl rfl (show Ez md_6_lays 0 0 0 [(0, zr 113), (1, zi a1), (2, zi a2)] [] zSh μ none zSh (mm_lays μ a1 a2) from ?_)
  unfold mm_lays
  refine Az.blk kd_6_lays_0 (show (0 ≤ ((304 + (14 * a1)) + 3) ∧ ((304 + (14 * a1)) + 3) < 604) ∧ Ez md_6_lays 0 0 16 [(0, zr 113), (1, zi a1), (2, zi a2)] [] zSh (zup μ 114 ((304 + (14 * a1)) + 3) a2) _ _ _ from ⟨(by omega), ?_⟩)
  exact Ez.vret kr_6_lays_16 rfl (Nat.zero_le _) (Nat.zero_le _) rfl rfl
theorem mf_lays {μ : zM} {a1 a2 : Int} : (mm_lays μ a1 a2) = (zset μ 114 ((mm_lays μ a1 a2) 114)) := zset_of fun k' h => by unfold mm_lays; rw [zup_ne h]
theorem mb_laysF {μ : zM} (hB : zB μ) (a1 a2 : Int) (h0 : 0 ≤ a1 ∧ a1 ≤ 19) (h1 : (a2 = -5 ∨ (0 ≤ a2 ∧ a2 ≤ 23))) : zB (zset μ 114 ((mm_lays μ a1 a2) 114)) := by
  rw [← mf_lays]
  exact mb_lays hB a1 a2 h0 h1
theorem mz_laysF {μ : zM} (hB : zB μ) (a1 a2 : Int) (h0 : 0 ≤ a1 ∧ a1 ≤ 19) (h1 : (a2 = -5 ∨ (0 ≤ a2 ∧ a2 ≤ 23))) : Dz md_6_lays [zr 113, zi a1, zi a2] zSh μ none zSh (zset μ 114 ((mm_lays μ a1 a2) 114)) := by
  have h := mz_lays hB a1 a2 h0 h1
  rw [← mf_lays]
  exact h
def kb_6_ends_0 : List zI := [(.aload_n 0, 1, 0, 0), (.getfield 28, 3, 6, 3), (.iconst 4, 1, 0, 0), (.if_icmp .ne 44, 3, 49, 0)]
theorem kd_6_ends_0 : zdec md_6_ends 0 kb_6_ends_0 = true := by decide +kernel
def kb_6_ends_49 : List zI := [(.iconst 0, 1, 0, 0), (.istore_n 2, 1, 0, 0)]
theorem kd_6_ends_49 : zdec md_6_ends 49 kb_6_ends_49 = true := by decide +kernel
def kb_6_ends_8 : List zI := [(.iconst 0, 1, 0, 0), (.istore_n 2, 1, 0, 0)]
theorem kd_6_ends_8 : zdec md_6_ends 8 kb_6_ends_8 = true := by decide +kernel
def kb_6_ends_51 : List zI := [(.iload_n 2, 1, 0, 0), (.sipush 604, 3, 0, 0), (.if_icmp .ge 30, 3, 85, 0)]
theorem kd_6_ends_51 : zdec md_6_ends 51 kb_6_ends_51 = true := by decide +kernel
def kb_6_ends_85 : List zI := [(.aload_n 0, 1, 0, 0), (.dup, 1, 0, 0), (.getfield 28, 3, 6, 3), (.iconst 1, 1, 0, 0), (.iadd, 1, 0, 0), (.putfield 28, 3, 6, 3), (.iload_n 1, 1, 0, 0)]
theorem kd_6_ends_85 : zdec md_6_ends 85 kb_6_ends_85 = true := by decide +kernel
theorem kr_6_ends_96 : decode md_6_ends.2.1 96 = .ok (.ireturn, 1) := by decide +kernel
def kb_6_ends_58 : List zI := [(.aload_n 0, 1, 0, 0), (.getfield 16, 3, 6, 2), (.sipush 604, 3, 0, 0), (.aload_n 0, 1, 0, 0), (.getfield 28, 3, 6, 3), (.imul, 1, 0, 0), (.iload_n 2, 1, 0, 0), (.iadd, 1, 0, 0), (.aload_n 0, 1, 0, 0), (.getfield 13, 3, 6, 1), (.iload_n 2, 1, 0, 0), (.iaload, 1, 0, 0), (.iastore, 1, 0, 0), (.iinc 2 1, 3, 0, 0), (.goto (-31), 3, 51, 0)]
theorem kd_6_ends_58 : zdec md_6_ends 58 kb_6_ends_58 = true := by decide +kernel
def kb_6_ends_10 : List zI := [(.iload_n 2, 1, 0, 0), (.sipush 1812, 3, 0, 0), (.if_icmp .ge 25, 3, 39, 0)]
theorem kd_6_ends_10 : zdec md_6_ends 10 kb_6_ends_10 = true := by decide +kernel
def kb_6_ends_39 : List zI := [(.aload_n 0, 1, 0, 0), (.dup, 1, 0, 0), (.getfield 28, 3, 6, 3), (.iconst 1, 1, 0, 0), (.isub, 1, 0, 0), (.putfield 28, 3, 6, 3), (.iconst 0, 1, 0, 0), (.istore_n 2, 1, 0, 0)]
theorem kd_6_ends_39 : zdec md_6_ends 39 kb_6_ends_39 = true := by decide +kernel
def kb_6_ends_17 : List zI := [(.aload_n 0, 1, 0, 0), (.getfield 16, 3, 6, 2), (.iload_n 2, 1, 0, 0), (.aload_n 0, 1, 0, 0), (.getfield 16, 3, 6, 2), (.iload_n 2, 1, 0, 0), (.sipush 604, 3, 0, 0), (.iadd, 1, 0, 0), (.iaload, 1, 0, 0), (.iastore, 1, 0, 0), (.iinc 2 1, 3, 0, 0), (.goto (-26), 3, 10, 0)]
theorem kd_6_ends_17 : zdec md_6_ends 17 kb_6_ends_17 = true := by decide +kernel
noncomputable def mm_ends_51 : Nat → zM → Int → Int → Int × zM
  | 0, μ, _, _ => (0, μ)
  | f + 1, μ, l1, l2 => (if l2 < 604 then (mm_ends_51 f (zup μ 116 ((604 * (μ 113 3)) + l2) (μ 115 l2)) l1 (l2 + 1)) else (l1, (zup μ 113 3 ((μ 113 3) + 1))))
noncomputable def mm_ends_10 : Nat → zM → Int → Int → Int × zM
  | 0, μ, _, _ => (0, μ)
  | f + 1, μ, l1, l2 => (if l2 < 1812 then (mm_ends_10 f (zup μ 116 l2 (μ 116 (l2 + 604))) l1 (l2 + 1)) else (mm_ends_51 zN (zup μ 113 3 ((μ 113 3) - 1)) l1 0))
noncomputable def mm_ends (μ : zM) (a1 : Int) : Int × zM := (if (μ 113 3) = 4 then (mm_ends_10 zN μ a1 0) else (mm_ends_51 zN μ a1 0))
set_option maxHeartbeats 4000000 in
set_option maxRecDepth 100000 in
theorem mb_ends_51 (f : Nat) (μ : zM) (hB : zB μ) (l1 : Int) (l2 : Int) (i0 : 0 ≤ l2 ∧ l2 ≤ 604) (i1 : (μ 113 3) ≤ 3) (hf : 604 - l2 < (f : Int)) : zB (mm_ends_51 f μ l1 l2).2 := by
  induction f generalizing μ l1 l2 with
  | zero => exfalso; omega
  | succ f ih =>
    replace hf : 604 - l2 < (f : Int) + 1 := by omega
    rw [mm_ends_51]
    by_cases c5 : l2 < 604
    · rw [if_pos c5]
      have b7 : 0 ≤ (μ 113 3) ∧ (μ 113 3) ≤ 4 := hB 113 3
      have b8 : 0 ≤ (μ 113 3) ∧ (μ 113 3) ≤ 4 := hB 113 3
      exact ih ((zup μ 116 ((604 * (μ 113 3)) + l2) (μ 115 l2))) (zup_ok (k := 116) (z := ((604 * (μ 113 3)) + l2)) (v := (μ 115 l2)) hB (zrow_k hB _ l2 (by omega))) l1 (l2 + 1) (by omega) (show (μ 113 3) ≤ 3 from by omega) (by omega)
    · rw [if_neg c5]
      have b6 : 0 ≤ (μ 113 3) ∧ (μ 113 3) ≤ 4 := hB 113 3
      exact (zup_ok (k := 113) (z := 3) (v := ((μ 113 3) + 1)) hB (show 0 ≤ ((μ 113 3) + 1) ∧ ((μ 113 3) + 1) ≤ 4 from by omega))
set_option maxHeartbeats 4000000 in
set_option maxRecDepth 100000 in
theorem mb_ends_10 (f : Nat) (μ : zM) (hB : zB μ) (l1 : Int) (l2 : Int) (i0 : 0 ≤ l2 ∧ l2 ≤ 1812) (i1 : (μ 113 3) = 4) (hf : 1812 - l2 < (f : Int)) : zB (mm_ends_10 f μ l1 l2).2 := by
  induction f generalizing μ l1 l2 with
  | zero => exfalso; omega
  | succ f ih =>
    replace hf : 1812 - l2 < (f : Int) + 1 := by omega
    rw [mm_ends_10]
    by_cases c9 : l2 < 1812
    · rw [if_pos c9]
      have b11 : 0 ≤ (μ 113 3) ∧ (μ 113 3) ≤ 4 := hB 113 3
      exact ih ((zup μ 116 l2 (μ 116 (l2 + 604)))) (zup_ok (k := 116) (z := l2) (v := (μ 116 (l2 + 604))) hB (zrow_s hB l2)) l1 (l2 + 1) (by omega) (show (μ 113 3) = 4 from by omega) (by omega)
    · rw [if_neg c9]
      have b10 : 0 ≤ (μ 113 3) ∧ (μ 113 3) ≤ 4 := hB 113 3
      have fb : (3000 : Int) ≤ ((zN : Nat) : Int) := zN_big
      exact mb_ends_51 zN ((zup μ 113 3 ((μ 113 3) - 1))) (zup_ok (k := 113) (z := 3) (v := ((μ 113 3) - 1)) hB (show 0 ≤ ((μ 113 3) - 1) ∧ ((μ 113 3) - 1) ≤ 4 from by omega)) l1 0 (by omega) (show ((μ 113 3) - 1) ≤ 3 from by omega) (by omega)
set_option maxHeartbeats 4000000 in
set_option maxRecDepth 100000 in
theorem mb_ends {μ : zM} (hB : zB μ) (a1 : Int)  : zB (mm_ends μ a1).2 := by
  unfold mm_ends
  have b1 : 0 ≤ (μ 113 3) ∧ (μ 113 3) ≤ 4 := hB 113 3
  by_cases c2 : (μ 113 3) = 4
  · rw [if_pos c2]
    have b4 : 0 ≤ (μ 113 3) ∧ (μ 113 3) ≤ 4 := hB 113 3
    have fb : (3000 : Int) ≤ ((zN : Nat) : Int) := zN_big
    exact mb_ends_10 zN μ hB a1 0 (by omega) (by omega) (by omega)
  · rw [if_neg c2]
    have b3 : 0 ≤ (μ 113 3) ∧ (μ 113 3) ≤ 4 := hB 113 3
    have fb : (3000 : Int) ≤ ((zN : Nat) : Int) := zN_big
    exact mb_ends_51 zN μ hB a1 0 (by omega) (by omega) (by omega)
set_option maxHeartbeats 4000000 in
set_option maxRecDepth 100000 in
theorem mz_ends_51 (f : Nat) (μ : zM) (hB : zB μ) (l1 : Int) (l2 : Int) (i0 : 0 ≤ l2 ∧ l2 ≤ 604) (i1 : (μ 113 3) ≤ 3) (hf : 604 - l2 < (f : Int)) : Ez md_6_ends 0 0 51 [(0, zr 113), (1, zi l1), (2, zi l2)] [] zSh μ (some (zi (mm_ends_51 f μ l1 l2).1)) zSh (mm_ends_51 f μ l1 l2).2 := by
  induction f generalizing μ l1 l2 with
  | zero => exfalso; omega
  | succ f ih =>
    replace hf : 604 - l2 < (f : Int) + 1 := by omega
    rw [mm_ends_51]
    refine Az.blk kd_6_ends_51 (show zR l2 ∧ zR 604 ∧ ((¬ l2 < 604 → Ez md_6_ends 0 0 85 [(0, zr 113), (1, zi l1), (2, zi l2)] [] zSh μ _ _ _) ∧ (l2 < 604 → Ez md_6_ends 0 0 58 [(0, zr 113), (1, zi l1), (2, zi l2)] [] zSh μ _ _ _)) from ⟨(by omega), (by omega), fun c5 => ?_, fun c5 => ?_⟩)
    · rw [if_neg c5]
      have b6 : 0 ≤ (μ 113 3) ∧ (μ 113 3) ≤ 4 := hB 113 3
      refine Az.blk kd_6_ends_85 (show Ez md_6_ends 0 0 96 [(0, zr 113), (1, zi l1), (2, zi l2)] [zi l1] zSh (zup μ 113 3 ((μ 113 3) + 1)) _ _ _ from ?_)
      exact Ez.iret kr_6_ends_96 rfl (Nat.zero_le _) (Nat.zero_le _) rfl rfl
    · rw [if_pos c5]
      have b7 : 0 ≤ (μ 113 3) ∧ (μ 113 3) ≤ 4 := hB 113 3
      refine Az.blk kd_6_ends_58 (show (0 ≤ l2 ∧ l2 < 604) ∧ (0 ≤ ((604 * (μ 113 3)) + l2) ∧ ((604 * (μ 113 3)) + l2) < 2416) ∧ Ez md_6_ends 0 0 51 [(2, zi (l2 + 1)), (0, zr 113), (1, zi l1)] [] zSh (zup μ 116 ((604 * (μ 113 3)) + l2) (μ 115 l2)) _ _ _ from ⟨(by omega), (by omega), ?_⟩)
      have b8 : 0 ≤ (μ 113 3) ∧ (μ 113 3) ≤ 4 := hB 113 3
      refine Az.lvs (lv' := [(0, zr 113), (1, zi l1), (2, zi (l2 + 1))]) ?_ ?_
      · intro q hq; simp only [List.mem_cons, List.not_mem_nil, or_false] at hq; rcases hq with rfl | rfl | rfl <;> rfl
      exact ih ((zup μ 116 ((604 * (μ 113 3)) + l2) (μ 115 l2))) (zup_ok (k := 116) (z := ((604 * (μ 113 3)) + l2)) (v := (μ 115 l2)) hB (zrow_k hB _ l2 (by omega))) l1 (l2 + 1) (by omega) (show (μ 113 3) ≤ 3 from by omega) (by omega)
set_option maxHeartbeats 4000000 in
set_option maxRecDepth 100000 in
theorem mz_ends_10 (f : Nat) (μ : zM) (hB : zB μ) (l1 : Int) (l2 : Int) (i0 : 0 ≤ l2 ∧ l2 ≤ 1812) (i1 : (μ 113 3) = 4) (hf : 1812 - l2 < (f : Int)) : Ez md_6_ends 0 0 10 [(0, zr 113), (1, zi l1), (2, zi l2)] [] zSh μ (some (zi (mm_ends_10 f μ l1 l2).1)) zSh (mm_ends_10 f μ l1 l2).2 := by
  induction f generalizing μ l1 l2 with
  | zero => exfalso; omega
  | succ f ih =>
    replace hf : 1812 - l2 < (f : Int) + 1 := by omega
    rw [mm_ends_10]
    refine Az.blk kd_6_ends_10 (show zR l2 ∧ zR 1812 ∧ ((¬ l2 < 1812 → Ez md_6_ends 0 0 39 [(0, zr 113), (1, zi l1), (2, zi l2)] [] zSh μ _ _ _) ∧ (l2 < 1812 → Ez md_6_ends 0 0 17 [(0, zr 113), (1, zi l1), (2, zi l2)] [] zSh μ _ _ _)) from ⟨(by omega), (by omega), fun c9 => ?_, fun c9 => ?_⟩)
    · rw [if_neg c9]
      have b10 : 0 ≤ (μ 113 3) ∧ (μ 113 3) ≤ 4 := hB 113 3
      refine Az.blk kd_6_ends_39 (show Ez md_6_ends 0 0 51 [(2, zi 0), (0, zr 113), (1, zi l1)] [] zSh (zup μ 113 3 ((μ 113 3) - 1)) _ _ _ from ?_)
      refine Az.lvs (lv' := [(0, zr 113), (1, zi l1), (2, zi 0)]) ?_ ?_
      · intro q hq; simp only [List.mem_cons, List.not_mem_nil, or_false] at hq; rcases hq with rfl | rfl | rfl <;> rfl
      have fb : (3000 : Int) ≤ ((zN : Nat) : Int) := zN_big
      exact mz_ends_51 zN ((zup μ 113 3 ((μ 113 3) - 1))) (zup_ok (k := 113) (z := 3) (v := ((μ 113 3) - 1)) hB (show 0 ≤ ((μ 113 3) - 1) ∧ ((μ 113 3) - 1) ≤ 4 from by omega)) l1 0 (by omega) (show ((μ 113 3) - 1) ≤ 3 from by omega) (by omega)
    · rw [if_pos c9]
      refine Az.blk kd_6_ends_17 (show (0 ≤ (l2 + 604) ∧ (l2 + 604) < 2416) ∧ (0 ≤ l2 ∧ l2 < 2416) ∧ Ez md_6_ends 0 0 10 [(2, zi (l2 + 1)), (0, zr 113), (1, zi l1)] [] zSh (zup μ 116 l2 (μ 116 (l2 + 604))) _ _ _ from ⟨(by omega), (by omega), ?_⟩)
      have b11 : 0 ≤ (μ 113 3) ∧ (μ 113 3) ≤ 4 := hB 113 3
      refine Az.lvs (lv' := [(0, zr 113), (1, zi l1), (2, zi (l2 + 1))]) ?_ ?_
      · intro q hq; simp only [List.mem_cons, List.not_mem_nil, or_false] at hq; rcases hq with rfl | rfl | rfl <;> rfl
      exact ih ((zup μ 116 l2 (μ 116 (l2 + 604)))) (zup_ok (k := 116) (z := l2) (v := (μ 116 (l2 + 604))) hB (zrow_s hB l2)) l1 (l2 + 1) (by omega) (show (μ 113 3) = 4 from by omega) (by omega)
set_option maxHeartbeats 4000000 in
set_option maxRecDepth 100000 in
theorem mz_ends {μ : zM} (hB : zB μ) (a1 : Int)  : Dz md_6_ends [zr 113, zi a1] zSh μ (some (zi (mm_ends μ a1).1)) zSh (mm_ends μ a1).2 := by
  refine Dz.of (by decide) rfl rfl (show Ez md_6_ends 0 0 0 [(0, zr 113), (1, zi a1)] [] zSh μ (some (zi (mm_ends μ a1).1)) zSh (mm_ends μ a1).2 from ?_)
  unfold mm_ends
  have b1 : 0 ≤ (μ 113 3) ∧ (μ 113 3) ≤ 4 := hB 113 3
  refine Az.blk kd_6_ends_0 (show zR (μ 113 3) ∧ zR 4 ∧ ((¬ (μ 113 3) = 4 → Ez md_6_ends 0 0 49 [(0, zr 113), (1, zi a1)] [] zSh μ _ _ _) ∧ ((μ 113 3) = 4 → Ez md_6_ends 0 0 8 [(0, zr 113), (1, zi a1)] [] zSh μ _ _ _)) from ⟨(by omega), (by omega), fun c2 => ?_, fun c2 => ?_⟩)
  · rw [if_neg c2]
    refine Az.blk kd_6_ends_49 (show Ez md_6_ends 0 0 51 [(2, zi 0), (0, zr 113), (1, zi a1)] [] zSh μ _ _ _ from ?_)
    have b3 : 0 ≤ (μ 113 3) ∧ (μ 113 3) ≤ 4 := hB 113 3
    refine Az.lvs (lv' := [(0, zr 113), (1, zi a1), (2, zi 0)]) ?_ ?_
    · intro q hq; simp only [List.mem_cons, List.not_mem_nil, or_false] at hq; rcases hq with rfl | rfl | rfl <;> rfl
    have fb : (3000 : Int) ≤ ((zN : Nat) : Int) := zN_big
    exact mz_ends_51 zN μ hB a1 0 (by omega) (by omega) (by omega)
  · rw [if_pos c2]
    refine Az.blk kd_6_ends_8 (show Ez md_6_ends 0 0 10 [(2, zi 0), (0, zr 113), (1, zi a1)] [] zSh μ _ _ _ from ?_)
    have b4 : 0 ≤ (μ 113 3) ∧ (μ 113 3) ≤ 4 := hB 113 3
    refine Az.lvs (lv' := [(0, zr 113), (1, zi a1), (2, zi 0)]) ?_ ?_
    · intro q hq; simp only [List.mem_cons, List.not_mem_nil, or_false] at hq; rcases hq with rfl | rfl | rfl <;> rfl
    have fb : (3000 : Int) ≤ ((zN : Nat) : Int) := zN_big
    exact mz_ends_10 zN μ hB a1 0 (by omega) (by omega) (by omega)
def kb_6_type_0 : List zI := [(.aload_n 0, 1, 0, 0), (.getfield 88, 3, 6, 8), (.bipush 60, 2, 0, 0), (.if_icmp .ne 6, 3, 12, 0)]
theorem kd_6_type_0 : zdec md_6_type 0 kb_6_type_0 = true := by decide +kernel
def kb_6_type_12 : List zI := [(.aload_n 0, 1, 0, 0), (.getfield 25, 3, 6, 7), (.aload_n 0, 1, 0, 0), (.getfield 88, 3, 6, 8), (.iload_n 1, 1, 0, 0), (.iastore, 1, 0, 0), (.aload_n 0, 1, 0, 0), (.dup, 1, 0, 0), (.getfield 88, 3, 6, 8), (.iconst 1, 1, 0, 0), (.iadd, 1, 0, 0), (.putfield 88, 3, 6, 8), (.aload_n 0, 1, 0, 0), (.getfield 88, 3, 6, 8)]
theorem kd_6_type_12 : zdec md_6_type 12 kb_6_type_12 = true := by decide +kernel
theorem kr_6_type_36 : decode md_6_type.2.1 36 = .ok (.ireturn, 1) := by decide +kernel
def kb_6_type_9 : List zI := [(.bipush (-3), 2, 0, 0)]
theorem kd_6_type_9 : zdec md_6_type 9 kb_6_type_9 = true := by decide +kernel
theorem kr_6_type_11 : decode md_6_type.2.1 11 = .ok (.ireturn, 1) := by decide +kernel
noncomputable def mm_type (μ : zM) (a1 : Int) : Int × zM := (if (μ 113 8) = 60 then ((-3), μ) else (((μ 113 8) + 1), (zup (zup μ 119 (μ 113 8) a1) 113 8 ((μ 113 8) + 1))))
set_option maxHeartbeats 4000000 in
set_option maxRecDepth 100000 in
theorem mb_type {μ : zM} (hB : zB μ) (a1 : Int) (h0 : 0 ≤ a1 ∧ a1 ≤ 65535) : zB (mm_type μ a1).2 := by
  unfold mm_type
  have b1 : 0 ≤ (μ 113 8) ∧ (μ 113 8) ≤ 60 := hB 113 8
  by_cases c2 : (μ 113 8) = 60
  · rw [if_pos c2]
    exact hB
  · rw [if_neg c2]
    have b3 : 0 ≤ (μ 113 8) ∧ (μ 113 8) ≤ 60 := hB 113 8
    have b4 : 0 ≤ (μ 113 8) ∧ (μ 113 8) ≤ 60 := hB 113 8
    exact (zup_ok (k := 113) (z := 8) (v := ((μ 113 8) + 1)) (zup_ok (k := 119) (z := (μ 113 8)) (v := a1) hB (show 0 ≤ a1 ∧ a1 ≤ 65535 from by omega)) (show 0 ≤ ((μ 113 8) + 1) ∧ ((μ 113 8) + 1) ≤ 60 from by omega))
set_option maxHeartbeats 4000000 in
set_option maxRecDepth 100000 in
theorem mz_type {μ : zM} (hB : zB μ) (a1 : Int) (h0 : 0 ≤ a1 ∧ a1 ≤ 65535) : Dz md_6_type [zr 113, zi a1] zSh μ (some (zi (mm_type μ a1).1)) zSh (mm_type μ a1).2 := by
  refine Dz.of (by decide) rfl rfl (show Ez md_6_type 0 0 0 [(0, zr 113), (1, zi a1)] [] zSh μ (some (zi (mm_type μ a1).1)) zSh (mm_type μ a1).2 from ?_)
  unfold mm_type
  have b1 : 0 ≤ (μ 113 8) ∧ (μ 113 8) ≤ 60 := hB 113 8
  refine Az.blk kd_6_type_0 (show zR (μ 113 8) ∧ zR 60 ∧ ((¬ (μ 113 8) = 60 → Ez md_6_type 0 0 12 [(0, zr 113), (1, zi a1)] [] zSh μ _ _ _) ∧ ((μ 113 8) = 60 → Ez md_6_type 0 0 9 [(0, zr 113), (1, zi a1)] [] zSh μ _ _ _)) from ⟨(by omega), (by omega), fun c2 => ?_, fun c2 => ?_⟩)
  · rw [if_neg c2]
    have b3 : 0 ≤ (μ 113 8) ∧ (μ 113 8) ≤ 60 := hB 113 8
    have b4 : 0 ≤ (μ 113 8) ∧ (μ 113 8) ≤ 60 := hB 113 8
    refine Az.blk kd_6_type_12 (show (0 ≤ (μ 113 8) ∧ (μ 113 8) < 60) ∧ Ez md_6_type 0 0 36 [(0, zr 113), (1, zi a1)] [zi ((μ 113 8) + 1)] zSh (zup (zup μ 119 (μ 113 8) a1) 113 8 ((μ 113 8) + 1)) _ _ _ from ⟨(by omega), ?_⟩)
    exact Ez.iret kr_6_type_36 rfl (Nat.zero_le _) (Nat.zero_le _) rfl rfl
  · rw [if_pos c2]
    refine Az.blk kd_6_type_9 (show Ez md_6_type 0 0 11 [(0, zr 113), (1, zi a1)] [zi (-3)] zSh μ _ _ _ from ?_)
    exact Ez.iret kr_6_type_11 rfl (Nat.zero_le _) (Nat.zero_le _) rfl rfl
def kb_6_clearText_0 : List zI := [(.aload_n 0, 1, 0, 0), (.getfield 88, 3, 6, 8), (.istore_n 1, 1, 0, 0), (.aload_n 0, 1, 0, 0), (.iconst 0, 1, 0, 0), (.putfield 88, 3, 6, 8), (.iload_n 1, 1, 0, 0)]
theorem kd_6_clearText_0 : zdec md_6_clearText 0 kb_6_clearText_0 = true := by decide +kernel
theorem kr_6_clearText_11 : decode md_6_clearText.2.1 11 = .ok (.ireturn, 1) := by decide +kernel
noncomputable def mm_clearText (μ : zM) : Int × zM := ((μ 113 8), (zup μ 113 8 0))
set_option maxHeartbeats 4000000 in
set_option maxRecDepth 100000 in
theorem mb_clearText {μ : zM} (hB : zB μ)  : zB (mm_clearText μ).2 := by
  unfold mm_clearText
  have b1 : 0 ≤ (μ 113 8) ∧ (μ 113 8) ≤ 60 := hB 113 8
  exact (zup_ok (k := 113) (z := 8) (v := 0) hB (show 0 ≤ 0 ∧ 0 ≤ 60 from by omega))
set_option maxHeartbeats 4000000 in
set_option maxRecDepth 100000 in
theorem mz_clearText {μ : zM} (hB : zB μ)  : Dz md_6_clearText [zr 113] zSh μ (some (zi (mm_clearText μ).1)) zSh (mm_clearText μ).2 := by
  refine Dz.of (by decide) rfl rfl (show Ez md_6_clearText 0 0 0 [(0, zr 113)] [] zSh μ (some (zi (mm_clearText μ).1)) zSh (mm_clearText μ).2 from ?_)
  unfold mm_clearText
  have b1 : 0 ≤ (μ 113 8) ∧ (μ 113 8) ≤ 60 := hB 113 8
  refine Az.blk kd_6_clearText_0 (show Ez md_6_clearText 0 0 11 [(1, zi (μ 113 8)), (0, zr 113)] [zi (μ 113 8)] zSh (zup μ 113 8 0) _ _ _ from ?_)
  exact Ez.iret kr_6_clearText_11 rfl (Nat.zero_le _) (Nat.zero_le _) rfl rfl
