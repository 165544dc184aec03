theorem zfr_of {μ R : zM} (h1 : ∀ k', k' ≠ 113 → k' ≠ 118 → R k' = μ k') (h2 : ∀ z', z' ≠ 9 → R 113 z' = μ 113 z') : R = zup (zset μ 118 (R 118)) 113 9 (R 113 9) := by
  funext k' z'
  rw [zup_ap]
  split
  · next e => obtain ⟨rfl, rfl⟩ := e; rfl
  · next e =>
    by_cases e1 : k' = 118
    · subst e1; rw [zset_eq]
    · rw [zset_ne e1]
      by_cases e2 : k' = 113
      · subst e2; exact h2 z' (fun q => e ⟨rfl, q⟩)
      · rw [h1 k' e2 e1]
theorem zfr2_of {μ R : zM} (h1 : ∀ k', k' ≠ 113 → k' ≠ 118 → R k' = μ k') (h2 : ∀ z', z' ≠ 9 → z' ≠ 10 → R 113 z' = μ 113 z') : R = zup (zup (zset μ 118 (R 118)) 113 9 (R 113 9)) 113 10 (R 113 10) := by
  funext k' z'
  rw [zup_ap]
  split
  · next e => obtain ⟨rfl, rfl⟩ := e; rfl
  · next e0 =>
    rw [zup_ap]
    split
    · next e => obtain ⟨rfl, rfl⟩ := e; rfl
    · next e =>
      by_cases e1 : k' = 118
      · subst e1; rw [zset_eq]
      · rw [zset_ne e1]
        by_cases e2 : k' = 113
        · subst e2; exact h2 z' (fun q => e ⟨rfl, q⟩) (fun q => e0 ⟨rfl, q⟩)
        · rw [h1 k' e2 e1]
def kb_6_readsHole_0 : List zI := [(.aload_n 0, 1, 0, 0), (.bipush 110, 2, 0, 0)]
theorem kd_6_readsHole_0 : zdec md_6_readsHole 0 kb_6_readsHole_0 = true := by decide +kernel
theorem kr_6_readsHole_3 : decode md_6_readsHole.2.1 3 = .ok (.invokevirtual 135, 3) := by decide +kernel
def kb_6_readsHole_6 : List zI := [(.ifCond .eq 7, 3, 13, 0)]
theorem kd_6_readsHole_6 : zdec md_6_readsHole 6 kb_6_readsHole_6 = true := by decide +kernel
def kb_6_readsHole_13 : List zI := [(.aload_n 0, 1, 0, 0), (.bipush 118, 2, 0, 0)]
theorem kd_6_readsHole_13 : zdec md_6_readsHole 13 kb_6_readsHole_13 = true := by decide +kernel
theorem kr_6_readsHole_16 : decode md_6_readsHole.2.1 16 = .ok (.invokevirtual 135, 3) := by decide +kernel
def kb_6_readsHole_19 : List zI := [(.ifCond .eq 7, 3, 26, 0)]
theorem kd_6_readsHole_19 : zdec md_6_readsHole 19 kb_6_readsHole_19 = true := by decide +kernel
def kb_6_readsHole_26 : List zI := [(.aload_n 0, 1, 0, 0), (.bipush 97, 2, 0, 0)]
theorem kd_6_readsHole_26 : zdec md_6_readsHole 26 kb_6_readsHole_26 = true := by decide +kernel
theorem kr_6_readsHole_29 : decode md_6_readsHole.2.1 29 = .ok (.invokevirtual 135, 3) := by decide +kernel
def kb_6_readsHole_32 : List zI := [(.ifCond .eq 7, 3, 39, 0)]
theorem kd_6_readsHole_32 : zdec md_6_readsHole 32 kb_6_readsHole_32 = true := by decide +kernel
def kb_6_readsHole_39 : List zI := [(.bipush (-5), 2, 0, 0), (.istore_n 2, 1, 0, 0), (.iload_n 2, 1, 0, 0), (.bipush (-5), 2, 0, 0), (.if_icmp .eq 14, 3, 59, 0)]
theorem kd_6_readsHole_39 : zdec md_6_readsHole 39 kb_6_readsHole_39 = true := by decide +kernel
def kb_6_readsHole_59 : List zI := [(.iconst 0, 1, 0, 0)]
theorem kd_6_readsHole_59 : zdec md_6_readsHole 59 kb_6_readsHole_59 = true := by decide +kernel
theorem kr_6_readsHole_60 : decode md_6_readsHole.2.1 60 = .ok (.ireturn, 1) := by decide +kernel
def kb_6_readsHole_48 : List zI := [(.aload_n 0, 1, 0, 0), (.bipush 48, 2, 0, 0), (.bipush 57, 2, 0, 0)]
theorem kd_6_readsHole_48 : zdec md_6_readsHole 48 kb_6_readsHole_48 = true := by decide +kernel
theorem kr_6_readsHole_53 : decode md_6_readsHole.2.1 53 = .ok (.invokevirtual 131, 3) := by decide +kernel
def kb_6_readsHole_56 : List zI := [(.ifCond .ne 5, 3, 61, 0)]
theorem kd_6_readsHole_56 : zdec md_6_readsHole 56 kb_6_readsHole_56 = true := by decide +kernel
def kb_6_readsHole_61 : List zI := [(.aload_n 0, 1, 0, 0), (.getfield 22, 3, 6, 6), (.iload_n 1, 1, 0, 0), (.iconst 0, 1, 0, 0), (.iadd, 1, 0, 0), (.iconst 1, 1, 0, 0), (.iastore, 1, 0, 0), (.aload_n 0, 1, 0, 0), (.getfield 22, 3, 6, 6), (.iload_n 1, 1, 0, 0), (.iconst 1, 1, 0, 0), (.iadd, 1, 0, 0), (.iload_n 2, 1, 0, 0), (.iastore, 1, 0, 0), (.aload_n 0, 1, 0, 0), (.getfield 22, 3, 6, 6), (.iload_n 1, 1, 0, 0), (.iconst 2, 1, 0, 0), (.iadd, 1, 0, 0), (.aload_n 0, 1, 0, 0), (.getfield 25, 3, 6, 7), (.aload_n 0, 1, 0, 0), (.getfield 128, 3, 6, 9), (.iaload, 1, 0, 0), (.bipush 48, 2, 0, 0), (.isub, 1, 0, 0), (.iastore, 1, 0, 0), (.aload_n 0, 1, 0, 0), (.getfield 22, 3, 6, 6), (.iload_n 1, 1, 0, 0), (.iconst 3, 1, 0, 0), (.iadd, 1, 0, 0), (.bipush (-5), 2, 0, 0), (.iastore, 1, 0, 0), (.aload_n 0, 1, 0, 0), (.dup, 1, 0, 0), (.getfield 128, 3, 6, 9), (.iconst 1, 1, 0, 0), (.iadd, 1, 0, 0), (.putfield 128, 3, 6, 9), (.iconst 1, 1, 0, 0)]
theorem kd_6_readsHole_61 : zdec md_6_readsHole 61 kb_6_readsHole_61 = true := by decide +kernel
theorem kr_6_readsHole_120 : decode md_6_readsHole.2.1 120 = .ok (.ireturn, 1) := by decide +kernel
def kb_6_readsHole_35 : List zI := [(.iconst 2, 1, 0, 0), (.goto 5, 3, 41, 0)]
theorem kd_6_readsHole_35 : zdec md_6_readsHole 35 kb_6_readsHole_35 = true := by decide +kernel
def kb_6_readsHole_41 : List zI := [(.istore_n 2, 1, 0, 0), (.iload_n 2, 1, 0, 0), (.bipush (-5), 2, 0, 0), (.if_icmp .eq 14, 3, 59, 0)]
theorem kd_6_readsHole_41 : zdec md_6_readsHole 41 kb_6_readsHole_41 = true := by decide +kernel
def kb_6_readsHole_22 : List zI := [(.iconst 1, 1, 0, 0), (.goto 18, 3, 41, 0)]
theorem kd_6_readsHole_22 : zdec md_6_readsHole 22 kb_6_readsHole_22 = true := by decide +kernel
def kb_6_readsHole_9 : List zI := [(.iconst 0, 1, 0, 0), (.goto 31, 3, 41, 0)]
theorem kd_6_readsHole_9 : zdec md_6_readsHole 9 kb_6_readsHole_9 = true := by decide +kernel
noncomputable def mm_readsHole (μ : zM) (a1 : Int) : Int × zM := (if (mm_takesOne μ 110).1 = 0 then (if (mm_takesOne (zup μ 113 9 ((mm_takesOne μ 110).2 113 9)) 118).1 = 0 then (if (mm_takesOne (zup (zup μ 113 9 ((mm_takesOne μ 110).2 113 9)) 113 9 ((mm_takesOne (zup μ 113 9 ((mm_takesOne μ 110).2 113 9)) 118).2 113 9)) 97).1 = 0 then (if ((-5) : Int) = (-5) then (0, (zup (zup (zup μ 113 9 ((mm_takesOne μ 110).2 113 9)) 113 9 ((mm_takesOne (zup μ 113 9 ((mm_takesOne μ 110).2 113 9)) 118).2 113 9)) 113 9 ((mm_takesOne (zup (zup μ 113 9 ((mm_takesOne μ 110).2 113 9)) 113 9 ((mm_takesOne (zup μ 113 9 ((mm_takesOne μ 110).2 113 9)) 118).2 113 9)) 97).2 113 9))) else (if (mm_isHere (zup (zup (zup μ 113 9 ((mm_takesOne μ 110).2 113 9)) 113 9 ((mm_takesOne (zup μ 113 9 ((mm_takesOne μ 110).2 113 9)) 118).2 113 9)) 113 9 ((mm_takesOne (zup (zup μ 113 9 ((mm_takesOne μ 110).2 113 9)) 113 9 ((mm_takesOne (zup μ 113 9 ((mm_takesOne μ 110).2 113 9)) 118).2 113 9)) 97).2 113 9)) 48 57) = 0 then (0, (zup (zup (zup μ 113 9 ((mm_takesOne μ 110).2 113 9)) 113 9 ((mm_takesOne (zup μ 113 9 ((mm_takesOne μ 110).2 113 9)) 118).2 113 9)) 113 9 ((mm_takesOne (zup (zup μ 113 9 ((mm_takesOne μ 110).2 113 9)) 113 9 ((mm_takesOne (zup μ 113 9 ((mm_takesOne μ 110).2 113 9)) 118).2 113 9)) 97).2 113 9))) else (1, (zup (zup (zup (zup (zup (zup (zup (zup μ 113 9 ((mm_takesOne μ 110).2 113 9)) 113 9 ((mm_takesOne (zup μ 113 9 ((mm_takesOne μ 110).2 113 9)) 118).2 113 9)) 113 9 ((mm_takesOne (zup (zup μ 113 9 ((mm_takesOne μ 110).2 113 9)) 113 9 ((mm_takesOne (zup μ 113 9 ((mm_takesOne μ 110).2 113 9)) 118).2 113 9)) 97).2 113 9)) 118 (a1 + 0) 1) 118 (a1 + 1) (-5)) 118 (a1 + 2) ((μ 119 ((zup (zup (zup μ 113 9 ((mm_takesOne μ 110).2 113 9)) 113 9 ((mm_takesOne (zup μ 113 9 ((mm_takesOne μ 110).2 113 9)) 118).2 113 9)) 113 9 ((mm_takesOne (zup (zup μ 113 9 ((mm_takesOne μ 110).2 113 9)) 113 9 ((mm_takesOne (zup μ 113 9 ((mm_takesOne μ 110).2 113 9)) 118).2 113 9)) 97).2 113 9)) 113 9)) - 48)) 118 (a1 + 3) (-5)) 113 9 (((zup (zup (zup μ 113 9 ((mm_takesOne μ 110).2 113 9)) 113 9 ((mm_takesOne (zup μ 113 9 ((mm_takesOne μ 110).2 113 9)) 118).2 113 9)) 113 9 ((mm_takesOne (zup (zup μ 113 9 ((mm_takesOne μ 110).2 113 9)) 113 9 ((mm_takesOne (zup μ 113 9 ((mm_takesOne μ 110).2 113 9)) 118).2 113 9)) 97).2 113 9)) 113 9) + 1))))) else (if (2 : Int) = (-5) then (0, (zup (zup (zup μ 113 9 ((mm_takesOne μ 110).2 113 9)) 113 9 ((mm_takesOne (zup μ 113 9 ((mm_takesOne μ 110).2 113 9)) 118).2 113 9)) 113 9 ((mm_takesOne (zup (zup μ 113 9 ((mm_takesOne μ 110).2 113 9)) 113 9 ((mm_takesOne (zup μ 113 9 ((mm_takesOne μ 110).2 113 9)) 118).2 113 9)) 97).2 113 9))) else (if (mm_isHere (zup (zup (zup μ 113 9 ((mm_takesOne μ 110).2 113 9)) 113 9 ((mm_takesOne (zup μ 113 9 ((mm_takesOne μ 110).2 113 9)) 118).2 113 9)) 113 9 ((mm_takesOne (zup (zup μ 113 9 ((mm_takesOne μ 110).2 113 9)) 113 9 ((mm_takesOne (zup μ 113 9 ((mm_takesOne μ 110).2 113 9)) 118).2 113 9)) 97).2 113 9)) 48 57) = 0 then (0, (zup (zup (zup μ 113 9 ((mm_takesOne μ 110).2 113 9)) 113 9 ((mm_takesOne (zup μ 113 9 ((mm_takesOne μ 110).2 113 9)) 118).2 113 9)) 113 9 ((mm_takesOne (zup (zup μ 113 9 ((mm_takesOne μ 110).2 113 9)) 113 9 ((mm_takesOne (zup μ 113 9 ((mm_takesOne μ 110).2 113 9)) 118).2 113 9)) 97).2 113 9))) else (1, (zup (zup (zup (zup (zup (zup (zup (zup μ 113 9 ((mm_takesOne μ 110).2 113 9)) 113 9 ((mm_takesOne (zup μ 113 9 ((mm_takesOne μ 110).2 113 9)) 118).2 113 9)) 113 9 ((mm_takesOne (zup (zup μ 113 9 ((mm_takesOne μ 110).2 113 9)) 113 9 ((mm_takesOne (zup μ 113 9 ((mm_takesOne μ 110).2 113 9)) 118).2 113 9)) 97).2 113 9)) 118 (a1 + 0) 1) 118 (a1 + 1) 2) 118 (a1 + 2) ((μ 119 ((zup (zup (zup μ 113 9 ((mm_takesOne μ 110).2 113 9)) 113 9 ((mm_takesOne (zup μ 113 9 ((mm_takesOne μ 110).2 113 9)) 118).2 113 9)) 113 9 ((mm_takesOne (zup (zup μ 113 9 ((mm_takesOne μ 110).2 113 9)) 113 9 ((mm_takesOne (zup μ 113 9 ((mm_takesOne μ 110).2 113 9)) 118).2 113 9)) 97).2 113 9)) 113 9)) - 48)) 118 (a1 + 3) (-5)) 113 9 (((zup (zup (zup μ 113 9 ((mm_takesOne μ 110).2 113 9)) 113 9 ((mm_takesOne (zup μ 113 9 ((mm_takesOne μ 110).2 113 9)) 118).2 113 9)) 113 9 ((mm_takesOne (zup (zup μ 113 9 ((mm_takesOne μ 110).2 113 9)) 113 9 ((mm_takesOne (zup μ 113 9 ((mm_takesOne μ 110).2 113 9)) 118).2 113 9)) 97).2 113 9)) 113 9) + 1)))))) else (if (1 : Int) = (-5) then (0, (zup (zup μ 113 9 ((mm_takesOne μ 110).2 113 9)) 113 9 ((mm_takesOne (zup μ 113 9 ((mm_takesOne μ 110).2 113 9)) 118).2 113 9))) else (if (mm_isHere (zup (zup μ 113 9 ((mm_takesOne μ 110).2 113 9)) 113 9 ((mm_takesOne (zup μ 113 9 ((mm_takesOne μ 110).2 113 9)) 118).2 113 9)) 48 57) = 0 then (0, (zup (zup μ 113 9 ((mm_takesOne μ 110).2 113 9)) 113 9 ((mm_takesOne (zup μ 113 9 ((mm_takesOne μ 110).2 113 9)) 118).2 113 9))) else (1, (zup (zup (zup (zup (zup (zup (zup μ 113 9 ((mm_takesOne μ 110).2 113 9)) 113 9 ((mm_takesOne (zup μ 113 9 ((mm_takesOne μ 110).2 113 9)) 118).2 113 9)) 118 (a1 + 0) 1) 118 (a1 + 1) 1) 118 (a1 + 2) ((μ 119 ((zup (zup μ 113 9 ((mm_takesOne μ 110).2 113 9)) 113 9 ((mm_takesOne (zup μ 113 9 ((mm_takesOne μ 110).2 113 9)) 118).2 113 9)) 113 9)) - 48)) 118 (a1 + 3) (-5)) 113 9 (((zup (zup μ 113 9 ((mm_takesOne μ 110).2 113 9)) 113 9 ((mm_takesOne (zup μ 113 9 ((mm_takesOne μ 110).2 113 9)) 118).2 113 9)) 113 9) + 1)))))) else (if (0 : Int) = (-5) then (0, (zup μ 113 9 ((mm_takesOne μ 110).2 113 9))) else (if (mm_isHere (zup μ 113 9 ((mm_takesOne μ 110).2 113 9)) 48 57) = 0 then (0, (zup μ 113 9 ((mm_takesOne μ 110).2 113 9))) else (1, (zup (zup (zup (zup (zup (zup μ 113 9 ((mm_takesOne μ 110).2 113 9)) 118 (a1 + 0) 1) 118 (a1 + 1) 0) 118 (a1 + 2) ((μ 119 ((zup μ 113 9 ((mm_takesOne μ 110).2 113 9)) 113 9)) - 48)) 118 (a1 + 3) (-5)) 113 9 (((zup μ 113 9 ((mm_takesOne μ 110).2 113 9)) 113 9) + 1))))))
set_option maxHeartbeats 4000000 in
set_option maxRecDepth 100000 in
theorem mr_readsHole {μ : zM} (hB : zB μ) (a1 : Int) (h0 : 0 ≤ a1 ∧ a1 ≤ 266 ∧ a1 % 14 = 0) : 0 ≤ (mm_readsHole μ a1).1 ∧ (mm_readsHole μ a1).1 ≤ 1 := by
  unfold mm_readsHole
  have e8 : 0 ≤ (μ 113 8) ∧ (μ 113 8) ≤ 60 := hB 113 8
  have r1 : 0 ≤ (mm_takesOne μ 110).1 ∧ (mm_takesOne μ 110).1 ≤ 1 := mr_takesOne hB 110 (by omega)
  by_cases c2 : (mm_takesOne μ 110).1 = 0
  · rw [if_pos c2]
    have r3 : 0 ≤ (mm_takesOne (zup μ 113 9 ((mm_takesOne μ 110).2 113 9)) 118).1 ∧ (mm_takesOne (zup μ 113 9 ((mm_takesOne μ 110).2 113 9)) 118).1 ≤ 1 := mr_takesOne (mb_takesOneF hB 110 (by omega)) 118 (by omega)
    by_cases c4 : (mm_takesOne (zup μ 113 9 ((mm_takesOne μ 110).2 113 9)) 118).1 = 0
    · rw [if_pos c4]
      have r5 : 0 ≤ (mm_takesOne (zup (zup μ 113 9 ((mm_takesOne μ 110).2 113 9)) 113 9 ((mm_takesOne (zup μ 113 9 ((mm_takesOne μ 110).2 113 9)) 118).2 113 9)) 97).1 ∧ (mm_takesOne (zup (zup μ 113 9 ((mm_takesOne μ 110).2 113 9)) 113 9 ((mm_takesOne (zup μ 113 9 ((mm_takesOne μ 110).2 113 9)) 118).2 113 9)) 97).1 ≤ 1 := mr_takesOne (mb_takesOneF (mb_takesOneF hB 110 (by omega)) 118 (by omega)) 97 (by omega)
      by_cases c6 : (mm_takesOne (zup (zup μ 113 9 ((mm_takesOne μ 110).2 113 9)) 113 9 ((mm_takesOne (zup μ 113 9 ((mm_takesOne μ 110).2 113 9)) 118).2 113 9)) 97).1 = 0
      · rw [if_pos c6]
        by_cases c7 : ((-5) : Int) = (-5)
        · rw [if_pos c7]
          first | omega | (dsimp only; omega)
        · rw [if_neg c7]
          have r8 : 0 ≤ (mm_isHere (zup (zup (zup μ 113 9 ((mm_takesOne μ 110).2 113 9)) 113 9 ((mm_takesOne (zup μ 113 9 ((mm_takesOne μ 110).2 113 9)) 118).2 113 9)) 113 9 ((mm_takesOne (zup (zup μ 113 9 ((mm_takesOne μ 110).2 113 9)) 113 9 ((mm_takesOne (zup μ 113 9 ((mm_takesOne μ 110).2 113 9)) 118).2 113 9)) 97).2 113 9)) 48 57) ∧ (mm_isHere (zup (zup (zup μ 113 9 ((mm_takesOne μ 110).2 113 9)) 113 9 ((mm_takesOne (zup μ 113 9 ((mm_takesOne μ 110).2 113 9)) 118).2 113 9)) 113 9 ((mm_takesOne (zup (zup μ 113 9 ((mm_takesOne μ 110).2 113 9)) 113 9 ((mm_takesOne (zup μ 113 9 ((mm_takesOne μ 110).2 113 9)) 118).2 113 9)) 97).2 113 9)) 48 57) ≤ 1 ∧ ((mm_isHere (zup (zup (zup μ 113 9 ((mm_takesOne μ 110).2 113 9)) 113 9 ((mm_takesOne (zup μ 113 9 ((mm_takesOne μ 110).2 113 9)) 118).2 113 9)) 113 9 ((mm_takesOne (zup (zup μ 113 9 ((mm_takesOne μ 110).2 113 9)) 113 9 ((mm_takesOne (zup μ 113 9 ((mm_takesOne μ 110).2 113 9)) 118).2 113 9)) 97).2 113 9)) 48 57) = 1 → ((zup (zup (zup μ 113 9 ((mm_takesOne μ 110).2 113 9)) 113 9 ((mm_takesOne (zup μ 113 9 ((mm_takesOne μ 110).2 113 9)) 118).2 113 9)) 113 9 ((mm_takesOne (zup (zup μ 113 9 ((mm_takesOne μ 110).2 113 9)) 113 9 ((mm_takesOne (zup μ 113 9 ((mm_takesOne μ 110).2 113 9)) 118).2 113 9)) 97).2 113 9)) 113 9) < (μ 113 8) ∧ (48 : Int) ≤ (μ 119 (((zup (zup (zup μ 113 9 ((mm_takesOne μ 110).2 113 9)) 113 9 ((mm_takesOne (zup μ 113 9 ((mm_takesOne μ 110).2 113 9)) 118).2 113 9)) 113 9 ((mm_takesOne (zup (zup μ 113 9 ((mm_takesOne μ 110).2 113 9)) 113 9 ((mm_takesOne (zup μ 113 9 ((mm_takesOne μ 110).2 113 9)) 118).2 113 9)) 97).2 113 9)) 113 9))) ∧ (μ 119 (((zup (zup (zup μ 113 9 ((mm_takesOne μ 110).2 113 9)) 113 9 ((mm_takesOne (zup μ 113 9 ((mm_takesOne μ 110).2 113 9)) 118).2 113 9)) 113 9 ((mm_takesOne (zup (zup μ 113 9 ((mm_takesOne μ 110).2 113 9)) 113 9 ((mm_takesOne (zup μ 113 9 ((mm_takesOne μ 110).2 113 9)) 118).2 113 9)) 97).2 113 9)) 113 9))) ≤ (57 : Int)) := mr_isHere (mb_takesOneF (mb_takesOneF (mb_takesOneF hB 110 (by omega)) 118 (by omega)) 97 (by omega)) 48 57 (by omega) (by omega)
          by_cases c9 : (mm_isHere (zup (zup (zup μ 113 9 ((mm_takesOne μ 110).2 113 9)) 113 9 ((mm_takesOne (zup μ 113 9 ((mm_takesOne μ 110).2 113 9)) 118).2 113 9)) 113 9 ((mm_takesOne (zup (zup μ 113 9 ((mm_takesOne μ 110).2 113 9)) 113 9 ((mm_takesOne (zup μ 113 9 ((mm_takesOne μ 110).2 113 9)) 118).2 113 9)) 97).2 113 9)) 48 57) = 0
          · rw [if_pos c9]
            first | omega | (dsimp only; omega)
          · rw [if_neg c9]
            have b10 : 0 ≤ ((zup (zup (zup μ 113 9 ((mm_takesOne μ 110).2 113 9)) 113 9 ((mm_takesOne (zup μ 113 9 ((mm_takesOne μ 110).2 113 9)) 118).2 113 9)) 113 9 ((mm_takesOne (zup (zup μ 113 9 ((mm_takesOne μ 110).2 113 9)) 113 9 ((mm_takesOne (zup μ 113 9 ((mm_takesOne μ 110).2 113 9)) 118).2 113 9)) 97).2 113 9)) 113 9) ∧ ((zup (zup (zup μ 113 9 ((mm_takesOne μ 110).2 113 9)) 113 9 ((mm_takesOne (zup μ 113 9 ((mm_takesOne μ 110).2 113 9)) 118).2 113 9)) 113 9 ((mm_takesOne (zup (zup μ 113 9 ((mm_takesOne μ 110).2 113 9)) 113 9 ((mm_takesOne (zup μ 113 9 ((mm_takesOne μ 110).2 113 9)) 118).2 113 9)) 97).2 113 9)) 113 9) ≤ 60 := (mb_takesOneF (mb_takesOneF (mb_takesOneF hB 110 (by omega)) 118 (by omega)) 97 (by omega)) 113 9
            have b11 : 0 ≤ (μ 119 ((zup (zup (zup μ 113 9 ((mm_takesOne μ 110).2 113 9)) 113 9 ((mm_takesOne (zup μ 113 9 ((mm_takesOne μ 110).2 113 9)) 118).2 113 9)) 113 9 ((mm_takesOne (zup (zup μ 113 9 ((mm_takesOne μ 110).2 113 9)) 113 9 ((mm_takesOne (zup μ 113 9 ((mm_takesOne μ 110).2 113 9)) 118).2 113 9)) 97).2 113 9)) 113 9)) ∧ (μ 119 ((zup (zup (zup μ 113 9 ((mm_takesOne μ 110).2 113 9)) 113 9 ((mm_takesOne (zup μ 113 9 ((mm_takesOne μ 110).2 113 9)) 118).2 113 9)) 113 9 ((mm_takesOne (zup (zup μ 113 9 ((mm_takesOne μ 110).2 113 9)) 113 9 ((mm_takesOne (zup μ 113 9 ((mm_takesOne μ 110).2 113 9)) 118).2 113 9)) 97).2 113 9)) 113 9)) ≤ 65535 := hB 119 ((zup (zup (zup μ 113 9 ((mm_takesOne μ 110).2 113 9)) 113 9 ((mm_takesOne (zup μ 113 9 ((mm_takesOne μ 110).2 113 9)) 118).2 113 9)) 113 9 ((mm_takesOne (zup (zup μ 113 9 ((mm_takesOne μ 110).2 113 9)) 113 9 ((mm_takesOne (zup μ 113 9 ((mm_takesOne μ 110).2 113 9)) 118).2 113 9)) 97).2 113 9)) 113 9)
            have b12 : 0 ≤ ((zup (zup (zup μ 113 9 ((mm_takesOne μ 110).2 113 9)) 113 9 ((mm_takesOne (zup μ 113 9 ((mm_takesOne μ 110).2 113 9)) 118).2 113 9)) 113 9 ((mm_takesOne (zup (zup μ 113 9 ((mm_takesOne μ 110).2 113 9)) 113 9 ((mm_takesOne (zup μ 113 9 ((mm_takesOne μ 110).2 113 9)) 118).2 113 9)) 97).2 113 9)) 113 9) ∧ ((zup (zup (zup μ 113 9 ((mm_takesOne μ 110).2 113 9)) 113 9 ((mm_takesOne (zup μ 113 9 ((mm_takesOne μ 110).2 113 9)) 118).2 113 9)) 113 9 ((mm_takesOne (zup (zup μ 113 9 ((mm_takesOne μ 110).2 113 9)) 113 9 ((mm_takesOne (zup μ 113 9 ((mm_takesOne μ 110).2 113 9)) 118).2 113 9)) 97).2 113 9)) 113 9) ≤ 60 := (mb_takesOneF (mb_takesOneF (mb_takesOneF hB 110 (by omega)) 118 (by omega)) 97 (by omega)) 113 9
            first | omega | (dsimp only; omega)
      · rw [if_neg c6]
        by_cases c13 : (2 : Int) = (-5)
        · rw [if_pos c13]
          first | omega | (dsimp only; omega)
        · rw [if_neg c13]
          have r14 : 0 ≤ (mm_isHere (zup (zup (zup μ 113 9 ((mm_takesOne μ 110).2 113 9)) 113 9 ((mm_takesOne (zup μ 113 9 ((mm_takesOne μ 110).2 113 9)) 118).2 113 9)) 113 9 ((mm_takesOne (zup (zup μ 113 9 ((mm_takesOne μ 110).2 113 9)) 113 9 ((mm_takesOne (zup μ 113 9 ((mm_takesOne μ 110).2 113 9)) 118).2 113 9)) 97).2 113 9)) 48 57) ∧ (mm_isHere (zup (zup (zup μ 113 9 ((mm_takesOne μ 110).2 113 9)) 113 9 ((mm_takesOne (zup μ 113 9 ((mm_takesOne μ 110).2 113 9)) 118).2 113 9)) 113 9 ((mm_takesOne (zup (zup μ 113 9 ((mm_takesOne μ 110).2 113 9)) 113 9 ((mm_takesOne (zup μ 113 9 ((mm_takesOne μ 110).2 113 9)) 118).2 113 9)) 97).2 113 9)) 48 57) ≤ 1 ∧ ((mm_isHere (zup (zup (zup μ 113 9 ((mm_takesOne μ 110).2 113 9)) 113 9 ((mm_takesOne (zup μ 113 9 ((mm_takesOne μ 110).2 113 9)) 118).2 113 9)) 113 9 ((mm_takesOne (zup (zup μ 113 9 ((mm_takesOne μ 110).2 113 9)) 113 9 ((mm_takesOne (zup μ 113 9 ((mm_takesOne μ 110).2 113 9)) 118).2 113 9)) 97).2 113 9)) 48 57) = 1 → ((zup (zup (zup μ 113 9 ((mm_takesOne μ 110).2 113 9)) 113 9 ((mm_takesOne (zup μ 113 9 ((mm_takesOne μ 110).2 113 9)) 118).2 113 9)) 113 9 ((mm_takesOne (zup (zup μ 113 9 ((mm_takesOne μ 110).2 113 9)) 113 9 ((mm_takesOne (zup μ 113 9 ((mm_takesOne μ 110).2 113 9)) 118).2 113 9)) 97).2 113 9)) 113 9) < (μ 113 8) ∧ (48 : Int) ≤ (μ 119 (((zup (zup (zup μ 113 9 ((mm_takesOne μ 110).2 113 9)) 113 9 ((mm_takesOne (zup μ 113 9 ((mm_takesOne μ 110).2 113 9)) 118).2 113 9)) 113 9 ((mm_takesOne (zup (zup μ 113 9 ((mm_takesOne μ 110).2 113 9)) 113 9 ((mm_takesOne (zup μ 113 9 ((mm_takesOne μ 110).2 113 9)) 118).2 113 9)) 97).2 113 9)) 113 9))) ∧ (μ 119 (((zup (zup (zup μ 113 9 ((mm_takesOne μ 110).2 113 9)) 113 9 ((mm_takesOne (zup μ 113 9 ((mm_takesOne μ 110).2 113 9)) 118).2 113 9)) 113 9 ((mm_takesOne (zup (zup μ 113 9 ((mm_takesOne μ 110).2 113 9)) 113 9 ((mm_takesOne (zup μ 113 9 ((mm_takesOne μ 110).2 113 9)) 118).2 113 9)) 97).2 113 9)) 113 9))) ≤ (57 : Int)) := mr_isHere (mb_takesOneF (mb_takesOneF (mb_takesOneF hB 110 (by omega)) 118 (by omega)) 97 (by omega)) 48 57 (by omega) (by omega)
          by_cases c15 : (mm_isHere (zup (zup (zup μ 113 9 ((mm_takesOne μ 110).2 113 9)) 113 9 ((mm_takesOne (zup μ 113 9 ((mm_takesOne μ 110).2 113 9)) 118).2 113 9)) 113 9 ((mm_takesOne (zup (zup μ 113 9 ((mm_takesOne μ 110).2 113 9)) 113 9 ((mm_takesOne (zup μ 113 9 ((mm_takesOne μ 110).2 113 9)) 118).2 113 9)) 97).2 113 9)) 48 57) = 0
          · rw [if_pos c15]
            first | omega | (dsimp only; omega)
          · rw [if_neg c15]
            have b16 : 0 ≤ ((zup (zup (zup μ 113 9 ((mm_takesOne μ 110).2 113 9)) 113 9 ((mm_takesOne (zup μ 113 9 ((mm_takesOne μ 110).2 113 9)) 118).2 113 9)) 113 9 ((mm_takesOne (zup (zup μ 113 9 ((mm_takesOne μ 110).2 113 9)) 113 9 ((mm_takesOne (zup μ 113 9 ((mm_takesOne μ 110).2 113 9)) 118).2 113 9)) 97).2 113 9)) 113 9) ∧ ((zup (zup (zup μ 113 9 ((mm_takesOne μ 110).2 113 9)) 113 9 ((mm_takesOne (zup μ 113 9 ((mm_takesOne μ 110).2 113 9)) 118).2 113 9)) 113 9 ((mm_takesOne (zup (zup μ 113 9 ((mm_takesOne μ 110).2 113 9)) 113 9 ((mm_takesOne (zup μ 113 9 ((mm_takesOne μ 110).2 113 9)) 118).2 113 9)) 97).2 113 9)) 113 9) ≤ 60 := (mb_takesOneF (mb_takesOneF (mb_takesOneF hB 110 (by omega)) 118 (by omega)) 97 (by omega)) 113 9
            have b17 : 0 ≤ (μ 119 ((zup (zup (zup μ 113 9 ((mm_takesOne μ 110).2 113 9)) 113 9 ((mm_takesOne (zup μ 113 9 ((mm_takesOne μ 110).2 113 9)) 118).2 113 9)) 113 9 ((mm_takesOne (zup (zup μ 113 9 ((mm_takesOne μ 110).2 113 9)) 113 9 ((mm_takesOne (zup μ 113 9 ((mm_takesOne μ 110).2 113 9)) 118).2 113 9)) 97).2 113 9)) 113 9)) ∧ (μ 119 ((zup (zup (zup μ 113 9 ((mm_takesOne μ 110).2 113 9)) 113 9 ((mm_takesOne (zup μ 113 9 ((mm_takesOne μ 110).2 113 9)) 118).2 113 9)) 113 9 ((mm_takesOne (zup (zup μ 113 9 ((mm_takesOne μ 110).2 113 9)) 113 9 ((mm_takesOne (zup μ 113 9 ((mm_takesOne μ 110).2 113 9)) 118).2 113 9)) 97).2 113 9)) 113 9)) ≤ 65535 := hB 119 ((zup (zup (zup μ 113 9 ((mm_takesOne μ 110).2 113 9)) 113 9 ((mm_takesOne (zup μ 113 9 ((mm_takesOne μ 110).2 113 9)) 118).2 113 9)) 113 9 ((mm_takesOne (zup (zup μ 113 9 ((mm_takesOne μ 110).2 113 9)) 113 9 ((mm_takesOne (zup μ 113 9 ((mm_takesOne μ 110).2 113 9)) 118).2 113 9)) 97).2 113 9)) 113 9)
            have b18 : 0 ≤ ((zup (zup (zup μ 113 9 ((mm_takesOne μ 110).2 113 9)) 113 9 ((mm_takesOne (zup μ 113 9 ((mm_takesOne μ 110).2 113 9)) 118).2 113 9)) 113 9 ((mm_takesOne (zup (zup μ 113 9 ((mm_takesOne μ 110).2 113 9)) 113 9 ((mm_takesOne (zup μ 113 9 ((mm_takesOne μ 110).2 113 9)) 118).2 113 9)) 97).2 113 9)) 113 9) ∧ ((zup (zup (zup μ 113 9 ((mm_takesOne μ 110).2 113 9)) 113 9 ((mm_takesOne (zup μ 113 9 ((mm_takesOne μ 110).2 113 9)) 118).2 113 9)) 113 9 ((mm_takesOne (zup (zup μ 113 9 ((mm_takesOne μ 110).2 113 9)) 113 9 ((mm_takesOne (zup μ 113 9 ((mm_takesOne μ 110).2 113 9)) 118).2 113 9)) 97).2 113 9)) 113 9) ≤ 60 := (mb_takesOneF (mb_takesOneF (mb_takesOneF hB 110 (by omega)) 118 (by omega)) 97 (by omega)) 113 9
            first | omega | (dsimp only; omega)
    · rw [if_neg c4]
      by_cases c19 : (1 : Int) = (-5)
      · rw [if_pos c19]
        first | omega | (dsimp only; omega)
      · rw [if_neg c19]
        have r20 : 0 ≤ (mm_isHere (zup (zup μ 113 9 ((mm_takesOne μ 110).2 113 9)) 113 9 ((mm_takesOne (zup μ 113 9 ((mm_takesOne μ 110).2 113 9)) 118).2 113 9)) 48 57) ∧ (mm_isHere (zup (zup μ 113 9 ((mm_takesOne μ 110).2 113 9)) 113 9 ((mm_takesOne (zup μ 113 9 ((mm_takesOne μ 110).2 113 9)) 118).2 113 9)) 48 57) ≤ 1 ∧ ((mm_isHere (zup (zup μ 113 9 ((mm_takesOne μ 110).2 113 9)) 113 9 ((mm_takesOne (zup μ 113 9 ((mm_takesOne μ 110).2 113 9)) 118).2 113 9)) 48 57) = 1 → ((zup (zup μ 113 9 ((mm_takesOne μ 110).2 113 9)) 113 9 ((mm_takesOne (zup μ 113 9 ((mm_takesOne μ 110).2 113 9)) 118).2 113 9)) 113 9) < (μ 113 8) ∧ (48 : Int) ≤ (μ 119 (((zup (zup μ 113 9 ((mm_takesOne μ 110).2 113 9)) 113 9 ((mm_takesOne (zup μ 113 9 ((mm_takesOne μ 110).2 113 9)) 118).2 113 9)) 113 9))) ∧ (μ 119 (((zup (zup μ 113 9 ((mm_takesOne μ 110).2 113 9)) 113 9 ((mm_takesOne (zup μ 113 9 ((mm_takesOne μ 110).2 113 9)) 118).2 113 9)) 113 9))) ≤ (57 : Int)) := mr_isHere (mb_takesOneF (mb_takesOneF hB 110 (by omega)) 118 (by omega)) 48 57 (by omega) (by omega)
        by_cases c21 : (mm_isHere (zup (zup μ 113 9 ((mm_takesOne μ 110).2 113 9)) 113 9 ((mm_takesOne (zup μ 113 9 ((mm_takesOne μ 110).2 113 9)) 118).2 113 9)) 48 57) = 0
        · rw [if_pos c21]
          first | omega | (dsimp only; omega)
        · rw [if_neg c21]
          have b22 : 0 ≤ ((zup (zup μ 113 9 ((mm_takesOne μ 110).2 113 9)) 113 9 ((mm_takesOne (zup μ 113 9 ((mm_takesOne μ 110).2 113 9)) 118).2 113 9)) 113 9) ∧ ((zup (zup μ 113 9 ((mm_takesOne μ 110).2 113 9)) 113 9 ((mm_takesOne (zup μ 113 9 ((mm_takesOne μ 110).2 113 9)) 118).2 113 9)) 113 9) ≤ 60 := (mb_takesOneF (mb_takesOneF hB 110 (by omega)) 118 (by omega)) 113 9
          have b23 : 0 ≤ (μ 119 ((zup (zup μ 113 9 ((mm_takesOne μ 110).2 113 9)) 113 9 ((mm_takesOne (zup μ 113 9 ((mm_takesOne μ 110).2 113 9)) 118).2 113 9)) 113 9)) ∧ (μ 119 ((zup (zup μ 113 9 ((mm_takesOne μ 110).2 113 9)) 113 9 ((mm_takesOne (zup μ 113 9 ((mm_takesOne μ 110).2 113 9)) 118).2 113 9)) 113 9)) ≤ 65535 := hB 119 ((zup (zup μ 113 9 ((mm_takesOne μ 110).2 113 9)) 113 9 ((mm_takesOne (zup μ 113 9 ((mm_takesOne μ 110).2 113 9)) 118).2 113 9)) 113 9)
          have b24 : 0 ≤ ((zup (zup μ 113 9 ((mm_takesOne μ 110).2 113 9)) 113 9 ((mm_takesOne (zup μ 113 9 ((mm_takesOne μ 110).2 113 9)) 118).2 113 9)) 113 9) ∧ ((zup (zup μ 113 9 ((mm_takesOne μ 110).2 113 9)) 113 9 ((mm_takesOne (zup μ 113 9 ((mm_takesOne μ 110).2 113 9)) 118).2 113 9)) 113 9) ≤ 60 := (mb_takesOneF (mb_takesOneF hB 110 (by omega)) 118 (by omega)) 113 9
          first | omega | (dsimp only; omega)
  · rw [if_neg c2]
    by_cases c25 : (0 : Int) = (-5)
    · rw [if_pos c25]
      first | omega | (dsimp only; omega)
    · rw [if_neg c25]
      have r26 : 0 ≤ (mm_isHere (zup μ 113 9 ((mm_takesOne μ 110).2 113 9)) 48 57) ∧ (mm_isHere (zup μ 113 9 ((mm_takesOne μ 110).2 113 9)) 48 57) ≤ 1 ∧ ((mm_isHere (zup μ 113 9 ((mm_takesOne μ 110).2 113 9)) 48 57) = 1 → ((zup μ 113 9 ((mm_takesOne μ 110).2 113 9)) 113 9) < (μ 113 8) ∧ (48 : Int) ≤ (μ 119 (((zup μ 113 9 ((mm_takesOne μ 110).2 113 9)) 113 9))) ∧ (μ 119 (((zup μ 113 9 ((mm_takesOne μ 110).2 113 9)) 113 9))) ≤ (57 : Int)) := mr_isHere (mb_takesOneF hB 110 (by omega)) 48 57 (by omega) (by omega)
      by_cases c27 : (mm_isHere (zup μ 113 9 ((mm_takesOne μ 110).2 113 9)) 48 57) = 0
      · rw [if_pos c27]
        first | omega | (dsimp only; omega)
      · rw [if_neg c27]
        have b28 : 0 ≤ ((zup μ 113 9 ((mm_takesOne μ 110).2 113 9)) 113 9) ∧ ((zup μ 113 9 ((mm_takesOne μ 110).2 113 9)) 113 9) ≤ 60 := (mb_takesOneF hB 110 (by omega)) 113 9
        have b29 : 0 ≤ (μ 119 ((zup μ 113 9 ((mm_takesOne μ 110).2 113 9)) 113 9)) ∧ (μ 119 ((zup μ 113 9 ((mm_takesOne μ 110).2 113 9)) 113 9)) ≤ 65535 := hB 119 ((zup μ 113 9 ((mm_takesOne μ 110).2 113 9)) 113 9)
        have b30 : 0 ≤ ((zup μ 113 9 ((mm_takesOne μ 110).2 113 9)) 113 9) ∧ ((zup μ 113 9 ((mm_takesOne μ 110).2 113 9)) 113 9) ≤ 60 := (mb_takesOneF hB 110 (by omega)) 113 9
        first | omega | (dsimp only; omega)
set_option maxHeartbeats 4000000 in
set_option maxRecDepth 100000 in
theorem mb_readsHole {μ : zM} (hB : zB μ) (a1 : Int) (h0 : 0 ≤ a1 ∧ a1 ≤ 266 ∧ a1 % 14 = 0) : zB (mm_readsHole μ a1).2 := by
  unfold mm_readsHole
  have e8 : 0 ≤ (μ 113 8) ∧ (μ 113 8) ≤ 60 := hB 113 8
  have r1 : 0 ≤ (mm_takesOne μ 110).1 ∧ (mm_takesOne μ 110).1 ≤ 1 := mr_takesOne hB 110 (by omega)
  by_cases c2 : (mm_takesOne μ 110).1 = 0
  · rw [if_pos c2]
    have r3 : 0 ≤ (mm_takesOne (zup μ 113 9 ((mm_takesOne μ 110).2 113 9)) 118).1 ∧ (mm_takesOne (zup μ 113 9 ((mm_takesOne μ 110).2 113 9)) 118).1 ≤ 1 := mr_takesOne (mb_takesOneF hB 110 (by omega)) 118 (by omega)
    by_cases c4 : (mm_takesOne (zup μ 113 9 ((mm_takesOne μ 110).2 113 9)) 118).1 = 0
    · rw [if_pos c4]
      have r5 : 0 ≤ (mm_takesOne (zup (zup μ 113 9 ((mm_takesOne μ 110).2 113 9)) 113 9 ((mm_takesOne (zup μ 113 9 ((mm_takesOne μ 110).2 113 9)) 118).2 113 9)) 97).1 ∧ (mm_takesOne (zup (zup μ 113 9 ((mm_takesOne μ 110).2 113 9)) 113 9 ((mm_takesOne (zup μ 113 9 ((mm_takesOne μ 110).2 113 9)) 118).2 113 9)) 97).1 ≤ 1 := mr_takesOne (mb_takesOneF (mb_takesOneF hB 110 (by omega)) 118 (by omega)) 97 (by omega)
      by_cases c6 : (mm_takesOne (zup (zup μ 113 9 ((mm_takesOne μ 110).2 113 9)) 113 9 ((mm_takesOne (zup μ 113 9 ((mm_takesOne μ 110).2 113 9)) 118).2 113 9)) 97).1 = 0
      · rw [if_pos c6]
        by_cases c7 : ((-5) : Int) = (-5)
        · rw [if_pos c7]
          exact (mb_takesOneF (mb_takesOneF (mb_takesOneF hB 110 (by omega)) 118 (by omega)) 97 (by omega))
        · rw [if_neg c7]
          have r8 : 0 ≤ (mm_isHere (zup (zup (zup μ 113 9 ((mm_takesOne μ 110).2 113 9)) 113 9 ((mm_takesOne (zup μ 113 9 ((mm_takesOne μ 110).2 113 9)) 118).2 113 9)) 113 9 ((mm_takesOne (zup (zup μ 113 9 ((mm_takesOne μ 110).2 113 9)) 113 9 ((mm_takesOne (zup μ 113 9 ((mm_takesOne μ 110).2 113 9)) 118).2 113 9)) 97).2 113 9)) 48 57) ∧ (mm_isHere (zup (zup (zup μ 113 9 ((mm_takesOne μ 110).2 113 9)) 113 9 ((mm_takesOne (zup μ 113 9 ((mm_takesOne μ 110).2 113 9)) 118).2 113 9)) 113 9 ((mm_takesOne (zup (zup μ 113 9 ((mm_takesOne μ 110).2 113 9)) 113 9 ((mm_takesOne (zup μ 113 9 ((mm_takesOne μ 110).2 113 9)) 118).2 113 9)) 97).2 113 9)) 48 57) ≤ 1 ∧ ((mm_isHere (zup (zup (zup μ 113 9 ((mm_takesOne μ 110).2 113 9)) 113 9 ((mm_takesOne (zup μ 113 9 ((mm_takesOne μ 110).2 113 9)) 118).2 113 9)) 113 9 ((mm_takesOne (zup (zup μ 113 9 ((mm_takesOne μ 110).2 113 9)) 113 9 ((mm_takesOne (zup μ 113 9 ((mm_takesOne μ 110).2 113 9)) 118).2 113 9)) 97).2 113 9)) 48 57) = 1 → ((zup (zup (zup μ 113 9 ((mm_takesOne μ 110).2 113 9)) 113 9 ((mm_takesOne (zup μ 113 9 ((mm_takesOne μ 110).2 113 9)) 118).2 113 9)) 113 9 ((mm_takesOne (zup (zup μ 113 9 ((mm_takesOne μ 110).2 113 9)) 113 9 ((mm_takesOne (zup μ 113 9 ((mm_takesOne μ 110).2 113 9)) 118).2 113 9)) 97).2 113 9)) 113 9) < (μ 113 8) ∧ (48 : Int) ≤ (μ 119 (((zup (zup (zup μ 113 9 ((mm_takesOne μ 110).2 113 9)) 113 9 ((mm_takesOne (zup μ 113 9 ((mm_takesOne μ 110).2 113 9)) 118).2 113 9)) 113 9 ((mm_takesOne (zup (zup μ 113 9 ((mm_takesOne μ 110).2 113 9)) 113 9 ((mm_takesOne (zup μ 113 9 ((mm_takesOne μ 110).2 113 9)) 118).2 113 9)) 97).2 113 9)) 113 9))) ∧ (μ 119 (((zup (zup (zup μ 113 9 ((mm_takesOne μ 110).2 113 9)) 113 9 ((mm_takesOne (zup μ 113 9 ((mm_takesOne μ 110).2 113 9)) 118).2 113 9)) 113 9 ((mm_takesOne (zup (zup μ 113 9 ((mm_takesOne μ 110).2 113 9)) 113 9 ((mm_takesOne (zup μ 113 9 ((mm_takesOne μ 110).2 113 9)) 118).2 113 9)) 97).2 113 9)) 113 9))) ≤ (57 : Int)) := mr_isHere (mb_takesOneF (mb_takesOneF (mb_takesOneF hB 110 (by omega)) 118 (by omega)) 97 (by omega)) 48 57 (by omega) (by omega)
          by_cases c9 : (mm_isHere (zup (zup (zup μ 113 9 ((mm_takesOne μ 110).2 113 9)) 113 9 ((mm_takesOne (zup μ 113 9 ((mm_takesOne μ 110).2 113 9)) 118).2 113 9)) 113 9 ((mm_takesOne (zup (zup μ 113 9 ((mm_takesOne μ 110).2 113 9)) 113 9 ((mm_takesOne (zup μ 113 9 ((mm_takesOne μ 110).2 113 9)) 118).2 113 9)) 97).2 113 9)) 48 57) = 0
          · rw [if_pos c9]
            exact (mb_takesOneF (mb_takesOneF (mb_takesOneF hB 110 (by omega)) 118 (by omega)) 97 (by omega))
          · rw [if_neg c9]
            have b10 : 0 ≤ ((zup (zup (zup μ 113 9 ((mm_takesOne μ 110).2 113 9)) 113 9 ((mm_takesOne (zup μ 113 9 ((mm_takesOne μ 110).2 113 9)) 118).2 113 9)) 113 9 ((mm_takesOne (zup (zup μ 113 9 ((mm_takesOne μ 110).2 113 9)) 113 9 ((mm_takesOne (zup μ 113 9 ((mm_takesOne μ 110).2 113 9)) 118).2 113 9)) 97).2 113 9)) 113 9) ∧ ((zup (zup (zup μ 113 9 ((mm_takesOne μ 110).2 113 9)) 113 9 ((mm_takesOne (zup μ 113 9 ((mm_takesOne μ 110).2 113 9)) 118).2 113 9)) 113 9 ((mm_takesOne (zup (zup μ 113 9 ((mm_takesOne μ 110).2 113 9)) 113 9 ((mm_takesOne (zup μ 113 9 ((mm_takesOne μ 110).2 113 9)) 118).2 113 9)) 97).2 113 9)) 113 9) ≤ 60 := (mb_takesOneF (mb_takesOneF (mb_takesOneF hB 110 (by omega)) 118 (by omega)) 97 (by omega)) 113 9
            have b11 : 0 ≤ (μ 119 ((zup (zup (zup μ 113 9 ((mm_takesOne μ 110).2 113 9)) 113 9 ((mm_takesOne (zup μ 113 9 ((mm_takesOne μ 110).2 113 9)) 118).2 113 9)) 113 9 ((mm_takesOne (zup (zup μ 113 9 ((mm_takesOne μ 110).2 113 9)) 113 9 ((mm_takesOne (zup μ 113 9 ((mm_takesOne μ 110).2 113 9)) 118).2 113 9)) 97).2 113 9)) 113 9)) ∧ (μ 119 ((zup (zup (zup μ 113 9 ((mm_takesOne μ 110).2 113 9)) 113 9 ((mm_takesOne (zup μ 113 9 ((mm_takesOne μ 110).2 113 9)) 118).2 113 9)) 113 9 ((mm_takesOne (zup (zup μ 113 9 ((mm_takesOne μ 110).2 113 9)) 113 9 ((mm_takesOne (zup μ 113 9 ((mm_takesOne μ 110).2 113 9)) 118).2 113 9)) 97).2 113 9)) 113 9)) ≤ 65535 := hB 119 ((zup (zup (zup μ 113 9 ((mm_takesOne μ 110).2 113 9)) 113 9 ((mm_takesOne (zup μ 113 9 ((mm_takesOne μ 110).2 113 9)) 118).2 113 9)) 113 9 ((mm_takesOne (zup (zup μ 113 9 ((mm_takesOne μ 110).2 113 9)) 113 9 ((mm_takesOne (zup μ 113 9 ((mm_takesOne μ 110).2 113 9)) 118).2 113 9)) 97).2 113 9)) 113 9)
            have b12 : 0 ≤ ((zup (zup (zup μ 113 9 ((mm_takesOne μ 110).2 113 9)) 113 9 ((mm_takesOne (zup μ 113 9 ((mm_takesOne μ 110).2 113 9)) 118).2 113 9)) 113 9 ((mm_takesOne (zup (zup μ 113 9 ((mm_takesOne μ 110).2 113 9)) 113 9 ((mm_takesOne (zup μ 113 9 ((mm_takesOne μ 110).2 113 9)) 118).2 113 9)) 97).2 113 9)) 113 9) ∧ ((zup (zup (zup μ 113 9 ((mm_takesOne μ 110).2 113 9)) 113 9 ((mm_takesOne (zup μ 113 9 ((mm_takesOne μ 110).2 113 9)) 118).2 113 9)) 113 9 ((mm_takesOne (zup (zup μ 113 9 ((mm_takesOne μ 110).2 113 9)) 113 9 ((mm_takesOne (zup μ 113 9 ((mm_takesOne μ 110).2 113 9)) 118).2 113 9)) 97).2 113 9)) 113 9) ≤ 60 := (mb_takesOneF (mb_takesOneF (mb_takesOneF hB 110 (by omega)) 118 (by omega)) 97 (by omega)) 113 9
            exact (zup_ok (k := 113) (z := 9) (v := (((zup (zup (zup μ 113 9 ((mm_takesOne μ 110).2 113 9)) 113 9 ((mm_takesOne (zup μ 113 9 ((mm_takesOne μ 110).2 113 9)) 118).2 113 9)) 113 9 ((mm_takesOne (zup (zup μ 113 9 ((mm_takesOne μ 110).2 113 9)) 113 9 ((mm_takesOne (zup μ 113 9 ((mm_takesOne μ 110).2 113 9)) 118).2 113 9)) 97).2 113 9)) 113 9) + 1)) (zup_ok (k := 118) (z := (a1 + 3)) (v := (-5)) (zup_ok (k := 118) (z := (a1 + 2)) (v := ((μ 119 ((zup (zup (zup μ 113 9 ((mm_takesOne μ 110).2 113 9)) 113 9 ((mm_takesOne (zup μ 113 9 ((mm_takesOne μ 110).2 113 9)) 118).2 113 9)) 113 9 ((mm_takesOne (zup (zup μ 113 9 ((mm_takesOne μ 110).2 113 9)) 113 9 ((mm_takesOne (zup μ 113 9 ((mm_takesOne μ 110).2 113 9)) 118).2 113 9)) 97).2 113 9)) 113 9)) - 48)) (zup_ok (k := 118) (z := (a1 + 1)) (v := (-5)) (zup_ok (k := 118) (z := (a1 + 0)) (v := 1) (mb_takesOneF (mb_takesOneF (mb_takesOneF hB 110 (by omega)) 118 (by omega)) 97 (by omega)) (zOkD_of (z := (a1 + 0)) (v := 1) ⟨by omega, by omega, by omega, by omega, by omega⟩)) (zOkD_of (z := (a1 + 1)) (v := (-5)) ⟨by omega, by omega, by omega, by omega, by omega⟩)) (zOkD_of (z := (a1 + 2)) (v := ((μ 119 ((zup (zup (zup μ 113 9 ((mm_takesOne μ 110).2 113 9)) 113 9 ((mm_takesOne (zup μ 113 9 ((mm_takesOne μ 110).2 113 9)) 118).2 113 9)) 113 9 ((mm_takesOne (zup (zup μ 113 9 ((mm_takesOne μ 110).2 113 9)) 113 9 ((mm_takesOne (zup μ 113 9 ((mm_takesOne μ 110).2 113 9)) 118).2 113 9)) 97).2 113 9)) 113 9)) - 48)) ⟨by omega, by omega, by omega, by omega, by omega⟩)) (zOkD_of (z := (a1 + 3)) (v := (-5)) ⟨by omega, by omega, by omega, by omega, by omega⟩)) (show 0 ≤ (((zup (zup (zup μ 113 9 ((mm_takesOne μ 110).2 113 9)) 113 9 ((mm_takesOne (zup μ 113 9 ((mm_takesOne μ 110).2 113 9)) 118).2 113 9)) 113 9 ((mm_takesOne (zup (zup μ 113 9 ((mm_takesOne μ 110).2 113 9)) 113 9 ((mm_takesOne (zup μ 113 9 ((mm_takesOne μ 110).2 113 9)) 118).2 113 9)) 97).2 113 9)) 113 9) + 1) ∧ (((zup (zup (zup μ 113 9 ((mm_takesOne μ 110).2 113 9)) 113 9 ((mm_takesOne (zup μ 113 9 ((mm_takesOne μ 110).2 113 9)) 118).2 113 9)) 113 9 ((mm_takesOne (zup (zup μ 113 9 ((mm_takesOne μ 110).2 113 9)) 113 9 ((mm_takesOne (zup μ 113 9 ((mm_takesOne μ 110).2 113 9)) 118).2 113 9)) 97).2 113 9)) 113 9) + 1) ≤ 60 from by omega))
      · rw [if_neg c6]
        by_cases c13 : (2 : Int) = (-5)
        · rw [if_pos c13]
          exact (mb_takesOneF (mb_takesOneF (mb_takesOneF hB 110 (by omega)) 118 (by omega)) 97 (by omega))
        · rw [if_neg c13]
          have r14 : 0 ≤ (mm_isHere (zup (zup (zup μ 113 9 ((mm_takesOne μ 110).2 113 9)) 113 9 ((mm_takesOne (zup μ 113 9 ((mm_takesOne μ 110).2 113 9)) 118).2 113 9)) 113 9 ((mm_takesOne (zup (zup μ 113 9 ((mm_takesOne μ 110).2 113 9)) 113 9 ((mm_takesOne (zup μ 113 9 ((mm_takesOne μ 110).2 113 9)) 118).2 113 9)) 97).2 113 9)) 48 57) ∧ (mm_isHere (zup (zup (zup μ 113 9 ((mm_takesOne μ 110).2 113 9)) 113 9 ((mm_takesOne (zup μ 113 9 ((mm_takesOne μ 110).2 113 9)) 118).2 113 9)) 113 9 ((mm_takesOne (zup (zup μ 113 9 ((mm_takesOne μ 110).2 113 9)) 113 9 ((mm_takesOne (zup μ 113 9 ((mm_takesOne μ 110).2 113 9)) 118).2 113 9)) 97).2 113 9)) 48 57) ≤ 1 ∧ ((mm_isHere (zup (zup (zup μ 113 9 ((mm_takesOne μ 110).2 113 9)) 113 9 ((mm_takesOne (zup μ 113 9 ((mm_takesOne μ 110).2 113 9)) 118).2 113 9)) 113 9 ((mm_takesOne (zup (zup μ 113 9 ((mm_takesOne μ 110).2 113 9)) 113 9 ((mm_takesOne (zup μ 113 9 ((mm_takesOne μ 110).2 113 9)) 118).2 113 9)) 97).2 113 9)) 48 57) = 1 → ((zup (zup (zup μ 113 9 ((mm_takesOne μ 110).2 113 9)) 113 9 ((mm_takesOne (zup μ 113 9 ((mm_takesOne μ 110).2 113 9)) 118).2 113 9)) 113 9 ((mm_takesOne (zup (zup μ 113 9 ((mm_takesOne μ 110).2 113 9)) 113 9 ((mm_takesOne (zup μ 113 9 ((mm_takesOne μ 110).2 113 9)) 118).2 113 9)) 97).2 113 9)) 113 9) < (μ 113 8) ∧ (48 : Int) ≤ (μ 119 (((zup (zup (zup μ 113 9 ((mm_takesOne μ 110).2 113 9)) 113 9 ((mm_takesOne (zup μ 113 9 ((mm_takesOne μ 110).2 113 9)) 118).2 113 9)) 113 9 ((mm_takesOne (zup (zup μ 113 9 ((mm_takesOne μ 110).2 113 9)) 113 9 ((mm_takesOne (zup μ 113 9 ((mm_takesOne μ 110).2 113 9)) 118).2 113 9)) 97).2 113 9)) 113 9))) ∧ (μ 119 (((zup (zup (zup μ 113 9 ((mm_takesOne μ 110).2 113 9)) 113 9 ((mm_takesOne (zup μ 113 9 ((mm_takesOne μ 110).2 113 9)) 118).2 113 9)) 113 9 ((mm_takesOne (zup (zup μ 113 9 ((mm_takesOne μ 110).2 113 9)) 113 9 ((mm_takesOne (zup μ 113 9 ((mm_takesOne μ 110).2 113 9)) 118).2 113 9)) 97).2 113 9)) 113 9))) ≤ (57 : Int)) := mr_isHere (mb_takesOneF (mb_takesOneF (mb_takesOneF hB 110 (by omega)) 118 (by omega)) 97 (by omega)) 48 57 (by omega) (by omega)
          by_cases c15 : (mm_isHere (zup (zup (zup μ 113 9 ((mm_takesOne μ 110).2 113 9)) 113 9 ((mm_takesOne (zup μ 113 9 ((mm_takesOne μ 110).2 113 9)) 118).2 113 9)) 113 9 ((mm_takesOne (zup (zup μ 113 9 ((mm_takesOne μ 110).2 113 9)) 113 9 ((mm_takesOne (zup μ 113 9 ((mm_takesOne μ 110).2 113 9)) 118).2 113 9)) 97).2 113 9)) 48 57) = 0
          · rw [if_pos c15]
            exact (mb_takesOneF (mb_takesOneF (mb_takesOneF hB 110 (by omega)) 118 (by omega)) 97 (by omega))
          · rw [if_neg c15]
            have b16 : 0 ≤ ((zup (zup (zup μ 113 9 ((mm_takesOne μ 110).2 113 9)) 113 9 ((mm_takesOne (zup μ 113 9 ((mm_takesOne μ 110).2 113 9)) 118).2 113 9)) 113 9 ((mm_takesOne (zup (zup μ 113 9 ((mm_takesOne μ 110).2 113 9)) 113 9 ((mm_takesOne (zup μ 113 9 ((mm_takesOne μ 110).2 113 9)) 118).2 113 9)) 97).2 113 9)) 113 9) ∧ ((zup (zup (zup μ 113 9 ((mm_takesOne μ 110).2 113 9)) 113 9 ((mm_takesOne (zup μ 113 9 ((mm_takesOne μ 110).2 113 9)) 118).2 113 9)) 113 9 ((mm_takesOne (zup (zup μ 113 9 ((mm_takesOne μ 110).2 113 9)) 113 9 ((mm_takesOne (zup μ 113 9 ((mm_takesOne μ 110).2 113 9)) 118).2 113 9)) 97).2 113 9)) 113 9) ≤ 60 := (mb_takesOneF (mb_takesOneF (mb_takesOneF hB 110 (by omega)) 118 (by omega)) 97 (by omega)) 113 9
            have b17 : 0 ≤ (μ 119 ((zup (zup (zup μ 113 9 ((mm_takesOne μ 110).2 113 9)) 113 9 ((mm_takesOne (zup μ 113 9 ((mm_takesOne μ 110).2 113 9)) 118).2 113 9)) 113 9 ((mm_takesOne (zup (zup μ 113 9 ((mm_takesOne μ 110).2 113 9)) 113 9 ((mm_takesOne (zup μ 113 9 ((mm_takesOne μ 110).2 113 9)) 118).2 113 9)) 97).2 113 9)) 113 9)) ∧ (μ 119 ((zup (zup (zup μ 113 9 ((mm_takesOne μ 110).2 113 9)) 113 9 ((mm_takesOne (zup μ 113 9 ((mm_takesOne μ 110).2 113 9)) 118).2 113 9)) 113 9 ((mm_takesOne (zup (zup μ 113 9 ((mm_takesOne μ 110).2 113 9)) 113 9 ((mm_takesOne (zup μ 113 9 ((mm_takesOne μ 110).2 113 9)) 118).2 113 9)) 97).2 113 9)) 113 9)) ≤ 65535 := hB 119 ((zup (zup (zup μ 113 9 ((mm_takesOne μ 110).2 113 9)) 113 9 ((mm_takesOne (zup μ 113 9 ((mm_takesOne μ 110).2 113 9)) 118).2 113 9)) 113 9 ((mm_takesOne (zup (zup μ 113 9 ((mm_takesOne μ 110).2 113 9)) 113 9 ((mm_takesOne (zup μ 113 9 ((mm_takesOne μ 110).2 113 9)) 118).2 113 9)) 97).2 113 9)) 113 9)
            have b18 : 0 ≤ ((zup (zup (zup μ 113 9 ((mm_takesOne μ 110).2 113 9)) 113 9 ((mm_takesOne (zup μ 113 9 ((mm_takesOne μ 110).2 113 9)) 118).2 113 9)) 113 9 ((mm_takesOne (zup (zup μ 113 9 ((mm_takesOne μ 110).2 113 9)) 113 9 ((mm_takesOne (zup μ 113 9 ((mm_takesOne μ 110).2 113 9)) 118).2 113 9)) 97).2 113 9)) 113 9) ∧ ((zup (zup (zup μ 113 9 ((mm_takesOne μ 110).2 113 9)) 113 9 ((mm_takesOne (zup μ 113 9 ((mm_takesOne μ 110).2 113 9)) 118).2 113 9)) 113 9 ((mm_takesOne (zup (zup μ 113 9 ((mm_takesOne μ 110).2 113 9)) 113 9 ((mm_takesOne (zup μ 113 9 ((mm_takesOne μ 110).2 113 9)) 118).2 113 9)) 97).2 113 9)) 113 9) ≤ 60 := (mb_takesOneF (mb_takesOneF (mb_takesOneF hB 110 (by omega)) 118 (by omega)) 97 (by omega)) 113 9
            exact (zup_ok (k := 113) (z := 9) (v := (((zup (zup (zup μ 113 9 ((mm_takesOne μ 110).2 113 9)) 113 9 ((mm_takesOne (zup μ 113 9 ((mm_takesOne μ 110).2 113 9)) 118).2 113 9)) 113 9 ((mm_takesOne (zup (zup μ 113 9 ((mm_takesOne μ 110).2 113 9)) 113 9 ((mm_takesOne (zup μ 113 9 ((mm_takesOne μ 110).2 113 9)) 118).2 113 9)) 97).2 113 9)) 113 9) + 1)) (zup_ok (k := 118) (z := (a1 + 3)) (v := (-5)) (zup_ok (k := 118) (z := (a1 + 2)) (v := ((μ 119 ((zup (zup (zup μ 113 9 ((mm_takesOne μ 110).2 113 9)) 113 9 ((mm_takesOne (zup μ 113 9 ((mm_takesOne μ 110).2 113 9)) 118).2 113 9)) 113 9 ((mm_takesOne (zup (zup μ 113 9 ((mm_takesOne μ 110).2 113 9)) 113 9 ((mm_takesOne (zup μ 113 9 ((mm_takesOne μ 110).2 113 9)) 118).2 113 9)) 97).2 113 9)) 113 9)) - 48)) (zup_ok (k := 118) (z := (a1 + 1)) (v := 2) (zup_ok (k := 118) (z := (a1 + 0)) (v := 1) (mb_takesOneF (mb_takesOneF (mb_takesOneF hB 110 (by omega)) 118 (by omega)) 97 (by omega)) (zOkD_of (z := (a1 + 0)) (v := 1) ⟨by omega, by omega, by omega, by omega, by omega⟩)) (zOkD_of (z := (a1 + 1)) (v := 2) ⟨by omega, by omega, by omega, by omega, by omega⟩)) (zOkD_of (z := (a1 + 2)) (v := ((μ 119 ((zup (zup (zup μ 113 9 ((mm_takesOne μ 110).2 113 9)) 113 9 ((mm_takesOne (zup μ 113 9 ((mm_takesOne μ 110).2 113 9)) 118).2 113 9)) 113 9 ((mm_takesOne (zup (zup μ 113 9 ((mm_takesOne μ 110).2 113 9)) 113 9 ((mm_takesOne (zup μ 113 9 ((mm_takesOne μ 110).2 113 9)) 118).2 113 9)) 97).2 113 9)) 113 9)) - 48)) ⟨by omega, by omega, by omega, by omega, by omega⟩)) (zOkD_of (z := (a1 + 3)) (v := (-5)) ⟨by omega, by omega, by omega, by omega, by omega⟩)) (show 0 ≤ (((zup (zup (zup μ 113 9 ((mm_takesOne μ 110).2 113 9)) 113 9 ((mm_takesOne (zup μ 113 9 ((mm_takesOne μ 110).2 113 9)) 118).2 113 9)) 113 9 ((mm_takesOne (zup (zup μ 113 9 ((mm_takesOne μ 110).2 113 9)) 113 9 ((mm_takesOne (zup μ 113 9 ((mm_takesOne μ 110).2 113 9)) 118).2 113 9)) 97).2 113 9)) 113 9) + 1) ∧ (((zup (zup (zup μ 113 9 ((mm_takesOne μ 110).2 113 9)) 113 9 ((mm_takesOne (zup μ 113 9 ((mm_takesOne μ 110).2 113 9)) 118).2 113 9)) 113 9 ((mm_takesOne (zup (zup μ 113 9 ((mm_takesOne μ 110).2 113 9)) 113 9 ((mm_takesOne (zup μ 113 9 ((mm_takesOne μ 110).2 113 9)) 118).2 113 9)) 97).2 113 9)) 113 9) + 1) ≤ 60 from by omega))
    · rw [if_neg c4]
      by_cases c19 : (1 : Int) = (-5)
      · rw [if_pos c19]
        exact (mb_takesOneF (mb_takesOneF hB 110 (by omega)) 118 (by omega))
      · rw [if_neg c19]
        have r20 : 0 ≤ (mm_isHere (zup (zup μ 113 9 ((mm_takesOne μ 110).2 113 9)) 113 9 ((mm_takesOne (zup μ 113 9 ((mm_takesOne μ 110).2 113 9)) 118).2 113 9)) 48 57) ∧ (mm_isHere (zup (zup μ 113 9 ((mm_takesOne μ 110).2 113 9)) 113 9 ((mm_takesOne (zup μ 113 9 ((mm_takesOne μ 110).2 113 9)) 118).2 113 9)) 48 57) ≤ 1 ∧ ((mm_isHere (zup (zup μ 113 9 ((mm_takesOne μ 110).2 113 9)) 113 9 ((mm_takesOne (zup μ 113 9 ((mm_takesOne μ 110).2 113 9)) 118).2 113 9)) 48 57) = 1 → ((zup (zup μ 113 9 ((mm_takesOne μ 110).2 113 9)) 113 9 ((mm_takesOne (zup μ 113 9 ((mm_takesOne μ 110).2 113 9)) 118).2 113 9)) 113 9) < (μ 113 8) ∧ (48 : Int) ≤ (μ 119 (((zup (zup μ 113 9 ((mm_takesOne μ 110).2 113 9)) 113 9 ((mm_takesOne (zup μ 113 9 ((mm_takesOne μ 110).2 113 9)) 118).2 113 9)) 113 9))) ∧ (μ 119 (((zup (zup μ 113 9 ((mm_takesOne μ 110).2 113 9)) 113 9 ((mm_takesOne (zup μ 113 9 ((mm_takesOne μ 110).2 113 9)) 118).2 113 9)) 113 9))) ≤ (57 : Int)) := mr_isHere (mb_takesOneF (mb_takesOneF hB 110 (by omega)) 118 (by omega)) 48 57 (by omega) (by omega)
        by_cases c21 : (mm_isHere (zup (zup μ 113 9 ((mm_takesOne μ 110).2 113 9)) 113 9 ((mm_takesOne (zup μ 113 9 ((mm_takesOne μ 110).2 113 9)) 118).2 113 9)) 48 57) = 0
        · rw [if_pos c21]
          exact (mb_takesOneF (mb_takesOneF hB 110 (by omega)) 118 (by omega))
        · rw [if_neg c21]
          have b22 : 0 ≤ ((zup (zup μ 113 9 ((mm_takesOne μ 110).2 113 9)) 113 9 ((mm_takesOne (zup μ 113 9 ((mm_takesOne μ 110).2 113 9)) 118).2 113 9)) 113 9) ∧ ((zup (zup μ 113 9 ((mm_takesOne μ 110).2 113 9)) 113 9 ((mm_takesOne (zup μ 113 9 ((mm_takesOne μ 110).2 113 9)) 118).2 113 9)) 113 9) ≤ 60 := (mb_takesOneF (mb_takesOneF hB 110 (by omega)) 118 (by omega)) 113 9
          have b23 : 0 ≤ (μ 119 ((zup (zup μ 113 9 ((mm_takesOne μ 110).2 113 9)) 113 9 ((mm_takesOne (zup μ 113 9 ((mm_takesOne μ 110).2 113 9)) 118).2 113 9)) 113 9)) ∧ (μ 119 ((zup (zup μ 113 9 ((mm_takesOne μ 110).2 113 9)) 113 9 ((mm_takesOne (zup μ 113 9 ((mm_takesOne μ 110).2 113 9)) 118).2 113 9)) 113 9)) ≤ 65535 := hB 119 ((zup (zup μ 113 9 ((mm_takesOne μ 110).2 113 9)) 113 9 ((mm_takesOne (zup μ 113 9 ((mm_takesOne μ 110).2 113 9)) 118).2 113 9)) 113 9)
          have b24 : 0 ≤ ((zup (zup μ 113 9 ((mm_takesOne μ 110).2 113 9)) 113 9 ((mm_takesOne (zup μ 113 9 ((mm_takesOne μ 110).2 113 9)) 118).2 113 9)) 113 9) ∧ ((zup (zup μ 113 9 ((mm_takesOne μ 110).2 113 9)) 113 9 ((mm_takesOne (zup μ 113 9 ((mm_takesOne μ 110).2 113 9)) 118).2 113 9)) 113 9) ≤ 60 := (mb_takesOneF (mb_takesOneF hB 110 (by omega)) 118 (by omega)) 113 9
          exact (zup_ok (k := 113) (z := 9) (v := (((zup (zup μ 113 9 ((mm_takesOne μ 110).2 113 9)) 113 9 ((mm_takesOne (zup μ 113 9 ((mm_takesOne μ 110).2 113 9)) 118).2 113 9)) 113 9) + 1)) (zup_ok (k := 118) (z := (a1 + 3)) (v := (-5)) (zup_ok (k := 118) (z := (a1 + 2)) (v := ((μ 119 ((zup (zup μ 113 9 ((mm_takesOne μ 110).2 113 9)) 113 9 ((mm_takesOne (zup μ 113 9 ((mm_takesOne μ 110).2 113 9)) 118).2 113 9)) 113 9)) - 48)) (zup_ok (k := 118) (z := (a1 + 1)) (v := 1) (zup_ok (k := 118) (z := (a1 + 0)) (v := 1) (mb_takesOneF (mb_takesOneF hB 110 (by omega)) 118 (by omega)) (zOkD_of (z := (a1 + 0)) (v := 1) ⟨by omega, by omega, by omega, by omega, by omega⟩)) (zOkD_of (z := (a1 + 1)) (v := 1) ⟨by omega, by omega, by omega, by omega, by omega⟩)) (zOkD_of (z := (a1 + 2)) (v := ((μ 119 ((zup (zup μ 113 9 ((mm_takesOne μ 110).2 113 9)) 113 9 ((mm_takesOne (zup μ 113 9 ((mm_takesOne μ 110).2 113 9)) 118).2 113 9)) 113 9)) - 48)) ⟨by omega, by omega, by omega, by omega, by omega⟩)) (zOkD_of (z := (a1 + 3)) (v := (-5)) ⟨by omega, by omega, by omega, by omega, by omega⟩)) (show 0 ≤ (((zup (zup μ 113 9 ((mm_takesOne μ 110).2 113 9)) 113 9 ((mm_takesOne (zup μ 113 9 ((mm_takesOne μ 110).2 113 9)) 118).2 113 9)) 113 9) + 1) ∧ (((zup (zup μ 113 9 ((mm_takesOne μ 110).2 113 9)) 113 9 ((mm_takesOne (zup μ 113 9 ((mm_takesOne μ 110).2 113 9)) 118).2 113 9)) 113 9) + 1) ≤ 60 from by omega))
  · rw [if_neg c2]
    by_cases c25 : (0 : Int) = (-5)
    · rw [if_pos c25]
      exact (mb_takesOneF hB 110 (by omega))
    · rw [if_neg c25]
      have r26 : 0 ≤ (mm_isHere (zup μ 113 9 ((mm_takesOne μ 110).2 113 9)) 48 57) ∧ (mm_isHere (zup μ 113 9 ((mm_takesOne μ 110).2 113 9)) 48 57) ≤ 1 ∧ ((mm_isHere (zup μ 113 9 ((mm_takesOne μ 110).2 113 9)) 48 57) = 1 → ((zup μ 113 9 ((mm_takesOne μ 110).2 113 9)) 113 9) < (μ 113 8) ∧ (48 : Int) ≤ (μ 119 (((zup μ 113 9 ((mm_takesOne μ 110).2 113 9)) 113 9))) ∧ (μ 119 (((zup μ 113 9 ((mm_takesOne μ 110).2 113 9)) 113 9))) ≤ (57 : Int)) := mr_isHere (mb_takesOneF hB 110 (by omega)) 48 57 (by omega) (by omega)
      by_cases c27 : (mm_isHere (zup μ 113 9 ((mm_takesOne μ 110).2 113 9)) 48 57) = 0
      · rw [if_pos c27]
        exact (mb_takesOneF hB 110 (by omega))
      · rw [if_neg c27]
        have b28 : 0 ≤ ((zup μ 113 9 ((mm_takesOne μ 110).2 113 9)) 113 9) ∧ ((zup μ 113 9 ((mm_takesOne μ 110).2 113 9)) 113 9) ≤ 60 := (mb_takesOneF hB 110 (by omega)) 113 9
        have b29 : 0 ≤ (μ 119 ((zup μ 113 9 ((mm_takesOne μ 110).2 113 9)) 113 9)) ∧ (μ 119 ((zup μ 113 9 ((mm_takesOne μ 110).2 113 9)) 113 9)) ≤ 65535 := hB 119 ((zup μ 113 9 ((mm_takesOne μ 110).2 113 9)) 113 9)
        have b30 : 0 ≤ ((zup μ 113 9 ((mm_takesOne μ 110).2 113 9)) 113 9) ∧ ((zup μ 113 9 ((mm_takesOne μ 110).2 113 9)) 113 9) ≤ 60 := (mb_takesOneF hB 110 (by omega)) 113 9
        exact (zup_ok (k := 113) (z := 9) (v := (((zup μ 113 9 ((mm_takesOne μ 110).2 113 9)) 113 9) + 1)) (zup_ok (k := 118) (z := (a1 + 3)) (v := (-5)) (zup_ok (k := 118) (z := (a1 + 2)) (v := ((μ 119 ((zup μ 113 9 ((mm_takesOne μ 110).2 113 9)) 113 9)) - 48)) (zup_ok (k := 118) (z := (a1 + 1)) (v := 0) (zup_ok (k := 118) (z := (a1 + 0)) (v := 1) (mb_takesOneF hB 110 (by omega)) (zOkD_of (z := (a1 + 0)) (v := 1) ⟨by omega, by omega, by omega, by omega, by omega⟩)) (zOkD_of (z := (a1 + 1)) (v := 0) ⟨by omega, by omega, by omega, by omega, by omega⟩)) (zOkD_of (z := (a1 + 2)) (v := ((μ 119 ((zup μ 113 9 ((mm_takesOne μ 110).2 113 9)) 113 9)) - 48)) ⟨by omega, by omega, by omega, by omega, by omega⟩)) (zOkD_of (z := (a1 + 3)) (v := (-5)) ⟨by omega, by omega, by omega, by omega, by omega⟩)) (show 0 ≤ (((zup μ 113 9 ((mm_takesOne μ 110).2 113 9)) 113 9) + 1) ∧ (((zup μ 113 9 ((mm_takesOne μ 110).2 113 9)) 113 9) + 1) ≤ 60 from by omega))
set_option maxHeartbeats 4000000 in
set_option maxRecDepth 100000 in
theorem mz_readsHole {μ : zM} (hB : zB μ) (a1 : Int) (h0 : 0 ≤ a1 ∧ a1 ≤ 266 ∧ a1 % 14 = 0) : Dz md_6_readsHole [zr 113, zi a1] zSh μ (some (zi (mm_readsHole μ a1).1)) zSh (mm_readsHole μ a1).2 := by
  refine Dz.of (by decide) rfl rfl (show Ez md_6_readsHole 0 0 0 [(0, zr 113), (1, zi a1)] [] zSh μ (some (zi (mm_readsHole μ a1).1)) zSh (mm_readsHole μ a1).2 from ?_)
  unfold mm_readsHole
  have e8 : 0 ≤ (μ 113 8) ∧ (μ 113 8) ≤ 60 := hB 113 8
  refine Az.blk kd_6_readsHole_0 (show Ez md_6_readsHole 0 0 3 [(0, zr 113), (1, zi a1)] [zi 110, zr 113] zSh μ _ _ _ from ?_)
  refine Az.cV (mc := md_6_takesOne) (k := 113) (n := 1) (As := [zi 110]) (rest := []) kr_6_readsHole_3 zw_666 ok_6_takesOne rfl rfl rfl trivial (mz_takesOneF hB 110 (by omega)) rfl rfl (show Ez md_6_readsHole 0 0 6 [(0, zr 113), (1, zi a1)] [zi (mm_takesOne μ 110).1] zSh (zup μ 113 9 ((mm_takesOne μ 110).2 113 9)) _ _ _ from ?_)
  have r1 : 0 ≤ (mm_takesOne μ 110).1 ∧ (mm_takesOne μ 110).1 ≤ 1 := mr_takesOne hB 110 (by omega)
  refine Az.blk kd_6_readsHole_6 (show zR (mm_takesOne μ 110).1 ∧ (((mm_takesOne μ 110).1 = 0 → Ez md_6_readsHole 0 0 13 [(0, zr 113), (1, zi a1)] [] zSh (zup μ 113 9 ((mm_takesOne μ 110).2 113 9)) _ _ _) ∧ (¬ (mm_takesOne μ 110).1 = 0 → Ez md_6_readsHole 0 0 9 [(0, zr 113), (1, zi a1)] [] zSh (zup μ 113 9 ((mm_takesOne μ 110).2 113 9)) _ _ _)) from ⟨(by omega), fun c2 => ?_, fun c2 => ?_⟩)
  · rw [if_pos c2]
    refine Az.blk kd_6_readsHole_13 (show Ez md_6_readsHole 0 0 16 [(0, zr 113), (1, zi a1)] [zi 118, zr 113] zSh (zup μ 113 9 ((mm_takesOne μ 110).2 113 9)) _ _ _ from ?_)
    refine Az.cV (mc := md_6_takesOne) (k := 113) (n := 1) (As := [zi 118]) (rest := []) kr_6_readsHole_16 zw_666 ok_6_takesOne rfl rfl rfl trivial (mz_takesOneF (mb_takesOneF hB 110 (by omega)) 118 (by omega)) rfl rfl (show Ez md_6_readsHole 0 0 19 [(0, zr 113), (1, zi a1)] [zi (mm_takesOne (zup μ 113 9 ((mm_takesOne μ 110).2 113 9)) 118).1] zSh (zup (zup μ 113 9 ((mm_takesOne μ 110).2 113 9)) 113 9 ((mm_takesOne (zup μ 113 9 ((mm_takesOne μ 110).2 113 9)) 118).2 113 9)) _ _ _ from ?_)
    have r3 : 0 ≤ (mm_takesOne (zup μ 113 9 ((mm_takesOne μ 110).2 113 9)) 118).1 ∧ (mm_takesOne (zup μ 113 9 ((mm_takesOne μ 110).2 113 9)) 118).1 ≤ 1 := mr_takesOne (mb_takesOneF hB 110 (by omega)) 118 (by omega)
    refine Az.blk kd_6_readsHole_19 (show zR (mm_takesOne (zup μ 113 9 ((mm_takesOne μ 110).2 113 9)) 118).1 ∧ (((mm_takesOne (zup μ 113 9 ((mm_takesOne μ 110).2 113 9)) 118).1 = 0 → Ez md_6_readsHole 0 0 26 [(0, zr 113), (1, zi a1)] [] zSh (zup (zup μ 113 9 ((mm_takesOne μ 110).2 113 9)) 113 9 ((mm_takesOne (zup μ 113 9 ((mm_takesOne μ 110).2 113 9)) 118).2 113 9)) _ _ _) ∧ (¬ (mm_takesOne (zup μ 113 9 ((mm_takesOne μ 110).2 113 9)) 118).1 = 0 → Ez md_6_readsHole 0 0 22 [(0, zr 113), (1, zi a1)] [] zSh (zup (zup μ 113 9 ((mm_takesOne μ 110).2 113 9)) 113 9 ((mm_takesOne (zup μ 113 9 ((mm_takesOne μ 110).2 113 9)) 118).2 113 9)) _ _ _)) from ⟨(by omega), fun c4 => ?_, fun c4 => ?_⟩)
    · rw [if_pos c4]
      refine Az.blk kd_6_readsHole_26 (show Ez md_6_readsHole 0 0 29 [(0, zr 113), (1, zi a1)] [zi 97, zr 113] zSh (zup (zup μ 113 9 ((mm_takesOne μ 110).2 113 9)) 113 9 ((mm_takesOne (zup μ 113 9 ((mm_takesOne μ 110).2 113 9)) 118).2 113 9)) _ _ _ from ?_)
      refine Az.cV (mc := md_6_takesOne) (k := 113) (n := 1) (As := [zi 97]) (rest := []) kr_6_readsHole_29 zw_666 ok_6_takesOne rfl rfl rfl trivial (mz_takesOneF (mb_takesOneF (mb_takesOneF hB 110 (by omega)) 118 (by omega)) 97 (by omega)) rfl rfl (show Ez md_6_readsHole 0 0 32 [(0, zr 113), (1, zi a1)] [zi (mm_takesOne (zup (zup μ 113 9 ((mm_takesOne μ 110).2 113 9)) 113 9 ((mm_takesOne (zup μ 113 9 ((mm_takesOne μ 110).2 113 9)) 118).2 113 9)) 97).1] zSh (zup (zup (zup μ 113 9 ((mm_takesOne μ 110).2 113 9)) 113 9 ((mm_takesOne (zup μ 113 9 ((mm_takesOne μ 110).2 113 9)) 118).2 113 9)) 113 9 ((mm_takesOne (zup (zup μ 113 9 ((mm_takesOne μ 110).2 113 9)) 113 9 ((mm_takesOne (zup μ 113 9 ((mm_takesOne μ 110).2 113 9)) 118).2 113 9)) 97).2 113 9)) _ _ _ from ?_)
      have r5 : 0 ≤ (mm_takesOne (zup (zup μ 113 9 ((mm_takesOne μ 110).2 113 9)) 113 9 ((mm_takesOne (zup μ 113 9 ((mm_takesOne μ 110).2 113 9)) 118).2 113 9)) 97).1 ∧ (mm_takesOne (zup (zup μ 113 9 ((mm_takesOne μ 110).2 113 9)) 113 9 ((mm_takesOne (zup μ 113 9 ((mm_takesOne μ 110).2 113 9)) 118).2 113 9)) 97).1 ≤ 1 := mr_takesOne (mb_takesOneF (mb_takesOneF hB 110 (by omega)) 118 (by omega)) 97 (by omega)
      refine Az.blk kd_6_readsHole_32 (show zR (mm_takesOne (zup (zup μ 113 9 ((mm_takesOne μ 110).2 113 9)) 113 9 ((mm_takesOne (zup μ 113 9 ((mm_takesOne μ 110).2 113 9)) 118).2 113 9)) 97).1 ∧ (((mm_takesOne (zup (zup μ 113 9 ((mm_takesOne μ 110).2 113 9)) 113 9 ((mm_takesOne (zup μ 113 9 ((mm_takesOne μ 110).2 113 9)) 118).2 113 9)) 97).1 = 0 → Ez md_6_readsHole 0 0 39 [(0, zr 113), (1, zi a1)] [] zSh (zup (zup (zup μ 113 9 ((mm_takesOne μ 110).2 113 9)) 113 9 ((mm_takesOne (zup μ 113 9 ((mm_takesOne μ 110).2 113 9)) 118).2 113 9)) 113 9 ((mm_takesOne (zup (zup μ 113 9 ((mm_takesOne μ 110).2 113 9)) 113 9 ((mm_takesOne (zup μ 113 9 ((mm_takesOne μ 110).2 113 9)) 118).2 113 9)) 97).2 113 9)) _ _ _) ∧ (¬ (mm_takesOne (zup (zup μ 113 9 ((mm_takesOne μ 110).2 113 9)) 113 9 ((mm_takesOne (zup μ 113 9 ((mm_takesOne μ 110).2 113 9)) 118).2 113 9)) 97).1 = 0 → Ez md_6_readsHole 0 0 35 [(0, zr 113), (1, zi a1)] [] zSh (zup (zup (zup μ 113 9 ((mm_takesOne μ 110).2 113 9)) 113 9 ((mm_takesOne (zup μ 113 9 ((mm_takesOne μ 110).2 113 9)) 118).2 113 9)) 113 9 ((mm_takesOne (zup (zup μ 113 9 ((mm_takesOne μ 110).2 113 9)) 113 9 ((mm_takesOne (zup μ 113 9 ((mm_takesOne μ 110).2 113 9)) 118).2 113 9)) 97).2 113 9)) _ _ _)) from ⟨(by omega), fun c6 => ?_, fun c6 => ?_⟩)
      · rw [if_pos c6]
        refine Az.blk kd_6_readsHole_39 (show zR (-5) ∧ zR (-5) ∧ ((((-5) : Int) = (-5) → Ez md_6_readsHole 0 0 59 [(2, zi (-5)), (0, zr 113), (1, zi a1)] [] zSh (zup (zup (zup μ 113 9 ((mm_takesOne μ 110).2 113 9)) 113 9 ((mm_takesOne (zup μ 113 9 ((mm_takesOne μ 110).2 113 9)) 118).2 113 9)) 113 9 ((mm_takesOne (zup (zup μ 113 9 ((mm_takesOne μ 110).2 113 9)) 113 9 ((mm_takesOne (zup μ 113 9 ((mm_takesOne μ 110).2 113 9)) 118).2 113 9)) 97).2 113 9)) _ _ _) ∧ (¬ ((-5) : Int) = (-5) → Ez md_6_readsHole 0 0 48 [(2, zi (-5)), (0, zr 113), (1, zi a1)] [] zSh (zup (zup (zup μ 113 9 ((mm_takesOne μ 110).2 113 9)) 113 9 ((mm_takesOne (zup μ 113 9 ((mm_takesOne μ 110).2 113 9)) 118).2 113 9)) 113 9 ((mm_takesOne (zup (zup μ 113 9 ((mm_takesOne μ 110).2 113 9)) 113 9 ((mm_takesOne (zup μ 113 9 ((mm_takesOne μ 110).2 113 9)) 118).2 113 9)) 97).2 113 9)) _ _ _)) from ⟨(by omega), (by omega), fun c7 => ?_, fun c7 => ?_⟩)
        · rw [if_pos c7]
          refine Az.blk kd_6_readsHole_59 (show Ez md_6_readsHole 0 0 60 [(2, zi (-5)), (0, zr 113), (1, zi a1)] [zi 0] zSh (zup (zup (zup μ 113 9 ((mm_takesOne μ 110).2 113 9)) 113 9 ((mm_takesOne (zup μ 113 9 ((mm_takesOne μ 110).2 113 9)) 118).2 113 9)) 113 9 ((mm_takesOne (zup (zup μ 113 9 ((mm_takesOne μ 110).2 113 9)) 113 9 ((mm_takesOne (zup μ 113 9 ((mm_takesOne μ 110).2 113 9)) 118).2 113 9)) 97).2 113 9)) _ _ _ from ?_)
          exact Ez.zret kr_6_readsHole_60 rfl (Nat.zero_le _) (Nat.zero_le _) (Or.inl rfl) rfl rfl
        · rw [if_neg c7]
          refine Az.blk kd_6_readsHole_48 (show Ez md_6_readsHole 0 0 53 [(2, zi (-5)), (0, zr 113), (1, zi a1)] [zi 57, zi 48, zr 113] zSh (zup (zup (zup μ 113 9 ((mm_takesOne μ 110).2 113 9)) 113 9 ((mm_takesOne (zup μ 113 9 ((mm_takesOne μ 110).2 113 9)) 118).2 113 9)) 113 9 ((mm_takesOne (zup (zup μ 113 9 ((mm_takesOne μ 110).2 113 9)) 113 9 ((mm_takesOne (zup μ 113 9 ((mm_takesOne μ 110).2 113 9)) 118).2 113 9)) 97).2 113 9)) _ _ _ from ?_)
          refine Az.cV (mc := md_6_isHere) (k := 113) (n := 2) (As := [zi 48, zi 57]) (rest := []) kr_6_readsHole_53 zw_633 ok_6_isHere rfl rfl rfl trivial (mz_isHere (mb_takesOneF (mb_takesOneF (mb_takesOneF hB 110 (by omega)) 118 (by omega)) 97 (by omega)) 48 57 (by omega) (by omega)) rfl rfl (show Ez md_6_readsHole 0 0 56 [(2, zi (-5)), (0, zr 113), (1, zi a1)] [zi (mm_isHere (zup (zup (zup μ 113 9 ((mm_takesOne μ 110).2 113 9)) 113 9 ((mm_takesOne (zup μ 113 9 ((mm_takesOne μ 110).2 113 9)) 118).2 113 9)) 113 9 ((mm_takesOne (zup (zup μ 113 9 ((mm_takesOne μ 110).2 113 9)) 113 9 ((mm_takesOne (zup μ 113 9 ((mm_takesOne μ 110).2 113 9)) 118).2 113 9)) 97).2 113 9)) 48 57)] zSh (zup (zup (zup μ 113 9 ((mm_takesOne μ 110).2 113 9)) 113 9 ((mm_takesOne (zup μ 113 9 ((mm_takesOne μ 110).2 113 9)) 118).2 113 9)) 113 9 ((mm_takesOne (zup (zup μ 113 9 ((mm_takesOne μ 110).2 113 9)) 113 9 ((mm_takesOne (zup μ 113 9 ((mm_takesOne μ 110).2 113 9)) 118).2 113 9)) 97).2 113 9)) _ _ _ from ?_)
          have r8 : 0 ≤ (mm_isHere (zup (zup (zup μ 113 9 ((mm_takesOne μ 110).2 113 9)) 113 9 ((mm_takesOne (zup μ 113 9 ((mm_takesOne μ 110).2 113 9)) 118).2 113 9)) 113 9 ((mm_takesOne (zup (zup μ 113 9 ((mm_takesOne μ 110).2 113 9)) 113 9 ((mm_takesOne (zup μ 113 9 ((mm_takesOne μ 110).2 113 9)) 118).2 113 9)) 97).2 113 9)) 48 57) ∧ (mm_isHere (zup (zup (zup μ 113 9 ((mm_takesOne μ 110).2 113 9)) 113 9 ((mm_takesOne (zup μ 113 9 ((mm_takesOne μ 110).2 113 9)) 118).2 113 9)) 113 9 ((mm_takesOne (zup (zup μ 113 9 ((mm_takesOne μ 110).2 113 9)) 113 9 ((mm_takesOne (zup μ 113 9 ((mm_takesOne μ 110).2 113 9)) 118).2 113 9)) 97).2 113 9)) 48 57) ≤ 1 ∧ ((mm_isHere (zup (zup (zup μ 113 9 ((mm_takesOne μ 110).2 113 9)) 113 9 ((mm_takesOne (zup μ 113 9 ((mm_takesOne μ 110).2 113 9)) 118).2 113 9)) 113 9 ((mm_takesOne (zup (zup μ 113 9 ((mm_takesOne μ 110).2 113 9)) 113 9 ((mm_takesOne (zup μ 113 9 ((mm_takesOne μ 110).2 113 9)) 118).2 113 9)) 97).2 113 9)) 48 57) = 1 → ((zup (zup (zup μ 113 9 ((mm_takesOne μ 110).2 113 9)) 113 9 ((mm_takesOne (zup μ 113 9 ((mm_takesOne μ 110).2 113 9)) 118).2 113 9)) 113 9 ((mm_takesOne (zup (zup μ 113 9 ((mm_takesOne μ 110).2 113 9)) 113 9 ((mm_takesOne (zup μ 113 9 ((mm_takesOne μ 110).2 113 9)) 118).2 113 9)) 97).2 113 9)) 113 9) < (μ 113 8) ∧ (48 : Int) ≤ (μ 119 (((zup (zup (zup μ 113 9 ((mm_takesOne μ 110).2 113 9)) 113 9 ((mm_takesOne (zup μ 113 9 ((mm_takesOne μ 110).2 113 9)) 118).2 113 9)) 113 9 ((mm_takesOne (zup (zup μ 113 9 ((mm_takesOne μ 110).2 113 9)) 113 9 ((mm_takesOne (zup μ 113 9 ((mm_takesOne μ 110).2 113 9)) 118).2 113 9)) 97).2 113 9)) 113 9))) ∧ (μ 119 (((zup (zup (zup μ 113 9 ((mm_takesOne μ 110).2 113 9)) 113 9 ((mm_takesOne (zup μ 113 9 ((mm_takesOne μ 110).2 113 9)) 118).2 113 9)) 113 9 ((mm_takesOne (zup (zup μ 113 9 ((mm_takesOne μ 110).2 113 9)) 113 9 ((mm_takesOne (zup μ 113 9 ((mm_takesOne μ 110).2 113 9)) 118).2 113 9)) 97).2 113 9)) 113 9))) ≤ (57 : Int)) := mr_isHere (mb_takesOneF (mb_takesOneF (mb_takesOneF hB 110 (by omega)) 118 (by omega)) 97 (by omega)) 48 57 (by omega) (by omega)
          refine Az.blk kd_6_readsHole_56 (show zR (mm_isHere (zup (zup (zup μ 113 9 ((mm_takesOne μ 110).2 113 9)) 113 9 ((mm_takesOne (zup μ 113 9 ((mm_takesOne μ 110).2 113 9)) 118).2 113 9)) 113 9 ((mm_takesOne (zup (zup μ 113 9 ((mm_takesOne μ 110).2 113 9)) 113 9 ((mm_takesOne (zup μ 113 9 ((mm_takesOne μ 110).2 113 9)) 118).2 113 9)) 97).2 113 9)) 48 57) ∧ ((¬ (mm_isHere (zup (zup (zup μ 113 9 ((mm_takesOne μ 110).2 113 9)) 113 9 ((mm_takesOne (zup μ 113 9 ((mm_takesOne μ 110).2 113 9)) 118).2 113 9)) 113 9 ((mm_takesOne (zup (zup μ 113 9 ((mm_takesOne μ 110).2 113 9)) 113 9 ((mm_takesOne (zup μ 113 9 ((mm_takesOne μ 110).2 113 9)) 118).2 113 9)) 97).2 113 9)) 48 57) = 0 → Ez md_6_readsHole 0 0 61 [(2, zi (-5)), (0, zr 113), (1, zi a1)] [] zSh (zup (zup (zup μ 113 9 ((mm_takesOne μ 110).2 113 9)) 113 9 ((mm_takesOne (zup μ 113 9 ((mm_takesOne μ 110).2 113 9)) 118).2 113 9)) 113 9 ((mm_takesOne (zup (zup μ 113 9 ((mm_takesOne μ 110).2 113 9)) 113 9 ((mm_takesOne (zup μ 113 9 ((mm_takesOne μ 110).2 113 9)) 118).2 113 9)) 97).2 113 9)) _ _ _) ∧ ((mm_isHere (zup (zup (zup μ 113 9 ((mm_takesOne μ 110).2 113 9)) 113 9 ((mm_takesOne (zup μ 113 9 ((mm_takesOne μ 110).2 113 9)) 118).2 113 9)) 113 9 ((mm_takesOne (zup (zup μ 113 9 ((mm_takesOne μ 110).2 113 9)) 113 9 ((mm_takesOne (zup μ 113 9 ((mm_takesOne μ 110).2 113 9)) 118).2 113 9)) 97).2 113 9)) 48 57) = 0 → Ez md_6_readsHole 0 0 59 [(2, zi (-5)), (0, zr 113), (1, zi a1)] [] zSh (zup (zup (zup μ 113 9 ((mm_takesOne μ 110).2 113 9)) 113 9 ((mm_takesOne (zup μ 113 9 ((mm_takesOne μ 110).2 113 9)) 118).2 113 9)) 113 9 ((mm_takesOne (zup (zup μ 113 9 ((mm_takesOne μ 110).2 113 9)) 113 9 ((mm_takesOne (zup μ 113 9 ((mm_takesOne μ 110).2 113 9)) 118).2 113 9)) 97).2 113 9)) _ _ _)) from ⟨(by omega), fun c9 => ?_, fun c9 => ?_⟩)
          · rw [if_neg c9]
            have b10 : 0 ≤ ((zup (zup (zup μ 113 9 ((mm_takesOne μ 110).2 113 9)) 113 9 ((mm_takesOne (zup μ 113 9 ((mm_takesOne μ 110).2 113 9)) 118).2 113 9)) 113 9 ((mm_takesOne (zup (zup μ 113 9 ((mm_takesOne μ 110).2 113 9)) 113 9 ((mm_takesOne (zup μ 113 9 ((mm_takesOne μ 110).2 113 9)) 118).2 113 9)) 97).2 113 9)) 113 9) ∧ ((zup (zup (zup μ 113 9 ((mm_takesOne μ 110).2 113 9)) 113 9 ((mm_takesOne (zup μ 113 9 ((mm_takesOne μ 110).2 113 9)) 118).2 113 9)) 113 9 ((mm_takesOne (zup (zup μ 113 9 ((mm_takesOne μ 110).2 113 9)) 113 9 ((mm_takesOne (zup μ 113 9 ((mm_takesOne μ 110).2 113 9)) 118).2 113 9)) 97).2 113 9)) 113 9) ≤ 60 := (mb_takesOneF (mb_takesOneF (mb_takesOneF hB 110 (by omega)) 118 (by omega)) 97 (by omega)) 113 9
            have b11 : 0 ≤ (μ 119 ((zup (zup (zup μ 113 9 ((mm_takesOne μ 110).2 113 9)) 113 9 ((mm_takesOne (zup μ 113 9 ((mm_takesOne μ 110).2 113 9)) 118).2 113 9)) 113 9 ((mm_takesOne (zup (zup μ 113 9 ((mm_takesOne μ 110).2 113 9)) 113 9 ((mm_takesOne (zup μ 113 9 ((mm_takesOne μ 110).2 113 9)) 118).2 113 9)) 97).2 113 9)) 113 9)) ∧ (μ 119 ((zup (zup (zup μ 113 9 ((mm_takesOne μ 110).2 113 9)) 113 9 ((mm_takesOne (zup μ 113 9 ((mm_takesOne μ 110).2 113 9)) 118).2 113 9)) 113 9 ((mm_takesOne (zup (zup μ 113 9 ((mm_takesOne μ 110).2 113 9)) 113 9 ((mm_takesOne (zup μ 113 9 ((mm_takesOne μ 110).2 113 9)) 118).2 113 9)) 97).2 113 9)) 113 9)) ≤ 65535 := hB 119 ((zup (zup (zup μ 113 9 ((mm_takesOne μ 110).2 113 9)) 113 9 ((mm_takesOne (zup μ 113 9 ((mm_takesOne μ 110).2 113 9)) 118).2 113 9)) 113 9 ((mm_takesOne (zup (zup μ 113 9 ((mm_takesOne μ 110).2 113 9)) 113 9 ((mm_takesOne (zup μ 113 9 ((mm_takesOne μ 110).2 113 9)) 118).2 113 9)) 97).2 113 9)) 113 9)
            have b12 : 0 ≤ ((zup (zup (zup μ 113 9 ((mm_takesOne μ 110).2 113 9)) 113 9 ((mm_takesOne (zup μ 113 9 ((mm_takesOne μ 110).2 113 9)) 118).2 113 9)) 113 9 ((mm_takesOne (zup (zup μ 113 9 ((mm_takesOne μ 110).2 113 9)) 113 9 ((mm_takesOne (zup μ 113 9 ((mm_takesOne μ 110).2 113 9)) 118).2 113 9)) 97).2 113 9)) 113 9) ∧ ((zup (zup (zup μ 113 9 ((mm_takesOne μ 110).2 113 9)) 113 9 ((mm_takesOne (zup μ 113 9 ((mm_takesOne μ 110).2 113 9)) 118).2 113 9)) 113 9 ((mm_takesOne (zup (zup μ 113 9 ((mm_takesOne μ 110).2 113 9)) 113 9 ((mm_takesOne (zup μ 113 9 ((mm_takesOne μ 110).2 113 9)) 118).2 113 9)) 97).2 113 9)) 113 9) ≤ 60 := (mb_takesOneF (mb_takesOneF (mb_takesOneF hB 110 (by omega)) 118 (by omega)) 97 (by omega)) 113 9
            refine Az.blk kd_6_readsHole_61 (show (0 ≤ (a1 + 0) ∧ (a1 + 0) < 280) ∧ (0 ≤ (a1 + 1) ∧ (a1 + 1) < 280) ∧ (0 ≤ ((zup (zup (zup μ 113 9 ((mm_takesOne μ 110).2 113 9)) 113 9 ((mm_takesOne (zup μ 113 9 ((mm_takesOne μ 110).2 113 9)) 118).2 113 9)) 113 9 ((mm_takesOne (zup (zup μ 113 9 ((mm_takesOne μ 110).2 113 9)) 113 9 ((mm_takesOne (zup μ 113 9 ((mm_takesOne μ 110).2 113 9)) 118).2 113 9)) 97).2 113 9)) 113 9) ∧ ((zup (zup (zup μ 113 9 ((mm_takesOne μ 110).2 113 9)) 113 9 ((mm_takesOne (zup μ 113 9 ((mm_takesOne μ 110).2 113 9)) 118).2 113 9)) 113 9 ((mm_takesOne (zup (zup μ 113 9 ((mm_takesOne μ 110).2 113 9)) 113 9 ((mm_takesOne (zup μ 113 9 ((mm_takesOne μ 110).2 113 9)) 118).2 113 9)) 97).2 113 9)) 113 9) < 60) ∧ (0 ≤ (a1 + 2) ∧ (a1 + 2) < 280) ∧ (0 ≤ (a1 + 3) ∧ (a1 + 3) < 280) ∧ Ez md_6_readsHole 0 0 120 [(2, zi (-5)), (0, zr 113), (1, zi a1)] [zi 1] zSh (zup (zup (zup (zup (zup (zup (zup (zup μ 113 9 ((mm_takesOne μ 110).2 113 9)) 113 9 ((mm_takesOne (zup μ 113 9 ((mm_takesOne μ 110).2 113 9)) 118).2 113 9)) 113 9 ((mm_takesOne (zup (zup μ 113 9 ((mm_takesOne μ 110).2 113 9)) 113 9 ((mm_takesOne (zup μ 113 9 ((mm_takesOne μ 110).2 113 9)) 118).2 113 9)) 97).2 113 9)) 118 (a1 + 0) 1) 118 (a1 + 1) (-5)) 118 (a1 + 2) ((μ 119 ((zup (zup (zup μ 113 9 ((mm_takesOne μ 110).2 113 9)) 113 9 ((mm_takesOne (zup μ 113 9 ((mm_takesOne μ 110).2 113 9)) 118).2 113 9)) 113 9 ((mm_takesOne (zup (zup μ 113 9 ((mm_takesOne μ 110).2 113 9)) 113 9 ((mm_takesOne (zup μ 113 9 ((mm_takesOne μ 110).2 113 9)) 118).2 113 9)) 97).2 113 9)) 113 9)) - 48)) 118 (a1 + 3) (-5)) 113 9 (((zup (zup (zup μ 113 9 ((mm_takesOne μ 110).2 113 9)) 113 9 ((mm_takesOne (zup μ 113 9 ((mm_takesOne μ 110).2 113 9)) 118).2 113 9)) 113 9 ((mm_takesOne (zup (zup μ 113 9 ((mm_takesOne μ 110).2 113 9)) 113 9 ((mm_takesOne (zup μ 113 9 ((mm_takesOne μ 110).2 113 9)) 118).2 113 9)) 97).2 113 9)) 113 9) + 1)) _ _ _ from ⟨(by omega), (by omega), (by omega), (by omega), (by omega), ?_⟩)
            exact Ez.zret kr_6_readsHole_120 rfl (Nat.zero_le _) (Nat.zero_le _) (Or.inr rfl) rfl rfl
          · rw [if_pos c9]
            refine Az.blk kd_6_readsHole_59 (show Ez md_6_readsHole 0 0 60 [(2, zi (-5)), (0, zr 113), (1, zi a1)] [zi 0] zSh (zup (zup (zup μ 113 9 ((mm_takesOne μ 110).2 113 9)) 113 9 ((mm_takesOne (zup μ 113 9 ((mm_takesOne μ 110).2 113 9)) 118).2 113 9)) 113 9 ((mm_takesOne (zup (zup μ 113 9 ((mm_takesOne μ 110).2 113 9)) 113 9 ((mm_takesOne (zup μ 113 9 ((mm_takesOne μ 110).2 113 9)) 118).2 113 9)) 97).2 113 9)) _ _ _ from ?_)
            exact Ez.zret kr_6_readsHole_60 rfl (Nat.zero_le _) (Nat.zero_le _) (Or.inl rfl) rfl rfl
      · rw [if_neg c6]
        refine Az.blk kd_6_readsHole_35 (show Ez md_6_readsHole 0 0 41 [(0, zr 113), (1, zi a1)] [zi 2] zSh (zup (zup (zup μ 113 9 ((mm_takesOne μ 110).2 113 9)) 113 9 ((mm_takesOne (zup μ 113 9 ((mm_takesOne μ 110).2 113 9)) 118).2 113 9)) 113 9 ((mm_takesOne (zup (zup μ 113 9 ((mm_takesOne μ 110).2 113 9)) 113 9 ((mm_takesOne (zup μ 113 9 ((mm_takesOne μ 110).2 113 9)) 118).2 113 9)) 97).2 113 9)) _ _ _ from ?_)
        refine Az.blk kd_6_readsHole_41 (show zR 2 ∧ zR (-5) ∧ (((2 : Int) = (-5) → Ez md_6_readsHole 0 0 59 [(2, zi 2), (0, zr 113), (1, zi a1)] [] zSh (zup (zup (zup μ 113 9 ((mm_takesOne μ 110).2 113 9)) 113 9 ((mm_takesOne (zup μ 113 9 ((mm_takesOne μ 110).2 113 9)) 118).2 113 9)) 113 9 ((mm_takesOne (zup (zup μ 113 9 ((mm_takesOne μ 110).2 113 9)) 113 9 ((mm_takesOne (zup μ 113 9 ((mm_takesOne μ 110).2 113 9)) 118).2 113 9)) 97).2 113 9)) _ _ _) ∧ (¬ (2 : Int) = (-5) → Ez md_6_readsHole 0 0 48 [(2, zi 2), (0, zr 113), (1, zi a1)] [] zSh (zup (zup (zup μ 113 9 ((mm_takesOne μ 110).2 113 9)) 113 9 ((mm_takesOne (zup μ 113 9 ((mm_takesOne μ 110).2 113 9)) 118).2 113 9)) 113 9 ((mm_takesOne (zup (zup μ 113 9 ((mm_takesOne μ 110).2 113 9)) 113 9 ((mm_takesOne (zup μ 113 9 ((mm_takesOne μ 110).2 113 9)) 118).2 113 9)) 97).2 113 9)) _ _ _)) from ⟨(by omega), (by omega), fun c13 => ?_, fun c13 => ?_⟩)
        · rw [if_pos c13]
          refine Az.blk kd_6_readsHole_59 (show Ez md_6_readsHole 0 0 60 [(2, zi 2), (0, zr 113), (1, zi a1)] [zi 0] zSh (zup (zup (zup μ 113 9 ((mm_takesOne μ 110).2 113 9)) 113 9 ((mm_takesOne (zup μ 113 9 ((mm_takesOne μ 110).2 113 9)) 118).2 113 9)) 113 9 ((mm_takesOne (zup (zup μ 113 9 ((mm_takesOne μ 110).2 113 9)) 113 9 ((mm_takesOne (zup μ 113 9 ((mm_takesOne μ 110).2 113 9)) 118).2 113 9)) 97).2 113 9)) _ _ _ from ?_)
          exact Ez.zret kr_6_readsHole_60 rfl (Nat.zero_le _) (Nat.zero_le _) (Or.inl rfl) rfl rfl
        · rw [if_neg c13]
          refine Az.blk kd_6_readsHole_48 (show Ez md_6_readsHole 0 0 53 [(2, zi 2), (0, zr 113), (1, zi a1)] [zi 57, zi 48, zr 113] zSh (zup (zup (zup μ 113 9 ((mm_takesOne μ 110).2 113 9)) 113 9 ((mm_takesOne (zup μ 113 9 ((mm_takesOne μ 110).2 113 9)) 118).2 113 9)) 113 9 ((mm_takesOne (zup (zup μ 113 9 ((mm_takesOne μ 110).2 113 9)) 113 9 ((mm_takesOne (zup μ 113 9 ((mm_takesOne μ 110).2 113 9)) 118).2 113 9)) 97).2 113 9)) _ _ _ from ?_)
          refine Az.cV (mc := md_6_isHere) (k := 113) (n := 2) (As := [zi 48, zi 57]) (rest := []) kr_6_readsHole_53 zw_633 ok_6_isHere rfl rfl rfl trivial (mz_isHere (mb_takesOneF (mb_takesOneF (mb_takesOneF hB 110 (by omega)) 118 (by omega)) 97 (by omega)) 48 57 (by omega) (by omega)) rfl rfl (show Ez md_6_readsHole 0 0 56 [(2, zi 2), (0, zr 113), (1, zi a1)] [zi (mm_isHere (zup (zup (zup μ 113 9 ((mm_takesOne μ 110).2 113 9)) 113 9 ((mm_takesOne (zup μ 113 9 ((mm_takesOne μ 110).2 113 9)) 118).2 113 9)) 113 9 ((mm_takesOne (zup (zup μ 113 9 ((mm_takesOne μ 110).2 113 9)) 113 9 ((mm_takesOne (zup μ 113 9 ((mm_takesOne μ 110).2 113 9)) 118).2 113 9)) 97).2 113 9)) 48 57)] zSh (zup (zup (zup μ 113 9 ((mm_takesOne μ 110).2 113 9)) 113 9 ((mm_takesOne (zup μ 113 9 ((mm_takesOne μ 110).2 113 9)) 118).2 113 9)) 113 9 ((mm_takesOne (zup (zup μ 113 9 ((mm_takesOne μ 110).2 113 9)) 113 9 ((mm_takesOne (zup μ 113 9 ((mm_takesOne μ 110).2 113 9)) 118).2 113 9)) 97).2 113 9)) _ _ _ from ?_)
          have r14 : 0 ≤ (mm_isHere (zup (zup (zup μ 113 9 ((mm_takesOne μ 110).2 113 9)) 113 9 ((mm_takesOne (zup μ 113 9 ((mm_takesOne μ 110).2 113 9)) 118).2 113 9)) 113 9 ((mm_takesOne (zup (zup μ 113 9 ((mm_takesOne μ 110).2 113 9)) 113 9 ((mm_takesOne (zup μ 113 9 ((mm_takesOne μ 110).2 113 9)) 118).2 113 9)) 97).2 113 9)) 48 57) ∧ (mm_isHere (zup (zup (zup μ 113 9 ((mm_takesOne μ 110).2 113 9)) 113 9 ((mm_takesOne (zup μ 113 9 ((mm_takesOne μ 110).2 113 9)) 118).2 113 9)) 113 9 ((mm_takesOne (zup (zup μ 113 9 ((mm_takesOne μ 110).2 113 9)) 113 9 ((mm_takesOne (zup μ 113 9 ((mm_takesOne μ 110).2 113 9)) 118).2 113 9)) 97).2 113 9)) 48 57) ≤ 1 ∧ ((mm_isHere (zup (zup (zup μ 113 9 ((mm_takesOne μ 110).2 113 9)) 113 9 ((mm_takesOne (zup μ 113 9 ((mm_takesOne μ 110).2 113 9)) 118).2 113 9)) 113 9 ((mm_takesOne (zup (zup μ 113 9 ((mm_takesOne μ 110).2 113 9)) 113 9 ((mm_takesOne (zup μ 113 9 ((mm_takesOne μ 110).2 113 9)) 118).2 113 9)) 97).2 113 9)) 48 57) = 1 → ((zup (zup (zup μ 113 9 ((mm_takesOne μ 110).2 113 9)) 113 9 ((mm_takesOne (zup μ 113 9 ((mm_takesOne μ 110).2 113 9)) 118).2 113 9)) 113 9 ((mm_takesOne (zup (zup μ 113 9 ((mm_takesOne μ 110).2 113 9)) 113 9 ((mm_takesOne (zup μ 113 9 ((mm_takesOne μ 110).2 113 9)) 118).2 113 9)) 97).2 113 9)) 113 9) < (μ 113 8) ∧ (48 : Int) ≤ (μ 119 (((zup (zup (zup μ 113 9 ((mm_takesOne μ 110).2 113 9)) 113 9 ((mm_takesOne (zup μ 113 9 ((mm_takesOne μ 110).2 113 9)) 118).2 113 9)) 113 9 ((mm_takesOne (zup (zup μ 113 9 ((mm_takesOne μ 110).2 113 9)) 113 9 ((mm_takesOne (zup μ 113 9 ((mm_takesOne μ 110).2 113 9)) 118).2 113 9)) 97).2 113 9)) 113 9))) ∧ (μ 119 (((zup (zup (zup μ 113 9 ((mm_takesOne μ 110).2 113 9)) 113 9 ((mm_takesOne (zup μ 113 9 ((mm_takesOne μ 110).2 113 9)) 118).2 113 9)) 113 9 ((mm_takesOne (zup (zup μ 113 9 ((mm_takesOne μ 110).2 113 9)) 113 9 ((mm_takesOne (zup μ 113 9 ((mm_takesOne μ 110).2 113 9)) 118).2 113 9)) 97).2 113 9)) 113 9))) ≤ (57 : Int)) := mr_isHere (mb_takesOneF (mb_takesOneF (mb_takesOneF hB 110 (by omega)) 118 (by omega)) 97 (by omega)) 48 57 (by omega) (by omega)
          refine Az.blk kd_6_readsHole_56 (show zR (mm_isHere (zup (zup (zup μ 113 9 ((mm_takesOne μ 110).2 113 9)) 113 9 ((mm_takesOne (zup μ 113 9 ((mm_takesOne μ 110).2 113 9)) 118).2 113 9)) 113 9 ((mm_takesOne (zup (zup μ 113 9 ((mm_takesOne μ 110).2 113 9)) 113 9 ((mm_takesOne (zup μ 113 9 ((mm_takesOne μ 110).2 113 9)) 118).2 113 9)) 97).2 113 9)) 48 57) ∧ ((¬ (mm_isHere (zup (zup (zup μ 113 9 ((mm_takesOne μ 110).2 113 9)) 113 9 ((mm_takesOne (zup μ 113 9 ((mm_takesOne μ 110).2 113 9)) 118).2 113 9)) 113 9 ((mm_takesOne (zup (zup μ 113 9 ((mm_takesOne μ 110).2 113 9)) 113 9 ((mm_takesOne (zup μ 113 9 ((mm_takesOne μ 110).2 113 9)) 118).2 113 9)) 97).2 113 9)) 48 57) = 0 → Ez md_6_readsHole 0 0 61 [(2, zi 2), (0, zr 113), (1, zi a1)] [] zSh (zup (zup (zup μ 113 9 ((mm_takesOne μ 110).2 113 9)) 113 9 ((mm_takesOne (zup μ 113 9 ((mm_takesOne μ 110).2 113 9)) 118).2 113 9)) 113 9 ((mm_takesOne (zup (zup μ 113 9 ((mm_takesOne μ 110).2 113 9)) 113 9 ((mm_takesOne (zup μ 113 9 ((mm_takesOne μ 110).2 113 9)) 118).2 113 9)) 97).2 113 9)) _ _ _) ∧ ((mm_isHere (zup (zup (zup μ 113 9 ((mm_takesOne μ 110).2 113 9)) 113 9 ((mm_takesOne (zup μ 113 9 ((mm_takesOne μ 110).2 113 9)) 118).2 113 9)) 113 9 ((mm_takesOne (zup (zup μ 113 9 ((mm_takesOne μ 110).2 113 9)) 113 9 ((mm_takesOne (zup μ 113 9 ((mm_takesOne μ 110).2 113 9)) 118).2 113 9)) 97).2 113 9)) 48 57) = 0 → Ez md_6_readsHole 0 0 59 [(2, zi 2), (0, zr 113), (1, zi a1)] [] zSh (zup (zup (zup μ 113 9 ((mm_takesOne μ 110).2 113 9)) 113 9 ((mm_takesOne (zup μ 113 9 ((mm_takesOne μ 110).2 113 9)) 118).2 113 9)) 113 9 ((mm_takesOne (zup (zup μ 113 9 ((mm_takesOne μ 110).2 113 9)) 113 9 ((mm_takesOne (zup μ 113 9 ((mm_takesOne μ 110).2 113 9)) 118).2 113 9)) 97).2 113 9)) _ _ _)) from ⟨(by omega), fun c15 => ?_, fun c15 => ?_⟩)
          · rw [if_neg c15]
            have b16 : 0 ≤ ((zup (zup (zup μ 113 9 ((mm_takesOne μ 110).2 113 9)) 113 9 ((mm_takesOne (zup μ 113 9 ((mm_takesOne μ 110).2 113 9)) 118).2 113 9)) 113 9 ((mm_takesOne (zup (zup μ 113 9 ((mm_takesOne μ 110).2 113 9)) 113 9 ((mm_takesOne (zup μ 113 9 ((mm_takesOne μ 110).2 113 9)) 118).2 113 9)) 97).2 113 9)) 113 9) ∧ ((zup (zup (zup μ 113 9 ((mm_takesOne μ 110).2 113 9)) 113 9 ((mm_takesOne (zup μ 113 9 ((mm_takesOne μ 110).2 113 9)) 118).2 113 9)) 113 9 ((mm_takesOne (zup (zup μ 113 9 ((mm_takesOne μ 110).2 113 9)) 113 9 ((mm_takesOne (zup μ 113 9 ((mm_takesOne μ 110).2 113 9)) 118).2 113 9)) 97).2 113 9)) 113 9) ≤ 60 := (mb_takesOneF (mb_takesOneF (mb_takesOneF hB 110 (by omega)) 118 (by omega)) 97 (by omega)) 113 9
            have b17 : 0 ≤ (μ 119 ((zup (zup (zup μ 113 9 ((mm_takesOne μ 110).2 113 9)) 113 9 ((mm_takesOne (zup μ 113 9 ((mm_takesOne μ 110).2 113 9)) 118).2 113 9)) 113 9 ((mm_takesOne (zup (zup μ 113 9 ((mm_takesOne μ 110).2 113 9)) 113 9 ((mm_takesOne (zup μ 113 9 ((mm_takesOne μ 110).2 113 9)) 118).2 113 9)) 97).2 113 9)) 113 9)) ∧ (μ 119 ((zup (zup (zup μ 113 9 ((mm_takesOne μ 110).2 113 9)) 113 9 ((mm_takesOne (zup μ 113 9 ((mm_takesOne μ 110).2 113 9)) 118).2 113 9)) 113 9 ((mm_takesOne (zup (zup μ 113 9 ((mm_takesOne μ 110).2 113 9)) 113 9 ((mm_takesOne (zup μ 113 9 ((mm_takesOne μ 110).2 113 9)) 118).2 113 9)) 97).2 113 9)) 113 9)) ≤ 65535 := hB 119 ((zup (zup (zup μ 113 9 ((mm_takesOne μ 110).2 113 9)) 113 9 ((mm_takesOne (zup μ 113 9 ((mm_takesOne μ 110).2 113 9)) 118).2 113 9)) 113 9 ((mm_takesOne (zup (zup μ 113 9 ((mm_takesOne μ 110).2 113 9)) 113 9 ((mm_takesOne (zup μ 113 9 ((mm_takesOne μ 110).2 113 9)) 118).2 113 9)) 97).2 113 9)) 113 9)
            have b18 : 0 ≤ ((zup (zup (zup μ 113 9 ((mm_takesOne μ 110).2 113 9)) 113 9 ((mm_takesOne (zup μ 113 9 ((mm_takesOne μ 110).2 113 9)) 118).2 113 9)) 113 9 ((mm_takesOne (zup (zup μ 113 9 ((mm_takesOne μ 110).2 113 9)) 113 9 ((mm_takesOne (zup μ 113 9 ((mm_takesOne μ 110).2 113 9)) 118).2 113 9)) 97).2 113 9)) 113 9) ∧ ((zup (zup (zup μ 113 9 ((mm_takesOne μ 110).2 113 9)) 113 9 ((mm_takesOne (zup μ 113 9 ((mm_takesOne μ 110).2 113 9)) 118).2 113 9)) 113 9 ((mm_takesOne (zup (zup μ 113 9 ((mm_takesOne μ 110).2 113 9)) 113 9 ((mm_takesOne (zup μ 113 9 ((mm_takesOne μ 110).2 113 9)) 118).2 113 9)) 97).2 113 9)) 113 9) ≤ 60 := (mb_takesOneF (mb_takesOneF (mb_takesOneF hB 110 (by omega)) 118 (by omega)) 97 (by omega)) 113 9
            refine Az.blk kd_6_readsHole_61 (show (0 ≤ (a1 + 0) ∧ (a1 + 0) < 280) ∧ (0 ≤ (a1 + 1) ∧ (a1 + 1) < 280) ∧ (0 ≤ ((zup (zup (zup μ 113 9 ((mm_takesOne μ 110).2 113 9)) 113 9 ((mm_takesOne (zup μ 113 9 ((mm_takesOne μ 110).2 113 9)) 118).2 113 9)) 113 9 ((mm_takesOne (zup (zup μ 113 9 ((mm_takesOne μ 110).2 113 9)) 113 9 ((mm_takesOne (zup μ 113 9 ((mm_takesOne μ 110).2 113 9)) 118).2 113 9)) 97).2 113 9)) 113 9) ∧ ((zup (zup (zup μ 113 9 ((mm_takesOne μ 110).2 113 9)) 113 9 ((mm_takesOne (zup μ 113 9 ((mm_takesOne μ 110).2 113 9)) 118).2 113 9)) 113 9 ((mm_takesOne (zup (zup μ 113 9 ((mm_takesOne μ 110).2 113 9)) 113 9 ((mm_takesOne (zup μ 113 9 ((mm_takesOne μ 110).2 113 9)) 118).2 113 9)) 97).2 113 9)) 113 9) < 60) ∧ (0 ≤ (a1 + 2) ∧ (a1 + 2) < 280) ∧ (0 ≤ (a1 + 3) ∧ (a1 + 3) < 280) ∧ Ez md_6_readsHole 0 0 120 [(2, zi 2), (0, zr 113), (1, zi a1)] [zi 1] zSh (zup (zup (zup (zup (zup (zup (zup (zup μ 113 9 ((mm_takesOne μ 110).2 113 9)) 113 9 ((mm_takesOne (zup μ 113 9 ((mm_takesOne μ 110).2 113 9)) 118).2 113 9)) 113 9 ((mm_takesOne (zup (zup μ 113 9 ((mm_takesOne μ 110).2 113 9)) 113 9 ((mm_takesOne (zup μ 113 9 ((mm_takesOne μ 110).2 113 9)) 118).2 113 9)) 97).2 113 9)) 118 (a1 + 0) 1) 118 (a1 + 1) 2) 118 (a1 + 2) ((μ 119 ((zup (zup (zup μ 113 9 ((mm_takesOne μ 110).2 113 9)) 113 9 ((mm_takesOne (zup μ 113 9 ((mm_takesOne μ 110).2 113 9)) 118).2 113 9)) 113 9 ((mm_takesOne (zup (zup μ 113 9 ((mm_takesOne μ 110).2 113 9)) 113 9 ((mm_takesOne (zup μ 113 9 ((mm_takesOne μ 110).2 113 9)) 118).2 113 9)) 97).2 113 9)) 113 9)) - 48)) 118 (a1 + 3) (-5)) 113 9 (((zup (zup (zup μ 113 9 ((mm_takesOne μ 110).2 113 9)) 113 9 ((mm_takesOne (zup μ 113 9 ((mm_takesOne μ 110).2 113 9)) 118).2 113 9)) 113 9 ((mm_takesOne (zup (zup μ 113 9 ((mm_takesOne μ 110).2 113 9)) 113 9 ((mm_takesOne (zup μ 113 9 ((mm_takesOne μ 110).2 113 9)) 118).2 113 9)) 97).2 113 9)) 113 9) + 1)) _ _ _ from ⟨(by omega), (by omega), (by omega), (by omega), (by omega), ?_⟩)
            exact Ez.zret kr_6_readsHole_120 rfl (Nat.zero_le _) (Nat.zero_le _) (Or.inr rfl) rfl rfl
          · rw [if_pos c15]
            refine Az.blk kd_6_readsHole_59 (show Ez md_6_readsHole 0 0 60 [(2, zi 2), (0, zr 113), (1, zi a1)] [zi 0] zSh (zup (zup (zup μ 113 9 ((mm_takesOne μ 110).2 113 9)) 113 9 ((mm_takesOne (zup μ 113 9 ((mm_takesOne μ 110).2 113 9)) 118).2 113 9)) 113 9 ((mm_takesOne (zup (zup μ 113 9 ((mm_takesOne μ 110).2 113 9)) 113 9 ((mm_takesOne (zup μ 113 9 ((mm_takesOne μ 110).2 113 9)) 118).2 113 9)) 97).2 113 9)) _ _ _ from ?_)
            exact Ez.zret kr_6_readsHole_60 rfl (Nat.zero_le _) (Nat.zero_le _) (Or.inl rfl) rfl rfl
    · rw [if_neg c4]
      refine Az.blk kd_6_readsHole_22 (show Ez md_6_readsHole 0 0 41 [(0, zr 113), (1, zi a1)] [zi 1] zSh (zup (zup μ 113 9 ((mm_takesOne μ 110).2 113 9)) 113 9 ((mm_takesOne (zup μ 113 9 ((mm_takesOne μ 110).2 113 9)) 118).2 113 9)) _ _ _ from ?_)
      refine Az.blk kd_6_readsHole_41 (show zR 1 ∧ zR (-5) ∧ (((1 : Int) = (-5) → Ez md_6_readsHole 0 0 59 [(2, zi 1), (0, zr 113), (1, zi a1)] [] zSh (zup (zup μ 113 9 ((mm_takesOne μ 110).2 113 9)) 113 9 ((mm_takesOne (zup μ 113 9 ((mm_takesOne μ 110).2 113 9)) 118).2 113 9)) _ _ _) ∧ (¬ (1 : Int) = (-5) → Ez md_6_readsHole 0 0 48 [(2, zi 1), (0, zr 113), (1, zi a1)] [] zSh (zup (zup μ 113 9 ((mm_takesOne μ 110).2 113 9)) 113 9 ((mm_takesOne (zup μ 113 9 ((mm_takesOne μ 110).2 113 9)) 118).2 113 9)) _ _ _)) from ⟨(by omega), (by omega), fun c19 => ?_, fun c19 => ?_⟩)
      · rw [if_pos c19]
        refine Az.blk kd_6_readsHole_59 (show Ez md_6_readsHole 0 0 60 [(2, zi 1), (0, zr 113), (1, zi a1)] [zi 0] zSh (zup (zup μ 113 9 ((mm_takesOne μ 110).2 113 9)) 113 9 ((mm_takesOne (zup μ 113 9 ((mm_takesOne μ 110).2 113 9)) 118).2 113 9)) _ _ _ from ?_)
        exact Ez.zret kr_6_readsHole_60 rfl (Nat.zero_le _) (Nat.zero_le _) (Or.inl rfl) rfl rfl
      · rw [if_neg c19]
        refine Az.blk kd_6_readsHole_48 (show Ez md_6_readsHole 0 0 53 [(2, zi 1), (0, zr 113), (1, zi a1)] [zi 57, zi 48, zr 113] zSh (zup (zup μ 113 9 ((mm_takesOne μ 110).2 113 9)) 113 9 ((mm_takesOne (zup μ 113 9 ((mm_takesOne μ 110).2 113 9)) 118).2 113 9)) _ _ _ from ?_)
        refine Az.cV (mc := md_6_isHere) (k := 113) (n := 2) (As := [zi 48, zi 57]) (rest := []) kr_6_readsHole_53 zw_633 ok_6_isHere rfl rfl rfl trivial (mz_isHere (mb_takesOneF (mb_takesOneF hB 110 (by omega)) 118 (by omega)) 48 57 (by omega) (by omega)) rfl rfl (show Ez md_6_readsHole 0 0 56 [(2, zi 1), (0, zr 113), (1, zi a1)] [zi (mm_isHere (zup (zup μ 113 9 ((mm_takesOne μ 110).2 113 9)) 113 9 ((mm_takesOne (zup μ 113 9 ((mm_takesOne μ 110).2 113 9)) 118).2 113 9)) 48 57)] zSh (zup (zup μ 113 9 ((mm_takesOne μ 110).2 113 9)) 113 9 ((mm_takesOne (zup μ 113 9 ((mm_takesOne μ 110).2 113 9)) 118).2 113 9)) _ _ _ from ?_)
        have r20 : 0 ≤ (mm_isHere (zup (zup μ 113 9 ((mm_takesOne μ 110).2 113 9)) 113 9 ((mm_takesOne (zup μ 113 9 ((mm_takesOne μ 110).2 113 9)) 118).2 113 9)) 48 57) ∧ (mm_isHere (zup (zup μ 113 9 ((mm_takesOne μ 110).2 113 9)) 113 9 ((mm_takesOne (zup μ 113 9 ((mm_takesOne μ 110).2 113 9)) 118).2 113 9)) 48 57) ≤ 1 ∧ ((mm_isHere (zup (zup μ 113 9 ((mm_takesOne μ 110).2 113 9)) 113 9 ((mm_takesOne (zup μ 113 9 ((mm_takesOne μ 110).2 113 9)) 118).2 113 9)) 48 57) = 1 → ((zup (zup μ 113 9 ((mm_takesOne μ 110).2 113 9)) 113 9 ((mm_takesOne (zup μ 113 9 ((mm_takesOne μ 110).2 113 9)) 118).2 113 9)) 113 9) < (μ 113 8) ∧ (48 : Int) ≤ (μ 119 (((zup (zup μ 113 9 ((mm_takesOne μ 110).2 113 9)) 113 9 ((mm_takesOne (zup μ 113 9 ((mm_takesOne μ 110).2 113 9)) 118).2 113 9)) 113 9))) ∧ (μ 119 (((zup (zup μ 113 9 ((mm_takesOne μ 110).2 113 9)) 113 9 ((mm_takesOne (zup μ 113 9 ((mm_takesOne μ 110).2 113 9)) 118).2 113 9)) 113 9))) ≤ (57 : Int)) := mr_isHere (mb_takesOneF (mb_takesOneF hB 110 (by omega)) 118 (by omega)) 48 57 (by omega) (by omega)
        refine Az.blk kd_6_readsHole_56 (show zR (mm_isHere (zup (zup μ 113 9 ((mm_takesOne μ 110).2 113 9)) 113 9 ((mm_takesOne (zup μ 113 9 ((mm_takesOne μ 110).2 113 9)) 118).2 113 9)) 48 57) ∧ ((¬ (mm_isHere (zup (zup μ 113 9 ((mm_takesOne μ 110).2 113 9)) 113 9 ((mm_takesOne (zup μ 113 9 ((mm_takesOne μ 110).2 113 9)) 118).2 113 9)) 48 57) = 0 → Ez md_6_readsHole 0 0 61 [(2, zi 1), (0, zr 113), (1, zi a1)] [] zSh (zup (zup μ 113 9 ((mm_takesOne μ 110).2 113 9)) 113 9 ((mm_takesOne (zup μ 113 9 ((mm_takesOne μ 110).2 113 9)) 118).2 113 9)) _ _ _) ∧ ((mm_isHere (zup (zup μ 113 9 ((mm_takesOne μ 110).2 113 9)) 113 9 ((mm_takesOne (zup μ 113 9 ((mm_takesOne μ 110).2 113 9)) 118).2 113 9)) 48 57) = 0 → Ez md_6_readsHole 0 0 59 [(2, zi 1), (0, zr 113), (1, zi a1)] [] zSh (zup (zup μ 113 9 ((mm_takesOne μ 110).2 113 9)) 113 9 ((mm_takesOne (zup μ 113 9 ((mm_takesOne μ 110).2 113 9)) 118).2 113 9)) _ _ _)) from ⟨(by omega), fun c21 => ?_, fun c21 => ?_⟩)
        · rw [if_neg c21]
          have b22 : 0 ≤ ((zup (zup μ 113 9 ((mm_takesOne μ 110).2 113 9)) 113 9 ((mm_takesOne (zup μ 113 9 ((mm_takesOne μ 110).2 113 9)) 118).2 113 9)) 113 9) ∧ ((zup (zup μ 113 9 ((mm_takesOne μ 110).2 113 9)) 113 9 ((mm_takesOne (zup μ 113 9 ((mm_takesOne μ 110).2 113 9)) 118).2 113 9)) 113 9) ≤ 60 := (mb_takesOneF (mb_takesOneF hB 110 (by omega)) 118 (by omega)) 113 9
          have b23 : 0 ≤ (μ 119 ((zup (zup μ 113 9 ((mm_takesOne μ 110).2 113 9)) 113 9 ((mm_takesOne (zup μ 113 9 ((mm_takesOne μ 110).2 113 9)) 118).2 113 9)) 113 9)) ∧ (μ 119 ((zup (zup μ 113 9 ((mm_takesOne μ 110).2 113 9)) 113 9 ((mm_takesOne (zup μ 113 9 ((mm_takesOne μ 110).2 113 9)) 118).2 113 9)) 113 9)) ≤ 65535 := hB 119 ((zup (zup μ 113 9 ((mm_takesOne μ 110).2 113 9)) 113 9 ((mm_takesOne (zup μ 113 9 ((mm_takesOne μ 110).2 113 9)) 118).2 113 9)) 113 9)
          have b24 : 0 ≤ ((zup (zup μ 113 9 ((mm_takesOne μ 110).2 113 9)) 113 9 ((mm_takesOne (zup μ 113 9 ((mm_takesOne μ 110).2 113 9)) 118).2 113 9)) 113 9) ∧ ((zup (zup μ 113 9 ((mm_takesOne μ 110).2 113 9)) 113 9 ((mm_takesOne (zup μ 113 9 ((mm_takesOne μ 110).2 113 9)) 118).2 113 9)) 113 9) ≤ 60 := (mb_takesOneF (mb_takesOneF hB 110 (by omega)) 118 (by omega)) 113 9
          refine Az.blk kd_6_readsHole_61 (show (0 ≤ (a1 + 0) ∧ (a1 + 0) < 280) ∧ (0 ≤ (a1 + 1) ∧ (a1 + 1) < 280) ∧ (0 ≤ ((zup (zup μ 113 9 ((mm_takesOne μ 110).2 113 9)) 113 9 ((mm_takesOne (zup μ 113 9 ((mm_takesOne μ 110).2 113 9)) 118).2 113 9)) 113 9) ∧ ((zup (zup μ 113 9 ((mm_takesOne μ 110).2 113 9)) 113 9 ((mm_takesOne (zup μ 113 9 ((mm_takesOne μ 110).2 113 9)) 118).2 113 9)) 113 9) < 60) ∧ (0 ≤ (a1 + 2) ∧ (a1 + 2) < 280) ∧ (0 ≤ (a1 + 3) ∧ (a1 + 3) < 280) ∧ Ez md_6_readsHole 0 0 120 [(2, zi 1), (0, zr 113), (1, zi a1)] [zi 1] zSh (zup (zup (zup (zup (zup (zup (zup μ 113 9 ((mm_takesOne μ 110).2 113 9)) 113 9 ((mm_takesOne (zup μ 113 9 ((mm_takesOne μ 110).2 113 9)) 118).2 113 9)) 118 (a1 + 0) 1) 118 (a1 + 1) 1) 118 (a1 + 2) ((μ 119 ((zup (zup μ 113 9 ((mm_takesOne μ 110).2 113 9)) 113 9 ((mm_takesOne (zup μ 113 9 ((mm_takesOne μ 110).2 113 9)) 118).2 113 9)) 113 9)) - 48)) 118 (a1 + 3) (-5)) 113 9 (((zup (zup μ 113 9 ((mm_takesOne μ 110).2 113 9)) 113 9 ((mm_takesOne (zup μ 113 9 ((mm_takesOne μ 110).2 113 9)) 118).2 113 9)) 113 9) + 1)) _ _ _ from ⟨(by omega), (by omega), (by omega), (by omega), (by omega), ?_⟩)
          exact Ez.zret kr_6_readsHole_120 rfl (Nat.zero_le _) (Nat.zero_le _) (Or.inr rfl) rfl rfl
        · rw [if_pos c21]
          refine Az.blk kd_6_readsHole_59 (show Ez md_6_readsHole 0 0 60 [(2, zi 1), (0, zr 113), (1, zi a1)] [zi 0] zSh (zup (zup μ 113 9 ((mm_takesOne μ 110).2 113 9)) 113 9 ((mm_takesOne (zup μ 113 9 ((mm_takesOne μ 110).2 113 9)) 118).2 113 9)) _ _ _ from ?_)
          exact Ez.zret kr_6_readsHole_60 rfl (Nat.zero_le _) (Nat.zero_le _) (Or.inl rfl) rfl rfl
  · rw [if_neg c2]
    refine Az.blk kd_6_readsHole_9 (show Ez md_6_readsHole 0 0 41 [(0, zr 113), (1, zi a1)] [zi 0] zSh (zup μ 113 9 ((mm_takesOne μ 110).2 113 9)) _ _ _ from ?_)
    refine Az.blk kd_6_readsHole_41 (show zR 0 ∧ zR (-5) ∧ (((0 : Int) = (-5) → Ez md_6_readsHole 0 0 59 [(2, zi 0), (0, zr 113), (1, zi a1)] [] zSh (zup μ 113 9 ((mm_takesOne μ 110).2 113 9)) _ _ _) ∧ (¬ (0 : Int) = (-5) → Ez md_6_readsHole 0 0 48 [(2, zi 0), (0, zr 113), (1, zi a1)] [] zSh (zup μ 113 9 ((mm_takesOne μ 110).2 113 9)) _ _ _)) from ⟨(by omega), (by omega), fun c25 => ?_, fun c25 => ?_⟩)
    · rw [if_pos c25]
      refine Az.blk kd_6_readsHole_59 (show Ez md_6_readsHole 0 0 60 [(2, zi 0), (0, zr 113), (1, zi a1)] [zi 0] zSh (zup μ 113 9 ((mm_takesOne μ 110).2 113 9)) _ _ _ from ?_)
      exact Ez.zret kr_6_readsHole_60 rfl (Nat.zero_le _) (Nat.zero_le _) (Or.inl rfl) rfl rfl
    · rw [if_neg c25]
      refine Az.blk kd_6_readsHole_48 (show Ez md_6_readsHole 0 0 53 [(2, zi 0), (0, zr 113), (1, zi a1)] [zi 57, zi 48, zr 113] zSh (zup μ 113 9 ((mm_takesOne μ 110).2 113 9)) _ _ _ from ?_)
      refine Az.cV (mc := md_6_isHere) (k := 113) (n := 2) (As := [zi 48, zi 57]) (rest := []) kr_6_readsHole_53 zw_633 ok_6_isHere rfl rfl rfl trivial (mz_isHere (mb_takesOneF hB 110 (by omega)) 48 57 (by omega) (by omega)) rfl rfl (show Ez md_6_readsHole 0 0 56 [(2, zi 0), (0, zr 113), (1, zi a1)] [zi (mm_isHere (zup μ 113 9 ((mm_takesOne μ 110).2 113 9)) 48 57)] zSh (zup μ 113 9 ((mm_takesOne μ 110).2 113 9)) _ _ _ from ?_)
      have r26 : 0 ≤ (mm_isHere (zup μ 113 9 ((mm_takesOne μ 110).2 113 9)) 48 57) ∧ (mm_isHere (zup μ 113 9 ((mm_takesOne μ 110).2 113 9)) 48 57) ≤ 1 ∧ ((mm_isHere (zup μ 113 9 ((mm_takesOne μ 110).2 113 9)) 48 57) = 1 → ((zup μ 113 9 ((mm_takesOne μ 110).2 113 9)) 113 9) < (μ 113 8) ∧ (48 : Int) ≤ (μ 119 (((zup μ 113 9 ((mm_takesOne μ 110).2 113 9)) 113 9))) ∧ (μ 119 (((zup μ 113 9 ((mm_takesOne μ 110).2 113 9)) 113 9))) ≤ (57 : Int)) := mr_isHere (mb_takesOneF hB 110 (by omega)) 48 57 (by omega) (by omega)
      refine Az.blk kd_6_readsHole_56 (show zR (mm_isHere (zup μ 113 9 ((mm_takesOne μ 110).2 113 9)) 48 57) ∧ ((¬ (mm_isHere (zup μ 113 9 ((mm_takesOne μ 110).2 113 9)) 48 57) = 0 → Ez md_6_readsHole 0 0 61 [(2, zi 0), (0, zr 113), (1, zi a1)] [] zSh (zup μ 113 9 ((mm_takesOne μ 110).2 113 9)) _ _ _) ∧ ((mm_isHere (zup μ 113 9 ((mm_takesOne μ 110).2 113 9)) 48 57) = 0 → Ez md_6_readsHole 0 0 59 [(2, zi 0), (0, zr 113), (1, zi a1)] [] zSh (zup μ 113 9 ((mm_takesOne μ 110).2 113 9)) _ _ _)) from ⟨(by omega), fun c27 => ?_, fun c27 => ?_⟩)
      · rw [if_neg c27]
        have b28 : 0 ≤ ((zup μ 113 9 ((mm_takesOne μ 110).2 113 9)) 113 9) ∧ ((zup μ 113 9 ((mm_takesOne μ 110).2 113 9)) 113 9) ≤ 60 := (mb_takesOneF hB 110 (by omega)) 113 9
        have b29 : 0 ≤ (μ 119 ((zup μ 113 9 ((mm_takesOne μ 110).2 113 9)) 113 9)) ∧ (μ 119 ((zup μ 113 9 ((mm_takesOne μ 110).2 113 9)) 113 9)) ≤ 65535 := hB 119 ((zup μ 113 9 ((mm_takesOne μ 110).2 113 9)) 113 9)
        have b30 : 0 ≤ ((zup μ 113 9 ((mm_takesOne μ 110).2 113 9)) 113 9) ∧ ((zup μ 113 9 ((mm_takesOne μ 110).2 113 9)) 113 9) ≤ 60 := (mb_takesOneF hB 110 (by omega)) 113 9
        refine Az.blk kd_6_readsHole_61 (show (0 ≤ (a1 + 0) ∧ (a1 + 0) < 280) ∧ (0 ≤ (a1 + 1) ∧ (a1 + 1) < 280) ∧ (0 ≤ ((zup μ 113 9 ((mm_takesOne μ 110).2 113 9)) 113 9) ∧ ((zup μ 113 9 ((mm_takesOne μ 110).2 113 9)) 113 9) < 60) ∧ (0 ≤ (a1 + 2) ∧ (a1 + 2) < 280) ∧ (0 ≤ (a1 + 3) ∧ (a1 + 3) < 280) ∧ Ez md_6_readsHole 0 0 120 [(2, zi 0), (0, zr 113), (1, zi a1)] [zi 1] zSh (zup (zup (zup (zup (zup (zup μ 113 9 ((mm_takesOne μ 110).2 113 9)) 118 (a1 + 0) 1) 118 (a1 + 1) 0) 118 (a1 + 2) ((μ 119 ((zup μ 113 9 ((mm_takesOne μ 110).2 113 9)) 113 9)) - 48)) 118 (a1 + 3) (-5)) 113 9 (((zup μ 113 9 ((mm_takesOne μ 110).2 113 9)) 113 9) + 1)) _ _ _ from ⟨(by omega), (by omega), (by omega), (by omega), (by omega), ?_⟩)
        exact Ez.zret kr_6_readsHole_120 rfl (Nat.zero_le _) (Nat.zero_le _) (Or.inr rfl) rfl rfl
      · rw [if_pos c27]
        refine Az.blk kd_6_readsHole_59 (show Ez md_6_readsHole 0 0 60 [(2, zi 0), (0, zr 113), (1, zi a1)] [zi 0] zSh (zup μ 113 9 ((mm_takesOne μ 110).2 113 9)) _ _ _ from ?_)
        exact Ez.zret kr_6_readsHole_60 rfl (Nat.zero_le _) (Nat.zero_le _) (Or.inl rfl) rfl rfl
theorem mf_readsHole {μ : zM} {a1 : Int} : (mm_readsHole μ a1).2 = (zup (zset μ 118 ((mm_readsHole μ a1).2 118)) 113 9 ((mm_readsHole μ a1).2 113 9)) := by
  apply zfr_of
  · intro k' h1 h2
    unfold mm_readsHole
    repeat' split
    all_goals (funext z'; simp [zup_ap, h1, h2])
  · intro z' h
    unfold mm_readsHole
    repeat' split
    all_goals simp [zup_ap, h]
theorem mb_readsHoleF {μ : zM} (hB : zB μ) (a1 : Int) (h0 : 0 ≤ a1 ∧ a1 ≤ 266 ∧ a1 % 14 = 0) : zB (zup (zset μ 118 ((mm_readsHole μ a1).2 118)) 113 9 ((mm_readsHole μ a1).2 113 9)) := by
  rw [← mf_readsHole]
  exact mb_readsHole hB a1 h0
theorem mz_readsHoleF {μ : zM} (hB : zB μ) (a1 : Int) (h0 : 0 ≤ a1 ∧ a1 ≤ 266 ∧ a1 % 14 = 0) : Dz md_6_readsHole [zr 113, zi a1] zSh μ (some (zi (mm_readsHole μ a1).1)) zSh (zup (zset μ 118 ((mm_readsHole μ a1).2 118)) 113 9 ((mm_readsHole μ a1).2 113 9)) := by
  have h := mz_readsHole hB a1 h0
  rw [← mf_readsHole]
  exact h
def kb_6_readsItem_0 : List zI := [(.bipush 14, 2, 0, 0), (.aload_n 0, 1, 0, 0), (.getfield 101, 3, 6, 10), (.imul, 1, 0, 0), (.istore_n 1, 1, 0, 0), (.iconst 0, 1, 0, 0), (.istore_n 2, 1, 0, 0)]
theorem kd_6_readsItem_0 : zdec md_6_readsItem 0 kb_6_readsItem_0 = true := by decide +kernel
def kb_6_readsItem_10 : List zI := [(.iload_n 2, 1, 0, 0), (.bipush 14, 2, 0, 0), (.if_icmp .ge 18, 3, 31, 0)]
theorem kd_6_readsItem_10 : zdec md_6_readsItem 10 kb_6_readsItem_10 = true := by decide +kernel
def kb_6_readsItem_31 : List zI := [(.aload_n 0, 1, 0, 0), (.dup, 1, 0, 0), (.getfield 101, 3, 6, 10), (.iconst 1, 1, 0, 0), (.iadd, 1, 0, 0), (.putfield 101, 3, 6, 10), (.aload_n 0, 1, 0, 0), (.bipush 35, 2, 0, 0)]
theorem kd_6_readsItem_31 : zdec md_6_readsItem 31 kb_6_readsItem_31 = true := by decide +kernel
theorem kr_6_readsItem_44 : decode md_6_readsItem.2.1 44 = .ok (.invokevirtual 135, 3) := by decide +kernel
def kb_6_readsItem_47 : List zI := [(.ifCond .eq 9, 3, 56, 0)]
theorem kd_6_readsItem_47 : zdec md_6_readsItem 47 kb_6_readsItem_47 = true := by decide +kernel
def kb_6_readsItem_56 : List zI := [(.iconst 0, 1, 0, 0), (.istore_n 2, 1, 0, 0)]
theorem kd_6_readsItem_56 : zdec md_6_readsItem 56 kb_6_readsItem_56 = true := by decide +kernel
def kb_6_readsItem_50 : List zI := [(.aload_n 0, 1, 0, 0), (.iload_n 1, 1, 0, 0)]
theorem kd_6_readsItem_50 : zdec md_6_readsItem 50 kb_6_readsItem_50 = true := by decide +kernel
theorem kr_6_readsItem_52 : decode md_6_readsItem.2.1 52 = .ok (.invokevirtual 138, 3) := by decide +kernel
theorem kr_6_readsItem_55 : decode md_6_readsItem.2.1 55 = .ok (.ireturn, 1) := by decide +kernel
def kb_6_readsItem_16 : List zI := [(.aload_n 0, 1, 0, 0), (.getfield 22, 3, 6, 6), (.iload_n 1, 1, 0, 0), (.iload_n 2, 1, 0, 0), (.iadd, 1, 0, 0), (.iconst 0, 1, 0, 0), (.iastore, 1, 0, 0), (.iinc 2 1, 3, 0, 0), (.goto (-18), 3, 10, 0)]
theorem kd_6_readsItem_16 : zdec md_6_readsItem 16 kb_6_readsItem_16 = true := by decide +kernel
def kb_6_readsItem_58 : List zI := [(.iload_n 2, 1, 0, 0), (.bipush 10, 2, 0, 0), (.if_icmp .ge 54, 3, 115, 0)]
theorem kd_6_readsItem_58 : zdec md_6_readsItem 58 kb_6_readsItem_58 = true := by decide +kernel
def kb_6_readsItem_115 : List zI := [(.aload_n 0, 1, 0, 0), (.getfield 22, 3, 6, 6), (.iload_n 1, 1, 0, 0), (.iconst 1, 1, 0, 0), (.iadd, 1, 0, 0), (.iload_n 2, 1, 0, 0), (.iastore, 1, 0, 0), (.aload_n 0, 1, 0, 0), (.getfield 22, 3, 6, 6), (.iload_n 1, 1, 0, 0), (.iconst 3, 1, 0, 0), (.iadd, 1, 0, 0), (.bipush (-5), 2, 0, 0), (.iastore, 1, 0, 0), (.iload_n 2, 1, 0, 0), (.ifCond .le 7, 3, 142, 0)]
theorem kd_6_readsItem_115 : zdec md_6_readsItem 115 kb_6_readsItem_115 = true := by decide +kernel
def kb_6_readsItem_142 : List zI := [(.iconst 0, 1, 0, 0)]
theorem kd_6_readsItem_142 : zdec md_6_readsItem 142 kb_6_readsItem_142 = true := by decide +kernel
theorem kr_6_readsItem_143 : decode md_6_readsItem.2.1 143 = .ok (.ireturn, 1) := by decide +kernel
def kb_6_readsItem_138 : List zI := [(.iconst 1, 1, 0, 0), (.goto 4, 3, 143, 0)]
theorem kd_6_readsItem_138 : zdec md_6_readsItem 138 kb_6_readsItem_138 = true := by decide +kernel
def kb_6_readsItem_64 : List zI := [(.aload_n 0, 1, 0, 0), (.bipush 97, 2, 0, 0), (.bipush 122, 2, 0, 0)]
theorem kd_6_readsItem_64 : zdec md_6_readsItem 64 kb_6_readsItem_64 = true := by decide +kernel
theorem kr_6_readsItem_69 : decode md_6_readsItem.2.1 69 = .ok (.invokevirtual 131, 3) := by decide +kernel
def kb_6_readsItem_72 : List zI := [(.ifCond .eq 43, 3, 115, 0)]
theorem kd_6_readsItem_72 : zdec md_6_readsItem 72 kb_6_readsItem_72 = true := by decide +kernel
def kb_6_readsItem_75 : List zI := [(.aload_n 0, 1, 0, 0), (.getfield 22, 3, 6, 6), (.iload_n 1, 1, 0, 0), (.iconst 4, 1, 0, 0), (.iadd, 1, 0, 0), (.iload_n 2, 1, 0, 0), (.iadd, 1, 0, 0), (.aload_n 0, 1, 0, 0), (.getfield 25, 3, 6, 7), (.aload_n 0, 1, 0, 0), (.getfield 128, 3, 6, 9), (.iaload, 1, 0, 0), (.bipush 97, 2, 0, 0), (.isub, 1, 0, 0), (.iconst 1, 1, 0, 0), (.iadd, 1, 0, 0), (.iastore, 1, 0, 0), (.iinc 2 1, 3, 0, 0), (.aload_n 0, 1, 0, 0), (.dup, 1, 0, 0), (.getfield 128, 3, 6, 9), (.iconst 1, 1, 0, 0), (.iadd, 1, 0, 0), (.putfield 128, 3, 6, 9), (.goto (-54), 3, 58, 0)]
theorem kd_6_readsItem_75 : zdec md_6_readsItem 75 kb_6_readsItem_75 = true := by decide +kernel
noncomputable def mm_readsItem_58 : Nat → zM → Int → Int → Int × zM
  | 0, μ, _, _ => (0, μ)
  | f + 1, μ, l1, l2 => (if l2 < 10 then (if (mm_isHere μ 97 122) = 0 then (if 0 < l2 then (1, (zup (zup μ 118 (l1 + 1) l2) 118 (l1 + 3) (-5))) else (0, (zup (zup μ 118 (l1 + 1) l2) 118 (l1 + 3) (-5)))) else (mm_readsItem_58 f (zup (zup μ 118 ((l1 + 4) + l2) (((μ 119 (μ 113 9)) - 97) + 1)) 113 9 ((μ 113 9) + 1)) l1 (l2 + 1))) else (if 0 < l2 then (1, (zup (zup μ 118 (l1 + 1) l2) 118 (l1 + 3) (-5))) else (0, (zup (zup μ 118 (l1 + 1) l2) 118 (l1 + 3) (-5)))))
noncomputable def mm_readsItem_10 : Nat → zM → Int → Int → Int × zM
  | 0, μ, _, _ => (0, μ)
  | f + 1, μ, l1, l2 => (if l2 < 14 then (mm_readsItem_10 f (zup μ 118 (l1 + l2) 0) l1 (l2 + 1)) else (if (mm_takesOne (zup μ 113 10 ((μ 113 10) + 1)) 35).1 = 0 then (mm_readsItem_58 zN (zup (zup μ 113 10 ((μ 113 10) + 1)) 113 9 ((mm_takesOne (zup μ 113 10 ((μ 113 10) + 1)) 35).2 113 9)) l1 0) else ((mm_readsHole (zup (zup μ 113 10 ((μ 113 10) + 1)) 113 9 ((mm_takesOne (zup μ 113 10 ((μ 113 10) + 1)) 35).2 113 9)) l1).1, (zup (zset (zup (zup μ 113 10 ((μ 113 10) + 1)) 113 9 ((mm_takesOne (zup μ 113 10 ((μ 113 10) + 1)) 35).2 113 9)) 118 ((mm_readsHole (zup (zup μ 113 10 ((μ 113 10) + 1)) 113 9 ((mm_takesOne (zup μ 113 10 ((μ 113 10) + 1)) 35).2 113 9)) l1).2 118)) 113 9 ((mm_readsHole (zup (zup μ 113 10 ((μ 113 10) + 1)) 113 9 ((mm_takesOne (zup μ 113 10 ((μ 113 10) + 1)) 35).2 113 9)) l1).2 113 9)))))
noncomputable def mm_readsItem (μ : zM) : Int × zM := (mm_readsItem_10 zN μ (14 * (μ 113 10)) 0)
set_option maxHeartbeats 4000000 in
set_option maxRecDepth 100000 in
theorem mr_readsItem_58 (f : Nat) (μ : zM) (hB : zB μ) (l1 : Int) (l2 : Int) (i0 : 0 ≤ l2 ∧ l2 ≤ 10) (i1 : 0 ≤ l1 ∧ l1 ≤ 266 ∧ l1 % 14 = 0) (hf : 10 - l2 < (f : Int)) : 0 ≤ (mm_readsItem_58 f μ l1 l2).1 ∧ (mm_readsItem_58 f μ l1 l2).1 ≤ 1 := by
  induction f generalizing μ l1 l2 with
  | zero => exfalso; omega
  | succ f ih =>
    replace hf : 10 - l2 < (f : Int) + 1 := by omega
    rw [mm_readsItem_58]
    have e8 : 0 ≤ (μ 113 8) ∧ (μ 113 8) ≤ 60 := hB 113 8
    by_cases c9 : l2 < 10
    · rw [if_pos c9]
      have r11 : 0 ≤ (mm_isHere μ 97 122) ∧ (mm_isHere μ 97 122) ≤ 1 ∧ ((mm_isHere μ 97 122) = 1 → μ 113 9 < μ 113 8 ∧ (97 : Int) ≤ μ 119 (μ 113 9) ∧ μ 119 (μ 113 9) ≤ (122 : Int)) := mr_isHere hB 97 122 (by omega) (by omega)
      by_cases c12 : (mm_isHere μ 97 122) = 0
      · rw [if_pos c12]
        by_cases c13 : 0 < l2
        · rw [if_pos c13]
          first | omega | (dsimp only; omega)
        · rw [if_neg c13]
          first | omega | (dsimp only; omega)
      · rw [if_neg c12]
        have b14 : 0 ≤ (μ 113 9) ∧ (μ 113 9) ≤ 60 := hB 113 9
        have b15 : 0 ≤ (μ 119 (μ 113 9)) ∧ (μ 119 (μ 113 9)) ≤ 65535 := hB 119 (μ 113 9)
        have b16 : 0 ≤ (μ 113 9) ∧ (μ 113 9) ≤ 60 := hB 113 9
        exact ih ((zup (zup μ 118 ((l1 + 4) + l2) (((μ 119 (μ 113 9)) - 97) + 1)) 113 9 ((μ 113 9) + 1))) (zup_ok (k := 113) (z := 9) (v := ((μ 113 9) + 1)) (zup_ok (k := 118) (z := ((l1 + 4) + l2)) (v := (((μ 119 (μ 113 9)) - 97) + 1)) hB (zOkD_of (z := ((l1 + 4) + l2)) (v := (((μ 119 (μ 113 9)) - 97) + 1)) ⟨by omega, by omega, by omega, by omega, by omega⟩)) (show 0 ≤ ((μ 113 9) + 1) ∧ ((μ 113 9) + 1) ≤ 60 from by omega)) l1 (l2 + 1) (by omega) (by omega) (by omega)
    · rw [if_neg c9]
      by_cases c10 : 0 < l2
      · rw [if_pos c10]
        first | omega | (dsimp only; omega)
      · rw [if_neg c10]
        first | omega | (dsimp only; omega)
set_option maxHeartbeats 4000000 in
set_option maxRecDepth 100000 in
theorem mr_readsItem_10 (f : Nat) (μ : zM) (hB : zB μ) (l1 : Int) (l2 : Int) (i0 : 0 ≤ l2 ∧ l2 ≤ 14) (i1 : 0 ≤ l1 ∧ l1 ≤ 266 ∧ l1 % 14 = 0) (i2 : (μ 113 10) ≤ 19) (hf : 14 - l2 < (f : Int)) : 0 ≤ (mm_readsItem_10 f μ l1 l2).1 ∧ (mm_readsItem_10 f μ l1 l2).1 ≤ 1 := by
  induction f generalizing μ l1 l2 with
  | zero => exfalso; omega
  | succ f ih =>
    replace hf : 14 - l2 < (f : Int) + 1 := by omega
    rw [mm_readsItem_10]
    have e8 : 0 ≤ (μ 113 8) ∧ (μ 113 8) ≤ 60 := hB 113 8
    by_cases c3 : l2 < 14
    · rw [if_pos c3]
      have b8 : 0 ≤ (μ 113 10) ∧ (μ 113 10) ≤ 20 := hB 113 10
      exact ih ((zup μ 118 (l1 + l2) 0)) (zup_ok (k := 118) (z := (l1 + l2)) (v := 0) hB (zOkD_of (z := (l1 + l2)) (v := 0) ⟨by omega, by omega, by omega, by omega, by omega⟩)) l1 (l2 + 1) (by omega) (by omega) (show (μ 113 10) ≤ 19 from by omega) (by omega)
    · rw [if_neg c3]
      have b4 : 0 ≤ (μ 113 10) ∧ (μ 113 10) ≤ 20 := hB 113 10
      have r5 : 0 ≤ (mm_takesOne (zup μ 113 10 ((μ 113 10) + 1)) 35).1 ∧ (mm_takesOne (zup μ 113 10 ((μ 113 10) + 1)) 35).1 ≤ 1 := mr_takesOne (zup_ok (k := 113) (z := 10) (v := ((μ 113 10) + 1)) hB (show 0 ≤ ((μ 113 10) + 1) ∧ ((μ 113 10) + 1) ≤ 20 from by omega)) 35 (by omega)
      by_cases c6 : (mm_takesOne (zup μ 113 10 ((μ 113 10) + 1)) 35).1 = 0
      · rw [if_pos c6]
        have fb : (3000 : Int) ≤ ((zN : Nat) : Int) := zN_big
        exact mr_readsItem_58 zN ((zup (zup μ 113 10 ((μ 113 10) + 1)) 113 9 ((mm_takesOne (zup μ 113 10 ((μ 113 10) + 1)) 35).2 113 9))) (mb_takesOneF (zup_ok (k := 113) (z := 10) (v := ((μ 113 10) + 1)) hB (show 0 ≤ ((μ 113 10) + 1) ∧ ((μ 113 10) + 1) ≤ 20 from by omega)) 35 (by omega)) l1 0 (by omega) (by omega) (by omega)
      · rw [if_neg c6]
        have r7 : 0 ≤ (mm_readsHole (zup (zup μ 113 10 ((μ 113 10) + 1)) 113 9 ((mm_takesOne (zup μ 113 10 ((μ 113 10) + 1)) 35).2 113 9)) l1).1 ∧ (mm_readsHole (zup (zup μ 113 10 ((μ 113 10) + 1)) 113 9 ((mm_takesOne (zup μ 113 10 ((μ 113 10) + 1)) 35).2 113 9)) l1).1 ≤ 1 := mr_readsHole (mb_takesOneF (zup_ok (k := 113) (z := 10) (v := ((μ 113 10) + 1)) hB (show 0 ≤ ((μ 113 10) + 1) ∧ ((μ 113 10) + 1) ≤ 20 from by omega)) 35 (by omega)) l1 (by omega)
        first | omega | (dsimp only; omega)
set_option maxHeartbeats 4000000 in
set_option maxRecDepth 100000 in
theorem mr_readsItem {μ : zM} (hB : zB μ) (h0 : (μ 113 10) ≤ 19) : 0 ≤ (mm_readsItem μ).1 ∧ (mm_readsItem μ).1 ≤ 1 := by
  unfold mm_readsItem
  have b1 : 0 ≤ (μ 113 10) ∧ (μ 113 10) ≤ 20 := hB 113 10
  have e8 : 0 ≤ (μ 113 8) ∧ (μ 113 8) ≤ 60 := hB 113 8
  have b2 : 0 ≤ (μ 113 10) ∧ (μ 113 10) ≤ 20 := hB 113 10
  have fb : (3000 : Int) ≤ ((zN : Nat) : Int) := zN_big
  exact mr_readsItem_10 zN μ hB (14 * (μ 113 10)) 0 (by omega) (by omega) (by omega) (by omega)
set_option maxHeartbeats 4000000 in
set_option maxRecDepth 100000 in
theorem mb_readsItem_58 (f : Nat) (μ : zM) (hB : zB μ) (l1 : Int) (l2 : Int) (i0 : 0 ≤ l2 ∧ l2 ≤ 10) (i1 : 0 ≤ l1 ∧ l1 ≤ 266 ∧ l1 % 14 = 0) (hf : 10 - l2 < (f : Int)) : zB (mm_readsItem_58 f μ l1 l2).2 := by
  induction f generalizing μ l1 l2 with
  | zero => exfalso; omega
  | succ f ih =>
    replace hf : 10 - l2 < (f : Int) + 1 := by omega
    rw [mm_readsItem_58]
    have e8 : 0 ≤ (μ 113 8) ∧ (μ 113 8) ≤ 60 := hB 113 8
    by_cases c9 : l2 < 10
    · rw [if_pos c9]
      have r11 : 0 ≤ (mm_isHere μ 97 122) ∧ (mm_isHere μ 97 122) ≤ 1 ∧ ((mm_isHere μ 97 122) = 1 → μ 113 9 < μ 113 8 ∧ (97 : Int) ≤ μ 119 (μ 113 9) ∧ μ 119 (μ 113 9) ≤ (122 : Int)) := mr_isHere hB 97 122 (by omega) (by omega)
      by_cases c12 : (mm_isHere μ 97 122) = 0
      · rw [if_pos c12]
        by_cases c13 : 0 < l2
        · rw [if_pos c13]
          exact (zup_ok (k := 118) (z := (l1 + 3)) (v := (-5)) (zup_ok (k := 118) (z := (l1 + 1)) (v := l2) hB (zOkD_of (z := (l1 + 1)) (v := l2) ⟨by omega, by omega, by omega, by omega, by omega⟩)) (zOkD_of (z := (l1 + 3)) (v := (-5)) ⟨by omega, by omega, by omega, by omega, by omega⟩))
        · rw [if_neg c13]
          exact (zup_ok (k := 118) (z := (l1 + 3)) (v := (-5)) (zup_ok (k := 118) (z := (l1 + 1)) (v := l2) hB (zOkD_of (z := (l1 + 1)) (v := l2) ⟨by omega, by omega, by omega, by omega, by omega⟩)) (zOkD_of (z := (l1 + 3)) (v := (-5)) ⟨by omega, by omega, by omega, by omega, by omega⟩))
      · rw [if_neg c12]
        have b14 : 0 ≤ (μ 113 9) ∧ (μ 113 9) ≤ 60 := hB 113 9
        have b15 : 0 ≤ (μ 119 (μ 113 9)) ∧ (μ 119 (μ 113 9)) ≤ 65535 := hB 119 (μ 113 9)
        have b16 : 0 ≤ (μ 113 9) ∧ (μ 113 9) ≤ 60 := hB 113 9
        exact ih ((zup (zup μ 118 ((l1 + 4) + l2) (((μ 119 (μ 113 9)) - 97) + 1)) 113 9 ((μ 113 9) + 1))) (zup_ok (k := 113) (z := 9) (v := ((μ 113 9) + 1)) (zup_ok (k := 118) (z := ((l1 + 4) + l2)) (v := (((μ 119 (μ 113 9)) - 97) + 1)) hB (zOkD_of (z := ((l1 + 4) + l2)) (v := (((μ 119 (μ 113 9)) - 97) + 1)) ⟨by omega, by omega, by omega, by omega, by omega⟩)) (show 0 ≤ ((μ 113 9) + 1) ∧ ((μ 113 9) + 1) ≤ 60 from by omega)) l1 (l2 + 1) (by omega) (by omega) (by omega)
    · rw [if_neg c9]
      by_cases c10 : 0 < l2
      · rw [if_pos c10]
        exact (zup_ok (k := 118) (z := (l1 + 3)) (v := (-5)) (zup_ok (k := 118) (z := (l1 + 1)) (v := l2) hB (zOkD_of (z := (l1 + 1)) (v := l2) ⟨by omega, by omega, by omega, by omega, by omega⟩)) (zOkD_of (z := (l1 + 3)) (v := (-5)) ⟨by omega, by omega, by omega, by omega, by omega⟩))
      · rw [if_neg c10]
        exact (zup_ok (k := 118) (z := (l1 + 3)) (v := (-5)) (zup_ok (k := 118) (z := (l1 + 1)) (v := l2) hB (zOkD_of (z := (l1 + 1)) (v := l2) ⟨by omega, by omega, by omega, by omega, by omega⟩)) (zOkD_of (z := (l1 + 3)) (v := (-5)) ⟨by omega, by omega, by omega, by omega, by omega⟩))
set_option maxHeartbeats 4000000 in
set_option maxRecDepth 100000 in
theorem mb_readsItem_10 (f : Nat) (μ : zM) (hB : zB μ) (l1 : Int) (l2 : Int) (i0 : 0 ≤ l2 ∧ l2 ≤ 14) (i1 : 0 ≤ l1 ∧ l1 ≤ 266 ∧ l1 % 14 = 0) (i2 : (μ 113 10) ≤ 19) (hf : 14 - l2 < (f : Int)) : zB (mm_readsItem_10 f μ l1 l2).2 := by
  induction f generalizing μ l1 l2 with
  | zero => exfalso; omega
  | succ f ih =>
    replace hf : 14 - l2 < (f : Int) + 1 := by omega
    rw [mm_readsItem_10]
    have e8 : 0 ≤ (μ 113 8) ∧ (μ 113 8) ≤ 60 := hB 113 8
    by_cases c3 : l2 < 14
    · rw [if_pos c3]
      have b8 : 0 ≤ (μ 113 10) ∧ (μ 113 10) ≤ 20 := hB 113 10
      exact ih ((zup μ 118 (l1 + l2) 0)) (zup_ok (k := 118) (z := (l1 + l2)) (v := 0) hB (zOkD_of (z := (l1 + l2)) (v := 0) ⟨by omega, by omega, by omega, by omega, by omega⟩)) l1 (l2 + 1) (by omega) (by omega) (show (μ 113 10) ≤ 19 from by omega) (by omega)
    · rw [if_neg c3]
      have b4 : 0 ≤ (μ 113 10) ∧ (μ 113 10) ≤ 20 := hB 113 10
      have r5 : 0 ≤ (mm_takesOne (zup μ 113 10 ((μ 113 10) + 1)) 35).1 ∧ (mm_takesOne (zup μ 113 10 ((μ 113 10) + 1)) 35).1 ≤ 1 := mr_takesOne (zup_ok (k := 113) (z := 10) (v := ((μ 113 10) + 1)) hB (show 0 ≤ ((μ 113 10) + 1) ∧ ((μ 113 10) + 1) ≤ 20 from by omega)) 35 (by omega)
      by_cases c6 : (mm_takesOne (zup μ 113 10 ((μ 113 10) + 1)) 35).1 = 0
      · rw [if_pos c6]
        have fb : (3000 : Int) ≤ ((zN : Nat) : Int) := zN_big
        exact mb_readsItem_58 zN ((zup (zup μ 113 10 ((μ 113 10) + 1)) 113 9 ((mm_takesOne (zup μ 113 10 ((μ 113 10) + 1)) 35).2 113 9))) (mb_takesOneF (zup_ok (k := 113) (z := 10) (v := ((μ 113 10) + 1)) hB (show 0 ≤ ((μ 113 10) + 1) ∧ ((μ 113 10) + 1) ≤ 20 from by omega)) 35 (by omega)) l1 0 (by omega) (by omega) (by omega)
      · rw [if_neg c6]
        have r7 : 0 ≤ (mm_readsHole (zup (zup μ 113 10 ((μ 113 10) + 1)) 113 9 ((mm_takesOne (zup μ 113 10 ((μ 113 10) + 1)) 35).2 113 9)) l1).1 ∧ (mm_readsHole (zup (zup μ 113 10 ((μ 113 10) + 1)) 113 9 ((mm_takesOne (zup μ 113 10 ((μ 113 10) + 1)) 35).2 113 9)) l1).1 ≤ 1 := mr_readsHole (mb_takesOneF (zup_ok (k := 113) (z := 10) (v := ((μ 113 10) + 1)) hB (show 0 ≤ ((μ 113 10) + 1) ∧ ((μ 113 10) + 1) ≤ 20 from by omega)) 35 (by omega)) l1 (by omega)
        exact (mb_readsHoleF (mb_takesOneF (zup_ok (k := 113) (z := 10) (v := ((μ 113 10) + 1)) hB (show 0 ≤ ((μ 113 10) + 1) ∧ ((μ 113 10) + 1) ≤ 20 from by omega)) 35 (by omega)) l1 (by omega))
set_option maxHeartbeats 4000000 in
set_option maxRecDepth 100000 in
theorem mb_readsItem {μ : zM} (hB : zB μ) (h0 : (μ 113 10) ≤ 19) : zB (mm_readsItem μ).2 := by
  unfold mm_readsItem
  have b1 : 0 ≤ (μ 113 10) ∧ (μ 113 10) ≤ 20 := hB 113 10
  have e8 : 0 ≤ (μ 113 8) ∧ (μ 113 8) ≤ 60 := hB 113 8
  have b2 : 0 ≤ (μ 113 10) ∧ (μ 113 10) ≤ 20 := hB 113 10
  have fb : (3000 : Int) ≤ ((zN : Nat) : Int) := zN_big
  exact mb_readsItem_10 zN μ hB (14 * (μ 113 10)) 0 (by omega) (by omega) (by omega) (by omega)
set_option maxHeartbeats 4000000 in
set_option maxRecDepth 100000 in
theorem mz_readsItem_58 (f : Nat) (μ : zM) (hB : zB μ) (l1 : Int) (l2 : Int) (i0 : 0 ≤ l2 ∧ l2 ≤ 10) (i1 : 0 ≤ l1 ∧ l1 ≤ 266 ∧ l1 % 14 = 0) (hf : 10 - l2 < (f : Int)) : Ez md_6_readsItem 0 0 58 [(0, zr 113), (1, zi l1), (2, zi l2)] [] zSh μ (some (zi (mm_readsItem_58 f μ l1 l2).1)) zSh (mm_readsItem_58 f μ l1 l2).2 := by
  induction f generalizing μ l1 l2 with
  | zero => exfalso; omega
  | succ f ih =>
    replace hf : 10 - l2 < (f : Int) + 1 := by omega
    rw [mm_readsItem_58]
    have e8 : 0 ≤ (μ 113 8) ∧ (μ 113 8) ≤ 60 := hB 113 8
    refine Az.blk kd_6_readsItem_58 (show zR l2 ∧ zR 10 ∧ ((¬ l2 < 10 → Ez md_6_readsItem 0 0 115 [(0, zr 113), (1, zi l1), (2, zi l2)] [] zSh μ _ _ _) ∧ (l2 < 10 → Ez md_6_readsItem 0 0 64 [(0, zr 113), (1, zi l1), (2, zi l2)] [] zSh μ _ _ _)) from ⟨(by omega), (by omega), fun c9 => ?_, fun c9 => ?_⟩)
    · rw [if_neg c9]
      refine Az.blk kd_6_readsItem_115 (show (0 ≤ (l1 + 1) ∧ (l1 + 1) < 280) ∧ (0 ≤ (l1 + 3) ∧ (l1 + 3) < 280) ∧ zR l2 ∧ ((¬ 0 < l2 → Ez md_6_readsItem 0 0 142 [(0, zr 113), (1, zi l1), (2, zi l2)] [] zSh (zup (zup μ 118 (l1 + 1) l2) 118 (l1 + 3) (-5)) _ _ _) ∧ (0 < l2 → Ez md_6_readsItem 0 0 138 [(0, zr 113), (1, zi l1), (2, zi l2)] [] zSh (zup (zup μ 118 (l1 + 1) l2) 118 (l1 + 3) (-5)) _ _ _)) from ⟨(by omega), (by omega), (by omega), fun c10 => ?_, fun c10 => ?_⟩)
      · rw [if_neg c10]
        refine Az.blk kd_6_readsItem_142 (show Ez md_6_readsItem 0 0 143 [(0, zr 113), (1, zi l1), (2, zi l2)] [zi 0] zSh (zup (zup μ 118 (l1 + 1) l2) 118 (l1 + 3) (-5)) _ _ _ from ?_)
        exact Ez.zret kr_6_readsItem_143 rfl (Nat.zero_le _) (Nat.zero_le _) (Or.inl rfl) rfl rfl
      · rw [if_pos c10]
        refine Az.blk kd_6_readsItem_138 (show Ez md_6_readsItem 0 0 143 [(0, zr 113), (1, zi l1), (2, zi l2)] [zi 1] zSh (zup (zup μ 118 (l1 + 1) l2) 118 (l1 + 3) (-5)) _ _ _ from ?_)
        exact Ez.zret kr_6_readsItem_143 rfl (Nat.zero_le _) (Nat.zero_le _) (Or.inr rfl) rfl rfl
    · rw [if_pos c9]
      refine Az.blk kd_6_readsItem_64 (show Ez md_6_readsItem 0 0 69 [(0, zr 113), (1, zi l1), (2, zi l2)] [zi 122, zi 97, zr 113] zSh μ _ _ _ from ?_)
      refine Az.cV (mc := md_6_isHere) (k := 113) (n := 2) (As := [zi 97, zi 122]) (rest := []) kr_6_readsItem_69 zw_633 ok_6_isHere rfl rfl rfl trivial (mz_isHere hB 97 122 (by omega) (by omega)) rfl rfl (show Ez md_6_readsItem 0 0 72 [(0, zr 113), (1, zi l1), (2, zi l2)] [zi (mm_isHere μ 97 122)] zSh μ _ _ _ from ?_)
      have r11 : 0 ≤ (mm_isHere μ 97 122) ∧ (mm_isHere μ 97 122) ≤ 1 ∧ ((mm_isHere μ 97 122) = 1 → μ 113 9 < μ 113 8 ∧ (97 : Int) ≤ μ 119 (μ 113 9) ∧ μ 119 (μ 113 9) ≤ (122 : Int)) := mr_isHere hB 97 122 (by omega) (by omega)
      refine Az.blk kd_6_readsItem_72 (show zR (mm_isHere μ 97 122) ∧ (((mm_isHere μ 97 122) = 0 → Ez md_6_readsItem 0 0 115 [(0, zr 113), (1, zi l1), (2, zi l2)] [] zSh μ _ _ _) ∧ (¬ (mm_isHere μ 97 122) = 0 → Ez md_6_readsItem 0 0 75 [(0, zr 113), (1, zi l1), (2, zi l2)] [] zSh μ _ _ _)) from ⟨(by omega), fun c12 => ?_, fun c12 => ?_⟩)
      · rw [if_pos c12]
        refine Az.blk kd_6_readsItem_115 (show (0 ≤ (l1 + 1) ∧ (l1 + 1) < 280) ∧ (0 ≤ (l1 + 3) ∧ (l1 + 3) < 280) ∧ zR l2 ∧ ((¬ 0 < l2 → Ez md_6_readsItem 0 0 142 [(0, zr 113), (1, zi l1), (2, zi l2)] [] zSh (zup (zup μ 118 (l1 + 1) l2) 118 (l1 + 3) (-5)) _ _ _) ∧ (0 < l2 → Ez md_6_readsItem 0 0 138 [(0, zr 113), (1, zi l1), (2, zi l2)] [] zSh (zup (zup μ 118 (l1 + 1) l2) 118 (l1 + 3) (-5)) _ _ _)) from ⟨(by omega), (by omega), (by omega), fun c13 => ?_, fun c13 => ?_⟩)
        · rw [if_neg c13]
          refine Az.blk kd_6_readsItem_142 (show Ez md_6_readsItem 0 0 143 [(0, zr 113), (1, zi l1), (2, zi l2)] [zi 0] zSh (zup (zup μ 118 (l1 + 1) l2) 118 (l1 + 3) (-5)) _ _ _ from ?_)
          exact Ez.zret kr_6_readsItem_143 rfl (Nat.zero_le _) (Nat.zero_le _) (Or.inl rfl) rfl rfl
        · rw [if_pos c13]
          refine Az.blk kd_6_readsItem_138 (show Ez md_6_readsItem 0 0 143 [(0, zr 113), (1, zi l1), (2, zi l2)] [zi 1] zSh (zup (zup μ 118 (l1 + 1) l2) 118 (l1 + 3) (-5)) _ _ _ from ?_)
          exact Ez.zret kr_6_readsItem_143 rfl (Nat.zero_le _) (Nat.zero_le _) (Or.inr rfl) rfl rfl
      · rw [if_neg c12]
        have b14 : 0 ≤ (μ 113 9) ∧ (μ 113 9) ≤ 60 := hB 113 9
        have b15 : 0 ≤ (μ 119 (μ 113 9)) ∧ (μ 119 (μ 113 9)) ≤ 65535 := hB 119 (μ 113 9)
        have b16 : 0 ≤ (μ 113 9) ∧ (μ 113 9) ≤ 60 := hB 113 9
        refine Az.blk kd_6_readsItem_75 (show (0 ≤ (μ 113 9) ∧ (μ 113 9) < 60) ∧ (0 ≤ ((l1 + 4) + l2) ∧ ((l1 + 4) + l2) < 280) ∧ Ez md_6_readsItem 0 0 58 [(2, zi (l2 + 1)), (0, zr 113), (1, zi l1)] [] zSh (zup (zup μ 118 ((l1 + 4) + l2) (((μ 119 (μ 113 9)) - 97) + 1)) 113 9 ((μ 113 9) + 1)) _ _ _ from ⟨(by omega), (by omega), ?_⟩)
        refine Az.lvs (lv' := [(0, zr 113), (1, zi l1), (2, zi (l2 + 1))]) ?_ ?_
        · intro q hq; simp only [List.mem_cons, List.not_mem_nil, or_false] at hq; rcases hq with rfl | rfl | rfl <;> rfl
        exact ih ((zup (zup μ 118 ((l1 + 4) + l2) (((μ 119 (μ 113 9)) - 97) + 1)) 113 9 ((μ 113 9) + 1))) (zup_ok (k := 113) (z := 9) (v := ((μ 113 9) + 1)) (zup_ok (k := 118) (z := ((l1 + 4) + l2)) (v := (((μ 119 (μ 113 9)) - 97) + 1)) hB (zOkD_of (z := ((l1 + 4) + l2)) (v := (((μ 119 (μ 113 9)) - 97) + 1)) ⟨by omega, by omega, by omega, by omega, by omega⟩)) (show 0 ≤ ((μ 113 9) + 1) ∧ ((μ 113 9) + 1) ≤ 60 from by omega)) l1 (l2 + 1) (by omega) (by omega) (by omega)
set_option maxHeartbeats 4000000 in
set_option maxRecDepth 100000 in
theorem mz_readsItem_10 (f : Nat) (μ : zM) (hB : zB μ) (l1 : Int) (l2 : Int) (i0 : 0 ≤ l2 ∧ l2 ≤ 14) (i1 : 0 ≤ l1 ∧ l1 ≤ 266 ∧ l1 % 14 = 0) (i2 : (μ 113 10) ≤ 19) (hf : 14 - l2 < (f : Int)) : Ez md_6_readsItem 0 0 10 [(0, zr 113), (1, zi l1), (2, zi l2)] [] zSh μ (some (zi (mm_readsItem_10 f μ l1 l2).1)) zSh (mm_readsItem_10 f μ l1 l2).2 := by
  induction f generalizing μ l1 l2 with
  | zero => exfalso; omega
  | succ f ih =>
    replace hf : 14 - l2 < (f : Int) + 1 := by omega
    rw [mm_readsItem_10]
    have e8 : 0 ≤ (μ 113 8) ∧ (μ 113 8) ≤ 60 := hB 113 8
    refine Az.blk kd_6_readsItem_10 (show zR l2 ∧ zR 14 ∧ ((¬ l2 < 14 → Ez md_6_readsItem 0 0 31 [(0, zr 113), (1, zi l1), (2, zi l2)] [] zSh μ _ _ _) ∧ (l2 < 14 → Ez md_6_readsItem 0 0 16 [(0, zr 113), (1, zi l1), (2, zi l2)] [] zSh μ _ _ _)) from ⟨(by omega), (by omega), fun c3 => ?_, fun c3 => ?_⟩)
    · rw [if_neg c3]
      have b4 : 0 ≤ (μ 113 10) ∧ (μ 113 10) ≤ 20 := hB 113 10
      refine Az.blk kd_6_readsItem_31 (show Ez md_6_readsItem 0 0 44 [(0, zr 113), (1, zi l1), (2, zi l2)] [zi 35, zr 113] zSh (zup μ 113 10 ((μ 113 10) + 1)) _ _ _ from ?_)
      refine Az.cV (mc := md_6_takesOne) (k := 113) (n := 1) (As := [zi 35]) (rest := []) kr_6_readsItem_44 zw_666 ok_6_takesOne rfl rfl rfl trivial (mz_takesOneF (zup_ok (k := 113) (z := 10) (v := ((μ 113 10) + 1)) hB (show 0 ≤ ((μ 113 10) + 1) ∧ ((μ 113 10) + 1) ≤ 20 from by omega)) 35 (by omega)) rfl rfl (show Ez md_6_readsItem 0 0 47 [(0, zr 113), (1, zi l1), (2, zi l2)] [zi (mm_takesOne (zup μ 113 10 ((μ 113 10) + 1)) 35).1] zSh (zup (zup μ 113 10 ((μ 113 10) + 1)) 113 9 ((mm_takesOne (zup μ 113 10 ((μ 113 10) + 1)) 35).2 113 9)) _ _ _ from ?_)
      have r5 : 0 ≤ (mm_takesOne (zup μ 113 10 ((μ 113 10) + 1)) 35).1 ∧ (mm_takesOne (zup μ 113 10 ((μ 113 10) + 1)) 35).1 ≤ 1 := mr_takesOne (zup_ok (k := 113) (z := 10) (v := ((μ 113 10) + 1)) hB (show 0 ≤ ((μ 113 10) + 1) ∧ ((μ 113 10) + 1) ≤ 20 from by omega)) 35 (by omega)
      refine Az.blk kd_6_readsItem_47 (show zR (mm_takesOne (zup μ 113 10 ((μ 113 10) + 1)) 35).1 ∧ (((mm_takesOne (zup μ 113 10 ((μ 113 10) + 1)) 35).1 = 0 → Ez md_6_readsItem 0 0 56 [(0, zr 113), (1, zi l1), (2, zi l2)] [] zSh (zup (zup μ 113 10 ((μ 113 10) + 1)) 113 9 ((mm_takesOne (zup μ 113 10 ((μ 113 10) + 1)) 35).2 113 9)) _ _ _) ∧ (¬ (mm_takesOne (zup μ 113 10 ((μ 113 10) + 1)) 35).1 = 0 → Ez md_6_readsItem 0 0 50 [(0, zr 113), (1, zi l1), (2, zi l2)] [] zSh (zup (zup μ 113 10 ((μ 113 10) + 1)) 113 9 ((mm_takesOne (zup μ 113 10 ((μ 113 10) + 1)) 35).2 113 9)) _ _ _)) from ⟨(by omega), fun c6 => ?_, fun c6 => ?_⟩)
      · rw [if_pos c6]
        refine Az.blk kd_6_readsItem_56 (show Ez md_6_readsItem 0 0 58 [(2, zi 0), (0, zr 113), (1, zi l1)] [] zSh (zup (zup μ 113 10 ((μ 113 10) + 1)) 113 9 ((mm_takesOne (zup μ 113 10 ((μ 113 10) + 1)) 35).2 113 9)) _ _ _ from ?_)
        refine Az.lvs (lv' := [(0, zr 113), (1, zi l1), (2, zi 0)]) ?_ ?_
        · intro q hq; simp only [List.mem_cons, List.not_mem_nil, or_false] at hq; rcases hq with rfl | rfl | rfl <;> rfl
        have fb : (3000 : Int) ≤ ((zN : Nat) : Int) := zN_big
        exact mz_readsItem_58 zN ((zup (zup μ 113 10 ((μ 113 10) + 1)) 113 9 ((mm_takesOne (zup μ 113 10 ((μ 113 10) + 1)) 35).2 113 9))) (mb_takesOneF (zup_ok (k := 113) (z := 10) (v := ((μ 113 10) + 1)) hB (show 0 ≤ ((μ 113 10) + 1) ∧ ((μ 113 10) + 1) ≤ 20 from by omega)) 35 (by omega)) l1 0 (by omega) (by omega) (by omega)
      · rw [if_neg c6]
        refine Az.blk kd_6_readsItem_50 (show Ez md_6_readsItem 0 0 52 [(0, zr 113), (1, zi l1), (2, zi l2)] [zi l1, zr 113] zSh (zup (zup μ 113 10 ((μ 113 10) + 1)) 113 9 ((mm_takesOne (zup μ 113 10 ((μ 113 10) + 1)) 35).2 113 9)) _ _ _ from ?_)
        refine Az.cV (mc := md_6_readsHole) (k := 113) (n := 1) (As := [zi l1]) (rest := []) kr_6_readsItem_52 zw_670 ok_6_readsHole rfl rfl rfl trivial (mz_readsHoleF (mb_takesOneF (zup_ok (k := 113) (z := 10) (v := ((μ 113 10) + 1)) hB (show 0 ≤ ((μ 113 10) + 1) ∧ ((μ 113 10) + 1) ≤ 20 from by omega)) 35 (by omega)) l1 (by omega)) rfl rfl (show Ez md_6_readsItem 0 0 55 [(0, zr 113), (1, zi l1), (2, zi l2)] [zi (mm_readsHole (zup (zup μ 113 10 ((μ 113 10) + 1)) 113 9 ((mm_takesOne (zup μ 113 10 ((μ 113 10) + 1)) 35).2 113 9)) l1).1] zSh (zup (zset (zup (zup μ 113 10 ((μ 113 10) + 1)) 113 9 ((mm_takesOne (zup μ 113 10 ((μ 113 10) + 1)) 35).2 113 9)) 118 ((mm_readsHole (zup (zup μ 113 10 ((μ 113 10) + 1)) 113 9 ((mm_takesOne (zup μ 113 10 ((μ 113 10) + 1)) 35).2 113 9)) l1).2 118)) 113 9 ((mm_readsHole (zup (zup μ 113 10 ((μ 113 10) + 1)) 113 9 ((mm_takesOne (zup μ 113 10 ((μ 113 10) + 1)) 35).2 113 9)) l1).2 113 9)) _ _ _ from ?_)
        have r7 : 0 ≤ (mm_readsHole (zup (zup μ 113 10 ((μ 113 10) + 1)) 113 9 ((mm_takesOne (zup μ 113 10 ((μ 113 10) + 1)) 35).2 113 9)) l1).1 ∧ (mm_readsHole (zup (zup μ 113 10 ((μ 113 10) + 1)) 113 9 ((mm_takesOne (zup μ 113 10 ((μ 113 10) + 1)) 35).2 113 9)) l1).1 ≤ 1 := mr_readsHole (mb_takesOneF (zup_ok (k := 113) (z := 10) (v := ((μ 113 10) + 1)) hB (show 0 ≤ ((μ 113 10) + 1) ∧ ((μ 113 10) + 1) ≤ 20 from by omega)) 35 (by omega)) l1 (by omega)
        exact Ez.zret kr_6_readsItem_55 rfl (Nat.zero_le _) (Nat.zero_le _) (by omega) rfl rfl
    · rw [if_pos c3]
      refine Az.blk kd_6_readsItem_16 (show (0 ≤ (l1 + l2) ∧ (l1 + l2) < 280) ∧ Ez md_6_readsItem 0 0 10 [(2, zi (l2 + 1)), (0, zr 113), (1, zi l1)] [] zSh (zup μ 118 (l1 + l2) 0) _ _ _ from ⟨(by omega), ?_⟩)
      have b8 : 0 ≤ (μ 113 10) ∧ (μ 113 10) ≤ 20 := hB 113 10
      refine Az.lvs (lv' := [(0, zr 113), (1, zi l1), (2, zi (l2 + 1))]) ?_ ?_
      · intro q hq; simp only [List.mem_cons, List.not_mem_nil, or_false] at hq; rcases hq with rfl | rfl | rfl <;> rfl
      exact ih ((zup μ 118 (l1 + l2) 0)) (zup_ok (k := 118) (z := (l1 + l2)) (v := 0) hB (zOkD_of (z := (l1 + l2)) (v := 0) ⟨by omega, by omega, by omega, by omega, by omega⟩)) l1 (l2 + 1) (by omega) (by omega) (show (μ 113 10) ≤ 19 from by omega) (by omega)
set_option maxHeartbeats 4000000 in
set_option maxRecDepth 100000 in
theorem mz_readsItem {μ : zM} (hB : zB μ) (h0 : (μ 113 10) ≤ 19) : Dz md_6_readsItem [zr 113] zSh μ (some (zi (mm_readsItem μ).1)) zSh (mm_readsItem μ).2 := by
  refine Dz.of (by decide) rfl rfl (show Ez md_6_readsItem 0 0 0 [(0, zr 113)] [] zSh μ (some (zi (mm_readsItem μ).1)) zSh (mm_readsItem μ).2 from ?_)
  unfold mm_readsItem
  have b1 : 0 ≤ (μ 113 10) ∧ (μ 113 10) ≤ 20 := hB 113 10
  have e8 : 0 ≤ (μ 113 8) ∧ (μ 113 8) ≤ 60 := hB 113 8
  refine Az.blk kd_6_readsItem_0 (show Ez md_6_readsItem 0 0 10 [(2, zi 0), (1, zi (14 * (μ 113 10))), (0, zr 113)] [] zSh μ _ _ _ from ?_)
  have b2 : 0 ≤ (μ 113 10) ∧ (μ 113 10) ≤ 20 := hB 113 10
  refine Az.lvs (lv' := [(0, zr 113), (1, zi (14 * (μ 113 10))), (2, zi 0)]) ?_ ?_
  · intro q hq; simp only [List.mem_cons, List.not_mem_nil, or_false] at hq; rcases hq with rfl | rfl | rfl <;> rfl
  have fb : (3000 : Int) ≤ ((zN : Nat) : Int) := zN_big
  exact mz_readsItem_10 zN μ hB (14 * (μ 113 10)) 0 (by omega) (by omega) (by omega) (by omega)
theorem mf_readsItem_58 : ∀ (f : Nat) (μ : zM) (l1 l2 : Int), (∀ k', k' ≠ 113 → k' ≠ 118 → (mm_readsItem_58 f μ l1 l2).2 k' = μ k') ∧ ∀ z', z' ≠ 9 → z' ≠ 10 → (mm_readsItem_58 f μ l1 l2).2 113 z' = μ 113 z'
  | 0, _, _, _ => ⟨fun _ _ _ => rfl, fun _ _ _ => rfl⟩
  | f + 1, μ, l1, l2 => by
    rw [mm_readsItem_58]
    repeat' split
    all_goals first
      | exact ⟨fun k' h1 h2 => by funext z'; simp [zup_ap, h1, h2], fun z' h1 h2 => by simp [zup_ap, h1, h2]⟩
      | exact ⟨fun k' h1 h2 => by rw [(mf_readsItem_58 f _ _ _).1 k' h1 h2]; funext z'; simp [zup_ap, h1, h2], fun z' h1 h2 => by rw [(mf_readsItem_58 f _ _ _).2 z' h1 h2]; simp [zup_ap, h1, h2]⟩
theorem mf_readsItem_10 : ∀ (f : Nat) (μ : zM) (l1 l2 : Int), (∀ k', k' ≠ 113 → k' ≠ 118 → (mm_readsItem_10 f μ l1 l2).2 k' = μ k') ∧ ∀ z', z' ≠ 9 → z' ≠ 10 → (mm_readsItem_10 f μ l1 l2).2 113 z' = μ 113 z'
  | 0, _, _, _ => ⟨fun _ _ _ => rfl, fun _ _ _ => rfl⟩
  | f + 1, μ, l1, l2 => by
    rw [mm_readsItem_10]
    repeat' split
    all_goals first
      | exact ⟨fun k' h1 h2 => by rw [(mf_readsItem_10 f _ _ _).1 k' h1 h2]; funext z'; simp [zup_ap, h1, h2], fun z' h1 h2 => by rw [(mf_readsItem_10 f _ _ _).2 z' h1 h2]; simp [zup_ap, h1, h2]⟩
      | exact ⟨fun k' h1 h2 => by rw [(mf_readsItem_58 _ _ _ _).1 k' h1 h2]; funext z'; simp [zup_ap, h1, h2], fun z' h1 h2 => by rw [(mf_readsItem_58 _ _ _ _).2 z' h1 h2]; simp [zup_ap, h1, h2]⟩
      | exact ⟨fun k' h1 h2 => by funext z'; simp [zup_ap, zset_ne, h1, h2], fun z' h1 h2 => by simp [zup_ap, zset_ne, h1, h2]⟩
theorem mf_readsItem {μ : zM} : (mm_readsItem μ).2 = (zup (zup (zset μ 118 ((mm_readsItem μ).2 118)) 113 9 ((mm_readsItem μ).2 113 9)) 113 10 ((mm_readsItem μ).2 113 10)) :=
  zfr2_of (fun k' h1 h2 => (mf_readsItem_10 _ _ _ _).1 k' h1 h2) (fun z' h1 h2 => (mf_readsItem_10 _ _ _ _).2 z' h1 h2)
theorem mi_readsItem_58 : ∀ (f : Nat) (μ : zM) (l1 l2 : Int), (mm_readsItem_58 f μ l1 l2).1 = 0 ∨ (mm_readsItem_58 f μ l1 l2).2 113 10 = μ 113 10
  | 0, _, _, _ => .inl rfl
  | f + 1, μ, l1, l2 => by
    rw [mm_readsItem_58]
    repeat' split
    all_goals first
      | exact .inl rfl
      | (right; simp [zup_ap]; done)
      | (rcases mi_readsItem_58 f _ _ _ with h | h
         · exact .inl h
         · right; rw [h]; simp [zup_ap])
theorem mi_readsItem_10 : ∀ (f : Nat) (μ : zM) (l1 l2 : Int), (mm_readsItem_10 f μ l1 l2).1 = 0 ∨ (mm_readsItem_10 f μ l1 l2).2 113 10 = μ 113 10 + 1
  | 0, _, _, _ => .inl rfl
  | f + 1, μ, l1, l2 => by
    rw [mm_readsItem_10]
    repeat' split
    all_goals first
      | exact .inl rfl
      | (right; simp [zup_ap, zset_ne]; done)
      | (rcases mi_readsItem_10 f _ _ _ with h | h
         · exact .inl h
         · right; rw [h]; simp [zup_ap, zset_ne])
      | (rcases mi_readsItem_58 _ _ _ _ with h | h
         · exact .inl h
         · right; rw [h]; simp [zup_ap, zset_ne])
theorem mi_readsItem {μ : zM} : (mm_readsItem μ).1 = 0 ∨ ((zup (zup (zset μ 118 ((mm_readsItem μ).2 118)) 113 9 ((mm_readsItem μ).2 113 9)) 113 10 ((mm_readsItem μ).2 113 10)) 113 10) = (μ 113 10) + 1 := mi_readsItem_10 _ _ _ _
theorem mb_readsItemF {μ : zM} (hB : zB μ) (h0 : (μ 113 10) ≤ 19) : zB (zup (zup (zset μ 118 ((mm_readsItem μ).2 118)) 113 9 ((mm_readsItem μ).2 113 9)) 113 10 ((mm_readsItem μ).2 113 10)) := by
  rw [← mf_readsItem]
  exact mb_readsItem hB  h0
theorem mz_readsItemF {μ : zM} (hB : zB μ) (h0 : (μ 113 10) ≤ 19) : Dz md_6_readsItem [zr 113] zSh μ (some (zi (mm_readsItem μ).1)) zSh (zup (zup (zset μ 118 ((mm_readsItem μ).2 118)) 113 9 ((mm_readsItem μ).2 113 9)) 113 10 ((mm_readsItem μ).2 113 10)) := by
  have h := mz_readsItem hB  h0
  rw [← mf_readsItem]
  exact h
def kb_6_taleFault_0 : List zI := [(.aload_n 0, 1, 0, 0), (.iconst 0, 1, 0, 0), (.putfield 128, 3, 6, 9), (.aload_n 0, 1, 0, 0), (.iconst 0, 1, 0, 0), (.putfield 101, 3, 6, 10), (.iconst 1, 1, 0, 0), (.istore_n 1, 1, 0, 0)]
theorem kd_6_taleFault_0 : zdec md_6_taleFault 0 kb_6_taleFault_0 = true := by decide +kernel
def kb_6_taleFault_12 : List zI := [(.iload_n 1, 1, 0, 0), (.ifCond .eq 42, 3, 55, 0)]
theorem kd_6_taleFault_12 : zdec md_6_taleFault 12 kb_6_taleFault_12 = true := by decide +kernel
def kb_6_taleFault_55 : List zI := [(.aload_n 0, 1, 0, 0), (.getfield 128, 3, 6, 9), (.aload_n 0, 1, 0, 0), (.getfield 88, 3, 6, 8), (.if_icmp .ne 8, 3, 71, 0)]
theorem kd_6_taleFault_55 : zdec md_6_taleFault 55 kb_6_taleFault_55 = true := by decide +kernel
def kb_6_taleFault_71 : List zI := [(.aload_n 0, 1, 0, 0), (.getfield 128, 3, 6, 9)]
theorem kd_6_taleFault_71 : zdec md_6_taleFault 71 kb_6_taleFault_71 = true := by decide +kernel
theorem kr_6_taleFault_75 : decode md_6_taleFault.2.1 75 = .ok (.ireturn, 1) := by decide +kernel
def kb_6_taleFault_66 : List zI := [(.bipush (-5), 2, 0, 0), (.goto 7, 3, 75, 0)]
theorem kd_6_taleFault_66 : zdec md_6_taleFault 66 kb_6_taleFault_66 = true := by decide +kernel
def kb_6_taleFault_16 : List zI := [(.aload_n 0, 1, 0, 0)]
theorem kd_6_taleFault_16 : zdec md_6_taleFault 16 kb_6_taleFault_16 = true := by decide +kernel
theorem kr_6_taleFault_17 : decode md_6_taleFault.2.1 17 = .ok (.invokevirtual 141, 3) := by decide +kernel
def kb_6_taleFault_20 : List zI := [(.ifCond .ne 8, 3, 28, 0)]
theorem kd_6_taleFault_20 : zdec md_6_taleFault 20 kb_6_taleFault_20 = true := by decide +kernel
def kb_6_taleFault_28 : List zI := [(.aload_n 0, 1, 0, 0), (.getfield 101, 3, 6, 10), (.bipush 20, 2, 0, 0), (.if_icmp .ge 16, 3, 50, 0)]
theorem kd_6_taleFault_28 : zdec md_6_taleFault 28 kb_6_taleFault_28 = true := by decide +kernel
def kb_6_taleFault_50 : List zI := [(.iconst 0, 1, 0, 0), (.istore_n 1, 1, 0, 0), (.goto (-40), 3, 12, 0)]
theorem kd_6_taleFault_50 : zdec md_6_taleFault 50 kb_6_taleFault_50 = true := by decide +kernel
def kb_6_taleFault_37 : List zI := [(.aload_n 0, 1, 0, 0), (.bipush 32, 2, 0, 0)]
theorem kd_6_taleFault_37 : zdec md_6_taleFault 37 kb_6_taleFault_37 = true := by decide +kernel
theorem kr_6_taleFault_40 : decode md_6_taleFault.2.1 40 = .ok (.invokevirtual 135, 3) := by decide +kernel
def kb_6_taleFault_43 : List zI := [(.ifCond .eq 7, 3, 50, 0)]
theorem kd_6_taleFault_43 : zdec md_6_taleFault 43 kb_6_taleFault_43 = true := by decide +kernel
def kb_6_taleFault_46 : List zI := [(.iconst 1, 1, 0, 0), (.goto 4, 3, 51, 0)]
theorem kd_6_taleFault_46 : zdec md_6_taleFault 46 kb_6_taleFault_46 = true := by decide +kernel
def kb_6_taleFault_51 : List zI := [(.istore_n 1, 1, 0, 0), (.goto (-40), 3, 12, 0)]
theorem kd_6_taleFault_51 : zdec md_6_taleFault 51 kb_6_taleFault_51 = true := by decide +kernel
def kb_6_taleFault_23 : List zI := [(.aload_n 0, 1, 0, 0), (.getfield 128, 3, 6, 9)]
theorem kd_6_taleFault_23 : zdec md_6_taleFault 23 kb_6_taleFault_23 = true := by decide +kernel
theorem kr_6_taleFault_27 : decode md_6_taleFault.2.1 27 = .ok (.ireturn, 1) := by decide +kernel
noncomputable def mm_taleFault_12 : Nat → zM → Int → Int × zM
  | 0, μ, _ => (0, μ)
  | f + 1, μ, l1 => (if l1 = 0 then (if (μ 113 9) = (μ 113 8) then ((-5), μ) else ((μ 113 9), μ)) else (if (mm_readsItem μ).1 = 0 then (((zup (zup (zset μ 118 ((mm_readsItem μ).2 118)) 113 9 ((mm_readsItem μ).2 113 9)) 113 10 ((mm_readsItem μ).2 113 10)) 113 9), (zup (zup (zset μ 118 ((mm_readsItem μ).2 118)) 113 9 ((mm_readsItem μ).2 113 9)) 113 10 ((mm_readsItem μ).2 113 10))) else (if ((zup (zup (zset μ 118 ((mm_readsItem μ).2 118)) 113 9 ((mm_readsItem μ).2 113 9)) 113 10 ((mm_readsItem μ).2 113 10)) 113 10) < 20 then (if (mm_takesOne (zup (zup (zset μ 118 ((mm_readsItem μ).2 118)) 113 9 ((mm_readsItem μ).2 113 9)) 113 10 ((mm_readsItem μ).2 113 10)) 32).1 = 0 then (mm_taleFault_12 f (zup (zup (zup (zset μ 118 ((mm_readsItem μ).2 118)) 113 9 ((mm_readsItem μ).2 113 9)) 113 10 ((mm_readsItem μ).2 113 10)) 113 9 ((mm_takesOne (zup (zup (zset μ 118 ((mm_readsItem μ).2 118)) 113 9 ((mm_readsItem μ).2 113 9)) 113 10 ((mm_readsItem μ).2 113 10)) 32).2 113 9)) 0) else (mm_taleFault_12 f (zup (zup (zup (zset μ 118 ((mm_readsItem μ).2 118)) 113 9 ((mm_readsItem μ).2 113 9)) 113 10 ((mm_readsItem μ).2 113 10)) 113 9 ((mm_takesOne (zup (zup (zset μ 118 ((mm_readsItem μ).2 118)) 113 9 ((mm_readsItem μ).2 113 9)) 113 10 ((mm_readsItem μ).2 113 10)) 32).2 113 9)) 1)) else (mm_taleFault_12 f (zup (zup (zset μ 118 ((mm_readsItem μ).2 118)) 113 9 ((mm_readsItem μ).2 113 9)) 113 10 ((mm_readsItem μ).2 113 10)) 0))))
noncomputable def mm_taleFault (μ : zM) : Int × zM := (mm_taleFault_12 zN (zup (zup μ 113 9 0) 113 10 0) 1)
set_option maxHeartbeats 4000000 in
set_option maxRecDepth 100000 in
theorem mr_taleFault_12 (f : Nat) (μ : zM) (hB : zB μ) (l1 : Int) (i0 : 0 ≤ (μ 113 10) ∧ (μ 113 10) ≤ 20) (i1 : 0 ≤ l1 ∧ l1 ≤ 1) (i2 : (l1 = 1 → (μ 113 10) ≤ 19)) (hf : 21 - (μ 113 10) + l1 < (f : Int)) : ((mm_taleFault_12 f μ l1).1 = -5 ∨ (0 ≤ (mm_taleFault_12 f μ l1).1 ∧ (mm_taleFault_12 f μ l1).1 ≤ 60)) := by
  induction f generalizing μ l1 with
  | zero => exfalso; omega
  | succ f ih =>
    replace hf : 21 - (μ 113 10) + l1 < (f : Int) + 1 := by omega
    rw [mm_taleFault_12]
    have e8 : 0 ≤ (μ 113 8) ∧ (μ 113 8) ≤ 60 := hB 113 8
    by_cases c1 : l1 = 0
    · rw [if_pos c1]
      have b2 : 0 ≤ (μ 113 9) ∧ (μ 113 9) ≤ 60 := hB 113 9
      have b3 : 0 ≤ (μ 113 8) ∧ (μ 113 8) ≤ 60 := hB 113 8
      by_cases c4 : (μ 113 9) = (μ 113 8)
      · rw [if_pos c4]
        first | omega | (dsimp only; omega)
      · rw [if_neg c4]
        have b5 : 0 ≤ (μ 113 9) ∧ (μ 113 9) ≤ 60 := hB 113 9
        first | omega | (dsimp only; omega)
    · rw [if_neg c1]
      have r6 : 0 ≤ (mm_readsItem μ).1 ∧ (mm_readsItem μ).1 ≤ 1 := mr_readsItem hB (by omega)
      have e9 : (mm_readsItem μ).1 = 0 ∨ ((zup (zup (zset μ 118 ((mm_readsItem μ).2 118)) 113 9 ((mm_readsItem μ).2 113 9)) 113 10 ((mm_readsItem μ).2 113 10)) 113 10) = (μ 113 10) + 1 := mi_readsItem
      by_cases c7 : (mm_readsItem μ).1 = 0
      · rw [if_pos c7]
        have b15 : 0 ≤ ((zup (zup (zset μ 118 ((mm_readsItem μ).2 118)) 113 9 ((mm_readsItem μ).2 113 9)) 113 10 ((mm_readsItem μ).2 113 10)) 113 9) ∧ ((zup (zup (zset μ 118 ((mm_readsItem μ).2 118)) 113 9 ((mm_readsItem μ).2 113 9)) 113 10 ((mm_readsItem μ).2 113 10)) 113 9) ≤ 60 := (mb_readsItemF hB (by omega)) 113 9
        first | omega | (dsimp only; omega)
      · rw [if_neg c7]
        have b8 : 0 ≤ ((zup (zup (zset μ 118 ((mm_readsItem μ).2 118)) 113 9 ((mm_readsItem μ).2 113 9)) 113 10 ((mm_readsItem μ).2 113 10)) 113 10) ∧ ((zup (zup (zset μ 118 ((mm_readsItem μ).2 118)) 113 9 ((mm_readsItem μ).2 113 9)) 113 10 ((mm_readsItem μ).2 113 10)) 113 10) ≤ 20 := (mb_readsItemF hB (by omega)) 113 10
        by_cases c9 : ((zup (zup (zset μ 118 ((mm_readsItem μ).2 118)) 113 9 ((mm_readsItem μ).2 113 9)) 113 10 ((mm_readsItem μ).2 113 10)) 113 10) < 20
        · rw [if_pos c9]
          have r11 : 0 ≤ (mm_takesOne (zup (zup (zset μ 118 ((mm_readsItem μ).2 118)) 113 9 ((mm_readsItem μ).2 113 9)) 113 10 ((mm_readsItem μ).2 113 10)) 32).1 ∧ (mm_takesOne (zup (zup (zset μ 118 ((mm_readsItem μ).2 118)) 113 9 ((mm_readsItem μ).2 113 9)) 113 10 ((mm_readsItem μ).2 113 10)) 32).1 ≤ 1 := mr_takesOne (mb_readsItemF hB (by omega)) 32 (by omega)
          by_cases c12 : (mm_takesOne (zup (zup (zset μ 118 ((mm_readsItem μ).2 118)) 113 9 ((mm_readsItem μ).2 113 9)) 113 10 ((mm_readsItem μ).2 113 10)) 32).1 = 0
          · rw [if_pos c12]
            have b13 : 0 ≤ ((zup (zup (zset μ 118 ((mm_readsItem μ).2 118)) 113 9 ((mm_readsItem μ).2 113 9)) 113 10 ((mm_readsItem μ).2 113 10)) 113 10) ∧ ((zup (zup (zset μ 118 ((mm_readsItem μ).2 118)) 113 9 ((mm_readsItem μ).2 113 9)) 113 10 ((mm_readsItem μ).2 113 10)) 113 10) ≤ 20 := (mb_readsItemF hB (by omega)) 113 10
            exact ih ((zup (zup (zup (zset μ 118 ((mm_readsItem μ).2 118)) 113 9 ((mm_readsItem μ).2 113 9)) 113 10 ((mm_readsItem μ).2 113 10)) 113 9 ((mm_takesOne (zup (zup (zset μ 118 ((mm_readsItem μ).2 118)) 113 9 ((mm_readsItem μ).2 113 9)) 113 10 ((mm_readsItem μ).2 113 10)) 32).2 113 9))) (mb_takesOneF (mb_readsItemF hB (by omega)) 32 (by omega)) 0 (show 0 ≤ ((zup (zup (zset μ 118 ((mm_readsItem μ).2 118)) 113 9 ((mm_readsItem μ).2 113 9)) 113 10 ((mm_readsItem μ).2 113 10)) 113 10) ∧ ((zup (zup (zset μ 118 ((mm_readsItem μ).2 118)) 113 9 ((mm_readsItem μ).2 113 9)) 113 10 ((mm_readsItem μ).2 113 10)) 113 10) ≤ 20 from by omega) (by omega) (show (0 = 1 → ((zup (zup (zset μ 118 ((mm_readsItem μ).2 118)) 113 9 ((mm_readsItem μ).2 113 9)) 113 10 ((mm_readsItem μ).2 113 10)) 113 10) ≤ 19) from by omega) (show 21 - ((zup (zup (zset μ 118 ((mm_readsItem μ).2 118)) 113 9 ((mm_readsItem μ).2 113 9)) 113 10 ((mm_readsItem μ).2 113 10)) 113 10) + 0 < ((f : Nat) : Int) from by omega)
          · rw [if_neg c12]
            have b14 : 0 ≤ ((zup (zup (zset μ 118 ((mm_readsItem μ).2 118)) 113 9 ((mm_readsItem μ).2 113 9)) 113 10 ((mm_readsItem μ).2 113 10)) 113 10) ∧ ((zup (zup (zset μ 118 ((mm_readsItem μ).2 118)) 113 9 ((mm_readsItem μ).2 113 9)) 113 10 ((mm_readsItem μ).2 113 10)) 113 10) ≤ 20 := (mb_readsItemF hB (by omega)) 113 10
            exact ih ((zup (zup (zup (zset μ 118 ((mm_readsItem μ).2 118)) 113 9 ((mm_readsItem μ).2 113 9)) 113 10 ((mm_readsItem μ).2 113 10)) 113 9 ((mm_takesOne (zup (zup (zset μ 118 ((mm_readsItem μ).2 118)) 113 9 ((mm_readsItem μ).2 113 9)) 113 10 ((mm_readsItem μ).2 113 10)) 32).2 113 9))) (mb_takesOneF (mb_readsItemF hB (by omega)) 32 (by omega)) 1 (show 0 ≤ ((zup (zup (zset μ 118 ((mm_readsItem μ).2 118)) 113 9 ((mm_readsItem μ).2 113 9)) 113 10 ((mm_readsItem μ).2 113 10)) 113 10) ∧ ((zup (zup (zset μ 118 ((mm_readsItem μ).2 118)) 113 9 ((mm_readsItem μ).2 113 9)) 113 10 ((mm_readsItem μ).2 113 10)) 113 10) ≤ 20 from by omega) (by omega) (show (1 = 1 → ((zup (zup (zset μ 118 ((mm_readsItem μ).2 118)) 113 9 ((mm_readsItem μ).2 113 9)) 113 10 ((mm_readsItem μ).2 113 10)) 113 10) ≤ 19) from by omega) (show 21 - ((zup (zup (zset μ 118 ((mm_readsItem μ).2 118)) 113 9 ((mm_readsItem μ).2 113 9)) 113 10 ((mm_readsItem μ).2 113 10)) 113 10) + 1 < ((f : Nat) : Int) from by omega)
        · rw [if_neg c9]
          have b10 : 0 ≤ ((zup (zup (zset μ 118 ((mm_readsItem μ).2 118)) 113 9 ((mm_readsItem μ).2 113 9)) 113 10 ((mm_readsItem μ).2 113 10)) 113 10) ∧ ((zup (zup (zset μ 118 ((mm_readsItem μ).2 118)) 113 9 ((mm_readsItem μ).2 113 9)) 113 10 ((mm_readsItem μ).2 113 10)) 113 10) ≤ 20 := (mb_readsItemF hB (by omega)) 113 10
          exact ih ((zup (zup (zset μ 118 ((mm_readsItem μ).2 118)) 113 9 ((mm_readsItem μ).2 113 9)) 113 10 ((mm_readsItem μ).2 113 10))) (mb_readsItemF hB (by omega)) 0 (show 0 ≤ ((zup (zup (zset μ 118 ((mm_readsItem μ).2 118)) 113 9 ((mm_readsItem μ).2 113 9)) 113 10 ((mm_readsItem μ).2 113 10)) 113 10) ∧ ((zup (zup (zset μ 118 ((mm_readsItem μ).2 118)) 113 9 ((mm_readsItem μ).2 113 9)) 113 10 ((mm_readsItem μ).2 113 10)) 113 10) ≤ 20 from by omega) (by omega) (show (0 = 1 → ((zup (zup (zset μ 118 ((mm_readsItem μ).2 118)) 113 9 ((mm_readsItem μ).2 113 9)) 113 10 ((mm_readsItem μ).2 113 10)) 113 10) ≤ 19) from by omega) (show 21 - ((zup (zup (zset μ 118 ((mm_readsItem μ).2 118)) 113 9 ((mm_readsItem μ).2 113 9)) 113 10 ((mm_readsItem μ).2 113 10)) 113 10) + 0 < ((f : Nat) : Int) from by omega)
set_option maxHeartbeats 4000000 in
set_option maxRecDepth 100000 in
theorem mr_taleFault {μ : zM} (hB : zB μ)  : ((mm_taleFault μ).1 = -5 ∨ (0 ≤ (mm_taleFault μ).1 ∧ (mm_taleFault μ).1 ≤ 60)) := by
  unfold mm_taleFault
  have e8 : 0 ≤ (μ 113 8) ∧ (μ 113 8) ≤ 60 := hB 113 8
  have fb : (3000 : Int) ≤ ((zN : Nat) : Int) := zN_big
  exact mr_taleFault_12 zN ((zup (zup μ 113 9 0) 113 10 0)) (zup_ok (k := 113) (z := 10) (v := 0) (zup_ok (k := 113) (z := 9) (v := 0) hB (show 0 ≤ 0 ∧ 0 ≤ 60 from by omega)) (show 0 ≤ 0 ∧ 0 ≤ 20 from by omega)) 1 (show 0 ≤ 0 ∧ 0 ≤ 20 from by omega) (by omega) (show (1 = 1 → 0 ≤ 19) from by omega) (show 21 - 0 + 1 < ((zN : Nat) : Int) from by omega)
set_option maxHeartbeats 4000000 in
set_option maxRecDepth 100000 in
theorem mb_taleFault_12 (f : Nat) (μ : zM) (hB : zB μ) (l1 : Int) (i0 : 0 ≤ (μ 113 10) ∧ (μ 113 10) ≤ 20) (i1 : 0 ≤ l1 ∧ l1 ≤ 1) (i2 : (l1 = 1 → (μ 113 10) ≤ 19)) (hf : 21 - (μ 113 10) + l1 < (f : Int)) : zB (mm_taleFault_12 f μ l1).2 := by
  induction f generalizing μ l1 with
  | zero => exfalso; omega
  | succ f ih =>
    replace hf : 21 - (μ 113 10) + l1 < (f : Int) + 1 := by omega
    rw [mm_taleFault_12]
    have e8 : 0 ≤ (μ 113 8) ∧ (μ 113 8) ≤ 60 := hB 113 8
    by_cases c1 : l1 = 0
    · rw [if_pos c1]
      have b2 : 0 ≤ (μ 113 9) ∧ (μ 113 9) ≤ 60 := hB 113 9
      have b3 : 0 ≤ (μ 113 8) ∧ (μ 113 8) ≤ 60 := hB 113 8
      by_cases c4 : (μ 113 9) = (μ 113 8)
      · rw [if_pos c4]
        exact hB
      · rw [if_neg c4]
        have b5 : 0 ≤ (μ 113 9) ∧ (μ 113 9) ≤ 60 := hB 113 9
        exact hB
    · rw [if_neg c1]
      have r6 : 0 ≤ (mm_readsItem μ).1 ∧ (mm_readsItem μ).1 ≤ 1 := mr_readsItem hB (by omega)
      have e9 : (mm_readsItem μ).1 = 0 ∨ ((zup (zup (zset μ 118 ((mm_readsItem μ).2 118)) 113 9 ((mm_readsItem μ).2 113 9)) 113 10 ((mm_readsItem μ).2 113 10)) 113 10) = (μ 113 10) + 1 := mi_readsItem
      by_cases c7 : (mm_readsItem μ).1 = 0
      · rw [if_pos c7]
        have b15 : 0 ≤ ((zup (zup (zset μ 118 ((mm_readsItem μ).2 118)) 113 9 ((mm_readsItem μ).2 113 9)) 113 10 ((mm_readsItem μ).2 113 10)) 113 9) ∧ ((zup (zup (zset μ 118 ((mm_readsItem μ).2 118)) 113 9 ((mm_readsItem μ).2 113 9)) 113 10 ((mm_readsItem μ).2 113 10)) 113 9) ≤ 60 := (mb_readsItemF hB (by omega)) 113 9
        exact (mb_readsItemF hB (by omega))
      · rw [if_neg c7]
        have b8 : 0 ≤ ((zup (zup (zset μ 118 ((mm_readsItem μ).2 118)) 113 9 ((mm_readsItem μ).2 113 9)) 113 10 ((mm_readsItem μ).2 113 10)) 113 10) ∧ ((zup (zup (zset μ 118 ((mm_readsItem μ).2 118)) 113 9 ((mm_readsItem μ).2 113 9)) 113 10 ((mm_readsItem μ).2 113 10)) 113 10) ≤ 20 := (mb_readsItemF hB (by omega)) 113 10
        by_cases c9 : ((zup (zup (zset μ 118 ((mm_readsItem μ).2 118)) 113 9 ((mm_readsItem μ).2 113 9)) 113 10 ((mm_readsItem μ).2 113 10)) 113 10) < 20
        · rw [if_pos c9]
          have r11 : 0 ≤ (mm_takesOne (zup (zup (zset μ 118 ((mm_readsItem μ).2 118)) 113 9 ((mm_readsItem μ).2 113 9)) 113 10 ((mm_readsItem μ).2 113 10)) 32).1 ∧ (mm_takesOne (zup (zup (zset μ 118 ((mm_readsItem μ).2 118)) 113 9 ((mm_readsItem μ).2 113 9)) 113 10 ((mm_readsItem μ).2 113 10)) 32).1 ≤ 1 := mr_takesOne (mb_readsItemF hB (by omega)) 32 (by omega)
          by_cases c12 : (mm_takesOne (zup (zup (zset μ 118 ((mm_readsItem μ).2 118)) 113 9 ((mm_readsItem μ).2 113 9)) 113 10 ((mm_readsItem μ).2 113 10)) 32).1 = 0
          · rw [if_pos c12]
            have b13 : 0 ≤ ((zup (zup (zset μ 118 ((mm_readsItem μ).2 118)) 113 9 ((mm_readsItem μ).2 113 9)) 113 10 ((mm_readsItem μ).2 113 10)) 113 10) ∧ ((zup (zup (zset μ 118 ((mm_readsItem μ).2 118)) 113 9 ((mm_readsItem μ).2 113 9)) 113 10 ((mm_readsItem μ).2 113 10)) 113 10) ≤ 20 := (mb_readsItemF hB (by omega)) 113 10
            exact ih ((zup (zup (zup (zset μ 118 ((mm_readsItem μ).2 118)) 113 9 ((mm_readsItem μ).2 113 9)) 113 10 ((mm_readsItem μ).2 113 10)) 113 9 ((mm_takesOne (zup (zup (zset μ 118 ((mm_readsItem μ).2 118)) 113 9 ((mm_readsItem μ).2 113 9)) 113 10 ((mm_readsItem μ).2 113 10)) 32).2 113 9))) (mb_takesOneF (mb_readsItemF hB (by omega)) 32 (by omega)) 0 (show 0 ≤ ((zup (zup (zset μ 118 ((mm_readsItem μ).2 118)) 113 9 ((mm_readsItem μ).2 113 9)) 113 10 ((mm_readsItem μ).2 113 10)) 113 10) ∧ ((zup (zup (zset μ 118 ((mm_readsItem μ).2 118)) 113 9 ((mm_readsItem μ).2 113 9)) 113 10 ((mm_readsItem μ).2 113 10)) 113 10) ≤ 20 from by omega) (by omega) (show (0 = 1 → ((zup (zup (zset μ 118 ((mm_readsItem μ).2 118)) 113 9 ((mm_readsItem μ).2 113 9)) 113 10 ((mm_readsItem μ).2 113 10)) 113 10) ≤ 19) from by omega) (show 21 - ((zup (zup (zset μ 118 ((mm_readsItem μ).2 118)) 113 9 ((mm_readsItem μ).2 113 9)) 113 10 ((mm_readsItem μ).2 113 10)) 113 10) + 0 < ((f : Nat) : Int) from by omega)
          · rw [if_neg c12]
            have b14 : 0 ≤ ((zup (zup (zset μ 118 ((mm_readsItem μ).2 118)) 113 9 ((mm_readsItem μ).2 113 9)) 113 10 ((mm_readsItem μ).2 113 10)) 113 10) ∧ ((zup (zup (zset μ 118 ((mm_readsItem μ).2 118)) 113 9 ((mm_readsItem μ).2 113 9)) 113 10 ((mm_readsItem μ).2 113 10)) 113 10) ≤ 20 := (mb_readsItemF hB (by omega)) 113 10
            exact ih ((zup (zup (zup (zset μ 118 ((mm_readsItem μ).2 118)) 113 9 ((mm_readsItem μ).2 113 9)) 113 10 ((mm_readsItem μ).2 113 10)) 113 9 ((mm_takesOne (zup (zup (zset μ 118 ((mm_readsItem μ).2 118)) 113 9 ((mm_readsItem μ).2 113 9)) 113 10 ((mm_readsItem μ).2 113 10)) 32).2 113 9))) (mb_takesOneF (mb_readsItemF hB (by omega)) 32 (by omega)) 1 (show 0 ≤ ((zup (zup (zset μ 118 ((mm_readsItem μ).2 118)) 113 9 ((mm_readsItem μ).2 113 9)) 113 10 ((mm_readsItem μ).2 113 10)) 113 10) ∧ ((zup (zup (zset μ 118 ((mm_readsItem μ).2 118)) 113 9 ((mm_readsItem μ).2 113 9)) 113 10 ((mm_readsItem μ).2 113 10)) 113 10) ≤ 20 from by omega) (by omega) (show (1 = 1 → ((zup (zup (zset μ 118 ((mm_readsItem μ).2 118)) 113 9 ((mm_readsItem μ).2 113 9)) 113 10 ((mm_readsItem μ).2 113 10)) 113 10) ≤ 19) from by omega) (show 21 - ((zup (zup (zset μ 118 ((mm_readsItem μ).2 118)) 113 9 ((mm_readsItem μ).2 113 9)) 113 10 ((mm_readsItem μ).2 113 10)) 113 10) + 1 < ((f : Nat) : Int) from by omega)
        · rw [if_neg c9]
          have b10 : 0 ≤ ((zup (zup (zset μ 118 ((mm_readsItem μ).2 118)) 113 9 ((mm_readsItem μ).2 113 9)) 113 10 ((mm_readsItem μ).2 113 10)) 113 10) ∧ ((zup (zup (zset μ 118 ((mm_readsItem μ).2 118)) 113 9 ((mm_readsItem μ).2 113 9)) 113 10 ((mm_readsItem μ).2 113 10)) 113 10) ≤ 20 := (mb_readsItemF hB (by omega)) 113 10
          exact ih ((zup (zup (zset μ 118 ((mm_readsItem μ).2 118)) 113 9 ((mm_readsItem μ).2 113 9)) 113 10 ((mm_readsItem μ).2 113 10))) (mb_readsItemF hB (by omega)) 0 (show 0 ≤ ((zup (zup (zset μ 118 ((mm_readsItem μ).2 118)) 113 9 ((mm_readsItem μ).2 113 9)) 113 10 ((mm_readsItem μ).2 113 10)) 113 10) ∧ ((zup (zup (zset μ 118 ((mm_readsItem μ).2 118)) 113 9 ((mm_readsItem μ).2 113 9)) 113 10 ((mm_readsItem μ).2 113 10)) 113 10) ≤ 20 from by omega) (by omega) (show (0 = 1 → ((zup (zup (zset μ 118 ((mm_readsItem μ).2 118)) 113 9 ((mm_readsItem μ).2 113 9)) 113 10 ((mm_readsItem μ).2 113 10)) 113 10) ≤ 19) from by omega) (show 21 - ((zup (zup (zset μ 118 ((mm_readsItem μ).2 118)) 113 9 ((mm_readsItem μ).2 113 9)) 113 10 ((mm_readsItem μ).2 113 10)) 113 10) + 0 < ((f : Nat) : Int) from by omega)
set_option maxHeartbeats 4000000 in
set_option maxRecDepth 100000 in
theorem mb_taleFault {μ : zM} (hB : zB μ)  : zB (mm_taleFault μ).2 := by
  unfold mm_taleFault
  have e8 : 0 ≤ (μ 113 8) ∧ (μ 113 8) ≤ 60 := hB 113 8
  have fb : (3000 : Int) ≤ ((zN : Nat) : Int) := zN_big
  exact mb_taleFault_12 zN ((zup (zup μ 113 9 0) 113 10 0)) (zup_ok (k := 113) (z := 10) (v := 0) (zup_ok (k := 113) (z := 9) (v := 0) hB (show 0 ≤ 0 ∧ 0 ≤ 60 from by omega)) (show 0 ≤ 0 ∧ 0 ≤ 20 from by omega)) 1 (show 0 ≤ 0 ∧ 0 ≤ 20 from by omega) (by omega) (show (1 = 1 → 0 ≤ 19) from by omega) (show 21 - 0 + 1 < ((zN : Nat) : Int) from by omega)
set_option maxHeartbeats 4000000 in
set_option maxRecDepth 100000 in
theorem mz_taleFault_12 (f : Nat) (μ : zM) (hB : zB μ) (l1 : Int) (i0 : 0 ≤ (μ 113 10) ∧ (μ 113 10) ≤ 20) (i1 : 0 ≤ l1 ∧ l1 ≤ 1) (i2 : (l1 = 1 → (μ 113 10) ≤ 19)) (hf : 21 - (μ 113 10) + l1 < (f : Int)) : Ez md_6_taleFault 0 0 12 [(0, zr 113), (1, zi l1)] [] zSh μ (some (zi (mm_taleFault_12 f μ l1).1)) zSh (mm_taleFault_12 f μ l1).2 := by
  induction f generalizing μ l1 with
  | zero => exfalso; omega
  | succ f ih =>
    replace hf : 21 - (μ 113 10) + l1 < (f : Int) + 1 := by omega
    rw [mm_taleFault_12]
    have e8 : 0 ≤ (μ 113 8) ∧ (μ 113 8) ≤ 60 := hB 113 8
    refine Az.blk kd_6_taleFault_12 (show zR l1 ∧ ((l1 = 0 → Ez md_6_taleFault 0 0 55 [(0, zr 113), (1, zi l1)] [] zSh μ _ _ _) ∧ (¬ l1 = 0 → Ez md_6_taleFault 0 0 16 [(0, zr 113), (1, zi l1)] [] zSh μ _ _ _)) from ⟨(by omega), fun c1 => ?_, fun c1 => ?_⟩)
    · rw [if_pos c1]
      have b2 : 0 ≤ (μ 113 9) ∧ (μ 113 9) ≤ 60 := hB 113 9
      have b3 : 0 ≤ (μ 113 8) ∧ (μ 113 8) ≤ 60 := hB 113 8
      refine Az.blk kd_6_taleFault_55 (show zR (μ 113 9) ∧ zR (μ 113 8) ∧ ((¬ (μ 113 9) = (μ 113 8) → Ez md_6_taleFault 0 0 71 [(0, zr 113), (1, zi l1)] [] zSh μ _ _ _) ∧ ((μ 113 9) = (μ 113 8) → Ez md_6_taleFault 0 0 66 [(0, zr 113), (1, zi l1)] [] zSh μ _ _ _)) from ⟨(by omega), (by omega), fun c4 => ?_, fun c4 => ?_⟩)
      · rw [if_neg c4]
        have b5 : 0 ≤ (μ 113 9) ∧ (μ 113 9) ≤ 60 := hB 113 9
        refine Az.blk kd_6_taleFault_71 (show Ez md_6_taleFault 0 0 75 [(0, zr 113), (1, zi l1)] [zi (μ 113 9)] zSh μ _ _ _ from ?_)
        exact Ez.iret kr_6_taleFault_75 rfl (Nat.zero_le _) (Nat.zero_le _) rfl rfl
      · rw [if_pos c4]
        refine Az.blk kd_6_taleFault_66 (show Ez md_6_taleFault 0 0 75 [(0, zr 113), (1, zi l1)] [zi (-5)] zSh μ _ _ _ from ?_)
        exact Ez.iret kr_6_taleFault_75 rfl (Nat.zero_le _) (Nat.zero_le _) rfl rfl
    · rw [if_neg c1]
      refine Az.blk kd_6_taleFault_16 (show Ez md_6_taleFault 0 0 17 [(0, zr 113), (1, zi l1)] [zr 113] zSh μ _ _ _ from ?_)
      refine Az.cV (mc := md_6_readsItem) (k := 113) (n := 0) (As := []) (rest := []) kr_6_taleFault_17 zw_662 ok_6_readsItem rfl rfl rfl trivial (mz_readsItemF hB (by omega)) rfl rfl (show Ez md_6_taleFault 0 0 20 [(0, zr 113), (1, zi l1)] [zi (mm_readsItem μ).1] zSh (zup (zup (zset μ 118 ((mm_readsItem μ).2 118)) 113 9 ((mm_readsItem μ).2 113 9)) 113 10 ((mm_readsItem μ).2 113 10)) _ _ _ from ?_)
      have r6 : 0 ≤ (mm_readsItem μ).1 ∧ (mm_readsItem μ).1 ≤ 1 := mr_readsItem hB (by omega)
      have e9 : (mm_readsItem μ).1 = 0 ∨ ((zup (zup (zset μ 118 ((mm_readsItem μ).2 118)) 113 9 ((mm_readsItem μ).2 113 9)) 113 10 ((mm_readsItem μ).2 113 10)) 113 10) = (μ 113 10) + 1 := mi_readsItem
      refine Az.blk kd_6_taleFault_20 (show zR (mm_readsItem μ).1 ∧ ((¬ (mm_readsItem μ).1 = 0 → Ez md_6_taleFault 0 0 28 [(0, zr 113), (1, zi l1)] [] zSh (zup (zup (zset μ 118 ((mm_readsItem μ).2 118)) 113 9 ((mm_readsItem μ).2 113 9)) 113 10 ((mm_readsItem μ).2 113 10)) _ _ _) ∧ ((mm_readsItem μ).1 = 0 → Ez md_6_taleFault 0 0 23 [(0, zr 113), (1, zi l1)] [] zSh (zup (zup (zset μ 118 ((mm_readsItem μ).2 118)) 113 9 ((mm_readsItem μ).2 113 9)) 113 10 ((mm_readsItem μ).2 113 10)) _ _ _)) from ⟨(by omega), fun c7 => ?_, fun c7 => ?_⟩)
      · rw [if_neg c7]
        have b8 : 0 ≤ ((zup (zup (zset μ 118 ((mm_readsItem μ).2 118)) 113 9 ((mm_readsItem μ).2 113 9)) 113 10 ((mm_readsItem μ).2 113 10)) 113 10) ∧ ((zup (zup (zset μ 118 ((mm_readsItem μ).2 118)) 113 9 ((mm_readsItem μ).2 113 9)) 113 10 ((mm_readsItem μ).2 113 10)) 113 10) ≤ 20 := (mb_readsItemF hB (by omega)) 113 10
        refine Az.blk kd_6_taleFault_28 (show zR ((zup (zup (zset μ 118 ((mm_readsItem μ).2 118)) 113 9 ((mm_readsItem μ).2 113 9)) 113 10 ((mm_readsItem μ).2 113 10)) 113 10) ∧ zR 20 ∧ ((¬ ((zup (zup (zset μ 118 ((mm_readsItem μ).2 118)) 113 9 ((mm_readsItem μ).2 113 9)) 113 10 ((mm_readsItem μ).2 113 10)) 113 10) < 20 → Ez md_6_taleFault 0 0 50 [(0, zr 113), (1, zi l1)] [] zSh (zup (zup (zset μ 118 ((mm_readsItem μ).2 118)) 113 9 ((mm_readsItem μ).2 113 9)) 113 10 ((mm_readsItem μ).2 113 10)) _ _ _) ∧ (((zup (zup (zset μ 118 ((mm_readsItem μ).2 118)) 113 9 ((mm_readsItem μ).2 113 9)) 113 10 ((mm_readsItem μ).2 113 10)) 113 10) < 20 → Ez md_6_taleFault 0 0 37 [(0, zr 113), (1, zi l1)] [] zSh (zup (zup (zset μ 118 ((mm_readsItem μ).2 118)) 113 9 ((mm_readsItem μ).2 113 9)) 113 10 ((mm_readsItem μ).2 113 10)) _ _ _)) from ⟨(by omega), (by omega), fun c9 => ?_, fun c9 => ?_⟩)
        · rw [if_neg c9]
          refine Az.blk kd_6_taleFault_50 (show Ez md_6_taleFault 0 0 12 [(1, zi 0), (0, zr 113)] [] zSh (zup (zup (zset μ 118 ((mm_readsItem μ).2 118)) 113 9 ((mm_readsItem μ).2 113 9)) 113 10 ((mm_readsItem μ).2 113 10)) _ _ _ from ?_)
          have b10 : 0 ≤ ((zup (zup (zset μ 118 ((mm_readsItem μ).2 118)) 113 9 ((mm_readsItem μ).2 113 9)) 113 10 ((mm_readsItem μ).2 113 10)) 113 10) ∧ ((zup (zup (zset μ 118 ((mm_readsItem μ).2 118)) 113 9 ((mm_readsItem μ).2 113 9)) 113 10 ((mm_readsItem μ).2 113 10)) 113 10) ≤ 20 := (mb_readsItemF hB (by omega)) 113 10
          refine Az.lvs (lv' := [(0, zr 113), (1, zi 0)]) ?_ ?_
          · intro q hq; simp only [List.mem_cons, List.not_mem_nil, or_false] at hq; rcases hq with rfl | rfl <;> rfl
          exact ih ((zup (zup (zset μ 118 ((mm_readsItem μ).2 118)) 113 9 ((mm_readsItem μ).2 113 9)) 113 10 ((mm_readsItem μ).2 113 10))) (mb_readsItemF hB (by omega)) 0 (show 0 ≤ ((zup (zup (zset μ 118 ((mm_readsItem μ).2 118)) 113 9 ((mm_readsItem μ).2 113 9)) 113 10 ((mm_readsItem μ).2 113 10)) 113 10) ∧ ((zup (zup (zset μ 118 ((mm_readsItem μ).2 118)) 113 9 ((mm_readsItem μ).2 113 9)) 113 10 ((mm_readsItem μ).2 113 10)) 113 10) ≤ 20 from by omega) (by omega) (show (0 = 1 → ((zup (zup (zset μ 118 ((mm_readsItem μ).2 118)) 113 9 ((mm_readsItem μ).2 113 9)) 113 10 ((mm_readsItem μ).2 113 10)) 113 10) ≤ 19) from by omega) (show 21 - ((zup (zup (zset μ 118 ((mm_readsItem μ).2 118)) 113 9 ((mm_readsItem μ).2 113 9)) 113 10 ((mm_readsItem μ).2 113 10)) 113 10) + 0 < ((f : Nat) : Int) from by omega)
        · rw [if_pos c9]
          refine Az.blk kd_6_taleFault_37 (show Ez md_6_taleFault 0 0 40 [(0, zr 113), (1, zi l1)] [zi 32, zr 113] zSh (zup (zup (zset μ 118 ((mm_readsItem μ).2 118)) 113 9 ((mm_readsItem μ).2 113 9)) 113 10 ((mm_readsItem μ).2 113 10)) _ _ _ from ?_)
          refine Az.cV (mc := md_6_takesOne) (k := 113) (n := 1) (As := [zi 32]) (rest := []) kr_6_taleFault_40 zw_666 ok_6_takesOne rfl rfl rfl trivial (mz_takesOneF (mb_readsItemF hB (by omega)) 32 (by omega)) rfl rfl (show Ez md_6_taleFault 0 0 43 [(0, zr 113), (1, zi l1)] [zi (mm_takesOne (zup (zup (zset μ 118 ((mm_readsItem μ).2 118)) 113 9 ((mm_readsItem μ).2 113 9)) 113 10 ((mm_readsItem μ).2 113 10)) 32).1] zSh (zup (zup (zup (zset μ 118 ((mm_readsItem μ).2 118)) 113 9 ((mm_readsItem μ).2 113 9)) 113 10 ((mm_readsItem μ).2 113 10)) 113 9 ((mm_takesOne (zup (zup (zset μ 118 ((mm_readsItem μ).2 118)) 113 9 ((mm_readsItem μ).2 113 9)) 113 10 ((mm_readsItem μ).2 113 10)) 32).2 113 9)) _ _ _ from ?_)
          have r11 : 0 ≤ (mm_takesOne (zup (zup (zset μ 118 ((mm_readsItem μ).2 118)) 113 9 ((mm_readsItem μ).2 113 9)) 113 10 ((mm_readsItem μ).2 113 10)) 32).1 ∧ (mm_takesOne (zup (zup (zset μ 118 ((mm_readsItem μ).2 118)) 113 9 ((mm_readsItem μ).2 113 9)) 113 10 ((mm_readsItem μ).2 113 10)) 32).1 ≤ 1 := mr_takesOne (mb_readsItemF hB (by omega)) 32 (by omega)
          refine Az.blk kd_6_taleFault_43 (show zR (mm_takesOne (zup (zup (zset μ 118 ((mm_readsItem μ).2 118)) 113 9 ((mm_readsItem μ).2 113 9)) 113 10 ((mm_readsItem μ).2 113 10)) 32).1 ∧ (((mm_takesOne (zup (zup (zset μ 118 ((mm_readsItem μ).2 118)) 113 9 ((mm_readsItem μ).2 113 9)) 113 10 ((mm_readsItem μ).2 113 10)) 32).1 = 0 → Ez md_6_taleFault 0 0 50 [(0, zr 113), (1, zi l1)] [] zSh (zup (zup (zup (zset μ 118 ((mm_readsItem μ).2 118)) 113 9 ((mm_readsItem μ).2 113 9)) 113 10 ((mm_readsItem μ).2 113 10)) 113 9 ((mm_takesOne (zup (zup (zset μ 118 ((mm_readsItem μ).2 118)) 113 9 ((mm_readsItem μ).2 113 9)) 113 10 ((mm_readsItem μ).2 113 10)) 32).2 113 9)) _ _ _) ∧ (¬ (mm_takesOne (zup (zup (zset μ 118 ((mm_readsItem μ).2 118)) 113 9 ((mm_readsItem μ).2 113 9)) 113 10 ((mm_readsItem μ).2 113 10)) 32).1 = 0 → Ez md_6_taleFault 0 0 46 [(0, zr 113), (1, zi l1)] [] zSh (zup (zup (zup (zset μ 118 ((mm_readsItem μ).2 118)) 113 9 ((mm_readsItem μ).2 113 9)) 113 10 ((mm_readsItem μ).2 113 10)) 113 9 ((mm_takesOne (zup (zup (zset μ 118 ((mm_readsItem μ).2 118)) 113 9 ((mm_readsItem μ).2 113 9)) 113 10 ((mm_readsItem μ).2 113 10)) 32).2 113 9)) _ _ _)) from ⟨(by omega), fun c12 => ?_, fun c12 => ?_⟩)
          · rw [if_pos c12]
            refine Az.blk kd_6_taleFault_50 (show Ez md_6_taleFault 0 0 12 [(1, zi 0), (0, zr 113)] [] zSh (zup (zup (zup (zset μ 118 ((mm_readsItem μ).2 118)) 113 9 ((mm_readsItem μ).2 113 9)) 113 10 ((mm_readsItem μ).2 113 10)) 113 9 ((mm_takesOne (zup (zup (zset μ 118 ((mm_readsItem μ).2 118)) 113 9 ((mm_readsItem μ).2 113 9)) 113 10 ((mm_readsItem μ).2 113 10)) 32).2 113 9)) _ _ _ from ?_)
            have b13 : 0 ≤ ((zup (zup (zset μ 118 ((mm_readsItem μ).2 118)) 113 9 ((mm_readsItem μ).2 113 9)) 113 10 ((mm_readsItem μ).2 113 10)) 113 10) ∧ ((zup (zup (zset μ 118 ((mm_readsItem μ).2 118)) 113 9 ((mm_readsItem μ).2 113 9)) 113 10 ((mm_readsItem μ).2 113 10)) 113 10) ≤ 20 := (mb_readsItemF hB (by omega)) 113 10
            refine Az.lvs (lv' := [(0, zr 113), (1, zi 0)]) ?_ ?_
            · intro q hq; simp only [List.mem_cons, List.not_mem_nil, or_false] at hq; rcases hq with rfl | rfl <;> rfl
            exact ih ((zup (zup (zup (zset μ 118 ((mm_readsItem μ).2 118)) 113 9 ((mm_readsItem μ).2 113 9)) 113 10 ((mm_readsItem μ).2 113 10)) 113 9 ((mm_takesOne (zup (zup (zset μ 118 ((mm_readsItem μ).2 118)) 113 9 ((mm_readsItem μ).2 113 9)) 113 10 ((mm_readsItem μ).2 113 10)) 32).2 113 9))) (mb_takesOneF (mb_readsItemF hB (by omega)) 32 (by omega)) 0 (show 0 ≤ ((zup (zup (zset μ 118 ((mm_readsItem μ).2 118)) 113 9 ((mm_readsItem μ).2 113 9)) 113 10 ((mm_readsItem μ).2 113 10)) 113 10) ∧ ((zup (zup (zset μ 118 ((mm_readsItem μ).2 118)) 113 9 ((mm_readsItem μ).2 113 9)) 113 10 ((mm_readsItem μ).2 113 10)) 113 10) ≤ 20 from by omega) (by omega) (show (0 = 1 → ((zup (zup (zset μ 118 ((mm_readsItem μ).2 118)) 113 9 ((mm_readsItem μ).2 113 9)) 113 10 ((mm_readsItem μ).2 113 10)) 113 10) ≤ 19) from by omega) (show 21 - ((zup (zup (zset μ 118 ((mm_readsItem μ).2 118)) 113 9 ((mm_readsItem μ).2 113 9)) 113 10 ((mm_readsItem μ).2 113 10)) 113 10) + 0 < ((f : Nat) : Int) from by omega)
          · rw [if_neg c12]
            refine Az.blk kd_6_taleFault_46 (show Ez md_6_taleFault 0 0 51 [(0, zr 113), (1, zi l1)] [zi 1] zSh (zup (zup (zup (zset μ 118 ((mm_readsItem μ).2 118)) 113 9 ((mm_readsItem μ).2 113 9)) 113 10 ((mm_readsItem μ).2 113 10)) 113 9 ((mm_takesOne (zup (zup (zset μ 118 ((mm_readsItem μ).2 118)) 113 9 ((mm_readsItem μ).2 113 9)) 113 10 ((mm_readsItem μ).2 113 10)) 32).2 113 9)) _ _ _ from ?_)
            refine Az.blk kd_6_taleFault_51 (show Ez md_6_taleFault 0 0 12 [(1, zi 1), (0, zr 113)] [] zSh (zup (zup (zup (zset μ 118 ((mm_readsItem μ).2 118)) 113 9 ((mm_readsItem μ).2 113 9)) 113 10 ((mm_readsItem μ).2 113 10)) 113 9 ((mm_takesOne (zup (zup (zset μ 118 ((mm_readsItem μ).2 118)) 113 9 ((mm_readsItem μ).2 113 9)) 113 10 ((mm_readsItem μ).2 113 10)) 32).2 113 9)) _ _ _ from ?_)
            have b14 : 0 ≤ ((zup (zup (zset μ 118 ((mm_readsItem μ).2 118)) 113 9 ((mm_readsItem μ).2 113 9)) 113 10 ((mm_readsItem μ).2 113 10)) 113 10) ∧ ((zup (zup (zset μ 118 ((mm_readsItem μ).2 118)) 113 9 ((mm_readsItem μ).2 113 9)) 113 10 ((mm_readsItem μ).2 113 10)) 113 10) ≤ 20 := (mb_readsItemF hB (by omega)) 113 10
            refine Az.lvs (lv' := [(0, zr 113), (1, zi 1)]) ?_ ?_
            · intro q hq; simp only [List.mem_cons, List.not_mem_nil, or_false] at hq; rcases hq with rfl | rfl <;> rfl
            exact ih ((zup (zup (zup (zset μ 118 ((mm_readsItem μ).2 118)) 113 9 ((mm_readsItem μ).2 113 9)) 113 10 ((mm_readsItem μ).2 113 10)) 113 9 ((mm_takesOne (zup (zup (zset μ 118 ((mm_readsItem μ).2 118)) 113 9 ((mm_readsItem μ).2 113 9)) 113 10 ((mm_readsItem μ).2 113 10)) 32).2 113 9))) (mb_takesOneF (mb_readsItemF hB (by omega)) 32 (by omega)) 1 (show 0 ≤ ((zup (zup (zset μ 118 ((mm_readsItem μ).2 118)) 113 9 ((mm_readsItem μ).2 113 9)) 113 10 ((mm_readsItem μ).2 113 10)) 113 10) ∧ ((zup (zup (zset μ 118 ((mm_readsItem μ).2 118)) 113 9 ((mm_readsItem μ).2 113 9)) 113 10 ((mm_readsItem μ).2 113 10)) 113 10) ≤ 20 from by omega) (by omega) (show (1 = 1 → ((zup (zup (zset μ 118 ((mm_readsItem μ).2 118)) 113 9 ((mm_readsItem μ).2 113 9)) 113 10 ((mm_readsItem μ).2 113 10)) 113 10) ≤ 19) from by omega) (show 21 - ((zup (zup (zset μ 118 ((mm_readsItem μ).2 118)) 113 9 ((mm_readsItem μ).2 113 9)) 113 10 ((mm_readsItem μ).2 113 10)) 113 10) + 1 < ((f : Nat) : Int) from by omega)
      · rw [if_pos c7]
        have b15 : 0 ≤ ((zup (zup (zset μ 118 ((mm_readsItem μ).2 118)) 113 9 ((mm_readsItem μ).2 113 9)) 113 10 ((mm_readsItem μ).2 113 10)) 113 9) ∧ ((zup (zup (zset μ 118 ((mm_readsItem μ).2 118)) 113 9 ((mm_readsItem μ).2 113 9)) 113 10 ((mm_readsItem μ).2 113 10)) 113 9) ≤ 60 := (mb_readsItemF hB (by omega)) 113 9
        refine Az.blk kd_6_taleFault_23 (show Ez md_6_taleFault 0 0 27 [(0, zr 113), (1, zi l1)] [zi ((zup (zup (zset μ 118 ((mm_readsItem μ).2 118)) 113 9 ((mm_readsItem μ).2 113 9)) 113 10 ((mm_readsItem μ).2 113 10)) 113 9)] zSh (zup (zup (zset μ 118 ((mm_readsItem μ).2 118)) 113 9 ((mm_readsItem μ).2 113 9)) 113 10 ((mm_readsItem μ).2 113 10)) _ _ _ from ?_)
        exact Ez.iret kr_6_taleFault_27 rfl (Nat.zero_le _) (Nat.zero_le _) rfl rfl
set_option maxHeartbeats 4000000 in
set_option maxRecDepth 100000 in
theorem mz_taleFault {μ : zM} (hB : zB μ)  : Dz md_6_taleFault [zr 113] zSh μ (some (zi (mm_taleFault μ).1)) zSh (mm_taleFault μ).2 := by
  refine Dz.of (by decide) rfl rfl (show Ez md_6_taleFault 0 0 0 [(0, zr 113)] [] zSh μ (some (zi (mm_taleFault μ).1)) zSh (mm_taleFault μ).2 from ?_)
  unfold mm_taleFault
  have e8 : 0 ≤ (μ 113 8) ∧ (μ 113 8) ≤ 60 := hB 113 8
  refine Az.blk kd_6_taleFault_0 (show Ez md_6_taleFault 0 0 12 [(1, zi 1), (0, zr 113)] [] zSh (zup (zup μ 113 9 0) 113 10 0) _ _ _ from ?_)
  refine Az.lvs (lv' := [(0, zr 113), (1, zi 1)]) ?_ ?_
  · intro q hq; simp only [List.mem_cons, List.not_mem_nil, or_false] at hq; rcases hq with rfl | rfl <;> rfl
  have fb : (3000 : Int) ≤ ((zN : Nat) : Int) := zN_big
  exact mz_taleFault_12 zN ((zup (zup μ 113 9 0) 113 10 0)) (zup_ok (k := 113) (z := 10) (v := 0) (zup_ok (k := 113) (z := 9) (v := 0) hB (show 0 ≤ 0 ∧ 0 ≤ 60 from by omega)) (show 0 ≤ 0 ∧ 0 ≤ 20 from by omega)) 1 (show 0 ≤ 0 ∧ 0 ≤ 20 from by omega) (by omega) (show (1 = 1 → 0 ≤ 19) from by omega) (show 21 - 0 + 1 < ((zN : Nat) : Int) from by omega)
theorem mf_taleFault_12 : ∀ (f : Nat) (μ : zM) (l1 : Int), (∀ k', k' ≠ 113 → k' ≠ 118 → (mm_taleFault_12 f μ l1).2 k' = μ k') ∧ ∀ z', z' ≠ 9 → z' ≠ 10 → (mm_taleFault_12 f μ l1).2 113 z' = μ 113 z'
  | 0, _, _ => ⟨fun _ _ _ => rfl, fun _ _ _ => rfl⟩
  | f + 1, μ, l1 => by
    rw [mm_taleFault_12]
    repeat' split
    all_goals first
      | exact ⟨fun _ _ _ => rfl, fun _ _ _ => rfl⟩
      | exact ⟨fun k' h1 h2 => by rw [(mf_taleFault_12 f _ _).1 k' h1 h2]; funext z'; simp [zup_ap, zset_ne, h1, h2], fun z' h1 h2 => by rw [(mf_taleFault_12 f _ _).2 z' h1 h2]; simp [zup_ap, zset_ne, h1, h2]⟩
      | exact ⟨fun k' h1 h2 => by funext z'; simp [zup_ap, zset_ne, h1, h2], fun z' h1 h2 => by simp [zup_ap, zset_ne, h1, h2]⟩
theorem mf_taleFault {μ : zM} : (mm_taleFault μ).2 = (zup (zup (zset μ 118 ((mm_taleFault μ).2 118)) 113 9 ((mm_taleFault μ).2 113 9)) 113 10 ((mm_taleFault μ).2 113 10)) :=
  zfr2_of (fun k' h1 h2 => ((mf_taleFault_12 _ _ _).1 k' h1 h2).trans (by funext z'; simp [zup_ap, h1])) (fun z' h1 h2 => ((mf_taleFault_12 _ _ _).2 z' h1 h2).trans (by simp [zup_ap, h1, h2]))
theorem mb_taleFaultF {μ : zM} (hB : zB μ)  : zB (zup (zup (zset μ 118 ((mm_taleFault μ).2 118)) 113 9 ((mm_taleFault μ).2 113 9)) 113 10 ((mm_taleFault μ).2 113 10)) := by
  rw [← mf_taleFault]
  exact mb_taleFault hB  
theorem mz_taleFaultF {μ : zM} (hB : zB μ)  : Dz md_6_taleFault [zr 113] zSh μ (some (zi (mm_taleFault μ).1)) zSh (zup (zup (zset μ 118 ((mm_taleFault μ).2 118)) 113 9 ((mm_taleFault μ).2 113 9)) 113 10 ((mm_taleFault μ).2 113 10)) := by
  have h := mz_taleFault hB  
  rw [← mf_taleFault]
  exact h
