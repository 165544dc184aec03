/-! isWordy -/
def kb_6_isWordy_34 : List zI := [(.iload 6, 2, 0, 0), (.iload 5, 2, 0, 0), (.if_icmp .ge 40, 3, 78, 0)]
theorem kd_6_isWordy_34 : zdec md_6_isWordy 34 kb_6_isWordy_34 = true := by decide +kernel
def kb_6_isWordy_41 : List zI := [(.iload 4, 2, 0, 0), (.ifCond .eq 26, 3, 69, 0)]
theorem kd_6_isWordy_41 : zdec md_6_isWordy 41 kb_6_isWordy_41 = true := by decide +kernel
def kb_6_isWordy_46 : List zI := [(.aload_n 0, 1, 0, 0), (.aload_n 1, 1, 0, 0), (.iload_n 3, 1, 0, 0), (.iconst 3, 1, 0, 0), (.iload 6, 2, 0, 0), (.imul, 1, 0, 0), (.ishr, 1, 0, 0), (.bipush 26, 2, 0, 0)]
theorem kd_6_isWordy_46 : zdec md_6_isWordy 46 kb_6_isWordy_46 = true := by decide +kernel
theorem kr_6_isWordy_56 : decode md_6_isWordy.2.1 56 = .ok (.invokestatic 19, 3) := by decide +kernel
theorem kr_6_isWordy_59 : decode md_6_isWordy.2.1 59 = .ok (.invokestatic 25, 3) := by decide +kernel
def kb_6_isWordy_62 : List zI := [(.ifCond .eq 7, 3, 69, 0)]
theorem kd_6_isWordy_62 : zdec md_6_isWordy 62 kb_6_isWordy_62 = true := by decide +kernel
def kb_6_isWordy_65 : List zI := [(.iconst 1, 1, 0, 0), (.goto 4, 3, 70, 0)]
theorem kd_6_isWordy_65 : zdec md_6_isWordy 65 kb_6_isWordy_65 = true := by decide +kernel
def kb_6_isWordy_70 : List zI := [(.istore 4, 2, 0, 0), (.iinc 6 1, 3, 0, 0), (.goto (-41), 3, 34, 0)]
theorem kd_6_isWordy_70 : zdec md_6_isWordy 70 kb_6_isWordy_70 = true := by decide +kernel
def kb_6_isWordy_105 : List zI := [(.aload_n 0, 1, 0, 0), (.iconst 0, 1, 0, 0)]
theorem kd_6_isWordy_105 : zdec md_6_isWordy 105 kb_6_isWordy_105 = true := by decide +kernel
theorem kr_6_isWordy_107 : decode md_6_isWordy.2.1 107 = .ok (.invokevirtual 29, 3) := by decide +kernel
def kb_6_isWordy_110 : List zI := [(.istore 8, 2, 0, 0), (.aload_n 0, 1, 0, 0), (.iload 6, 2, 0, 0), (.iload 7, 2, 0, 0)]
theorem kd_6_isWordy_110 : zdec md_6_isWordy 110 kb_6_isWordy_110 = true := by decide +kernel
theorem kr_6_isWordy_117 : decode md_6_isWordy.2.1 117 = .ok (.invokevirtual 33, 3) := by decide +kernel
def kb_6_isWordy_120 : List zI := [(.istore 9, 2, 0, 0), (.iload 4, 2, 0, 0), (.ifCond .eq 92, 3, 216, 0)]
theorem kd_6_isWordy_120 : zdec md_6_isWordy 120 kb_6_isWordy_120 = true := by decide +kernel
def kb_6_isWordy_127 : List zI := [(.iload 9, 2, 0, 0), (.aload_n 1, 1, 0, 0), (.iload 6, 2, 0, 0), (.iload 7, 2, 0, 0)]
theorem kd_6_isWordy_127 : zdec md_6_isWordy 127 kb_6_isWordy_127 = true := by decide +kernel
theorem kr_6_isWordy_134 : decode md_6_isWordy.2.1 134 = .ok (.invokevirtual 33, 3) := by decide +kernel
theorem kr_6_isWordy_137 : decode md_6_isWordy.2.1 137 = .ok (.if_icmp .ne 79, 3) := by decide +kernel
def kb_6_isWordy_140 : List zI := [(.iload 9, 2, 0, 0), (.iload 8, 2, 0, 0), (.bipush 24, 2, 0, 0), (.if_icmp .ne 8, 3, 154, 0)]
theorem kd_6_isWordy_140 : zdec md_6_isWordy 140 kb_6_isWordy_140 = true := by decide +kernel
def kb_6_isWordy_154 : List zI := [(.iload 8, 2, 0, 0)]
theorem kd_6_isWordy_154 : zdec md_6_isWordy 154 kb_6_isWordy_154 = true := by decide +kernel
theorem kr_6_isWordy_156 : decode md_6_isWordy.2.1 156 = .ok (.if_icmp .ne 60, 3) := by decide +kernel
def kb_6_isWordy_159 : List zI := [(.iload 8, 2, 0, 0), (.bipush 24, 2, 0, 0), (.if_icmp .eq 49, 3, 212, 0)]
theorem kd_6_isWordy_159 : zdec md_6_isWordy 159 kb_6_isWordy_159 = true := by decide +kernel
def kb_6_isWordy_166 : List zI := [(.aload_n 0, 1, 0, 0), (.iload 8, 2, 0, 0), (.iconst 0, 1, 0, 0)]
theorem kd_6_isWordy_166 : zdec md_6_isWordy 166 kb_6_isWordy_166 = true := by decide +kernel
theorem kr_6_isWordy_170 : decode md_6_isWordy.2.1 170 = .ok (.invokevirtual 36, 3) := by decide +kernel
def kb_6_isWordy_173 : List zI := [(.iload 6, 2, 0, 0)]
theorem kd_6_isWordy_173 : zdec md_6_isWordy 173 kb_6_isWordy_173 = true := by decide +kernel
theorem kr_6_isWordy_175 : decode md_6_isWordy.2.1 175 = .ok (.if_icmp .ne 41, 3) := by decide +kernel
def kb_6_isWordy_178 : List zI := [(.aload_n 0, 1, 0, 0), (.iload 8, 2, 0, 0), (.iconst 1, 1, 0, 0)]
theorem kd_6_isWordy_178 : zdec md_6_isWordy 178 kb_6_isWordy_178 = true := by decide +kernel
theorem kr_6_isWordy_182 : decode md_6_isWordy.2.1 182 = .ok (.invokevirtual 36, 3) := by decide +kernel
def kb_6_isWordy_185 : List zI := [(.iload 7, 2, 0, 0)]
theorem kd_6_isWordy_185 : zdec md_6_isWordy 185 kb_6_isWordy_185 = true := by decide +kernel
theorem kr_6_isWordy_187 : decode md_6_isWordy.2.1 187 = .ok (.if_icmp .ne 29, 3) := by decide +kernel
def kb_6_isWordy_190 : List zI := [(.aload_n 0, 1, 0, 0), (.iload 8, 2, 0, 0), (.iconst 2, 1, 0, 0)]
theorem kd_6_isWordy_190 : zdec md_6_isWordy 190 kb_6_isWordy_190 = true := by decide +kernel
theorem kr_6_isWordy_194 : decode md_6_isWordy.2.1 194 = .ok (.invokevirtual 36, 3) := by decide +kernel
def kb_6_isWordy_197 : List zI := [(.iload 5, 2, 0, 0)]
theorem kd_6_isWordy_197 : zdec md_6_isWordy 197 kb_6_isWordy_197 = true := by decide +kernel
theorem kr_6_isWordy_199 : decode md_6_isWordy.2.1 199 = .ok (.if_icmp .ne 17, 3) := by decide +kernel
def kb_6_isWordy_202 : List zI := [(.aload_n 0, 1, 0, 0), (.iload 8, 2, 0, 0), (.iconst 3, 1, 0, 0)]
theorem kd_6_isWordy_202 : zdec md_6_isWordy 202 kb_6_isWordy_202 = true := by decide +kernel
theorem kr_6_isWordy_206 : decode md_6_isWordy.2.1 206 = .ok (.invokevirtual 36, 3) := by decide +kernel
def kb_6_isWordy_209 : List zI := [(.ifCond .ne 7, 3, 216, 0)]
theorem kd_6_isWordy_209 : zdec md_6_isWordy 209 kb_6_isWordy_209 = true := by decide +kernel
def kb_6_isWordy_212 : List zI := [(.iconst 1, 1, 0, 0), (.goto 4, 3, 217, 0)]
theorem kd_6_isWordy_212 : zdec md_6_isWordy 212 kb_6_isWordy_212 = true := by decide +kernel
theorem kr_6_isWordy_217 : decode md_6_isWordy.2.1 217 = .ok (.ireturn, 1) := by decide +kernel
def kb_6_isWordy_149 : List zI := [(.bipush (-3), 2, 0, 0), (.goto 5, 3, 156, 0)]
theorem kd_6_isWordy_149 : zdec md_6_isWordy 149 kb_6_isWordy_149 = true := by decide +kernel
def kb_6_isWordy_78 : List zI := [(.iload_n 2, 1, 0, 0), (.iconst 3, 1, 0, 0), (.ishr, 1, 0, 0), (.iconst 3, 1, 0, 0)]
theorem kd_6_isWordy_78 : zdec md_6_isWordy 78 kb_6_isWordy_78 = true := by decide +kernel
theorem kr_6_isWordy_82 : decode md_6_isWordy.2.1 82 = .ok (.invokestatic 19, 3) := by decide +kernel
def kb_6_isWordy_85 : List zI := [(.istore 6, 2, 0, 0), (.iload 6, 2, 0, 0), (.ifCond .ne 13, 3, 102, 0)]
theorem kd_6_isWordy_85 : zdec md_6_isWordy 85 kb_6_isWordy_85 = true := by decide +kernel
def kb_6_isWordy_92 : List zI := [(.iload_n 2, 1, 0, 0), (.iconst 5, 1, 0, 0), (.ishr, 1, 0, 0), (.iconst 3, 1, 0, 0)]
theorem kd_6_isWordy_92 : zdec md_6_isWordy 92 kb_6_isWordy_92 = true := by decide +kernel
theorem kr_6_isWordy_96 : decode md_6_isWordy.2.1 96 = .ok (.invokestatic 19, 3) := by decide +kernel
def kb_6_isWordy_99 : List zI := [(.goto 4, 3, 103, 0)]
theorem kd_6_isWordy_99 : zdec md_6_isWordy 99 kb_6_isWordy_99 = true := by decide +kernel
def kb_6_isWordy_103 : List zI := [(.istore 7, 2, 0, 0)]
theorem kd_6_isWordy_103 : zdec md_6_isWordy 103 kb_6_isWordy_103 = true := by decide +kernel
def kb_6_isWordy_0 : List zI := [(.aload_n 0, 1, 0, 0)]
theorem kd_6_isWordy_0 : zdec md_6_isWordy 0 kb_6_isWordy_0 = true := by decide +kernel
theorem kr_6_isWordy_1 : decode md_6_isWordy.2.1 1 = .ok (.invokevirtual 15, 3) := by decide +kernel
def kb_6_isWordy_4 : List zI := [(.ifCond .lt 14, 3, 18, 0)]
theorem kd_6_isWordy_4 : zdec md_6_isWordy 4 kb_6_isWordy_4 = true := by decide +kernel
def kb_6_isWordy_7 : List zI := [(.aload_n 1, 1, 0, 0)]
theorem kd_6_isWordy_7 : zdec md_6_isWordy 7 kb_6_isWordy_7 = true := by decide +kernel
theorem kr_6_isWordy_8 : decode md_6_isWordy.2.1 8 = .ok (.invokevirtual 15, 3) := by decide +kernel
def kb_6_isWordy_11 : List zI := [(.ifCond .lt 7, 3, 18, 0)]
theorem kd_6_isWordy_11 : zdec md_6_isWordy 11 kb_6_isWordy_11 = true := by decide +kernel
def kb_6_isWordy_14 : List zI := [(.iconst 1, 1, 0, 0), (.goto 4, 3, 19, 0)]
theorem kd_6_isWordy_14 : zdec md_6_isWordy 14 kb_6_isWordy_14 = true := by decide +kernel
def kb_6_isWordy_19 : List zI := [(.istore 4, 2, 0, 0), (.iconst 1, 1, 0, 0), (.iload_n 2, 1, 0, 0), (.bipush 8, 2, 0, 0)]
theorem kd_6_isWordy_19 : zdec md_6_isWordy 19 kb_6_isWordy_19 = true := by decide +kernel
theorem kr_6_isWordy_25 : decode md_6_isWordy.2.1 25 = .ok (.invokestatic 19, 3) := by decide +kernel
def kb_6_isWordy_28 : List zI := [(.iadd, 1, 0, 0), (.istore 5, 2, 0, 0), (.iconst 0, 1, 0, 0), (.istore 6, 2, 0, 0)]
theorem kd_6_isWordy_28 : zdec md_6_isWordy 28 kb_6_isWordy_28 = true := by decide +kernel
def kb_6_isWordy_102 : List zI := [(.iconst 0, 1, 0, 0), (.istore 7, 2, 0, 0)]
theorem kd_6_isWordy_102 : zdec md_6_isWordy 102 kb_6_isWordy_102 = true := by decide +kernel
theorem iw_loop {x y n : Int} (hn : 1 ≤ n ∧ n ≤ 8) : ∀ (d : Nat) (k : Int) (μ ν : zM), R2 μ ν → TW μ ν k → 0 ≤ k → k + d = n → ∃ μ' ν' : zM, R2 μ' ν' ∧ TW μ' ν' n ∧ ∀ {v : Option zV} {M : zM}, Ez md_6_isWordy 0 0 78 [(0, zr 0), (1, zr 113), (2, zi x), (3, zi y), (4, zi 1), (5, zi n)] [] zSp (cmb μ' ν') v zSp M → Ez md_6_isWordy 0 0 34 [(0, zr 0), (1, zr 113), (2, zi x), (3, zi y), (4, zi 1), (5, zi n), (6, zi k)] [] zSp (cmb μ ν) v zSp M := by
  intro d
  induction d with
  | zero =>
    intro k μ ν R T k0 hk
    refine ⟨μ, ν, R, by rw [show n = k by omega]; exact T, fun {v M} kk => ?_⟩
    refine Az.blk kd_6_isWordy_34 (show zR k ∧ zR n ∧ ((¬ k < n → Ez md_6_isWordy 0 0 78 [(0, zr 0), (1, zr 113), (2, zi x), (3, zi y), (4, zi 1), (5, zi n), (6, zi k)] [] zSp (cmb μ ν) _ _ _) ∧ (k < n → Ez md_6_isWordy 0 0 41 [(0, zr 0), (1, zr 113), (2, zi x), (3, zi y), (4, zi 1), (5, zi n), (6, zi k)] [] zSp (cmb μ ν) _ _ _)) from ⟨(by omega), (by omega), fun _ => ?_, fun h => absurd h (show ¬ k < n by omega)⟩)
    refine Az.lvs (lv' := [(0, zr 0), (1, zr 113), (2, zi x), (3, zi y), (4, zi 1), (5, zi n)]) ?_ ?_
    · intro q hq; simp only [List.mem_cons, List.not_mem_nil, or_false] at hq; rcases hq with rfl | rfl | rfl | rfl | rfl | rfl <;> rfl
    exact kk
  | succ d ih =>
    intro k μ ν R T k0 hk
    obtain ⟨l, hl⟩ : ∃ l, l = lup (zshr y (3 * k)) 26 := ⟨_, rfl⟩
    have lr := lup_r (zshr y (3 * k)) (n := 26) (by decide)
    have lr2 : 0 ≤ l ∧ l ≤ 25 := by rw [hl]; omega
    have sr : 97 ≤ nsg (97 + l) ∧ nsg (97 + l) ≤ 122 := by have := nsg_r (x := 97 + l) (by omega) (by omega); omega
    have R1 := b_type R T.1 T.2.1 (a := 97 + l) (b := nsg (97 + l)) (by omega) (by omega) (by omega)
    have T1 := T.ty (a := 97 + l) (by omega) k0 (by omega)
    obtain ⟨μ', ν', R', T', kk'⟩ := ih (k + 1) _ _ R1 T1 (by omega) (by omega)
    refine ⟨μ', ν', R', T', fun {v M} kk => ?_⟩
    refine Az.blk kd_6_isWordy_34 (show zR k ∧ zR n ∧ ((¬ k < n → Ez md_6_isWordy 0 0 78 [(0, zr 0), (1, zr 113), (2, zi x), (3, zi y), (4, zi 1), (5, zi n), (6, zi k)] [] zSp (cmb μ ν) _ _ _) ∧ (k < n → Ez md_6_isWordy 0 0 41 [(0, zr 0), (1, zr 113), (2, zi x), (3, zi y), (4, zi 1), (5, zi n), (6, zi k)] [] zSp (cmb μ ν) _ _ _)) from ⟨(by omega), (by omega), fun h => absurd (show k < n by omega) h, fun _ => ?_⟩)
    refine Az.blk kd_6_isWordy_41 (show zR 1 ∧ (((1 : Int) = 0 → Ez md_6_isWordy 0 0 69 [(0, zr 0), (1, zr 113), (2, zi x), (3, zi y), (4, zi 1), (5, zi n), (6, zi k)] [] zSp (cmb μ ν) _ _ _) ∧ (¬ (1 : Int) = 0 → Ez md_6_isWordy 0 0 46 [(0, zr 0), (1, zr 113), (2, zi x), (3, zi y), (4, zi 1), (5, zi n), (6, zi k)] [] zSp (cmb μ ν) _ _ _)) from ⟨(by omega), fun h => absurd h (by decide), fun _ => ?_⟩)
    refine Az.blk kd_6_isWordy_46 (show Ez md_6_isWordy 0 0 56 [(0, zr 0), (1, zr 113), (2, zi x), (3, zi y), (4, zi 1), (5, zi n), (6, zi k)] [zi 26, zi (zshr y (3 * k)), zr 113, zr 0] zSp (cmb μ ν) _ _ _ from ?_)
    refine Az.cS (mc := md_6_up) (n := 2) (As := [zi (zshr y (3 * k)), zi 26]) (rest := [zr 113, zr 0]) (Sh1 := zSp) (μ1 := cmb μ ν) (w := some (zi (lup (zshr y (3 * k)) 26))) kr_6_isWordy_56 zw_180 ok_6_up rfl rfl (lz_up (zshr y (3 * k)) 26 (by omega)) rfl rfl (show Ez md_6_isWordy 0 0 59 [(0, zr 0), (1, zr 113), (2, zi x), (3, zi y), (4, zi 1), (5, zi n), (6, zi k)] [zi (lup (zshr y (3 * k)) 26), zr 113, zr 0] zSp (cmb μ ν) _ _ _ from ?_)
    rw [show (lup (zshr y (3 * k)) 26) = l from hl.symm]
    refine Az.cS (mc := md_6_both) (n := 3) (As := [zr 0, zr 113, zi l]) (rest := []) (Sh1 := zSp) (μ1 := cmb (xx_type μ (97 + l)).2 (xx_type ν (nsg (97 + l))).2) (w := some (zi 1)) kr_6_isWordy_59 zw_192 ok_6_both rfl rfl (lz_both R T.1 T.2.1 k0 (by omega) (by omega)) rfl rfl (show Ez md_6_isWordy 0 0 62 [(0, zr 0), (1, zr 113), (2, zi x), (3, zi y), (4, zi 1), (5, zi n), (6, zi k)] [zi 1] zSp (cmb (xx_type μ (97 + l)).2 (xx_type ν (nsg (97 + l))).2) _ _ _ from ?_)
    refine Az.blk kd_6_isWordy_62 (show zR 1 ∧ (((1 : Int) = 0 → Ez md_6_isWordy 0 0 69 [(0, zr 0), (1, zr 113), (2, zi x), (3, zi y), (4, zi 1), (5, zi n), (6, zi k)] [] zSp (cmb (xx_type μ (97 + l)).2 (xx_type ν (nsg (97 + l))).2) _ _ _) ∧ (¬ (1 : Int) = 0 → Ez md_6_isWordy 0 0 65 [(0, zr 0), (1, zr 113), (2, zi x), (3, zi y), (4, zi 1), (5, zi n), (6, zi k)] [] zSp (cmb (xx_type μ (97 + l)).2 (xx_type ν (nsg (97 + l))).2) _ _ _)) from ⟨(by omega), fun h => absurd h (by decide), fun _ => ?_⟩)
    refine Az.blk kd_6_isWordy_65 (show Ez md_6_isWordy 0 0 70 [(0, zr 0), (1, zr 113), (2, zi x), (3, zi y), (4, zi 1), (5, zi n), (6, zi k)] [zi 1] zSp (cmb (xx_type μ (97 + l)).2 (xx_type ν (nsg (97 + l))).2) _ _ _ from ?_)
    refine Az.blk kd_6_isWordy_70 (show Ez md_6_isWordy 0 0 34 [(6, zi (k + 1)), (4, zi 1), (0, zr 0), (1, zr 113), (2, zi x), (3, zi y), (5, zi n)] [] zSp (cmb (xx_type μ (97 + l)).2 (xx_type ν (nsg (97 + l))).2) _ _ _ from ?_)
    refine Az.lvs (lv' := [(0, zr 0), (1, zr 113), (2, zi x), (3, zi y), (4, zi 1), (5, zi n), (6, zi (k + 1))]) ?_ ?_
    · intro q hq; simp only [List.mem_cons, List.not_mem_nil, or_false] at hq; rcases hq with rfl | rfl | rfl | rfl | rfl | rfl | rfl <;> rfl
    exact kk' kk
section LAWS
variable {μ ν : zM}
theorem iw_tail {x y n k g : Int} (R : R2 μ ν) (T : TW μ ν n) (hn : 1 ≤ n ∧ n ≤ 8) (hk : 0 ≤ k ∧ k ≤ 2) (hg : 0 ≤ g ∧ g ≤ 2) (h0 : k ≠ 0 → g = 0) : Ez md_6_isWordy 0 0 105 [(0, zr 0), (1, zr 113), (2, zi x), (3, zi y), (4, zi 1), (5, zi n), (6, zi k), (7, zi g)] [] zSp (cmb μ ν) (some (zi 1)) zSp (cmb (xx_addWord μ k g).2 (xx_addWord ν k g).2) := by
  obtain ⟨a1, a2, a3, Ra⟩ := b_addWord R T hn hk hg h0
  have hb := R.N.knb
  refine Az.blk kd_6_isWordy_105 (show Ez md_6_isWordy 0 0 107 [(0, zr 0), (1, zr 113), (2, zi x), (3, zi y), (4, zi 1), (5, zi n), (6, zi k), (7, zi g)] [zi 0, zr 0] zSp (cmb μ ν) _ _ _ from ?_)
  refine Az.oV (mc := md_5_count) (n := 1) (As := [zi 0]) (rest := []) (z := (xx_count μ 0)) kr_6_isWordy_107 zw_296 ok_5_count rfl rfl rfl trivial rfl (xz_count R.B 0 (by omega)) rfl rfl (show Ez md_6_isWordy 0 0 110 [(0, zr 0), (1, zr 113), (2, zi x), (3, zi y), (4, zi 1), (5, zi n), (6, zi k), (7, zi g)] [zi (xx_count μ 0)] zSp (cmb μ ν) _ _ _ from ?_)
  rw [show (xx_count μ 0) = (μ 4 0) from rfl]
  refine Az.blk kd_6_isWordy_110 (show Ez md_6_isWordy 0 0 117 [(8, zi (μ 4 0)), (0, zr 0), (1, zr 113), (2, zi x), (3, zi y), (4, zi 1), (5, zi n), (6, zi k), (7, zi g)] [zi g, zi k, zr 0] zSp (cmb μ ν) _ _ _ from ?_)
  refine Az.oV (mc := md_5_addWord) (n := 2) (As := [zi k, zi g]) (rest := []) (z := (xx_addWord μ k g).1) kr_6_isWordy_117 zw_418 ok_5_addWord rfl rfl rfl trivial rfl (xz_addWord R.B k g R.P (by omega) (by omega)) rfl rfl (show Ez md_6_isWordy 0 0 120 [(8, zi (μ 4 0)), (0, zr 0), (1, zr 113), (2, zi x), (3, zi y), (4, zi 1), (5, zi n), (6, zi k), (7, zi g)] [zi (xx_addWord μ k g).1] zSp (cmb (xx_addWord μ k g).2 ν) _ _ _ from ?_)
  refine Az.blk kd_6_isWordy_120 (show zR 1 ∧ (((1 : Int) = 0 → Ez md_6_isWordy 0 0 216 [(9, zi (xx_addWord μ k g).1), (8, zi (μ 4 0)), (0, zr 0), (1, zr 113), (2, zi x), (3, zi y), (4, zi 1), (5, zi n), (6, zi k), (7, zi g)] [] zSp (cmb (xx_addWord μ k g).2 ν) _ _ _) ∧ (¬ (1 : Int) = 0 → Ez md_6_isWordy 0 0 127 [(9, zi (xx_addWord μ k g).1), (8, zi (μ 4 0)), (0, zr 0), (1, zr 113), (2, zi x), (3, zi y), (4, zi 1), (5, zi n), (6, zi k), (7, zi g)] [] zSp (cmb (xx_addWord μ k g).2 ν) _ _ _)) from ⟨(by omega), fun h => absurd h (by decide), fun _ => ?_⟩)
  refine Az.blk kd_6_isWordy_127 (show Ez md_6_isWordy 0 0 134 [(9, zi (xx_addWord μ k g).1), (8, zi (μ 4 0)), (0, zr 0), (1, zr 113), (2, zi x), (3, zi y), (4, zi 1), (5, zi n), (6, zi k), (7, zi g)] [zi g, zi k, zr 113, zi (xx_addWord μ k g).1] zSp (cmb (xx_addWord μ k g).2 ν) _ _ _ from ?_)
  refine Az.pV (mc := md_5_addWord) (n := 2) (As := [zi k, zi g]) (rest := [zi (xx_addWord μ k g).1]) (z := (xx_addWord ν k g).1) kr_6_isWordy_134 zw_418 ok_5_addWord rfl rfl rfl trivial rfl (xz_addWord R.B' k g R.P' (by omega) (by omega)) rfl rfl (show Ez md_6_isWordy 0 0 137 [(9, zi (xx_addWord μ k g).1), (8, zi (μ 4 0)), (0, zr 0), (1, zr 113), (2, zi x), (3, zi y), (4, zi 1), (5, zi n), (6, zi k), (7, zi g)] [zi (xx_addWord ν k g).1, zi (xx_addWord μ k g).1] zSp (cmb (xx_addWord μ k g).2 (xx_addWord ν k g).2) _ _ _ from ?_)
  refine Az.icne (tg := 216) (a := (xx_addWord μ k g).1) (b := (xx_addWord ν k g).1) kr_6_isWordy_137 (by decide) rfl (a1.trans a2.symm) (show Ez md_6_isWordy 0 0 140 [(9, zi (xx_addWord μ k g).1), (8, zi (μ 4 0)), (0, zr 0), (1, zr 113), (2, zi x), (3, zi y), (4, zi 1), (5, zi n), (6, zi k), (7, zi g)] [] zSp (cmb (xx_addWord μ k g).2 (xx_addWord ν k g).2) _ _ _ from ?_)
  refine Az.blk kd_6_isWordy_140 (show zR (μ 4 0) ∧ zR 24 ∧ ((¬ (μ 4 0) = 24 → Ez md_6_isWordy 0 0 154 [(9, zi (xx_addWord μ k g).1), (8, zi (μ 4 0)), (0, zr 0), (1, zr 113), (2, zi x), (3, zi y), (4, zi 1), (5, zi n), (6, zi k), (7, zi g)] [zi (xx_addWord μ k g).1] zSp (cmb (xx_addWord μ k g).2 (xx_addWord ν k g).2) _ _ _) ∧ ((μ 4 0) = 24 → Ez md_6_isWordy 0 0 149 [(9, zi (xx_addWord μ k g).1), (8, zi (μ 4 0)), (0, zr 0), (1, zr 113), (2, zi x), (3, zi y), (4, zi 1), (5, zi n), (6, zi k), (7, zi g)] [zi (xx_addWord μ k g).1] zSp (cmb (xx_addWord μ k g).2 (xx_addWord ν k g).2) _ _ _)) from ⟨(by omega), (by omega), fun q1 => ?_, fun q1 => ?_⟩)
  · refine Az.blk kd_6_isWordy_154 (show Ez md_6_isWordy 0 0 156 [(9, zi (xx_addWord μ k g).1), (8, zi (μ 4 0)), (0, zr 0), (1, zr 113), (2, zi x), (3, zi y), (4, zi 1), (5, zi n), (6, zi k), (7, zi g)] [zi (μ 4 0), zi (xx_addWord μ k g).1] zSp (cmb (xx_addWord μ k g).2 (xx_addWord ν k g).2) _ _ _ from ?_)
    refine Az.icne (tg := 216) (a := (xx_addWord μ k g).1) (b := (μ 4 0)) kr_6_isWordy_156 (by decide) rfl (by rw [a1, if_neg q1]) (show Ez md_6_isWordy 0 0 159 [(9, zi (xx_addWord μ k g).1), (8, zi (μ 4 0)), (0, zr 0), (1, zr 113), (2, zi x), (3, zi y), (4, zi 1), (5, zi n), (6, zi k), (7, zi g)] [] zSp (cmb (xx_addWord μ k g).2 (xx_addWord ν k g).2) _ _ _ from ?_)
    refine Az.blk kd_6_isWordy_159 (show zR (μ 4 0) ∧ zR 24 ∧ (((μ 4 0) = 24 → Ez md_6_isWordy 0 0 212 [(9, zi (xx_addWord μ k g).1), (8, zi (μ 4 0)), (0, zr 0), (1, zr 113), (2, zi x), (3, zi y), (4, zi 1), (5, zi n), (6, zi k), (7, zi g)] [] zSp (cmb (xx_addWord μ k g).2 (xx_addWord ν k g).2) _ _ _) ∧ (¬ (μ 4 0) = 24 → Ez md_6_isWordy 0 0 166 [(9, zi (xx_addWord μ k g).1), (8, zi (μ 4 0)), (0, zr 0), (1, zr 113), (2, zi x), (3, zi y), (4, zi 1), (5, zi n), (6, zi k), (7, zi g)] [] zSp (cmb (xx_addWord μ k g).2 (xx_addWord ν k g).2) _ _ _)) from ⟨(by omega), (by omega), fun h => absurd h q1, fun _ => ?_⟩)
    refine Az.blk kd_6_isWordy_166 (show Ez md_6_isWordy 0 0 170 [(9, zi (xx_addWord μ k g).1), (8, zi (μ 4 0)), (0, zr 0), (1, zr 113), (2, zi x), (3, zi y), (4, zi 1), (5, zi n), (6, zi k), (7, zi g)] [zi 0, zi (μ 4 0), zr 0] zSp (cmb (xx_addWord μ k g).2 (xx_addWord ν k g).2) _ _ _ from ?_)
    refine Az.oV (mc := md_5_word) (n := 2) (As := [zi (μ 4 0), zi 0]) (rest := []) (z := (xx_word (xx_addWord μ k g).2 (μ 4 0) 0)) kr_6_isWordy_170 zw_432 ok_5_word rfl rfl rfl trivial rfl (xz_word Ra.B (μ 4 0) 0 (by omega) (by omega)) rfl rfl (show Ez md_6_isWordy 0 0 173 [(9, zi (xx_addWord μ k g).1), (8, zi (μ 4 0)), (0, zr 0), (1, zr 113), (2, zi x), (3, zi y), (4, zi 1), (5, zi n), (6, zi k), (7, zi g)] [zi (xx_word (xx_addWord μ k g).2 (μ 4 0) 0)] zSp (cmb (xx_addWord μ k g).2 (xx_addWord ν k g).2) _ _ _ from ?_)
    refine Az.blk kd_6_isWordy_173 (show Ez md_6_isWordy 0 0 175 [(9, zi (xx_addWord μ k g).1), (8, zi (μ 4 0)), (0, zr 0), (1, zr 113), (2, zi x), (3, zi y), (4, zi 1), (5, zi n), (6, zi k), (7, zi g)] [zi k, zi (xx_word (xx_addWord μ k g).2 (μ 4 0) 0)] zSp (cmb (xx_addWord μ k g).2 (xx_addWord ν k g).2) _ _ _ from ?_)
    refine Az.icne (tg := 216) (a := (xx_word (xx_addWord μ k g).2 (μ 4 0) 0)) (b := k) kr_6_isWordy_175 (by decide) rfl ((a3 q1).1) (show Ez md_6_isWordy 0 0 178 [(9, zi (xx_addWord μ k g).1), (8, zi (μ 4 0)), (0, zr 0), (1, zr 113), (2, zi x), (3, zi y), (4, zi 1), (5, zi n), (6, zi k), (7, zi g)] [] zSp (cmb (xx_addWord μ k g).2 (xx_addWord ν k g).2) _ _ _ from ?_)
    refine Az.blk kd_6_isWordy_178 (show Ez md_6_isWordy 0 0 182 [(9, zi (xx_addWord μ k g).1), (8, zi (μ 4 0)), (0, zr 0), (1, zr 113), (2, zi x), (3, zi y), (4, zi 1), (5, zi n), (6, zi k), (7, zi g)] [zi 1, zi (μ 4 0), zr 0] zSp (cmb (xx_addWord μ k g).2 (xx_addWord ν k g).2) _ _ _ from ?_)
    refine Az.oV (mc := md_5_word) (n := 2) (As := [zi (μ 4 0), zi 1]) (rest := []) (z := (xx_word (xx_addWord μ k g).2 (μ 4 0) 1)) kr_6_isWordy_182 zw_432 ok_5_word rfl rfl rfl trivial rfl (xz_word Ra.B (μ 4 0) 1 (by omega) (by omega)) rfl rfl (show Ez md_6_isWordy 0 0 185 [(9, zi (xx_addWord μ k g).1), (8, zi (μ 4 0)), (0, zr 0), (1, zr 113), (2, zi x), (3, zi y), (4, zi 1), (5, zi n), (6, zi k), (7, zi g)] [zi (xx_word (xx_addWord μ k g).2 (μ 4 0) 1)] zSp (cmb (xx_addWord μ k g).2 (xx_addWord ν k g).2) _ _ _ from ?_)
    refine Az.blk kd_6_isWordy_185 (show Ez md_6_isWordy 0 0 187 [(9, zi (xx_addWord μ k g).1), (8, zi (μ 4 0)), (0, zr 0), (1, zr 113), (2, zi x), (3, zi y), (4, zi 1), (5, zi n), (6, zi k), (7, zi g)] [zi g, zi (xx_word (xx_addWord μ k g).2 (μ 4 0) 1)] zSp (cmb (xx_addWord μ k g).2 (xx_addWord ν k g).2) _ _ _ from ?_)
    refine Az.icne (tg := 216) (a := (xx_word (xx_addWord μ k g).2 (μ 4 0) 1)) (b := g) kr_6_isWordy_187 (by decide) rfl ((a3 q1).2.1) (show Ez md_6_isWordy 0 0 190 [(9, zi (xx_addWord μ k g).1), (8, zi (μ 4 0)), (0, zr 0), (1, zr 113), (2, zi x), (3, zi y), (4, zi 1), (5, zi n), (6, zi k), (7, zi g)] [] zSp (cmb (xx_addWord μ k g).2 (xx_addWord ν k g).2) _ _ _ from ?_)
    refine Az.blk kd_6_isWordy_190 (show Ez md_6_isWordy 0 0 194 [(9, zi (xx_addWord μ k g).1), (8, zi (μ 4 0)), (0, zr 0), (1, zr 113), (2, zi x), (3, zi y), (4, zi 1), (5, zi n), (6, zi k), (7, zi g)] [zi 2, zi (μ 4 0), zr 0] zSp (cmb (xx_addWord μ k g).2 (xx_addWord ν k g).2) _ _ _ from ?_)
    refine Az.oV (mc := md_5_word) (n := 2) (As := [zi (μ 4 0), zi 2]) (rest := []) (z := (xx_word (xx_addWord μ k g).2 (μ 4 0) 2)) kr_6_isWordy_194 zw_432 ok_5_word rfl rfl rfl trivial rfl (xz_word Ra.B (μ 4 0) 2 (by omega) (by omega)) rfl rfl (show Ez md_6_isWordy 0 0 197 [(9, zi (xx_addWord μ k g).1), (8, zi (μ 4 0)), (0, zr 0), (1, zr 113), (2, zi x), (3, zi y), (4, zi 1), (5, zi n), (6, zi k), (7, zi g)] [zi (xx_word (xx_addWord μ k g).2 (μ 4 0) 2)] zSp (cmb (xx_addWord μ k g).2 (xx_addWord ν k g).2) _ _ _ from ?_)
    refine Az.blk kd_6_isWordy_197 (show Ez md_6_isWordy 0 0 199 [(9, zi (xx_addWord μ k g).1), (8, zi (μ 4 0)), (0, zr 0), (1, zr 113), (2, zi x), (3, zi y), (4, zi 1), (5, zi n), (6, zi k), (7, zi g)] [zi n, zi (xx_word (xx_addWord μ k g).2 (μ 4 0) 2)] zSp (cmb (xx_addWord μ k g).2 (xx_addWord ν k g).2) _ _ _ from ?_)
    refine Az.icne (tg := 216) (a := (xx_word (xx_addWord μ k g).2 (μ 4 0) 2)) (b := n) kr_6_isWordy_199 (by decide) rfl ((a3 q1).2.2.1) (show Ez md_6_isWordy 0 0 202 [(9, zi (xx_addWord μ k g).1), (8, zi (μ 4 0)), (0, zr 0), (1, zr 113), (2, zi x), (3, zi y), (4, zi 1), (5, zi n), (6, zi k), (7, zi g)] [] zSp (cmb (xx_addWord μ k g).2 (xx_addWord ν k g).2) _ _ _ from ?_)
    refine Az.blk kd_6_isWordy_202 (show Ez md_6_isWordy 0 0 206 [(9, zi (xx_addWord μ k g).1), (8, zi (μ 4 0)), (0, zr 0), (1, zr 113), (2, zi x), (3, zi y), (4, zi 1), (5, zi n), (6, zi k), (7, zi g)] [zi 3, zi (μ 4 0), zr 0] zSp (cmb (xx_addWord μ k g).2 (xx_addWord ν k g).2) _ _ _ from ?_)
    refine Az.oV (mc := md_5_word) (n := 2) (As := [zi (μ 4 0), zi 3]) (rest := []) (z := (xx_word (xx_addWord μ k g).2 (μ 4 0) 3)) kr_6_isWordy_206 zw_432 ok_5_word rfl rfl rfl trivial rfl (xz_word Ra.B (μ 4 0) 3 (by omega) (by omega)) rfl rfl (show Ez md_6_isWordy 0 0 209 [(9, zi (xx_addWord μ k g).1), (8, zi (μ 4 0)), (0, zr 0), (1, zr 113), (2, zi x), (3, zi y), (4, zi 1), (5, zi n), (6, zi k), (7, zi g)] [zi (xx_word (xx_addWord μ k g).2 (μ 4 0) 3)] zSp (cmb (xx_addWord μ k g).2 (xx_addWord ν k g).2) _ _ _ from ?_)
    have e3 := (a3 q1).2.2.2
    refine Az.blk kd_6_isWordy_209 (show zR (xx_word (xx_addWord μ k g).2 (μ 4 0) 3) ∧ ((¬ (xx_word (xx_addWord μ k g).2 (μ 4 0) 3) = 0 → Ez md_6_isWordy 0 0 216 [(9, zi (xx_addWord μ k g).1), (8, zi (μ 4 0)), (0, zr 0), (1, zr 113), (2, zi x), (3, zi y), (4, zi 1), (5, zi n), (6, zi k), (7, zi g)] [] zSp (cmb (xx_addWord μ k g).2 (xx_addWord ν k g).2) _ _ _) ∧ ((xx_word (xx_addWord μ k g).2 (μ 4 0) 3) = 0 → Ez md_6_isWordy 0 0 212 [(9, zi (xx_addWord μ k g).1), (8, zi (μ 4 0)), (0, zr 0), (1, zr 113), (2, zi x), (3, zi y), (4, zi 1), (5, zi n), (6, zi k), (7, zi g)] [] zSp (cmb (xx_addWord μ k g).2 (xx_addWord ν k g).2) _ _ _)) from ⟨(by omega), fun h => absurd (a3 q1).2.2.2 h, fun _ => ?_⟩)
    refine Az.blk kd_6_isWordy_212 (show Ez md_6_isWordy 0 0 217 [(9, zi (xx_addWord μ k g).1), (8, zi (μ 4 0)), (0, zr 0), (1, zr 113), (2, zi x), (3, zi y), (4, zi 1), (5, zi n), (6, zi k), (7, zi g)] [zi 1] zSp (cmb (xx_addWord μ k g).2 (xx_addWord ν k g).2) _ _ _ from ?_)
    exact Ez.zret kr_6_isWordy_217 rfl (Nat.zero_le _) (Nat.zero_le _) (Or.inr rfl) rfl rfl
  · refine Az.blk kd_6_isWordy_149 (show Ez md_6_isWordy 0 0 156 [(9, zi (xx_addWord μ k g).1), (8, zi (μ 4 0)), (0, zr 0), (1, zr 113), (2, zi x), (3, zi y), (4, zi 1), (5, zi n), (6, zi k), (7, zi g)] [zi (-3), zi (xx_addWord μ k g).1] zSp (cmb (xx_addWord μ k g).2 (xx_addWord ν k g).2) _ _ _ from ?_)
    refine Az.icne (tg := 216) (a := (xx_addWord μ k g).1) (b := (-3)) kr_6_isWordy_156 (by decide) rfl (by rw [a1, if_pos q1]) (show Ez md_6_isWordy 0 0 159 [(9, zi (xx_addWord μ k g).1), (8, zi (μ 4 0)), (0, zr 0), (1, zr 113), (2, zi x), (3, zi y), (4, zi 1), (5, zi n), (6, zi k), (7, zi g)] [] zSp (cmb (xx_addWord μ k g).2 (xx_addWord ν k g).2) _ _ _ from ?_)
    refine Az.blk kd_6_isWordy_159 (show zR (μ 4 0) ∧ zR 24 ∧ (((μ 4 0) = 24 → Ez md_6_isWordy 0 0 212 [(9, zi (xx_addWord μ k g).1), (8, zi (μ 4 0)), (0, zr 0), (1, zr 113), (2, zi x), (3, zi y), (4, zi 1), (5, zi n), (6, zi k), (7, zi g)] [] zSp (cmb (xx_addWord μ k g).2 (xx_addWord ν k g).2) _ _ _) ∧ (¬ (μ 4 0) = 24 → Ez md_6_isWordy 0 0 166 [(9, zi (xx_addWord μ k g).1), (8, zi (μ 4 0)), (0, zr 0), (1, zr 113), (2, zi x), (3, zi y), (4, zi 1), (5, zi n), (6, zi k), (7, zi g)] [] zSp (cmb (xx_addWord μ k g).2 (xx_addWord ν k g).2) _ _ _)) from ⟨(by omega), (by omega), fun _ => ?_, fun h => absurd q1 h⟩)
    refine Az.blk kd_6_isWordy_212 (show Ez md_6_isWordy 0 0 217 [(9, zi (xx_addWord μ k g).1), (8, zi (μ 4 0)), (0, zr 0), (1, zr 113), (2, zi x), (3, zi y), (4, zi 1), (5, zi n), (6, zi k), (7, zi g)] [zi 1] zSp (cmb (xx_addWord μ k g).2 (xx_addWord ν k g).2) _ _ _ from ?_)
    exact Ez.zret kr_6_isWordy_217 rfl (Nat.zero_le _) (Nat.zero_le _) (Or.inr rfl) rfl rfl
theorem lz_isWordy (R : R2 μ ν) (x y : Int) : ∃ μ' ν' : zM, R2 μ' ν' ∧ Dz md_6_isWordy [zr 0, zr 113, zi x, zi y] zSp (cmb μ ν) (some (zi 1)) zSp (cmb μ' ν') := by
  have R0 := b_clear R
  have T0 : TW (xx_clearText μ).2 (xx_clearText ν).2 0 := by
    rw [cl_eq, cl_eq]
    dsimp only
    exact ⟨zup_self, zup_self, fun p p0 p1 => by omega⟩
  have c1 : 0 ≤ (xx_clearText μ).1 ∧ (xx_clearText μ).1 ≤ 60 := text_b R.B
  have c2 : 0 ≤ (xx_clearText ν).1 ∧ (xx_clearText ν).1 ≤ 60 := text_b R.B'
  obtain ⟨n, hn⟩ : ∃ n, n = 1 + lup x 8 := ⟨_, rfl⟩
  obtain ⟨k, hk⟩ : ∃ k, k = lup (zshr x 3) 3 := ⟨_, rfl⟩
  have r1 := lup_r x (n := 8) (by decide)
  have r2 := lup_r (zshr x 3) (n := 3) (by decide)
  have r3 := lup_r (zshr x 5) (n := 3) (by decide)
  have nr : 1 ≤ n ∧ n ≤ 8 := by rw [hn]; omega
  have kr : 0 ≤ k ∧ k ≤ 2 := by rw [hk]; omega
  obtain ⟨μ1, ν1, R1, T1, kk⟩ := iw_loop (x := x) (y := y) nr n.toNat 0 _ _ R0 T0 (by omega) (by omega)
  by_cases q0 : k = 0
  · obtain ⟨g, hg⟩ : ∃ g, g = lup (zshr x 5) 3 := ⟨_, rfl⟩
    have gr : 0 ≤ g ∧ g ≤ 2 := by rw [hg]; omega
    obtain ⟨-, -, -, Ra⟩ := b_addWord R1 T1 nr kr gr (fun w => absurd q0 w)
    refine ⟨_, _, Ra, Dz.of (by decide) rfl rfl (show Ez md_6_isWordy 0 0 0 [(0, zr 0), (1, zr 113), (2, zi x), (3, zi y)] [] zSp (cmb μ ν) _ zSp _ from ?_)⟩
    refine Az.blk kd_6_isWordy_0 (show Ez md_6_isWordy 0 0 1 [(0, zr 0), (1, zr 113), (2, zi x), (3, zi y)] [zr 0] zSp (cmb μ ν) _ _ _ from ?_)
    refine Az.oV (mc := md_5_clearText) (n := 0) (As := []) (rest := []) (z := (xx_clearText μ).1) kr_6_isWordy_1 zw_176 ok_5_clearText rfl rfl rfl trivial rfl (xz_clearText R.B R.P) rfl rfl (show Ez md_6_isWordy 0 0 4 [(0, zr 0), (1, zr 113), (2, zi x), (3, zi y)] [zi (xx_clearText μ).1] zSp (cmb (xx_clearText μ).2 ν) _ _ _ from ?_)
    refine Az.blk kd_6_isWordy_4 (show zR (xx_clearText μ).1 ∧ (((xx_clearText μ).1 < 0 → Ez md_6_isWordy 0 0 18 [(0, zr 0), (1, zr 113), (2, zi x), (3, zi y)] [] zSp (cmb (xx_clearText μ).2 ν) _ _ _) ∧ (¬ (xx_clearText μ).1 < 0 → Ez md_6_isWordy 0 0 7 [(0, zr 0), (1, zr 113), (2, zi x), (3, zi y)] [] zSp (cmb (xx_clearText μ).2 ν) _ _ _)) from ⟨(by omega), fun h => absurd h (show ¬ (xx_clearText μ).1 < 0 by omega), fun _ => ?_⟩)
    refine Az.blk kd_6_isWordy_7 (show Ez md_6_isWordy 0 0 8 [(0, zr 0), (1, zr 113), (2, zi x), (3, zi y)] [zr 113] zSp (cmb (xx_clearText μ).2 ν) _ _ _ from ?_)
    refine Az.pV (mc := md_5_clearText) (n := 0) (As := []) (rest := []) (z := (xx_clearText ν).1) kr_6_isWordy_8 zw_176 ok_5_clearText rfl rfl rfl trivial rfl (xz_clearText R.B' R.P') rfl rfl (show Ez md_6_isWordy 0 0 11 [(0, zr 0), (1, zr 113), (2, zi x), (3, zi y)] [zi (xx_clearText ν).1] zSp (cmb (xx_clearText μ).2 (xx_clearText ν).2) _ _ _ from ?_)
    refine Az.blk kd_6_isWordy_11 (show zR (xx_clearText ν).1 ∧ (((xx_clearText ν).1 < 0 → Ez md_6_isWordy 0 0 18 [(0, zr 0), (1, zr 113), (2, zi x), (3, zi y)] [] zSp (cmb (xx_clearText μ).2 (xx_clearText ν).2) _ _ _) ∧ (¬ (xx_clearText ν).1 < 0 → Ez md_6_isWordy 0 0 14 [(0, zr 0), (1, zr 113), (2, zi x), (3, zi y)] [] zSp (cmb (xx_clearText μ).2 (xx_clearText ν).2) _ _ _)) from ⟨(by omega), fun h => absurd h (show ¬ (xx_clearText ν).1 < 0 by omega), fun _ => ?_⟩)
    refine Az.blk kd_6_isWordy_14 (show Ez md_6_isWordy 0 0 19 [(0, zr 0), (1, zr 113), (2, zi x), (3, zi y)] [zi 1] zSp (cmb (xx_clearText μ).2 (xx_clearText ν).2) _ _ _ from ?_)
    refine Az.blk kd_6_isWordy_19 (show Ez md_6_isWordy 0 0 25 [(4, zi 1), (0, zr 0), (1, zr 113), (2, zi x), (3, zi y)] [zi 8, zi x, zi 1] zSp (cmb (xx_clearText μ).2 (xx_clearText ν).2) _ _ _ from ?_)
    refine Az.cS (mc := md_6_up) (n := 2) (As := [zi x, zi 8]) (rest := [zi 1]) (Sh1 := zSp) (μ1 := cmb (xx_clearText μ).2 (xx_clearText ν).2) (w := some (zi (lup x 8))) kr_6_isWordy_25 zw_180 ok_6_up rfl rfl (lz_up x 8 (by omega)) rfl rfl (show Ez md_6_isWordy 0 0 28 [(4, zi 1), (0, zr 0), (1, zr 113), (2, zi x), (3, zi y)] [zi (lup x 8), zi 1] zSp (cmb (xx_clearText μ).2 (xx_clearText ν).2) _ _ _ from ?_)
    refine Az.blk kd_6_isWordy_28 (show Ez md_6_isWordy 0 0 34 [(6, zi 0), (5, zi (1 + (lup x 8))), (4, zi 1), (0, zr 0), (1, zr 113), (2, zi x), (3, zi y)] [] zSp (cmb (xx_clearText μ).2 (xx_clearText ν).2) _ _ _ from ?_)
    rw [show (1 + (lup x 8)) = n from hn.symm]
    refine Az.lvs (lv' := [(0, zr 0), (1, zr 113), (2, zi x), (3, zi y), (4, zi 1), (5, zi n), (6, zi 0)]) ?_ ?_
    · intro q hq; simp only [List.mem_cons, List.not_mem_nil, or_false] at hq; rcases hq with rfl | rfl | rfl | rfl | rfl | rfl | rfl <;> rfl
    refine kk ?_
    refine Az.blk kd_6_isWordy_78 (show Ez md_6_isWordy 0 0 82 [(0, zr 0), (1, zr 113), (2, zi x), (3, zi y), (4, zi 1), (5, zi n)] [zi 3, zi (zshr x 3)] zSp (cmb μ1 ν1) _ _ _ from ?_)
    refine Az.cS (mc := md_6_up) (n := 2) (As := [zi (zshr x 3), zi 3]) (rest := []) (Sh1 := zSp) (μ1 := cmb μ1 ν1) (w := some (zi (lup (zshr x 3) 3))) kr_6_isWordy_82 zw_180 ok_6_up rfl rfl (lz_up (zshr x 3) 3 (by omega)) rfl rfl (show Ez md_6_isWordy 0 0 85 [(0, zr 0), (1, zr 113), (2, zi x), (3, zi y), (4, zi 1), (5, zi n)] [zi (lup (zshr x 3) 3)] zSp (cmb μ1 ν1) _ _ _ from ?_)
    rw [show (lup (zshr x 3) 3) = k from hk.symm]
    refine Az.blk kd_6_isWordy_85 (show zR k ∧ ((¬ k = 0 → Ez md_6_isWordy 0 0 102 [(6, zi k), (0, zr 0), (1, zr 113), (2, zi x), (3, zi y), (4, zi 1), (5, zi n)] [] zSp (cmb μ1 ν1) _ _ _) ∧ (k = 0 → Ez md_6_isWordy 0 0 92 [(6, zi k), (0, zr 0), (1, zr 113), (2, zi x), (3, zi y), (4, zi 1), (5, zi n)] [] zSp (cmb μ1 ν1) _ _ _)) from ⟨(by omega), fun h => absurd q0 h, fun _ => ?_⟩)
    refine Az.blk kd_6_isWordy_92 (show Ez md_6_isWordy 0 0 96 [(6, zi k), (0, zr 0), (1, zr 113), (2, zi x), (3, zi y), (4, zi 1), (5, zi n)] [zi 3, zi (zshr x 5)] zSp (cmb μ1 ν1) _ _ _ from ?_)
    refine Az.cS (mc := md_6_up) (n := 2) (As := [zi (zshr x 5), zi 3]) (rest := []) (Sh1 := zSp) (μ1 := cmb μ1 ν1) (w := some (zi (lup (zshr x 5) 3))) kr_6_isWordy_96 zw_180 ok_6_up rfl rfl (lz_up (zshr x 5) 3 (by omega)) rfl rfl (show Ez md_6_isWordy 0 0 99 [(6, zi k), (0, zr 0), (1, zr 113), (2, zi x), (3, zi y), (4, zi 1), (5, zi n)] [zi (lup (zshr x 5) 3)] zSp (cmb μ1 ν1) _ _ _ from ?_)
    refine Az.blk kd_6_isWordy_99 (show Ez md_6_isWordy 0 0 103 [(6, zi k), (0, zr 0), (1, zr 113), (2, zi x), (3, zi y), (4, zi 1), (5, zi n)] [zi (lup (zshr x 5) 3)] zSp (cmb μ1 ν1) _ _ _ from ?_)
    rw [show (lup (zshr x 5) 3) = g from hg.symm]
    refine Az.blk kd_6_isWordy_103 (show Ez md_6_isWordy 0 0 105 [(7, zi g), (6, zi k), (0, zr 0), (1, zr 113), (2, zi x), (3, zi y), (4, zi 1), (5, zi n)] [] zSp (cmb μ1 ν1) _ _ _ from ?_)
    refine Az.lvs (lv' := [(0, zr 0), (1, zr 113), (2, zi x), (3, zi y), (4, zi 1), (5, zi n), (6, zi k), (7, zi g)]) ?_ ?_
    · intro q hq; simp only [List.mem_cons, List.not_mem_nil, or_false] at hq; rcases hq with rfl | rfl | rfl | rfl | rfl | rfl | rfl | rfl <;> rfl
    exact iw_tail R1 T1 (by omega) (by omega) (by omega) (by omega)
  · obtain ⟨-, -, -, Ra⟩ := b_addWord R1 T1 nr kr (g := 0) (by omega) (fun _ => rfl)
    refine ⟨_, _, Ra, Dz.of (by decide) rfl rfl (show Ez md_6_isWordy 0 0 0 [(0, zr 0), (1, zr 113), (2, zi x), (3, zi y)] [] zSp (cmb μ ν) _ zSp _ from ?_)⟩
    refine Az.blk kd_6_isWordy_0 (show Ez md_6_isWordy 0 0 1 [(0, zr 0), (1, zr 113), (2, zi x), (3, zi y)] [zr 0] zSp (cmb μ ν) _ _ _ from ?_)
    refine Az.oV (mc := md_5_clearText) (n := 0) (As := []) (rest := []) (z := (xx_clearText μ).1) kr_6_isWordy_1 zw_176 ok_5_clearText rfl rfl rfl trivial rfl (xz_clearText R.B R.P) rfl rfl (show Ez md_6_isWordy 0 0 4 [(0, zr 0), (1, zr 113), (2, zi x), (3, zi y)] [zi (xx_clearText μ).1] zSp (cmb (xx_clearText μ).2 ν) _ _ _ from ?_)
    refine Az.blk kd_6_isWordy_4 (show zR (xx_clearText μ).1 ∧ (((xx_clearText μ).1 < 0 → Ez md_6_isWordy 0 0 18 [(0, zr 0), (1, zr 113), (2, zi x), (3, zi y)] [] zSp (cmb (xx_clearText μ).2 ν) _ _ _) ∧ (¬ (xx_clearText μ).1 < 0 → Ez md_6_isWordy 0 0 7 [(0, zr 0), (1, zr 113), (2, zi x), (3, zi y)] [] zSp (cmb (xx_clearText μ).2 ν) _ _ _)) from ⟨(by omega), fun h => absurd h (show ¬ (xx_clearText μ).1 < 0 by omega), fun _ => ?_⟩)
    refine Az.blk kd_6_isWordy_7 (show Ez md_6_isWordy 0 0 8 [(0, zr 0), (1, zr 113), (2, zi x), (3, zi y)] [zr 113] zSp (cmb (xx_clearText μ).2 ν) _ _ _ from ?_)
    refine Az.pV (mc := md_5_clearText) (n := 0) (As := []) (rest := []) (z := (xx_clearText ν).1) kr_6_isWordy_8 zw_176 ok_5_clearText rfl rfl rfl trivial rfl (xz_clearText R.B' R.P') rfl rfl (show Ez md_6_isWordy 0 0 11 [(0, zr 0), (1, zr 113), (2, zi x), (3, zi y)] [zi (xx_clearText ν).1] zSp (cmb (xx_clearText μ).2 (xx_clearText ν).2) _ _ _ from ?_)
    refine Az.blk kd_6_isWordy_11 (show zR (xx_clearText ν).1 ∧ (((xx_clearText ν).1 < 0 → Ez md_6_isWordy 0 0 18 [(0, zr 0), (1, zr 113), (2, zi x), (3, zi y)] [] zSp (cmb (xx_clearText μ).2 (xx_clearText ν).2) _ _ _) ∧ (¬ (xx_clearText ν).1 < 0 → Ez md_6_isWordy 0 0 14 [(0, zr 0), (1, zr 113), (2, zi x), (3, zi y)] [] zSp (cmb (xx_clearText μ).2 (xx_clearText ν).2) _ _ _)) from ⟨(by omega), fun h => absurd h (show ¬ (xx_clearText ν).1 < 0 by omega), fun _ => ?_⟩)
    refine Az.blk kd_6_isWordy_14 (show Ez md_6_isWordy 0 0 19 [(0, zr 0), (1, zr 113), (2, zi x), (3, zi y)] [zi 1] zSp (cmb (xx_clearText μ).2 (xx_clearText ν).2) _ _ _ from ?_)
    refine Az.blk kd_6_isWordy_19 (show Ez md_6_isWordy 0 0 25 [(4, zi 1), (0, zr 0), (1, zr 113), (2, zi x), (3, zi y)] [zi 8, zi x, zi 1] zSp (cmb (xx_clearText μ).2 (xx_clearText ν).2) _ _ _ from ?_)
    refine Az.cS (mc := md_6_up) (n := 2) (As := [zi x, zi 8]) (rest := [zi 1]) (Sh1 := zSp) (μ1 := cmb (xx_clearText μ).2 (xx_clearText ν).2) (w := some (zi (lup x 8))) kr_6_isWordy_25 zw_180 ok_6_up rfl rfl (lz_up x 8 (by omega)) rfl rfl (show Ez md_6_isWordy 0 0 28 [(4, zi 1), (0, zr 0), (1, zr 113), (2, zi x), (3, zi y)] [zi (lup x 8), zi 1] zSp (cmb (xx_clearText μ).2 (xx_clearText ν).2) _ _ _ from ?_)
    refine Az.blk kd_6_isWordy_28 (show Ez md_6_isWordy 0 0 34 [(6, zi 0), (5, zi (1 + (lup x 8))), (4, zi 1), (0, zr 0), (1, zr 113), (2, zi x), (3, zi y)] [] zSp (cmb (xx_clearText μ).2 (xx_clearText ν).2) _ _ _ from ?_)
    rw [show (1 + (lup x 8)) = n from hn.symm]
    refine Az.lvs (lv' := [(0, zr 0), (1, zr 113), (2, zi x), (3, zi y), (4, zi 1), (5, zi n), (6, zi 0)]) ?_ ?_
    · intro q hq; simp only [List.mem_cons, List.not_mem_nil, or_false] at hq; rcases hq with rfl | rfl | rfl | rfl | rfl | rfl | rfl <;> rfl
    refine kk ?_
    refine Az.blk kd_6_isWordy_78 (show Ez md_6_isWordy 0 0 82 [(0, zr 0), (1, zr 113), (2, zi x), (3, zi y), (4, zi 1), (5, zi n)] [zi 3, zi (zshr x 3)] zSp (cmb μ1 ν1) _ _ _ from ?_)
    refine Az.cS (mc := md_6_up) (n := 2) (As := [zi (zshr x 3), zi 3]) (rest := []) (Sh1 := zSp) (μ1 := cmb μ1 ν1) (w := some (zi (lup (zshr x 3) 3))) kr_6_isWordy_82 zw_180 ok_6_up rfl rfl (lz_up (zshr x 3) 3 (by omega)) rfl rfl (show Ez md_6_isWordy 0 0 85 [(0, zr 0), (1, zr 113), (2, zi x), (3, zi y), (4, zi 1), (5, zi n)] [zi (lup (zshr x 3) 3)] zSp (cmb μ1 ν1) _ _ _ from ?_)
    rw [show (lup (zshr x 3) 3) = k from hk.symm]
    refine Az.blk kd_6_isWordy_85 (show zR k ∧ ((¬ k = 0 → Ez md_6_isWordy 0 0 102 [(6, zi k), (0, zr 0), (1, zr 113), (2, zi x), (3, zi y), (4, zi 1), (5, zi n)] [] zSp (cmb μ1 ν1) _ _ _) ∧ (k = 0 → Ez md_6_isWordy 0 0 92 [(6, zi k), (0, zr 0), (1, zr 113), (2, zi x), (3, zi y), (4, zi 1), (5, zi n)] [] zSp (cmb μ1 ν1) _ _ _)) from ⟨(by omega), fun _ => ?_, fun h => absurd h q0⟩)
    refine Az.blk kd_6_isWordy_102 (show Ez md_6_isWordy 0 0 105 [(7, zi 0), (6, zi k), (0, zr 0), (1, zr 113), (2, zi x), (3, zi y), (4, zi 1), (5, zi n)] [] zSp (cmb μ1 ν1) _ _ _ from ?_)
    refine Az.lvs (lv' := [(0, zr 0), (1, zr 113), (2, zi x), (3, zi y), (4, zi 1), (5, zi n), (6, zi k), (7, zi 0)]) ?_ ?_
    · intro q hq; simp only [List.mem_cons, List.not_mem_nil, or_false] at hq; rcases hq with rfl | rfl | rfl | rfl | rfl | rfl | rfl | rfl <;> rfl
    exact iw_tail R1 T1 (by omega) (by omega) (by omega) (by omega)
end LAWS
