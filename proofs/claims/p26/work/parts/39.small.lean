/-! the law's small methods; what questions lie between -/
abbrev zshr (a b : Int) : Int := (Int32.ofInt a >>> (Int32.ofInt b &&& 31)).toInt
abbrev zxor (a b : Int) : Int := (Int32.ofInt a ^^^ Int32.ofInt b).toInt
def lup (v n : Int) : Int := zand v 2147483647 % n
theorem zand_r (v : Int) : 0 ≤ zand v 2147483647 ∧ zand v 2147483647 ≤ 2147483647 := by
  have h : (Int32.ofInt v &&& Int32.ofInt 2147483647).toBitVec = (Int32.ofInt v).toBitVec &&& 2147483647#32 := rfl
  have h2 : ((Int32.ofInt v).toBitVec &&& 2147483647#32).toNat ≤ 2147483647 := by
    rw [BitVec.toNat_and]
    exact Nat.and_le_right
  show 0 ≤ (Int32.ofInt v &&& Int32.ofInt 2147483647).toBitVec.toInt ∧ (Int32.ofInt v &&& Int32.ofInt 2147483647).toBitVec.toInt ≤ 2147483647
  rw [h, BitVec.toInt_eq_toNat_cond]
  omega
theorem lup_r (v : Int) {n : Int} (h : 0 < n) : 0 ≤ lup v n ∧ lup v n < n := ⟨Int.emod_nonneg _ (by omega), Int.emod_lt_of_pos _ h⟩
def kb_6_both_0 : List zI := [(.aload_n 0, 1, 0, 0), (.bipush 97, 2, 0, 0), (.iload_n 2, 1, 0, 0), (.iadd, 1, 0, 0), (.i2c, 1, 0, 0)]
theorem kd_6_both_0 : zdec md_6_both 0 kb_6_both_0 = true := by decide +kernel
theorem kr_6_both_6 : decode md_6_both.2.1 6 = .ok (.invokevirtual 9, 3) := by decide +kernel
def kb_6_both_9 : List zI := [(.ifCond .le 24, 3, 33, 0)]
theorem kd_6_both_9 : zdec md_6_both 9 kb_6_both_9 = true := by decide +kernel
def kb_6_both_12 : List zI := [(.aload_n 1, 1, 0, 0), (.bipush 97, 2, 0, 0), (.iload_n 2, 1, 0, 0), (.iconst 1, 1, 0, 0), (.iadd, 1, 0, 0), (.bipush 26, 2, 0, 0), (.irem, 1, 0, 0), (.iadd, 1, 0, 0), (.i2c, 1, 0, 0)]
theorem kd_6_both_12 : zdec md_6_both 12 kb_6_both_12 = true := by decide +kernel
theorem kr_6_both_23 : decode md_6_both.2.1 23 = .ok (.invokevirtual 9, 3) := by decide +kernel
def kb_6_both_26 : List zI := [(.ifCond .le 7, 3, 33, 0)]
theorem kd_6_both_26 : zdec md_6_both 26 kb_6_both_26 = true := by decide +kernel
def kb_6_both_29 : List zI := [(.iconst 1, 1, 0, 0), (.goto 4, 3, 34, 0)]
theorem kd_6_both_29 : zdec md_6_both 29 kb_6_both_29 = true := by decide +kernel
theorem kr_6_both_34 : decode md_6_both.2.1 34 = .ok (.ireturn, 1) := by decide +kernel
def kb_6_up_0 : List zI := [(.iload_n 0, 1, 0, 0), (.ldc 8, 2, 2147483647, 0), (.iand, 1, 0, 0), (.iload_n 1, 1, 0, 0), (.irem, 1, 0, 0)]
theorem kd_6_up_0 : zdec md_6_up 0 kb_6_up_0 = true := by decide +kernel
theorem kr_6_up_6 : decode md_6_up.2.1 6 = .ok (.ireturn, 1) := by decide +kernel
def kb_6_next_0 : List zI := [(.iload_n 0, 1, 0, 0), (.ifCond .ne 7, 3, 8, 0)]
theorem kd_6_next_0 : zdec md_6_next 0 kb_6_next_0 = true := by decide +kernel
def kb_6_next_4 : List zI := [(.iconst 0, 1, 0, 0), (.goto 9, 3, 14, 0)]
theorem kd_6_next_4 : zdec md_6_next 4 kb_6_next_4 = true := by decide +kernel
def kb_6_next_8 : List zI := [(.iload_n 0, 1, 0, 0), (.bipush 26, 2, 0, 0), (.irem, 1, 0, 0), (.iconst 1, 1, 0, 0), (.iadd, 1, 0, 0)]
theorem kd_6_next_8 : zdec md_6_next 8 kb_6_next_8 = true := by decide +kernel
theorem kr_6_next_14 : decode md_6_next.2.1 14 = .ok (.ireturn, 1) := by decide +kernel
theorem lz_up {Sh : List zS} {μ : zM} (v n : Int) (hn : 0 < n ∧ n ≤ 2147483647) : Dz md_6_up [zi v, zi n] Sh μ (some (zi (lup v n))) Sh μ := by
  refine Dz.of (by decide) rfl rfl (show Ez md_6_up 0 0 0 [(0, zi v), (1, zi n)] [] Sh μ _ Sh μ from ?_)
  have hz := zand_r v
  refine Az.blk kd_6_up_0 (show (0 ≤ zand v 2147483647 ∧ zand v 2147483647 ≤ 2147483647) ∧ (0 < n ∧ n ≤ 2147483647) ∧ Ez md_6_up 0 0 6 [(0, zi v), (1, zi n)] [zi (lup v n)] Sh μ _ _ _ from ⟨hz, hn, ?_⟩)
  exact Ez.iret kr_6_up_6 rfl (Nat.zero_le _) (Nat.zero_le _) rfl rfl
theorem lz_next {Sh : List zS} {μ : zM} (l : Int) (hl : 0 ≤ l ∧ l ≤ 26) : Dz md_6_next [zi l] Sh μ (some (zi (nxt l))) Sh μ := by
  refine Dz.of (by decide) rfl rfl (show Ez md_6_next 0 0 0 [(0, zi l)] [] Sh μ _ Sh μ from ?_)
  unfold nxt
  refine Az.blk kd_6_next_0 (show zR l ∧ ((¬ l = 0 → Ez md_6_next 0 0 8 [(0, zi l)] [] Sh μ _ _ _) ∧ (l = 0 → Ez md_6_next 0 0 4 [(0, zi l)] [] Sh μ _ _ _)) from ⟨(by omega), fun h => ?_, fun h => ?_⟩)
  · rw [if_neg h]
    refine Az.blk kd_6_next_8 (show (0 ≤ l ∧ l ≤ 2147483647) ∧ (0 < (26 : Int) ∧ (26 : Int) ≤ 2147483647) ∧ Ez md_6_next 0 0 14 [(0, zi l)] [zi (l % 26 + 1)] Sh μ _ _ _ from ⟨(by omega), (by omega), ?_⟩)
    exact Ez.iret kr_6_next_14 rfl (Nat.zero_le _) (Nat.zero_le _) rfl rfl
  · rw [if_pos h]
    refine Az.blk kd_6_next_4 (show Ez md_6_next 0 0 14 [(0, zi l)] [zi 0] Sh μ _ _ _ from ?_)
    exact Ez.iret kr_6_next_14 rfl (Nat.zero_le _) (Nat.zero_le _) rfl rfl
section LAWS
variable {μ ν : zM}
theorem ct0 (μ : zM) : xx_count μ 0 = μ 4 0 := rfl
theorem ct1 (μ : zM) : xx_count μ 1 = μ 10 0 := rfl
theorem ct2 (μ : zM) : xx_count μ 2 = μ 10 1 := rfl
theorem ct3 (μ : zM) : xx_count μ 3 = xx_holesWith μ (-1) := rfl
theorem ct4 (μ : zM) : xx_count μ 4 = xx_lengthTold μ := rfl
theorem ct5 (μ : zM) : xx_count μ 5 = xx_lettersInHoles μ := rfl
theorem ct6 (μ : zM) : xx_count μ 6 = xx_tiesWithHoles μ := rfl
theorem ct7 (μ : zM) : xx_count μ 7 = μ 3 4 := rfl
theorem ct8 (μ : zM) : xx_count μ 8 = μ 3 5 := rfl
theorem ct9 (μ : zM) : xx_count μ 9 = μ 39 1 := rfl
theorem cr (B : zB μ) (N : NR μ ν) : (0 ≤ xx_count μ 0 ∧ xx_count μ 0 ≤ 24) ∧ (0 ≤ xx_count μ 1 ∧ xx_count μ 1 ≤ 20) ∧ (0 ≤ xx_count μ 2 ∧ xx_count μ 2 ≤ 20) ∧ (0 ≤ xx_count μ 3 ∧ xx_count μ 3 ≤ 20) ∧ (0 ≤ xx_count μ 4 ∧ xx_count μ 4 ≤ 220) ∧ (0 ≤ xx_count μ 5 ∧ xx_count μ 5 ≤ 200) ∧ (0 ≤ xx_count μ 6 ∧ xx_count μ 6 ≤ 10) ∧ (0 ≤ xx_count μ 7 ∧ xx_count μ 7 ≤ 1) ∧ (0 ≤ xx_count μ 9 ∧ xx_count μ 9 ≤ 4) := by
  rw [ct0, ct1, ct2, ct3, ct4, ct5, ct6, ct7, ct9]
  exact ⟨N.knb, N.itb, N.hob, xr_holesWith B (-1) (by omega), len_b B N, xr_lettersInHoles B, xr_tiesWithHoles B, B 3 4, hist_b B⟩
theorem lz_both (R : R2 μ ν) {n l : Int} (hm : μ 1 1 = n) (hn : ν 1 1 = n) (h0 : 0 ≤ n) (h1 : n < 60) (hl : 0 ≤ l ∧ l ≤ 25) : Dz md_6_both [zr 0, zr 113, zi l] zSp (cmb μ ν) (some (zi 1)) zSp (cmb (xx_type μ (97 + l)).2 (xx_type ν (nsg (97 + l))).2) := by
  refine Dz.of (by decide) rfl rfl (show Ez md_6_both 0 0 0 [(0, zr 0), (1, zr 113), (2, zi l)] [] zSp (cmb μ ν) _ zSp _ from ?_)
  have en : nsg (97 + l) = 97 + (l + 1) % 26 := by
    unfold nsg
    rw [if_neg (by omega)]
    by_cases q : 97 + l = 122
    · rw [if_pos q]; omega
    · rw [if_neg q]; omega
  refine Az.blk kd_6_both_0 (show Ez md_6_both 0 0 6 [(0, zr 0), (1, zr 113), (2, zi l)] [zi ((97 + l) % 65536), zr 0] zSp (cmb μ ν) _ _ _ from ?_)
  rw [show ((97 + l) % 65536) = (97 + l) from by omega]
  refine Az.oV (mc := md_5_type) (n := 1) (As := [zi (97 + l)]) (rest := []) (z := (xx_type μ (97 + l)).1) kr_6_both_6 zw_184 ok_5_type rfl rfl rfl trivial rfl (xz_type R.B (97 + l) R.P (by omega)) rfl rfl (show Ez md_6_both 0 0 9 [(0, zr 0), (1, zr 113), (2, zi l)] [zi (xx_type μ (97 + l)).1] zSp (cmb (xx_type μ (97 + l)).2 ν) _ _ _ from ?_)
  have t1 : (xx_type μ (97 + l)).1 = n + 1 := by rw [ty_eq hm h1]
  refine Az.blk kd_6_both_9 (show zR (xx_type μ (97 + l)).1 ∧ ((¬ 0 < (xx_type μ (97 + l)).1 → Ez md_6_both 0 0 33 [(0, zr 0), (1, zr 113), (2, zi l)] [] zSp (cmb (xx_type μ (97 + l)).2 ν) _ _ _) ∧ (0 < (xx_type μ (97 + l)).1 → Ez md_6_both 0 0 12 [(0, zr 0), (1, zr 113), (2, zi l)] [] zSp (cmb (xx_type μ (97 + l)).2 ν) _ _ _)) from ⟨(by omega), fun h => absurd (show 0 < (xx_type μ (97 + l)).1 by omega) h, fun _ => ?_⟩)
  refine Az.blk kd_6_both_12 (show (0 ≤ (l + 1) ∧ (l + 1) ≤ 2147483647) ∧ (0 < (26 : Int) ∧ (26 : Int) ≤ 2147483647) ∧ Ez md_6_both 0 0 23 [(0, zr 0), (1, zr 113), (2, zi l)] [zi ((97 + ((l + 1) % 26)) % 65536), zr 113] zSp (cmb (xx_type μ (97 + l)).2 ν) _ _ _ from ⟨(by omega), (by omega), ?_⟩)
  rw [show ((97 + ((l + 1) % 26)) % 65536) = (nsg (97 + l)) from by omega]
  refine Az.pV (mc := md_5_type) (n := 1) (As := [zi (nsg (97 + l))]) (rest := []) (z := (xx_type ν (nsg (97 + l))).1) kr_6_both_23 zw_184 ok_5_type rfl rfl rfl trivial rfl (xz_type R.B' (nsg (97 + l)) R.P' (by omega)) rfl rfl (show Ez md_6_both 0 0 26 [(0, zr 0), (1, zr 113), (2, zi l)] [zi (xx_type ν (nsg (97 + l))).1] zSp (cmb (xx_type μ (97 + l)).2 (xx_type ν (nsg (97 + l))).2) _ _ _ from ?_)
  have t2 : (xx_type ν (nsg (97 + l))).1 = n + 1 := by rw [ty_eq hn h1]
  refine Az.blk kd_6_both_26 (show zR (xx_type ν (nsg (97 + l))).1 ∧ ((¬ 0 < (xx_type ν (nsg (97 + l))).1 → Ez md_6_both 0 0 33 [(0, zr 0), (1, zr 113), (2, zi l)] [] zSp (cmb (xx_type μ (97 + l)).2 (xx_type ν (nsg (97 + l))).2) _ _ _) ∧ (0 < (xx_type ν (nsg (97 + l))).1 → Ez md_6_both 0 0 29 [(0, zr 0), (1, zr 113), (2, zi l)] [] zSp (cmb (xx_type μ (97 + l)).2 (xx_type ν (nsg (97 + l))).2) _ _ _)) from ⟨(by omega), fun h => absurd (show 0 < (xx_type ν (nsg (97 + l))).1 by omega) h, fun _ => ?_⟩)
  refine Az.blk kd_6_both_29 (show Ez md_6_both 0 0 34 [(0, zr 0), (1, zr 113), (2, zi l)] [zi 1] zSp (cmb (xx_type μ (97 + l)).2 (xx_type ν (nsg (97 + l))).2) _ _ _ from ?_)
  exact Ez.zret kr_6_both_34 rfl (Nat.zero_le _) (Nat.zero_le _) (Or.inr rfl) rfl rfl
end LAWS
