/-! copies -/
theorem zcp_ok {μ : zM} (h : zB μ) (d s : Nat) (hds : ∀ z v, zOk s z v → zOk d z v) : zB (zcp μ d s) := by
  intro k z
  by_cases e : k = d
  · subst e
    rw [zcp_eq]
    exact hds z _ (h s z)
  · rw [zcp_ne e]
    exact h k z
/-- a whole state over another: eighteen places -/
def zcs (μ : zM) (d s : Nat) : zM := fun k => match Nat.ble d k && Nat.blt k (d + 18) with
  | true => μ (k - d + s)
  | false => μ k
theorem zcs_ne {μ : zM} {d s k : Nat} (h : k < d ∨ d + 18 ≤ k) : zcs μ d s k = μ k := by
  have e : (Nat.ble d k && Nat.blt k (d + 18)) = false := by
    cases hb : (Nat.ble d k && Nat.blt k (d + 18)) with
    | false => rfl
    | true =>
      rw [Bool.and_eq_true] at hb
      have h1 := Nat.le_of_ble_eq_true hb.1
      have h2 : k + 1 ≤ d + 18 := Nat.le_of_ble_eq_true hb.2
      omega
  simp only [zcs, e]
theorem zcs_in {μ : zM} {d s o : Nat} (h : o < 18) : zcs μ d s (d + o) = μ (s + o) := by
  have e : (Nat.ble d (d + o) && Nat.blt (d + o) (d + 18)) = true := by
    rw [Bool.and_eq_true]
    exact ⟨Nat.ble_eq_true_of_le (by omega), Nat.ble_eq_true_of_le (show d + o + 1 ≤ d + 18 by omega)⟩
  simp only [zcs, e]
  congr 1
  omega
def zst (d : Nat) : Prop := d = 3 ∨ d = 21 ∨ d = 41 ∨ d = 59 ∨ d = 77 ∨ d = 95
theorem zok_st {d o : Nat} (hd : zst d) (ho : o < 18) (z v : Int) : zOk (d + o) z v = zOkS o z v := by
  unfold zOk
  rcases hd with rfl | rfl | rfl | rfl | rfl | rfl
  · rw [if_neg (by omega), if_pos (by omega), show (3 + o - 3) % 18 = o by omega]
  · rw [if_neg (by omega), if_pos (by omega), show (21 + o - 3) % 18 = o by omega]
  · rw [if_neg (by omega), if_neg (by omega), if_neg (by omega), if_pos (by omega), show (41 + o - 41) % 18 = o by omega]
  · rw [if_neg (by omega), if_neg (by omega), if_neg (by omega), if_pos (by omega), show (59 + o - 41) % 18 = o by omega]
  · rw [if_neg (by omega), if_neg (by omega), if_neg (by omega), if_pos (by omega), show (77 + o - 41) % 18 = o by omega]
  · rw [if_neg (by omega), if_neg (by omega), if_neg (by omega), if_pos (by omega), show (95 + o - 41) % 18 = o by omega]
theorem zcs_ok {μ : zM} {d s : Nat} (h : zB μ) (hd : zst d) (hs : zst s) : zB (zcs μ d s) := by
  intro k z
  by_cases e : k < d ∨ d + 18 ≤ k
  · rw [zcs_ne e]; exact h k z
  · obtain ⟨o, ho, rfl⟩ : ∃ o, o < 18 ∧ k = d + o := ⟨k - d, by omega, by omega⟩
    rw [zcs_in ho, zok_st hd ho, ← zok_st hs ho]
    exact h (s + o) z
def zsm (Sh : List zS) (μ μ' : zM) : Prop := ∀ (k : Nat) (sp : zS), Sh[k]? = some sp → match sp with
  | .inl q => ∀ j : Nat, q.2[j]? = some none → μ k j = μ' k j
  | .inr _ => μ k = μ' k
theorem zfs_same {b : Nat} {μ μ' : Int → Int} : ∀ (fs : List (Option (Option Nat))) (i : Nat), (∀ j : Nat, fs[j]? = some none → μ ((i + j : Nat) : Int) = μ' ((i + j : Nat) : Int)) → zfs b μ i fs = zfs b μ' i fs
  | [], _, _ => rfl
  | f :: fs, i, h => by
    have ih := zfs_same fs (i + 1) (b := b) (μ := μ) (μ' := μ') (fun j hj => by have := h (j + 1) (by simpa using hj); rw [show i + 1 + j = i + (j + 1) by omega]; exact this)
    simp only [zfs]
    rw [ih]
    congr 1
    rcases f with _ | _ | r
    · have := h 0 rfl
      simp only [zfv]
      rw [Nat.add_zero] at this
      rw [this]
    · rfl
    · rfl
theorem zsm_cell {Sh : List zS} {μ μ' : zM} {G : zG} (h : zsm Sh μ μ') {k : Nat} {sp : zS} (hk : Sh[k]? = some sp) : zcell G μ k sp = zcell G μ' k sp := by
  have h1 := h k sp hk
  rcases sp with ⟨ci, fs⟩ | ⟨t, n⟩
  · simp only [zcell]
    have e := zfs_same (b := G.1) (μ := μ k) (μ' := μ' k) fs 0 (fun j hj => by simpa using h1 j hj)
    rw [e]
  · simp only [zcell]
    rw [show μ k = μ' k from h1]

def kb_5_copyRow_0 : List zI := [(.aload_n 0, 1, 0, 0), (.iconst 0, 1, 0, 0), (.aload_n 1, 1, 0, 0), (.iconst 0, 1, 0, 0), (.aload_n 0, 1, 0, 0), (.arraylength, 1, 0, 0), (.aload_n 1, 1, 0, 0), (.arraylength, 1, 0, 0)]
theorem kd_5_copyRow_0 : zdec md_5_copyRow 0 kb_5_copyRow_0 = true := by decide +kernel
theorem kr_5_copyRow_8 : decode md_5_copyRow.2.1 8 = .ok (.invokestatic 221, 3) := by decide +kernel
theorem kr_5_copyRow_11 : decode md_5_copyRow.2.1 11 = .ok (.invokestatic 224, 3) := by decide +kernel
theorem kr_5_copyRow_14 : decode md_5_copyRow.2.1 14 = .ok (.return_, 1) := by decide +kernel
theorem xz_copyRow {μ : zM} (s d len : Nat) (hs : zSh[s]? = some (.inr (0, len))) (hd : zSh[d]? = some (.inr (0, len))) (hn : len ≤ 100000) : Dz md_5_copyRow [zr s, zr d] zSh μ none zSh (zcp μ d s) := by
  refine Dz.of (by decide) rfl rfl (show Ez md_5_copyRow 0 0 0 [(0, zr s), (1, zr d)] [] zSh μ none zSh (zcp μ d s) from ?_)
  refine Az.blk kd_5_copyRow_0 ?_
  have key : Ez md_5_copyRow 0 0 8 [(0, zr s), (1, zr d)] [zi (len : Int), zi (len : Int), zi 0, zr d, zi 0, zr s] zSh μ none zSh (zcp μ d s) := by
    refine Az.mmin (a := (len : Int)) (b := (len : Int)) kr_5_copyRow_8 zw_214 rfl (by omega) (by omega) rfl (show Ez md_5_copyRow 0 0 11 [(0, zr s), (1, zr d)] [zi (if (len : Int) < (len : Int) then (len : Int) else (len : Int)), zi 0, zr d, zi 0, zr s] zSh μ _ _ _ from ?_)
    refine Az.copy kr_5_copyRow_11 zw_217 rfl hs hd (by simp) hn rfl ?_
    exact Ez.vret kr_5_copyRow_14 rfl (Nat.zero_le _) (Nat.zero_le _) rfl rfl
  show (match zSh[s]? with | some (.inr (c, n)) => _ | _ => False)
  rw [hs]
  show (match zSh[d]? with | some (.inr (c, n)) => _ | _ => False)
  rw [hd]
  exact key
def kb_4_copyWordsFrom_0 : List zI := [(.aload_n 0, 1, 0, 0), (.aload_n 1, 1, 0, 0), (.getfield 9, 3, 4, 0), (.putfield 9, 3, 4, 0), (.aload_n 1, 1, 0, 0), (.getfield 15, 3, 4, 1), (.aload_n 0, 1, 0, 0), (.getfield 15, 3, 4, 1)]
theorem kd_4_copyWordsFrom_0 : zdec md_4_copyWordsFrom 0 kb_4_copyWordsFrom_0 = true := by decide +kernel
theorem kr_4_copyWordsFrom_16 : decode md_4_copyWordsFrom.2.1 16 = .ok (.invokestatic 31, 3) := by decide +kernel
def kb_4_copyWordsFrom_19 : List zI := [(.aload_n 1, 1, 0, 0), (.getfield 19, 3, 4, 2), (.aload_n 0, 1, 0, 0), (.getfield 19, 3, 4, 2)]
theorem kd_4_copyWordsFrom_19 : zdec md_4_copyWordsFrom 19 kb_4_copyWordsFrom_19 = true := by decide +kernel
theorem kr_4_copyWordsFrom_27 : decode md_4_copyWordsFrom.2.1 27 = .ok (.invokestatic 31, 3) := by decide +kernel
def kb_4_copyWordsFrom_30 : List zI := [(.aload_n 1, 1, 0, 0), (.getfield 22, 3, 4, 3), (.aload_n 0, 1, 0, 0), (.getfield 22, 3, 4, 3)]
theorem kd_4_copyWordsFrom_30 : zdec md_4_copyWordsFrom 30 kb_4_copyWordsFrom_30 = true := by decide +kernel
theorem kr_4_copyWordsFrom_38 : decode md_4_copyWordsFrom.2.1 38 = .ok (.invokestatic 31, 3) := by decide +kernel
def kb_4_copyWordsFrom_41 : List zI := [(.aload_n 1, 1, 0, 0), (.getfield 25, 3, 4, 4), (.aload_n 0, 1, 0, 0), (.getfield 25, 3, 4, 4)]
theorem kd_4_copyWordsFrom_41 : zdec md_4_copyWordsFrom 41 kb_4_copyWordsFrom_41 = true := by decide +kernel
theorem kr_4_copyWordsFrom_49 : decode md_4_copyWordsFrom.2.1 49 = .ok (.invokestatic 31, 3) := by decide +kernel
def kb_4_copyWordsFrom_52 : List zI := [(.aload_n 1, 1, 0, 0), (.getfield 28, 3, 4, 5), (.aload_n 0, 1, 0, 0), (.getfield 28, 3, 4, 5)]
theorem kd_4_copyWordsFrom_52 : zdec md_4_copyWordsFrom 52 kb_4_copyWordsFrom_52 = true := by decide +kernel
theorem kr_4_copyWordsFrom_60 : decode md_4_copyWordsFrom.2.1 60 = .ok (.invokestatic 31, 3) := by decide +kernel
theorem kr_4_copyWordsFrom_63 : decode md_4_copyWordsFrom.2.1 63 = .ok (.return_, 1) := by decide +kernel
set_option maxHeartbeats 4000000 in
set_option maxRecDepth 100000 in
theorem xz_copyWordsFrom_4_22 {μ : zM} : Dz md_4_copyWordsFrom [zr 4, zr 22] zSh μ none zSh (zcp (zcp (zcp (zcp (zcp (zup μ 4 0 (μ 22 0)) 5 23) 6 24) 7 25) 8 26) 9 27) := by
  refine Dz.of (by decide) rfl rfl (show Ez md_4_copyWordsFrom 0 0 0 [(0, zr 4), (1, zr 22)] [] zSh μ none zSh (zcp (zcp (zcp (zcp (zcp (zup μ 4 0 (μ 22 0)) 5 23) 6 24) 7 25) 8 26) 9 27) from ?_)
  refine Az.blk kd_4_copyWordsFrom_0 (show Ez md_4_copyWordsFrom 0 0 16 [(0, zr 4), (1, zr 22)] [zr 5, zr 23] zSh (zup μ 4 0 (μ 22 0)) _ _ _ from ?_)
  refine Az.cSN (mc := md_5_copyRow) (n := 2) (As := [zr 23, zr 5]) (rest := []) kr_4_copyWordsFrom_16 zw_211 ok_5_copyRow rfl rfl (xz_copyRow 23 5 24 rfl rfl (by decide)) rfl rfl (show Ez md_4_copyWordsFrom 0 0 19 [(0, zr 4), (1, zr 22)] [] zSh (zcp (zup μ 4 0 (μ 22 0)) 5 23) _ _ _ from ?_)
  refine Az.blk kd_4_copyWordsFrom_19 (show Ez md_4_copyWordsFrom 0 0 27 [(0, zr 4), (1, zr 22)] [zr 6, zr 24] zSh (zcp (zup μ 4 0 (μ 22 0)) 5 23) _ _ _ from ?_)
  refine Az.cSN (mc := md_5_copyRow) (n := 2) (As := [zr 24, zr 6]) (rest := []) kr_4_copyWordsFrom_27 zw_211 ok_5_copyRow rfl rfl (xz_copyRow 24 6 24 rfl rfl (by decide)) rfl rfl (show Ez md_4_copyWordsFrom 0 0 30 [(0, zr 4), (1, zr 22)] [] zSh (zcp (zcp (zup μ 4 0 (μ 22 0)) 5 23) 6 24) _ _ _ from ?_)
  refine Az.blk kd_4_copyWordsFrom_30 (show Ez md_4_copyWordsFrom 0 0 38 [(0, zr 4), (1, zr 22)] [zr 7, zr 25] zSh (zcp (zcp (zup μ 4 0 (μ 22 0)) 5 23) 6 24) _ _ _ from ?_)
  refine Az.cSN (mc := md_5_copyRow) (n := 2) (As := [zr 25, zr 7]) (rest := []) kr_4_copyWordsFrom_38 zw_211 ok_5_copyRow rfl rfl (xz_copyRow 25 7 24 rfl rfl (by decide)) rfl rfl (show Ez md_4_copyWordsFrom 0 0 41 [(0, zr 4), (1, zr 22)] [] zSh (zcp (zcp (zcp (zup μ 4 0 (μ 22 0)) 5 23) 6 24) 7 25) _ _ _ from ?_)
  refine Az.blk kd_4_copyWordsFrom_41 (show Ez md_4_copyWordsFrom 0 0 49 [(0, zr 4), (1, zr 22)] [zr 8, zr 26] zSh (zcp (zcp (zcp (zup μ 4 0 (μ 22 0)) 5 23) 6 24) 7 25) _ _ _ from ?_)
  refine Az.cSN (mc := md_5_copyRow) (n := 2) (As := [zr 26, zr 8]) (rest := []) kr_4_copyWordsFrom_49 zw_211 ok_5_copyRow rfl rfl (xz_copyRow 26 8 192 rfl rfl (by decide)) rfl rfl (show Ez md_4_copyWordsFrom 0 0 52 [(0, zr 4), (1, zr 22)] [] zSh (zcp (zcp (zcp (zcp (zup μ 4 0 (μ 22 0)) 5 23) 6 24) 7 25) 8 26) _ _ _ from ?_)
  refine Az.blk kd_4_copyWordsFrom_52 (show Ez md_4_copyWordsFrom 0 0 60 [(0, zr 4), (1, zr 22)] [zr 9, zr 27] zSh (zcp (zcp (zcp (zcp (zup μ 4 0 (μ 22 0)) 5 23) 6 24) 7 25) 8 26) _ _ _ from ?_)
  refine Az.cSN (mc := md_5_copyRow) (n := 2) (As := [zr 27, zr 9]) (rest := []) kr_4_copyWordsFrom_60 zw_211 ok_5_copyRow rfl rfl (xz_copyRow 27 9 18 rfl rfl (by decide)) rfl rfl (show Ez md_4_copyWordsFrom 0 0 63 [(0, zr 4), (1, zr 22)] [] zSh (zcp (zcp (zcp (zcp (zcp (zup μ 4 0 (μ 22 0)) 5 23) 6 24) 7 25) 8 26) 9 27) _ _ _ from ?_)
  exact Ez.vret kr_4_copyWordsFrom_63 rfl (Nat.zero_le _) (Nat.zero_le _) rfl rfl
def kb_2_copyTaleFrom_0 : List zI := [(.aload_n 0, 1, 0, 0), (.aload_n 1, 1, 0, 0), (.getfield 9, 3, 2, 0), (.putfield 9, 3, 2, 0), (.aload_n 0, 1, 0, 0), (.aload_n 1, 1, 0, 0), (.getfield 15, 3, 2, 1), (.putfield 15, 3, 2, 1), (.aload_n 1, 1, 0, 0), (.getfield 18, 3, 2, 2), (.aload_n 0, 1, 0, 0), (.getfield 18, 3, 2, 2)]
theorem kd_2_copyTaleFrom_0 : zdec md_2_copyTaleFrom 0 kb_2_copyTaleFrom_0 = true := by decide +kernel
theorem kr_2_copyTaleFrom_24 : decode md_2_copyTaleFrom.2.1 24 = .ok (.invokestatic 43, 3) := by decide +kernel
def kb_2_copyTaleFrom_27 : List zI := [(.aload_n 1, 1, 0, 0), (.getfield 22, 3, 2, 3), (.aload_n 0, 1, 0, 0), (.getfield 22, 3, 2, 3)]
theorem kd_2_copyTaleFrom_27 : zdec md_2_copyTaleFrom 27 kb_2_copyTaleFrom_27 = true := by decide +kernel
theorem kr_2_copyTaleFrom_35 : decode md_2_copyTaleFrom.2.1 35 = .ok (.invokestatic 43, 3) := by decide +kernel
def kb_2_copyTaleFrom_38 : List zI := [(.aload_n 1, 1, 0, 0), (.getfield 25, 3, 2, 4), (.aload_n 0, 1, 0, 0), (.getfield 25, 3, 2, 4)]
theorem kd_2_copyTaleFrom_38 : zdec md_2_copyTaleFrom 38 kb_2_copyTaleFrom_38 = true := by decide +kernel
theorem kr_2_copyTaleFrom_46 : decode md_2_copyTaleFrom.2.1 46 = .ok (.invokestatic 43, 3) := by decide +kernel
def kb_2_copyTaleFrom_49 : List zI := [(.aload_n 1, 1, 0, 0), (.getfield 28, 3, 2, 5), (.aload_n 0, 1, 0, 0), (.getfield 28, 3, 2, 5)]
theorem kd_2_copyTaleFrom_49 : zdec md_2_copyTaleFrom 49 kb_2_copyTaleFrom_49 = true := by decide +kernel
theorem kr_2_copyTaleFrom_57 : decode md_2_copyTaleFrom.2.1 57 = .ok (.invokestatic 43, 3) := by decide +kernel
def kb_2_copyTaleFrom_60 : List zI := [(.aload_n 1, 1, 0, 0), (.getfield 31, 3, 2, 6), (.aload_n 0, 1, 0, 0), (.getfield 31, 3, 2, 6)]
theorem kd_2_copyTaleFrom_60 : zdec md_2_copyTaleFrom 60 kb_2_copyTaleFrom_60 = true := by decide +kernel
theorem kr_2_copyTaleFrom_68 : decode md_2_copyTaleFrom.2.1 68 = .ok (.invokestatic 43, 3) := by decide +kernel
def kb_2_copyTaleFrom_71 : List zI := [(.aload_n 1, 1, 0, 0), (.getfield 34, 3, 2, 7), (.aload_n 0, 1, 0, 0), (.getfield 34, 3, 2, 7)]
theorem kd_2_copyTaleFrom_71 : zdec md_2_copyTaleFrom 71 kb_2_copyTaleFrom_71 = true := by decide +kernel
theorem kr_2_copyTaleFrom_79 : decode md_2_copyTaleFrom.2.1 79 = .ok (.invokestatic 43, 3) := by decide +kernel
def kb_2_copyTaleFrom_82 : List zI := [(.aload_n 1, 1, 0, 0), (.getfield 37, 3, 2, 8), (.aload_n 0, 1, 0, 0), (.getfield 37, 3, 2, 8)]
theorem kd_2_copyTaleFrom_82 : zdec md_2_copyTaleFrom 82 kb_2_copyTaleFrom_82 = true := by decide +kernel
theorem kr_2_copyTaleFrom_90 : decode md_2_copyTaleFrom.2.1 90 = .ok (.invokestatic 43, 3) := by decide +kernel
def kb_2_copyTaleFrom_93 : List zI := [(.aload_n 1, 1, 0, 0), (.getfield 40, 3, 2, 9), (.aload_n 0, 1, 0, 0), (.getfield 40, 3, 2, 9)]
theorem kd_2_copyTaleFrom_93 : zdec md_2_copyTaleFrom 93 kb_2_copyTaleFrom_93 = true := by decide +kernel
theorem kr_2_copyTaleFrom_101 : decode md_2_copyTaleFrom.2.1 101 = .ok (.invokestatic 43, 3) := by decide +kernel
theorem kr_2_copyTaleFrom_104 : decode md_2_copyTaleFrom.2.1 104 = .ok (.return_, 1) := by decide +kernel
set_option maxHeartbeats 4000000 in
set_option maxRecDepth 100000 in
theorem xz_copyTaleFrom_10_28 {μ : zM} : Dz md_2_copyTaleFrom [zr 10, zr 28] zSh μ none zSh (zcp (zcp (zcp (zcp (zcp (zcp (zcp (zcp (zup (zup μ 10 0 (μ 28 0)) 10 1 (μ 28 1)) 11 29) 12 30) 13 31) 14 32) 15 33) 16 34) 17 35) 18 36) := by
  refine Dz.of (by decide) rfl rfl (show Ez md_2_copyTaleFrom 0 0 0 [(0, zr 10), (1, zr 28)] [] zSh μ none zSh (zcp (zcp (zcp (zcp (zcp (zcp (zcp (zcp (zup (zup μ 10 0 (μ 28 0)) 10 1 (μ 28 1)) 11 29) 12 30) 13 31) 14 32) 15 33) 16 34) 17 35) 18 36) from ?_)
  refine Az.blk kd_2_copyTaleFrom_0 (show Ez md_2_copyTaleFrom 0 0 24 [(0, zr 10), (1, zr 28)] [zr 11, zr 29] zSh (zup (zup μ 10 0 (μ 28 0)) 10 1 (μ 28 1)) _ _ _ from ?_)
  refine Az.cSN (mc := md_5_copyRow) (n := 2) (As := [zr 29, zr 11]) (rest := []) kr_2_copyTaleFrom_24 zw_224 ok_5_copyRow rfl rfl (xz_copyRow 29 11 20 rfl rfl (by decide)) rfl rfl (show Ez md_2_copyTaleFrom 0 0 27 [(0, zr 10), (1, zr 28)] [] zSh (zcp (zup (zup μ 10 0 (μ 28 0)) 10 1 (μ 28 1)) 11 29) _ _ _ from ?_)
  refine Az.blk kd_2_copyTaleFrom_27 (show Ez md_2_copyTaleFrom 0 0 35 [(0, zr 10), (1, zr 28)] [zr 12, zr 30] zSh (zcp (zup (zup μ 10 0 (μ 28 0)) 10 1 (μ 28 1)) 11 29) _ _ _ from ?_)
  refine Az.cSN (mc := md_5_copyRow) (n := 2) (As := [zr 30, zr 12]) (rest := []) kr_2_copyTaleFrom_35 zw_224 ok_5_copyRow rfl rfl (xz_copyRow 30 12 20 rfl rfl (by decide)) rfl rfl (show Ez md_2_copyTaleFrom 0 0 38 [(0, zr 10), (1, zr 28)] [] zSh (zcp (zcp (zup (zup μ 10 0 (μ 28 0)) 10 1 (μ 28 1)) 11 29) 12 30) _ _ _ from ?_)
  refine Az.blk kd_2_copyTaleFrom_38 (show Ez md_2_copyTaleFrom 0 0 46 [(0, zr 10), (1, zr 28)] [zr 13, zr 31] zSh (zcp (zcp (zup (zup μ 10 0 (μ 28 0)) 10 1 (μ 28 1)) 11 29) 12 30) _ _ _ from ?_)
  refine Az.cSN (mc := md_5_copyRow) (n := 2) (As := [zr 31, zr 13]) (rest := []) kr_2_copyTaleFrom_46 zw_224 ok_5_copyRow rfl rfl (xz_copyRow 31 13 20 rfl rfl (by decide)) rfl rfl (show Ez md_2_copyTaleFrom 0 0 49 [(0, zr 10), (1, zr 28)] [] zSh (zcp (zcp (zcp (zup (zup μ 10 0 (μ 28 0)) 10 1 (μ 28 1)) 11 29) 12 30) 13 31) _ _ _ from ?_)
  refine Az.blk kd_2_copyTaleFrom_49 (show Ez md_2_copyTaleFrom 0 0 57 [(0, zr 10), (1, zr 28)] [zr 14, zr 32] zSh (zcp (zcp (zcp (zup (zup μ 10 0 (μ 28 0)) 10 1 (μ 28 1)) 11 29) 12 30) 13 31) _ _ _ from ?_)
  refine Az.cSN (mc := md_5_copyRow) (n := 2) (As := [zr 32, zr 14]) (rest := []) kr_2_copyTaleFrom_57 zw_224 ok_5_copyRow rfl rfl (xz_copyRow 32 14 60 rfl rfl (by decide)) rfl rfl (show Ez md_2_copyTaleFrom 0 0 60 [(0, zr 10), (1, zr 28)] [] zSh (zcp (zcp (zcp (zcp (zup (zup μ 10 0 (μ 28 0)) 10 1 (μ 28 1)) 11 29) 12 30) 13 31) 14 32) _ _ _ from ?_)
  refine Az.blk kd_2_copyTaleFrom_60 (show Ez md_2_copyTaleFrom 0 0 68 [(0, zr 10), (1, zr 28)] [zr 15, zr 33] zSh (zcp (zcp (zcp (zcp (zup (zup μ 10 0 (μ 28 0)) 10 1 (μ 28 1)) 11 29) 12 30) 13 31) 14 32) _ _ _ from ?_)
  refine Az.cSN (mc := md_5_copyRow) (n := 2) (As := [zr 33, zr 15]) (rest := []) kr_2_copyTaleFrom_68 zw_224 ok_5_copyRow rfl rfl (xz_copyRow 33 15 20 rfl rfl (by decide)) rfl rfl (show Ez md_2_copyTaleFrom 0 0 71 [(0, zr 10), (1, zr 28)] [] zSh (zcp (zcp (zcp (zcp (zcp (zup (zup μ 10 0 (μ 28 0)) 10 1 (μ 28 1)) 11 29) 12 30) 13 31) 14 32) 15 33) _ _ _ from ?_)
  refine Az.blk kd_2_copyTaleFrom_71 (show Ez md_2_copyTaleFrom 0 0 79 [(0, zr 10), (1, zr 28)] [zr 16, zr 34] zSh (zcp (zcp (zcp (zcp (zcp (zup (zup μ 10 0 (μ 28 0)) 10 1 (μ 28 1)) 11 29) 12 30) 13 31) 14 32) 15 33) _ _ _ from ?_)
  refine Az.cSN (mc := md_5_copyRow) (n := 2) (As := [zr 34, zr 16]) (rest := []) kr_2_copyTaleFrom_79 zw_224 ok_5_copyRow rfl rfl (xz_copyRow 34 16 20 rfl rfl (by decide)) rfl rfl (show Ez md_2_copyTaleFrom 0 0 82 [(0, zr 10), (1, zr 28)] [] zSh (zcp (zcp (zcp (zcp (zcp (zcp (zup (zup μ 10 0 (μ 28 0)) 10 1 (μ 28 1)) 11 29) 12 30) 13 31) 14 32) 15 33) 16 34) _ _ _ from ?_)
  refine Az.blk kd_2_copyTaleFrom_82 (show Ez md_2_copyTaleFrom 0 0 90 [(0, zr 10), (1, zr 28)] [zr 17, zr 35] zSh (zcp (zcp (zcp (zcp (zcp (zcp (zup (zup μ 10 0 (μ 28 0)) 10 1 (μ 28 1)) 11 29) 12 30) 13 31) 14 32) 15 33) 16 34) _ _ _ from ?_)
  refine Az.cSN (mc := md_5_copyRow) (n := 2) (As := [zr 35, zr 17]) (rest := []) kr_2_copyTaleFrom_90 zw_224 ok_5_copyRow rfl rfl (xz_copyRow 35 17 20 rfl rfl (by decide)) rfl rfl (show Ez md_2_copyTaleFrom 0 0 93 [(0, zr 10), (1, zr 28)] [] zSh (zcp (zcp (zcp (zcp (zcp (zcp (zcp (zup (zup μ 10 0 (μ 28 0)) 10 1 (μ 28 1)) 11 29) 12 30) 13 31) 14 32) 15 33) 16 34) 17 35) _ _ _ from ?_)
  refine Az.blk kd_2_copyTaleFrom_93 (show Ez md_2_copyTaleFrom 0 0 101 [(0, zr 10), (1, zr 28)] [zr 18, zr 36] zSh (zcp (zcp (zcp (zcp (zcp (zcp (zcp (zup (zup μ 10 0 (μ 28 0)) 10 1 (μ 28 1)) 11 29) 12 30) 13 31) 14 32) 15 33) 16 34) 17 35) _ _ _ from ?_)
  refine Az.cSN (mc := md_5_copyRow) (n := 2) (As := [zr 36, zr 18]) (rest := []) kr_2_copyTaleFrom_101 zw_224 ok_5_copyRow rfl rfl (xz_copyRow 36 18 20 rfl rfl (by decide)) rfl rfl (show Ez md_2_copyTaleFrom 0 0 104 [(0, zr 10), (1, zr 28)] [] zSh (zcp (zcp (zcp (zcp (zcp (zcp (zcp (zcp (zup (zup μ 10 0 (μ 28 0)) 10 1 (μ 28 1)) 11 29) 12 30) 13 31) 14 32) 15 33) 16 34) 17 35) 18 36) _ _ _ from ?_)
  exact Ez.vret kr_2_copyTaleFrom_104 rfl (Nat.zero_le _) (Nat.zero_le _) rfl rfl
def kb_1_copyFrom_0 : List zI := [(.aload_n 0, 1, 0, 0), (.getfield 12, 3, 1, 0), (.aload_n 1, 1, 0, 0), (.getfield 12, 3, 1, 0)]
theorem kd_1_copyFrom_0 : zdec md_1_copyFrom 0 kb_1_copyFrom_0 = true := by decide +kernel
theorem kr_1_copyFrom_8 : decode md_1_copyFrom.2.1 8 = .ok (.invokevirtual 39, 3) := by decide +kernel
def kb_1_copyFrom_11 : List zI := [(.aload_n 0, 1, 0, 0), (.getfield 21, 3, 1, 1), (.aload_n 1, 1, 0, 0), (.getfield 21, 3, 1, 1)]
theorem kd_1_copyFrom_11 : zdec md_1_copyFrom 11 kb_1_copyFrom_11 = true := by decide +kernel
theorem kr_1_copyFrom_19 : decode md_1_copyFrom.2.1 19 = .ok (.invokevirtual 43, 3) := by decide +kernel
def kb_1_copyFrom_22 : List zI := [(.aload_n 1, 1, 0, 0), (.getfield 25, 3, 1, 2), (.aload_n 0, 1, 0, 0), (.getfield 25, 3, 1, 2)]
theorem kd_1_copyFrom_22 : zdec md_1_copyFrom 22 kb_1_copyFrom_22 = true := by decide +kernel
theorem kr_1_copyFrom_30 : decode md_1_copyFrom.2.1 30 = .ok (.invokestatic 47, 3) := by decide +kernel
def kb_1_copyFrom_33 : List zI := [(.aload_n 1, 1, 0, 0), (.getfield 29, 3, 1, 3), (.aload_n 0, 1, 0, 0), (.getfield 29, 3, 1, 3)]
theorem kd_1_copyFrom_33 : zdec md_1_copyFrom 33 kb_1_copyFrom_33 = true := by decide +kernel
theorem kr_1_copyFrom_41 : decode md_1_copyFrom.2.1 41 = .ok (.invokestatic 47, 3) := by decide +kernel
def kb_1_copyFrom_44 : List zI := [(.aload_n 0, 1, 0, 0), (.aload_n 1, 1, 0, 0), (.getfield 32, 3, 1, 4), (.putfield 32, 3, 1, 4), (.aload_n 0, 1, 0, 0), (.aload_n 1, 1, 0, 0), (.getfield 36, 3, 1, 5), (.putfield 36, 3, 1, 5)]
theorem kd_1_copyFrom_44 : zdec md_1_copyFrom 44 kb_1_copyFrom_44 = true := by decide +kernel
theorem kr_1_copyFrom_60 : decode md_1_copyFrom.2.1 60 = .ok (.return_, 1) := by decide +kernel
set_option maxRecDepth 100000 in
theorem zsm_3_21 (μ : zM) : zsm zSh (zup (zup (zcp (zcp (zcp (zcp (zcp (zcp (zcp (zcp (zcp (zcp (zup (zup (zcp (zcp (zcp (zcp (zcp (zup μ 4 0 (μ 22 0)) 5 23) 6 24) 7 25) 8 26) 9 27) 10 0 (μ 28 0)) 10 1 (μ 28 1)) 11 29) 12 30) 13 31) 14 32) 15 33) 16 34) 17 35) 18 36) 19 37) 20 38) 3 4 (μ 21 4)) 3 5 (μ 21 5)) (zcs μ 3 21) := by
  intro k sp hk
  by_cases e : k < 3 ∨ 21 ≤ k
  · have e1 : (zup (zup (zcp (zcp (zcp (zcp (zcp (zcp (zcp (zcp (zcp (zcp (zup (zup (zcp (zcp (zcp (zcp (zcp (zup μ 4 0 (μ 22 0)) 5 23) 6 24) 7 25) 8 26) 9 27) 10 0 (μ 28 0)) 10 1 (μ 28 1)) 11 29) 12 30) 13 31) 14 32) 15 33) 16 34) 17 35) 18 36) 19 37) 20 38) 3 4 (μ 21 4)) 3 5 (μ 21 5)) k = μ k := by
      rw [zup_ne (by omega), zup_ne (by omega), zcp_ne (by omega), zcp_ne (by omega), zcp_ne (by omega), zcp_ne (by omega), zcp_ne (by omega), zcp_ne (by omega), zcp_ne (by omega), zcp_ne (by omega), zcp_ne (by omega), zcp_ne (by omega), zup_ne (by omega), zup_ne (by omega), zcp_ne (by omega), zcp_ne (by omega), zcp_ne (by omega), zcp_ne (by omega), zcp_ne (by omega), zup_ne (by omega)]
    have e2 : zcs μ 3 21 k = μ k := zcs_ne (by omega)
    rcases sp with p | p
    · intro j _; rw [e1, e2]
    · show _ = _; rw [e1, e2]
  · obtain ⟨o, ho, rfl⟩ : ∃ o, o < 18 ∧ k = 3 + o := ⟨k - 3, by omega, by omega⟩
    match o, ho with
    | 0, _ =>
      obtain rfl : (Sum.inl (1, [some (some 4), some (some 10), some (some 19), some (some 20), none, none]) : zS) = sp := Option.some.inj hk
      intro j hj
      match j, hj with
      | 0, h => exact absurd h (by decide)
      | 1, h => exact absurd h (by decide)
      | 2, h => exact absurd h (by decide)
      | 3, h => exact absurd h (by decide)
      | 4, _ => exact (rfl : (zup (zup (zcp (zcp (zcp (zcp (zcp (zcp (zcp (zcp (zcp (zcp (zup (zup (zcp (zcp (zcp (zcp (zcp (zup μ 4 0 (μ 22 0)) 5 23) 6 24) 7 25) 8 26) 9 27) 10 0 (μ 28 0)) 10 1 (μ 28 1)) 11 29) 12 30) 13 31) 14 32) 15 33) 16 34) 17 35) 18 36) 19 37) 20 38) 3 4 (μ 21 4)) 3 5 (μ 21 5)) 3 4 = zcs μ 3 21 3 4)
      | 5, _ => exact (rfl : (zup (zup (zcp (zcp (zcp (zcp (zcp (zcp (zcp (zcp (zcp (zcp (zup (zup (zcp (zcp (zcp (zcp (zcp (zup μ 4 0 (μ 22 0)) 5 23) 6 24) 7 25) 8 26) 9 27) 10 0 (μ 28 0)) 10 1 (μ 28 1)) 11 29) 12 30) 13 31) 14 32) 15 33) 16 34) 17 35) 18 36) 19 37) 20 38) 3 4 (μ 21 4)) 3 5 (μ 21 5)) 3 5 = zcs μ 3 21 3 5)
      | j + 6, h => simp at h
    | 1, _ =>
      obtain rfl : (Sum.inl (4, [none, some (some 5), some (some 6), some (some 7), some (some 8), some (some 9)]) : zS) = sp := Option.some.inj hk
      intro j hj
      match j, hj with
      | 0, _ => exact (rfl : (zup (zup (zcp (zcp (zcp (zcp (zcp (zcp (zcp (zcp (zcp (zcp (zup (zup (zcp (zcp (zcp (zcp (zcp (zup μ 4 0 (μ 22 0)) 5 23) 6 24) 7 25) 8 26) 9 27) 10 0 (μ 28 0)) 10 1 (μ 28 1)) 11 29) 12 30) 13 31) 14 32) 15 33) 16 34) 17 35) 18 36) 19 37) 20 38) 3 4 (μ 21 4)) 3 5 (μ 21 5)) 4 0 = zcs μ 3 21 4 0)
      | 1, h => exact absurd h (by decide)
      | 2, h => exact absurd h (by decide)
      | 3, h => exact absurd h (by decide)
      | 4, h => exact absurd h (by decide)
      | 5, h => exact absurd h (by decide)
      | j + 6, h => simp at h
    | 2, _ =>
      obtain rfl : (Sum.inr (0, 24) : zS) = sp := Option.some.inj hk
      exact (rfl : (zup (zup (zcp (zcp (zcp (zcp (zcp (zcp (zcp (zcp (zcp (zcp (zup (zup (zcp (zcp (zcp (zcp (zcp (zup μ 4 0 (μ 22 0)) 5 23) 6 24) 7 25) 8 26) 9 27) 10 0 (μ 28 0)) 10 1 (μ 28 1)) 11 29) 12 30) 13 31) 14 32) 15 33) 16 34) 17 35) 18 36) 19 37) 20 38) 3 4 (μ 21 4)) 3 5 (μ 21 5)) 5 = zcs μ 3 21 5)
    | 3, _ =>
      obtain rfl : (Sum.inr (0, 24) : zS) = sp := Option.some.inj hk
      exact (rfl : (zup (zup (zcp (zcp (zcp (zcp (zcp (zcp (zcp (zcp (zcp (zcp (zup (zup (zcp (zcp (zcp (zcp (zcp (zup μ 4 0 (μ 22 0)) 5 23) 6 24) 7 25) 8 26) 9 27) 10 0 (μ 28 0)) 10 1 (μ 28 1)) 11 29) 12 30) 13 31) 14 32) 15 33) 16 34) 17 35) 18 36) 19 37) 20 38) 3 4 (μ 21 4)) 3 5 (μ 21 5)) 6 = zcs μ 3 21 6)
    | 4, _ =>
      obtain rfl : (Sum.inr (0, 24) : zS) = sp := Option.some.inj hk
      exact (rfl : (zup (zup (zcp (zcp (zcp (zcp (zcp (zcp (zcp (zcp (zcp (zcp (zup (zup (zcp (zcp (zcp (zcp (zcp (zup μ 4 0 (μ 22 0)) 5 23) 6 24) 7 25) 8 26) 9 27) 10 0 (μ 28 0)) 10 1 (μ 28 1)) 11 29) 12 30) 13 31) 14 32) 15 33) 16 34) 17 35) 18 36) 19 37) 20 38) 3 4 (μ 21 4)) 3 5 (μ 21 5)) 7 = zcs μ 3 21 7)
    | 5, _ =>
      obtain rfl : (Sum.inr (0, 192) : zS) = sp := Option.some.inj hk
      exact (rfl : (zup (zup (zcp (zcp (zcp (zcp (zcp (zcp (zcp (zcp (zcp (zcp (zup (zup (zcp (zcp (zcp (zcp (zcp (zup μ 4 0 (μ 22 0)) 5 23) 6 24) 7 25) 8 26) 9 27) 10 0 (μ 28 0)) 10 1 (μ 28 1)) 11 29) 12 30) 13 31) 14 32) 15 33) 16 34) 17 35) 18 36) 19 37) 20 38) 3 4 (μ 21 4)) 3 5 (μ 21 5)) 8 = zcs μ 3 21 8)
    | 6, _ =>
      obtain rfl : (Sum.inr (0, 18) : zS) = sp := Option.some.inj hk
      exact (rfl : (zup (zup (zcp (zcp (zcp (zcp (zcp (zcp (zcp (zcp (zcp (zcp (zup (zup (zcp (zcp (zcp (zcp (zcp (zup μ 4 0 (μ 22 0)) 5 23) 6 24) 7 25) 8 26) 9 27) 10 0 (μ 28 0)) 10 1 (μ 28 1)) 11 29) 12 30) 13 31) 14 32) 15 33) 16 34) 17 35) 18 36) 19 37) 20 38) 3 4 (μ 21 4)) 3 5 (μ 21 5)) 9 = zcs μ 3 21 9)
    | 7, _ =>
      obtain rfl : (Sum.inl (2, [none, none, some (some 11), some (some 12), some (some 13), some (some 14), some (some 15), some (some 16), some (some 17), some (some 18)]) : zS) = sp := Option.some.inj hk
      intro j hj
      match j, hj with
      | 0, _ => exact (rfl : (zup (zup (zcp (zcp (zcp (zcp (zcp (zcp (zcp (zcp (zcp (zcp (zup (zup (zcp (zcp (zcp (zcp (zcp (zup μ 4 0 (μ 22 0)) 5 23) 6 24) 7 25) 8 26) 9 27) 10 0 (μ 28 0)) 10 1 (μ 28 1)) 11 29) 12 30) 13 31) 14 32) 15 33) 16 34) 17 35) 18 36) 19 37) 20 38) 3 4 (μ 21 4)) 3 5 (μ 21 5)) 10 0 = zcs μ 3 21 10 0)
      | 1, _ => exact (rfl : (zup (zup (zcp (zcp (zcp (zcp (zcp (zcp (zcp (zcp (zcp (zcp (zup (zup (zcp (zcp (zcp (zcp (zcp (zup μ 4 0 (μ 22 0)) 5 23) 6 24) 7 25) 8 26) 9 27) 10 0 (μ 28 0)) 10 1 (μ 28 1)) 11 29) 12 30) 13 31) 14 32) 15 33) 16 34) 17 35) 18 36) 19 37) 20 38) 3 4 (μ 21 4)) 3 5 (μ 21 5)) 10 1 = zcs μ 3 21 10 1)
      | 2, h => exact absurd h (by decide)
      | 3, h => exact absurd h (by decide)
      | 4, h => exact absurd h (by decide)
      | 5, h => exact absurd h (by decide)
      | 6, h => exact absurd h (by decide)
      | 7, h => exact absurd h (by decide)
      | 8, h => exact absurd h (by decide)
      | 9, h => exact absurd h (by decide)
      | j + 10, h => simp at h
    | 8, _ =>
      obtain rfl : (Sum.inr (0, 20) : zS) = sp := Option.some.inj hk
      exact (rfl : (zup (zup (zcp (zcp (zcp (zcp (zcp (zcp (zcp (zcp (zcp (zcp (zup (zup (zcp (zcp (zcp (zcp (zcp (zup μ 4 0 (μ 22 0)) 5 23) 6 24) 7 25) 8 26) 9 27) 10 0 (μ 28 0)) 10 1 (μ 28 1)) 11 29) 12 30) 13 31) 14 32) 15 33) 16 34) 17 35) 18 36) 19 37) 20 38) 3 4 (μ 21 4)) 3 5 (μ 21 5)) 11 = zcs μ 3 21 11)
    | 9, _ =>
      obtain rfl : (Sum.inr (0, 20) : zS) = sp := Option.some.inj hk
      exact (rfl : (zup (zup (zcp (zcp (zcp (zcp (zcp (zcp (zcp (zcp (zcp (zcp (zup (zup (zcp (zcp (zcp (zcp (zcp (zup μ 4 0 (μ 22 0)) 5 23) 6 24) 7 25) 8 26) 9 27) 10 0 (μ 28 0)) 10 1 (μ 28 1)) 11 29) 12 30) 13 31) 14 32) 15 33) 16 34) 17 35) 18 36) 19 37) 20 38) 3 4 (μ 21 4)) 3 5 (μ 21 5)) 12 = zcs μ 3 21 12)
    | 10, _ =>
      obtain rfl : (Sum.inr (0, 20) : zS) = sp := Option.some.inj hk
      exact (rfl : (zup (zup (zcp (zcp (zcp (zcp (zcp (zcp (zcp (zcp (zcp (zcp (zup (zup (zcp (zcp (zcp (zcp (zcp (zup μ 4 0 (μ 22 0)) 5 23) 6 24) 7 25) 8 26) 9 27) 10 0 (μ 28 0)) 10 1 (μ 28 1)) 11 29) 12 30) 13 31) 14 32) 15 33) 16 34) 17 35) 18 36) 19 37) 20 38) 3 4 (μ 21 4)) 3 5 (μ 21 5)) 13 = zcs μ 3 21 13)
    | 11, _ =>
      obtain rfl : (Sum.inr (0, 60) : zS) = sp := Option.some.inj hk
      exact (rfl : (zup (zup (zcp (zcp (zcp (zcp (zcp (zcp (zcp (zcp (zcp (zcp (zup (zup (zcp (zcp (zcp (zcp (zcp (zup μ 4 0 (μ 22 0)) 5 23) 6 24) 7 25) 8 26) 9 27) 10 0 (μ 28 0)) 10 1 (μ 28 1)) 11 29) 12 30) 13 31) 14 32) 15 33) 16 34) 17 35) 18 36) 19 37) 20 38) 3 4 (μ 21 4)) 3 5 (μ 21 5)) 14 = zcs μ 3 21 14)
    | 12, _ =>
      obtain rfl : (Sum.inr (0, 20) : zS) = sp := Option.some.inj hk
      exact (rfl : (zup (zup (zcp (zcp (zcp (zcp (zcp (zcp (zcp (zcp (zcp (zcp (zup (zup (zcp (zcp (zcp (zcp (zcp (zup μ 4 0 (μ 22 0)) 5 23) 6 24) 7 25) 8 26) 9 27) 10 0 (μ 28 0)) 10 1 (μ 28 1)) 11 29) 12 30) 13 31) 14 32) 15 33) 16 34) 17 35) 18 36) 19 37) 20 38) 3 4 (μ 21 4)) 3 5 (μ 21 5)) 15 = zcs μ 3 21 15)
    | 13, _ =>
      obtain rfl : (Sum.inr (0, 20) : zS) = sp := Option.some.inj hk
      exact (rfl : (zup (zup (zcp (zcp (zcp (zcp (zcp (zcp (zcp (zcp (zcp (zcp (zup (zup (zcp (zcp (zcp (zcp (zcp (zup μ 4 0 (μ 22 0)) 5 23) 6 24) 7 25) 8 26) 9 27) 10 0 (μ 28 0)) 10 1 (μ 28 1)) 11 29) 12 30) 13 31) 14 32) 15 33) 16 34) 17 35) 18 36) 19 37) 20 38) 3 4 (μ 21 4)) 3 5 (μ 21 5)) 16 = zcs μ 3 21 16)
    | 14, _ =>
      obtain rfl : (Sum.inr (0, 20) : zS) = sp := Option.some.inj hk
      exact (rfl : (zup (zup (zcp (zcp (zcp (zcp (zcp (zcp (zcp (zcp (zcp (zcp (zup (zup (zcp (zcp (zcp (zcp (zcp (zup μ 4 0 (μ 22 0)) 5 23) 6 24) 7 25) 8 26) 9 27) 10 0 (μ 28 0)) 10 1 (μ 28 1)) 11 29) 12 30) 13 31) 14 32) 15 33) 16 34) 17 35) 18 36) 19 37) 20 38) 3 4 (μ 21 4)) 3 5 (μ 21 5)) 17 = zcs μ 3 21 17)
    | 15, _ =>
      obtain rfl : (Sum.inr (0, 20) : zS) = sp := Option.some.inj hk
      exact (rfl : (zup (zup (zcp (zcp (zcp (zcp (zcp (zcp (zcp (zcp (zcp (zcp (zup (zup (zcp (zcp (zcp (zcp (zcp (zup μ 4 0 (μ 22 0)) 5 23) 6 24) 7 25) 8 26) 9 27) 10 0 (μ 28 0)) 10 1 (μ 28 1)) 11 29) 12 30) 13 31) 14 32) 15 33) 16 34) 17 35) 18 36) 19 37) 20 38) 3 4 (μ 21 4)) 3 5 (μ 21 5)) 18 = zcs μ 3 21 18)
    | 16, _ =>
      obtain rfl : (Sum.inr (0, 10) : zS) = sp := Option.some.inj hk
      exact (rfl : (zup (zup (zcp (zcp (zcp (zcp (zcp (zcp (zcp (zcp (zcp (zcp (zup (zup (zcp (zcp (zcp (zcp (zcp (zup μ 4 0 (μ 22 0)) 5 23) 6 24) 7 25) 8 26) 9 27) 10 0 (μ 28 0)) 10 1 (μ 28 1)) 11 29) 12 30) 13 31) 14 32) 15 33) 16 34) 17 35) 18 36) 19 37) 20 38) 3 4 (μ 21 4)) 3 5 (μ 21 5)) 19 = zcs μ 3 21 19)
    | 17, _ =>
      obtain rfl : (Sum.inr (0, 10) : zS) = sp := Option.some.inj hk
      exact (rfl : (zup (zup (zcp (zcp (zcp (zcp (zcp (zcp (zcp (zcp (zcp (zcp (zup (zup (zcp (zcp (zcp (zcp (zcp (zup μ 4 0 (μ 22 0)) 5 23) 6 24) 7 25) 8 26) 9 27) 10 0 (μ 28 0)) 10 1 (μ 28 1)) 11 29) 12 30) 13 31) 14 32) 15 33) 16 34) 17 35) 18 36) 19 37) 20 38) 3 4 (μ 21 4)) 3 5 (μ 21 5)) 20 = zcs μ 3 21 20)
    | o + 18, h => omega
set_option maxHeartbeats 4000000 in
set_option maxRecDepth 100000 in
theorem xz_copyFrom_3_21 {μ : zM} : Dz md_1_copyFrom [zr 3, zr 21] zSh μ none zSh (zcs μ 3 21) := by
  refine Dz.of (by decide) rfl rfl (show Ez md_1_copyFrom 0 0 0 [(0, zr 3), (1, zr 21)] [] zSh μ none zSh (zcs μ 3 21) from ?_)
  refine Az.blk kd_1_copyFrom_0 (show Ez md_1_copyFrom 0 0 8 [(0, zr 3), (1, zr 21)] [zr 22, zr 4] zSh μ _ _ _ from ?_)
  refine Az.cVN (mc := md_4_copyWordsFrom) (k := 4) (n := 1) (As := [zr 22]) (rest := []) kr_1_copyFrom_8 zw_207 ok_4_copyWordsFrom rfl rfl rfl trivial (xz_copyWordsFrom_4_22) rfl rfl (show Ez md_1_copyFrom 0 0 11 [(0, zr 3), (1, zr 21)] [] zSh (zcp (zcp (zcp (zcp (zcp (zup μ 4 0 (μ 22 0)) 5 23) 6 24) 7 25) 8 26) 9 27) _ _ _ from ?_)
  refine Az.blk kd_1_copyFrom_11 (show Ez md_1_copyFrom 0 0 19 [(0, zr 3), (1, zr 21)] [zr 28, zr 10] zSh (zcp (zcp (zcp (zcp (zcp (zup μ 4 0 (μ 22 0)) 5 23) 6 24) 7 25) 8 26) 9 27) _ _ _ from ?_)
  refine Az.cVN (mc := md_2_copyTaleFrom) (k := 10) (n := 1) (As := [zr 28]) (rest := []) kr_1_copyFrom_19 zw_220 ok_2_copyTaleFrom rfl rfl rfl trivial (xz_copyTaleFrom_10_28) rfl rfl (show Ez md_1_copyFrom 0 0 22 [(0, zr 3), (1, zr 21)] [] zSh (zcp (zcp (zcp (zcp (zcp (zcp (zcp (zcp (zup (zup (zcp (zcp (zcp (zcp (zcp (zup μ 4 0 (μ 22 0)) 5 23) 6 24) 7 25) 8 26) 9 27) 10 0 (μ 28 0)) 10 1 (μ 28 1)) 11 29) 12 30) 13 31) 14 32) 15 33) 16 34) 17 35) 18 36) _ _ _ from ?_)
  refine Az.blk kd_1_copyFrom_22 (show Ez md_1_copyFrom 0 0 30 [(0, zr 3), (1, zr 21)] [zr 19, zr 37] zSh (zcp (zcp (zcp (zcp (zcp (zcp (zcp (zcp (zup (zup (zcp (zcp (zcp (zcp (zcp (zup μ 4 0 (μ 22 0)) 5 23) 6 24) 7 25) 8 26) 9 27) 10 0 (μ 28 0)) 10 1 (μ 28 1)) 11 29) 12 30) 13 31) 14 32) 15 33) 16 34) 17 35) 18 36) _ _ _ from ?_)
  refine Az.cSN (mc := md_5_copyRow) (n := 2) (As := [zr 37, zr 19]) (rest := []) kr_1_copyFrom_30 zw_225 ok_5_copyRow rfl rfl (xz_copyRow 37 19 10 rfl rfl (by decide)) rfl rfl (show Ez md_1_copyFrom 0 0 33 [(0, zr 3), (1, zr 21)] [] zSh (zcp (zcp (zcp (zcp (zcp (zcp (zcp (zcp (zcp (zup (zup (zcp (zcp (zcp (zcp (zcp (zup μ 4 0 (μ 22 0)) 5 23) 6 24) 7 25) 8 26) 9 27) 10 0 (μ 28 0)) 10 1 (μ 28 1)) 11 29) 12 30) 13 31) 14 32) 15 33) 16 34) 17 35) 18 36) 19 37) _ _ _ from ?_)
  refine Az.blk kd_1_copyFrom_33 (show Ez md_1_copyFrom 0 0 41 [(0, zr 3), (1, zr 21)] [zr 20, zr 38] zSh (zcp (zcp (zcp (zcp (zcp (zcp (zcp (zcp (zcp (zup (zup (zcp (zcp (zcp (zcp (zcp (zup μ 4 0 (μ 22 0)) 5 23) 6 24) 7 25) 8 26) 9 27) 10 0 (μ 28 0)) 10 1 (μ 28 1)) 11 29) 12 30) 13 31) 14 32) 15 33) 16 34) 17 35) 18 36) 19 37) _ _ _ from ?_)
  refine Az.cSN (mc := md_5_copyRow) (n := 2) (As := [zr 38, zr 20]) (rest := []) kr_1_copyFrom_41 zw_225 ok_5_copyRow rfl rfl (xz_copyRow 38 20 10 rfl rfl (by decide)) rfl rfl (show Ez md_1_copyFrom 0 0 44 [(0, zr 3), (1, zr 21)] [] zSh (zcp (zcp (zcp (zcp (zcp (zcp (zcp (zcp (zcp (zcp (zup (zup (zcp (zcp (zcp (zcp (zcp (zup μ 4 0 (μ 22 0)) 5 23) 6 24) 7 25) 8 26) 9 27) 10 0 (μ 28 0)) 10 1 (μ 28 1)) 11 29) 12 30) 13 31) 14 32) 15 33) 16 34) 17 35) 18 36) 19 37) 20 38) _ _ _ from ?_)
  refine Az.blk kd_1_copyFrom_44 (show Ez md_1_copyFrom 0 0 60 [(0, zr 3), (1, zr 21)] [] zSh (zup (zup (zcp (zcp (zcp (zcp (zcp (zcp (zcp (zcp (zcp (zcp (zup (zup (zcp (zcp (zcp (zcp (zcp (zup μ 4 0 (μ 22 0)) 5 23) 6 24) 7 25) 8 26) 9 27) 10 0 (μ 28 0)) 10 1 (μ 28 1)) 11 29) 12 30) 13 31) 14 32) 15 33) 16 34) 17 35) 18 36) 19 37) 20 38) 3 4 (μ 21 4)) 3 5 (μ 21 5)) _ _ _ from ?_)
  refine Az.mem (μ' := zcs μ 3 21) (fun G k sp H hk h => by rw [← zsm_cell (zsm_3_21 μ) hk]; exact h) ?_
  exact Ez.vret kr_1_copyFrom_60 rfl (Nat.zero_le _) (Nat.zero_le _) rfl rfl
